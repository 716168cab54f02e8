theorem dX9_isNumber_0 : decode cX9_isNumber 0 = .ok (.iload_n 0, 1) := by decide +kernel
theorem dX9_isNumber_1 : decode cX9_isNumber 1 = .ok (.ifCond .lt 23, 3) := by decide +kernel
theorem dX9_isNumber_4 : decode cX9_isNumber 4 = .ok (.iload_n 0, 1) := by decide +kernel
theorem dX9_isNumber_5 : decode cX9_isNumber 5 = .ok (.bipush 10, 2) := by decide +kernel
theorem dX9_isNumber_7 : decode cX9_isNumber 7 = .ok (.idiv, 1) := by decide +kernel
theorem dX9_isNumber_8 : decode cX9_isNumber 8 = .ok (.iconst 4, 1) := by decide +kernel
theorem dX9_isNumber_9 : decode cX9_isNumber 9 = .ok (.if_icmp .gt 15, 3) := by decide +kernel
theorem dX9_isNumber_12 : decode cX9_isNumber 12 = .ok (.iload_n 0, 1) := by decide +kernel
theorem dX9_isNumber_13 : decode cX9_isNumber 13 = .ok (.bipush 10, 2) := by decide +kernel
theorem dX9_isNumber_15 : decode cX9_isNumber 15 = .ok (.irem, 1) := by decide +kernel
theorem dX9_isNumber_16 : decode cX9_isNumber 16 = .ok (.iconst 4, 1) := by decide +kernel
theorem dX9_isNumber_17 : decode cX9_isNumber 17 = .ok (.if_icmp .gt 7, 3) := by decide +kernel
theorem dX9_isNumber_20 : decode cX9_isNumber 20 = .ok (.iconst 1, 1) := by decide +kernel
theorem dX9_isNumber_21 : decode cX9_isNumber 21 = .ok (.goto 4, 3) := by decide +kernel
theorem dX9_isNumber_24 : decode cX9_isNumber 24 = .ok (.iconst 0, 1) := by decide +kernel
theorem dX9_isNumber_25 : decode cX9_isNumber 25 = .ok (.ireturn, 1) := by decide +kernel
set_option maxRecDepth 100000 in
set_option maxHeartbeats 4000000 in
theorem S_X9_isNumber {ω : WD} {l0 : Int32} {M : Mem} {post : Int32 → Mem → Prop} (h : w_X9_isNumber l0 M post) : MtI ω yX9_isNumber cX9_isNumber 1 (some .boolean) 0 [.int l0] M post := by
  refine MtI.start (ty := .boolean) rfl (by decide +kernel) (own := RX9) rfl (Nat.le_of_ble_eq_true rfl) (fun ρ C R => ?_)
  show G ω ρ M 0 [(0, .int l0)] []
  refine G_iload_n C dX9_isNumber_0 0 rfl ?_
  obtain ⟨h1, h2⟩ := h
  refine G_if_lt (tgt := 24) C dX9_isNumber_1 (by decide) (fun c => ?_) (fun c => ?_)
  · have h := h1 c
    clear h1 h2
    refine G_iconst (v := 0) C dX9_isNumber_24 (by decide) ?_
    exact R 25 _ _ _ dX9_isNumber_25 rfl h
  · have h := h2 c
    clear h1 h2
    refine G_iload_n C dX9_isNumber_4 0 rfl ?_
    refine G_bipush (v := 10) C dX9_isNumber_5 (by decide) ?_
    refine G_idiv C dX9_isNumber_7 (by decide) ?_
    refine G_iconst (v := 4) C dX9_isNumber_8 (by decide) ?_
    obtain ⟨h1, h2⟩ := h
    refine G_icmp_gt (tgt := 24) C dX9_isNumber_9 (by decide) (fun c => ?_) (fun c => ?_)
    · have h := h1 c
      clear h1 h2
      refine G_iconst (v := 0) C dX9_isNumber_24 (by decide) ?_
      exact R 25 _ _ _ dX9_isNumber_25 rfl h
    · have h := h2 c
      clear h1 h2
      refine G_iload_n C dX9_isNumber_12 0 rfl ?_
      refine G_bipush (v := 10) C dX9_isNumber_13 (by decide) ?_
      refine G_irem C dX9_isNumber_15 (by decide) ?_
      refine G_iconst (v := 4) C dX9_isNumber_16 (by decide) ?_
      obtain ⟨h1, h2⟩ := h
      refine G_icmp_gt (tgt := 24) C dX9_isNumber_17 (by decide) (fun c => ?_) (fun c => ?_)
      · have h := h1 c
        clear h1 h2
        refine G_iconst (v := 0) C dX9_isNumber_24 (by decide) ?_
        exact R 25 _ _ _ dX9_isNumber_25 rfl h
      · have h := h2 c
        clear h1 h2
        refine G_iconst (v := 1) C dX9_isNumber_20 (by decide) ?_
        refine G_goto (tgt := 25) C dX9_isNumber_21 (by decide) ?_
        exact R 25 _ _ _ dX9_isNumber_25 rfl h
theorem dX9_isDialled_0 : decode cX9_isDialled 0 = .ok (.iload_n 0, 1) := by decide +kernel
theorem dX9_isDialled_1 : decode cX9_isDialled 1 = .ok (.bipush 99, 2) := by decide +kernel
theorem dX9_isDialled_3 : decode cX9_isDialled 3 = .ok (.if_icmp .eq 10, 3) := by decide +kernel
theorem dX9_isDialled_6 : decode cX9_isDialled 6 = .ok (.iload_n 0, 1) := by decide +kernel
theorem dX9_isDialled_7 : decode cX9_isDialled 7 = .ok (.invokestatic 193, 3) := by decide +kernel
theorem dX9_isDialled_10 : decode cX9_isDialled 10 = .ok (.ifCond .eq 7, 3) := by decide +kernel
theorem dX9_isDialled_13 : decode cX9_isDialled 13 = .ok (.iconst 1, 1) := by decide +kernel
theorem dX9_isDialled_14 : decode cX9_isDialled 14 = .ok (.goto 4, 3) := by decide +kernel
theorem dX9_isDialled_17 : decode cX9_isDialled 17 = .ok (.iconst 0, 1) := by decide +kernel
theorem dX9_isDialled_18 : decode cX9_isDialled 18 = .ok (.ireturn, 1) := by decide +kernel
theorem lk_X9_193 : LkS RX9 193 yX9_isNumber cX9_isNumber 1 (some .boolean) 1 := LkS.of 579 536 61 537 (by decide +kernel) (by decide +kernel) (by decide +kernel) (by decide +kernel) (by decide +kernel)
set_option maxRecDepth 100000 in
set_option maxHeartbeats 4000000 in
theorem s_X9_isDialled_J13 {ω : WD} {ρ : FR} {post : Int32 → Mem → Prop} (C : Cx ω ρ cX9_isDialled RX9 1 1) (R : RtI ω ρ cX9_isDialled .boolean post) {M : Mem} (h : w_X9_isDialled_J13 post M) : G ω ρ M 13 [] [] := by
  refine G_iconst (v := 1) C dX9_isDialled_13 (by decide) ?_
  refine G_goto (tgt := 18) C dX9_isDialled_14 (by decide) ?_
  exact R 18 _ _ _ dX9_isDialled_18 rfl h
set_option maxRecDepth 100000 in
set_option maxHeartbeats 4000000 in
theorem S_X9_isDialled {ω : WD} {l0 : Int32} {M : Mem} {post : Int32 → Mem → Prop} (h : w_X9_isDialled l0 M post) : MtI ω yX9_isDialled cX9_isDialled 1 (some .boolean) 1 [.int l0] M post := by
  refine MtI.start (ty := .boolean) rfl (by decide +kernel) (own := RX9) rfl (Nat.le_of_ble_eq_true rfl) (fun ρ C R => ?_)
  show G ω ρ M 0 [(0, .int l0)] []
  refine G_iload_n C dX9_isDialled_0 0 rfl ?_
  refine G_bipush (v := 99) C dX9_isDialled_1 (by decide) ?_
  obtain ⟨h1, h2⟩ := h
  refine G_icmp_eq (tgt := 13) C dX9_isDialled_3 (by decide) (fun c => ?_) (fun c => ?_)
  · have h := h1 c
    clear h1 h2
    refine G_sub [] (lv' := []) rfl ?_
    exact s_X9_isDialled_J13 C R  h
  · have h := h2 c
    clear h1 h2
    refine G_iload_n C dX9_isDialled_6 0 rfl ?_
    refine G_scallI (As := [.int l0]) (rest := []) C dX9_isDialled_7 lk_X9_193 (Nat.le_of_ble_eq_true rfl) (Nat.le_of_ble_eq_true rfl) (Nat.le_of_ble_eq_true rfl) rfl (S_X9_isNumber h) (fun r2 M1 h => ?_)
    obtain ⟨h1, h2⟩ := h
    refine G_if_eq (tgt := 17) C dX9_isDialled_10 (by decide) (fun c => ?_) (fun c => ?_)
    · have h := h1 c
      clear h1 h2
      refine G_iconst (v := 0) C dX9_isDialled_17 (by decide) ?_
      exact R 18 _ _ _ dX9_isDialled_18 rfl h
    · have h := h2 c
      clear h1 h2
      refine G_sub [] (lv' := []) rfl ?_
      exact s_X9_isDialled_J13 C R  h
theorem dX4_begin_0 : decode cX4_begin 0 = .ok (.aload_n 0, 1) := by decide +kernel
theorem dX4_begin_1 : decode cX4_begin 1 = .ok (.getfield 12, 3) := by decide +kernel
theorem dX4_begin_4 : decode cX4_begin 4 = .ok (.invokevirtual 72, 3) := by decide +kernel
theorem dX4_begin_7 : decode cX4_begin 7 = .ok (.aload_n 0, 1) := by decide +kernel
theorem dX4_begin_8 : decode cX4_begin 8 = .ok (.getfield 21, 3) := by decide +kernel
theorem dX4_begin_11 : decode cX4_begin 11 = .ok (.invokevirtual 75, 3) := by decide +kernel
theorem dX4_begin_14 : decode cX4_begin 14 = .ok (.aload_n 0, 1) := by decide +kernel
theorem dX4_begin_15 : decode cX4_begin 15 = .ok (.getfield 28, 3) := by decide +kernel
theorem dX4_begin_18 : decode cX4_begin 18 = .ok (.invokevirtual 78, 3) := by decide +kernel
theorem dX4_begin_21 : decode cX4_begin 21 = .ok (.aload_n 0, 1) := by decide +kernel
theorem dX4_begin_22 : decode cX4_begin 22 = .ok (.iconst 0, 1) := by decide +kernel
theorem dX4_begin_23 : decode cX4_begin 23 = .ok (.putfield 32, 3) := by decide +kernel
theorem dX4_begin_26 : decode cX4_begin 26 = .ok (.aload_n 0, 1) := by decide +kernel
theorem dX4_begin_27 : decode cX4_begin 27 = .ok (.iconst 0, 1) := by decide +kernel
theorem dX4_begin_28 : decode cX4_begin 28 = .ok (.putfield 36, 3) := by decide +kernel
theorem dX4_begin_31 : decode cX4_begin 31 = .ok (.aload_n 0, 1) := by decide +kernel
theorem dX4_begin_32 : decode cX4_begin 32 = .ok (.iconst 0, 1) := by decide +kernel
theorem dX4_begin_33 : decode cX4_begin 33 = .ok (.putfield 39, 3) := by decide +kernel
theorem dX4_begin_36 : decode cX4_begin 36 = .ok (.aload_n 0, 1) := by decide +kernel
theorem dX4_begin_37 : decode cX4_begin 37 = .ok (.iconst 0, 1) := by decide +kernel
theorem dX4_begin_38 : decode cX4_begin 38 = .ok (.putfield 42, 3) := by decide +kernel
theorem dX4_begin_41 : decode cX4_begin 41 = .ok (.aload_n 0, 1) := by decide +kernel
theorem dX4_begin_42 : decode cX4_begin 42 = .ok (.iconst 0, 1) := by decide +kernel
theorem dX4_begin_43 : decode cX4_begin 43 = .ok (.putfield 46, 3) := by decide +kernel
theorem dX4_begin_46 : decode cX4_begin 46 = .ok (.aload_n 0, 1) := by decide +kernel
theorem dX4_begin_47 : decode cX4_begin 47 = .ok (.iconst 0, 1) := by decide +kernel
theorem dX4_begin_48 : decode cX4_begin 48 = .ok (.putfield 49, 3) := by decide +kernel
theorem dX4_begin_51 : decode cX4_begin 51 = .ok (.return_, 1) := by decide +kernel
theorem gf_X4_12 {ω : WD} {ρ : FR} {M : Mem} {cc : ByteArray} {d n pc : Nat} {lv : List (Nat × Value)} {rest : List Value} (C : Cx ω ρ cc RX4 d n) (hd : decode cc pc = .ok (.getfield 12, 3)) (k : G ω ρ M (pc + 3) lv (.ref (adr ω 51) :: rest)) : G ω ρ M pc lv (.ref (adr ω 50) :: rest) := G_get (N := 9) (T := TX4) (C := RX4) (q := 0) C (q50 : isK 4 50) (by decide) rfl in_X4 (by decide) (tb_of 295 ⟨by decide +kernel, rfl⟩) rfl rfl hd k
theorem lk_X4_72 : LkV RX4 72 RX7 yX7_rewind cX7_rewind 1 none 0 := LkV.of 426 427 428 68 429 (by decide +kernel) (by decide +kernel) (by decide +kernel) (by decide +kernel) (by decide +kernel) (by decide +kernel)
theorem gf_X4_21 {ω : WD} {ρ : FR} {M : Mem} {cc : ByteArray} {d n pc : Nat} {lv : List (Nat × Value)} {rest : List Value} (C : Cx ω ρ cc RX4 d n) (hd : decode cc pc = .ok (.getfield 21, 3)) (k : G ω ρ M (pc + 3) lv (.ref (adr ω 53) :: rest)) : G ω ρ M pc lv (.ref (adr ω 50) :: rest) := G_get (N := 9) (T := TX4) (C := RX4) (q := 1) C (q50 : isK 4 50) (by decide) rfl in_X4 (by decide) (tb_of 297 ⟨by decide +kernel, rfl⟩) rfl rfl hd k
theorem lk_X4_75 : LkV RX4 75 RX1 yX1_clear cX1_clear 2 none 0 := LkV.of 430 431 432 62 433 (by decide +kernel) (by decide +kernel) (by decide +kernel) (by decide +kernel) (by decide +kernel) (by decide +kernel)
theorem gf_X4_28 {ω : WD} {ρ : FR} {M : Mem} {cc : ByteArray} {d n pc : Nat} {lv : List (Nat × Value)} {rest : List Value} (C : Cx ω ρ cc RX4 d n) (hd : decode cc pc = .ok (.getfield 28, 3)) (k : G ω ρ M (pc + 3) lv (.ref (adr ω 69) :: rest)) : G ω ρ M pc lv (.ref (adr ω 50) :: rest) := G_get (N := 9) (T := TX4) (C := RX4) (q := 2) C (q50 : isK 4 50) (by decide) rfl in_X4 (by decide) (tb_of 299 ⟨by decide +kernel, rfl⟩) rfl rfl hd k
theorem lk_X4_78 : LkV RX4 78 RX5 yX5_clear cX5_clear 1 none 0 := LkV.of 438 439 440 64 441 (by decide +kernel) (by decide +kernel) (by decide +kernel) (by decide +kernel) (by decide +kernel) (by decide +kernel)
theorem pf_X4_32 {ω : WD} {ρ : FR} {M : Mem} {cc : ByteArray} {d n pc : Nat} {lv : List (Nat × Value)} {rest : List Value} {v : Int32} (C : Cx ω ρ cc RX4 d n) (hd : decode cc pc = .ok (.putfield 32, 3)) (k : ∀ M1, M1 = wr M 50 3 v → G ω ρ M1 (pc + 3) lv rest) : G ω ρ M pc lv (.int v :: .ref (adr ω 50) :: rest) := G_put (N := 9) (T := TX4) (C := RX4) (q := 3) (ty := .int) C (q50 : isK 4 50) (by decide) rfl in_X4 tyX4 tyX4_ok nmX4 (by decide) (tb_of 301 ⟨by decide +kernel, rfl⟩) rfl rfl (by decide +kernel) rfl rfl (fun _ _ => Nat.le_of_ble_eq_true rfl) (fun _ => rfl) hd (k _ rfl)
theorem pf_X4_36 {ω : WD} {ρ : FR} {M : Mem} {cc : ByteArray} {d n pc : Nat} {lv : List (Nat × Value)} {rest : List Value} {v : Int32} (C : Cx ω ρ cc RX4 d n) (hd : decode cc pc = .ok (.putfield 36, 3)) (k : ∀ M1, M1 = wr M 50 4 v → G ω ρ M1 (pc + 3) lv rest) : G ω ρ M pc lv (.int v :: .ref (adr ω 50) :: rest) := G_put (N := 9) (T := TX4) (C := RX4) (q := 4) (ty := .int) C (q50 : isK 4 50) (by decide) rfl in_X4 tyX4 tyX4_ok nmX4 (by decide) (tb_of 303 ⟨by decide +kernel, rfl⟩) rfl rfl (by decide +kernel) rfl rfl (fun _ _ => Nat.le_of_ble_eq_true rfl) (fun _ => rfl) hd (k _ rfl)
theorem pf_X4_39 {ω : WD} {ρ : FR} {M : Mem} {cc : ByteArray} {d n pc : Nat} {lv : List (Nat × Value)} {rest : List Value} {v : Int32} (C : Cx ω ρ cc RX4 d n) (hd : decode cc pc = .ok (.putfield 39, 3)) (k : ∀ M1, M1 = wr M 50 5 v → G ω ρ M1 (pc + 3) lv rest) : G ω ρ M pc lv (.int v :: .ref (adr ω 50) :: rest) := G_put (N := 9) (T := TX4) (C := RX4) (q := 5) (ty := .int) C (q50 : isK 4 50) (by decide) rfl in_X4 tyX4 tyX4_ok nmX4 (by decide) (tb_of 305 ⟨by decide +kernel, rfl⟩) rfl rfl (by decide +kernel) rfl rfl (fun _ _ => Nat.le_of_ble_eq_true rfl) (fun _ => rfl) hd (k _ rfl)
theorem pf_X4_42 {ω : WD} {ρ : FR} {M : Mem} {cc : ByteArray} {d n pc : Nat} {lv : List (Nat × Value)} {rest : List Value} {v : Int32} (C : Cx ω ρ cc RX4 d n) (hz : zb v) (hd : decode cc pc = .ok (.putfield 42, 3)) (k : ∀ M1, M1 = wr M 50 6 v → G ω ρ M1 (pc + 3) lv rest) : G ω ρ M pc lv (.int v :: .ref (adr ω 50) :: rest) := G_put (N := 9) (T := TX4) (C := RX4) (q := 6) (ty := .boolean) C (q50 : isK 4 50) (by decide) rfl in_X4 tyX4 tyX4_ok nmX4 (by decide) (tb_of 307 ⟨by decide +kernel, rfl⟩) rfl rfl (by decide +kernel) hz.1 hz.2 (fun _ _ => Nat.le_of_ble_eq_true rfl) (fun _ => rfl) hd (k _ rfl)
theorem pf_X4_46 {ω : WD} {ρ : FR} {M : Mem} {cc : ByteArray} {d n pc : Nat} {lv : List (Nat × Value)} {rest : List Value} {v : Int32} (C : Cx ω ρ cc RX4 d n) (hz : zb v) (hd : decode cc pc = .ok (.putfield 46, 3)) (k : ∀ M1, M1 = wr M 50 7 v → G ω ρ M1 (pc + 3) lv rest) : G ω ρ M pc lv (.int v :: .ref (adr ω 50) :: rest) := G_put (N := 9) (T := TX4) (C := RX4) (q := 7) (ty := .boolean) C (q50 : isK 4 50) (by decide) rfl in_X4 tyX4 tyX4_ok nmX4 (by decide) (tb_of 308 ⟨by decide +kernel, rfl⟩) rfl rfl (by decide +kernel) hz.1 hz.2 (fun _ _ => Nat.le_of_ble_eq_true rfl) (fun _ => rfl) hd (k _ rfl)
theorem pf_X4_49 {ω : WD} {ρ : FR} {M : Mem} {cc : ByteArray} {d n pc : Nat} {lv : List (Nat × Value)} {rest : List Value} {v : Int32} (C : Cx ω ρ cc RX4 d n) (hd : decode cc pc = .ok (.putfield 49, 3)) (k : ∀ M1, M1 = wr M 50 8 v → G ω ρ M1 (pc + 3) lv rest) : G ω ρ M pc lv (.int v :: .ref (adr ω 50) :: rest) := G_put (N := 9) (T := TX4) (C := RX4) (q := 8) (ty := .int) C (q50 : isK 4 50) (by decide) rfl in_X4 tyX4 tyX4_ok nmX4 (by decide) (tb_of 309 ⟨by decide +kernel, rfl⟩) rfl rfl (by decide +kernel) rfl rfl (fun _ _ => Nat.le_of_ble_eq_true rfl) (fun _ => rfl) hd (k _ rfl)
set_option maxRecDepth 100000 in
set_option maxHeartbeats 4000000 in
theorem S_X4_begin {ω : WD} {M : Mem} {post : Mem → Prop} (h : w_X4_begin M post) : MtV ω yX4_begin cX4_begin 1 none 2 [.ref (adr ω 50)] M post := by
  refine MtV.start rfl (by decide +kernel) (own := RX4) rfl (Nat.le_of_ble_eq_true rfl) (fun ρ C R => ?_)
  show G ω ρ M 0 [(0, .ref (adr ω 50))] []
  refine G_aload_n C dX4_begin_0 0 rfl ?_
  refine gf_X4_12 C dX4_begin_1 ?_
  refine G_callV (As := []) (rest := []) C dX4_begin_4 lk_X4_72 (Nat.le_of_ble_eq_true rfl) (Nat.le_of_ble_eq_true rfl) q51 (by decide) rfl (Nat.le_of_ble_eq_true rfl) rfl (S_X7_rewind h) (fun M1 h => ?_)
  refine G_aload_n C dX4_begin_7 0 rfl ?_
  refine gf_X4_21 C dX4_begin_8 ?_
  refine G_callV (As := []) (rest := []) C dX4_begin_11 lk_X4_75 (Nat.le_of_ble_eq_true rfl) (Nat.le_of_ble_eq_true rfl) q53 (by decide) rfl (Nat.le_of_ble_eq_true rfl) rfl (S_X1_clear q53 h) (fun M2 h => ?_)
  refine G_aload_n C dX4_begin_14 0 rfl ?_
  refine gf_X4_28 C dX4_begin_15 ?_
  refine G_callV (As := []) (rest := []) C dX4_begin_18 lk_X4_78 (Nat.le_of_ble_eq_true rfl) (Nat.le_of_ble_eq_true rfl) q69 (by decide) rfl (Nat.le_of_ble_eq_true rfl) rfl (S_X5_clear q69 h) (fun M3 h => ?_)
  refine G_aload_n C dX4_begin_21 0 rfl ?_
  refine G_iconst (v := 0) C dX4_begin_22 (by decide) ?_
  refine pf_X4_32 C dX4_begin_23 (fun M4 eM4 => ?_)
  replace h := h M4 eM4
  refine G_aload_n C dX4_begin_26 0 rfl ?_
  refine G_iconst (v := 0) C dX4_begin_27 (by decide) ?_
  refine pf_X4_36 C dX4_begin_28 (fun M5 eM5 => ?_)
  replace h := h M5 eM5
  refine G_aload_n C dX4_begin_31 0 rfl ?_
  refine G_iconst (v := 0) C dX4_begin_32 (by decide) ?_
  refine pf_X4_39 C dX4_begin_33 (fun M6 eM6 => ?_)
  replace h := h M6 eM6
  refine G_aload_n C dX4_begin_36 0 rfl ?_
  refine G_iconst (v := 0) C dX4_begin_37 (by decide) ?_
  refine pf_X4_42 C zb_0 dX4_begin_38 (fun M7 eM7 => ?_)
  replace h := h M7 eM7
  refine G_aload_n C dX4_begin_41 0 rfl ?_
  refine G_iconst (v := 0) C dX4_begin_42 (by decide) ?_
  refine pf_X4_46 C zb_0 dX4_begin_43 (fun M8 eM8 => ?_)
  replace h := h M8 eM8
  refine G_aload_n C dX4_begin_46 0 rfl ?_
  refine G_iconst (v := 0) C dX4_begin_47 (by decide) ?_
  refine pf_X4_49 C dX4_begin_48 (fun M9 eM9 => ?_)
  replace h := h M9 eM9
  exact R 51 _ _ dX4_begin_51 h
theorem dX4_wrong_0 : decode cX4_wrong 0 = .ok (.aload_n 0, 1) := by decide +kernel
theorem dX4_wrong_1 : decode cX4_wrong 1 = .ok (.iload_n 1, 1) := by decide +kernel
theorem dX4_wrong_2 : decode cX4_wrong 2 = .ok (.putfield 36, 3) := by decide +kernel
theorem dX4_wrong_5 : decode cX4_wrong 5 = .ok (.aload_n 0, 1) := by decide +kernel
theorem dX4_wrong_6 : decode cX4_wrong 6 = .ok (.aload_n 0, 1) := by decide +kernel
theorem dX4_wrong_7 : decode cX4_wrong 7 = .ok (.getfield 12, 3) := by decide +kernel
theorem dX4_wrong_10 : decode cX4_wrong 10 = .ok (.getfield 79, 3) := by decide +kernel
theorem dX4_wrong_13 : decode cX4_wrong 13 = .ok (.putfield 39, 3) := by decide +kernel
theorem dX4_wrong_16 : decode cX4_wrong 16 = .ok (.iconst 0, 1) := by decide +kernel
theorem dX4_wrong_17 : decode cX4_wrong 17 = .ok (.ireturn, 1) := by decide +kernel
theorem gf_X4_79 {ω : WD} {ρ : FR} {M : Mem} {cc : ByteArray} {d n pc : Nat} {lv : List (Nat × Value)} {rest : List Value} (C : Cx ω ρ cc RX4 d n) (hd : decode cc pc = .ok (.getfield 79, 3)) (k : G ω ρ M (pc + 3) lv (.int (rd M 51 3) :: rest)) : G ω ρ M pc lv (.ref (adr ω 51) :: rest) := G_get (N := 6) (T := TX7) (C := RX7) (q := 3) C (q51 : isK 7 51) (by decide) rfl in_X7 (by decide) (tb_of 274 ⟨by decide +kernel, rfl⟩) rfl rfl hd k
set_option maxRecDepth 100000 in
set_option maxHeartbeats 4000000 in
theorem S_X4_wrong {ω : WD} {l1 : Int32} {M : Mem} {post : Int32 → Mem → Prop} (h : w_X4_wrong l1 M post) : MtI ω yX4_wrong cX4_wrong 2 (some .boolean) 0 [.ref (adr ω 50), .int l1] M post := by
  refine MtI.start (ty := .boolean) rfl (by decide +kernel) (own := RX4) rfl (Nat.le_of_ble_eq_true rfl) (fun ρ C R => ?_)
  show G ω ρ M 0 [(0, .ref (adr ω 50)), (1, .int l1)] []
  refine G_aload_n C dX4_wrong_0 0 rfl ?_
  refine G_iload_n C dX4_wrong_1 1 rfl ?_
  refine pf_X4_36 C dX4_wrong_2 (fun M1 eM1 => ?_)
  replace h := h M1 eM1
  refine G_aload_n C dX4_wrong_5 0 rfl ?_
  refine G_aload_n C dX4_wrong_6 0 rfl ?_
  refine gf_X4_12 C dX4_wrong_7 ?_
  refine gf_X4_79 C dX4_wrong_10 ?_
  refine pf_X4_39 C dX4_wrong_13 (fun M2 eM2 => ?_)
  replace h := h M2 eM2
  refine G_iconst (v := 0) C dX4_wrong_16 (by decide) ?_
  exact R 17 _ _ _ dX4_wrong_17 rfl h
theorem dX4_hasAllOnes_0 : decode cX4_hasAllOnes 0 = .ok (.iconst 0, 1) := by decide +kernel
theorem dX4_hasAllOnes_1 : decode cX4_hasAllOnes 1 = .ok (.istore_n 1, 1) := by decide +kernel
theorem dX4_hasAllOnes_2 : decode cX4_hasAllOnes 2 = .ok (.iload_n 1, 1) := by decide +kernel
theorem dX4_hasAllOnes_3 : decode cX4_hasAllOnes 3 = .ok (.aload_n 0, 1) := by decide +kernel
theorem dX4_hasAllOnes_4 : decode cX4_hasAllOnes 4 = .ok (.getfield 28, 3) := by decide +kernel
theorem dX4_hasAllOnes_7 : decode cX4_hasAllOnes 7 = .ok (.getfield 151, 3) := by decide +kernel
theorem dX4_hasAllOnes_10 : decode cX4_hasAllOnes 10 = .ok (.if_icmp .ge 35, 3) := by decide +kernel
theorem dX4_hasAllOnes_13 : decode cX4_hasAllOnes 13 = .ok (.aload_n 0, 1) := by decide +kernel
theorem dX4_hasAllOnes_14 : decode cX4_hasAllOnes 14 = .ok (.getfield 21, 3) := by decide +kernel
theorem dX4_hasAllOnes_17 : decode cX4_hasAllOnes 17 = .ok (.aload_n 0, 1) := by decide +kernel
theorem dX4_hasAllOnes_18 : decode cX4_hasAllOnes 18 = .ok (.getfield 28, 3) := by decide +kernel
theorem dX4_hasAllOnes_21 : decode cX4_hasAllOnes 21 = .ok (.getfield 161, 3) := by decide +kernel
theorem dX4_hasAllOnes_24 : decode cX4_hasAllOnes 24 = .ok (.iload_n 1, 1) := by decide +kernel
theorem dX4_hasAllOnes_25 : decode cX4_hasAllOnes 25 = .ok (.iaload, 1) := by decide +kernel
theorem dX4_hasAllOnes_26 : decode cX4_hasAllOnes 26 = .ok (.invokevirtual 165, 3) := by decide +kernel
theorem dX4_hasAllOnes_29 : decode cX4_hasAllOnes 29 = .ok (.ifCond .ne 10, 3) := by decide +kernel
theorem dX4_hasAllOnes_32 : decode cX4_hasAllOnes 32 = .ok (.aload_n 0, 1) := by decide +kernel
theorem dX4_hasAllOnes_33 : decode cX4_hasAllOnes 33 = .ok (.bipush 6, 2) := by decide +kernel
theorem dX4_hasAllOnes_35 : decode cX4_hasAllOnes 35 = .ok (.invokevirtual 68, 3) := by decide +kernel
theorem dX4_hasAllOnes_38 : decode cX4_hasAllOnes 38 = .ok (.ireturn, 1) := by decide +kernel
theorem dX4_hasAllOnes_39 : decode cX4_hasAllOnes 39 = .ok (.iinc 1 1, 3) := by decide +kernel
theorem dX4_hasAllOnes_42 : decode cX4_hasAllOnes 42 = .ok (.goto (-40), 3) := by decide +kernel
theorem dX4_hasAllOnes_45 : decode cX4_hasAllOnes 45 = .ok (.iconst 1, 1) := by decide +kernel
theorem dX4_hasAllOnes_46 : decode cX4_hasAllOnes 46 = .ok (.ireturn, 1) := by decide +kernel
theorem gf_X4_151 {ω : WD} {ρ : FR} {M : Mem} {cc : ByteArray} {d n pc i : Nat} {lv : List (Nat × Value)} {rest : List Value} (C : Cx ω ρ cc RX4 d n) (hk : isK 5 i) (hd : decode cc pc = .ok (.getfield 151, 3)) (k : G ω ρ M (pc + 3) lv (.int (rd M i 0) :: rest)) : G ω ρ M pc lv (.ref (adr ω i) :: rest) := G_get (N := 6) (T := TX5) (C := RX5) (q := 0) C hk (by decide) rfl in_X5 (by decide) (tb_of 177 ⟨by decide +kernel, rfl⟩) rfl rfl hd k
theorem gf_X4_161 {ω : WD} {ρ : FR} {M : Mem} {cc : ByteArray} {d n pc i : Nat} {lv : List (Nat × Value)} {rest : List Value} (C : Cx ω ρ cc RX4 d n) (hk : isK 5 i) (hd : decode cc pc = .ok (.getfield 161, 3)) (k : G ω ρ M (pc + 3) lv (.ref (adr ω (i + 1)) :: rest)) : G ω ρ M pc lv (.ref (adr ω i) :: rest) := G_get (N := 6) (T := TX5) (C := RX5) (q := 2) C hk (by decide) rfl in_X5 (by decide) (tb_of 184 ⟨by decide +kernel, rfl⟩) rfl rfl hd k
theorem lk_X4_165 : LkV RX4 165 RX1 yX1_has cX1_has 2 (some .boolean) 1 := LkV.of 458 459 460 62 461 (by decide +kernel) (by decide +kernel) (by decide +kernel) (by decide +kernel) (by decide +kernel) (by decide +kernel)
theorem lk_X4_68 : LkV RX4 68 RX4 yX4_wrong cX4_wrong 2 (some .boolean) 1 := LkV.of 462 463 464 67 465 (by decide +kernel) (by decide +kernel) (by decide +kernel) (by decide +kernel) (by decide +kernel) (by decide +kernel)
set_option maxRecDepth 100000 in
set_option maxHeartbeats 4000000 in
theorem s_X4_hasAllOnes_L2 {ω : WD} {ρ : FR} {post : Int32 → Mem → Prop} (C : Cx ω ρ cX4_hasAllOnes RX4 1 2) (R : RtI ω ρ cX4_hasAllOnes .boolean post) : ∀ (f : Nat) (l1 : Int32) (M : Mem), w_X4_hasAllOnes_L2 post f l1 M → G ω ρ M 2 [(0, .ref (adr ω 50)), (1, .int l1)] [] := by
  intro f
  induction f with
  | zero => intro l1 M h; exact False.elim h
  | succ f k2 =>
    intro l1 M h
    refine G_iload_n C dX4_hasAllOnes_2 1 rfl ?_
    refine G_aload_n C dX4_hasAllOnes_3 0 rfl ?_
    refine gf_X4_28 C dX4_hasAllOnes_4 ?_
    refine gf_X4_151 C q69 dX4_hasAllOnes_7 ?_
    obtain ⟨h1, h2⟩ := h
    refine G_icmp_ge (tgt := 45) C dX4_hasAllOnes_10 (by decide) (fun c => ?_) (fun c => ?_)
    · have h := h1 c
      clear h1 h2
      refine G_iconst (v := 1) C dX4_hasAllOnes_45 (by decide) ?_
      exact R 46 _ _ _ dX4_hasAllOnes_46 rfl h
    · have h := h2 c
      clear h1 h2
      refine G_aload_n C dX4_hasAllOnes_13 0 rfl ?_
      refine gf_X4_21 C dX4_hasAllOnes_14 ?_
      refine G_aload_n C dX4_hasAllOnes_17 0 rfl ?_
      refine gf_X4_28 C dX4_hasAllOnes_18 ?_
      refine gf_X4_161 C q69 dX4_hasAllOnes_21 ?_
      refine G_iload_n C dX4_hasAllOnes_24 1 rfl ?_
      obtain ⟨hi, h⟩ := h
      refine G_iald C q70 hi rfl dX4_hasAllOnes_25 ?_
      refine G_callI (As := [.int (rd M 70 l1.toNatClampNeg)]) (rest := []) C dX4_hasAllOnes_26 lk_X4_165 (Nat.le_of_ble_eq_true rfl) (Nat.le_of_ble_eq_true rfl) q53 (by decide) rfl (Nat.le_of_ble_eq_true rfl) rfl (S_X1_has q53 h) (fun r2 M1 h => ?_)
      obtain ⟨h1, h2⟩ := h
      refine G_if_ne (tgt := 39) C dX4_hasAllOnes_29 (by decide) (fun c => ?_) (fun c => ?_)
      · have h := h1 c
        clear h1 h2
        obtain ⟨v3, ev3⟩ : ∃ y : Int32, y = (l1 + 1) := ⟨_, rfl⟩
        replace h := h v3 ev3
        refine G_iinc C dX4_hasAllOnes_39 1 rfl (v := v3) (by rw [ev3]; rfl) (by decide) (lv' := [(1, .int v3), (0, .ref (adr ω 50))]) rfl ?_
        refine G_goto (tgt := 2) C dX4_hasAllOnes_42 (by decide) ?_
        refine G_sub [1, 0] (lv' := [(0, .ref (adr ω 50)), (1, .int v3)]) rfl ?_
        exact k2 _ _ h
      · have h := h2 c
        clear h1 h2
        refine G_aload_n C dX4_hasAllOnes_32 0 rfl ?_
        refine G_bipush (v := 6) C dX4_hasAllOnes_33 (by decide) ?_
        refine G_callI (As := [.int 6]) (rest := []) C dX4_hasAllOnes_35 lk_X4_68 (Nat.le_of_ble_eq_true rfl) (Nat.le_of_ble_eq_true rfl) q50 (by decide) rfl (Nat.le_of_ble_eq_true rfl) rfl (S_X4_wrong h) (fun r5 M4 h => ?_)
        exact R 38 _ _ _ dX4_hasAllOnes_38 h.1.1 h.2
set_option maxRecDepth 100000 in
set_option maxHeartbeats 4000000 in
theorem S_X4_hasAllOnes {ω : WD} {M : Mem} {post : Int32 → Mem → Prop} (h : w_X4_hasAllOnes M post) : MtI ω yX4_hasAllOnes cX4_hasAllOnes 2 (some .boolean) 1 [.ref (adr ω 50)] M post := by
  refine MtI.start (ty := .boolean) rfl (by decide +kernel) (own := RX4) rfl (Nat.le_of_ble_eq_true rfl) (fun ρ C R => ?_)
  show G ω ρ M 0 [(0, .ref (adr ω 50))] []
  refine G_iconst (v := 0) C dX4_hasAllOnes_0 (by decide) ?_
  refine G_istore_n C dX4_hasAllOnes_1 (by decide) (lv' := [(1, .int 0), (0, .ref (adr ω 50))]) rfl ?_
  refine G_sub [1, 0] (lv' := [(0, .ref (adr ω 50)), (1, .int 0)]) rfl ?_
  obtain ⟨f, h⟩ := h
  exact s_X4_hasAllOnes_L2 C R  f _ _ h
theorem dX4_stands_0 : decode cX4_stands 0 = .ok (.aload_n 0, 1) := by decide +kernel
theorem dX4_stands_1 : decode cX4_stands 1 = .ok (.getfield 12, 3) := by decide +kernel
theorem dX4_stands_4 : decode cX4_stands 4 = .ok (.getfield 58, 3) := by decide +kernel
theorem dX4_stands_7 : decode cX4_stands 7 = .ok (.iconst 4, 1) := by decide +kernel
theorem dX4_stands_8 : decode cX4_stands 8 = .ok (.if_icmp .ne 9, 3) := by decide +kernel
theorem dX4_stands_11 : decode cX4_stands 11 = .ok (.aload_n 0, 1) := by decide +kernel
theorem dX4_stands_12 : decode cX4_stands 12 = .ok (.iconst 1, 1) := by decide +kernel
theorem dX4_stands_13 : decode cX4_stands 13 = .ok (.invokevirtual 68, 3) := by decide +kernel
theorem dX4_stands_16 : decode cX4_stands 16 = .ok (.ireturn, 1) := by decide +kernel
theorem dX4_stands_17 : decode cX4_stands 17 = .ok (.aload_n 0, 1) := by decide +kernel
theorem dX4_stands_18 : decode cX4_stands 18 = .ok (.getfield 12, 3) := by decide +kernel
theorem dX4_stands_21 : decode cX4_stands 21 = .ok (.getfield 58, 3) := by decide +kernel
theorem dX4_stands_24 : decode cX4_stands 24 = .ok (.iload_n 1, 1) := by decide +kernel
theorem dX4_stands_25 : decode cX4_stands 25 = .ok (.if_icmp .eq 11, 3) := by decide +kernel
theorem dX4_stands_28 : decode cX4_stands 28 = .ok (.aload_n 0, 1) := by decide +kernel
theorem dX4_stands_29 : decode cX4_stands 29 = .ok (.iconst 2, 1) := by decide +kernel
theorem dX4_stands_30 : decode cX4_stands 30 = .ok (.invokevirtual 68, 3) := by decide +kernel
theorem dX4_stands_33 : decode cX4_stands 33 = .ok (.ifCond .eq 7, 3) := by decide +kernel
theorem dX4_stands_36 : decode cX4_stands 36 = .ok (.iconst 1, 1) := by decide +kernel
theorem dX4_stands_37 : decode cX4_stands 37 = .ok (.goto 4, 3) := by decide +kernel
theorem dX4_stands_40 : decode cX4_stands 40 = .ok (.iconst 0, 1) := by decide +kernel
theorem dX4_stands_41 : decode cX4_stands 41 = .ok (.ireturn, 1) := by decide +kernel
theorem gf_X4_58 {ω : WD} {ρ : FR} {M : Mem} {cc : ByteArray} {d n pc : Nat} {lv : List (Nat × Value)} {rest : List Value} (C : Cx ω ρ cc RX4 d n) (hd : decode cc pc = .ok (.getfield 58, 3)) (k : G ω ρ M (pc + 3) lv (.int (rd M 51 2) :: rest)) : G ω ρ M pc lv (.ref (adr ω 51) :: rest) := G_get (N := 6) (T := TX7) (C := RX7) (q := 2) C (q51 : isK 7 51) (by decide) rfl in_X7 (by decide) (tb_of 272 ⟨by decide +kernel, rfl⟩) rfl rfl hd k
set_option maxRecDepth 100000 in
set_option maxHeartbeats 4000000 in
theorem s_X4_stands_J36 {ω : WD} {ρ : FR} {post : Int32 → Mem → Prop} (C : Cx ω ρ cX4_stands RX4 1 2) (R : RtI ω ρ cX4_stands .boolean post) {M : Mem} (h : w_X4_stands_J36 post M) : G ω ρ M 36 [] [] := by
  refine G_iconst (v := 1) C dX4_stands_36 (by decide) ?_
  refine G_goto (tgt := 41) C dX4_stands_37 (by decide) ?_
  exact R 41 _ _ _ dX4_stands_41 rfl h
set_option maxRecDepth 100000 in
set_option maxHeartbeats 4000000 in
theorem S_X4_stands {ω : WD} {l1 : Int32} {M : Mem} {post : Int32 → Mem → Prop} (h : w_X4_stands l1 M post) : MtI ω yX4_stands cX4_stands 2 (some .boolean) 1 [.ref (adr ω 50), .int l1] M post := by
  refine MtI.start (ty := .boolean) rfl (by decide +kernel) (own := RX4) rfl (Nat.le_of_ble_eq_true rfl) (fun ρ C R => ?_)
  show G ω ρ M 0 [(0, .ref (adr ω 50)), (1, .int l1)] []
  refine G_aload_n C dX4_stands_0 0 rfl ?_
  refine gf_X4_12 C dX4_stands_1 ?_
  refine gf_X4_58 C dX4_stands_4 ?_
  refine G_iconst (v := 4) C dX4_stands_7 (by decide) ?_
  obtain ⟨h1, h2⟩ := h
  refine G_icmp_ne (tgt := 17) C dX4_stands_8 (by decide) (fun c => ?_) (fun c => ?_)
  · have h := h1 c
    clear h1 h2
    refine G_aload_n C dX4_stands_17 0 rfl ?_
    refine gf_X4_12 C dX4_stands_18 ?_
    refine gf_X4_58 C dX4_stands_21 ?_
    refine G_iload_n C dX4_stands_24 1 rfl ?_
    obtain ⟨h1, h2⟩ := h
    refine G_icmp_eq (tgt := 36) C dX4_stands_25 (by decide) (fun c => ?_) (fun c => ?_)
    · have h := h1 c
      clear h1 h2
      refine G_sub [] (lv' := []) rfl ?_
      exact s_X4_stands_J36 C R  h
    · have h := h2 c
      clear h1 h2
      refine G_aload_n C dX4_stands_28 0 rfl ?_
      refine G_iconst (v := 2) C dX4_stands_29 (by decide) ?_
      refine G_callI (As := [.int 2]) (rest := []) C dX4_stands_30 lk_X4_68 (Nat.le_of_ble_eq_true rfl) (Nat.le_of_ble_eq_true rfl) q50 (by decide) rfl (Nat.le_of_ble_eq_true rfl) rfl (S_X4_wrong h) (fun r2 M1 h => ?_)
      obtain ⟨h1, h2⟩ := h
      refine G_if_eq (tgt := 40) C dX4_stands_33 (by decide) (fun c => ?_) (fun c => ?_)
      · have h := h1 c
        clear h1 h2
        refine G_iconst (v := 0) C dX4_stands_40 (by decide) ?_
        exact R 41 _ _ _ dX4_stands_41 rfl h
      · have h := h2 c
        clear h1 h2
        refine G_sub [] (lv' := []) rfl ?_
        exact s_X4_stands_J36 C R  h
  · have h := h2 c
    clear h1 h2
    refine G_aload_n C dX4_stands_11 0 rfl ?_
    refine G_iconst (v := 1) C dX4_stands_12 (by decide) ?_
    refine G_callI (As := [.int 1]) (rest := []) C dX4_stands_13 lk_X4_68 (Nat.le_of_ble_eq_true rfl) (Nat.le_of_ble_eq_true rfl) q50 (by decide) rfl (Nat.le_of_ble_eq_true rfl) rfl (S_X4_wrong h) (fun r4 M3 h => ?_)
    exact R 16 _ _ _ dX4_stands_16 h.1.1 h.2
theorem dX4_takes_0 : decode cX4_takes 0 = .ok (.aload_n 0, 1) := by decide +kernel
theorem dX4_takes_1 : decode cX4_takes 1 = .ok (.getfield 12, 3) := by decide +kernel
theorem dX4_takes_4 : decode cX4_takes 4 = .ok (.invokevirtual 55, 3) := by decide +kernel
theorem dX4_takes_7 : decode cX4_takes 7 = .ok (.aload_n 0, 1) := by decide +kernel
theorem dX4_takes_8 : decode cX4_takes 8 = .ok (.iload_n 1, 1) := by decide +kernel
theorem dX4_takes_9 : decode cX4_takes 9 = .ok (.invokevirtual 80, 3) := by decide +kernel
theorem dX4_takes_12 : decode cX4_takes 12 = .ok (.ireturn, 1) := by decide +kernel
theorem lk_X4_55 : LkV RX4 55 RX7 yX7_next cX7_next 1 none 0 := LkV.of 442 443 444 68 445 (by decide +kernel) (by decide +kernel) (by decide +kernel) (by decide +kernel) (by decide +kernel) (by decide +kernel)
theorem lk_X4_80 : LkV RX4 80 RX4 yX4_stands cX4_stands 2 (some .boolean) 1 := LkV.of 470 471 472 67 473 (by decide +kernel) (by decide +kernel) (by decide +kernel) (by decide +kernel) (by decide +kernel) (by decide +kernel)
set_option maxRecDepth 100000 in
set_option maxHeartbeats 4000000 in
theorem S_X4_takes {ω : WD} {l1 : Int32} {M : Mem} {post : Int32 → Mem → Prop} (h : w_X4_takes l1 M post) : MtI ω yX4_takes cX4_takes 2 (some .boolean) 2 [.ref (adr ω 50), .int l1] M post := by
  refine MtI.start (ty := .boolean) rfl (by decide +kernel) (own := RX4) rfl (Nat.le_of_ble_eq_true rfl) (fun ρ C R => ?_)
  show G ω ρ M 0 [(0, .ref (adr ω 50)), (1, .int l1)] []
  refine G_aload_n C dX4_takes_0 0 rfl ?_
  refine gf_X4_12 C dX4_takes_1 ?_
  refine G_callV (As := []) (rest := []) C dX4_takes_4 lk_X4_55 (Nat.le_of_ble_eq_true rfl) (Nat.le_of_ble_eq_true rfl) q51 (by decide) rfl (Nat.le_of_ble_eq_true rfl) rfl (S_X7_next h) (fun M1 h => ?_)
  refine G_aload_n C dX4_takes_7 0 rfl ?_
  refine G_iload_n C dX4_takes_8 1 rfl ?_
  refine G_callI (As := [.int l1]) (rest := []) C dX4_takes_9 lk_X4_80 (Nat.le_of_ble_eq_true rfl) (Nat.le_of_ble_eq_true rfl) q50 (by decide) rfl (Nat.le_of_ble_eq_true rfl) rfl (S_X4_stands h) (fun r3 M2 h => ?_)
  exact R 12 _ _ _ dX4_takes_12 h.1.1 h.2
theorem dX4_readOne_0 : decode cX4_readOne 0 = .ok (.aload_n 0, 1) := by decide +kernel
theorem dX4_readOne_1 : decode cX4_readOne 1 = .ok (.getfield 21, 3) := by decide +kernel
theorem dX4_readOne_4 : decode cX4_readOne 4 = .ok (.getfield 116, 3) := by decide +kernel
theorem dX4_readOne_7 : decode cX4_readOne 7 = .ok (.bipush 6, 2) := by decide +kernel
theorem dX4_readOne_9 : decode cX4_readOne 9 = .ok (.if_icmp .lt 9, 3) := by decide +kernel
theorem dX4_readOne_12 : decode cX4_readOne 12 = .ok (.aload_n 0, 1) := by decide +kernel
theorem dX4_readOne_13 : decode cX4_readOne 13 = .ok (.iconst 5, 1) := by decide +kernel
theorem dX4_readOne_14 : decode cX4_readOne 14 = .ok (.invokevirtual 68, 3) := by decide +kernel
theorem dX4_readOne_17 : decode cX4_readOne 17 = .ok (.ireturn, 1) := by decide +kernel
theorem dX4_readOne_18 : decode cX4_readOne 18 = .ok (.aload_n 0, 1) := by decide +kernel
theorem dX4_readOne_19 : decode cX4_readOne 19 = .ok (.iconst 2, 1) := by decide +kernel
theorem dX4_readOne_20 : decode cX4_readOne 20 = .ok (.invokevirtual 119, 3) := by decide +kernel
theorem dX4_readOne_23 : decode cX4_readOne 23 = .ok (.ifCond .ne 5, 3) := by decide +kernel
theorem dX4_readOne_26 : decode cX4_readOne 26 = .ok (.iconst 0, 1) := by decide +kernel
theorem dX4_readOne_27 : decode cX4_readOne 27 = .ok (.ireturn, 1) := by decide +kernel
theorem dX4_readOne_28 : decode cX4_readOne 28 = .ok (.aload_n 0, 1) := by decide +kernel
theorem dX4_readOne_29 : decode cX4_readOne 29 = .ok (.getfield 12, 3) := by decide +kernel
theorem dX4_readOne_32 : decode cX4_readOne 32 = .ok (.getfield 83, 3) := by decide +kernel
theorem dX4_readOne_35 : decode cX4_readOne 35 = .ok (.invokestatic 122, 3) := by decide +kernel
theorem dX4_readOne_38 : decode cX4_readOne 38 = .ok (.ifCond .ne 9, 3) := by decide +kernel
theorem dX4_readOne_41 : decode cX4_readOne 41 = .ok (.aload_n 0, 1) := by decide +kernel
theorem dX4_readOne_42 : decode cX4_readOne 42 = .ok (.iconst 3, 1) := by decide +kernel
theorem dX4_readOne_43 : decode cX4_readOne 43 = .ok (.invokevirtual 68, 3) := by decide +kernel
theorem dX4_readOne_46 : decode cX4_readOne 46 = .ok (.ireturn, 1) := by decide +kernel
theorem dX4_readOne_47 : decode cX4_readOne 47 = .ok (.aload_n 0, 1) := by decide +kernel
theorem dX4_readOne_48 : decode cX4_readOne 48 = .ok (.getfield 21, 3) := by decide +kernel
theorem dX4_readOne_51 : decode cX4_readOne 51 = .ok (.aload_n 0, 1) := by decide +kernel
theorem dX4_readOne_52 : decode cX4_readOne 52 = .ok (.getfield 12, 3) := by decide +kernel
theorem dX4_readOne_55 : decode cX4_readOne 55 = .ok (.getfield 83, 3) := by decide +kernel
theorem dX4_readOne_58 : decode cX4_readOne 58 = .ok (.invokevirtual 125, 3) := by decide +kernel
theorem dX4_readOne_61 : decode cX4_readOne 61 = .ok (.bipush (-4), 2) := by decide +kernel
theorem dX4_readOne_63 : decode cX4_readOne 63 = .ok (.if_icmp .eq 9, 3) := by decide +kernel
theorem dX4_readOne_66 : decode cX4_readOne 66 = .ok (.aload_n 0, 1) := by decide +kernel
theorem dX4_readOne_67 : decode cX4_readOne 67 = .ok (.iconst 4, 1) := by decide +kernel
theorem dX4_readOne_68 : decode cX4_readOne 68 = .ok (.invokevirtual 68, 3) := by decide +kernel
theorem dX4_readOne_71 : decode cX4_readOne 71 = .ok (.ireturn, 1) := by decide +kernel
theorem dX4_readOne_72 : decode cX4_readOne 72 = .ok (.aload_n 0, 1) := by decide +kernel
theorem dX4_readOne_73 : decode cX4_readOne 73 = .ok (.getfield 21, 3) := by decide +kernel
theorem dX4_readOne_76 : decode cX4_readOne 76 = .ok (.aload_n 0, 1) := by decide +kernel
theorem dX4_readOne_77 : decode cX4_readOne 77 = .ok (.getfield 12, 3) := by decide +kernel
theorem dX4_readOne_80 : decode cX4_readOne 80 = .ok (.getfield 83, 3) := by decide +kernel
theorem dX4_readOne_83 : decode cX4_readOne 83 = .ok (.invokevirtual 129, 3) := by decide +kernel
theorem dX4_readOne_86 : decode cX4_readOne 86 = .ok (.aload_n 0, 1) := by decide +kernel
theorem dX4_readOne_87 : decode cX4_readOne 87 = .ok (.iconst 3, 1) := by decide +kernel
theorem dX4_readOne_88 : decode cX4_readOne 88 = .ok (.invokevirtual 119, 3) := by decide +kernel
theorem dX4_readOne_91 : decode cX4_readOne 91 = .ok (.ireturn, 1) := by decide +kernel
theorem gf_X4_116 {ω : WD} {ρ : FR} {M : Mem} {cc : ByteArray} {d n pc i : Nat} {lv : List (Nat × Value)} {rest : List Value} (C : Cx ω ρ cc RX4 d n) (hk : isK 1 i) (hd : decode cc pc = .ok (.getfield 116, 3)) (k : G ω ρ M (pc + 3) lv (.int (rd M i 0) :: rest)) : G ω ρ M pc lv (.ref (adr ω i) :: rest) := G_get (N := 8) (T := TX1) (C := RX1) (q := 0) C hk (by decide) rfl in_X1 (by decide) (tb_of 133 ⟨by decide +kernel, rfl⟩) rfl rfl hd k
theorem lk_X4_119 : LkV RX4 119 RX4 yX4_takes cX4_takes 2 (some .boolean) 1 := LkV.of 531 532 533 67 534 (by decide +kernel) (by decide +kernel) (by decide +kernel) (by decide +kernel) (by decide +kernel) (by decide +kernel)
theorem gf_X4_83 {ω : WD} {ρ : FR} {M : Mem} {cc : ByteArray} {d n pc : Nat} {lv : List (Nat × Value)} {rest : List Value} (C : Cx ω ρ cc RX4 d n) (hd : decode cc pc = .ok (.getfield 83, 3)) (k : G ω ρ M (pc + 3) lv (.int (rd M 51 5) :: rest)) : G ω ρ M pc lv (.ref (adr ω 51) :: rest) := G_get (N := 6) (T := TX7) (C := RX7) (q := 5) C (q51 : isK 7 51) (by decide) rfl in_X7 (by decide) (tb_of 277 ⟨by decide +kernel, rfl⟩) rfl rfl hd k
theorem lk_X4_125 : LkV RX4 125 RX1 yX1_owner cX1_owner 3 (some .int) 1 := LkV.of 538 539 540 62 541 (by decide +kernel) (by decide +kernel) (by decide +kernel) (by decide +kernel) (by decide +kernel) (by decide +kernel)
theorem lk_X4_129 : LkV RX4 129 RX1 yX1_addOne cX1_addOne 2 none 1 := LkV.of 542 543 544 62 545 (by decide +kernel) (by decide +kernel) (by decide +kernel) (by decide +kernel) (by decide +kernel) (by decide +kernel)
set_option maxRecDepth 100000 in
set_option maxHeartbeats 4000000 in
theorem S_X4_readOne {ω : WD} {M : Mem} {post : Int32 → Mem → Prop} (h : w_X4_readOne M post) : MtI ω yX4_readOne cX4_readOne 1 (some .boolean) 3 [.ref (adr ω 50)] M post := by
  refine MtI.start (ty := .boolean) rfl (by decide +kernel) (own := RX4) rfl (Nat.le_of_ble_eq_true rfl) (fun ρ C R => ?_)
  show G ω ρ M 0 [(0, .ref (adr ω 50))] []
  refine G_aload_n C dX4_readOne_0 0 rfl ?_
  refine gf_X4_21 C dX4_readOne_1 ?_
  refine gf_X4_116 C q53 dX4_readOne_4 ?_
  refine G_bipush (v := 6) C dX4_readOne_7 (by decide) ?_
  obtain ⟨h1, h2⟩ := h
  refine G_icmp_lt (tgt := 18) C dX4_readOne_9 (by decide) (fun c => ?_) (fun c => ?_)
  · have h := h1 c
    clear h1 h2
    refine G_aload_n C dX4_readOne_18 0 rfl ?_
    refine G_iconst (v := 2) C dX4_readOne_19 (by decide) ?_
    refine G_callI (As := [.int 2]) (rest := []) C dX4_readOne_20 lk_X4_119 (Nat.le_of_ble_eq_true rfl) (Nat.le_of_ble_eq_true rfl) q50 (by decide) rfl (Nat.le_of_ble_eq_true rfl) rfl (S_X4_takes h) (fun r2 M1 h => ?_)
    obtain ⟨h1, h2⟩ := h
    refine G_if_ne (tgt := 28) C dX4_readOne_23 (by decide) (fun c => ?_) (fun c => ?_)
    · have h := h1 c
      clear h1 h2
      refine G_aload_n C dX4_readOne_28 0 rfl ?_
      refine gf_X4_12 C dX4_readOne_29 ?_
      refine gf_X4_83 C dX4_readOne_32 ?_
      refine G_nscallI (host := "StepCalls") (kn := 1) C dX4_readOne_35 (va_Nw.of rfl C.2.2.2.2.2.2.2.2.2.1.1) 536 61 537 (by decide +kernel) (by decide +kernel) (by decide +kernel) (by decide +kernel) (As := [.int (rd M1 51 5)]) (rest := []) rfl (Nat.le_of_ble_eq_true rfl) (Nat.le_of_ble_eq_true rfl) (Nat.le_of_ble_eq_true rfl) rfl (S_X9_isNumber h) (fun r4 M3 h => ?_)
      obtain ⟨h1, h2⟩ := h
      refine G_if_ne (tgt := 47) C dX4_readOne_38 (by decide) (fun c => ?_) (fun c => ?_)
      · have h := h1 c
        clear h1 h2
        refine G_aload_n C dX4_readOne_47 0 rfl ?_
        refine gf_X4_21 C dX4_readOne_48 ?_
        refine G_aload_n C dX4_readOne_51 0 rfl ?_
        refine gf_X4_12 C dX4_readOne_52 ?_
        refine gf_X4_83 C dX4_readOne_55 ?_
        refine G_callI (As := [.int (rd M3 51 5)]) (rest := []) C dX4_readOne_58 lk_X4_125 (Nat.le_of_ble_eq_true rfl) (Nat.le_of_ble_eq_true rfl) q53 (by decide) rfl (Nat.le_of_ble_eq_true rfl) rfl (S_X1_owner q53 h) (fun r6 M5 h => ?_)
        refine G_bipush (v := (-4)) C dX4_readOne_61 (by decide) ?_
        obtain ⟨h1, h2⟩ := h
        refine G_icmp_eq (tgt := 72) C dX4_readOne_63 (by decide) (fun c => ?_) (fun c => ?_)
        · have h := h1 c
          clear h1 h2
          refine G_aload_n C dX4_readOne_72 0 rfl ?_
          refine gf_X4_21 C dX4_readOne_73 ?_
          refine G_aload_n C dX4_readOne_76 0 rfl ?_
          refine gf_X4_12 C dX4_readOne_77 ?_
          refine gf_X4_83 C dX4_readOne_80 ?_
          refine G_callV (As := [.int (rd M5 51 5)]) (rest := []) C dX4_readOne_83 lk_X4_129 (Nat.le_of_ble_eq_true rfl) (Nat.le_of_ble_eq_true rfl) q53 (by decide) rfl (Nat.le_of_ble_eq_true rfl) rfl (S_X1_addOne q53 h) (fun M7 h => ?_)
          refine G_aload_n C dX4_readOne_86 0 rfl ?_
          refine G_iconst (v := 3) C dX4_readOne_87 (by decide) ?_
          refine G_callI (As := [.int 3]) (rest := []) C dX4_readOne_88 lk_X4_119 (Nat.le_of_ble_eq_true rfl) (Nat.le_of_ble_eq_true rfl) q50 (by decide) rfl (Nat.le_of_ble_eq_true rfl) rfl (S_X4_takes h) (fun r9 M8 h => ?_)
          exact R 91 _ _ _ dX4_readOne_91 h.1.1 h.2
        · have h := h2 c
          clear h1 h2
          refine G_aload_n C dX4_readOne_66 0 rfl ?_
          refine G_iconst (v := 4) C dX4_readOne_67 (by decide) ?_
          refine G_callI (As := [.int 4]) (rest := []) C dX4_readOne_68 lk_X4_68 (Nat.le_of_ble_eq_true rfl) (Nat.le_of_ble_eq_true rfl) q50 (by decide) rfl (Nat.le_of_ble_eq_true rfl) rfl (S_X4_wrong h) (fun r11 M10 h => ?_)
          exact R 71 _ _ _ dX4_readOne_71 h.1.1 h.2
      · have h := h2 c
        clear h1 h2
        refine G_aload_n C dX4_readOne_41 0 rfl ?_
        refine G_iconst (v := 3) C dX4_readOne_42 (by decide) ?_
        refine G_callI (As := [.int 3]) (rest := []) C dX4_readOne_43 lk_X4_68 (Nat.le_of_ble_eq_true rfl) (Nat.le_of_ble_eq_true rfl) q50 (by decide) rfl (Nat.le_of_ble_eq_true rfl) rfl (S_X4_wrong h) (fun r13 M12 h => ?_)
        exact R 46 _ _ _ dX4_readOne_46 h.1.1 h.2
    · have h := h2 c
      clear h1 h2
      refine G_iconst (v := 0) C dX4_readOne_26 (by decide) ?_
      exact R 27 _ _ _ dX4_readOne_27 rfl h
  · have h := h2 c
    clear h1 h2
    refine G_aload_n C dX4_readOne_12 0 rfl ?_
    refine G_iconst (v := 5) C dX4_readOne_13 (by decide) ?_
    refine G_callI (As := [.int 5]) (rest := []) C dX4_readOne_14 lk_X4_68 (Nat.le_of_ble_eq_true rfl) (Nat.le_of_ble_eq_true rfl) q50 (by decide) rfl (Nat.le_of_ble_eq_true rfl) rfl (S_X4_wrong h) (fun r15 M14 h => ?_)
    exact R 17 _ _ _ dX4_readOne_17 h.1.1 h.2
theorem dX4_takesNumber_0 : decode cX4_takesNumber 0 = .ok (.aload_n 0, 1) := by decide +kernel
theorem dX4_takesNumber_1 : decode cX4_takesNumber 1 = .ok (.getfield 12, 3) := by decide +kernel
theorem dX4_takesNumber_4 : decode cX4_takesNumber 4 = .ok (.invokevirtual 55, 3) := by decide +kernel
theorem dX4_takesNumber_7 : decode cX4_takesNumber 7 = .ok (.aload_n 0, 1) := by decide +kernel
theorem dX4_takesNumber_8 : decode cX4_takesNumber 8 = .ok (.iconst 2, 1) := by decide +kernel
theorem dX4_takesNumber_9 : decode cX4_takesNumber 9 = .ok (.invokevirtual 80, 3) := by decide +kernel
theorem dX4_takesNumber_12 : decode cX4_takesNumber 12 = .ok (.ifCond .ne 5, 3) := by decide +kernel
theorem dX4_takesNumber_15 : decode cX4_takesNumber 15 = .ok (.iconst 0, 1) := by decide +kernel
theorem dX4_takesNumber_16 : decode cX4_takesNumber 16 = .ok (.ireturn, 1) := by decide +kernel
theorem dX4_takesNumber_17 : decode cX4_takesNumber 17 = .ok (.aload_n 0, 1) := by decide +kernel
theorem dX4_takesNumber_18 : decode cX4_takesNumber 18 = .ok (.getfield 12, 3) := by decide +kernel
theorem dX4_takesNumber_21 : decode cX4_takesNumber 21 = .ok (.getfield 83, 3) := by decide +kernel
theorem dX4_takesNumber_24 : decode cX4_takesNumber 24 = .ok (.iload_n 1, 1) := by decide +kernel
theorem dX4_takesNumber_25 : decode cX4_takesNumber 25 = .ok (.if_icmp .lt 14, 3) := by decide +kernel
theorem dX4_takesNumber_28 : decode cX4_takesNumber 28 = .ok (.aload_n 0, 1) := by decide +kernel
theorem dX4_takesNumber_29 : decode cX4_takesNumber 29 = .ok (.getfield 12, 3) := by decide +kernel
theorem dX4_takesNumber_32 : decode cX4_takesNumber 32 = .ok (.getfield 83, 3) := by decide +kernel
theorem dX4_takesNumber_35 : decode cX4_takesNumber 35 = .ok (.iload_n 2, 1) := by decide +kernel
theorem dX4_takesNumber_36 : decode cX4_takesNumber 36 = .ok (.if_icmp .le 11, 3) := by decide +kernel
theorem dX4_takesNumber_39 : decode cX4_takesNumber 39 = .ok (.aload_n 0, 1) := by decide +kernel
theorem dX4_takesNumber_40 : decode cX4_takesNumber 40 = .ok (.iconst 3, 1) := by decide +kernel
theorem dX4_takesNumber_41 : decode cX4_takesNumber 41 = .ok (.invokevirtual 68, 3) := by decide +kernel
theorem dX4_takesNumber_44 : decode cX4_takesNumber 44 = .ok (.ifCond .eq 7, 3) := by decide +kernel
theorem dX4_takesNumber_47 : decode cX4_takesNumber 47 = .ok (.iconst 1, 1) := by decide +kernel
theorem dX4_takesNumber_48 : decode cX4_takesNumber 48 = .ok (.goto 4, 3) := by decide +kernel
theorem dX4_takesNumber_51 : decode cX4_takesNumber 51 = .ok (.iconst 0, 1) := by decide +kernel
theorem dX4_takesNumber_52 : decode cX4_takesNumber 52 = .ok (.ireturn, 1) := by decide +kernel
set_option maxRecDepth 100000 in
set_option maxHeartbeats 4000000 in
theorem s_X4_takesNumber_J47 {ω : WD} {ρ : FR} {post : Int32 → Mem → Prop} (C : Cx ω ρ cX4_takesNumber RX4 2 3) (R : RtI ω ρ cX4_takesNumber .boolean post) {M : Mem} (h : w_X4_takesNumber_J47 post M) : G ω ρ M 47 [] [] := by
  refine G_iconst (v := 1) C dX4_takesNumber_47 (by decide) ?_
  refine G_goto (tgt := 52) C dX4_takesNumber_48 (by decide) ?_
  exact R 52 _ _ _ dX4_takesNumber_52 rfl h
set_option maxRecDepth 100000 in
set_option maxHeartbeats 4000000 in
theorem s_X4_takesNumber_J39 {ω : WD} {ρ : FR} {post : Int32 → Mem → Prop} (C : Cx ω ρ cX4_takesNumber RX4 2 3) (R : RtI ω ρ cX4_takesNumber .boolean post) {M : Mem} (h : w_X4_takesNumber_J39 post M) : G ω ρ M 39 [(0, .ref (adr ω 50))] [] := by
  refine G_aload_n C dX4_takesNumber_39 0 rfl ?_
  refine G_iconst (v := 3) C dX4_takesNumber_40 (by decide) ?_
  refine G_callI (As := [.int 3]) (rest := []) C dX4_takesNumber_41 lk_X4_68 (Nat.le_of_ble_eq_true rfl) (Nat.le_of_ble_eq_true rfl) q50 (by decide) rfl (Nat.le_of_ble_eq_true rfl) rfl (S_X4_wrong h) (fun r2 M1 h => ?_)
  obtain ⟨h1, h2⟩ := h
  refine G_if_eq (tgt := 51) C dX4_takesNumber_44 (by decide) (fun c => ?_) (fun c => ?_)
  · have h := h1 c
    clear h1 h2
    refine G_iconst (v := 0) C dX4_takesNumber_51 (by decide) ?_
    exact R 52 _ _ _ dX4_takesNumber_52 rfl h
  · have h := h2 c
    clear h1 h2
    refine G_sub [] (lv' := []) rfl ?_
    exact s_X4_takesNumber_J47 C R  h
set_option maxRecDepth 100000 in
set_option maxHeartbeats 4000000 in
theorem S_X4_takesNumber {ω : WD} {l1 : Int32} {l2 : Int32} {M : Mem} {post : Int32 → Mem → Prop} (h : w_X4_takesNumber l1 l2 M post) : MtI ω yX4_takesNumber cX4_takesNumber 3 (some .boolean) 2 [.ref (adr ω 50), .int l1, .int l2] M post := by
  refine MtI.start (ty := .boolean) rfl (by decide +kernel) (own := RX4) rfl (Nat.le_of_ble_eq_true rfl) (fun ρ C R => ?_)
  show G ω ρ M 0 [(0, .ref (adr ω 50)), (1, .int l1), (2, .int l2)] []
  refine G_aload_n C dX4_takesNumber_0 0 rfl ?_
  refine gf_X4_12 C dX4_takesNumber_1 ?_
  refine G_callV (As := []) (rest := []) C dX4_takesNumber_4 lk_X4_55 (Nat.le_of_ble_eq_true rfl) (Nat.le_of_ble_eq_true rfl) q51 (by decide) rfl (Nat.le_of_ble_eq_true rfl) rfl (S_X7_next h) (fun M3 h => ?_)
  refine G_aload_n C dX4_takesNumber_7 0 rfl ?_
  refine G_iconst (v := 2) C dX4_takesNumber_8 (by decide) ?_
  refine G_callI (As := [.int 2]) (rest := []) C dX4_takesNumber_9 lk_X4_80 (Nat.le_of_ble_eq_true rfl) (Nat.le_of_ble_eq_true rfl) q50 (by decide) rfl (Nat.le_of_ble_eq_true rfl) rfl (S_X4_stands h) (fun r5 M4 h => ?_)
  obtain ⟨h1, h2⟩ := h
  refine G_if_ne (tgt := 17) C dX4_takesNumber_12 (by decide) (fun c => ?_) (fun c => ?_)
  · have h := h1 c
    clear h1 h2
    refine G_aload_n C dX4_takesNumber_17 0 rfl ?_
    refine gf_X4_12 C dX4_takesNumber_18 ?_
    refine gf_X4_83 C dX4_takesNumber_21 ?_
    refine G_iload_n C dX4_takesNumber_24 1 rfl ?_
    obtain ⟨h1, h2⟩ := h
    refine G_icmp_lt (tgt := 39) C dX4_takesNumber_25 (by decide) (fun c => ?_) (fun c => ?_)
    · have h := h1 c
      clear h1 h2
      refine G_sub [0] (lv' := [(0, .ref (adr ω 50))]) rfl ?_
      exact s_X4_takesNumber_J39 C R  h
    · have h := h2 c
      clear h1 h2
      refine G_aload_n C dX4_takesNumber_28 0 rfl ?_
      refine gf_X4_12 C dX4_takesNumber_29 ?_
      refine gf_X4_83 C dX4_takesNumber_32 ?_
      refine G_iload_n C dX4_takesNumber_35 2 rfl ?_
      obtain ⟨h1, h2⟩ := h
      refine G_icmp_le (tgt := 47) C dX4_takesNumber_36 (by decide) (fun c => ?_) (fun c => ?_)
      · have h := h1 c
        clear h1 h2
        refine G_sub [] (lv' := []) rfl ?_
        exact s_X4_takesNumber_J47 C R  h
      · have h := h2 c
        clear h1 h2
        refine G_sub [0] (lv' := [(0, .ref (adr ω 50))]) rfl ?_
        exact s_X4_takesNumber_J39 C R  h
  · have h := h2 c
    clear h1 h2
    refine G_iconst (v := 0) C dX4_takesNumber_15 (by decide) ?_
    exact R 16 _ _ _ dX4_takesNumber_16 rfl h
theorem dX4_readFinders_0 : decode cX4_readFinders 0 = .ok (.aload_n 0, 1) := by decide +kernel
theorem dX4_readFinders_1 : decode cX4_readFinders 1 = .ok (.getfield 42, 3) := by decide +kernel
theorem dX4_readFinders_4 : decode cX4_readFinders 4 = .ok (.ifCond .eq 9, 3) := by decide +kernel
theorem dX4_readFinders_7 : decode cX4_readFinders 7 = .ok (.aload_n 0, 1) := by decide +kernel
theorem dX4_readFinders_8 : decode cX4_readFinders 8 = .ok (.iconst 4, 1) := by decide +kernel
theorem dX4_readFinders_9 : decode cX4_readFinders 9 = .ok (.invokevirtual 68, 3) := by decide +kernel
theorem dX4_readFinders_12 : decode cX4_readFinders 12 = .ok (.ireturn, 1) := by decide +kernel
theorem dX4_readFinders_13 : decode cX4_readFinders 13 = .ok (.aload_n 0, 1) := by decide +kernel
theorem dX4_readFinders_14 : decode cX4_readFinders 14 = .ok (.iconst 1, 1) := by decide +kernel
theorem dX4_readFinders_15 : decode cX4_readFinders 15 = .ok (.putfield 42, 3) := by decide +kernel
theorem dX4_readFinders_18 : decode cX4_readFinders 18 = .ok (.aload_n 0, 1) := by decide +kernel
theorem dX4_readFinders_19 : decode cX4_readFinders 19 = .ok (.iconst 1, 1) := by decide +kernel
theorem dX4_readFinders_20 : decode cX4_readFinders 20 = .ok (.bipush 6, 2) := by decide +kernel
theorem dX4_readFinders_22 : decode cX4_readFinders 22 = .ok (.invokevirtual 133, 3) := by decide +kernel
theorem dX4_readFinders_25 : decode cX4_readFinders 25 = .ok (.ifCond .ne 5, 3) := by decide +kernel
theorem dX4_readFinders_28 : decode cX4_readFinders 28 = .ok (.iconst 0, 1) := by decide +kernel
theorem dX4_readFinders_29 : decode cX4_readFinders 29 = .ok (.ireturn, 1) := by decide +kernel
theorem dX4_readFinders_30 : decode cX4_readFinders 30 = .ok (.aload_n 0, 1) := by decide +kernel
theorem dX4_readFinders_31 : decode cX4_readFinders 31 = .ok (.getfield 21, 3) := by decide +kernel
theorem dX4_readFinders_34 : decode cX4_readFinders 34 = .ok (.aload_n 0, 1) := by decide +kernel
theorem dX4_readFinders_35 : decode cX4_readFinders 35 = .ok (.getfield 12, 3) := by decide +kernel
theorem dX4_readFinders_38 : decode cX4_readFinders 38 = .ok (.getfield 83, 3) := by decide +kernel
theorem dX4_readFinders_41 : decode cX4_readFinders 41 = .ok (.putfield 137, 3) := by decide +kernel
theorem dX4_readFinders_44 : decode cX4_readFinders 44 = .ok (.aload_n 0, 1) := by decide +kernel
theorem dX4_readFinders_45 : decode cX4_readFinders 45 = .ok (.iconst 3, 1) := by decide +kernel
theorem dX4_readFinders_46 : decode cX4_readFinders 46 = .ok (.invokevirtual 119, 3) := by decide +kernel
theorem dX4_readFinders_49 : decode cX4_readFinders 49 = .ok (.ireturn, 1) := by decide +kernel
theorem gf_X4_42 {ω : WD} {ρ : FR} {M : Mem} {cc : ByteArray} {d n pc : Nat} {lv : List (Nat × Value)} {rest : List Value} (C : Cx ω ρ cc RX4 d n) (hd : decode cc pc = .ok (.getfield 42, 3)) (k : G ω ρ M (pc + 3) lv (.int (rd M 50 6) :: rest)) : G ω ρ M pc lv (.ref (adr ω 50) :: rest) := G_get (N := 9) (T := TX4) (C := RX4) (q := 6) C (q50 : isK 4 50) (by decide) rfl in_X4 (by decide) (tb_of 307 ⟨by decide +kernel, rfl⟩) rfl rfl hd k
theorem lk_X4_133 : LkV RX4 133 RX4 yX4_takesNumber cX4_takesNumber 3 (some .boolean) 2 := LkV.of 555 556 557 67 558 (by decide +kernel) (by decide +kernel) (by decide +kernel) (by decide +kernel) (by decide +kernel) (by decide +kernel)
theorem pf_X4_137 {ω : WD} {ρ : FR} {M : Mem} {cc : ByteArray} {d n pc i : Nat} {lv : List (Nat × Value)} {rest : List Value} {v : Int32} (C : Cx ω ρ cc RX4 d n) (hk : isK 1 i) (hd : decode cc pc = .ok (.putfield 137, 3)) (k : ∀ M1, M1 = wr M i 1 v → G ω ρ M1 (pc + 3) lv rest) : G ω ρ M pc lv (.int v :: .ref (adr ω i) :: rest) := G_put (N := 8) (T := TX1) (C := RX1) (q := 1) (ty := .int) C hk (by decide) rfl in_X1 tyX1 tyX1_ok nmX1 (by decide) (tb_of 136 ⟨by decide +kernel, rfl⟩) rfl rfl (by decide +kernel) rfl rfl (fun _ _ => Nat.le_of_ble_eq_true rfl) (fun _ => rfl) hd (k _ rfl)
set_option maxRecDepth 100000 in
set_option maxHeartbeats 4000000 in
theorem S_X4_readFinders {ω : WD} {M : Mem} {post : Int32 → Mem → Prop} (h : w_X4_readFinders M post) : MtI ω yX4_readFinders cX4_readFinders 1 (some .boolean) 3 [.ref (adr ω 50)] M post := by
  refine MtI.start (ty := .boolean) rfl (by decide +kernel) (own := RX4) rfl (Nat.le_of_ble_eq_true rfl) (fun ρ C R => ?_)
  show G ω ρ M 0 [(0, .ref (adr ω 50))] []
  refine G_aload_n C dX4_readFinders_0 0 rfl ?_
  refine gf_X4_42 C dX4_readFinders_1 ?_
  obtain ⟨h1, h2⟩ := h
  refine G_if_eq (tgt := 13) C dX4_readFinders_4 (by decide) (fun c => ?_) (fun c => ?_)
  · have h := h1 c
    clear h1 h2
    refine G_aload_n C dX4_readFinders_13 0 rfl ?_
    refine G_iconst (v := 1) C dX4_readFinders_14 (by decide) ?_
    refine pf_X4_42 C zb_1 dX4_readFinders_15 (fun M1 eM1 => ?_)
    replace h := h M1 eM1
    refine G_aload_n C dX4_readFinders_18 0 rfl ?_
    refine G_iconst (v := 1) C dX4_readFinders_19 (by decide) ?_
    refine G_bipush (v := 6) C dX4_readFinders_20 (by decide) ?_
    refine G_callI (As := [.int 1, .int 6]) (rest := []) C dX4_readFinders_22 lk_X4_133 (Nat.le_of_ble_eq_true rfl) (Nat.le_of_ble_eq_true rfl) q50 (by decide) rfl (Nat.le_of_ble_eq_true rfl) rfl (S_X4_takesNumber h) (fun r3 M2 h => ?_)
    obtain ⟨h1, h2⟩ := h
    refine G_if_ne (tgt := 30) C dX4_readFinders_25 (by decide) (fun c => ?_) (fun c => ?_)
    · have h := h1 c
      clear h1 h2
      refine G_aload_n C dX4_readFinders_30 0 rfl ?_
      refine gf_X4_21 C dX4_readFinders_31 ?_
      refine G_aload_n C dX4_readFinders_34 0 rfl ?_
      refine gf_X4_12 C dX4_readFinders_35 ?_
      refine gf_X4_83 C dX4_readFinders_38 ?_
      refine pf_X4_137 C q53 dX4_readFinders_41 (fun M4 eM4 => ?_)
      replace h := h M4 eM4
      refine G_aload_n C dX4_readFinders_44 0 rfl ?_
      refine G_iconst (v := 3) C dX4_readFinders_45 (by decide) ?_
      refine G_callI (As := [.int 3]) (rest := []) C dX4_readFinders_46 lk_X4_119 (Nat.le_of_ble_eq_true rfl) (Nat.le_of_ble_eq_true rfl) q50 (by decide) rfl (Nat.le_of_ble_eq_true rfl) rfl (S_X4_takes h) (fun r6 M5 h => ?_)
      exact R 49 _ _ _ dX4_readFinders_49 h.1.1 h.2
    · have h := h2 c
      clear h1 h2
      refine G_iconst (v := 0) C dX4_readFinders_28 (by decide) ?_
      exact R 29 _ _ _ dX4_readFinders_29 rfl h
  · have h := h2 c
    clear h1 h2
    refine G_aload_n C dX4_readFinders_7 0 rfl ?_
    refine G_iconst (v := 4) C dX4_readFinders_8 (by decide) ?_
    refine G_callI (As := [.int 4]) (rest := []) C dX4_readFinders_9 lk_X4_68 (Nat.le_of_ble_eq_true rfl) (Nat.le_of_ble_eq_true rfl) q50 (by decide) rfl (Nat.le_of_ble_eq_true rfl) rfl (S_X4_wrong h) (fun r8 M7 h => ?_)
    exact R 12 _ _ _ dX4_readFinders_12 h.1.1 h.2
theorem dX4_readGroup_0 : decode cX4_readGroup 0 = .ok (.aload_n 0, 1) := by decide +kernel
theorem dX4_readGroup_1 : decode cX4_readGroup 1 = .ok (.iconst 0, 1) := by decide +kernel
theorem dX4_readGroup_2 : decode cX4_readGroup 2 = .ok (.iconst 4, 1) := by decide +kernel
theorem dX4_readGroup_3 : decode cX4_readGroup 3 = .ok (.invokevirtual 133, 3) := by decide +kernel
theorem dX4_readGroup_6 : decode cX4_readGroup 6 = .ok (.ifCond .ne 5, 3) := by decide +kernel
theorem dX4_readGroup_9 : decode cX4_readGroup 9 = .ok (.iconst 0, 1) := by decide +kernel
theorem dX4_readGroup_10 : decode cX4_readGroup 10 = .ok (.ireturn, 1) := by decide +kernel
theorem dX4_readGroup_11 : decode cX4_readGroup 11 = .ok (.aload_n 0, 1) := by decide +kernel
theorem dX4_readGroup_12 : decode cX4_readGroup 12 = .ok (.getfield 12, 3) := by decide +kernel
theorem dX4_readGroup_15 : decode cX4_readGroup 15 = .ok (.getfield 83, 3) := by decide +kernel
theorem dX4_readGroup_18 : decode cX4_readGroup 18 = .ok (.istore_n 2, 1) := by decide +kernel
theorem dX4_readGroup_19 : decode cX4_readGroup 19 = .ok (.aload_n 0, 1) := by decide +kernel
theorem dX4_readGroup_20 : decode cX4_readGroup 20 = .ok (.getfield 49, 3) := by decide +kernel
theorem dX4_readGroup_23 : decode cX4_readGroup 23 = .ok (.iload_n 2, 1) := by decide +kernel
theorem dX4_readGroup_24 : decode cX4_readGroup 24 = .ok (.ishr, 1) := by decide +kernel
theorem dX4_readGroup_25 : decode cX4_readGroup 25 = .ok (.iconst 1, 1) := by decide +kernel
theorem dX4_readGroup_26 : decode cX4_readGroup 26 = .ok (.iand, 1) := by decide +kernel
theorem dX4_readGroup_27 : decode cX4_readGroup 27 = .ok (.ifCond .eq 9, 3) := by decide +kernel
theorem dX4_readGroup_30 : decode cX4_readGroup 30 = .ok (.aload_n 0, 1) := by decide +kernel
theorem dX4_readGroup_31 : decode cX4_readGroup 31 = .ok (.iconst 4, 1) := by decide +kernel
theorem dX4_readGroup_32 : decode cX4_readGroup 32 = .ok (.invokevirtual 68, 3) := by decide +kernel
theorem dX4_readGroup_35 : decode cX4_readGroup 35 = .ok (.ireturn, 1) := by decide +kernel
theorem dX4_readGroup_36 : decode cX4_readGroup 36 = .ok (.aload_n 0, 1) := by decide +kernel
theorem dX4_readGroup_37 : decode cX4_readGroup 37 = .ok (.dup, 1) := by decide +kernel
theorem dX4_readGroup_38 : decode cX4_readGroup 38 = .ok (.getfield 49, 3) := by decide +kernel
theorem dX4_readGroup_41 : decode cX4_readGroup 41 = .ok (.iconst 1, 1) := by decide +kernel
theorem dX4_readGroup_42 : decode cX4_readGroup 42 = .ok (.iload_n 2, 1) := by decide +kernel
theorem dX4_readGroup_43 : decode cX4_readGroup 43 = .ok (.ishl, 1) := by decide +kernel
theorem dX4_readGroup_44 : decode cX4_readGroup 44 = .ok (.ior, 1) := by decide +kernel
theorem dX4_readGroup_45 : decode cX4_readGroup 45 = .ok (.putfield 49, 3) := by decide +kernel
theorem dX4_readGroup_48 : decode cX4_readGroup 48 = .ok (.aload_n 0, 1) := by decide +kernel
theorem dX4_readGroup_49 : decode cX4_readGroup 49 = .ok (.iconst 0, 1) := by decide +kernel
theorem dX4_readGroup_50 : decode cX4_readGroup 50 = .ok (.iconst 4, 1) := by decide +kernel
theorem dX4_readGroup_51 : decode cX4_readGroup 51 = .ok (.invokevirtual 133, 3) := by decide +kernel
theorem dX4_readGroup_54 : decode cX4_readGroup 54 = .ok (.ifCond .ne 5, 3) := by decide +kernel
theorem dX4_readGroup_57 : decode cX4_readGroup 57 = .ok (.iconst 0, 1) := by decide +kernel
theorem dX4_readGroup_58 : decode cX4_readGroup 58 = .ok (.ireturn, 1) := by decide +kernel
theorem dX4_readGroup_59 : decode cX4_readGroup 59 = .ok (.aload_n 0, 1) := by decide +kernel
theorem dX4_readGroup_60 : decode cX4_readGroup 60 = .ok (.getfield 21, 3) := by decide +kernel
theorem dX4_readGroup_63 : decode cX4_readGroup 63 = .ok (.getfield 139, 3) := by decide +kernel
theorem dX4_readGroup_66 : decode cX4_readGroup 66 = .ok (.iload_n 2, 1) := by decide +kernel
theorem dX4_readGroup_67 : decode cX4_readGroup 67 = .ok (.aaload, 1) := by decide +kernel
theorem dX4_readGroup_68 : decode cX4_readGroup 68 = .ok (.iload_n 1, 1) := by decide +kernel
theorem dX4_readGroup_69 : decode cX4_readGroup 69 = .ok (.putfield 143, 3) := by decide +kernel
theorem dX4_readGroup_72 : decode cX4_readGroup 72 = .ok (.aload_n 0, 1) := by decide +kernel
theorem dX4_readGroup_73 : decode cX4_readGroup 73 = .ok (.getfield 21, 3) := by decide +kernel
theorem dX4_readGroup_76 : decode cX4_readGroup 76 = .ok (.getfield 139, 3) := by decide +kernel
theorem dX4_readGroup_79 : decode cX4_readGroup 79 = .ok (.iload_n 2, 1) := by decide +kernel
theorem dX4_readGroup_80 : decode cX4_readGroup 80 = .ok (.aaload, 1) := by decide +kernel
theorem dX4_readGroup_81 : decode cX4_readGroup 81 = .ok (.aload_n 0, 1) := by decide +kernel
theorem dX4_readGroup_82 : decode cX4_readGroup 82 = .ok (.getfield 12, 3) := by decide +kernel
theorem dX4_readGroup_85 : decode cX4_readGroup 85 = .ok (.getfield 83, 3) := by decide +kernel
theorem dX4_readGroup_88 : decode cX4_readGroup 88 = .ok (.invokevirtual 148, 3) := by decide +kernel
theorem dX4_readGroup_91 : decode cX4_readGroup 91 = .ok (.aload_n 0, 1) := by decide +kernel
theorem dX4_readGroup_92 : decode cX4_readGroup 92 = .ok (.iconst 3, 1) := by decide +kernel
theorem dX4_readGroup_93 : decode cX4_readGroup 93 = .ok (.invokevirtual 119, 3) := by decide +kernel
theorem dX4_readGroup_96 : decode cX4_readGroup 96 = .ok (.ireturn, 1) := by decide +kernel
theorem gf_X4_49 {ω : WD} {ρ : FR} {M : Mem} {cc : ByteArray} {d n pc : Nat} {lv : List (Nat × Value)} {rest : List Value} (C : Cx ω ρ cc RX4 d n) (hd : decode cc pc = .ok (.getfield 49, 3)) (k : G ω ρ M (pc + 3) lv (.int (rd M 50 8) :: rest)) : G ω ρ M pc lv (.ref (adr ω 50) :: rest) := G_get (N := 9) (T := TX4) (C := RX4) (q := 8) C (q50 : isK 4 50) (by decide) rfl in_X4 (by decide) (tb_of 309 ⟨by decide +kernel, rfl⟩) rfl rfl hd k
theorem gf_X4_139 {ω : WD} {ρ : FR} {M : Mem} {cc : ByteArray} {d n pc i : Nat} {lv : List (Nat × Value)} {rest : List Value} (C : Cx ω ρ cc RX4 d n) (hk : isK 1 i) (hd : decode cc pc = .ok (.getfield 139, 3)) (k : G ω ρ M (pc + 3) lv (.ref (adr ω (i + 5)) :: rest)) : G ω ρ M pc lv (.ref (adr ω i) :: rest) := G_get (N := 8) (T := TX1) (C := RX1) (q := 7) C hk (by decide) rfl in_X1 (by decide) (tb_of 150 ⟨by decide +kernel, rfl⟩) rfl rfl hd k
theorem pf_X4_143 {ω : WD} {ρ : FR} {M : Mem} {cc : ByteArray} {d n pc i : Nat} {lv : List (Nat × Value)} {rest : List Value} {v : Int32} (C : Cx ω ρ cc RX4 d n) (hk : isK 2 i) (hd : decode cc pc = .ok (.putfield 143, 3)) (k : ∀ M1, M1 = wr M i 0 v → G ω ρ M1 (pc + 3) lv rest) : G ω ρ M pc lv (.int v :: .ref (adr ω i) :: rest) := G_put (N := 6) (T := TX2) (C := RX2) (q := 0) (ty := .int) C hk (by decide) rfl in_X2 tyX2 tyX2_ok nmX2 (by decide) (tb_of 101 ⟨by decide +kernel, rfl⟩) rfl rfl (by decide +kernel) rfl rfl (fun _ _ => Nat.le_of_ble_eq_true rfl) (fun _ => rfl) hd (k _ rfl)
theorem lk_X4_148 : LkV RX4 148 RX2 yX2_resize cX2_resize 3 none 1 := LkV.of 564 565 566 63 567 (by decide +kernel) (by decide +kernel) (by decide +kernel) (by decide +kernel) (by decide +kernel) (by decide +kernel)
set_option maxRecDepth 100000 in
set_option maxHeartbeats 4000000 in
theorem S_X4_readGroup {ω : WD} {l1 : Int32} {M : Mem} {post : Int32 → Mem → Prop} (h : w_X4_readGroup l1 M post) : MtI ω yX4_readGroup cX4_readGroup 3 (some .boolean) 3 [.ref (adr ω 50), .int l1] M post := by
  refine MtI.start (ty := .boolean) rfl (by decide +kernel) (own := RX4) rfl (Nat.le_of_ble_eq_true rfl) (fun ρ C R => ?_)
  show G ω ρ M 0 [(0, .ref (adr ω 50)), (1, .int l1)] []
  refine G_aload_n C dX4_readGroup_0 0 rfl ?_
  refine G_iconst (v := 0) C dX4_readGroup_1 (by decide) ?_
  refine G_iconst (v := 4) C dX4_readGroup_2 (by decide) ?_
  refine G_callI (As := [.int 0, .int 4]) (rest := []) C dX4_readGroup_3 lk_X4_133 (Nat.le_of_ble_eq_true rfl) (Nat.le_of_ble_eq_true rfl) q50 (by decide) rfl (Nat.le_of_ble_eq_true rfl) rfl (S_X4_takesNumber h) (fun r2 M1 h => ?_)
  obtain ⟨h1, h2⟩ := h
  refine G_if_ne (tgt := 11) C dX4_readGroup_6 (by decide) (fun c => ?_) (fun c => ?_)
  · have h := h1 c
    clear h1 h2
    refine G_aload_n C dX4_readGroup_11 0 rfl ?_
    refine gf_X4_12 C dX4_readGroup_12 ?_
    refine gf_X4_83 C dX4_readGroup_15 ?_
    refine G_iname (fun v3 ev3 => ?_)
    replace h := h v3 ev3
    refine G_istore_n C dX4_readGroup_18 (by decide) (lv' := [(2, .int v3), (0, .ref (adr ω 50)), (1, .int l1)]) rfl ?_
    refine G_aload_n C dX4_readGroup_19 1 rfl ?_
    refine gf_X4_49 C dX4_readGroup_20 ?_
    refine G_iload_n C dX4_readGroup_23 0 rfl ?_
    refine G_ishr C dX4_readGroup_24 ?_
    refine G_iconst (v := 1) C dX4_readGroup_25 (by decide) ?_
    refine G_iand C dX4_readGroup_26 ?_
    obtain ⟨h1, h2⟩ := h
    refine G_if_eq (tgt := 36) C dX4_readGroup_27 (by decide) (fun c => ?_) (fun c => ?_)
    · have h := h1 c
      clear h1 h2
      refine G_aload_n C dX4_readGroup_36 1 rfl ?_
      refine G_dup C dX4_readGroup_37 rfl ?_
      refine gf_X4_49 C dX4_readGroup_38 ?_
      refine G_iconst (v := 1) C dX4_readGroup_41 (by decide) ?_
      refine G_iload_n C dX4_readGroup_42 0 rfl ?_
      refine G_ishl C dX4_readGroup_43 ?_
      refine G_ior C dX4_readGroup_44 ?_
      refine pf_X4_49 C dX4_readGroup_45 (fun M4 eM4 => ?_)
      replace h := h M4 eM4
      refine G_aload_n C dX4_readGroup_48 1 rfl ?_
      refine G_iconst (v := 0) C dX4_readGroup_49 (by decide) ?_
      refine G_iconst (v := 4) C dX4_readGroup_50 (by decide) ?_
      refine G_callI (As := [.int 0, .int 4]) (rest := []) C dX4_readGroup_51 lk_X4_133 (Nat.le_of_ble_eq_true rfl) (Nat.le_of_ble_eq_true rfl) q50 (by decide) rfl (Nat.le_of_ble_eq_true rfl) rfl (S_X4_takesNumber h) (fun r6 M5 h => ?_)
      obtain ⟨h1, h2⟩ := h
      refine G_if_ne (tgt := 59) C dX4_readGroup_54 (by decide) (fun c => ?_) (fun c => ?_)
      · have h := h1 c
        clear h1 h2
        refine G_aload_n C dX4_readGroup_59 1 rfl ?_
        refine gf_X4_21 C dX4_readGroup_60 ?_
        refine gf_X4_139 C q53 dX4_readGroup_63 ?_
        refine G_iload_n C dX4_readGroup_66 0 rfl ?_
        obtain ⟨hi, h⟩ := h
        refine G_aldGroup C q58 hi dX4_readGroup_67 (G_rname (fun g7 eg7 => ?_))
        replace h := h g7 eg7
        have hg7 := el_13 q58 hi eg7
        refine G_iload_n C dX4_readGroup_68 2 rfl ?_
        refine pf_X4_143 C hg7 dX4_readGroup_69 (fun M8 eM8 => ?_)
        replace h := h M8 eM8
        refine G_aload_n C dX4_readGroup_72 1 rfl ?_
        refine gf_X4_21 C dX4_readGroup_73 ?_
        refine gf_X4_139 C q53 dX4_readGroup_76 ?_
        refine G_iload_n C dX4_readGroup_79 0 rfl ?_
        obtain ⟨hi, h⟩ := h
        refine G_aldGroup C q58 hi dX4_readGroup_80 (G_rname (fun g9 eg9 => ?_))
        replace h := h g9 eg9
        have hg9 := el_13 q58 hi eg9
        refine G_aload_n C dX4_readGroup_81 1 rfl ?_
        refine gf_X4_12 C dX4_readGroup_82 ?_
        refine gf_X4_83 C dX4_readGroup_85 ?_
        refine G_callV (As := [.int (rd M8 51 5)]) (rest := []) C dX4_readGroup_88 lk_X4_148 (Nat.le_of_ble_eq_true rfl) (Nat.le_of_ble_eq_true rfl) hg9 (by decide) rfl (Nat.le_of_ble_eq_true rfl) rfl (S_X2_resize hg9 h) (fun M10 h => ?_)
        refine G_aload_n C dX4_readGroup_91 1 rfl ?_
        refine G_iconst (v := 3) C dX4_readGroup_92 (by decide) ?_
        refine G_callI (As := [.int 3]) (rest := []) C dX4_readGroup_93 lk_X4_119 (Nat.le_of_ble_eq_true rfl) (Nat.le_of_ble_eq_true rfl) q50 (by decide) rfl (Nat.le_of_ble_eq_true rfl) rfl (S_X4_takes h) (fun r12 M11 h => ?_)
        exact R 96 _ _ _ dX4_readGroup_96 h.1.1 h.2
      · have h := h2 c
        clear h1 h2
        refine G_iconst (v := 0) C dX4_readGroup_57 (by decide) ?_
        exact R 58 _ _ _ dX4_readGroup_58 rfl h
    · have h := h2 c
      clear h1 h2
      refine G_aload_n C dX4_readGroup_30 1 rfl ?_
      refine G_iconst (v := 4) C dX4_readGroup_31 (by decide) ?_
      refine G_callI (As := [.int 4]) (rest := []) C dX4_readGroup_32 lk_X4_68 (Nat.le_of_ble_eq_true rfl) (Nat.le_of_ble_eq_true rfl) q50 (by decide) rfl (Nat.le_of_ble_eq_true rfl) rfl (S_X4_wrong h) (fun r14 M13 h => ?_)
      exact R 35 _ _ _ dX4_readGroup_35 h.1.1 h.2
  · have h := h2 c
    clear h1 h2
    refine G_iconst (v := 0) C dX4_readGroup_9 (by decide) ?_
    exact R 10 _ _ _ dX4_readGroup_10 rfl h
theorem dX4_readPlan_0 : decode cX4_readPlan 0 = .ok (.aload_n 0, 1) := by decide +kernel
theorem dX4_readPlan_1 : decode cX4_readPlan 1 = .ok (.getfield 46, 3) := by decide +kernel
theorem dX4_readPlan_4 : decode cX4_readPlan 4 = .ok (.ifCond .eq 9, 3) := by decide +kernel
theorem dX4_readPlan_7 : decode cX4_readPlan 7 = .ok (.aload_n 0, 1) := by decide +kernel
theorem dX4_readPlan_8 : decode cX4_readPlan 8 = .ok (.iconst 4, 1) := by decide +kernel
theorem dX4_readPlan_9 : decode cX4_readPlan 9 = .ok (.invokevirtual 68, 3) := by decide +kernel
theorem dX4_readPlan_12 : decode cX4_readPlan 12 = .ok (.ireturn, 1) := by decide +kernel
theorem dX4_readPlan_13 : decode cX4_readPlan 13 = .ok (.aload_n 0, 1) := by decide +kernel
theorem dX4_readPlan_14 : decode cX4_readPlan 14 = .ok (.iconst 1, 1) := by decide +kernel
theorem dX4_readPlan_15 : decode cX4_readPlan 15 = .ok (.putfield 46, 3) := by decide +kernel
theorem dX4_readPlan_18 : decode cX4_readPlan 18 = .ok (.iconst 0, 1) := by decide +kernel
theorem dX4_readPlan_19 : decode cX4_readPlan 19 = .ok (.istore_n 1, 1) := by decide +kernel
theorem dX4_readPlan_20 : decode cX4_readPlan 20 = .ok (.iload_n 1, 1) := by decide +kernel
theorem dX4_readPlan_21 : decode cX4_readPlan 21 = .ok (.bipush 8, 2) := by decide +kernel
theorem dX4_readPlan_23 : decode cX4_readPlan 23 = .ok (.if_icmp .gt 121, 3) := by decide +kernel
theorem dX4_readPlan_26 : decode cX4_readPlan 26 = .ok (.aload_n 0, 1) := by decide +kernel
theorem dX4_readPlan_27 : decode cX4_readPlan 27 = .ok (.getfield 12, 3) := by decide +kernel
theorem dX4_readPlan_30 : decode cX4_readPlan 30 = .ok (.invokevirtual 55, 3) := by decide +kernel
theorem dX4_readPlan_33 : decode cX4_readPlan 33 = .ok (.aload_n 0, 1) := by decide +kernel
theorem dX4_readPlan_34 : decode cX4_readPlan 34 = .ok (.getfield 12, 3) := by decide +kernel
theorem dX4_readPlan_37 : decode cX4_readPlan 37 = .ok (.getfield 58, 3) := by decide +kernel
theorem dX4_readPlan_40 : decode cX4_readPlan 40 = .ok (.iconst 3, 1) := by decide +kernel
theorem dX4_readPlan_41 : decode cX4_readPlan 41 = .ok (.if_icmp .ne 5, 3) := by decide +kernel
theorem dX4_readPlan_44 : decode cX4_readPlan 44 = .ok (.iconst 1, 1) := by decide +kernel
theorem dX4_readPlan_45 : decode cX4_readPlan 45 = .ok (.ireturn, 1) := by decide +kernel
theorem dX4_readPlan_46 : decode cX4_readPlan 46 = .ok (.aload_n 0, 1) := by decide +kernel
theorem dX4_readPlan_47 : decode cX4_readPlan 47 = .ok (.iconst 2, 1) := by decide +kernel
theorem dX4_readPlan_48 : decode cX4_readPlan 48 = .ok (.invokevirtual 80, 3) := by decide +kernel
theorem dX4_readPlan_51 : decode cX4_readPlan 51 = .ok (.ifCond .ne 5, 3) := by decide +kernel
theorem dX4_readPlan_54 : decode cX4_readPlan 54 = .ok (.iconst 0, 1) := by decide +kernel
theorem dX4_readPlan_55 : decode cX4_readPlan 55 = .ok (.ireturn, 1) := by decide +kernel
theorem dX4_readPlan_56 : decode cX4_readPlan 56 = .ok (.aload_n 0, 1) := by decide +kernel
theorem dX4_readPlan_57 : decode cX4_readPlan 57 = .ok (.getfield 28, 3) := by decide +kernel
theorem dX4_readPlan_60 : decode cX4_readPlan 60 = .ok (.getfield 151, 3) := by decide +kernel
theorem dX4_readPlan_63 : decode cX4_readPlan 63 = .ok (.bipush 8, 2) := by decide +kernel
theorem dX4_readPlan_65 : decode cX4_readPlan 65 = .ok (.if_icmp .lt 9, 3) := by decide +kernel
theorem dX4_readPlan_68 : decode cX4_readPlan 68 = .ok (.aload_n 0, 1) := by decide +kernel
theorem dX4_readPlan_69 : decode cX4_readPlan 69 = .ok (.iconst 5, 1) := by decide +kernel
theorem dX4_readPlan_70 : decode cX4_readPlan 70 = .ok (.invokevirtual 68, 3) := by decide +kernel
theorem dX4_readPlan_73 : decode cX4_readPlan 73 = .ok (.ireturn, 1) := by decide +kernel
theorem dX4_readPlan_74 : decode cX4_readPlan 74 = .ok (.aload_n 0, 1) := by decide +kernel
theorem dX4_readPlan_75 : decode cX4_readPlan 75 = .ok (.getfield 12, 3) := by decide +kernel
theorem dX4_readPlan_78 : decode cX4_readPlan 78 = .ok (.getfield 83, 3) := by decide +kernel
theorem dX4_readPlan_81 : decode cX4_readPlan 81 = .ok (.istore_n 2, 1) := by decide +kernel
theorem dX4_readPlan_82 : decode cX4_readPlan 82 = .ok (.iload_n 2, 1) := by decide +kernel
theorem dX4_readPlan_83 : decode cX4_readPlan 83 = .ok (.bipush 6, 2) := by decide +kernel
theorem dX4_readPlan_85 : decode cX4_readPlan 85 = .ok (.if_icmp .lt 9, 3) := by decide +kernel
theorem dX4_readPlan_88 : decode cX4_readPlan 88 = .ok (.aload_n 0, 1) := by decide +kernel
theorem dX4_readPlan_89 : decode cX4_readPlan 89 = .ok (.iconst 3, 1) := by decide +kernel
theorem dX4_readPlan_90 : decode cX4_readPlan 90 = .ok (.invokevirtual 68, 3) := by decide +kernel
theorem dX4_readPlan_93 : decode cX4_readPlan 93 = .ok (.ireturn, 1) := by decide +kernel
theorem dX4_readPlan_94 : decode cX4_readPlan 94 = .ok (.aload_n 0, 1) := by decide +kernel
theorem dX4_readPlan_95 : decode cX4_readPlan 95 = .ok (.iconst 2, 1) := by decide +kernel
theorem dX4_readPlan_96 : decode cX4_readPlan 96 = .ok (.invokevirtual 119, 3) := by decide +kernel
theorem dX4_readPlan_99 : decode cX4_readPlan 99 = .ok (.ifCond .ne 5, 3) := by decide +kernel
theorem dX4_readPlan_102 : decode cX4_readPlan 102 = .ok (.iconst 0, 1) := by decide +kernel
theorem dX4_readPlan_103 : decode cX4_readPlan 103 = .ok (.ireturn, 1) := by decide +kernel
theorem dX4_readPlan_104 : decode cX4_readPlan 104 = .ok (.aload_n 0, 1) := by decide +kernel
theorem dX4_readPlan_105 : decode cX4_readPlan 105 = .ok (.getfield 12, 3) := by decide +kernel
theorem dX4_readPlan_108 : decode cX4_readPlan 108 = .ok (.getfield 83, 3) := by decide +kernel
theorem dX4_readPlan_111 : decode cX4_readPlan 111 = .ok (.invokestatic 154, 3) := by decide +kernel
theorem dX4_readPlan_114 : decode cX4_readPlan 114 = .ok (.ifCond .ne 9, 3) := by decide +kernel
theorem dX4_readPlan_117 : decode cX4_readPlan 117 = .ok (.aload_n 0, 1) := by decide +kernel
theorem dX4_readPlan_118 : decode cX4_readPlan 118 = .ok (.iconst 3, 1) := by decide +kernel
theorem dX4_readPlan_119 : decode cX4_readPlan 119 = .ok (.invokevirtual 68, 3) := by decide +kernel
theorem dX4_readPlan_122 : decode cX4_readPlan 122 = .ok (.ireturn, 1) := by decide +kernel
theorem dX4_readPlan_123 : decode cX4_readPlan 123 = .ok (.aload_n 0, 1) := by decide +kernel
theorem dX4_readPlan_124 : decode cX4_readPlan 124 = .ok (.getfield 28, 3) := by decide +kernel
theorem dX4_readPlan_127 : decode cX4_readPlan 127 = .ok (.iload_n 2, 1) := by decide +kernel
theorem dX4_readPlan_128 : decode cX4_readPlan 128 = .ok (.aload_n 0, 1) := by decide +kernel
theorem dX4_readPlan_129 : decode cX4_readPlan 129 = .ok (.getfield 12, 3) := by decide +kernel
theorem dX4_readPlan_132 : decode cX4_readPlan 132 = .ok (.getfield 83, 3) := by decide +kernel
theorem dX4_readPlan_135 : decode cX4_readPlan 135 = .ok (.invokevirtual 157, 3) := by decide +kernel
theorem dX4_readPlan_138 : decode cX4_readPlan 138 = .ok (.iinc 1 1, 3) := by decide +kernel
theorem dX4_readPlan_141 : decode cX4_readPlan 141 = .ok (.goto (-121), 3) := by decide +kernel
theorem dX4_readPlan_144 : decode cX4_readPlan 144 = .ok (.aload_n 0, 1) := by decide +kernel
theorem dX4_readPlan_145 : decode cX4_readPlan 145 = .ok (.iconst 5, 1) := by decide +kernel
theorem dX4_readPlan_146 : decode cX4_readPlan 146 = .ok (.invokevirtual 68, 3) := by decide +kernel
theorem dX4_readPlan_149 : decode cX4_readPlan 149 = .ok (.ireturn, 1) := by decide +kernel
theorem lk_X4_157 : LkV RX4 157 RX5 yX5_addAct cX5_addAct 3 none 2 := LkV.of 580 581 582 64 583 (by decide +kernel) (by decide +kernel) (by decide +kernel) (by decide +kernel) (by decide +kernel) (by decide +kernel)
theorem gf_X4_46 {ω : WD} {ρ : FR} {M : Mem} {cc : ByteArray} {d n pc : Nat} {lv : List (Nat × Value)} {rest : List Value} (C : Cx ω ρ cc RX4 d n) (hd : decode cc pc = .ok (.getfield 46, 3)) (k : G ω ρ M (pc + 3) lv (.int (rd M 50 7) :: rest)) : G ω ρ M pc lv (.ref (adr ω 50) :: rest) := G_get (N := 9) (T := TX4) (C := RX4) (q := 7) C (q50 : isK 4 50) (by decide) rfl in_X4 (by decide) (tb_of 308 ⟨by decide +kernel, rfl⟩) rfl rfl hd k
set_option maxRecDepth 100000 in
set_option maxHeartbeats 4000000 in
theorem s_X4_readPlan_L20 {ω : WD} {ρ : FR} {post : Int32 → Mem → Prop} (C : Cx ω ρ cX4_readPlan RX4 3 3) (R : RtI ω ρ cX4_readPlan .boolean post) : ∀ (f : Nat) (l1 : Int32) (M : Mem), w_X4_readPlan_L20 post f l1 M → G ω ρ M 20 [(0, .ref (adr ω 50)), (1, .int l1)] [] := by
  intro f
  induction f with
  | zero => intro l1 M h; exact False.elim h
  | succ f k20 =>
    intro l1 M h
    refine G_iload_n C dX4_readPlan_20 1 rfl ?_
    refine G_bipush (v := 8) C dX4_readPlan_21 (by decide) ?_
    obtain ⟨h1, h2⟩ := h
    refine G_icmp_gt (tgt := 144) C dX4_readPlan_23 (by decide) (fun c => ?_) (fun c => ?_)
    · have h := h1 c
      clear h1 h2
      refine G_aload_n C dX4_readPlan_144 0 rfl ?_
      refine G_iconst (v := 5) C dX4_readPlan_145 (by decide) ?_
      refine G_callI (As := [.int 5]) (rest := []) C dX4_readPlan_146 lk_X4_68 (Nat.le_of_ble_eq_true rfl) (Nat.le_of_ble_eq_true rfl) q50 (by decide) rfl (Nat.le_of_ble_eq_true rfl) rfl (S_X4_wrong h) (fun r2 M1 h => ?_)
      exact R 149 _ _ _ dX4_readPlan_149 h.1.1 h.2
    · have h := h2 c
      clear h1 h2
      refine G_aload_n C dX4_readPlan_26 0 rfl ?_
      refine gf_X4_12 C dX4_readPlan_27 ?_
      refine G_callV (As := []) (rest := []) C dX4_readPlan_30 lk_X4_55 (Nat.le_of_ble_eq_true rfl) (Nat.le_of_ble_eq_true rfl) q51 (by decide) rfl (Nat.le_of_ble_eq_true rfl) rfl (S_X7_next h) (fun M3 h => ?_)
      refine G_aload_n C dX4_readPlan_33 0 rfl ?_
      refine gf_X4_12 C dX4_readPlan_34 ?_
      refine gf_X4_58 C dX4_readPlan_37 ?_
      refine G_iconst (v := 3) C dX4_readPlan_40 (by decide) ?_
      obtain ⟨h1, h2⟩ := h
      refine G_icmp_ne (tgt := 46) C dX4_readPlan_41 (by decide) (fun c => ?_) (fun c => ?_)
      · have h := h1 c
        clear h1 h2
        refine G_aload_n C dX4_readPlan_46 0 rfl ?_
        refine G_iconst (v := 2) C dX4_readPlan_47 (by decide) ?_
        refine G_callI (As := [.int 2]) (rest := []) C dX4_readPlan_48 lk_X4_80 (Nat.le_of_ble_eq_true rfl) (Nat.le_of_ble_eq_true rfl) q50 (by decide) rfl (Nat.le_of_ble_eq_true rfl) rfl (S_X4_stands h) (fun r5 M4 h => ?_)
        obtain ⟨h1, h2⟩ := h
        refine G_if_ne (tgt := 56) C dX4_readPlan_51 (by decide) (fun c => ?_) (fun c => ?_)
        · have h := h1 c
          clear h1 h2
          refine G_aload_n C dX4_readPlan_56 0 rfl ?_
          refine gf_X4_28 C dX4_readPlan_57 ?_
          refine gf_X4_151 C q69 dX4_readPlan_60 ?_
          refine G_bipush (v := 8) C dX4_readPlan_63 (by decide) ?_
          obtain ⟨h1, h2⟩ := h
          refine G_icmp_lt (tgt := 74) C dX4_readPlan_65 (by decide) (fun c => ?_) (fun c => ?_)
          · have h := h1 c
            clear h1 h2
            refine G_aload_n C dX4_readPlan_74 0 rfl ?_
            refine gf_X4_12 C dX4_readPlan_75 ?_
            refine gf_X4_83 C dX4_readPlan_78 ?_
            refine G_iname (fun v6 ev6 => ?_)
            replace h := h v6 ev6
            refine G_istore_n C dX4_readPlan_81 (by decide) (lv' := [(2, .int v6), (0, .ref (adr ω 50)), (1, .int l1)]) rfl ?_
            refine G_iload_n C dX4_readPlan_82 0 rfl ?_
            refine G_bipush (v := 6) C dX4_readPlan_83 (by decide) ?_
            obtain ⟨h1, h2⟩ := h
            refine G_icmp_lt (tgt := 94) C dX4_readPlan_85 (by decide) (fun c => ?_) (fun c => ?_)
            · have h := h1 c
              clear h1 h2
              refine G_aload_n C dX4_readPlan_94 1 rfl ?_
              refine G_iconst (v := 2) C dX4_readPlan_95 (by decide) ?_
              refine G_callI (As := [.int 2]) (rest := []) C dX4_readPlan_96 lk_X4_119 (Nat.le_of_ble_eq_true rfl) (Nat.le_of_ble_eq_true rfl) q50 (by decide) rfl (Nat.le_of_ble_eq_true rfl) rfl (S_X4_takes h) (fun r8 M7 h => ?_)
              obtain ⟨h1, h2⟩ := h
              refine G_if_ne (tgt := 104) C dX4_readPlan_99 (by decide) (fun c => ?_) (fun c => ?_)
              · have h := h1 c
                clear h1 h2
                refine G_aload_n C dX4_readPlan_104 1 rfl ?_
                refine gf_X4_12 C dX4_readPlan_105 ?_
                refine gf_X4_83 C dX4_readPlan_108 ?_
                refine G_nscallI (host := "StepCalls") (kn := 1) C dX4_readPlan_111 (va_Nw.of rfl C.2.2.2.2.2.2.2.2.2.1.2.1) 577 61 578 (by decide +kernel) (by decide +kernel) (by decide +kernel) (by decide +kernel) (As := [.int (rd M7 51 5)]) (rest := []) rfl (Nat.le_of_ble_eq_true rfl) (Nat.le_of_ble_eq_true rfl) (Nat.le_of_ble_eq_true rfl) rfl (S_X9_isDialled h) (fun r10 M9 h => ?_)
                obtain ⟨h1, h2⟩ := h
                refine G_if_ne (tgt := 123) C dX4_readPlan_114 (by decide) (fun c => ?_) (fun c => ?_)
                · have h := h1 c
                  clear h1 h2
                  refine G_aload_n C dX4_readPlan_123 1 rfl ?_
                  refine gf_X4_28 C dX4_readPlan_124 ?_
                  refine G_iload_n C dX4_readPlan_127 0 rfl ?_
                  refine G_aload_n C dX4_readPlan_128 1 rfl ?_
                  refine gf_X4_12 C dX4_readPlan_129 ?_
                  refine gf_X4_83 C dX4_readPlan_132 ?_
                  refine G_callV (As := [.int v6, .int (rd M9 51 5)]) (rest := []) C dX4_readPlan_135 lk_X4_157 (Nat.le_of_ble_eq_true rfl) (Nat.le_of_ble_eq_true rfl) q69 (by decide) rfl (Nat.le_of_ble_eq_true rfl) rfl (S_X5_addAct q69 h) (fun M11 h => ?_)
                  obtain ⟨v12, ev12⟩ : ∃ y : Int32, y = (l1 + 1) := ⟨_, rfl⟩
                  replace h := h v12 ev12
                  refine G_iinc C dX4_readPlan_138 2 rfl (v := v12) (by rw [ev12]; rfl) (by decide) (lv' := [(1, .int v12), (2, .int v6), (0, .ref (adr ω 50))]) rfl ?_
                  refine G_goto (tgt := 20) C dX4_readPlan_141 (by decide) ?_
                  refine G_sub [2, 0] (lv' := [(0, .ref (adr ω 50)), (1, .int v12)]) rfl ?_
                  exact k20 _ _ h
                · have h := h2 c
                  clear h1 h2
                  refine G_aload_n C dX4_readPlan_117 1 rfl ?_
                  refine G_iconst (v := 3) C dX4_readPlan_118 (by decide) ?_
                  refine G_callI (As := [.int 3]) (rest := []) C dX4_readPlan_119 lk_X4_68 (Nat.le_of_ble_eq_true rfl) (Nat.le_of_ble_eq_true rfl) q50 (by decide) rfl (Nat.le_of_ble_eq_true rfl) rfl (S_X4_wrong h) (fun r14 M13 h => ?_)
                  exact R 122 _ _ _ dX4_readPlan_122 h.1.1 h.2
              · have h := h2 c
                clear h1 h2
                refine G_iconst (v := 0) C dX4_readPlan_102 (by decide) ?_
                exact R 103 _ _ _ dX4_readPlan_103 rfl h
            · have h := h2 c
              clear h1 h2
              refine G_aload_n C dX4_readPlan_88 1 rfl ?_
              refine G_iconst (v := 3) C dX4_readPlan_89 (by decide) ?_
              refine G_callI (As := [.int 3]) (rest := []) C dX4_readPlan_90 lk_X4_68 (Nat.le_of_ble_eq_true rfl) (Nat.le_of_ble_eq_true rfl) q50 (by decide) rfl (Nat.le_of_ble_eq_true rfl) rfl (S_X4_wrong h) (fun r16 M15 h => ?_)
              exact R 93 _ _ _ dX4_readPlan_93 h.1.1 h.2
          · have h := h2 c
            clear h1 h2
            refine G_aload_n C dX4_readPlan_68 0 rfl ?_
            refine G_iconst (v := 5) C dX4_readPlan_69 (by decide) ?_
            refine G_callI (As := [.int 5]) (rest := []) C dX4_readPlan_70 lk_X4_68 (Nat.le_of_ble_eq_true rfl) (Nat.le_of_ble_eq_true rfl) q50 (by decide) rfl (Nat.le_of_ble_eq_true rfl) rfl (S_X4_wrong h) (fun r18 M17 h => ?_)
            exact R 73 _ _ _ dX4_readPlan_73 h.1.1 h.2
        · have h := h2 c
          clear h1 h2
          refine G_iconst (v := 0) C dX4_readPlan_54 (by decide) ?_
          exact R 55 _ _ _ dX4_readPlan_55 rfl h
      · have h := h2 c
        clear h1 h2
        refine G_iconst (v := 1) C dX4_readPlan_44 (by decide) ?_
        exact R 45 _ _ _ dX4_readPlan_45 rfl h
set_option maxRecDepth 100000 in
set_option maxHeartbeats 4000000 in
theorem S_X4_readPlan {ω : WD} {M : Mem} {post : Int32 → Mem → Prop} (h : w_X4_readPlan M post) : MtI ω yX4_readPlan cX4_readPlan 3 (some .boolean) 3 [.ref (adr ω 50)] M post := by
  refine MtI.start (ty := .boolean) rfl (by decide +kernel) (own := RX4) rfl (Nat.le_of_ble_eq_true rfl) (fun ρ C R => ?_)
  show G ω ρ M 0 [(0, .ref (adr ω 50))] []
  refine G_aload_n C dX4_readPlan_0 0 rfl ?_
  refine gf_X4_46 C dX4_readPlan_1 ?_
  obtain ⟨h1, h2⟩ := h
  refine G_if_eq (tgt := 13) C dX4_readPlan_4 (by decide) (fun c => ?_) (fun c => ?_)
  · have h := h1 c
    clear h1 h2
    refine G_aload_n C dX4_readPlan_13 0 rfl ?_
    refine G_iconst (v := 1) C dX4_readPlan_14 (by decide) ?_
    refine pf_X4_46 C zb_1 dX4_readPlan_15 (fun M19 eM19 => ?_)
    replace h := h M19 eM19
    refine G_iconst (v := 0) C dX4_readPlan_18 (by decide) ?_
    refine G_istore_n C dX4_readPlan_19 (by decide) (lv' := [(1, .int 0), (0, .ref (adr ω 50))]) rfl ?_
    refine G_sub [1, 0] (lv' := [(0, .ref (adr ω 50)), (1, .int 0)]) rfl ?_
    obtain ⟨f, h⟩ := h
    exact s_X4_readPlan_L20 C R  f _ _ h
  · have h := h2 c
    clear h1 h2
    refine G_aload_n C dX4_readPlan_7 0 rfl ?_
    refine G_iconst (v := 4) C dX4_readPlan_8 (by decide) ?_
    refine G_callI (As := [.int 4]) (rest := []) C dX4_readPlan_9 lk_X4_68 (Nat.le_of_ble_eq_true rfl) (Nat.le_of_ble_eq_true rfl) q50 (by decide) rfl (Nat.le_of_ble_eq_true rfl) rfl (S_X4_wrong h) (fun r21 M20 h => ?_)
    exact R 12 _ _ _ dX4_readPlan_12 h.1.1 h.2
theorem dX4_readLine_0 : decode cX4_readLine 0 = .ok (.aload_n 0, 1) := by decide +kernel
theorem dX4_readLine_1 : decode cX4_readLine 1 = .ok (.iconst 1, 1) := by decide +kernel
theorem dX4_readLine_2 : decode cX4_readLine 2 = .ok (.invokevirtual 80, 3) := by decide +kernel
theorem dX4_readLine_5 : decode cX4_readLine 5 = .ok (.ifCond .ne 5, 3) := by decide +kernel
theorem dX4_readLine_8 : decode cX4_readLine 8 = .ok (.iconst 0, 1) := by decide +kernel
theorem dX4_readLine_9 : decode cX4_readLine 9 = .ok (.ireturn, 1) := by decide +kernel
theorem dX4_readLine_10 : decode cX4_readLine 10 = .ok (.aload_n 0, 1) := by decide +kernel
theorem dX4_readLine_11 : decode cX4_readLine 11 = .ok (.getfield 12, 3) := by decide +kernel
theorem dX4_readLine_14 : decode cX4_readLine 14 = .ok (.ldc 86, 2) := by decide +kernel
theorem dX4_readLine_16 : decode cX4_readLine 16 = .ok (.invokevirtual 88, 3) := by decide +kernel
theorem dX4_readLine_19 : decode cX4_readLine 19 = .ok (.ifCond .eq 8, 3) := by decide +kernel
theorem dX4_readLine_22 : decode cX4_readLine 22 = .ok (.aload_n 0, 1) := by decide +kernel
theorem dX4_readLine_23 : decode cX4_readLine 23 = .ok (.invokevirtual 92, 3) := by decide +kernel
theorem dX4_readLine_26 : decode cX4_readLine 26 = .ok (.ireturn, 1) := by decide +kernel
theorem dX4_readLine_27 : decode cX4_readLine 27 = .ok (.aload_n 0, 1) := by decide +kernel
theorem dX4_readLine_28 : decode cX4_readLine 28 = .ok (.getfield 12, 3) := by decide +kernel
theorem dX4_readLine_31 : decode cX4_readLine 31 = .ok (.ldc 95, 2) := by decide +kernel
theorem dX4_readLine_33 : decode cX4_readLine 33 = .ok (.invokevirtual 88, 3) := by decide +kernel
theorem dX4_readLine_36 : decode cX4_readLine 36 = .ok (.ifCond .eq 8, 3) := by decide +kernel
theorem dX4_readLine_39 : decode cX4_readLine 39 = .ok (.aload_n 0, 1) := by decide +kernel
theorem dX4_readLine_40 : decode cX4_readLine 40 = .ok (.invokevirtual 97, 3) := by decide +kernel
theorem dX4_readLine_43 : decode cX4_readLine 43 = .ok (.ireturn, 1) := by decide +kernel
theorem dX4_readLine_44 : decode cX4_readLine 44 = .ok (.aload_n 0, 1) := by decide +kernel
theorem dX4_readLine_45 : decode cX4_readLine 45 = .ok (.getfield 12, 3) := by decide +kernel
theorem dX4_readLine_48 : decode cX4_readLine 48 = .ok (.ldc 100, 2) := by decide +kernel
theorem dX4_readLine_50 : decode cX4_readLine 50 = .ok (.invokevirtual 88, 3) := by decide +kernel
theorem dX4_readLine_53 : decode cX4_readLine 53 = .ok (.ifCond .eq 9, 3) := by decide +kernel
theorem dX4_readLine_56 : decode cX4_readLine 56 = .ok (.aload_n 0, 1) := by decide +kernel
theorem dX4_readLine_57 : decode cX4_readLine 57 = .ok (.iconst 0, 1) := by decide +kernel
theorem dX4_readLine_58 : decode cX4_readLine 58 = .ok (.invokevirtual 102, 3) := by decide +kernel
theorem dX4_readLine_61 : decode cX4_readLine 61 = .ok (.ireturn, 1) := by decide +kernel
theorem dX4_readLine_62 : decode cX4_readLine 62 = .ok (.aload_n 0, 1) := by decide +kernel
theorem dX4_readLine_63 : decode cX4_readLine 63 = .ok (.getfield 12, 3) := by decide +kernel
theorem dX4_readLine_66 : decode cX4_readLine 66 = .ok (.ldc 105, 2) := by decide +kernel
theorem dX4_readLine_68 : decode cX4_readLine 68 = .ok (.invokevirtual 88, 3) := by decide +kernel
theorem dX4_readLine_71 : decode cX4_readLine 71 = .ok (.ifCond .eq 9, 3) := by decide +kernel
theorem dX4_readLine_74 : decode cX4_readLine 74 = .ok (.aload_n 0, 1) := by decide +kernel
theorem dX4_readLine_75 : decode cX4_readLine 75 = .ok (.iconst 1, 1) := by decide +kernel
theorem dX4_readLine_76 : decode cX4_readLine 76 = .ok (.invokevirtual 102, 3) := by decide +kernel
theorem dX4_readLine_79 : decode cX4_readLine 79 = .ok (.ireturn, 1) := by decide +kernel
theorem dX4_readLine_80 : decode cX4_readLine 80 = .ok (.aload_n 0, 1) := by decide +kernel
theorem dX4_readLine_81 : decode cX4_readLine 81 = .ok (.getfield 12, 3) := by decide +kernel
theorem dX4_readLine_84 : decode cX4_readLine 84 = .ok (.ldc 107, 2) := by decide +kernel
theorem dX4_readLine_86 : decode cX4_readLine 86 = .ok (.invokevirtual 88, 3) := by decide +kernel
theorem dX4_readLine_89 : decode cX4_readLine 89 = .ok (.ifCond .eq 9, 3) := by decide +kernel
theorem dX4_readLine_92 : decode cX4_readLine 92 = .ok (.aload_n 0, 1) := by decide +kernel
theorem dX4_readLine_93 : decode cX4_readLine 93 = .ok (.iconst 2, 1) := by decide +kernel
theorem dX4_readLine_94 : decode cX4_readLine 94 = .ok (.invokevirtual 102, 3) := by decide +kernel
theorem dX4_readLine_97 : decode cX4_readLine 97 = .ok (.ireturn, 1) := by decide +kernel
theorem dX4_readLine_98 : decode cX4_readLine 98 = .ok (.aload_n 0, 1) := by decide +kernel
theorem dX4_readLine_99 : decode cX4_readLine 99 = .ok (.getfield 12, 3) := by decide +kernel
theorem dX4_readLine_102 : decode cX4_readLine 102 = .ok (.ldc 109, 2) := by decide +kernel
theorem dX4_readLine_104 : decode cX4_readLine 104 = .ok (.invokevirtual 88, 3) := by decide +kernel
theorem dX4_readLine_107 : decode cX4_readLine 107 = .ok (.ifCond .eq 9, 3) := by decide +kernel
theorem dX4_readLine_110 : decode cX4_readLine 110 = .ok (.aload_n 0, 1) := by decide +kernel
theorem dX4_readLine_111 : decode cX4_readLine 111 = .ok (.iconst 3, 1) := by decide +kernel
theorem dX4_readLine_112 : decode cX4_readLine 112 = .ok (.invokevirtual 102, 3) := by decide +kernel
theorem dX4_readLine_115 : decode cX4_readLine 115 = .ok (.ireturn, 1) := by decide +kernel
theorem dX4_readLine_116 : decode cX4_readLine 116 = .ok (.aload_n 0, 1) := by decide +kernel
theorem dX4_readLine_117 : decode cX4_readLine 117 = .ok (.getfield 12, 3) := by decide +kernel
theorem dX4_readLine_120 : decode cX4_readLine 120 = .ok (.ldc 111, 2) := by decide +kernel
theorem dX4_readLine_122 : decode cX4_readLine 122 = .ok (.invokevirtual 88, 3) := by decide +kernel
theorem dX4_readLine_125 : decode cX4_readLine 125 = .ok (.ifCond .eq 8, 3) := by decide +kernel
theorem dX4_readLine_128 : decode cX4_readLine 128 = .ok (.aload_n 0, 1) := by decide +kernel
theorem dX4_readLine_129 : decode cX4_readLine 129 = .ok (.invokevirtual 113, 3) := by decide +kernel
theorem dX4_readLine_132 : decode cX4_readLine 132 = .ok (.ireturn, 1) := by decide +kernel
theorem dX4_readLine_133 : decode cX4_readLine 133 = .ok (.aload_n 0, 1) := by decide +kernel
theorem dX4_readLine_134 : decode cX4_readLine 134 = .ok (.iconst 2, 1) := by decide +kernel
theorem dX4_readLine_135 : decode cX4_readLine 135 = .ok (.invokevirtual 68, 3) := by decide +kernel
theorem dX4_readLine_138 : decode cX4_readLine 138 = .ok (.ireturn, 1) := by decide +kernel
theorem lk_X4_88 : LkV RX4 88 RX7 yX7_spells cX7_spells 3 (some .boolean) 1 := LkV.of 475 476 477 68 478 (by decide +kernel) (by decide +kernel) (by decide +kernel) (by decide +kernel) (by decide +kernel) (by decide +kernel)
theorem lk_X4_113 : LkV RX4 113 RX4 yX4_readPlan cX4_readPlan 3 (some .boolean) 0 := LkV.of 572 573 574 67 575 (by decide +kernel) (by decide +kernel) (by decide +kernel) (by decide +kernel) (by decide +kernel) (by decide +kernel)
theorem lk_X4_102 : LkV RX4 102 RX4 yX4_readGroup cX4_readGroup 3 (some .boolean) 1 := LkV.of 560 561 562 67 563 (by decide +kernel) (by decide +kernel) (by decide +kernel) (by decide +kernel) (by decide +kernel) (by decide +kernel)
theorem lk_X4_97 : LkV RX4 97 RX4 yX4_readFinders cX4_readFinders 1 (some .boolean) 0 := LkV.of 551 552 553 67 554 (by decide +kernel) (by decide +kernel) (by decide +kernel) (by decide +kernel) (by decide +kernel) (by decide +kernel)
theorem lk_X4_92 : LkV RX4 92 RX4 yX4_readOne cX4_readOne 1 (some .boolean) 0 := LkV.of 527 528 529 67 530 (by decide +kernel) (by decide +kernel) (by decide +kernel) (by decide +kernel) (by decide +kernel) (by decide +kernel)
set_option maxRecDepth 100000 in
set_option maxHeartbeats 4000000 in
theorem S_X4_readLine {ω : WD} {M : Mem} {post : Int32 → Mem → Prop} (h : w_X4_readLine M post) : MtI ω yX4_readLine cX4_readLine 1 (some .boolean) 5 [.ref (adr ω 50)] M post := by
  refine MtI.start (ty := .boolean) rfl (by decide +kernel) (own := RX4) rfl (Nat.le_of_ble_eq_true rfl) (fun ρ C R => ?_)
  show G ω ρ M 0 [(0, .ref (adr ω 50))] []
  refine G_aload_n C dX4_readLine_0 0 rfl ?_
  refine G_iconst (v := 1) C dX4_readLine_1 (by decide) ?_
  refine G_callI (As := [.int 1]) (rest := []) C dX4_readLine_2 lk_X4_80 (Nat.le_of_ble_eq_true rfl) (Nat.le_of_ble_eq_true rfl) q50 (by decide) rfl (Nat.le_of_ble_eq_true rfl) rfl (S_X4_stands h) (fun r2 M1 h => ?_)
  obtain ⟨h1, h2⟩ := h
  refine G_if_ne (tgt := 10) C dX4_readLine_5 (by decide) (fun c => ?_) (fun c => ?_)
  · have h := h1 c
    clear h1 h2
    refine G_aload_n C dX4_readLine_10 0 rfl ?_
    refine gf_X4_12 C dX4_readLine_11 ?_
    refine G_ldcS (j := 0) C rfl dX4_readLine_14 (by decide) rfl ?_
    refine G_callI (As := [.ref (ω.2.2.2.2.1 0)]) (rest := []) C dX4_readLine_16 lk_X4_88 (Nat.le_of_ble_eq_true rfl) (Nat.le_of_ble_eq_true rfl) q51 (by decide) rfl (Nat.le_of_ble_eq_true rfl) rfl (S_X7_spells (by decide) h) (fun r4 M3 h => ?_)
    obtain ⟨h1, h2⟩ := h
    refine G_if_eq (tgt := 27) C dX4_readLine_19 (by decide) (fun c => ?_) (fun c => ?_)
    · have h := h1 c
      clear h1 h2
      refine G_aload_n C dX4_readLine_27 0 rfl ?_
      refine gf_X4_12 C dX4_readLine_28 ?_
      refine G_ldcS (j := 1) C rfl dX4_readLine_31 (by decide) rfl ?_
      refine G_callI (As := [.ref (ω.2.2.2.2.1 1)]) (rest := []) C dX4_readLine_33 lk_X4_88 (Nat.le_of_ble_eq_true rfl) (Nat.le_of_ble_eq_true rfl) q51 (by decide) rfl (Nat.le_of_ble_eq_true rfl) rfl (S_X7_spells (by decide) h) (fun r6 M5 h => ?_)
      obtain ⟨h1, h2⟩ := h
      refine G_if_eq (tgt := 44) C dX4_readLine_36 (by decide) (fun c => ?_) (fun c => ?_)
      · have h := h1 c
        clear h1 h2
        refine G_aload_n C dX4_readLine_44 0 rfl ?_
        refine gf_X4_12 C dX4_readLine_45 ?_
        refine G_ldcS (j := 2) C rfl dX4_readLine_48 (by decide) rfl ?_
        refine G_callI (As := [.ref (ω.2.2.2.2.1 2)]) (rest := []) C dX4_readLine_50 lk_X4_88 (Nat.le_of_ble_eq_true rfl) (Nat.le_of_ble_eq_true rfl) q51 (by decide) rfl (Nat.le_of_ble_eq_true rfl) rfl (S_X7_spells (by decide) h) (fun r8 M7 h => ?_)
        obtain ⟨h1, h2⟩ := h
        refine G_if_eq (tgt := 62) C dX4_readLine_53 (by decide) (fun c => ?_) (fun c => ?_)
        · have h := h1 c
          clear h1 h2
          refine G_aload_n C dX4_readLine_62 0 rfl ?_
          refine gf_X4_12 C dX4_readLine_63 ?_
          refine G_ldcS (j := 3) C rfl dX4_readLine_66 (by decide) rfl ?_
          refine G_callI (As := [.ref (ω.2.2.2.2.1 3)]) (rest := []) C dX4_readLine_68 lk_X4_88 (Nat.le_of_ble_eq_true rfl) (Nat.le_of_ble_eq_true rfl) q51 (by decide) rfl (Nat.le_of_ble_eq_true rfl) rfl (S_X7_spells (by decide) h) (fun r10 M9 h => ?_)
          obtain ⟨h1, h2⟩ := h
          refine G_if_eq (tgt := 80) C dX4_readLine_71 (by decide) (fun c => ?_) (fun c => ?_)
          · have h := h1 c
            clear h1 h2
            refine G_aload_n C dX4_readLine_80 0 rfl ?_
            refine gf_X4_12 C dX4_readLine_81 ?_
            refine G_ldcS (j := 4) C rfl dX4_readLine_84 (by decide) rfl ?_
            refine G_callI (As := [.ref (ω.2.2.2.2.1 4)]) (rest := []) C dX4_readLine_86 lk_X4_88 (Nat.le_of_ble_eq_true rfl) (Nat.le_of_ble_eq_true rfl) q51 (by decide) rfl (Nat.le_of_ble_eq_true rfl) rfl (S_X7_spells (by decide) h) (fun r12 M11 h => ?_)
            obtain ⟨h1, h2⟩ := h
            refine G_if_eq (tgt := 98) C dX4_readLine_89 (by decide) (fun c => ?_) (fun c => ?_)
            · have h := h1 c
              clear h1 h2
              refine G_aload_n C dX4_readLine_98 0 rfl ?_
              refine gf_X4_12 C dX4_readLine_99 ?_
              refine G_ldcS (j := 5) C rfl dX4_readLine_102 (by decide) rfl ?_
              refine G_callI (As := [.ref (ω.2.2.2.2.1 5)]) (rest := []) C dX4_readLine_104 lk_X4_88 (Nat.le_of_ble_eq_true rfl) (Nat.le_of_ble_eq_true rfl) q51 (by decide) rfl (Nat.le_of_ble_eq_true rfl) rfl (S_X7_spells (by decide) h) (fun r14 M13 h => ?_)
              obtain ⟨h1, h2⟩ := h
              refine G_if_eq (tgt := 116) C dX4_readLine_107 (by decide) (fun c => ?_) (fun c => ?_)
              · have h := h1 c
                clear h1 h2
                refine G_aload_n C dX4_readLine_116 0 rfl ?_
                refine gf_X4_12 C dX4_readLine_117 ?_
                refine G_ldcS (j := 6) C rfl dX4_readLine_120 (by decide) rfl ?_
                refine G_callI (As := [.ref (ω.2.2.2.2.1 6)]) (rest := []) C dX4_readLine_122 lk_X4_88 (Nat.le_of_ble_eq_true rfl) (Nat.le_of_ble_eq_true rfl) q51 (by decide) rfl (Nat.le_of_ble_eq_true rfl) rfl (S_X7_spells (by decide) h) (fun r16 M15 h => ?_)
                obtain ⟨h1, h2⟩ := h
                refine G_if_eq (tgt := 133) C dX4_readLine_125 (by decide) (fun c => ?_) (fun c => ?_)
                · have h := h1 c
                  clear h1 h2
                  refine G_aload_n C dX4_readLine_133 0 rfl ?_
                  refine G_iconst (v := 2) C dX4_readLine_134 (by decide) ?_
                  refine G_callI (As := [.int 2]) (rest := []) C dX4_readLine_135 lk_X4_68 (Nat.le_of_ble_eq_true rfl) (Nat.le_of_ble_eq_true rfl) q50 (by decide) rfl (Nat.le_of_ble_eq_true rfl) rfl (S_X4_wrong h) (fun r18 M17 h => ?_)
                  exact R 138 _ _ _ dX4_readLine_138 h.1.1 h.2
                · have h := h2 c
                  clear h1 h2
                  refine G_aload_n C dX4_readLine_128 0 rfl ?_
                  refine G_callI (As := []) (rest := []) C dX4_readLine_129 lk_X4_113 (Nat.le_of_ble_eq_true rfl) (Nat.le_of_ble_eq_true rfl) q50 (by decide) rfl (Nat.le_of_ble_eq_true rfl) rfl (S_X4_readPlan h) (fun r20 M19 h => ?_)
                  exact R 132 _ _ _ dX4_readLine_132 h.1.1 h.2
              · have h := h2 c
                clear h1 h2
                refine G_aload_n C dX4_readLine_110 0 rfl ?_
                refine G_iconst (v := 3) C dX4_readLine_111 (by decide) ?_
                refine G_callI (As := [.int 3]) (rest := []) C dX4_readLine_112 lk_X4_102 (Nat.le_of_ble_eq_true rfl) (Nat.le_of_ble_eq_true rfl) q50 (by decide) rfl (Nat.le_of_ble_eq_true rfl) rfl (S_X4_readGroup h) (fun r22 M21 h => ?_)
                exact R 115 _ _ _ dX4_readLine_115 h.1.1 h.2
            · have h := h2 c
              clear h1 h2
              refine G_aload_n C dX4_readLine_92 0 rfl ?_
              refine G_iconst (v := 2) C dX4_readLine_93 (by decide) ?_
              refine G_callI (As := [.int 2]) (rest := []) C dX4_readLine_94 lk_X4_102 (Nat.le_of_ble_eq_true rfl) (Nat.le_of_ble_eq_true rfl) q50 (by decide) rfl (Nat.le_of_ble_eq_true rfl) rfl (S_X4_readGroup h) (fun r24 M23 h => ?_)
              exact R 97 _ _ _ dX4_readLine_97 h.1.1 h.2
          · have h := h2 c
            clear h1 h2
            refine G_aload_n C dX4_readLine_74 0 rfl ?_
            refine G_iconst (v := 1) C dX4_readLine_75 (by decide) ?_
            refine G_callI (As := [.int 1]) (rest := []) C dX4_readLine_76 lk_X4_102 (Nat.le_of_ble_eq_true rfl) (Nat.le_of_ble_eq_true rfl) q50 (by decide) rfl (Nat.le_of_ble_eq_true rfl) rfl (S_X4_readGroup h) (fun r26 M25 h => ?_)
            exact R 79 _ _ _ dX4_readLine_79 h.1.1 h.2
        · have h := h2 c
          clear h1 h2
          refine G_aload_n C dX4_readLine_56 0 rfl ?_
          refine G_iconst (v := 0) C dX4_readLine_57 (by decide) ?_
          refine G_callI (As := [.int 0]) (rest := []) C dX4_readLine_58 lk_X4_102 (Nat.le_of_ble_eq_true rfl) (Nat.le_of_ble_eq_true rfl) q50 (by decide) rfl (Nat.le_of_ble_eq_true rfl) rfl (S_X4_readGroup h) (fun r28 M27 h => ?_)
          exact R 61 _ _ _ dX4_readLine_61 h.1.1 h.2
      · have h := h2 c
        clear h1 h2
        refine G_aload_n C dX4_readLine_39 0 rfl ?_
        refine G_callI (As := []) (rest := []) C dX4_readLine_40 lk_X4_97 (Nat.le_of_ble_eq_true rfl) (Nat.le_of_ble_eq_true rfl) q50 (by decide) rfl (Nat.le_of_ble_eq_true rfl) rfl (S_X4_readFinders h) (fun r30 M29 h => ?_)
        exact R 43 _ _ _ dX4_readLine_43 h.1.1 h.2
    · have h := h2 c
      clear h1 h2
      refine G_aload_n C dX4_readLine_22 0 rfl ?_
      refine G_callI (As := []) (rest := []) C dX4_readLine_23 lk_X4_92 (Nat.le_of_ble_eq_true rfl) (Nat.le_of_ble_eq_true rfl) q50 (by decide) rfl (Nat.le_of_ble_eq_true rfl) rfl (S_X4_readOne h) (fun r32 M31 h => ?_)
      exact R 26 _ _ _ dX4_readLine_26 h.1.1 h.2
  · have h := h2 c
    clear h1 h2
    refine G_iconst (v := 0) C dX4_readLine_8 (by decide) ?_
    exact R 9 _ _ _ dX4_readLine_9 rfl h
theorem dX4_readAll_0 : decode cX4_readAll 0 = .ok (.aload_n 0, 1) := by decide +kernel
theorem dX4_readAll_1 : decode cX4_readAll 1 = .ok (.invokevirtual 52, 3) := by decide +kernel
theorem dX4_readAll_4 : decode cX4_readAll 4 = .ok (.iconst 0, 1) := by decide +kernel
theorem dX4_readAll_5 : decode cX4_readAll 5 = .ok (.istore_n 1, 1) := by decide +kernel
theorem dX4_readAll_6 : decode cX4_readAll 6 = .ok (.iload_n 1, 1) := by decide +kernel
theorem dX4_readAll_7 : decode cX4_readAll 7 = .ok (.sipush 160, 3) := by decide +kernel
theorem dX4_readAll_10 : decode cX4_readAll 10 = .ok (.if_icmp .gt 50, 3) := by decide +kernel
theorem dX4_readAll_13 : decode cX4_readAll 13 = .ok (.aload_n 0, 1) := by decide +kernel
theorem dX4_readAll_14 : decode cX4_readAll 14 = .ok (.getfield 12, 3) := by decide +kernel
theorem dX4_readAll_17 : decode cX4_readAll 17 = .ok (.invokevirtual 55, 3) := by decide +kernel
theorem dX4_readAll_20 : decode cX4_readAll 20 = .ok (.aload_n 0, 1) := by decide +kernel
theorem dX4_readAll_21 : decode cX4_readAll 21 = .ok (.getfield 12, 3) := by decide +kernel
theorem dX4_readAll_24 : decode cX4_readAll 24 = .ok (.getfield 58, 3) := by decide +kernel
theorem dX4_readAll_27 : decode cX4_readAll 27 = .ok (.ifCond .ne 8, 3) := by decide +kernel
theorem dX4_readAll_30 : decode cX4_readAll 30 = .ok (.aload_n 0, 1) := by decide +kernel
theorem dX4_readAll_31 : decode cX4_readAll 31 = .ok (.invokevirtual 61, 3) := by decide +kernel
theorem dX4_readAll_34 : decode cX4_readAll 34 = .ok (.ireturn, 1) := by decide +kernel
theorem dX4_readAll_35 : decode cX4_readAll 35 = .ok (.aload_n 0, 1) := by decide +kernel
theorem dX4_readAll_36 : decode cX4_readAll 36 = .ok (.invokevirtual 65, 3) := by decide +kernel
theorem dX4_readAll_39 : decode cX4_readAll 39 = .ok (.ifCond .ne 5, 3) := by decide +kernel
theorem dX4_readAll_42 : decode cX4_readAll 42 = .ok (.iconst 0, 1) := by decide +kernel
theorem dX4_readAll_43 : decode cX4_readAll 43 = .ok (.ireturn, 1) := by decide +kernel
theorem dX4_readAll_44 : decode cX4_readAll 44 = .ok (.aload_n 0, 1) := by decide +kernel
theorem dX4_readAll_45 : decode cX4_readAll 45 = .ok (.dup, 1) := by decide +kernel
theorem dX4_readAll_46 : decode cX4_readAll 46 = .ok (.getfield 32, 3) := by decide +kernel
theorem dX4_readAll_49 : decode cX4_readAll 49 = .ok (.iconst 1, 1) := by decide +kernel
theorem dX4_readAll_50 : decode cX4_readAll 50 = .ok (.iadd, 1) := by decide +kernel
theorem dX4_readAll_51 : decode cX4_readAll 51 = .ok (.putfield 32, 3) := by decide +kernel
theorem dX4_readAll_54 : decode cX4_readAll 54 = .ok (.iinc 1 1, 3) := by decide +kernel
theorem dX4_readAll_57 : decode cX4_readAll 57 = .ok (.goto (-51), 3) := by decide +kernel
theorem dX4_readAll_60 : decode cX4_readAll 60 = .ok (.aload_n 0, 1) := by decide +kernel
theorem dX4_readAll_61 : decode cX4_readAll 61 = .ok (.iconst 2, 1) := by decide +kernel
theorem dX4_readAll_62 : decode cX4_readAll 62 = .ok (.invokevirtual 68, 3) := by decide +kernel
theorem dX4_readAll_65 : decode cX4_readAll 65 = .ok (.ireturn, 1) := by decide +kernel
theorem lk_X4_65 : LkV RX4 65 RX4 yX4_readLine cX4_readLine 1 (some .boolean) 0 := LkV.of 466 467 468 67 469 (by decide +kernel) (by decide +kernel) (by decide +kernel) (by decide +kernel) (by decide +kernel) (by decide +kernel)
theorem gf_X4_32 {ω : WD} {ρ : FR} {M : Mem} {cc : ByteArray} {d n pc : Nat} {lv : List (Nat × Value)} {rest : List Value} (C : Cx ω ρ cc RX4 d n) (hd : decode cc pc = .ok (.getfield 32, 3)) (k : G ω ρ M (pc + 3) lv (.int (rd M 50 3) :: rest)) : G ω ρ M pc lv (.ref (adr ω 50) :: rest) := G_get (N := 9) (T := TX4) (C := RX4) (q := 3) C (q50 : isK 4 50) (by decide) rfl in_X4 (by decide) (tb_of 301 ⟨by decide +kernel, rfl⟩) rfl rfl hd k
theorem lk_X4_61 : LkV RX4 61 RX4 yX4_hasAllOnes cX4_hasAllOnes 2 (some .boolean) 0 := LkV.of 454 455 456 67 457 (by decide +kernel) (by decide +kernel) (by decide +kernel) (by decide +kernel) (by decide +kernel) (by decide +kernel)
theorem lk_X4_52 : LkV RX4 52 RX4 yX4_begin cX4_begin 1 none 0 := LkV.of 422 423 424 67 425 (by decide +kernel) (by decide +kernel) (by decide +kernel) (by decide +kernel) (by decide +kernel) (by decide +kernel)
set_option maxRecDepth 100000 in
set_option maxHeartbeats 4000000 in
theorem s_X4_readAll_L6 {ω : WD} {ρ : FR} {post : Int32 → Mem → Prop} (C : Cx ω ρ cX4_readAll RX4 6 2) (R : RtI ω ρ cX4_readAll .boolean post) : ∀ (f : Nat) (l1 : Int32) (M : Mem), w_X4_readAll_L6 post f l1 M → G ω ρ M 6 [(0, .ref (adr ω 50)), (1, .int l1)] [] := by
  intro f
  induction f with
  | zero => intro l1 M h; exact False.elim h
  | succ f k6 =>
    intro l1 M h
    refine G_iload_n C dX4_readAll_6 1 rfl ?_
    refine G_sipush (v := 160) C dX4_readAll_7 (by decide) ?_
    obtain ⟨h1, h2⟩ := h
    refine G_icmp_gt (tgt := 60) C dX4_readAll_10 (by decide) (fun c => ?_) (fun c => ?_)
    · have h := h1 c
      clear h1 h2
      refine G_aload_n C dX4_readAll_60 0 rfl ?_
      refine G_iconst (v := 2) C dX4_readAll_61 (by decide) ?_
      refine G_callI (As := [.int 2]) (rest := []) C dX4_readAll_62 lk_X4_68 (Nat.le_of_ble_eq_true rfl) (Nat.le_of_ble_eq_true rfl) q50 (by decide) rfl (Nat.le_of_ble_eq_true rfl) rfl (S_X4_wrong h) (fun r2 M1 h => ?_)
      exact R 65 _ _ _ dX4_readAll_65 h.1.1 h.2
    · have h := h2 c
      clear h1 h2
      refine G_aload_n C dX4_readAll_13 0 rfl ?_
      refine gf_X4_12 C dX4_readAll_14 ?_
      refine G_callV (As := []) (rest := []) C dX4_readAll_17 lk_X4_55 (Nat.le_of_ble_eq_true rfl) (Nat.le_of_ble_eq_true rfl) q51 (by decide) rfl (Nat.le_of_ble_eq_true rfl) rfl (S_X7_next h) (fun M3 h => ?_)
      refine G_aload_n C dX4_readAll_20 0 rfl ?_
      refine gf_X4_12 C dX4_readAll_21 ?_
      refine gf_X4_58 C dX4_readAll_24 ?_
      obtain ⟨h1, h2⟩ := h
      refine G_if_ne (tgt := 35) C dX4_readAll_27 (by decide) (fun c => ?_) (fun c => ?_)
      · have h := h1 c
        clear h1 h2
        refine G_aload_n C dX4_readAll_35 0 rfl ?_
        refine G_callI (As := []) (rest := []) C dX4_readAll_36 lk_X4_65 (Nat.le_of_ble_eq_true rfl) (Nat.le_of_ble_eq_true rfl) q50 (by decide) rfl (Nat.le_of_ble_eq_true rfl) rfl (S_X4_readLine h) (fun r5 M4 h => ?_)
        obtain ⟨h1, h2⟩ := h
        refine G_if_ne (tgt := 44) C dX4_readAll_39 (by decide) (fun c => ?_) (fun c => ?_)
        · have h := h1 c
          clear h1 h2
          refine G_aload_n C dX4_readAll_44 0 rfl ?_
          refine G_dup C dX4_readAll_45 rfl ?_
          refine gf_X4_32 C dX4_readAll_46 ?_
          refine G_iconst (v := 1) C dX4_readAll_49 (by decide) ?_
          refine G_iadd C dX4_readAll_50 ?_
          refine pf_X4_32 C dX4_readAll_51 (fun M6 eM6 => ?_)
          replace h := h M6 eM6
          obtain ⟨v7, ev7⟩ : ∃ y : Int32, y = (l1 + 1) := ⟨_, rfl⟩
          replace h := h v7 ev7
          refine G_iinc C dX4_readAll_54 1 rfl (v := v7) (by rw [ev7]; rfl) (by decide) (lv' := [(1, .int v7), (0, .ref (adr ω 50))]) rfl ?_
          refine G_goto (tgt := 6) C dX4_readAll_57 (by decide) ?_
          refine G_sub [1, 0] (lv' := [(0, .ref (adr ω 50)), (1, .int v7)]) rfl ?_
          exact k6 _ _ h
        · have h := h2 c
          clear h1 h2
          refine G_iconst (v := 0) C dX4_readAll_42 (by decide) ?_
          exact R 43 _ _ _ dX4_readAll_43 rfl h
      · have h := h2 c
        clear h1 h2
        refine G_aload_n C dX4_readAll_30 0 rfl ?_
        refine G_callI (As := []) (rest := []) C dX4_readAll_31 lk_X4_61 (Nat.le_of_ble_eq_true rfl) (Nat.le_of_ble_eq_true rfl) q50 (by decide) rfl (Nat.le_of_ble_eq_true rfl) rfl (S_X4_hasAllOnes h) (fun r9 M8 h => ?_)
        exact R 34 _ _ _ dX4_readAll_34 h.1.1 h.2
set_option maxRecDepth 100000 in
set_option maxHeartbeats 4000000 in
theorem S_X4_readAll {ω : WD} {M : Mem} {post : Int32 → Mem → Prop} (h : w_X4_readAll M post) : MtI ω yX4_readAll cX4_readAll 2 (some .boolean) 6 [.ref (adr ω 50)] M post := by
  refine MtI.start (ty := .boolean) rfl (by decide +kernel) (own := RX4) rfl (Nat.le_of_ble_eq_true rfl) (fun ρ C R => ?_)
  show G ω ρ M 0 [(0, .ref (adr ω 50))] []
  refine G_aload_n C dX4_readAll_0 0 rfl ?_
  refine G_callV (As := []) (rest := []) C dX4_readAll_1 lk_X4_52 (Nat.le_of_ble_eq_true rfl) (Nat.le_of_ble_eq_true rfl) q50 (by decide) rfl (Nat.le_of_ble_eq_true rfl) rfl (S_X4_begin h) (fun M10 h => ?_)
  refine G_iconst (v := 0) C dX4_readAll_4 (by decide) ?_
  refine G_istore_n C dX4_readAll_5 (by decide) (lv' := [(1, .int 0), (0, .ref (adr ω 50))]) rfl ?_
  refine G_sub [1, 0] (lv' := [(0, .ref (adr ω 50)), (1, .int 0)]) rfl ?_
  obtain ⟨f, h⟩ := h
  exact s_X4_readAll_L6 C R  f _ _ h
