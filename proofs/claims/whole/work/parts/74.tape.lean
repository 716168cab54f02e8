theorem dX7_rewind_0 : decode cX7_rewind 0 = .ok (.aload_n 0, 1) := by decide +kernel
theorem dX7_rewind_1 : decode cX7_rewind 1 = .ok (.iconst 0, 1) := by decide +kernel
theorem dX7_rewind_2 : decode cX7_rewind 2 = .ok (.putfield 19, 3) := by decide +kernel
theorem dX7_rewind_5 : decode cX7_rewind 5 = .ok (.aload_n 0, 1) := by decide +kernel
theorem dX7_rewind_6 : decode cX7_rewind 6 = .ok (.iconst 0, 1) := by decide +kernel
theorem dX7_rewind_7 : decode cX7_rewind 7 = .ok (.putfield 22, 3) := by decide +kernel
theorem dX7_rewind_10 : decode cX7_rewind 10 = .ok (.aload_n 0, 1) := by decide +kernel
theorem dX7_rewind_11 : decode cX7_rewind 11 = .ok (.iconst 0, 1) := by decide +kernel
theorem dX7_rewind_12 : decode cX7_rewind 12 = .ok (.putfield 25, 3) := by decide +kernel
theorem dX7_rewind_15 : decode cX7_rewind 15 = .ok (.return_, 1) := by decide +kernel
theorem pf_X7_19 {ω : WD} {ρ : FR} {M : Mem} {cc : ByteArray} {d n pc : Nat} {lv : List (Nat × Value)} {rest : List Value} {v : Int32} (C : Cx ω ρ cc RX7 d n) (hd : decode cc pc = .ok (.putfield 19, 3)) (k : ∀ M1, M1 = wr M 51 2 v → G ω ρ M1 (pc + 3) lv rest) : G ω ρ M pc lv (.int v :: .ref (adr ω 51) :: rest) := G_put (N := 6) (T := TX7) (C := RX7) (q := 2) (ty := .int) C (q51 : isK 7 51) (by decide) rfl in_X7 tyX7 tyX7_ok nmX7 (by decide) (tb_of 271 ⟨by decide +kernel, rfl⟩) rfl rfl (by decide +kernel) rfl rfl (fun _ _ => Nat.le_of_ble_eq_true rfl) (fun _ => rfl) hd (k _ rfl)
theorem pf_X7_22 {ω : WD} {ρ : FR} {M : Mem} {cc : ByteArray} {d n pc : Nat} {lv : List (Nat × Value)} {rest : List Value} {v : Int32} (C : Cx ω ρ cc RX7 d n) (hd : decode cc pc = .ok (.putfield 22, 3)) (k : ∀ M1, M1 = wr M 51 3 v → G ω ρ M1 (pc + 3) lv rest) : G ω ρ M pc lv (.int v :: .ref (adr ω 51) :: rest) := G_put (N := 6) (T := TX7) (C := RX7) (q := 3) (ty := .int) C (q51 : isK 7 51) (by decide) rfl in_X7 tyX7 tyX7_ok nmX7 (by decide) (tb_of 273 ⟨by decide +kernel, rfl⟩) rfl rfl (by decide +kernel) rfl rfl (fun _ _ => Nat.le_of_ble_eq_true rfl) (fun _ => rfl) hd (k _ rfl)
theorem pf_X7_25 {ω : WD} {ρ : FR} {M : Mem} {cc : ByteArray} {d n pc : Nat} {lv : List (Nat × Value)} {rest : List Value} {v : Int32} (C : Cx ω ρ cc RX7 d n) (hd : decode cc pc = .ok (.putfield 25, 3)) (k : ∀ M1, M1 = wr M 51 4 v → G ω ρ M1 (pc + 3) lv rest) : G ω ρ M pc lv (.int v :: .ref (adr ω 51) :: rest) := G_put (N := 6) (T := TX7) (C := RX7) (q := 4) (ty := .int) C (q51 : isK 7 51) (by decide) rfl in_X7 tyX7 tyX7_ok nmX7 (by decide) (tb_of 275 ⟨by decide +kernel, rfl⟩) rfl rfl (by decide +kernel) rfl rfl (fun _ _ => Nat.le_of_ble_eq_true rfl) (fun _ => rfl) hd (k _ rfl)
set_option maxRecDepth 100000 in
set_option maxHeartbeats 4000000 in
theorem S_X7_rewind {ω : WD} {M : Mem} {post : Mem → Prop} (h : w_X7_rewind M post) : MtV ω yX7_rewind cX7_rewind 1 none 0 [.ref (adr ω 51)] M post := by
  refine MtV.start rfl (by decide +kernel) (own := RX7) rfl (Nat.le_of_ble_eq_true rfl) (fun ρ C R => ?_)
  show G ω ρ M 0 [(0, .ref (adr ω 51))] []
  refine G_aload_n C dX7_rewind_0 0 rfl ?_
  refine G_iconst (v := 0) C dX7_rewind_1 (by decide) ?_
  refine pf_X7_19 C dX7_rewind_2 (fun M1 eM1 => ?_)
  replace h := h M1 eM1
  refine G_aload_n C dX7_rewind_5 0 rfl ?_
  refine G_iconst (v := 0) C dX7_rewind_6 (by decide) ?_
  refine pf_X7_22 C dX7_rewind_7 (fun M2 eM2 => ?_)
  replace h := h M2 eM2
  refine G_aload_n C dX7_rewind_10 0 rfl ?_
  refine G_iconst (v := 0) C dX7_rewind_11 (by decide) ?_
  refine pf_X7_25 C dX7_rewind_12 (fun M3 eM3 => ?_)
  replace h := h M3 eM3
  exact R 15 _ _ dX7_rewind_15 h
theorem dX7_kindAt_0 : decode cX7_kindAt 0 = .ok (.iload_n 1, 1) := by decide +kernel
theorem dX7_kindAt_1 : decode cX7_kindAt 1 = .ok (.aload_n 0, 1) := by decide +kernel
theorem dX7_kindAt_2 : decode cX7_kindAt 2 = .ok (.getfield 15, 3) := by decide +kernel
theorem dX7_kindAt_5 : decode cX7_kindAt 5 = .ok (.if_icmp .lt 5, 3) := by decide +kernel
theorem dX7_kindAt_8 : decode cX7_kindAt 8 = .ok (.iconst 0, 1) := by decide +kernel
theorem dX7_kindAt_9 : decode cX7_kindAt 9 = .ok (.ireturn, 1) := by decide +kernel
theorem dX7_kindAt_10 : decode cX7_kindAt 10 = .ok (.aload_n 0, 1) := by decide +kernel
theorem dX7_kindAt_11 : decode cX7_kindAt 11 = .ok (.getfield 9, 3) := by decide +kernel
theorem dX7_kindAt_14 : decode cX7_kindAt 14 = .ok (.iload_n 1, 1) := by decide +kernel
theorem dX7_kindAt_15 : decode cX7_kindAt 15 = .ok (.iaload, 1) := by decide +kernel
theorem dX7_kindAt_16 : decode cX7_kindAt 16 = .ok (.istore_n 2, 1) := by decide +kernel
theorem dX7_kindAt_17 : decode cX7_kindAt 17 = .ok (.iload_n 2, 1) := by decide +kernel
theorem dX7_kindAt_18 : decode cX7_kindAt 18 = .ok (.bipush 97, 2) := by decide +kernel
theorem dX7_kindAt_20 : decode cX7_kindAt 20 = .ok (.if_icmp .lt 11, 3) := by decide +kernel
theorem dX7_kindAt_23 : decode cX7_kindAt 23 = .ok (.iload_n 2, 1) := by decide +kernel
theorem dX7_kindAt_24 : decode cX7_kindAt 24 = .ok (.bipush 122, 2) := by decide +kernel
theorem dX7_kindAt_26 : decode cX7_kindAt 26 = .ok (.if_icmp .gt 5, 3) := by decide +kernel
theorem dX7_kindAt_29 : decode cX7_kindAt 29 = .ok (.iconst 1, 1) := by decide +kernel
theorem dX7_kindAt_30 : decode cX7_kindAt 30 = .ok (.ireturn, 1) := by decide +kernel
theorem dX7_kindAt_31 : decode cX7_kindAt 31 = .ok (.iload_n 2, 1) := by decide +kernel
theorem dX7_kindAt_32 : decode cX7_kindAt 32 = .ok (.bipush 48, 2) := by decide +kernel
theorem dX7_kindAt_34 : decode cX7_kindAt 34 = .ok (.if_icmp .lt 11, 3) := by decide +kernel
theorem dX7_kindAt_37 : decode cX7_kindAt 37 = .ok (.iload_n 2, 1) := by decide +kernel
theorem dX7_kindAt_38 : decode cX7_kindAt 38 = .ok (.bipush 57, 2) := by decide +kernel
theorem dX7_kindAt_40 : decode cX7_kindAt 40 = .ok (.if_icmp .gt 5, 3) := by decide +kernel
theorem dX7_kindAt_43 : decode cX7_kindAt 43 = .ok (.iconst 2, 1) := by decide +kernel
theorem dX7_kindAt_44 : decode cX7_kindAt 44 = .ok (.ireturn, 1) := by decide +kernel
theorem dX7_kindAt_45 : decode cX7_kindAt 45 = .ok (.iload_n 2, 1) := by decide +kernel
theorem dX7_kindAt_46 : decode cX7_kindAt 46 = .ok (.bipush 59, 2) := by decide +kernel
theorem dX7_kindAt_48 : decode cX7_kindAt 48 = .ok (.if_icmp .ne 7, 3) := by decide +kernel
theorem dX7_kindAt_51 : decode cX7_kindAt 51 = .ok (.iconst 3, 1) := by decide +kernel
theorem dX7_kindAt_52 : decode cX7_kindAt 52 = .ok (.goto 4, 3) := by decide +kernel
theorem dX7_kindAt_55 : decode cX7_kindAt 55 = .ok (.iconst 4, 1) := by decide +kernel
theorem dX7_kindAt_56 : decode cX7_kindAt 56 = .ok (.ireturn, 1) := by decide +kernel
theorem gf_X7_15 {ω : WD} {ρ : FR} {M : Mem} {cc : ByteArray} {d n pc : Nat} {lv : List (Nat × Value)} {rest : List Value} (C : Cx ω ρ cc RX7 d n) (hd : decode cc pc = .ok (.getfield 15, 3)) (k : G ω ρ M (pc + 3) lv (.int (rd M 51 1) :: rest)) : G ω ρ M pc lv (.ref (adr ω 51) :: rest) := G_get (N := 6) (T := TX7) (C := RX7) (q := 1) C (q51 : isK 7 51) (by decide) rfl in_X7 (by decide) (tb_of 269 ⟨by decide +kernel, rfl⟩) rfl rfl hd k
theorem gf_X7_9 {ω : WD} {ρ : FR} {M : Mem} {cc : ByteArray} {d n pc : Nat} {lv : List (Nat × Value)} {rest : List Value} (C : Cx ω ρ cc RX7 d n) (hd : decode cc pc = .ok (.getfield 9, 3)) (k : G ω ρ M (pc + 3) lv (.ref (adr ω 52) :: rest)) : G ω ρ M pc lv (.ref (adr ω 51) :: rest) := G_get (N := 6) (T := TX7) (C := RX7) (q := 0) C (q51 : isK 7 51) (by decide) rfl in_X7 (by decide) (tb_of 267 ⟨by decide +kernel, rfl⟩) rfl rfl hd k
set_option maxRecDepth 100000 in
set_option maxHeartbeats 4000000 in
theorem s_X7_kindAt_J45 {ω : WD} {ρ : FR} {post : Int32 → Mem → Prop} (C : Cx ω ρ cX7_kindAt RX7 0 3) (R : RtI ω ρ cX7_kindAt .int post) {l2 : Int32} {M : Mem} (h : w_X7_kindAt_J45 post l2 M) : G ω ρ M 45 [(2, .int l2)] [] := by
  refine G_iload_n C dX7_kindAt_45 0 rfl ?_
  refine G_bipush (v := 59) C dX7_kindAt_46 (by decide) ?_
  obtain ⟨h1, h2⟩ := h
  refine G_icmp_ne (tgt := 55) C dX7_kindAt_48 (by decide) (fun c => ?_) (fun c => ?_)
  · have h := h1 c
    clear h1 h2
    refine G_iconst (v := 4) C dX7_kindAt_55 (by decide) ?_
    exact R 56 _ _ _ dX7_kindAt_56 rfl h
  · have h := h2 c
    clear h1 h2
    refine G_iconst (v := 3) C dX7_kindAt_51 (by decide) ?_
    refine G_goto (tgt := 56) C dX7_kindAt_52 (by decide) ?_
    exact R 56 _ _ _ dX7_kindAt_56 rfl h
set_option maxRecDepth 100000 in
set_option maxHeartbeats 4000000 in
theorem s_X7_kindAt_J31 {ω : WD} {ρ : FR} {post : Int32 → Mem → Prop} (C : Cx ω ρ cX7_kindAt RX7 0 3) (R : RtI ω ρ cX7_kindAt .int post) {l2 : Int32} {M : Mem} (h : w_X7_kindAt_J31 post l2 M) : G ω ρ M 31 [(2, .int l2)] [] := by
  refine G_iload_n C dX7_kindAt_31 0 rfl ?_
  refine G_bipush (v := 48) C dX7_kindAt_32 (by decide) ?_
  obtain ⟨h1, h2⟩ := h
  refine G_icmp_lt (tgt := 45) C dX7_kindAt_34 (by decide) (fun c => ?_) (fun c => ?_)
  · have h := h1 c
    clear h1 h2
    exact s_X7_kindAt_J45 C R  h
  · have h := h2 c
    clear h1 h2
    refine G_iload_n C dX7_kindAt_37 0 rfl ?_
    refine G_bipush (v := 57) C dX7_kindAt_38 (by decide) ?_
    obtain ⟨h1, h2⟩ := h
    refine G_icmp_gt (tgt := 45) C dX7_kindAt_40 (by decide) (fun c => ?_) (fun c => ?_)
    · have h := h1 c
      clear h1 h2
      exact s_X7_kindAt_J45 C R  h
    · have h := h2 c
      clear h1 h2
      refine G_iconst (v := 2) C dX7_kindAt_43 (by decide) ?_
      exact R 44 _ _ _ dX7_kindAt_44 rfl h
set_option maxRecDepth 100000 in
set_option maxHeartbeats 4000000 in
theorem S_X7_kindAt {ω : WD} {l1 : Int32} {M : Mem} {post : Int32 → Mem → Prop} (h : w_X7_kindAt l1 M post) : MtI ω yX7_kindAt cX7_kindAt 3 (some .int) 0 [.ref (adr ω 51), .int l1] M post := by
  refine MtI.start (ty := .int) rfl (by decide +kernel) (own := RX7) rfl (Nat.le_of_ble_eq_true rfl) (fun ρ C R => ?_)
  show G ω ρ M 0 [(0, .ref (adr ω 51)), (1, .int l1)] []
  refine G_iload_n C dX7_kindAt_0 1 rfl ?_
  refine G_aload_n C dX7_kindAt_1 0 rfl ?_
  refine gf_X7_15 C dX7_kindAt_2 ?_
  obtain ⟨h1, h2⟩ := h
  refine G_icmp_lt (tgt := 10) C dX7_kindAt_5 (by decide) (fun c => ?_) (fun c => ?_)
  · have h := h1 c
    clear h1 h2
    refine G_aload_n C dX7_kindAt_10 0 rfl ?_
    refine gf_X7_9 C dX7_kindAt_11 ?_
    refine G_iload_n C dX7_kindAt_14 1 rfl ?_
    obtain ⟨hi, h⟩ := h
    refine G_iald C q52 hi rfl dX7_kindAt_15 ?_
    refine G_iname (fun v1 ev1 => ?_)
    replace h := h v1 ev1
    refine G_istore_n C dX7_kindAt_16 (by decide) (lv' := [(2, .int v1), (0, .ref (adr ω 51)), (1, .int l1)]) rfl ?_
    refine G_iload_n C dX7_kindAt_17 0 rfl ?_
    refine G_bipush (v := 97) C dX7_kindAt_18 (by decide) ?_
    obtain ⟨h1, h2⟩ := h
    refine G_icmp_lt (tgt := 31) C dX7_kindAt_20 (by decide) (fun c => ?_) (fun c => ?_)
    · have h := h1 c
      clear h1 h2
      refine G_sub [0] (lv' := [(2, .int v1)]) rfl ?_
      exact s_X7_kindAt_J31 C R  h
    · have h := h2 c
      clear h1 h2
      refine G_iload_n C dX7_kindAt_23 0 rfl ?_
      refine G_bipush (v := 122) C dX7_kindAt_24 (by decide) ?_
      obtain ⟨h1, h2⟩ := h
      refine G_icmp_gt (tgt := 31) C dX7_kindAt_26 (by decide) (fun c => ?_) (fun c => ?_)
      · have h := h1 c
        clear h1 h2
        refine G_sub [0] (lv' := [(2, .int v1)]) rfl ?_
        exact s_X7_kindAt_J31 C R  h
      · have h := h2 c
        clear h1 h2
        refine G_iconst (v := 1) C dX7_kindAt_29 (by decide) ?_
        exact R 30 _ _ _ dX7_kindAt_30 rfl h
  · have h := h2 c
    clear h1 h2
    refine G_iconst (v := 0) C dX7_kindAt_8 (by decide) ?_
    exact R 9 _ _ _ dX7_kindAt_9 rfl h
theorem dX7_measure_0 : decode cX7_measure 0 = .ok (.aload_n 0, 1) := by decide +kernel
theorem dX7_measure_1 : decode cX7_measure 1 = .ok (.getfield 25, 3) := by decide +kernel
theorem dX7_measure_4 : decode cX7_measure 4 = .ok (.aload_n 0, 1) := by decide +kernel
theorem dX7_measure_5 : decode cX7_measure 5 = .ok (.getfield 22, 3) := by decide +kernel
theorem dX7_measure_8 : decode cX7_measure 8 = .ok (.isub, 1) := by decide +kernel
theorem dX7_measure_9 : decode cX7_measure 9 = .ok (.iconst 2, 1) := by decide +kernel
theorem dX7_measure_10 : decode cX7_measure 10 = .ok (.if_icmp .le 9, 3) := by decide +kernel
theorem dX7_measure_13 : decode cX7_measure 13 = .ok (.aload_n 0, 1) := by decide +kernel
theorem dX7_measure_14 : decode cX7_measure 14 = .ok (.iconst 4, 1) := by decide +kernel
theorem dX7_measure_15 : decode cX7_measure 15 = .ok (.putfield 19, 3) := by decide +kernel
theorem dX7_measure_18 : decode cX7_measure 18 = .ok (.return_, 1) := by decide +kernel
theorem dX7_measure_19 : decode cX7_measure 19 = .ok (.aload_n 0, 1) := by decide +kernel
theorem dX7_measure_20 : decode cX7_measure 20 = .ok (.iconst 0, 1) := by decide +kernel
theorem dX7_measure_21 : decode cX7_measure 21 = .ok (.putfield 28, 3) := by decide +kernel
theorem dX7_measure_24 : decode cX7_measure 24 = .ok (.aload_n 0, 1) := by decide +kernel
theorem dX7_measure_25 : decode cX7_measure 25 = .ok (.getfield 22, 3) := by decide +kernel
theorem dX7_measure_28 : decode cX7_measure 28 = .ok (.istore_n 1, 1) := by decide +kernel
theorem dX7_measure_29 : decode cX7_measure 29 = .ok (.iload_n 1, 1) := by decide +kernel
theorem dX7_measure_30 : decode cX7_measure 30 = .ok (.aload_n 0, 1) := by decide +kernel
theorem dX7_measure_31 : decode cX7_measure 31 = .ok (.getfield 25, 3) := by decide +kernel
theorem dX7_measure_34 : decode cX7_measure 34 = .ok (.if_icmp .ge 30, 3) := by decide +kernel
theorem dX7_measure_37 : decode cX7_measure 37 = .ok (.aload_n 0, 1) := by decide +kernel
theorem dX7_measure_38 : decode cX7_measure 38 = .ok (.bipush 10, 2) := by decide +kernel
theorem dX7_measure_40 : decode cX7_measure 40 = .ok (.aload_n 0, 1) := by decide +kernel
theorem dX7_measure_41 : decode cX7_measure 41 = .ok (.getfield 28, 3) := by decide +kernel
theorem dX7_measure_44 : decode cX7_measure 44 = .ok (.imul, 1) := by decide +kernel
theorem dX7_measure_45 : decode cX7_measure 45 = .ok (.aload_n 0, 1) := by decide +kernel
theorem dX7_measure_46 : decode cX7_measure 46 = .ok (.getfield 9, 3) := by decide +kernel
theorem dX7_measure_49 : decode cX7_measure 49 = .ok (.iload_n 1, 1) := by decide +kernel
theorem dX7_measure_50 : decode cX7_measure 50 = .ok (.iaload, 1) := by decide +kernel
theorem dX7_measure_51 : decode cX7_measure 51 = .ok (.iadd, 1) := by decide +kernel
theorem dX7_measure_52 : decode cX7_measure 52 = .ok (.bipush 48, 2) := by decide +kernel
theorem dX7_measure_54 : decode cX7_measure 54 = .ok (.isub, 1) := by decide +kernel
theorem dX7_measure_55 : decode cX7_measure 55 = .ok (.putfield 28, 3) := by decide +kernel
theorem dX7_measure_58 : decode cX7_measure 58 = .ok (.iinc 1 1, 3) := by decide +kernel
theorem dX7_measure_61 : decode cX7_measure 61 = .ok (.goto (-32), 3) := by decide +kernel
theorem dX7_measure_64 : decode cX7_measure 64 = .ok (.return_, 1) := by decide +kernel
theorem gf_X7_25 {ω : WD} {ρ : FR} {M : Mem} {cc : ByteArray} {d n pc : Nat} {lv : List (Nat × Value)} {rest : List Value} (C : Cx ω ρ cc RX7 d n) (hd : decode cc pc = .ok (.getfield 25, 3)) (k : G ω ρ M (pc + 3) lv (.int (rd M 51 4) :: rest)) : G ω ρ M pc lv (.ref (adr ω 51) :: rest) := G_get (N := 6) (T := TX7) (C := RX7) (q := 4) C (q51 : isK 7 51) (by decide) rfl in_X7 (by decide) (tb_of 275 ⟨by decide +kernel, rfl⟩) rfl rfl hd k
theorem gf_X7_28 {ω : WD} {ρ : FR} {M : Mem} {cc : ByteArray} {d n pc : Nat} {lv : List (Nat × Value)} {rest : List Value} (C : Cx ω ρ cc RX7 d n) (hd : decode cc pc = .ok (.getfield 28, 3)) (k : G ω ρ M (pc + 3) lv (.int (rd M 51 5) :: rest)) : G ω ρ M pc lv (.ref (adr ω 51) :: rest) := G_get (N := 6) (T := TX7) (C := RX7) (q := 5) C (q51 : isK 7 51) (by decide) rfl in_X7 (by decide) (tb_of 276 ⟨by decide +kernel, rfl⟩) rfl rfl hd k
theorem pf_X7_28 {ω : WD} {ρ : FR} {M : Mem} {cc : ByteArray} {d n pc : Nat} {lv : List (Nat × Value)} {rest : List Value} {v : Int32} (C : Cx ω ρ cc RX7 d n) (hd : decode cc pc = .ok (.putfield 28, 3)) (k : ∀ M1, M1 = wr M 51 5 v → G ω ρ M1 (pc + 3) lv rest) : G ω ρ M pc lv (.int v :: .ref (adr ω 51) :: rest) := G_put (N := 6) (T := TX7) (C := RX7) (q := 5) (ty := .int) C (q51 : isK 7 51) (by decide) rfl in_X7 tyX7 tyX7_ok nmX7 (by decide) (tb_of 276 ⟨by decide +kernel, rfl⟩) rfl rfl (by decide +kernel) rfl rfl (fun _ _ => Nat.le_of_ble_eq_true rfl) (fun _ => rfl) hd (k _ rfl)
theorem gf_X7_22 {ω : WD} {ρ : FR} {M : Mem} {cc : ByteArray} {d n pc : Nat} {lv : List (Nat × Value)} {rest : List Value} (C : Cx ω ρ cc RX7 d n) (hd : decode cc pc = .ok (.getfield 22, 3)) (k : G ω ρ M (pc + 3) lv (.int (rd M 51 3) :: rest)) : G ω ρ M pc lv (.ref (adr ω 51) :: rest) := G_get (N := 6) (T := TX7) (C := RX7) (q := 3) C (q51 : isK 7 51) (by decide) rfl in_X7 (by decide) (tb_of 273 ⟨by decide +kernel, rfl⟩) rfl rfl hd k
set_option maxRecDepth 100000 in
set_option maxHeartbeats 4000000 in
theorem s_X7_measure_L29 {ω : WD} {ρ : FR} {post : Mem → Prop} (C : Cx ω ρ cX7_measure RX7 0 2) (R : RtV ω ρ cX7_measure post) : ∀ (f : Nat) (l1 : Int32) (M : Mem), w_X7_measure_L29 post f l1 M → G ω ρ M 29 [(0, .ref (adr ω 51)), (1, .int l1)] [] := by
  intro f
  induction f with
  | zero => intro l1 M h; exact False.elim h
  | succ f k29 =>
    intro l1 M h
    refine G_iload_n C dX7_measure_29 1 rfl ?_
    refine G_aload_n C dX7_measure_30 0 rfl ?_
    refine gf_X7_25 C dX7_measure_31 ?_
    obtain ⟨h1, h2⟩ := h
    refine G_icmp_ge (tgt := 64) C dX7_measure_34 (by decide) (fun c => ?_) (fun c => ?_)
    · have h := h1 c
      clear h1 h2
      exact R 64 _ _ dX7_measure_64 h
    · have h := h2 c
      clear h1 h2
      refine G_aload_n C dX7_measure_37 0 rfl ?_
      refine G_bipush (v := 10) C dX7_measure_38 (by decide) ?_
      refine G_aload_n C dX7_measure_40 0 rfl ?_
      refine gf_X7_28 C dX7_measure_41 ?_
      refine G_imul C dX7_measure_44 ?_
      refine G_aload_n C dX7_measure_45 0 rfl ?_
      refine gf_X7_9 C dX7_measure_46 ?_
      refine G_iload_n C dX7_measure_49 1 rfl ?_
      obtain ⟨hi, h⟩ := h
      refine G_iald C q52 hi rfl dX7_measure_50 ?_
      refine G_iadd C dX7_measure_51 ?_
      refine G_bipush (v := 48) C dX7_measure_52 (by decide) ?_
      refine G_isub C dX7_measure_54 ?_
      refine pf_X7_28 C dX7_measure_55 (fun M1 eM1 => ?_)
      replace h := h M1 eM1
      obtain ⟨v2, ev2⟩ : ∃ y : Int32, y = (l1 + 1) := ⟨_, rfl⟩
      replace h := h v2 ev2
      refine G_iinc C dX7_measure_58 1 rfl (v := v2) (by rw [ev2]; rfl) (by decide) (lv' := [(1, .int v2), (0, .ref (adr ω 51))]) rfl ?_
      refine G_goto (tgt := 29) C dX7_measure_61 (by decide) ?_
      refine G_sub [1, 0] (lv' := [(0, .ref (adr ω 51)), (1, .int v2)]) rfl ?_
      exact k29 _ _ h
set_option maxRecDepth 100000 in
set_option maxHeartbeats 4000000 in
theorem S_X7_measure {ω : WD} {M : Mem} {post : Mem → Prop} (h : w_X7_measure M post) : MtV ω yX7_measure cX7_measure 2 none 0 [.ref (adr ω 51)] M post := by
  refine MtV.start rfl (by decide +kernel) (own := RX7) rfl (Nat.le_of_ble_eq_true rfl) (fun ρ C R => ?_)
  show G ω ρ M 0 [(0, .ref (adr ω 51))] []
  refine G_aload_n C dX7_measure_0 0 rfl ?_
  refine gf_X7_25 C dX7_measure_1 ?_
  refine G_aload_n C dX7_measure_4 0 rfl ?_
  refine gf_X7_22 C dX7_measure_5 ?_
  refine G_isub C dX7_measure_8 ?_
  refine G_iconst (v := 2) C dX7_measure_9 (by decide) ?_
  obtain ⟨h1, h2⟩ := h
  refine G_icmp_le (tgt := 19) C dX7_measure_10 (by decide) (fun c => ?_) (fun c => ?_)
  · have h := h1 c
    clear h1 h2
    refine G_aload_n C dX7_measure_19 0 rfl ?_
    refine G_iconst (v := 0) C dX7_measure_20 (by decide) ?_
    refine pf_X7_28 C dX7_measure_21 (fun M3 eM3 => ?_)
    replace h := h M3 eM3
    refine G_aload_n C dX7_measure_24 0 rfl ?_
    refine gf_X7_22 C dX7_measure_25 ?_
    refine G_iname (fun v4 ev4 => ?_)
    replace h := h v4 ev4
    refine G_istore_n C dX7_measure_28 (by decide) (lv' := [(1, .int v4), (0, .ref (adr ω 51))]) rfl ?_
    refine G_sub [1, 0] (lv' := [(0, .ref (adr ω 51)), (1, .int v4)]) rfl ?_
    obtain ⟨f, h⟩ := h
    exact s_X7_measure_L29 C R  f _ _ h
  · have h := h2 c
    clear h1 h2
    refine G_aload_n C dX7_measure_13 0 rfl ?_
    refine G_iconst (v := 4) C dX7_measure_14 (by decide) ?_
    refine pf_X7_19 C dX7_measure_15 (fun M5 eM5 => ?_)
    replace h := h M5 eM5
    exact R 18 _ _ dX7_measure_18 h
theorem dX7_next_0 : decode cX7_next 0 = .ok (.aload_n 0, 1) := by decide +kernel
theorem dX7_next_1 : decode cX7_next 1 = .ok (.aload_n 0, 1) := by decide +kernel
theorem dX7_next_2 : decode cX7_next 2 = .ok (.getfield 25, 3) := by decide +kernel
theorem dX7_next_5 : decode cX7_next 5 = .ok (.putfield 22, 3) := by decide +kernel
theorem dX7_next_8 : decode cX7_next 8 = .ok (.aload_n 0, 1) := by decide +kernel
theorem dX7_next_9 : decode cX7_next 9 = .ok (.getfield 22, 3) := by decide +kernel
theorem dX7_next_12 : decode cX7_next 12 = .ok (.aload_n 0, 1) := by decide +kernel
theorem dX7_next_13 : decode cX7_next 13 = .ok (.getfield 15, 3) := by decide +kernel
theorem dX7_next_16 : decode cX7_next 16 = .ok (.if_icmp .ge 30, 3) := by decide +kernel
theorem dX7_next_19 : decode cX7_next 19 = .ok (.aload_n 0, 1) := by decide +kernel
theorem dX7_next_20 : decode cX7_next 20 = .ok (.getfield 9, 3) := by decide +kernel
theorem dX7_next_23 : decode cX7_next 23 = .ok (.aload_n 0, 1) := by decide +kernel
theorem dX7_next_24 : decode cX7_next 24 = .ok (.getfield 22, 3) := by decide +kernel
theorem dX7_next_27 : decode cX7_next 27 = .ok (.iaload, 1) := by decide +kernel
theorem dX7_next_28 : decode cX7_next 28 = .ok (.bipush 32, 2) := by decide +kernel
theorem dX7_next_30 : decode cX7_next 30 = .ok (.if_icmp .ne 16, 3) := by decide +kernel
theorem dX7_next_33 : decode cX7_next 33 = .ok (.aload_n 0, 1) := by decide +kernel
theorem dX7_next_34 : decode cX7_next 34 = .ok (.dup, 1) := by decide +kernel
theorem dX7_next_35 : decode cX7_next 35 = .ok (.getfield 22, 3) := by decide +kernel
theorem dX7_next_38 : decode cX7_next 38 = .ok (.iconst 1, 1) := by decide +kernel
theorem dX7_next_39 : decode cX7_next 39 = .ok (.iadd, 1) := by decide +kernel
theorem dX7_next_40 : decode cX7_next 40 = .ok (.putfield 22, 3) := by decide +kernel
theorem dX7_next_43 : decode cX7_next 43 = .ok (.goto (-35), 3) := by decide +kernel
theorem dX7_next_46 : decode cX7_next 46 = .ok (.aload_n 0, 1) := by decide +kernel
theorem dX7_next_47 : decode cX7_next 47 = .ok (.aload_n 0, 1) := by decide +kernel
theorem dX7_next_48 : decode cX7_next 48 = .ok (.aload_n 0, 1) := by decide +kernel
theorem dX7_next_49 : decode cX7_next 49 = .ok (.getfield 22, 3) := by decide +kernel
theorem dX7_next_52 : decode cX7_next 52 = .ok (.invokevirtual 31, 3) := by decide +kernel
theorem dX7_next_55 : decode cX7_next 55 = .ok (.putfield 19, 3) := by decide +kernel
theorem dX7_next_58 : decode cX7_next 58 = .ok (.aload_n 0, 1) := by decide +kernel
theorem dX7_next_59 : decode cX7_next 59 = .ok (.aload_n 0, 1) := by decide +kernel
theorem dX7_next_60 : decode cX7_next 60 = .ok (.getfield 19, 3) := by decide +kernel
theorem dX7_next_63 : decode cX7_next 63 = .ok (.ifCond .ne 10, 3) := by decide +kernel
theorem dX7_next_66 : decode cX7_next 66 = .ok (.aload_n 0, 1) := by decide +kernel
theorem dX7_next_67 : decode cX7_next 67 = .ok (.getfield 22, 3) := by decide +kernel
theorem dX7_next_70 : decode cX7_next 70 = .ok (.goto 9, 3) := by decide +kernel
theorem dX7_next_73 : decode cX7_next 73 = .ok (.aload_n 0, 1) := by decide +kernel
theorem dX7_next_74 : decode cX7_next 74 = .ok (.getfield 22, 3) := by decide +kernel
theorem dX7_next_77 : decode cX7_next 77 = .ok (.iconst 1, 1) := by decide +kernel
theorem dX7_next_78 : decode cX7_next 78 = .ok (.iadd, 1) := by decide +kernel
theorem dX7_next_79 : decode cX7_next 79 = .ok (.putfield 25, 3) := by decide +kernel
theorem dX7_next_82 : decode cX7_next 82 = .ok (.aload_n 0, 1) := by decide +kernel
theorem dX7_next_83 : decode cX7_next 83 = .ok (.getfield 19, 3) := by decide +kernel
theorem dX7_next_86 : decode cX7_next 86 = .ok (.iconst 1, 1) := by decide +kernel
theorem dX7_next_87 : decode cX7_next 87 = .ok (.if_icmp .eq 11, 3) := by decide +kernel
theorem dX7_next_90 : decode cX7_next 90 = .ok (.aload_n 0, 1) := by decide +kernel
theorem dX7_next_91 : decode cX7_next 91 = .ok (.getfield 19, 3) := by decide +kernel
theorem dX7_next_94 : decode cX7_next 94 = .ok (.iconst 2, 1) := by decide +kernel
theorem dX7_next_95 : decode cX7_next 95 = .ok (.if_icmp .ne 42, 3) := by decide +kernel
theorem dX7_next_98 : decode cX7_next 98 = .ok (.aload_n 0, 1) := by decide +kernel
theorem dX7_next_99 : decode cX7_next 99 = .ok (.getfield 25, 3) := by decide +kernel
theorem dX7_next_102 : decode cX7_next 102 = .ok (.aload_n 0, 1) := by decide +kernel
theorem dX7_next_103 : decode cX7_next 103 = .ok (.getfield 15, 3) := by decide +kernel
theorem dX7_next_106 : decode cX7_next 106 = .ok (.if_icmp .ge 31, 3) := by decide +kernel
theorem dX7_next_109 : decode cX7_next 109 = .ok (.aload_n 0, 1) := by decide +kernel
theorem dX7_next_110 : decode cX7_next 110 = .ok (.aload_n 0, 1) := by decide +kernel
theorem dX7_next_111 : decode cX7_next 111 = .ok (.getfield 25, 3) := by decide +kernel
theorem dX7_next_114 : decode cX7_next 114 = .ok (.invokevirtual 31, 3) := by decide +kernel
theorem dX7_next_117 : decode cX7_next 117 = .ok (.aload_n 0, 1) := by decide +kernel
theorem dX7_next_118 : decode cX7_next 118 = .ok (.getfield 19, 3) := by decide +kernel
theorem dX7_next_121 : decode cX7_next 121 = .ok (.if_icmp .ne 16, 3) := by decide +kernel
theorem dX7_next_124 : decode cX7_next 124 = .ok (.aload_n 0, 1) := by decide +kernel
theorem dX7_next_125 : decode cX7_next 125 = .ok (.dup, 1) := by decide +kernel
theorem dX7_next_126 : decode cX7_next 126 = .ok (.getfield 25, 3) := by decide +kernel
theorem dX7_next_129 : decode cX7_next 129 = .ok (.iconst 1, 1) := by decide +kernel
theorem dX7_next_130 : decode cX7_next 130 = .ok (.iadd, 1) := by decide +kernel
theorem dX7_next_131 : decode cX7_next 131 = .ok (.putfield 25, 3) := by decide +kernel
theorem dX7_next_134 : decode cX7_next 134 = .ok (.goto (-36), 3) := by decide +kernel
theorem dX7_next_137 : decode cX7_next 137 = .ok (.aload_n 0, 1) := by decide +kernel
theorem dX7_next_138 : decode cX7_next 138 = .ok (.getfield 19, 3) := by decide +kernel
theorem dX7_next_141 : decode cX7_next 141 = .ok (.iconst 2, 1) := by decide +kernel
theorem dX7_next_142 : decode cX7_next 142 = .ok (.if_icmp .ne 7, 3) := by decide +kernel
theorem dX7_next_145 : decode cX7_next 145 = .ok (.aload_n 0, 1) := by decide +kernel
theorem dX7_next_146 : decode cX7_next 146 = .ok (.invokevirtual 35, 3) := by decide +kernel
theorem dX7_next_149 : decode cX7_next 149 = .ok (.return_, 1) := by decide +kernel
theorem gf_X7_19 {ω : WD} {ρ : FR} {M : Mem} {cc : ByteArray} {d n pc : Nat} {lv : List (Nat × Value)} {rest : List Value} (C : Cx ω ρ cc RX7 d n) (hd : decode cc pc = .ok (.getfield 19, 3)) (k : G ω ρ M (pc + 3) lv (.int (rd M 51 2) :: rest)) : G ω ρ M pc lv (.ref (adr ω 51) :: rest) := G_get (N := 6) (T := TX7) (C := RX7) (q := 2) C (q51 : isK 7 51) (by decide) rfl in_X7 (by decide) (tb_of 271 ⟨by decide +kernel, rfl⟩) rfl rfl hd k
theorem lk_X7_35 : LkV RX7 35 RX7 yX7_measure cX7_measure 2 none 0 := LkV.of 450 451 452 68 453 (by decide +kernel) (by decide +kernel) (by decide +kernel) (by decide +kernel) (by decide +kernel) (by decide +kernel)
theorem lk_X7_31 : LkV RX7 31 RX7 yX7_kindAt cX7_kindAt 3 (some .int) 1 := LkV.of 446 447 448 68 449 (by decide +kernel) (by decide +kernel) (by decide +kernel) (by decide +kernel) (by decide +kernel) (by decide +kernel)
set_option maxRecDepth 100000 in
set_option maxHeartbeats 4000000 in
theorem s_X7_next_J137 {ω : WD} {ρ : FR} {post : Mem → Prop} (C : Cx ω ρ cX7_next RX7 1 1) (R : RtV ω ρ cX7_next post) {M : Mem} (h : w_X7_next_J137 post M) : G ω ρ M 137 [(0, .ref (adr ω 51))] [] := by
  refine G_aload_n C dX7_next_137 0 rfl ?_
  refine gf_X7_19 C dX7_next_138 ?_
  refine G_iconst (v := 2) C dX7_next_141 (by decide) ?_
  obtain ⟨h1, h2⟩ := h
  refine G_icmp_ne (tgt := 149) C dX7_next_142 (by decide) (fun c => ?_) (fun c => ?_)
  · have h := h1 c
    clear h1 h2
    exact R 149 _ _ dX7_next_149 h
  · have h := h2 c
    clear h1 h2
    refine G_aload_n C dX7_next_145 0 rfl ?_
    refine G_callV (As := []) (rest := []) C dX7_next_146 lk_X7_35 (Nat.le_of_ble_eq_true rfl) (Nat.le_of_ble_eq_true rfl) q51 (by decide) rfl (Nat.le_of_ble_eq_true rfl) rfl (S_X7_measure h) (fun M1 h => ?_)
    exact R 149 _ _ dX7_next_149 h
set_option maxRecDepth 100000 in
set_option maxHeartbeats 4000000 in
theorem s_X7_next_L98 {ω : WD} {ρ : FR} {post : Mem → Prop} (C : Cx ω ρ cX7_next RX7 1 1) (R : RtV ω ρ cX7_next post) : ∀ (f : Nat)  (M : Mem), w_X7_next_L98 post f  M → G ω ρ M 98 [(0, .ref (adr ω 51))] [] := by
  intro f
  induction f with
  | zero => intro  M h; exact False.elim h
  | succ f k98 =>
    intro  M h
    refine G_aload_n C dX7_next_98 0 rfl ?_
    refine gf_X7_25 C dX7_next_99 ?_
    refine G_aload_n C dX7_next_102 0 rfl ?_
    refine gf_X7_15 C dX7_next_103 ?_
    obtain ⟨h1, h2⟩ := h
    refine G_icmp_ge (tgt := 137) C dX7_next_106 (by decide) (fun c => ?_) (fun c => ?_)
    · have h := h1 c
      clear h1 h2
      exact s_X7_next_J137 C R  h
    · have h := h2 c
      clear h1 h2
      refine G_aload_n C dX7_next_109 0 rfl ?_
      refine G_aload_n C dX7_next_110 0 rfl ?_
      refine gf_X7_25 C dX7_next_111 ?_
      refine G_callI (As := [.int (rd M 51 4)]) (rest := []) C dX7_next_114 lk_X7_31 (Nat.le_of_ble_eq_true rfl) (Nat.le_of_ble_eq_true rfl) q51 (by decide) rfl (Nat.le_of_ble_eq_true rfl) rfl (S_X7_kindAt h) (fun r3 M2 h => ?_)
      refine G_aload_n C dX7_next_117 0 rfl ?_
      refine gf_X7_19 C dX7_next_118 ?_
      obtain ⟨h1, h2⟩ := h
      refine G_icmp_ne (tgt := 137) C dX7_next_121 (by decide) (fun c => ?_) (fun c => ?_)
      · have h := h1 c
        clear h1 h2
        exact s_X7_next_J137 C R  h
      · have h := h2 c
        clear h1 h2
        refine G_aload_n C dX7_next_124 0 rfl ?_
        refine G_dup C dX7_next_125 rfl ?_
        refine gf_X7_25 C dX7_next_126 ?_
        refine G_iconst (v := 1) C dX7_next_129 (by decide) ?_
        refine G_iadd C dX7_next_130 ?_
        refine pf_X7_25 C dX7_next_131 (fun M4 eM4 => ?_)
        replace h := h M4 eM4
        refine G_goto (tgt := 98) C dX7_next_134 (by decide) ?_
        exact k98 _ h
set_option maxRecDepth 100000 in
set_option maxHeartbeats 4000000 in
theorem s_X7_next_J79 {ω : WD} {ρ : FR} {post : Mem → Prop} (C : Cx ω ρ cX7_next RX7 1 1) (R : RtV ω ρ cX7_next post) {s1 : Int32} {M : Mem} (h : w_X7_next_J79 post s1 M) : G ω ρ M 79 [(0, .ref (adr ω 51))] [.int s1, .ref (adr ω 51)] := by
  refine pf_X7_25 C dX7_next_79 (fun M5 eM5 => ?_)
  replace h := h M5 eM5
  refine G_aload_n C dX7_next_82 0 rfl ?_
  refine gf_X7_19 C dX7_next_83 ?_
  refine G_iconst (v := 1) C dX7_next_86 (by decide) ?_
  obtain ⟨h1, h2⟩ := h
  refine G_icmp_eq (tgt := 98) C dX7_next_87 (by decide) (fun c => ?_) (fun c => ?_)
  · have h := h1 c
    clear h1 h2
    obtain ⟨f, h⟩ := h
    exact s_X7_next_L98 C R  f _ h
  · have h := h2 c
    clear h1 h2
    refine G_aload_n C dX7_next_90 0 rfl ?_
    refine gf_X7_19 C dX7_next_91 ?_
    refine G_iconst (v := 2) C dX7_next_94 (by decide) ?_
    obtain ⟨h1, h2⟩ := h
    refine G_icmp_ne (tgt := 137) C dX7_next_95 (by decide) (fun c => ?_) (fun c => ?_)
    · have h := h1 c
      clear h1 h2
      exact s_X7_next_J137 C R  h
    · have h := h2 c
      clear h1 h2
      obtain ⟨f, h⟩ := h
      exact s_X7_next_L98 C R  f _ h
set_option maxRecDepth 100000 in
set_option maxHeartbeats 4000000 in
theorem s_X7_next_J46 {ω : WD} {ρ : FR} {post : Mem → Prop} (C : Cx ω ρ cX7_next RX7 1 1) (R : RtV ω ρ cX7_next post) {M : Mem} (h : w_X7_next_J46 post M) : G ω ρ M 46 [(0, .ref (adr ω 51))] [] := by
  refine G_aload_n C dX7_next_46 0 rfl ?_
  refine G_aload_n C dX7_next_47 0 rfl ?_
  refine G_aload_n C dX7_next_48 0 rfl ?_
  refine gf_X7_22 C dX7_next_49 ?_
  refine G_callI (As := [.int (rd M 51 3)]) (rest := [.ref (adr ω 51)]) C dX7_next_52 lk_X7_31 (Nat.le_of_ble_eq_true rfl) (Nat.le_of_ble_eq_true rfl) q51 (by decide) rfl (Nat.le_of_ble_eq_true rfl) rfl (S_X7_kindAt h) (fun r7 M6 h => ?_)
  refine pf_X7_19 C dX7_next_55 (fun M8 eM8 => ?_)
  replace h := h M8 eM8
  refine G_aload_n C dX7_next_58 0 rfl ?_
  refine G_aload_n C dX7_next_59 0 rfl ?_
  refine gf_X7_19 C dX7_next_60 ?_
  obtain ⟨h1, h2⟩ := h
  refine G_if_ne (tgt := 73) C dX7_next_63 (by decide) (fun c => ?_) (fun c => ?_)
  · have h := h1 c
    clear h1 h2
    refine G_aload_n C dX7_next_73 0 rfl ?_
    refine gf_X7_22 C dX7_next_74 ?_
    refine G_iconst (v := 1) C dX7_next_77 (by decide) ?_
    refine G_iadd C dX7_next_78 ?_
    exact s_X7_next_J79 C R  h
  · have h := h2 c
    clear h1 h2
    refine G_aload_n C dX7_next_66 0 rfl ?_
    refine gf_X7_22 C dX7_next_67 ?_
    refine G_goto (tgt := 79) C dX7_next_70 (by decide) ?_
    exact s_X7_next_J79 C R  h
set_option maxRecDepth 100000 in
set_option maxHeartbeats 4000000 in
theorem s_X7_next_L8 {ω : WD} {ρ : FR} {post : Mem → Prop} (C : Cx ω ρ cX7_next RX7 1 1) (R : RtV ω ρ cX7_next post) : ∀ (f : Nat)  (M : Mem), w_X7_next_L8 post f  M → G ω ρ M 8 [(0, .ref (adr ω 51))] [] := by
  intro f
  induction f with
  | zero => intro  M h; exact False.elim h
  | succ f k8 =>
    intro  M h
    refine G_aload_n C dX7_next_8 0 rfl ?_
    refine gf_X7_22 C dX7_next_9 ?_
    refine G_aload_n C dX7_next_12 0 rfl ?_
    refine gf_X7_15 C dX7_next_13 ?_
    obtain ⟨h1, h2⟩ := h
    refine G_icmp_ge (tgt := 46) C dX7_next_16 (by decide) (fun c => ?_) (fun c => ?_)
    · have h := h1 c
      clear h1 h2
      exact s_X7_next_J46 C R  h
    · have h := h2 c
      clear h1 h2
      refine G_aload_n C dX7_next_19 0 rfl ?_
      refine gf_X7_9 C dX7_next_20 ?_
      refine G_aload_n C dX7_next_23 0 rfl ?_
      refine gf_X7_22 C dX7_next_24 ?_
      obtain ⟨hi, h⟩ := h
      refine G_iald C q52 hi rfl dX7_next_27 ?_
      refine G_bipush (v := 32) C dX7_next_28 (by decide) ?_
      obtain ⟨h1, h2⟩ := h
      refine G_icmp_ne (tgt := 46) C dX7_next_30 (by decide) (fun c => ?_) (fun c => ?_)
      · have h := h1 c
        clear h1 h2
        exact s_X7_next_J46 C R  h
      · have h := h2 c
        clear h1 h2
        refine G_aload_n C dX7_next_33 0 rfl ?_
        refine G_dup C dX7_next_34 rfl ?_
        refine gf_X7_22 C dX7_next_35 ?_
        refine G_iconst (v := 1) C dX7_next_38 (by decide) ?_
        refine G_iadd C dX7_next_39 ?_
        refine pf_X7_22 C dX7_next_40 (fun M9 eM9 => ?_)
        replace h := h M9 eM9
        refine G_goto (tgt := 8) C dX7_next_43 (by decide) ?_
        exact k8 _ h
set_option maxRecDepth 100000 in
set_option maxHeartbeats 4000000 in
theorem S_X7_next {ω : WD} {M : Mem} {post : Mem → Prop} (h : w_X7_next M post) : MtV ω yX7_next cX7_next 1 none 1 [.ref (adr ω 51)] M post := by
  refine MtV.start rfl (by decide +kernel) (own := RX7) rfl (Nat.le_of_ble_eq_true rfl) (fun ρ C R => ?_)
  show G ω ρ M 0 [(0, .ref (adr ω 51))] []
  refine G_aload_n C dX7_next_0 0 rfl ?_
  refine G_aload_n C dX7_next_1 0 rfl ?_
  refine gf_X7_25 C dX7_next_2 ?_
  refine pf_X7_22 C dX7_next_5 (fun M10 eM10 => ?_)
  replace h := h M10 eM10
  obtain ⟨f, h⟩ := h
  exact s_X7_next_L8 C R  f _ h
