theorem dX0_begin_0 : decode cX0_begin 0 = .ok (.aload_n 0, 1) := by decide +kernel
theorem dX0_begin_1 : decode cX0_begin 1 = .ok (.bipush (-4), 2) := by decide +kernel
theorem dX0_begin_3 : decode cX0_begin 3 = .ok (.putfield 9, 3) := by decide +kernel
theorem dX0_begin_6 : decode cX0_begin 6 = .ok (.aload_n 0, 1) := by decide +kernel
theorem dX0_begin_7 : decode cX0_begin 7 = .ok (.iload_n 1, 1) := by decide +kernel
theorem dX0_begin_8 : decode cX0_begin 8 = .ok (.putfield 15, 3) := by decide +kernel
theorem dX0_begin_11 : decode cX0_begin 11 = .ok (.return_, 1) := by decide +kernel
theorem pf_X0_9 {ω : WD} {ρ : FR} {M : Mem} {cc : ByteArray} {d n pc : Nat} {lv : List (Nat × Value)} {rest : List Value} {v : Int32} (C : Cx ω ρ cc RX0 d n) (hd : decode cc pc = .ok (.putfield 9, 3)) (k : ∀ M1, M1 = wr M 40 0 v → G ω ρ M1 (pc + 3) lv rest) : G ω ρ M pc lv (.int v :: .ref (adr ω 40) :: rest) := G_put (N := 2) (T := TX0) (C := RX0) (q := 0) (ty := .int) C (q40 : isK 0 40) (by decide) rfl in_X0 tyX0 tyX0_ok nmX0 (by decide) (tb_of 246 ⟨by decide +kernel, rfl⟩) rfl rfl (by decide +kernel) rfl rfl (fun _ _ => Nat.le_of_ble_eq_true rfl) (fun _ => rfl) hd (k _ rfl)
theorem pf_X0_15 {ω : WD} {ρ : FR} {M : Mem} {cc : ByteArray} {d n pc : Nat} {lv : List (Nat × Value)} {rest : List Value} {v : Int32} (C : Cx ω ρ cc RX0 d n) (hd : decode cc pc = .ok (.putfield 15, 3)) (k : ∀ M1, M1 = wr M 40 1 v → G ω ρ M1 (pc + 3) lv rest) : G ω ρ M pc lv (.int v :: .ref (adr ω 40) :: rest) := G_put (N := 2) (T := TX0) (C := RX0) (q := 1) (ty := .int) C (q40 : isK 0 40) (by decide) rfl in_X0 tyX0 tyX0_ok nmX0 (by decide) (tb_of 247 ⟨by decide +kernel, rfl⟩) rfl rfl (by decide +kernel) rfl rfl (fun _ _ => Nat.le_of_ble_eq_true rfl) (fun _ => rfl) hd (k _ rfl)
set_option maxRecDepth 100000 in
set_option maxHeartbeats 4000000 in
theorem S_X0_begin {ω : WD} {l1 : Int32} {M : Mem} {post : Mem → Prop} (h : w_X0_begin l1 M post) : MtV ω yX0_begin cX0_begin 2 none 0 [.ref (adr ω 40), .int l1] M post := by
  refine MtV.start rfl (by decide +kernel) (own := RX0) rfl (Nat.le_of_ble_eq_true rfl) (fun ρ C R => ?_)
  show G ω ρ M 0 [(0, .ref (adr ω 40)), (1, .int l1)] []
  refine G_aload_n C dX0_begin_0 0 rfl ?_
  refine G_bipush (v := (-4)) C dX0_begin_1 (by decide) ?_
  refine pf_X0_9 C dX0_begin_3 (fun M1 eM1 => ?_)
  replace h := h M1 eM1
  refine G_aload_n C dX0_begin_6 0 rfl ?_
  refine G_iload_n C dX0_begin_7 1 rfl ?_
  refine pf_X0_15 C dX0_begin_8 (fun M2 eM2 => ?_)
  replace h := h M2 eM2
  exact R 11 _ _ dX0_begin_11 h
theorem dX0_offer_0 : decode cX0_offer 0 = .ok (.iload_n 2, 1) := by decide +kernel
theorem dX0_offer_1 : decode cX0_offer 1 = .ok (.aload_n 0, 1) := by decide +kernel
theorem dX0_offer_2 : decode cX0_offer 2 = .ok (.getfield 15, 3) := by decide +kernel
theorem dX0_offer_5 : decode cX0_offer 5 = .ok (.if_icmp .ge 13, 3) := by decide +kernel
theorem dX0_offer_8 : decode cX0_offer 8 = .ok (.aload_n 0, 1) := by decide +kernel
theorem dX0_offer_9 : decode cX0_offer 9 = .ok (.iload_n 1, 1) := by decide +kernel
theorem dX0_offer_10 : decode cX0_offer 10 = .ok (.putfield 9, 3) := by decide +kernel
theorem dX0_offer_13 : decode cX0_offer 13 = .ok (.aload_n 0, 1) := by decide +kernel
theorem dX0_offer_14 : decode cX0_offer 14 = .ok (.iload_n 2, 1) := by decide +kernel
theorem dX0_offer_15 : decode cX0_offer 15 = .ok (.putfield 15, 3) := by decide +kernel
theorem dX0_offer_18 : decode cX0_offer 18 = .ok (.return_, 1) := by decide +kernel
theorem gf_X0_15 {ω : WD} {ρ : FR} {M : Mem} {cc : ByteArray} {d n pc : Nat} {lv : List (Nat × Value)} {rest : List Value} (C : Cx ω ρ cc RX0 d n) (hd : decode cc pc = .ok (.getfield 15, 3)) (k : G ω ρ M (pc + 3) lv (.int (rd M 40 1) :: rest)) : G ω ρ M pc lv (.ref (adr ω 40) :: rest) := G_get (N := 2) (T := TX0) (C := RX0) (q := 1) C (q40 : isK 0 40) (by decide) rfl in_X0 (by decide) (tb_of 247 ⟨by decide +kernel, rfl⟩) rfl rfl hd k
set_option maxRecDepth 100000 in
set_option maxHeartbeats 4000000 in
theorem S_X0_offer {ω : WD} {l1 : Int32} {l2 : Int32} {M : Mem} {post : Mem → Prop} (h : w_X0_offer l1 l2 M post) : MtV ω yX0_offer cX0_offer 3 none 0 [.ref (adr ω 40), .int l1, .int l2] M post := by
  refine MtV.start rfl (by decide +kernel) (own := RX0) rfl (Nat.le_of_ble_eq_true rfl) (fun ρ C R => ?_)
  show G ω ρ M 0 [(0, .ref (adr ω 40)), (1, .int l1), (2, .int l2)] []
  refine G_iload_n C dX0_offer_0 2 rfl ?_
  refine G_aload_n C dX0_offer_1 0 rfl ?_
  refine gf_X0_15 C dX0_offer_2 ?_
  obtain ⟨h1, h2⟩ := h
  refine G_icmp_ge (tgt := 18) C dX0_offer_5 (by decide) (fun c => ?_) (fun c => ?_)
  · have h := h1 c
    clear h1 h2
    exact R 18 _ _ dX0_offer_18 h
  · have h := h2 c
    clear h1 h2
    refine G_aload_n C dX0_offer_8 0 rfl ?_
    refine G_iload_n C dX0_offer_9 1 rfl ?_
    refine pf_X0_9 C dX0_offer_10 (fun M1 eM1 => ?_)
    replace h := h M1 eM1
    refine G_aload_n C dX0_offer_13 0 rfl ?_
    refine G_iload_n C dX0_offer_14 2 rfl ?_
    refine pf_X0_15 C dX0_offer_15 (fun M2 eM2 => ?_)
    replace h := h M2 eM2
    exact R 18 _ _ dX0_offer_18 h
theorem dX0_told_0 : decode cX0_told 0 = .ok (.aload_n 0, 1) := by decide +kernel
theorem dX0_told_1 : decode cX0_told 1 = .ok (.getfield 9, 3) := by decide +kernel
theorem dX0_told_4 : decode cX0_told 4 = .ok (.bipush (-4), 2) := by decide +kernel
theorem dX0_told_6 : decode cX0_told 6 = .ok (.if_icmp .ne 6, 3) := by decide +kernel
theorem dX0_told_9 : decode cX0_told 9 = .ok (.bipush (-4), 2) := by decide +kernel
theorem dX0_told_11 : decode cX0_told 11 = .ok (.ireturn, 1) := by decide +kernel
theorem dX0_told_12 : decode cX0_told 12 = .ok (.iload_n 1, 1) := by decide +kernel
theorem dX0_told_13 : decode cX0_told 13 = .ok (.ifCond .ne 10, 3) := by decide +kernel
theorem dX0_told_16 : decode cX0_told 16 = .ok (.aload_n 0, 1) := by decide +kernel
theorem dX0_told_17 : decode cX0_told 17 = .ok (.getfield 9, 3) := by decide +kernel
theorem dX0_told_20 : decode cX0_told 20 = .ok (.goto 7, 3) := by decide +kernel
theorem dX0_told_23 : decode cX0_told 23 = .ok (.aload_n 0, 1) := by decide +kernel
theorem dX0_told_24 : decode cX0_told 24 = .ok (.getfield 15, 3) := by decide +kernel
theorem dX0_told_27 : decode cX0_told 27 = .ok (.ireturn, 1) := by decide +kernel
theorem gf_X0_9 {ω : WD} {ρ : FR} {M : Mem} {cc : ByteArray} {d n pc : Nat} {lv : List (Nat × Value)} {rest : List Value} (C : Cx ω ρ cc RX0 d n) (hd : decode cc pc = .ok (.getfield 9, 3)) (k : G ω ρ M (pc + 3) lv (.int (rd M 40 0) :: rest)) : G ω ρ M pc lv (.ref (adr ω 40) :: rest) := G_get (N := 2) (T := TX0) (C := RX0) (q := 0) C (q40 : isK 0 40) (by decide) rfl in_X0 (by decide) (tb_of 246 ⟨by decide +kernel, rfl⟩) rfl rfl hd k
set_option maxRecDepth 100000 in
set_option maxHeartbeats 4000000 in
theorem S_X0_told {ω : WD} {l1 : Int32} {M : Mem} {post : Int32 → Mem → Prop} (h : w_X0_told l1 M post) : MtI ω yX0_told cX0_told 2 (some .int) 0 [.ref (adr ω 40), .int l1] M post := by
  refine MtI.start (ty := .int) rfl (by decide +kernel) (own := RX0) rfl (Nat.le_of_ble_eq_true rfl) (fun ρ C R => ?_)
  show G ω ρ M 0 [(0, .ref (adr ω 40)), (1, .int l1)] []
  refine G_aload_n C dX0_told_0 0 rfl ?_
  refine gf_X0_9 C dX0_told_1 ?_
  refine G_bipush (v := (-4)) C dX0_told_4 (by decide) ?_
  obtain ⟨h1, h2⟩ := h
  refine G_icmp_ne (tgt := 12) C dX0_told_6 (by decide) (fun c => ?_) (fun c => ?_)
  · have h := h1 c
    clear h1 h2
    refine G_iload_n C dX0_told_12 1 rfl ?_
    obtain ⟨h1, h2⟩ := h
    refine G_if_ne (tgt := 23) C dX0_told_13 (by decide) (fun c => ?_) (fun c => ?_)
    · have h := h1 c
      clear h1 h2
      refine G_aload_n C dX0_told_23 0 rfl ?_
      refine gf_X0_15 C dX0_told_24 ?_
      exact R 27 _ _ _ dX0_told_27 rfl h
    · have h := h2 c
      clear h1 h2
      refine G_aload_n C dX0_told_16 0 rfl ?_
      refine gf_X0_9 C dX0_told_17 ?_
      refine G_goto (tgt := 27) C dX0_told_20 (by decide) ?_
      exact R 27 _ _ _ dX0_told_27 rfl h
  · have h := h2 c
    clear h1 h2
    refine G_bipush (v := (-4)) C dX0_told_9 (by decide) ?_
    exact R 11 _ _ _ dX0_told_11 rfl h
theorem dX5_clear_0 : decode cX5_clear 0 = .ok (.aload_n 0, 1) := by decide +kernel
theorem dX5_clear_1 : decode cX5_clear 1 = .ok (.iconst 0, 1) := by decide +kernel
theorem dX5_clear_2 : decode cX5_clear 2 = .ok (.putfield 9, 3) := by decide +kernel
theorem dX5_clear_5 : decode cX5_clear 5 = .ok (.aload_n 0, 1) := by decide +kernel
theorem dX5_clear_6 : decode cX5_clear 6 = .ok (.iconst 0, 1) := by decide +kernel
theorem dX5_clear_7 : decode cX5_clear 7 = .ok (.putfield 15, 3) := by decide +kernel
theorem dX5_clear_10 : decode cX5_clear 10 = .ok (.return_, 1) := by decide +kernel
theorem pf_X5_9 {ω : WD} {ρ : FR} {M : Mem} {cc : ByteArray} {d n pc i : Nat} {lv : List (Nat × Value)} {rest : List Value} {v : Int32} (C : Cx ω ρ cc RX5 d n) (hk : isK 5 i) (hd : decode cc pc = .ok (.putfield 9, 3)) (k : ∀ M1, M1 = wr M i 0 v → G ω ρ M1 (pc + 3) lv rest) : G ω ρ M pc lv (.int v :: .ref (adr ω i) :: rest) := G_put (N := 6) (T := TX5) (C := RX5) (q := 0) (ty := .int) C hk (by decide) rfl in_X5 tyX5 tyX5_ok nmX5 (by decide) (tb_of 174 ⟨by decide +kernel, rfl⟩) rfl rfl (by decide +kernel) rfl rfl (fun _ _ => Nat.le_of_ble_eq_true rfl) (fun _ => rfl) hd (k _ rfl)
theorem pf_X5_15 {ω : WD} {ρ : FR} {M : Mem} {cc : ByteArray} {d n pc i : Nat} {lv : List (Nat × Value)} {rest : List Value} {v : Int32} (C : Cx ω ρ cc RX5 d n) (hk : isK 5 i) (hd : decode cc pc = .ok (.putfield 15, 3)) (k : ∀ M1, M1 = wr M i 1 v → G ω ρ M1 (pc + 3) lv rest) : G ω ρ M pc lv (.int v :: .ref (adr ω i) :: rest) := G_put (N := 6) (T := TX5) (C := RX5) (q := 1) (ty := .int) C hk (by decide) rfl in_X5 tyX5 tyX5_ok nmX5 (by decide) (tb_of 178 ⟨by decide +kernel, rfl⟩) rfl rfl (by decide +kernel) rfl rfl (fun _ _ => Nat.le_of_ble_eq_true rfl) (fun _ => rfl) hd (k _ rfl)
set_option maxRecDepth 100000 in
set_option maxHeartbeats 4000000 in
theorem S_X5_clear {ω : WD} {x : Nat} {M : Mem} {post : Mem → Prop} (hx : isK 5 x) (h : w_X5_clear x M post) : MtV ω yX5_clear cX5_clear 1 none 0 [.ref (adr ω x)] M post := by
  refine MtV.start rfl (by decide +kernel) (own := RX5) rfl (Nat.le_of_ble_eq_true rfl) (fun ρ C R => ?_)
  show G ω ρ M 0 [(0, .ref (adr ω x))] []
  refine G_aload_n C dX5_clear_0 0 rfl ?_
  refine G_iconst (v := 0) C dX5_clear_1 (by decide) ?_
  refine pf_X5_9 C hx dX5_clear_2 (fun M1 eM1 => ?_)
  replace h := h M1 eM1
  refine G_aload_n C dX5_clear_5 0 rfl ?_
  refine G_iconst (v := 0) C dX5_clear_6 (by decide) ?_
  refine pf_X5_15 C hx dX5_clear_7 (fun M2 eM2 => ?_)
  replace h := h M2 eM2
  exact R 10 _ _ dX5_clear_10 h
theorem dX5_copyFrom_0 : decode cX5_copyFrom 0 = .ok (.aload_n 0, 1) := by decide +kernel
theorem dX5_copyFrom_1 : decode cX5_copyFrom 1 = .ok (.aload_n 1, 1) := by decide +kernel
theorem dX5_copyFrom_2 : decode cX5_copyFrom 2 = .ok (.getfield 9, 3) := by decide +kernel
theorem dX5_copyFrom_5 : decode cX5_copyFrom 5 = .ok (.putfield 9, 3) := by decide +kernel
theorem dX5_copyFrom_8 : decode cX5_copyFrom 8 = .ok (.aload_n 0, 1) := by decide +kernel
theorem dX5_copyFrom_9 : decode cX5_copyFrom 9 = .ok (.aload_n 1, 1) := by decide +kernel
theorem dX5_copyFrom_10 : decode cX5_copyFrom 10 = .ok (.getfield 15, 3) := by decide +kernel
theorem dX5_copyFrom_13 : decode cX5_copyFrom 13 = .ok (.putfield 15, 3) := by decide +kernel
theorem dX5_copyFrom_16 : decode cX5_copyFrom 16 = .ok (.iconst 0, 1) := by decide +kernel
theorem dX5_copyFrom_17 : decode cX5_copyFrom 17 = .ok (.istore_n 2, 1) := by decide +kernel
theorem dX5_copyFrom_18 : decode cX5_copyFrom 18 = .ok (.iload_n 2, 1) := by decide +kernel
theorem dX5_copyFrom_19 : decode cX5_copyFrom 19 = .ok (.aload_n 0, 1) := by decide +kernel
theorem dX5_copyFrom_20 : decode cX5_copyFrom 20 = .ok (.getfield 9, 3) := by decide +kernel
theorem dX5_copyFrom_23 : decode cX5_copyFrom 23 = .ok (.if_icmp .ge 33, 3) := by decide +kernel
theorem dX5_copyFrom_26 : decode cX5_copyFrom 26 = .ok (.aload_n 0, 1) := by decide +kernel
theorem dX5_copyFrom_27 : decode cX5_copyFrom 27 = .ok (.getfield 18, 3) := by decide +kernel
theorem dX5_copyFrom_30 : decode cX5_copyFrom 30 = .ok (.iload_n 2, 1) := by decide +kernel
theorem dX5_copyFrom_31 : decode cX5_copyFrom 31 = .ok (.aload_n 1, 1) := by decide +kernel
theorem dX5_copyFrom_32 : decode cX5_copyFrom 32 = .ok (.getfield 18, 3) := by decide +kernel
theorem dX5_copyFrom_35 : decode cX5_copyFrom 35 = .ok (.iload_n 2, 1) := by decide +kernel
theorem dX5_copyFrom_36 : decode cX5_copyFrom 36 = .ok (.iaload, 1) := by decide +kernel
theorem dX5_copyFrom_37 : decode cX5_copyFrom 37 = .ok (.iastore, 1) := by decide +kernel
theorem dX5_copyFrom_38 : decode cX5_copyFrom 38 = .ok (.aload_n 0, 1) := by decide +kernel
theorem dX5_copyFrom_39 : decode cX5_copyFrom 39 = .ok (.getfield 22, 3) := by decide +kernel
theorem dX5_copyFrom_42 : decode cX5_copyFrom 42 = .ok (.iload_n 2, 1) := by decide +kernel
theorem dX5_copyFrom_43 : decode cX5_copyFrom 43 = .ok (.aload_n 1, 1) := by decide +kernel
theorem dX5_copyFrom_44 : decode cX5_copyFrom 44 = .ok (.getfield 22, 3) := by decide +kernel
theorem dX5_copyFrom_47 : decode cX5_copyFrom 47 = .ok (.iload_n 2, 1) := by decide +kernel
theorem dX5_copyFrom_48 : decode cX5_copyFrom 48 = .ok (.iaload, 1) := by decide +kernel
theorem dX5_copyFrom_49 : decode cX5_copyFrom 49 = .ok (.iastore, 1) := by decide +kernel
theorem dX5_copyFrom_50 : decode cX5_copyFrom 50 = .ok (.iinc 2 1, 3) := by decide +kernel
theorem dX5_copyFrom_53 : decode cX5_copyFrom 53 = .ok (.goto (-35), 3) := by decide +kernel
theorem dX5_copyFrom_56 : decode cX5_copyFrom 56 = .ok (.iconst 0, 1) := by decide +kernel
theorem dX5_copyFrom_57 : decode cX5_copyFrom 57 = .ok (.istore_n 2, 1) := by decide +kernel
theorem dX5_copyFrom_58 : decode cX5_copyFrom 58 = .ok (.iload_n 2, 1) := by decide +kernel
theorem dX5_copyFrom_59 : decode cX5_copyFrom 59 = .ok (.aload_n 0, 1) := by decide +kernel
theorem dX5_copyFrom_60 : decode cX5_copyFrom 60 = .ok (.getfield 15, 3) := by decide +kernel
theorem dX5_copyFrom_63 : decode cX5_copyFrom 63 = .ok (.if_icmp .ge 33, 3) := by decide +kernel
theorem dX5_copyFrom_66 : decode cX5_copyFrom 66 = .ok (.aload_n 0, 1) := by decide +kernel
theorem dX5_copyFrom_67 : decode cX5_copyFrom 67 = .ok (.getfield 25, 3) := by decide +kernel
theorem dX5_copyFrom_70 : decode cX5_copyFrom 70 = .ok (.iload_n 2, 1) := by decide +kernel
theorem dX5_copyFrom_71 : decode cX5_copyFrom 71 = .ok (.aload_n 1, 1) := by decide +kernel
theorem dX5_copyFrom_72 : decode cX5_copyFrom 72 = .ok (.getfield 25, 3) := by decide +kernel
theorem dX5_copyFrom_75 : decode cX5_copyFrom 75 = .ok (.iload_n 2, 1) := by decide +kernel
theorem dX5_copyFrom_76 : decode cX5_copyFrom 76 = .ok (.iaload, 1) := by decide +kernel
theorem dX5_copyFrom_77 : decode cX5_copyFrom 77 = .ok (.iastore, 1) := by decide +kernel
theorem dX5_copyFrom_78 : decode cX5_copyFrom 78 = .ok (.aload_n 0, 1) := by decide +kernel
theorem dX5_copyFrom_79 : decode cX5_copyFrom 79 = .ok (.getfield 28, 3) := by decide +kernel
theorem dX5_copyFrom_82 : decode cX5_copyFrom 82 = .ok (.iload_n 2, 1) := by decide +kernel
theorem dX5_copyFrom_83 : decode cX5_copyFrom 83 = .ok (.aload_n 1, 1) := by decide +kernel
theorem dX5_copyFrom_84 : decode cX5_copyFrom 84 = .ok (.getfield 28, 3) := by decide +kernel
theorem dX5_copyFrom_87 : decode cX5_copyFrom 87 = .ok (.iload_n 2, 1) := by decide +kernel
theorem dX5_copyFrom_88 : decode cX5_copyFrom 88 = .ok (.iaload, 1) := by decide +kernel
theorem dX5_copyFrom_89 : decode cX5_copyFrom 89 = .ok (.iastore, 1) := by decide +kernel
theorem dX5_copyFrom_90 : decode cX5_copyFrom 90 = .ok (.iinc 2 1, 3) := by decide +kernel
theorem dX5_copyFrom_93 : decode cX5_copyFrom 93 = .ok (.goto (-35), 3) := by decide +kernel
theorem dX5_copyFrom_96 : decode cX5_copyFrom 96 = .ok (.return_, 1) := by decide +kernel
theorem gf_X5_15 {ω : WD} {ρ : FR} {M : Mem} {cc : ByteArray} {d n pc i : Nat} {lv : List (Nat × Value)} {rest : List Value} (C : Cx ω ρ cc RX5 d n) (hk : isK 5 i) (hd : decode cc pc = .ok (.getfield 15, 3)) (k : G ω ρ M (pc + 3) lv (.int (rd M i 1) :: rest)) : G ω ρ M pc lv (.ref (adr ω i) :: rest) := G_get (N := 6) (T := TX5) (C := RX5) (q := 1) C hk (by decide) rfl in_X5 (by decide) (tb_of 178 ⟨by decide +kernel, rfl⟩) rfl rfl hd k
theorem gf_X5_25 {ω : WD} {ρ : FR} {M : Mem} {cc : ByteArray} {d n pc i : Nat} {lv : List (Nat × Value)} {rest : List Value} (C : Cx ω ρ cc RX5 d n) (hk : isK 5 i) (hd : decode cc pc = .ok (.getfield 25, 3)) (k : G ω ρ M (pc + 3) lv (.ref (adr ω (i + 3)) :: rest)) : G ω ρ M pc lv (.ref (adr ω i) :: rest) := G_get (N := 6) (T := TX5) (C := RX5) (q := 4) C hk (by decide) rfl in_X5 (by decide) (tb_of 188 ⟨by decide +kernel, rfl⟩) rfl rfl hd k
theorem gf_X5_28 {ω : WD} {ρ : FR} {M : Mem} {cc : ByteArray} {d n pc i : Nat} {lv : List (Nat × Value)} {rest : List Value} (C : Cx ω ρ cc RX5 d n) (hk : isK 5 i) (hd : decode cc pc = .ok (.getfield 28, 3)) (k : G ω ρ M (pc + 3) lv (.ref (adr ω (i + 4)) :: rest)) : G ω ρ M pc lv (.ref (adr ω i) :: rest) := G_get (N := 6) (T := TX5) (C := RX5) (q := 5) C hk (by decide) rfl in_X5 (by decide) (tb_of 191 ⟨by decide +kernel, rfl⟩) rfl rfl hd k
theorem gf_X5_9 {ω : WD} {ρ : FR} {M : Mem} {cc : ByteArray} {d n pc i : Nat} {lv : List (Nat × Value)} {rest : List Value} (C : Cx ω ρ cc RX5 d n) (hk : isK 5 i) (hd : decode cc pc = .ok (.getfield 9, 3)) (k : G ω ρ M (pc + 3) lv (.int (rd M i 0) :: rest)) : G ω ρ M pc lv (.ref (adr ω i) :: rest) := G_get (N := 6) (T := TX5) (C := RX5) (q := 0) C hk (by decide) rfl in_X5 (by decide) (tb_of 174 ⟨by decide +kernel, rfl⟩) rfl rfl hd k
theorem gf_X5_18 {ω : WD} {ρ : FR} {M : Mem} {cc : ByteArray} {d n pc i : Nat} {lv : List (Nat × Value)} {rest : List Value} (C : Cx ω ρ cc RX5 d n) (hk : isK 5 i) (hd : decode cc pc = .ok (.getfield 18, 3)) (k : G ω ρ M (pc + 3) lv (.ref (adr ω (i + 1)) :: rest)) : G ω ρ M pc lv (.ref (adr ω i) :: rest) := G_get (N := 6) (T := TX5) (C := RX5) (q := 2) C hk (by decide) rfl in_X5 (by decide) (tb_of 181 ⟨by decide +kernel, rfl⟩) rfl rfl hd k
theorem gf_X5_22 {ω : WD} {ρ : FR} {M : Mem} {cc : ByteArray} {d n pc i : Nat} {lv : List (Nat × Value)} {rest : List Value} (C : Cx ω ρ cc RX5 d n) (hk : isK 5 i) (hd : decode cc pc = .ok (.getfield 22, 3)) (k : G ω ρ M (pc + 3) lv (.ref (adr ω (i + 2)) :: rest)) : G ω ρ M pc lv (.ref (adr ω i) :: rest) := G_get (N := 6) (T := TX5) (C := RX5) (q := 3) C hk (by decide) rfl in_X5 (by decide) (tb_of 185 ⟨by decide +kernel, rfl⟩) rfl rfl hd k
set_option maxRecDepth 100000 in
set_option maxHeartbeats 4000000 in
theorem s_X5_copyFrom_L58 {ω : WD} {ρ : FR} {post : Mem → Prop} (C : Cx ω ρ cX5_copyFrom RX5 0 3) (R : RtV ω ρ cX5_copyFrom post) {x : Nat} {y : Nat} (hx : isK 5 x) (hy : isK 5 y) : ∀ (f : Nat) (l2 : Int32) (M : Mem), w_X5_copyFrom_L58 x y post f l2 M → G ω ρ M 58 [(0, .ref (adr ω x)), (1, .ref (adr ω y)), (2, .int l2)] [] := by
  intro f
  induction f with
  | zero => intro l2 M h; exact False.elim h
  | succ f k58 =>
    intro l2 M h
    refine G_iload_n C dX5_copyFrom_58 2 rfl ?_
    refine G_aload_n C dX5_copyFrom_59 0 rfl ?_
    refine gf_X5_15 C hx dX5_copyFrom_60 ?_
    obtain ⟨h1, h2⟩ := h
    refine G_icmp_ge (tgt := 96) C dX5_copyFrom_63 (by decide) (fun c => ?_) (fun c => ?_)
    · have h := h1 c
      clear h1 h2
      exact R 96 _ _ dX5_copyFrom_96 h
    · have h := h2 c
      clear h1 h2
      refine G_aload_n C dX5_copyFrom_66 0 rfl ?_
      refine gf_X5_25 C hx dX5_copyFrom_67 ?_
      refine G_iload_n C dX5_copyFrom_70 2 rfl ?_
      refine G_aload_n C dX5_copyFrom_71 1 rfl ?_
      refine gf_X5_25 C hy dX5_copyFrom_72 ?_
      refine G_iload_n C dX5_copyFrom_75 2 rfl ?_
      obtain ⟨hi, h⟩ := h
      refine G_iald C (st_5_4 hy) hi rfl dX5_copyFrom_76 ?_
      obtain ⟨hi, h⟩ := h
      refine G_iast C (st_5_4 hx) hi rfl dX5_copyFrom_77 (G_mname (fun M1 eM1 => ?_))
      replace h := h M1 eM1
      refine G_aload_n C dX5_copyFrom_78 0 rfl ?_
      refine gf_X5_28 C hx dX5_copyFrom_79 ?_
      refine G_iload_n C dX5_copyFrom_82 2 rfl ?_
      refine G_aload_n C dX5_copyFrom_83 1 rfl ?_
      refine gf_X5_28 C hy dX5_copyFrom_84 ?_
      refine G_iload_n C dX5_copyFrom_87 2 rfl ?_
      obtain ⟨hi, h⟩ := h
      refine G_iald C (st_5_5 hy) hi rfl dX5_copyFrom_88 ?_
      obtain ⟨hi, h⟩ := h
      refine G_iast C (st_5_5 hx) hi rfl dX5_copyFrom_89 (G_mname (fun M2 eM2 => ?_))
      replace h := h M2 eM2
      obtain ⟨v3, ev3⟩ : ∃ y : Int32, y = (l2 + 1) := ⟨_, rfl⟩
      replace h := h v3 ev3
      refine G_iinc C dX5_copyFrom_90 2 rfl (v := v3) (by rw [ev3]; rfl) (by decide) (lv' := [(2, .int v3), (0, .ref (adr ω x)), (1, .ref (adr ω y))]) rfl ?_
      refine G_goto (tgt := 58) C dX5_copyFrom_93 (by decide) ?_
      refine G_sub [1, 2, 0] (lv' := [(0, .ref (adr ω x)), (1, .ref (adr ω y)), (2, .int v3)]) rfl ?_
      exact k58 _ _ h
set_option maxRecDepth 100000 in
set_option maxHeartbeats 4000000 in
theorem s_X5_copyFrom_L18 {ω : WD} {ρ : FR} {post : Mem → Prop} (C : Cx ω ρ cX5_copyFrom RX5 0 3) (R : RtV ω ρ cX5_copyFrom post) {x : Nat} {y : Nat} (hx : isK 5 x) (hy : isK 5 y) : ∀ (f : Nat) (l2 : Int32) (M : Mem), w_X5_copyFrom_L18 x y post f l2 M → G ω ρ M 18 [(0, .ref (adr ω x)), (1, .ref (adr ω y)), (2, .int l2)] [] := by
  intro f
  induction f with
  | zero => intro l2 M h; exact False.elim h
  | succ f k18 =>
    intro l2 M h
    refine G_iload_n C dX5_copyFrom_18 2 rfl ?_
    refine G_aload_n C dX5_copyFrom_19 0 rfl ?_
    refine gf_X5_9 C hx dX5_copyFrom_20 ?_
    obtain ⟨h1, h2⟩ := h
    refine G_icmp_ge (tgt := 56) C dX5_copyFrom_23 (by decide) (fun c => ?_) (fun c => ?_)
    · have h := h1 c
      clear h1 h2
      refine G_iconst (v := 0) C dX5_copyFrom_56 (by decide) ?_
      refine G_istore_n C dX5_copyFrom_57 (by decide) (lv' := [(2, .int 0), (0, .ref (adr ω x)), (1, .ref (adr ω y))]) rfl ?_
      refine G_sub [1, 2, 0] (lv' := [(0, .ref (adr ω x)), (1, .ref (adr ω y)), (2, .int 0)]) rfl ?_
      obtain ⟨f, h⟩ := h
      exact s_X5_copyFrom_L58 C R hx hy f _ _ h
    · have h := h2 c
      clear h1 h2
      refine G_aload_n C dX5_copyFrom_26 0 rfl ?_
      refine gf_X5_18 C hx dX5_copyFrom_27 ?_
      refine G_iload_n C dX5_copyFrom_30 2 rfl ?_
      refine G_aload_n C dX5_copyFrom_31 1 rfl ?_
      refine gf_X5_18 C hy dX5_copyFrom_32 ?_
      refine G_iload_n C dX5_copyFrom_35 2 rfl ?_
      obtain ⟨hi, h⟩ := h
      refine G_iald C (st_5_2 hy) hi rfl dX5_copyFrom_36 ?_
      obtain ⟨hi, h⟩ := h
      refine G_iast C (st_5_2 hx) hi rfl dX5_copyFrom_37 (G_mname (fun M4 eM4 => ?_))
      replace h := h M4 eM4
      refine G_aload_n C dX5_copyFrom_38 0 rfl ?_
      refine gf_X5_22 C hx dX5_copyFrom_39 ?_
      refine G_iload_n C dX5_copyFrom_42 2 rfl ?_
      refine G_aload_n C dX5_copyFrom_43 1 rfl ?_
      refine gf_X5_22 C hy dX5_copyFrom_44 ?_
      refine G_iload_n C dX5_copyFrom_47 2 rfl ?_
      obtain ⟨hi, h⟩ := h
      refine G_iald C (st_5_3 hy) hi rfl dX5_copyFrom_48 ?_
      obtain ⟨hi, h⟩ := h
      refine G_iast C (st_5_3 hx) hi rfl dX5_copyFrom_49 (G_mname (fun M5 eM5 => ?_))
      replace h := h M5 eM5
      obtain ⟨v6, ev6⟩ : ∃ y : Int32, y = (l2 + 1) := ⟨_, rfl⟩
      replace h := h v6 ev6
      refine G_iinc C dX5_copyFrom_50 2 rfl (v := v6) (by rw [ev6]; rfl) (by decide) (lv' := [(2, .int v6), (0, .ref (adr ω x)), (1, .ref (adr ω y))]) rfl ?_
      refine G_goto (tgt := 18) C dX5_copyFrom_53 (by decide) ?_
      refine G_sub [1, 2, 0] (lv' := [(0, .ref (adr ω x)), (1, .ref (adr ω y)), (2, .int v6)]) rfl ?_
      exact k18 _ _ h
set_option maxRecDepth 100000 in
set_option maxHeartbeats 4000000 in
theorem S_X5_copyFrom {ω : WD} {x : Nat} {y : Nat} {M : Mem} {post : Mem → Prop} (hx : isK 5 x) (hy : isK 5 y) (h : w_X5_copyFrom x y M post) : MtV ω yX5_copyFrom cX5_copyFrom 3 none 0 [.ref (adr ω x), .ref (adr ω y)] M post := by
  refine MtV.start rfl (by decide +kernel) (own := RX5) rfl (Nat.le_of_ble_eq_true rfl) (fun ρ C R => ?_)
  show G ω ρ M 0 [(0, .ref (adr ω x)), (1, .ref (adr ω y))] []
  refine G_aload_n C dX5_copyFrom_0 0 rfl ?_
  refine G_aload_n C dX5_copyFrom_1 1 rfl ?_
  refine gf_X5_9 C hy dX5_copyFrom_2 ?_
  refine pf_X5_9 C hx dX5_copyFrom_5 (fun M7 eM7 => ?_)
  replace h := h M7 eM7
  refine G_aload_n C dX5_copyFrom_8 0 rfl ?_
  refine G_aload_n C dX5_copyFrom_9 1 rfl ?_
  refine gf_X5_15 C hy dX5_copyFrom_10 ?_
  refine pf_X5_15 C hx dX5_copyFrom_13 (fun M8 eM8 => ?_)
  replace h := h M8 eM8
  refine G_iconst (v := 0) C dX5_copyFrom_16 (by decide) ?_
  refine G_istore_n C dX5_copyFrom_17 (by decide) (lv' := [(2, .int 0), (0, .ref (adr ω x)), (1, .ref (adr ω y))]) rfl ?_
  refine G_sub [1, 2, 0] (lv' := [(0, .ref (adr ω x)), (1, .ref (adr ω y)), (2, .int 0)]) rfl ?_
  obtain ⟨f, h⟩ := h
  exact s_X5_copyFrom_L18 C R hx hy f _ _ h
theorem dX5_addAct_0 : decode cX5_addAct 0 = .ok (.aload_n 0, 1) := by decide +kernel
theorem dX5_addAct_1 : decode cX5_addAct 1 = .ok (.getfield 18, 3) := by decide +kernel
theorem dX5_addAct_4 : decode cX5_addAct 4 = .ok (.aload_n 0, 1) := by decide +kernel
theorem dX5_addAct_5 : decode cX5_addAct 5 = .ok (.getfield 9, 3) := by decide +kernel
theorem dX5_addAct_8 : decode cX5_addAct 8 = .ok (.iload_n 1, 1) := by decide +kernel
theorem dX5_addAct_9 : decode cX5_addAct 9 = .ok (.iastore, 1) := by decide +kernel
theorem dX5_addAct_10 : decode cX5_addAct 10 = .ok (.aload_n 0, 1) := by decide +kernel
theorem dX5_addAct_11 : decode cX5_addAct 11 = .ok (.getfield 22, 3) := by decide +kernel
theorem dX5_addAct_14 : decode cX5_addAct 14 = .ok (.aload_n 0, 1) := by decide +kernel
theorem dX5_addAct_15 : decode cX5_addAct 15 = .ok (.getfield 9, 3) := by decide +kernel
theorem dX5_addAct_18 : decode cX5_addAct 18 = .ok (.iload_n 2, 1) := by decide +kernel
theorem dX5_addAct_19 : decode cX5_addAct 19 = .ok (.iastore, 1) := by decide +kernel
theorem dX5_addAct_20 : decode cX5_addAct 20 = .ok (.aload_n 0, 1) := by decide +kernel
theorem dX5_addAct_21 : decode cX5_addAct 21 = .ok (.dup, 1) := by decide +kernel
theorem dX5_addAct_22 : decode cX5_addAct 22 = .ok (.getfield 9, 3) := by decide +kernel
theorem dX5_addAct_25 : decode cX5_addAct 25 = .ok (.iconst 1, 1) := by decide +kernel
theorem dX5_addAct_26 : decode cX5_addAct 26 = .ok (.iadd, 1) := by decide +kernel
theorem dX5_addAct_27 : decode cX5_addAct 27 = .ok (.putfield 9, 3) := by decide +kernel
theorem dX5_addAct_30 : decode cX5_addAct 30 = .ok (.return_, 1) := by decide +kernel
set_option maxRecDepth 100000 in
set_option maxHeartbeats 4000000 in
theorem S_X5_addAct {ω : WD} {x : Nat} {l1 : Int32} {l2 : Int32} {M : Mem} {post : Mem → Prop} (hx : isK 5 x) (h : w_X5_addAct x l1 l2 M post) : MtV ω yX5_addAct cX5_addAct 3 none 0 [.ref (adr ω x), .int l1, .int l2] M post := by
  refine MtV.start rfl (by decide +kernel) (own := RX5) rfl (Nat.le_of_ble_eq_true rfl) (fun ρ C R => ?_)
  show G ω ρ M 0 [(0, .ref (adr ω x)), (1, .int l1), (2, .int l2)] []
  refine G_aload_n C dX5_addAct_0 0 rfl ?_
  refine gf_X5_18 C hx dX5_addAct_1 ?_
  refine G_aload_n C dX5_addAct_4 0 rfl ?_
  refine gf_X5_9 C hx dX5_addAct_5 ?_
  refine G_iload_n C dX5_addAct_8 1 rfl ?_
  obtain ⟨hi, h⟩ := h
  refine G_iast C (st_5_2 hx) hi rfl dX5_addAct_9 (G_mname (fun M1 eM1 => ?_))
  replace h := h M1 eM1
  refine G_aload_n C dX5_addAct_10 0 rfl ?_
  refine gf_X5_22 C hx dX5_addAct_11 ?_
  refine G_aload_n C dX5_addAct_14 0 rfl ?_
  refine gf_X5_9 C hx dX5_addAct_15 ?_
  refine G_iload_n C dX5_addAct_18 2 rfl ?_
  obtain ⟨hi, h⟩ := h
  refine G_iast C (st_5_3 hx) hi rfl dX5_addAct_19 (G_mname (fun M2 eM2 => ?_))
  replace h := h M2 eM2
  refine G_aload_n C dX5_addAct_20 0 rfl ?_
  refine G_dup C dX5_addAct_21 rfl ?_
  refine gf_X5_9 C hx dX5_addAct_22 ?_
  refine G_iconst (v := 1) C dX5_addAct_25 (by decide) ?_
  refine G_iadd C dX5_addAct_26 ?_
  refine pf_X5_9 C hx dX5_addAct_27 (fun M3 eM3 => ?_)
  replace h := h M3 eM3
  exact R 30 _ _ dX5_addAct_30 h
theorem dX5_dials_0 : decode cX5_dials 0 = .ok (.iconst 0, 1) := by decide +kernel
theorem dX5_dials_1 : decode cX5_dials 1 = .ok (.istore_n 1, 1) := by decide +kernel
theorem dX5_dials_2 : decode cX5_dials 2 = .ok (.iconst 0, 1) := by decide +kernel
theorem dX5_dials_3 : decode cX5_dials 3 = .ok (.istore_n 2, 1) := by decide +kernel
theorem dX5_dials_4 : decode cX5_dials 4 = .ok (.iload_n 2, 1) := by decide +kernel
theorem dX5_dials_5 : decode cX5_dials 5 = .ok (.aload_n 0, 1) := by decide +kernel
theorem dX5_dials_6 : decode cX5_dials 6 = .ok (.getfield 9, 3) := by decide +kernel
theorem dX5_dials_9 : decode cX5_dials 9 = .ok (.if_icmp .ge 26, 3) := by decide +kernel
theorem dX5_dials_12 : decode cX5_dials 12 = .ok (.aload_n 0, 1) := by decide +kernel
theorem dX5_dials_13 : decode cX5_dials 13 = .ok (.getfield 22, 3) := by decide +kernel
theorem dX5_dials_16 : decode cX5_dials 16 = .ok (.iload_n 2, 1) := by decide +kernel
theorem dX5_dials_17 : decode cX5_dials 17 = .ok (.iaload, 1) := by decide +kernel
theorem dX5_dials_18 : decode cX5_dials 18 = .ok (.bipush 99, 2) := by decide +kernel
theorem dX5_dials_20 : decode cX5_dials 20 = .ok (.if_icmp .eq 9, 3) := by decide +kernel
theorem dX5_dials_23 : decode cX5_dials 23 = .ok (.iload_n 1, 1) := by decide +kernel
theorem dX5_dials_24 : decode cX5_dials 24 = .ok (.iconst 1, 1) := by decide +kernel
theorem dX5_dials_25 : decode cX5_dials 25 = .ok (.iload_n 2, 1) := by decide +kernel
theorem dX5_dials_26 : decode cX5_dials 26 = .ok (.ishl, 1) := by decide +kernel
theorem dX5_dials_27 : decode cX5_dials 27 = .ok (.ior, 1) := by decide +kernel
theorem dX5_dials_28 : decode cX5_dials 28 = .ok (.istore_n 1, 1) := by decide +kernel
theorem dX5_dials_29 : decode cX5_dials 29 = .ok (.iinc 2 1, 3) := by decide +kernel
theorem dX5_dials_32 : decode cX5_dials 32 = .ok (.goto (-28), 3) := by decide +kernel
theorem dX5_dials_35 : decode cX5_dials 35 = .ok (.iload_n 1, 1) := by decide +kernel
theorem dX5_dials_36 : decode cX5_dials 36 = .ok (.ireturn, 1) := by decide +kernel
set_option maxRecDepth 100000 in
set_option maxHeartbeats 4000000 in
theorem s_X5_dials_J29 {ω : WD} {ρ : FR} {post : Int32 → Mem → Prop} (C : Cx ω ρ cX5_dials RX5 0 3) (R : RtI ω ρ cX5_dials .int post) {x : Nat} (hx : isK 5 x) {K4 : Int32 → Int32 → Mem → Prop} {l1 : Int32} {l2 : Int32} (k4 : ∀ (u1 : Int32) (u2 : Int32) (M : Mem), K4 u1 u2 M → G ω ρ M 4 [(0, .ref (adr ω x)), (1, .int u1), (2, .int u2)] []) {M : Mem} (h : w_X5_dials_J29 x post K4 l1 l2 M) : G ω ρ M 29 [(0, .ref (adr ω x)), (1, .int l1), (2, .int l2)] [] := by
  obtain ⟨v1, ev1⟩ : ∃ y : Int32, y = (l2 + 1) := ⟨_, rfl⟩
  replace h := h v1 ev1
  refine G_iinc C dX5_dials_29 2 rfl (v := v1) (by rw [ev1]; rfl) (by decide) (lv' := [(2, .int v1), (0, .ref (adr ω x)), (1, .int l1)]) rfl ?_
  refine G_goto (tgt := 4) C dX5_dials_32 (by decide) ?_
  refine G_sub [1, 2, 0] (lv' := [(0, .ref (adr ω x)), (1, .int l1), (2, .int v1)]) rfl ?_
  exact k4 _ _ _ h
set_option maxRecDepth 100000 in
set_option maxHeartbeats 4000000 in
theorem s_X5_dials_L4 {ω : WD} {ρ : FR} {post : Int32 → Mem → Prop} (C : Cx ω ρ cX5_dials RX5 0 3) (R : RtI ω ρ cX5_dials .int post) {x : Nat} (hx : isK 5 x) : ∀ (f : Nat) (l1 : Int32) (l2 : Int32) (M : Mem), w_X5_dials_L4 x post f l1 l2 M → G ω ρ M 4 [(0, .ref (adr ω x)), (1, .int l1), (2, .int l2)] [] := by
  intro f
  induction f with
  | zero => intro l1 l2 M h; exact False.elim h
  | succ f k4 =>
    intro l1 l2 M h
    refine G_iload_n C dX5_dials_4 2 rfl ?_
    refine G_aload_n C dX5_dials_5 0 rfl ?_
    refine gf_X5_9 C hx dX5_dials_6 ?_
    obtain ⟨h1, h2⟩ := h
    refine G_icmp_ge (tgt := 35) C dX5_dials_9 (by decide) (fun c => ?_) (fun c => ?_)
    · have h := h1 c
      clear h1 h2
      refine G_iload_n C dX5_dials_35 1 rfl ?_
      exact R 36 _ _ _ dX5_dials_36 rfl h
    · have h := h2 c
      clear h1 h2
      refine G_aload_n C dX5_dials_12 0 rfl ?_
      refine gf_X5_22 C hx dX5_dials_13 ?_
      refine G_iload_n C dX5_dials_16 2 rfl ?_
      obtain ⟨hi, h⟩ := h
      refine G_iald C (st_5_3 hx) hi rfl dX5_dials_17 ?_
      refine G_bipush (v := 99) C dX5_dials_18 (by decide) ?_
      obtain ⟨h1, h2⟩ := h
      refine G_icmp_eq (tgt := 29) C dX5_dials_20 (by decide) (fun c => ?_) (fun c => ?_)
      · have h := h1 c
        clear h1 h2
        exact s_X5_dials_J29 C R hx k4 h
      · have h := h2 c
        clear h1 h2
        refine G_iload_n C dX5_dials_23 1 rfl ?_
        refine G_iconst (v := 1) C dX5_dials_24 (by decide) ?_
        refine G_iload_n C dX5_dials_25 2 rfl ?_
        refine G_ishl C dX5_dials_26 ?_
        refine G_ior C dX5_dials_27 ?_
        refine G_iname (fun v2 ev2 => ?_)
        replace h := h v2 ev2
        refine G_istore_n C dX5_dials_28 (by decide) (lv' := [(1, .int v2), (0, .ref (adr ω x)), (2, .int l2)]) rfl ?_
        refine G_sub [1, 0, 2] (lv' := [(0, .ref (adr ω x)), (1, .int v2), (2, .int l2)]) rfl ?_
        exact s_X5_dials_J29 C R hx k4 h
set_option maxRecDepth 100000 in
set_option maxHeartbeats 4000000 in
theorem S_X5_dials {ω : WD} {x : Nat} {M : Mem} {post : Int32 → Mem → Prop} (hx : isK 5 x) (h : w_X5_dials x M post) : MtI ω yX5_dials cX5_dials 3 (some .int) 0 [.ref (adr ω x)] M post := by
  refine MtI.start (ty := .int) rfl (by decide +kernel) (own := RX5) rfl (Nat.le_of_ble_eq_true rfl) (fun ρ C R => ?_)
  show G ω ρ M 0 [(0, .ref (adr ω x))] []
  refine G_iconst (v := 0) C dX5_dials_0 (by decide) ?_
  refine G_istore_n C dX5_dials_1 (by decide) (lv' := [(1, .int 0), (0, .ref (adr ω x))]) rfl ?_
  refine G_iconst (v := 0) C dX5_dials_2 (by decide) ?_
  refine G_istore_n C dX5_dials_3 (by decide) (lv' := [(2, .int 0), (1, .int 0), (0, .ref (adr ω x))]) rfl ?_
  refine G_sub [2, 1, 0] (lv' := [(0, .ref (adr ω x)), (1, .int 0), (2, .int 0)]) rfl ?_
  obtain ⟨f, h⟩ := h
  exact s_X5_dials_L4 C R hx f _ _ _ h
theorem dX6_renew_0 : decode cX6_renew 0 = .ok (.aload_n 0, 1) := by decide +kernel
theorem dX6_renew_1 : decode cX6_renew 1 = .ok (.iload_n 1, 1) := by decide +kernel
theorem dX6_renew_2 : decode cX6_renew 2 = .ok (.putfield 9, 3) := by decide +kernel
theorem dX6_renew_5 : decode cX6_renew 5 = .ok (.aload_n 0, 1) := by decide +kernel
theorem dX6_renew_6 : decode cX6_renew 6 = .ok (.iload_n 2, 1) := by decide +kernel
theorem dX6_renew_7 : decode cX6_renew 7 = .ok (.putfield 15, 3) := by decide +kernel
theorem dX6_renew_10 : decode cX6_renew 10 = .ok (.iconst 0, 1) := by decide +kernel
theorem dX6_renew_11 : decode cX6_renew 11 = .ok (.istore_n 3, 1) := by decide +kernel
theorem dX6_renew_12 : decode cX6_renew 12 = .ok (.iload_n 3, 1) := by decide +kernel
theorem dX6_renew_13 : decode cX6_renew 13 = .ok (.iload_n 2, 1) := by decide +kernel
theorem dX6_renew_14 : decode cX6_renew 14 = .ok (.if_icmp .ge 16, 3) := by decide +kernel
theorem dX6_renew_17 : decode cX6_renew 17 = .ok (.aload_n 0, 1) := by decide +kernel
theorem dX6_renew_18 : decode cX6_renew 18 = .ok (.getfield 18, 3) := by decide +kernel
theorem dX6_renew_21 : decode cX6_renew 21 = .ok (.iload_n 3, 1) := by decide +kernel
theorem dX6_renew_22 : decode cX6_renew 22 = .ok (.iconst 0, 1) := by decide +kernel
theorem dX6_renew_23 : decode cX6_renew 23 = .ok (.iastore, 1) := by decide +kernel
theorem dX6_renew_24 : decode cX6_renew 24 = .ok (.iinc 3 1, 3) := by decide +kernel
theorem dX6_renew_27 : decode cX6_renew 27 = .ok (.goto (-15), 3) := by decide +kernel
theorem dX6_renew_30 : decode cX6_renew 30 = .ok (.return_, 1) := by decide +kernel
theorem gf_X6_18 {ω : WD} {ρ : FR} {M : Mem} {cc : ByteArray} {d n pc i : Nat} {lv : List (Nat × Value)} {rest : List Value} (C : Cx ω ρ cc RX6 d n) (hk : isK 6 i) (hd : decode cc pc = .ok (.getfield 18, 3)) (k : G ω ρ M (pc + 3) lv (.ref (adr ω (i + 1)) :: rest)) : G ω ρ M pc lv (.ref (adr ω i) :: rest) := G_get (N := 3) (T := TX6) (C := RX6) (q := 2) C hk (by decide) rfl in_X6 (by decide) (tb_of 363 ⟨by decide +kernel, rfl⟩) rfl rfl hd k
theorem pf_X6_9 {ω : WD} {ρ : FR} {M : Mem} {cc : ByteArray} {d n pc i : Nat} {lv : List (Nat × Value)} {rest : List Value} {v : Int32} (C : Cx ω ρ cc RX6 d n) (hk : isK 6 i) (hd : decode cc pc = .ok (.putfield 9, 3)) (k : ∀ M1, M1 = wr M i 0 v → G ω ρ M1 (pc + 3) lv rest) : G ω ρ M pc lv (.int v :: .ref (adr ω i) :: rest) := G_put (N := 3) (T := TX6) (C := RX6) (q := 0) (ty := .int) C hk (by decide) rfl in_X6 tyX6 tyX6_ok nmX6 (by decide) (tb_of 360 ⟨by decide +kernel, rfl⟩) rfl rfl (by decide +kernel) rfl rfl (fun _ _ => Nat.le_of_ble_eq_true rfl) (fun _ => rfl) hd (k _ rfl)
theorem pf_X6_15 {ω : WD} {ρ : FR} {M : Mem} {cc : ByteArray} {d n pc i : Nat} {lv : List (Nat × Value)} {rest : List Value} {v : Int32} (C : Cx ω ρ cc RX6 d n) (hk : isK 6 i) (hd : decode cc pc = .ok (.putfield 15, 3)) (k : ∀ M1, M1 = wr M i 1 v → G ω ρ M1 (pc + 3) lv rest) : G ω ρ M pc lv (.int v :: .ref (adr ω i) :: rest) := G_put (N := 3) (T := TX6) (C := RX6) (q := 1) (ty := .int) C hk (by decide) rfl in_X6 tyX6 tyX6_ok nmX6 (by decide) (tb_of 361 ⟨by decide +kernel, rfl⟩) rfl rfl (by decide +kernel) rfl rfl (fun _ _ => Nat.le_of_ble_eq_true rfl) (fun _ => rfl) hd (k _ rfl)
set_option maxRecDepth 100000 in
set_option maxHeartbeats 4000000 in
theorem s_X6_renew_L12 {ω : WD} {ρ : FR} {post : Mem → Prop} (C : Cx ω ρ cX6_renew RX6 0 4) (R : RtV ω ρ cX6_renew post) {x : Nat} (hx : isK 6 x) {l2 : Int32} : ∀ (f : Nat) (l3 : Int32) (M : Mem), w_X6_renew_L12 x post l2 f l3 M → G ω ρ M 12 [(0, .ref (adr ω x)), (2, .int l2), (3, .int l3)] [] := by
  intro f
  induction f with
  | zero => intro l3 M h; exact False.elim h
  | succ f k12 =>
    intro l3 M h
    refine G_iload_n C dX6_renew_12 2 rfl ?_
    refine G_iload_n C dX6_renew_13 1 rfl ?_
    obtain ⟨h1, h2⟩ := h
    refine G_icmp_ge (tgt := 30) C dX6_renew_14 (by decide) (fun c => ?_) (fun c => ?_)
    · have h := h1 c
      clear h1 h2
      exact R 30 _ _ dX6_renew_30 h
    · have h := h2 c
      clear h1 h2
      refine G_aload_n C dX6_renew_17 0 rfl ?_
      refine gf_X6_18 C hx dX6_renew_18 ?_
      refine G_iload_n C dX6_renew_21 2 rfl ?_
      refine G_iconst (v := 0) C dX6_renew_22 (by decide) ?_
      obtain ⟨hi, h⟩ := h
      refine G_iast C (st_6_2 hx) hi rfl dX6_renew_23 (G_mname (fun M1 eM1 => ?_))
      replace h := h M1 eM1
      obtain ⟨v2, ev2⟩ : ∃ y : Int32, y = (l3 + 1) := ⟨_, rfl⟩
      replace h := h v2 ev2
      refine G_iinc C dX6_renew_24 2 rfl (v := v2) (by rw [ev2]; rfl) (by decide) (lv' := [(3, .int v2), (0, .ref (adr ω x)), (2, .int l2)]) rfl ?_
      refine G_goto (tgt := 12) C dX6_renew_27 (by decide) ?_
      refine G_sub [1, 2, 0] (lv' := [(0, .ref (adr ω x)), (2, .int l2), (3, .int v2)]) rfl ?_
      exact k12 _ _ h
set_option maxRecDepth 100000 in
set_option maxHeartbeats 4000000 in
theorem S_X6_renew {ω : WD} {x : Nat} {l1 : Int32} {l2 : Int32} {M : Mem} {post : Mem → Prop} (hx : isK 6 x) (h : w_X6_renew x l1 l2 M post) : MtV ω yX6_renew cX6_renew 4 none 0 [.ref (adr ω x), .int l1, .int l2] M post := by
  refine MtV.start rfl (by decide +kernel) (own := RX6) rfl (Nat.le_of_ble_eq_true rfl) (fun ρ C R => ?_)
  show G ω ρ M 0 [(0, .ref (adr ω x)), (1, .int l1), (2, .int l2)] []
  refine G_aload_n C dX6_renew_0 0 rfl ?_
  refine G_iload_n C dX6_renew_1 1 rfl ?_
  refine pf_X6_9 C hx dX6_renew_2 (fun M3 eM3 => ?_)
  replace h := h M3 eM3
  refine G_aload_n C dX6_renew_5 0 rfl ?_
  refine G_iload_n C dX6_renew_6 2 rfl ?_
  refine pf_X6_15 C hx dX6_renew_7 (fun M4 eM4 => ?_)
  replace h := h M4 eM4
  refine G_iconst (v := 0) C dX6_renew_10 (by decide) ?_
  refine G_istore_n C dX6_renew_11 (by decide) (lv' := [(3, .int 0), (0, .ref (adr ω x)), (1, .int l1), (2, .int l2)]) rfl ?_
  refine G_sub [1, 3, 0] (lv' := [(0, .ref (adr ω x)), (2, .int l2), (3, .int 0)]) rfl ?_
  obtain ⟨f, h⟩ := h
  exact s_X6_renew_L12 C R hx f _ _ h
theorem dX6_has_0 : decode cX6_has 0 = .ok (.lload_n 1, 1) := by decide +kernel
theorem dX6_has_1 : decode cX6_has 1 = .ok (.lconst 0, 1) := by decide +kernel
theorem dX6_has_2 : decode cX6_has 2 = .ok (.lcmp, 1) := by decide +kernel
theorem dX6_has_3 : decode cX6_has 3 = .ok (.ifCond .lt 17, 3) := by decide +kernel
theorem dX6_has_6 : decode cX6_has 6 = .ok (.lload_n 1, 1) := by decide +kernel
theorem dX6_has_7 : decode cX6_has 7 = .ok (.aload_n 0, 1) := by decide +kernel
theorem dX6_has_8 : decode cX6_has 8 = .ok (.getfield 15, 3) := by decide +kernel
theorem dX6_has_11 : decode cX6_has 11 = .ok (.i2l, 1) := by decide +kernel
theorem dX6_has_12 : decode cX6_has 12 = .ok (.lcmp, 1) := by decide +kernel
theorem dX6_has_13 : decode cX6_has 13 = .ok (.ifCond .ge 7, 3) := by decide +kernel
theorem dX6_has_16 : decode cX6_has 16 = .ok (.iconst 1, 1) := by decide +kernel
theorem dX6_has_17 : decode cX6_has 17 = .ok (.goto 4, 3) := by decide +kernel
theorem dX6_has_20 : decode cX6_has 20 = .ok (.iconst 0, 1) := by decide +kernel
theorem dX6_has_21 : decode cX6_has 21 = .ok (.ireturn, 1) := by decide +kernel
theorem gf_X6_15 {ω : WD} {ρ : FR} {M : Mem} {cc : ByteArray} {d n pc i : Nat} {lv : List (Nat × Value)} {rest : List Value} (C : Cx ω ρ cc RX6 d n) (hk : isK 6 i) (hd : decode cc pc = .ok (.getfield 15, 3)) (k : G ω ρ M (pc + 3) lv (.int (rd M i 1) :: rest)) : G ω ρ M pc lv (.ref (adr ω i) :: rest) := G_get (N := 3) (T := TX6) (C := RX6) (q := 1) C hk (by decide) rfl in_X6 (by decide) (tb_of 361 ⟨by decide +kernel, rfl⟩) rfl rfl hd k
set_option maxRecDepth 100000 in
set_option maxHeartbeats 4000000 in
theorem S_X6_has {ω : WD} {x : Nat} {l1 : Int64} {M : Mem} {post : Int32 → Mem → Prop} (hx : isK 6 x) (h : w_X6_has x l1 M post) : MtI ω yX6_has cX6_has 3 (some .boolean) 0 [.ref (adr ω x), .long l1] M post := by
  refine MtI.start (ty := .boolean) rfl (by decide +kernel) (own := RX6) rfl (Nat.le_of_ble_eq_true rfl) (fun ρ C R => ?_)
  show G ω ρ M 0 [(0, .ref (adr ω x)), (1, .long l1)] []
  refine G_lload_n C dX6_has_0 1 rfl ?_
  refine G_lconst (v := 0) C dX6_has_1 (by decide) ?_
  refine G_lcmp C dX6_has_2 ?_
  obtain ⟨h1, h2⟩ := h
  refine G_if_lt (tgt := 20) C dX6_has_3 (by decide) (fun c => ?_) (fun c => ?_)
  · have h := h1 c
    clear h1 h2
    refine G_iconst (v := 0) C dX6_has_20 (by decide) ?_
    exact R 21 _ _ _ dX6_has_21 rfl h
  · have h := h2 c
    clear h1 h2
    refine G_lload_n C dX6_has_6 1 rfl ?_
    refine G_aload_n C dX6_has_7 0 rfl ?_
    refine gf_X6_15 C hx dX6_has_8 ?_
    refine G_i2l C dX6_has_11 ?_
    refine G_lcmp C dX6_has_12 ?_
    obtain ⟨h1, h2⟩ := h
    refine G_if_ge (tgt := 20) C dX6_has_13 (by decide) (fun c => ?_) (fun c => ?_)
    · have h := h1 c
      clear h1 h2
      refine G_iconst (v := 0) C dX6_has_20 (by decide) ?_
      exact R 21 _ _ _ dX6_has_21 rfl h
    · have h := h2 c
      clear h1 h2
      refine G_iconst (v := 1) C dX6_has_16 (by decide) ?_
      refine G_goto (tgt := 21) C dX6_has_17 (by decide) ?_
      exact R 21 _ _ _ dX6_has_21 rfl h
theorem dX6_faultAs_0 : decode cX6_faultAs 0 = .ok (.aload_n 0, 1) := by decide +kernel
theorem dX6_faultAs_1 : decode cX6_faultAs 1 = .ok (.getfield 15, 3) := by decide +kernel
theorem dX6_faultAs_4 : decode cX6_faultAs 4 = .ok (.bipush (-4), 2) := by decide +kernel
theorem dX6_faultAs_6 : decode cX6_faultAs 6 = .ok (.if_icmp .ne 5, 3) := by decide +kernel
theorem dX6_faultAs_9 : decode cX6_faultAs 9 = .ok (.iconst 1, 1) := by decide +kernel
theorem dX6_faultAs_10 : decode cX6_faultAs 10 = .ok (.ireturn, 1) := by decide +kernel
theorem dX6_faultAs_11 : decode cX6_faultAs 11 = .ok (.aload_n 0, 1) := by decide +kernel
theorem dX6_faultAs_12 : decode cX6_faultAs 12 = .ok (.getfield 9, 3) := by decide +kernel
theorem dX6_faultAs_15 : decode cX6_faultAs 15 = .ok (.iload_n 1, 1) := by decide +kernel
theorem dX6_faultAs_16 : decode cX6_faultAs 16 = .ok (.if_icmp .ne 7, 3) := by decide +kernel
theorem dX6_faultAs_19 : decode cX6_faultAs 19 = .ok (.iconst 0, 1) := by decide +kernel
theorem dX6_faultAs_20 : decode cX6_faultAs 20 = .ok (.goto 4, 3) := by decide +kernel
theorem dX6_faultAs_23 : decode cX6_faultAs 23 = .ok (.iconst 3, 1) := by decide +kernel
theorem dX6_faultAs_24 : decode cX6_faultAs 24 = .ok (.ireturn, 1) := by decide +kernel
theorem gf_X6_9 {ω : WD} {ρ : FR} {M : Mem} {cc : ByteArray} {d n pc i : Nat} {lv : List (Nat × Value)} {rest : List Value} (C : Cx ω ρ cc RX6 d n) (hk : isK 6 i) (hd : decode cc pc = .ok (.getfield 9, 3)) (k : G ω ρ M (pc + 3) lv (.int (rd M i 0) :: rest)) : G ω ρ M pc lv (.ref (adr ω i) :: rest) := G_get (N := 3) (T := TX6) (C := RX6) (q := 0) C hk (by decide) rfl in_X6 (by decide) (tb_of 360 ⟨by decide +kernel, rfl⟩) rfl rfl hd k
set_option maxRecDepth 100000 in
set_option maxHeartbeats 4000000 in
theorem S_X6_faultAs {ω : WD} {x : Nat} {l1 : Int32} {M : Mem} {post : Int32 → Mem → Prop} (hx : isK 6 x) (h : w_X6_faultAs x l1 M post) : MtI ω yX6_faultAs cX6_faultAs 2 (some .int) 0 [.ref (adr ω x), .int l1] M post := by
  refine MtI.start (ty := .int) rfl (by decide +kernel) (own := RX6) rfl (Nat.le_of_ble_eq_true rfl) (fun ρ C R => ?_)
  show G ω ρ M 0 [(0, .ref (adr ω x)), (1, .int l1)] []
  refine G_aload_n C dX6_faultAs_0 0 rfl ?_
  refine gf_X6_15 C hx dX6_faultAs_1 ?_
  refine G_bipush (v := (-4)) C dX6_faultAs_4 (by decide) ?_
  obtain ⟨h1, h2⟩ := h
  refine G_icmp_ne (tgt := 11) C dX6_faultAs_6 (by decide) (fun c => ?_) (fun c => ?_)
  · have h := h1 c
    clear h1 h2
    refine G_aload_n C dX6_faultAs_11 0 rfl ?_
    refine gf_X6_9 C hx dX6_faultAs_12 ?_
    refine G_iload_n C dX6_faultAs_15 1 rfl ?_
    obtain ⟨h1, h2⟩ := h
    refine G_icmp_ne (tgt := 23) C dX6_faultAs_16 (by decide) (fun c => ?_) (fun c => ?_)
    · have h := h1 c
      clear h1 h2
      refine G_iconst (v := 3) C dX6_faultAs_23 (by decide) ?_
      exact R 24 _ _ _ dX6_faultAs_24 rfl h
    · have h := h2 c
      clear h1 h2
      refine G_iconst (v := 0) C dX6_faultAs_19 (by decide) ?_
      refine G_goto (tgt := 24) C dX6_faultAs_20 (by decide) ?_
      exact R 24 _ _ _ dX6_faultAs_24 rfl h
  · have h := h2 c
    clear h1 h2
    refine G_iconst (v := 1) C dX6_faultAs_9 (by decide) ?_
    exact R 10 _ _ _ dX6_faultAs_10 rfl h
theorem dX6_narrowed_0 : decode cX6_narrowed 0 = .ok (.aload_n 0, 1) := by decide +kernel
theorem dX6_narrowed_1 : decode cX6_narrowed 1 = .ok (.getfield 9, 3) := by decide +kernel
theorem dX6_narrowed_4 : decode cX6_narrowed 4 = .ok (.ifCond .ne 6, 3) := by decide +kernel
theorem dX6_narrowed_7 : decode cX6_narrowed 7 = .ok (.iload_n 1, 1) := by decide +kernel
theorem dX6_narrowed_8 : decode cX6_narrowed 8 = .ok (.i2b, 1) := by decide +kernel
theorem dX6_narrowed_9 : decode cX6_narrowed 9 = .ok (.ireturn, 1) := by decide +kernel
theorem dX6_narrowed_10 : decode cX6_narrowed 10 = .ok (.aload_n 0, 1) := by decide +kernel
theorem dX6_narrowed_11 : decode cX6_narrowed 11 = .ok (.getfield 9, 3) := by decide +kernel
theorem dX6_narrowed_14 : decode cX6_narrowed 14 = .ok (.iconst 1, 1) := by decide +kernel
theorem dX6_narrowed_15 : decode cX6_narrowed 15 = .ok (.if_icmp .ne 8, 3) := by decide +kernel
theorem dX6_narrowed_18 : decode cX6_narrowed 18 = .ok (.iload_n 1, 1) := by decide +kernel
theorem dX6_narrowed_19 : decode cX6_narrowed 19 = .ok (.i2s, 1) := by decide +kernel
theorem dX6_narrowed_20 : decode cX6_narrowed 20 = .ok (.goto 4, 3) := by decide +kernel
theorem dX6_narrowed_23 : decode cX6_narrowed 23 = .ok (.iload_n 1, 1) := by decide +kernel
theorem dX6_narrowed_24 : decode cX6_narrowed 24 = .ok (.ireturn, 1) := by decide +kernel
set_option maxRecDepth 100000 in
set_option maxHeartbeats 4000000 in
theorem S_X6_narrowed {ω : WD} {x : Nat} {l1 : Int32} {M : Mem} {post : Int32 → Mem → Prop} (hx : isK 6 x) (h : w_X6_narrowed x l1 M post) : MtI ω yX6_narrowed cX6_narrowed 2 (some .int) 0 [.ref (adr ω x), .int l1] M post := by
  refine MtI.start (ty := .int) rfl (by decide +kernel) (own := RX6) rfl (Nat.le_of_ble_eq_true rfl) (fun ρ C R => ?_)
  show G ω ρ M 0 [(0, .ref (adr ω x)), (1, .int l1)] []
  refine G_aload_n C dX6_narrowed_0 0 rfl ?_
  refine gf_X6_9 C hx dX6_narrowed_1 ?_
  obtain ⟨h1, h2⟩ := h
  refine G_if_ne (tgt := 10) C dX6_narrowed_4 (by decide) (fun c => ?_) (fun c => ?_)
  · have h := h1 c
    clear h1 h2
    refine G_aload_n C dX6_narrowed_10 0 rfl ?_
    refine gf_X6_9 C hx dX6_narrowed_11 ?_
    refine G_iconst (v := 1) C dX6_narrowed_14 (by decide) ?_
    obtain ⟨h1, h2⟩ := h
    refine G_icmp_ne (tgt := 23) C dX6_narrowed_15 (by decide) (fun c => ?_) (fun c => ?_)
    · have h := h1 c
      clear h1 h2
      refine G_iload_n C dX6_narrowed_23 1 rfl ?_
      exact R 24 _ _ _ dX6_narrowed_24 rfl h
    · have h := h2 c
      clear h1 h2
      refine G_iload_n C dX6_narrowed_18 1 rfl ?_
      refine G_i2s C dX6_narrowed_19 ?_
      refine G_goto (tgt := 24) C dX6_narrowed_20 (by decide) ?_
      exact R 24 _ _ _ dX6_narrowed_24 rfl h
  · have h := h2 c
    clear h1 h2
    refine G_iload_n C dX6_narrowed_7 1 rfl ?_
    refine G_i2b C dX6_narrowed_8 ?_
    exact R 9 _ _ _ dX6_narrowed_9 rfl h
