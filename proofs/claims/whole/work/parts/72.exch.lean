theorem dJ6_bitCount_0f7a4_0 : decode cJ6_bitCount_0f7a4 0 = .ok (.iload_n 0, 1) := by decide +kernel
theorem dJ6_bitCount_0f7a4_1 : decode cJ6_bitCount_0f7a4 1 = .ok (.iload_n 0, 1) := by decide +kernel
theorem dJ6_bitCount_0f7a4_2 : decode cJ6_bitCount_0f7a4 2 = .ok (.iconst 1, 1) := by decide +kernel
theorem dJ6_bitCount_0f7a4_3 : decode cJ6_bitCount_0f7a4 3 = .ok (.iushr, 1) := by decide +kernel
theorem dJ6_bitCount_0f7a4_4 : decode cJ6_bitCount_0f7a4 4 = .ok (.ldc_w 265, 3) := by decide +kernel
theorem dJ6_bitCount_0f7a4_7 : decode cJ6_bitCount_0f7a4 7 = .ok (.iand, 1) := by decide +kernel
theorem dJ6_bitCount_0f7a4_8 : decode cJ6_bitCount_0f7a4 8 = .ok (.isub, 1) := by decide +kernel
theorem dJ6_bitCount_0f7a4_9 : decode cJ6_bitCount_0f7a4 9 = .ok (.istore_n 0, 1) := by decide +kernel
theorem dJ6_bitCount_0f7a4_10 : decode cJ6_bitCount_0f7a4 10 = .ok (.iload_n 0, 1) := by decide +kernel
theorem dJ6_bitCount_0f7a4_11 : decode cJ6_bitCount_0f7a4 11 = .ok (.ldc_w 266, 3) := by decide +kernel
theorem dJ6_bitCount_0f7a4_14 : decode cJ6_bitCount_0f7a4 14 = .ok (.iand, 1) := by decide +kernel
theorem dJ6_bitCount_0f7a4_15 : decode cJ6_bitCount_0f7a4 15 = .ok (.iload_n 0, 1) := by decide +kernel
theorem dJ6_bitCount_0f7a4_16 : decode cJ6_bitCount_0f7a4 16 = .ok (.iconst 2, 1) := by decide +kernel
theorem dJ6_bitCount_0f7a4_17 : decode cJ6_bitCount_0f7a4 17 = .ok (.iushr, 1) := by decide +kernel
theorem dJ6_bitCount_0f7a4_18 : decode cJ6_bitCount_0f7a4 18 = .ok (.ldc_w 266, 3) := by decide +kernel
theorem dJ6_bitCount_0f7a4_21 : decode cJ6_bitCount_0f7a4 21 = .ok (.iand, 1) := by decide +kernel
theorem dJ6_bitCount_0f7a4_22 : decode cJ6_bitCount_0f7a4 22 = .ok (.iadd, 1) := by decide +kernel
theorem dJ6_bitCount_0f7a4_23 : decode cJ6_bitCount_0f7a4 23 = .ok (.istore_n 0, 1) := by decide +kernel
theorem dJ6_bitCount_0f7a4_24 : decode cJ6_bitCount_0f7a4 24 = .ok (.iload_n 0, 1) := by decide +kernel
theorem dJ6_bitCount_0f7a4_25 : decode cJ6_bitCount_0f7a4 25 = .ok (.iload_n 0, 1) := by decide +kernel
theorem dJ6_bitCount_0f7a4_26 : decode cJ6_bitCount_0f7a4 26 = .ok (.iconst 4, 1) := by decide +kernel
theorem dJ6_bitCount_0f7a4_27 : decode cJ6_bitCount_0f7a4 27 = .ok (.iushr, 1) := by decide +kernel
theorem dJ6_bitCount_0f7a4_28 : decode cJ6_bitCount_0f7a4 28 = .ok (.iadd, 1) := by decide +kernel
theorem dJ6_bitCount_0f7a4_29 : decode cJ6_bitCount_0f7a4 29 = .ok (.ldc_w 267, 3) := by decide +kernel
theorem dJ6_bitCount_0f7a4_32 : decode cJ6_bitCount_0f7a4 32 = .ok (.iand, 1) := by decide +kernel
theorem dJ6_bitCount_0f7a4_33 : decode cJ6_bitCount_0f7a4 33 = .ok (.istore_n 0, 1) := by decide +kernel
theorem dJ6_bitCount_0f7a4_34 : decode cJ6_bitCount_0f7a4 34 = .ok (.iload_n 0, 1) := by decide +kernel
theorem dJ6_bitCount_0f7a4_35 : decode cJ6_bitCount_0f7a4 35 = .ok (.iload_n 0, 1) := by decide +kernel
theorem dJ6_bitCount_0f7a4_36 : decode cJ6_bitCount_0f7a4 36 = .ok (.bipush 8, 2) := by decide +kernel
theorem dJ6_bitCount_0f7a4_38 : decode cJ6_bitCount_0f7a4 38 = .ok (.iushr, 1) := by decide +kernel
theorem dJ6_bitCount_0f7a4_39 : decode cJ6_bitCount_0f7a4 39 = .ok (.iadd, 1) := by decide +kernel
theorem dJ6_bitCount_0f7a4_40 : decode cJ6_bitCount_0f7a4 40 = .ok (.istore_n 0, 1) := by decide +kernel
theorem dJ6_bitCount_0f7a4_41 : decode cJ6_bitCount_0f7a4 41 = .ok (.iload_n 0, 1) := by decide +kernel
theorem dJ6_bitCount_0f7a4_42 : decode cJ6_bitCount_0f7a4 42 = .ok (.iload_n 0, 1) := by decide +kernel
theorem dJ6_bitCount_0f7a4_43 : decode cJ6_bitCount_0f7a4 43 = .ok (.bipush 16, 2) := by decide +kernel
theorem dJ6_bitCount_0f7a4_45 : decode cJ6_bitCount_0f7a4 45 = .ok (.iushr, 1) := by decide +kernel
theorem dJ6_bitCount_0f7a4_46 : decode cJ6_bitCount_0f7a4 46 = .ok (.iadd, 1) := by decide +kernel
theorem dJ6_bitCount_0f7a4_47 : decode cJ6_bitCount_0f7a4 47 = .ok (.istore_n 0, 1) := by decide +kernel
theorem dJ6_bitCount_0f7a4_48 : decode cJ6_bitCount_0f7a4 48 = .ok (.iload_n 0, 1) := by decide +kernel
theorem dJ6_bitCount_0f7a4_49 : decode cJ6_bitCount_0f7a4 49 = .ok (.bipush 63, 2) := by decide +kernel
theorem dJ6_bitCount_0f7a4_51 : decode cJ6_bitCount_0f7a4 51 = .ok (.iand, 1) := by decide +kernel
theorem dJ6_bitCount_0f7a4_52 : decode cJ6_bitCount_0f7a4 52 = .ok (.ireturn, 1) := by decide +kernel
set_option maxRecDepth 100000 in
set_option maxHeartbeats 4000000 in
theorem S_J6_bitCount_0f7a4 {ω : WD} {l0 : Int32} {M : Mem} {post : Int32 → Mem → Prop} (h : w_J6_bitCount_0f7a4 l0 M post) : MtI ω yJ6_bitCount_0f7a4 cJ6_bitCount_0f7a4 1 (some .int) 0 [.int l0] M post := by
  refine MtI.start (ty := .int) rfl (by decide +kernel) (own := RJ6) rfl (Nat.le_of_ble_eq_true rfl) (fun ρ C R => ?_)
  show G ω ρ M 0 [(0, .int l0)] []
  refine G_iload_n C dJ6_bitCount_0f7a4_0 0 rfl ?_
  refine G_iload_n C dJ6_bitCount_0f7a4_1 0 rfl ?_
  refine G_iconst (v := 1) C dJ6_bitCount_0f7a4_2 (by decide) ?_
  refine G_iushr C dJ6_bitCount_0f7a4_3 ?_
  refine G_ldcw (v := 1431655765) C dJ6_bitCount_0f7a4_4 (tb_of 829 ⟨by decide +kernel, rfl⟩) ?_
  refine G_iand C dJ6_bitCount_0f7a4_7 ?_
  refine G_isub C dJ6_bitCount_0f7a4_8 ?_
  refine G_iname (fun v1 ev1 => ?_)
  replace h := h v1 ev1
  refine G_istore_n C dJ6_bitCount_0f7a4_9 (by decide) (lv' := [(0, .int v1)]) rfl ?_
  refine G_iload_n C dJ6_bitCount_0f7a4_10 0 rfl ?_
  refine G_ldcw (v := 858993459) C dJ6_bitCount_0f7a4_11 (tb_of 830 ⟨by decide +kernel, rfl⟩) ?_
  refine G_iand C dJ6_bitCount_0f7a4_14 ?_
  refine G_iload_n C dJ6_bitCount_0f7a4_15 0 rfl ?_
  refine G_iconst (v := 2) C dJ6_bitCount_0f7a4_16 (by decide) ?_
  refine G_iushr C dJ6_bitCount_0f7a4_17 ?_
  refine G_ldcw (v := 858993459) C dJ6_bitCount_0f7a4_18 (tb_of 830 ⟨by decide +kernel, rfl⟩) ?_
  refine G_iand C dJ6_bitCount_0f7a4_21 ?_
  refine G_iadd C dJ6_bitCount_0f7a4_22 ?_
  refine G_iname (fun v2 ev2 => ?_)
  replace h := h v2 ev2
  refine G_istore_n C dJ6_bitCount_0f7a4_23 (by decide) (lv' := [(0, .int v2)]) rfl ?_
  refine G_iload_n C dJ6_bitCount_0f7a4_24 0 rfl ?_
  refine G_iload_n C dJ6_bitCount_0f7a4_25 0 rfl ?_
  refine G_iconst (v := 4) C dJ6_bitCount_0f7a4_26 (by decide) ?_
  refine G_iushr C dJ6_bitCount_0f7a4_27 ?_
  refine G_iadd C dJ6_bitCount_0f7a4_28 ?_
  refine G_ldcw (v := 252645135) C dJ6_bitCount_0f7a4_29 (tb_of 831 ⟨by decide +kernel, rfl⟩) ?_
  refine G_iand C dJ6_bitCount_0f7a4_32 ?_
  refine G_iname (fun v3 ev3 => ?_)
  replace h := h v3 ev3
  refine G_istore_n C dJ6_bitCount_0f7a4_33 (by decide) (lv' := [(0, .int v3)]) rfl ?_
  refine G_iload_n C dJ6_bitCount_0f7a4_34 0 rfl ?_
  refine G_iload_n C dJ6_bitCount_0f7a4_35 0 rfl ?_
  refine G_bipush (v := 8) C dJ6_bitCount_0f7a4_36 (by decide) ?_
  refine G_iushr C dJ6_bitCount_0f7a4_38 ?_
  refine G_iadd C dJ6_bitCount_0f7a4_39 ?_
  refine G_iname (fun v4 ev4 => ?_)
  replace h := h v4 ev4
  refine G_istore_n C dJ6_bitCount_0f7a4_40 (by decide) (lv' := [(0, .int v4)]) rfl ?_
  refine G_iload_n C dJ6_bitCount_0f7a4_41 0 rfl ?_
  refine G_iload_n C dJ6_bitCount_0f7a4_42 0 rfl ?_
  refine G_bipush (v := 16) C dJ6_bitCount_0f7a4_43 (by decide) ?_
  refine G_iushr C dJ6_bitCount_0f7a4_45 ?_
  refine G_iadd C dJ6_bitCount_0f7a4_46 ?_
  refine G_iname (fun v5 ev5 => ?_)
  replace h := h v5 ev5
  refine G_istore_n C dJ6_bitCount_0f7a4_47 (by decide) (lv' := [(0, .int v5)]) rfl ?_
  refine G_iload_n C dJ6_bitCount_0f7a4_48 0 rfl ?_
  refine G_bipush (v := 63) C dJ6_bitCount_0f7a4_49 (by decide) ?_
  refine G_iand C dJ6_bitCount_0f7a4_51 ?_
  exact R 52 _ _ _ dJ6_bitCount_0f7a4_52 rfl h
theorem dX1_clear_0 : decode cX1_clear 0 = .ok (.aload_n 0, 1) := by decide +kernel
theorem dX1_clear_1 : decode cX1_clear 1 = .ok (.iconst 0, 1) := by decide +kernel
theorem dX1_clear_2 : decode cX1_clear 2 = .ok (.putfield 9, 3) := by decide +kernel
theorem dX1_clear_5 : decode cX1_clear 5 = .ok (.aload_n 0, 1) := by decide +kernel
theorem dX1_clear_6 : decode cX1_clear 6 = .ok (.iconst 2, 1) := by decide +kernel
theorem dX1_clear_7 : decode cX1_clear 7 = .ok (.putfield 15, 3) := by decide +kernel
theorem dX1_clear_10 : decode cX1_clear 10 = .ok (.aload_n 0, 1) := by decide +kernel
theorem dX1_clear_11 : decode cX1_clear 11 = .ok (.iconst 0, 1) := by decide +kernel
theorem dX1_clear_12 : decode cX1_clear 12 = .ok (.putfield 18, 3) := by decide +kernel
theorem dX1_clear_15 : decode cX1_clear 15 = .ok (.iconst 0, 1) := by decide +kernel
theorem dX1_clear_16 : decode cX1_clear 16 = .ok (.istore_n 1, 1) := by decide +kernel
theorem dX1_clear_17 : decode cX1_clear 17 = .ok (.iload_n 1, 1) := by decide +kernel
theorem dX1_clear_18 : decode cX1_clear 18 = .ok (.iconst 5, 1) := by decide +kernel
theorem dX1_clear_19 : decode cX1_clear 19 = .ok (.if_icmp .ge 18, 3) := by decide +kernel
theorem dX1_clear_22 : decode cX1_clear 22 = .ok (.aload_n 0, 1) := by decide +kernel
theorem dX1_clear_23 : decode cX1_clear 23 = .ok (.getfield 36, 3) := by decide +kernel
theorem dX1_clear_26 : decode cX1_clear 26 = .ok (.iload_n 1, 1) := by decide +kernel
theorem dX1_clear_27 : decode cX1_clear 27 = .ok (.aaload, 1) := by decide +kernel
theorem dX1_clear_28 : decode cX1_clear 28 = .ok (.invokevirtual 41, 3) := by decide +kernel
theorem dX1_clear_31 : decode cX1_clear 31 = .ok (.iinc 1 1, 3) := by decide +kernel
theorem dX1_clear_34 : decode cX1_clear 34 = .ok (.goto (-17), 3) := by decide +kernel
theorem dX1_clear_37 : decode cX1_clear 37 = .ok (.return_, 1) := by decide +kernel
theorem gf_X1_36 {ω : WD} {ρ : FR} {M : Mem} {cc : ByteArray} {d n pc i : Nat} {lv : List (Nat × Value)} {rest : List Value} (C : Cx ω ρ cc RX1 d n) (hk : isK 1 i) (hd : decode cc pc = .ok (.getfield 36, 3)) (k : G ω ρ M (pc + 3) lv (.ref (adr ω (i + 5)) :: rest)) : G ω ρ M pc lv (.ref (adr ω i) :: rest) := G_get (N := 8) (T := TX1) (C := RX1) (q := 7) C hk (by decide) rfl in_X1 (by decide) (tb_of 148 ⟨by decide +kernel, rfl⟩) rfl rfl hd k
theorem lk_X1_41 : LkV RX1 41 RX2 yX2_clear cX2_clear 2 none 0 := LkV.of 434 435 436 63 437 (by decide +kernel) (by decide +kernel) (by decide +kernel) (by decide +kernel) (by decide +kernel) (by decide +kernel)
theorem pf_X1_9 {ω : WD} {ρ : FR} {M : Mem} {cc : ByteArray} {d n pc i : Nat} {lv : List (Nat × Value)} {rest : List Value} {v : Int32} (C : Cx ω ρ cc RX1 d n) (hk : isK 1 i) (hd : decode cc pc = .ok (.putfield 9, 3)) (k : ∀ M1, M1 = wr M i 0 v → G ω ρ M1 (pc + 3) lv rest) : G ω ρ M pc lv (.int v :: .ref (adr ω i) :: rest) := G_put (N := 8) (T := TX1) (C := RX1) (q := 0) (ty := .int) C hk (by decide) rfl in_X1 tyX1 tyX1_ok nmX1 (by decide) (tb_of 131 ⟨by decide +kernel, rfl⟩) rfl rfl (by decide +kernel) rfl rfl (fun _ _ => Nat.le_of_ble_eq_true rfl) (fun _ => rfl) hd (k _ rfl)
theorem pf_X1_15 {ω : WD} {ρ : FR} {M : Mem} {cc : ByteArray} {d n pc i : Nat} {lv : List (Nat × Value)} {rest : List Value} {v : Int32} (C : Cx ω ρ cc RX1 d n) (hk : isK 1 i) (hd : decode cc pc = .ok (.putfield 15, 3)) (k : ∀ M1, M1 = wr M i 1 v → G ω ρ M1 (pc + 3) lv rest) : G ω ρ M pc lv (.int v :: .ref (adr ω i) :: rest) := G_put (N := 8) (T := TX1) (C := RX1) (q := 1) (ty := .int) C hk (by decide) rfl in_X1 tyX1 tyX1_ok nmX1 (by decide) (tb_of 134 ⟨by decide +kernel, rfl⟩) rfl rfl (by decide +kernel) rfl rfl (fun _ _ => Nat.le_of_ble_eq_true rfl) (fun _ => rfl) hd (k _ rfl)
theorem pf_X1_18 {ω : WD} {ρ : FR} {M : Mem} {cc : ByteArray} {d n pc i : Nat} {lv : List (Nat × Value)} {rest : List Value} {v : Int32} (C : Cx ω ρ cc RX1 d n) (hk : isK 1 i) (hd : decode cc pc = .ok (.putfield 18, 3)) (k : ∀ M1, M1 = wr M i 2 v → G ω ρ M1 (pc + 3) lv rest) : G ω ρ M pc lv (.int v :: .ref (adr ω i) :: rest) := G_put (N := 8) (T := TX1) (C := RX1) (q := 2) (ty := .int) C hk (by decide) rfl in_X1 tyX1 tyX1_ok nmX1 (by decide) (tb_of 137 ⟨by decide +kernel, rfl⟩) rfl rfl (by decide +kernel) rfl rfl (fun _ _ => Nat.le_of_ble_eq_true rfl) (fun _ => rfl) hd (k _ rfl)
set_option maxRecDepth 100000 in
set_option maxHeartbeats 4000000 in
theorem s_X1_clear_L17 {ω : WD} {ρ : FR} {post : Mem → Prop} (C : Cx ω ρ cX1_clear RX1 1 2) (R : RtV ω ρ cX1_clear post) {x : Nat} (hx : isK 1 x) : ∀ (f : Nat) (l1 : Int32) (M : Mem), w_X1_clear_L17 x post f l1 M → G ω ρ M 17 [(0, .ref (adr ω x)), (1, .int l1)] [] := by
  intro f
  induction f with
  | zero => intro l1 M h; exact False.elim h
  | succ f k17 =>
    intro l1 M h
    refine G_iload_n C dX1_clear_17 1 rfl ?_
    refine G_iconst (v := 5) C dX1_clear_18 (by decide) ?_
    obtain ⟨h1, h2⟩ := h
    refine G_icmp_ge (tgt := 37) C dX1_clear_19 (by decide) (fun c => ?_) (fun c => ?_)
    · have h := h1 c
      clear h1 h2
      exact R 37 _ _ dX1_clear_37 h
    · have h := h2 c
      clear h1 h2
      refine G_aload_n C dX1_clear_22 0 rfl ?_
      refine gf_X1_36 C hx dX1_clear_23 ?_
      refine G_iload_n C dX1_clear_26 1 rfl ?_
      obtain ⟨hi, h⟩ := h
      refine G_aldGroup C (st_1_7 hx) hi dX1_clear_27 (G_rname (fun g1 eg1 => ?_))
      replace h := h g1 eg1
      have hg1 := el_13 (st_1_7 hx) hi eg1
      refine G_callV (As := []) (rest := []) C dX1_clear_28 lk_X1_41 (Nat.le_of_ble_eq_true rfl) (Nat.le_of_ble_eq_true rfl) hg1 (by decide) rfl (Nat.le_of_ble_eq_true rfl) rfl (S_X2_clear hg1 h) (fun M2 h => ?_)
      obtain ⟨v3, ev3⟩ : ∃ y : Int32, y = (l1 + 1) := ⟨_, rfl⟩
      replace h := h v3 ev3
      refine G_iinc C dX1_clear_31 1 rfl (v := v3) (by rw [ev3]; rfl) (by decide) (lv' := [(1, .int v3), (0, .ref (adr ω x))]) rfl ?_
      refine G_goto (tgt := 17) C dX1_clear_34 (by decide) ?_
      refine G_sub [1, 0] (lv' := [(0, .ref (adr ω x)), (1, .int v3)]) rfl ?_
      exact k17 _ _ h
set_option maxRecDepth 100000 in
set_option maxHeartbeats 4000000 in
theorem S_X1_clear {ω : WD} {x : Nat} {M : Mem} {post : Mem → Prop} (hx : isK 1 x) (h : w_X1_clear x M post) : MtV ω yX1_clear cX1_clear 2 none 1 [.ref (adr ω x)] M post := by
  refine MtV.start rfl (by decide +kernel) (own := RX1) rfl (Nat.le_of_ble_eq_true rfl) (fun ρ C R => ?_)
  show G ω ρ M 0 [(0, .ref (adr ω x))] []
  refine G_aload_n C dX1_clear_0 0 rfl ?_
  refine G_iconst (v := 0) C dX1_clear_1 (by decide) ?_
  refine pf_X1_9 C hx dX1_clear_2 (fun M4 eM4 => ?_)
  replace h := h M4 eM4
  refine G_aload_n C dX1_clear_5 0 rfl ?_
  refine G_iconst (v := 2) C dX1_clear_6 (by decide) ?_
  refine pf_X1_15 C hx dX1_clear_7 (fun M5 eM5 => ?_)
  replace h := h M5 eM5
  refine G_aload_n C dX1_clear_10 0 rfl ?_
  refine G_iconst (v := 0) C dX1_clear_11 (by decide) ?_
  refine pf_X1_18 C hx dX1_clear_12 (fun M6 eM6 => ?_)
  replace h := h M6 eM6
  refine G_iconst (v := 0) C dX1_clear_15 (by decide) ?_
  refine G_istore_n C dX1_clear_16 (by decide) (lv' := [(1, .int 0), (0, .ref (adr ω x))]) rfl ?_
  refine G_sub [1, 0] (lv' := [(0, .ref (adr ω x)), (1, .int 0)]) rfl ?_
  obtain ⟨f, h⟩ := h
  exact s_X1_clear_L17 C R hx f _ _ h
theorem dX1_copyFrom_0 : decode cX1_copyFrom 0 = .ok (.aload_n 0, 1) := by decide +kernel
theorem dX1_copyFrom_1 : decode cX1_copyFrom 1 = .ok (.aload_n 1, 1) := by decide +kernel
theorem dX1_copyFrom_2 : decode cX1_copyFrom 2 = .ok (.getfield 9, 3) := by decide +kernel
theorem dX1_copyFrom_5 : decode cX1_copyFrom 5 = .ok (.putfield 9, 3) := by decide +kernel
theorem dX1_copyFrom_8 : decode cX1_copyFrom 8 = .ok (.aload_n 0, 1) := by decide +kernel
theorem dX1_copyFrom_9 : decode cX1_copyFrom 9 = .ok (.aload_n 1, 1) := by decide +kernel
theorem dX1_copyFrom_10 : decode cX1_copyFrom 10 = .ok (.getfield 15, 3) := by decide +kernel
theorem dX1_copyFrom_13 : decode cX1_copyFrom 13 = .ok (.putfield 15, 3) := by decide +kernel
theorem dX1_copyFrom_16 : decode cX1_copyFrom 16 = .ok (.aload_n 0, 1) := by decide +kernel
theorem dX1_copyFrom_17 : decode cX1_copyFrom 17 = .ok (.aload_n 1, 1) := by decide +kernel
theorem dX1_copyFrom_18 : decode cX1_copyFrom 18 = .ok (.getfield 18, 3) := by decide +kernel
theorem dX1_copyFrom_21 : decode cX1_copyFrom 21 = .ok (.putfield 18, 3) := by decide +kernel
theorem dX1_copyFrom_24 : decode cX1_copyFrom 24 = .ok (.iconst 0, 1) := by decide +kernel
theorem dX1_copyFrom_25 : decode cX1_copyFrom 25 = .ok (.istore_n 2, 1) := by decide +kernel
theorem dX1_copyFrom_26 : decode cX1_copyFrom 26 = .ok (.iload_n 2, 1) := by decide +kernel
theorem dX1_copyFrom_27 : decode cX1_copyFrom 27 = .ok (.aload_n 0, 1) := by decide +kernel
theorem dX1_copyFrom_28 : decode cX1_copyFrom 28 = .ok (.getfield 9, 3) := by decide +kernel
theorem dX1_copyFrom_31 : decode cX1_copyFrom 31 = .ok (.if_icmp .ge 57, 3) := by decide +kernel
theorem dX1_copyFrom_34 : decode cX1_copyFrom 34 = .ok (.aload_n 0, 1) := by decide +kernel
theorem dX1_copyFrom_35 : decode cX1_copyFrom 35 = .ok (.getfield 21, 3) := by decide +kernel
theorem dX1_copyFrom_38 : decode cX1_copyFrom 38 = .ok (.iload_n 2, 1) := by decide +kernel
theorem dX1_copyFrom_39 : decode cX1_copyFrom 39 = .ok (.aload_n 1, 1) := by decide +kernel
theorem dX1_copyFrom_40 : decode cX1_copyFrom 40 = .ok (.getfield 21, 3) := by decide +kernel
theorem dX1_copyFrom_43 : decode cX1_copyFrom 43 = .ok (.iload_n 2, 1) := by decide +kernel
theorem dX1_copyFrom_44 : decode cX1_copyFrom 44 = .ok (.iaload, 1) := by decide +kernel
theorem dX1_copyFrom_45 : decode cX1_copyFrom 45 = .ok (.iastore, 1) := by decide +kernel
theorem dX1_copyFrom_46 : decode cX1_copyFrom 46 = .ok (.aload_n 0, 1) := by decide +kernel
theorem dX1_copyFrom_47 : decode cX1_copyFrom 47 = .ok (.getfield 25, 3) := by decide +kernel
theorem dX1_copyFrom_50 : decode cX1_copyFrom 50 = .ok (.iload_n 2, 1) := by decide +kernel
theorem dX1_copyFrom_51 : decode cX1_copyFrom 51 = .ok (.aload_n 1, 1) := by decide +kernel
theorem dX1_copyFrom_52 : decode cX1_copyFrom 52 = .ok (.getfield 25, 3) := by decide +kernel
theorem dX1_copyFrom_55 : decode cX1_copyFrom 55 = .ok (.iload_n 2, 1) := by decide +kernel
theorem dX1_copyFrom_56 : decode cX1_copyFrom 56 = .ok (.iaload, 1) := by decide +kernel
theorem dX1_copyFrom_57 : decode cX1_copyFrom 57 = .ok (.iastore, 1) := by decide +kernel
theorem dX1_copyFrom_58 : decode cX1_copyFrom 58 = .ok (.aload_n 0, 1) := by decide +kernel
theorem dX1_copyFrom_59 : decode cX1_copyFrom 59 = .ok (.getfield 28, 3) := by decide +kernel
theorem dX1_copyFrom_62 : decode cX1_copyFrom 62 = .ok (.iload_n 2, 1) := by decide +kernel
theorem dX1_copyFrom_63 : decode cX1_copyFrom 63 = .ok (.aload_n 1, 1) := by decide +kernel
theorem dX1_copyFrom_64 : decode cX1_copyFrom 64 = .ok (.getfield 28, 3) := by decide +kernel
theorem dX1_copyFrom_67 : decode cX1_copyFrom 67 = .ok (.iload_n 2, 1) := by decide +kernel
theorem dX1_copyFrom_68 : decode cX1_copyFrom 68 = .ok (.iaload, 1) := by decide +kernel
theorem dX1_copyFrom_69 : decode cX1_copyFrom 69 = .ok (.iastore, 1) := by decide +kernel
theorem dX1_copyFrom_70 : decode cX1_copyFrom 70 = .ok (.aload_n 0, 1) := by decide +kernel
theorem dX1_copyFrom_71 : decode cX1_copyFrom 71 = .ok (.getfield 31, 3) := by decide +kernel
theorem dX1_copyFrom_74 : decode cX1_copyFrom 74 = .ok (.iload_n 2, 1) := by decide +kernel
theorem dX1_copyFrom_75 : decode cX1_copyFrom 75 = .ok (.aload_n 1, 1) := by decide +kernel
theorem dX1_copyFrom_76 : decode cX1_copyFrom 76 = .ok (.getfield 31, 3) := by decide +kernel
theorem dX1_copyFrom_79 : decode cX1_copyFrom 79 = .ok (.iload_n 2, 1) := by decide +kernel
theorem dX1_copyFrom_80 : decode cX1_copyFrom 80 = .ok (.iaload, 1) := by decide +kernel
theorem dX1_copyFrom_81 : decode cX1_copyFrom 81 = .ok (.iastore, 1) := by decide +kernel
theorem dX1_copyFrom_82 : decode cX1_copyFrom 82 = .ok (.iinc 2 1, 3) := by decide +kernel
theorem dX1_copyFrom_85 : decode cX1_copyFrom 85 = .ok (.goto (-59), 3) := by decide +kernel
theorem dX1_copyFrom_88 : decode cX1_copyFrom 88 = .ok (.iconst 0, 1) := by decide +kernel
theorem dX1_copyFrom_89 : decode cX1_copyFrom 89 = .ok (.istore_n 2, 1) := by decide +kernel
theorem dX1_copyFrom_90 : decode cX1_copyFrom 90 = .ok (.iload_n 2, 1) := by decide +kernel
theorem dX1_copyFrom_91 : decode cX1_copyFrom 91 = .ok (.iconst 5, 1) := by decide +kernel
theorem dX1_copyFrom_92 : decode cX1_copyFrom 92 = .ok (.if_icmp .ge 24, 3) := by decide +kernel
theorem dX1_copyFrom_95 : decode cX1_copyFrom 95 = .ok (.aload_n 0, 1) := by decide +kernel
theorem dX1_copyFrom_96 : decode cX1_copyFrom 96 = .ok (.getfield 36, 3) := by decide +kernel
theorem dX1_copyFrom_99 : decode cX1_copyFrom 99 = .ok (.iload_n 2, 1) := by decide +kernel
theorem dX1_copyFrom_100 : decode cX1_copyFrom 100 = .ok (.aaload, 1) := by decide +kernel
theorem dX1_copyFrom_101 : decode cX1_copyFrom 101 = .ok (.aload_n 1, 1) := by decide +kernel
theorem dX1_copyFrom_102 : decode cX1_copyFrom 102 = .ok (.getfield 36, 3) := by decide +kernel
theorem dX1_copyFrom_105 : decode cX1_copyFrom 105 = .ok (.iload_n 2, 1) := by decide +kernel
theorem dX1_copyFrom_106 : decode cX1_copyFrom 106 = .ok (.aaload, 1) := by decide +kernel
theorem dX1_copyFrom_107 : decode cX1_copyFrom 107 = .ok (.invokevirtual 44, 3) := by decide +kernel
theorem dX1_copyFrom_110 : decode cX1_copyFrom 110 = .ok (.iinc 2 1, 3) := by decide +kernel
theorem dX1_copyFrom_113 : decode cX1_copyFrom 113 = .ok (.goto (-23), 3) := by decide +kernel
theorem dX1_copyFrom_116 : decode cX1_copyFrom 116 = .ok (.return_, 1) := by decide +kernel
theorem lk_X1_44 : LkV RX1 44 RX2 yX2_copyFrom cX2_copyFrom 3 none 1 := LkV.of 588 589 590 63 591 (by decide +kernel) (by decide +kernel) (by decide +kernel) (by decide +kernel) (by decide +kernel) (by decide +kernel)
theorem gf_X1_9 {ω : WD} {ρ : FR} {M : Mem} {cc : ByteArray} {d n pc i : Nat} {lv : List (Nat × Value)} {rest : List Value} (C : Cx ω ρ cc RX1 d n) (hk : isK 1 i) (hd : decode cc pc = .ok (.getfield 9, 3)) (k : G ω ρ M (pc + 3) lv (.int (rd M i 0) :: rest)) : G ω ρ M pc lv (.ref (adr ω i) :: rest) := G_get (N := 8) (T := TX1) (C := RX1) (q := 0) C hk (by decide) rfl in_X1 (by decide) (tb_of 131 ⟨by decide +kernel, rfl⟩) rfl rfl hd k
theorem gf_X1_21 {ω : WD} {ρ : FR} {M : Mem} {cc : ByteArray} {d n pc i : Nat} {lv : List (Nat × Value)} {rest : List Value} (C : Cx ω ρ cc RX1 d n) (hk : isK 1 i) (hd : decode cc pc = .ok (.getfield 21, 3)) (k : G ω ρ M (pc + 3) lv (.ref (adr ω (i + 1)) :: rest)) : G ω ρ M pc lv (.ref (adr ω i) :: rest) := G_get (N := 8) (T := TX1) (C := RX1) (q := 3) C hk (by decide) rfl in_X1 (by decide) (tb_of 139 ⟨by decide +kernel, rfl⟩) rfl rfl hd k
theorem gf_X1_25 {ω : WD} {ρ : FR} {M : Mem} {cc : ByteArray} {d n pc i : Nat} {lv : List (Nat × Value)} {rest : List Value} (C : Cx ω ρ cc RX1 d n) (hk : isK 1 i) (hd : decode cc pc = .ok (.getfield 25, 3)) (k : G ω ρ M (pc + 3) lv (.ref (adr ω (i + 2)) :: rest)) : G ω ρ M pc lv (.ref (adr ω i) :: rest) := G_get (N := 8) (T := TX1) (C := RX1) (q := 4) C hk (by decide) rfl in_X1 (by decide) (tb_of 141 ⟨by decide +kernel, rfl⟩) rfl rfl hd k
theorem gf_X1_28 {ω : WD} {ρ : FR} {M : Mem} {cc : ByteArray} {d n pc i : Nat} {lv : List (Nat × Value)} {rest : List Value} (C : Cx ω ρ cc RX1 d n) (hk : isK 1 i) (hd : decode cc pc = .ok (.getfield 28, 3)) (k : G ω ρ M (pc + 3) lv (.ref (adr ω (i + 3)) :: rest)) : G ω ρ M pc lv (.ref (adr ω i) :: rest) := G_get (N := 8) (T := TX1) (C := RX1) (q := 5) C hk (by decide) rfl in_X1 (by decide) (tb_of 143 ⟨by decide +kernel, rfl⟩) rfl rfl hd k
theorem gf_X1_31 {ω : WD} {ρ : FR} {M : Mem} {cc : ByteArray} {d n pc i : Nat} {lv : List (Nat × Value)} {rest : List Value} (C : Cx ω ρ cc RX1 d n) (hk : isK 1 i) (hd : decode cc pc = .ok (.getfield 31, 3)) (k : G ω ρ M (pc + 3) lv (.ref (adr ω (i + 4)) :: rest)) : G ω ρ M pc lv (.ref (adr ω i) :: rest) := G_get (N := 8) (T := TX1) (C := RX1) (q := 6) C hk (by decide) rfl in_X1 (by decide) (tb_of 146 ⟨by decide +kernel, rfl⟩) rfl rfl hd k
theorem gf_X1_15 {ω : WD} {ρ : FR} {M : Mem} {cc : ByteArray} {d n pc i : Nat} {lv : List (Nat × Value)} {rest : List Value} (C : Cx ω ρ cc RX1 d n) (hk : isK 1 i) (hd : decode cc pc = .ok (.getfield 15, 3)) (k : G ω ρ M (pc + 3) lv (.int (rd M i 1) :: rest)) : G ω ρ M pc lv (.ref (adr ω i) :: rest) := G_get (N := 8) (T := TX1) (C := RX1) (q := 1) C hk (by decide) rfl in_X1 (by decide) (tb_of 134 ⟨by decide +kernel, rfl⟩) rfl rfl hd k
theorem gf_X1_18 {ω : WD} {ρ : FR} {M : Mem} {cc : ByteArray} {d n pc i : Nat} {lv : List (Nat × Value)} {rest : List Value} (C : Cx ω ρ cc RX1 d n) (hk : isK 1 i) (hd : decode cc pc = .ok (.getfield 18, 3)) (k : G ω ρ M (pc + 3) lv (.int (rd M i 2) :: rest)) : G ω ρ M pc lv (.ref (adr ω i) :: rest) := G_get (N := 8) (T := TX1) (C := RX1) (q := 2) C hk (by decide) rfl in_X1 (by decide) (tb_of 137 ⟨by decide +kernel, rfl⟩) rfl rfl hd k
set_option maxRecDepth 100000 in
set_option maxHeartbeats 4000000 in
theorem s_X1_copyFrom_L90 {ω : WD} {ρ : FR} {post : Mem → Prop} (C : Cx ω ρ cX1_copyFrom RX1 1 3) (R : RtV ω ρ cX1_copyFrom post) {x : Nat} {y : Nat} (hx : isK 1 x) (hy : isK 1 y) : ∀ (f : Nat) (l2 : Int32) (M : Mem), w_X1_copyFrom_L90 x y post f l2 M → G ω ρ M 90 [(0, .ref (adr ω x)), (1, .ref (adr ω y)), (2, .int l2)] [] := by
  intro f
  induction f with
  | zero => intro l2 M h; exact False.elim h
  | succ f k90 =>
    intro l2 M h
    refine G_iload_n C dX1_copyFrom_90 2 rfl ?_
    refine G_iconst (v := 5) C dX1_copyFrom_91 (by decide) ?_
    obtain ⟨h1, h2⟩ := h
    refine G_icmp_ge (tgt := 116) C dX1_copyFrom_92 (by decide) (fun c => ?_) (fun c => ?_)
    · have h := h1 c
      clear h1 h2
      exact R 116 _ _ dX1_copyFrom_116 h
    · have h := h2 c
      clear h1 h2
      refine G_aload_n C dX1_copyFrom_95 0 rfl ?_
      refine gf_X1_36 C hx dX1_copyFrom_96 ?_
      refine G_iload_n C dX1_copyFrom_99 2 rfl ?_
      obtain ⟨hi, h⟩ := h
      refine G_aldGroup C (st_1_7 hx) hi dX1_copyFrom_100 (G_rname (fun g1 eg1 => ?_))
      replace h := h g1 eg1
      have hg1 := el_13 (st_1_7 hx) hi eg1
      refine G_aload_n C dX1_copyFrom_101 1 rfl ?_
      refine gf_X1_36 C hy dX1_copyFrom_102 ?_
      refine G_iload_n C dX1_copyFrom_105 2 rfl ?_
      obtain ⟨hi, h⟩ := h
      refine G_aldGroup C (st_1_7 hy) hi dX1_copyFrom_106 (G_rname (fun g2 eg2 => ?_))
      replace h := h g2 eg2
      have hg2 := el_13 (st_1_7 hy) hi eg2
      refine G_callV (As := [.ref (adr ω g2)]) (rest := []) C dX1_copyFrom_107 lk_X1_44 (Nat.le_of_ble_eq_true rfl) (Nat.le_of_ble_eq_true rfl) hg1 (by decide) rfl (Nat.le_of_ble_eq_true rfl) rfl (S_X2_copyFrom hg1 hg2 h) (fun M3 h => ?_)
      obtain ⟨v4, ev4⟩ : ∃ y : Int32, y = (l2 + 1) := ⟨_, rfl⟩
      replace h := h v4 ev4
      refine G_iinc C dX1_copyFrom_110 2 rfl (v := v4) (by rw [ev4]; rfl) (by decide) (lv' := [(2, .int v4), (0, .ref (adr ω x)), (1, .ref (adr ω y))]) rfl ?_
      refine G_goto (tgt := 90) C dX1_copyFrom_113 (by decide) ?_
      refine G_sub [1, 2, 0] (lv' := [(0, .ref (adr ω x)), (1, .ref (adr ω y)), (2, .int v4)]) rfl ?_
      exact k90 _ _ h
set_option maxRecDepth 100000 in
set_option maxHeartbeats 4000000 in
theorem s_X1_copyFrom_L26 {ω : WD} {ρ : FR} {post : Mem → Prop} (C : Cx ω ρ cX1_copyFrom RX1 1 3) (R : RtV ω ρ cX1_copyFrom post) {x : Nat} {y : Nat} (hx : isK 1 x) (hy : isK 1 y) : ∀ (f : Nat) (l2 : Int32) (M : Mem), w_X1_copyFrom_L26 x y post f l2 M → G ω ρ M 26 [(0, .ref (adr ω x)), (1, .ref (adr ω y)), (2, .int l2)] [] := by
  intro f
  induction f with
  | zero => intro l2 M h; exact False.elim h
  | succ f k26 =>
    intro l2 M h
    refine G_iload_n C dX1_copyFrom_26 2 rfl ?_
    refine G_aload_n C dX1_copyFrom_27 0 rfl ?_
    refine gf_X1_9 C hx dX1_copyFrom_28 ?_
    obtain ⟨h1, h2⟩ := h
    refine G_icmp_ge (tgt := 88) C dX1_copyFrom_31 (by decide) (fun c => ?_) (fun c => ?_)
    · have h := h1 c
      clear h1 h2
      refine G_iconst (v := 0) C dX1_copyFrom_88 (by decide) ?_
      refine G_istore_n C dX1_copyFrom_89 (by decide) (lv' := [(2, .int 0), (0, .ref (adr ω x)), (1, .ref (adr ω y))]) rfl ?_
      refine G_sub [1, 2, 0] (lv' := [(0, .ref (adr ω x)), (1, .ref (adr ω y)), (2, .int 0)]) rfl ?_
      obtain ⟨f, h⟩ := h
      exact s_X1_copyFrom_L90 C R hx hy f _ _ h
    · have h := h2 c
      clear h1 h2
      refine G_aload_n C dX1_copyFrom_34 0 rfl ?_
      refine gf_X1_21 C hx dX1_copyFrom_35 ?_
      refine G_iload_n C dX1_copyFrom_38 2 rfl ?_
      refine G_aload_n C dX1_copyFrom_39 1 rfl ?_
      refine gf_X1_21 C hy dX1_copyFrom_40 ?_
      refine G_iload_n C dX1_copyFrom_43 2 rfl ?_
      obtain ⟨hi, h⟩ := h
      refine G_iald C (st_1_3 hy) hi rfl dX1_copyFrom_44 ?_
      obtain ⟨hi, h⟩ := h
      refine G_iast C (st_1_3 hx) hi rfl dX1_copyFrom_45 (G_mname (fun M5 eM5 => ?_))
      replace h := h M5 eM5
      refine G_aload_n C dX1_copyFrom_46 0 rfl ?_
      refine gf_X1_25 C hx dX1_copyFrom_47 ?_
      refine G_iload_n C dX1_copyFrom_50 2 rfl ?_
      refine G_aload_n C dX1_copyFrom_51 1 rfl ?_
      refine gf_X1_25 C hy dX1_copyFrom_52 ?_
      refine G_iload_n C dX1_copyFrom_55 2 rfl ?_
      obtain ⟨hi, h⟩ := h
      refine G_iald C (st_1_4 hy) hi rfl dX1_copyFrom_56 ?_
      obtain ⟨hi, h⟩ := h
      refine G_iast C (st_1_4 hx) hi rfl dX1_copyFrom_57 (G_mname (fun M6 eM6 => ?_))
      replace h := h M6 eM6
      refine G_aload_n C dX1_copyFrom_58 0 rfl ?_
      refine gf_X1_28 C hx dX1_copyFrom_59 ?_
      refine G_iload_n C dX1_copyFrom_62 2 rfl ?_
      refine G_aload_n C dX1_copyFrom_63 1 rfl ?_
      refine gf_X1_28 C hy dX1_copyFrom_64 ?_
      refine G_iload_n C dX1_copyFrom_67 2 rfl ?_
      obtain ⟨hi, h⟩ := h
      refine G_iald C (st_1_5 hy) hi rfl dX1_copyFrom_68 ?_
      obtain ⟨hi, h⟩ := h
      refine G_iast C (st_1_5 hx) hi rfl dX1_copyFrom_69 (G_mname (fun M7 eM7 => ?_))
      replace h := h M7 eM7
      refine G_aload_n C dX1_copyFrom_70 0 rfl ?_
      refine gf_X1_31 C hx dX1_copyFrom_71 ?_
      refine G_iload_n C dX1_copyFrom_74 2 rfl ?_
      refine G_aload_n C dX1_copyFrom_75 1 rfl ?_
      refine gf_X1_31 C hy dX1_copyFrom_76 ?_
      refine G_iload_n C dX1_copyFrom_79 2 rfl ?_
      obtain ⟨hi, h⟩ := h
      refine G_iald C (st_1_6 hy) hi rfl dX1_copyFrom_80 ?_
      obtain ⟨hi, h⟩ := h
      refine G_iast C (st_1_6 hx) hi rfl dX1_copyFrom_81 (G_mname (fun M8 eM8 => ?_))
      replace h := h M8 eM8
      obtain ⟨v9, ev9⟩ : ∃ y : Int32, y = (l2 + 1) := ⟨_, rfl⟩
      replace h := h v9 ev9
      refine G_iinc C dX1_copyFrom_82 2 rfl (v := v9) (by rw [ev9]; rfl) (by decide) (lv' := [(2, .int v9), (0, .ref (adr ω x)), (1, .ref (adr ω y))]) rfl ?_
      refine G_goto (tgt := 26) C dX1_copyFrom_85 (by decide) ?_
      refine G_sub [1, 2, 0] (lv' := [(0, .ref (adr ω x)), (1, .ref (adr ω y)), (2, .int v9)]) rfl ?_
      exact k26 _ _ h
set_option maxRecDepth 100000 in
set_option maxHeartbeats 4000000 in
theorem S_X1_copyFrom {ω : WD} {x : Nat} {y : Nat} {M : Mem} {post : Mem → Prop} (hx : isK 1 x) (hy : isK 1 y) (h : w_X1_copyFrom x y M post) : MtV ω yX1_copyFrom cX1_copyFrom 3 none 1 [.ref (adr ω x), .ref (adr ω y)] M post := by
  refine MtV.start rfl (by decide +kernel) (own := RX1) rfl (Nat.le_of_ble_eq_true rfl) (fun ρ C R => ?_)
  show G ω ρ M 0 [(0, .ref (adr ω x)), (1, .ref (adr ω y))] []
  refine G_aload_n C dX1_copyFrom_0 0 rfl ?_
  refine G_aload_n C dX1_copyFrom_1 1 rfl ?_
  refine gf_X1_9 C hy dX1_copyFrom_2 ?_
  refine pf_X1_9 C hx dX1_copyFrom_5 (fun M10 eM10 => ?_)
  replace h := h M10 eM10
  refine G_aload_n C dX1_copyFrom_8 0 rfl ?_
  refine G_aload_n C dX1_copyFrom_9 1 rfl ?_
  refine gf_X1_15 C hy dX1_copyFrom_10 ?_
  refine pf_X1_15 C hx dX1_copyFrom_13 (fun M11 eM11 => ?_)
  replace h := h M11 eM11
  refine G_aload_n C dX1_copyFrom_16 0 rfl ?_
  refine G_aload_n C dX1_copyFrom_17 1 rfl ?_
  refine gf_X1_18 C hy dX1_copyFrom_18 ?_
  refine pf_X1_18 C hx dX1_copyFrom_21 (fun M12 eM12 => ?_)
  replace h := h M12 eM12
  refine G_iconst (v := 0) C dX1_copyFrom_24 (by decide) ?_
  refine G_istore_n C dX1_copyFrom_25 (by decide) (lv' := [(2, .int 0), (0, .ref (adr ω x)), (1, .ref (adr ω y))]) rfl ?_
  refine G_sub [1, 2, 0] (lv' := [(0, .ref (adr ω x)), (1, .ref (adr ω y)), (2, .int 0)]) rfl ?_
  obtain ⟨f, h⟩ := h
  exact s_X1_copyFrom_L26 C R hx hy f _ _ h
theorem dX1_has_0 : decode cX1_has 0 = .ok (.iload_n 1, 1) := by decide +kernel
theorem dX1_has_1 : decode cX1_has 1 = .ok (.ifCond .lt 15, 3) := by decide +kernel
theorem dX1_has_4 : decode cX1_has 4 = .ok (.iload_n 1, 1) := by decide +kernel
theorem dX1_has_5 : decode cX1_has 5 = .ok (.aload_n 0, 1) := by decide +kernel
theorem dX1_has_6 : decode cX1_has 6 = .ok (.getfield 9, 3) := by decide +kernel
theorem dX1_has_9 : decode cX1_has 9 = .ok (.if_icmp .ge 7, 3) := by decide +kernel
theorem dX1_has_12 : decode cX1_has 12 = .ok (.iconst 1, 1) := by decide +kernel
theorem dX1_has_13 : decode cX1_has 13 = .ok (.goto 4, 3) := by decide +kernel
theorem dX1_has_16 : decode cX1_has 16 = .ok (.iconst 0, 1) := by decide +kernel
theorem dX1_has_17 : decode cX1_has 17 = .ok (.ireturn, 1) := by decide +kernel
set_option maxRecDepth 100000 in
set_option maxHeartbeats 4000000 in
theorem S_X1_has {ω : WD} {x : Nat} {l1 : Int32} {M : Mem} {post : Int32 → Mem → Prop} (hx : isK 1 x) (h : w_X1_has x l1 M post) : MtI ω yX1_has cX1_has 2 (some .boolean) 0 [.ref (adr ω x), .int l1] M post := by
  refine MtI.start (ty := .boolean) rfl (by decide +kernel) (own := RX1) rfl (Nat.le_of_ble_eq_true rfl) (fun ρ C R => ?_)
  show G ω ρ M 0 [(0, .ref (adr ω x)), (1, .int l1)] []
  refine G_iload_n C dX1_has_0 1 rfl ?_
  obtain ⟨h1, h2⟩ := h
  refine G_if_lt (tgt := 16) C dX1_has_1 (by decide) (fun c => ?_) (fun c => ?_)
  · have h := h1 c
    clear h1 h2
    refine G_iconst (v := 0) C dX1_has_16 (by decide) ?_
    exact R 17 _ _ _ dX1_has_17 rfl h
  · have h := h2 c
    clear h1 h2
    refine G_iload_n C dX1_has_4 1 rfl ?_
    refine G_aload_n C dX1_has_5 0 rfl ?_
    refine gf_X1_9 C hx dX1_has_6 ?_
    obtain ⟨h1, h2⟩ := h
    refine G_icmp_ge (tgt := 16) C dX1_has_9 (by decide) (fun c => ?_) (fun c => ?_)
    · have h := h1 c
      clear h1 h2
      refine G_iconst (v := 0) C dX1_has_16 (by decide) ?_
      exact R 17 _ _ _ dX1_has_17 rfl h
    · have h := h2 c
      clear h1 h2
      refine G_iconst (v := 1) C dX1_has_12 (by decide) ?_
      refine G_goto (tgt := 17) C dX1_has_13 (by decide) ?_
      exact R 17 _ _ _ dX1_has_17 rfl h
theorem dX1_release_0 : decode cX1_release 0 = .ok (.aload_n 0, 1) := by decide +kernel
theorem dX1_release_1 : decode cX1_release 1 = .ok (.getfield 25, 3) := by decide +kernel
theorem dX1_release_4 : decode cX1_release 4 = .ok (.iload_n 1, 1) := by decide +kernel
theorem dX1_release_5 : decode cX1_release 5 = .ok (.bipush (-4), 2) := by decide +kernel
theorem dX1_release_7 : decode cX1_release 7 = .ok (.iastore, 1) := by decide +kernel
theorem dX1_release_8 : decode cX1_release 8 = .ok (.aload_n 0, 1) := by decide +kernel
theorem dX1_release_9 : decode cX1_release 9 = .ok (.getfield 28, 3) := by decide +kernel
theorem dX1_release_12 : decode cX1_release 12 = .ok (.iload_n 1, 1) := by decide +kernel
theorem dX1_release_13 : decode cX1_release 13 = .ok (.iconst 0, 1) := by decide +kernel
theorem dX1_release_14 : decode cX1_release 14 = .ok (.iastore, 1) := by decide +kernel
theorem dX1_release_15 : decode cX1_release 15 = .ok (.aload_n 0, 1) := by decide +kernel
theorem dX1_release_16 : decode cX1_release 16 = .ok (.getfield 31, 3) := by decide +kernel
theorem dX1_release_19 : decode cX1_release 19 = .ok (.iload_n 1, 1) := by decide +kernel
theorem dX1_release_20 : decode cX1_release 20 = .ok (.bipush (-4), 2) := by decide +kernel
theorem dX1_release_22 : decode cX1_release 22 = .ok (.iastore, 1) := by decide +kernel
theorem dX1_release_23 : decode cX1_release 23 = .ok (.return_, 1) := by decide +kernel
set_option maxRecDepth 100000 in
set_option maxHeartbeats 4000000 in
theorem S_X1_release {ω : WD} {x : Nat} {l1 : Int32} {M : Mem} {post : Mem → Prop} (hx : isK 1 x) (h : w_X1_release x l1 M post) : MtV ω yX1_release cX1_release 2 none 0 [.ref (adr ω x), .int l1] M post := by
  refine MtV.start rfl (by decide +kernel) (own := RX1) rfl (Nat.le_of_ble_eq_true rfl) (fun ρ C R => ?_)
  show G ω ρ M 0 [(0, .ref (adr ω x)), (1, .int l1)] []
  refine G_aload_n C dX1_release_0 0 rfl ?_
  refine gf_X1_25 C hx dX1_release_1 ?_
  refine G_iload_n C dX1_release_4 1 rfl ?_
  refine G_bipush (v := (-4)) C dX1_release_5 (by decide) ?_
  obtain ⟨hi, h⟩ := h
  refine G_iast C (st_1_4 hx) hi rfl dX1_release_7 (G_mname (fun M1 eM1 => ?_))
  replace h := h M1 eM1
  refine G_aload_n C dX1_release_8 0 rfl ?_
  refine gf_X1_28 C hx dX1_release_9 ?_
  refine G_iload_n C dX1_release_12 1 rfl ?_
  refine G_iconst (v := 0) C dX1_release_13 (by decide) ?_
  obtain ⟨hi, h⟩ := h
  refine G_iast C (st_1_5 hx) hi rfl dX1_release_14 (G_mname (fun M2 eM2 => ?_))
  replace h := h M2 eM2
  refine G_aload_n C dX1_release_15 0 rfl ?_
  refine gf_X1_31 C hx dX1_release_16 ?_
  refine G_iload_n C dX1_release_19 1 rfl ?_
  refine G_bipush (v := (-4)) C dX1_release_20 (by decide) ?_
  obtain ⟨hi, h⟩ := h
  refine G_iast C (st_1_6 hx) hi rfl dX1_release_22 (G_mname (fun M3 eM3 => ?_))
  replace h := h M3 eM3
  exact R 23 _ _ dX1_release_23 h
theorem dX1_addOne_0 : decode cX1_addOne 0 = .ok (.aload_n 0, 1) := by decide +kernel
theorem dX1_addOne_1 : decode cX1_addOne 1 = .ok (.getfield 21, 3) := by decide +kernel
theorem dX1_addOne_4 : decode cX1_addOne 4 = .ok (.aload_n 0, 1) := by decide +kernel
theorem dX1_addOne_5 : decode cX1_addOne 5 = .ok (.getfield 9, 3) := by decide +kernel
theorem dX1_addOne_8 : decode cX1_addOne 8 = .ok (.iload_n 1, 1) := by decide +kernel
theorem dX1_addOne_9 : decode cX1_addOne 9 = .ok (.iastore, 1) := by decide +kernel
theorem dX1_addOne_10 : decode cX1_addOne 10 = .ok (.aload_n 0, 1) := by decide +kernel
theorem dX1_addOne_11 : decode cX1_addOne 11 = .ok (.aload_n 0, 1) := by decide +kernel
theorem dX1_addOne_12 : decode cX1_addOne 12 = .ok (.getfield 9, 3) := by decide +kernel
theorem dX1_addOne_15 : decode cX1_addOne 15 = .ok (.invokevirtual 48, 3) := by decide +kernel
theorem dX1_addOne_18 : decode cX1_addOne 18 = .ok (.aload_n 0, 1) := by decide +kernel
theorem dX1_addOne_19 : decode cX1_addOne 19 = .ok (.dup, 1) := by decide +kernel
theorem dX1_addOne_20 : decode cX1_addOne 20 = .ok (.getfield 9, 3) := by decide +kernel
theorem dX1_addOne_23 : decode cX1_addOne 23 = .ok (.iconst 1, 1) := by decide +kernel
theorem dX1_addOne_24 : decode cX1_addOne 24 = .ok (.iadd, 1) := by decide +kernel
theorem dX1_addOne_25 : decode cX1_addOne 25 = .ok (.putfield 9, 3) := by decide +kernel
theorem dX1_addOne_28 : decode cX1_addOne 28 = .ok (.return_, 1) := by decide +kernel
theorem lk_X1_48 : LkV RX1 48 RX1 yX1_release cX1_release 2 none 1 := LkV.of 546 547 548 62 549 (by decide +kernel) (by decide +kernel) (by decide +kernel) (by decide +kernel) (by decide +kernel) (by decide +kernel)
set_option maxRecDepth 100000 in
set_option maxHeartbeats 4000000 in
theorem S_X1_addOne {ω : WD} {x : Nat} {l1 : Int32} {M : Mem} {post : Mem → Prop} (hx : isK 1 x) (h : w_X1_addOne x l1 M post) : MtV ω yX1_addOne cX1_addOne 2 none 1 [.ref (adr ω x), .int l1] M post := by
  refine MtV.start rfl (by decide +kernel) (own := RX1) rfl (Nat.le_of_ble_eq_true rfl) (fun ρ C R => ?_)
  show G ω ρ M 0 [(0, .ref (adr ω x)), (1, .int l1)] []
  refine G_aload_n C dX1_addOne_0 0 rfl ?_
  refine gf_X1_21 C hx dX1_addOne_1 ?_
  refine G_aload_n C dX1_addOne_4 0 rfl ?_
  refine gf_X1_9 C hx dX1_addOne_5 ?_
  refine G_iload_n C dX1_addOne_8 1 rfl ?_
  obtain ⟨hi, h⟩ := h
  refine G_iast C (st_1_3 hx) hi rfl dX1_addOne_9 (G_mname (fun M1 eM1 => ?_))
  replace h := h M1 eM1
  refine G_aload_n C dX1_addOne_10 0 rfl ?_
  refine G_aload_n C dX1_addOne_11 0 rfl ?_
  refine gf_X1_9 C hx dX1_addOne_12 ?_
  refine G_callV (As := [.int (rd M1 x 0)]) (rest := []) C dX1_addOne_15 lk_X1_48 (Nat.le_of_ble_eq_true rfl) (Nat.le_of_ble_eq_true rfl) hx (by decide) rfl (Nat.le_of_ble_eq_true rfl) rfl (S_X1_release hx h) (fun M2 h => ?_)
  refine G_aload_n C dX1_addOne_18 0 rfl ?_
  refine G_dup C dX1_addOne_19 rfl ?_
  refine gf_X1_9 C hx dX1_addOne_20 ?_
  refine G_iconst (v := 1) C dX1_addOne_23 (by decide) ?_
  refine G_iadd C dX1_addOne_24 ?_
  refine pf_X1_9 C hx dX1_addOne_25 (fun M3 eM3 => ?_)
  replace h := h M3 eM3
  exact R 28 _ _ dX1_addOne_28 h
theorem dX1_owner_0 : decode cX1_owner 0 = .ok (.iconst 0, 1) := by decide +kernel
theorem dX1_owner_1 : decode cX1_owner 1 = .ok (.istore_n 2, 1) := by decide +kernel
theorem dX1_owner_2 : decode cX1_owner 2 = .ok (.iload_n 2, 1) := by decide +kernel
theorem dX1_owner_3 : decode cX1_owner 3 = .ok (.aload_n 0, 1) := by decide +kernel
theorem dX1_owner_4 : decode cX1_owner 4 = .ok (.getfield 9, 3) := by decide +kernel
theorem dX1_owner_7 : decode cX1_owner 7 = .ok (.if_icmp .ge 21, 3) := by decide +kernel
theorem dX1_owner_10 : decode cX1_owner 10 = .ok (.aload_n 0, 1) := by decide +kernel
theorem dX1_owner_11 : decode cX1_owner 11 = .ok (.getfield 21, 3) := by decide +kernel
theorem dX1_owner_14 : decode cX1_owner 14 = .ok (.iload_n 2, 1) := by decide +kernel
theorem dX1_owner_15 : decode cX1_owner 15 = .ok (.iaload, 1) := by decide +kernel
theorem dX1_owner_16 : decode cX1_owner 16 = .ok (.iload_n 1, 1) := by decide +kernel
theorem dX1_owner_17 : decode cX1_owner 17 = .ok (.if_icmp .ne 5, 3) := by decide +kernel
theorem dX1_owner_20 : decode cX1_owner 20 = .ok (.iload_n 2, 1) := by decide +kernel
theorem dX1_owner_21 : decode cX1_owner 21 = .ok (.ireturn, 1) := by decide +kernel
theorem dX1_owner_22 : decode cX1_owner 22 = .ok (.iinc 2 1, 3) := by decide +kernel
theorem dX1_owner_25 : decode cX1_owner 25 = .ok (.goto (-23), 3) := by decide +kernel
theorem dX1_owner_28 : decode cX1_owner 28 = .ok (.bipush (-4), 2) := by decide +kernel
theorem dX1_owner_30 : decode cX1_owner 30 = .ok (.ireturn, 1) := by decide +kernel
set_option maxRecDepth 100000 in
set_option maxHeartbeats 4000000 in
theorem s_X1_owner_L2 {ω : WD} {ρ : FR} {post : Int32 → Mem → Prop} (C : Cx ω ρ cX1_owner RX1 0 3) (R : RtI ω ρ cX1_owner .int post) {x : Nat} (hx : isK 1 x) {l1 : Int32} : ∀ (f : Nat) (l2 : Int32) (M : Mem), w_X1_owner_L2 x post l1 f l2 M → G ω ρ M 2 [(0, .ref (adr ω x)), (1, .int l1), (2, .int l2)] [] := by
  intro f
  induction f with
  | zero => intro l2 M h; exact False.elim h
  | succ f k2 =>
    intro l2 M h
    refine G_iload_n C dX1_owner_2 2 rfl ?_
    refine G_aload_n C dX1_owner_3 0 rfl ?_
    refine gf_X1_9 C hx dX1_owner_4 ?_
    obtain ⟨h1, h2⟩ := h
    refine G_icmp_ge (tgt := 28) C dX1_owner_7 (by decide) (fun c => ?_) (fun c => ?_)
    · have h := h1 c
      clear h1 h2
      refine G_bipush (v := (-4)) C dX1_owner_28 (by decide) ?_
      exact R 30 _ _ _ dX1_owner_30 rfl h
    · have h := h2 c
      clear h1 h2
      refine G_aload_n C dX1_owner_10 0 rfl ?_
      refine gf_X1_21 C hx dX1_owner_11 ?_
      refine G_iload_n C dX1_owner_14 2 rfl ?_
      obtain ⟨hi, h⟩ := h
      refine G_iald C (st_1_3 hx) hi rfl dX1_owner_15 ?_
      refine G_iload_n C dX1_owner_16 1 rfl ?_
      obtain ⟨h1, h2⟩ := h
      refine G_icmp_ne (tgt := 22) C dX1_owner_17 (by decide) (fun c => ?_) (fun c => ?_)
      · have h := h1 c
        clear h1 h2
        obtain ⟨v1, ev1⟩ : ∃ y : Int32, y = (l2 + 1) := ⟨_, rfl⟩
        replace h := h v1 ev1
        refine G_iinc C dX1_owner_22 2 rfl (v := v1) (by rw [ev1]; rfl) (by decide) (lv' := [(2, .int v1), (0, .ref (adr ω x)), (1, .int l1)]) rfl ?_
        refine G_goto (tgt := 2) C dX1_owner_25 (by decide) ?_
        refine G_sub [1, 2, 0] (lv' := [(0, .ref (adr ω x)), (1, .int l1), (2, .int v1)]) rfl ?_
        exact k2 _ _ h
      · have h := h2 c
        clear h1 h2
        refine G_iload_n C dX1_owner_20 2 rfl ?_
        exact R 21 _ _ _ dX1_owner_21 rfl h
set_option maxRecDepth 100000 in
set_option maxHeartbeats 4000000 in
theorem S_X1_owner {ω : WD} {x : Nat} {l1 : Int32} {M : Mem} {post : Int32 → Mem → Prop} (hx : isK 1 x) (h : w_X1_owner x l1 M post) : MtI ω yX1_owner cX1_owner 3 (some .int) 0 [.ref (adr ω x), .int l1] M post := by
  refine MtI.start (ty := .int) rfl (by decide +kernel) (own := RX1) rfl (Nat.le_of_ble_eq_true rfl) (fun ρ C R => ?_)
  show G ω ρ M 0 [(0, .ref (adr ω x)), (1, .int l1)] []
  refine G_iconst (v := 0) C dX1_owner_0 (by decide) ?_
  refine G_istore_n C dX1_owner_1 (by decide) (lv' := [(2, .int 0), (0, .ref (adr ω x)), (1, .int l1)]) rfl ?_
  refine G_sub [1, 2, 0] (lv' := [(0, .ref (adr ω x)), (1, .int l1), (2, .int 0)]) rfl ?_
  obtain ⟨f, h⟩ := h
  exact s_X1_owner_L2 C R hx f _ _ h
theorem dX1_join_0 : decode cX1_join 0 = .ok (.aload_n 0, 1) := by decide +kernel
theorem dX1_join_1 : decode cX1_join 1 = .ok (.getfield 25, 3) := by decide +kernel
theorem dX1_join_4 : decode cX1_join 4 = .ok (.iload_n 1, 1) := by decide +kernel
theorem dX1_join_5 : decode cX1_join 5 = .ok (.iload_n 2, 1) := by decide +kernel
theorem dX1_join_6 : decode cX1_join 6 = .ok (.iastore, 1) := by decide +kernel
theorem dX1_join_7 : decode cX1_join 7 = .ok (.aload_n 0, 1) := by decide +kernel
theorem dX1_join_8 : decode cX1_join 8 = .ok (.getfield 25, 3) := by decide +kernel
theorem dX1_join_11 : decode cX1_join 11 = .ok (.iload_n 2, 1) := by decide +kernel
theorem dX1_join_12 : decode cX1_join 12 = .ok (.iload_n 1, 1) := by decide +kernel
theorem dX1_join_13 : decode cX1_join 13 = .ok (.iastore, 1) := by decide +kernel
theorem dX1_join_14 : decode cX1_join 14 = .ok (.aload_n 0, 1) := by decide +kernel
theorem dX1_join_15 : decode cX1_join 15 = .ok (.getfield 28, 3) := by decide +kernel
theorem dX1_join_18 : decode cX1_join 18 = .ok (.iload_n 1, 1) := by decide +kernel
theorem dX1_join_19 : decode cX1_join 19 = .ok (.iconst 1, 1) := by decide +kernel
theorem dX1_join_20 : decode cX1_join 20 = .ok (.iastore, 1) := by decide +kernel
theorem dX1_join_21 : decode cX1_join 21 = .ok (.aload_n 0, 1) := by decide +kernel
theorem dX1_join_22 : decode cX1_join 22 = .ok (.getfield 28, 3) := by decide +kernel
theorem dX1_join_25 : decode cX1_join 25 = .ok (.iload_n 2, 1) := by decide +kernel
theorem dX1_join_26 : decode cX1_join 26 = .ok (.iconst 2, 1) := by decide +kernel
theorem dX1_join_27 : decode cX1_join 27 = .ok (.iastore, 1) := by decide +kernel
theorem dX1_join_28 : decode cX1_join 28 = .ok (.aload_n 0, 1) := by decide +kernel
theorem dX1_join_29 : decode cX1_join 29 = .ok (.getfield 31, 3) := by decide +kernel
theorem dX1_join_32 : decode cX1_join 32 = .ok (.iload_n 1, 1) := by decide +kernel
theorem dX1_join_33 : decode cX1_join 33 = .ok (.iload_n 3, 1) := by decide +kernel
theorem dX1_join_34 : decode cX1_join 34 = .ok (.iastore, 1) := by decide +kernel
theorem dX1_join_35 : decode cX1_join 35 = .ok (.aload_n 0, 1) := by decide +kernel
theorem dX1_join_36 : decode cX1_join 36 = .ok (.getfield 31, 3) := by decide +kernel
theorem dX1_join_39 : decode cX1_join 39 = .ok (.iload_n 2, 1) := by decide +kernel
theorem dX1_join_40 : decode cX1_join 40 = .ok (.iload_n 3, 1) := by decide +kernel
theorem dX1_join_41 : decode cX1_join 41 = .ok (.iastore, 1) := by decide +kernel
theorem dX1_join_42 : decode cX1_join 42 = .ok (.aload_n 0, 1) := by decide +kernel
theorem dX1_join_43 : decode cX1_join 43 = .ok (.getfield 36, 3) := by decide +kernel
theorem dX1_join_46 : decode cX1_join 46 = .ok (.iload_n 3, 1) := by decide +kernel
theorem dX1_join_47 : decode cX1_join 47 = .ok (.bipush 10, 2) := by decide +kernel
theorem dX1_join_49 : decode cX1_join 49 = .ok (.idiv, 1) := by decide +kernel
theorem dX1_join_50 : decode cX1_join 50 = .ok (.aaload, 1) := by decide +kernel
theorem dX1_join_51 : decode cX1_join 51 = .ok (.dup, 1) := by decide +kernel
theorem dX1_join_52 : decode cX1_join 52 = .ok (.getfield 74, 3) := by decide +kernel
theorem dX1_join_55 : decode cX1_join 55 = .ok (.iconst 1, 1) := by decide +kernel
theorem dX1_join_56 : decode cX1_join 56 = .ok (.iload_n 3, 1) := by decide +kernel
theorem dX1_join_57 : decode cX1_join 57 = .ok (.bipush 10, 2) := by decide +kernel
theorem dX1_join_59 : decode cX1_join 59 = .ok (.irem, 1) := by decide +kernel
theorem dX1_join_60 : decode cX1_join 60 = .ok (.ishl, 1) := by decide +kernel
theorem dX1_join_61 : decode cX1_join 61 = .ok (.ior, 1) := by decide +kernel
theorem dX1_join_62 : decode cX1_join 62 = .ok (.putfield 74, 3) := by decide +kernel
theorem dX1_join_65 : decode cX1_join 65 = .ok (.aload_n 0, 1) := by decide +kernel
theorem dX1_join_66 : decode cX1_join 66 = .ok (.dup, 1) := by decide +kernel
theorem dX1_join_67 : decode cX1_join 67 = .ok (.getfield 18, 3) := by decide +kernel
theorem dX1_join_70 : decode cX1_join 70 = .ok (.iconst 1, 1) := by decide +kernel
theorem dX1_join_71 : decode cX1_join 71 = .ok (.iadd, 1) := by decide +kernel
theorem dX1_join_72 : decode cX1_join 72 = .ok (.putfield 18, 3) := by decide +kernel
theorem dX1_join_75 : decode cX1_join 75 = .ok (.return_, 1) := by decide +kernel
theorem gf_X1_74 {ω : WD} {ρ : FR} {M : Mem} {cc : ByteArray} {d n pc i : Nat} {lv : List (Nat × Value)} {rest : List Value} (C : Cx ω ρ cc RX1 d n) (hk : isK 2 i) (hd : decode cc pc = .ok (.getfield 74, 3)) (k : G ω ρ M (pc + 3) lv (.int (rd M i 3) :: rest)) : G ω ρ M pc lv (.ref (adr ω i) :: rest) := G_get (N := 6) (T := TX2) (C := RX2) (q := 3) C hk (by decide) rfl in_X2 (by decide) (tb_of 109 ⟨by decide +kernel, rfl⟩) rfl rfl hd k
theorem pf_X1_74 {ω : WD} {ρ : FR} {M : Mem} {cc : ByteArray} {d n pc i : Nat} {lv : List (Nat × Value)} {rest : List Value} {v : Int32} (C : Cx ω ρ cc RX1 d n) (hk : isK 2 i) (hd : decode cc pc = .ok (.putfield 74, 3)) (k : ∀ M1, M1 = wr M i 3 v → G ω ρ M1 (pc + 3) lv rest) : G ω ρ M pc lv (.int v :: .ref (adr ω i) :: rest) := G_put (N := 6) (T := TX2) (C := RX2) (q := 3) (ty := .int) C hk (by decide) rfl in_X2 tyX2 tyX2_ok nmX2 (by decide) (tb_of 109 ⟨by decide +kernel, rfl⟩) rfl rfl (by decide +kernel) rfl rfl (fun _ _ => Nat.le_of_ble_eq_true rfl) (fun _ => rfl) hd (k _ rfl)
set_option maxRecDepth 100000 in
set_option maxHeartbeats 4000000 in
theorem S_X1_join {ω : WD} {x : Nat} {l1 : Int32} {l2 : Int32} {l3 : Int32} {M : Mem} {post : Mem → Prop} (hx : isK 1 x) (h : w_X1_join x l1 l2 l3 M post) : MtV ω yX1_join cX1_join 4 none 0 [.ref (adr ω x), .int l1, .int l2, .int l3] M post := by
  refine MtV.start rfl (by decide +kernel) (own := RX1) rfl (Nat.le_of_ble_eq_true rfl) (fun ρ C R => ?_)
  show G ω ρ M 0 [(0, .ref (adr ω x)), (1, .int l1), (2, .int l2), (3, .int l3)] []
  refine G_aload_n C dX1_join_0 0 rfl ?_
  refine gf_X1_25 C hx dX1_join_1 ?_
  refine G_iload_n C dX1_join_4 1 rfl ?_
  refine G_iload_n C dX1_join_5 2 rfl ?_
  obtain ⟨hi, h⟩ := h
  refine G_iast C (st_1_4 hx) hi rfl dX1_join_6 (G_mname (fun M1 eM1 => ?_))
  replace h := h M1 eM1
  refine G_aload_n C dX1_join_7 0 rfl ?_
  refine gf_X1_25 C hx dX1_join_8 ?_
  refine G_iload_n C dX1_join_11 2 rfl ?_
  refine G_iload_n C dX1_join_12 1 rfl ?_
  obtain ⟨hi, h⟩ := h
  refine G_iast C (st_1_4 hx) hi rfl dX1_join_13 (G_mname (fun M2 eM2 => ?_))
  replace h := h M2 eM2
  refine G_aload_n C dX1_join_14 0 rfl ?_
  refine gf_X1_28 C hx dX1_join_15 ?_
  refine G_iload_n C dX1_join_18 1 rfl ?_
  refine G_iconst (v := 1) C dX1_join_19 (by decide) ?_
  obtain ⟨hi, h⟩ := h
  refine G_iast C (st_1_5 hx) hi rfl dX1_join_20 (G_mname (fun M3 eM3 => ?_))
  replace h := h M3 eM3
  refine G_aload_n C dX1_join_21 0 rfl ?_
  refine gf_X1_28 C hx dX1_join_22 ?_
  refine G_iload_n C dX1_join_25 2 rfl ?_
  refine G_iconst (v := 2) C dX1_join_26 (by decide) ?_
  obtain ⟨hi, h⟩ := h
  refine G_iast C (st_1_5 hx) hi rfl dX1_join_27 (G_mname (fun M4 eM4 => ?_))
  replace h := h M4 eM4
  refine G_aload_n C dX1_join_28 0 rfl ?_
  refine gf_X1_31 C hx dX1_join_29 ?_
  refine G_iload_n C dX1_join_32 1 rfl ?_
  refine G_iload_n C dX1_join_33 3 rfl ?_
  obtain ⟨hi, h⟩ := h
  refine G_iast C (st_1_6 hx) hi rfl dX1_join_34 (G_mname (fun M5 eM5 => ?_))
  replace h := h M5 eM5
  refine G_aload_n C dX1_join_35 0 rfl ?_
  refine gf_X1_31 C hx dX1_join_36 ?_
  refine G_iload_n C dX1_join_39 2 rfl ?_
  refine G_iload_n C dX1_join_40 3 rfl ?_
  obtain ⟨hi, h⟩ := h
  refine G_iast C (st_1_6 hx) hi rfl dX1_join_41 (G_mname (fun M6 eM6 => ?_))
  replace h := h M6 eM6
  refine G_aload_n C dX1_join_42 0 rfl ?_
  refine gf_X1_36 C hx dX1_join_43 ?_
  refine G_iload_n C dX1_join_46 3 rfl ?_
  refine G_bipush (v := 10) C dX1_join_47 (by decide) ?_
  refine G_idiv C dX1_join_49 (by decide) ?_
  obtain ⟨hi, h⟩ := h
  refine G_aldGroup C (st_1_7 hx) hi dX1_join_50 (G_rname (fun g7 eg7 => ?_))
  replace h := h g7 eg7
  have hg7 := el_13 (st_1_7 hx) hi eg7
  refine G_dup C dX1_join_51 rfl ?_
  refine gf_X1_74 C hg7 dX1_join_52 ?_
  refine G_iconst (v := 1) C dX1_join_55 (by decide) ?_
  refine G_iload_n C dX1_join_56 3 rfl ?_
  refine G_bipush (v := 10) C dX1_join_57 (by decide) ?_
  refine G_irem C dX1_join_59 (by decide) ?_
  refine G_ishl C dX1_join_60 ?_
  refine G_ior C dX1_join_61 ?_
  refine pf_X1_74 C hg7 dX1_join_62 (fun M8 eM8 => ?_)
  replace h := h M8 eM8
  refine G_aload_n C dX1_join_65 0 rfl ?_
  refine G_dup C dX1_join_66 rfl ?_
  refine gf_X1_18 C hx dX1_join_67 ?_
  refine G_iconst (v := 1) C dX1_join_70 (by decide) ?_
  refine G_iadd C dX1_join_71 ?_
  refine pf_X1_18 C hx dX1_join_72 (fun M9 eM9 => ?_)
  replace h := h M9 eM9
  exact R 75 _ _ dX1_join_75 h
theorem dX1_ring_0 : decode cX1_ring 0 = .ok (.aload_n 0, 1) := by decide +kernel
theorem dX1_ring_1 : decode cX1_ring 1 = .ok (.getfield 18, 3) := by decide +kernel
theorem dX1_ring_4 : decode cX1_ring 4 = .ok (.aload_n 0, 1) := by decide +kernel
theorem dX1_ring_5 : decode cX1_ring 5 = .ok (.getfield 15, 3) := by decide +kernel
theorem dX1_ring_8 : decode cX1_ring 8 = .ok (.if_icmp .lt 5, 3) := by decide +kernel
theorem dX1_ring_11 : decode cX1_ring 11 = .ok (.iconst 1, 1) := by decide +kernel
theorem dX1_ring_12 : decode cX1_ring 12 = .ok (.ireturn, 1) := by decide +kernel
theorem dX1_ring_13 : decode cX1_ring 13 = .ok (.iload_n 2, 1) := by decide +kernel
theorem dX1_ring_14 : decode cX1_ring 14 = .ok (.bipush 10, 2) := by decide +kernel
theorem dX1_ring_16 : decode cX1_ring 16 = .ok (.idiv, 1) := by decide +kernel
theorem dX1_ring_17 : decode cX1_ring 17 = .ok (.istore_n 3, 1) := by decide +kernel
theorem dX1_ring_18 : decode cX1_ring 18 = .ok (.aload_n 0, 1) := by decide +kernel
theorem dX1_ring_19 : decode cX1_ring 19 = .ok (.getfield 36, 3) := by decide +kernel
theorem dX1_ring_22 : decode cX1_ring 22 = .ok (.iload_n 3, 1) := by decide +kernel
theorem dX1_ring_23 : decode cX1_ring 23 = .ok (.aaload, 1) := by decide +kernel
theorem dX1_ring_24 : decode cX1_ring 24 = .ok (.astore 4, 2) := by decide +kernel
theorem dX1_ring_26 : decode cX1_ring 26 = .ok (.aload 4, 2) := by decide +kernel
theorem dX1_ring_28 : decode cX1_ring 28 = .ok (.invokevirtual 52, 3) := by decide +kernel
theorem dX1_ring_31 : decode cX1_ring 31 = .ok (.istore 5, 2) := by decide +kernel
theorem dX1_ring_33 : decode cX1_ring 33 = .ok (.iload 5, 2) := by decide +kernel
theorem dX1_ring_35 : decode cX1_ring 35 = .ok (.bipush (-4), 2) := by decide +kernel
theorem dX1_ring_37 : decode cX1_ring 37 = .ok (.if_icmp .ne 5, 3) := by decide +kernel
theorem dX1_ring_40 : decode cX1_ring 40 = .ok (.iconst 2, 1) := by decide +kernel
theorem dX1_ring_41 : decode cX1_ring 41 = .ok (.ireturn, 1) := by decide +kernel
theorem dX1_ring_42 : decode cX1_ring 42 = .ok (.aload 4, 2) := by decide +kernel
theorem dX1_ring_44 : decode cX1_ring 44 = .ok (.iload 5, 2) := by decide +kernel
theorem dX1_ring_46 : decode cX1_ring 46 = .ok (.putfield 56, 3) := by decide +kernel
theorem dX1_ring_49 : decode cX1_ring 49 = .ok (.aload 4, 2) := by decide +kernel
theorem dX1_ring_51 : decode cX1_ring 51 = .ok (.getfield 59, 3) := by decide +kernel
theorem dX1_ring_54 : decode cX1_ring 54 = .ok (.iload 5, 2) := by decide +kernel
theorem dX1_ring_56 : decode cX1_ring 56 = .ok (.dup2, 1) := by decide +kernel
theorem dX1_ring_57 : decode cX1_ring 57 = .ok (.iaload, 1) := by decide +kernel
theorem dX1_ring_58 : decode cX1_ring 58 = .ok (.iconst 1, 1) := by decide +kernel
theorem dX1_ring_59 : decode cX1_ring 59 = .ok (.iadd, 1) := by decide +kernel
theorem dX1_ring_60 : decode cX1_ring 60 = .ok (.iastore, 1) := by decide +kernel
theorem dX1_ring_61 : decode cX1_ring 61 = .ok (.aload 4, 2) := by decide +kernel
theorem dX1_ring_63 : decode cX1_ring 63 = .ok (.iload 5, 2) := by decide +kernel
theorem dX1_ring_65 : decode cX1_ring 65 = .ok (.invokevirtual 62, 3) := by decide +kernel
theorem dX1_ring_68 : decode cX1_ring 68 = .ok (.ifCond .eq 5, 3) := by decide +kernel
theorem dX1_ring_71 : decode cX1_ring 71 = .ok (.iconst 3, 1) := by decide +kernel
theorem dX1_ring_72 : decode cX1_ring 72 = .ok (.ireturn, 1) := by decide +kernel
theorem dX1_ring_73 : decode cX1_ring 73 = .ok (.aload_n 0, 1) := by decide +kernel
theorem dX1_ring_74 : decode cX1_ring 74 = .ok (.iload_n 2, 1) := by decide +kernel
theorem dX1_ring_75 : decode cX1_ring 75 = .ok (.invokevirtual 66, 3) := by decide +kernel
theorem dX1_ring_78 : decode cX1_ring 78 = .ok (.istore 6, 2) := by decide +kernel
theorem dX1_ring_80 : decode cX1_ring 80 = .ok (.iload 6, 2) := by decide +kernel
theorem dX1_ring_82 : decode cX1_ring 82 = .ok (.bipush (-4), 2) := by decide +kernel
theorem dX1_ring_84 : decode cX1_ring 84 = .ok (.if_icmp .ne 5, 3) := by decide +kernel
theorem dX1_ring_87 : decode cX1_ring 87 = .ok (.iconst 4, 1) := by decide +kernel
theorem dX1_ring_88 : decode cX1_ring 88 = .ok (.ireturn, 1) := by decide +kernel
theorem dX1_ring_89 : decode cX1_ring 89 = .ok (.iload 6, 2) := by decide +kernel
theorem dX1_ring_91 : decode cX1_ring 91 = .ok (.iload_n 1, 1) := by decide +kernel
theorem dX1_ring_92 : decode cX1_ring 92 = .ok (.if_icmp .eq 13, 3) := by decide +kernel
theorem dX1_ring_95 : decode cX1_ring 95 = .ok (.aload_n 0, 1) := by decide +kernel
theorem dX1_ring_96 : decode cX1_ring 96 = .ok (.getfield 28, 3) := by decide +kernel
theorem dX1_ring_99 : decode cX1_ring 99 = .ok (.iload 6, 2) := by decide +kernel
theorem dX1_ring_101 : decode cX1_ring 101 = .ok (.iaload, 1) := by decide +kernel
theorem dX1_ring_102 : decode cX1_ring 102 = .ok (.ifCond .eq 5, 3) := by decide +kernel
theorem dX1_ring_105 : decode cX1_ring 105 = .ok (.iconst 5, 1) := by decide +kernel
theorem dX1_ring_106 : decode cX1_ring 106 = .ok (.ireturn, 1) := by decide +kernel
theorem dX1_ring_107 : decode cX1_ring 107 = .ok (.aload_n 0, 1) := by decide +kernel
theorem dX1_ring_108 : decode cX1_ring 108 = .ok (.iload_n 1, 1) := by decide +kernel
theorem dX1_ring_109 : decode cX1_ring 109 = .ok (.iload 6, 2) := by decide +kernel
theorem dX1_ring_111 : decode cX1_ring 111 = .ok (.bipush 10, 2) := by decide +kernel
theorem dX1_ring_113 : decode cX1_ring 113 = .ok (.iload_n 3, 1) := by decide +kernel
theorem dX1_ring_114 : decode cX1_ring 114 = .ok (.imul, 1) := by decide +kernel
theorem dX1_ring_115 : decode cX1_ring 115 = .ok (.iload 5, 2) := by decide +kernel
theorem dX1_ring_117 : decode cX1_ring 117 = .ok (.iadd, 1) := by decide +kernel
theorem dX1_ring_118 : decode cX1_ring 118 = .ok (.invokevirtual 70, 3) := by decide +kernel
theorem dX1_ring_121 : decode cX1_ring 121 = .ok (.iconst 0, 1) := by decide +kernel
theorem dX1_ring_122 : decode cX1_ring 122 = .ok (.ireturn, 1) := by decide +kernel
theorem lk_X1_52 : LkV RX1 52 RX2 yX2_pick cX2_pick 4 (some .int) 0 := LkV.of 707 626 627 63 628 (by decide +kernel) (by decide +kernel) (by decide +kernel) (by decide +kernel) (by decide +kernel) (by decide +kernel)
theorem pf_X1_56 {ω : WD} {ρ : FR} {M : Mem} {cc : ByteArray} {d n pc i : Nat} {lv : List (Nat × Value)} {rest : List Value} {v : Int32} (C : Cx ω ρ cc RX1 d n) (hk : isK 2 i) (hd : decode cc pc = .ok (.putfield 56, 3)) (k : ∀ M1, M1 = wr M i 4 v → G ω ρ M1 (pc + 3) lv rest) : G ω ρ M pc lv (.int v :: .ref (adr ω i) :: rest) := G_put (N := 6) (T := TX2) (C := RX2) (q := 4) (ty := .int) C hk (by decide) rfl in_X2 tyX2 tyX2_ok nmX2 (by decide) (tb_of 112 ⟨by decide +kernel, rfl⟩) rfl rfl (by decide +kernel) rfl rfl (fun _ _ => Nat.le_of_ble_eq_true rfl) (fun _ => rfl) hd (k _ rfl)
theorem gf_X1_59 {ω : WD} {ρ : FR} {M : Mem} {cc : ByteArray} {d n pc i : Nat} {lv : List (Nat × Value)} {rest : List Value} (C : Cx ω ρ cc RX1 d n) (hk : isK 2 i) (hd : decode cc pc = .ok (.getfield 59, 3)) (k : G ω ρ M (pc + 3) lv (.ref (adr ω (i + 1)) :: rest)) : G ω ρ M pc lv (.ref (adr ω i) :: rest) := G_get (N := 6) (T := TX2) (C := RX2) (q := 5) C hk (by decide) rfl in_X2 (by decide) (tb_of 115 ⟨by decide +kernel, rfl⟩) rfl rfl hd k
theorem lk_X1_62 : LkV RX1 62 RX2 yX2_isDead cX2_isDead 2 (some .boolean) 1 := LkV.of 708 683 684 63 685 (by decide +kernel) (by decide +kernel) (by decide +kernel) (by decide +kernel) (by decide +kernel) (by decide +kernel)
theorem lk_X1_66 : LkV RX1 66 RX1 yX1_owner cX1_owner 3 (some .int) 1 := LkV.of 709 539 540 62 541 (by decide +kernel) (by decide +kernel) (by decide +kernel) (by decide +kernel) (by decide +kernel) (by decide +kernel)
theorem lk_X1_70 : LkV RX1 70 RX1 yX1_join cX1_join 4 none 3 := LkV.of 710 711 712 62 713 (by decide +kernel) (by decide +kernel) (by decide +kernel) (by decide +kernel) (by decide +kernel) (by decide +kernel)
set_option maxRecDepth 100000 in
set_option maxHeartbeats 4000000 in
theorem S_X1_ring {ω : WD} {x : Nat} {l1 : Int32} {l2 : Int32} {M : Mem} {post : Int32 → Mem → Prop} (hx : isK 1 x) (h : w_X1_ring x l1 l2 M post) : MtI ω yX1_ring cX1_ring 7 (some .int) 2 [.ref (adr ω x), .int l1, .int l2] M post := by
  refine MtI.start (ty := .int) rfl (by decide +kernel) (own := RX1) rfl (Nat.le_of_ble_eq_true rfl) (fun ρ C R => ?_)
  show G ω ρ M 0 [(0, .ref (adr ω x)), (1, .int l1), (2, .int l2)] []
  refine G_aload_n C dX1_ring_0 0 rfl ?_
  refine gf_X1_18 C hx dX1_ring_1 ?_
  refine G_aload_n C dX1_ring_4 0 rfl ?_
  refine gf_X1_15 C hx dX1_ring_5 ?_
  obtain ⟨h1, h2⟩ := h
  refine G_icmp_lt (tgt := 13) C dX1_ring_8 (by decide) (fun c => ?_) (fun c => ?_)
  · have h := h1 c
    clear h1 h2
    refine G_iload_n C dX1_ring_13 2 rfl ?_
    refine G_bipush (v := 10) C dX1_ring_14 (by decide) ?_
    refine G_idiv C dX1_ring_16 (by decide) ?_
    refine G_iname (fun v1 ev1 => ?_)
    replace h := h v1 ev1
    refine G_istore_n C dX1_ring_17 (by decide) (lv' := [(3, .int v1), (0, .ref (adr ω x)), (1, .int l1), (2, .int l2)]) rfl ?_
    refine G_aload_n C dX1_ring_18 1 rfl ?_
    refine gf_X1_36 C hx dX1_ring_19 ?_
    refine G_iload_n C dX1_ring_22 0 rfl ?_
    obtain ⟨hi, h⟩ := h
    refine G_aldGroup C (st_1_7 hx) hi dX1_ring_23 (G_rname (fun g2 eg2 => ?_))
    replace h := h g2 eg2
    have hg2 := el_13 (st_1_7 hx) hi eg2
    refine G_astore C dX1_ring_24 (by decide) (lv' := [(4, .ref (adr ω g2)), (3, .int v1), (0, .ref (adr ω x)), (1, .int l1), (2, .int l2)]) rfl ?_
    refine G_aload C dX1_ring_26 0 rfl ?_
    refine G_callI (As := []) (rest := []) C dX1_ring_28 lk_X1_52 (Nat.le_of_ble_eq_true rfl) (Nat.le_of_ble_eq_true rfl) hg2 (by decide) rfl (Nat.le_of_ble_eq_true rfl) rfl (S_X2_pick hg2 h) (fun r4 M3 h => ?_)
    refine G_istore C dX1_ring_31 (by decide) (lv' := [(5, .int r4), (4, .ref (adr ω g2)), (3, .int v1), (0, .ref (adr ω x)), (1, .int l1), (2, .int l2)]) rfl ?_
    refine G_iload C dX1_ring_33 0 rfl ?_
    refine G_bipush (v := (-4)) C dX1_ring_35 (by decide) ?_
    obtain ⟨h1, h2⟩ := h
    refine G_icmp_ne (tgt := 42) C dX1_ring_37 (by decide) (fun c => ?_) (fun c => ?_)
    · have h := h1 c
      clear h1 h2
      refine G_aload C dX1_ring_42 1 rfl ?_
      refine G_iload C dX1_ring_44 0 rfl ?_
      refine pf_X1_56 C hg2 dX1_ring_46 (fun M5 eM5 => ?_)
      replace h := h M5 eM5
      refine G_aload C dX1_ring_49 1 rfl ?_
      refine gf_X1_59 C hg2 dX1_ring_51 ?_
      refine G_iload C dX1_ring_54 0 rfl ?_
      refine G_dup2 C dX1_ring_56 rfl rfl ?_
      obtain ⟨hi, h⟩ := h
      refine G_iald C (st_2_5 hg2) hi rfl dX1_ring_57 ?_
      refine G_iconst (v := 1) C dX1_ring_58 (by decide) ?_
      refine G_iadd C dX1_ring_59 ?_
      obtain ⟨hi, h⟩ := h
      refine G_iast C (st_2_5 hg2) hi rfl dX1_ring_60 (G_mname (fun M6 eM6 => ?_))
      replace h := h M6 eM6
      refine G_aload C dX1_ring_61 1 rfl ?_
      refine G_iload C dX1_ring_63 0 rfl ?_
      refine G_callI (As := [.int r4]) (rest := []) C dX1_ring_65 lk_X1_62 (Nat.le_of_ble_eq_true rfl) (Nat.le_of_ble_eq_true rfl) hg2 (by decide) rfl (Nat.le_of_ble_eq_true rfl) rfl (S_X2_isDead hg2 h) (fun r8 M7 h => ?_)
      obtain ⟨h1, h2⟩ := h
      refine G_if_eq (tgt := 73) C dX1_ring_68 (by decide) (fun c => ?_) (fun c => ?_)
      · have h := h1 c
        clear h1 h2
        refine G_aload_n C dX1_ring_73 3 rfl ?_
        refine G_iload_n C dX1_ring_74 5 rfl ?_
        refine G_callI (As := [.int l2]) (rest := []) C dX1_ring_75 lk_X1_66 (Nat.le_of_ble_eq_true rfl) (Nat.le_of_ble_eq_true rfl) hx (by decide) rfl (Nat.le_of_ble_eq_true rfl) rfl (S_X1_owner hx h) (fun r10 M9 h => ?_)
        refine G_istore C dX1_ring_78 (by decide) (lv' := [(6, .int r10), (5, .int r4), (4, .ref (adr ω g2)), (3, .int v1), (0, .ref (adr ω x)), (1, .int l1), (2, .int l2)]) rfl ?_
        refine G_iload C dX1_ring_80 0 rfl ?_
        refine G_bipush (v := (-4)) C dX1_ring_82 (by decide) ?_
        obtain ⟨h1, h2⟩ := h
        refine G_icmp_ne (tgt := 89) C dX1_ring_84 (by decide) (fun c => ?_) (fun c => ?_)
        · have h := h1 c
          clear h1 h2
          refine G_iload C dX1_ring_89 0 rfl ?_
          refine G_iload_n C dX1_ring_91 5 rfl ?_
          obtain ⟨h1, h2⟩ := h
          refine G_icmp_eq (tgt := 105) C dX1_ring_92 (by decide) (fun c => ?_) (fun c => ?_)
          · have h := h1 c
            clear h1 h2
            refine G_iconst (v := 5) C dX1_ring_105 (by decide) ?_
            exact R 106 _ _ _ dX1_ring_106 rfl h
          · have h := h2 c
            clear h1 h2
            refine G_aload_n C dX1_ring_95 4 rfl ?_
            refine gf_X1_28 C hx dX1_ring_96 ?_
            refine G_iload C dX1_ring_99 0 rfl ?_
            obtain ⟨hi, h⟩ := h
            refine G_iald C (st_1_5 hx) hi rfl dX1_ring_101 ?_
            obtain ⟨h1, h2⟩ := h
            refine G_if_eq (tgt := 107) C dX1_ring_102 (by decide) (fun c => ?_) (fun c => ?_)
            · have h := h1 c
              clear h1 h2
              refine G_aload_n C dX1_ring_107 4 rfl ?_
              refine G_iload_n C dX1_ring_108 5 rfl ?_
              refine G_iload C dX1_ring_109 0 rfl ?_
              refine G_bipush (v := 10) C dX1_ring_111 (by decide) ?_
              refine G_iload_n C dX1_ring_113 3 rfl ?_
              refine G_imul C dX1_ring_114 ?_
              refine G_iload C dX1_ring_115 1 rfl ?_
              refine G_iadd C dX1_ring_117 ?_
              refine G_callV (As := [.int l1, .int r10, .int ((10 * v1) + r4)]) (rest := []) C dX1_ring_118 lk_X1_70 (Nat.le_of_ble_eq_true rfl) (Nat.le_of_ble_eq_true rfl) hx (by decide) rfl (Nat.le_of_ble_eq_true rfl) rfl (S_X1_join hx h) (fun M11 h => ?_)
              refine G_iconst (v := 0) C dX1_ring_121 (by decide) ?_
              exact R 122 _ _ _ dX1_ring_122 rfl h
            · have h := h2 c
              clear h1 h2
              refine G_iconst (v := 5) C dX1_ring_105 (by decide) ?_
              exact R 106 _ _ _ dX1_ring_106 rfl h
        · have h := h2 c
          clear h1 h2
          refine G_iconst (v := 4) C dX1_ring_87 (by decide) ?_
          exact R 88 _ _ _ dX1_ring_88 rfl h
      · have h := h2 c
        clear h1 h2
        refine G_iconst (v := 3) C dX1_ring_71 (by decide) ?_
        exact R 72 _ _ _ dX1_ring_72 rfl h
    · have h := h2 c
      clear h1 h2
      refine G_iconst (v := 2) C dX1_ring_40 (by decide) ?_
      exact R 41 _ _ _ dX1_ring_41 rfl h
  · have h := h2 c
    clear h1 h2
    refine G_iconst (v := 1) C dX1_ring_11 (by decide) ?_
    exact R 12 _ _ _ dX1_ring_12 rfl h
theorem dX1_part_0 : decode cX1_part 0 = .ok (.aload_n 0, 1) := by decide +kernel
theorem dX1_part_1 : decode cX1_part 1 = .ok (.getfield 25, 3) := by decide +kernel
theorem dX1_part_4 : decode cX1_part 4 = .ok (.iload_n 1, 1) := by decide +kernel
theorem dX1_part_5 : decode cX1_part 5 = .ok (.iaload, 1) := by decide +kernel
theorem dX1_part_6 : decode cX1_part 6 = .ok (.istore_n 2, 1) := by decide +kernel
theorem dX1_part_7 : decode cX1_part 7 = .ok (.aload_n 0, 1) := by decide +kernel
theorem dX1_part_8 : decode cX1_part 8 = .ok (.getfield 31, 3) := by decide +kernel
theorem dX1_part_11 : decode cX1_part 11 = .ok (.iload_n 1, 1) := by decide +kernel
theorem dX1_part_12 : decode cX1_part 12 = .ok (.iaload, 1) := by decide +kernel
theorem dX1_part_13 : decode cX1_part 13 = .ok (.istore_n 3, 1) := by decide +kernel
theorem dX1_part_14 : decode cX1_part 14 = .ok (.aload_n 0, 1) := by decide +kernel
theorem dX1_part_15 : decode cX1_part 15 = .ok (.getfield 36, 3) := by decide +kernel
theorem dX1_part_18 : decode cX1_part 18 = .ok (.iload_n 3, 1) := by decide +kernel
theorem dX1_part_19 : decode cX1_part 19 = .ok (.bipush 10, 2) := by decide +kernel
theorem dX1_part_21 : decode cX1_part 21 = .ok (.idiv, 1) := by decide +kernel
theorem dX1_part_22 : decode cX1_part 22 = .ok (.aaload, 1) := by decide +kernel
theorem dX1_part_23 : decode cX1_part 23 = .ok (.dup, 1) := by decide +kernel
theorem dX1_part_24 : decode cX1_part 24 = .ok (.getfield 74, 3) := by decide +kernel
theorem dX1_part_27 : decode cX1_part 27 = .ok (.iconst 1, 1) := by decide +kernel
theorem dX1_part_28 : decode cX1_part 28 = .ok (.iload_n 3, 1) := by decide +kernel
theorem dX1_part_29 : decode cX1_part 29 = .ok (.bipush 10, 2) := by decide +kernel
theorem dX1_part_31 : decode cX1_part 31 = .ok (.irem, 1) := by decide +kernel
theorem dX1_part_32 : decode cX1_part 32 = .ok (.ishl, 1) := by decide +kernel
theorem dX1_part_33 : decode cX1_part 33 = .ok (.iconst (-1), 1) := by decide +kernel
theorem dX1_part_34 : decode cX1_part 34 = .ok (.ixor, 1) := by decide +kernel
theorem dX1_part_35 : decode cX1_part 35 = .ok (.iand, 1) := by decide +kernel
theorem dX1_part_36 : decode cX1_part 36 = .ok (.putfield 74, 3) := by decide +kernel
theorem dX1_part_39 : decode cX1_part 39 = .ok (.aload_n 0, 1) := by decide +kernel
theorem dX1_part_40 : decode cX1_part 40 = .ok (.iload_n 1, 1) := by decide +kernel
theorem dX1_part_41 : decode cX1_part 41 = .ok (.invokevirtual 48, 3) := by decide +kernel
theorem dX1_part_44 : decode cX1_part 44 = .ok (.aload_n 0, 1) := by decide +kernel
theorem dX1_part_45 : decode cX1_part 45 = .ok (.iload_n 2, 1) := by decide +kernel
theorem dX1_part_46 : decode cX1_part 46 = .ok (.invokevirtual 48, 3) := by decide +kernel
theorem dX1_part_49 : decode cX1_part 49 = .ok (.aload_n 0, 1) := by decide +kernel
theorem dX1_part_50 : decode cX1_part 50 = .ok (.dup, 1) := by decide +kernel
theorem dX1_part_51 : decode cX1_part 51 = .ok (.getfield 18, 3) := by decide +kernel
theorem dX1_part_54 : decode cX1_part 54 = .ok (.iconst 1, 1) := by decide +kernel
theorem dX1_part_55 : decode cX1_part 55 = .ok (.isub, 1) := by decide +kernel
theorem dX1_part_56 : decode cX1_part 56 = .ok (.putfield 18, 3) := by decide +kernel
theorem dX1_part_59 : decode cX1_part 59 = .ok (.iload_n 2, 1) := by decide +kernel
theorem dX1_part_60 : decode cX1_part 60 = .ok (.ireturn, 1) := by decide +kernel
set_option maxRecDepth 100000 in
set_option maxHeartbeats 4000000 in
theorem S_X1_part {ω : WD} {x : Nat} {l1 : Int32} {M : Mem} {post : Int32 → Mem → Prop} (hx : isK 1 x) (h : w_X1_part x l1 M post) : MtI ω yX1_part cX1_part 4 (some .int) 1 [.ref (adr ω x), .int l1] M post := by
  refine MtI.start (ty := .int) rfl (by decide +kernel) (own := RX1) rfl (Nat.le_of_ble_eq_true rfl) (fun ρ C R => ?_)
  show G ω ρ M 0 [(0, .ref (adr ω x)), (1, .int l1)] []
  refine G_aload_n C dX1_part_0 0 rfl ?_
  refine gf_X1_25 C hx dX1_part_1 ?_
  refine G_iload_n C dX1_part_4 1 rfl ?_
  obtain ⟨hi, h⟩ := h
  refine G_iald C (st_1_4 hx) hi rfl dX1_part_5 ?_
  refine G_iname (fun v1 ev1 => ?_)
  replace h := h v1 ev1
  refine G_istore_n C dX1_part_6 (by decide) (lv' := [(2, .int v1), (0, .ref (adr ω x)), (1, .int l1)]) rfl ?_
  refine G_aload_n C dX1_part_7 1 rfl ?_
  refine gf_X1_31 C hx dX1_part_8 ?_
  refine G_iload_n C dX1_part_11 2 rfl ?_
  obtain ⟨hi, h⟩ := h
  refine G_iald C (st_1_6 hx) hi rfl dX1_part_12 ?_
  refine G_iname (fun v2 ev2 => ?_)
  replace h := h v2 ev2
  refine G_istore_n C dX1_part_13 (by decide) (lv' := [(3, .int v2), (2, .int v1), (0, .ref (adr ω x)), (1, .int l1)]) rfl ?_
  refine G_aload_n C dX1_part_14 2 rfl ?_
  refine gf_X1_36 C hx dX1_part_15 ?_
  refine G_iload_n C dX1_part_18 0 rfl ?_
  refine G_bipush (v := 10) C dX1_part_19 (by decide) ?_
  refine G_idiv C dX1_part_21 (by decide) ?_
  obtain ⟨hi, h⟩ := h
  refine G_aldGroup C (st_1_7 hx) hi dX1_part_22 (G_rname (fun g3 eg3 => ?_))
  replace h := h g3 eg3
  have hg3 := el_13 (st_1_7 hx) hi eg3
  refine G_dup C dX1_part_23 rfl ?_
  refine gf_X1_74 C hg3 dX1_part_24 ?_
  refine G_iconst (v := 1) C dX1_part_27 (by decide) ?_
  refine G_iload_n C dX1_part_28 0 rfl ?_
  refine G_bipush (v := 10) C dX1_part_29 (by decide) ?_
  refine G_irem C dX1_part_31 (by decide) ?_
  refine G_ishl C dX1_part_32 ?_
  refine G_iconst (v := (-1)) C dX1_part_33 (by decide) ?_
  refine G_ixor C dX1_part_34 ?_
  refine G_iand C dX1_part_35 ?_
  refine pf_X1_74 C hg3 dX1_part_36 (fun M4 eM4 => ?_)
  replace h := h M4 eM4
  refine G_aload_n C dX1_part_39 2 rfl ?_
  refine G_iload_n C dX1_part_40 3 rfl ?_
  refine G_callV (As := [.int l1]) (rest := []) C dX1_part_41 lk_X1_48 (Nat.le_of_ble_eq_true rfl) (Nat.le_of_ble_eq_true rfl) hx (by decide) rfl (Nat.le_of_ble_eq_true rfl) rfl (S_X1_release hx h) (fun M5 h => ?_)
  refine G_aload_n C dX1_part_44 2 rfl ?_
  refine G_iload_n C dX1_part_45 1 rfl ?_
  refine G_callV (As := [.int v1]) (rest := []) C dX1_part_46 lk_X1_48 (Nat.le_of_ble_eq_true rfl) (Nat.le_of_ble_eq_true rfl) hx (by decide) rfl (Nat.le_of_ble_eq_true rfl) rfl (S_X1_release hx h) (fun M6 h => ?_)
  refine G_aload_n C dX1_part_49 2 rfl ?_
  refine G_dup C dX1_part_50 rfl ?_
  refine gf_X1_18 C hx dX1_part_51 ?_
  refine G_iconst (v := 1) C dX1_part_54 (by decide) ?_
  refine G_isub C dX1_part_55 ?_
  refine pf_X1_18 C hx dX1_part_56 (fun M7 eM7 => ?_)
  replace h := h M7 eM7
  refine G_iload_n C dX1_part_59 1 rfl ?_
  exact R 60 _ _ _ dX1_part_60 rfl h
theorem dX1_inCalls_0 : decode cX1_inCalls 0 = .ok (.iconst 0, 1) := by decide +kernel
theorem dX1_inCalls_1 : decode cX1_inCalls 1 = .ok (.istore_n 1, 1) := by decide +kernel
theorem dX1_inCalls_2 : decode cX1_inCalls 2 = .ok (.iconst 0, 1) := by decide +kernel
theorem dX1_inCalls_3 : decode cX1_inCalls 3 = .ok (.istore_n 2, 1) := by decide +kernel
theorem dX1_inCalls_4 : decode cX1_inCalls 4 = .ok (.iload_n 2, 1) := by decide +kernel
theorem dX1_inCalls_5 : decode cX1_inCalls 5 = .ok (.aload_n 0, 1) := by decide +kernel
theorem dX1_inCalls_6 : decode cX1_inCalls 6 = .ok (.getfield 9, 3) := by decide +kernel
theorem dX1_inCalls_9 : decode cX1_inCalls 9 = .ok (.if_icmp .ge 24, 3) := by decide +kernel
theorem dX1_inCalls_12 : decode cX1_inCalls 12 = .ok (.aload_n 0, 1) := by decide +kernel
theorem dX1_inCalls_13 : decode cX1_inCalls 13 = .ok (.getfield 28, 3) := by decide +kernel
theorem dX1_inCalls_16 : decode cX1_inCalls 16 = .ok (.iload_n 2, 1) := by decide +kernel
theorem dX1_inCalls_17 : decode cX1_inCalls 17 = .ok (.iaload, 1) := by decide +kernel
theorem dX1_inCalls_18 : decode cX1_inCalls 18 = .ok (.ifCond .eq 9, 3) := by decide +kernel
theorem dX1_inCalls_21 : decode cX1_inCalls 21 = .ok (.iload_n 1, 1) := by decide +kernel
theorem dX1_inCalls_22 : decode cX1_inCalls 22 = .ok (.iconst 1, 1) := by decide +kernel
theorem dX1_inCalls_23 : decode cX1_inCalls 23 = .ok (.iload_n 2, 1) := by decide +kernel
theorem dX1_inCalls_24 : decode cX1_inCalls 24 = .ok (.ishl, 1) := by decide +kernel
theorem dX1_inCalls_25 : decode cX1_inCalls 25 = .ok (.ior, 1) := by decide +kernel
theorem dX1_inCalls_26 : decode cX1_inCalls 26 = .ok (.istore_n 1, 1) := by decide +kernel
theorem dX1_inCalls_27 : decode cX1_inCalls 27 = .ok (.iinc 2 1, 3) := by decide +kernel
theorem dX1_inCalls_30 : decode cX1_inCalls 30 = .ok (.goto (-26), 3) := by decide +kernel
theorem dX1_inCalls_33 : decode cX1_inCalls 33 = .ok (.iload_n 1, 1) := by decide +kernel
theorem dX1_inCalls_34 : decode cX1_inCalls 34 = .ok (.ireturn, 1) := by decide +kernel
set_option maxRecDepth 100000 in
set_option maxHeartbeats 4000000 in
theorem s_X1_inCalls_J27 {ω : WD} {ρ : FR} {post : Int32 → Mem → Prop} (C : Cx ω ρ cX1_inCalls RX1 0 3) (R : RtI ω ρ cX1_inCalls .int post) {x : Nat} (hx : isK 1 x) {K4 : Int32 → Int32 → Mem → Prop} {l1 : Int32} {l2 : Int32} (k4 : ∀ (u1 : Int32) (u2 : Int32) (M : Mem), K4 u1 u2 M → G ω ρ M 4 [(0, .ref (adr ω x)), (1, .int u1), (2, .int u2)] []) {M : Mem} (h : w_X1_inCalls_J27 x post K4 l1 l2 M) : G ω ρ M 27 [(0, .ref (adr ω x)), (1, .int l1), (2, .int l2)] [] := by
  obtain ⟨v1, ev1⟩ : ∃ y : Int32, y = (l2 + 1) := ⟨_, rfl⟩
  replace h := h v1 ev1
  refine G_iinc C dX1_inCalls_27 2 rfl (v := v1) (by rw [ev1]; rfl) (by decide) (lv' := [(2, .int v1), (0, .ref (adr ω x)), (1, .int l1)]) rfl ?_
  refine G_goto (tgt := 4) C dX1_inCalls_30 (by decide) ?_
  refine G_sub [1, 2, 0] (lv' := [(0, .ref (adr ω x)), (1, .int l1), (2, .int v1)]) rfl ?_
  exact k4 _ _ _ h
set_option maxRecDepth 100000 in
set_option maxHeartbeats 4000000 in
theorem s_X1_inCalls_L4 {ω : WD} {ρ : FR} {post : Int32 → Mem → Prop} (C : Cx ω ρ cX1_inCalls RX1 0 3) (R : RtI ω ρ cX1_inCalls .int post) {x : Nat} (hx : isK 1 x) : ∀ (f : Nat) (l1 : Int32) (l2 : Int32) (M : Mem), w_X1_inCalls_L4 x post f l1 l2 M → G ω ρ M 4 [(0, .ref (adr ω x)), (1, .int l1), (2, .int l2)] [] := by
  intro f
  induction f with
  | zero => intro l1 l2 M h; exact False.elim h
  | succ f k4 =>
    intro l1 l2 M h
    refine G_iload_n C dX1_inCalls_4 2 rfl ?_
    refine G_aload_n C dX1_inCalls_5 0 rfl ?_
    refine gf_X1_9 C hx dX1_inCalls_6 ?_
    obtain ⟨h1, h2⟩ := h
    refine G_icmp_ge (tgt := 33) C dX1_inCalls_9 (by decide) (fun c => ?_) (fun c => ?_)
    · have h := h1 c
      clear h1 h2
      refine G_iload_n C dX1_inCalls_33 1 rfl ?_
      exact R 34 _ _ _ dX1_inCalls_34 rfl h
    · have h := h2 c
      clear h1 h2
      refine G_aload_n C dX1_inCalls_12 0 rfl ?_
      refine gf_X1_28 C hx dX1_inCalls_13 ?_
      refine G_iload_n C dX1_inCalls_16 2 rfl ?_
      obtain ⟨hi, h⟩ := h
      refine G_iald C (st_1_5 hx) hi rfl dX1_inCalls_17 ?_
      obtain ⟨h1, h2⟩ := h
      refine G_if_eq (tgt := 27) C dX1_inCalls_18 (by decide) (fun c => ?_) (fun c => ?_)
      · have h := h1 c
        clear h1 h2
        exact s_X1_inCalls_J27 C R hx k4 h
      · have h := h2 c
        clear h1 h2
        refine G_iload_n C dX1_inCalls_21 1 rfl ?_
        refine G_iconst (v := 1) C dX1_inCalls_22 (by decide) ?_
        refine G_iload_n C dX1_inCalls_23 2 rfl ?_
        refine G_ishl C dX1_inCalls_24 ?_
        refine G_ior C dX1_inCalls_25 ?_
        refine G_iname (fun v2 ev2 => ?_)
        replace h := h v2 ev2
        refine G_istore_n C dX1_inCalls_26 (by decide) (lv' := [(1, .int v2), (0, .ref (adr ω x)), (2, .int l2)]) rfl ?_
        refine G_sub [1, 0, 2] (lv' := [(0, .ref (adr ω x)), (1, .int v2), (2, .int l2)]) rfl ?_
        exact s_X1_inCalls_J27 C R hx k4 h
set_option maxRecDepth 100000 in
set_option maxHeartbeats 4000000 in
theorem S_X1_inCalls {ω : WD} {x : Nat} {M : Mem} {post : Int32 → Mem → Prop} (hx : isK 1 x) (h : w_X1_inCalls x M post) : MtI ω yX1_inCalls cX1_inCalls 3 (some .int) 0 [.ref (adr ω x)] M post := by
  refine MtI.start (ty := .int) rfl (by decide +kernel) (own := RX1) rfl (Nat.le_of_ble_eq_true rfl) (fun ρ C R => ?_)
  show G ω ρ M 0 [(0, .ref (adr ω x))] []
  refine G_iconst (v := 0) C dX1_inCalls_0 (by decide) ?_
  refine G_istore_n C dX1_inCalls_1 (by decide) (lv' := [(1, .int 0), (0, .ref (adr ω x))]) rfl ?_
  refine G_iconst (v := 0) C dX1_inCalls_2 (by decide) ?_
  refine G_istore_n C dX1_inCalls_3 (by decide) (lv' := [(2, .int 0), (1, .int 0), (0, .ref (adr ω x))]) rfl ?_
  refine G_sub [2, 1, 0] (lv' := [(0, .ref (adr ω x)), (1, .int 0), (2, .int 0)]) rfl ?_
  obtain ⟨f, h⟩ := h
  exact s_X1_inCalls_L4 C R hx f _ _ _ h
theorem dX1_allUses_0 : decode cX1_allUses 0 = .ok (.iconst 0, 1) := by decide +kernel
theorem dX1_allUses_1 : decode cX1_allUses 1 = .ok (.istore_n 1, 1) := by decide +kernel
theorem dX1_allUses_2 : decode cX1_allUses 2 = .ok (.iconst 0, 1) := by decide +kernel
theorem dX1_allUses_3 : decode cX1_allUses 3 = .ok (.istore_n 2, 1) := by decide +kernel
theorem dX1_allUses_4 : decode cX1_allUses 4 = .ok (.iload_n 2, 1) := by decide +kernel
theorem dX1_allUses_5 : decode cX1_allUses 5 = .ok (.iconst 5, 1) := by decide +kernel
theorem dX1_allUses_6 : decode cX1_allUses 6 = .ok (.if_icmp .ge 44, 3) := by decide +kernel
theorem dX1_allUses_9 : decode cX1_allUses 9 = .ok (.iconst 0, 1) := by decide +kernel
theorem dX1_allUses_10 : decode cX1_allUses 10 = .ok (.istore_n 3, 1) := by decide +kernel
theorem dX1_allUses_11 : decode cX1_allUses 11 = .ok (.iload_n 3, 1) := by decide +kernel
theorem dX1_allUses_12 : decode cX1_allUses 12 = .ok (.aload_n 0, 1) := by decide +kernel
theorem dX1_allUses_13 : decode cX1_allUses 13 = .ok (.getfield 36, 3) := by decide +kernel
theorem dX1_allUses_16 : decode cX1_allUses 16 = .ok (.iload_n 2, 1) := by decide +kernel
theorem dX1_allUses_17 : decode cX1_allUses 17 = .ok (.aaload, 1) := by decide +kernel
theorem dX1_allUses_18 : decode cX1_allUses 18 = .ok (.getfield 77, 3) := by decide +kernel
theorem dX1_allUses_21 : decode cX1_allUses 21 = .ok (.if_icmp .ge 23, 3) := by decide +kernel
theorem dX1_allUses_24 : decode cX1_allUses 24 = .ok (.iload_n 1, 1) := by decide +kernel
theorem dX1_allUses_25 : decode cX1_allUses 25 = .ok (.aload_n 0, 1) := by decide +kernel
theorem dX1_allUses_26 : decode cX1_allUses 26 = .ok (.getfield 36, 3) := by decide +kernel
theorem dX1_allUses_29 : decode cX1_allUses 29 = .ok (.iload_n 2, 1) := by decide +kernel
theorem dX1_allUses_30 : decode cX1_allUses 30 = .ok (.aaload, 1) := by decide +kernel
theorem dX1_allUses_31 : decode cX1_allUses 31 = .ok (.getfield 59, 3) := by decide +kernel
theorem dX1_allUses_34 : decode cX1_allUses 34 = .ok (.iload_n 3, 1) := by decide +kernel
theorem dX1_allUses_35 : decode cX1_allUses 35 = .ok (.iaload, 1) := by decide +kernel
theorem dX1_allUses_36 : decode cX1_allUses 36 = .ok (.iadd, 1) := by decide +kernel
theorem dX1_allUses_37 : decode cX1_allUses 37 = .ok (.istore_n 1, 1) := by decide +kernel
theorem dX1_allUses_38 : decode cX1_allUses 38 = .ok (.iinc 3 1, 3) := by decide +kernel
theorem dX1_allUses_41 : decode cX1_allUses 41 = .ok (.goto (-30), 3) := by decide +kernel
theorem dX1_allUses_44 : decode cX1_allUses 44 = .ok (.iinc 2 1, 3) := by decide +kernel
theorem dX1_allUses_47 : decode cX1_allUses 47 = .ok (.goto (-43), 3) := by decide +kernel
theorem dX1_allUses_50 : decode cX1_allUses 50 = .ok (.iload_n 1, 1) := by decide +kernel
theorem dX1_allUses_51 : decode cX1_allUses 51 = .ok (.ireturn, 1) := by decide +kernel
theorem gf_X1_77 {ω : WD} {ρ : FR} {M : Mem} {cc : ByteArray} {d n pc i : Nat} {lv : List (Nat × Value)} {rest : List Value} (C : Cx ω ρ cc RX1 d n) (hk : isK 2 i) (hd : decode cc pc = .ok (.getfield 77, 3)) (k : G ω ρ M (pc + 3) lv (.int (rd M i 1) :: rest)) : G ω ρ M pc lv (.ref (adr ω i) :: rest) := G_get (N := 6) (T := TX2) (C := RX2) (q := 1) C hk (by decide) rfl in_X2 (by decide) (tb_of 104 ⟨by decide +kernel, rfl⟩) rfl rfl hd k
set_option maxRecDepth 100000 in
set_option maxHeartbeats 4000000 in
theorem s_X1_allUses_L11 {ω : WD} {ρ : FR} {post : Int32 → Mem → Prop} (C : Cx ω ρ cX1_allUses RX1 0 4) (R : RtI ω ρ cX1_allUses .int post) {x : Nat} (hx : isK 1 x) {K4 : Int32 → Int32 → Mem → Prop} {l2 : Int32} (k4 : ∀ (u1 : Int32) (u2 : Int32) (M : Mem), K4 u1 u2 M → G ω ρ M 4 [(0, .ref (adr ω x)), (1, .int u1), (2, .int u2)] []) : ∀ (f : Nat) (l1 : Int32) (l3 : Int32) (M : Mem), w_X1_allUses_L11 x post K4 l2 f l1 l3 M → G ω ρ M 11 [(0, .ref (adr ω x)), (1, .int l1), (2, .int l2), (3, .int l3)] [] := by
  intro f
  induction f with
  | zero => intro l1 l3 M h; exact False.elim h
  | succ f k11 =>
    intro l1 l3 M h
    refine G_iload_n C dX1_allUses_11 3 rfl ?_
    refine G_aload_n C dX1_allUses_12 0 rfl ?_
    refine gf_X1_36 C hx dX1_allUses_13 ?_
    refine G_iload_n C dX1_allUses_16 2 rfl ?_
    obtain ⟨hi, h⟩ := h
    refine G_aldGroup C (st_1_7 hx) hi dX1_allUses_17 (G_rname (fun g1 eg1 => ?_))
    replace h := h g1 eg1
    have hg1 := el_13 (st_1_7 hx) hi eg1
    refine gf_X1_77 C hg1 dX1_allUses_18 ?_
    obtain ⟨h1, h2⟩ := h
    refine G_icmp_ge (tgt := 44) C dX1_allUses_21 (by decide) (fun c => ?_) (fun c => ?_)
    · have h := h1 c
      clear h1 h2
      obtain ⟨v2, ev2⟩ : ∃ y : Int32, y = (l2 + 1) := ⟨_, rfl⟩
      replace h := h v2 ev2
      refine G_iinc C dX1_allUses_44 2 rfl (v := v2) (by rw [ev2]; rfl) (by decide) (lv' := [(2, .int v2), (0, .ref (adr ω x)), (1, .int l1), (3, .int l3)]) rfl ?_
      refine G_goto (tgt := 4) C dX1_allUses_47 (by decide) ?_
      refine G_sub [1, 2, 0] (lv' := [(0, .ref (adr ω x)), (1, .int l1), (2, .int v2)]) rfl ?_
      exact k4 _ _ _ h
    · have h := h2 c
      clear h1 h2
      refine G_iload_n C dX1_allUses_24 1 rfl ?_
      refine G_aload_n C dX1_allUses_25 0 rfl ?_
      refine gf_X1_36 C hx dX1_allUses_26 ?_
      refine G_iload_n C dX1_allUses_29 2 rfl ?_
      obtain ⟨hi, h⟩ := h
      refine G_aldGroup C (st_1_7 hx) hi dX1_allUses_30 (G_rname (fun g3 eg3 => ?_))
      replace h := h g3 eg3
      have hg3 := el_13 (st_1_7 hx) hi eg3
      refine gf_X1_59 C hg3 dX1_allUses_31 ?_
      refine G_iload_n C dX1_allUses_34 3 rfl ?_
      obtain ⟨hi, h⟩ := h
      refine G_iald C (st_2_5 hg3) hi rfl dX1_allUses_35 ?_
      refine G_iadd C dX1_allUses_36 ?_
      refine G_iname (fun v4 ev4 => ?_)
      replace h := h v4 ev4
      refine G_istore_n C dX1_allUses_37 (by decide) (lv' := [(1, .int v4), (0, .ref (adr ω x)), (2, .int l2), (3, .int l3)]) rfl ?_
      obtain ⟨v5, ev5⟩ : ∃ y : Int32, y = (l3 + 1) := ⟨_, rfl⟩
      replace h := h v5 ev5
      refine G_iinc C dX1_allUses_38 3 rfl (v := v5) (by rw [ev5]; rfl) (by decide) (lv' := [(3, .int v5), (1, .int v4), (0, .ref (adr ω x)), (2, .int l2)]) rfl ?_
      refine G_goto (tgt := 11) C dX1_allUses_41 (by decide) ?_
      refine G_sub [2, 1, 3, 0] (lv' := [(0, .ref (adr ω x)), (1, .int v4), (2, .int l2), (3, .int v5)]) rfl ?_
      exact k11 _ _ _ h
set_option maxRecDepth 100000 in
set_option maxHeartbeats 4000000 in
theorem s_X1_allUses_L4 {ω : WD} {ρ : FR} {post : Int32 → Mem → Prop} (C : Cx ω ρ cX1_allUses RX1 0 4) (R : RtI ω ρ cX1_allUses .int post) {x : Nat} (hx : isK 1 x) : ∀ (f : Nat) (l1 : Int32) (l2 : Int32) (M : Mem), w_X1_allUses_L4 x post f l1 l2 M → G ω ρ M 4 [(0, .ref (adr ω x)), (1, .int l1), (2, .int l2)] [] := by
  intro f
  induction f with
  | zero => intro l1 l2 M h; exact False.elim h
  | succ f k4 =>
    intro l1 l2 M h
    refine G_iload_n C dX1_allUses_4 2 rfl ?_
    refine G_iconst (v := 5) C dX1_allUses_5 (by decide) ?_
    obtain ⟨h1, h2⟩ := h
    refine G_icmp_ge (tgt := 50) C dX1_allUses_6 (by decide) (fun c => ?_) (fun c => ?_)
    · have h := h1 c
      clear h1 h2
      refine G_iload_n C dX1_allUses_50 1 rfl ?_
      exact R 51 _ _ _ dX1_allUses_51 rfl h
    · have h := h2 c
      clear h1 h2
      refine G_iconst (v := 0) C dX1_allUses_9 (by decide) ?_
      refine G_istore_n C dX1_allUses_10 (by decide) (lv' := [(3, .int 0), (0, .ref (adr ω x)), (1, .int l1), (2, .int l2)]) rfl ?_
      refine G_sub [1, 2, 3, 0] (lv' := [(0, .ref (adr ω x)), (1, .int l1), (2, .int l2), (3, .int 0)]) rfl ?_
      obtain ⟨f, h⟩ := h
      exact s_X1_allUses_L11 C R hx k4 f _ _ _ h
set_option maxRecDepth 100000 in
set_option maxHeartbeats 4000000 in
theorem S_X1_allUses {ω : WD} {x : Nat} {M : Mem} {post : Int32 → Mem → Prop} (hx : isK 1 x) (h : w_X1_allUses x M post) : MtI ω yX1_allUses cX1_allUses 4 (some .int) 0 [.ref (adr ω x)] M post := by
  refine MtI.start (ty := .int) rfl (by decide +kernel) (own := RX1) rfl (Nat.le_of_ble_eq_true rfl) (fun ρ C R => ?_)
  show G ω ρ M 0 [(0, .ref (adr ω x))] []
  refine G_iconst (v := 0) C dX1_allUses_0 (by decide) ?_
  refine G_istore_n C dX1_allUses_1 (by decide) (lv' := [(1, .int 0), (0, .ref (adr ω x))]) rfl ?_
  refine G_iconst (v := 0) C dX1_allUses_2 (by decide) ?_
  refine G_istore_n C dX1_allUses_3 (by decide) (lv' := [(2, .int 0), (1, .int 0), (0, .ref (adr ω x))]) rfl ?_
  refine G_sub [2, 1, 0] (lv' := [(0, .ref (adr ω x)), (1, .int 0), (2, .int 0)]) rfl ?_
  obtain ⟨f, h⟩ := h
  exact s_X1_allUses_L4 C R hx f _ _ _ h
theorem dX1_allWays_0 : decode cX1_allWays 0 = .ok (.iconst 0, 1) := by decide +kernel
theorem dX1_allWays_1 : decode cX1_allWays 1 = .ok (.istore_n 1, 1) := by decide +kernel
theorem dX1_allWays_2 : decode cX1_allWays 2 = .ok (.iconst 0, 1) := by decide +kernel
theorem dX1_allWays_3 : decode cX1_allWays 3 = .ok (.istore_n 2, 1) := by decide +kernel
theorem dX1_allWays_4 : decode cX1_allWays 4 = .ok (.iload_n 2, 1) := by decide +kernel
theorem dX1_allWays_5 : decode cX1_allWays 5 = .ok (.iconst 5, 1) := by decide +kernel
theorem dX1_allWays_6 : decode cX1_allWays 6 = .ok (.if_icmp .ge 21, 3) := by decide +kernel
theorem dX1_allWays_9 : decode cX1_allWays 9 = .ok (.iload_n 1, 1) := by decide +kernel
theorem dX1_allWays_10 : decode cX1_allWays 10 = .ok (.aload_n 0, 1) := by decide +kernel
theorem dX1_allWays_11 : decode cX1_allWays 11 = .ok (.getfield 36, 3) := by decide +kernel
theorem dX1_allWays_14 : decode cX1_allWays 14 = .ok (.iload_n 2, 1) := by decide +kernel
theorem dX1_allWays_15 : decode cX1_allWays 15 = .ok (.aaload, 1) := by decide +kernel
theorem dX1_allWays_16 : decode cX1_allWays 16 = .ok (.getfield 77, 3) := by decide +kernel
theorem dX1_allWays_19 : decode cX1_allWays 19 = .ok (.iadd, 1) := by decide +kernel
theorem dX1_allWays_20 : decode cX1_allWays 20 = .ok (.istore_n 1, 1) := by decide +kernel
theorem dX1_allWays_21 : decode cX1_allWays 21 = .ok (.iinc 2 1, 3) := by decide +kernel
theorem dX1_allWays_24 : decode cX1_allWays 24 = .ok (.goto (-20), 3) := by decide +kernel
theorem dX1_allWays_27 : decode cX1_allWays 27 = .ok (.iload_n 1, 1) := by decide +kernel
theorem dX1_allWays_28 : decode cX1_allWays 28 = .ok (.ireturn, 1) := by decide +kernel
set_option maxRecDepth 100000 in
set_option maxHeartbeats 4000000 in
theorem s_X1_allWays_L4 {ω : WD} {ρ : FR} {post : Int32 → Mem → Prop} (C : Cx ω ρ cX1_allWays RX1 0 3) (R : RtI ω ρ cX1_allWays .int post) {x : Nat} (hx : isK 1 x) : ∀ (f : Nat) (l1 : Int32) (l2 : Int32) (M : Mem), w_X1_allWays_L4 x post f l1 l2 M → G ω ρ M 4 [(0, .ref (adr ω x)), (1, .int l1), (2, .int l2)] [] := by
  intro f
  induction f with
  | zero => intro l1 l2 M h; exact False.elim h
  | succ f k4 =>
    intro l1 l2 M h
    refine G_iload_n C dX1_allWays_4 2 rfl ?_
    refine G_iconst (v := 5) C dX1_allWays_5 (by decide) ?_
    obtain ⟨h1, h2⟩ := h
    refine G_icmp_ge (tgt := 27) C dX1_allWays_6 (by decide) (fun c => ?_) (fun c => ?_)
    · have h := h1 c
      clear h1 h2
      refine G_iload_n C dX1_allWays_27 1 rfl ?_
      exact R 28 _ _ _ dX1_allWays_28 rfl h
    · have h := h2 c
      clear h1 h2
      refine G_iload_n C dX1_allWays_9 1 rfl ?_
      refine G_aload_n C dX1_allWays_10 0 rfl ?_
      refine gf_X1_36 C hx dX1_allWays_11 ?_
      refine G_iload_n C dX1_allWays_14 2 rfl ?_
      obtain ⟨hi, h⟩ := h
      refine G_aldGroup C (st_1_7 hx) hi dX1_allWays_15 (G_rname (fun g1 eg1 => ?_))
      replace h := h g1 eg1
      have hg1 := el_13 (st_1_7 hx) hi eg1
      refine gf_X1_77 C hg1 dX1_allWays_16 ?_
      refine G_iadd C dX1_allWays_19 ?_
      refine G_iname (fun v2 ev2 => ?_)
      replace h := h v2 ev2
      refine G_istore_n C dX1_allWays_20 (by decide) (lv' := [(1, .int v2), (0, .ref (adr ω x)), (2, .int l2)]) rfl ?_
      obtain ⟨v3, ev3⟩ : ∃ y : Int32, y = (l2 + 1) := ⟨_, rfl⟩
      replace h := h v3 ev3
      refine G_iinc C dX1_allWays_21 2 rfl (v := v3) (by rw [ev3]; rfl) (by decide) (lv' := [(2, .int v3), (1, .int v2), (0, .ref (adr ω x))]) rfl ?_
      refine G_goto (tgt := 4) C dX1_allWays_24 (by decide) ?_
      refine G_sub [2, 1, 0] (lv' := [(0, .ref (adr ω x)), (1, .int v2), (2, .int v3)]) rfl ?_
      exact k4 _ _ _ h
set_option maxRecDepth 100000 in
set_option maxHeartbeats 4000000 in
theorem S_X1_allWays {ω : WD} {x : Nat} {M : Mem} {post : Int32 → Mem → Prop} (hx : isK 1 x) (h : w_X1_allWays x M post) : MtI ω yX1_allWays cX1_allWays 3 (some .int) 0 [.ref (adr ω x)] M post := by
  refine MtI.start (ty := .int) rfl (by decide +kernel) (own := RX1) rfl (Nat.le_of_ble_eq_true rfl) (fun ρ C R => ?_)
  show G ω ρ M 0 [(0, .ref (adr ω x))] []
  refine G_iconst (v := 0) C dX1_allWays_0 (by decide) ?_
  refine G_istore_n C dX1_allWays_1 (by decide) (lv' := [(1, .int 0), (0, .ref (adr ω x))]) rfl ?_
  refine G_iconst (v := 0) C dX1_allWays_2 (by decide) ?_
  refine G_istore_n C dX1_allWays_3 (by decide) (lv' := [(2, .int 0), (1, .int 0), (0, .ref (adr ω x))]) rfl ?_
  refine G_sub [2, 1, 0] (lv' := [(0, .ref (adr ω x)), (1, .int 0), (2, .int 0)]) rfl ?_
  obtain ⟨f, h⟩ := h
  exact s_X1_allWays_L4 C R hx f _ _ _ h
theorem dX1_allDead_0 : decode cX1_allDead 0 = .ok (.iconst 0, 1) := by decide +kernel
theorem dX1_allDead_1 : decode cX1_allDead 1 = .ok (.istore_n 1, 1) := by decide +kernel
theorem dX1_allDead_2 : decode cX1_allDead 2 = .ok (.iconst 0, 1) := by decide +kernel
theorem dX1_allDead_3 : decode cX1_allDead 3 = .ok (.istore_n 2, 1) := by decide +kernel
theorem dX1_allDead_4 : decode cX1_allDead 4 = .ok (.iload_n 2, 1) := by decide +kernel
theorem dX1_allDead_5 : decode cX1_allDead 5 = .ok (.iconst 5, 1) := by decide +kernel
theorem dX1_allDead_6 : decode cX1_allDead 6 = .ok (.if_icmp .ge 24, 3) := by decide +kernel
theorem dX1_allDead_9 : decode cX1_allDead 9 = .ok (.iload_n 1, 1) := by decide +kernel
theorem dX1_allDead_10 : decode cX1_allDead 10 = .ok (.aload_n 0, 1) := by decide +kernel
theorem dX1_allDead_11 : decode cX1_allDead 11 = .ok (.getfield 36, 3) := by decide +kernel
theorem dX1_allDead_14 : decode cX1_allDead 14 = .ok (.iload_n 2, 1) := by decide +kernel
theorem dX1_allDead_15 : decode cX1_allDead 15 = .ok (.aaload, 1) := by decide +kernel
theorem dX1_allDead_16 : decode cX1_allDead 16 = .ok (.getfield 80, 3) := by decide +kernel
theorem dX1_allDead_19 : decode cX1_allDead 19 = .ok (.invokestatic 83, 3) := by decide +kernel
theorem dX1_allDead_22 : decode cX1_allDead 22 = .ok (.iadd, 1) := by decide +kernel
theorem dX1_allDead_23 : decode cX1_allDead 23 = .ok (.istore_n 1, 1) := by decide +kernel
theorem dX1_allDead_24 : decode cX1_allDead 24 = .ok (.iinc 2 1, 3) := by decide +kernel
theorem dX1_allDead_27 : decode cX1_allDead 27 = .ok (.goto (-23), 3) := by decide +kernel
theorem dX1_allDead_30 : decode cX1_allDead 30 = .ok (.iload_n 1, 1) := by decide +kernel
theorem dX1_allDead_31 : decode cX1_allDead 31 = .ok (.ireturn, 1) := by decide +kernel
theorem gf_X1_80 {ω : WD} {ρ : FR} {M : Mem} {cc : ByteArray} {d n pc i : Nat} {lv : List (Nat × Value)} {rest : List Value} (C : Cx ω ρ cc RX1 d n) (hk : isK 2 i) (hd : decode cc pc = .ok (.getfield 80, 3)) (k : G ω ρ M (pc + 3) lv (.int (rd M i 2) :: rest)) : G ω ρ M pc lv (.ref (adr ω i) :: rest) := G_get (N := 6) (T := TX2) (C := RX2) (q := 2) C hk (by decide) rfl in_X2 (by decide) (tb_of 107 ⟨by decide +kernel, rfl⟩) rfl rfl hd k
theorem lk_X1_83 : LkS RX1 83 yJ6_bitCount_0f7a4 cJ6_bitCount_0f7a4 1 (some .int) 1 := LkS.of 961 827 77 828 (by decide +kernel) (by decide +kernel) (by decide +kernel) (by decide +kernel) (by decide +kernel)
set_option maxRecDepth 100000 in
set_option maxHeartbeats 4000000 in
theorem s_X1_allDead_L4 {ω : WD} {ρ : FR} {post : Int32 → Mem → Prop} (C : Cx ω ρ cX1_allDead RX1 1 3) (R : RtI ω ρ cX1_allDead .int post) {x : Nat} (hx : isK 1 x) : ∀ (f : Nat) (l1 : Int32) (l2 : Int32) (M : Mem), w_X1_allDead_L4 x post f l1 l2 M → G ω ρ M 4 [(0, .ref (adr ω x)), (1, .int l1), (2, .int l2)] [] := by
  intro f
  induction f with
  | zero => intro l1 l2 M h; exact False.elim h
  | succ f k4 =>
    intro l1 l2 M h
    refine G_iload_n C dX1_allDead_4 2 rfl ?_
    refine G_iconst (v := 5) C dX1_allDead_5 (by decide) ?_
    obtain ⟨h1, h2⟩ := h
    refine G_icmp_ge (tgt := 30) C dX1_allDead_6 (by decide) (fun c => ?_) (fun c => ?_)
    · have h := h1 c
      clear h1 h2
      refine G_iload_n C dX1_allDead_30 1 rfl ?_
      exact R 31 _ _ _ dX1_allDead_31 rfl h
    · have h := h2 c
      clear h1 h2
      refine G_iload_n C dX1_allDead_9 1 rfl ?_
      refine G_aload_n C dX1_allDead_10 0 rfl ?_
      refine gf_X1_36 C hx dX1_allDead_11 ?_
      refine G_iload_n C dX1_allDead_14 2 rfl ?_
      obtain ⟨hi, h⟩ := h
      refine G_aldGroup C (st_1_7 hx) hi dX1_allDead_15 (G_rname (fun g1 eg1 => ?_))
      replace h := h g1 eg1
      have hg1 := el_13 (st_1_7 hx) hi eg1
      refine gf_X1_80 C hg1 dX1_allDead_16 ?_
      refine G_scallI (As := [.int (rd M g1 2)]) (rest := [.int l1]) C dX1_allDead_19 lk_X1_83 (Nat.le_of_ble_eq_true rfl) (Nat.le_of_ble_eq_true rfl) (Nat.le_of_ble_eq_true rfl) rfl (S_J6_bitCount_0f7a4 h) (fun r3 M2 h => ?_)
      refine G_iadd C dX1_allDead_22 ?_
      refine G_iname (fun v4 ev4 => ?_)
      replace h := h v4 ev4
      refine G_istore_n C dX1_allDead_23 (by decide) (lv' := [(1, .int v4), (0, .ref (adr ω x)), (2, .int l2)]) rfl ?_
      obtain ⟨v5, ev5⟩ : ∃ y : Int32, y = (l2 + 1) := ⟨_, rfl⟩
      replace h := h v5 ev5
      refine G_iinc C dX1_allDead_24 2 rfl (v := v5) (by rw [ev5]; rfl) (by decide) (lv' := [(2, .int v5), (1, .int v4), (0, .ref (adr ω x))]) rfl ?_
      refine G_goto (tgt := 4) C dX1_allDead_27 (by decide) ?_
      refine G_sub [2, 1, 0] (lv' := [(0, .ref (adr ω x)), (1, .int v4), (2, .int v5)]) rfl ?_
      exact k4 _ _ _ h
set_option maxRecDepth 100000 in
set_option maxHeartbeats 4000000 in
theorem S_X1_allDead {ω : WD} {x : Nat} {M : Mem} {post : Int32 → Mem → Prop} (hx : isK 1 x) (h : w_X1_allDead x M post) : MtI ω yX1_allDead cX1_allDead 3 (some .int) 1 [.ref (adr ω x)] M post := by
  refine MtI.start (ty := .int) rfl (by decide +kernel) (own := RX1) rfl (Nat.le_of_ble_eq_true rfl) (fun ρ C R => ?_)
  show G ω ρ M 0 [(0, .ref (adr ω x))] []
  refine G_iconst (v := 0) C dX1_allDead_0 (by decide) ?_
  refine G_istore_n C dX1_allDead_1 (by decide) (lv' := [(1, .int 0), (0, .ref (adr ω x))]) rfl ?_
  refine G_iconst (v := 0) C dX1_allDead_2 (by decide) ?_
  refine G_istore_n C dX1_allDead_3 (by decide) (lv' := [(2, .int 0), (1, .int 0), (0, .ref (adr ω x))]) rfl ?_
  refine G_sub [2, 1, 0] (lv' := [(0, .ref (adr ω x)), (1, .int 0), (2, .int 0)]) rfl ?_
  obtain ⟨f, h⟩ := h
  exact s_X1_allDead_L4 C R hx f _ _ _ h
