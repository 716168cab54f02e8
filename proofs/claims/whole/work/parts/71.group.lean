theorem dX2_clear_0 : decode cX2_clear 0 = .ok (.aload_n 0, 1) := by decide +kernel
theorem dX2_clear_1 : decode cX2_clear 1 = .ok (.iconst 0, 1) := by decide +kernel
theorem dX2_clear_2 : decode cX2_clear 2 = .ok (.putfield 9, 3) := by decide +kernel
theorem dX2_clear_5 : decode cX2_clear 5 = .ok (.aload_n 0, 1) := by decide +kernel
theorem dX2_clear_6 : decode cX2_clear 6 = .ok (.iconst 1, 1) := by decide +kernel
theorem dX2_clear_7 : decode cX2_clear 7 = .ok (.putfield 15, 3) := by decide +kernel
theorem dX2_clear_10 : decode cX2_clear 10 = .ok (.aload_n 0, 1) := by decide +kernel
theorem dX2_clear_11 : decode cX2_clear 11 = .ok (.iconst 0, 1) := by decide +kernel
theorem dX2_clear_12 : decode cX2_clear 12 = .ok (.putfield 18, 3) := by decide +kernel
theorem dX2_clear_15 : decode cX2_clear 15 = .ok (.aload_n 0, 1) := by decide +kernel
theorem dX2_clear_16 : decode cX2_clear 16 = .ok (.iconst 0, 1) := by decide +kernel
theorem dX2_clear_17 : decode cX2_clear 17 = .ok (.putfield 21, 3) := by decide +kernel
theorem dX2_clear_20 : decode cX2_clear 20 = .ok (.aload_n 0, 1) := by decide +kernel
theorem dX2_clear_21 : decode cX2_clear 21 = .ok (.bipush (-4), 2) := by decide +kernel
theorem dX2_clear_23 : decode cX2_clear 23 = .ok (.putfield 24, 3) := by decide +kernel
theorem dX2_clear_26 : decode cX2_clear 26 = .ok (.iconst 0, 1) := by decide +kernel
theorem dX2_clear_27 : decode cX2_clear 27 = .ok (.istore_n 1, 1) := by decide +kernel
theorem dX2_clear_28 : decode cX2_clear 28 = .ok (.iload_n 1, 1) := by decide +kernel
theorem dX2_clear_29 : decode cX2_clear 29 = .ok (.iconst 4, 1) := by decide +kernel
theorem dX2_clear_30 : decode cX2_clear 30 = .ok (.if_icmp .ge 16, 3) := by decide +kernel
theorem dX2_clear_33 : decode cX2_clear 33 = .ok (.aload_n 0, 1) := by decide +kernel
theorem dX2_clear_34 : decode cX2_clear 34 = .ok (.getfield 27, 3) := by decide +kernel
theorem dX2_clear_37 : decode cX2_clear 37 = .ok (.iload_n 1, 1) := by decide +kernel
theorem dX2_clear_38 : decode cX2_clear 38 = .ok (.iconst 0, 1) := by decide +kernel
theorem dX2_clear_39 : decode cX2_clear 39 = .ok (.iastore, 1) := by decide +kernel
theorem dX2_clear_40 : decode cX2_clear 40 = .ok (.iinc 1 1, 3) := by decide +kernel
theorem dX2_clear_43 : decode cX2_clear 43 = .ok (.goto (-15), 3) := by decide +kernel
theorem dX2_clear_46 : decode cX2_clear 46 = .ok (.return_, 1) := by decide +kernel
theorem gf_X2_27 {ω : WD} {ρ : FR} {M : Mem} {cc : ByteArray} {d n pc i : Nat} {lv : List (Nat × Value)} {rest : List Value} (C : Cx ω ρ cc RX2 d n) (hk : isK 2 i) (hd : decode cc pc = .ok (.getfield 27, 3)) (k : G ω ρ M (pc + 3) lv (.ref (adr ω (i + 1)) :: rest)) : G ω ρ M pc lv (.ref (adr ω i) :: rest) := G_get (N := 6) (T := TX2) (C := RX2) (q := 5) C hk (by decide) rfl in_X2 (by decide) (tb_of 114 ⟨by decide +kernel, rfl⟩) rfl rfl hd k
theorem pf_X2_9 {ω : WD} {ρ : FR} {M : Mem} {cc : ByteArray} {d n pc i : Nat} {lv : List (Nat × Value)} {rest : List Value} {v : Int32} (C : Cx ω ρ cc RX2 d n) (hk : isK 2 i) (hd : decode cc pc = .ok (.putfield 9, 3)) (k : ∀ M1, M1 = wr M i 0 v → G ω ρ M1 (pc + 3) lv rest) : G ω ρ M pc lv (.int v :: .ref (adr ω i) :: rest) := G_put (N := 6) (T := TX2) (C := RX2) (q := 0) (ty := .int) C hk (by decide) rfl in_X2 tyX2 tyX2_ok nmX2 (by decide) (tb_of 99 ⟨by decide +kernel, rfl⟩) rfl rfl (by decide +kernel) rfl rfl (fun _ _ => Nat.le_of_ble_eq_true rfl) (fun _ => rfl) hd (k _ rfl)
theorem pf_X2_15 {ω : WD} {ρ : FR} {M : Mem} {cc : ByteArray} {d n pc i : Nat} {lv : List (Nat × Value)} {rest : List Value} {v : Int32} (C : Cx ω ρ cc RX2 d n) (hk : isK 2 i) (hd : decode cc pc = .ok (.putfield 15, 3)) (k : ∀ M1, M1 = wr M i 1 v → G ω ρ M1 (pc + 3) lv rest) : G ω ρ M pc lv (.int v :: .ref (adr ω i) :: rest) := G_put (N := 6) (T := TX2) (C := RX2) (q := 1) (ty := .int) C hk (by decide) rfl in_X2 tyX2 tyX2_ok nmX2 (by decide) (tb_of 102 ⟨by decide +kernel, rfl⟩) rfl rfl (by decide +kernel) rfl rfl (fun _ _ => Nat.le_of_ble_eq_true rfl) (fun _ => rfl) hd (k _ rfl)
theorem pf_X2_18 {ω : WD} {ρ : FR} {M : Mem} {cc : ByteArray} {d n pc i : Nat} {lv : List (Nat × Value)} {rest : List Value} {v : Int32} (C : Cx ω ρ cc RX2 d n) (hk : isK 2 i) (hd : decode cc pc = .ok (.putfield 18, 3)) (k : ∀ M1, M1 = wr M i 2 v → G ω ρ M1 (pc + 3) lv rest) : G ω ρ M pc lv (.int v :: .ref (adr ω i) :: rest) := G_put (N := 6) (T := TX2) (C := RX2) (q := 2) (ty := .int) C hk (by decide) rfl in_X2 tyX2 tyX2_ok nmX2 (by decide) (tb_of 105 ⟨by decide +kernel, rfl⟩) rfl rfl (by decide +kernel) rfl rfl (fun _ _ => Nat.le_of_ble_eq_true rfl) (fun _ => rfl) hd (k _ rfl)
theorem pf_X2_21 {ω : WD} {ρ : FR} {M : Mem} {cc : ByteArray} {d n pc i : Nat} {lv : List (Nat × Value)} {rest : List Value} {v : Int32} (C : Cx ω ρ cc RX2 d n) (hk : isK 2 i) (hd : decode cc pc = .ok (.putfield 21, 3)) (k : ∀ M1, M1 = wr M i 3 v → G ω ρ M1 (pc + 3) lv rest) : G ω ρ M pc lv (.int v :: .ref (adr ω i) :: rest) := G_put (N := 6) (T := TX2) (C := RX2) (q := 3) (ty := .int) C hk (by decide) rfl in_X2 tyX2 tyX2_ok nmX2 (by decide) (tb_of 108 ⟨by decide +kernel, rfl⟩) rfl rfl (by decide +kernel) rfl rfl (fun _ _ => Nat.le_of_ble_eq_true rfl) (fun _ => rfl) hd (k _ rfl)
theorem pf_X2_24 {ω : WD} {ρ : FR} {M : Mem} {cc : ByteArray} {d n pc i : Nat} {lv : List (Nat × Value)} {rest : List Value} {v : Int32} (C : Cx ω ρ cc RX2 d n) (hk : isK 2 i) (hd : decode cc pc = .ok (.putfield 24, 3)) (k : ∀ M1, M1 = wr M i 4 v → G ω ρ M1 (pc + 3) lv rest) : G ω ρ M pc lv (.int v :: .ref (adr ω i) :: rest) := G_put (N := 6) (T := TX2) (C := RX2) (q := 4) (ty := .int) C hk (by decide) rfl in_X2 tyX2 tyX2_ok nmX2 (by decide) (tb_of 111 ⟨by decide +kernel, rfl⟩) rfl rfl (by decide +kernel) rfl rfl (fun _ _ => Nat.le_of_ble_eq_true rfl) (fun _ => rfl) hd (k _ rfl)
set_option maxRecDepth 100000 in
set_option maxHeartbeats 4000000 in
theorem s_X2_clear_L28 {ω : WD} {ρ : FR} {post : Mem → Prop} (C : Cx ω ρ cX2_clear RX2 0 2) (R : RtV ω ρ cX2_clear post) {x : Nat} (hx : isK 2 x) : ∀ (f : Nat) (l1 : Int32) (M : Mem), w_X2_clear_L28 x post f l1 M → G ω ρ M 28 [(0, .ref (adr ω x)), (1, .int l1)] [] := by
  intro f
  induction f with
  | zero => intro l1 M h; exact False.elim h
  | succ f k28 =>
    intro l1 M h
    refine G_iload_n C dX2_clear_28 1 rfl ?_
    refine G_iconst (v := 4) C dX2_clear_29 (by decide) ?_
    obtain ⟨h1, h2⟩ := h
    refine G_icmp_ge (tgt := 46) C dX2_clear_30 (by decide) (fun c => ?_) (fun c => ?_)
    · have h := h1 c
      clear h1 h2
      exact R 46 _ _ dX2_clear_46 h
    · have h := h2 c
      clear h1 h2
      refine G_aload_n C dX2_clear_33 0 rfl ?_
      refine gf_X2_27 C hx dX2_clear_34 ?_
      refine G_iload_n C dX2_clear_37 1 rfl ?_
      refine G_iconst (v := 0) C dX2_clear_38 (by decide) ?_
      obtain ⟨hi, h⟩ := h
      refine G_iast C (st_2_5 hx) hi rfl dX2_clear_39 (G_mname (fun M1 eM1 => ?_))
      replace h := h M1 eM1
      obtain ⟨v2, ev2⟩ : ∃ y : Int32, y = (l1 + 1) := ⟨_, rfl⟩
      replace h := h v2 ev2
      refine G_iinc C dX2_clear_40 1 rfl (v := v2) (by rw [ev2]; rfl) (by decide) (lv' := [(1, .int v2), (0, .ref (adr ω x))]) rfl ?_
      refine G_goto (tgt := 28) C dX2_clear_43 (by decide) ?_
      refine G_sub [1, 0] (lv' := [(0, .ref (adr ω x)), (1, .int v2)]) rfl ?_
      exact k28 _ _ h
set_option maxRecDepth 100000 in
set_option maxHeartbeats 4000000 in
theorem S_X2_clear {ω : WD} {x : Nat} {M : Mem} {post : Mem → Prop} (hx : isK 2 x) (h : w_X2_clear x M post) : MtV ω yX2_clear cX2_clear 2 none 0 [.ref (adr ω x)] M post := by
  refine MtV.start rfl (by decide +kernel) (own := RX2) rfl (Nat.le_of_ble_eq_true rfl) (fun ρ C R => ?_)
  show G ω ρ M 0 [(0, .ref (adr ω x))] []
  refine G_aload_n C dX2_clear_0 0 rfl ?_
  refine G_iconst (v := 0) C dX2_clear_1 (by decide) ?_
  refine pf_X2_9 C hx dX2_clear_2 (fun M3 eM3 => ?_)
  replace h := h M3 eM3
  refine G_aload_n C dX2_clear_5 0 rfl ?_
  refine G_iconst (v := 1) C dX2_clear_6 (by decide) ?_
  refine pf_X2_15 C hx dX2_clear_7 (fun M4 eM4 => ?_)
  replace h := h M4 eM4
  refine G_aload_n C dX2_clear_10 0 rfl ?_
  refine G_iconst (v := 0) C dX2_clear_11 (by decide) ?_
  refine pf_X2_18 C hx dX2_clear_12 (fun M5 eM5 => ?_)
  replace h := h M5 eM5
  refine G_aload_n C dX2_clear_15 0 rfl ?_
  refine G_iconst (v := 0) C dX2_clear_16 (by decide) ?_
  refine pf_X2_21 C hx dX2_clear_17 (fun M6 eM6 => ?_)
  replace h := h M6 eM6
  refine G_aload_n C dX2_clear_20 0 rfl ?_
  refine G_bipush (v := (-4)) C dX2_clear_21 (by decide) ?_
  refine pf_X2_24 C hx dX2_clear_23 (fun M7 eM7 => ?_)
  replace h := h M7 eM7
  refine G_iconst (v := 0) C dX2_clear_26 (by decide) ?_
  refine G_istore_n C dX2_clear_27 (by decide) (lv' := [(1, .int 0), (0, .ref (adr ω x))]) rfl ?_
  refine G_sub [1, 0] (lv' := [(0, .ref (adr ω x)), (1, .int 0)]) rfl ?_
  obtain ⟨f, h⟩ := h
  exact s_X2_clear_L28 C R hx f _ _ h
theorem dX2_copyFrom_0 : decode cX2_copyFrom 0 = .ok (.aload_n 0, 1) := by decide +kernel
theorem dX2_copyFrom_1 : decode cX2_copyFrom 1 = .ok (.aload_n 1, 1) := by decide +kernel
theorem dX2_copyFrom_2 : decode cX2_copyFrom 2 = .ok (.getfield 9, 3) := by decide +kernel
theorem dX2_copyFrom_5 : decode cX2_copyFrom 5 = .ok (.putfield 9, 3) := by decide +kernel
theorem dX2_copyFrom_8 : decode cX2_copyFrom 8 = .ok (.aload_n 0, 1) := by decide +kernel
theorem dX2_copyFrom_9 : decode cX2_copyFrom 9 = .ok (.aload_n 1, 1) := by decide +kernel
theorem dX2_copyFrom_10 : decode cX2_copyFrom 10 = .ok (.getfield 15, 3) := by decide +kernel
theorem dX2_copyFrom_13 : decode cX2_copyFrom 13 = .ok (.putfield 15, 3) := by decide +kernel
theorem dX2_copyFrom_16 : decode cX2_copyFrom 16 = .ok (.aload_n 0, 1) := by decide +kernel
theorem dX2_copyFrom_17 : decode cX2_copyFrom 17 = .ok (.aload_n 1, 1) := by decide +kernel
theorem dX2_copyFrom_18 : decode cX2_copyFrom 18 = .ok (.getfield 18, 3) := by decide +kernel
theorem dX2_copyFrom_21 : decode cX2_copyFrom 21 = .ok (.putfield 18, 3) := by decide +kernel
theorem dX2_copyFrom_24 : decode cX2_copyFrom 24 = .ok (.aload_n 0, 1) := by decide +kernel
theorem dX2_copyFrom_25 : decode cX2_copyFrom 25 = .ok (.aload_n 1, 1) := by decide +kernel
theorem dX2_copyFrom_26 : decode cX2_copyFrom 26 = .ok (.getfield 21, 3) := by decide +kernel
theorem dX2_copyFrom_29 : decode cX2_copyFrom 29 = .ok (.putfield 21, 3) := by decide +kernel
theorem dX2_copyFrom_32 : decode cX2_copyFrom 32 = .ok (.aload_n 0, 1) := by decide +kernel
theorem dX2_copyFrom_33 : decode cX2_copyFrom 33 = .ok (.aload_n 1, 1) := by decide +kernel
theorem dX2_copyFrom_34 : decode cX2_copyFrom 34 = .ok (.getfield 24, 3) := by decide +kernel
theorem dX2_copyFrom_37 : decode cX2_copyFrom 37 = .ok (.putfield 24, 3) := by decide +kernel
theorem dX2_copyFrom_40 : decode cX2_copyFrom 40 = .ok (.iconst 0, 1) := by decide +kernel
theorem dX2_copyFrom_41 : decode cX2_copyFrom 41 = .ok (.istore_n 2, 1) := by decide +kernel
theorem dX2_copyFrom_42 : decode cX2_copyFrom 42 = .ok (.iload_n 2, 1) := by decide +kernel
theorem dX2_copyFrom_43 : decode cX2_copyFrom 43 = .ok (.iconst 4, 1) := by decide +kernel
theorem dX2_copyFrom_44 : decode cX2_copyFrom 44 = .ok (.if_icmp .ge 21, 3) := by decide +kernel
theorem dX2_copyFrom_47 : decode cX2_copyFrom 47 = .ok (.aload_n 0, 1) := by decide +kernel
theorem dX2_copyFrom_48 : decode cX2_copyFrom 48 = .ok (.getfield 27, 3) := by decide +kernel
theorem dX2_copyFrom_51 : decode cX2_copyFrom 51 = .ok (.iload_n 2, 1) := by decide +kernel
theorem dX2_copyFrom_52 : decode cX2_copyFrom 52 = .ok (.aload_n 1, 1) := by decide +kernel
theorem dX2_copyFrom_53 : decode cX2_copyFrom 53 = .ok (.getfield 27, 3) := by decide +kernel
theorem dX2_copyFrom_56 : decode cX2_copyFrom 56 = .ok (.iload_n 2, 1) := by decide +kernel
theorem dX2_copyFrom_57 : decode cX2_copyFrom 57 = .ok (.iaload, 1) := by decide +kernel
theorem dX2_copyFrom_58 : decode cX2_copyFrom 58 = .ok (.iastore, 1) := by decide +kernel
theorem dX2_copyFrom_59 : decode cX2_copyFrom 59 = .ok (.iinc 2 1, 3) := by decide +kernel
theorem dX2_copyFrom_62 : decode cX2_copyFrom 62 = .ok (.goto (-20), 3) := by decide +kernel
theorem dX2_copyFrom_65 : decode cX2_copyFrom 65 = .ok (.return_, 1) := by decide +kernel
theorem gf_X2_9 {ω : WD} {ρ : FR} {M : Mem} {cc : ByteArray} {d n pc i : Nat} {lv : List (Nat × Value)} {rest : List Value} (C : Cx ω ρ cc RX2 d n) (hk : isK 2 i) (hd : decode cc pc = .ok (.getfield 9, 3)) (k : G ω ρ M (pc + 3) lv (.int (rd M i 0) :: rest)) : G ω ρ M pc lv (.ref (adr ω i) :: rest) := G_get (N := 6) (T := TX2) (C := RX2) (q := 0) C hk (by decide) rfl in_X2 (by decide) (tb_of 99 ⟨by decide +kernel, rfl⟩) rfl rfl hd k
theorem gf_X2_15 {ω : WD} {ρ : FR} {M : Mem} {cc : ByteArray} {d n pc i : Nat} {lv : List (Nat × Value)} {rest : List Value} (C : Cx ω ρ cc RX2 d n) (hk : isK 2 i) (hd : decode cc pc = .ok (.getfield 15, 3)) (k : G ω ρ M (pc + 3) lv (.int (rd M i 1) :: rest)) : G ω ρ M pc lv (.ref (adr ω i) :: rest) := G_get (N := 6) (T := TX2) (C := RX2) (q := 1) C hk (by decide) rfl in_X2 (by decide) (tb_of 102 ⟨by decide +kernel, rfl⟩) rfl rfl hd k
theorem gf_X2_18 {ω : WD} {ρ : FR} {M : Mem} {cc : ByteArray} {d n pc i : Nat} {lv : List (Nat × Value)} {rest : List Value} (C : Cx ω ρ cc RX2 d n) (hk : isK 2 i) (hd : decode cc pc = .ok (.getfield 18, 3)) (k : G ω ρ M (pc + 3) lv (.int (rd M i 2) :: rest)) : G ω ρ M pc lv (.ref (adr ω i) :: rest) := G_get (N := 6) (T := TX2) (C := RX2) (q := 2) C hk (by decide) rfl in_X2 (by decide) (tb_of 105 ⟨by decide +kernel, rfl⟩) rfl rfl hd k
theorem gf_X2_21 {ω : WD} {ρ : FR} {M : Mem} {cc : ByteArray} {d n pc i : Nat} {lv : List (Nat × Value)} {rest : List Value} (C : Cx ω ρ cc RX2 d n) (hk : isK 2 i) (hd : decode cc pc = .ok (.getfield 21, 3)) (k : G ω ρ M (pc + 3) lv (.int (rd M i 3) :: rest)) : G ω ρ M pc lv (.ref (adr ω i) :: rest) := G_get (N := 6) (T := TX2) (C := RX2) (q := 3) C hk (by decide) rfl in_X2 (by decide) (tb_of 108 ⟨by decide +kernel, rfl⟩) rfl rfl hd k
theorem gf_X2_24 {ω : WD} {ρ : FR} {M : Mem} {cc : ByteArray} {d n pc i : Nat} {lv : List (Nat × Value)} {rest : List Value} (C : Cx ω ρ cc RX2 d n) (hk : isK 2 i) (hd : decode cc pc = .ok (.getfield 24, 3)) (k : G ω ρ M (pc + 3) lv (.int (rd M i 4) :: rest)) : G ω ρ M pc lv (.ref (adr ω i) :: rest) := G_get (N := 6) (T := TX2) (C := RX2) (q := 4) C hk (by decide) rfl in_X2 (by decide) (tb_of 111 ⟨by decide +kernel, rfl⟩) rfl rfl hd k
set_option maxRecDepth 100000 in
set_option maxHeartbeats 4000000 in
theorem s_X2_copyFrom_L42 {ω : WD} {ρ : FR} {post : Mem → Prop} (C : Cx ω ρ cX2_copyFrom RX2 0 3) (R : RtV ω ρ cX2_copyFrom post) {x : Nat} {y : Nat} (hx : isK 2 x) (hy : isK 2 y) : ∀ (f : Nat) (l2 : Int32) (M : Mem), w_X2_copyFrom_L42 x y post f l2 M → G ω ρ M 42 [(0, .ref (adr ω x)), (1, .ref (adr ω y)), (2, .int l2)] [] := by
  intro f
  induction f with
  | zero => intro l2 M h; exact False.elim h
  | succ f k42 =>
    intro l2 M h
    refine G_iload_n C dX2_copyFrom_42 2 rfl ?_
    refine G_iconst (v := 4) C dX2_copyFrom_43 (by decide) ?_
    obtain ⟨h1, h2⟩ := h
    refine G_icmp_ge (tgt := 65) C dX2_copyFrom_44 (by decide) (fun c => ?_) (fun c => ?_)
    · have h := h1 c
      clear h1 h2
      exact R 65 _ _ dX2_copyFrom_65 h
    · have h := h2 c
      clear h1 h2
      refine G_aload_n C dX2_copyFrom_47 0 rfl ?_
      refine gf_X2_27 C hx dX2_copyFrom_48 ?_
      refine G_iload_n C dX2_copyFrom_51 2 rfl ?_
      refine G_aload_n C dX2_copyFrom_52 1 rfl ?_
      refine gf_X2_27 C hy dX2_copyFrom_53 ?_
      refine G_iload_n C dX2_copyFrom_56 2 rfl ?_
      obtain ⟨hi, h⟩ := h
      refine G_iald C (st_2_5 hy) hi rfl dX2_copyFrom_57 ?_
      obtain ⟨hi, h⟩ := h
      refine G_iast C (st_2_5 hx) hi rfl dX2_copyFrom_58 (G_mname (fun M1 eM1 => ?_))
      replace h := h M1 eM1
      obtain ⟨v2, ev2⟩ : ∃ y : Int32, y = (l2 + 1) := ⟨_, rfl⟩
      replace h := h v2 ev2
      refine G_iinc C dX2_copyFrom_59 2 rfl (v := v2) (by rw [ev2]; rfl) (by decide) (lv' := [(2, .int v2), (0, .ref (adr ω x)), (1, .ref (adr ω y))]) rfl ?_
      refine G_goto (tgt := 42) C dX2_copyFrom_62 (by decide) ?_
      refine G_sub [1, 2, 0] (lv' := [(0, .ref (adr ω x)), (1, .ref (adr ω y)), (2, .int v2)]) rfl ?_
      exact k42 _ _ h
set_option maxRecDepth 100000 in
set_option maxHeartbeats 4000000 in
theorem S_X2_copyFrom {ω : WD} {x : Nat} {y : Nat} {M : Mem} {post : Mem → Prop} (hx : isK 2 x) (hy : isK 2 y) (h : w_X2_copyFrom x y M post) : MtV ω yX2_copyFrom cX2_copyFrom 3 none 0 [.ref (adr ω x), .ref (adr ω y)] M post := by
  refine MtV.start rfl (by decide +kernel) (own := RX2) rfl (Nat.le_of_ble_eq_true rfl) (fun ρ C R => ?_)
  show G ω ρ M 0 [(0, .ref (adr ω x)), (1, .ref (adr ω y))] []
  refine G_aload_n C dX2_copyFrom_0 0 rfl ?_
  refine G_aload_n C dX2_copyFrom_1 1 rfl ?_
  refine gf_X2_9 C hy dX2_copyFrom_2 ?_
  refine pf_X2_9 C hx dX2_copyFrom_5 (fun M3 eM3 => ?_)
  replace h := h M3 eM3
  refine G_aload_n C dX2_copyFrom_8 0 rfl ?_
  refine G_aload_n C dX2_copyFrom_9 1 rfl ?_
  refine gf_X2_15 C hy dX2_copyFrom_10 ?_
  refine pf_X2_15 C hx dX2_copyFrom_13 (fun M4 eM4 => ?_)
  replace h := h M4 eM4
  refine G_aload_n C dX2_copyFrom_16 0 rfl ?_
  refine G_aload_n C dX2_copyFrom_17 1 rfl ?_
  refine gf_X2_18 C hy dX2_copyFrom_18 ?_
  refine pf_X2_18 C hx dX2_copyFrom_21 (fun M5 eM5 => ?_)
  replace h := h M5 eM5
  refine G_aload_n C dX2_copyFrom_24 0 rfl ?_
  refine G_aload_n C dX2_copyFrom_25 1 rfl ?_
  refine gf_X2_21 C hy dX2_copyFrom_26 ?_
  refine pf_X2_21 C hx dX2_copyFrom_29 (fun M6 eM6 => ?_)
  replace h := h M6 eM6
  refine G_aload_n C dX2_copyFrom_32 0 rfl ?_
  refine G_aload_n C dX2_copyFrom_33 1 rfl ?_
  refine gf_X2_24 C hy dX2_copyFrom_34 ?_
  refine pf_X2_24 C hx dX2_copyFrom_37 (fun M7 eM7 => ?_)
  replace h := h M7 eM7
  refine G_iconst (v := 0) C dX2_copyFrom_40 (by decide) ?_
  refine G_istore_n C dX2_copyFrom_41 (by decide) (lv' := [(2, .int 0), (0, .ref (adr ω x)), (1, .ref (adr ω y))]) rfl ?_
  refine G_sub [1, 2, 0] (lv' := [(0, .ref (adr ω x)), (1, .ref (adr ω y)), (2, .int 0)]) rfl ?_
  obtain ⟨f, h⟩ := h
  exact s_X2_copyFrom_L42 C R hx hy f _ _ h
theorem dX2_isFreeFrom_0 : decode cX2_isFreeFrom 0 = .ok (.aload_n 0, 1) := by decide +kernel
theorem dX2_isFreeFrom_1 : decode cX2_isFreeFrom 1 = .ok (.getfield 21, 3) := by decide +kernel
theorem dX2_isFreeFrom_4 : decode cX2_isFreeFrom 4 = .ok (.iload_n 1, 1) := by decide +kernel
theorem dX2_isFreeFrom_5 : decode cX2_isFreeFrom 5 = .ok (.ishr, 1) := by decide +kernel
theorem dX2_isFreeFrom_6 : decode cX2_isFreeFrom 6 = .ok (.ifCond .ne 7, 3) := by decide +kernel
theorem dX2_isFreeFrom_9 : decode cX2_isFreeFrom 9 = .ok (.iconst 1, 1) := by decide +kernel
theorem dX2_isFreeFrom_10 : decode cX2_isFreeFrom 10 = .ok (.goto 4, 3) := by decide +kernel
theorem dX2_isFreeFrom_13 : decode cX2_isFreeFrom 13 = .ok (.iconst 0, 1) := by decide +kernel
theorem dX2_isFreeFrom_14 : decode cX2_isFreeFrom 14 = .ok (.ireturn, 1) := by decide +kernel
set_option maxRecDepth 100000 in
set_option maxHeartbeats 4000000 in
theorem S_X2_isFreeFrom {ω : WD} {x : Nat} {l1 : Int32} {M : Mem} {post : Int32 → Mem → Prop} (hx : isK 2 x) (h : w_X2_isFreeFrom x l1 M post) : MtI ω yX2_isFreeFrom cX2_isFreeFrom 2 (some .boolean) 0 [.ref (adr ω x), .int l1] M post := by
  refine MtI.start (ty := .boolean) rfl (by decide +kernel) (own := RX2) rfl (Nat.le_of_ble_eq_true rfl) (fun ρ C R => ?_)
  show G ω ρ M 0 [(0, .ref (adr ω x)), (1, .int l1)] []
  refine G_aload_n C dX2_isFreeFrom_0 0 rfl ?_
  refine gf_X2_21 C hx dX2_isFreeFrom_1 ?_
  refine G_iload_n C dX2_isFreeFrom_4 1 rfl ?_
  refine G_ishr C dX2_isFreeFrom_5 ?_
  obtain ⟨h1, h2⟩ := h
  refine G_if_ne (tgt := 13) C dX2_isFreeFrom_6 (by decide) (fun c => ?_) (fun c => ?_)
  · have h := h1 c
    clear h1 h2
    refine G_iconst (v := 0) C dX2_isFreeFrom_13 (by decide) ?_
    exact R 14 _ _ _ dX2_isFreeFrom_14 rfl h
  · have h := h2 c
    clear h1 h2
    refine G_iconst (v := 1) C dX2_isFreeFrom_9 (by decide) ?_
    refine G_goto (tgt := 14) C dX2_isFreeFrom_10 (by decide) ?_
    exact R 14 _ _ _ dX2_isFreeFrom_14 rfl h
theorem dX2_resize_0 : decode cX2_resize 0 = .ok (.aload_n 0, 1) := by decide +kernel
theorem dX2_resize_1 : decode cX2_resize 1 = .ok (.iload_n 1, 1) := by decide +kernel
theorem dX2_resize_2 : decode cX2_resize 2 = .ok (.putfield 15, 3) := by decide +kernel
theorem dX2_resize_5 : decode cX2_resize 5 = .ok (.aload_n 0, 1) := by decide +kernel
theorem dX2_resize_6 : decode cX2_resize 6 = .ok (.dup, 1) := by decide +kernel
theorem dX2_resize_7 : decode cX2_resize 7 = .ok (.getfield 18, 3) := by decide +kernel
theorem dX2_resize_10 : decode cX2_resize 10 = .ok (.iconst 1, 1) := by decide +kernel
theorem dX2_resize_11 : decode cX2_resize 11 = .ok (.iload_n 1, 1) := by decide +kernel
theorem dX2_resize_12 : decode cX2_resize 12 = .ok (.ishl, 1) := by decide +kernel
theorem dX2_resize_13 : decode cX2_resize 13 = .ok (.iconst 1, 1) := by decide +kernel
theorem dX2_resize_14 : decode cX2_resize 14 = .ok (.isub, 1) := by decide +kernel
theorem dX2_resize_15 : decode cX2_resize 15 = .ok (.iand, 1) := by decide +kernel
theorem dX2_resize_16 : decode cX2_resize 16 = .ok (.putfield 18, 3) := by decide +kernel
theorem dX2_resize_19 : decode cX2_resize 19 = .ok (.iload_n 1, 1) := by decide +kernel
theorem dX2_resize_20 : decode cX2_resize 20 = .ok (.istore_n 2, 1) := by decide +kernel
theorem dX2_resize_21 : decode cX2_resize 21 = .ok (.iload_n 2, 1) := by decide +kernel
theorem dX2_resize_22 : decode cX2_resize 22 = .ok (.iconst 4, 1) := by decide +kernel
theorem dX2_resize_23 : decode cX2_resize 23 = .ok (.if_icmp .ge 16, 3) := by decide +kernel
theorem dX2_resize_26 : decode cX2_resize 26 = .ok (.aload_n 0, 1) := by decide +kernel
theorem dX2_resize_27 : decode cX2_resize 27 = .ok (.getfield 27, 3) := by decide +kernel
theorem dX2_resize_30 : decode cX2_resize 30 = .ok (.iload_n 2, 1) := by decide +kernel
theorem dX2_resize_31 : decode cX2_resize 31 = .ok (.iconst 0, 1) := by decide +kernel
theorem dX2_resize_32 : decode cX2_resize 32 = .ok (.iastore, 1) := by decide +kernel
theorem dX2_resize_33 : decode cX2_resize 33 = .ok (.iinc 2 1, 3) := by decide +kernel
theorem dX2_resize_36 : decode cX2_resize 36 = .ok (.goto (-15), 3) := by decide +kernel
theorem dX2_resize_39 : decode cX2_resize 39 = .ok (.aload_n 0, 1) := by decide +kernel
theorem dX2_resize_40 : decode cX2_resize 40 = .ok (.getfield 24, 3) := by decide +kernel
theorem dX2_resize_43 : decode cX2_resize 43 = .ok (.iload_n 1, 1) := by decide +kernel
theorem dX2_resize_44 : decode cX2_resize 44 = .ok (.if_icmp .lt 9, 3) := by decide +kernel
theorem dX2_resize_47 : decode cX2_resize 47 = .ok (.aload_n 0, 1) := by decide +kernel
theorem dX2_resize_48 : decode cX2_resize 48 = .ok (.bipush (-4), 2) := by decide +kernel
theorem dX2_resize_50 : decode cX2_resize 50 = .ok (.putfield 24, 3) := by decide +kernel
theorem dX2_resize_53 : decode cX2_resize 53 = .ok (.return_, 1) := by decide +kernel
set_option maxRecDepth 100000 in
set_option maxHeartbeats 4000000 in
theorem s_X2_resize_L21 {ω : WD} {ρ : FR} {post : Mem → Prop} (C : Cx ω ρ cX2_resize RX2 0 3) (R : RtV ω ρ cX2_resize post) {x : Nat} (hx : isK 2 x) {l1 : Int32} : ∀ (f : Nat) (l2 : Int32) (M : Mem), w_X2_resize_L21 x post l1 f l2 M → G ω ρ M 21 [(0, .ref (adr ω x)), (1, .int l1), (2, .int l2)] [] := by
  intro f
  induction f with
  | zero => intro l2 M h; exact False.elim h
  | succ f k21 =>
    intro l2 M h
    refine G_iload_n C dX2_resize_21 2 rfl ?_
    refine G_iconst (v := 4) C dX2_resize_22 (by decide) ?_
    obtain ⟨h1, h2⟩ := h
    refine G_icmp_ge (tgt := 39) C dX2_resize_23 (by decide) (fun c => ?_) (fun c => ?_)
    · have h := h1 c
      clear h1 h2
      refine G_aload_n C dX2_resize_39 0 rfl ?_
      refine gf_X2_24 C hx dX2_resize_40 ?_
      refine G_iload_n C dX2_resize_43 1 rfl ?_
      obtain ⟨h1, h2⟩ := h
      refine G_icmp_lt (tgt := 53) C dX2_resize_44 (by decide) (fun c => ?_) (fun c => ?_)
      · have h := h1 c
        clear h1 h2
        exact R 53 _ _ dX2_resize_53 h
      · have h := h2 c
        clear h1 h2
        refine G_aload_n C dX2_resize_47 0 rfl ?_
        refine G_bipush (v := (-4)) C dX2_resize_48 (by decide) ?_
        refine pf_X2_24 C hx dX2_resize_50 (fun M1 eM1 => ?_)
        replace h := h M1 eM1
        exact R 53 _ _ dX2_resize_53 h
    · have h := h2 c
      clear h1 h2
      refine G_aload_n C dX2_resize_26 0 rfl ?_
      refine gf_X2_27 C hx dX2_resize_27 ?_
      refine G_iload_n C dX2_resize_30 2 rfl ?_
      refine G_iconst (v := 0) C dX2_resize_31 (by decide) ?_
      obtain ⟨hi, h⟩ := h
      refine G_iast C (st_2_5 hx) hi rfl dX2_resize_32 (G_mname (fun M2 eM2 => ?_))
      replace h := h M2 eM2
      obtain ⟨v3, ev3⟩ : ∃ y : Int32, y = (l2 + 1) := ⟨_, rfl⟩
      replace h := h v3 ev3
      refine G_iinc C dX2_resize_33 2 rfl (v := v3) (by rw [ev3]; rfl) (by decide) (lv' := [(2, .int v3), (0, .ref (adr ω x)), (1, .int l1)]) rfl ?_
      refine G_goto (tgt := 21) C dX2_resize_36 (by decide) ?_
      refine G_sub [1, 2, 0] (lv' := [(0, .ref (adr ω x)), (1, .int l1), (2, .int v3)]) rfl ?_
      exact k21 _ _ h
set_option maxRecDepth 100000 in
set_option maxHeartbeats 4000000 in
theorem S_X2_resize {ω : WD} {x : Nat} {l1 : Int32} {M : Mem} {post : Mem → Prop} (hx : isK 2 x) (h : w_X2_resize x l1 M post) : MtV ω yX2_resize cX2_resize 3 none 0 [.ref (adr ω x), .int l1] M post := by
  refine MtV.start rfl (by decide +kernel) (own := RX2) rfl (Nat.le_of_ble_eq_true rfl) (fun ρ C R => ?_)
  show G ω ρ M 0 [(0, .ref (adr ω x)), (1, .int l1)] []
  refine G_aload_n C dX2_resize_0 0 rfl ?_
  refine G_iload_n C dX2_resize_1 1 rfl ?_
  refine pf_X2_15 C hx dX2_resize_2 (fun M4 eM4 => ?_)
  replace h := h M4 eM4
  refine G_aload_n C dX2_resize_5 0 rfl ?_
  refine G_dup C dX2_resize_6 rfl ?_
  refine gf_X2_18 C hx dX2_resize_7 ?_
  refine G_iconst (v := 1) C dX2_resize_10 (by decide) ?_
  refine G_iload_n C dX2_resize_11 1 rfl ?_
  refine G_ishl C dX2_resize_12 ?_
  refine G_iconst (v := 1) C dX2_resize_13 (by decide) ?_
  refine G_isub C dX2_resize_14 ?_
  refine G_iand C dX2_resize_15 ?_
  refine pf_X2_18 C hx dX2_resize_16 (fun M5 eM5 => ?_)
  replace h := h M5 eM5
  refine G_iload_n C dX2_resize_19 1 rfl ?_
  refine G_istore_n C dX2_resize_20 (by decide) (lv' := [(2, .int l1), (0, .ref (adr ω x)), (1, .int l1)]) rfl ?_
  refine G_sub [1, 2, 0] (lv' := [(0, .ref (adr ω x)), (1, .int l1), (2, .int l1)]) rfl ?_
  obtain ⟨f, h⟩ := h
  exact s_X2_resize_L21 C R hx f _ _ h
theorem dX2_isDead_0 : decode cX2_isDead 0 = .ok (.aload_n 0, 1) := by decide +kernel
theorem dX2_isDead_1 : decode cX2_isDead 1 = .ok (.getfield 18, 3) := by decide +kernel
theorem dX2_isDead_4 : decode cX2_isDead 4 = .ok (.iload_n 1, 1) := by decide +kernel
theorem dX2_isDead_5 : decode cX2_isDead 5 = .ok (.ishr, 1) := by decide +kernel
theorem dX2_isDead_6 : decode cX2_isDead 6 = .ok (.iconst 1, 1) := by decide +kernel
theorem dX2_isDead_7 : decode cX2_isDead 7 = .ok (.iand, 1) := by decide +kernel
theorem dX2_isDead_8 : decode cX2_isDead 8 = .ok (.ifCond .eq 7, 3) := by decide +kernel
theorem dX2_isDead_11 : decode cX2_isDead 11 = .ok (.iconst 1, 1) := by decide +kernel
theorem dX2_isDead_12 : decode cX2_isDead 12 = .ok (.goto 4, 3) := by decide +kernel
theorem dX2_isDead_15 : decode cX2_isDead 15 = .ok (.iconst 0, 1) := by decide +kernel
theorem dX2_isDead_16 : decode cX2_isDead 16 = .ok (.ireturn, 1) := by decide +kernel
set_option maxRecDepth 100000 in
set_option maxHeartbeats 4000000 in
theorem S_X2_isDead {ω : WD} {x : Nat} {l1 : Int32} {M : Mem} {post : Int32 → Mem → Prop} (hx : isK 2 x) (h : w_X2_isDead x l1 M post) : MtI ω yX2_isDead cX2_isDead 2 (some .boolean) 0 [.ref (adr ω x), .int l1] M post := by
  refine MtI.start (ty := .boolean) rfl (by decide +kernel) (own := RX2) rfl (Nat.le_of_ble_eq_true rfl) (fun ρ C R => ?_)
  show G ω ρ M 0 [(0, .ref (adr ω x)), (1, .int l1)] []
  refine G_aload_n C dX2_isDead_0 0 rfl ?_
  refine gf_X2_18 C hx dX2_isDead_1 ?_
  refine G_iload_n C dX2_isDead_4 1 rfl ?_
  refine G_ishr C dX2_isDead_5 ?_
  refine G_iconst (v := 1) C dX2_isDead_6 (by decide) ?_
  refine G_iand C dX2_isDead_7 ?_
  obtain ⟨h1, h2⟩ := h
  refine G_if_eq (tgt := 15) C dX2_isDead_8 (by decide) (fun c => ?_) (fun c => ?_)
  · have h := h1 c
    clear h1 h2
    refine G_iconst (v := 0) C dX2_isDead_15 (by decide) ?_
    exact R 16 _ _ _ dX2_isDead_16 rfl h
  · have h := h2 c
    clear h1 h2
    refine G_iconst (v := 1) C dX2_isDead_11 (by decide) ?_
    refine G_goto (tgt := 16) C dX2_isDead_12 (by decide) ?_
    exact R 16 _ _ _ dX2_isDead_16 rfl h
theorem dX2_isFree_0 : decode cX2_isFree 0 = .ok (.aload_n 0, 1) := by decide +kernel
theorem dX2_isFree_1 : decode cX2_isFree 1 = .ok (.getfield 21, 3) := by decide +kernel
theorem dX2_isFree_4 : decode cX2_isFree 4 = .ok (.iload_n 1, 1) := by decide +kernel
theorem dX2_isFree_5 : decode cX2_isFree 5 = .ok (.ishr, 1) := by decide +kernel
theorem dX2_isFree_6 : decode cX2_isFree 6 = .ok (.iconst 1, 1) := by decide +kernel
theorem dX2_isFree_7 : decode cX2_isFree 7 = .ok (.iand, 1) := by decide +kernel
theorem dX2_isFree_8 : decode cX2_isFree 8 = .ok (.ifCond .ne 7, 3) := by decide +kernel
theorem dX2_isFree_11 : decode cX2_isFree 11 = .ok (.iconst 1, 1) := by decide +kernel
theorem dX2_isFree_12 : decode cX2_isFree 12 = .ok (.goto 4, 3) := by decide +kernel
theorem dX2_isFree_15 : decode cX2_isFree 15 = .ok (.iconst 0, 1) := by decide +kernel
theorem dX2_isFree_16 : decode cX2_isFree 16 = .ok (.ireturn, 1) := by decide +kernel
set_option maxRecDepth 100000 in
set_option maxHeartbeats 4000000 in
theorem S_X2_isFree {ω : WD} {x : Nat} {l1 : Int32} {M : Mem} {post : Int32 → Mem → Prop} (hx : isK 2 x) (h : w_X2_isFree x l1 M post) : MtI ω yX2_isFree cX2_isFree 2 (some .boolean) 0 [.ref (adr ω x), .int l1] M post := by
  refine MtI.start (ty := .boolean) rfl (by decide +kernel) (own := RX2) rfl (Nat.le_of_ble_eq_true rfl) (fun ρ C R => ?_)
  show G ω ρ M 0 [(0, .ref (adr ω x)), (1, .int l1)] []
  refine G_aload_n C dX2_isFree_0 0 rfl ?_
  refine gf_X2_21 C hx dX2_isFree_1 ?_
  refine G_iload_n C dX2_isFree_4 1 rfl ?_
  refine G_ishr C dX2_isFree_5 ?_
  refine G_iconst (v := 1) C dX2_isFree_6 (by decide) ?_
  refine G_iand C dX2_isFree_7 ?_
  obtain ⟨h1, h2⟩ := h
  refine G_if_ne (tgt := 15) C dX2_isFree_8 (by decide) (fun c => ?_) (fun c => ?_)
  · have h := h1 c
    clear h1 h2
    refine G_iconst (v := 0) C dX2_isFree_15 (by decide) ?_
    exact R 16 _ _ _ dX2_isFree_16 rfl h
  · have h := h2 c
    clear h1 h2
    refine G_iconst (v := 1) C dX2_isFree_11 (by decide) ?_
    refine G_goto (tgt := 16) C dX2_isFree_12 (by decide) ?_
    exact R 16 _ _ _ dX2_isFree_16 rfl h
theorem dX2_inTurn_0 : decode cX2_inTurn 0 = .ok (.aload_n 0, 1) := by decide +kernel
theorem dX2_inTurn_1 : decode cX2_inTurn 1 = .ok (.getfield 9, 3) := by decide +kernel
theorem dX2_inTurn_4 : decode cX2_inTurn 4 = .ok (.ifCond .ne 5, 3) := by decide +kernel
theorem dX2_inTurn_7 : decode cX2_inTurn 7 = .ok (.iload_n 1, 1) := by decide +kernel
theorem dX2_inTurn_8 : decode cX2_inTurn 8 = .ok (.ireturn, 1) := by decide +kernel
theorem dX2_inTurn_9 : decode cX2_inTurn 9 = .ok (.aload_n 0, 1) := by decide +kernel
theorem dX2_inTurn_10 : decode cX2_inTurn 10 = .ok (.getfield 9, 3) := by decide +kernel
theorem dX2_inTurn_13 : decode cX2_inTurn 13 = .ok (.iconst 2, 1) := by decide +kernel
theorem dX2_inTurn_14 : decode cX2_inTurn 14 = .ok (.if_icmp .ne 12, 3) := by decide +kernel
theorem dX2_inTurn_17 : decode cX2_inTurn 17 = .ok (.aload_n 0, 1) := by decide +kernel
theorem dX2_inTurn_18 : decode cX2_inTurn 18 = .ok (.getfield 15, 3) := by decide +kernel
theorem dX2_inTurn_21 : decode cX2_inTurn 21 = .ok (.iconst 1, 1) := by decide +kernel
theorem dX2_inTurn_22 : decode cX2_inTurn 22 = .ok (.isub, 1) := by decide +kernel
theorem dX2_inTurn_23 : decode cX2_inTurn 23 = .ok (.iload_n 1, 1) := by decide +kernel
theorem dX2_inTurn_24 : decode cX2_inTurn 24 = .ok (.isub, 1) := by decide +kernel
theorem dX2_inTurn_25 : decode cX2_inTurn 25 = .ok (.ireturn, 1) := by decide +kernel
theorem dX2_inTurn_26 : decode cX2_inTurn 26 = .ok (.aload_n 0, 1) := by decide +kernel
theorem dX2_inTurn_27 : decode cX2_inTurn 27 = .ok (.getfield 24, 3) := by decide +kernel
theorem dX2_inTurn_30 : decode cX2_inTurn 30 = .ok (.bipush (-4), 2) := by decide +kernel
theorem dX2_inTurn_32 : decode cX2_inTurn 32 = .ok (.if_icmp .ne 7, 3) := by decide +kernel
theorem dX2_inTurn_35 : decode cX2_inTurn 35 = .ok (.iload_n 1, 1) := by decide +kernel
theorem dX2_inTurn_36 : decode cX2_inTurn 36 = .ok (.goto 11, 3) := by decide +kernel
theorem dX2_inTurn_39 : decode cX2_inTurn 39 = .ok (.aload_n 0, 1) := by decide +kernel
theorem dX2_inTurn_40 : decode cX2_inTurn 40 = .ok (.getfield 24, 3) := by decide +kernel
theorem dX2_inTurn_43 : decode cX2_inTurn 43 = .ok (.iconst 1, 1) := by decide +kernel
theorem dX2_inTurn_44 : decode cX2_inTurn 44 = .ok (.iadd, 1) := by decide +kernel
theorem dX2_inTurn_45 : decode cX2_inTurn 45 = .ok (.iload_n 1, 1) := by decide +kernel
theorem dX2_inTurn_46 : decode cX2_inTurn 46 = .ok (.iadd, 1) := by decide +kernel
theorem dX2_inTurn_47 : decode cX2_inTurn 47 = .ok (.istore_n 2, 1) := by decide +kernel
theorem dX2_inTurn_48 : decode cX2_inTurn 48 = .ok (.iload_n 2, 1) := by decide +kernel
theorem dX2_inTurn_49 : decode cX2_inTurn 49 = .ok (.aload_n 0, 1) := by decide +kernel
theorem dX2_inTurn_50 : decode cX2_inTurn 50 = .ok (.getfield 15, 3) := by decide +kernel
theorem dX2_inTurn_53 : decode cX2_inTurn 53 = .ok (.if_icmp .ge 7, 3) := by decide +kernel
theorem dX2_inTurn_56 : decode cX2_inTurn 56 = .ok (.iload_n 2, 1) := by decide +kernel
theorem dX2_inTurn_57 : decode cX2_inTurn 57 = .ok (.goto 9, 3) := by decide +kernel
theorem dX2_inTurn_60 : decode cX2_inTurn 60 = .ok (.iload_n 2, 1) := by decide +kernel
theorem dX2_inTurn_61 : decode cX2_inTurn 61 = .ok (.aload_n 0, 1) := by decide +kernel
theorem dX2_inTurn_62 : decode cX2_inTurn 62 = .ok (.getfield 15, 3) := by decide +kernel
theorem dX2_inTurn_65 : decode cX2_inTurn 65 = .ok (.isub, 1) := by decide +kernel
theorem dX2_inTurn_66 : decode cX2_inTurn 66 = .ok (.ireturn, 1) := by decide +kernel
set_option maxRecDepth 100000 in
set_option maxHeartbeats 4000000 in
theorem s_X2_inTurn_J47 {ω : WD} {ρ : FR} {post : Int32 → Mem → Prop} (C : Cx ω ρ cX2_inTurn RX2 0 3) (R : RtI ω ρ cX2_inTurn .int post) {x : Nat} (hx : isK 2 x) {s0 : Int32} {M : Mem} (h : w_X2_inTurn_J47 x post s0 M) : G ω ρ M 47 [(0, .ref (adr ω x))] [.int s0] := by
  refine G_istore_n C dX2_inTurn_47 (by decide) (lv' := [(2, .int s0), (0, .ref (adr ω x))]) rfl ?_
  refine G_iload_n C dX2_inTurn_48 0 rfl ?_
  refine G_aload_n C dX2_inTurn_49 1 rfl ?_
  refine gf_X2_15 C hx dX2_inTurn_50 ?_
  obtain ⟨h1, h2⟩ := h
  refine G_icmp_ge (tgt := 60) C dX2_inTurn_53 (by decide) (fun c => ?_) (fun c => ?_)
  · have h := h1 c
    clear h1 h2
    refine G_iload_n C dX2_inTurn_60 0 rfl ?_
    refine G_aload_n C dX2_inTurn_61 1 rfl ?_
    refine gf_X2_15 C hx dX2_inTurn_62 ?_
    refine G_isub C dX2_inTurn_65 ?_
    exact R 66 _ _ _ dX2_inTurn_66 rfl h
  · have h := h2 c
    clear h1 h2
    refine G_iload_n C dX2_inTurn_56 0 rfl ?_
    refine G_goto (tgt := 66) C dX2_inTurn_57 (by decide) ?_
    exact R 66 _ _ _ dX2_inTurn_66 rfl h
set_option maxRecDepth 100000 in
set_option maxHeartbeats 4000000 in
theorem S_X2_inTurn {ω : WD} {x : Nat} {l1 : Int32} {M : Mem} {post : Int32 → Mem → Prop} (hx : isK 2 x) (h : w_X2_inTurn x l1 M post) : MtI ω yX2_inTurn cX2_inTurn 3 (some .int) 0 [.ref (adr ω x), .int l1] M post := by
  refine MtI.start (ty := .int) rfl (by decide +kernel) (own := RX2) rfl (Nat.le_of_ble_eq_true rfl) (fun ρ C R => ?_)
  show G ω ρ M 0 [(0, .ref (adr ω x)), (1, .int l1)] []
  refine G_aload_n C dX2_inTurn_0 0 rfl ?_
  refine gf_X2_9 C hx dX2_inTurn_1 ?_
  obtain ⟨h1, h2⟩ := h
  refine G_if_ne (tgt := 9) C dX2_inTurn_4 (by decide) (fun c => ?_) (fun c => ?_)
  · have h := h1 c
    clear h1 h2
    refine G_aload_n C dX2_inTurn_9 0 rfl ?_
    refine gf_X2_9 C hx dX2_inTurn_10 ?_
    refine G_iconst (v := 2) C dX2_inTurn_13 (by decide) ?_
    obtain ⟨h1, h2⟩ := h
    refine G_icmp_ne (tgt := 26) C dX2_inTurn_14 (by decide) (fun c => ?_) (fun c => ?_)
    · have h := h1 c
      clear h1 h2
      refine G_aload_n C dX2_inTurn_26 0 rfl ?_
      refine gf_X2_24 C hx dX2_inTurn_27 ?_
      refine G_bipush (v := (-4)) C dX2_inTurn_30 (by decide) ?_
      obtain ⟨h1, h2⟩ := h
      refine G_icmp_ne (tgt := 39) C dX2_inTurn_32 (by decide) (fun c => ?_) (fun c => ?_)
      · have h := h1 c
        clear h1 h2
        refine G_aload_n C dX2_inTurn_39 0 rfl ?_
        refine gf_X2_24 C hx dX2_inTurn_40 ?_
        refine G_iconst (v := 1) C dX2_inTurn_43 (by decide) ?_
        refine G_iadd C dX2_inTurn_44 ?_
        refine G_iload_n C dX2_inTurn_45 1 rfl ?_
        refine G_iadd C dX2_inTurn_46 ?_
        refine G_sub [0] (lv' := [(0, .ref (adr ω x))]) rfl ?_
        exact s_X2_inTurn_J47 C R hx h
      · have h := h2 c
        clear h1 h2
        refine G_iload_n C dX2_inTurn_35 1 rfl ?_
        refine G_goto (tgt := 47) C dX2_inTurn_36 (by decide) ?_
        refine G_sub [0] (lv' := [(0, .ref (adr ω x))]) rfl ?_
        exact s_X2_inTurn_J47 C R hx h
    · have h := h2 c
      clear h1 h2
      refine G_aload_n C dX2_inTurn_17 0 rfl ?_
      refine gf_X2_15 C hx dX2_inTurn_18 ?_
      refine G_iconst (v := 1) C dX2_inTurn_21 (by decide) ?_
      refine G_isub C dX2_inTurn_22 ?_
      refine G_iload_n C dX2_inTurn_23 1 rfl ?_
      refine G_isub C dX2_inTurn_24 ?_
      exact R 25 _ _ _ dX2_inTurn_25 rfl h
  · have h := h2 c
    clear h1 h2
    refine G_iload_n C dX2_inTurn_7 1 rfl ?_
    exact R 8 _ _ _ dX2_inTurn_8 rfl h
theorem dX2_pick_0 : decode cX2_pick 0 = .ok (.bipush (-4), 2) := by decide +kernel
theorem dX2_pick_2 : decode cX2_pick 2 = .ok (.istore_n 1, 1) := by decide +kernel
theorem dX2_pick_3 : decode cX2_pick 3 = .ok (.iconst 0, 1) := by decide +kernel
theorem dX2_pick_4 : decode cX2_pick 4 = .ok (.istore_n 2, 1) := by decide +kernel
theorem dX2_pick_5 : decode cX2_pick 5 = .ok (.iload_n 2, 1) := by decide +kernel
theorem dX2_pick_6 : decode cX2_pick 6 = .ok (.aload_n 0, 1) := by decide +kernel
theorem dX2_pick_7 : decode cX2_pick 7 = .ok (.getfield 15, 3) := by decide +kernel
theorem dX2_pick_10 : decode cX2_pick 10 = .ok (.if_icmp .ge 54, 3) := by decide +kernel
theorem dX2_pick_13 : decode cX2_pick 13 = .ok (.aload_n 0, 1) := by decide +kernel
theorem dX2_pick_14 : decode cX2_pick 14 = .ok (.iload_n 2, 1) := by decide +kernel
theorem dX2_pick_15 : decode cX2_pick 15 = .ok (.invokevirtual 31, 3) := by decide +kernel
theorem dX2_pick_18 : decode cX2_pick 18 = .ok (.istore_n 3, 1) := by decide +kernel
theorem dX2_pick_19 : decode cX2_pick 19 = .ok (.aload_n 0, 1) := by decide +kernel
theorem dX2_pick_20 : decode cX2_pick 20 = .ok (.iload_n 3, 1) := by decide +kernel
theorem dX2_pick_21 : decode cX2_pick 21 = .ok (.invokevirtual 35, 3) := by decide +kernel
theorem dX2_pick_24 : decode cX2_pick 24 = .ok (.ifCond .eq 34, 3) := by decide +kernel
theorem dX2_pick_27 : decode cX2_pick 27 = .ok (.iload_n 1, 1) := by decide +kernel
theorem dX2_pick_28 : decode cX2_pick 28 = .ok (.bipush (-4), 2) := by decide +kernel
theorem dX2_pick_30 : decode cX2_pick 30 = .ok (.if_icmp .eq 26, 3) := by decide +kernel
theorem dX2_pick_33 : decode cX2_pick 33 = .ok (.aload_n 0, 1) := by decide +kernel
theorem dX2_pick_34 : decode cX2_pick 34 = .ok (.getfield 9, 3) := by decide +kernel
theorem dX2_pick_37 : decode cX2_pick 37 = .ok (.iconst 3, 1) := by decide +kernel
theorem dX2_pick_38 : decode cX2_pick 38 = .ok (.if_icmp .ne 20, 3) := by decide +kernel
theorem dX2_pick_41 : decode cX2_pick 41 = .ok (.aload_n 0, 1) := by decide +kernel
theorem dX2_pick_42 : decode cX2_pick 42 = .ok (.getfield 27, 3) := by decide +kernel
theorem dX2_pick_45 : decode cX2_pick 45 = .ok (.iload_n 3, 1) := by decide +kernel
theorem dX2_pick_46 : decode cX2_pick 46 = .ok (.iaload, 1) := by decide +kernel
theorem dX2_pick_47 : decode cX2_pick 47 = .ok (.aload_n 0, 1) := by decide +kernel
theorem dX2_pick_48 : decode cX2_pick 48 = .ok (.getfield 27, 3) := by decide +kernel
theorem dX2_pick_51 : decode cX2_pick 51 = .ok (.iload_n 1, 1) := by decide +kernel
theorem dX2_pick_52 : decode cX2_pick 52 = .ok (.iaload, 1) := by decide +kernel
theorem dX2_pick_53 : decode cX2_pick 53 = .ok (.if_icmp .ge 5, 3) := by decide +kernel
theorem dX2_pick_56 : decode cX2_pick 56 = .ok (.iload_n 3, 1) := by decide +kernel
theorem dX2_pick_57 : decode cX2_pick 57 = .ok (.istore_n 1, 1) := by decide +kernel
theorem dX2_pick_58 : decode cX2_pick 58 = .ok (.iinc 2 1, 3) := by decide +kernel
theorem dX2_pick_61 : decode cX2_pick 61 = .ok (.goto (-56), 3) := by decide +kernel
theorem dX2_pick_64 : decode cX2_pick 64 = .ok (.iload_n 1, 1) := by decide +kernel
theorem dX2_pick_65 : decode cX2_pick 65 = .ok (.ireturn, 1) := by decide +kernel
theorem lk_X2_31 : LkV RX2 31 RX2 yX2_inTurn cX2_inTurn 3 (some .int) 1 := LkV.of 629 630 631 63 632 (by decide +kernel) (by decide +kernel) (by decide +kernel) (by decide +kernel) (by decide +kernel) (by decide +kernel)
theorem lk_X2_35 : LkV RX2 35 RX2 yX2_isFree cX2_isFree 2 (some .boolean) 1 := LkV.of 633 634 635 63 636 (by decide +kernel) (by decide +kernel) (by decide +kernel) (by decide +kernel) (by decide +kernel) (by decide +kernel)
set_option maxRecDepth 100000 in
set_option maxHeartbeats 4000000 in
theorem s_X2_pick_J58 {ω : WD} {ρ : FR} {post : Int32 → Mem → Prop} (C : Cx ω ρ cX2_pick RX2 1 4) (R : RtI ω ρ cX2_pick .int post) {x : Nat} (hx : isK 2 x) {K5 : Int32 → Int32 → Mem → Prop} {l1 : Int32} {l2 : Int32} (k5 : ∀ (u1 : Int32) (u2 : Int32) (M : Mem), K5 u1 u2 M → G ω ρ M 5 [(0, .ref (adr ω x)), (1, .int u1), (2, .int u2)] []) {M : Mem} (h : w_X2_pick_J58 x post K5 l1 l2 M) : G ω ρ M 58 [(0, .ref (adr ω x)), (1, .int l1), (2, .int l2)] [] := by
  obtain ⟨v1, ev1⟩ : ∃ y : Int32, y = (l2 + 1) := ⟨_, rfl⟩
  replace h := h v1 ev1
  refine G_iinc C dX2_pick_58 2 rfl (v := v1) (by rw [ev1]; rfl) (by decide) (lv' := [(2, .int v1), (0, .ref (adr ω x)), (1, .int l1)]) rfl ?_
  refine G_goto (tgt := 5) C dX2_pick_61 (by decide) ?_
  refine G_sub [1, 2, 0] (lv' := [(0, .ref (adr ω x)), (1, .int l1), (2, .int v1)]) rfl ?_
  exact k5 _ _ _ h
set_option maxRecDepth 100000 in
set_option maxHeartbeats 4000000 in
theorem s_X2_pick_J56 {ω : WD} {ρ : FR} {post : Int32 → Mem → Prop} (C : Cx ω ρ cX2_pick RX2 1 4) (R : RtI ω ρ cX2_pick .int post) {x : Nat} (hx : isK 2 x) {K5 : Int32 → Int32 → Mem → Prop} {l2 : Int32} {l3 : Int32} (k5 : ∀ (u1 : Int32) (u2 : Int32) (M : Mem), K5 u1 u2 M → G ω ρ M 5 [(0, .ref (adr ω x)), (1, .int u1), (2, .int u2)] []) {M : Mem} (h : w_X2_pick_J56 x post K5 l2 l3 M) : G ω ρ M 56 [(0, .ref (adr ω x)), (2, .int l2), (3, .int l3)] [] := by
  refine G_iload_n C dX2_pick_56 2 rfl ?_
  refine G_istore_n C dX2_pick_57 (by decide) (lv' := [(1, .int l3), (0, .ref (adr ω x)), (2, .int l2), (3, .int l3)]) rfl ?_
  refine G_sub [1, 0, 2] (lv' := [(0, .ref (adr ω x)), (1, .int l3), (2, .int l2)]) rfl ?_
  exact s_X2_pick_J58 C R hx k5 h
set_option maxRecDepth 100000 in
set_option maxHeartbeats 4000000 in
theorem s_X2_pick_L5 {ω : WD} {ρ : FR} {post : Int32 → Mem → Prop} (C : Cx ω ρ cX2_pick RX2 1 4) (R : RtI ω ρ cX2_pick .int post) {x : Nat} (hx : isK 2 x) : ∀ (f : Nat) (l1 : Int32) (l2 : Int32) (M : Mem), w_X2_pick_L5 x post f l1 l2 M → G ω ρ M 5 [(0, .ref (adr ω x)), (1, .int l1), (2, .int l2)] [] := by
  intro f
  induction f with
  | zero => intro l1 l2 M h; exact False.elim h
  | succ f k5 =>
    intro l1 l2 M h
    refine G_iload_n C dX2_pick_5 2 rfl ?_
    refine G_aload_n C dX2_pick_6 0 rfl ?_
    refine gf_X2_15 C hx dX2_pick_7 ?_
    obtain ⟨h1, h2⟩ := h
    refine G_icmp_ge (tgt := 64) C dX2_pick_10 (by decide) (fun c => ?_) (fun c => ?_)
    · have h := h1 c
      clear h1 h2
      refine G_iload_n C dX2_pick_64 1 rfl ?_
      exact R 65 _ _ _ dX2_pick_65 rfl h
    · have h := h2 c
      clear h1 h2
      refine G_aload_n C dX2_pick_13 0 rfl ?_
      refine G_iload_n C dX2_pick_14 2 rfl ?_
      refine G_callI (As := [.int l2]) (rest := []) C dX2_pick_15 lk_X2_31 (Nat.le_of_ble_eq_true rfl) (Nat.le_of_ble_eq_true rfl) hx (by decide) rfl (Nat.le_of_ble_eq_true rfl) rfl (S_X2_inTurn hx h) (fun r3 M2 h => ?_)
      refine G_istore_n C dX2_pick_18 (by decide) (lv' := [(3, .int r3), (0, .ref (adr ω x)), (1, .int l1), (2, .int l2)]) rfl ?_
      refine G_aload_n C dX2_pick_19 1 rfl ?_
      refine G_iload_n C dX2_pick_20 0 rfl ?_
      refine G_callI (As := [.int r3]) (rest := []) C dX2_pick_21 lk_X2_35 (Nat.le_of_ble_eq_true rfl) (Nat.le_of_ble_eq_true rfl) hx (by decide) rfl (Nat.le_of_ble_eq_true rfl) rfl (S_X2_isFree hx h) (fun r5 M4 h => ?_)
      obtain ⟨h1, h2⟩ := h
      refine G_if_eq (tgt := 58) C dX2_pick_24 (by decide) (fun c => ?_) (fun c => ?_)
      · have h := h1 c
        clear h1 h2
        refine G_sub [1, 2, 3] (lv' := [(0, .ref (adr ω x)), (1, .int l1), (2, .int l2)]) rfl ?_
        exact s_X2_pick_J58 C R hx k5 h
      · have h := h2 c
        clear h1 h2
        refine G_iload_n C dX2_pick_27 2 rfl ?_
        refine G_bipush (v := (-4)) C dX2_pick_28 (by decide) ?_
        obtain ⟨h1, h2⟩ := h
        refine G_icmp_eq (tgt := 56) C dX2_pick_30 (by decide) (fun c => ?_) (fun c => ?_)
        · have h := h1 c
          clear h1 h2
          refine G_sub [1, 3, 0] (lv' := [(0, .ref (adr ω x)), (2, .int l2), (3, .int r3)]) rfl ?_
          exact s_X2_pick_J56 C R hx k5 h
        · have h := h2 c
          clear h1 h2
          refine G_aload_n C dX2_pick_33 1 rfl ?_
          refine gf_X2_9 C hx dX2_pick_34 ?_
          refine G_iconst (v := 3) C dX2_pick_37 (by decide) ?_
          obtain ⟨h1, h2⟩ := h
          refine G_icmp_ne (tgt := 58) C dX2_pick_38 (by decide) (fun c => ?_) (fun c => ?_)
          · have h := h1 c
            clear h1 h2
            refine G_sub [1, 2, 3] (lv' := [(0, .ref (adr ω x)), (1, .int l1), (2, .int l2)]) rfl ?_
            exact s_X2_pick_J58 C R hx k5 h
          · have h := h2 c
            clear h1 h2
            refine G_aload_n C dX2_pick_41 1 rfl ?_
            refine gf_X2_27 C hx dX2_pick_42 ?_
            refine G_iload_n C dX2_pick_45 0 rfl ?_
            obtain ⟨hi, h⟩ := h
            refine G_iald C (st_2_5 hx) hi rfl dX2_pick_46 ?_
            refine G_aload_n C dX2_pick_47 1 rfl ?_
            refine gf_X2_27 C hx dX2_pick_48 ?_
            refine G_iload_n C dX2_pick_51 2 rfl ?_
            obtain ⟨hi, h⟩ := h
            refine G_iald C (st_2_5 hx) hi rfl dX2_pick_52 ?_
            obtain ⟨h1, h2⟩ := h
            refine G_icmp_ge (tgt := 58) C dX2_pick_53 (by decide) (fun c => ?_) (fun c => ?_)
            · have h := h1 c
              clear h1 h2
              refine G_sub [1, 2, 3] (lv' := [(0, .ref (adr ω x)), (1, .int l1), (2, .int l2)]) rfl ?_
              exact s_X2_pick_J58 C R hx k5 h
            · have h := h2 c
              clear h1 h2
              refine G_sub [1, 3, 0] (lv' := [(0, .ref (adr ω x)), (2, .int l2), (3, .int r3)]) rfl ?_
              exact s_X2_pick_J56 C R hx k5 h
set_option maxRecDepth 100000 in
set_option maxHeartbeats 4000000 in
theorem S_X2_pick {ω : WD} {x : Nat} {M : Mem} {post : Int32 → Mem → Prop} (hx : isK 2 x) (h : w_X2_pick x M post) : MtI ω yX2_pick cX2_pick 4 (some .int) 1 [.ref (adr ω x)] M post := by
  refine MtI.start (ty := .int) rfl (by decide +kernel) (own := RX2) rfl (Nat.le_of_ble_eq_true rfl) (fun ρ C R => ?_)
  show G ω ρ M 0 [(0, .ref (adr ω x))] []
  refine G_bipush (v := (-4)) C dX2_pick_0 (by decide) ?_
  refine G_istore_n C dX2_pick_2 (by decide) (lv' := [(1, .int (-4)), (0, .ref (adr ω x))]) rfl ?_
  refine G_iconst (v := 0) C dX2_pick_3 (by decide) ?_
  refine G_istore_n C dX2_pick_4 (by decide) (lv' := [(2, .int 0), (1, .int (-4)), (0, .ref (adr ω x))]) rfl ?_
  refine G_sub [2, 1, 0] (lv' := [(0, .ref (adr ω x)), (1, .int (-4)), (2, .int 0)]) rfl ?_
  obtain ⟨f, h⟩ := h
  exact s_X2_pick_L5 C R hx f _ _ _ h
