theorem dX8_fateOf_0 : decode cX8_fateOf 0 = .ok (.aload_n 0, 1) := by decide +kernel
theorem dX8_fateOf_1 : decode cX8_fateOf 1 = .ok (.getfield 12, 3) := by decide +kernel
theorem dX8_fateOf_4 : decode cX8_fateOf 4 = .ok (.getfield 54, 3) := by decide +kernel
theorem dX8_fateOf_7 : decode cX8_fateOf 7 = .ok (.iload_n 1, 1) := by decide +kernel
theorem dX8_fateOf_8 : decode cX8_fateOf 8 = .ok (.iaload, 1) := by decide +kernel
theorem dX8_fateOf_9 : decode cX8_fateOf 9 = .ok (.ifCond .ne 7, 3) := by decide +kernel
theorem dX8_fateOf_12 : decode cX8_fateOf 12 = .ok (.iconst 1, 1) := by decide +kernel
theorem dX8_fateOf_13 : decode cX8_fateOf 13 = .ok (.goto 4, 3) := by decide +kernel
theorem dX8_fateOf_16 : decode cX8_fateOf 16 = .ok (.iconst 0, 1) := by decide +kernel
theorem dX8_fateOf_17 : decode cX8_fateOf 17 = .ok (.istore_n 3, 1) := by decide +kernel
theorem dX8_fateOf_18 : decode cX8_fateOf 18 = .ok (.iload_n 3, 1) := by decide +kernel
theorem dX8_fateOf_19 : decode cX8_fateOf 19 = .ok (.iload_n 2, 1) := by decide +kernel
theorem dX8_fateOf_20 : decode cX8_fateOf 20 = .ok (.bipush 99, 2) := by decide +kernel
theorem dX8_fateOf_22 : decode cX8_fateOf 22 = .ok (.if_icmp .ne 7, 3) := by decide +kernel
theorem dX8_fateOf_25 : decode cX8_fateOf 25 = .ok (.iconst 1, 1) := by decide +kernel
theorem dX8_fateOf_26 : decode cX8_fateOf 26 = .ok (.goto 4, 3) := by decide +kernel
theorem dX8_fateOf_29 : decode cX8_fateOf 29 = .ok (.iconst 0, 1) := by decide +kernel
theorem dX8_fateOf_30 : decode cX8_fateOf 30 = .ok (.if_icmp .ne 6, 3) := by decide +kernel
theorem dX8_fateOf_33 : decode cX8_fateOf 33 = .ok (.bipush 6, 2) := by decide +kernel
theorem dX8_fateOf_35 : decode cX8_fateOf 35 = .ok (.ireturn, 1) := by decide +kernel
theorem dX8_fateOf_36 : decode cX8_fateOf 36 = .ok (.iload_n 3, 1) := by decide +kernel
theorem dX8_fateOf_37 : decode cX8_fateOf 37 = .ok (.ifCond .eq 13, 3) := by decide +kernel
theorem dX8_fateOf_40 : decode cX8_fateOf 40 = .ok (.aload_n 0, 1) := by decide +kernel
theorem dX8_fateOf_41 : decode cX8_fateOf 41 = .ok (.getfield 12, 3) := by decide +kernel
theorem dX8_fateOf_44 : decode cX8_fateOf 44 = .ok (.iload_n 1, 1) := by decide +kernel
theorem dX8_fateOf_45 : decode cX8_fateOf 45 = .ok (.iload_n 2, 1) := by decide +kernel
theorem dX8_fateOf_46 : decode cX8_fateOf 46 = .ok (.invokevirtual 57, 3) := by decide +kernel
theorem dX8_fateOf_49 : decode cX8_fateOf 49 = .ok (.ireturn, 1) := by decide +kernel
theorem dX8_fateOf_50 : decode cX8_fateOf 50 = .ok (.aload_n 0, 1) := by decide +kernel
theorem dX8_fateOf_51 : decode cX8_fateOf 51 = .ok (.getfield 12, 3) := by decide +kernel
theorem dX8_fateOf_54 : decode cX8_fateOf 54 = .ok (.iload_n 1, 1) := by decide +kernel
theorem dX8_fateOf_55 : decode cX8_fateOf 55 = .ok (.invokevirtual 60, 3) := by decide +kernel
theorem dX8_fateOf_58 : decode cX8_fateOf 58 = .ok (.pop, 1) := by decide +kernel
theorem dX8_fateOf_59 : decode cX8_fateOf 59 = .ok (.iconst 0, 1) := by decide +kernel
theorem dX8_fateOf_60 : decode cX8_fateOf 60 = .ok (.ireturn, 1) := by decide +kernel
theorem gf_X8_12 {ω : WD} {ρ : FR} {M : Mem} {cc : ByteArray} {d n pc : Nat} {lv : List (Nat × Value)} {rest : List Value} (C : Cx ω ρ cc RX8 d n) (hd : decode cc pc = .ok (.getfield 12, 3)) (k : G ω ρ M (pc + 3) lv (.ref (adr ω 23) :: rest)) : G ω ρ M pc lv (.ref (adr ω 22) :: rest) := G_get (N := 6) (T := TX8) (C := RX8) (q := 0) C (q22 : isK 8 22) (by decide) rfl in_X8 (by decide) (tb_of 215 ⟨by decide +kernel, rfl⟩) rfl rfl hd k
theorem lk_X8_60 : LkV RX8 60 RX1 yX1_part cX1_part 4 (some .int) 1 := LkV.of 742 722 723 62 724 (by decide +kernel) (by decide +kernel) (by decide +kernel) (by decide +kernel) (by decide +kernel) (by decide +kernel)
theorem lk_X8_57 : LkV RX8 57 RX1 yX1_ring cX1_ring 7 (some .int) 2 := LkV.of 741 704 705 62 706 (by decide +kernel) (by decide +kernel) (by decide +kernel) (by decide +kernel) (by decide +kernel) (by decide +kernel)
theorem gf_X8_54 {ω : WD} {ρ : FR} {M : Mem} {cc : ByteArray} {d n pc i : Nat} {lv : List (Nat × Value)} {rest : List Value} (C : Cx ω ρ cc RX8 d n) (hk : isK 1 i) (hd : decode cc pc = .ok (.getfield 54, 3)) (k : G ω ρ M (pc + 3) lv (.ref (adr ω (i + 3)) :: rest)) : G ω ρ M pc lv (.ref (adr ω i) :: rest) := G_get (N := 8) (T := TX1) (C := RX1) (q := 5) C hk (by decide) rfl in_X1 (by decide) (tb_of 144 ⟨by decide +kernel, rfl⟩) rfl rfl hd k
set_option maxRecDepth 100000 in
set_option maxHeartbeats 4000000 in
theorem s_X8_fateOf_J30 {ω : WD} {ρ : FR} {post : Int32 → Mem → Prop} (C : Cx ω ρ cX8_fateOf RX8 3 4) (R : RtI ω ρ cX8_fateOf .int post) {l1 : Int32} {l2 : Int32} {l3 : Int32} {s0 : Int32} {s1 : Int32} {M : Mem} (h : w_X8_fateOf_J30 post l1 l2 l3 s0 s1 M) : G ω ρ M 30 [(0, .ref (adr ω 22)), (1, .int l1), (2, .int l2), (3, .int l3)] [.int s1, .int s0] := by
  obtain ⟨h1, h2⟩ := h
  refine G_icmp_ne (tgt := 36) C dX8_fateOf_30 (by decide) (fun c => ?_) (fun c => ?_)
  · have h := h1 c
    clear h1 h2
    refine G_iload_n C dX8_fateOf_36 3 rfl ?_
    obtain ⟨h1, h2⟩ := h
    refine G_if_eq (tgt := 50) C dX8_fateOf_37 (by decide) (fun c => ?_) (fun c => ?_)
    · have h := h1 c
      clear h1 h2
      refine G_aload_n C dX8_fateOf_50 0 rfl ?_
      refine gf_X8_12 C dX8_fateOf_51 ?_
      refine G_iload_n C dX8_fateOf_54 1 rfl ?_
      refine G_callI (As := [.int l1]) (rest := []) C dX8_fateOf_55 lk_X8_60 (Nat.le_of_ble_eq_true rfl) (Nat.le_of_ble_eq_true rfl) q23 (by decide) rfl (Nat.le_of_ble_eq_true rfl) rfl (S_X1_part q23 h) (fun r2 M1 h => ?_)
      refine G_pop C dX8_fateOf_58 rfl ?_
      refine G_iconst (v := 0) C dX8_fateOf_59 (by decide) ?_
      exact R 60 _ _ _ dX8_fateOf_60 rfl h
    · have h := h2 c
      clear h1 h2
      refine G_aload_n C dX8_fateOf_40 0 rfl ?_
      refine gf_X8_12 C dX8_fateOf_41 ?_
      refine G_iload_n C dX8_fateOf_44 1 rfl ?_
      refine G_iload_n C dX8_fateOf_45 2 rfl ?_
      refine G_callI (As := [.int l1, .int l2]) (rest := []) C dX8_fateOf_46 lk_X8_57 (Nat.le_of_ble_eq_true rfl) (Nat.le_of_ble_eq_true rfl) q23 (by decide) rfl (Nat.le_of_ble_eq_true rfl) rfl (S_X1_ring q23 h) (fun r4 M3 h => ?_)
      exact R 49 _ _ _ dX8_fateOf_49 rfl h
  · have h := h2 c
    clear h1 h2
    refine G_bipush (v := 6) C dX8_fateOf_33 (by decide) ?_
    exact R 35 _ _ _ dX8_fateOf_35 rfl h
set_option maxRecDepth 100000 in
set_option maxHeartbeats 4000000 in
theorem s_X8_fateOf_J17 {ω : WD} {ρ : FR} {post : Int32 → Mem → Prop} (C : Cx ω ρ cX8_fateOf RX8 3 4) (R : RtI ω ρ cX8_fateOf .int post) {l1 : Int32} {l2 : Int32} {s0 : Int32} {M : Mem} (h : w_X8_fateOf_J17 post l1 l2 s0 M) : G ω ρ M 17 [(0, .ref (adr ω 22)), (1, .int l1), (2, .int l2)] [.int s0] := by
  refine G_istore_n C dX8_fateOf_17 (by decide) (lv' := [(3, .int s0), (0, .ref (adr ω 22)), (1, .int l1), (2, .int l2)]) rfl ?_
  refine G_iload_n C dX8_fateOf_18 0 rfl ?_
  refine G_iload_n C dX8_fateOf_19 3 rfl ?_
  refine G_bipush (v := 99) C dX8_fateOf_20 (by decide) ?_
  obtain ⟨h1, h2⟩ := h
  refine G_icmp_ne (tgt := 29) C dX8_fateOf_22 (by decide) (fun c => ?_) (fun c => ?_)
  · have h := h1 c
    clear h1 h2
    refine G_iconst (v := 0) C dX8_fateOf_29 (by decide) ?_
    refine G_sub [1, 2, 3, 0] (lv' := [(0, .ref (adr ω 22)), (1, .int l1), (2, .int l2), (3, .int s0)]) rfl ?_
    exact s_X8_fateOf_J30 C R  h
  · have h := h2 c
    clear h1 h2
    refine G_iconst (v := 1) C dX8_fateOf_25 (by decide) ?_
    refine G_goto (tgt := 30) C dX8_fateOf_26 (by decide) ?_
    refine G_sub [1, 2, 3, 0] (lv' := [(0, .ref (adr ω 22)), (1, .int l1), (2, .int l2), (3, .int s0)]) rfl ?_
    exact s_X8_fateOf_J30 C R  h
set_option maxRecDepth 100000 in
set_option maxHeartbeats 4000000 in
theorem S_X8_fateOf {ω : WD} {l1 : Int32} {l2 : Int32} {M : Mem} {post : Int32 → Mem → Prop} (h : w_X8_fateOf l1 l2 M post) : MtI ω yX8_fateOf cX8_fateOf 4 (some .int) 3 [.ref (adr ω 22), .int l1, .int l2] M post := by
  refine MtI.start (ty := .int) rfl (by decide +kernel) (own := RX8) rfl (Nat.le_of_ble_eq_true rfl) (fun ρ C R => ?_)
  show G ω ρ M 0 [(0, .ref (adr ω 22)), (1, .int l1), (2, .int l2)] []
  refine G_aload_n C dX8_fateOf_0 0 rfl ?_
  refine gf_X8_12 C dX8_fateOf_1 ?_
  refine gf_X8_54 C q23 dX8_fateOf_4 ?_
  refine G_iload_n C dX8_fateOf_7 1 rfl ?_
  obtain ⟨hi, h⟩ := h
  refine G_iald C q26 hi rfl dX8_fateOf_8 ?_
  obtain ⟨h1, h2⟩ := h
  refine G_if_ne (tgt := 16) C dX8_fateOf_9 (by decide) (fun c => ?_) (fun c => ?_)
  · have h := h1 c
    clear h1 h2
    refine G_iconst (v := 0) C dX8_fateOf_16 (by decide) ?_
    exact s_X8_fateOf_J17 C R  h
  · have h := h2 c
    clear h1 h2
    refine G_iconst (v := 1) C dX8_fateOf_12 (by decide) ?_
    refine G_goto (tgt := 17) C dX8_fateOf_13 (by decide) ?_
    exact s_X8_fateOf_J17 C R  h
theorem dX8_note_0 : decode cX8_note 0 = .ok (.aload_n 0, 1) := by decide +kernel
theorem dX8_note_1 : decode cX8_note 1 = .ok (.getfield 18, 3) := by decide +kernel
theorem dX8_note_4 : decode cX8_note 4 = .ok (.iload_n 1, 1) := by decide +kernel
theorem dX8_note_5 : decode cX8_note 5 = .ok (.iaload, 1) := by decide +kernel
theorem dX8_note_6 : decode cX8_note 6 = .ok (.istore_n 3, 1) := by decide +kernel
theorem dX8_note_7 : decode cX8_note 7 = .ok (.iload_n 3, 1) := by decide +kernel
theorem dX8_note_8 : decode cX8_note 8 = .ok (.bipush 6, 2) := by decide +kernel
theorem dX8_note_10 : decode cX8_note 10 = .ok (.if_icmp .ne 16, 3) := by decide +kernel
theorem dX8_note_13 : decode cX8_note 13 = .ok (.aload_n 0, 1) := by decide +kernel
theorem dX8_note_14 : decode cX8_note 14 = .ok (.dup, 1) := by decide +kernel
theorem dX8_note_15 : decode cX8_note 15 = .ok (.getfield 32, 3) := by decide +kernel
theorem dX8_note_18 : decode cX8_note 18 = .ok (.iconst 1, 1) := by decide +kernel
theorem dX8_note_19 : decode cX8_note 19 = .ok (.iadd, 1) := by decide +kernel
theorem dX8_note_20 : decode cX8_note 20 = .ok (.putfield 32, 3) := by decide +kernel
theorem dX8_note_23 : decode cX8_note 23 = .ok (.goto 48, 3) := by decide +kernel
theorem dX8_note_26 : decode cX8_note 26 = .ok (.iload_n 3, 1) := by decide +kernel
theorem dX8_note_27 : decode cX8_note 27 = .ok (.ifCond .eq 30, 3) := by decide +kernel
theorem dX8_note_30 : decode cX8_note 30 = .ok (.aload_n 0, 1) := by decide +kernel
theorem dX8_note_31 : decode cX8_note 31 = .ok (.dup, 1) := by decide +kernel
theorem dX8_note_32 : decode cX8_note 32 = .ok (.getfield 26, 3) := by decide +kernel
theorem dX8_note_35 : decode cX8_note 35 = .ok (.iconst 1, 1) := by decide +kernel
theorem dX8_note_36 : decode cX8_note 36 = .ok (.iadd, 1) := by decide +kernel
theorem dX8_note_37 : decode cX8_note 37 = .ok (.putfield 26, 3) := by decide +kernel
theorem dX8_note_40 : decode cX8_note 40 = .ok (.aload_n 0, 1) := by decide +kernel
theorem dX8_note_41 : decode cX8_note 41 = .ok (.getfield 29, 3) := by decide +kernel
theorem dX8_note_44 : decode cX8_note 44 = .ok (.bipush (-4), 2) := by decide +kernel
theorem dX8_note_46 : decode cX8_note 46 = .ok (.if_icmp .ne 25, 3) := by decide +kernel
theorem dX8_note_49 : decode cX8_note 49 = .ok (.aload_n 0, 1) := by decide +kernel
theorem dX8_note_50 : decode cX8_note 50 = .ok (.iload_n 1, 1) := by decide +kernel
theorem dX8_note_51 : decode cX8_note 51 = .ok (.putfield 29, 3) := by decide +kernel
theorem dX8_note_54 : decode cX8_note 54 = .ok (.goto 17, 3) := by decide +kernel
theorem dX8_note_57 : decode cX8_note 57 = .ok (.iload_n 2, 1) := by decide +kernel
theorem dX8_note_58 : decode cX8_note 58 = .ok (.ifCond .ne 13, 3) := by decide +kernel
theorem dX8_note_61 : decode cX8_note 61 = .ok (.aload_n 0, 1) := by decide +kernel
theorem dX8_note_62 : decode cX8_note 62 = .ok (.dup, 1) := by decide +kernel
theorem dX8_note_63 : decode cX8_note 63 = .ok (.getfield 22, 3) := by decide +kernel
theorem dX8_note_66 : decode cX8_note 66 = .ok (.iconst 1, 1) := by decide +kernel
theorem dX8_note_67 : decode cX8_note 67 = .ok (.iadd, 1) := by decide +kernel
theorem dX8_note_68 : decode cX8_note 68 = .ok (.putfield 22, 3) := by decide +kernel
theorem dX8_note_71 : decode cX8_note 71 = .ok (.return_, 1) := by decide +kernel
theorem gf_X8_18 {ω : WD} {ρ : FR} {M : Mem} {cc : ByteArray} {d n pc : Nat} {lv : List (Nat × Value)} {rest : List Value} (C : Cx ω ρ cc RX8 d n) (hd : decode cc pc = .ok (.getfield 18, 3)) (k : G ω ρ M (pc + 3) lv (.ref (adr ω 39) :: rest)) : G ω ρ M pc lv (.ref (adr ω 22) :: rest) := G_get (N := 6) (T := TX8) (C := RX8) (q := 1) C (q22 : isK 8 22) (by decide) rfl in_X8 (by decide) (tb_of 217 ⟨by decide +kernel, rfl⟩) rfl rfl hd k
theorem gf_X8_22 {ω : WD} {ρ : FR} {M : Mem} {cc : ByteArray} {d n pc : Nat} {lv : List (Nat × Value)} {rest : List Value} (C : Cx ω ρ cc RX8 d n) (hd : decode cc pc = .ok (.getfield 22, 3)) (k : G ω ρ M (pc + 3) lv (.int (rd M 22 2) :: rest)) : G ω ρ M pc lv (.ref (adr ω 22) :: rest) := G_get (N := 6) (T := TX8) (C := RX8) (q := 2) C (q22 : isK 8 22) (by decide) rfl in_X8 (by decide) (tb_of 219 ⟨by decide +kernel, rfl⟩) rfl rfl hd k
theorem pf_X8_22 {ω : WD} {ρ : FR} {M : Mem} {cc : ByteArray} {d n pc : Nat} {lv : List (Nat × Value)} {rest : List Value} {v : Int32} (C : Cx ω ρ cc RX8 d n) (hd : decode cc pc = .ok (.putfield 22, 3)) (k : ∀ M1, M1 = wr M 22 2 v → G ω ρ M1 (pc + 3) lv rest) : G ω ρ M pc lv (.int v :: .ref (adr ω 22) :: rest) := G_put (N := 6) (T := TX8) (C := RX8) (q := 2) (ty := .int) C (q22 : isK 8 22) (by decide) rfl in_X8 tyX8 tyX8_ok nmX8 (by decide) (tb_of 219 ⟨by decide +kernel, rfl⟩) rfl rfl (by decide +kernel) rfl rfl (fun _ _ => Nat.le_of_ble_eq_true rfl) (fun _ => rfl) hd (k _ rfl)
theorem gf_X8_26 {ω : WD} {ρ : FR} {M : Mem} {cc : ByteArray} {d n pc : Nat} {lv : List (Nat × Value)} {rest : List Value} (C : Cx ω ρ cc RX8 d n) (hd : decode cc pc = .ok (.getfield 26, 3)) (k : G ω ρ M (pc + 3) lv (.int (rd M 22 3) :: rest)) : G ω ρ M pc lv (.ref (adr ω 22) :: rest) := G_get (N := 6) (T := TX8) (C := RX8) (q := 3) C (q22 : isK 8 22) (by decide) rfl in_X8 (by decide) (tb_of 221 ⟨by decide +kernel, rfl⟩) rfl rfl hd k
theorem pf_X8_26 {ω : WD} {ρ : FR} {M : Mem} {cc : ByteArray} {d n pc : Nat} {lv : List (Nat × Value)} {rest : List Value} {v : Int32} (C : Cx ω ρ cc RX8 d n) (hd : decode cc pc = .ok (.putfield 26, 3)) (k : ∀ M1, M1 = wr M 22 3 v → G ω ρ M1 (pc + 3) lv rest) : G ω ρ M pc lv (.int v :: .ref (adr ω 22) :: rest) := G_put (N := 6) (T := TX8) (C := RX8) (q := 3) (ty := .int) C (q22 : isK 8 22) (by decide) rfl in_X8 tyX8 tyX8_ok nmX8 (by decide) (tb_of 221 ⟨by decide +kernel, rfl⟩) rfl rfl (by decide +kernel) rfl rfl (fun _ _ => Nat.le_of_ble_eq_true rfl) (fun _ => rfl) hd (k _ rfl)
theorem gf_X8_29 {ω : WD} {ρ : FR} {M : Mem} {cc : ByteArray} {d n pc : Nat} {lv : List (Nat × Value)} {rest : List Value} (C : Cx ω ρ cc RX8 d n) (hd : decode cc pc = .ok (.getfield 29, 3)) (k : G ω ρ M (pc + 3) lv (.int (rd M 22 4) :: rest)) : G ω ρ M pc lv (.ref (adr ω 22) :: rest) := G_get (N := 6) (T := TX8) (C := RX8) (q := 4) C (q22 : isK 8 22) (by decide) rfl in_X8 (by decide) (tb_of 223 ⟨by decide +kernel, rfl⟩) rfl rfl hd k
theorem pf_X8_29 {ω : WD} {ρ : FR} {M : Mem} {cc : ByteArray} {d n pc : Nat} {lv : List (Nat × Value)} {rest : List Value} {v : Int32} (C : Cx ω ρ cc RX8 d n) (hd : decode cc pc = .ok (.putfield 29, 3)) (k : ∀ M1, M1 = wr M 22 4 v → G ω ρ M1 (pc + 3) lv rest) : G ω ρ M pc lv (.int v :: .ref (adr ω 22) :: rest) := G_put (N := 6) (T := TX8) (C := RX8) (q := 4) (ty := .int) C (q22 : isK 8 22) (by decide) rfl in_X8 tyX8 tyX8_ok nmX8 (by decide) (tb_of 223 ⟨by decide +kernel, rfl⟩) rfl rfl (by decide +kernel) rfl rfl (fun _ _ => Nat.le_of_ble_eq_true rfl) (fun _ => rfl) hd (k _ rfl)
theorem gf_X8_32 {ω : WD} {ρ : FR} {M : Mem} {cc : ByteArray} {d n pc : Nat} {lv : List (Nat × Value)} {rest : List Value} (C : Cx ω ρ cc RX8 d n) (hd : decode cc pc = .ok (.getfield 32, 3)) (k : G ω ρ M (pc + 3) lv (.int (rd M 22 5) :: rest)) : G ω ρ M pc lv (.ref (adr ω 22) :: rest) := G_get (N := 6) (T := TX8) (C := RX8) (q := 5) C (q22 : isK 8 22) (by decide) rfl in_X8 (by decide) (tb_of 225 ⟨by decide +kernel, rfl⟩) rfl rfl hd k
theorem pf_X8_32 {ω : WD} {ρ : FR} {M : Mem} {cc : ByteArray} {d n pc : Nat} {lv : List (Nat × Value)} {rest : List Value} {v : Int32} (C : Cx ω ρ cc RX8 d n) (hd : decode cc pc = .ok (.putfield 32, 3)) (k : ∀ M1, M1 = wr M 22 5 v → G ω ρ M1 (pc + 3) lv rest) : G ω ρ M pc lv (.int v :: .ref (adr ω 22) :: rest) := G_put (N := 6) (T := TX8) (C := RX8) (q := 5) (ty := .int) C (q22 : isK 8 22) (by decide) rfl in_X8 tyX8 tyX8_ok nmX8 (by decide) (tb_of 225 ⟨by decide +kernel, rfl⟩) rfl rfl (by decide +kernel) rfl rfl (fun _ _ => Nat.le_of_ble_eq_true rfl) (fun _ => rfl) hd (k _ rfl)
set_option maxRecDepth 100000 in
set_option maxHeartbeats 4000000 in
theorem S_X8_note {ω : WD} {l1 : Int32} {l2 : Int32} {M : Mem} {post : Mem → Prop} (h : w_X8_note l1 l2 M post) : MtV ω yX8_note cX8_note 4 none 0 [.ref (adr ω 22), .int l1, .int l2] M post := by
  refine MtV.start rfl (by decide +kernel) (own := RX8) rfl (Nat.le_of_ble_eq_true rfl) (fun ρ C R => ?_)
  show G ω ρ M 0 [(0, .ref (adr ω 22)), (1, .int l1), (2, .int l2)] []
  refine G_aload_n C dX8_note_0 0 rfl ?_
  refine gf_X8_18 C dX8_note_1 ?_
  refine G_iload_n C dX8_note_4 1 rfl ?_
  obtain ⟨hi, h⟩ := h
  refine G_iald C q39 hi rfl dX8_note_5 ?_
  refine G_iname (fun v1 ev1 => ?_)
  replace h := h v1 ev1
  refine G_istore_n C dX8_note_6 (by decide) (lv' := [(3, .int v1), (0, .ref (adr ω 22)), (1, .int l1), (2, .int l2)]) rfl ?_
  refine G_iload_n C dX8_note_7 0 rfl ?_
  refine G_bipush (v := 6) C dX8_note_8 (by decide) ?_
  obtain ⟨h1, h2⟩ := h
  refine G_icmp_ne (tgt := 26) C dX8_note_10 (by decide) (fun c => ?_) (fun c => ?_)
  · have h := h1 c
    clear h1 h2
    refine G_iload_n C dX8_note_26 0 rfl ?_
    obtain ⟨h1, h2⟩ := h
    refine G_if_eq (tgt := 57) C dX8_note_27 (by decide) (fun c => ?_) (fun c => ?_)
    · have h := h1 c
      clear h1 h2
      refine G_iload_n C dX8_note_57 3 rfl ?_
      obtain ⟨h1, h2⟩ := h
      refine G_if_ne (tgt := 71) C dX8_note_58 (by decide) (fun c => ?_) (fun c => ?_)
      · have h := h1 c
        clear h1 h2
        exact R 71 _ _ dX8_note_71 h
      · have h := h2 c
        clear h1 h2
        refine G_aload_n C dX8_note_61 1 rfl ?_
        refine G_dup C dX8_note_62 rfl ?_
        refine gf_X8_22 C dX8_note_63 ?_
        refine G_iconst (v := 1) C dX8_note_66 (by decide) ?_
        refine G_iadd C dX8_note_67 ?_
        refine pf_X8_22 C dX8_note_68 (fun M2 eM2 => ?_)
        replace h := h M2 eM2
        exact R 71 _ _ dX8_note_71 h
    · have h := h2 c
      clear h1 h2
      refine G_aload_n C dX8_note_30 1 rfl ?_
      refine G_dup C dX8_note_31 rfl ?_
      refine gf_X8_26 C dX8_note_32 ?_
      refine G_iconst (v := 1) C dX8_note_35 (by decide) ?_
      refine G_iadd C dX8_note_36 ?_
      refine pf_X8_26 C dX8_note_37 (fun M3 eM3 => ?_)
      replace h := h M3 eM3
      refine G_aload_n C dX8_note_40 1 rfl ?_
      refine gf_X8_29 C dX8_note_41 ?_
      refine G_bipush (v := (-4)) C dX8_note_44 (by decide) ?_
      obtain ⟨h1, h2⟩ := h
      refine G_icmp_ne (tgt := 71) C dX8_note_46 (by decide) (fun c => ?_) (fun c => ?_)
      · have h := h1 c
        clear h1 h2
        exact R 71 _ _ dX8_note_71 h
      · have h := h2 c
        clear h1 h2
        refine G_aload_n C dX8_note_49 1 rfl ?_
        refine G_iload_n C dX8_note_50 2 rfl ?_
        refine pf_X8_29 C dX8_note_51 (fun M4 eM4 => ?_)
        replace h := h M4 eM4
        refine G_goto (tgt := 71) C dX8_note_54 (by decide) ?_
        exact R 71 _ _ dX8_note_71 h
  · have h := h2 c
    clear h1 h2
    refine G_aload_n C dX8_note_13 1 rfl ?_
    refine G_dup C dX8_note_14 rfl ?_
    refine gf_X8_32 C dX8_note_15 ?_
    refine G_iconst (v := 1) C dX8_note_18 (by decide) ?_
    refine G_iadd C dX8_note_19 ?_
    refine pf_X8_32 C dX8_note_20 (fun M5 eM5 => ?_)
    replace h := h M5 eM5
    refine G_goto (tgt := 71) C dX8_note_23 (by decide) ?_
    exact R 71 _ _ dX8_note_71 h
theorem dX8_follow_0 : decode cX8_follow 0 = .ok (.aload_n 0, 1) := by decide +kernel
theorem dX8_follow_1 : decode cX8_follow 1 = .ok (.iconst 0, 1) := by decide +kernel
theorem dX8_follow_2 : decode cX8_follow 2 = .ok (.putfield 22, 3) := by decide +kernel
theorem dX8_follow_5 : decode cX8_follow 5 = .ok (.aload_n 0, 1) := by decide +kernel
theorem dX8_follow_6 : decode cX8_follow 6 = .ok (.iconst 0, 1) := by decide +kernel
theorem dX8_follow_7 : decode cX8_follow 7 = .ok (.putfield 26, 3) := by decide +kernel
theorem dX8_follow_10 : decode cX8_follow 10 = .ok (.aload_n 0, 1) := by decide +kernel
theorem dX8_follow_11 : decode cX8_follow 11 = .ok (.bipush (-4), 2) := by decide +kernel
theorem dX8_follow_13 : decode cX8_follow 13 = .ok (.putfield 29, 3) := by decide +kernel
theorem dX8_follow_16 : decode cX8_follow 16 = .ok (.aload_n 0, 1) := by decide +kernel
theorem dX8_follow_17 : decode cX8_follow 17 = .ok (.iconst 0, 1) := by decide +kernel
theorem dX8_follow_18 : decode cX8_follow 18 = .ok (.putfield 32, 3) := by decide +kernel
theorem dX8_follow_21 : decode cX8_follow 21 = .ok (.iconst 0, 1) := by decide +kernel
theorem dX8_follow_22 : decode cX8_follow 22 = .ok (.istore_n 3, 1) := by decide +kernel
theorem dX8_follow_23 : decode cX8_follow 23 = .ok (.iload_n 3, 1) := by decide +kernel
theorem dX8_follow_24 : decode cX8_follow 24 = .ok (.aload_n 1, 1) := by decide +kernel
theorem dX8_follow_25 : decode cX8_follow 25 = .ok (.getfield 35, 3) := by decide +kernel
theorem dX8_follow_28 : decode cX8_follow 28 = .ok (.if_icmp .ge 60, 3) := by decide +kernel
theorem dX8_follow_31 : decode cX8_follow 31 = .ok (.iload_n 2, 1) := by decide +kernel
theorem dX8_follow_32 : decode cX8_follow 32 = .ok (.iload_n 3, 1) := by decide +kernel
theorem dX8_follow_33 : decode cX8_follow 33 = .ok (.ishr, 1) := by decide +kernel
theorem dX8_follow_34 : decode cX8_follow 34 = .ok (.iconst 1, 1) := by decide +kernel
theorem dX8_follow_35 : decode cX8_follow 35 = .ok (.iand, 1) := by decide +kernel
theorem dX8_follow_36 : decode cX8_follow 36 = .ok (.ifCond .eq 46, 3) := by decide +kernel
theorem dX8_follow_39 : decode cX8_follow 39 = .ok (.aload_n 0, 1) := by decide +kernel
theorem dX8_follow_40 : decode cX8_follow 40 = .ok (.getfield 18, 3) := by decide +kernel
theorem dX8_follow_43 : decode cX8_follow 43 = .ok (.iload_n 3, 1) := by decide +kernel
theorem dX8_follow_44 : decode cX8_follow 44 = .ok (.aload_n 0, 1) := by decide +kernel
theorem dX8_follow_45 : decode cX8_follow 45 = .ok (.aload_n 1, 1) := by decide +kernel
theorem dX8_follow_46 : decode cX8_follow 46 = .ok (.getfield 40, 3) := by decide +kernel
theorem dX8_follow_49 : decode cX8_follow 49 = .ok (.iload_n 3, 1) := by decide +kernel
theorem dX8_follow_50 : decode cX8_follow 50 = .ok (.iaload, 1) := by decide +kernel
theorem dX8_follow_51 : decode cX8_follow 51 = .ok (.aload_n 1, 1) := by decide +kernel
theorem dX8_follow_52 : decode cX8_follow 52 = .ok (.getfield 43, 3) := by decide +kernel
theorem dX8_follow_55 : decode cX8_follow 55 = .ok (.iload_n 3, 1) := by decide +kernel
theorem dX8_follow_56 : decode cX8_follow 56 = .ok (.iaload, 1) := by decide +kernel
theorem dX8_follow_57 : decode cX8_follow 57 = .ok (.invokevirtual 46, 3) := by decide +kernel
theorem dX8_follow_60 : decode cX8_follow 60 = .ok (.iastore, 1) := by decide +kernel
theorem dX8_follow_61 : decode cX8_follow 61 = .ok (.aload_n 0, 1) := by decide +kernel
theorem dX8_follow_62 : decode cX8_follow 62 = .ok (.iload_n 3, 1) := by decide +kernel
theorem dX8_follow_63 : decode cX8_follow 63 = .ok (.aload_n 1, 1) := by decide +kernel
theorem dX8_follow_64 : decode cX8_follow 64 = .ok (.getfield 43, 3) := by decide +kernel
theorem dX8_follow_67 : decode cX8_follow 67 = .ok (.iload_n 3, 1) := by decide +kernel
theorem dX8_follow_68 : decode cX8_follow 68 = .ok (.iaload, 1) := by decide +kernel
theorem dX8_follow_69 : decode cX8_follow 69 = .ok (.bipush 99, 2) := by decide +kernel
theorem dX8_follow_71 : decode cX8_follow 71 = .ok (.if_icmp .ne 7, 3) := by decide +kernel
theorem dX8_follow_74 : decode cX8_follow 74 = .ok (.iconst 1, 1) := by decide +kernel
theorem dX8_follow_75 : decode cX8_follow 75 = .ok (.goto 4, 3) := by decide +kernel
theorem dX8_follow_78 : decode cX8_follow 78 = .ok (.iconst 0, 1) := by decide +kernel
theorem dX8_follow_79 : decode cX8_follow 79 = .ok (.invokevirtual 50, 3) := by decide +kernel
theorem dX8_follow_82 : decode cX8_follow 82 = .ok (.iinc 3 1, 3) := by decide +kernel
theorem dX8_follow_85 : decode cX8_follow 85 = .ok (.goto (-62), 3) := by decide +kernel
theorem dX8_follow_88 : decode cX8_follow 88 = .ok (.return_, 1) := by decide +kernel
theorem lk_X8_50 : LkV RX8 50 RX8 yX8_note cX8_note 4 none 2 := LkV.of 743 744 745 65 746 (by decide +kernel) (by decide +kernel) (by decide +kernel) (by decide +kernel) (by decide +kernel) (by decide +kernel)
theorem gf_X8_35 {ω : WD} {ρ : FR} {M : Mem} {cc : ByteArray} {d n pc i : Nat} {lv : List (Nat × Value)} {rest : List Value} (C : Cx ω ρ cc RX8 d n) (hk : isK 5 i) (hd : decode cc pc = .ok (.getfield 35, 3)) (k : G ω ρ M (pc + 3) lv (.int (rd M i 0) :: rest)) : G ω ρ M pc lv (.ref (adr ω i) :: rest) := G_get (N := 6) (T := TX5) (C := RX5) (q := 0) C hk (by decide) rfl in_X5 (by decide) (tb_of 175 ⟨by decide +kernel, rfl⟩) rfl rfl hd k
theorem gf_X8_40 {ω : WD} {ρ : FR} {M : Mem} {cc : ByteArray} {d n pc i : Nat} {lv : List (Nat × Value)} {rest : List Value} (C : Cx ω ρ cc RX8 d n) (hk : isK 5 i) (hd : decode cc pc = .ok (.getfield 40, 3)) (k : G ω ρ M (pc + 3) lv (.ref (adr ω (i + 1)) :: rest)) : G ω ρ M pc lv (.ref (adr ω i) :: rest) := G_get (N := 6) (T := TX5) (C := RX5) (q := 2) C hk (by decide) rfl in_X5 (by decide) (tb_of 182 ⟨by decide +kernel, rfl⟩) rfl rfl hd k
theorem gf_X8_43 {ω : WD} {ρ : FR} {M : Mem} {cc : ByteArray} {d n pc i : Nat} {lv : List (Nat × Value)} {rest : List Value} (C : Cx ω ρ cc RX8 d n) (hk : isK 5 i) (hd : decode cc pc = .ok (.getfield 43, 3)) (k : G ω ρ M (pc + 3) lv (.ref (adr ω (i + 2)) :: rest)) : G ω ρ M pc lv (.ref (adr ω i) :: rest) := G_get (N := 6) (T := TX5) (C := RX5) (q := 3) C hk (by decide) rfl in_X5 (by decide) (tb_of 186 ⟨by decide +kernel, rfl⟩) rfl rfl hd k
theorem lk_X8_46 : LkV RX8 46 RX8 yX8_fateOf cX8_fateOf 4 (some .int) 2 := LkV.of 737 738 739 65 740 (by decide +kernel) (by decide +kernel) (by decide +kernel) (by decide +kernel) (by decide +kernel) (by decide +kernel)
set_option maxRecDepth 100000 in
set_option maxHeartbeats 4000000 in
theorem s_X8_follow_J82 {ω : WD} {ρ : FR} {post : Mem → Prop} (C : Cx ω ρ cX8_follow RX8 4 4) (R : RtV ω ρ cX8_follow post) {K23 : Int32 → Mem → Prop} {l2 : Int32} {l3 : Int32} (k23 : ∀ (u3 : Int32) (M : Mem), K23 u3 M → G ω ρ M 23 [(0, .ref (adr ω 22)), (1, .ref (adr ω 17)), (2, .int l2), (3, .int u3)] []) {M : Mem} (h : w_X8_follow_J82 post K23 l2 l3 M) : G ω ρ M 82 [(0, .ref (adr ω 22)), (1, .ref (adr ω 17)), (2, .int l2), (3, .int l3)] [] := by
  obtain ⟨v1, ev1⟩ : ∃ y : Int32, y = (l3 + 1) := ⟨_, rfl⟩
  replace h := h v1 ev1
  refine G_iinc C dX8_follow_82 3 rfl (v := v1) (by rw [ev1]; rfl) (by decide) (lv' := [(3, .int v1), (0, .ref (adr ω 22)), (1, .ref (adr ω 17)), (2, .int l2)]) rfl ?_
  refine G_goto (tgt := 23) C dX8_follow_85 (by decide) ?_
  refine G_sub [1, 2, 3, 0] (lv' := [(0, .ref (adr ω 22)), (1, .ref (adr ω 17)), (2, .int l2), (3, .int v1)]) rfl ?_
  exact k23 _ _ h
set_option maxRecDepth 100000 in
set_option maxHeartbeats 4000000 in
theorem s_X8_follow_J79 {ω : WD} {ρ : FR} {post : Mem → Prop} (C : Cx ω ρ cX8_follow RX8 4 4) (R : RtV ω ρ cX8_follow post) {K23 : Int32 → Mem → Prop} {l2 : Int32} {l3 : Int32} {s1 : Int32} {s2 : Int32} (k23 : ∀ (u3 : Int32) (M : Mem), K23 u3 M → G ω ρ M 23 [(0, .ref (adr ω 22)), (1, .ref (adr ω 17)), (2, .int l2), (3, .int u3)] []) {M : Mem} (h : w_X8_follow_J79 post K23 l2 l3 s1 s2 M) : G ω ρ M 79 [(0, .ref (adr ω 22)), (1, .ref (adr ω 17)), (2, .int l2), (3, .int l3)] [.int s2, .int s1, .ref (adr ω 22)] := by
  refine G_callV (As := [.int s1, .int s2]) (rest := []) C dX8_follow_79 lk_X8_50 (Nat.le_of_ble_eq_true rfl) (Nat.le_of_ble_eq_true rfl) q22 (by decide) rfl (Nat.le_of_ble_eq_true rfl) rfl (S_X8_note h) (fun M2 h => ?_)
  exact s_X8_follow_J82 C R k23 h
set_option maxRecDepth 100000 in
set_option maxHeartbeats 4000000 in
theorem s_X8_follow_L23 {ω : WD} {ρ : FR} {post : Mem → Prop} (C : Cx ω ρ cX8_follow RX8 4 4) (R : RtV ω ρ cX8_follow post) {l2 : Int32} : ∀ (f : Nat) (l3 : Int32) (M : Mem), w_X8_follow_L23 post l2 f l3 M → G ω ρ M 23 [(0, .ref (adr ω 22)), (1, .ref (adr ω 17)), (2, .int l2), (3, .int l3)] [] := by
  intro f
  induction f with
  | zero => intro l3 M h; exact False.elim h
  | succ f k23 =>
    intro l3 M h
    refine G_iload_n C dX8_follow_23 3 rfl ?_
    refine G_aload_n C dX8_follow_24 1 rfl ?_
    refine gf_X8_35 C q17 dX8_follow_25 ?_
    obtain ⟨h1, h2⟩ := h
    refine G_icmp_ge (tgt := 88) C dX8_follow_28 (by decide) (fun c => ?_) (fun c => ?_)
    · have h := h1 c
      clear h1 h2
      exact R 88 _ _ dX8_follow_88 h
    · have h := h2 c
      clear h1 h2
      refine G_iload_n C dX8_follow_31 2 rfl ?_
      refine G_iload_n C dX8_follow_32 3 rfl ?_
      refine G_ishr C dX8_follow_33 ?_
      refine G_iconst (v := 1) C dX8_follow_34 (by decide) ?_
      refine G_iand C dX8_follow_35 ?_
      obtain ⟨h1, h2⟩ := h
      refine G_if_eq (tgt := 82) C dX8_follow_36 (by decide) (fun c => ?_) (fun c => ?_)
      · have h := h1 c
        clear h1 h2
        exact s_X8_follow_J82 C R k23 h
      · have h := h2 c
        clear h1 h2
        refine G_aload_n C dX8_follow_39 0 rfl ?_
        refine gf_X8_18 C dX8_follow_40 ?_
        refine G_iload_n C dX8_follow_43 3 rfl ?_
        refine G_aload_n C dX8_follow_44 0 rfl ?_
        refine G_aload_n C dX8_follow_45 1 rfl ?_
        refine gf_X8_40 C q17 dX8_follow_46 ?_
        refine G_iload_n C dX8_follow_49 3 rfl ?_
        obtain ⟨hi, h⟩ := h
        refine G_iald C q18 hi rfl dX8_follow_50 ?_
        refine G_aload_n C dX8_follow_51 1 rfl ?_
        refine gf_X8_43 C q17 dX8_follow_52 ?_
        refine G_iload_n C dX8_follow_55 3 rfl ?_
        obtain ⟨hi, h⟩ := h
        refine G_iald C q19 hi rfl dX8_follow_56 ?_
        refine G_callI (As := [.int (rd M 18 l3.toNatClampNeg), .int (rd M 19 l3.toNatClampNeg)]) (rest := [.int l3, .ref (adr ω 39)]) C dX8_follow_57 lk_X8_46 (Nat.le_of_ble_eq_true rfl) (Nat.le_of_ble_eq_true rfl) q22 (by decide) rfl (Nat.le_of_ble_eq_true rfl) rfl (S_X8_fateOf h) (fun r4 M3 h => ?_)
        obtain ⟨hi, h⟩ := h
        refine G_iast C q39 hi rfl dX8_follow_60 (G_mname (fun M5 eM5 => ?_))
        replace h := h M5 eM5
        refine G_aload_n C dX8_follow_61 0 rfl ?_
        refine G_iload_n C dX8_follow_62 3 rfl ?_
        refine G_aload_n C dX8_follow_63 1 rfl ?_
        refine gf_X8_43 C q17 dX8_follow_64 ?_
        refine G_iload_n C dX8_follow_67 3 rfl ?_
        obtain ⟨hi, h⟩ := h
        refine G_iald C q19 hi rfl dX8_follow_68 ?_
        refine G_bipush (v := 99) C dX8_follow_69 (by decide) ?_
        obtain ⟨h1, h2⟩ := h
        refine G_icmp_ne (tgt := 78) C dX8_follow_71 (by decide) (fun c => ?_) (fun c => ?_)
        · have h := h1 c
          clear h1 h2
          refine G_iconst (v := 0) C dX8_follow_78 (by decide) ?_
          exact s_X8_follow_J79 C R k23 h
        · have h := h2 c
          clear h1 h2
          refine G_iconst (v := 1) C dX8_follow_74 (by decide) ?_
          refine G_goto (tgt := 79) C dX8_follow_75 (by decide) ?_
          exact s_X8_follow_J79 C R k23 h
set_option maxRecDepth 100000 in
set_option maxHeartbeats 4000000 in
theorem S_X8_follow {ω : WD} {l2 : Int32} {M : Mem} {post : Mem → Prop} (h : w_X8_follow l2 M post) : MtV ω yX8_follow cX8_follow 4 none 4 [.ref (adr ω 22), .ref (adr ω 17), .int l2] M post := by
  refine MtV.start rfl (by decide +kernel) (own := RX8) rfl (Nat.le_of_ble_eq_true rfl) (fun ρ C R => ?_)
  show G ω ρ M 0 [(0, .ref (adr ω 22)), (1, .ref (adr ω 17)), (2, .int l2)] []
  refine G_aload_n C dX8_follow_0 0 rfl ?_
  refine G_iconst (v := 0) C dX8_follow_1 (by decide) ?_
  refine pf_X8_22 C dX8_follow_2 (fun M6 eM6 => ?_)
  replace h := h M6 eM6
  refine G_aload_n C dX8_follow_5 0 rfl ?_
  refine G_iconst (v := 0) C dX8_follow_6 (by decide) ?_
  refine pf_X8_26 C dX8_follow_7 (fun M7 eM7 => ?_)
  replace h := h M7 eM7
  refine G_aload_n C dX8_follow_10 0 rfl ?_
  refine G_bipush (v := (-4)) C dX8_follow_11 (by decide) ?_
  refine pf_X8_29 C dX8_follow_13 (fun M8 eM8 => ?_)
  replace h := h M8 eM8
  refine G_aload_n C dX8_follow_16 0 rfl ?_
  refine G_iconst (v := 0) C dX8_follow_17 (by decide) ?_
  refine pf_X8_32 C dX8_follow_18 (fun M9 eM9 => ?_)
  replace h := h M9 eM9
  refine G_iconst (v := 0) C dX8_follow_21 (by decide) ?_
  refine G_istore_n C dX8_follow_22 (by decide) (lv' := [(3, .int 0), (0, .ref (adr ω 22)), (1, .ref (adr ω 17)), (2, .int l2)]) rfl ?_
  refine G_sub [1, 2, 3, 0] (lv' := [(0, .ref (adr ω 22)), (1, .ref (adr ω 17)), (2, .int l2), (3, .int 0)]) rfl ?_
  obtain ⟨f, h⟩ := h
  exact s_X8_follow_L23 C R  f _ _ h
theorem dX8_wantedWayOf_0 : decode cX8_wantedWayOf 0 = .ok (.iconst 0, 1) := by decide +kernel
theorem dX8_wantedWayOf_1 : decode cX8_wantedWayOf 1 = .ok (.istore_n 3, 1) := by decide +kernel
theorem dX8_wantedWayOf_2 : decode cX8_wantedWayOf 2 = .ok (.iload_n 3, 1) := by decide +kernel
theorem dX8_wantedWayOf_3 : decode cX8_wantedWayOf 3 = .ok (.aload_n 1, 1) := by decide +kernel
theorem dX8_wantedWayOf_4 : decode cX8_wantedWayOf 4 = .ok (.getfield 35, 3) := by decide +kernel
theorem dX8_wantedWayOf_7 : decode cX8_wantedWayOf 7 = .ok (.if_icmp .ge 34, 3) := by decide +kernel
theorem dX8_wantedWayOf_10 : decode cX8_wantedWayOf 10 = .ok (.aload_n 0, 1) := by decide +kernel
theorem dX8_wantedWayOf_11 : decode cX8_wantedWayOf 11 = .ok (.getfield 18, 3) := by decide +kernel
theorem dX8_wantedWayOf_14 : decode cX8_wantedWayOf 14 = .ok (.iload_n 3, 1) := by decide +kernel
theorem dX8_wantedWayOf_15 : decode cX8_wantedWayOf 15 = .ok (.iaload, 1) := by decide +kernel
theorem dX8_wantedWayOf_16 : decode cX8_wantedWayOf 16 = .ok (.iconst 2, 1) := by decide +kernel
theorem dX8_wantedWayOf_17 : decode cX8_wantedWayOf 17 = .ok (.if_icmp .ne 18, 3) := by decide +kernel
theorem dX8_wantedWayOf_20 : decode cX8_wantedWayOf 20 = .ok (.aload_n 1, 1) := by decide +kernel
theorem dX8_wantedWayOf_21 : decode cX8_wantedWayOf 21 = .ok (.getfield 43, 3) := by decide +kernel
theorem dX8_wantedWayOf_24 : decode cX8_wantedWayOf 24 = .ok (.iload_n 3, 1) := by decide +kernel
theorem dX8_wantedWayOf_25 : decode cX8_wantedWayOf 25 = .ok (.iaload, 1) := by decide +kernel
theorem dX8_wantedWayOf_26 : decode cX8_wantedWayOf 26 = .ok (.bipush 10, 2) := by decide +kernel
theorem dX8_wantedWayOf_28 : decode cX8_wantedWayOf 28 = .ok (.idiv, 1) := by decide +kernel
theorem dX8_wantedWayOf_29 : decode cX8_wantedWayOf 29 = .ok (.iload_n 2, 1) := by decide +kernel
theorem dX8_wantedWayOf_30 : decode cX8_wantedWayOf 30 = .ok (.if_icmp .ne 5, 3) := by decide +kernel
theorem dX8_wantedWayOf_33 : decode cX8_wantedWayOf 33 = .ok (.iconst 1, 1) := by decide +kernel
theorem dX8_wantedWayOf_34 : decode cX8_wantedWayOf 34 = .ok (.ireturn, 1) := by decide +kernel
theorem dX8_wantedWayOf_35 : decode cX8_wantedWayOf 35 = .ok (.iinc 3 1, 3) := by decide +kernel
theorem dX8_wantedWayOf_38 : decode cX8_wantedWayOf 38 = .ok (.goto (-36), 3) := by decide +kernel
theorem dX8_wantedWayOf_41 : decode cX8_wantedWayOf 41 = .ok (.iconst 0, 1) := by decide +kernel
theorem dX8_wantedWayOf_42 : decode cX8_wantedWayOf 42 = .ok (.ireturn, 1) := by decide +kernel
set_option maxRecDepth 100000 in
set_option maxHeartbeats 4000000 in
theorem s_X8_wantedWayOf_J35 {ω : WD} {ρ : FR} {post : Int32 → Mem → Prop} (C : Cx ω ρ cX8_wantedWayOf RX8 0 4) (R : RtI ω ρ cX8_wantedWayOf .boolean post) {K2 : Int32 → Mem → Prop} {l2 : Int32} {l3 : Int32} (k2 : ∀ (u3 : Int32) (M : Mem), K2 u3 M → G ω ρ M 2 [(0, .ref (adr ω 22)), (1, .ref (adr ω 17)), (2, .int l2), (3, .int u3)] []) {M : Mem} (h : w_X8_wantedWayOf_J35 post K2 l2 l3 M) : G ω ρ M 35 [(0, .ref (adr ω 22)), (1, .ref (adr ω 17)), (2, .int l2), (3, .int l3)] [] := by
  obtain ⟨v1, ev1⟩ : ∃ y : Int32, y = (l3 + 1) := ⟨_, rfl⟩
  replace h := h v1 ev1
  refine G_iinc C dX8_wantedWayOf_35 3 rfl (v := v1) (by rw [ev1]; rfl) (by decide) (lv' := [(3, .int v1), (0, .ref (adr ω 22)), (1, .ref (adr ω 17)), (2, .int l2)]) rfl ?_
  refine G_goto (tgt := 2) C dX8_wantedWayOf_38 (by decide) ?_
  refine G_sub [1, 2, 3, 0] (lv' := [(0, .ref (adr ω 22)), (1, .ref (adr ω 17)), (2, .int l2), (3, .int v1)]) rfl ?_
  exact k2 _ _ h
set_option maxRecDepth 100000 in
set_option maxHeartbeats 4000000 in
theorem s_X8_wantedWayOf_L2 {ω : WD} {ρ : FR} {post : Int32 → Mem → Prop} (C : Cx ω ρ cX8_wantedWayOf RX8 0 4) (R : RtI ω ρ cX8_wantedWayOf .boolean post) {l2 : Int32} : ∀ (f : Nat) (l3 : Int32) (M : Mem), w_X8_wantedWayOf_L2 post l2 f l3 M → G ω ρ M 2 [(0, .ref (adr ω 22)), (1, .ref (adr ω 17)), (2, .int l2), (3, .int l3)] [] := by
  intro f
  induction f with
  | zero => intro l3 M h; exact False.elim h
  | succ f k2 =>
    intro l3 M h
    refine G_iload_n C dX8_wantedWayOf_2 3 rfl ?_
    refine G_aload_n C dX8_wantedWayOf_3 1 rfl ?_
    refine gf_X8_35 C q17 dX8_wantedWayOf_4 ?_
    obtain ⟨h1, h2⟩ := h
    refine G_icmp_ge (tgt := 41) C dX8_wantedWayOf_7 (by decide) (fun c => ?_) (fun c => ?_)
    · have h := h1 c
      clear h1 h2
      refine G_iconst (v := 0) C dX8_wantedWayOf_41 (by decide) ?_
      exact R 42 _ _ _ dX8_wantedWayOf_42 rfl h
    · have h := h2 c
      clear h1 h2
      refine G_aload_n C dX8_wantedWayOf_10 0 rfl ?_
      refine gf_X8_18 C dX8_wantedWayOf_11 ?_
      refine G_iload_n C dX8_wantedWayOf_14 3 rfl ?_
      obtain ⟨hi, h⟩ := h
      refine G_iald C q39 hi rfl dX8_wantedWayOf_15 ?_
      refine G_iconst (v := 2) C dX8_wantedWayOf_16 (by decide) ?_
      obtain ⟨h1, h2⟩ := h
      refine G_icmp_ne (tgt := 35) C dX8_wantedWayOf_17 (by decide) (fun c => ?_) (fun c => ?_)
      · have h := h1 c
        clear h1 h2
        exact s_X8_wantedWayOf_J35 C R k2 h
      · have h := h2 c
        clear h1 h2
        refine G_aload_n C dX8_wantedWayOf_20 1 rfl ?_
        refine gf_X8_43 C q17 dX8_wantedWayOf_21 ?_
        refine G_iload_n C dX8_wantedWayOf_24 3 rfl ?_
        obtain ⟨hi, h⟩ := h
        refine G_iald C q19 hi rfl dX8_wantedWayOf_25 ?_
        refine G_bipush (v := 10) C dX8_wantedWayOf_26 (by decide) ?_
        refine G_idiv C dX8_wantedWayOf_28 (by decide) ?_
        refine G_iload_n C dX8_wantedWayOf_29 2 rfl ?_
        obtain ⟨h1, h2⟩ := h
        refine G_icmp_ne (tgt := 35) C dX8_wantedWayOf_30 (by decide) (fun c => ?_) (fun c => ?_)
        · have h := h1 c
          clear h1 h2
          exact s_X8_wantedWayOf_J35 C R k2 h
        · have h := h2 c
          clear h1 h2
          refine G_iconst (v := 1) C dX8_wantedWayOf_33 (by decide) ?_
          exact R 34 _ _ _ dX8_wantedWayOf_34 rfl h
set_option maxRecDepth 100000 in
set_option maxHeartbeats 4000000 in
theorem S_X8_wantedWayOf {ω : WD} {l2 : Int32} {M : Mem} {post : Int32 → Mem → Prop} (h : w_X8_wantedWayOf l2 M post) : MtI ω yX8_wantedWayOf cX8_wantedWayOf 4 (some .boolean) 0 [.ref (adr ω 22), .ref (adr ω 17), .int l2] M post := by
  refine MtI.start (ty := .boolean) rfl (by decide +kernel) (own := RX8) rfl (Nat.le_of_ble_eq_true rfl) (fun ρ C R => ?_)
  show G ω ρ M 0 [(0, .ref (adr ω 22)), (1, .ref (adr ω 17)), (2, .int l2)] []
  refine G_iconst (v := 0) C dX8_wantedWayOf_0 (by decide) ?_
  refine G_istore_n C dX8_wantedWayOf_1 (by decide) (lv' := [(3, .int 0), (0, .ref (adr ω 22)), (1, .ref (adr ω 17)), (2, .int l2)]) rfl ?_
  refine G_sub [1, 2, 3, 0] (lv' := [(0, .ref (adr ω 22)), (1, .ref (adr ω 17)), (2, .int l2), (3, .int 0)]) rfl ?_
  obtain ⟨f, h⟩ := h
  exact s_X8_wantedWayOf_L2 C R  f _ _ h
theorem dX8_wantedFinder_0 : decode cX8_wantedFinder 0 = .ok (.iconst 0, 1) := by decide +kernel
theorem dX8_wantedFinder_1 : decode cX8_wantedFinder 1 = .ok (.istore_n 2, 1) := by decide +kernel
theorem dX8_wantedFinder_2 : decode cX8_wantedFinder 2 = .ok (.iload_n 2, 1) := by decide +kernel
theorem dX8_wantedFinder_3 : decode cX8_wantedFinder 3 = .ok (.aload_n 1, 1) := by decide +kernel
theorem dX8_wantedFinder_4 : decode cX8_wantedFinder 4 = .ok (.getfield 35, 3) := by decide +kernel
theorem dX8_wantedFinder_7 : decode cX8_wantedFinder 7 = .ok (.if_icmp .ge 21, 3) := by decide +kernel
theorem dX8_wantedFinder_10 : decode cX8_wantedFinder 10 = .ok (.aload_n 0, 1) := by decide +kernel
theorem dX8_wantedFinder_11 : decode cX8_wantedFinder 11 = .ok (.getfield 18, 3) := by decide +kernel
theorem dX8_wantedFinder_14 : decode cX8_wantedFinder 14 = .ok (.iload_n 2, 1) := by decide +kernel
theorem dX8_wantedFinder_15 : decode cX8_wantedFinder 15 = .ok (.iaload, 1) := by decide +kernel
theorem dX8_wantedFinder_16 : decode cX8_wantedFinder 16 = .ok (.iconst 1, 1) := by decide +kernel
theorem dX8_wantedFinder_17 : decode cX8_wantedFinder 17 = .ok (.if_icmp .ne 5, 3) := by decide +kernel
theorem dX8_wantedFinder_20 : decode cX8_wantedFinder 20 = .ok (.iconst 1, 1) := by decide +kernel
theorem dX8_wantedFinder_21 : decode cX8_wantedFinder 21 = .ok (.ireturn, 1) := by decide +kernel
theorem dX8_wantedFinder_22 : decode cX8_wantedFinder 22 = .ok (.iinc 2 1, 3) := by decide +kernel
theorem dX8_wantedFinder_25 : decode cX8_wantedFinder 25 = .ok (.goto (-23), 3) := by decide +kernel
theorem dX8_wantedFinder_28 : decode cX8_wantedFinder 28 = .ok (.iconst 0, 1) := by decide +kernel
theorem dX8_wantedFinder_29 : decode cX8_wantedFinder 29 = .ok (.ireturn, 1) := by decide +kernel
set_option maxRecDepth 100000 in
set_option maxHeartbeats 4000000 in
theorem s_X8_wantedFinder_L2 {ω : WD} {ρ : FR} {post : Int32 → Mem → Prop} (C : Cx ω ρ cX8_wantedFinder RX8 0 3) (R : RtI ω ρ cX8_wantedFinder .boolean post) : ∀ (f : Nat) (l2 : Int32) (M : Mem), w_X8_wantedFinder_L2 post f l2 M → G ω ρ M 2 [(0, .ref (adr ω 22)), (1, .ref (adr ω 17)), (2, .int l2)] [] := by
  intro f
  induction f with
  | zero => intro l2 M h; exact False.elim h
  | succ f k2 =>
    intro l2 M h
    refine G_iload_n C dX8_wantedFinder_2 2 rfl ?_
    refine G_aload_n C dX8_wantedFinder_3 1 rfl ?_
    refine gf_X8_35 C q17 dX8_wantedFinder_4 ?_
    obtain ⟨h1, h2⟩ := h
    refine G_icmp_ge (tgt := 28) C dX8_wantedFinder_7 (by decide) (fun c => ?_) (fun c => ?_)
    · have h := h1 c
      clear h1 h2
      refine G_iconst (v := 0) C dX8_wantedFinder_28 (by decide) ?_
      exact R 29 _ _ _ dX8_wantedFinder_29 rfl h
    · have h := h2 c
      clear h1 h2
      refine G_aload_n C dX8_wantedFinder_10 0 rfl ?_
      refine gf_X8_18 C dX8_wantedFinder_11 ?_
      refine G_iload_n C dX8_wantedFinder_14 2 rfl ?_
      obtain ⟨hi, h⟩ := h
      refine G_iald C q39 hi rfl dX8_wantedFinder_15 ?_
      refine G_iconst (v := 1) C dX8_wantedFinder_16 (by decide) ?_
      obtain ⟨h1, h2⟩ := h
      refine G_icmp_ne (tgt := 22) C dX8_wantedFinder_17 (by decide) (fun c => ?_) (fun c => ?_)
      · have h := h1 c
        clear h1 h2
        obtain ⟨v1, ev1⟩ : ∃ y : Int32, y = (l2 + 1) := ⟨_, rfl⟩
        replace h := h v1 ev1
        refine G_iinc C dX8_wantedFinder_22 2 rfl (v := v1) (by rw [ev1]; rfl) (by decide) (lv' := [(2, .int v1), (0, .ref (adr ω 22)), (1, .ref (adr ω 17))]) rfl ?_
        refine G_goto (tgt := 2) C dX8_wantedFinder_25 (by decide) ?_
        refine G_sub [1, 2, 0] (lv' := [(0, .ref (adr ω 22)), (1, .ref (adr ω 17)), (2, .int v1)]) rfl ?_
        exact k2 _ _ h
      · have h := h2 c
        clear h1 h2
        refine G_iconst (v := 1) C dX8_wantedFinder_20 (by decide) ?_
        exact R 21 _ _ _ dX8_wantedFinder_21 rfl h
set_option maxRecDepth 100000 in
set_option maxHeartbeats 4000000 in
theorem S_X8_wantedFinder {ω : WD} {M : Mem} {post : Int32 → Mem → Prop} (h : w_X8_wantedFinder M post) : MtI ω yX8_wantedFinder cX8_wantedFinder 3 (some .boolean) 0 [.ref (adr ω 22), .ref (adr ω 17)] M post := by
  refine MtI.start (ty := .boolean) rfl (by decide +kernel) (own := RX8) rfl (Nat.le_of_ble_eq_true rfl) (fun ρ C R => ?_)
  show G ω ρ M 0 [(0, .ref (adr ω 22)), (1, .ref (adr ω 17))] []
  refine G_iconst (v := 0) C dX8_wantedFinder_0 (by decide) ?_
  refine G_istore_n C dX8_wantedFinder_1 (by decide) (lv' := [(2, .int 0), (0, .ref (adr ω 22)), (1, .ref (adr ω 17))]) rfl ?_
  refine G_sub [1, 2, 0] (lv' := [(0, .ref (adr ω 22)), (1, .ref (adr ω 17)), (2, .int 0)]) rfl ?_
  obtain ⟨f, h⟩ := h
  exact s_X8_wantedFinder_L2 C R  f _ _ h
theorem dX8_isAsSeen_0 : decode cX8_isAsSeen 0 = .ok (.iconst 0, 1) := by decide +kernel
theorem dX8_isAsSeen_1 : decode cX8_isAsSeen 1 = .ok (.istore_n 2, 1) := by decide +kernel
theorem dX8_isAsSeen_2 : decode cX8_isAsSeen 2 = .ok (.iload_n 2, 1) := by decide +kernel
theorem dX8_isAsSeen_3 : decode cX8_isAsSeen 3 = .ok (.aload_n 1, 1) := by decide +kernel
theorem dX8_isAsSeen_4 : decode cX8_isAsSeen 4 = .ok (.getfield 64, 3) := by decide +kernel
theorem dX8_isAsSeen_7 : decode cX8_isAsSeen 7 = .ok (.if_icmp .ge 41, 3) := by decide +kernel
theorem dX8_isAsSeen_10 : decode cX8_isAsSeen 10 = .ok (.aload_n 1, 1) := by decide +kernel
theorem dX8_isAsSeen_11 : decode cX8_isAsSeen 11 = .ok (.getfield 67, 3) := by decide +kernel
theorem dX8_isAsSeen_14 : decode cX8_isAsSeen 14 = .ok (.iload_n 2, 1) := by decide +kernel
theorem dX8_isAsSeen_15 : decode cX8_isAsSeen 15 = .ok (.iaload, 1) := by decide +kernel
theorem dX8_isAsSeen_16 : decode cX8_isAsSeen 16 = .ok (.istore_n 3, 1) := by decide +kernel
theorem dX8_isAsSeen_17 : decode cX8_isAsSeen 17 = .ok (.iload_n 3, 1) := by decide +kernel
theorem dX8_isAsSeen_18 : decode cX8_isAsSeen 18 = .ok (.aload_n 1, 1) := by decide +kernel
theorem dX8_isAsSeen_19 : decode cX8_isAsSeen 19 = .ok (.getfield 35, 3) := by decide +kernel
theorem dX8_isAsSeen_22 : decode cX8_isAsSeen 22 = .ok (.if_icmp .ge 18, 3) := by decide +kernel
theorem dX8_isAsSeen_25 : decode cX8_isAsSeen 25 = .ok (.aload_n 0, 1) := by decide +kernel
theorem dX8_isAsSeen_26 : decode cX8_isAsSeen 26 = .ok (.getfield 18, 3) := by decide +kernel
theorem dX8_isAsSeen_29 : decode cX8_isAsSeen 29 = .ok (.iload_n 3, 1) := by decide +kernel
theorem dX8_isAsSeen_30 : decode cX8_isAsSeen 30 = .ok (.iaload, 1) := by decide +kernel
theorem dX8_isAsSeen_31 : decode cX8_isAsSeen 31 = .ok (.aload_n 1, 1) := by decide +kernel
theorem dX8_isAsSeen_32 : decode cX8_isAsSeen 32 = .ok (.getfield 70, 3) := by decide +kernel
theorem dX8_isAsSeen_35 : decode cX8_isAsSeen 35 = .ok (.iload_n 2, 1) := by decide +kernel
theorem dX8_isAsSeen_36 : decode cX8_isAsSeen 36 = .ok (.iaload, 1) := by decide +kernel
theorem dX8_isAsSeen_37 : decode cX8_isAsSeen 37 = .ok (.if_icmp .eq 5, 3) := by decide +kernel
theorem dX8_isAsSeen_40 : decode cX8_isAsSeen 40 = .ok (.iconst 0, 1) := by decide +kernel
theorem dX8_isAsSeen_41 : decode cX8_isAsSeen 41 = .ok (.ireturn, 1) := by decide +kernel
theorem dX8_isAsSeen_42 : decode cX8_isAsSeen 42 = .ok (.iinc 2 1, 3) := by decide +kernel
theorem dX8_isAsSeen_45 : decode cX8_isAsSeen 45 = .ok (.goto (-43), 3) := by decide +kernel
theorem dX8_isAsSeen_48 : decode cX8_isAsSeen 48 = .ok (.iconst 1, 1) := by decide +kernel
theorem dX8_isAsSeen_49 : decode cX8_isAsSeen 49 = .ok (.ireturn, 1) := by decide +kernel
theorem gf_X8_64 {ω : WD} {ρ : FR} {M : Mem} {cc : ByteArray} {d n pc i : Nat} {lv : List (Nat × Value)} {rest : List Value} (C : Cx ω ρ cc RX8 d n) (hk : isK 5 i) (hd : decode cc pc = .ok (.getfield 64, 3)) (k : G ω ρ M (pc + 3) lv (.int (rd M i 1) :: rest)) : G ω ρ M pc lv (.ref (adr ω i) :: rest) := G_get (N := 6) (T := TX5) (C := RX5) (q := 1) C hk (by decide) rfl in_X5 (by decide) (tb_of 179 ⟨by decide +kernel, rfl⟩) rfl rfl hd k
theorem gf_X8_67 {ω : WD} {ρ : FR} {M : Mem} {cc : ByteArray} {d n pc i : Nat} {lv : List (Nat × Value)} {rest : List Value} (C : Cx ω ρ cc RX8 d n) (hk : isK 5 i) (hd : decode cc pc = .ok (.getfield 67, 3)) (k : G ω ρ M (pc + 3) lv (.ref (adr ω (i + 3)) :: rest)) : G ω ρ M pc lv (.ref (adr ω i) :: rest) := G_get (N := 6) (T := TX5) (C := RX5) (q := 4) C hk (by decide) rfl in_X5 (by decide) (tb_of 189 ⟨by decide +kernel, rfl⟩) rfl rfl hd k
theorem gf_X8_70 {ω : WD} {ρ : FR} {M : Mem} {cc : ByteArray} {d n pc i : Nat} {lv : List (Nat × Value)} {rest : List Value} (C : Cx ω ρ cc RX8 d n) (hk : isK 5 i) (hd : decode cc pc = .ok (.getfield 70, 3)) (k : G ω ρ M (pc + 3) lv (.ref (adr ω (i + 4)) :: rest)) : G ω ρ M pc lv (.ref (adr ω i) :: rest) := G_get (N := 6) (T := TX5) (C := RX5) (q := 5) C hk (by decide) rfl in_X5 (by decide) (tb_of 192 ⟨by decide +kernel, rfl⟩) rfl rfl hd k
set_option maxRecDepth 100000 in
set_option maxHeartbeats 4000000 in
theorem s_X8_isAsSeen_L2 {ω : WD} {ρ : FR} {post : Int32 → Mem → Prop} (C : Cx ω ρ cX8_isAsSeen RX8 0 4) (R : RtI ω ρ cX8_isAsSeen .boolean post) : ∀ (f : Nat) (l2 : Int32) (M : Mem), w_X8_isAsSeen_L2 post f l2 M → G ω ρ M 2 [(0, .ref (adr ω 22)), (1, .ref (adr ω 17)), (2, .int l2)] [] := by
  intro f
  induction f with
  | zero => intro l2 M h; exact False.elim h
  | succ f k2 =>
    intro l2 M h
    refine G_iload_n C dX8_isAsSeen_2 2 rfl ?_
    refine G_aload_n C dX8_isAsSeen_3 1 rfl ?_
    refine gf_X8_64 C q17 dX8_isAsSeen_4 ?_
    obtain ⟨h1, h2⟩ := h
    refine G_icmp_ge (tgt := 48) C dX8_isAsSeen_7 (by decide) (fun c => ?_) (fun c => ?_)
    · have h := h1 c
      clear h1 h2
      refine G_iconst (v := 1) C dX8_isAsSeen_48 (by decide) ?_
      exact R 49 _ _ _ dX8_isAsSeen_49 rfl h
    · have h := h2 c
      clear h1 h2
      refine G_aload_n C dX8_isAsSeen_10 1 rfl ?_
      refine gf_X8_67 C q17 dX8_isAsSeen_11 ?_
      refine G_iload_n C dX8_isAsSeen_14 2 rfl ?_
      obtain ⟨hi, h⟩ := h
      refine G_iald C q20 hi rfl dX8_isAsSeen_15 ?_
      refine G_iname (fun v1 ev1 => ?_)
      replace h := h v1 ev1
      refine G_istore_n C dX8_isAsSeen_16 (by decide) (lv' := [(3, .int v1), (0, .ref (adr ω 22)), (1, .ref (adr ω 17)), (2, .int l2)]) rfl ?_
      refine G_iload_n C dX8_isAsSeen_17 0 rfl ?_
      refine G_aload_n C dX8_isAsSeen_18 2 rfl ?_
      refine gf_X8_35 C q17 dX8_isAsSeen_19 ?_
      obtain ⟨h1, h2⟩ := h
      refine G_icmp_ge (tgt := 40) C dX8_isAsSeen_22 (by decide) (fun c => ?_) (fun c => ?_)
      · have h := h1 c
        clear h1 h2
        refine G_iconst (v := 0) C dX8_isAsSeen_40 (by decide) ?_
        exact R 41 _ _ _ dX8_isAsSeen_41 rfl h
      · have h := h2 c
        clear h1 h2
        refine G_aload_n C dX8_isAsSeen_25 1 rfl ?_
        refine gf_X8_18 C dX8_isAsSeen_26 ?_
        refine G_iload_n C dX8_isAsSeen_29 0 rfl ?_
        obtain ⟨hi, h⟩ := h
        refine G_iald C q39 hi rfl dX8_isAsSeen_30 ?_
        refine G_aload_n C dX8_isAsSeen_31 2 rfl ?_
        refine gf_X8_70 C q17 dX8_isAsSeen_32 ?_
        refine G_iload_n C dX8_isAsSeen_35 3 rfl ?_
        obtain ⟨hi, h⟩ := h
        refine G_iald C q21 hi rfl dX8_isAsSeen_36 ?_
        obtain ⟨h1, h2⟩ := h
        refine G_icmp_eq (tgt := 42) C dX8_isAsSeen_37 (by decide) (fun c => ?_) (fun c => ?_)
        · have h := h1 c
          clear h1 h2
          obtain ⟨v2, ev2⟩ : ∃ y : Int32, y = (l2 + 1) := ⟨_, rfl⟩
          replace h := h v2 ev2
          refine G_iinc C dX8_isAsSeen_42 3 rfl (v := v2) (by rw [ev2]; rfl) (by decide) (lv' := [(2, .int v2), (3, .int v1), (0, .ref (adr ω 22)), (1, .ref (adr ω 17))]) rfl ?_
          refine G_goto (tgt := 2) C dX8_isAsSeen_45 (by decide) ?_
          refine G_sub [2, 3, 0] (lv' := [(0, .ref (adr ω 22)), (1, .ref (adr ω 17)), (2, .int v2)]) rfl ?_
          exact k2 _ _ h
        · have h := h2 c
          clear h1 h2
          refine G_iconst (v := 0) C dX8_isAsSeen_40 (by decide) ?_
          exact R 41 _ _ _ dX8_isAsSeen_41 rfl h
set_option maxRecDepth 100000 in
set_option maxHeartbeats 4000000 in
theorem S_X8_isAsSeen {ω : WD} {M : Mem} {post : Int32 → Mem → Prop} (h : w_X8_isAsSeen M post) : MtI ω yX8_isAsSeen cX8_isAsSeen 4 (some .boolean) 0 [.ref (adr ω 22), .ref (adr ω 17)] M post := by
  refine MtI.start (ty := .boolean) rfl (by decide +kernel) (own := RX8) rfl (Nat.le_of_ble_eq_true rfl) (fun ρ C R => ?_)
  show G ω ρ M 0 [(0, .ref (adr ω 22)), (1, .ref (adr ω 17))] []
  refine G_iconst (v := 0) C dX8_isAsSeen_0 (by decide) ?_
  refine G_istore_n C dX8_isAsSeen_1 (by decide) (lv' := [(2, .int 0), (0, .ref (adr ω 22)), (1, .ref (adr ω 17))]) rfl ?_
  refine G_sub [1, 2, 0] (lv' := [(0, .ref (adr ω 22)), (1, .ref (adr ω 17)), (2, .int 0)]) rfl ?_
  obtain ⟨f, h⟩ := h
  exact s_X8_isAsSeen_L2 C R  f _ _ h
