theorem dX10_in_0 : decode cX10_in 0 = .ok (.lload_n 0, 1) := by decide +kernel
theorem dX10_in_1 : decode cX10_in 1 = .ok (.lload_n 2, 1) := by decide +kernel
theorem dX10_in_2 : decode cX10_in 2 = .ok (.lcmp, 1) := by decide +kernel
theorem dX10_in_3 : decode cX10_in 3 = .ok (.ifCond .lt 14, 3) := by decide +kernel
theorem dX10_in_6 : decode cX10_in 6 = .ok (.lload_n 0, 1) := by decide +kernel
theorem dX10_in_7 : decode cX10_in 7 = .ok (.lload 4, 2) := by decide +kernel
theorem dX10_in_9 : decode cX10_in 9 = .ok (.lcmp, 1) := by decide +kernel
theorem dX10_in_10 : decode cX10_in 10 = .ok (.ifCond .gt 7, 3) := by decide +kernel
theorem dX10_in_13 : decode cX10_in 13 = .ok (.iconst 1, 1) := by decide +kernel
theorem dX10_in_14 : decode cX10_in 14 = .ok (.goto 4, 3) := by decide +kernel
theorem dX10_in_17 : decode cX10_in 17 = .ok (.iconst 0, 1) := by decide +kernel
theorem dX10_in_18 : decode cX10_in 18 = .ok (.ireturn, 1) := by decide +kernel
set_option maxRecDepth 100000 in
set_option maxHeartbeats 4000000 in
theorem S_X10_in {ω : WD} {l0 : Int64} {l2 : Int64} {l4 : Int64} {M : Mem} {post : Int32 → Mem → Prop} (h : w_X10_in l0 l2 l4 M post) : MtI ω yX10_in cX10_in 6 (some .boolean) 0 [.long l0, .long l2, .long l4] M post := by
  refine MtI.start (ty := .boolean) rfl (by decide +kernel) (own := RX10) rfl (Nat.le_of_ble_eq_true rfl) (fun ρ C R => ?_)
  show G ω ρ M 0 [(0, .long l0), (2, .long l2), (4, .long l4)] []
  refine G_lload_n C dX10_in_0 0 rfl ?_
  refine G_lload_n C dX10_in_1 1 rfl ?_
  refine G_lcmp C dX10_in_2 ?_
  obtain ⟨h1, h2⟩ := h
  refine G_if_lt (tgt := 17) C dX10_in_3 (by decide) (fun c => ?_) (fun c => ?_)
  · have h := h1 c
    clear h1 h2
    refine G_iconst (v := 0) C dX10_in_17 (by decide) ?_
    exact R 18 _ _ _ dX10_in_18 rfl h
  · have h := h2 c
    clear h1 h2
    refine G_lload_n C dX10_in_6 0 rfl ?_
    refine G_lload C dX10_in_7 2 rfl ?_
    refine G_lcmp C dX10_in_9 ?_
    obtain ⟨h1, h2⟩ := h
    refine G_if_gt (tgt := 17) C dX10_in_10 (by decide) (fun c => ?_) (fun c => ?_)
    · have h := h1 c
      clear h1 h2
      refine G_iconst (v := 0) C dX10_in_17 (by decide) ?_
      exact R 18 _ _ _ dX10_in_18 rfl h
    · have h := h2 c
      clear h1 h2
      refine G_iconst (v := 1) C dX10_in_13 (by decide) ?_
      refine G_goto (tgt := 18) C dX10_in_14 (by decide) ?_
      exact R 18 _ _ _ dX10_in_18 rfl h
theorem dX10_flag_0 : decode cX10_flag 0 = .ok (.iload_n 0, 1) := by decide +kernel
theorem dX10_flag_1 : decode cX10_flag 1 = .ok (.ifCond .eq 7, 3) := by decide +kernel
theorem dX10_flag_4 : decode cX10_flag 4 = .ok (.iconst 1, 1) := by decide +kernel
theorem dX10_flag_5 : decode cX10_flag 5 = .ok (.goto 4, 3) := by decide +kernel
theorem dX10_flag_8 : decode cX10_flag 8 = .ok (.iconst 0, 1) := by decide +kernel
theorem dX10_flag_9 : decode cX10_flag 9 = .ok (.ireturn, 1) := by decide +kernel
set_option maxRecDepth 100000 in
set_option maxHeartbeats 4000000 in
theorem S_X10_flag {ω : WD} {l0 : Int32} {M : Mem} {post : Int32 → Mem → Prop} (h : w_X10_flag l0 M post) : MtI ω yX10_flag cX10_flag 1 (some .int) 0 [.int l0] M post := by
  refine MtI.start (ty := .int) rfl (by decide +kernel) (own := RX10) rfl (Nat.le_of_ble_eq_true rfl) (fun ρ C R => ?_)
  show G ω ρ M 0 [(0, .int l0)] []
  refine G_iload_n C dX10_flag_0 0 rfl ?_
  obtain ⟨h1, h2⟩ := h
  refine G_if_eq (tgt := 8) C dX10_flag_1 (by decide) (fun c => ?_) (fun c => ?_)
  · have h := h1 c
    clear h1 h2
    refine G_iconst (v := 0) C dX10_flag_8 (by decide) ?_
    exact R 9 _ _ _ dX10_flag_9 rfl h
  · have h := h2 c
    clear h1 h2
    refine G_iconst (v := 1) C dX10_flag_4 (by decide) ?_
    refine G_goto (tgt := 9) C dX10_flag_5 (by decide) ?_
    exact R 9 _ _ _ dX10_flag_9 rfl h
theorem dX10_isNumber_0 : decode cX10_isNumber 0 = .ok (.iload_n 0, 1) := by decide +kernel
theorem dX10_isNumber_1 : decode cX10_isNumber 1 = .ok (.bipush 10, 2) := by decide +kernel
theorem dX10_isNumber_3 : decode cX10_isNumber 3 = .ok (.idiv, 1) := by decide +kernel
theorem dX10_isNumber_4 : decode cX10_isNumber 4 = .ok (.i2l, 1) := by decide +kernel
theorem dX10_isNumber_5 : decode cX10_isNumber 5 = .ok (.lconst 0, 1) := by decide +kernel
theorem dX10_isNumber_6 : decode cX10_isNumber 6 = .ok (.ldc2_w 50, 3) := by decide +kernel
theorem dX10_isNumber_9 : decode cX10_isNumber 9 = .ok (.invokestatic 52, 3) := by decide +kernel
theorem dX10_isNumber_12 : decode cX10_isNumber 12 = .ok (.ifCond .eq 26, 3) := by decide +kernel
theorem dX10_isNumber_15 : decode cX10_isNumber 15 = .ok (.iload_n 0, 1) := by decide +kernel
theorem dX10_isNumber_16 : decode cX10_isNumber 16 = .ok (.bipush 10, 2) := by decide +kernel
theorem dX10_isNumber_18 : decode cX10_isNumber 18 = .ok (.irem, 1) := by decide +kernel
theorem dX10_isNumber_19 : decode cX10_isNumber 19 = .ok (.i2l, 1) := by decide +kernel
theorem dX10_isNumber_20 : decode cX10_isNumber 20 = .ok (.lconst 0, 1) := by decide +kernel
theorem dX10_isNumber_21 : decode cX10_isNumber 21 = .ok (.ldc2_w 50, 3) := by decide +kernel
theorem dX10_isNumber_24 : decode cX10_isNumber 24 = .ok (.invokestatic 52, 3) := by decide +kernel
theorem dX10_isNumber_27 : decode cX10_isNumber 27 = .ok (.ifCond .eq 11, 3) := by decide +kernel
theorem dX10_isNumber_30 : decode cX10_isNumber 30 = .ok (.iload_n 0, 1) := by decide +kernel
theorem dX10_isNumber_31 : decode cX10_isNumber 31 = .ok (.ifCond .lt 7, 3) := by decide +kernel
theorem dX10_isNumber_34 : decode cX10_isNumber 34 = .ok (.iconst 1, 1) := by decide +kernel
theorem dX10_isNumber_35 : decode cX10_isNumber 35 = .ok (.goto 4, 3) := by decide +kernel
theorem dX10_isNumber_38 : decode cX10_isNumber 38 = .ok (.iconst 0, 1) := by decide +kernel
theorem dX10_isNumber_39 : decode cX10_isNumber 39 = .ok (.ireturn, 1) := by decide +kernel
theorem lk_X10_52 : LkS RX10 52 yX10_in cX10_in 6 (some .boolean) 3 := LkS.of 1067 1068 71 1069 (by decide +kernel) (by decide +kernel) (by decide +kernel) (by decide +kernel) (by decide +kernel)
set_option maxRecDepth 100000 in
set_option maxHeartbeats 4000000 in
theorem S_X10_isNumber {ω : WD} {l0 : Int32} {M : Mem} {post : Int32 → Mem → Prop} (h : w_X10_isNumber l0 M post) : MtI ω yX10_isNumber cX10_isNumber 1 (some .boolean) 1 [.int l0] M post := by
  refine MtI.start (ty := .boolean) rfl (by decide +kernel) (own := RX10) rfl (Nat.le_of_ble_eq_true rfl) (fun ρ C R => ?_)
  show G ω ρ M 0 [(0, .int l0)] []
  refine G_iload_n C dX10_isNumber_0 0 rfl ?_
  refine G_bipush (v := 10) C dX10_isNumber_1 (by decide) ?_
  refine G_idiv C dX10_isNumber_3 (by decide) ?_
  refine G_i2l C dX10_isNumber_4 ?_
  refine G_lconst (v := 0) C dX10_isNumber_5 (by decide) ?_
  refine G_ldc2 (v := 4) C dX10_isNumber_6 (tb_of 1129 ⟨by decide +kernel, rfl⟩) ?_
  refine G_scallI (As := [.long (((l0 / 10)).toInt64), .long 0, .long 4]) (rest := []) C dX10_isNumber_9 lk_X10_52 (Nat.le_of_ble_eq_true rfl) (Nat.le_of_ble_eq_true rfl) (Nat.le_of_ble_eq_true rfl) rfl (S_X10_in h) (fun r2 M1 h => ?_)
  obtain ⟨h1, h2⟩ := h
  refine G_if_eq (tgt := 38) C dX10_isNumber_12 (by decide) (fun c => ?_) (fun c => ?_)
  · have h := h1 c
    clear h1 h2
    refine G_iconst (v := 0) C dX10_isNumber_38 (by decide) ?_
    exact R 39 _ _ _ dX10_isNumber_39 rfl h
  · have h := h2 c
    clear h1 h2
    refine G_iload_n C dX10_isNumber_15 0 rfl ?_
    refine G_bipush (v := 10) C dX10_isNumber_16 (by decide) ?_
    refine G_irem C dX10_isNumber_18 (by decide) ?_
    refine G_i2l C dX10_isNumber_19 ?_
    refine G_lconst (v := 0) C dX10_isNumber_20 (by decide) ?_
    refine G_ldc2 (v := 4) C dX10_isNumber_21 (tb_of 1129 ⟨by decide +kernel, rfl⟩) ?_
    refine G_scallI (As := [.long (((irem l0 10)).toInt64), .long 0, .long 4]) (rest := []) C dX10_isNumber_24 lk_X10_52 (Nat.le_of_ble_eq_true rfl) (Nat.le_of_ble_eq_true rfl) (Nat.le_of_ble_eq_true rfl) rfl (S_X10_in h) (fun r4 M3 h => ?_)
    obtain ⟨h1, h2⟩ := h
    refine G_if_eq (tgt := 38) C dX10_isNumber_27 (by decide) (fun c => ?_) (fun c => ?_)
    · have h := h1 c
      clear h1 h2
      refine G_iconst (v := 0) C dX10_isNumber_38 (by decide) ?_
      exact R 39 _ _ _ dX10_isNumber_39 rfl h
    · have h := h2 c
      clear h1 h2
      refine G_iload_n C dX10_isNumber_30 0 rfl ?_
      obtain ⟨h1, h2⟩ := h
      refine G_if_lt (tgt := 38) C dX10_isNumber_31 (by decide) (fun c => ?_) (fun c => ?_)
      · have h := h1 c
        clear h1 h2
        refine G_iconst (v := 0) C dX10_isNumber_38 (by decide) ?_
        exact R 39 _ _ _ dX10_isNumber_39 rfl h
      · have h := h2 c
        clear h1 h2
        refine G_iconst (v := 1) C dX10_isNumber_34 (by decide) ?_
        refine G_goto (tgt := 39) C dX10_isNumber_35 (by decide) ?_
        exact R 39 _ _ _ dX10_isNumber_39 rfl h
theorem dX10_isDialled_0 : decode cX10_isDialled 0 = .ok (.iload_n 0, 1) := by decide +kernel
theorem dX10_isDialled_1 : decode cX10_isDialled 1 = .ok (.bipush 99, 2) := by decide +kernel
theorem dX10_isDialled_3 : decode cX10_isDialled 3 = .ok (.if_icmp .eq 10, 3) := by decide +kernel
theorem dX10_isDialled_6 : decode cX10_isDialled 6 = .ok (.iload_n 0, 1) := by decide +kernel
theorem dX10_isDialled_7 : decode cX10_isDialled 7 = .ok (.invokestatic 56, 3) := by decide +kernel
theorem dX10_isDialled_10 : decode cX10_isDialled 10 = .ok (.ifCond .eq 7, 3) := by decide +kernel
theorem dX10_isDialled_13 : decode cX10_isDialled 13 = .ok (.iconst 1, 1) := by decide +kernel
theorem dX10_isDialled_14 : decode cX10_isDialled 14 = .ok (.goto 4, 3) := by decide +kernel
theorem dX10_isDialled_17 : decode cX10_isDialled 17 = .ok (.iconst 0, 1) := by decide +kernel
theorem dX10_isDialled_18 : decode cX10_isDialled 18 = .ok (.ireturn, 1) := by decide +kernel
theorem lk_X10_56 : LkS RX10 56 yX10_isNumber cX10_isNumber 1 (some .boolean) 1 := LkS.of 1126 1127 71 1128 (by decide +kernel) (by decide +kernel) (by decide +kernel) (by decide +kernel) (by decide +kernel)
set_option maxRecDepth 100000 in
set_option maxHeartbeats 4000000 in
theorem s_X10_isDialled_J13 {ω : WD} {ρ : FR} {post : Int32 → Mem → Prop} (C : Cx ω ρ cX10_isDialled RX10 2 1) (R : RtI ω ρ cX10_isDialled .boolean post) {M : Mem} (h : w_X10_isDialled_J13 post M) : G ω ρ M 13 [] [] := by
  refine G_iconst (v := 1) C dX10_isDialled_13 (by decide) ?_
  refine G_goto (tgt := 18) C dX10_isDialled_14 (by decide) ?_
  exact R 18 _ _ _ dX10_isDialled_18 rfl h
set_option maxRecDepth 100000 in
set_option maxHeartbeats 4000000 in
theorem S_X10_isDialled {ω : WD} {l0 : Int32} {M : Mem} {post : Int32 → Mem → Prop} (h : w_X10_isDialled l0 M post) : MtI ω yX10_isDialled cX10_isDialled 1 (some .boolean) 2 [.int l0] M post := by
  refine MtI.start (ty := .boolean) rfl (by decide +kernel) (own := RX10) rfl (Nat.le_of_ble_eq_true rfl) (fun ρ C R => ?_)
  show G ω ρ M 0 [(0, .int l0)] []
  refine G_iload_n C dX10_isDialled_0 0 rfl ?_
  refine G_bipush (v := 99) C dX10_isDialled_1 (by decide) ?_
  obtain ⟨h1, h2⟩ := h
  refine G_icmp_eq (tgt := 13) C dX10_isDialled_3 (by decide) (fun c => ?_) (fun c => ?_)
  · have h := h1 c
    clear h1 h2
    refine G_sub [] (lv' := []) rfl ?_
    exact s_X10_isDialled_J13 C R  h
  · have h := h2 c
    clear h1 h2
    refine G_iload_n C dX10_isDialled_6 0 rfl ?_
    refine G_scallI (As := [.int l0]) (rest := []) C dX10_isDialled_7 lk_X10_56 (Nat.le_of_ble_eq_true rfl) (Nat.le_of_ble_eq_true rfl) (Nat.le_of_ble_eq_true rfl) rfl (S_X10_isNumber h) (fun r2 M1 h => ?_)
    obtain ⟨h1, h2⟩ := h
    refine G_if_eq (tgt := 17) C dX10_isDialled_10 (by decide) (fun c => ?_) (fun c => ?_)
    · have h := h1 c
      clear h1 h2
      refine G_iconst (v := 0) C dX10_isDialled_17 (by decide) ?_
      exact R 18 _ _ _ dX10_isDialled_18 rfl h
    · have h := h2 c
      clear h1 h2
      refine G_sub [] (lv' := []) rfl ?_
      exact s_X10_isDialled_J13 C R  h
theorem dX10_firstDraft_0 : decode cX10_firstDraft 0 = .ok (.iconst 0, 1) := by decide +kernel
theorem dX10_firstDraft_1 : decode cX10_firstDraft 1 = .ok (.istore_n 1, 1) := by decide +kernel
theorem dX10_firstDraft_2 : decode cX10_firstDraft 2 = .ok (.iload_n 1, 1) := by decide +kernel
theorem dX10_firstDraft_3 : decode cX10_firstDraft 3 = .ok (.bipush 96, 2) := by decide +kernel
theorem dX10_firstDraft_5 : decode cX10_firstDraft 5 = .ok (.if_icmp .ge 16, 3) := by decide +kernel
theorem dX10_firstDraft_8 : decode cX10_firstDraft 8 = .ok (.aload_n 0, 1) := by decide +kernel
theorem dX10_firstDraft_9 : decode cX10_firstDraft 9 = .ok (.getfield 20, 3) := by decide +kernel
theorem dX10_firstDraft_12 : decode cX10_firstDraft 12 = .ok (.iload_n 1, 1) := by decide +kernel
theorem dX10_firstDraft_13 : decode cX10_firstDraft 13 = .ok (.iconst 0, 1) := by decide +kernel
theorem dX10_firstDraft_14 : decode cX10_firstDraft 14 = .ok (.iastore, 1) := by decide +kernel
theorem dX10_firstDraft_15 : decode cX10_firstDraft 15 = .ok (.iinc 1 1, 3) := by decide +kernel
theorem dX10_firstDraft_18 : decode cX10_firstDraft 18 = .ok (.goto (-16), 3) := by decide +kernel
theorem dX10_firstDraft_21 : decode cX10_firstDraft 21 = .ok (.iconst 0, 1) := by decide +kernel
theorem dX10_firstDraft_22 : decode cX10_firstDraft 22 = .ok (.istore_n 1, 1) := by decide +kernel
theorem dX10_firstDraft_23 : decode cX10_firstDraft 23 = .ok (.iload_n 1, 1) := by decide +kernel
theorem dX10_firstDraft_24 : decode cX10_firstDraft 24 = .ok (.bipush 6, 2) := by decide +kernel
theorem dX10_firstDraft_26 : decode cX10_firstDraft 26 = .ok (.if_icmp .ge 33, 3) := by decide +kernel
theorem dX10_firstDraft_29 : decode cX10_firstDraft 29 = .ok (.aload_n 0, 1) := by decide +kernel
theorem dX10_firstDraft_30 : decode cX10_firstDraft 30 = .ok (.getfield 20, 3) := by decide +kernel
theorem dX10_firstDraft_33 : decode cX10_firstDraft 33 = .ok (.iconst 4, 1) := by decide +kernel
theorem dX10_firstDraft_34 : decode cX10_firstDraft 34 = .ok (.iload_n 1, 1) := by decide +kernel
theorem dX10_firstDraft_35 : decode cX10_firstDraft 35 = .ok (.imul, 1) := by decide +kernel
theorem dX10_firstDraft_36 : decode cX10_firstDraft 36 = .ok (.iconst 1, 1) := by decide +kernel
theorem dX10_firstDraft_37 : decode cX10_firstDraft 37 = .ok (.iadd, 1) := by decide +kernel
theorem dX10_firstDraft_38 : decode cX10_firstDraft 38 = .ok (.bipush (-4), 2) := by decide +kernel
theorem dX10_firstDraft_40 : decode cX10_firstDraft 40 = .ok (.iastore, 1) := by decide +kernel
theorem dX10_firstDraft_41 : decode cX10_firstDraft 41 = .ok (.aload_n 0, 1) := by decide +kernel
theorem dX10_firstDraft_42 : decode cX10_firstDraft 42 = .ok (.getfield 20, 3) := by decide +kernel
theorem dX10_firstDraft_45 : decode cX10_firstDraft 45 = .ok (.iconst 4, 1) := by decide +kernel
theorem dX10_firstDraft_46 : decode cX10_firstDraft 46 = .ok (.iload_n 1, 1) := by decide +kernel
theorem dX10_firstDraft_47 : decode cX10_firstDraft 47 = .ok (.imul, 1) := by decide +kernel
theorem dX10_firstDraft_48 : decode cX10_firstDraft 48 = .ok (.iconst 3, 1) := by decide +kernel
theorem dX10_firstDraft_49 : decode cX10_firstDraft 49 = .ok (.iadd, 1) := by decide +kernel
theorem dX10_firstDraft_50 : decode cX10_firstDraft 50 = .ok (.bipush (-4), 2) := by decide +kernel
theorem dX10_firstDraft_52 : decode cX10_firstDraft 52 = .ok (.iastore, 1) := by decide +kernel
theorem dX10_firstDraft_53 : decode cX10_firstDraft 53 = .ok (.iinc 1 1, 3) := by decide +kernel
theorem dX10_firstDraft_56 : decode cX10_firstDraft 56 = .ok (.goto (-33), 3) := by decide +kernel
theorem dX10_firstDraft_59 : decode cX10_firstDraft 59 = .ok (.iconst 0, 1) := by decide +kernel
theorem dX10_firstDraft_60 : decode cX10_firstDraft 60 = .ok (.istore_n 1, 1) := by decide +kernel
theorem dX10_firstDraft_61 : decode cX10_firstDraft 61 = .ok (.iload_n 1, 1) := by decide +kernel
theorem dX10_firstDraft_62 : decode cX10_firstDraft 62 = .ok (.iconst 5, 1) := by decide +kernel
theorem dX10_firstDraft_63 : decode cX10_firstDraft 63 = .ok (.if_icmp .ge 38, 3) := by decide +kernel
theorem dX10_firstDraft_66 : decode cX10_firstDraft 66 = .ok (.aload_n 0, 1) := by decide +kernel
theorem dX10_firstDraft_67 : decode cX10_firstDraft 67 = .ok (.getfield 20, 3) := by decide +kernel
theorem dX10_firstDraft_70 : decode cX10_firstDraft 70 = .ok (.bipush 26, 2) := by decide +kernel
theorem dX10_firstDraft_72 : decode cX10_firstDraft 72 = .ok (.iconst 4, 1) := by decide +kernel
theorem dX10_firstDraft_73 : decode cX10_firstDraft 73 = .ok (.iload_n 1, 1) := by decide +kernel
theorem dX10_firstDraft_74 : decode cX10_firstDraft 74 = .ok (.imul, 1) := by decide +kernel
theorem dX10_firstDraft_75 : decode cX10_firstDraft 75 = .ok (.iadd, 1) := by decide +kernel
theorem dX10_firstDraft_76 : decode cX10_firstDraft 76 = .ok (.iconst 1, 1) := by decide +kernel
theorem dX10_firstDraft_77 : decode cX10_firstDraft 77 = .ok (.iadd, 1) := by decide +kernel
theorem dX10_firstDraft_78 : decode cX10_firstDraft 78 = .ok (.iconst 1, 1) := by decide +kernel
theorem dX10_firstDraft_79 : decode cX10_firstDraft 79 = .ok (.iastore, 1) := by decide +kernel
theorem dX10_firstDraft_80 : decode cX10_firstDraft 80 = .ok (.aload_n 0, 1) := by decide +kernel
theorem dX10_firstDraft_81 : decode cX10_firstDraft 81 = .ok (.getfield 20, 3) := by decide +kernel
theorem dX10_firstDraft_84 : decode cX10_firstDraft 84 = .ok (.bipush 26, 2) := by decide +kernel
theorem dX10_firstDraft_86 : decode cX10_firstDraft 86 = .ok (.iconst 4, 1) := by decide +kernel
theorem dX10_firstDraft_87 : decode cX10_firstDraft 87 = .ok (.iload_n 1, 1) := by decide +kernel
theorem dX10_firstDraft_88 : decode cX10_firstDraft 88 = .ok (.imul, 1) := by decide +kernel
theorem dX10_firstDraft_89 : decode cX10_firstDraft 89 = .ok (.iadd, 1) := by decide +kernel
theorem dX10_firstDraft_90 : decode cX10_firstDraft 90 = .ok (.iconst 3, 1) := by decide +kernel
theorem dX10_firstDraft_91 : decode cX10_firstDraft 91 = .ok (.iadd, 1) := by decide +kernel
theorem dX10_firstDraft_92 : decode cX10_firstDraft 92 = .ok (.bipush (-4), 2) := by decide +kernel
theorem dX10_firstDraft_94 : decode cX10_firstDraft 94 = .ok (.iastore, 1) := by decide +kernel
theorem dX10_firstDraft_95 : decode cX10_firstDraft 95 = .ok (.iinc 1 1, 3) := by decide +kernel
theorem dX10_firstDraft_98 : decode cX10_firstDraft 98 = .ok (.goto (-37), 3) := by decide +kernel
theorem dX10_firstDraft_101 : decode cX10_firstDraft 101 = .ok (.aload_n 0, 1) := by decide +kernel
theorem dX10_firstDraft_102 : decode cX10_firstDraft 102 = .ok (.getfield 20, 3) := by decide +kernel
theorem dX10_firstDraft_105 : decode cX10_firstDraft 105 = .ok (.bipush 25, 2) := by decide +kernel
theorem dX10_firstDraft_107 : decode cX10_firstDraft 107 = .ok (.iconst 2, 1) := by decide +kernel
theorem dX10_firstDraft_108 : decode cX10_firstDraft 108 = .ok (.iastore, 1) := by decide +kernel
theorem dX10_firstDraft_109 : decode cX10_firstDraft 109 = .ok (.aload_n 0, 1) := by decide +kernel
theorem dX10_firstDraft_110 : decode cX10_firstDraft 110 = .ok (.iconst 0, 1) := by decide +kernel
theorem dX10_firstDraft_111 : decode cX10_firstDraft 111 = .ok (.putfield 60, 3) := by decide +kernel
theorem dX10_firstDraft_114 : decode cX10_firstDraft 114 = .ok (.aload_n 0, 1) := by decide +kernel
theorem dX10_firstDraft_115 : decode cX10_firstDraft 115 = .ok (.iconst 0, 1) := by decide +kernel
theorem dX10_firstDraft_116 : decode cX10_firstDraft 116 = .ok (.putfield 64, 3) := by decide +kernel
theorem dX10_firstDraft_119 : decode cX10_firstDraft 119 = .ok (.aload_n 0, 1) := by decide +kernel
theorem dX10_firstDraft_120 : decode cX10_firstDraft 120 = .ok (.iconst 0, 1) := by decide +kernel
theorem dX10_firstDraft_121 : decode cX10_firstDraft 121 = .ok (.putfield 67, 3) := by decide +kernel
theorem dX10_firstDraft_124 : decode cX10_firstDraft 124 = .ok (.aload_n 0, 1) := by decide +kernel
theorem dX10_firstDraft_125 : decode cX10_firstDraft 125 = .ok (.bipush (-4), 2) := by decide +kernel
theorem dX10_firstDraft_127 : decode cX10_firstDraft 127 = .ok (.putfield 71, 3) := by decide +kernel
theorem dX10_firstDraft_130 : decode cX10_firstDraft 130 = .ok (.return_, 1) := by decide +kernel
theorem gf_X10_20 {ω : WD} {ρ : FR} {M : Mem} {cc : ByteArray} {d n pc : Nat} {lv : List (Nat × Value)} {rest : List Value} (C : Cx ω ρ cc RX10 d n) (hd : decode cc pc = .ok (.getfield 20, 3)) (k : G ω ρ M (pc + 3) lv (.ref (adr ω 132) :: rest)) : G ω ρ M pc lv (.ref (adr ω 128) :: rest) := G_get (N := 28) (T := TX10) (C := RX10) (q := 3) C (q128 : isK 10 128) (by decide) rfl in_X10 (by decide) (tb_of 979 ⟨by decide +kernel, rfl⟩) rfl rfl hd k
theorem pf_X10_60 {ω : WD} {ρ : FR} {M : Mem} {cc : ByteArray} {d n pc : Nat} {lv : List (Nat × Value)} {rest : List Value} {v : Int32} (C : Cx ω ρ cc RX10 d n) (hz : zb v) (hd : decode cc pc = .ok (.putfield 60, 3)) (k : ∀ M1, M1 = wr M 128 4 v → G ω ρ M1 (pc + 3) lv rest) : G ω ρ M pc lv (.int v :: .ref (adr ω 128) :: rest) := G_put (N := 28) (T := TX10) (C := RX10) (q := 4) (ty := .boolean) C (q128 : isK 10 128) (by decide) rfl in_X10 tyX10 tyX10_ok nmX10 (by decide) (tb_of 980 ⟨by decide +kernel, rfl⟩) rfl rfl (by decide +kernel) hz.1 hz.2 (fun _ _ => Nat.le_of_ble_eq_true rfl) (fun _ => rfl) hd (k _ rfl)
theorem pf_X10_64 {ω : WD} {ρ : FR} {M : Mem} {cc : ByteArray} {d n pc : Nat} {lv : List (Nat × Value)} {rest : List Value} {v : Int32} (C : Cx ω ρ cc RX10 d n) (hz : zb v) (hd : decode cc pc = .ok (.putfield 64, 3)) (k : ∀ M1, M1 = wr M 128 5 v → G ω ρ M1 (pc + 3) lv rest) : G ω ρ M pc lv (.int v :: .ref (adr ω 128) :: rest) := G_put (N := 28) (T := TX10) (C := RX10) (q := 5) (ty := .boolean) C (q128 : isK 10 128) (by decide) rfl in_X10 tyX10 tyX10_ok nmX10 (by decide) (tb_of 981 ⟨by decide +kernel, rfl⟩) rfl rfl (by decide +kernel) hz.1 hz.2 (fun _ _ => Nat.le_of_ble_eq_true rfl) (fun _ => rfl) hd (k _ rfl)
theorem pf_X10_67 {ω : WD} {ρ : FR} {M : Mem} {cc : ByteArray} {d n pc : Nat} {lv : List (Nat × Value)} {rest : List Value} {v : Int32} (C : Cx ω ρ cc RX10 d n) (hd : decode cc pc = .ok (.putfield 67, 3)) (k : ∀ M1, M1 = wr M 128 6 v → G ω ρ M1 (pc + 3) lv rest) : G ω ρ M pc lv (.int v :: .ref (adr ω 128) :: rest) := G_put (N := 28) (T := TX10) (C := RX10) (q := 6) (ty := .int) C (q128 : isK 10 128) (by decide) rfl in_X10 tyX10 tyX10_ok nmX10 (by decide) (tb_of 982 ⟨by decide +kernel, rfl⟩) rfl rfl (by decide +kernel) rfl rfl (fun _ _ => Nat.le_of_ble_eq_true rfl) (fun _ => rfl) hd (k _ rfl)
theorem pf_X10_71 {ω : WD} {ρ : FR} {M : Mem} {cc : ByteArray} {d n pc : Nat} {lv : List (Nat × Value)} {rest : List Value} {v : Int32} (C : Cx ω ρ cc RX10 d n) (hd : decode cc pc = .ok (.putfield 71, 3)) (k : ∀ M1, M1 = wr M 128 7 v → G ω ρ M1 (pc + 3) lv rest) : G ω ρ M pc lv (.int v :: .ref (adr ω 128) :: rest) := G_put (N := 28) (T := TX10) (C := RX10) (q := 7) (ty := .int) C (q128 : isK 10 128) (by decide) rfl in_X10 tyX10 tyX10_ok nmX10 (by decide) (tb_of 983 ⟨by decide +kernel, rfl⟩) rfl rfl (by decide +kernel) rfl rfl (fun _ _ => Nat.le_of_ble_eq_true rfl) (fun _ => rfl) hd (k _ rfl)
set_option maxRecDepth 100000 in
set_option maxHeartbeats 4000000 in
theorem s_X10_firstDraft_L61 {ω : WD} {ρ : FR} {post : Mem → Prop} (C : Cx ω ρ cX10_firstDraft RX10 0 2) (R : RtV ω ρ cX10_firstDraft post) : ∀ (f : Nat) (l1 : Int32) (M : Mem), w_X10_firstDraft_L61 post f l1 M → G ω ρ M 61 [(0, .ref (adr ω 128)), (1, .int l1)] [] := by
  intro f
  induction f with
  | zero => intro l1 M h; exact False.elim h
  | succ f k61 =>
    intro l1 M h
    refine G_iload_n C dX10_firstDraft_61 1 rfl ?_
    refine G_iconst (v := 5) C dX10_firstDraft_62 (by decide) ?_
    obtain ⟨h1, h2⟩ := h
    refine G_icmp_ge (tgt := 101) C dX10_firstDraft_63 (by decide) (fun c => ?_) (fun c => ?_)
    · have h := h1 c
      clear h1 h2
      refine G_aload_n C dX10_firstDraft_101 0 rfl ?_
      refine gf_X10_20 C dX10_firstDraft_102 ?_
      refine G_bipush (v := 25) C dX10_firstDraft_105 (by decide) ?_
      refine G_iconst (v := 2) C dX10_firstDraft_107 (by decide) ?_
      refine G_iast C q132 (vp_lit rfl) (kk := 25) (by decide +kernel) dX10_firstDraft_108 (G_mname (fun M1 eM1 => ?_))
      replace h := h M1 eM1
      refine G_aload_n C dX10_firstDraft_109 0 rfl ?_
      refine G_iconst (v := 0) C dX10_firstDraft_110 (by decide) ?_
      refine pf_X10_60 C zb_0 dX10_firstDraft_111 (fun M2 eM2 => ?_)
      replace h := h M2 eM2
      refine G_aload_n C dX10_firstDraft_114 0 rfl ?_
      refine G_iconst (v := 0) C dX10_firstDraft_115 (by decide) ?_
      refine pf_X10_64 C zb_0 dX10_firstDraft_116 (fun M3 eM3 => ?_)
      replace h := h M3 eM3
      refine G_aload_n C dX10_firstDraft_119 0 rfl ?_
      refine G_iconst (v := 0) C dX10_firstDraft_120 (by decide) ?_
      refine pf_X10_67 C dX10_firstDraft_121 (fun M4 eM4 => ?_)
      replace h := h M4 eM4
      refine G_aload_n C dX10_firstDraft_124 0 rfl ?_
      refine G_bipush (v := (-4)) C dX10_firstDraft_125 (by decide) ?_
      refine pf_X10_71 C dX10_firstDraft_127 (fun M5 eM5 => ?_)
      replace h := h M5 eM5
      exact R 130 _ _ dX10_firstDraft_130 h
    · have h := h2 c
      clear h1 h2
      refine G_aload_n C dX10_firstDraft_66 0 rfl ?_
      refine gf_X10_20 C dX10_firstDraft_67 ?_
      refine G_bipush (v := 26) C dX10_firstDraft_70 (by decide) ?_
      refine G_iconst (v := 4) C dX10_firstDraft_72 (by decide) ?_
      refine G_iload_n C dX10_firstDraft_73 1 rfl ?_
      refine G_imul C dX10_firstDraft_74 ?_
      refine G_iadd C dX10_firstDraft_75 ?_
      refine G_iconst (v := 1) C dX10_firstDraft_76 (by decide) ?_
      refine G_iadd C dX10_firstDraft_77 ?_
      refine G_iconst (v := 1) C dX10_firstDraft_78 (by decide) ?_
      obtain ⟨hi, h⟩ := h
      refine G_iast C q132 hi rfl dX10_firstDraft_79 (G_mname (fun M6 eM6 => ?_))
      replace h := h M6 eM6
      refine G_aload_n C dX10_firstDraft_80 0 rfl ?_
      refine gf_X10_20 C dX10_firstDraft_81 ?_
      refine G_bipush (v := 26) C dX10_firstDraft_84 (by decide) ?_
      refine G_iconst (v := 4) C dX10_firstDraft_86 (by decide) ?_
      refine G_iload_n C dX10_firstDraft_87 1 rfl ?_
      refine G_imul C dX10_firstDraft_88 ?_
      refine G_iadd C dX10_firstDraft_89 ?_
      refine G_iconst (v := 3) C dX10_firstDraft_90 (by decide) ?_
      refine G_iadd C dX10_firstDraft_91 ?_
      refine G_bipush (v := (-4)) C dX10_firstDraft_92 (by decide) ?_
      obtain ⟨hi, h⟩ := h
      refine G_iast C q132 hi rfl dX10_firstDraft_94 (G_mname (fun M7 eM7 => ?_))
      replace h := h M7 eM7
      obtain ⟨v8, ev8⟩ : ∃ y : Int32, y = (l1 + 1) := ⟨_, rfl⟩
      replace h := h v8 ev8
      refine G_iinc C dX10_firstDraft_95 1 rfl (v := v8) (by rw [ev8]; rfl) (by decide) (lv' := [(1, .int v8), (0, .ref (adr ω 128))]) rfl ?_
      refine G_goto (tgt := 61) C dX10_firstDraft_98 (by decide) ?_
      refine G_sub [1, 0] (lv' := [(0, .ref (adr ω 128)), (1, .int v8)]) rfl ?_
      exact k61 _ _ h
set_option maxRecDepth 100000 in
set_option maxHeartbeats 4000000 in
theorem s_X10_firstDraft_L23 {ω : WD} {ρ : FR} {post : Mem → Prop} (C : Cx ω ρ cX10_firstDraft RX10 0 2) (R : RtV ω ρ cX10_firstDraft post) : ∀ (f : Nat) (l1 : Int32) (M : Mem), w_X10_firstDraft_L23 post f l1 M → G ω ρ M 23 [(0, .ref (adr ω 128)), (1, .int l1)] [] := by
  intro f
  induction f with
  | zero => intro l1 M h; exact False.elim h
  | succ f k23 =>
    intro l1 M h
    refine G_iload_n C dX10_firstDraft_23 1 rfl ?_
    refine G_bipush (v := 6) C dX10_firstDraft_24 (by decide) ?_
    obtain ⟨h1, h2⟩ := h
    refine G_icmp_ge (tgt := 59) C dX10_firstDraft_26 (by decide) (fun c => ?_) (fun c => ?_)
    · have h := h1 c
      clear h1 h2
      refine G_iconst (v := 0) C dX10_firstDraft_59 (by decide) ?_
      refine G_istore_n C dX10_firstDraft_60 (by decide) (lv' := [(1, .int 0), (0, .ref (adr ω 128))]) rfl ?_
      refine G_sub [1, 0] (lv' := [(0, .ref (adr ω 128)), (1, .int 0)]) rfl ?_
      obtain ⟨f, h⟩ := h
      exact s_X10_firstDraft_L61 C R  f _ _ h
    · have h := h2 c
      clear h1 h2
      refine G_aload_n C dX10_firstDraft_29 0 rfl ?_
      refine gf_X10_20 C dX10_firstDraft_30 ?_
      refine G_iconst (v := 4) C dX10_firstDraft_33 (by decide) ?_
      refine G_iload_n C dX10_firstDraft_34 1 rfl ?_
      refine G_imul C dX10_firstDraft_35 ?_
      refine G_iconst (v := 1) C dX10_firstDraft_36 (by decide) ?_
      refine G_iadd C dX10_firstDraft_37 ?_
      refine G_bipush (v := (-4)) C dX10_firstDraft_38 (by decide) ?_
      obtain ⟨hi, h⟩ := h
      refine G_iast C q132 hi rfl dX10_firstDraft_40 (G_mname (fun M9 eM9 => ?_))
      replace h := h M9 eM9
      refine G_aload_n C dX10_firstDraft_41 0 rfl ?_
      refine gf_X10_20 C dX10_firstDraft_42 ?_
      refine G_iconst (v := 4) C dX10_firstDraft_45 (by decide) ?_
      refine G_iload_n C dX10_firstDraft_46 1 rfl ?_
      refine G_imul C dX10_firstDraft_47 ?_
      refine G_iconst (v := 3) C dX10_firstDraft_48 (by decide) ?_
      refine G_iadd C dX10_firstDraft_49 ?_
      refine G_bipush (v := (-4)) C dX10_firstDraft_50 (by decide) ?_
      obtain ⟨hi, h⟩ := h
      refine G_iast C q132 hi rfl dX10_firstDraft_52 (G_mname (fun M10 eM10 => ?_))
      replace h := h M10 eM10
      obtain ⟨v11, ev11⟩ : ∃ y : Int32, y = (l1 + 1) := ⟨_, rfl⟩
      replace h := h v11 ev11
      refine G_iinc C dX10_firstDraft_53 1 rfl (v := v11) (by rw [ev11]; rfl) (by decide) (lv' := [(1, .int v11), (0, .ref (adr ω 128))]) rfl ?_
      refine G_goto (tgt := 23) C dX10_firstDraft_56 (by decide) ?_
      refine G_sub [1, 0] (lv' := [(0, .ref (adr ω 128)), (1, .int v11)]) rfl ?_
      exact k23 _ _ h
set_option maxRecDepth 100000 in
set_option maxHeartbeats 4000000 in
theorem s_X10_firstDraft_L2 {ω : WD} {ρ : FR} {post : Mem → Prop} (C : Cx ω ρ cX10_firstDraft RX10 0 2) (R : RtV ω ρ cX10_firstDraft post) : ∀ (f : Nat) (l1 : Int32) (M : Mem), w_X10_firstDraft_L2 post f l1 M → G ω ρ M 2 [(0, .ref (adr ω 128)), (1, .int l1)] [] := by
  intro f
  induction f with
  | zero => intro l1 M h; exact False.elim h
  | succ f k2 =>
    intro l1 M h
    refine G_iload_n C dX10_firstDraft_2 1 rfl ?_
    refine G_bipush (v := 96) C dX10_firstDraft_3 (by decide) ?_
    obtain ⟨h1, h2⟩ := h
    refine G_icmp_ge (tgt := 21) C dX10_firstDraft_5 (by decide) (fun c => ?_) (fun c => ?_)
    · have h := h1 c
      clear h1 h2
      refine G_iconst (v := 0) C dX10_firstDraft_21 (by decide) ?_
      refine G_istore_n C dX10_firstDraft_22 (by decide) (lv' := [(1, .int 0), (0, .ref (adr ω 128))]) rfl ?_
      refine G_sub [1, 0] (lv' := [(0, .ref (adr ω 128)), (1, .int 0)]) rfl ?_
      obtain ⟨f, h⟩ := h
      exact s_X10_firstDraft_L23 C R  f _ _ h
    · have h := h2 c
      clear h1 h2
      refine G_aload_n C dX10_firstDraft_8 0 rfl ?_
      refine gf_X10_20 C dX10_firstDraft_9 ?_
      refine G_iload_n C dX10_firstDraft_12 1 rfl ?_
      refine G_iconst (v := 0) C dX10_firstDraft_13 (by decide) ?_
      obtain ⟨hi, h⟩ := h
      refine G_iast C q132 hi rfl dX10_firstDraft_14 (G_mname (fun M12 eM12 => ?_))
      replace h := h M12 eM12
      obtain ⟨v13, ev13⟩ : ∃ y : Int32, y = (l1 + 1) := ⟨_, rfl⟩
      replace h := h v13 ev13
      refine G_iinc C dX10_firstDraft_15 1 rfl (v := v13) (by rw [ev13]; rfl) (by decide) (lv' := [(1, .int v13), (0, .ref (adr ω 128))]) rfl ?_
      refine G_goto (tgt := 2) C dX10_firstDraft_18 (by decide) ?_
      refine G_sub [1, 0] (lv' := [(0, .ref (adr ω 128)), (1, .int v13)]) rfl ?_
      exact k2 _ _ h
set_option maxRecDepth 100000 in
set_option maxHeartbeats 4000000 in
theorem S_X10_firstDraft {ω : WD} {M : Mem} {post : Mem → Prop} (h : w_X10_firstDraft M post) : MtV ω yX10_firstDraft cX10_firstDraft 2 none 0 [.ref (adr ω 128)] M post := by
  refine MtV.start rfl (by decide +kernel) (own := RX10) rfl (Nat.le_of_ble_eq_true rfl) (fun ρ C R => ?_)
  show G ω ρ M 0 [(0, .ref (adr ω 128))] []
  refine G_iconst (v := 0) C dX10_firstDraft_0 (by decide) ?_
  refine G_istore_n C dX10_firstDraft_1 (by decide) (lv' := [(1, .int 0), (0, .ref (adr ω 128))]) rfl ?_
  refine G_sub [1, 0] (lv' := [(0, .ref (adr ω 128)), (1, .int 0)]) rfl ?_
  obtain ⟨f, h⟩ := h
  exact s_X10_firstDraft_L2 C R  f _ _ h
theorem dX10_keepDraft_0 : decode cX10_keepDraft 0 = .ok (.iconst 0, 1) := by decide +kernel
theorem dX10_keepDraft_1 : decode cX10_keepDraft 1 = .ok (.istore_n 1, 1) := by decide +kernel
theorem dX10_keepDraft_2 : decode cX10_keepDraft 2 = .ok (.iload_n 1, 1) := by decide +kernel
theorem dX10_keepDraft_3 : decode cX10_keepDraft 3 = .ok (.bipush 96, 2) := by decide +kernel
theorem dX10_keepDraft_5 : decode cX10_keepDraft 5 = .ok (.if_icmp .ge 21, 3) := by decide +kernel
theorem dX10_keepDraft_8 : decode cX10_keepDraft 8 = .ok (.aload_n 0, 1) := by decide +kernel
theorem dX10_keepDraft_9 : decode cX10_keepDraft 9 = .ok (.getfield 7, 3) := by decide +kernel
theorem dX10_keepDraft_12 : decode cX10_keepDraft 12 = .ok (.iload_n 1, 1) := by decide +kernel
theorem dX10_keepDraft_13 : decode cX10_keepDraft 13 = .ok (.aload_n 0, 1) := by decide +kernel
theorem dX10_keepDraft_14 : decode cX10_keepDraft 14 = .ok (.getfield 20, 3) := by decide +kernel
theorem dX10_keepDraft_17 : decode cX10_keepDraft 17 = .ok (.iload_n 1, 1) := by decide +kernel
theorem dX10_keepDraft_18 : decode cX10_keepDraft 18 = .ok (.iaload, 1) := by decide +kernel
theorem dX10_keepDraft_19 : decode cX10_keepDraft 19 = .ok (.iastore, 1) := by decide +kernel
theorem dX10_keepDraft_20 : decode cX10_keepDraft 20 = .ok (.iinc 1 1, 3) := by decide +kernel
theorem dX10_keepDraft_23 : decode cX10_keepDraft 23 = .ok (.goto (-21), 3) := by decide +kernel
theorem dX10_keepDraft_26 : decode cX10_keepDraft 26 = .ok (.aload_n 0, 1) := by decide +kernel
theorem dX10_keepDraft_27 : decode cX10_keepDraft 27 = .ok (.getfield 16, 3) := by decide +kernel
theorem dX10_keepDraft_30 : decode cX10_keepDraft 30 = .ok (.iconst 0, 1) := by decide +kernel
theorem dX10_keepDraft_31 : decode cX10_keepDraft 31 = .ok (.iconst 0, 1) := by decide +kernel
theorem dX10_keepDraft_32 : decode cX10_keepDraft 32 = .ok (.bastore, 1) := by decide +kernel
theorem dX10_keepDraft_33 : decode cX10_keepDraft 33 = .ok (.aload_n 0, 1) := by decide +kernel
theorem dX10_keepDraft_34 : decode cX10_keepDraft 34 = .ok (.getfield 16, 3) := by decide +kernel
theorem dX10_keepDraft_37 : decode cX10_keepDraft 37 = .ok (.iconst 1, 1) := by decide +kernel
theorem dX10_keepDraft_38 : decode cX10_keepDraft 38 = .ok (.iconst 0, 1) := by decide +kernel
theorem dX10_keepDraft_39 : decode cX10_keepDraft 39 = .ok (.bastore, 1) := by decide +kernel
theorem dX10_keepDraft_40 : decode cX10_keepDraft 40 = .ok (.return_, 1) := by decide +kernel
theorem gf_X10_16 {ω : WD} {ρ : FR} {M : Mem} {cc : ByteArray} {d n pc : Nat} {lv : List (Nat × Value)} {rest : List Value} (C : Cx ω ρ cc RX10 d n) (hd : decode cc pc = .ok (.getfield 16, 3)) (k : G ω ρ M (pc + 3) lv (.ref (adr ω 131) :: rest)) : G ω ρ M pc lv (.ref (adr ω 128) :: rest) := G_get (N := 28) (T := TX10) (C := RX10) (q := 2) C (q128 : isK 10 128) (by decide) rfl in_X10 (by decide) (tb_of 978 ⟨by decide +kernel, rfl⟩) rfl rfl hd k
theorem gf_X10_7 {ω : WD} {ρ : FR} {M : Mem} {cc : ByteArray} {d n pc : Nat} {lv : List (Nat × Value)} {rest : List Value} (C : Cx ω ρ cc RX10 d n) (hd : decode cc pc = .ok (.getfield 7, 3)) (k : G ω ρ M (pc + 3) lv (.ref (adr ω 129) :: rest)) : G ω ρ M pc lv (.ref (adr ω 128) :: rest) := G_get (N := 28) (T := TX10) (C := RX10) (q := 0) C (q128 : isK 10 128) (by decide) rfl in_X10 (by decide) (tb_of 976 ⟨by decide +kernel, rfl⟩) rfl rfl hd k
set_option maxRecDepth 100000 in
set_option maxHeartbeats 4000000 in
theorem s_X10_keepDraft_L2 {ω : WD} {ρ : FR} {post : Mem → Prop} (C : Cx ω ρ cX10_keepDraft RX10 0 2) (R : RtV ω ρ cX10_keepDraft post) : ∀ (f : Nat) (l1 : Int32) (M : Mem), w_X10_keepDraft_L2 post f l1 M → G ω ρ M 2 [(0, .ref (adr ω 128)), (1, .int l1)] [] := by
  intro f
  induction f with
  | zero => intro l1 M h; exact False.elim h
  | succ f k2 =>
    intro l1 M h
    refine G_iload_n C dX10_keepDraft_2 1 rfl ?_
    refine G_bipush (v := 96) C dX10_keepDraft_3 (by decide) ?_
    obtain ⟨h1, h2⟩ := h
    refine G_icmp_ge (tgt := 26) C dX10_keepDraft_5 (by decide) (fun c => ?_) (fun c => ?_)
    · have h := h1 c
      clear h1 h2
      refine G_aload_n C dX10_keepDraft_26 0 rfl ?_
      refine gf_X10_16 C dX10_keepDraft_27 ?_
      refine G_iconst (v := 0) C dX10_keepDraft_30 (by decide) ?_
      refine G_iconst (v := 0) C dX10_keepDraft_31 (by decide) ?_
      refine G_zast C q131 (vp_lit rfl) (kk := 0) (by decide +kernel) rfl dX10_keepDraft_32 (G_mname (fun M1 eM1 => ?_))
      replace h := h M1 eM1
      refine G_aload_n C dX10_keepDraft_33 0 rfl ?_
      refine gf_X10_16 C dX10_keepDraft_34 ?_
      refine G_iconst (v := 1) C dX10_keepDraft_37 (by decide) ?_
      refine G_iconst (v := 0) C dX10_keepDraft_38 (by decide) ?_
      refine G_zast C q131 (vp_lit rfl) (kk := 1) (by decide +kernel) rfl dX10_keepDraft_39 (G_mname (fun M2 eM2 => ?_))
      replace h := h M2 eM2
      exact R 40 _ _ dX10_keepDraft_40 h
    · have h := h2 c
      clear h1 h2
      refine G_aload_n C dX10_keepDraft_8 0 rfl ?_
      refine gf_X10_7 C dX10_keepDraft_9 ?_
      refine G_iload_n C dX10_keepDraft_12 1 rfl ?_
      refine G_aload_n C dX10_keepDraft_13 0 rfl ?_
      refine gf_X10_20 C dX10_keepDraft_14 ?_
      refine G_iload_n C dX10_keepDraft_17 1 rfl ?_
      obtain ⟨hi, h⟩ := h
      refine G_iald C q132 hi rfl dX10_keepDraft_18 ?_
      obtain ⟨hi, h⟩ := h
      refine G_iast C q129 hi rfl dX10_keepDraft_19 (G_mname (fun M3 eM3 => ?_))
      replace h := h M3 eM3
      obtain ⟨v4, ev4⟩ : ∃ y : Int32, y = (l1 + 1) := ⟨_, rfl⟩
      replace h := h v4 ev4
      refine G_iinc C dX10_keepDraft_20 1 rfl (v := v4) (by rw [ev4]; rfl) (by decide) (lv' := [(1, .int v4), (0, .ref (adr ω 128))]) rfl ?_
      refine G_goto (tgt := 2) C dX10_keepDraft_23 (by decide) ?_
      refine G_sub [1, 0] (lv' := [(0, .ref (adr ω 128)), (1, .int v4)]) rfl ?_
      exact k2 _ _ h
set_option maxRecDepth 100000 in
set_option maxHeartbeats 4000000 in
theorem S_X10_keepDraft {ω : WD} {M : Mem} {post : Mem → Prop} (h : w_X10_keepDraft M post) : MtV ω yX10_keepDraft cX10_keepDraft 2 none 0 [.ref (adr ω 128)] M post := by
  refine MtV.start rfl (by decide +kernel) (own := RX10) rfl (Nat.le_of_ble_eq_true rfl) (fun ρ C R => ?_)
  show G ω ρ M 0 [(0, .ref (adr ω 128))] []
  refine G_iconst (v := 0) C dX10_keepDraft_0 (by decide) ?_
  refine G_istore_n C dX10_keepDraft_1 (by decide) (lv' := [(1, .int 0), (0, .ref (adr ω 128))]) rfl ?_
  refine G_sub [1, 0] (lv' := [(0, .ref (adr ω 128)), (1, .int 0)]) rfl ?_
  obtain ⟨f, h⟩ := h
  exact s_X10_keepDraft_L2 C R  f _ _ h
theorem dX10_feed_0 : decode cX10_feed 0 = .ok (.iload_n 1, 1) := by decide +kernel
theorem dX10_feed_1 : decode cX10_feed 1 = .ok (.i2l, 1) := by decide +kernel
theorem dX10_feed_2 : decode cX10_feed 2 = .ok (.lconst 0, 1) := by decide +kernel
theorem dX10_feed_3 : decode cX10_feed 3 = .ok (.ldc2_w 74, 3) := by decide +kernel
theorem dX10_feed_6 : decode cX10_feed 6 = .ok (.invokestatic 52, 3) := by decide +kernel
theorem dX10_feed_9 : decode cX10_feed 9 = .ok (.ifCond .ne 5, 3) := by decide +kernel
theorem dX10_feed_12 : decode cX10_feed 12 = .ok (.iconst (-1), 1) := by decide +kernel
theorem dX10_feed_13 : decode cX10_feed 13 = .ok (.ireturn, 1) := by decide +kernel
theorem dX10_feed_14 : decode cX10_feed 14 = .ok (.aload_n 0, 1) := by decide +kernel
theorem dX10_feed_15 : decode cX10_feed 15 = .ok (.getfield 76, 3) := by decide +kernel
theorem dX10_feed_18 : decode cX10_feed 18 = .ok (.sipush 160, 3) := by decide +kernel
theorem dX10_feed_21 : decode cX10_feed 21 = .ok (.if_icmp .ne 6, 3) := by decide +kernel
theorem dX10_feed_24 : decode cX10_feed 24 = .ok (.bipush (-3), 2) := by decide +kernel
theorem dX10_feed_26 : decode cX10_feed 26 = .ok (.ireturn, 1) := by decide +kernel
theorem dX10_feed_27 : decode cX10_feed 27 = .ok (.aload_n 0, 1) := by decide +kernel
theorem dX10_feed_28 : decode cX10_feed 28 = .ok (.getfield 23, 3) := by decide +kernel
theorem dX10_feed_31 : decode cX10_feed 31 = .ok (.aload_n 0, 1) := by decide +kernel
theorem dX10_feed_32 : decode cX10_feed 32 = .ok (.getfield 76, 3) := by decide +kernel
theorem dX10_feed_35 : decode cX10_feed 35 = .ok (.iload_n 1, 1) := by decide +kernel
theorem dX10_feed_36 : decode cX10_feed 36 = .ok (.iastore, 1) := by decide +kernel
theorem dX10_feed_37 : decode cX10_feed 37 = .ok (.aload_n 0, 1) := by decide +kernel
theorem dX10_feed_38 : decode cX10_feed 38 = .ok (.dup, 1) := by decide +kernel
theorem dX10_feed_39 : decode cX10_feed 39 = .ok (.getfield 76, 3) := by decide +kernel
theorem dX10_feed_42 : decode cX10_feed 42 = .ok (.iconst 1, 1) := by decide +kernel
theorem dX10_feed_43 : decode cX10_feed 43 = .ok (.iadd, 1) := by decide +kernel
theorem dX10_feed_44 : decode cX10_feed 44 = .ok (.putfield 76, 3) := by decide +kernel
theorem dX10_feed_47 : decode cX10_feed 47 = .ok (.aload_n 0, 1) := by decide +kernel
theorem dX10_feed_48 : decode cX10_feed 48 = .ok (.getfield 76, 3) := by decide +kernel
theorem dX10_feed_51 : decode cX10_feed 51 = .ok (.ireturn, 1) := by decide +kernel
theorem gf_X10_76 {ω : WD} {ρ : FR} {M : Mem} {cc : ByteArray} {d n pc : Nat} {lv : List (Nat × Value)} {rest : List Value} (C : Cx ω ρ cc RX10 d n) (hd : decode cc pc = .ok (.getfield 76, 3)) (k : G ω ρ M (pc + 3) lv (.int (rd M 128 9) :: rest)) : G ω ρ M pc lv (.ref (adr ω 128) :: rest) := G_get (N := 28) (T := TX10) (C := RX10) (q := 9) C (q128 : isK 10 128) (by decide) rfl in_X10 (by decide) (tb_of 985 ⟨by decide +kernel, rfl⟩) rfl rfl hd k
theorem gf_X10_23 {ω : WD} {ρ : FR} {M : Mem} {cc : ByteArray} {d n pc : Nat} {lv : List (Nat × Value)} {rest : List Value} (C : Cx ω ρ cc RX10 d n) (hd : decode cc pc = .ok (.getfield 23, 3)) (k : G ω ρ M (pc + 3) lv (.ref (adr ω 133) :: rest)) : G ω ρ M pc lv (.ref (adr ω 128) :: rest) := G_get (N := 28) (T := TX10) (C := RX10) (q := 8) C (q128 : isK 10 128) (by decide) rfl in_X10 (by decide) (tb_of 984 ⟨by decide +kernel, rfl⟩) rfl rfl hd k
theorem pf_X10_76 {ω : WD} {ρ : FR} {M : Mem} {cc : ByteArray} {d n pc : Nat} {lv : List (Nat × Value)} {rest : List Value} {v : Int32} (C : Cx ω ρ cc RX10 d n) (hd : decode cc pc = .ok (.putfield 76, 3)) (k : ∀ M1, M1 = wr M 128 9 v → G ω ρ M1 (pc + 3) lv rest) : G ω ρ M pc lv (.int v :: .ref (adr ω 128) :: rest) := G_put (N := 28) (T := TX10) (C := RX10) (q := 9) (ty := .int) C (q128 : isK 10 128) (by decide) rfl in_X10 tyX10 tyX10_ok nmX10 (by decide) (tb_of 985 ⟨by decide +kernel, rfl⟩) rfl rfl (by decide +kernel) rfl rfl (fun _ _ => Nat.le_of_ble_eq_true rfl) (fun _ => rfl) hd (k _ rfl)
set_option maxRecDepth 100000 in
set_option maxHeartbeats 4000000 in
theorem S_X10_feed {ω : WD} {l1 : Int32} {M : Mem} {post : Int32 → Mem → Prop} (h : w_X10_feed l1 M post) : MtI ω yX10_feed cX10_feed 2 (some .int) 1 [.ref (adr ω 128), .int l1] M post := by
  refine MtI.start (ty := .int) rfl (by decide +kernel) (own := RX10) rfl (Nat.le_of_ble_eq_true rfl) (fun ρ C R => ?_)
  show G ω ρ M 0 [(0, .ref (adr ω 128)), (1, .int l1)] []
  refine G_iload_n C dX10_feed_0 1 rfl ?_
  refine G_i2l C dX10_feed_1 ?_
  refine G_lconst (v := 0) C dX10_feed_2 (by decide) ?_
  refine G_ldc2 (v := 127) C dX10_feed_3 (tb_of 1066 ⟨by decide +kernel, rfl⟩) ?_
  refine G_scallI (As := [.long ((l1).toInt64), .long 0, .long 127]) (rest := []) C dX10_feed_6 lk_X10_52 (Nat.le_of_ble_eq_true rfl) (Nat.le_of_ble_eq_true rfl) (Nat.le_of_ble_eq_true rfl) rfl (S_X10_in h) (fun r2 M1 h => ?_)
  obtain ⟨h1, h2⟩ := h
  refine G_if_ne (tgt := 14) C dX10_feed_9 (by decide) (fun c => ?_) (fun c => ?_)
  · have h := h1 c
    clear h1 h2
    refine G_aload_n C dX10_feed_14 0 rfl ?_
    refine gf_X10_76 C dX10_feed_15 ?_
    refine G_sipush (v := 160) C dX10_feed_18 (by decide) ?_
    obtain ⟨h1, h2⟩ := h
    refine G_icmp_ne (tgt := 27) C dX10_feed_21 (by decide) (fun c => ?_) (fun c => ?_)
    · have h := h1 c
      clear h1 h2
      refine G_aload_n C dX10_feed_27 0 rfl ?_
      refine gf_X10_23 C dX10_feed_28 ?_
      refine G_aload_n C dX10_feed_31 0 rfl ?_
      refine gf_X10_76 C dX10_feed_32 ?_
      refine G_iload_n C dX10_feed_35 1 rfl ?_
      obtain ⟨hi, h⟩ := h
      refine G_iast C q133 hi rfl dX10_feed_36 (G_mname (fun M3 eM3 => ?_))
      replace h := h M3 eM3
      refine G_aload_n C dX10_feed_37 0 rfl ?_
      refine G_dup C dX10_feed_38 rfl ?_
      refine gf_X10_76 C dX10_feed_39 ?_
      refine G_iconst (v := 1) C dX10_feed_42 (by decide) ?_
      refine G_iadd C dX10_feed_43 ?_
      refine pf_X10_76 C dX10_feed_44 (fun M4 eM4 => ?_)
      replace h := h M4 eM4
      refine G_aload_n C dX10_feed_47 0 rfl ?_
      refine gf_X10_76 C dX10_feed_48 ?_
      exact R 51 _ _ _ dX10_feed_51 rfl h
    · have h := h2 c
      clear h1 h2
      refine G_bipush (v := (-3)) C dX10_feed_24 (by decide) ?_
      exact R 26 _ _ _ dX10_feed_26 rfl h
  · have h := h2 c
    clear h1 h2
    refine G_iconst (v := (-1)) C dX10_feed_12 (by decide) ?_
    exact R 13 _ _ _ dX10_feed_13 rfl h
theorem dX10_end_0 : decode cX10_end 0 = .ok (.iload_n 1, 1) := by decide +kernel
theorem dX10_end_1 : decode cX10_end 1 = .ok (.i2l, 1) := by decide +kernel
theorem dX10_end_2 : decode cX10_end 2 = .ok (.lconst 0, 1) := by decide +kernel
theorem dX10_end_3 : decode cX10_end 3 = .ok (.aload_n 0, 1) := by decide +kernel
theorem dX10_end_4 : decode cX10_end 4 = .ok (.getfield 76, 3) := by decide +kernel
theorem dX10_end_7 : decode cX10_end 7 = .ok (.i2l, 1) := by decide +kernel
theorem dX10_end_8 : decode cX10_end 8 = .ok (.invokestatic 52, 3) := by decide +kernel
theorem dX10_end_11 : decode cX10_end 11 = .ok (.ifCond .ne 5, 3) := by decide +kernel
theorem dX10_end_14 : decode cX10_end 14 = .ok (.iconst (-1), 1) := by decide +kernel
theorem dX10_end_15 : decode cX10_end 15 = .ok (.ireturn, 1) := by decide +kernel
theorem dX10_end_16 : decode cX10_end 16 = .ok (.aload_n 0, 1) := by decide +kernel
theorem dX10_end_17 : decode cX10_end 17 = .ok (.getfield 76, 3) := by decide +kernel
theorem dX10_end_20 : decode cX10_end 20 = .ok (.istore_n 2, 1) := by decide +kernel
theorem dX10_end_21 : decode cX10_end 21 = .ok (.aload_n 0, 1) := by decide +kernel
theorem dX10_end_22 : decode cX10_end 22 = .ok (.iload_n 1, 1) := by decide +kernel
theorem dX10_end_23 : decode cX10_end 23 = .ok (.putfield 76, 3) := by decide +kernel
theorem dX10_end_26 : decode cX10_end 26 = .ok (.iload_n 2, 1) := by decide +kernel
theorem dX10_end_27 : decode cX10_end 27 = .ok (.ireturn, 1) := by decide +kernel
set_option maxRecDepth 100000 in
set_option maxHeartbeats 4000000 in
theorem S_X10_end {ω : WD} {l1 : Int32} {M : Mem} {post : Int32 → Mem → Prop} (h : w_X10_end l1 M post) : MtI ω yX10_end cX10_end 3 (some .int) 1 [.ref (adr ω 128), .int l1] M post := by
  refine MtI.start (ty := .int) rfl (by decide +kernel) (own := RX10) rfl (Nat.le_of_ble_eq_true rfl) (fun ρ C R => ?_)
  show G ω ρ M 0 [(0, .ref (adr ω 128)), (1, .int l1)] []
  refine G_iload_n C dX10_end_0 1 rfl ?_
  refine G_i2l C dX10_end_1 ?_
  refine G_lconst (v := 0) C dX10_end_2 (by decide) ?_
  refine G_aload_n C dX10_end_3 0 rfl ?_
  refine gf_X10_76 C dX10_end_4 ?_
  refine G_i2l C dX10_end_7 ?_
  refine G_scallI (As := [.long ((l1).toInt64), .long 0, .long (((rd M 128 9)).toInt64)]) (rest := []) C dX10_end_8 lk_X10_52 (Nat.le_of_ble_eq_true rfl) (Nat.le_of_ble_eq_true rfl) (Nat.le_of_ble_eq_true rfl) rfl (S_X10_in h) (fun r2 M1 h => ?_)
  obtain ⟨h1, h2⟩ := h
  refine G_if_ne (tgt := 16) C dX10_end_11 (by decide) (fun c => ?_) (fun c => ?_)
  · have h := h1 c
    clear h1 h2
    refine G_aload_n C dX10_end_16 0 rfl ?_
    refine gf_X10_76 C dX10_end_17 ?_
    refine G_iname (fun v3 ev3 => ?_)
    replace h := h v3 ev3
    refine G_istore_n C dX10_end_20 (by decide) (lv' := [(2, .int v3), (0, .ref (adr ω 128)), (1, .int l1)]) rfl ?_
    refine G_aload_n C dX10_end_21 1 rfl ?_
    refine G_iload_n C dX10_end_22 2 rfl ?_
    refine pf_X10_76 C dX10_end_23 (fun M4 eM4 => ?_)
    replace h := h M4 eM4
    refine G_iload_n C dX10_end_26 0 rfl ?_
    exact R 27 _ _ _ dX10_end_27 rfl h
  · have h := h2 c
    clear h1 h2
    refine G_iconst (v := (-1)) C dX10_end_14 (by decide) ?_
    exact R 15 _ _ _ dX10_end_15 rfl h
theorem dX10_needs_0 : decode cX10_needs 0 = .ok (.iload_n 1, 1) := by decide +kernel
theorem dX10_needs_1 : decode cX10_needs 1 = .ok (.ifCond .ne 23, 3) := by decide +kernel
theorem dX10_needs_4 : decode cX10_needs 4 = .ok (.aload_n 0, 1) := by decide +kernel
theorem dX10_needs_5 : decode cX10_needs 5 = .ok (.getfield 79, 3) := by decide +kernel
theorem dX10_needs_8 : decode cX10_needs 8 = .ok (.ifCond .ne 16, 3) := by decide +kernel
theorem dX10_needs_11 : decode cX10_needs 11 = .ok (.aload_n 0, 1) := by decide +kernel
theorem dX10_needs_12 : decode cX10_needs 12 = .ok (.iload_n 2, 1) := by decide +kernel
theorem dX10_needs_13 : decode cX10_needs 13 = .ok (.putfield 79, 3) := by decide +kernel
theorem dX10_needs_16 : decode cX10_needs 16 = .ok (.aload_n 0, 1) := by decide +kernel
theorem dX10_needs_17 : decode cX10_needs 17 = .ok (.aload_n 0, 1) := by decide +kernel
theorem dX10_needs_18 : decode cX10_needs 18 = .ok (.getfield 82, 3) := by decide +kernel
theorem dX10_needs_21 : decode cX10_needs 21 = .ok (.putfield 85, 3) := by decide +kernel
theorem dX10_needs_24 : decode cX10_needs 24 = .ok (.return_, 1) := by decide +kernel
theorem gf_X10_79 {ω : WD} {ρ : FR} {M : Mem} {cc : ByteArray} {d n pc : Nat} {lv : List (Nat × Value)} {rest : List Value} (C : Cx ω ρ cc RX10 d n) (hd : decode cc pc = .ok (.getfield 79, 3)) (k : G ω ρ M (pc + 3) lv (.int (rd M 128 14) :: rest)) : G ω ρ M pc lv (.ref (adr ω 128) :: rest) := G_get (N := 28) (T := TX10) (C := RX10) (q := 14) C (q128 : isK 10 128) (by decide) rfl in_X10 (by decide) (tb_of 990 ⟨by decide +kernel, rfl⟩) rfl rfl hd k
theorem pf_X10_79 {ω : WD} {ρ : FR} {M : Mem} {cc : ByteArray} {d n pc : Nat} {lv : List (Nat × Value)} {rest : List Value} {v : Int32} (C : Cx ω ρ cc RX10 d n) (hd : decode cc pc = .ok (.putfield 79, 3)) (k : ∀ M1, M1 = wr M 128 14 v → G ω ρ M1 (pc + 3) lv rest) : G ω ρ M pc lv (.int v :: .ref (adr ω 128) :: rest) := G_put (N := 28) (T := TX10) (C := RX10) (q := 14) (ty := .int) C (q128 : isK 10 128) (by decide) rfl in_X10 tyX10 tyX10_ok nmX10 (by decide) (tb_of 990 ⟨by decide +kernel, rfl⟩) rfl rfl (by decide +kernel) rfl rfl (fun _ _ => Nat.le_of_ble_eq_true rfl) (fun _ => rfl) hd (k _ rfl)
theorem gf_X10_82 {ω : WD} {ρ : FR} {M : Mem} {cc : ByteArray} {d n pc : Nat} {lv : List (Nat × Value)} {rest : List Value} (C : Cx ω ρ cc RX10 d n) (hd : decode cc pc = .ok (.getfield 82, 3)) (k : G ω ρ M (pc + 3) lv (.int (rd M 128 11) :: rest)) : G ω ρ M pc lv (.ref (adr ω 128) :: rest) := G_get (N := 28) (T := TX10) (C := RX10) (q := 11) C (q128 : isK 10 128) (by decide) rfl in_X10 (by decide) (tb_of 987 ⟨by decide +kernel, rfl⟩) rfl rfl hd k
theorem pf_X10_85 {ω : WD} {ρ : FR} {M : Mem} {cc : ByteArray} {d n pc : Nat} {lv : List (Nat × Value)} {rest : List Value} {v : Int32} (C : Cx ω ρ cc RX10 d n) (hd : decode cc pc = .ok (.putfield 85, 3)) (k : ∀ M1, M1 = wr M 128 15 v → G ω ρ M1 (pc + 3) lv rest) : G ω ρ M pc lv (.int v :: .ref (adr ω 128) :: rest) := G_put (N := 28) (T := TX10) (C := RX10) (q := 15) (ty := .int) C (q128 : isK 10 128) (by decide) rfl in_X10 tyX10 tyX10_ok nmX10 (by decide) (tb_of 991 ⟨by decide +kernel, rfl⟩) rfl rfl (by decide +kernel) rfl rfl (fun _ _ => Nat.le_of_ble_eq_true rfl) (fun _ => rfl) hd (k _ rfl)
set_option maxRecDepth 100000 in
set_option maxHeartbeats 4000000 in
theorem S_X10_needs {ω : WD} {l1 : Int32} {l2 : Int32} {M : Mem} {post : Mem → Prop} (h : w_X10_needs l1 l2 M post) : MtV ω yX10_needs cX10_needs 3 none 0 [.ref (adr ω 128), .int l1, .int l2] M post := by
  refine MtV.start rfl (by decide +kernel) (own := RX10) rfl (Nat.le_of_ble_eq_true rfl) (fun ρ C R => ?_)
  show G ω ρ M 0 [(0, .ref (adr ω 128)), (1, .int l1), (2, .int l2)] []
  refine G_iload_n C dX10_needs_0 1 rfl ?_
  obtain ⟨h1, h2⟩ := h
  refine G_if_ne (tgt := 24) C dX10_needs_1 (by decide) (fun c => ?_) (fun c => ?_)
  · have h := h1 c
    clear h1 h2
    exact R 24 _ _ dX10_needs_24 h
  · have h := h2 c
    clear h1 h2
    refine G_aload_n C dX10_needs_4 0 rfl ?_
    refine gf_X10_79 C dX10_needs_5 ?_
    obtain ⟨h1, h2⟩ := h
    refine G_if_ne (tgt := 24) C dX10_needs_8 (by decide) (fun c => ?_) (fun c => ?_)
    · have h := h1 c
      clear h1 h2
      exact R 24 _ _ dX10_needs_24 h
    · have h := h2 c
      clear h1 h2
      refine G_aload_n C dX10_needs_11 0 rfl ?_
      refine G_iload_n C dX10_needs_12 2 rfl ?_
      refine pf_X10_79 C dX10_needs_13 (fun M1 eM1 => ?_)
      replace h := h M1 eM1
      refine G_aload_n C dX10_needs_16 0 rfl ?_
      refine G_aload_n C dX10_needs_17 0 rfl ?_
      refine gf_X10_82 C dX10_needs_18 ?_
      refine pf_X10_85 C dX10_needs_21 (fun M2 eM2 => ?_)
      replace h := h M2 eM2
      exact R 24 _ _ dX10_needs_24 h
theorem dX10_byteAt_0 : decode cX10_byteAt 0 = .ok (.iload_n 1, 1) := by decide +kernel
theorem dX10_byteAt_1 : decode cX10_byteAt 1 = .ok (.aload_n 0, 1) := by decide +kernel
theorem dX10_byteAt_2 : decode cX10_byteAt 2 = .ok (.getfield 76, 3) := by decide +kernel
theorem dX10_byteAt_5 : decode cX10_byteAt 5 = .ok (.if_icmp .ge 12, 3) := by decide +kernel
theorem dX10_byteAt_8 : decode cX10_byteAt 8 = .ok (.aload_n 0, 1) := by decide +kernel
theorem dX10_byteAt_9 : decode cX10_byteAt 9 = .ok (.getfield 23, 3) := by decide +kernel
theorem dX10_byteAt_12 : decode cX10_byteAt 12 = .ok (.iload_n 1, 1) := by decide +kernel
theorem dX10_byteAt_13 : decode cX10_byteAt 13 = .ok (.iaload, 1) := by decide +kernel
theorem dX10_byteAt_14 : decode cX10_byteAt 14 = .ok (.goto 4, 3) := by decide +kernel
theorem dX10_byteAt_17 : decode cX10_byteAt 17 = .ok (.iconst (-1), 1) := by decide +kernel
theorem dX10_byteAt_18 : decode cX10_byteAt 18 = .ok (.ireturn, 1) := by decide +kernel
set_option maxRecDepth 100000 in
set_option maxHeartbeats 4000000 in
theorem S_X10_byteAt {ω : WD} {l1 : Int32} {M : Mem} {post : Int32 → Mem → Prop} (h : w_X10_byteAt l1 M post) : MtI ω yX10_byteAt cX10_byteAt 2 (some .int) 0 [.ref (adr ω 128), .int l1] M post := by
  refine MtI.start (ty := .int) rfl (by decide +kernel) (own := RX10) rfl (Nat.le_of_ble_eq_true rfl) (fun ρ C R => ?_)
  show G ω ρ M 0 [(0, .ref (adr ω 128)), (1, .int l1)] []
  refine G_iload_n C dX10_byteAt_0 1 rfl ?_
  refine G_aload_n C dX10_byteAt_1 0 rfl ?_
  refine gf_X10_76 C dX10_byteAt_2 ?_
  obtain ⟨h1, h2⟩ := h
  refine G_icmp_ge (tgt := 17) C dX10_byteAt_5 (by decide) (fun c => ?_) (fun c => ?_)
  · have h := h1 c
    clear h1 h2
    refine G_iconst (v := (-1)) C dX10_byteAt_17 (by decide) ?_
    exact R 18 _ _ _ dX10_byteAt_18 rfl h
  · have h := h2 c
    clear h1 h2
    refine G_aload_n C dX10_byteAt_8 0 rfl ?_
    refine gf_X10_23 C dX10_byteAt_9 ?_
    refine G_iload_n C dX10_byteAt_12 1 rfl ?_
    obtain ⟨hi, h⟩ := h
    refine G_iald C q133 hi rfl dX10_byteAt_13 ?_
    refine G_goto (tgt := 18) C dX10_byteAt_14 (by decide) ?_
    exact R 18 _ _ _ dX10_byteAt_18 rfl h
theorem dX10_is_0 : decode cX10_is 0 = .ok (.aload_n 0, 1) := by decide +kernel
theorem dX10_is_1 : decode cX10_is 1 = .ok (.getfield 88, 3) := by decide +kernel
theorem dX10_is_4 : decode cX10_is 4 = .ok (.aload_n 0, 1) := by decide +kernel
theorem dX10_is_5 : decode cX10_is 5 = .ok (.getfield 82, 3) := by decide +kernel
theorem dX10_is_8 : decode cX10_is 8 = .ok (.isub, 1) := by decide +kernel
theorem dX10_is_9 : decode cX10_is 9 = .ok (.iload_n 1, 1) := by decide +kernel
theorem dX10_is_10 : decode cX10_is 10 = .ok (.if_icmp .ne 33, 3) := by decide +kernel
theorem dX10_is_13 : decode cX10_is 13 = .ok (.aload_n 0, 1) := by decide +kernel
theorem dX10_is_14 : decode cX10_is 14 = .ok (.aload_n 0, 1) := by decide +kernel
theorem dX10_is_15 : decode cX10_is 15 = .ok (.getfield 82, 3) := by decide +kernel
theorem dX10_is_18 : decode cX10_is 18 = .ok (.invokevirtual 91, 3) := by decide +kernel
theorem dX10_is_21 : decode cX10_is 21 = .ok (.iload_n 2, 1) := by decide +kernel
theorem dX10_is_22 : decode cX10_is 22 = .ok (.if_icmp .ne 21, 3) := by decide +kernel
theorem dX10_is_25 : decode cX10_is 25 = .ok (.aload_n 0, 1) := by decide +kernel
theorem dX10_is_26 : decode cX10_is 26 = .ok (.aload_n 0, 1) := by decide +kernel
theorem dX10_is_27 : decode cX10_is 27 = .ok (.getfield 82, 3) := by decide +kernel
theorem dX10_is_30 : decode cX10_is 30 = .ok (.iconst 1, 1) := by decide +kernel
theorem dX10_is_31 : decode cX10_is 31 = .ok (.iadd, 1) := by decide +kernel
theorem dX10_is_32 : decode cX10_is 32 = .ok (.invokevirtual 91, 3) := by decide +kernel
theorem dX10_is_35 : decode cX10_is 35 = .ok (.iload_n 3, 1) := by decide +kernel
theorem dX10_is_36 : decode cX10_is 36 = .ok (.if_icmp .ne 7, 3) := by decide +kernel
theorem dX10_is_39 : decode cX10_is 39 = .ok (.iconst 1, 1) := by decide +kernel
theorem dX10_is_40 : decode cX10_is 40 = .ok (.goto 4, 3) := by decide +kernel
theorem dX10_is_43 : decode cX10_is 43 = .ok (.iconst 0, 1) := by decide +kernel
theorem dX10_is_44 : decode cX10_is 44 = .ok (.ireturn, 1) := by decide +kernel
theorem gf_X10_88 {ω : WD} {ρ : FR} {M : Mem} {cc : ByteArray} {d n pc : Nat} {lv : List (Nat × Value)} {rest : List Value} (C : Cx ω ρ cc RX10 d n) (hd : decode cc pc = .ok (.getfield 88, 3)) (k : G ω ρ M (pc + 3) lv (.int (rd M 128 10) :: rest)) : G ω ρ M pc lv (.ref (adr ω 128) :: rest) := G_get (N := 28) (T := TX10) (C := RX10) (q := 10) C (q128 : isK 10 128) (by decide) rfl in_X10 (by decide) (tb_of 986 ⟨by decide +kernel, rfl⟩) rfl rfl hd k
theorem lk_X10_91 : LkV RX10 91 RX10 yX10_byteAt cX10_byteAt 2 (some .int) 1 := LkV.of 1082 1084 16 71 1085 (by decide +kernel) (by decide +kernel) (by decide +kernel) (by decide +kernel) (by decide +kernel) (by decide +kernel)
set_option maxRecDepth 100000 in
set_option maxHeartbeats 4000000 in
theorem S_X10_is {ω : WD} {l1 : Int32} {l2 : Int32} {l3 : Int32} {M : Mem} {post : Int32 → Mem → Prop} (h : w_X10_is l1 l2 l3 M post) : MtI ω yX10_is cX10_is 4 (some .boolean) 1 [.ref (adr ω 128), .int l1, .int l2, .int l3] M post := by
  refine MtI.start (ty := .boolean) rfl (by decide +kernel) (own := RX10) rfl (Nat.le_of_ble_eq_true rfl) (fun ρ C R => ?_)
  show G ω ρ M 0 [(0, .ref (adr ω 128)), (1, .int l1), (2, .int l2), (3, .int l3)] []
  refine G_aload_n C dX10_is_0 0 rfl ?_
  refine gf_X10_88 C dX10_is_1 ?_
  refine G_aload_n C dX10_is_4 0 rfl ?_
  refine gf_X10_82 C dX10_is_5 ?_
  refine G_isub C dX10_is_8 ?_
  refine G_iload_n C dX10_is_9 1 rfl ?_
  obtain ⟨h1, h2⟩ := h
  refine G_icmp_ne (tgt := 43) C dX10_is_10 (by decide) (fun c => ?_) (fun c => ?_)
  · have h := h1 c
    clear h1 h2
    refine G_iconst (v := 0) C dX10_is_43 (by decide) ?_
    exact R 44 _ _ _ dX10_is_44 rfl h
  · have h := h2 c
    clear h1 h2
    refine G_aload_n C dX10_is_13 0 rfl ?_
    refine G_aload_n C dX10_is_14 0 rfl ?_
    refine gf_X10_82 C dX10_is_15 ?_
    refine G_callI (As := [.int (rd M 128 11)]) (rest := []) C dX10_is_18 lk_X10_91 (Nat.le_of_ble_eq_true rfl) (Nat.le_of_ble_eq_true rfl) q128 (by decide) rfl (Nat.le_of_ble_eq_true rfl) rfl (S_X10_byteAt h) (fun r2 M1 h => ?_)
    refine G_iload_n C dX10_is_21 2 rfl ?_
    obtain ⟨h1, h2⟩ := h
    refine G_icmp_ne (tgt := 43) C dX10_is_22 (by decide) (fun c => ?_) (fun c => ?_)
    · have h := h1 c
      clear h1 h2
      refine G_iconst (v := 0) C dX10_is_43 (by decide) ?_
      exact R 44 _ _ _ dX10_is_44 rfl h
    · have h := h2 c
      clear h1 h2
      refine G_aload_n C dX10_is_25 0 rfl ?_
      refine G_aload_n C dX10_is_26 0 rfl ?_
      refine gf_X10_82 C dX10_is_27 ?_
      refine G_iconst (v := 1) C dX10_is_30 (by decide) ?_
      refine G_iadd C dX10_is_31 ?_
      refine G_callI (As := [.int ((rd M1 128 11) + 1)]) (rest := []) C dX10_is_32 lk_X10_91 (Nat.le_of_ble_eq_true rfl) (Nat.le_of_ble_eq_true rfl) q128 (by decide) rfl (Nat.le_of_ble_eq_true rfl) rfl (S_X10_byteAt h) (fun r4 M3 h => ?_)
      refine G_iload_n C dX10_is_35 3 rfl ?_
      obtain ⟨h1, h2⟩ := h
      refine G_icmp_ne (tgt := 43) C dX10_is_36 (by decide) (fun c => ?_) (fun c => ?_)
      · have h := h1 c
        clear h1 h2
        refine G_iconst (v := 0) C dX10_is_43 (by decide) ?_
        exact R 44 _ _ _ dX10_is_44 rfl h
      · have h := h2 c
        clear h1 h2
        refine G_iconst (v := 1) C dX10_is_39 (by decide) ?_
        refine G_goto (tgt := 44) C dX10_is_40 (by decide) ?_
        exact R 44 _ _ _ dX10_is_44 rfl h
theorem dX10_ends_0 : decode cX10_ends 0 = .ok (.aload_n 0, 1) := by decide +kernel
theorem dX10_ends_1 : decode cX10_ends 1 = .ok (.aload_n 0, 1) := by decide +kernel
theorem dX10_ends_2 : decode cX10_ends 2 = .ok (.getfield 82, 3) := by decide +kernel
theorem dX10_ends_5 : decode cX10_ends 5 = .ok (.iconst 2, 1) := by decide +kernel
theorem dX10_ends_6 : decode cX10_ends 6 = .ok (.iadd, 1) := by decide +kernel
theorem dX10_ends_7 : decode cX10_ends 7 = .ok (.invokevirtual 91, 3) := by decide +kernel
theorem dX10_ends_10 : decode cX10_ends 10 = .ok (.iload_n 1, 1) := by decide +kernel
theorem dX10_ends_11 : decode cX10_ends 11 = .ok (.if_icmp .ne 21, 3) := by decide +kernel
theorem dX10_ends_14 : decode cX10_ends 14 = .ok (.aload_n 0, 1) := by decide +kernel
theorem dX10_ends_15 : decode cX10_ends 15 = .ok (.aload_n 0, 1) := by decide +kernel
theorem dX10_ends_16 : decode cX10_ends 16 = .ok (.getfield 82, 3) := by decide +kernel
theorem dX10_ends_19 : decode cX10_ends 19 = .ok (.iconst 3, 1) := by decide +kernel
theorem dX10_ends_20 : decode cX10_ends 20 = .ok (.iadd, 1) := by decide +kernel
theorem dX10_ends_21 : decode cX10_ends 21 = .ok (.invokevirtual 91, 3) := by decide +kernel
theorem dX10_ends_24 : decode cX10_ends 24 = .ok (.iload_n 2, 1) := by decide +kernel
theorem dX10_ends_25 : decode cX10_ends 25 = .ok (.if_icmp .ne 7, 3) := by decide +kernel
theorem dX10_ends_28 : decode cX10_ends 28 = .ok (.iconst 1, 1) := by decide +kernel
theorem dX10_ends_29 : decode cX10_ends 29 = .ok (.goto 4, 3) := by decide +kernel
theorem dX10_ends_32 : decode cX10_ends 32 = .ok (.iconst 0, 1) := by decide +kernel
theorem dX10_ends_33 : decode cX10_ends 33 = .ok (.ireturn, 1) := by decide +kernel
set_option maxRecDepth 100000 in
set_option maxHeartbeats 4000000 in
theorem S_X10_ends {ω : WD} {l1 : Int32} {l2 : Int32} {M : Mem} {post : Int32 → Mem → Prop} (h : w_X10_ends l1 l2 M post) : MtI ω yX10_ends cX10_ends 3 (some .boolean) 1 [.ref (adr ω 128), .int l1, .int l2] M post := by
  refine MtI.start (ty := .boolean) rfl (by decide +kernel) (own := RX10) rfl (Nat.le_of_ble_eq_true rfl) (fun ρ C R => ?_)
  show G ω ρ M 0 [(0, .ref (adr ω 128)), (1, .int l1), (2, .int l2)] []
  refine G_aload_n C dX10_ends_0 0 rfl ?_
  refine G_aload_n C dX10_ends_1 0 rfl ?_
  refine gf_X10_82 C dX10_ends_2 ?_
  refine G_iconst (v := 2) C dX10_ends_5 (by decide) ?_
  refine G_iadd C dX10_ends_6 ?_
  refine G_callI (As := [.int ((rd M 128 11) + 2)]) (rest := []) C dX10_ends_7 lk_X10_91 (Nat.le_of_ble_eq_true rfl) (Nat.le_of_ble_eq_true rfl) q128 (by decide) rfl (Nat.le_of_ble_eq_true rfl) rfl (S_X10_byteAt h) (fun r2 M1 h => ?_)
  refine G_iload_n C dX10_ends_10 1 rfl ?_
  obtain ⟨h1, h2⟩ := h
  refine G_icmp_ne (tgt := 32) C dX10_ends_11 (by decide) (fun c => ?_) (fun c => ?_)
  · have h := h1 c
    clear h1 h2
    refine G_iconst (v := 0) C dX10_ends_32 (by decide) ?_
    exact R 33 _ _ _ dX10_ends_33 rfl h
  · have h := h2 c
    clear h1 h2
    refine G_aload_n C dX10_ends_14 0 rfl ?_
    refine G_aload_n C dX10_ends_15 0 rfl ?_
    refine gf_X10_82 C dX10_ends_16 ?_
    refine G_iconst (v := 3) C dX10_ends_19 (by decide) ?_
    refine G_iadd C dX10_ends_20 ?_
    refine G_callI (As := [.int ((rd M1 128 11) + 3)]) (rest := []) C dX10_ends_21 lk_X10_91 (Nat.le_of_ble_eq_true rfl) (Nat.le_of_ble_eq_true rfl) q128 (by decide) rfl (Nat.le_of_ble_eq_true rfl) rfl (S_X10_byteAt h) (fun r4 M3 h => ?_)
    refine G_iload_n C dX10_ends_24 2 rfl ?_
    obtain ⟨h1, h2⟩ := h
    refine G_icmp_ne (tgt := 32) C dX10_ends_25 (by decide) (fun c => ?_) (fun c => ?_)
    · have h := h1 c
      clear h1 h2
      refine G_iconst (v := 0) C dX10_ends_32 (by decide) ?_
      exact R 33 _ _ _ dX10_ends_33 rfl h
    · have h := h2 c
      clear h1 h2
      refine G_iconst (v := 1) C dX10_ends_28 (by decide) ?_
      refine G_goto (tgt := 33) C dX10_ends_29 (by decide) ?_
      exact R 33 _ _ _ dX10_ends_33 rfl h
theorem dX10_goesOn_0 : decode cX10_goesOn 0 = .ok (.aload_n 0, 1) := by decide +kernel
theorem dX10_goesOn_1 : decode cX10_goesOn 1 = .ok (.aload_n 0, 1) := by decide +kernel
theorem dX10_goesOn_2 : decode cX10_goesOn 2 = .ok (.getfield 82, 3) := by decide +kernel
theorem dX10_goesOn_5 : decode cX10_goesOn 5 = .ok (.iconst 4, 1) := by decide +kernel
theorem dX10_goesOn_6 : decode cX10_goesOn 6 = .ok (.iadd, 1) := by decide +kernel
theorem dX10_goesOn_7 : decode cX10_goesOn 7 = .ok (.invokevirtual 91, 3) := by decide +kernel
theorem dX10_goesOn_10 : decode cX10_goesOn 10 = .ok (.iload_n 1, 1) := by decide +kernel
theorem dX10_goesOn_11 : decode cX10_goesOn 11 = .ok (.if_icmp .ne 40, 3) := by decide +kernel
theorem dX10_goesOn_14 : decode cX10_goesOn 14 = .ok (.aload_n 0, 1) := by decide +kernel
theorem dX10_goesOn_15 : decode cX10_goesOn 15 = .ok (.aload_n 0, 1) := by decide +kernel
theorem dX10_goesOn_16 : decode cX10_goesOn 16 = .ok (.getfield 82, 3) := by decide +kernel
theorem dX10_goesOn_19 : decode cX10_goesOn 19 = .ok (.iconst 5, 1) := by decide +kernel
theorem dX10_goesOn_20 : decode cX10_goesOn 20 = .ok (.iadd, 1) := by decide +kernel
theorem dX10_goesOn_21 : decode cX10_goesOn 21 = .ok (.invokevirtual 91, 3) := by decide +kernel
theorem dX10_goesOn_24 : decode cX10_goesOn 24 = .ok (.iload_n 2, 1) := by decide +kernel
theorem dX10_goesOn_25 : decode cX10_goesOn 25 = .ok (.if_icmp .ne 26, 3) := by decide +kernel
theorem dX10_goesOn_28 : decode cX10_goesOn 28 = .ok (.iload_n 3, 1) := by decide +kernel
theorem dX10_goesOn_29 : decode cX10_goesOn 29 = .ok (.ifCond .eq 18, 3) := by decide +kernel
theorem dX10_goesOn_32 : decode cX10_goesOn 32 = .ok (.aload_n 0, 1) := by decide +kernel
theorem dX10_goesOn_33 : decode cX10_goesOn 33 = .ok (.aload_n 0, 1) := by decide +kernel
theorem dX10_goesOn_34 : decode cX10_goesOn 34 = .ok (.getfield 82, 3) := by decide +kernel
theorem dX10_goesOn_37 : decode cX10_goesOn 37 = .ok (.bipush 6, 2) := by decide +kernel
theorem dX10_goesOn_39 : decode cX10_goesOn 39 = .ok (.iadd, 1) := by decide +kernel
theorem dX10_goesOn_40 : decode cX10_goesOn 40 = .ok (.invokevirtual 91, 3) := by decide +kernel
theorem dX10_goesOn_43 : decode cX10_goesOn 43 = .ok (.iload_n 3, 1) := by decide +kernel
theorem dX10_goesOn_44 : decode cX10_goesOn 44 = .ok (.if_icmp .ne 7, 3) := by decide +kernel
theorem dX10_goesOn_47 : decode cX10_goesOn 47 = .ok (.iconst 1, 1) := by decide +kernel
theorem dX10_goesOn_48 : decode cX10_goesOn 48 = .ok (.goto 4, 3) := by decide +kernel
theorem dX10_goesOn_51 : decode cX10_goesOn 51 = .ok (.iconst 0, 1) := by decide +kernel
theorem dX10_goesOn_52 : decode cX10_goesOn 52 = .ok (.ireturn, 1) := by decide +kernel
set_option maxRecDepth 100000 in
set_option maxHeartbeats 4000000 in
theorem s_X10_goesOn_J47 {ω : WD} {ρ : FR} {post : Int32 → Mem → Prop} (C : Cx ω ρ cX10_goesOn RX10 1 4) (R : RtI ω ρ cX10_goesOn .boolean post) {M : Mem} (h : w_X10_goesOn_J47 post M) : G ω ρ M 47 [] [] := by
  refine G_iconst (v := 1) C dX10_goesOn_47 (by decide) ?_
  refine G_goto (tgt := 52) C dX10_goesOn_48 (by decide) ?_
  exact R 52 _ _ _ dX10_goesOn_52 rfl h
set_option maxRecDepth 100000 in
set_option maxHeartbeats 4000000 in
theorem S_X10_goesOn {ω : WD} {l1 : Int32} {l2 : Int32} {l3 : Int32} {M : Mem} {post : Int32 → Mem → Prop} (h : w_X10_goesOn l1 l2 l3 M post) : MtI ω yX10_goesOn cX10_goesOn 4 (some .boolean) 1 [.ref (adr ω 128), .int l1, .int l2, .int l3] M post := by
  refine MtI.start (ty := .boolean) rfl (by decide +kernel) (own := RX10) rfl (Nat.le_of_ble_eq_true rfl) (fun ρ C R => ?_)
  show G ω ρ M 0 [(0, .ref (adr ω 128)), (1, .int l1), (2, .int l2), (3, .int l3)] []
  refine G_aload_n C dX10_goesOn_0 0 rfl ?_
  refine G_aload_n C dX10_goesOn_1 0 rfl ?_
  refine gf_X10_82 C dX10_goesOn_2 ?_
  refine G_iconst (v := 4) C dX10_goesOn_5 (by decide) ?_
  refine G_iadd C dX10_goesOn_6 ?_
  refine G_callI (As := [.int ((rd M 128 11) + 4)]) (rest := []) C dX10_goesOn_7 lk_X10_91 (Nat.le_of_ble_eq_true rfl) (Nat.le_of_ble_eq_true rfl) q128 (by decide) rfl (Nat.le_of_ble_eq_true rfl) rfl (S_X10_byteAt h) (fun r2 M1 h => ?_)
  refine G_iload_n C dX10_goesOn_10 1 rfl ?_
  obtain ⟨h1, h2⟩ := h
  refine G_icmp_ne (tgt := 51) C dX10_goesOn_11 (by decide) (fun c => ?_) (fun c => ?_)
  · have h := h1 c
    clear h1 h2
    refine G_iconst (v := 0) C dX10_goesOn_51 (by decide) ?_
    exact R 52 _ _ _ dX10_goesOn_52 rfl h
  · have h := h2 c
    clear h1 h2
    refine G_aload_n C dX10_goesOn_14 0 rfl ?_
    refine G_aload_n C dX10_goesOn_15 0 rfl ?_
    refine gf_X10_82 C dX10_goesOn_16 ?_
    refine G_iconst (v := 5) C dX10_goesOn_19 (by decide) ?_
    refine G_iadd C dX10_goesOn_20 ?_
    refine G_callI (As := [.int ((rd M1 128 11) + 5)]) (rest := []) C dX10_goesOn_21 lk_X10_91 (Nat.le_of_ble_eq_true rfl) (Nat.le_of_ble_eq_true rfl) q128 (by decide) rfl (Nat.le_of_ble_eq_true rfl) rfl (S_X10_byteAt h) (fun r4 M3 h => ?_)
    refine G_iload_n C dX10_goesOn_24 2 rfl ?_
    obtain ⟨h1, h2⟩ := h
    refine G_icmp_ne (tgt := 51) C dX10_goesOn_25 (by decide) (fun c => ?_) (fun c => ?_)
    · have h := h1 c
      clear h1 h2
      refine G_iconst (v := 0) C dX10_goesOn_51 (by decide) ?_
      exact R 52 _ _ _ dX10_goesOn_52 rfl h
    · have h := h2 c
      clear h1 h2
      refine G_iload_n C dX10_goesOn_28 3 rfl ?_
      obtain ⟨h1, h2⟩ := h
      refine G_if_eq (tgt := 47) C dX10_goesOn_29 (by decide) (fun c => ?_) (fun c => ?_)
      · have h := h1 c
        clear h1 h2
        refine G_sub [] (lv' := []) rfl ?_
        exact s_X10_goesOn_J47 C R  h
      · have h := h2 c
        clear h1 h2
        refine G_aload_n C dX10_goesOn_32 0 rfl ?_
        refine G_aload_n C dX10_goesOn_33 0 rfl ?_
        refine gf_X10_82 C dX10_goesOn_34 ?_
        refine G_bipush (v := 6) C dX10_goesOn_37 (by decide) ?_
        refine G_iadd C dX10_goesOn_39 ?_
        refine G_callI (As := [.int ((rd M3 128 11) + 6)]) (rest := []) C dX10_goesOn_40 lk_X10_91 (Nat.le_of_ble_eq_true rfl) (Nat.le_of_ble_eq_true rfl) q128 (by decide) rfl (Nat.le_of_ble_eq_true rfl) rfl (S_X10_byteAt h) (fun r6 M5 h => ?_)
        refine G_iload_n C dX10_goesOn_43 3 rfl ?_
        obtain ⟨h1, h2⟩ := h
        refine G_icmp_ne (tgt := 51) C dX10_goesOn_44 (by decide) (fun c => ?_) (fun c => ?_)
        · have h := h1 c
          clear h1 h2
          refine G_iconst (v := 0) C dX10_goesOn_51 (by decide) ?_
          exact R 52 _ _ _ dX10_goesOn_52 rfl h
        · have h := h2 c
          clear h1 h2
          refine G_sub [] (lv' := []) rfl ?_
          exact s_X10_goesOn_J47 C R  h
theorem dX10_lineNow_0 : decode cX10_lineNow 0 = .ok (.aload_n 0, 1) := by decide +kernel
theorem dX10_lineNow_1 : decode cX10_lineNow 1 = .ok (.iconst 4, 1) := by decide +kernel
theorem dX10_lineNow_2 : decode cX10_lineNow 2 = .ok (.bipush 104, 2) := by decide +kernel
theorem dX10_lineNow_4 : decode cX10_lineNow 4 = .ok (.bipush 111, 2) := by decide +kernel
theorem dX10_lineNow_6 : decode cX10_lineNow 6 = .ok (.invokevirtual 95, 3) := by decide +kernel
theorem dX10_lineNow_9 : decode cX10_lineNow 9 = .ok (.ifCond .eq 16, 3) := by decide +kernel
theorem dX10_lineNow_12 : decode cX10_lineNow 12 = .ok (.aload_n 0, 1) := by decide +kernel
theorem dX10_lineNow_13 : decode cX10_lineNow 13 = .ok (.bipush 109, 2) := by decide +kernel
theorem dX10_lineNow_15 : decode cX10_lineNow 15 = .ok (.bipush 101, 2) := by decide +kernel
theorem dX10_lineNow_17 : decode cX10_lineNow 17 = .ok (.invokevirtual 99, 3) := by decide +kernel
theorem dX10_lineNow_20 : decode cX10_lineNow 20 = .ok (.ifCond .eq 5, 3) := by decide +kernel
theorem dX10_lineNow_23 : decode cX10_lineNow 23 = .ok (.iconst 0, 1) := by decide +kernel
theorem dX10_lineNow_24 : decode cX10_lineNow 24 = .ok (.ireturn, 1) := by decide +kernel
theorem dX10_lineNow_25 : decode cX10_lineNow 25 = .ok (.aload_n 0, 1) := by decide +kernel
theorem dX10_lineNow_26 : decode cX10_lineNow 26 = .ok (.iconst 2, 1) := by decide +kernel
theorem dX10_lineNow_27 : decode cX10_lineNow 27 = .ok (.bipush 111, 2) := by decide +kernel
theorem dX10_lineNow_29 : decode cX10_lineNow 29 = .ok (.bipush 110, 2) := by decide +kernel
theorem dX10_lineNow_31 : decode cX10_lineNow 31 = .ok (.invokevirtual 95, 3) := by decide +kernel
theorem dX10_lineNow_34 : decode cX10_lineNow 34 = .ok (.ifCond .eq 5, 3) := by decide +kernel
theorem dX10_lineNow_37 : decode cX10_lineNow 37 = .ok (.iconst 1, 1) := by decide +kernel
theorem dX10_lineNow_38 : decode cX10_lineNow 38 = .ok (.ireturn, 1) := by decide +kernel
theorem dX10_lineNow_39 : decode cX10_lineNow 39 = .ok (.aload_n 0, 1) := by decide +kernel
theorem dX10_lineNow_40 : decode cX10_lineNow 40 = .ok (.iconst 4, 1) := by decide +kernel
theorem dX10_lineNow_41 : decode cX10_lineNow 41 = .ok (.bipush 98, 2) := by decide +kernel
theorem dX10_lineNow_43 : decode cX10_lineNow 43 = .ok (.bipush 97, 2) := by decide +kernel
theorem dX10_lineNow_45 : decode cX10_lineNow 45 = .ok (.invokevirtual 95, 3) := by decide +kernel
theorem dX10_lineNow_48 : decode cX10_lineNow 48 = .ok (.ifCond .eq 16, 3) := by decide +kernel
theorem dX10_lineNow_51 : decode cX10_lineNow 51 = .ok (.aload_n 0, 1) := by decide +kernel
theorem dX10_lineNow_52 : decode cX10_lineNow 52 = .ok (.bipush 99, 2) := by decide +kernel
theorem dX10_lineNow_54 : decode cX10_lineNow 54 = .ok (.bipush 107, 2) := by decide +kernel
theorem dX10_lineNow_56 : decode cX10_lineNow 56 = .ok (.invokevirtual 99, 3) := by decide +kernel
theorem dX10_lineNow_59 : decode cX10_lineNow 59 = .ok (.ifCond .eq 5, 3) := by decide +kernel
theorem dX10_lineNow_62 : decode cX10_lineNow 62 = .ok (.iconst 2, 1) := by decide +kernel
theorem dX10_lineNow_63 : decode cX10_lineNow 63 = .ok (.ireturn, 1) := by decide +kernel
theorem dX10_lineNow_64 : decode cX10_lineNow 64 = .ok (.aload_n 0, 1) := by decide +kernel
theorem dX10_lineNow_65 : decode cX10_lineNow 65 = .ok (.bipush 6, 2) := by decide +kernel
theorem dX10_lineNow_67 : decode cX10_lineNow 67 = .ok (.bipush 115, 2) := by decide +kernel
theorem dX10_lineNow_69 : decode cX10_lineNow 69 = .ok (.bipush 112, 2) := by decide +kernel
theorem dX10_lineNow_71 : decode cX10_lineNow 71 = .ok (.invokevirtual 95, 3) := by decide +kernel
theorem dX10_lineNow_74 : decode cX10_lineNow 74 = .ok (.ifCond .eq 28, 3) := by decide +kernel
theorem dX10_lineNow_77 : decode cX10_lineNow 77 = .ok (.aload_n 0, 1) := by decide +kernel
theorem dX10_lineNow_78 : decode cX10_lineNow 78 = .ok (.bipush 114, 2) := by decide +kernel
theorem dX10_lineNow_80 : decode cX10_lineNow 80 = .ok (.bipush 101, 2) := by decide +kernel
theorem dX10_lineNow_82 : decode cX10_lineNow 82 = .ok (.invokevirtual 99, 3) := by decide +kernel
theorem dX10_lineNow_85 : decode cX10_lineNow 85 = .ok (.ifCond .eq 17, 3) := by decide +kernel
theorem dX10_lineNow_88 : decode cX10_lineNow 88 = .ok (.aload_n 0, 1) := by decide +kernel
theorem dX10_lineNow_89 : decode cX10_lineNow 89 = .ok (.bipush 97, 2) := by decide +kernel
theorem dX10_lineNow_91 : decode cX10_lineNow 91 = .ok (.bipush 100, 2) := by decide +kernel
theorem dX10_lineNow_93 : decode cX10_lineNow 93 = .ok (.iconst 0, 1) := by decide +kernel
theorem dX10_lineNow_94 : decode cX10_lineNow 94 = .ok (.invokevirtual 103, 3) := by decide +kernel
theorem dX10_lineNow_97 : decode cX10_lineNow 97 = .ok (.ifCond .eq 5, 3) := by decide +kernel
theorem dX10_lineNow_100 : decode cX10_lineNow 100 = .ok (.iconst 3, 1) := by decide +kernel
theorem dX10_lineNow_101 : decode cX10_lineNow 101 = .ok (.ireturn, 1) := by decide +kernel
theorem dX10_lineNow_102 : decode cX10_lineNow 102 = .ok (.aload_n 0, 1) := by decide +kernel
theorem dX10_lineNow_103 : decode cX10_lineNow 103 = .ok (.iconst 4, 1) := by decide +kernel
theorem dX10_lineNow_104 : decode cX10_lineNow 104 = .ok (.bipush 108, 2) := by decide +kernel
theorem dX10_lineNow_106 : decode cX10_lineNow 106 = .ok (.bipush 105, 2) := by decide +kernel
theorem dX10_lineNow_108 : decode cX10_lineNow 108 = .ok (.invokevirtual 95, 3) := by decide +kernel
theorem dX10_lineNow_111 : decode cX10_lineNow 111 = .ok (.ifCond .eq 16, 3) := by decide +kernel
theorem dX10_lineNow_114 : decode cX10_lineNow 114 = .ok (.aload_n 0, 1) := by decide +kernel
theorem dX10_lineNow_115 : decode cX10_lineNow 115 = .ok (.bipush 110, 2) := by decide +kernel
theorem dX10_lineNow_117 : decode cX10_lineNow 117 = .ok (.bipush 101, 2) := by decide +kernel
theorem dX10_lineNow_119 : decode cX10_lineNow 119 = .ok (.invokevirtual 99, 3) := by decide +kernel
theorem dX10_lineNow_122 : decode cX10_lineNow 122 = .ok (.ifCond .eq 5, 3) := by decide +kernel
theorem dX10_lineNow_125 : decode cX10_lineNow 125 = .ok (.iconst 4, 1) := by decide +kernel
theorem dX10_lineNow_126 : decode cX10_lineNow 126 = .ok (.ireturn, 1) := by decide +kernel
theorem dX10_lineNow_127 : decode cX10_lineNow 127 = .ok (.aload_n 0, 1) := by decide +kernel
theorem dX10_lineNow_128 : decode cX10_lineNow 128 = .ok (.bipush 7, 2) := by decide +kernel
theorem dX10_lineNow_130 : decode cX10_lineNow 130 = .ok (.bipush 102, 2) := by decide +kernel
theorem dX10_lineNow_132 : decode cX10_lineNow 132 = .ok (.bipush 105, 2) := by decide +kernel
theorem dX10_lineNow_134 : decode cX10_lineNow 134 = .ok (.invokevirtual 95, 3) := by decide +kernel
theorem dX10_lineNow_137 : decode cX10_lineNow 137 = .ok (.ifCond .eq 31, 3) := by decide +kernel
theorem dX10_lineNow_140 : decode cX10_lineNow 140 = .ok (.aload_n 0, 1) := by decide +kernel
theorem dX10_lineNow_141 : decode cX10_lineNow 141 = .ok (.bipush 110, 2) := by decide +kernel
theorem dX10_lineNow_143 : decode cX10_lineNow 143 = .ok (.bipush 100, 2) := by decide +kernel
theorem dX10_lineNow_145 : decode cX10_lineNow 145 = .ok (.invokevirtual 99, 3) := by decide +kernel
theorem dX10_lineNow_148 : decode cX10_lineNow 148 = .ok (.ifCond .eq 20, 3) := by decide +kernel
theorem dX10_lineNow_151 : decode cX10_lineNow 151 = .ok (.aload_n 0, 1) := by decide +kernel
theorem dX10_lineNow_152 : decode cX10_lineNow 152 = .ok (.bipush 101, 2) := by decide +kernel
theorem dX10_lineNow_154 : decode cX10_lineNow 154 = .ok (.bipush 114, 2) := by decide +kernel
theorem dX10_lineNow_156 : decode cX10_lineNow 156 = .ok (.bipush 115, 2) := by decide +kernel
theorem dX10_lineNow_158 : decode cX10_lineNow 158 = .ok (.invokevirtual 103, 3) := by decide +kernel
theorem dX10_lineNow_161 : decode cX10_lineNow 161 = .ok (.ifCond .eq 7, 3) := by decide +kernel
theorem dX10_lineNow_164 : decode cX10_lineNow 164 = .ok (.iconst 5, 1) := by decide +kernel
theorem dX10_lineNow_165 : decode cX10_lineNow 165 = .ok (.goto 33, 3) := by decide +kernel
theorem dX10_lineNow_168 : decode cX10_lineNow 168 = .ok (.aload_n 0, 1) := by decide +kernel
theorem dX10_lineNow_169 : decode cX10_lineNow 169 = .ok (.iconst 4, 1) := by decide +kernel
theorem dX10_lineNow_170 : decode cX10_lineNow 170 = .ok (.bipush 112, 2) := by decide +kernel
theorem dX10_lineNow_172 : decode cX10_lineNow 172 = .ok (.bipush 108, 2) := by decide +kernel
theorem dX10_lineNow_174 : decode cX10_lineNow 174 = .ok (.invokevirtual 95, 3) := by decide +kernel
theorem dX10_lineNow_177 : decode cX10_lineNow 177 = .ok (.ifCond .eq 19, 3) := by decide +kernel
theorem dX10_lineNow_180 : decode cX10_lineNow 180 = .ok (.aload_n 0, 1) := by decide +kernel
theorem dX10_lineNow_181 : decode cX10_lineNow 181 = .ok (.bipush 97, 2) := by decide +kernel
theorem dX10_lineNow_183 : decode cX10_lineNow 183 = .ok (.bipush 110, 2) := by decide +kernel
theorem dX10_lineNow_185 : decode cX10_lineNow 185 = .ok (.invokevirtual 99, 3) := by decide +kernel
theorem dX10_lineNow_188 : decode cX10_lineNow 188 = .ok (.ifCond .eq 8, 3) := by decide +kernel
theorem dX10_lineNow_191 : decode cX10_lineNow 191 = .ok (.bipush 6, 2) := by decide +kernel
theorem dX10_lineNow_193 : decode cX10_lineNow 193 = .ok (.goto 5, 3) := by decide +kernel
theorem dX10_lineNow_196 : decode cX10_lineNow 196 = .ok (.bipush (-4), 2) := by decide +kernel
theorem dX10_lineNow_198 : decode cX10_lineNow 198 = .ok (.ireturn, 1) := by decide +kernel
theorem lk_X10_95 : LkV RX10 95 RX10 yX10_is cX10_is 4 (some .boolean) 3 := LkV.of 1102 1104 20 71 1105 (by decide +kernel) (by decide +kernel) (by decide +kernel) (by decide +kernel) (by decide +kernel) (by decide +kernel)
theorem lk_X10_99 : LkV RX10 99 RX10 yX10_ends cX10_ends 3 (some .boolean) 2 := LkV.of 1106 1108 21 71 1109 (by decide +kernel) (by decide +kernel) (by decide +kernel) (by decide +kernel) (by decide +kernel) (by decide +kernel)
theorem lk_X10_103 : LkV RX10 103 RX10 yX10_goesOn cX10_goesOn 4 (some .boolean) 3 := LkV.of 1110 1112 22 71 1113 (by decide +kernel) (by decide +kernel) (by decide +kernel) (by decide +kernel) (by decide +kernel) (by decide +kernel)
set_option maxRecDepth 100000 in
set_option maxHeartbeats 4000000 in
theorem s_X10_lineNow_J168 {ω : WD} {ρ : FR} {post : Int32 → Mem → Prop} (C : Cx ω ρ cX10_lineNow RX10 2 1) (R : RtI ω ρ cX10_lineNow .int post) {M : Mem} (h : w_X10_lineNow_J168 post M) : G ω ρ M 168 [(0, .ref (adr ω 128))] [] := by
  refine G_aload_n C dX10_lineNow_168 0 rfl ?_
  refine G_iconst (v := 4) C dX10_lineNow_169 (by decide) ?_
  refine G_bipush (v := 112) C dX10_lineNow_170 (by decide) ?_
  refine G_bipush (v := 108) C dX10_lineNow_172 (by decide) ?_
  refine G_callI (As := [.int 4, .int 112, .int 108]) (rest := []) C dX10_lineNow_174 lk_X10_95 (Nat.le_of_ble_eq_true rfl) (Nat.le_of_ble_eq_true rfl) q128 (by decide) rfl (Nat.le_of_ble_eq_true rfl) rfl (S_X10_is h) (fun r2 M1 h => ?_)
  obtain ⟨h1, h2⟩ := h
  refine G_if_eq (tgt := 196) C dX10_lineNow_177 (by decide) (fun c => ?_) (fun c => ?_)
  · have h := h1 c
    clear h1 h2
    refine G_bipush (v := (-4)) C dX10_lineNow_196 (by decide) ?_
    exact R 198 _ _ _ dX10_lineNow_198 rfl h
  · have h := h2 c
    clear h1 h2
    refine G_aload_n C dX10_lineNow_180 0 rfl ?_
    refine G_bipush (v := 97) C dX10_lineNow_181 (by decide) ?_
    refine G_bipush (v := 110) C dX10_lineNow_183 (by decide) ?_
    refine G_callI (As := [.int 97, .int 110]) (rest := []) C dX10_lineNow_185 lk_X10_99 (Nat.le_of_ble_eq_true rfl) (Nat.le_of_ble_eq_true rfl) q128 (by decide) rfl (Nat.le_of_ble_eq_true rfl) rfl (S_X10_ends h) (fun r4 M3 h => ?_)
    obtain ⟨h1, h2⟩ := h
    refine G_if_eq (tgt := 196) C dX10_lineNow_188 (by decide) (fun c => ?_) (fun c => ?_)
    · have h := h1 c
      clear h1 h2
      refine G_bipush (v := (-4)) C dX10_lineNow_196 (by decide) ?_
      exact R 198 _ _ _ dX10_lineNow_198 rfl h
    · have h := h2 c
      clear h1 h2
      refine G_bipush (v := 6) C dX10_lineNow_191 (by decide) ?_
      refine G_goto (tgt := 198) C dX10_lineNow_193 (by decide) ?_
      exact R 198 _ _ _ dX10_lineNow_198 rfl h
set_option maxRecDepth 100000 in
set_option maxHeartbeats 4000000 in
theorem s_X10_lineNow_J127 {ω : WD} {ρ : FR} {post : Int32 → Mem → Prop} (C : Cx ω ρ cX10_lineNow RX10 2 1) (R : RtI ω ρ cX10_lineNow .int post) {M : Mem} (h : w_X10_lineNow_J127 post M) : G ω ρ M 127 [(0, .ref (adr ω 128))] [] := by
  refine G_aload_n C dX10_lineNow_127 0 rfl ?_
  refine G_bipush (v := 7) C dX10_lineNow_128 (by decide) ?_
  refine G_bipush (v := 102) C dX10_lineNow_130 (by decide) ?_
  refine G_bipush (v := 105) C dX10_lineNow_132 (by decide) ?_
  refine G_callI (As := [.int 7, .int 102, .int 105]) (rest := []) C dX10_lineNow_134 lk_X10_95 (Nat.le_of_ble_eq_true rfl) (Nat.le_of_ble_eq_true rfl) q128 (by decide) rfl (Nat.le_of_ble_eq_true rfl) rfl (S_X10_is h) (fun r6 M5 h => ?_)
  obtain ⟨h1, h2⟩ := h
  refine G_if_eq (tgt := 168) C dX10_lineNow_137 (by decide) (fun c => ?_) (fun c => ?_)
  · have h := h1 c
    clear h1 h2
    exact s_X10_lineNow_J168 C R  h
  · have h := h2 c
    clear h1 h2
    refine G_aload_n C dX10_lineNow_140 0 rfl ?_
    refine G_bipush (v := 110) C dX10_lineNow_141 (by decide) ?_
    refine G_bipush (v := 100) C dX10_lineNow_143 (by decide) ?_
    refine G_callI (As := [.int 110, .int 100]) (rest := []) C dX10_lineNow_145 lk_X10_99 (Nat.le_of_ble_eq_true rfl) (Nat.le_of_ble_eq_true rfl) q128 (by decide) rfl (Nat.le_of_ble_eq_true rfl) rfl (S_X10_ends h) (fun r8 M7 h => ?_)
    obtain ⟨h1, h2⟩ := h
    refine G_if_eq (tgt := 168) C dX10_lineNow_148 (by decide) (fun c => ?_) (fun c => ?_)
    · have h := h1 c
      clear h1 h2
      exact s_X10_lineNow_J168 C R  h
    · have h := h2 c
      clear h1 h2
      refine G_aload_n C dX10_lineNow_151 0 rfl ?_
      refine G_bipush (v := 101) C dX10_lineNow_152 (by decide) ?_
      refine G_bipush (v := 114) C dX10_lineNow_154 (by decide) ?_
      refine G_bipush (v := 115) C dX10_lineNow_156 (by decide) ?_
      refine G_callI (As := [.int 101, .int 114, .int 115]) (rest := []) C dX10_lineNow_158 lk_X10_103 (Nat.le_of_ble_eq_true rfl) (Nat.le_of_ble_eq_true rfl) q128 (by decide) rfl (Nat.le_of_ble_eq_true rfl) rfl (S_X10_goesOn h) (fun r10 M9 h => ?_)
      obtain ⟨h1, h2⟩ := h
      refine G_if_eq (tgt := 168) C dX10_lineNow_161 (by decide) (fun c => ?_) (fun c => ?_)
      · have h := h1 c
        clear h1 h2
        exact s_X10_lineNow_J168 C R  h
      · have h := h2 c
        clear h1 h2
        refine G_iconst (v := 5) C dX10_lineNow_164 (by decide) ?_
        refine G_goto (tgt := 198) C dX10_lineNow_165 (by decide) ?_
        exact R 198 _ _ _ dX10_lineNow_198 rfl h
set_option maxRecDepth 100000 in
set_option maxHeartbeats 4000000 in
theorem s_X10_lineNow_J102 {ω : WD} {ρ : FR} {post : Int32 → Mem → Prop} (C : Cx ω ρ cX10_lineNow RX10 2 1) (R : RtI ω ρ cX10_lineNow .int post) {M : Mem} (h : w_X10_lineNow_J102 post M) : G ω ρ M 102 [(0, .ref (adr ω 128))] [] := by
  refine G_aload_n C dX10_lineNow_102 0 rfl ?_
  refine G_iconst (v := 4) C dX10_lineNow_103 (by decide) ?_
  refine G_bipush (v := 108) C dX10_lineNow_104 (by decide) ?_
  refine G_bipush (v := 105) C dX10_lineNow_106 (by decide) ?_
  refine G_callI (As := [.int 4, .int 108, .int 105]) (rest := []) C dX10_lineNow_108 lk_X10_95 (Nat.le_of_ble_eq_true rfl) (Nat.le_of_ble_eq_true rfl) q128 (by decide) rfl (Nat.le_of_ble_eq_true rfl) rfl (S_X10_is h) (fun r12 M11 h => ?_)
  obtain ⟨h1, h2⟩ := h
  refine G_if_eq (tgt := 127) C dX10_lineNow_111 (by decide) (fun c => ?_) (fun c => ?_)
  · have h := h1 c
    clear h1 h2
    exact s_X10_lineNow_J127 C R  h
  · have h := h2 c
    clear h1 h2
    refine G_aload_n C dX10_lineNow_114 0 rfl ?_
    refine G_bipush (v := 110) C dX10_lineNow_115 (by decide) ?_
    refine G_bipush (v := 101) C dX10_lineNow_117 (by decide) ?_
    refine G_callI (As := [.int 110, .int 101]) (rest := []) C dX10_lineNow_119 lk_X10_99 (Nat.le_of_ble_eq_true rfl) (Nat.le_of_ble_eq_true rfl) q128 (by decide) rfl (Nat.le_of_ble_eq_true rfl) rfl (S_X10_ends h) (fun r14 M13 h => ?_)
    obtain ⟨h1, h2⟩ := h
    refine G_if_eq (tgt := 127) C dX10_lineNow_122 (by decide) (fun c => ?_) (fun c => ?_)
    · have h := h1 c
      clear h1 h2
      exact s_X10_lineNow_J127 C R  h
    · have h := h2 c
      clear h1 h2
      refine G_iconst (v := 4) C dX10_lineNow_125 (by decide) ?_
      exact R 126 _ _ _ dX10_lineNow_126 rfl h
set_option maxRecDepth 100000 in
set_option maxHeartbeats 4000000 in
theorem s_X10_lineNow_J64 {ω : WD} {ρ : FR} {post : Int32 → Mem → Prop} (C : Cx ω ρ cX10_lineNow RX10 2 1) (R : RtI ω ρ cX10_lineNow .int post) {M : Mem} (h : w_X10_lineNow_J64 post M) : G ω ρ M 64 [(0, .ref (adr ω 128))] [] := by
  refine G_aload_n C dX10_lineNow_64 0 rfl ?_
  refine G_bipush (v := 6) C dX10_lineNow_65 (by decide) ?_
  refine G_bipush (v := 115) C dX10_lineNow_67 (by decide) ?_
  refine G_bipush (v := 112) C dX10_lineNow_69 (by decide) ?_
  refine G_callI (As := [.int 6, .int 115, .int 112]) (rest := []) C dX10_lineNow_71 lk_X10_95 (Nat.le_of_ble_eq_true rfl) (Nat.le_of_ble_eq_true rfl) q128 (by decide) rfl (Nat.le_of_ble_eq_true rfl) rfl (S_X10_is h) (fun r16 M15 h => ?_)
  obtain ⟨h1, h2⟩ := h
  refine G_if_eq (tgt := 102) C dX10_lineNow_74 (by decide) (fun c => ?_) (fun c => ?_)
  · have h := h1 c
    clear h1 h2
    exact s_X10_lineNow_J102 C R  h
  · have h := h2 c
    clear h1 h2
    refine G_aload_n C dX10_lineNow_77 0 rfl ?_
    refine G_bipush (v := 114) C dX10_lineNow_78 (by decide) ?_
    refine G_bipush (v := 101) C dX10_lineNow_80 (by decide) ?_
    refine G_callI (As := [.int 114, .int 101]) (rest := []) C dX10_lineNow_82 lk_X10_99 (Nat.le_of_ble_eq_true rfl) (Nat.le_of_ble_eq_true rfl) q128 (by decide) rfl (Nat.le_of_ble_eq_true rfl) rfl (S_X10_ends h) (fun r18 M17 h => ?_)
    obtain ⟨h1, h2⟩ := h
    refine G_if_eq (tgt := 102) C dX10_lineNow_85 (by decide) (fun c => ?_) (fun c => ?_)
    · have h := h1 c
      clear h1 h2
      exact s_X10_lineNow_J102 C R  h
    · have h := h2 c
      clear h1 h2
      refine G_aload_n C dX10_lineNow_88 0 rfl ?_
      refine G_bipush (v := 97) C dX10_lineNow_89 (by decide) ?_
      refine G_bipush (v := 100) C dX10_lineNow_91 (by decide) ?_
      refine G_iconst (v := 0) C dX10_lineNow_93 (by decide) ?_
      refine G_callI (As := [.int 97, .int 100, .int 0]) (rest := []) C dX10_lineNow_94 lk_X10_103 (Nat.le_of_ble_eq_true rfl) (Nat.le_of_ble_eq_true rfl) q128 (by decide) rfl (Nat.le_of_ble_eq_true rfl) rfl (S_X10_goesOn h) (fun r20 M19 h => ?_)
      obtain ⟨h1, h2⟩ := h
      refine G_if_eq (tgt := 102) C dX10_lineNow_97 (by decide) (fun c => ?_) (fun c => ?_)
      · have h := h1 c
        clear h1 h2
        exact s_X10_lineNow_J102 C R  h
      · have h := h2 c
        clear h1 h2
        refine G_iconst (v := 3) C dX10_lineNow_100 (by decide) ?_
        exact R 101 _ _ _ dX10_lineNow_101 rfl h
set_option maxRecDepth 100000 in
set_option maxHeartbeats 4000000 in
theorem s_X10_lineNow_J25 {ω : WD} {ρ : FR} {post : Int32 → Mem → Prop} (C : Cx ω ρ cX10_lineNow RX10 2 1) (R : RtI ω ρ cX10_lineNow .int post) {M : Mem} (h : w_X10_lineNow_J25 post M) : G ω ρ M 25 [(0, .ref (adr ω 128))] [] := by
  refine G_aload_n C dX10_lineNow_25 0 rfl ?_
  refine G_iconst (v := 2) C dX10_lineNow_26 (by decide) ?_
  refine G_bipush (v := 111) C dX10_lineNow_27 (by decide) ?_
  refine G_bipush (v := 110) C dX10_lineNow_29 (by decide) ?_
  refine G_callI (As := [.int 2, .int 111, .int 110]) (rest := []) C dX10_lineNow_31 lk_X10_95 (Nat.le_of_ble_eq_true rfl) (Nat.le_of_ble_eq_true rfl) q128 (by decide) rfl (Nat.le_of_ble_eq_true rfl) rfl (S_X10_is h) (fun r22 M21 h => ?_)
  obtain ⟨h1, h2⟩ := h
  refine G_if_eq (tgt := 39) C dX10_lineNow_34 (by decide) (fun c => ?_) (fun c => ?_)
  · have h := h1 c
    clear h1 h2
    refine G_aload_n C dX10_lineNow_39 0 rfl ?_
    refine G_iconst (v := 4) C dX10_lineNow_40 (by decide) ?_
    refine G_bipush (v := 98) C dX10_lineNow_41 (by decide) ?_
    refine G_bipush (v := 97) C dX10_lineNow_43 (by decide) ?_
    refine G_callI (As := [.int 4, .int 98, .int 97]) (rest := []) C dX10_lineNow_45 lk_X10_95 (Nat.le_of_ble_eq_true rfl) (Nat.le_of_ble_eq_true rfl) q128 (by decide) rfl (Nat.le_of_ble_eq_true rfl) rfl (S_X10_is h) (fun r24 M23 h => ?_)
    obtain ⟨h1, h2⟩ := h
    refine G_if_eq (tgt := 64) C dX10_lineNow_48 (by decide) (fun c => ?_) (fun c => ?_)
    · have h := h1 c
      clear h1 h2
      exact s_X10_lineNow_J64 C R  h
    · have h := h2 c
      clear h1 h2
      refine G_aload_n C dX10_lineNow_51 0 rfl ?_
      refine G_bipush (v := 99) C dX10_lineNow_52 (by decide) ?_
      refine G_bipush (v := 107) C dX10_lineNow_54 (by decide) ?_
      refine G_callI (As := [.int 99, .int 107]) (rest := []) C dX10_lineNow_56 lk_X10_99 (Nat.le_of_ble_eq_true rfl) (Nat.le_of_ble_eq_true rfl) q128 (by decide) rfl (Nat.le_of_ble_eq_true rfl) rfl (S_X10_ends h) (fun r26 M25 h => ?_)
      obtain ⟨h1, h2⟩ := h
      refine G_if_eq (tgt := 64) C dX10_lineNow_59 (by decide) (fun c => ?_) (fun c => ?_)
      · have h := h1 c
        clear h1 h2
        exact s_X10_lineNow_J64 C R  h
      · have h := h2 c
        clear h1 h2
        refine G_iconst (v := 2) C dX10_lineNow_62 (by decide) ?_
        exact R 63 _ _ _ dX10_lineNow_63 rfl h
  · have h := h2 c
    clear h1 h2
    refine G_iconst (v := 1) C dX10_lineNow_37 (by decide) ?_
    exact R 38 _ _ _ dX10_lineNow_38 rfl h
set_option maxRecDepth 100000 in
set_option maxHeartbeats 4000000 in
theorem S_X10_lineNow {ω : WD} {M : Mem} {post : Int32 → Mem → Prop} (h : w_X10_lineNow M post) : MtI ω yX10_lineNow cX10_lineNow 1 (some .int) 2 [.ref (adr ω 128)] M post := by
  refine MtI.start (ty := .int) rfl (by decide +kernel) (own := RX10) rfl (Nat.le_of_ble_eq_true rfl) (fun ρ C R => ?_)
  show G ω ρ M 0 [(0, .ref (adr ω 128))] []
  refine G_aload_n C dX10_lineNow_0 0 rfl ?_
  refine G_iconst (v := 4) C dX10_lineNow_1 (by decide) ?_
  refine G_bipush (v := 104) C dX10_lineNow_2 (by decide) ?_
  refine G_bipush (v := 111) C dX10_lineNow_4 (by decide) ?_
  refine G_callI (As := [.int 4, .int 104, .int 111]) (rest := []) C dX10_lineNow_6 lk_X10_95 (Nat.le_of_ble_eq_true rfl) (Nat.le_of_ble_eq_true rfl) q128 (by decide) rfl (Nat.le_of_ble_eq_true rfl) rfl (S_X10_is h) (fun r28 M27 h => ?_)
  obtain ⟨h1, h2⟩ := h
  refine G_if_eq (tgt := 25) C dX10_lineNow_9 (by decide) (fun c => ?_) (fun c => ?_)
  · have h := h1 c
    clear h1 h2
    exact s_X10_lineNow_J25 C R  h
  · have h := h2 c
    clear h1 h2
    refine G_aload_n C dX10_lineNow_12 0 rfl ?_
    refine G_bipush (v := 109) C dX10_lineNow_13 (by decide) ?_
    refine G_bipush (v := 101) C dX10_lineNow_15 (by decide) ?_
    refine G_callI (As := [.int 109, .int 101]) (rest := []) C dX10_lineNow_17 lk_X10_99 (Nat.le_of_ble_eq_true rfl) (Nat.le_of_ble_eq_true rfl) q128 (by decide) rfl (Nat.le_of_ble_eq_true rfl) rfl (S_X10_ends h) (fun r30 M29 h => ?_)
    obtain ⟨h1, h2⟩ := h
    refine G_if_eq (tgt := 25) C dX10_lineNow_20 (by decide) (fun c => ?_) (fun c => ?_)
    · have h := h1 c
      clear h1 h2
      exact s_X10_lineNow_J25 C R  h
    · have h := h2 c
      clear h1 h2
      refine G_iconst (v := 0) C dX10_lineNow_23 (by decide) ?_
      exact R 24 _ _ _ dX10_lineNow_24 rfl h
theorem dX10_takes_0 : decode cX10_takes 0 = .ok (.aload_n 0, 1) := by decide +kernel
theorem dX10_takes_1 : decode cX10_takes 1 = .ok (.getfield 79, 3) := by decide +kernel
theorem dX10_takes_4 : decode cX10_takes 4 = .ok (.ifCond .le 4, 3) := by decide +kernel
theorem dX10_takes_7 : decode cX10_takes 7 = .ok (.return_, 1) := by decide +kernel
theorem dX10_takes_8 : decode cX10_takes 8 = .ok (.aload_n 0, 1) := by decide +kernel
theorem dX10_takes_9 : decode cX10_takes 9 = .ok (.aload_n 0, 1) := by decide +kernel
theorem dX10_takes_10 : decode cX10_takes 10 = .ok (.getfield 88, 3) := by decide +kernel
theorem dX10_takes_13 : decode cX10_takes 13 = .ok (.invokevirtual 91, 3) := by decide +kernel
theorem dX10_takes_16 : decode cX10_takes 16 = .ok (.bipush 32, 2) := by decide +kernel
theorem dX10_takes_18 : decode cX10_takes 18 = .ok (.if_icmp .ne 16, 3) := by decide +kernel
theorem dX10_takes_21 : decode cX10_takes 21 = .ok (.aload_n 0, 1) := by decide +kernel
theorem dX10_takes_22 : decode cX10_takes 22 = .ok (.dup, 1) := by decide +kernel
theorem dX10_takes_23 : decode cX10_takes 23 = .ok (.getfield 88, 3) := by decide +kernel
theorem dX10_takes_26 : decode cX10_takes 26 = .ok (.iconst 1, 1) := by decide +kernel
theorem dX10_takes_27 : decode cX10_takes 27 = .ok (.iadd, 1) := by decide +kernel
theorem dX10_takes_28 : decode cX10_takes 28 = .ok (.putfield 88, 3) := by decide +kernel
theorem dX10_takes_31 : decode cX10_takes 31 = .ok (.goto (-23), 3) := by decide +kernel
theorem dX10_takes_34 : decode cX10_takes 34 = .ok (.aload_n 0, 1) := by decide +kernel
theorem dX10_takes_35 : decode cX10_takes 35 = .ok (.aload_n 0, 1) := by decide +kernel
theorem dX10_takes_36 : decode cX10_takes 36 = .ok (.getfield 88, 3) := by decide +kernel
theorem dX10_takes_39 : decode cX10_takes 39 = .ok (.putfield 82, 3) := by decide +kernel
theorem dX10_takes_42 : decode cX10_takes 42 = .ok (.aload_n 0, 1) := by decide +kernel
theorem dX10_takes_43 : decode cX10_takes 43 = .ok (.aload_n 0, 1) := by decide +kernel
theorem dX10_takes_44 : decode cX10_takes 44 = .ok (.getfield 88, 3) := by decide +kernel
theorem dX10_takes_47 : decode cX10_takes 47 = .ok (.invokevirtual 91, 3) := by decide +kernel
theorem dX10_takes_50 : decode cX10_takes 50 = .ok (.istore_n 1, 1) := by decide +kernel
theorem dX10_takes_51 : decode cX10_takes 51 = .ok (.iload_n 1, 1) := by decide +kernel
theorem dX10_takes_52 : decode cX10_takes 52 = .ok (.ifCond .ge 11, 3) := by decide +kernel
theorem dX10_takes_55 : decode cX10_takes 55 = .ok (.aload_n 0, 1) := by decide +kernel
theorem dX10_takes_56 : decode cX10_takes 56 = .ok (.iconst 0, 1) := by decide +kernel
theorem dX10_takes_57 : decode cX10_takes 57 = .ok (.putfield 106, 3) := by decide +kernel
theorem dX10_takes_60 : decode cX10_takes 60 = .ok (.goto 214, 3) := by decide +kernel
theorem dX10_takes_63 : decode cX10_takes 63 = .ok (.iload_n 1, 1) := by decide +kernel
theorem dX10_takes_64 : decode cX10_takes 64 = .ok (.i2l, 1) := by decide +kernel
theorem dX10_takes_65 : decode cX10_takes 65 = .ok (.ldc2_w 109, 3) := by decide +kernel
theorem dX10_takes_68 : decode cX10_takes 68 = .ok (.ldc2_w 111, 3) := by decide +kernel
theorem dX10_takes_71 : decode cX10_takes 71 = .ok (.invokestatic 52, 3) := by decide +kernel
theorem dX10_takes_74 : decode cX10_takes 74 = .ok (.ifCond .eq 42, 3) := by decide +kernel
theorem dX10_takes_77 : decode cX10_takes 77 = .ok (.aload_n 0, 1) := by decide +kernel
theorem dX10_takes_78 : decode cX10_takes 78 = .ok (.iconst 1, 1) := by decide +kernel
theorem dX10_takes_79 : decode cX10_takes 79 = .ok (.putfield 106, 3) := by decide +kernel
theorem dX10_takes_82 : decode cX10_takes 82 = .ok (.aload_n 0, 1) := by decide +kernel
theorem dX10_takes_83 : decode cX10_takes 83 = .ok (.aload_n 0, 1) := by decide +kernel
theorem dX10_takes_84 : decode cX10_takes 84 = .ok (.getfield 88, 3) := by decide +kernel
theorem dX10_takes_87 : decode cX10_takes 87 = .ok (.invokevirtual 91, 3) := by decide +kernel
theorem dX10_takes_90 : decode cX10_takes 90 = .ok (.i2l, 1) := by decide +kernel
theorem dX10_takes_91 : decode cX10_takes 91 = .ok (.ldc2_w 109, 3) := by decide +kernel
theorem dX10_takes_94 : decode cX10_takes 94 = .ok (.ldc2_w 111, 3) := by decide +kernel
theorem dX10_takes_97 : decode cX10_takes 97 = .ok (.invokestatic 52, 3) := by decide +kernel
theorem dX10_takes_100 : decode cX10_takes 100 = .ok (.ifCond .eq 174, 3) := by decide +kernel
theorem dX10_takes_103 : decode cX10_takes 103 = .ok (.aload_n 0, 1) := by decide +kernel
theorem dX10_takes_104 : decode cX10_takes 104 = .ok (.dup, 1) := by decide +kernel
theorem dX10_takes_105 : decode cX10_takes 105 = .ok (.getfield 88, 3) := by decide +kernel
theorem dX10_takes_108 : decode cX10_takes 108 = .ok (.iconst 1, 1) := by decide +kernel
theorem dX10_takes_109 : decode cX10_takes 109 = .ok (.iadd, 1) := by decide +kernel
theorem dX10_takes_110 : decode cX10_takes 110 = .ok (.putfield 88, 3) := by decide +kernel
theorem dX10_takes_113 : decode cX10_takes 113 = .ok (.goto (-31), 3) := by decide +kernel
theorem dX10_takes_116 : decode cX10_takes 116 = .ok (.iload_n 1, 1) := by decide +kernel
theorem dX10_takes_117 : decode cX10_takes 117 = .ok (.i2l, 1) := by decide +kernel
theorem dX10_takes_118 : decode cX10_takes 118 = .ok (.ldc2_w 113, 3) := by decide +kernel
theorem dX10_takes_121 : decode cX10_takes 121 = .ok (.ldc2_w 115, 3) := by decide +kernel
theorem dX10_takes_124 : decode cX10_takes 124 = .ok (.invokestatic 52, 3) := by decide +kernel
theorem dX10_takes_127 : decode cX10_takes 127 = .ok (.ifCond .eq 116, 3) := by decide +kernel
theorem dX10_takes_130 : decode cX10_takes 130 = .ok (.aload_n 0, 1) := by decide +kernel
theorem dX10_takes_131 : decode cX10_takes 131 = .ok (.iconst 2, 1) := by decide +kernel
theorem dX10_takes_132 : decode cX10_takes 132 = .ok (.putfield 106, 3) := by decide +kernel
theorem dX10_takes_135 : decode cX10_takes 135 = .ok (.aload_n 0, 1) := by decide +kernel
theorem dX10_takes_136 : decode cX10_takes 136 = .ok (.iconst 0, 1) := by decide +kernel
theorem dX10_takes_137 : decode cX10_takes 137 = .ok (.putfield 117, 3) := by decide +kernel
theorem dX10_takes_140 : decode cX10_takes 140 = .ok (.aload_n 0, 1) := by decide +kernel
theorem dX10_takes_141 : decode cX10_takes 141 = .ok (.aload_n 0, 1) := by decide +kernel
theorem dX10_takes_142 : decode cX10_takes 142 = .ok (.getfield 88, 3) := by decide +kernel
theorem dX10_takes_145 : decode cX10_takes 145 = .ok (.invokevirtual 91, 3) := by decide +kernel
theorem dX10_takes_148 : decode cX10_takes 148 = .ok (.i2l, 1) := by decide +kernel
theorem dX10_takes_149 : decode cX10_takes 149 = .ok (.ldc2_w 113, 3) := by decide +kernel
theorem dX10_takes_152 : decode cX10_takes 152 = .ok (.ldc2_w 115, 3) := by decide +kernel
theorem dX10_takes_155 : decode cX10_takes 155 = .ok (.invokestatic 52, 3) := by decide +kernel
theorem dX10_takes_158 : decode cX10_takes 158 = .ok (.ifCond .eq 59, 3) := by decide +kernel
theorem dX10_takes_161 : decode cX10_takes 161 = .ok (.aload_n 0, 1) := by decide +kernel
theorem dX10_takes_162 : decode cX10_takes 162 = .ok (.aload_n 0, 1) := by decide +kernel
theorem dX10_takes_163 : decode cX10_takes 163 = .ok (.getfield 88, 3) := by decide +kernel
theorem dX10_takes_166 : decode cX10_takes 166 = .ok (.aload_n 0, 1) := by decide +kernel
theorem dX10_takes_167 : decode cX10_takes 167 = .ok (.getfield 82, 3) := by decide +kernel
theorem dX10_takes_170 : decode cX10_takes 170 = .ok (.isub, 1) := by decide +kernel
theorem dX10_takes_171 : decode cX10_takes 171 = .ok (.iconst 2, 1) := by decide +kernel
theorem dX10_takes_172 : decode cX10_takes 172 = .ok (.if_icmp .ge 25, 3) := by decide +kernel
theorem dX10_takes_175 : decode cX10_takes 175 = .ok (.bipush 10, 2) := by decide +kernel
theorem dX10_takes_177 : decode cX10_takes 177 = .ok (.aload_n 0, 1) := by decide +kernel
theorem dX10_takes_178 : decode cX10_takes 178 = .ok (.getfield 117, 3) := by decide +kernel
theorem dX10_takes_181 : decode cX10_takes 181 = .ok (.imul, 1) := by decide +kernel
theorem dX10_takes_182 : decode cX10_takes 182 = .ok (.aload_n 0, 1) := by decide +kernel
theorem dX10_takes_183 : decode cX10_takes 183 = .ok (.aload_n 0, 1) := by decide +kernel
theorem dX10_takes_184 : decode cX10_takes 184 = .ok (.getfield 88, 3) := by decide +kernel
theorem dX10_takes_187 : decode cX10_takes 187 = .ok (.invokevirtual 91, 3) := by decide +kernel
theorem dX10_takes_190 : decode cX10_takes 190 = .ok (.iadd, 1) := by decide +kernel
theorem dX10_takes_191 : decode cX10_takes 191 = .ok (.bipush 48, 2) := by decide +kernel
theorem dX10_takes_193 : decode cX10_takes 193 = .ok (.isub, 1) := by decide +kernel
theorem dX10_takes_194 : decode cX10_takes 194 = .ok (.goto 7, 3) := by decide +kernel
theorem dX10_takes_197 : decode cX10_takes 197 = .ok (.aload_n 0, 1) := by decide +kernel
theorem dX10_takes_198 : decode cX10_takes 198 = .ok (.getfield 117, 3) := by decide +kernel
theorem dX10_takes_201 : decode cX10_takes 201 = .ok (.putfield 117, 3) := by decide +kernel
theorem dX10_takes_204 : decode cX10_takes 204 = .ok (.aload_n 0, 1) := by decide +kernel
theorem dX10_takes_205 : decode cX10_takes 205 = .ok (.dup, 1) := by decide +kernel
theorem dX10_takes_206 : decode cX10_takes 206 = .ok (.getfield 88, 3) := by decide +kernel
theorem dX10_takes_209 : decode cX10_takes 209 = .ok (.iconst 1, 1) := by decide +kernel
theorem dX10_takes_210 : decode cX10_takes 210 = .ok (.iadd, 1) := by decide +kernel
theorem dX10_takes_211 : decode cX10_takes 211 = .ok (.putfield 88, 3) := by decide +kernel
theorem dX10_takes_214 : decode cX10_takes 214 = .ok (.goto (-74), 3) := by decide +kernel
theorem dX10_takes_217 : decode cX10_takes 217 = .ok (.aload_n 0, 1) := by decide +kernel
theorem dX10_takes_218 : decode cX10_takes 218 = .ok (.aload_n 0, 1) := by decide +kernel
theorem dX10_takes_219 : decode cX10_takes 219 = .ok (.getfield 88, 3) := by decide +kernel
theorem dX10_takes_222 : decode cX10_takes 222 = .ok (.aload_n 0, 1) := by decide +kernel
theorem dX10_takes_223 : decode cX10_takes 223 = .ok (.getfield 82, 3) := by decide +kernel
theorem dX10_takes_226 : decode cX10_takes 226 = .ok (.isub, 1) := by decide +kernel
theorem dX10_takes_227 : decode cX10_takes 227 = .ok (.iconst 2, 1) := by decide +kernel
theorem dX10_takes_228 : decode cX10_takes 228 = .ok (.if_icmp .gt 7, 3) := by decide +kernel
theorem dX10_takes_231 : decode cX10_takes 231 = .ok (.iconst 1, 1) := by decide +kernel
theorem dX10_takes_232 : decode cX10_takes 232 = .ok (.goto 4, 3) := by decide +kernel
theorem dX10_takes_235 : decode cX10_takes 235 = .ok (.iconst 0, 1) := by decide +kernel
theorem dX10_takes_236 : decode cX10_takes 236 = .ok (.iconst 1, 1) := by decide +kernel
theorem dX10_takes_237 : decode cX10_takes 237 = .ok (.invokevirtual 120, 3) := by decide +kernel
theorem dX10_takes_240 : decode cX10_takes 240 = .ok (.goto 34, 3) := by decide +kernel
theorem dX10_takes_243 : decode cX10_takes 243 = .ok (.aload_n 0, 1) := by decide +kernel
theorem dX10_takes_244 : decode cX10_takes 244 = .ok (.iconst 3, 1) := by decide +kernel
theorem dX10_takes_245 : decode cX10_takes 245 = .ok (.putfield 106, 3) := by decide +kernel
theorem dX10_takes_248 : decode cX10_takes 248 = .ok (.aload_n 0, 1) := by decide +kernel
theorem dX10_takes_249 : decode cX10_takes 249 = .ok (.iload_n 1, 1) := by decide +kernel
theorem dX10_takes_250 : decode cX10_takes 250 = .ok (.bipush 59, 2) := by decide +kernel
theorem dX10_takes_252 : decode cX10_takes 252 = .ok (.if_icmp .ne 7, 3) := by decide +kernel
theorem dX10_takes_255 : decode cX10_takes 255 = .ok (.iconst 1, 1) := by decide +kernel
theorem dX10_takes_256 : decode cX10_takes 256 = .ok (.goto 4, 3) := by decide +kernel
theorem dX10_takes_259 : decode cX10_takes 259 = .ok (.iconst 0, 1) := by decide +kernel
theorem dX10_takes_260 : decode cX10_takes 260 = .ok (.iconst 1, 1) := by decide +kernel
theorem dX10_takes_261 : decode cX10_takes 261 = .ok (.invokevirtual 120, 3) := by decide +kernel
theorem dX10_takes_264 : decode cX10_takes 264 = .ok (.aload_n 0, 1) := by decide +kernel
theorem dX10_takes_265 : decode cX10_takes 265 = .ok (.dup, 1) := by decide +kernel
theorem dX10_takes_266 : decode cX10_takes 266 = .ok (.getfield 88, 3) := by decide +kernel
theorem dX10_takes_269 : decode cX10_takes 269 = .ok (.iconst 1, 1) := by decide +kernel
theorem dX10_takes_270 : decode cX10_takes 270 = .ok (.iadd, 1) := by decide +kernel
theorem dX10_takes_271 : decode cX10_takes 271 = .ok (.putfield 88, 3) := by decide +kernel
theorem dX10_takes_274 : decode cX10_takes 274 = .ok (.return_, 1) := by decide +kernel
theorem pf_X10_88 {ω : WD} {ρ : FR} {M : Mem} {cc : ByteArray} {d n pc : Nat} {lv : List (Nat × Value)} {rest : List Value} {v : Int32} (C : Cx ω ρ cc RX10 d n) (hd : decode cc pc = .ok (.putfield 88, 3)) (k : ∀ M1, M1 = wr M 128 10 v → G ω ρ M1 (pc + 3) lv rest) : G ω ρ M pc lv (.int v :: .ref (adr ω 128) :: rest) := G_put (N := 28) (T := TX10) (C := RX10) (q := 10) (ty := .int) C (q128 : isK 10 128) (by decide) rfl in_X10 tyX10 tyX10_ok nmX10 (by decide) (tb_of 986 ⟨by decide +kernel, rfl⟩) rfl rfl (by decide +kernel) rfl rfl (fun _ _ => Nat.le_of_ble_eq_true rfl) (fun _ => rfl) hd (k _ rfl)
theorem pf_X10_117 {ω : WD} {ρ : FR} {M : Mem} {cc : ByteArray} {d n pc : Nat} {lv : List (Nat × Value)} {rest : List Value} {v : Int32} (C : Cx ω ρ cc RX10 d n) (hd : decode cc pc = .ok (.putfield 117, 3)) (k : ∀ M1, M1 = wr M 128 13 v → G ω ρ M1 (pc + 3) lv rest) : G ω ρ M pc lv (.int v :: .ref (adr ω 128) :: rest) := G_put (N := 28) (T := TX10) (C := RX10) (q := 13) (ty := .int) C (q128 : isK 10 128) (by decide) rfl in_X10 tyX10 tyX10_ok nmX10 (by decide) (tb_of 989 ⟨by decide +kernel, rfl⟩) rfl rfl (by decide +kernel) rfl rfl (fun _ _ => Nat.le_of_ble_eq_true rfl) (fun _ => rfl) hd (k _ rfl)
theorem lk_X10_120 : LkV RX10 120 RX10 yX10_needs cX10_needs 3 none 2 := LkV.of 1090 1092 17 71 1093 (by decide +kernel) (by decide +kernel) (by decide +kernel) (by decide +kernel) (by decide +kernel) (by decide +kernel)
theorem gf_X10_117 {ω : WD} {ρ : FR} {M : Mem} {cc : ByteArray} {d n pc : Nat} {lv : List (Nat × Value)} {rest : List Value} (C : Cx ω ρ cc RX10 d n) (hd : decode cc pc = .ok (.getfield 117, 3)) (k : G ω ρ M (pc + 3) lv (.int (rd M 128 13) :: rest)) : G ω ρ M pc lv (.ref (adr ω 128) :: rest) := G_get (N := 28) (T := TX10) (C := RX10) (q := 13) C (q128 : isK 10 128) (by decide) rfl in_X10 (by decide) (tb_of 989 ⟨by decide +kernel, rfl⟩) rfl rfl hd k
theorem pf_X10_82 {ω : WD} {ρ : FR} {M : Mem} {cc : ByteArray} {d n pc : Nat} {lv : List (Nat × Value)} {rest : List Value} {v : Int32} (C : Cx ω ρ cc RX10 d n) (hd : decode cc pc = .ok (.putfield 82, 3)) (k : ∀ M1, M1 = wr M 128 11 v → G ω ρ M1 (pc + 3) lv rest) : G ω ρ M pc lv (.int v :: .ref (adr ω 128) :: rest) := G_put (N := 28) (T := TX10) (C := RX10) (q := 11) (ty := .int) C (q128 : isK 10 128) (by decide) rfl in_X10 tyX10 tyX10_ok nmX10 (by decide) (tb_of 987 ⟨by decide +kernel, rfl⟩) rfl rfl (by decide +kernel) rfl rfl (fun _ _ => Nat.le_of_ble_eq_true rfl) (fun _ => rfl) hd (k _ rfl)
theorem pf_X10_106 {ω : WD} {ρ : FR} {M : Mem} {cc : ByteArray} {d n pc : Nat} {lv : List (Nat × Value)} {rest : List Value} {v : Int32} (C : Cx ω ρ cc RX10 d n) (hd : decode cc pc = .ok (.putfield 106, 3)) (k : ∀ M1, M1 = wr M 128 12 v → G ω ρ M1 (pc + 3) lv rest) : G ω ρ M pc lv (.int v :: .ref (adr ω 128) :: rest) := G_put (N := 28) (T := TX10) (C := RX10) (q := 12) (ty := .int) C (q128 : isK 10 128) (by decide) rfl in_X10 tyX10 tyX10_ok nmX10 (by decide) (tb_of 988 ⟨by decide +kernel, rfl⟩) rfl rfl (by decide +kernel) rfl rfl (fun _ _ => Nat.le_of_ble_eq_true rfl) (fun _ => rfl) hd (k _ rfl)
set_option maxRecDepth 100000 in
set_option maxHeartbeats 4000000 in
theorem s_X10_takes_L82 {ω : WD} {ρ : FR} {post : Mem → Prop} (C : Cx ω ρ cX10_takes RX10 1 2) (R : RtV ω ρ cX10_takes post) : ∀ (f : Nat)  (M : Mem), w_X10_takes_L82 post f  M → G ω ρ M 82 [(0, .ref (adr ω 128))] [] := by
  intro f
  induction f with
  | zero => intro  M h; exact False.elim h
  | succ f k82 =>
    intro  M h
    refine G_aload_n C dX10_takes_82 0 rfl ?_
    refine G_aload_n C dX10_takes_83 0 rfl ?_
    refine gf_X10_88 C dX10_takes_84 ?_
    refine G_callI (As := [.int (rd M 128 10)]) (rest := []) C dX10_takes_87 lk_X10_91 (Nat.le_of_ble_eq_true rfl) (Nat.le_of_ble_eq_true rfl) q128 (by decide) rfl (Nat.le_of_ble_eq_true rfl) rfl (S_X10_byteAt h) (fun r2 M1 h => ?_)
    refine G_i2l C dX10_takes_90 ?_
    refine G_ldc2 (v := 97) C dX10_takes_91 (tb_of 1086 ⟨by decide +kernel, rfl⟩) ?_
    refine G_ldc2 (v := 122) C dX10_takes_94 (tb_of 1087 ⟨by decide +kernel, rfl⟩) ?_
    refine G_scallI (As := [.long ((r2).toInt64), .long 97, .long 122]) (rest := []) C dX10_takes_97 lk_X10_52 (Nat.le_of_ble_eq_true rfl) (Nat.le_of_ble_eq_true rfl) (Nat.le_of_ble_eq_true rfl) rfl (S_X10_in h) (fun r4 M3 h => ?_)
    obtain ⟨h1, h2⟩ := h
    refine G_if_eq (tgt := 274) C dX10_takes_100 (by decide) (fun c => ?_) (fun c => ?_)
    · have h := h1 c
      clear h1 h2
      exact R 274 _ _ dX10_takes_274 h
    · have h := h2 c
      clear h1 h2
      refine G_aload_n C dX10_takes_103 0 rfl ?_
      refine G_dup C dX10_takes_104 rfl ?_
      refine gf_X10_88 C dX10_takes_105 ?_
      refine G_iconst (v := 1) C dX10_takes_108 (by decide) ?_
      refine G_iadd C dX10_takes_109 ?_
      refine pf_X10_88 C dX10_takes_110 (fun M5 eM5 => ?_)
      replace h := h M5 eM5
      refine G_goto (tgt := 82) C dX10_takes_113 (by decide) ?_
      exact k82 _ h
set_option maxRecDepth 100000 in
set_option maxHeartbeats 4000000 in
theorem s_X10_takes_J201 {ω : WD} {ρ : FR} {post : Mem → Prop} (C : Cx ω ρ cX10_takes RX10 1 2) (R : RtV ω ρ cX10_takes post) {K140 : Mem → Prop} {s1 : Int32} (k140 : ∀  (M : Mem), K140  M → G ω ρ M 140 [(0, .ref (adr ω 128))] []) {M : Mem} (h : w_X10_takes_J201 post K140 s1 M) : G ω ρ M 201 [(0, .ref (adr ω 128))] [.int s1, .ref (adr ω 128)] := by
  refine pf_X10_117 C dX10_takes_201 (fun M6 eM6 => ?_)
  replace h := h M6 eM6
  refine G_aload_n C dX10_takes_204 0 rfl ?_
  refine G_dup C dX10_takes_205 rfl ?_
  refine gf_X10_88 C dX10_takes_206 ?_
  refine G_iconst (v := 1) C dX10_takes_209 (by decide) ?_
  refine G_iadd C dX10_takes_210 ?_
  refine pf_X10_88 C dX10_takes_211 (fun M7 eM7 => ?_)
  replace h := h M7 eM7
  refine G_goto (tgt := 140) C dX10_takes_214 (by decide) ?_
  exact k140 _ h
set_option maxRecDepth 100000 in
set_option maxHeartbeats 4000000 in
theorem s_X10_takes_J236 {ω : WD} {ρ : FR} {post : Mem → Prop} (C : Cx ω ρ cX10_takes RX10 1 2) (R : RtV ω ρ cX10_takes post) {s1 : Int32} {M : Mem} (h : w_X10_takes_J236 post s1 M) : G ω ρ M 236 [] [.int s1, .ref (adr ω 128)] := by
  refine G_iconst (v := 1) C dX10_takes_236 (by decide) ?_
  refine G_callV (As := [.int s1, .int 1]) (rest := []) C dX10_takes_237 lk_X10_120 (Nat.le_of_ble_eq_true rfl) (Nat.le_of_ble_eq_true rfl) q128 (by decide) rfl (Nat.le_of_ble_eq_true rfl) rfl (S_X10_needs h) (fun M8 h => ?_)
  refine G_goto (tgt := 274) C dX10_takes_240 (by decide) ?_
  exact R 274 _ _ dX10_takes_274 h
set_option maxRecDepth 100000 in
set_option maxHeartbeats 4000000 in
theorem s_X10_takes_L140 {ω : WD} {ρ : FR} {post : Mem → Prop} (C : Cx ω ρ cX10_takes RX10 1 2) (R : RtV ω ρ cX10_takes post) : ∀ (f : Nat)  (M : Mem), w_X10_takes_L140 post f  M → G ω ρ M 140 [(0, .ref (adr ω 128))] [] := by
  intro f
  induction f with
  | zero => intro  M h; exact False.elim h
  | succ f k140 =>
    intro  M h
    refine G_aload_n C dX10_takes_140 0 rfl ?_
    refine G_aload_n C dX10_takes_141 0 rfl ?_
    refine gf_X10_88 C dX10_takes_142 ?_
    refine G_callI (As := [.int (rd M 128 10)]) (rest := []) C dX10_takes_145 lk_X10_91 (Nat.le_of_ble_eq_true rfl) (Nat.le_of_ble_eq_true rfl) q128 (by decide) rfl (Nat.le_of_ble_eq_true rfl) rfl (S_X10_byteAt h) (fun r10 M9 h => ?_)
    refine G_i2l C dX10_takes_148 ?_
    refine G_ldc2 (v := 48) C dX10_takes_149 (tb_of 1088 ⟨by decide +kernel, rfl⟩) ?_
    refine G_ldc2 (v := 57) C dX10_takes_152 (tb_of 1089 ⟨by decide +kernel, rfl⟩) ?_
    refine G_scallI (As := [.long ((r10).toInt64), .long 48, .long 57]) (rest := []) C dX10_takes_155 lk_X10_52 (Nat.le_of_ble_eq_true rfl) (Nat.le_of_ble_eq_true rfl) (Nat.le_of_ble_eq_true rfl) rfl (S_X10_in h) (fun r12 M11 h => ?_)
    obtain ⟨h1, h2⟩ := h
    refine G_if_eq (tgt := 217) C dX10_takes_158 (by decide) (fun c => ?_) (fun c => ?_)
    · have h := h1 c
      clear h1 h2
      refine G_aload_n C dX10_takes_217 0 rfl ?_
      refine G_aload_n C dX10_takes_218 0 rfl ?_
      refine gf_X10_88 C dX10_takes_219 ?_
      refine G_aload_n C dX10_takes_222 0 rfl ?_
      refine gf_X10_82 C dX10_takes_223 ?_
      refine G_isub C dX10_takes_226 ?_
      refine G_iconst (v := 2) C dX10_takes_227 (by decide) ?_
      obtain ⟨h1, h2⟩ := h
      refine G_icmp_gt (tgt := 235) C dX10_takes_228 (by decide) (fun c => ?_) (fun c => ?_)
      · have h := h1 c
        clear h1 h2
        refine G_iconst (v := 0) C dX10_takes_235 (by decide) ?_
        refine G_sub [] (lv' := []) rfl ?_
        exact s_X10_takes_J236 C R  h
      · have h := h2 c
        clear h1 h2
        refine G_iconst (v := 1) C dX10_takes_231 (by decide) ?_
        refine G_goto (tgt := 236) C dX10_takes_232 (by decide) ?_
        refine G_sub [] (lv' := []) rfl ?_
        exact s_X10_takes_J236 C R  h
    · have h := h2 c
      clear h1 h2
      refine G_aload_n C dX10_takes_161 0 rfl ?_
      refine G_aload_n C dX10_takes_162 0 rfl ?_
      refine gf_X10_88 C dX10_takes_163 ?_
      refine G_aload_n C dX10_takes_166 0 rfl ?_
      refine gf_X10_82 C dX10_takes_167 ?_
      refine G_isub C dX10_takes_170 ?_
      refine G_iconst (v := 2) C dX10_takes_171 (by decide) ?_
      obtain ⟨h1, h2⟩ := h
      refine G_icmp_ge (tgt := 197) C dX10_takes_172 (by decide) (fun c => ?_) (fun c => ?_)
      · have h := h1 c
        clear h1 h2
        refine G_aload_n C dX10_takes_197 0 rfl ?_
        refine gf_X10_117 C dX10_takes_198 ?_
        exact s_X10_takes_J201 C R k140 h
      · have h := h2 c
        clear h1 h2
        refine G_bipush (v := 10) C dX10_takes_175 (by decide) ?_
        refine G_aload_n C dX10_takes_177 0 rfl ?_
        refine gf_X10_117 C dX10_takes_178 ?_
        refine G_imul C dX10_takes_181 ?_
        refine G_aload_n C dX10_takes_182 0 rfl ?_
        refine G_aload_n C dX10_takes_183 0 rfl ?_
        refine gf_X10_88 C dX10_takes_184 ?_
        refine G_callI (As := [.int (rd M11 128 10)]) (rest := [.int (10 * (rd M11 128 13)), .ref (adr ω 128)]) C dX10_takes_187 lk_X10_91 (Nat.le_of_ble_eq_true rfl) (Nat.le_of_ble_eq_true rfl) q128 (by decide) rfl (Nat.le_of_ble_eq_true rfl) rfl (S_X10_byteAt h) (fun r14 M13 h => ?_)
        refine G_iadd C dX10_takes_190 ?_
        refine G_bipush (v := 48) C dX10_takes_191 (by decide) ?_
        refine G_isub C dX10_takes_193 ?_
        refine G_goto (tgt := 201) C dX10_takes_194 (by decide) ?_
        exact s_X10_takes_J201 C R k140 h
set_option maxRecDepth 100000 in
set_option maxHeartbeats 4000000 in
theorem s_X10_takes_J260 {ω : WD} {ρ : FR} {post : Mem → Prop} (C : Cx ω ρ cX10_takes RX10 1 2) (R : RtV ω ρ cX10_takes post) {s1 : Int32} {M : Mem} (h : w_X10_takes_J260 post s1 M) : G ω ρ M 260 [(0, .ref (adr ω 128))] [.int s1, .ref (adr ω 128)] := by
  refine G_iconst (v := 1) C dX10_takes_260 (by decide) ?_
  refine G_callV (As := [.int s1, .int 1]) (rest := []) C dX10_takes_261 lk_X10_120 (Nat.le_of_ble_eq_true rfl) (Nat.le_of_ble_eq_true rfl) q128 (by decide) rfl (Nat.le_of_ble_eq_true rfl) rfl (S_X10_needs h) (fun M15 h => ?_)
  refine G_aload_n C dX10_takes_264 0 rfl ?_
  refine G_dup C dX10_takes_265 rfl ?_
  refine gf_X10_88 C dX10_takes_266 ?_
  refine G_iconst (v := 1) C dX10_takes_269 (by decide) ?_
  refine G_iadd C dX10_takes_270 ?_
  refine pf_X10_88 C dX10_takes_271 (fun M16 eM16 => ?_)
  replace h := h M16 eM16
  exact R 274 _ _ dX10_takes_274 h
set_option maxRecDepth 100000 in
set_option maxHeartbeats 4000000 in
theorem s_X10_takes_L8 {ω : WD} {ρ : FR} {post : Mem → Prop} (C : Cx ω ρ cX10_takes RX10 1 2) (R : RtV ω ρ cX10_takes post) : ∀ (f : Nat)  (M : Mem), w_X10_takes_L8 post f  M → G ω ρ M 8 [(0, .ref (adr ω 128))] [] := by
  intro f
  induction f with
  | zero => intro  M h; exact False.elim h
  | succ f k8 =>
    intro  M h
    refine G_aload_n C dX10_takes_8 0 rfl ?_
    refine G_aload_n C dX10_takes_9 0 rfl ?_
    refine gf_X10_88 C dX10_takes_10 ?_
    refine G_callI (As := [.int (rd M 128 10)]) (rest := []) C dX10_takes_13 lk_X10_91 (Nat.le_of_ble_eq_true rfl) (Nat.le_of_ble_eq_true rfl) q128 (by decide) rfl (Nat.le_of_ble_eq_true rfl) rfl (S_X10_byteAt h) (fun r18 M17 h => ?_)
    refine G_bipush (v := 32) C dX10_takes_16 (by decide) ?_
    obtain ⟨h1, h2⟩ := h
    refine G_icmp_ne (tgt := 34) C dX10_takes_18 (by decide) (fun c => ?_) (fun c => ?_)
    · have h := h1 c
      clear h1 h2
      refine G_aload_n C dX10_takes_34 0 rfl ?_
      refine G_aload_n C dX10_takes_35 0 rfl ?_
      refine gf_X10_88 C dX10_takes_36 ?_
      refine pf_X10_82 C dX10_takes_39 (fun M19 eM19 => ?_)
      replace h := h M19 eM19
      refine G_aload_n C dX10_takes_42 0 rfl ?_
      refine G_aload_n C dX10_takes_43 0 rfl ?_
      refine gf_X10_88 C dX10_takes_44 ?_
      refine G_callI (As := [.int (rd M19 128 10)]) (rest := []) C dX10_takes_47 lk_X10_91 (Nat.le_of_ble_eq_true rfl) (Nat.le_of_ble_eq_true rfl) q128 (by decide) rfl (Nat.le_of_ble_eq_true rfl) rfl (S_X10_byteAt h) (fun r21 M20 h => ?_)
      refine G_istore_n C dX10_takes_50 (by decide) (lv' := [(1, .int r21), (0, .ref (adr ω 128))]) rfl ?_
      refine G_iload_n C dX10_takes_51 0 rfl ?_
      obtain ⟨h1, h2⟩ := h
      refine G_if_ge (tgt := 63) C dX10_takes_52 (by decide) (fun c => ?_) (fun c => ?_)
      · have h := h1 c
        clear h1 h2
        refine G_iload_n C dX10_takes_63 0 rfl ?_
        refine G_i2l C dX10_takes_64 ?_
        refine G_ldc2 (v := 97) C dX10_takes_65 (tb_of 1086 ⟨by decide +kernel, rfl⟩) ?_
        refine G_ldc2 (v := 122) C dX10_takes_68 (tb_of 1087 ⟨by decide +kernel, rfl⟩) ?_
        refine G_scallI (As := [.long ((r21).toInt64), .long 97, .long 122]) (rest := []) C dX10_takes_71 lk_X10_52 (Nat.le_of_ble_eq_true rfl) (Nat.le_of_ble_eq_true rfl) (Nat.le_of_ble_eq_true rfl) rfl (S_X10_in h) (fun r23 M22 h => ?_)
        obtain ⟨h1, h2⟩ := h
        refine G_if_eq (tgt := 116) C dX10_takes_74 (by decide) (fun c => ?_) (fun c => ?_)
        · have h := h1 c
          clear h1 h2
          refine G_iload_n C dX10_takes_116 0 rfl ?_
          refine G_i2l C dX10_takes_117 ?_
          refine G_ldc2 (v := 48) C dX10_takes_118 (tb_of 1088 ⟨by decide +kernel, rfl⟩) ?_
          refine G_ldc2 (v := 57) C dX10_takes_121 (tb_of 1089 ⟨by decide +kernel, rfl⟩) ?_
          refine G_scallI (As := [.long ((r21).toInt64), .long 48, .long 57]) (rest := []) C dX10_takes_124 lk_X10_52 (Nat.le_of_ble_eq_true rfl) (Nat.le_of_ble_eq_true rfl) (Nat.le_of_ble_eq_true rfl) rfl (S_X10_in h) (fun r25 M24 h => ?_)
          obtain ⟨h1, h2⟩ := h
          refine G_if_eq (tgt := 243) C dX10_takes_127 (by decide) (fun c => ?_) (fun c => ?_)
          · have h := h1 c
            clear h1 h2
            refine G_aload_n C dX10_takes_243 1 rfl ?_
            refine G_iconst (v := 3) C dX10_takes_244 (by decide) ?_
            refine pf_X10_106 C dX10_takes_245 (fun M26 eM26 => ?_)
            replace h := h M26 eM26
            refine G_aload_n C dX10_takes_248 1 rfl ?_
            refine G_iload_n C dX10_takes_249 0 rfl ?_
            refine G_bipush (v := 59) C dX10_takes_250 (by decide) ?_
            obtain ⟨h1, h2⟩ := h
            refine G_icmp_ne (tgt := 259) C dX10_takes_252 (by decide) (fun c => ?_) (fun c => ?_)
            · have h := h1 c
              clear h1 h2
              refine G_iconst (v := 0) C dX10_takes_259 (by decide) ?_
              refine G_sub [1] (lv' := [(0, .ref (adr ω 128))]) rfl ?_
              exact s_X10_takes_J260 C R  h
            · have h := h2 c
              clear h1 h2
              refine G_iconst (v := 1) C dX10_takes_255 (by decide) ?_
              refine G_goto (tgt := 260) C dX10_takes_256 (by decide) ?_
              refine G_sub [1] (lv' := [(0, .ref (adr ω 128))]) rfl ?_
              exact s_X10_takes_J260 C R  h
          · have h := h2 c
            clear h1 h2
            refine G_aload_n C dX10_takes_130 1 rfl ?_
            refine G_iconst (v := 2) C dX10_takes_131 (by decide) ?_
            refine pf_X10_106 C dX10_takes_132 (fun M27 eM27 => ?_)
            replace h := h M27 eM27
            refine G_aload_n C dX10_takes_135 1 rfl ?_
            refine G_iconst (v := 0) C dX10_takes_136 (by decide) ?_
            refine pf_X10_117 C dX10_takes_137 (fun M28 eM28 => ?_)
            replace h := h M28 eM28
            refine G_sub [1] (lv' := [(0, .ref (adr ω 128))]) rfl ?_
            obtain ⟨f, h⟩ := h
            exact s_X10_takes_L140 C R  f _ h
        · have h := h2 c
          clear h1 h2
          refine G_aload_n C dX10_takes_77 1 rfl ?_
          refine G_iconst (v := 1) C dX10_takes_78 (by decide) ?_
          refine pf_X10_106 C dX10_takes_79 (fun M29 eM29 => ?_)
          replace h := h M29 eM29
          refine G_sub [1] (lv' := [(0, .ref (adr ω 128))]) rfl ?_
          obtain ⟨f, h⟩ := h
          exact s_X10_takes_L82 C R  f _ h
      · have h := h2 c
        clear h1 h2
        refine G_aload_n C dX10_takes_55 1 rfl ?_
        refine G_iconst (v := 0) C dX10_takes_56 (by decide) ?_
        refine pf_X10_106 C dX10_takes_57 (fun M30 eM30 => ?_)
        replace h := h M30 eM30
        refine G_goto (tgt := 274) C dX10_takes_60 (by decide) ?_
        exact R 274 _ _ dX10_takes_274 h
    · have h := h2 c
      clear h1 h2
      refine G_aload_n C dX10_takes_21 0 rfl ?_
      refine G_dup C dX10_takes_22 rfl ?_
      refine gf_X10_88 C dX10_takes_23 ?_
      refine G_iconst (v := 1) C dX10_takes_26 (by decide) ?_
      refine G_iadd C dX10_takes_27 ?_
      refine pf_X10_88 C dX10_takes_28 (fun M31 eM31 => ?_)
      replace h := h M31 eM31
      refine G_goto (tgt := 8) C dX10_takes_31 (by decide) ?_
      exact k8 _ h
set_option maxRecDepth 100000 in
set_option maxHeartbeats 4000000 in
theorem S_X10_takes {ω : WD} {M : Mem} {post : Mem → Prop} (h : w_X10_takes M post) : MtV ω yX10_takes cX10_takes 2 none 1 [.ref (adr ω 128)] M post := by
  refine MtV.start rfl (by decide +kernel) (own := RX10) rfl (Nat.le_of_ble_eq_true rfl) (fun ρ C R => ?_)
  show G ω ρ M 0 [(0, .ref (adr ω 128))] []
  refine G_aload_n C dX10_takes_0 0 rfl ?_
  refine gf_X10_79 C dX10_takes_1 ?_
  obtain ⟨h1, h2⟩ := h
  refine G_if_le (tgt := 8) C dX10_takes_4 (by decide) (fun c => ?_) (fun c => ?_)
  · have h := h1 c
    clear h1 h2
    obtain ⟨f, h⟩ := h
    exact s_X10_takes_L8 C R  f _ h
  · have h := h2 c
    clear h1 h2
    exact R 7 _ _ dX10_takes_7 h
theorem dX10_looked_0 : decode cX10_looked 0 = .ok (.aload_n 0, 1) := by decide +kernel
theorem dX10_looked_1 : decode cX10_looked 1 = .ok (.getfield 79, 3) := by decide +kernel
theorem dX10_looked_4 : decode cX10_looked 4 = .ok (.ifCond .ne 21, 3) := by decide +kernel
theorem dX10_looked_7 : decode cX10_looked 7 = .ok (.aload_n 0, 1) := by decide +kernel
theorem dX10_looked_8 : decode cX10_looked 8 = .ok (.aload_n 0, 1) := by decide +kernel
theorem dX10_looked_9 : decode cX10_looked 9 = .ok (.getfield 106, 3) := by decide +kernel
theorem dX10_looked_12 : decode cX10_looked 12 = .ok (.iconst 2, 1) := by decide +kernel
theorem dX10_looked_13 : decode cX10_looked 13 = .ok (.if_icmp .ne 7, 3) := by decide +kernel
theorem dX10_looked_16 : decode cX10_looked 16 = .ok (.iconst 1, 1) := by decide +kernel
theorem dX10_looked_17 : decode cX10_looked 17 = .ok (.goto 4, 3) := by decide +kernel
theorem dX10_looked_20 : decode cX10_looked 20 = .ok (.iconst 0, 1) := by decide +kernel
theorem dX10_looked_21 : decode cX10_looked 21 = .ok (.iconst 2, 1) := by decide +kernel
theorem dX10_looked_22 : decode cX10_looked 22 = .ok (.invokevirtual 120, 3) := by decide +kernel
theorem dX10_looked_25 : decode cX10_looked 25 = .ok (.aload_n 0, 1) := by decide +kernel
theorem dX10_looked_26 : decode cX10_looked 26 = .ok (.getfield 79, 3) := by decide +kernel
theorem dX10_looked_29 : decode cX10_looked 29 = .ok (.ifCond .ne 20, 3) := by decide +kernel
theorem dX10_looked_32 : decode cX10_looked 32 = .ok (.aload_n 0, 1) := by decide +kernel
theorem dX10_looked_33 : decode cX10_looked 33 = .ok (.aload_n 0, 1) := by decide +kernel
theorem dX10_looked_34 : decode cX10_looked 34 = .ok (.getfield 117, 3) := by decide +kernel
theorem dX10_looked_37 : decode cX10_looked 37 = .ok (.i2l, 1) := by decide +kernel
theorem dX10_looked_38 : decode cX10_looked 38 = .ok (.iload_n 1, 1) := by decide +kernel
theorem dX10_looked_39 : decode cX10_looked 39 = .ok (.i2l, 1) := by decide +kernel
theorem dX10_looked_40 : decode cX10_looked 40 = .ok (.iload_n 2, 1) := by decide +kernel
theorem dX10_looked_41 : decode cX10_looked 41 = .ok (.i2l, 1) := by decide +kernel
theorem dX10_looked_42 : decode cX10_looked 42 = .ok (.invokestatic 52, 3) := by decide +kernel
theorem dX10_looked_45 : decode cX10_looked 45 = .ok (.iconst 3, 1) := by decide +kernel
theorem dX10_looked_46 : decode cX10_looked 46 = .ok (.invokevirtual 120, 3) := by decide +kernel
theorem dX10_looked_49 : decode cX10_looked 49 = .ok (.aload_n 0, 1) := by decide +kernel
theorem dX10_looked_50 : decode cX10_looked 50 = .ok (.getfield 79, 3) := by decide +kernel
theorem dX10_looked_53 : decode cX10_looked 53 = .ok (.ifCond .ne 10, 3) := by decide +kernel
theorem dX10_looked_56 : decode cX10_looked 56 = .ok (.aload_n 0, 1) := by decide +kernel
theorem dX10_looked_57 : decode cX10_looked 57 = .ok (.getfield 117, 3) := by decide +kernel
theorem dX10_looked_60 : decode cX10_looked 60 = .ok (.goto 4, 3) := by decide +kernel
theorem dX10_looked_63 : decode cX10_looked 63 = .ok (.iconst 0, 1) := by decide +kernel
theorem dX10_looked_64 : decode cX10_looked 64 = .ok (.ireturn, 1) := by decide +kernel
theorem gf_X10_106 {ω : WD} {ρ : FR} {M : Mem} {cc : ByteArray} {d n pc : Nat} {lv : List (Nat × Value)} {rest : List Value} (C : Cx ω ρ cc RX10 d n) (hd : decode cc pc = .ok (.getfield 106, 3)) (k : G ω ρ M (pc + 3) lv (.int (rd M 128 12) :: rest)) : G ω ρ M pc lv (.ref (adr ω 128) :: rest) := G_get (N := 28) (T := TX10) (C := RX10) (q := 12) C (q128 : isK 10 128) (by decide) rfl in_X10 (by decide) (tb_of 988 ⟨by decide +kernel, rfl⟩) rfl rfl hd k
set_option maxRecDepth 100000 in
set_option maxHeartbeats 4000000 in
theorem s_X10_looked_J49 {ω : WD} {ρ : FR} {post : Int32 → Mem → Prop} (C : Cx ω ρ cX10_looked RX10 1 3) (R : RtI ω ρ cX10_looked .int post) {M : Mem} (h : w_X10_looked_J49 post M) : G ω ρ M 49 [(0, .ref (adr ω 128))] [] := by
  refine G_aload_n C dX10_looked_49 0 rfl ?_
  refine gf_X10_79 C dX10_looked_50 ?_
  obtain ⟨h1, h2⟩ := h
  refine G_if_ne (tgt := 63) C dX10_looked_53 (by decide) (fun c => ?_) (fun c => ?_)
  · have h := h1 c
    clear h1 h2
    refine G_iconst (v := 0) C dX10_looked_63 (by decide) ?_
    exact R 64 _ _ _ dX10_looked_64 rfl h
  · have h := h2 c
    clear h1 h2
    refine G_aload_n C dX10_looked_56 0 rfl ?_
    refine gf_X10_117 C dX10_looked_57 ?_
    refine G_goto (tgt := 64) C dX10_looked_60 (by decide) ?_
    exact R 64 _ _ _ dX10_looked_64 rfl h
set_option maxRecDepth 100000 in
set_option maxHeartbeats 4000000 in
theorem s_X10_looked_J25 {ω : WD} {ρ : FR} {post : Int32 → Mem → Prop} (C : Cx ω ρ cX10_looked RX10 1 3) (R : RtI ω ρ cX10_looked .int post) {l1 : Int32} {l2 : Int32} {M : Mem} (h : w_X10_looked_J25 post l1 l2 M) : G ω ρ M 25 [(0, .ref (adr ω 128)), (1, .int l1), (2, .int l2)] [] := by
  refine G_aload_n C dX10_looked_25 0 rfl ?_
  refine gf_X10_79 C dX10_looked_26 ?_
  obtain ⟨h1, h2⟩ := h
  refine G_if_ne (tgt := 49) C dX10_looked_29 (by decide) (fun c => ?_) (fun c => ?_)
  · have h := h1 c
    clear h1 h2
    refine G_sub [0] (lv' := [(0, .ref (adr ω 128))]) rfl ?_
    exact s_X10_looked_J49 C R  h
  · have h := h2 c
    clear h1 h2
    refine G_aload_n C dX10_looked_32 0 rfl ?_
    refine G_aload_n C dX10_looked_33 0 rfl ?_
    refine gf_X10_117 C dX10_looked_34 ?_
    refine G_i2l C dX10_looked_37 ?_
    refine G_iload_n C dX10_looked_38 1 rfl ?_
    refine G_i2l C dX10_looked_39 ?_
    refine G_iload_n C dX10_looked_40 2 rfl ?_
    refine G_i2l C dX10_looked_41 ?_
    refine G_scallI (As := [.long (((rd M 128 13)).toInt64), .long ((l1).toInt64), .long ((l2).toInt64)]) (rest := [.ref (adr ω 128)]) C dX10_looked_42 lk_X10_52 (Nat.le_of_ble_eq_true rfl) (Nat.le_of_ble_eq_true rfl) (Nat.le_of_ble_eq_true rfl) rfl (S_X10_in h) (fun r2 M1 h => ?_)
    refine G_iconst (v := 3) C dX10_looked_45 (by decide) ?_
    refine G_callV (As := [.int r2, .int 3]) (rest := []) C dX10_looked_46 lk_X10_120 (Nat.le_of_ble_eq_true rfl) (Nat.le_of_ble_eq_true rfl) q128 (by decide) rfl (Nat.le_of_ble_eq_true rfl) rfl (S_X10_needs h) (fun M3 h => ?_)
    refine G_sub [0] (lv' := [(0, .ref (adr ω 128))]) rfl ?_
    exact s_X10_looked_J49 C R  h
set_option maxRecDepth 100000 in
set_option maxHeartbeats 4000000 in
theorem s_X10_looked_J21 {ω : WD} {ρ : FR} {post : Int32 → Mem → Prop} (C : Cx ω ρ cX10_looked RX10 1 3) (R : RtI ω ρ cX10_looked .int post) {l1 : Int32} {l2 : Int32} {s1 : Int32} {M : Mem} (h : w_X10_looked_J21 post l1 l2 s1 M) : G ω ρ M 21 [(0, .ref (adr ω 128)), (1, .int l1), (2, .int l2)] [.int s1, .ref (adr ω 128)] := by
  refine G_iconst (v := 2) C dX10_looked_21 (by decide) ?_
  refine G_callV (As := [.int s1, .int 2]) (rest := []) C dX10_looked_22 lk_X10_120 (Nat.le_of_ble_eq_true rfl) (Nat.le_of_ble_eq_true rfl) q128 (by decide) rfl (Nat.le_of_ble_eq_true rfl) rfl (S_X10_needs h) (fun M4 h => ?_)
  exact s_X10_looked_J25 C R  h
set_option maxRecDepth 100000 in
set_option maxHeartbeats 4000000 in
theorem S_X10_looked {ω : WD} {l1 : Int32} {l2 : Int32} {M : Mem} {post : Int32 → Mem → Prop} (h : w_X10_looked l1 l2 M post) : MtI ω yX10_looked cX10_looked 3 (some .int) 1 [.ref (adr ω 128), .int l1, .int l2] M post := by
  refine MtI.start (ty := .int) rfl (by decide +kernel) (own := RX10) rfl (Nat.le_of_ble_eq_true rfl) (fun ρ C R => ?_)
  show G ω ρ M 0 [(0, .ref (adr ω 128)), (1, .int l1), (2, .int l2)] []
  refine G_aload_n C dX10_looked_0 0 rfl ?_
  refine gf_X10_79 C dX10_looked_1 ?_
  obtain ⟨h1, h2⟩ := h
  refine G_if_ne (tgt := 25) C dX10_looked_4 (by decide) (fun c => ?_) (fun c => ?_)
  · have h := h1 c
    clear h1 h2
    exact s_X10_looked_J25 C R  h
  · have h := h2 c
    clear h1 h2
    refine G_aload_n C dX10_looked_7 0 rfl ?_
    refine G_aload_n C dX10_looked_8 0 rfl ?_
    refine gf_X10_106 C dX10_looked_9 ?_
    refine G_iconst (v := 2) C dX10_looked_12 (by decide) ?_
    obtain ⟨h1, h2⟩ := h
    refine G_icmp_ne (tgt := 20) C dX10_looked_13 (by decide) (fun c => ?_) (fun c => ?_)
    · have h := h1 c
      clear h1 h2
      refine G_iconst (v := 0) C dX10_looked_20 (by decide) ?_
      exact s_X10_looked_J21 C R  h
    · have h := h2 c
      clear h1 h2
      refine G_iconst (v := 1) C dX10_looked_16 (by decide) ?_
      refine G_goto (tgt := 21) C dX10_looked_17 (by decide) ?_
      exact s_X10_looked_J21 C R  h
theorem dX10_readWorth_0 : decode cX10_readWorth 0 = .ok (.aload_n 0, 1) := by decide +kernel
theorem dX10_readWorth_1 : decode cX10_readWorth 1 = .ok (.iload_n 1, 1) := by decide +kernel
theorem dX10_readWorth_2 : decode cX10_readWorth 2 = .ok (.iload_n 2, 1) := by decide +kernel
theorem dX10_readWorth_3 : decode cX10_readWorth 3 = .ok (.invokevirtual 124, 3) := by decide +kernel
theorem dX10_readWorth_6 : decode cX10_readWorth 6 = .ok (.istore_n 3, 1) := by decide +kernel
theorem dX10_readWorth_7 : decode cX10_readWorth 7 = .ok (.aload_n 0, 1) := by decide +kernel
theorem dX10_readWorth_8 : decode cX10_readWorth 8 = .ok (.invokevirtual 128, 3) := by decide +kernel
theorem dX10_readWorth_11 : decode cX10_readWorth 11 = .ok (.iload_n 3, 1) := by decide +kernel
theorem dX10_readWorth_12 : decode cX10_readWorth 12 = .ok (.ireturn, 1) := by decide +kernel
theorem lk_X10_124 : LkV RX10 124 RX10 yX10_looked cX10_looked 3 (some .int) 2 := LkV.of 1122 1124 25 71 1125 (by decide +kernel) (by decide +kernel) (by decide +kernel) (by decide +kernel) (by decide +kernel) (by decide +kernel)
theorem lk_X10_128 : LkV RX10 128 RX10 yX10_takes cX10_takes 2 none 0 := LkV.of 1078 1080 15 71 1081 (by decide +kernel) (by decide +kernel) (by decide +kernel) (by decide +kernel) (by decide +kernel) (by decide +kernel)
set_option maxRecDepth 100000 in
set_option maxHeartbeats 4000000 in
theorem S_X10_readWorth {ω : WD} {l1 : Int32} {l2 : Int32} {M : Mem} {post : Int32 → Mem → Prop} (h : w_X10_readWorth l1 l2 M post) : MtI ω yX10_readWorth cX10_readWorth 4 (some .int) 2 [.ref (adr ω 128), .int l1, .int l2] M post := by
  refine MtI.start (ty := .int) rfl (by decide +kernel) (own := RX10) rfl (Nat.le_of_ble_eq_true rfl) (fun ρ C R => ?_)
  show G ω ρ M 0 [(0, .ref (adr ω 128)), (1, .int l1), (2, .int l2)] []
  refine G_aload_n C dX10_readWorth_0 0 rfl ?_
  refine G_iload_n C dX10_readWorth_1 1 rfl ?_
  refine G_iload_n C dX10_readWorth_2 2 rfl ?_
  refine G_callI (As := [.int l1, .int l2]) (rest := []) C dX10_readWorth_3 lk_X10_124 (Nat.le_of_ble_eq_true rfl) (Nat.le_of_ble_eq_true rfl) q128 (by decide) rfl (Nat.le_of_ble_eq_true rfl) rfl (S_X10_looked h) (fun r2 M1 h => ?_)
  refine G_istore_n C dX10_readWorth_6 (by decide) (lv' := [(3, .int r2), (0, .ref (adr ω 128)), (1, .int l1), (2, .int l2)]) rfl ?_
  refine G_aload_n C dX10_readWorth_7 1 rfl ?_
  refine G_callV (As := []) (rest := []) C dX10_readWorth_8 lk_X10_128 (Nat.le_of_ble_eq_true rfl) (Nat.le_of_ble_eq_true rfl) q128 (by decide) rfl (Nat.le_of_ble_eq_true rfl) rfl (S_X10_takes h) (fun M3 h => ?_)
  refine G_iload_n C dX10_readWorth_11 0 rfl ?_
  exact R 12 _ _ _ dX10_readWorth_12 rfl h
theorem dX10_readSubscriber_0 : decode cX10_readSubscriber 0 = .ok (.aload_n 0, 1) := by decide +kernel
theorem dX10_readSubscriber_1 : decode cX10_readSubscriber 1 = .ok (.iconst 0, 1) := by decide +kernel
theorem dX10_readSubscriber_2 : decode cX10_readSubscriber 2 = .ok (.bipush 99, 2) := by decide +kernel
theorem dX10_readSubscriber_4 : decode cX10_readSubscriber 4 = .ok (.invokevirtual 124, 3) := by decide +kernel
theorem dX10_readSubscriber_7 : decode cX10_readSubscriber 7 = .ok (.istore_n 1, 1) := by decide +kernel
theorem dX10_readSubscriber_8 : decode cX10_readSubscriber 8 = .ok (.aload_n 0, 1) := by decide +kernel
theorem dX10_readSubscriber_9 : decode cX10_readSubscriber 9 = .ok (.iload_n 1, 1) := by decide +kernel
theorem dX10_readSubscriber_10 : decode cX10_readSubscriber 10 = .ok (.invokestatic 56, 3) := by decide +kernel
theorem dX10_readSubscriber_13 : decode cX10_readSubscriber 13 = .ok (.iconst 3, 1) := by decide +kernel
theorem dX10_readSubscriber_14 : decode cX10_readSubscriber 14 = .ok (.invokevirtual 120, 3) := by decide +kernel
theorem dX10_readSubscriber_17 : decode cX10_readSubscriber 17 = .ok (.iconst 0, 1) := by decide +kernel
theorem dX10_readSubscriber_18 : decode cX10_readSubscriber 18 = .ok (.istore_n 2, 1) := by decide +kernel
theorem dX10_readSubscriber_19 : decode cX10_readSubscriber 19 = .ok (.iload_n 2, 1) := by decide +kernel
theorem dX10_readSubscriber_20 : decode cX10_readSubscriber 20 = .ok (.aload_n 0, 1) := by decide +kernel
theorem dX10_readSubscriber_21 : decode cX10_readSubscriber 21 = .ok (.getfield 20, 3) := by decide +kernel
theorem dX10_readSubscriber_24 : decode cX10_readSubscriber 24 = .ok (.bipush 24, 2) := by decide +kernel
theorem dX10_readSubscriber_26 : decode cX10_readSubscriber 26 = .ok (.iaload, 1) := by decide +kernel
theorem dX10_readSubscriber_27 : decode cX10_readSubscriber 27 = .ok (.if_icmp .ge 33, 3) := by decide +kernel
theorem dX10_readSubscriber_30 : decode cX10_readSubscriber 30 = .ok (.aload_n 0, 1) := by decide +kernel
theorem dX10_readSubscriber_31 : decode cX10_readSubscriber 31 = .ok (.aload_n 0, 1) := by decide +kernel
theorem dX10_readSubscriber_32 : decode cX10_readSubscriber 32 = .ok (.getfield 20, 3) := by decide +kernel
theorem dX10_readSubscriber_35 : decode cX10_readSubscriber 35 = .ok (.iconst 4, 1) := by decide +kernel
theorem dX10_readSubscriber_36 : decode cX10_readSubscriber 36 = .ok (.iload_n 2, 1) := by decide +kernel
theorem dX10_readSubscriber_37 : decode cX10_readSubscriber 37 = .ok (.imul, 1) := by decide +kernel
theorem dX10_readSubscriber_38 : decode cX10_readSubscriber 38 = .ok (.iconst 0, 1) := by decide +kernel
theorem dX10_readSubscriber_39 : decode cX10_readSubscriber 39 = .ok (.iadd, 1) := by decide +kernel
theorem dX10_readSubscriber_40 : decode cX10_readSubscriber 40 = .ok (.iaload, 1) := by decide +kernel
theorem dX10_readSubscriber_41 : decode cX10_readSubscriber 41 = .ok (.iload_n 1, 1) := by decide +kernel
theorem dX10_readSubscriber_42 : decode cX10_readSubscriber 42 = .ok (.if_icmp .eq 7, 3) := by decide +kernel
theorem dX10_readSubscriber_45 : decode cX10_readSubscriber 45 = .ok (.iconst 1, 1) := by decide +kernel
theorem dX10_readSubscriber_46 : decode cX10_readSubscriber 46 = .ok (.goto 4, 3) := by decide +kernel
theorem dX10_readSubscriber_49 : decode cX10_readSubscriber 49 = .ok (.iconst 0, 1) := by decide +kernel
theorem dX10_readSubscriber_50 : decode cX10_readSubscriber 50 = .ok (.iconst 4, 1) := by decide +kernel
theorem dX10_readSubscriber_51 : decode cX10_readSubscriber 51 = .ok (.invokevirtual 120, 3) := by decide +kernel
theorem dX10_readSubscriber_54 : decode cX10_readSubscriber 54 = .ok (.iinc 2 1, 3) := by decide +kernel
theorem dX10_readSubscriber_57 : decode cX10_readSubscriber 57 = .ok (.goto (-38), 3) := by decide +kernel
theorem dX10_readSubscriber_60 : decode cX10_readSubscriber 60 = .ok (.aload_n 0, 1) := by decide +kernel
theorem dX10_readSubscriber_61 : decode cX10_readSubscriber 61 = .ok (.getfield 20, 3) := by decide +kernel
theorem dX10_readSubscriber_64 : decode cX10_readSubscriber 64 = .ok (.iconst 4, 1) := by decide +kernel
theorem dX10_readSubscriber_65 : decode cX10_readSubscriber 65 = .ok (.aload_n 0, 1) := by decide +kernel
theorem dX10_readSubscriber_66 : decode cX10_readSubscriber 66 = .ok (.getfield 20, 3) := by decide +kernel
theorem dX10_readSubscriber_69 : decode cX10_readSubscriber 69 = .ok (.bipush 24, 2) := by decide +kernel
theorem dX10_readSubscriber_71 : decode cX10_readSubscriber 71 = .ok (.iaload, 1) := by decide +kernel
theorem dX10_readSubscriber_72 : decode cX10_readSubscriber 72 = .ok (.imul, 1) := by decide +kernel
theorem dX10_readSubscriber_73 : decode cX10_readSubscriber 73 = .ok (.iconst 0, 1) := by decide +kernel
theorem dX10_readSubscriber_74 : decode cX10_readSubscriber 74 = .ok (.iadd, 1) := by decide +kernel
theorem dX10_readSubscriber_75 : decode cX10_readSubscriber 75 = .ok (.iload_n 1, 1) := by decide +kernel
theorem dX10_readSubscriber_76 : decode cX10_readSubscriber 76 = .ok (.iastore, 1) := by decide +kernel
theorem dX10_readSubscriber_77 : decode cX10_readSubscriber 77 = .ok (.aload_n 0, 1) := by decide +kernel
theorem dX10_readSubscriber_78 : decode cX10_readSubscriber 78 = .ok (.getfield 20, 3) := by decide +kernel
theorem dX10_readSubscriber_81 : decode cX10_readSubscriber 81 = .ok (.bipush 24, 2) := by decide +kernel
theorem dX10_readSubscriber_83 : decode cX10_readSubscriber 83 = .ok (.dup2, 1) := by decide +kernel
theorem dX10_readSubscriber_84 : decode cX10_readSubscriber 84 = .ok (.iaload, 1) := by decide +kernel
theorem dX10_readSubscriber_85 : decode cX10_readSubscriber 85 = .ok (.iconst 1, 1) := by decide +kernel
theorem dX10_readSubscriber_86 : decode cX10_readSubscriber 86 = .ok (.iadd, 1) := by decide +kernel
theorem dX10_readSubscriber_87 : decode cX10_readSubscriber 87 = .ok (.iastore, 1) := by decide +kernel
theorem dX10_readSubscriber_88 : decode cX10_readSubscriber 88 = .ok (.aload_n 0, 1) := by decide +kernel
theorem dX10_readSubscriber_89 : decode cX10_readSubscriber 89 = .ok (.invokevirtual 128, 3) := by decide +kernel
theorem dX10_readSubscriber_92 : decode cX10_readSubscriber 92 = .ok (.return_, 1) := by decide +kernel
set_option maxRecDepth 100000 in
set_option maxHeartbeats 4000000 in
theorem s_X10_readSubscriber_J50 {ω : WD} {ρ : FR} {post : Mem → Prop} (C : Cx ω ρ cX10_readSubscriber RX10 2 3) (R : RtV ω ρ cX10_readSubscriber post) {K19 : Int32 → Mem → Prop} {l1 : Int32} {l2 : Int32} {s1 : Int32} (k19 : ∀ (u2 : Int32) (M : Mem), K19 u2 M → G ω ρ M 19 [(0, .ref (adr ω 128)), (1, .int l1), (2, .int u2)] []) {M : Mem} (h : w_X10_readSubscriber_J50 post K19 l1 l2 s1 M) : G ω ρ M 50 [(0, .ref (adr ω 128)), (1, .int l1), (2, .int l2)] [.int s1, .ref (adr ω 128)] := by
  refine G_iconst (v := 4) C dX10_readSubscriber_50 (by decide) ?_
  refine G_callV (As := [.int s1, .int 4]) (rest := []) C dX10_readSubscriber_51 lk_X10_120 (Nat.le_of_ble_eq_true rfl) (Nat.le_of_ble_eq_true rfl) q128 (by decide) rfl (Nat.le_of_ble_eq_true rfl) rfl (S_X10_needs h) (fun M1 h => ?_)
  obtain ⟨v2, ev2⟩ : ∃ y : Int32, y = (l2 + 1) := ⟨_, rfl⟩
  replace h := h v2 ev2
  refine G_iinc C dX10_readSubscriber_54 2 rfl (v := v2) (by rw [ev2]; rfl) (by decide) (lv' := [(2, .int v2), (0, .ref (adr ω 128)), (1, .int l1)]) rfl ?_
  refine G_goto (tgt := 19) C dX10_readSubscriber_57 (by decide) ?_
  refine G_sub [1, 2, 0] (lv' := [(0, .ref (adr ω 128)), (1, .int l1), (2, .int v2)]) rfl ?_
  exact k19 _ _ h
set_option maxRecDepth 100000 in
set_option maxHeartbeats 4000000 in
theorem s_X10_readSubscriber_L19 {ω : WD} {ρ : FR} {post : Mem → Prop} (C : Cx ω ρ cX10_readSubscriber RX10 2 3) (R : RtV ω ρ cX10_readSubscriber post) {l1 : Int32} : ∀ (f : Nat) (l2 : Int32) (M : Mem), w_X10_readSubscriber_L19 post l1 f l2 M → G ω ρ M 19 [(0, .ref (adr ω 128)), (1, .int l1), (2, .int l2)] [] := by
  intro f
  induction f with
  | zero => intro l2 M h; exact False.elim h
  | succ f k19 =>
    intro l2 M h
    refine G_iload_n C dX10_readSubscriber_19 2 rfl ?_
    refine G_aload_n C dX10_readSubscriber_20 0 rfl ?_
    refine gf_X10_20 C dX10_readSubscriber_21 ?_
    refine G_bipush (v := 24) C dX10_readSubscriber_24 (by decide) ?_
    refine G_iald C q132 (vp_lit rfl) (kk := 24) (by decide +kernel) dX10_readSubscriber_26 ?_
    obtain ⟨h1, h2⟩ := h
    refine G_icmp_ge (tgt := 60) C dX10_readSubscriber_27 (by decide) (fun c => ?_) (fun c => ?_)
    · have h := h1 c
      clear h1 h2
      refine G_aload_n C dX10_readSubscriber_60 0 rfl ?_
      refine gf_X10_20 C dX10_readSubscriber_61 ?_
      refine G_iconst (v := 4) C dX10_readSubscriber_64 (by decide) ?_
      refine G_aload_n C dX10_readSubscriber_65 0 rfl ?_
      refine gf_X10_20 C dX10_readSubscriber_66 ?_
      refine G_bipush (v := 24) C dX10_readSubscriber_69 (by decide) ?_
      refine G_iald C q132 (vp_lit rfl) (kk := 24) (by decide +kernel) dX10_readSubscriber_71 ?_
      refine G_imul C dX10_readSubscriber_72 ?_
      refine G_iconst (v := 0) C dX10_readSubscriber_73 (by decide) ?_
      refine G_iadd C dX10_readSubscriber_74 ?_
      refine G_iload_n C dX10_readSubscriber_75 1 rfl ?_
      obtain ⟨hi, h⟩ := h
      refine G_iast C q132 hi rfl dX10_readSubscriber_76 (G_mname (fun M3 eM3 => ?_))
      replace h := h M3 eM3
      refine G_aload_n C dX10_readSubscriber_77 0 rfl ?_
      refine gf_X10_20 C dX10_readSubscriber_78 ?_
      refine G_bipush (v := 24) C dX10_readSubscriber_81 (by decide) ?_
      refine G_dup2 C dX10_readSubscriber_83 rfl rfl ?_
      refine G_iald C q132 (vp_lit rfl) (kk := 24) (by decide +kernel) dX10_readSubscriber_84 ?_
      refine G_iconst (v := 1) C dX10_readSubscriber_85 (by decide) ?_
      refine G_iadd C dX10_readSubscriber_86 ?_
      refine G_iast C q132 (vp_lit rfl) (kk := 24) (by decide +kernel) dX10_readSubscriber_87 (G_mname (fun M4 eM4 => ?_))
      replace h := h M4 eM4
      refine G_aload_n C dX10_readSubscriber_88 0 rfl ?_
      refine G_callV (As := []) (rest := []) C dX10_readSubscriber_89 lk_X10_128 (Nat.le_of_ble_eq_true rfl) (Nat.le_of_ble_eq_true rfl) q128 (by decide) rfl (Nat.le_of_ble_eq_true rfl) rfl (S_X10_takes h) (fun M5 h => ?_)
      exact R 92 _ _ dX10_readSubscriber_92 h
    · have h := h2 c
      clear h1 h2
      refine G_aload_n C dX10_readSubscriber_30 0 rfl ?_
      refine G_aload_n C dX10_readSubscriber_31 0 rfl ?_
      refine gf_X10_20 C dX10_readSubscriber_32 ?_
      refine G_iconst (v := 4) C dX10_readSubscriber_35 (by decide) ?_
      refine G_iload_n C dX10_readSubscriber_36 2 rfl ?_
      refine G_imul C dX10_readSubscriber_37 ?_
      refine G_iconst (v := 0) C dX10_readSubscriber_38 (by decide) ?_
      refine G_iadd C dX10_readSubscriber_39 ?_
      obtain ⟨hi, h⟩ := h
      refine G_iald C q132 hi rfl dX10_readSubscriber_40 ?_
      refine G_iload_n C dX10_readSubscriber_41 1 rfl ?_
      obtain ⟨h1, h2⟩ := h
      refine G_icmp_eq (tgt := 49) C dX10_readSubscriber_42 (by decide) (fun c => ?_) (fun c => ?_)
      · have h := h1 c
        clear h1 h2
        refine G_iconst (v := 0) C dX10_readSubscriber_49 (by decide) ?_
        exact s_X10_readSubscriber_J50 C R k19 h
      · have h := h2 c
        clear h1 h2
        refine G_iconst (v := 1) C dX10_readSubscriber_45 (by decide) ?_
        refine G_goto (tgt := 50) C dX10_readSubscriber_46 (by decide) ?_
        exact s_X10_readSubscriber_J50 C R k19 h
set_option maxRecDepth 100000 in
set_option maxHeartbeats 4000000 in
theorem S_X10_readSubscriber {ω : WD} {M : Mem} {post : Mem → Prop} (h : w_X10_readSubscriber M post) : MtV ω yX10_readSubscriber cX10_readSubscriber 3 none 2 [.ref (adr ω 128)] M post := by
  refine MtV.start rfl (by decide +kernel) (own := RX10) rfl (Nat.le_of_ble_eq_true rfl) (fun ρ C R => ?_)
  show G ω ρ M 0 [(0, .ref (adr ω 128))] []
  refine G_aload_n C dX10_readSubscriber_0 0 rfl ?_
  refine G_iconst (v := 0) C dX10_readSubscriber_1 (by decide) ?_
  refine G_bipush (v := 99) C dX10_readSubscriber_2 (by decide) ?_
  refine G_callI (As := [.int 0, .int 99]) (rest := []) C dX10_readSubscriber_4 lk_X10_124 (Nat.le_of_ble_eq_true rfl) (Nat.le_of_ble_eq_true rfl) q128 (by decide) rfl (Nat.le_of_ble_eq_true rfl) rfl (S_X10_looked h) (fun r7 M6 h => ?_)
  refine G_istore_n C dX10_readSubscriber_7 (by decide) (lv' := [(1, .int r7), (0, .ref (adr ω 128))]) rfl ?_
  refine G_aload_n C dX10_readSubscriber_8 1 rfl ?_
  refine G_iload_n C dX10_readSubscriber_9 0 rfl ?_
  refine G_scallI (As := [.int r7]) (rest := [.ref (adr ω 128)]) C dX10_readSubscriber_10 lk_X10_56 (Nat.le_of_ble_eq_true rfl) (Nat.le_of_ble_eq_true rfl) (Nat.le_of_ble_eq_true rfl) rfl (S_X10_isNumber h) (fun r9 M8 h => ?_)
  refine G_iconst (v := 3) C dX10_readSubscriber_13 (by decide) ?_
  refine G_callV (As := [.int r9, .int 3]) (rest := []) C dX10_readSubscriber_14 lk_X10_120 (Nat.le_of_ble_eq_true rfl) (Nat.le_of_ble_eq_true rfl) q128 (by decide) rfl (Nat.le_of_ble_eq_true rfl) rfl (S_X10_needs h) (fun M10 h => ?_)
  refine G_iconst (v := 0) C dX10_readSubscriber_17 (by decide) ?_
  refine G_istore_n C dX10_readSubscriber_18 (by decide) (lv' := [(2, .int 0), (1, .int r7), (0, .ref (adr ω 128))]) rfl ?_
  refine G_sub [2, 1, 0] (lv' := [(0, .ref (adr ω 128)), (1, .int r7), (2, .int 0)]) rfl ?_
  obtain ⟨f, h⟩ := h
  exact s_X10_readSubscriber_L19 C R  f _ _ h
theorem dX10_readGroup_0 : decode cX10_readGroup 0 = .ok (.aload_n 0, 1) := by decide +kernel
theorem dX10_readGroup_1 : decode cX10_readGroup 1 = .ok (.iconst 0, 1) := by decide +kernel
theorem dX10_readGroup_2 : decode cX10_readGroup 2 = .ok (.iconst 4, 1) := by decide +kernel
theorem dX10_readGroup_3 : decode cX10_readGroup 3 = .ok (.invokevirtual 124, 3) := by decide +kernel
theorem dX10_readGroup_6 : decode cX10_readGroup 6 = .ok (.istore_n 2, 1) := by decide +kernel
theorem dX10_readGroup_7 : decode cX10_readGroup 7 = .ok (.aload_n 0, 1) := by decide +kernel
theorem dX10_readGroup_8 : decode cX10_readGroup 8 = .ok (.aload_n 0, 1) := by decide +kernel
theorem dX10_readGroup_9 : decode cX10_readGroup 9 = .ok (.getfield 67, 3) := by decide +kernel
theorem dX10_readGroup_12 : decode cX10_readGroup 12 = .ok (.iload_n 2, 1) := by decide +kernel
theorem dX10_readGroup_13 : decode cX10_readGroup 13 = .ok (.ishr, 1) := by decide +kernel
theorem dX10_readGroup_14 : decode cX10_readGroup 14 = .ok (.iconst 1, 1) := by decide +kernel
theorem dX10_readGroup_15 : decode cX10_readGroup 15 = .ok (.iand, 1) := by decide +kernel
theorem dX10_readGroup_16 : decode cX10_readGroup 16 = .ok (.ifCond .ne 7, 3) := by decide +kernel
theorem dX10_readGroup_19 : decode cX10_readGroup 19 = .ok (.iconst 1, 1) := by decide +kernel
theorem dX10_readGroup_20 : decode cX10_readGroup 20 = .ok (.goto 4, 3) := by decide +kernel
theorem dX10_readGroup_23 : decode cX10_readGroup 23 = .ok (.iconst 0, 1) := by decide +kernel
theorem dX10_readGroup_24 : decode cX10_readGroup 24 = .ok (.iconst 4, 1) := by decide +kernel
theorem dX10_readGroup_25 : decode cX10_readGroup 25 = .ok (.invokevirtual 120, 3) := by decide +kernel
theorem dX10_readGroup_28 : decode cX10_readGroup 28 = .ok (.aload_n 0, 1) := by decide +kernel
theorem dX10_readGroup_29 : decode cX10_readGroup 29 = .ok (.dup, 1) := by decide +kernel
theorem dX10_readGroup_30 : decode cX10_readGroup 30 = .ok (.getfield 67, 3) := by decide +kernel
theorem dX10_readGroup_33 : decode cX10_readGroup 33 = .ok (.iconst 1, 1) := by decide +kernel
theorem dX10_readGroup_34 : decode cX10_readGroup 34 = .ok (.iload_n 2, 1) := by decide +kernel
theorem dX10_readGroup_35 : decode cX10_readGroup 35 = .ok (.ishl, 1) := by decide +kernel
theorem dX10_readGroup_36 : decode cX10_readGroup 36 = .ok (.ior, 1) := by decide +kernel
theorem dX10_readGroup_37 : decode cX10_readGroup 37 = .ok (.putfield 67, 3) := by decide +kernel
theorem dX10_readGroup_40 : decode cX10_readGroup 40 = .ok (.aload_n 0, 1) := by decide +kernel
theorem dX10_readGroup_41 : decode cX10_readGroup 41 = .ok (.invokevirtual 128, 3) := by decide +kernel
theorem dX10_readGroup_44 : decode cX10_readGroup 44 = .ok (.aload_n 0, 1) := by decide +kernel
theorem dX10_readGroup_45 : decode cX10_readGroup 45 = .ok (.getfield 20, 3) := by decide +kernel
theorem dX10_readGroup_48 : decode cX10_readGroup 48 = .ok (.bipush 26, 2) := by decide +kernel
theorem dX10_readGroup_50 : decode cX10_readGroup 50 = .ok (.iconst 4, 1) := by decide +kernel
theorem dX10_readGroup_51 : decode cX10_readGroup 51 = .ok (.iload_n 2, 1) := by decide +kernel
theorem dX10_readGroup_52 : decode cX10_readGroup 52 = .ok (.imul, 1) := by decide +kernel
theorem dX10_readGroup_53 : decode cX10_readGroup 53 = .ok (.iadd, 1) := by decide +kernel
theorem dX10_readGroup_54 : decode cX10_readGroup 54 = .ok (.iconst 0, 1) := by decide +kernel
theorem dX10_readGroup_55 : decode cX10_readGroup 55 = .ok (.iadd, 1) := by decide +kernel
theorem dX10_readGroup_56 : decode cX10_readGroup 56 = .ok (.iload_n 1, 1) := by decide +kernel
theorem dX10_readGroup_57 : decode cX10_readGroup 57 = .ok (.iastore, 1) := by decide +kernel
theorem dX10_readGroup_58 : decode cX10_readGroup 58 = .ok (.aload_n 0, 1) := by decide +kernel
theorem dX10_readGroup_59 : decode cX10_readGroup 59 = .ok (.getfield 20, 3) := by decide +kernel
theorem dX10_readGroup_62 : decode cX10_readGroup 62 = .ok (.bipush 26, 2) := by decide +kernel
theorem dX10_readGroup_64 : decode cX10_readGroup 64 = .ok (.iconst 4, 1) := by decide +kernel
theorem dX10_readGroup_65 : decode cX10_readGroup 65 = .ok (.iload_n 2, 1) := by decide +kernel
theorem dX10_readGroup_66 : decode cX10_readGroup 66 = .ok (.imul, 1) := by decide +kernel
theorem dX10_readGroup_67 : decode cX10_readGroup 67 = .ok (.iadd, 1) := by decide +kernel
theorem dX10_readGroup_68 : decode cX10_readGroup 68 = .ok (.iconst 1, 1) := by decide +kernel
theorem dX10_readGroup_69 : decode cX10_readGroup 69 = .ok (.iadd, 1) := by decide +kernel
theorem dX10_readGroup_70 : decode cX10_readGroup 70 = .ok (.aload_n 0, 1) := by decide +kernel
theorem dX10_readGroup_71 : decode cX10_readGroup 71 = .ok (.iconst 0, 1) := by decide +kernel
theorem dX10_readGroup_72 : decode cX10_readGroup 72 = .ok (.iconst 4, 1) := by decide +kernel
theorem dX10_readGroup_73 : decode cX10_readGroup 73 = .ok (.invokevirtual 131, 3) := by decide +kernel
theorem dX10_readGroup_76 : decode cX10_readGroup 76 = .ok (.iastore, 1) := by decide +kernel
theorem dX10_readGroup_77 : decode cX10_readGroup 77 = .ok (.return_, 1) := by decide +kernel
theorem gf_X10_67 {ω : WD} {ρ : FR} {M : Mem} {cc : ByteArray} {d n pc : Nat} {lv : List (Nat × Value)} {rest : List Value} (C : Cx ω ρ cc RX10 d n) (hd : decode cc pc = .ok (.getfield 67, 3)) (k : G ω ρ M (pc + 3) lv (.int (rd M 128 6) :: rest)) : G ω ρ M pc lv (.ref (adr ω 128) :: rest) := G_get (N := 28) (T := TX10) (C := RX10) (q := 6) C (q128 : isK 10 128) (by decide) rfl in_X10 (by decide) (tb_of 982 ⟨by decide +kernel, rfl⟩) rfl rfl hd k
theorem lk_X10_131 : LkV RX10 131 RX10 yX10_readWorth cX10_readWorth 4 (some .int) 2 := LkV.of 1130 1132 26 71 1133 (by decide +kernel) (by decide +kernel) (by decide +kernel) (by decide +kernel) (by decide +kernel) (by decide +kernel)
set_option maxRecDepth 100000 in
set_option maxHeartbeats 4000000 in
theorem s_X10_readGroup_J24 {ω : WD} {ρ : FR} {post : Mem → Prop} (C : Cx ω ρ cX10_readGroup RX10 3 3) (R : RtV ω ρ cX10_readGroup post) {l1 : Int32} {l2 : Int32} {s1 : Int32} {M : Mem} (h : w_X10_readGroup_J24 post l1 l2 s1 M) : G ω ρ M 24 [(0, .ref (adr ω 128)), (1, .int l1), (2, .int l2)] [.int s1, .ref (adr ω 128)] := by
  refine G_iconst (v := 4) C dX10_readGroup_24 (by decide) ?_
  refine G_callV (As := [.int s1, .int 4]) (rest := []) C dX10_readGroup_25 lk_X10_120 (Nat.le_of_ble_eq_true rfl) (Nat.le_of_ble_eq_true rfl) q128 (by decide) rfl (Nat.le_of_ble_eq_true rfl) rfl (S_X10_needs h) (fun M1 h => ?_)
  refine G_aload_n C dX10_readGroup_28 0 rfl ?_
  refine G_dup C dX10_readGroup_29 rfl ?_
  refine gf_X10_67 C dX10_readGroup_30 ?_
  refine G_iconst (v := 1) C dX10_readGroup_33 (by decide) ?_
  refine G_iload_n C dX10_readGroup_34 2 rfl ?_
  refine G_ishl C dX10_readGroup_35 ?_
  refine G_ior C dX10_readGroup_36 ?_
  refine pf_X10_67 C dX10_readGroup_37 (fun M2 eM2 => ?_)
  replace h := h M2 eM2
  refine G_aload_n C dX10_readGroup_40 0 rfl ?_
  refine G_callV (As := []) (rest := []) C dX10_readGroup_41 lk_X10_128 (Nat.le_of_ble_eq_true rfl) (Nat.le_of_ble_eq_true rfl) q128 (by decide) rfl (Nat.le_of_ble_eq_true rfl) rfl (S_X10_takes h) (fun M3 h => ?_)
  refine G_aload_n C dX10_readGroup_44 0 rfl ?_
  refine gf_X10_20 C dX10_readGroup_45 ?_
  refine G_bipush (v := 26) C dX10_readGroup_48 (by decide) ?_
  refine G_iconst (v := 4) C dX10_readGroup_50 (by decide) ?_
  refine G_iload_n C dX10_readGroup_51 2 rfl ?_
  refine G_imul C dX10_readGroup_52 ?_
  refine G_iadd C dX10_readGroup_53 ?_
  refine G_iconst (v := 0) C dX10_readGroup_54 (by decide) ?_
  refine G_iadd C dX10_readGroup_55 ?_
  refine G_iload_n C dX10_readGroup_56 1 rfl ?_
  obtain ⟨hi, h⟩ := h
  refine G_iast C q132 hi rfl dX10_readGroup_57 (G_mname (fun M4 eM4 => ?_))
  replace h := h M4 eM4
  refine G_aload_n C dX10_readGroup_58 0 rfl ?_
  refine gf_X10_20 C dX10_readGroup_59 ?_
  refine G_bipush (v := 26) C dX10_readGroup_62 (by decide) ?_
  refine G_iconst (v := 4) C dX10_readGroup_64 (by decide) ?_
  refine G_iload_n C dX10_readGroup_65 2 rfl ?_
  refine G_imul C dX10_readGroup_66 ?_
  refine G_iadd C dX10_readGroup_67 ?_
  refine G_iconst (v := 1) C dX10_readGroup_68 (by decide) ?_
  refine G_iadd C dX10_readGroup_69 ?_
  refine G_aload_n C dX10_readGroup_70 0 rfl ?_
  refine G_iconst (v := 0) C dX10_readGroup_71 (by decide) ?_
  refine G_iconst (v := 4) C dX10_readGroup_72 (by decide) ?_
  refine G_callI (As := [.int 0, .int 4]) (rest := [.int ((26 + (4 * l2)) + 1), .ref (adr ω 132)]) C dX10_readGroup_73 lk_X10_131 (Nat.le_of_ble_eq_true rfl) (Nat.le_of_ble_eq_true rfl) q128 (by decide) rfl (Nat.le_of_ble_eq_true rfl) rfl (S_X10_readWorth h) (fun r6 M5 h => ?_)
  obtain ⟨hi, h⟩ := h
  refine G_iast C q132 hi rfl dX10_readGroup_76 (G_mname (fun M7 eM7 => ?_))
  replace h := h M7 eM7
  exact R 77 _ _ dX10_readGroup_77 h
set_option maxRecDepth 100000 in
set_option maxHeartbeats 4000000 in
theorem S_X10_readGroup {ω : WD} {l1 : Int32} {M : Mem} {post : Mem → Prop} (h : w_X10_readGroup l1 M post) : MtV ω yX10_readGroup cX10_readGroup 3 none 3 [.ref (adr ω 128), .int l1] M post := by
  refine MtV.start rfl (by decide +kernel) (own := RX10) rfl (Nat.le_of_ble_eq_true rfl) (fun ρ C R => ?_)
  show G ω ρ M 0 [(0, .ref (adr ω 128)), (1, .int l1)] []
  refine G_aload_n C dX10_readGroup_0 0 rfl ?_
  refine G_iconst (v := 0) C dX10_readGroup_1 (by decide) ?_
  refine G_iconst (v := 4) C dX10_readGroup_2 (by decide) ?_
  refine G_callI (As := [.int 0, .int 4]) (rest := []) C dX10_readGroup_3 lk_X10_124 (Nat.le_of_ble_eq_true rfl) (Nat.le_of_ble_eq_true rfl) q128 (by decide) rfl (Nat.le_of_ble_eq_true rfl) rfl (S_X10_looked h) (fun r9 M8 h => ?_)
  refine G_istore_n C dX10_readGroup_6 (by decide) (lv' := [(2, .int r9), (0, .ref (adr ω 128)), (1, .int l1)]) rfl ?_
  refine G_aload_n C dX10_readGroup_7 1 rfl ?_
  refine G_aload_n C dX10_readGroup_8 1 rfl ?_
  refine gf_X10_67 C dX10_readGroup_9 ?_
  refine G_iload_n C dX10_readGroup_12 0 rfl ?_
  refine G_ishr C dX10_readGroup_13 ?_
  refine G_iconst (v := 1) C dX10_readGroup_14 (by decide) ?_
  refine G_iand C dX10_readGroup_15 ?_
  obtain ⟨h1, h2⟩ := h
  refine G_if_ne (tgt := 23) C dX10_readGroup_16 (by decide) (fun c => ?_) (fun c => ?_)
  · have h := h1 c
    clear h1 h2
    refine G_iconst (v := 0) C dX10_readGroup_23 (by decide) ?_
    refine G_sub [1, 2, 0] (lv' := [(0, .ref (adr ω 128)), (1, .int l1), (2, .int r9)]) rfl ?_
    exact s_X10_readGroup_J24 C R  h
  · have h := h2 c
    clear h1 h2
    refine G_iconst (v := 1) C dX10_readGroup_19 (by decide) ?_
    refine G_goto (tgt := 24) C dX10_readGroup_20 (by decide) ?_
    refine G_sub [1, 2, 0] (lv' := [(0, .ref (adr ω 128)), (1, .int l1), (2, .int r9)]) rfl ?_
    exact s_X10_readGroup_J24 C R  h
theorem dX10_readPlan_0 : decode cX10_readPlan 0 = .ok (.aload_n 0, 1) := by decide +kernel
theorem dX10_readPlan_1 : decode cX10_readPlan 1 = .ok (.getfield 79, 3) := by decide +kernel
theorem dX10_readPlan_4 : decode cX10_readPlan 4 = .ok (.ifCond .ne 140, 3) := by decide +kernel
theorem dX10_readPlan_7 : decode cX10_readPlan 7 = .ok (.aload_n 0, 1) := by decide +kernel
theorem dX10_readPlan_8 : decode cX10_readPlan 8 = .ok (.getfield 106, 3) := by decide +kernel
theorem dX10_readPlan_11 : decode cX10_readPlan 11 = .ok (.iconst 2, 1) := by decide +kernel
theorem dX10_readPlan_12 : decode cX10_readPlan 12 = .ok (.if_icmp .ne 132, 3) := by decide +kernel
theorem dX10_readPlan_15 : decode cX10_readPlan 15 = .ok (.aload_n 0, 1) := by decide +kernel
theorem dX10_readPlan_16 : decode cX10_readPlan 16 = .ok (.aload_n 0, 1) := by decide +kernel
theorem dX10_readPlan_17 : decode cX10_readPlan 17 = .ok (.getfield 20, 3) := by decide +kernel
theorem dX10_readPlan_20 : decode cX10_readPlan 20 = .ok (.bipush 66, 2) := by decide +kernel
theorem dX10_readPlan_22 : decode cX10_readPlan 22 = .ok (.iaload, 1) := by decide +kernel
theorem dX10_readPlan_23 : decode cX10_readPlan 23 = .ok (.bipush 8, 2) := by decide +kernel
theorem dX10_readPlan_25 : decode cX10_readPlan 25 = .ok (.if_icmp .ge 7, 3) := by decide +kernel
theorem dX10_readPlan_28 : decode cX10_readPlan 28 = .ok (.iconst 1, 1) := by decide +kernel
theorem dX10_readPlan_29 : decode cX10_readPlan 29 = .ok (.goto 4, 3) := by decide +kernel
theorem dX10_readPlan_32 : decode cX10_readPlan 32 = .ok (.iconst 0, 1) := by decide +kernel
theorem dX10_readPlan_33 : decode cX10_readPlan 33 = .ok (.iconst 5, 1) := by decide +kernel
theorem dX10_readPlan_34 : decode cX10_readPlan 34 = .ok (.invokevirtual 120, 3) := by decide +kernel
theorem dX10_readPlan_37 : decode cX10_readPlan 37 = .ok (.aload_n 0, 1) := by decide +kernel
theorem dX10_readPlan_38 : decode cX10_readPlan 38 = .ok (.iconst 0, 1) := by decide +kernel
theorem dX10_readPlan_39 : decode cX10_readPlan 39 = .ok (.iconst 5, 1) := by decide +kernel
theorem dX10_readPlan_40 : decode cX10_readPlan 40 = .ok (.invokevirtual 131, 3) := by decide +kernel
theorem dX10_readPlan_43 : decode cX10_readPlan 43 = .ok (.istore_n 1, 1) := by decide +kernel
theorem dX10_readPlan_44 : decode cX10_readPlan 44 = .ok (.aload_n 0, 1) := by decide +kernel
theorem dX10_readPlan_45 : decode cX10_readPlan 45 = .ok (.iload_n 1, 1) := by decide +kernel
theorem dX10_readPlan_46 : decode cX10_readPlan 46 = .ok (.aload_n 0, 1) := by decide +kernel
theorem dX10_readPlan_47 : decode cX10_readPlan 47 = .ok (.getfield 71, 3) := by decide +kernel
theorem dX10_readPlan_50 : decode cX10_readPlan 50 = .ok (.if_icmp .le 7, 3) := by decide +kernel
theorem dX10_readPlan_53 : decode cX10_readPlan 53 = .ok (.iload_n 1, 1) := by decide +kernel
theorem dX10_readPlan_54 : decode cX10_readPlan 54 = .ok (.goto 7, 3) := by decide +kernel
theorem dX10_readPlan_57 : decode cX10_readPlan 57 = .ok (.aload_n 0, 1) := by decide +kernel
theorem dX10_readPlan_58 : decode cX10_readPlan 58 = .ok (.getfield 71, 3) := by decide +kernel
theorem dX10_readPlan_61 : decode cX10_readPlan 61 = .ok (.putfield 71, 3) := by decide +kernel
theorem dX10_readPlan_64 : decode cX10_readPlan 64 = .ok (.aload_n 0, 1) := by decide +kernel
theorem dX10_readPlan_65 : decode cX10_readPlan 65 = .ok (.iconst 0, 1) := by decide +kernel
theorem dX10_readPlan_66 : decode cX10_readPlan 66 = .ok (.bipush 99, 2) := by decide +kernel
theorem dX10_readPlan_68 : decode cX10_readPlan 68 = .ok (.invokevirtual 124, 3) := by decide +kernel
theorem dX10_readPlan_71 : decode cX10_readPlan 71 = .ok (.istore_n 2, 1) := by decide +kernel
theorem dX10_readPlan_72 : decode cX10_readPlan 72 = .ok (.aload_n 0, 1) := by decide +kernel
theorem dX10_readPlan_73 : decode cX10_readPlan 73 = .ok (.iload_n 2, 1) := by decide +kernel
theorem dX10_readPlan_74 : decode cX10_readPlan 74 = .ok (.invokestatic 134, 3) := by decide +kernel
theorem dX10_readPlan_77 : decode cX10_readPlan 77 = .ok (.iconst 3, 1) := by decide +kernel
theorem dX10_readPlan_78 : decode cX10_readPlan 78 = .ok (.invokevirtual 120, 3) := by decide +kernel
theorem dX10_readPlan_81 : decode cX10_readPlan 81 = .ok (.aload_n 0, 1) := by decide +kernel
theorem dX10_readPlan_82 : decode cX10_readPlan 82 = .ok (.invokevirtual 128, 3) := by decide +kernel
theorem dX10_readPlan_85 : decode cX10_readPlan 85 = .ok (.aload_n 0, 1) := by decide +kernel
theorem dX10_readPlan_86 : decode cX10_readPlan 86 = .ok (.getfield 79, 3) := by decide +kernel
theorem dX10_readPlan_89 : decode cX10_readPlan 89 = .ok (.ifCond .ne 52, 3) := by decide +kernel
theorem dX10_readPlan_92 : decode cX10_readPlan 92 = .ok (.aload_n 0, 1) := by decide +kernel
theorem dX10_readPlan_93 : decode cX10_readPlan 93 = .ok (.getfield 20, 3) := by decide +kernel
theorem dX10_readPlan_96 : decode cX10_readPlan 96 = .ok (.bipush 67, 2) := by decide +kernel
theorem dX10_readPlan_98 : decode cX10_readPlan 98 = .ok (.iconst 2, 1) := by decide +kernel
theorem dX10_readPlan_99 : decode cX10_readPlan 99 = .ok (.aload_n 0, 1) := by decide +kernel
theorem dX10_readPlan_100 : decode cX10_readPlan 100 = .ok (.getfield 20, 3) := by decide +kernel
theorem dX10_readPlan_103 : decode cX10_readPlan 103 = .ok (.bipush 66, 2) := by decide +kernel
theorem dX10_readPlan_105 : decode cX10_readPlan 105 = .ok (.iaload, 1) := by decide +kernel
theorem dX10_readPlan_106 : decode cX10_readPlan 106 = .ok (.imul, 1) := by decide +kernel
theorem dX10_readPlan_107 : decode cX10_readPlan 107 = .ok (.iadd, 1) := by decide +kernel
theorem dX10_readPlan_108 : decode cX10_readPlan 108 = .ok (.iload_n 1, 1) := by decide +kernel
theorem dX10_readPlan_109 : decode cX10_readPlan 109 = .ok (.iastore, 1) := by decide +kernel
theorem dX10_readPlan_110 : decode cX10_readPlan 110 = .ok (.aload_n 0, 1) := by decide +kernel
theorem dX10_readPlan_111 : decode cX10_readPlan 111 = .ok (.getfield 20, 3) := by decide +kernel
theorem dX10_readPlan_114 : decode cX10_readPlan 114 = .ok (.bipush 67, 2) := by decide +kernel
theorem dX10_readPlan_116 : decode cX10_readPlan 116 = .ok (.iconst 2, 1) := by decide +kernel
theorem dX10_readPlan_117 : decode cX10_readPlan 117 = .ok (.aload_n 0, 1) := by decide +kernel
theorem dX10_readPlan_118 : decode cX10_readPlan 118 = .ok (.getfield 20, 3) := by decide +kernel
theorem dX10_readPlan_121 : decode cX10_readPlan 121 = .ok (.bipush 66, 2) := by decide +kernel
theorem dX10_readPlan_123 : decode cX10_readPlan 123 = .ok (.iaload, 1) := by decide +kernel
theorem dX10_readPlan_124 : decode cX10_readPlan 124 = .ok (.imul, 1) := by decide +kernel
theorem dX10_readPlan_125 : decode cX10_readPlan 125 = .ok (.iadd, 1) := by decide +kernel
theorem dX10_readPlan_126 : decode cX10_readPlan 126 = .ok (.iconst 1, 1) := by decide +kernel
theorem dX10_readPlan_127 : decode cX10_readPlan 127 = .ok (.iadd, 1) := by decide +kernel
theorem dX10_readPlan_128 : decode cX10_readPlan 128 = .ok (.iload_n 2, 1) := by decide +kernel
theorem dX10_readPlan_129 : decode cX10_readPlan 129 = .ok (.iastore, 1) := by decide +kernel
theorem dX10_readPlan_130 : decode cX10_readPlan 130 = .ok (.aload_n 0, 1) := by decide +kernel
theorem dX10_readPlan_131 : decode cX10_readPlan 131 = .ok (.getfield 20, 3) := by decide +kernel
theorem dX10_readPlan_134 : decode cX10_readPlan 134 = .ok (.bipush 66, 2) := by decide +kernel
theorem dX10_readPlan_136 : decode cX10_readPlan 136 = .ok (.dup2, 1) := by decide +kernel
theorem dX10_readPlan_137 : decode cX10_readPlan 137 = .ok (.iaload, 1) := by decide +kernel
theorem dX10_readPlan_138 : decode cX10_readPlan 138 = .ok (.iconst 1, 1) := by decide +kernel
theorem dX10_readPlan_139 : decode cX10_readPlan 139 = .ok (.iadd, 1) := by decide +kernel
theorem dX10_readPlan_140 : decode cX10_readPlan 140 = .ok (.iastore, 1) := by decide +kernel
theorem dX10_readPlan_141 : decode cX10_readPlan 141 = .ok (.goto (-141), 3) := by decide +kernel
theorem dX10_readPlan_144 : decode cX10_readPlan 144 = .ok (.return_, 1) := by decide +kernel
theorem lk_X10_134 : LkS RX10 134 yX10_isDialled cX10_isDialled 1 (some .boolean) 1 := LkS.of 1138 1139 71 1140 (by decide +kernel) (by decide +kernel) (by decide +kernel) (by decide +kernel) (by decide +kernel)
theorem gf_X10_71 {ω : WD} {ρ : FR} {M : Mem} {cc : ByteArray} {d n pc : Nat} {lv : List (Nat × Value)} {rest : List Value} (C : Cx ω ρ cc RX10 d n) (hd : decode cc pc = .ok (.getfield 71, 3)) (k : G ω ρ M (pc + 3) lv (.int (rd M 128 7) :: rest)) : G ω ρ M pc lv (.ref (adr ω 128) :: rest) := G_get (N := 28) (T := TX10) (C := RX10) (q := 7) C (q128 : isK 10 128) (by decide) rfl in_X10 (by decide) (tb_of 983 ⟨by decide +kernel, rfl⟩) rfl rfl hd k
set_option maxRecDepth 100000 in
set_option maxHeartbeats 4000000 in
theorem s_X10_readPlan_J141 {ω : WD} {ρ : FR} {post : Mem → Prop} (C : Cx ω ρ cX10_readPlan RX10 3 3) (R : RtV ω ρ cX10_readPlan post) {K0 : Mem → Prop} (k0 : ∀  (M : Mem), K0  M → G ω ρ M 0 [(0, .ref (adr ω 128))] []) {M : Mem} (h : w_X10_readPlan_J141 post K0 M) : G ω ρ M 141 [(0, .ref (adr ω 128))] [] := by
  refine G_goto (tgt := 0) C dX10_readPlan_141 (by decide) ?_
  exact k0 _ h
set_option maxRecDepth 100000 in
set_option maxHeartbeats 4000000 in
theorem s_X10_readPlan_J61 {ω : WD} {ρ : FR} {post : Mem → Prop} (C : Cx ω ρ cX10_readPlan RX10 3 3) (R : RtV ω ρ cX10_readPlan post) {K0 : Mem → Prop} {l1 : Int32} {s1 : Int32} (k0 : ∀  (M : Mem), K0  M → G ω ρ M 0 [(0, .ref (adr ω 128))] []) {M : Mem} (h : w_X10_readPlan_J61 post K0 l1 s1 M) : G ω ρ M 61 [(0, .ref (adr ω 128)), (1, .int l1)] [.int s1, .ref (adr ω 128)] := by
  refine pf_X10_71 C dX10_readPlan_61 (fun M1 eM1 => ?_)
  replace h := h M1 eM1
  refine G_aload_n C dX10_readPlan_64 0 rfl ?_
  refine G_iconst (v := 0) C dX10_readPlan_65 (by decide) ?_
  refine G_bipush (v := 99) C dX10_readPlan_66 (by decide) ?_
  refine G_callI (As := [.int 0, .int 99]) (rest := []) C dX10_readPlan_68 lk_X10_124 (Nat.le_of_ble_eq_true rfl) (Nat.le_of_ble_eq_true rfl) q128 (by decide) rfl (Nat.le_of_ble_eq_true rfl) rfl (S_X10_looked h) (fun r3 M2 h => ?_)
  refine G_istore_n C dX10_readPlan_71 (by decide) (lv' := [(2, .int r3), (0, .ref (adr ω 128)), (1, .int l1)]) rfl ?_
  refine G_aload_n C dX10_readPlan_72 1 rfl ?_
  refine G_iload_n C dX10_readPlan_73 0 rfl ?_
  refine G_scallI (As := [.int r3]) (rest := [.ref (adr ω 128)]) C dX10_readPlan_74 lk_X10_134 (Nat.le_of_ble_eq_true rfl) (Nat.le_of_ble_eq_true rfl) (Nat.le_of_ble_eq_true rfl) rfl (S_X10_isDialled h) (fun r5 M4 h => ?_)
  refine G_iconst (v := 3) C dX10_readPlan_77 (by decide) ?_
  refine G_callV (As := [.int r5, .int 3]) (rest := []) C dX10_readPlan_78 lk_X10_120 (Nat.le_of_ble_eq_true rfl) (Nat.le_of_ble_eq_true rfl) q128 (by decide) rfl (Nat.le_of_ble_eq_true rfl) rfl (S_X10_needs h) (fun M6 h => ?_)
  refine G_aload_n C dX10_readPlan_81 1 rfl ?_
  refine G_callV (As := []) (rest := []) C dX10_readPlan_82 lk_X10_128 (Nat.le_of_ble_eq_true rfl) (Nat.le_of_ble_eq_true rfl) q128 (by decide) rfl (Nat.le_of_ble_eq_true rfl) rfl (S_X10_takes h) (fun M7 h => ?_)
  refine G_aload_n C dX10_readPlan_85 1 rfl ?_
  refine gf_X10_79 C dX10_readPlan_86 ?_
  obtain ⟨h1, h2⟩ := h
  refine G_if_ne (tgt := 141) C dX10_readPlan_89 (by decide) (fun c => ?_) (fun c => ?_)
  · have h := h1 c
    clear h1 h2
    refine G_sub [1] (lv' := [(0, .ref (adr ω 128))]) rfl ?_
    exact s_X10_readPlan_J141 C R k0 h
  · have h := h2 c
    clear h1 h2
    refine G_aload_n C dX10_readPlan_92 1 rfl ?_
    refine gf_X10_20 C dX10_readPlan_93 ?_
    refine G_bipush (v := 67) C dX10_readPlan_96 (by decide) ?_
    refine G_iconst (v := 2) C dX10_readPlan_98 (by decide) ?_
    refine G_aload_n C dX10_readPlan_99 1 rfl ?_
    refine gf_X10_20 C dX10_readPlan_100 ?_
    refine G_bipush (v := 66) C dX10_readPlan_103 (by decide) ?_
    refine G_iald C q132 (vp_lit rfl) (kk := 66) (by decide +kernel) dX10_readPlan_105 ?_
    refine G_imul C dX10_readPlan_106 ?_
    refine G_iadd C dX10_readPlan_107 ?_
    refine G_iload_n C dX10_readPlan_108 2 rfl ?_
    obtain ⟨hi, h⟩ := h
    refine G_iast C q132 hi rfl dX10_readPlan_109 (G_mname (fun M8 eM8 => ?_))
    replace h := h M8 eM8
    refine G_aload_n C dX10_readPlan_110 1 rfl ?_
    refine gf_X10_20 C dX10_readPlan_111 ?_
    refine G_bipush (v := 67) C dX10_readPlan_114 (by decide) ?_
    refine G_iconst (v := 2) C dX10_readPlan_116 (by decide) ?_
    refine G_aload_n C dX10_readPlan_117 1 rfl ?_
    refine gf_X10_20 C dX10_readPlan_118 ?_
    refine G_bipush (v := 66) C dX10_readPlan_121 (by decide) ?_
    refine G_iald C q132 (vp_lit rfl) (kk := 66) (by decide +kernel) dX10_readPlan_123 ?_
    refine G_imul C dX10_readPlan_124 ?_
    refine G_iadd C dX10_readPlan_125 ?_
    refine G_iconst (v := 1) C dX10_readPlan_126 (by decide) ?_
    refine G_iadd C dX10_readPlan_127 ?_
    refine G_iload_n C dX10_readPlan_128 0 rfl ?_
    obtain ⟨hi, h⟩ := h
    refine G_iast C q132 hi rfl dX10_readPlan_129 (G_mname (fun M9 eM9 => ?_))
    replace h := h M9 eM9
    refine G_aload_n C dX10_readPlan_130 1 rfl ?_
    refine gf_X10_20 C dX10_readPlan_131 ?_
    refine G_bipush (v := 66) C dX10_readPlan_134 (by decide) ?_
    refine G_dup2 C dX10_readPlan_136 rfl rfl ?_
    refine G_iald C q132 (vp_lit rfl) (kk := 66) (by decide +kernel) dX10_readPlan_137 ?_
    refine G_iconst (v := 1) C dX10_readPlan_138 (by decide) ?_
    refine G_iadd C dX10_readPlan_139 ?_
    refine G_iast C q132 (vp_lit rfl) (kk := 66) (by decide +kernel) dX10_readPlan_140 (G_mname (fun M10 eM10 => ?_))
    replace h := h M10 eM10
    refine G_sub [1] (lv' := [(0, .ref (adr ω 128))]) rfl ?_
    exact s_X10_readPlan_J141 C R k0 h
set_option maxRecDepth 100000 in
set_option maxHeartbeats 4000000 in
theorem s_X10_readPlan_J33 {ω : WD} {ρ : FR} {post : Mem → Prop} (C : Cx ω ρ cX10_readPlan RX10 3 3) (R : RtV ω ρ cX10_readPlan post) {K0 : Mem → Prop} {s1 : Int32} (k0 : ∀  (M : Mem), K0  M → G ω ρ M 0 [(0, .ref (adr ω 128))] []) {M : Mem} (h : w_X10_readPlan_J33 post K0 s1 M) : G ω ρ M 33 [(0, .ref (adr ω 128))] [.int s1, .ref (adr ω 128)] := by
  refine G_iconst (v := 5) C dX10_readPlan_33 (by decide) ?_
  refine G_callV (As := [.int s1, .int 5]) (rest := []) C dX10_readPlan_34 lk_X10_120 (Nat.le_of_ble_eq_true rfl) (Nat.le_of_ble_eq_true rfl) q128 (by decide) rfl (Nat.le_of_ble_eq_true rfl) rfl (S_X10_needs h) (fun M11 h => ?_)
  refine G_aload_n C dX10_readPlan_37 0 rfl ?_
  refine G_iconst (v := 0) C dX10_readPlan_38 (by decide) ?_
  refine G_iconst (v := 5) C dX10_readPlan_39 (by decide) ?_
  refine G_callI (As := [.int 0, .int 5]) (rest := []) C dX10_readPlan_40 lk_X10_131 (Nat.le_of_ble_eq_true rfl) (Nat.le_of_ble_eq_true rfl) q128 (by decide) rfl (Nat.le_of_ble_eq_true rfl) rfl (S_X10_readWorth h) (fun r13 M12 h => ?_)
  refine G_istore_n C dX10_readPlan_43 (by decide) (lv' := [(1, .int r13), (0, .ref (adr ω 128))]) rfl ?_
  refine G_aload_n C dX10_readPlan_44 1 rfl ?_
  refine G_iload_n C dX10_readPlan_45 0 rfl ?_
  refine G_aload_n C dX10_readPlan_46 1 rfl ?_
  refine gf_X10_71 C dX10_readPlan_47 ?_
  obtain ⟨h1, h2⟩ := h
  refine G_icmp_le (tgt := 57) C dX10_readPlan_50 (by decide) (fun c => ?_) (fun c => ?_)
  · have h := h1 c
    clear h1 h2
    refine G_aload_n C dX10_readPlan_57 1 rfl ?_
    refine gf_X10_71 C dX10_readPlan_58 ?_
    refine G_sub [1, 0] (lv' := [(0, .ref (adr ω 128)), (1, .int r13)]) rfl ?_
    exact s_X10_readPlan_J61 C R k0 h
  · have h := h2 c
    clear h1 h2
    refine G_iload_n C dX10_readPlan_53 0 rfl ?_
    refine G_goto (tgt := 61) C dX10_readPlan_54 (by decide) ?_
    refine G_sub [1, 0] (lv' := [(0, .ref (adr ω 128)), (1, .int r13)]) rfl ?_
    exact s_X10_readPlan_J61 C R k0 h
set_option maxRecDepth 100000 in
set_option maxHeartbeats 4000000 in
theorem s_X10_readPlan_L0 {ω : WD} {ρ : FR} {post : Mem → Prop} (C : Cx ω ρ cX10_readPlan RX10 3 3) (R : RtV ω ρ cX10_readPlan post) : ∀ (f : Nat)  (M : Mem), w_X10_readPlan_L0 post f  M → G ω ρ M 0 [(0, .ref (adr ω 128))] [] := by
  intro f
  induction f with
  | zero => intro  M h; exact False.elim h
  | succ f k0 =>
    intro  M h
    refine G_aload_n C dX10_readPlan_0 0 rfl ?_
    refine gf_X10_79 C dX10_readPlan_1 ?_
    obtain ⟨h1, h2⟩ := h
    refine G_if_ne (tgt := 144) C dX10_readPlan_4 (by decide) (fun c => ?_) (fun c => ?_)
    · have h := h1 c
      clear h1 h2
      exact R 144 _ _ dX10_readPlan_144 h
    · have h := h2 c
      clear h1 h2
      refine G_aload_n C dX10_readPlan_7 0 rfl ?_
      refine gf_X10_106 C dX10_readPlan_8 ?_
      refine G_iconst (v := 2) C dX10_readPlan_11 (by decide) ?_
      obtain ⟨h1, h2⟩ := h
      refine G_icmp_ne (tgt := 144) C dX10_readPlan_12 (by decide) (fun c => ?_) (fun c => ?_)
      · have h := h1 c
        clear h1 h2
        exact R 144 _ _ dX10_readPlan_144 h
      · have h := h2 c
        clear h1 h2
        refine G_aload_n C dX10_readPlan_15 0 rfl ?_
        refine G_aload_n C dX10_readPlan_16 0 rfl ?_
        refine gf_X10_20 C dX10_readPlan_17 ?_
        refine G_bipush (v := 66) C dX10_readPlan_20 (by decide) ?_
        refine G_iald C q132 (vp_lit rfl) (kk := 66) (by decide +kernel) dX10_readPlan_22 ?_
        refine G_bipush (v := 8) C dX10_readPlan_23 (by decide) ?_
        obtain ⟨h1, h2⟩ := h
        refine G_icmp_ge (tgt := 32) C dX10_readPlan_25 (by decide) (fun c => ?_) (fun c => ?_)
        · have h := h1 c
          clear h1 h2
          refine G_iconst (v := 0) C dX10_readPlan_32 (by decide) ?_
          exact s_X10_readPlan_J33 C R k0 h
        · have h := h2 c
          clear h1 h2
          refine G_iconst (v := 1) C dX10_readPlan_28 (by decide) ?_
          refine G_goto (tgt := 33) C dX10_readPlan_29 (by decide) ?_
          exact s_X10_readPlan_J33 C R k0 h
set_option maxRecDepth 100000 in
set_option maxHeartbeats 4000000 in
theorem S_X10_readPlan {ω : WD} {M : Mem} {post : Mem → Prop} (h : w_X10_readPlan M post) : MtV ω yX10_readPlan cX10_readPlan 3 none 3 [.ref (adr ω 128)] M post := by
  refine MtV.start rfl (by decide +kernel) (own := RX10) rfl (Nat.le_of_ble_eq_true rfl) (fun ρ C R => ?_)
  show G ω ρ M 0 [(0, .ref (adr ω 128))] []
  obtain ⟨f, h⟩ := h
  exact s_X10_readPlan_L0 C R  f _ h
theorem dX10_readLineOf_0 : decode cX10_readLineOf 0 = .ok (.iload_n 1, 1) := by decide +kernel
theorem dX10_readLineOf_1 : decode cX10_readLineOf 1 = .ok (.tableswitch 58 4 6 #[27, 34, 51], 27) := by decide +kernel
theorem dX10_readLineOf_28 : decode cX10_readLineOf 28 = .ok (.aload_n 0, 1) := by decide +kernel
theorem dX10_readLineOf_29 : decode cX10_readLineOf 29 = .ok (.invokevirtual 137, 3) := by decide +kernel
theorem dX10_readLineOf_32 : decode cX10_readLineOf 32 = .ok (.goto 32, 3) := by decide +kernel
theorem dX10_readLineOf_35 : decode cX10_readLineOf 35 = .ok (.aload_n 0, 1) := by decide +kernel
theorem dX10_readLineOf_36 : decode cX10_readLineOf 36 = .ok (.getfield 20, 3) := by decide +kernel
theorem dX10_readLineOf_39 : decode cX10_readLineOf 39 = .ok (.bipush 25, 2) := by decide +kernel
theorem dX10_readLineOf_41 : decode cX10_readLineOf 41 = .ok (.aload_n 0, 1) := by decide +kernel
theorem dX10_readLineOf_42 : decode cX10_readLineOf 42 = .ok (.iconst 1, 1) := by decide +kernel
theorem dX10_readLineOf_43 : decode cX10_readLineOf 43 = .ok (.bipush 6, 2) := by decide +kernel
theorem dX10_readLineOf_45 : decode cX10_readLineOf 45 = .ok (.invokevirtual 131, 3) := by decide +kernel
theorem dX10_readLineOf_48 : decode cX10_readLineOf 48 = .ok (.iastore, 1) := by decide +kernel
theorem dX10_readLineOf_49 : decode cX10_readLineOf 49 = .ok (.goto 15, 3) := by decide +kernel
theorem dX10_readLineOf_52 : decode cX10_readLineOf 52 = .ok (.aload_n 0, 1) := by decide +kernel
theorem dX10_readLineOf_53 : decode cX10_readLineOf 53 = .ok (.invokevirtual 140, 3) := by decide +kernel
theorem dX10_readLineOf_56 : decode cX10_readLineOf 56 = .ok (.goto 8, 3) := by decide +kernel
theorem dX10_readLineOf_59 : decode cX10_readLineOf 59 = .ok (.aload_n 0, 1) := by decide +kernel
theorem dX10_readLineOf_60 : decode cX10_readLineOf 60 = .ok (.iload_n 1, 1) := by decide +kernel
theorem dX10_readLineOf_61 : decode cX10_readLineOf 61 = .ok (.invokevirtual 143, 3) := by decide +kernel
theorem dX10_readLineOf_64 : decode cX10_readLineOf 64 = .ok (.return_, 1) := by decide +kernel
theorem lk_X10_137 : LkV RX10 137 RX10 yX10_readSubscriber cX10_readSubscriber 3 none 0 := LkV.of 1118 1120 24 71 1121 (by decide +kernel) (by decide +kernel) (by decide +kernel) (by decide +kernel) (by decide +kernel) (by decide +kernel)
theorem lk_X10_140 : LkV RX10 140 RX10 yX10_readPlan cX10_readPlan 3 none 0 := LkV.of 1134 1136 27 71 1137 (by decide +kernel) (by decide +kernel) (by decide +kernel) (by decide +kernel) (by decide +kernel) (by decide +kernel)
theorem lk_X10_143 : LkV RX10 143 RX10 yX10_readGroup cX10_readGroup 3 none 1 := LkV.of 1141 1143 28 71 1144 (by decide +kernel) (by decide +kernel) (by decide +kernel) (by decide +kernel) (by decide +kernel) (by decide +kernel)
set_option maxRecDepth 100000 in
set_option maxHeartbeats 4000000 in
theorem S_X10_readLineOf {ω : WD} {l1 : Int32} {M : Mem} {post : Mem → Prop} (h : w_X10_readLineOf l1 M post) : MtV ω yX10_readLineOf cX10_readLineOf 2 none 4 [.ref (adr ω 128), .int l1] M post := by
  refine MtV.start rfl (by decide +kernel) (own := RX10) rfl (Nat.le_of_ble_eq_true rfl) (fun ρ C R => ?_)
  show G ω ρ M 0 [(0, .ref (adr ω 128)), (1, .int l1)] []
  refine G_iload_n C dX10_readLineOf_0 1 rfl ?_
  obtain ⟨h0, h1, h2, h3⟩ := h
  by_cases cd : (l1).toInt < 4 ∨ 6 < (l1).toInt
  · have h := h3 cd
    clear h0 h1 h2 h3
    refine G_tableOut (tgt := 59) C dX10_readLineOf_1 cd (by decide) ?_
    refine G_aload_n C dX10_readLineOf_59 0 rfl ?_
    refine G_iload_n C dX10_readLineOf_60 1 rfl ?_
    refine G_callV (As := [.int l1]) (rest := []) C dX10_readLineOf_61 lk_X10_143 (Nat.le_of_ble_eq_true rfl) (Nat.le_of_ble_eq_true rfl) q128 (by decide) rfl (Nat.le_of_ble_eq_true rfl) rfl (S_X10_readGroup h) (fun M6 h => ?_)
    exact R 64 _ _ dX10_readLineOf_64 h
  · have cs : (l1).toInt = 4 ∨ (l1).toInt = 5 ∨ (l1).toInt = 6 := by omega
    rcases cs with cs | cs | cs
    · have h := h0 ((sw_toInt cs).trans (by decide))
      clear h0 h1 h2 h3
      refine G_tableIn (tgt := 28) C dX10_readLineOf_1 (by omega) (by omega) (by rw [cs]; rfl) (by decide) ?_
      refine G_aload_n C dX10_readLineOf_28 0 rfl ?_
      refine G_callV (As := []) (rest := []) C dX10_readLineOf_29 lk_X10_137 (Nat.le_of_ble_eq_true rfl) (Nat.le_of_ble_eq_true rfl) q128 (by decide) rfl (Nat.le_of_ble_eq_true rfl) rfl (S_X10_readSubscriber h) (fun M1 h => ?_)
      refine G_goto (tgt := 64) C dX10_readLineOf_32 (by decide) ?_
      exact R 64 _ _ dX10_readLineOf_64 h
    · have h := h1 ((sw_toInt cs).trans (by decide))
      clear h0 h1 h2 h3
      refine G_tableIn (tgt := 35) C dX10_readLineOf_1 (by omega) (by omega) (by rw [cs]; rfl) (by decide) ?_
      refine G_aload_n C dX10_readLineOf_35 0 rfl ?_
      refine gf_X10_20 C dX10_readLineOf_36 ?_
      refine G_bipush (v := 25) C dX10_readLineOf_39 (by decide) ?_
      refine G_aload_n C dX10_readLineOf_41 0 rfl ?_
      refine G_iconst (v := 1) C dX10_readLineOf_42 (by decide) ?_
      refine G_bipush (v := 6) C dX10_readLineOf_43 (by decide) ?_
      refine G_callI (As := [.int 1, .int 6]) (rest := [.int 25, .ref (adr ω 132)]) C dX10_readLineOf_45 lk_X10_131 (Nat.le_of_ble_eq_true rfl) (Nat.le_of_ble_eq_true rfl) q128 (by decide) rfl (Nat.le_of_ble_eq_true rfl) rfl (S_X10_readWorth h) (fun r3 M2 h => ?_)
      refine G_iast C q132 (vp_lit rfl) (kk := 25) (by decide +kernel) dX10_readLineOf_48 (G_mname (fun M4 eM4 => ?_))
      replace h := h M4 eM4
      refine G_goto (tgt := 64) C dX10_readLineOf_49 (by decide) ?_
      exact R 64 _ _ dX10_readLineOf_64 h
    · have h := h2 ((sw_toInt cs).trans (by decide))
      clear h0 h1 h2 h3
      refine G_tableIn (tgt := 52) C dX10_readLineOf_1 (by omega) (by omega) (by rw [cs]; rfl) (by decide) ?_
      refine G_aload_n C dX10_readLineOf_52 0 rfl ?_
      refine G_callV (As := []) (rest := []) C dX10_readLineOf_53 lk_X10_140 (Nat.le_of_ble_eq_true rfl) (Nat.le_of_ble_eq_true rfl) q128 (by decide) rfl (Nat.le_of_ble_eq_true rfl) rfl (S_X10_readPlan h) (fun M5 h => ?_)
      refine G_goto (tgt := 64) C dX10_readLineOf_56 (by decide) ?_
      exact R 64 _ _ dX10_readLineOf_64 h
theorem dX10_readLine_0 : decode cX10_readLine 0 = .ok (.aload_n 0, 1) := by decide +kernel
theorem dX10_readLine_1 : decode cX10_readLine 1 = .ok (.getfield 106, 3) := by decide +kernel
theorem dX10_readLine_4 : decode cX10_readLine 4 = .ok (.iconst 1, 1) := by decide +kernel
theorem dX10_readLine_5 : decode cX10_readLine 5 = .ok (.if_icmp .ne 10, 3) := by decide +kernel
theorem dX10_readLine_8 : decode cX10_readLine 8 = .ok (.aload_n 0, 1) := by decide +kernel
theorem dX10_readLine_9 : decode cX10_readLine 9 = .ok (.invokevirtual 147, 3) := by decide +kernel
theorem dX10_readLine_12 : decode cX10_readLine 12 = .ok (.goto 5, 3) := by decide +kernel
theorem dX10_readLine_15 : decode cX10_readLine 15 = .ok (.bipush (-4), 2) := by decide +kernel
theorem dX10_readLine_17 : decode cX10_readLine 17 = .ok (.istore_n 1, 1) := by decide +kernel
theorem dX10_readLine_18 : decode cX10_readLine 18 = .ok (.aload_n 0, 1) := by decide +kernel
theorem dX10_readLine_19 : decode cX10_readLine 19 = .ok (.iload_n 1, 1) := by decide +kernel
theorem dX10_readLine_20 : decode cX10_readLine 20 = .ok (.bipush (-4), 2) := by decide +kernel
theorem dX10_readLine_22 : decode cX10_readLine 22 = .ok (.if_icmp .eq 7, 3) := by decide +kernel
theorem dX10_readLine_25 : decode cX10_readLine 25 = .ok (.iconst 1, 1) := by decide +kernel
theorem dX10_readLine_26 : decode cX10_readLine 26 = .ok (.goto 4, 3) := by decide +kernel
theorem dX10_readLine_29 : decode cX10_readLine 29 = .ok (.iconst 0, 1) := by decide +kernel
theorem dX10_readLine_30 : decode cX10_readLine 30 = .ok (.iconst 2, 1) := by decide +kernel
theorem dX10_readLine_31 : decode cX10_readLine 31 = .ok (.invokevirtual 120, 3) := by decide +kernel
theorem dX10_readLine_34 : decode cX10_readLine 34 = .ok (.aload_n 0, 1) := by decide +kernel
theorem dX10_readLine_35 : decode cX10_readLine 35 = .ok (.iload_n 1, 1) := by decide +kernel
theorem dX10_readLine_36 : decode cX10_readLine 36 = .ok (.iconst 4, 1) := by decide +kernel
theorem dX10_readLine_37 : decode cX10_readLine 37 = .ok (.if_icmp .ne 15, 3) := by decide +kernel
theorem dX10_readLine_40 : decode cX10_readLine 40 = .ok (.aload_n 0, 1) := by decide +kernel
theorem dX10_readLine_41 : decode cX10_readLine 41 = .ok (.getfield 20, 3) := by decide +kernel
theorem dX10_readLine_44 : decode cX10_readLine 44 = .ok (.bipush 24, 2) := by decide +kernel
theorem dX10_readLine_46 : decode cX10_readLine 46 = .ok (.iaload, 1) := by decide +kernel
theorem dX10_readLine_47 : decode cX10_readLine 47 = .ok (.bipush 6, 2) := by decide +kernel
theorem dX10_readLine_49 : decode cX10_readLine 49 = .ok (.if_icmp .ge 7, 3) := by decide +kernel
theorem dX10_readLine_52 : decode cX10_readLine 52 = .ok (.iconst 1, 1) := by decide +kernel
theorem dX10_readLine_53 : decode cX10_readLine 53 = .ok (.goto 4, 3) := by decide +kernel
theorem dX10_readLine_56 : decode cX10_readLine 56 = .ok (.iconst 0, 1) := by decide +kernel
theorem dX10_readLine_57 : decode cX10_readLine 57 = .ok (.iconst 5, 1) := by decide +kernel
theorem dX10_readLine_58 : decode cX10_readLine 58 = .ok (.invokevirtual 120, 3) := by decide +kernel
theorem dX10_readLine_61 : decode cX10_readLine 61 = .ok (.aload_n 0, 1) := by decide +kernel
theorem dX10_readLine_62 : decode cX10_readLine 62 = .ok (.iload_n 1, 1) := by decide +kernel
theorem dX10_readLine_63 : decode cX10_readLine 63 = .ok (.iconst 5, 1) := by decide +kernel
theorem dX10_readLine_64 : decode cX10_readLine 64 = .ok (.if_icmp .ne 10, 3) := by decide +kernel
theorem dX10_readLine_67 : decode cX10_readLine 67 = .ok (.aload_n 0, 1) := by decide +kernel
theorem dX10_readLine_68 : decode cX10_readLine 68 = .ok (.getfield 60, 3) := by decide +kernel
theorem dX10_readLine_71 : decode cX10_readLine 71 = .ok (.ifCond .ne 7, 3) := by decide +kernel
theorem dX10_readLine_74 : decode cX10_readLine 74 = .ok (.iconst 1, 1) := by decide +kernel
theorem dX10_readLine_75 : decode cX10_readLine 75 = .ok (.goto 4, 3) := by decide +kernel
theorem dX10_readLine_78 : decode cX10_readLine 78 = .ok (.iconst 0, 1) := by decide +kernel
theorem dX10_readLine_79 : decode cX10_readLine 79 = .ok (.iconst 4, 1) := by decide +kernel
theorem dX10_readLine_80 : decode cX10_readLine 80 = .ok (.invokevirtual 120, 3) := by decide +kernel
theorem dX10_readLine_83 : decode cX10_readLine 83 = .ok (.aload_n 0, 1) := by decide +kernel
theorem dX10_readLine_84 : decode cX10_readLine 84 = .ok (.iload_n 1, 1) := by decide +kernel
theorem dX10_readLine_85 : decode cX10_readLine 85 = .ok (.bipush 6, 2) := by decide +kernel
theorem dX10_readLine_87 : decode cX10_readLine 87 = .ok (.if_icmp .ne 10, 3) := by decide +kernel
theorem dX10_readLine_90 : decode cX10_readLine 90 = .ok (.aload_n 0, 1) := by decide +kernel
theorem dX10_readLine_91 : decode cX10_readLine 91 = .ok (.getfield 64, 3) := by decide +kernel
theorem dX10_readLine_94 : decode cX10_readLine 94 = .ok (.ifCond .ne 7, 3) := by decide +kernel
theorem dX10_readLine_97 : decode cX10_readLine 97 = .ok (.iconst 1, 1) := by decide +kernel
theorem dX10_readLine_98 : decode cX10_readLine 98 = .ok (.goto 4, 3) := by decide +kernel
theorem dX10_readLine_101 : decode cX10_readLine 101 = .ok (.iconst 0, 1) := by decide +kernel
theorem dX10_readLine_102 : decode cX10_readLine 102 = .ok (.iconst 4, 1) := by decide +kernel
theorem dX10_readLine_103 : decode cX10_readLine 103 = .ok (.invokevirtual 120, 3) := by decide +kernel
theorem dX10_readLine_106 : decode cX10_readLine 106 = .ok (.aload_n 0, 1) := by decide +kernel
theorem dX10_readLine_107 : decode cX10_readLine 107 = .ok (.aload_n 0, 1) := by decide +kernel
theorem dX10_readLine_108 : decode cX10_readLine 108 = .ok (.getfield 60, 3) := by decide +kernel
theorem dX10_readLine_111 : decode cX10_readLine 111 = .ok (.ifCond .ne 8, 3) := by decide +kernel
theorem dX10_readLine_114 : decode cX10_readLine 114 = .ok (.iload_n 1, 1) := by decide +kernel
theorem dX10_readLine_115 : decode cX10_readLine 115 = .ok (.iconst 5, 1) := by decide +kernel
theorem dX10_readLine_116 : decode cX10_readLine 116 = .ok (.if_icmp .ne 7, 3) := by decide +kernel
theorem dX10_readLine_119 : decode cX10_readLine 119 = .ok (.iconst 1, 1) := by decide +kernel
theorem dX10_readLine_120 : decode cX10_readLine 120 = .ok (.goto 4, 3) := by decide +kernel
theorem dX10_readLine_123 : decode cX10_readLine 123 = .ok (.iconst 0, 1) := by decide +kernel
theorem dX10_readLine_124 : decode cX10_readLine 124 = .ok (.putfield 60, 3) := by decide +kernel
theorem dX10_readLine_127 : decode cX10_readLine 127 = .ok (.aload_n 0, 1) := by decide +kernel
theorem dX10_readLine_128 : decode cX10_readLine 128 = .ok (.aload_n 0, 1) := by decide +kernel
theorem dX10_readLine_129 : decode cX10_readLine 129 = .ok (.getfield 64, 3) := by decide +kernel
theorem dX10_readLine_132 : decode cX10_readLine 132 = .ok (.ifCond .ne 9, 3) := by decide +kernel
theorem dX10_readLine_135 : decode cX10_readLine 135 = .ok (.iload_n 1, 1) := by decide +kernel
theorem dX10_readLine_136 : decode cX10_readLine 136 = .ok (.bipush 6, 2) := by decide +kernel
theorem dX10_readLine_138 : decode cX10_readLine 138 = .ok (.if_icmp .ne 7, 3) := by decide +kernel
theorem dX10_readLine_141 : decode cX10_readLine 141 = .ok (.iconst 1, 1) := by decide +kernel
theorem dX10_readLine_142 : decode cX10_readLine 142 = .ok (.goto 4, 3) := by decide +kernel
theorem dX10_readLine_145 : decode cX10_readLine 145 = .ok (.iconst 0, 1) := by decide +kernel
theorem dX10_readLine_146 : decode cX10_readLine 146 = .ok (.putfield 64, 3) := by decide +kernel
theorem dX10_readLine_149 : decode cX10_readLine 149 = .ok (.aload_n 0, 1) := by decide +kernel
theorem dX10_readLine_150 : decode cX10_readLine 150 = .ok (.invokevirtual 128, 3) := by decide +kernel
theorem dX10_readLine_153 : decode cX10_readLine 153 = .ok (.aload_n 0, 1) := by decide +kernel
theorem dX10_readLine_154 : decode cX10_readLine 154 = .ok (.getfield 79, 3) := by decide +kernel
theorem dX10_readLine_157 : decode cX10_readLine 157 = .ok (.ifCond .le 4, 3) := by decide +kernel
theorem dX10_readLine_160 : decode cX10_readLine 160 = .ok (.return_, 1) := by decide +kernel
theorem dX10_readLine_161 : decode cX10_readLine 161 = .ok (.aload_n 0, 1) := by decide +kernel
theorem dX10_readLine_162 : decode cX10_readLine 162 = .ok (.iload_n 1, 1) := by decide +kernel
theorem dX10_readLine_163 : decode cX10_readLine 163 = .ok (.invokevirtual 151, 3) := by decide +kernel
theorem dX10_readLine_166 : decode cX10_readLine 166 = .ok (.aload_n 0, 1) := by decide +kernel
theorem dX10_readLine_167 : decode cX10_readLine 167 = .ok (.getfield 79, 3) := by decide +kernel
theorem dX10_readLine_170 : decode cX10_readLine 170 = .ok (.ifCond .ne 21, 3) := by decide +kernel
theorem dX10_readLine_173 : decode cX10_readLine 173 = .ok (.aload_n 0, 1) := by decide +kernel
theorem dX10_readLine_174 : decode cX10_readLine 174 = .ok (.aload_n 0, 1) := by decide +kernel
theorem dX10_readLine_175 : decode cX10_readLine 175 = .ok (.getfield 106, 3) := by decide +kernel
theorem dX10_readLine_178 : decode cX10_readLine 178 = .ok (.iconst 3, 1) := by decide +kernel
theorem dX10_readLine_179 : decode cX10_readLine 179 = .ok (.if_icmp .ne 7, 3) := by decide +kernel
theorem dX10_readLine_182 : decode cX10_readLine 182 = .ok (.iconst 1, 1) := by decide +kernel
theorem dX10_readLine_183 : decode cX10_readLine 183 = .ok (.goto 4, 3) := by decide +kernel
theorem dX10_readLine_186 : decode cX10_readLine 186 = .ok (.iconst 0, 1) := by decide +kernel
theorem dX10_readLine_187 : decode cX10_readLine 187 = .ok (.iconst 2, 1) := by decide +kernel
theorem dX10_readLine_188 : decode cX10_readLine 188 = .ok (.invokevirtual 120, 3) := by decide +kernel
theorem dX10_readLine_191 : decode cX10_readLine 191 = .ok (.aload_n 0, 1) := by decide +kernel
theorem dX10_readLine_192 : decode cX10_readLine 192 = .ok (.invokevirtual 128, 3) := by decide +kernel
theorem dX10_readLine_195 : decode cX10_readLine 195 = .ok (.return_, 1) := by decide +kernel
theorem lk_X10_151 : LkV RX10 151 RX10 yX10_readLineOf cX10_readLineOf 2 none 1 := LkV.of 1114 1116 23 71 1117 (by decide +kernel) (by decide +kernel) (by decide +kernel) (by decide +kernel) (by decide +kernel) (by decide +kernel)
theorem gf_X10_64 {ω : WD} {ρ : FR} {M : Mem} {cc : ByteArray} {d n pc : Nat} {lv : List (Nat × Value)} {rest : List Value} (C : Cx ω ρ cc RX10 d n) (hd : decode cc pc = .ok (.getfield 64, 3)) (k : G ω ρ M (pc + 3) lv (.int (rd M 128 5) :: rest)) : G ω ρ M pc lv (.ref (adr ω 128) :: rest) := G_get (N := 28) (T := TX10) (C := RX10) (q := 5) C (q128 : isK 10 128) (by decide) rfl in_X10 (by decide) (tb_of 981 ⟨by decide +kernel, rfl⟩) rfl rfl hd k
theorem gf_X10_60 {ω : WD} {ρ : FR} {M : Mem} {cc : ByteArray} {d n pc : Nat} {lv : List (Nat × Value)} {rest : List Value} (C : Cx ω ρ cc RX10 d n) (hd : decode cc pc = .ok (.getfield 60, 3)) (k : G ω ρ M (pc + 3) lv (.int (rd M 128 4) :: rest)) : G ω ρ M pc lv (.ref (adr ω 128) :: rest) := G_get (N := 28) (T := TX10) (C := RX10) (q := 4) C (q128 : isK 10 128) (by decide) rfl in_X10 (by decide) (tb_of 980 ⟨by decide +kernel, rfl⟩) rfl rfl hd k
theorem lk_X10_147 : LkV RX10 147 RX10 yX10_lineNow cX10_lineNow 1 (some .int) 0 := LkV.of 1098 1100 19 71 1101 (by decide +kernel) (by decide +kernel) (by decide +kernel) (by decide +kernel) (by decide +kernel) (by decide +kernel)
set_option maxRecDepth 100000 in
set_option maxHeartbeats 4000000 in
theorem s_X10_readLine_J191 {ω : WD} {ρ : FR} {post : Mem → Prop} (C : Cx ω ρ cX10_readLine RX10 5 2) (R : RtV ω ρ cX10_readLine post) {M : Mem} (h : w_X10_readLine_J191 post M) : G ω ρ M 191 [(0, .ref (adr ω 128))] [] := by
  refine G_aload_n C dX10_readLine_191 0 rfl ?_
  refine G_callV (As := []) (rest := []) C dX10_readLine_192 lk_X10_128 (Nat.le_of_ble_eq_true rfl) (Nat.le_of_ble_eq_true rfl) q128 (by decide) rfl (Nat.le_of_ble_eq_true rfl) rfl (S_X10_takes h) (fun M1 h => ?_)
  exact R 195 _ _ dX10_readLine_195 h
set_option maxRecDepth 100000 in
set_option maxHeartbeats 4000000 in
theorem s_X10_readLine_J187 {ω : WD} {ρ : FR} {post : Mem → Prop} (C : Cx ω ρ cX10_readLine RX10 5 2) (R : RtV ω ρ cX10_readLine post) {s1 : Int32} {M : Mem} (h : w_X10_readLine_J187 post s1 M) : G ω ρ M 187 [(0, .ref (adr ω 128))] [.int s1, .ref (adr ω 128)] := by
  refine G_iconst (v := 2) C dX10_readLine_187 (by decide) ?_
  refine G_callV (As := [.int s1, .int 2]) (rest := []) C dX10_readLine_188 lk_X10_120 (Nat.le_of_ble_eq_true rfl) (Nat.le_of_ble_eq_true rfl) q128 (by decide) rfl (Nat.le_of_ble_eq_true rfl) rfl (S_X10_needs h) (fun M2 h => ?_)
  exact s_X10_readLine_J191 C R  h
set_option maxRecDepth 100000 in
set_option maxHeartbeats 4000000 in
theorem s_X10_readLine_J146 {ω : WD} {ρ : FR} {post : Mem → Prop} (C : Cx ω ρ cX10_readLine RX10 5 2) (R : RtV ω ρ cX10_readLine post) {l1 : Int32} {s1 : Int32} {M : Mem} (h : w_X10_readLine_J146 post l1 s1 M) : G ω ρ M 146 [(0, .ref (adr ω 128)), (1, .int l1)] [.int s1, .ref (adr ω 128)] := by
  obtain ⟨hz, h⟩ := h
  refine pf_X10_64 C hz dX10_readLine_146 (fun M3 eM3 => ?_)
  replace h := h M3 eM3
  refine G_aload_n C dX10_readLine_149 0 rfl ?_
  refine G_callV (As := []) (rest := []) C dX10_readLine_150 lk_X10_128 (Nat.le_of_ble_eq_true rfl) (Nat.le_of_ble_eq_true rfl) q128 (by decide) rfl (Nat.le_of_ble_eq_true rfl) rfl (S_X10_takes h) (fun M4 h => ?_)
  refine G_aload_n C dX10_readLine_153 0 rfl ?_
  refine gf_X10_79 C dX10_readLine_154 ?_
  obtain ⟨h1, h2⟩ := h
  refine G_if_le (tgt := 161) C dX10_readLine_157 (by decide) (fun c => ?_) (fun c => ?_)
  · have h := h1 c
    clear h1 h2
    refine G_aload_n C dX10_readLine_161 0 rfl ?_
    refine G_iload_n C dX10_readLine_162 1 rfl ?_
    refine G_callV (As := [.int l1]) (rest := []) C dX10_readLine_163 lk_X10_151 (Nat.le_of_ble_eq_true rfl) (Nat.le_of_ble_eq_true rfl) q128 (by decide) rfl (Nat.le_of_ble_eq_true rfl) rfl (S_X10_readLineOf h) (fun M5 h => ?_)
    refine G_aload_n C dX10_readLine_166 0 rfl ?_
    refine gf_X10_79 C dX10_readLine_167 ?_
    obtain ⟨h1, h2⟩ := h
    refine G_if_ne (tgt := 191) C dX10_readLine_170 (by decide) (fun c => ?_) (fun c => ?_)
    · have h := h1 c
      clear h1 h2
      refine G_sub [0] (lv' := [(0, .ref (adr ω 128))]) rfl ?_
      exact s_X10_readLine_J191 C R  h
    · have h := h2 c
      clear h1 h2
      refine G_aload_n C dX10_readLine_173 0 rfl ?_
      refine G_aload_n C dX10_readLine_174 0 rfl ?_
      refine gf_X10_106 C dX10_readLine_175 ?_
      refine G_iconst (v := 3) C dX10_readLine_178 (by decide) ?_
      obtain ⟨h1, h2⟩ := h
      refine G_icmp_ne (tgt := 186) C dX10_readLine_179 (by decide) (fun c => ?_) (fun c => ?_)
      · have h := h1 c
        clear h1 h2
        refine G_iconst (v := 0) C dX10_readLine_186 (by decide) ?_
        refine G_sub [0] (lv' := [(0, .ref (adr ω 128))]) rfl ?_
        exact s_X10_readLine_J187 C R  h
      · have h := h2 c
        clear h1 h2
        refine G_iconst (v := 1) C dX10_readLine_182 (by decide) ?_
        refine G_goto (tgt := 187) C dX10_readLine_183 (by decide) ?_
        refine G_sub [0] (lv' := [(0, .ref (adr ω 128))]) rfl ?_
        exact s_X10_readLine_J187 C R  h
  · have h := h2 c
    clear h1 h2
    exact R 160 _ _ dX10_readLine_160 h
set_option maxRecDepth 100000 in
set_option maxHeartbeats 4000000 in
theorem s_X10_readLine_J141 {ω : WD} {ρ : FR} {post : Mem → Prop} (C : Cx ω ρ cX10_readLine RX10 5 2) (R : RtV ω ρ cX10_readLine post) {l1 : Int32} {M : Mem} (h : w_X10_readLine_J141 post l1 M) : G ω ρ M 141 [(0, .ref (adr ω 128)), (1, .int l1)] [.ref (adr ω 128)] := by
  refine G_iconst (v := 1) C dX10_readLine_141 (by decide) ?_
  refine G_goto (tgt := 146) C dX10_readLine_142 (by decide) ?_
  exact s_X10_readLine_J146 C R  h
set_option maxRecDepth 100000 in
set_option maxHeartbeats 4000000 in
theorem s_X10_readLine_J124 {ω : WD} {ρ : FR} {post : Mem → Prop} (C : Cx ω ρ cX10_readLine RX10 5 2) (R : RtV ω ρ cX10_readLine post) {l1 : Int32} {s1 : Int32} {M : Mem} (h : w_X10_readLine_J124 post l1 s1 M) : G ω ρ M 124 [(0, .ref (adr ω 128)), (1, .int l1)] [.int s1, .ref (adr ω 128)] := by
  obtain ⟨hz, h⟩ := h
  refine pf_X10_60 C hz dX10_readLine_124 (fun M6 eM6 => ?_)
  replace h := h M6 eM6
  refine G_aload_n C dX10_readLine_127 0 rfl ?_
  refine G_aload_n C dX10_readLine_128 0 rfl ?_
  refine gf_X10_64 C dX10_readLine_129 ?_
  obtain ⟨h1, h2⟩ := h
  refine G_if_ne (tgt := 141) C dX10_readLine_132 (by decide) (fun c => ?_) (fun c => ?_)
  · have h := h1 c
    clear h1 h2
    exact s_X10_readLine_J141 C R  h
  · have h := h2 c
    clear h1 h2
    refine G_iload_n C dX10_readLine_135 1 rfl ?_
    refine G_bipush (v := 6) C dX10_readLine_136 (by decide) ?_
    obtain ⟨h1, h2⟩ := h
    refine G_icmp_ne (tgt := 145) C dX10_readLine_138 (by decide) (fun c => ?_) (fun c => ?_)
    · have h := h1 c
      clear h1 h2
      refine G_iconst (v := 0) C dX10_readLine_145 (by decide) ?_
      exact s_X10_readLine_J146 C R  h
    · have h := h2 c
      clear h1 h2
      exact s_X10_readLine_J141 C R  h
set_option maxRecDepth 100000 in
set_option maxHeartbeats 4000000 in
theorem s_X10_readLine_J119 {ω : WD} {ρ : FR} {post : Mem → Prop} (C : Cx ω ρ cX10_readLine RX10 5 2) (R : RtV ω ρ cX10_readLine post) {l1 : Int32} {M : Mem} (h : w_X10_readLine_J119 post l1 M) : G ω ρ M 119 [(0, .ref (adr ω 128)), (1, .int l1)] [.ref (adr ω 128)] := by
  refine G_iconst (v := 1) C dX10_readLine_119 (by decide) ?_
  refine G_goto (tgt := 124) C dX10_readLine_120 (by decide) ?_
  exact s_X10_readLine_J124 C R  h
set_option maxRecDepth 100000 in
set_option maxHeartbeats 4000000 in
theorem s_X10_readLine_J102 {ω : WD} {ρ : FR} {post : Mem → Prop} (C : Cx ω ρ cX10_readLine RX10 5 2) (R : RtV ω ρ cX10_readLine post) {l1 : Int32} {s1 : Int32} {M : Mem} (h : w_X10_readLine_J102 post l1 s1 M) : G ω ρ M 102 [(0, .ref (adr ω 128)), (1, .int l1)] [.int s1, .ref (adr ω 128)] := by
  refine G_iconst (v := 4) C dX10_readLine_102 (by decide) ?_
  refine G_callV (As := [.int s1, .int 4]) (rest := []) C dX10_readLine_103 lk_X10_120 (Nat.le_of_ble_eq_true rfl) (Nat.le_of_ble_eq_true rfl) q128 (by decide) rfl (Nat.le_of_ble_eq_true rfl) rfl (S_X10_needs h) (fun M7 h => ?_)
  refine G_aload_n C dX10_readLine_106 0 rfl ?_
  refine G_aload_n C dX10_readLine_107 0 rfl ?_
  refine gf_X10_60 C dX10_readLine_108 ?_
  obtain ⟨h1, h2⟩ := h
  refine G_if_ne (tgt := 119) C dX10_readLine_111 (by decide) (fun c => ?_) (fun c => ?_)
  · have h := h1 c
    clear h1 h2
    exact s_X10_readLine_J119 C R  h
  · have h := h2 c
    clear h1 h2
    refine G_iload_n C dX10_readLine_114 1 rfl ?_
    refine G_iconst (v := 5) C dX10_readLine_115 (by decide) ?_
    obtain ⟨h1, h2⟩ := h
    refine G_icmp_ne (tgt := 123) C dX10_readLine_116 (by decide) (fun c => ?_) (fun c => ?_)
    · have h := h1 c
      clear h1 h2
      refine G_iconst (v := 0) C dX10_readLine_123 (by decide) ?_
      exact s_X10_readLine_J124 C R  h
    · have h := h2 c
      clear h1 h2
      exact s_X10_readLine_J119 C R  h
set_option maxRecDepth 100000 in
set_option maxHeartbeats 4000000 in
theorem s_X10_readLine_J97 {ω : WD} {ρ : FR} {post : Mem → Prop} (C : Cx ω ρ cX10_readLine RX10 5 2) (R : RtV ω ρ cX10_readLine post) {l1 : Int32} {M : Mem} (h : w_X10_readLine_J97 post l1 M) : G ω ρ M 97 [(0, .ref (adr ω 128)), (1, .int l1)] [.ref (adr ω 128)] := by
  refine G_iconst (v := 1) C dX10_readLine_97 (by decide) ?_
  refine G_goto (tgt := 102) C dX10_readLine_98 (by decide) ?_
  exact s_X10_readLine_J102 C R  h
set_option maxRecDepth 100000 in
set_option maxHeartbeats 4000000 in
theorem s_X10_readLine_J79 {ω : WD} {ρ : FR} {post : Mem → Prop} (C : Cx ω ρ cX10_readLine RX10 5 2) (R : RtV ω ρ cX10_readLine post) {l1 : Int32} {s1 : Int32} {M : Mem} (h : w_X10_readLine_J79 post l1 s1 M) : G ω ρ M 79 [(0, .ref (adr ω 128)), (1, .int l1)] [.int s1, .ref (adr ω 128)] := by
  refine G_iconst (v := 4) C dX10_readLine_79 (by decide) ?_
  refine G_callV (As := [.int s1, .int 4]) (rest := []) C dX10_readLine_80 lk_X10_120 (Nat.le_of_ble_eq_true rfl) (Nat.le_of_ble_eq_true rfl) q128 (by decide) rfl (Nat.le_of_ble_eq_true rfl) rfl (S_X10_needs h) (fun M8 h => ?_)
  refine G_aload_n C dX10_readLine_83 0 rfl ?_
  refine G_iload_n C dX10_readLine_84 1 rfl ?_
  refine G_bipush (v := 6) C dX10_readLine_85 (by decide) ?_
  obtain ⟨h1, h2⟩ := h
  refine G_icmp_ne (tgt := 97) C dX10_readLine_87 (by decide) (fun c => ?_) (fun c => ?_)
  · have h := h1 c
    clear h1 h2
    exact s_X10_readLine_J97 C R  h
  · have h := h2 c
    clear h1 h2
    refine G_aload_n C dX10_readLine_90 0 rfl ?_
    refine gf_X10_64 C dX10_readLine_91 ?_
    obtain ⟨h1, h2⟩ := h
    refine G_if_ne (tgt := 101) C dX10_readLine_94 (by decide) (fun c => ?_) (fun c => ?_)
    · have h := h1 c
      clear h1 h2
      refine G_iconst (v := 0) C dX10_readLine_101 (by decide) ?_
      exact s_X10_readLine_J102 C R  h
    · have h := h2 c
      clear h1 h2
      exact s_X10_readLine_J97 C R  h
set_option maxRecDepth 100000 in
set_option maxHeartbeats 4000000 in
theorem s_X10_readLine_J74 {ω : WD} {ρ : FR} {post : Mem → Prop} (C : Cx ω ρ cX10_readLine RX10 5 2) (R : RtV ω ρ cX10_readLine post) {l1 : Int32} {M : Mem} (h : w_X10_readLine_J74 post l1 M) : G ω ρ M 74 [(0, .ref (adr ω 128)), (1, .int l1)] [.ref (adr ω 128)] := by
  refine G_iconst (v := 1) C dX10_readLine_74 (by decide) ?_
  refine G_goto (tgt := 79) C dX10_readLine_75 (by decide) ?_
  exact s_X10_readLine_J79 C R  h
set_option maxRecDepth 100000 in
set_option maxHeartbeats 4000000 in
theorem s_X10_readLine_J57 {ω : WD} {ρ : FR} {post : Mem → Prop} (C : Cx ω ρ cX10_readLine RX10 5 2) (R : RtV ω ρ cX10_readLine post) {l1 : Int32} {s1 : Int32} {M : Mem} (h : w_X10_readLine_J57 post l1 s1 M) : G ω ρ M 57 [(0, .ref (adr ω 128)), (1, .int l1)] [.int s1, .ref (adr ω 128)] := by
  refine G_iconst (v := 5) C dX10_readLine_57 (by decide) ?_
  refine G_callV (As := [.int s1, .int 5]) (rest := []) C dX10_readLine_58 lk_X10_120 (Nat.le_of_ble_eq_true rfl) (Nat.le_of_ble_eq_true rfl) q128 (by decide) rfl (Nat.le_of_ble_eq_true rfl) rfl (S_X10_needs h) (fun M9 h => ?_)
  refine G_aload_n C dX10_readLine_61 0 rfl ?_
  refine G_iload_n C dX10_readLine_62 1 rfl ?_
  refine G_iconst (v := 5) C dX10_readLine_63 (by decide) ?_
  obtain ⟨h1, h2⟩ := h
  refine G_icmp_ne (tgt := 74) C dX10_readLine_64 (by decide) (fun c => ?_) (fun c => ?_)
  · have h := h1 c
    clear h1 h2
    exact s_X10_readLine_J74 C R  h
  · have h := h2 c
    clear h1 h2
    refine G_aload_n C dX10_readLine_67 0 rfl ?_
    refine gf_X10_60 C dX10_readLine_68 ?_
    obtain ⟨h1, h2⟩ := h
    refine G_if_ne (tgt := 78) C dX10_readLine_71 (by decide) (fun c => ?_) (fun c => ?_)
    · have h := h1 c
      clear h1 h2
      refine G_iconst (v := 0) C dX10_readLine_78 (by decide) ?_
      exact s_X10_readLine_J79 C R  h
    · have h := h2 c
      clear h1 h2
      exact s_X10_readLine_J74 C R  h
set_option maxRecDepth 100000 in
set_option maxHeartbeats 4000000 in
theorem s_X10_readLine_J52 {ω : WD} {ρ : FR} {post : Mem → Prop} (C : Cx ω ρ cX10_readLine RX10 5 2) (R : RtV ω ρ cX10_readLine post) {l1 : Int32} {M : Mem} (h : w_X10_readLine_J52 post l1 M) : G ω ρ M 52 [(0, .ref (adr ω 128)), (1, .int l1)] [.ref (adr ω 128)] := by
  refine G_iconst (v := 1) C dX10_readLine_52 (by decide) ?_
  refine G_goto (tgt := 57) C dX10_readLine_53 (by decide) ?_
  exact s_X10_readLine_J57 C R  h
set_option maxRecDepth 100000 in
set_option maxHeartbeats 4000000 in
theorem s_X10_readLine_J30 {ω : WD} {ρ : FR} {post : Mem → Prop} (C : Cx ω ρ cX10_readLine RX10 5 2) (R : RtV ω ρ cX10_readLine post) {l1 : Int32} {s1 : Int32} {M : Mem} (h : w_X10_readLine_J30 post l1 s1 M) : G ω ρ M 30 [(0, .ref (adr ω 128)), (1, .int l1)] [.int s1, .ref (adr ω 128)] := by
  refine G_iconst (v := 2) C dX10_readLine_30 (by decide) ?_
  refine G_callV (As := [.int s1, .int 2]) (rest := []) C dX10_readLine_31 lk_X10_120 (Nat.le_of_ble_eq_true rfl) (Nat.le_of_ble_eq_true rfl) q128 (by decide) rfl (Nat.le_of_ble_eq_true rfl) rfl (S_X10_needs h) (fun M10 h => ?_)
  refine G_aload_n C dX10_readLine_34 0 rfl ?_
  refine G_iload_n C dX10_readLine_35 1 rfl ?_
  refine G_iconst (v := 4) C dX10_readLine_36 (by decide) ?_
  obtain ⟨h1, h2⟩ := h
  refine G_icmp_ne (tgt := 52) C dX10_readLine_37 (by decide) (fun c => ?_) (fun c => ?_)
  · have h := h1 c
    clear h1 h2
    exact s_X10_readLine_J52 C R  h
  · have h := h2 c
    clear h1 h2
    refine G_aload_n C dX10_readLine_40 0 rfl ?_
    refine gf_X10_20 C dX10_readLine_41 ?_
    refine G_bipush (v := 24) C dX10_readLine_44 (by decide) ?_
    refine G_iald C q132 (vp_lit rfl) (kk := 24) (by decide +kernel) dX10_readLine_46 ?_
    refine G_bipush (v := 6) C dX10_readLine_47 (by decide) ?_
    obtain ⟨h1, h2⟩ := h
    refine G_icmp_ge (tgt := 56) C dX10_readLine_49 (by decide) (fun c => ?_) (fun c => ?_)
    · have h := h1 c
      clear h1 h2
      refine G_iconst (v := 0) C dX10_readLine_56 (by decide) ?_
      exact s_X10_readLine_J57 C R  h
    · have h := h2 c
      clear h1 h2
      exact s_X10_readLine_J52 C R  h
set_option maxRecDepth 100000 in
set_option maxHeartbeats 4000000 in
theorem s_X10_readLine_J17 {ω : WD} {ρ : FR} {post : Mem → Prop} (C : Cx ω ρ cX10_readLine RX10 5 2) (R : RtV ω ρ cX10_readLine post) {s0 : Int32} {M : Mem} (h : w_X10_readLine_J17 post s0 M) : G ω ρ M 17 [(0, .ref (adr ω 128))] [.int s0] := by
  refine G_istore_n C dX10_readLine_17 (by decide) (lv' := [(1, .int s0), (0, .ref (adr ω 128))]) rfl ?_
  refine G_aload_n C dX10_readLine_18 1 rfl ?_
  refine G_iload_n C dX10_readLine_19 0 rfl ?_
  refine G_bipush (v := (-4)) C dX10_readLine_20 (by decide) ?_
  obtain ⟨h1, h2⟩ := h
  refine G_icmp_eq (tgt := 29) C dX10_readLine_22 (by decide) (fun c => ?_) (fun c => ?_)
  · have h := h1 c
    clear h1 h2
    refine G_iconst (v := 0) C dX10_readLine_29 (by decide) ?_
    refine G_sub [1, 0] (lv' := [(0, .ref (adr ω 128)), (1, .int s0)]) rfl ?_
    exact s_X10_readLine_J30 C R  h
  · have h := h2 c
    clear h1 h2
    refine G_iconst (v := 1) C dX10_readLine_25 (by decide) ?_
    refine G_goto (tgt := 30) C dX10_readLine_26 (by decide) ?_
    refine G_sub [1, 0] (lv' := [(0, .ref (adr ω 128)), (1, .int s0)]) rfl ?_
    exact s_X10_readLine_J30 C R  h
set_option maxRecDepth 100000 in
set_option maxHeartbeats 4000000 in
theorem S_X10_readLine {ω : WD} {M : Mem} {post : Mem → Prop} (h : w_X10_readLine M post) : MtV ω yX10_readLine cX10_readLine 2 none 5 [.ref (adr ω 128)] M post := by
  refine MtV.start rfl (by decide +kernel) (own := RX10) rfl (Nat.le_of_ble_eq_true rfl) (fun ρ C R => ?_)
  show G ω ρ M 0 [(0, .ref (adr ω 128))] []
  refine G_aload_n C dX10_readLine_0 0 rfl ?_
  refine gf_X10_106 C dX10_readLine_1 ?_
  refine G_iconst (v := 1) C dX10_readLine_4 (by decide) ?_
  obtain ⟨h1, h2⟩ := h
  refine G_icmp_ne (tgt := 15) C dX10_readLine_5 (by decide) (fun c => ?_) (fun c => ?_)
  · have h := h1 c
    clear h1 h2
    refine G_bipush (v := (-4)) C dX10_readLine_15 (by decide) ?_
    exact s_X10_readLine_J17 C R  h
  · have h := h2 c
    clear h1 h2
    refine G_aload_n C dX10_readLine_8 0 rfl ?_
    refine G_callI (As := []) (rest := []) C dX10_readLine_9 lk_X10_147 (Nat.le_of_ble_eq_true rfl) (Nat.le_of_ble_eq_true rfl) q128 (by decide) rfl (Nat.le_of_ble_eq_true rfl) rfl (S_X10_lineNow h) (fun r12 M11 h => ?_)
    refine G_goto (tgt := 17) C dX10_readLine_12 (by decide) ?_
    exact s_X10_readLine_J17 C R  h
theorem dX10_text_0 : decode cX10_text 0 = .ok (.iconst 0, 1) := by decide +kernel
theorem dX10_text_1 : decode cX10_text 1 = .ok (.istore_n 1, 1) := by decide +kernel
theorem dX10_text_2 : decode cX10_text 2 = .ok (.aload_n 0, 1) := by decide +kernel
theorem dX10_text_3 : decode cX10_text 3 = .ok (.iconst 0, 1) := by decide +kernel
theorem dX10_text_4 : decode cX10_text 4 = .ok (.putfield 79, 3) := by decide +kernel
theorem dX10_text_7 : decode cX10_text 7 = .ok (.aload_n 0, 1) := by decide +kernel
theorem dX10_text_8 : decode cX10_text 8 = .ok (.iconst 0, 1) := by decide +kernel
theorem dX10_text_9 : decode cX10_text 9 = .ok (.putfield 88, 3) := by decide +kernel
theorem dX10_text_12 : decode cX10_text 12 = .ok (.aload_n 0, 1) := by decide +kernel
theorem dX10_text_13 : decode cX10_text 13 = .ok (.invokevirtual 44, 3) := by decide +kernel
theorem dX10_text_16 : decode cX10_text 16 = .ok (.aload_n 0, 1) := by decide +kernel
theorem dX10_text_17 : decode cX10_text 17 = .ok (.invokevirtual 128, 3) := by decide +kernel
theorem dX10_text_20 : decode cX10_text 20 = .ok (.aload_n 0, 1) := by decide +kernel
theorem dX10_text_21 : decode cX10_text 21 = .ok (.getfield 79, 3) := by decide +kernel
theorem dX10_text_24 : decode cX10_text 24 = .ok (.ifCond .ne 20, 3) := by decide +kernel
theorem dX10_text_27 : decode cX10_text 27 = .ok (.aload_n 0, 1) := by decide +kernel
theorem dX10_text_28 : decode cX10_text 28 = .ok (.getfield 106, 3) := by decide +kernel
theorem dX10_text_31 : decode cX10_text 31 = .ok (.ifCond .eq 13, 3) := by decide +kernel
theorem dX10_text_34 : decode cX10_text 34 = .ok (.aload_n 0, 1) := by decide +kernel
theorem dX10_text_35 : decode cX10_text 35 = .ok (.invokevirtual 154, 3) := by decide +kernel
theorem dX10_text_38 : decode cX10_text 38 = .ok (.iinc 1 1, 3) := by decide +kernel
theorem dX10_text_41 : decode cX10_text 41 = .ok (.goto (-21), 3) := by decide +kernel
theorem dX10_text_44 : decode cX10_text 44 = .ok (.aload_n 0, 1) := by decide +kernel
theorem dX10_text_45 : decode cX10_text 45 = .ok (.getfield 79, 3) := by decide +kernel
theorem dX10_text_48 : decode cX10_text 48 = .ok (.ifCond .ne 28, 3) := by decide +kernel
theorem dX10_text_51 : decode cX10_text 51 = .ok (.aload_n 0, 1) := by decide +kernel
theorem dX10_text_52 : decode cX10_text 52 = .ok (.aload_n 0, 1) := by decide +kernel
theorem dX10_text_53 : decode cX10_text 53 = .ok (.getfield 71, 3) := by decide +kernel
theorem dX10_text_56 : decode cX10_text 56 = .ok (.aload_n 0, 1) := by decide +kernel
theorem dX10_text_57 : decode cX10_text 57 = .ok (.getfield 20, 3) := by decide +kernel
theorem dX10_text_60 : decode cX10_text 60 = .ok (.bipush 24, 2) := by decide +kernel
theorem dX10_text_62 : decode cX10_text 62 = .ok (.iaload, 1) := by decide +kernel
theorem dX10_text_63 : decode cX10_text 63 = .ok (.if_icmp .ge 7, 3) := by decide +kernel
theorem dX10_text_66 : decode cX10_text 66 = .ok (.iconst 1, 1) := by decide +kernel
theorem dX10_text_67 : decode cX10_text 67 = .ok (.goto 4, 3) := by decide +kernel
theorem dX10_text_70 : decode cX10_text 70 = .ok (.iconst 0, 1) := by decide +kernel
theorem dX10_text_71 : decode cX10_text 71 = .ok (.bipush 6, 2) := by decide +kernel
theorem dX10_text_73 : decode cX10_text 73 = .ok (.invokevirtual 120, 3) := by decide +kernel
theorem dX10_text_76 : decode cX10_text 76 = .ok (.aload_n 0, 1) := by decide +kernel
theorem dX10_text_77 : decode cX10_text 77 = .ok (.iconst 0, 1) := by decide +kernel
theorem dX10_text_78 : decode cX10_text 78 = .ok (.putfield 76, 3) := by decide +kernel
theorem dX10_text_81 : decode cX10_text 81 = .ok (.aload_n 0, 1) := by decide +kernel
theorem dX10_text_82 : decode cX10_text 82 = .ok (.getfield 79, 3) := by decide +kernel
theorem dX10_text_85 : decode cX10_text 85 = .ok (.ifCond .le 11, 3) := by decide +kernel
theorem dX10_text_88 : decode cX10_text 88 = .ok (.bipush (-10), 2) := by decide +kernel
theorem dX10_text_90 : decode cX10_text 90 = .ok (.aload_n 0, 1) := by decide +kernel
theorem dX10_text_91 : decode cX10_text 91 = .ok (.getfield 85, 3) := by decide +kernel
theorem dX10_text_94 : decode cX10_text 94 = .ok (.isub, 1) := by decide +kernel
theorem dX10_text_95 : decode cX10_text 95 = .ok (.ireturn, 1) := by decide +kernel
theorem dX10_text_96 : decode cX10_text 96 = .ok (.aload_n 0, 1) := by decide +kernel
theorem dX10_text_97 : decode cX10_text 97 = .ok (.invokevirtual 47, 3) := by decide +kernel
theorem dX10_text_100 : decode cX10_text 100 = .ok (.iload_n 1, 1) := by decide +kernel
theorem dX10_text_101 : decode cX10_text 101 = .ok (.ireturn, 1) := by decide +kernel
theorem lk_X10_47 : LkV RX10 47 RX10 yX10_keepDraft cX10_keepDraft 2 none 0 := LkV.of 972 974 14 71 975 (by decide +kernel) (by decide +kernel) (by decide +kernel) (by decide +kernel) (by decide +kernel) (by decide +kernel)
theorem gf_X10_85 {ω : WD} {ρ : FR} {M : Mem} {cc : ByteArray} {d n pc : Nat} {lv : List (Nat × Value)} {rest : List Value} (C : Cx ω ρ cc RX10 d n) (hd : decode cc pc = .ok (.getfield 85, 3)) (k : G ω ρ M (pc + 3) lv (.int (rd M 128 15) :: rest)) : G ω ρ M pc lv (.ref (adr ω 128) :: rest) := G_get (N := 28) (T := TX10) (C := RX10) (q := 15) C (q128 : isK 10 128) (by decide) rfl in_X10 (by decide) (tb_of 991 ⟨by decide +kernel, rfl⟩) rfl rfl hd k
theorem lk_X10_154 : LkV RX10 154 RX10 yX10_readLine cX10_readLine 2 none 0 := LkV.of 1094 1096 18 71 1097 (by decide +kernel) (by decide +kernel) (by decide +kernel) (by decide +kernel) (by decide +kernel) (by decide +kernel)
theorem lk_X10_44 : LkV RX10 44 RX10 yX10_firstDraft cX10_firstDraft 2 none 0 := LkV.of 968 970 13 71 971 (by decide +kernel) (by decide +kernel) (by decide +kernel) (by decide +kernel) (by decide +kernel) (by decide +kernel)
set_option maxRecDepth 100000 in
set_option maxHeartbeats 4000000 in
theorem s_X10_text_J76 {ω : WD} {ρ : FR} {post : Int32 → Mem → Prop} (C : Cx ω ρ cX10_text RX10 6 2) (R : RtI ω ρ cX10_text .int post) {l1 : Int32} {M : Mem} (h : w_X10_text_J76 post l1 M) : G ω ρ M 76 [(0, .ref (adr ω 128)), (1, .int l1)] [] := by
  refine G_aload_n C dX10_text_76 0 rfl ?_
  refine G_iconst (v := 0) C dX10_text_77 (by decide) ?_
  refine pf_X10_76 C dX10_text_78 (fun M1 eM1 => ?_)
  replace h := h M1 eM1
  refine G_aload_n C dX10_text_81 0 rfl ?_
  refine gf_X10_79 C dX10_text_82 ?_
  obtain ⟨h1, h2⟩ := h
  refine G_if_le (tgt := 96) C dX10_text_85 (by decide) (fun c => ?_) (fun c => ?_)
  · have h := h1 c
    clear h1 h2
    refine G_aload_n C dX10_text_96 0 rfl ?_
    refine G_callV (As := []) (rest := []) C dX10_text_97 lk_X10_47 (Nat.le_of_ble_eq_true rfl) (Nat.le_of_ble_eq_true rfl) q128 (by decide) rfl (Nat.le_of_ble_eq_true rfl) rfl (S_X10_keepDraft h) (fun M2 h => ?_)
    refine G_iload_n C dX10_text_100 1 rfl ?_
    exact R 101 _ _ _ dX10_text_101 rfl h
  · have h := h2 c
    clear h1 h2
    refine G_bipush (v := (-10)) C dX10_text_88 (by decide) ?_
    refine G_aload_n C dX10_text_90 0 rfl ?_
    refine gf_X10_85 C dX10_text_91 ?_
    refine G_isub C dX10_text_94 ?_
    exact R 95 _ _ _ dX10_text_95 rfl h
set_option maxRecDepth 100000 in
set_option maxHeartbeats 4000000 in
theorem s_X10_text_J71 {ω : WD} {ρ : FR} {post : Int32 → Mem → Prop} (C : Cx ω ρ cX10_text RX10 6 2) (R : RtI ω ρ cX10_text .int post) {l1 : Int32} {s1 : Int32} {M : Mem} (h : w_X10_text_J71 post l1 s1 M) : G ω ρ M 71 [(0, .ref (adr ω 128)), (1, .int l1)] [.int s1, .ref (adr ω 128)] := by
  refine G_bipush (v := 6) C dX10_text_71 (by decide) ?_
  refine G_callV (As := [.int s1, .int 6]) (rest := []) C dX10_text_73 lk_X10_120 (Nat.le_of_ble_eq_true rfl) (Nat.le_of_ble_eq_true rfl) q128 (by decide) rfl (Nat.le_of_ble_eq_true rfl) rfl (S_X10_needs h) (fun M3 h => ?_)
  exact s_X10_text_J76 C R  h
set_option maxRecDepth 100000 in
set_option maxHeartbeats 4000000 in
theorem s_X10_text_J44 {ω : WD} {ρ : FR} {post : Int32 → Mem → Prop} (C : Cx ω ρ cX10_text RX10 6 2) (R : RtI ω ρ cX10_text .int post) {l1 : Int32} {M : Mem} (h : w_X10_text_J44 post l1 M) : G ω ρ M 44 [(0, .ref (adr ω 128)), (1, .int l1)] [] := by
  refine G_aload_n C dX10_text_44 0 rfl ?_
  refine gf_X10_79 C dX10_text_45 ?_
  obtain ⟨h1, h2⟩ := h
  refine G_if_ne (tgt := 76) C dX10_text_48 (by decide) (fun c => ?_) (fun c => ?_)
  · have h := h1 c
    clear h1 h2
    exact s_X10_text_J76 C R  h
  · have h := h2 c
    clear h1 h2
    refine G_aload_n C dX10_text_51 0 rfl ?_
    refine G_aload_n C dX10_text_52 0 rfl ?_
    refine gf_X10_71 C dX10_text_53 ?_
    refine G_aload_n C dX10_text_56 0 rfl ?_
    refine gf_X10_20 C dX10_text_57 ?_
    refine G_bipush (v := 24) C dX10_text_60 (by decide) ?_
    refine G_iald C q132 (vp_lit rfl) (kk := 24) (by decide +kernel) dX10_text_62 ?_
    obtain ⟨h1, h2⟩ := h
    refine G_icmp_ge (tgt := 70) C dX10_text_63 (by decide) (fun c => ?_) (fun c => ?_)
    · have h := h1 c
      clear h1 h2
      refine G_iconst (v := 0) C dX10_text_70 (by decide) ?_
      exact s_X10_text_J71 C R  h
    · have h := h2 c
      clear h1 h2
      refine G_iconst (v := 1) C dX10_text_66 (by decide) ?_
      refine G_goto (tgt := 71) C dX10_text_67 (by decide) ?_
      exact s_X10_text_J71 C R  h
set_option maxRecDepth 100000 in
set_option maxHeartbeats 4000000 in
theorem s_X10_text_L20 {ω : WD} {ρ : FR} {post : Int32 → Mem → Prop} (C : Cx ω ρ cX10_text RX10 6 2) (R : RtI ω ρ cX10_text .int post) : ∀ (f : Nat) (l1 : Int32) (M : Mem), w_X10_text_L20 post f l1 M → G ω ρ M 20 [(0, .ref (adr ω 128)), (1, .int l1)] [] := by
  intro f
  induction f with
  | zero => intro l1 M h; exact False.elim h
  | succ f k20 =>
    intro l1 M h
    refine G_aload_n C dX10_text_20 0 rfl ?_
    refine gf_X10_79 C dX10_text_21 ?_
    obtain ⟨h1, h2⟩ := h
    refine G_if_ne (tgt := 44) C dX10_text_24 (by decide) (fun c => ?_) (fun c => ?_)
    · have h := h1 c
      clear h1 h2
      exact s_X10_text_J44 C R  h
    · have h := h2 c
      clear h1 h2
      refine G_aload_n C dX10_text_27 0 rfl ?_
      refine gf_X10_106 C dX10_text_28 ?_
      obtain ⟨h1, h2⟩ := h
      refine G_if_eq (tgt := 44) C dX10_text_31 (by decide) (fun c => ?_) (fun c => ?_)
      · have h := h1 c
        clear h1 h2
        exact s_X10_text_J44 C R  h
      · have h := h2 c
        clear h1 h2
        refine G_aload_n C dX10_text_34 0 rfl ?_
        refine G_callV (As := []) (rest := []) C dX10_text_35 lk_X10_154 (Nat.le_of_ble_eq_true rfl) (Nat.le_of_ble_eq_true rfl) q128 (by decide) rfl (Nat.le_of_ble_eq_true rfl) rfl (S_X10_readLine h) (fun M4 h => ?_)
        obtain ⟨v5, ev5⟩ : ∃ y : Int32, y = (l1 + 1) := ⟨_, rfl⟩
        replace h := h v5 ev5
        refine G_iinc C dX10_text_38 1 rfl (v := v5) (by rw [ev5]; rfl) (by decide) (lv' := [(1, .int v5), (0, .ref (adr ω 128))]) rfl ?_
        refine G_goto (tgt := 20) C dX10_text_41 (by decide) ?_
        refine G_sub [1, 0] (lv' := [(0, .ref (adr ω 128)), (1, .int v5)]) rfl ?_
        exact k20 _ _ h
set_option maxRecDepth 100000 in
set_option maxHeartbeats 4000000 in
theorem S_X10_text {ω : WD} {M : Mem} {post : Int32 → Mem → Prop} (h : w_X10_text M post) : MtI ω yX10_text cX10_text 2 (some .int) 6 [.ref (adr ω 128)] M post := by
  refine MtI.start (ty := .int) rfl (by decide +kernel) (own := RX10) rfl (Nat.le_of_ble_eq_true rfl) (fun ρ C R => ?_)
  show G ω ρ M 0 [(0, .ref (adr ω 128))] []
  refine G_iconst (v := 0) C dX10_text_0 (by decide) ?_
  refine G_istore_n C dX10_text_1 (by decide) (lv' := [(1, .int 0), (0, .ref (adr ω 128))]) rfl ?_
  refine G_aload_n C dX10_text_2 1 rfl ?_
  refine G_iconst (v := 0) C dX10_text_3 (by decide) ?_
  refine pf_X10_79 C dX10_text_4 (fun M6 eM6 => ?_)
  replace h := h M6 eM6
  refine G_aload_n C dX10_text_7 1 rfl ?_
  refine G_iconst (v := 0) C dX10_text_8 (by decide) ?_
  refine pf_X10_88 C dX10_text_9 (fun M7 eM7 => ?_)
  replace h := h M7 eM7
  refine G_aload_n C dX10_text_12 1 rfl ?_
  refine G_callV (As := []) (rest := []) C dX10_text_13 lk_X10_44 (Nat.le_of_ble_eq_true rfl) (Nat.le_of_ble_eq_true rfl) q128 (by decide) rfl (Nat.le_of_ble_eq_true rfl) rfl (S_X10_firstDraft h) (fun M8 h => ?_)
  refine G_aload_n C dX10_text_16 1 rfl ?_
  refine G_callV (As := []) (rest := []) C dX10_text_17 lk_X10_128 (Nat.le_of_ble_eq_true rfl) (Nat.le_of_ble_eq_true rfl) q128 (by decide) rfl (Nat.le_of_ble_eq_true rfl) rfl (S_X10_takes h) (fun M9 h => ?_)
  refine G_sub [1, 0] (lv' := [(0, .ref (adr ω 128)), (1, .int 0)]) rfl ?_
  obtain ⟨f, h⟩ := h
  exact s_X10_text_L20 C R  f _ _ h
theorem dX10_fault_0 : decode cX10_fault 0 = .ok (.aload_n 0, 1) := by decide +kernel
theorem dX10_fault_1 : decode cX10_fault 1 = .ok (.getfield 79, 3) := by decide +kernel
theorem dX10_fault_4 : decode cX10_fault 4 = .ok (.ireturn, 1) := by decide +kernel
set_option maxRecDepth 100000 in
set_option maxHeartbeats 4000000 in
theorem S_X10_fault {ω : WD} {M : Mem} {post : Int32 → Mem → Prop} (h : w_X10_fault M post) : MtI ω yX10_fault cX10_fault 1 (some .int) 0 [.ref (adr ω 128)] M post := by
  refine MtI.start (ty := .int) rfl (by decide +kernel) (own := RX10) rfl (Nat.le_of_ble_eq_true rfl) (fun ρ C R => ?_)
  show G ω ρ M 0 [(0, .ref (adr ω 128))] []
  refine G_aload_n C dX10_fault_0 0 rfl ?_
  refine gf_X10_79 C dX10_fault_1 ?_
  exact R 4 _ _ _ dX10_fault_4 rfl h
theorem dX10_isOne_0 : decode cX10_isOne 0 = .ok (.iload_n 1, 1) := by decide +kernel
theorem dX10_isOne_1 : decode cX10_isOne 1 = .ok (.i2l, 1) := by decide +kernel
theorem dX10_isOne_2 : decode cX10_isOne 2 = .ok (.lconst 0, 1) := by decide +kernel
theorem dX10_isOne_3 : decode cX10_isOne 3 = .ok (.aload_n 0, 1) := by decide +kernel
theorem dX10_isOne_4 : decode cX10_isOne 4 = .ok (.getfield 7, 3) := by decide +kernel
theorem dX10_isOne_7 : decode cX10_isOne 7 = .ok (.bipush 24, 2) := by decide +kernel
theorem dX10_isOne_9 : decode cX10_isOne 9 = .ok (.iaload, 1) := by decide +kernel
theorem dX10_isOne_10 : decode cX10_isOne 10 = .ok (.iconst 1, 1) := by decide +kernel
theorem dX10_isOne_11 : decode cX10_isOne 11 = .ok (.isub, 1) := by decide +kernel
theorem dX10_isOne_12 : decode cX10_isOne 12 = .ok (.i2l, 1) := by decide +kernel
theorem dX10_isOne_13 : decode cX10_isOne 13 = .ok (.invokestatic 52, 3) := by decide +kernel
theorem dX10_isOne_16 : decode cX10_isOne 16 = .ok (.ireturn, 1) := by decide +kernel
set_option maxRecDepth 100000 in
set_option maxHeartbeats 4000000 in
theorem S_X10_isOne {ω : WD} {l1 : Int32} {M : Mem} {post : Int32 → Mem → Prop} (h : w_X10_isOne l1 M post) : MtI ω yX10_isOne cX10_isOne 2 (some .boolean) 1 [.ref (adr ω 128), .int l1] M post := by
  refine MtI.start (ty := .boolean) rfl (by decide +kernel) (own := RX10) rfl (Nat.le_of_ble_eq_true rfl) (fun ρ C R => ?_)
  show G ω ρ M 0 [(0, .ref (adr ω 128)), (1, .int l1)] []
  refine G_iload_n C dX10_isOne_0 1 rfl ?_
  refine G_i2l C dX10_isOne_1 ?_
  refine G_lconst (v := 0) C dX10_isOne_2 (by decide) ?_
  refine G_aload_n C dX10_isOne_3 0 rfl ?_
  refine gf_X10_7 C dX10_isOne_4 ?_
  refine G_bipush (v := 24) C dX10_isOne_7 (by decide) ?_
  refine G_iald C q129 (vp_lit rfl) (kk := 24) (by decide +kernel) dX10_isOne_9 ?_
  refine G_iconst (v := 1) C dX10_isOne_10 (by decide) ?_
  refine G_isub C dX10_isOne_11 ?_
  refine G_i2l C dX10_isOne_12 ?_
  refine G_scallI (As := [.long ((l1).toInt64), .long 0, .long ((((rd M 129 24) - 1)).toInt64)]) (rest := []) C dX10_isOne_13 lk_X10_52 (Nat.le_of_ble_eq_true rfl) (Nat.le_of_ble_eq_true rfl) (Nat.le_of_ble_eq_true rfl) rfl (S_X10_in h) (fun r2 M1 h => ?_)
  exact R 16 _ _ _ dX10_isOne_16 h.1.1 h.2
theorem dX10_isGroup_0 : decode cX10_isGroup 0 = .ok (.iload_n 0, 1) := by decide +kernel
theorem dX10_isGroup_1 : decode cX10_isGroup 1 = .ok (.i2l, 1) := by decide +kernel
theorem dX10_isGroup_2 : decode cX10_isGroup 2 = .ok (.lconst 0, 1) := by decide +kernel
theorem dX10_isGroup_3 : decode cX10_isGroup 3 = .ok (.ldc2_w 50, 3) := by decide +kernel
theorem dX10_isGroup_6 : decode cX10_isGroup 6 = .ok (.invokestatic 52, 3) := by decide +kernel
theorem dX10_isGroup_9 : decode cX10_isGroup 9 = .ok (.ireturn, 1) := by decide +kernel
set_option maxRecDepth 100000 in
set_option maxHeartbeats 4000000 in
theorem S_X10_isGroup {ω : WD} {l0 : Int32} {M : Mem} {post : Int32 → Mem → Prop} (h : w_X10_isGroup l0 M post) : MtI ω yX10_isGroup cX10_isGroup 1 (some .boolean) 1 [.int l0] M post := by
  refine MtI.start (ty := .boolean) rfl (by decide +kernel) (own := RX10) rfl (Nat.le_of_ble_eq_true rfl) (fun ρ C R => ?_)
  show G ω ρ M 0 [(0, .int l0)] []
  refine G_iload_n C dX10_isGroup_0 0 rfl ?_
  refine G_i2l C dX10_isGroup_1 ?_
  refine G_lconst (v := 0) C dX10_isGroup_2 (by decide) ?_
  refine G_ldc2 (v := 4) C dX10_isGroup_3 (tb_of 1129 ⟨by decide +kernel, rfl⟩) ?_
  refine G_scallI (As := [.long ((l0).toInt64), .long 0, .long 4]) (rest := []) C dX10_isGroup_6 lk_X10_52 (Nat.le_of_ble_eq_true rfl) (Nat.le_of_ble_eq_true rfl) (Nat.le_of_ble_eq_true rfl) rfl (S_X10_in h) (fun r2 M1 h => ?_)
  exact R 9 _ _ _ dX10_isGroup_9 h.1.1 h.2
theorem dX10_isPart_0 : decode cX10_isPart 0 = .ok (.iload_n 0, 1) := by decide +kernel
theorem dX10_isPart_1 : decode cX10_isPart 1 = .ok (.i2l, 1) := by decide +kernel
theorem dX10_isPart_2 : decode cX10_isPart 2 = .ok (.lconst 0, 1) := by decide +kernel
theorem dX10_isPart_3 : decode cX10_isPart 3 = .ok (.lconst 1, 1) := by decide +kernel
theorem dX10_isPart_4 : decode cX10_isPart 4 = .ok (.invokestatic 52, 3) := by decide +kernel
theorem dX10_isPart_7 : decode cX10_isPart 7 = .ok (.ireturn, 1) := by decide +kernel
set_option maxRecDepth 100000 in
set_option maxHeartbeats 4000000 in
theorem S_X10_isPart {ω : WD} {l0 : Int32} {M : Mem} {post : Int32 → Mem → Prop} (h : w_X10_isPart l0 M post) : MtI ω yX10_isPart cX10_isPart 1 (some .boolean) 1 [.int l0] M post := by
  refine MtI.start (ty := .boolean) rfl (by decide +kernel) (own := RX10) rfl (Nat.le_of_ble_eq_true rfl) (fun ρ C R => ?_)
  show G ω ρ M 0 [(0, .int l0)] []
  refine G_iload_n C dX10_isPart_0 0 rfl ?_
  refine G_i2l C dX10_isPart_1 ?_
  refine G_lconst (v := 0) C dX10_isPart_2 (by decide) ?_
  refine G_lconst (v := 1) C dX10_isPart_3 (by decide) ?_
  refine G_scallI (As := [.long ((l0).toInt64), .long 0, .long 1]) (rest := []) C dX10_isPart_4 lk_X10_52 (Nat.le_of_ble_eq_true rfl) (Nat.le_of_ble_eq_true rfl) (Nat.le_of_ble_eq_true rfl) rfl (S_X10_in h) (fun r2 M1 h => ?_)
  exact R 7 _ _ _ dX10_isPart_7 h.1.1 h.2
theorem dX10_starts_0 : decode cX10_starts 0 = .ok (.iconst 0, 1) := by decide +kernel
theorem dX10_starts_1 : decode cX10_starts 1 = .ok (.istore_n 1, 1) := by decide +kernel
theorem dX10_starts_2 : decode cX10_starts 2 = .ok (.iload_n 1, 1) := by decide +kernel
theorem dX10_starts_3 : decode cX10_starts 3 = .ok (.bipush 96, 2) := by decide +kernel
theorem dX10_starts_5 : decode cX10_starts 5 = .ok (.if_icmp .ge 21, 3) := by decide +kernel
theorem dX10_starts_8 : decode cX10_starts 8 = .ok (.aload_n 0, 1) := by decide +kernel
theorem dX10_starts_9 : decode cX10_starts 9 = .ok (.getfield 13, 3) := by decide +kernel
theorem dX10_starts_12 : decode cX10_starts 12 = .ok (.iload_n 1, 1) := by decide +kernel
theorem dX10_starts_13 : decode cX10_starts 13 = .ok (.aload_n 0, 1) := by decide +kernel
theorem dX10_starts_14 : decode cX10_starts 14 = .ok (.getfield 7, 3) := by decide +kernel
theorem dX10_starts_17 : decode cX10_starts 17 = .ok (.iload_n 1, 1) := by decide +kernel
theorem dX10_starts_18 : decode cX10_starts 18 = .ok (.iaload, 1) := by decide +kernel
theorem dX10_starts_19 : decode cX10_starts 19 = .ok (.iastore, 1) := by decide +kernel
theorem dX10_starts_20 : decode cX10_starts 20 = .ok (.iinc 1 1, 3) := by decide +kernel
theorem dX10_starts_23 : decode cX10_starts 23 = .ok (.goto (-21), 3) := by decide +kernel
theorem dX10_starts_26 : decode cX10_starts 26 = .ok (.return_, 1) := by decide +kernel
theorem gf_X10_13 {ω : WD} {ρ : FR} {M : Mem} {cc : ByteArray} {d n pc : Nat} {lv : List (Nat × Value)} {rest : List Value} (C : Cx ω ρ cc RX10 d n) (hd : decode cc pc = .ok (.getfield 13, 3)) (k : G ω ρ M (pc + 3) lv (.ref (adr ω 130) :: rest)) : G ω ρ M pc lv (.ref (adr ω 128) :: rest) := G_get (N := 28) (T := TX10) (C := RX10) (q := 1) C (q128 : isK 10 128) (by decide) rfl in_X10 (by decide) (tb_of 977 ⟨by decide +kernel, rfl⟩) rfl rfl hd k
set_option maxRecDepth 100000 in
set_option maxHeartbeats 4000000 in
theorem s_X10_starts_L2 {ω : WD} {ρ : FR} {post : Mem → Prop} (C : Cx ω ρ cX10_starts RX10 0 2) (R : RtV ω ρ cX10_starts post) : ∀ (f : Nat) (l1 : Int32) (M : Mem), w_X10_starts_L2 post f l1 M → G ω ρ M 2 [(0, .ref (adr ω 128)), (1, .int l1)] [] := by
  intro f
  induction f with
  | zero => intro l1 M h; exact False.elim h
  | succ f k2 =>
    intro l1 M h
    refine G_iload_n C dX10_starts_2 1 rfl ?_
    refine G_bipush (v := 96) C dX10_starts_3 (by decide) ?_
    obtain ⟨h1, h2⟩ := h
    refine G_icmp_ge (tgt := 26) C dX10_starts_5 (by decide) (fun c => ?_) (fun c => ?_)
    · have h := h1 c
      clear h1 h2
      exact R 26 _ _ dX10_starts_26 h
    · have h := h2 c
      clear h1 h2
      refine G_aload_n C dX10_starts_8 0 rfl ?_
      refine gf_X10_13 C dX10_starts_9 ?_
      refine G_iload_n C dX10_starts_12 1 rfl ?_
      refine G_aload_n C dX10_starts_13 0 rfl ?_
      refine gf_X10_7 C dX10_starts_14 ?_
      refine G_iload_n C dX10_starts_17 1 rfl ?_
      obtain ⟨hi, h⟩ := h
      refine G_iald C q129 hi rfl dX10_starts_18 ?_
      obtain ⟨hi, h⟩ := h
      refine G_iast C q130 hi rfl dX10_starts_19 (G_mname (fun M1 eM1 => ?_))
      replace h := h M1 eM1
      obtain ⟨v2, ev2⟩ : ∃ y : Int32, y = (l1 + 1) := ⟨_, rfl⟩
      replace h := h v2 ev2
      refine G_iinc C dX10_starts_20 1 rfl (v := v2) (by rw [ev2]; rfl) (by decide) (lv' := [(1, .int v2), (0, .ref (adr ω 128))]) rfl ?_
      refine G_goto (tgt := 2) C dX10_starts_23 (by decide) ?_
      refine G_sub [1, 0] (lv' := [(0, .ref (adr ω 128)), (1, .int v2)]) rfl ?_
      exact k2 _ _ h
set_option maxRecDepth 100000 in
set_option maxHeartbeats 4000000 in
theorem S_X10_starts {ω : WD} {M : Mem} {post : Mem → Prop} (h : w_X10_starts M post) : MtV ω yX10_starts cX10_starts 2 none 0 [.ref (adr ω 128)] M post := by
  refine MtV.start rfl (by decide +kernel) (own := RX10) rfl (Nat.le_of_ble_eq_true rfl) (fun ρ C R => ?_)
  show G ω ρ M 0 [(0, .ref (adr ω 128))] []
  refine G_iconst (v := 0) C dX10_starts_0 (by decide) ?_
  refine G_istore_n C dX10_starts_1 (by decide) (lv' := [(1, .int 0), (0, .ref (adr ω 128))]) rfl ?_
  refine G_sub [1, 0] (lv' := [(0, .ref (adr ω 128)), (1, .int 0)]) rfl ?_
  obtain ⟨f, h⟩ := h
  exact s_X10_starts_L2 C R  f _ _ h
theorem dX10_settles_0 : decode cX10_settles 0 = .ok (.iconst 0, 1) := by decide +kernel
theorem dX10_settles_1 : decode cX10_settles 1 = .ok (.istore_n 1, 1) := by decide +kernel
theorem dX10_settles_2 : decode cX10_settles 2 = .ok (.iload_n 1, 1) := by decide +kernel
theorem dX10_settles_3 : decode cX10_settles 3 = .ok (.bipush 96, 2) := by decide +kernel
theorem dX10_settles_5 : decode cX10_settles 5 = .ok (.if_icmp .ge 21, 3) := by decide +kernel
theorem dX10_settles_8 : decode cX10_settles 8 = .ok (.aload_n 0, 1) := by decide +kernel
theorem dX10_settles_9 : decode cX10_settles 9 = .ok (.getfield 7, 3) := by decide +kernel
theorem dX10_settles_12 : decode cX10_settles 12 = .ok (.iload_n 1, 1) := by decide +kernel
theorem dX10_settles_13 : decode cX10_settles 13 = .ok (.aload_n 0, 1) := by decide +kernel
theorem dX10_settles_14 : decode cX10_settles 14 = .ok (.getfield 13, 3) := by decide +kernel
theorem dX10_settles_17 : decode cX10_settles 17 = .ok (.iload_n 1, 1) := by decide +kernel
theorem dX10_settles_18 : decode cX10_settles 18 = .ok (.iaload, 1) := by decide +kernel
theorem dX10_settles_19 : decode cX10_settles 19 = .ok (.iastore, 1) := by decide +kernel
theorem dX10_settles_20 : decode cX10_settles 20 = .ok (.iinc 1 1, 3) := by decide +kernel
theorem dX10_settles_23 : decode cX10_settles 23 = .ok (.goto (-21), 3) := by decide +kernel
theorem dX10_settles_26 : decode cX10_settles 26 = .ok (.return_, 1) := by decide +kernel
set_option maxRecDepth 100000 in
set_option maxHeartbeats 4000000 in
theorem s_X10_settles_L2 {ω : WD} {ρ : FR} {post : Mem → Prop} (C : Cx ω ρ cX10_settles RX10 0 2) (R : RtV ω ρ cX10_settles post) : ∀ (f : Nat) (l1 : Int32) (M : Mem), w_X10_settles_L2 post f l1 M → G ω ρ M 2 [(0, .ref (adr ω 128)), (1, .int l1)] [] := by
  intro f
  induction f with
  | zero => intro l1 M h; exact False.elim h
  | succ f k2 =>
    intro l1 M h
    refine G_iload_n C dX10_settles_2 1 rfl ?_
    refine G_bipush (v := 96) C dX10_settles_3 (by decide) ?_
    obtain ⟨h1, h2⟩ := h
    refine G_icmp_ge (tgt := 26) C dX10_settles_5 (by decide) (fun c => ?_) (fun c => ?_)
    · have h := h1 c
      clear h1 h2
      exact R 26 _ _ dX10_settles_26 h
    · have h := h2 c
      clear h1 h2
      refine G_aload_n C dX10_settles_8 0 rfl ?_
      refine gf_X10_7 C dX10_settles_9 ?_
      refine G_iload_n C dX10_settles_12 1 rfl ?_
      refine G_aload_n C dX10_settles_13 0 rfl ?_
      refine gf_X10_13 C dX10_settles_14 ?_
      refine G_iload_n C dX10_settles_17 1 rfl ?_
      obtain ⟨hi, h⟩ := h
      refine G_iald C q130 hi rfl dX10_settles_18 ?_
      obtain ⟨hi, h⟩ := h
      refine G_iast C q129 hi rfl dX10_settles_19 (G_mname (fun M1 eM1 => ?_))
      replace h := h M1 eM1
      obtain ⟨v2, ev2⟩ : ∃ y : Int32, y = (l1 + 1) := ⟨_, rfl⟩
      replace h := h v2 ev2
      refine G_iinc C dX10_settles_20 1 rfl (v := v2) (by rw [ev2]; rfl) (by decide) (lv' := [(1, .int v2), (0, .ref (adr ω 128))]) rfl ?_
      refine G_goto (tgt := 2) C dX10_settles_23 (by decide) ?_
      refine G_sub [1, 0] (lv' := [(0, .ref (adr ω 128)), (1, .int v2)]) rfl ?_
      exact k2 _ _ h
set_option maxRecDepth 100000 in
set_option maxHeartbeats 4000000 in
theorem S_X10_settles {ω : WD} {M : Mem} {post : Mem → Prop} (h : w_X10_settles M post) : MtV ω yX10_settles cX10_settles 2 none 0 [.ref (adr ω 128)] M post := by
  refine MtV.start rfl (by decide +kernel) (own := RX10) rfl (Nat.le_of_ble_eq_true rfl) (fun ρ C R => ?_)
  show G ω ρ M 0 [(0, .ref (adr ω 128))] []
  refine G_iconst (v := 0) C dX10_settles_0 (by decide) ?_
  refine G_istore_n C dX10_settles_1 (by decide) (lv' := [(1, .int 0), (0, .ref (adr ω 128))]) rfl ?_
  refine G_sub [1, 0] (lv' := [(0, .ref (adr ω 128)), (1, .int 0)]) rfl ?_
  obtain ⟨f, h⟩ := h
  exact s_X10_settles_L2 C R  f _ _ h
theorem dX10_of_0 : decode cX10_of 0 = .ok (.aload_n 0, 1) := by decide +kernel
theorem dX10_of_1 : decode cX10_of 1 = .ok (.getfield 13, 3) := by decide +kernel
theorem dX10_of_4 : decode cX10_of 4 = .ok (.iconst 4, 1) := by decide +kernel
theorem dX10_of_5 : decode cX10_of 5 = .ok (.iload_n 1, 1) := by decide +kernel
theorem dX10_of_6 : decode cX10_of 6 = .ok (.imul, 1) := by decide +kernel
theorem dX10_of_7 : decode cX10_of 7 = .ok (.iload_n 2, 1) := by decide +kernel
theorem dX10_of_8 : decode cX10_of 8 = .ok (.iadd, 1) := by decide +kernel
theorem dX10_of_9 : decode cX10_of 9 = .ok (.iaload, 1) := by decide +kernel
theorem dX10_of_10 : decode cX10_of 10 = .ok (.ireturn, 1) := by decide +kernel
set_option maxRecDepth 100000 in
set_option maxHeartbeats 4000000 in
theorem S_X10_of {ω : WD} {l1 : Int32} {l2 : Int32} {M : Mem} {post : Int32 → Mem → Prop} (h : w_X10_of l1 l2 M post) : MtI ω yX10_of cX10_of 3 (some .int) 0 [.ref (adr ω 128), .int l1, .int l2] M post := by
  refine MtI.start (ty := .int) rfl (by decide +kernel) (own := RX10) rfl (Nat.le_of_ble_eq_true rfl) (fun ρ C R => ?_)
  show G ω ρ M 0 [(0, .ref (adr ω 128)), (1, .int l1), (2, .int l2)] []
  refine G_aload_n C dX10_of_0 0 rfl ?_
  refine gf_X10_13 C dX10_of_1 ?_
  refine G_iconst (v := 4) C dX10_of_4 (by decide) ?_
  refine G_iload_n C dX10_of_5 1 rfl ?_
  refine G_imul C dX10_of_6 ?_
  refine G_iload_n C dX10_of_7 2 rfl ?_
  refine G_iadd C dX10_of_8 ?_
  obtain ⟨hi, h⟩ := h
  refine G_iald C q130 hi rfl dX10_of_9 ?_
  exact R 10 _ _ _ dX10_of_10 rfl h
theorem dX10_becomesOf_0 : decode cX10_becomesOf 0 = .ok (.aload_n 0, 1) := by decide +kernel
theorem dX10_becomesOf_1 : decode cX10_becomesOf 1 = .ok (.getfield 13, 3) := by decide +kernel
theorem dX10_becomesOf_4 : decode cX10_becomesOf 4 = .ok (.iconst 4, 1) := by decide +kernel
theorem dX10_becomesOf_5 : decode cX10_becomesOf 5 = .ok (.iload_n 1, 1) := by decide +kernel
theorem dX10_becomesOf_6 : decode cX10_becomesOf 6 = .ok (.imul, 1) := by decide +kernel
theorem dX10_becomesOf_7 : decode cX10_becomesOf 7 = .ok (.iload_n 2, 1) := by decide +kernel
theorem dX10_becomesOf_8 : decode cX10_becomesOf 8 = .ok (.iadd, 1) := by decide +kernel
theorem dX10_becomesOf_9 : decode cX10_becomesOf 9 = .ok (.iload_n 3, 1) := by decide +kernel
theorem dX10_becomesOf_10 : decode cX10_becomesOf 10 = .ok (.iastore, 1) := by decide +kernel
theorem dX10_becomesOf_11 : decode cX10_becomesOf 11 = .ok (.return_, 1) := by decide +kernel
set_option maxRecDepth 100000 in
set_option maxHeartbeats 4000000 in
theorem S_X10_becomesOf {ω : WD} {l1 : Int32} {l2 : Int32} {l3 : Int32} {M : Mem} {post : Mem → Prop} (h : w_X10_becomesOf l1 l2 l3 M post) : MtV ω yX10_becomesOf cX10_becomesOf 4 none 0 [.ref (adr ω 128), .int l1, .int l2, .int l3] M post := by
  refine MtV.start rfl (by decide +kernel) (own := RX10) rfl (Nat.le_of_ble_eq_true rfl) (fun ρ C R => ?_)
  show G ω ρ M 0 [(0, .ref (adr ω 128)), (1, .int l1), (2, .int l2), (3, .int l3)] []
  refine G_aload_n C dX10_becomesOf_0 0 rfl ?_
  refine gf_X10_13 C dX10_becomesOf_1 ?_
  refine G_iconst (v := 4) C dX10_becomesOf_4 (by decide) ?_
  refine G_iload_n C dX10_becomesOf_5 1 rfl ?_
  refine G_imul C dX10_becomesOf_6 ?_
  refine G_iload_n C dX10_becomesOf_7 2 rfl ?_
  refine G_iadd C dX10_becomesOf_8 ?_
  refine G_iload_n C dX10_becomesOf_9 3 rfl ?_
  obtain ⟨hi, h⟩ := h
  refine G_iast C q130 hi rfl dX10_becomesOf_10 (G_mname (fun M1 eM1 => ?_))
  replace h := h M1 eM1
  exact R 11 _ _ dX10_becomesOf_11 h
theorem dX10_ofGroup_0 : decode cX10_ofGroup 0 = .ok (.aload_n 0, 1) := by decide +kernel
theorem dX10_ofGroup_1 : decode cX10_ofGroup 1 = .ok (.getfield 13, 3) := by decide +kernel
theorem dX10_ofGroup_4 : decode cX10_ofGroup 4 = .ok (.bipush 26, 2) := by decide +kernel
theorem dX10_ofGroup_6 : decode cX10_ofGroup 6 = .ok (.iconst 4, 1) := by decide +kernel
theorem dX10_ofGroup_7 : decode cX10_ofGroup 7 = .ok (.iload_n 1, 1) := by decide +kernel
theorem dX10_ofGroup_8 : decode cX10_ofGroup 8 = .ok (.imul, 1) := by decide +kernel
theorem dX10_ofGroup_9 : decode cX10_ofGroup 9 = .ok (.iadd, 1) := by decide +kernel
theorem dX10_ofGroup_10 : decode cX10_ofGroup 10 = .ok (.iload_n 2, 1) := by decide +kernel
theorem dX10_ofGroup_11 : decode cX10_ofGroup 11 = .ok (.iadd, 1) := by decide +kernel
theorem dX10_ofGroup_12 : decode cX10_ofGroup 12 = .ok (.iaload, 1) := by decide +kernel
theorem dX10_ofGroup_13 : decode cX10_ofGroup 13 = .ok (.ireturn, 1) := by decide +kernel
set_option maxRecDepth 100000 in
set_option maxHeartbeats 4000000 in
theorem S_X10_ofGroup {ω : WD} {l1 : Int32} {l2 : Int32} {M : Mem} {post : Int32 → Mem → Prop} (h : w_X10_ofGroup l1 l2 M post) : MtI ω yX10_ofGroup cX10_ofGroup 3 (some .int) 0 [.ref (adr ω 128), .int l1, .int l2] M post := by
  refine MtI.start (ty := .int) rfl (by decide +kernel) (own := RX10) rfl (Nat.le_of_ble_eq_true rfl) (fun ρ C R => ?_)
  show G ω ρ M 0 [(0, .ref (adr ω 128)), (1, .int l1), (2, .int l2)] []
  refine G_aload_n C dX10_ofGroup_0 0 rfl ?_
  refine gf_X10_13 C dX10_ofGroup_1 ?_
  refine G_bipush (v := 26) C dX10_ofGroup_4 (by decide) ?_
  refine G_iconst (v := 4) C dX10_ofGroup_6 (by decide) ?_
  refine G_iload_n C dX10_ofGroup_7 1 rfl ?_
  refine G_imul C dX10_ofGroup_8 ?_
  refine G_iadd C dX10_ofGroup_9 ?_
  refine G_iload_n C dX10_ofGroup_10 2 rfl ?_
  refine G_iadd C dX10_ofGroup_11 ?_
  obtain ⟨hi, h⟩ := h
  refine G_iald C q130 hi rfl dX10_ofGroup_12 ?_
  exact R 13 _ _ _ dX10_ofGroup_13 rfl h
theorem dX10_becomesOfGroup_0 : decode cX10_becomesOfGroup 0 = .ok (.aload_n 0, 1) := by decide +kernel
theorem dX10_becomesOfGroup_1 : decode cX10_becomesOfGroup 1 = .ok (.getfield 13, 3) := by decide +kernel
theorem dX10_becomesOfGroup_4 : decode cX10_becomesOfGroup 4 = .ok (.bipush 26, 2) := by decide +kernel
theorem dX10_becomesOfGroup_6 : decode cX10_becomesOfGroup 6 = .ok (.iconst 4, 1) := by decide +kernel
theorem dX10_becomesOfGroup_7 : decode cX10_becomesOfGroup 7 = .ok (.iload_n 1, 1) := by decide +kernel
theorem dX10_becomesOfGroup_8 : decode cX10_becomesOfGroup 8 = .ok (.imul, 1) := by decide +kernel
theorem dX10_becomesOfGroup_9 : decode cX10_becomesOfGroup 9 = .ok (.iadd, 1) := by decide +kernel
theorem dX10_becomesOfGroup_10 : decode cX10_becomesOfGroup 10 = .ok (.iload_n 2, 1) := by decide +kernel
theorem dX10_becomesOfGroup_11 : decode cX10_becomesOfGroup 11 = .ok (.iadd, 1) := by decide +kernel
theorem dX10_becomesOfGroup_12 : decode cX10_becomesOfGroup 12 = .ok (.iload_n 3, 1) := by decide +kernel
theorem dX10_becomesOfGroup_13 : decode cX10_becomesOfGroup 13 = .ok (.iastore, 1) := by decide +kernel
theorem dX10_becomesOfGroup_14 : decode cX10_becomesOfGroup 14 = .ok (.return_, 1) := by decide +kernel
set_option maxRecDepth 100000 in
set_option maxHeartbeats 4000000 in
theorem S_X10_becomesOfGroup {ω : WD} {l1 : Int32} {l2 : Int32} {l3 : Int32} {M : Mem} {post : Mem → Prop} (h : w_X10_becomesOfGroup l1 l2 l3 M post) : MtV ω yX10_becomesOfGroup cX10_becomesOfGroup 4 none 0 [.ref (adr ω 128), .int l1, .int l2, .int l3] M post := by
  refine MtV.start rfl (by decide +kernel) (own := RX10) rfl (Nat.le_of_ble_eq_true rfl) (fun ρ C R => ?_)
  show G ω ρ M 0 [(0, .ref (adr ω 128)), (1, .int l1), (2, .int l2), (3, .int l3)] []
  refine G_aload_n C dX10_becomesOfGroup_0 0 rfl ?_
  refine gf_X10_13 C dX10_becomesOfGroup_1 ?_
  refine G_bipush (v := 26) C dX10_becomesOfGroup_4 (by decide) ?_
  refine G_iconst (v := 4) C dX10_becomesOfGroup_6 (by decide) ?_
  refine G_iload_n C dX10_becomesOfGroup_7 1 rfl ?_
  refine G_imul C dX10_becomesOfGroup_8 ?_
  refine G_iadd C dX10_becomesOfGroup_9 ?_
  refine G_iload_n C dX10_becomesOfGroup_10 2 rfl ?_
  refine G_iadd C dX10_becomesOfGroup_11 ?_
  refine G_iload_n C dX10_becomesOfGroup_12 3 rfl ?_
  obtain ⟨hi, h⟩ := h
  refine G_iast C q130 hi rfl dX10_becomesOfGroup_13 (G_mname (fun M1 eM1 => ?_))
  replace h := h M1 eM1
  exact R 14 _ _ dX10_becomesOfGroup_14 h
theorem dX10_usesOf_0 : decode cX10_usesOf 0 = .ok (.aload_n 0, 1) := by decide +kernel
theorem dX10_usesOf_1 : decode cX10_usesOf 1 = .ok (.getfield 13, 3) := by decide +kernel
theorem dX10_usesOf_4 : decode cX10_usesOf 4 = .ok (.bipush 46, 2) := by decide +kernel
theorem dX10_usesOf_6 : decode cX10_usesOf 6 = .ok (.iconst 4, 1) := by decide +kernel
theorem dX10_usesOf_7 : decode cX10_usesOf 7 = .ok (.iload_n 1, 1) := by decide +kernel
theorem dX10_usesOf_8 : decode cX10_usesOf 8 = .ok (.imul, 1) := by decide +kernel
theorem dX10_usesOf_9 : decode cX10_usesOf 9 = .ok (.iadd, 1) := by decide +kernel
theorem dX10_usesOf_10 : decode cX10_usesOf 10 = .ok (.iload_n 2, 1) := by decide +kernel
theorem dX10_usesOf_11 : decode cX10_usesOf 11 = .ok (.iadd, 1) := by decide +kernel
theorem dX10_usesOf_12 : decode cX10_usesOf 12 = .ok (.iaload, 1) := by decide +kernel
theorem dX10_usesOf_13 : decode cX10_usesOf 13 = .ok (.ireturn, 1) := by decide +kernel
set_option maxRecDepth 100000 in
set_option maxHeartbeats 4000000 in
theorem S_X10_usesOf {ω : WD} {l1 : Int32} {l2 : Int32} {M : Mem} {post : Int32 → Mem → Prop} (h : w_X10_usesOf l1 l2 M post) : MtI ω yX10_usesOf cX10_usesOf 3 (some .int) 0 [.ref (adr ω 128), .int l1, .int l2] M post := by
  refine MtI.start (ty := .int) rfl (by decide +kernel) (own := RX10) rfl (Nat.le_of_ble_eq_true rfl) (fun ρ C R => ?_)
  show G ω ρ M 0 [(0, .ref (adr ω 128)), (1, .int l1), (2, .int l2)] []
  refine G_aload_n C dX10_usesOf_0 0 rfl ?_
  refine gf_X10_13 C dX10_usesOf_1 ?_
  refine G_bipush (v := 46) C dX10_usesOf_4 (by decide) ?_
  refine G_iconst (v := 4) C dX10_usesOf_6 (by decide) ?_
  refine G_iload_n C dX10_usesOf_7 1 rfl ?_
  refine G_imul C dX10_usesOf_8 ?_
  refine G_iadd C dX10_usesOf_9 ?_
  refine G_iload_n C dX10_usesOf_10 2 rfl ?_
  refine G_iadd C dX10_usesOf_11 ?_
  obtain ⟨hi, h⟩ := h
  refine G_iald C q130 hi rfl dX10_usesOf_12 ?_
  exact R 13 _ _ _ dX10_usesOf_13 rfl h
theorem dX10_callsNow_0 : decode cX10_callsNow 0 = .ok (.iconst 0, 1) := by decide +kernel
theorem dX10_callsNow_1 : decode cX10_callsNow 1 = .ok (.istore_n 1, 1) := by decide +kernel
theorem dX10_callsNow_2 : decode cX10_callsNow 2 = .ok (.iconst 0, 1) := by decide +kernel
theorem dX10_callsNow_3 : decode cX10_callsNow 3 = .ok (.istore_n 2, 1) := by decide +kernel
theorem dX10_callsNow_4 : decode cX10_callsNow 4 = .ok (.iload_n 2, 1) := by decide +kernel
theorem dX10_callsNow_5 : decode cX10_callsNow 5 = .ok (.aload_n 0, 1) := by decide +kernel
theorem dX10_callsNow_6 : decode cX10_callsNow 6 = .ok (.getfield 13, 3) := by decide +kernel
theorem dX10_callsNow_9 : decode cX10_callsNow 9 = .ok (.bipush 24, 2) := by decide +kernel
theorem dX10_callsNow_11 : decode cX10_callsNow 11 = .ok (.iaload, 1) := by decide +kernel
theorem dX10_callsNow_12 : decode cX10_callsNow 12 = .ok (.if_icmp .ge 30, 3) := by decide +kernel
theorem dX10_callsNow_15 : decode cX10_callsNow 15 = .ok (.iload_n 1, 1) := by decide +kernel
theorem dX10_callsNow_16 : decode cX10_callsNow 16 = .ok (.aload_n 0, 1) := by decide +kernel
theorem dX10_callsNow_17 : decode cX10_callsNow 17 = .ok (.iload_n 2, 1) := by decide +kernel
theorem dX10_callsNow_18 : decode cX10_callsNow 18 = .ok (.iconst 2, 1) := by decide +kernel
theorem dX10_callsNow_19 : decode cX10_callsNow 19 = .ok (.invokevirtual 157, 3) := by decide +kernel
theorem dX10_callsNow_22 : decode cX10_callsNow 22 = .ok (.iconst 1, 1) := by decide +kernel
theorem dX10_callsNow_23 : decode cX10_callsNow 23 = .ok (.if_icmp .ne 7, 3) := by decide +kernel
theorem dX10_callsNow_26 : decode cX10_callsNow 26 = .ok (.iconst 1, 1) := by decide +kernel
theorem dX10_callsNow_27 : decode cX10_callsNow 27 = .ok (.goto 4, 3) := by decide +kernel
theorem dX10_callsNow_30 : decode cX10_callsNow 30 = .ok (.iconst 0, 1) := by decide +kernel
theorem dX10_callsNow_31 : decode cX10_callsNow 31 = .ok (.invokestatic 160, 3) := by decide +kernel
theorem dX10_callsNow_34 : decode cX10_callsNow 34 = .ok (.iadd, 1) := by decide +kernel
theorem dX10_callsNow_35 : decode cX10_callsNow 35 = .ok (.istore_n 1, 1) := by decide +kernel
theorem dX10_callsNow_36 : decode cX10_callsNow 36 = .ok (.iinc 2 1, 3) := by decide +kernel
theorem dX10_callsNow_39 : decode cX10_callsNow 39 = .ok (.goto (-35), 3) := by decide +kernel
theorem dX10_callsNow_42 : decode cX10_callsNow 42 = .ok (.iload_n 1, 1) := by decide +kernel
theorem dX10_callsNow_43 : decode cX10_callsNow 43 = .ok (.ireturn, 1) := by decide +kernel
theorem lk_X10_160 : LkS RX10 160 yX10_flag cX10_flag 1 (some .int) 1 := LkS.of 1161 1162 71 1163 (by decide +kernel) (by decide +kernel) (by decide +kernel) (by decide +kernel) (by decide +kernel)
theorem lk_X10_157 : LkV RX10 157 RX10 yX10_of cX10_of 3 (some .int) 2 := LkV.of 1157 1159 30 71 1160 (by decide +kernel) (by decide +kernel) (by decide +kernel) (by decide +kernel) (by decide +kernel) (by decide +kernel)
set_option maxRecDepth 100000 in
set_option maxHeartbeats 4000000 in
theorem s_X10_callsNow_J31 {ω : WD} {ρ : FR} {post : Int32 → Mem → Prop} (C : Cx ω ρ cX10_callsNow RX10 1 3) (R : RtI ω ρ cX10_callsNow .int post) {K4 : Int32 → Int32 → Mem → Prop} {l2 : Int32} {s0 : Int32} {s1 : Int32} (k4 : ∀ (u1 : Int32) (u2 : Int32) (M : Mem), K4 u1 u2 M → G ω ρ M 4 [(0, .ref (adr ω 128)), (1, .int u1), (2, .int u2)] []) {M : Mem} (h : w_X10_callsNow_J31 post K4 l2 s0 s1 M) : G ω ρ M 31 [(0, .ref (adr ω 128)), (2, .int l2)] [.int s1, .int s0] := by
  refine G_scallI (As := [.int s1]) (rest := [.int s0]) C dX10_callsNow_31 lk_X10_160 (Nat.le_of_ble_eq_true rfl) (Nat.le_of_ble_eq_true rfl) (Nat.le_of_ble_eq_true rfl) rfl (S_X10_flag h) (fun r2 M1 h => ?_)
  refine G_iadd C dX10_callsNow_34 ?_
  refine G_iname (fun v3 ev3 => ?_)
  replace h := h v3 ev3
  refine G_istore_n C dX10_callsNow_35 (by decide) (lv' := [(1, .int v3), (0, .ref (adr ω 128)), (2, .int l2)]) rfl ?_
  obtain ⟨v4, ev4⟩ : ∃ y : Int32, y = (l2 + 1) := ⟨_, rfl⟩
  replace h := h v4 ev4
  refine G_iinc C dX10_callsNow_36 2 rfl (v := v4) (by rw [ev4]; rfl) (by decide) (lv' := [(2, .int v4), (1, .int v3), (0, .ref (adr ω 128))]) rfl ?_
  refine G_goto (tgt := 4) C dX10_callsNow_39 (by decide) ?_
  refine G_sub [2, 1, 0] (lv' := [(0, .ref (adr ω 128)), (1, .int v3), (2, .int v4)]) rfl ?_
  exact k4 _ _ _ h
set_option maxRecDepth 100000 in
set_option maxHeartbeats 4000000 in
theorem s_X10_callsNow_L4 {ω : WD} {ρ : FR} {post : Int32 → Mem → Prop} (C : Cx ω ρ cX10_callsNow RX10 1 3) (R : RtI ω ρ cX10_callsNow .int post) : ∀ (f : Nat) (l1 : Int32) (l2 : Int32) (M : Mem), w_X10_callsNow_L4 post f l1 l2 M → G ω ρ M 4 [(0, .ref (adr ω 128)), (1, .int l1), (2, .int l2)] [] := by
  intro f
  induction f with
  | zero => intro l1 l2 M h; exact False.elim h
  | succ f k4 =>
    intro l1 l2 M h
    refine G_iload_n C dX10_callsNow_4 2 rfl ?_
    refine G_aload_n C dX10_callsNow_5 0 rfl ?_
    refine gf_X10_13 C dX10_callsNow_6 ?_
    refine G_bipush (v := 24) C dX10_callsNow_9 (by decide) ?_
    refine G_iald C q130 (vp_lit rfl) (kk := 24) (by decide +kernel) dX10_callsNow_11 ?_
    obtain ⟨h1, h2⟩ := h
    refine G_icmp_ge (tgt := 42) C dX10_callsNow_12 (by decide) (fun c => ?_) (fun c => ?_)
    · have h := h1 c
      clear h1 h2
      refine G_iload_n C dX10_callsNow_42 1 rfl ?_
      exact R 43 _ _ _ dX10_callsNow_43 rfl h
    · have h := h2 c
      clear h1 h2
      refine G_iload_n C dX10_callsNow_15 1 rfl ?_
      refine G_aload_n C dX10_callsNow_16 0 rfl ?_
      refine G_iload_n C dX10_callsNow_17 2 rfl ?_
      refine G_iconst (v := 2) C dX10_callsNow_18 (by decide) ?_
      refine G_callI (As := [.int l2, .int 2]) (rest := [.int l1]) C dX10_callsNow_19 lk_X10_157 (Nat.le_of_ble_eq_true rfl) (Nat.le_of_ble_eq_true rfl) q128 (by decide) rfl (Nat.le_of_ble_eq_true rfl) rfl (S_X10_of h) (fun r6 M5 h => ?_)
      refine G_iconst (v := 1) C dX10_callsNow_22 (by decide) ?_
      obtain ⟨h1, h2⟩ := h
      refine G_icmp_ne (tgt := 30) C dX10_callsNow_23 (by decide) (fun c => ?_) (fun c => ?_)
      · have h := h1 c
        clear h1 h2
        refine G_iconst (v := 0) C dX10_callsNow_30 (by decide) ?_
        refine G_sub [0, 2] (lv' := [(0, .ref (adr ω 128)), (2, .int l2)]) rfl ?_
        exact s_X10_callsNow_J31 C R k4 h
      · have h := h2 c
        clear h1 h2
        refine G_iconst (v := 1) C dX10_callsNow_26 (by decide) ?_
        refine G_goto (tgt := 31) C dX10_callsNow_27 (by decide) ?_
        refine G_sub [0, 2] (lv' := [(0, .ref (adr ω 128)), (2, .int l2)]) rfl ?_
        exact s_X10_callsNow_J31 C R k4 h
set_option maxRecDepth 100000 in
set_option maxHeartbeats 4000000 in
theorem S_X10_callsNow {ω : WD} {M : Mem} {post : Int32 → Mem → Prop} (h : w_X10_callsNow M post) : MtI ω yX10_callsNow cX10_callsNow 3 (some .int) 1 [.ref (adr ω 128)] M post := by
  refine MtI.start (ty := .int) rfl (by decide +kernel) (own := RX10) rfl (Nat.le_of_ble_eq_true rfl) (fun ρ C R => ?_)
  show G ω ρ M 0 [(0, .ref (adr ω 128))] []
  refine G_iconst (v := 0) C dX10_callsNow_0 (by decide) ?_
  refine G_istore_n C dX10_callsNow_1 (by decide) (lv' := [(1, .int 0), (0, .ref (adr ω 128))]) rfl ?_
  refine G_iconst (v := 0) C dX10_callsNow_2 (by decide) ?_
  refine G_istore_n C dX10_callsNow_3 (by decide) (lv' := [(2, .int 0), (1, .int 0), (0, .ref (adr ω 128))]) rfl ?_
  refine G_sub [2, 1, 0] (lv' := [(0, .ref (adr ω 128)), (1, .int 0), (2, .int 0)]) rfl ?_
  obtain ⟨f, h⟩ := h
  exact s_X10_callsNow_L4 C R  f _ _ _ h
theorem dX10_held_0 : decode cX10_held 0 = .ok (.iconst 0, 1) := by decide +kernel
theorem dX10_held_1 : decode cX10_held 1 = .ok (.istore_n 2, 1) := by decide +kernel
theorem dX10_held_2 : decode cX10_held 2 = .ok (.iconst 0, 1) := by decide +kernel
theorem dX10_held_3 : decode cX10_held 3 = .ok (.istore_n 3, 1) := by decide +kernel
theorem dX10_held_4 : decode cX10_held 4 = .ok (.iload_n 3, 1) := by decide +kernel
theorem dX10_held_5 : decode cX10_held 5 = .ok (.aload_n 0, 1) := by decide +kernel
theorem dX10_held_6 : decode cX10_held 6 = .ok (.getfield 13, 3) := by decide +kernel
theorem dX10_held_9 : decode cX10_held 9 = .ok (.bipush 24, 2) := by decide +kernel
theorem dX10_held_11 : decode cX10_held 11 = .ok (.iaload, 1) := by decide +kernel
theorem dX10_held_12 : decode cX10_held 12 = .ok (.if_icmp .ge 50, 3) := by decide +kernel
theorem dX10_held_15 : decode cX10_held 15 = .ok (.aload_n 0, 1) := by decide +kernel
theorem dX10_held_16 : decode cX10_held 16 = .ok (.iload_n 3, 1) := by decide +kernel
theorem dX10_held_17 : decode cX10_held 17 = .ok (.iconst 3, 1) := by decide +kernel
theorem dX10_held_18 : decode cX10_held 18 = .ok (.invokevirtual 157, 3) := by decide +kernel
theorem dX10_held_21 : decode cX10_held 21 = .ok (.istore 4, 2) := by decide +kernel
theorem dX10_held_23 : decode cX10_held 23 = .ok (.iload_n 2, 1) := by decide +kernel
theorem dX10_held_24 : decode cX10_held 24 = .ok (.aload_n 0, 1) := by decide +kernel
theorem dX10_held_25 : decode cX10_held 25 = .ok (.iload_n 3, 1) := by decide +kernel
theorem dX10_held_26 : decode cX10_held 26 = .ok (.iconst 2, 1) := by decide +kernel
theorem dX10_held_27 : decode cX10_held 27 = .ok (.invokevirtual 157, 3) := by decide +kernel
theorem dX10_held_30 : decode cX10_held 30 = .ok (.iconst 1, 1) := by decide +kernel
theorem dX10_held_31 : decode cX10_held 31 = .ok (.if_icmp .ne 22, 3) := by decide +kernel
theorem dX10_held_34 : decode cX10_held 34 = .ok (.iload 4, 2) := by decide +kernel
theorem dX10_held_36 : decode cX10_held 36 = .ok (.bipush 10, 2) := by decide +kernel
theorem dX10_held_38 : decode cX10_held 38 = .ok (.idiv, 1) := by decide +kernel
theorem dX10_held_39 : decode cX10_held 39 = .ok (.iload_n 1, 1) := by decide +kernel
theorem dX10_held_40 : decode cX10_held 40 = .ok (.if_icmp .ne 13, 3) := by decide +kernel
theorem dX10_held_43 : decode cX10_held 43 = .ok (.iconst 1, 1) := by decide +kernel
theorem dX10_held_44 : decode cX10_held 44 = .ok (.iload 4, 2) := by decide +kernel
theorem dX10_held_46 : decode cX10_held 46 = .ok (.bipush 10, 2) := by decide +kernel
theorem dX10_held_48 : decode cX10_held 48 = .ok (.irem, 1) := by decide +kernel
theorem dX10_held_49 : decode cX10_held 49 = .ok (.ishl, 1) := by decide +kernel
theorem dX10_held_50 : decode cX10_held 50 = .ok (.goto 4, 3) := by decide +kernel
theorem dX10_held_53 : decode cX10_held 53 = .ok (.iconst 0, 1) := by decide +kernel
theorem dX10_held_54 : decode cX10_held 54 = .ok (.ior, 1) := by decide +kernel
theorem dX10_held_55 : decode cX10_held 55 = .ok (.istore_n 2, 1) := by decide +kernel
theorem dX10_held_56 : decode cX10_held 56 = .ok (.iinc 3 1, 3) := by decide +kernel
theorem dX10_held_59 : decode cX10_held 59 = .ok (.goto (-55), 3) := by decide +kernel
theorem dX10_held_62 : decode cX10_held 62 = .ok (.iload_n 2, 1) := by decide +kernel
theorem dX10_held_63 : decode cX10_held 63 = .ok (.ireturn, 1) := by decide +kernel
set_option maxRecDepth 100000 in
set_option maxHeartbeats 4000000 in
theorem s_X10_held_J54 {ω : WD} {ρ : FR} {post : Int32 → Mem → Prop} (C : Cx ω ρ cX10_held RX10 1 5) (R : RtI ω ρ cX10_held .int post) {K4 : Int32 → Int32 → Mem → Prop} {l1 : Int32} {l3 : Int32} {s0 : Int32} {s1 : Int32} (k4 : ∀ (u2 : Int32) (u3 : Int32) (M : Mem), K4 u2 u3 M → G ω ρ M 4 [(0, .ref (adr ω 128)), (1, .int l1), (2, .int u2), (3, .int u3)] []) {M : Mem} (h : w_X10_held_J54 post K4 l1 l3 s0 s1 M) : G ω ρ M 54 [(0, .ref (adr ω 128)), (1, .int l1), (3, .int l3)] [.int s1, .int s0] := by
  refine G_ior C dX10_held_54 ?_
  refine G_iname (fun v1 ev1 => ?_)
  replace h := h v1 ev1
  refine G_istore_n C dX10_held_55 (by decide) (lv' := [(2, .int v1), (0, .ref (adr ω 128)), (1, .int l1), (3, .int l3)]) rfl ?_
  obtain ⟨v2, ev2⟩ : ∃ y : Int32, y = (l3 + 1) := ⟨_, rfl⟩
  replace h := h v2 ev2
  refine G_iinc C dX10_held_56 3 rfl (v := v2) (by rw [ev2]; rfl) (by decide) (lv' := [(3, .int v2), (2, .int v1), (0, .ref (adr ω 128)), (1, .int l1)]) rfl ?_
  refine G_goto (tgt := 4) C dX10_held_59 (by decide) ?_
  refine G_sub [2, 3, 1, 0] (lv' := [(0, .ref (adr ω 128)), (1, .int l1), (2, .int v1), (3, .int v2)]) rfl ?_
  exact k4 _ _ _ h
set_option maxRecDepth 100000 in
set_option maxHeartbeats 4000000 in
theorem s_X10_held_J53 {ω : WD} {ρ : FR} {post : Int32 → Mem → Prop} (C : Cx ω ρ cX10_held RX10 1 5) (R : RtI ω ρ cX10_held .int post) {K4 : Int32 → Int32 → Mem → Prop} {l1 : Int32} {l3 : Int32} {s0 : Int32} (k4 : ∀ (u2 : Int32) (u3 : Int32) (M : Mem), K4 u2 u3 M → G ω ρ M 4 [(0, .ref (adr ω 128)), (1, .int l1), (2, .int u2), (3, .int u3)] []) {M : Mem} (h : w_X10_held_J53 post K4 l1 l3 s0 M) : G ω ρ M 53 [(0, .ref (adr ω 128)), (1, .int l1), (3, .int l3)] [.int s0] := by
  refine G_iconst (v := 0) C dX10_held_53 (by decide) ?_
  exact s_X10_held_J54 C R k4 h
set_option maxRecDepth 100000 in
set_option maxHeartbeats 4000000 in
theorem s_X10_held_L4 {ω : WD} {ρ : FR} {post : Int32 → Mem → Prop} (C : Cx ω ρ cX10_held RX10 1 5) (R : RtI ω ρ cX10_held .int post) {l1 : Int32} : ∀ (f : Nat) (l2 : Int32) (l3 : Int32) (M : Mem), w_X10_held_L4 post l1 f l2 l3 M → G ω ρ M 4 [(0, .ref (adr ω 128)), (1, .int l1), (2, .int l2), (3, .int l3)] [] := by
  intro f
  induction f with
  | zero => intro l2 l3 M h; exact False.elim h
  | succ f k4 =>
    intro l2 l3 M h
    refine G_iload_n C dX10_held_4 3 rfl ?_
    refine G_aload_n C dX10_held_5 0 rfl ?_
    refine gf_X10_13 C dX10_held_6 ?_
    refine G_bipush (v := 24) C dX10_held_9 (by decide) ?_
    refine G_iald C q130 (vp_lit rfl) (kk := 24) (by decide +kernel) dX10_held_11 ?_
    obtain ⟨h1, h2⟩ := h
    refine G_icmp_ge (tgt := 62) C dX10_held_12 (by decide) (fun c => ?_) (fun c => ?_)
    · have h := h1 c
      clear h1 h2
      refine G_iload_n C dX10_held_62 2 rfl ?_
      exact R 63 _ _ _ dX10_held_63 rfl h
    · have h := h2 c
      clear h1 h2
      refine G_aload_n C dX10_held_15 0 rfl ?_
      refine G_iload_n C dX10_held_16 3 rfl ?_
      refine G_iconst (v := 3) C dX10_held_17 (by decide) ?_
      refine G_callI (As := [.int l3, .int 3]) (rest := []) C dX10_held_18 lk_X10_157 (Nat.le_of_ble_eq_true rfl) (Nat.le_of_ble_eq_true rfl) q128 (by decide) rfl (Nat.le_of_ble_eq_true rfl) rfl (S_X10_of h) (fun r4 M3 h => ?_)
      refine G_istore C dX10_held_21 (by decide) (lv' := [(4, .int r4), (0, .ref (adr ω 128)), (1, .int l1), (2, .int l2), (3, .int l3)]) rfl ?_
      refine G_iload_n C dX10_held_23 3 rfl ?_
      refine G_aload_n C dX10_held_24 1 rfl ?_
      refine G_iload_n C dX10_held_25 4 rfl ?_
      refine G_iconst (v := 2) C dX10_held_26 (by decide) ?_
      refine G_callI (As := [.int l3, .int 2]) (rest := [.int l2]) C dX10_held_27 lk_X10_157 (Nat.le_of_ble_eq_true rfl) (Nat.le_of_ble_eq_true rfl) q128 (by decide) rfl (Nat.le_of_ble_eq_true rfl) rfl (S_X10_of h) (fun r6 M5 h => ?_)
      refine G_iconst (v := 1) C dX10_held_30 (by decide) ?_
      obtain ⟨h1, h2⟩ := h
      refine G_icmp_ne (tgt := 53) C dX10_held_31 (by decide) (fun c => ?_) (fun c => ?_)
      · have h := h1 c
        clear h1 h2
        refine G_sub [1, 2, 4] (lv' := [(0, .ref (adr ω 128)), (1, .int l1), (3, .int l3)]) rfl ?_
        exact s_X10_held_J53 C R k4 h
      · have h := h2 c
        clear h1 h2
        refine G_iload C dX10_held_34 0 rfl ?_
        refine G_bipush (v := 10) C dX10_held_36 (by decide) ?_
        refine G_idiv C dX10_held_38 (by decide) ?_
        refine G_iload_n C dX10_held_39 2 rfl ?_
        obtain ⟨h1, h2⟩ := h
        refine G_icmp_ne (tgt := 53) C dX10_held_40 (by decide) (fun c => ?_) (fun c => ?_)
        · have h := h1 c
          clear h1 h2
          refine G_sub [1, 2, 4] (lv' := [(0, .ref (adr ω 128)), (1, .int l1), (3, .int l3)]) rfl ?_
          exact s_X10_held_J53 C R k4 h
        · have h := h2 c
          clear h1 h2
          refine G_iconst (v := 1) C dX10_held_43 (by decide) ?_
          refine G_iload C dX10_held_44 0 rfl ?_
          refine G_bipush (v := 10) C dX10_held_46 (by decide) ?_
          refine G_irem C dX10_held_48 (by decide) ?_
          refine G_ishl C dX10_held_49 ?_
          refine G_goto (tgt := 54) C dX10_held_50 (by decide) ?_
          refine G_sub [1, 2, 4] (lv' := [(0, .ref (adr ω 128)), (1, .int l1), (3, .int l3)]) rfl ?_
          exact s_X10_held_J54 C R k4 h
set_option maxRecDepth 100000 in
set_option maxHeartbeats 4000000 in
theorem S_X10_held {ω : WD} {l1 : Int32} {M : Mem} {post : Int32 → Mem → Prop} (h : w_X10_held l1 M post) : MtI ω yX10_held cX10_held 5 (some .int) 1 [.ref (adr ω 128), .int l1] M post := by
  refine MtI.start (ty := .int) rfl (by decide +kernel) (own := RX10) rfl (Nat.le_of_ble_eq_true rfl) (fun ρ C R => ?_)
  show G ω ρ M 0 [(0, .ref (adr ω 128)), (1, .int l1)] []
  refine G_iconst (v := 0) C dX10_held_0 (by decide) ?_
  refine G_istore_n C dX10_held_1 (by decide) (lv' := [(2, .int 0), (0, .ref (adr ω 128)), (1, .int l1)]) rfl ?_
  refine G_iconst (v := 0) C dX10_held_2 (by decide) ?_
  refine G_istore_n C dX10_held_3 (by decide) (lv' := [(3, .int 0), (2, .int 0), (0, .ref (adr ω 128)), (1, .int l1)]) rfl ?_
  refine G_sub [2, 3, 1, 0] (lv' := [(0, .ref (adr ω 128)), (1, .int l1), (2, .int 0), (3, .int 0)]) rfl ?_
  obtain ⟨f, h⟩ := h
  exact s_X10_held_L4 C R  f _ _ _ h
theorem dX10_taken_0 : decode cX10_taken 0 = .ok (.aload_n 0, 1) := by decide +kernel
theorem dX10_taken_1 : decode cX10_taken 1 = .ok (.iload_n 1, 1) := by decide +kernel
theorem dX10_taken_2 : decode cX10_taken 2 = .ok (.iconst 1, 1) := by decide +kernel
theorem dX10_taken_3 : decode cX10_taken 3 = .ok (.invokevirtual 164, 3) := by decide +kernel
theorem dX10_taken_6 : decode cX10_taken 6 = .ok (.istore_n 2, 1) := by decide +kernel
theorem dX10_taken_7 : decode cX10_taken 7 = .ok (.aload_n 0, 1) := by decide +kernel
theorem dX10_taken_8 : decode cX10_taken 8 = .ok (.iload_n 1, 1) := by decide +kernel
theorem dX10_taken_9 : decode cX10_taken 9 = .ok (.invokevirtual 167, 3) := by decide +kernel
theorem dX10_taken_12 : decode cX10_taken 12 = .ok (.istore_n 3, 1) := by decide +kernel
theorem dX10_taken_13 : decode cX10_taken 13 = .ok (.aload_n 0, 1) := by decide +kernel
theorem dX10_taken_14 : decode cX10_taken 14 = .ok (.iload_n 1, 1) := by decide +kernel
theorem dX10_taken_15 : decode cX10_taken 15 = .ok (.iconst 0, 1) := by decide +kernel
theorem dX10_taken_16 : decode cX10_taken 16 = .ok (.invokevirtual 164, 3) := by decide +kernel
theorem dX10_taken_19 : decode cX10_taken 19 = .ok (.istore 4, 2) := by decide +kernel
theorem dX10_taken_21 : decode cX10_taken 21 = .ok (.iload 4, 2) := by decide +kernel
theorem dX10_taken_23 : decode cX10_taken 23 = .ok (.iconst 1, 1) := by decide +kernel
theorem dX10_taken_24 : decode cX10_taken 24 = .ok (.if_icmp .eq 9, 3) := by decide +kernel
theorem dX10_taken_27 : decode cX10_taken 27 = .ok (.iload 4, 2) := by decide +kernel
theorem dX10_taken_29 : decode cX10_taken 29 = .ok (.iconst 3, 1) := by decide +kernel
theorem dX10_taken_30 : decode cX10_taken 30 = .ok (.if_icmp .ne 29, 3) := by decide +kernel
theorem dX10_taken_33 : decode cX10_taken 33 = .ok (.aload_n 0, 1) := by decide +kernel
theorem dX10_taken_34 : decode cX10_taken 34 = .ok (.iload_n 1, 1) := by decide +kernel
theorem dX10_taken_35 : decode cX10_taken 35 = .ok (.iconst 3, 1) := by decide +kernel
theorem dX10_taken_36 : decode cX10_taken 36 = .ok (.invokevirtual 164, 3) := by decide +kernel
theorem dX10_taken_39 : decode cX10_taken 39 = .ok (.bipush (-4), 2) := by decide +kernel
theorem dX10_taken_41 : decode cX10_taken 41 = .ok (.if_icmp .ne 7, 3) := by decide +kernel
theorem dX10_taken_44 : decode cX10_taken 44 = .ok (.iconst 0, 1) := by decide +kernel
theorem dX10_taken_45 : decode cX10_taken 45 = .ok (.goto 15, 3) := by decide +kernel
theorem dX10_taken_48 : decode cX10_taken 48 = .ok (.aload_n 0, 1) := by decide +kernel
theorem dX10_taken_49 : decode cX10_taken 49 = .ok (.iload_n 1, 1) := by decide +kernel
theorem dX10_taken_50 : decode cX10_taken 50 = .ok (.iconst 3, 1) := by decide +kernel
theorem dX10_taken_51 : decode cX10_taken 51 = .ok (.invokevirtual 164, 3) := by decide +kernel
theorem dX10_taken_54 : decode cX10_taken 54 = .ok (.iconst 1, 1) := by decide +kernel
theorem dX10_taken_55 : decode cX10_taken 55 = .ok (.iadd, 1) := by decide +kernel
theorem dX10_taken_56 : decode cX10_taken 56 = .ok (.goto 4, 3) := by decide +kernel
theorem dX10_taken_59 : decode cX10_taken 59 = .ok (.iconst 0, 1) := by decide +kernel
theorem dX10_taken_60 : decode cX10_taken 60 = .ok (.istore 5, 2) := by decide +kernel
theorem dX10_taken_62 : decode cX10_taken 62 = .ok (.bipush (-4), 2) := by decide +kernel
theorem dX10_taken_64 : decode cX10_taken 64 = .ok (.istore 6, 2) := by decide +kernel
theorem dX10_taken_66 : decode cX10_taken 66 = .ok (.iconst 0, 1) := by decide +kernel
theorem dX10_taken_67 : decode cX10_taken 67 = .ok (.istore 7, 2) := by decide +kernel
theorem dX10_taken_69 : decode cX10_taken 69 = .ok (.iload 7, 2) := by decide +kernel
theorem dX10_taken_71 : decode cX10_taken 71 = .ok (.iload_n 2, 1) := by decide +kernel
theorem dX10_taken_72 : decode cX10_taken 72 = .ok (.if_icmp .ge 96, 3) := by decide +kernel
theorem dX10_taken_75 : decode cX10_taken 75 = .ok (.iload 5, 2) := by decide +kernel
theorem dX10_taken_77 : decode cX10_taken 77 = .ok (.iload 7, 2) := by decide +kernel
theorem dX10_taken_79 : decode cX10_taken 79 = .ok (.iadd, 1) := by decide +kernel
theorem dX10_taken_80 : decode cX10_taken 80 = .ok (.iload_n 2, 1) := by decide +kernel
theorem dX10_taken_81 : decode cX10_taken 81 = .ok (.irem, 1) := by decide +kernel
theorem dX10_taken_82 : decode cX10_taken 82 = .ok (.istore 8, 2) := by decide +kernel
theorem dX10_taken_84 : decode cX10_taken 84 = .ok (.iload_n 3, 1) := by decide +kernel
theorem dX10_taken_85 : decode cX10_taken 85 = .ok (.iload 8, 2) := by decide +kernel
theorem dX10_taken_87 : decode cX10_taken 87 = .ok (.ishr, 1) := by decide +kernel
theorem dX10_taken_88 : decode cX10_taken 88 = .ok (.iconst 1, 1) := by decide +kernel
theorem dX10_taken_89 : decode cX10_taken 89 = .ok (.iand, 1) := by decide +kernel
theorem dX10_taken_90 : decode cX10_taken 90 = .ok (.ifCond .ne 7, 3) := by decide +kernel
theorem dX10_taken_93 : decode cX10_taken 93 = .ok (.iconst 1, 1) := by decide +kernel
theorem dX10_taken_94 : decode cX10_taken 94 = .ok (.goto 4, 3) := by decide +kernel
theorem dX10_taken_97 : decode cX10_taken 97 = .ok (.iconst 0, 1) := by decide +kernel
theorem dX10_taken_98 : decode cX10_taken 98 = .ok (.istore 9, 2) := by decide +kernel
theorem dX10_taken_100 : decode cX10_taken 100 = .ok (.iload 6, 2) := by decide +kernel
theorem dX10_taken_102 : decode cX10_taken 102 = .ok (.bipush (-4), 2) := by decide +kernel
theorem dX10_taken_104 : decode cX10_taken 104 = .ok (.if_icmp .eq 32, 3) := by decide +kernel
theorem dX10_taken_107 : decode cX10_taken 107 = .ok (.iload 4, 2) := by decide +kernel
theorem dX10_taken_109 : decode cX10_taken 109 = .ok (.iconst 2, 1) := by decide +kernel
theorem dX10_taken_110 : decode cX10_taken 110 = .ok (.if_icmp .eq 26, 3) := by decide +kernel
theorem dX10_taken_113 : decode cX10_taken 113 = .ok (.iload 4, 2) := by decide +kernel
theorem dX10_taken_115 : decode cX10_taken 115 = .ok (.iconst 3, 1) := by decide +kernel
theorem dX10_taken_116 : decode cX10_taken 116 = .ok (.if_icmp .ne 24, 3) := by decide +kernel
theorem dX10_taken_119 : decode cX10_taken 119 = .ok (.aload_n 0, 1) := by decide +kernel
theorem dX10_taken_120 : decode cX10_taken 120 = .ok (.iload_n 1, 1) := by decide +kernel
theorem dX10_taken_121 : decode cX10_taken 121 = .ok (.iload 8, 2) := by decide +kernel
theorem dX10_taken_123 : decode cX10_taken 123 = .ok (.invokevirtual 170, 3) := by decide +kernel
theorem dX10_taken_126 : decode cX10_taken 126 = .ok (.aload_n 0, 1) := by decide +kernel
theorem dX10_taken_127 : decode cX10_taken 127 = .ok (.iload_n 1, 1) := by decide +kernel
theorem dX10_taken_128 : decode cX10_taken 128 = .ok (.iload 6, 2) := by decide +kernel
theorem dX10_taken_130 : decode cX10_taken 130 = .ok (.invokevirtual 170, 3) := by decide +kernel
theorem dX10_taken_133 : decode cX10_taken 133 = .ok (.if_icmp .ge 7, 3) := by decide +kernel
theorem dX10_taken_136 : decode cX10_taken 136 = .ok (.iconst 1, 1) := by decide +kernel
theorem dX10_taken_137 : decode cX10_taken 137 = .ok (.goto 4, 3) := by decide +kernel
theorem dX10_taken_140 : decode cX10_taken 140 = .ok (.iconst 0, 1) := by decide +kernel
theorem dX10_taken_141 : decode cX10_taken 141 = .ok (.istore 10, 2) := by decide +kernel
theorem dX10_taken_143 : decode cX10_taken 143 = .ok (.iload 9, 2) := by decide +kernel
theorem dX10_taken_145 : decode cX10_taken 145 = .ok (.ifCond .eq 13, 3) := by decide +kernel
theorem dX10_taken_148 : decode cX10_taken 148 = .ok (.iload 10, 2) := by decide +kernel
theorem dX10_taken_150 : decode cX10_taken 150 = .ok (.ifCond .eq 8, 3) := by decide +kernel
theorem dX10_taken_153 : decode cX10_taken 153 = .ok (.iload 8, 2) := by decide +kernel
theorem dX10_taken_155 : decode cX10_taken 155 = .ok (.goto 5, 3) := by decide +kernel
theorem dX10_taken_158 : decode cX10_taken 158 = .ok (.iload 6, 2) := by decide +kernel
theorem dX10_taken_160 : decode cX10_taken 160 = .ok (.istore 6, 2) := by decide +kernel
theorem dX10_taken_162 : decode cX10_taken 162 = .ok (.iinc 7 1, 3) := by decide +kernel
theorem dX10_taken_165 : decode cX10_taken 165 = .ok (.goto (-96), 3) := by decide +kernel
theorem dX10_taken_168 : decode cX10_taken 168 = .ok (.iload 6, 2) := by decide +kernel
theorem dX10_taken_170 : decode cX10_taken 170 = .ok (.ireturn, 1) := by decide +kernel
theorem lk_X10_170 : LkV RX10 170 RX10 yX10_usesOf cX10_usesOf 3 (some .int) 2 := LkV.of 1200 1202 37 71 1203 (by decide +kernel) (by decide +kernel) (by decide +kernel) (by decide +kernel) (by decide +kernel) (by decide +kernel)
theorem lk_X10_164 : LkV RX10 164 RX10 yX10_ofGroup cX10_ofGroup 3 (some .int) 2 := LkV.of 1188 1190 34 71 1191 (by decide +kernel) (by decide +kernel) (by decide +kernel) (by decide +kernel) (by decide +kernel) (by decide +kernel)
theorem lk_X10_167 : LkV RX10 167 RX10 yX10_held cX10_held 5 (some .int) 1 := LkV.of 1192 1194 35 71 1195 (by decide +kernel) (by decide +kernel) (by decide +kernel) (by decide +kernel) (by decide +kernel) (by decide +kernel)
set_option maxRecDepth 100000 in
set_option maxHeartbeats 4000000 in
theorem s_X10_taken_J160 {ω : WD} {ρ : FR} {post : Int32 → Mem → Prop} (C : Cx ω ρ cX10_taken RX10 2 11) (R : RtI ω ρ cX10_taken .int post) {K69 : Int32 → Int32 → Mem → Prop} {l1 : Int32} {l2 : Int32} {l3 : Int32} {l4 : Int32} {l5 : Int32} {l7 : Int32} {s0 : Int32} (k69 : ∀ (u6 : Int32) (u7 : Int32) (M : Mem), K69 u6 u7 M → G ω ρ M 69 [(0, .ref (adr ω 128)), (1, .int l1), (2, .int l2), (3, .int l3), (4, .int l4), (5, .int l5), (6, .int u6), (7, .int u7)] []) {M : Mem} (h : w_X10_taken_J160 post K69 l1 l2 l3 l4 l5 l7 s0 M) : G ω ρ M 160 [(0, .ref (adr ω 128)), (1, .int l1), (2, .int l2), (3, .int l3), (4, .int l4), (5, .int l5), (7, .int l7)] [.int s0] := by
  refine G_istore C dX10_taken_160 (by decide) (lv' := [(6, .int s0), (0, .ref (adr ω 128)), (1, .int l1), (2, .int l2), (3, .int l3), (4, .int l4), (5, .int l5), (7, .int l7)]) rfl ?_
  obtain ⟨v1, ev1⟩ : ∃ y : Int32, y = (l7 + 1) := ⟨_, rfl⟩
  replace h := h v1 ev1
  refine G_iinc C dX10_taken_162 7 rfl (v := v1) (by rw [ev1]; rfl) (by decide) (lv' := [(7, .int v1), (6, .int s0), (0, .ref (adr ω 128)), (1, .int l1), (2, .int l2), (3, .int l3), (4, .int l4), (5, .int l5)]) rfl ?_
  refine G_goto (tgt := 69) C dX10_taken_165 (by decide) ?_
  refine G_sub [2, 3, 4, 5, 6, 7, 1, 0] (lv' := [(0, .ref (adr ω 128)), (1, .int l1), (2, .int l2), (3, .int l3), (4, .int l4), (5, .int l5), (6, .int s0), (7, .int v1)]) rfl ?_
  exact k69 _ _ _ h
set_option maxRecDepth 100000 in
set_option maxHeartbeats 4000000 in
theorem s_X10_taken_J158 {ω : WD} {ρ : FR} {post : Int32 → Mem → Prop} (C : Cx ω ρ cX10_taken RX10 2 11) (R : RtI ω ρ cX10_taken .int post) {K69 : Int32 → Int32 → Mem → Prop} {l1 : Int32} {l2 : Int32} {l3 : Int32} {l4 : Int32} {l5 : Int32} {l6 : Int32} {l7 : Int32} (k69 : ∀ (u6 : Int32) (u7 : Int32) (M : Mem), K69 u6 u7 M → G ω ρ M 69 [(0, .ref (adr ω 128)), (1, .int l1), (2, .int l2), (3, .int l3), (4, .int l4), (5, .int l5), (6, .int u6), (7, .int u7)] []) {M : Mem} (h : w_X10_taken_J158 post K69 l1 l2 l3 l4 l5 l6 l7 M) : G ω ρ M 158 [(0, .ref (adr ω 128)), (1, .int l1), (2, .int l2), (3, .int l3), (4, .int l4), (5, .int l5), (6, .int l6), (7, .int l7)] [] := by
  refine G_iload C dX10_taken_158 6 rfl ?_
  refine G_sub [0, 1, 2, 3, 4, 5, 7] (lv' := [(0, .ref (adr ω 128)), (1, .int l1), (2, .int l2), (3, .int l3), (4, .int l4), (5, .int l5), (7, .int l7)]) rfl ?_
  exact s_X10_taken_J160 C R k69 h
set_option maxRecDepth 100000 in
set_option maxHeartbeats 4000000 in
theorem s_X10_taken_J141 {ω : WD} {ρ : FR} {post : Int32 → Mem → Prop} (C : Cx ω ρ cX10_taken RX10 2 11) (R : RtI ω ρ cX10_taken .int post) {K69 : Int32 → Int32 → Mem → Prop} {l1 : Int32} {l2 : Int32} {l3 : Int32} {l4 : Int32} {l5 : Int32} {l6 : Int32} {l7 : Int32} {l8 : Int32} {l9 : Int32} {s0 : Int32} (k69 : ∀ (u6 : Int32) (u7 : Int32) (M : Mem), K69 u6 u7 M → G ω ρ M 69 [(0, .ref (adr ω 128)), (1, .int l1), (2, .int l2), (3, .int l3), (4, .int l4), (5, .int l5), (6, .int u6), (7, .int u7)] []) {M : Mem} (h : w_X10_taken_J141 post K69 l1 l2 l3 l4 l5 l6 l7 l8 l9 s0 M) : G ω ρ M 141 [(0, .ref (adr ω 128)), (1, .int l1), (2, .int l2), (3, .int l3), (4, .int l4), (5, .int l5), (6, .int l6), (7, .int l7), (8, .int l8), (9, .int l9)] [.int s0] := by
  refine G_istore C dX10_taken_141 (by decide) (lv' := [(10, .int s0), (0, .ref (adr ω 128)), (1, .int l1), (2, .int l2), (3, .int l3), (4, .int l4), (5, .int l5), (6, .int l6), (7, .int l7), (8, .int l8), (9, .int l9)]) rfl ?_
  refine G_iload C dX10_taken_143 10 rfl ?_
  obtain ⟨h1, h2⟩ := h
  refine G_if_eq (tgt := 158) C dX10_taken_145 (by decide) (fun c => ?_) (fun c => ?_)
  · have h := h1 c
    clear h1 h2
    refine G_sub [1, 2, 3, 4, 5, 6, 7, 8] (lv' := [(0, .ref (adr ω 128)), (1, .int l1), (2, .int l2), (3, .int l3), (4, .int l4), (5, .int l5), (6, .int l6), (7, .int l7)]) rfl ?_
    exact s_X10_taken_J158 C R k69 h
  · have h := h2 c
    clear h1 h2
    refine G_iload C dX10_taken_148 0 rfl ?_
    obtain ⟨h1, h2⟩ := h
    refine G_if_eq (tgt := 158) C dX10_taken_150 (by decide) (fun c => ?_) (fun c => ?_)
    · have h := h1 c
      clear h1 h2
      refine G_sub [1, 2, 3, 4, 5, 6, 7, 8] (lv' := [(0, .ref (adr ω 128)), (1, .int l1), (2, .int l2), (3, .int l3), (4, .int l4), (5, .int l5), (6, .int l6), (7, .int l7)]) rfl ?_
      exact s_X10_taken_J158 C R k69 h
    · have h := h2 c
      clear h1 h2
      refine G_iload C dX10_taken_153 9 rfl ?_
      refine G_goto (tgt := 160) C dX10_taken_155 (by decide) ?_
      refine G_sub [1, 2, 3, 4, 5, 6, 8] (lv' := [(0, .ref (adr ω 128)), (1, .int l1), (2, .int l2), (3, .int l3), (4, .int l4), (5, .int l5), (7, .int l7)]) rfl ?_
      exact s_X10_taken_J160 C R k69 h
set_option maxRecDepth 100000 in
set_option maxHeartbeats 4000000 in
theorem s_X10_taken_J136 {ω : WD} {ρ : FR} {post : Int32 → Mem → Prop} (C : Cx ω ρ cX10_taken RX10 2 11) (R : RtI ω ρ cX10_taken .int post) {K69 : Int32 → Int32 → Mem → Prop} {l1 : Int32} {l2 : Int32} {l3 : Int32} {l4 : Int32} {l5 : Int32} {l6 : Int32} {l7 : Int32} {l8 : Int32} {l9 : Int32} (k69 : ∀ (u6 : Int32) (u7 : Int32) (M : Mem), K69 u6 u7 M → G ω ρ M 69 [(0, .ref (adr ω 128)), (1, .int l1), (2, .int l2), (3, .int l3), (4, .int l4), (5, .int l5), (6, .int u6), (7, .int u7)] []) {M : Mem} (h : w_X10_taken_J136 post K69 l1 l2 l3 l4 l5 l6 l7 l8 l9 M) : G ω ρ M 136 [(0, .ref (adr ω 128)), (1, .int l1), (2, .int l2), (3, .int l3), (4, .int l4), (5, .int l5), (6, .int l6), (7, .int l7), (8, .int l8), (9, .int l9)] [] := by
  refine G_iconst (v := 1) C dX10_taken_136 (by decide) ?_
  refine G_goto (tgt := 141) C dX10_taken_137 (by decide) ?_
  exact s_X10_taken_J141 C R k69 h
set_option maxRecDepth 100000 in
set_option maxHeartbeats 4000000 in
theorem s_X10_taken_J140 {ω : WD} {ρ : FR} {post : Int32 → Mem → Prop} (C : Cx ω ρ cX10_taken RX10 2 11) (R : RtI ω ρ cX10_taken .int post) {K69 : Int32 → Int32 → Mem → Prop} {l1 : Int32} {l2 : Int32} {l3 : Int32} {l4 : Int32} {l5 : Int32} {l6 : Int32} {l7 : Int32} {l8 : Int32} {l9 : Int32} (k69 : ∀ (u6 : Int32) (u7 : Int32) (M : Mem), K69 u6 u7 M → G ω ρ M 69 [(0, .ref (adr ω 128)), (1, .int l1), (2, .int l2), (3, .int l3), (4, .int l4), (5, .int l5), (6, .int u6), (7, .int u7)] []) {M : Mem} (h : w_X10_taken_J140 post K69 l1 l2 l3 l4 l5 l6 l7 l8 l9 M) : G ω ρ M 140 [(0, .ref (adr ω 128)), (1, .int l1), (2, .int l2), (3, .int l3), (4, .int l4), (5, .int l5), (6, .int l6), (7, .int l7), (8, .int l8), (9, .int l9)] [] := by
  refine G_iconst (v := 0) C dX10_taken_140 (by decide) ?_
  exact s_X10_taken_J141 C R k69 h
set_option maxRecDepth 100000 in
set_option maxHeartbeats 4000000 in
theorem s_X10_taken_J98 {ω : WD} {ρ : FR} {post : Int32 → Mem → Prop} (C : Cx ω ρ cX10_taken RX10 2 11) (R : RtI ω ρ cX10_taken .int post) {K69 : Int32 → Int32 → Mem → Prop} {l1 : Int32} {l2 : Int32} {l3 : Int32} {l4 : Int32} {l5 : Int32} {l6 : Int32} {l7 : Int32} {l8 : Int32} {s0 : Int32} (k69 : ∀ (u6 : Int32) (u7 : Int32) (M : Mem), K69 u6 u7 M → G ω ρ M 69 [(0, .ref (adr ω 128)), (1, .int l1), (2, .int l2), (3, .int l3), (4, .int l4), (5, .int l5), (6, .int u6), (7, .int u7)] []) {M : Mem} (h : w_X10_taken_J98 post K69 l1 l2 l3 l4 l5 l6 l7 l8 s0 M) : G ω ρ M 98 [(0, .ref (adr ω 128)), (1, .int l1), (2, .int l2), (3, .int l3), (4, .int l4), (5, .int l5), (6, .int l6), (7, .int l7), (8, .int l8)] [.int s0] := by
  refine G_istore C dX10_taken_98 (by decide) (lv' := [(9, .int s0), (0, .ref (adr ω 128)), (1, .int l1), (2, .int l2), (3, .int l3), (4, .int l4), (5, .int l5), (6, .int l6), (7, .int l7), (8, .int l8)]) rfl ?_
  refine G_iload C dX10_taken_100 7 rfl ?_
  refine G_bipush (v := (-4)) C dX10_taken_102 (by decide) ?_
  obtain ⟨h1, h2⟩ := h
  refine G_icmp_eq (tgt := 136) C dX10_taken_104 (by decide) (fun c => ?_) (fun c => ?_)
  · have h := h1 c
    clear h1 h2
    refine G_sub [1, 2, 3, 4, 5, 6, 7, 8, 9, 0] (lv' := [(0, .ref (adr ω 128)), (1, .int l1), (2, .int l2), (3, .int l3), (4, .int l4), (5, .int l5), (6, .int l6), (7, .int l7), (8, .int l8), (9, .int s0)]) rfl ?_
    exact s_X10_taken_J136 C R k69 h
  · have h := h2 c
    clear h1 h2
    refine G_iload C dX10_taken_107 5 rfl ?_
    refine G_iconst (v := 2) C dX10_taken_109 (by decide) ?_
    obtain ⟨h1, h2⟩ := h
    refine G_icmp_eq (tgt := 136) C dX10_taken_110 (by decide) (fun c => ?_) (fun c => ?_)
    · have h := h1 c
      clear h1 h2
      refine G_sub [1, 2, 3, 4, 5, 6, 7, 8, 9, 0] (lv' := [(0, .ref (adr ω 128)), (1, .int l1), (2, .int l2), (3, .int l3), (4, .int l4), (5, .int l5), (6, .int l6), (7, .int l7), (8, .int l8), (9, .int s0)]) rfl ?_
      exact s_X10_taken_J136 C R k69 h
    · have h := h2 c
      clear h1 h2
      refine G_iload C dX10_taken_113 5 rfl ?_
      refine G_iconst (v := 3) C dX10_taken_115 (by decide) ?_
      obtain ⟨h1, h2⟩ := h
      refine G_icmp_ne (tgt := 140) C dX10_taken_116 (by decide) (fun c => ?_) (fun c => ?_)
      · have h := h1 c
        clear h1 h2
        refine G_sub [1, 2, 3, 4, 5, 6, 7, 8, 9, 0] (lv' := [(0, .ref (adr ω 128)), (1, .int l1), (2, .int l2), (3, .int l3), (4, .int l4), (5, .int l5), (6, .int l6), (7, .int l7), (8, .int l8), (9, .int s0)]) rfl ?_
        exact s_X10_taken_J140 C R k69 h
      · have h := h2 c
        clear h1 h2
        refine G_aload_n C dX10_taken_119 1 rfl ?_
        refine G_iload_n C dX10_taken_120 2 rfl ?_
        refine G_iload C dX10_taken_121 9 rfl ?_
        refine G_callI (As := [.int l1, .int l8]) (rest := []) C dX10_taken_123 lk_X10_170 (Nat.le_of_ble_eq_true rfl) (Nat.le_of_ble_eq_true rfl) q128 (by decide) rfl (Nat.le_of_ble_eq_true rfl) rfl (S_X10_usesOf h) (fun r3 M2 h => ?_)
        refine G_aload_n C dX10_taken_126 1 rfl ?_
        refine G_iload_n C dX10_taken_127 2 rfl ?_
        refine G_iload C dX10_taken_128 7 rfl ?_
        refine G_callI (As := [.int l1, .int l6]) (rest := [.int r3]) C dX10_taken_130 lk_X10_170 (Nat.le_of_ble_eq_true rfl) (Nat.le_of_ble_eq_true rfl) q128 (by decide) rfl (Nat.le_of_ble_eq_true rfl) rfl (S_X10_usesOf h) (fun r5 M4 h => ?_)
        obtain ⟨h1, h2⟩ := h
        refine G_icmp_ge (tgt := 140) C dX10_taken_133 (by decide) (fun c => ?_) (fun c => ?_)
        · have h := h1 c
          clear h1 h2
          refine G_sub [1, 2, 3, 4, 5, 6, 7, 8, 9, 0] (lv' := [(0, .ref (adr ω 128)), (1, .int l1), (2, .int l2), (3, .int l3), (4, .int l4), (5, .int l5), (6, .int l6), (7, .int l7), (8, .int l8), (9, .int s0)]) rfl ?_
          exact s_X10_taken_J140 C R k69 h
        · have h := h2 c
          clear h1 h2
          refine G_sub [1, 2, 3, 4, 5, 6, 7, 8, 9, 0] (lv' := [(0, .ref (adr ω 128)), (1, .int l1), (2, .int l2), (3, .int l3), (4, .int l4), (5, .int l5), (6, .int l6), (7, .int l7), (8, .int l8), (9, .int s0)]) rfl ?_
          exact s_X10_taken_J136 C R k69 h
set_option maxRecDepth 100000 in
set_option maxHeartbeats 4000000 in
theorem s_X10_taken_L69 {ω : WD} {ρ : FR} {post : Int32 → Mem → Prop} (C : Cx ω ρ cX10_taken RX10 2 11) (R : RtI ω ρ cX10_taken .int post) {l1 : Int32} {l2 : Int32} {l3 : Int32} {l4 : Int32} {l5 : Int32} : ∀ (f : Nat) (l6 : Int32) (l7 : Int32) (M : Mem), w_X10_taken_L69 post l1 l2 l3 l4 l5 f l6 l7 M → G ω ρ M 69 [(0, .ref (adr ω 128)), (1, .int l1), (2, .int l2), (3, .int l3), (4, .int l4), (5, .int l5), (6, .int l6), (7, .int l7)] [] := by
  intro f
  induction f with
  | zero => intro l6 l7 M h; exact False.elim h
  | succ f k69 =>
    intro l6 l7 M h
    refine G_iload C dX10_taken_69 7 rfl ?_
    refine G_iload_n C dX10_taken_71 2 rfl ?_
    obtain ⟨h1, h2⟩ := h
    refine G_icmp_ge (tgt := 168) C dX10_taken_72 (by decide) (fun c => ?_) (fun c => ?_)
    · have h := h1 c
      clear h1 h2
      refine G_iload C dX10_taken_168 6 rfl ?_
      exact R 170 _ _ _ dX10_taken_170 rfl h
    · have h := h2 c
      clear h1 h2
      refine G_iload C dX10_taken_75 5 rfl ?_
      refine G_iload C dX10_taken_77 7 rfl ?_
      refine G_iadd C dX10_taken_79 ?_
      refine G_iload_n C dX10_taken_80 2 rfl ?_
      obtain ⟨hz, h⟩ := h
      refine G_irem C dX10_taken_81 hz ?_
      refine G_iname (fun v6 ev6 => ?_)
      replace h := h v6 ev6
      refine G_istore C dX10_taken_82 (by decide) (lv' := [(8, .int v6), (0, .ref (adr ω 128)), (1, .int l1), (2, .int l2), (3, .int l3), (4, .int l4), (5, .int l5), (6, .int l6), (7, .int l7)]) rfl ?_
      refine G_iload_n C dX10_taken_84 4 rfl ?_
      refine G_iload C dX10_taken_85 0 rfl ?_
      refine G_ishr C dX10_taken_87 ?_
      refine G_iconst (v := 1) C dX10_taken_88 (by decide) ?_
      refine G_iand C dX10_taken_89 ?_
      obtain ⟨h1, h2⟩ := h
      refine G_if_ne (tgt := 97) C dX10_taken_90 (by decide) (fun c => ?_) (fun c => ?_)
      · have h := h1 c
        clear h1 h2
        refine G_iconst (v := 0) C dX10_taken_97 (by decide) ?_
        refine G_sub [1, 2, 3, 4, 5, 6, 7, 8, 0] (lv' := [(0, .ref (adr ω 128)), (1, .int l1), (2, .int l2), (3, .int l3), (4, .int l4), (5, .int l5), (6, .int l6), (7, .int l7), (8, .int v6)]) rfl ?_
        exact s_X10_taken_J98 C R k69 h
      · have h := h2 c
        clear h1 h2
        refine G_iconst (v := 1) C dX10_taken_93 (by decide) ?_
        refine G_goto (tgt := 98) C dX10_taken_94 (by decide) ?_
        refine G_sub [1, 2, 3, 4, 5, 6, 7, 8, 0] (lv' := [(0, .ref (adr ω 128)), (1, .int l1), (2, .int l2), (3, .int l3), (4, .int l4), (5, .int l5), (6, .int l6), (7, .int l7), (8, .int v6)]) rfl ?_
        exact s_X10_taken_J98 C R k69 h
set_option maxRecDepth 100000 in
set_option maxHeartbeats 4000000 in
theorem s_X10_taken_J60 {ω : WD} {ρ : FR} {post : Int32 → Mem → Prop} (C : Cx ω ρ cX10_taken RX10 2 11) (R : RtI ω ρ cX10_taken .int post) {l1 : Int32} {l2 : Int32} {l3 : Int32} {l4 : Int32} {s0 : Int32} {M : Mem} (h : w_X10_taken_J60 post l1 l2 l3 l4 s0 M) : G ω ρ M 60 [(0, .ref (adr ω 128)), (1, .int l1), (2, .int l2), (3, .int l3), (4, .int l4)] [.int s0] := by
  refine G_istore C dX10_taken_60 (by decide) (lv' := [(5, .int s0), (0, .ref (adr ω 128)), (1, .int l1), (2, .int l2), (3, .int l3), (4, .int l4)]) rfl ?_
  refine G_bipush (v := (-4)) C dX10_taken_62 (by decide) ?_
  refine G_istore C dX10_taken_64 (by decide) (lv' := [(6, .int (-4)), (5, .int s0), (0, .ref (adr ω 128)), (1, .int l1), (2, .int l2), (3, .int l3), (4, .int l4)]) rfl ?_
  refine G_iconst (v := 0) C dX10_taken_66 (by decide) ?_
  refine G_istore C dX10_taken_67 (by decide) (lv' := [(7, .int 0), (6, .int (-4)), (5, .int s0), (0, .ref (adr ω 128)), (1, .int l1), (2, .int l2), (3, .int l3), (4, .int l4)]) rfl ?_
  refine G_sub [3, 4, 5, 6, 7, 2, 1, 0] (lv' := [(0, .ref (adr ω 128)), (1, .int l1), (2, .int l2), (3, .int l3), (4, .int l4), (5, .int s0), (6, .int (-4)), (7, .int 0)]) rfl ?_
  obtain ⟨f, h⟩ := h
  exact s_X10_taken_L69 C R  f _ _ _ h
set_option maxRecDepth 100000 in
set_option maxHeartbeats 4000000 in
theorem s_X10_taken_J33 {ω : WD} {ρ : FR} {post : Int32 → Mem → Prop} (C : Cx ω ρ cX10_taken RX10 2 11) (R : RtI ω ρ cX10_taken .int post) {l1 : Int32} {l2 : Int32} {l3 : Int32} {l4 : Int32} {M : Mem} (h : w_X10_taken_J33 post l1 l2 l3 l4 M) : G ω ρ M 33 [(0, .ref (adr ω 128)), (1, .int l1), (2, .int l2), (3, .int l3), (4, .int l4)] [] := by
  refine G_aload_n C dX10_taken_33 0 rfl ?_
  refine G_iload_n C dX10_taken_34 1 rfl ?_
  refine G_iconst (v := 3) C dX10_taken_35 (by decide) ?_
  refine G_callI (As := [.int l1, .int 3]) (rest := []) C dX10_taken_36 lk_X10_164 (Nat.le_of_ble_eq_true rfl) (Nat.le_of_ble_eq_true rfl) q128 (by decide) rfl (Nat.le_of_ble_eq_true rfl) rfl (S_X10_ofGroup h) (fun r8 M7 h => ?_)
  refine G_bipush (v := (-4)) C dX10_taken_39 (by decide) ?_
  obtain ⟨h1, h2⟩ := h
  refine G_icmp_ne (tgt := 48) C dX10_taken_41 (by decide) (fun c => ?_) (fun c => ?_)
  · have h := h1 c
    clear h1 h2
    refine G_aload_n C dX10_taken_48 0 rfl ?_
    refine G_iload_n C dX10_taken_49 1 rfl ?_
    refine G_iconst (v := 3) C dX10_taken_50 (by decide) ?_
    refine G_callI (As := [.int l1, .int 3]) (rest := []) C dX10_taken_51 lk_X10_164 (Nat.le_of_ble_eq_true rfl) (Nat.le_of_ble_eq_true rfl) q128 (by decide) rfl (Nat.le_of_ble_eq_true rfl) rfl (S_X10_ofGroup h) (fun r10 M9 h => ?_)
    refine G_iconst (v := 1) C dX10_taken_54 (by decide) ?_
    refine G_iadd C dX10_taken_55 ?_
    refine G_goto (tgt := 60) C dX10_taken_56 (by decide) ?_
    exact s_X10_taken_J60 C R  h
  · have h := h2 c
    clear h1 h2
    refine G_iconst (v := 0) C dX10_taken_44 (by decide) ?_
    refine G_goto (tgt := 60) C dX10_taken_45 (by decide) ?_
    exact s_X10_taken_J60 C R  h
set_option maxRecDepth 100000 in
set_option maxHeartbeats 4000000 in
theorem S_X10_taken {ω : WD} {l1 : Int32} {M : Mem} {post : Int32 → Mem → Prop} (h : w_X10_taken l1 M post) : MtI ω yX10_taken cX10_taken 11 (some .int) 2 [.ref (adr ω 128), .int l1] M post := by
  refine MtI.start (ty := .int) rfl (by decide +kernel) (own := RX10) rfl (Nat.le_of_ble_eq_true rfl) (fun ρ C R => ?_)
  show G ω ρ M 0 [(0, .ref (adr ω 128)), (1, .int l1)] []
  refine G_aload_n C dX10_taken_0 0 rfl ?_
  refine G_iload_n C dX10_taken_1 1 rfl ?_
  refine G_iconst (v := 1) C dX10_taken_2 (by decide) ?_
  refine G_callI (As := [.int l1, .int 1]) (rest := []) C dX10_taken_3 lk_X10_164 (Nat.le_of_ble_eq_true rfl) (Nat.le_of_ble_eq_true rfl) q128 (by decide) rfl (Nat.le_of_ble_eq_true rfl) rfl (S_X10_ofGroup h) (fun r12 M11 h => ?_)
  refine G_istore_n C dX10_taken_6 (by decide) (lv' := [(2, .int r12), (0, .ref (adr ω 128)), (1, .int l1)]) rfl ?_
  refine G_aload_n C dX10_taken_7 1 rfl ?_
  refine G_iload_n C dX10_taken_8 2 rfl ?_
  refine G_callI (As := [.int l1]) (rest := []) C dX10_taken_9 lk_X10_167 (Nat.le_of_ble_eq_true rfl) (Nat.le_of_ble_eq_true rfl) q128 (by decide) rfl (Nat.le_of_ble_eq_true rfl) rfl (S_X10_held h) (fun r14 M13 h => ?_)
  refine G_istore_n C dX10_taken_12 (by decide) (lv' := [(3, .int r14), (2, .int r12), (0, .ref (adr ω 128)), (1, .int l1)]) rfl ?_
  refine G_aload_n C dX10_taken_13 2 rfl ?_
  refine G_iload_n C dX10_taken_14 3 rfl ?_
  refine G_iconst (v := 0) C dX10_taken_15 (by decide) ?_
  refine G_callI (As := [.int l1, .int 0]) (rest := []) C dX10_taken_16 lk_X10_164 (Nat.le_of_ble_eq_true rfl) (Nat.le_of_ble_eq_true rfl) q128 (by decide) rfl (Nat.le_of_ble_eq_true rfl) rfl (S_X10_ofGroup h) (fun r16 M15 h => ?_)
  refine G_istore C dX10_taken_19 (by decide) (lv' := [(4, .int r16), (3, .int r14), (2, .int r12), (0, .ref (adr ω 128)), (1, .int l1)]) rfl ?_
  refine G_iload C dX10_taken_21 0 rfl ?_
  refine G_iconst (v := 1) C dX10_taken_23 (by decide) ?_
  obtain ⟨h1, h2⟩ := h
  refine G_icmp_eq (tgt := 33) C dX10_taken_24 (by decide) (fun c => ?_) (fun c => ?_)
  · have h := h1 c
    clear h1 h2
    refine G_sub [3, 4, 2, 1, 0] (lv' := [(0, .ref (adr ω 128)), (1, .int l1), (2, .int r12), (3, .int r14), (4, .int r16)]) rfl ?_
    exact s_X10_taken_J33 C R  h
  · have h := h2 c
    clear h1 h2
    refine G_iload C dX10_taken_27 0 rfl ?_
    refine G_iconst (v := 3) C dX10_taken_29 (by decide) ?_
    obtain ⟨h1, h2⟩ := h
    refine G_icmp_ne (tgt := 59) C dX10_taken_30 (by decide) (fun c => ?_) (fun c => ?_)
    · have h := h1 c
      clear h1 h2
      refine G_iconst (v := 0) C dX10_taken_59 (by decide) ?_
      refine G_sub [3, 4, 2, 1, 0] (lv' := [(0, .ref (adr ω 128)), (1, .int l1), (2, .int r12), (3, .int r14), (4, .int r16)]) rfl ?_
      exact s_X10_taken_J60 C R  h
    · have h := h2 c
      clear h1 h2
      refine G_sub [3, 4, 2, 1, 0] (lv' := [(0, .ref (adr ω 128)), (1, .int l1), (2, .int r12), (3, .int r14), (4, .int r16)]) rfl ?_
      exact s_X10_taken_J33 C R  h
theorem dX10_whoHas_0 : decode cX10_whoHas 0 = .ok (.bipush (-4), 2) := by decide +kernel
theorem dX10_whoHas_2 : decode cX10_whoHas 2 = .ok (.istore_n 2, 1) := by decide +kernel
theorem dX10_whoHas_3 : decode cX10_whoHas 3 = .ok (.iconst 0, 1) := by decide +kernel
theorem dX10_whoHas_4 : decode cX10_whoHas 4 = .ok (.istore_n 3, 1) := by decide +kernel
theorem dX10_whoHas_5 : decode cX10_whoHas 5 = .ok (.iload_n 3, 1) := by decide +kernel
theorem dX10_whoHas_6 : decode cX10_whoHas 6 = .ok (.aload_n 0, 1) := by decide +kernel
theorem dX10_whoHas_7 : decode cX10_whoHas 7 = .ok (.getfield 13, 3) := by decide +kernel
theorem dX10_whoHas_10 : decode cX10_whoHas 10 = .ok (.bipush 24, 2) := by decide +kernel
theorem dX10_whoHas_12 : decode cX10_whoHas 12 = .ok (.iaload, 1) := by decide +kernel
theorem dX10_whoHas_13 : decode cX10_whoHas 13 = .ok (.if_icmp .ge 25, 3) := by decide +kernel
theorem dX10_whoHas_16 : decode cX10_whoHas 16 = .ok (.aload_n 0, 1) := by decide +kernel
theorem dX10_whoHas_17 : decode cX10_whoHas 17 = .ok (.iload_n 3, 1) := by decide +kernel
theorem dX10_whoHas_18 : decode cX10_whoHas 18 = .ok (.iconst 0, 1) := by decide +kernel
theorem dX10_whoHas_19 : decode cX10_whoHas 19 = .ok (.invokevirtual 157, 3) := by decide +kernel
theorem dX10_whoHas_22 : decode cX10_whoHas 22 = .ok (.iload_n 1, 1) := by decide +kernel
theorem dX10_whoHas_23 : decode cX10_whoHas 23 = .ok (.if_icmp .ne 7, 3) := by decide +kernel
theorem dX10_whoHas_26 : decode cX10_whoHas 26 = .ok (.iload_n 3, 1) := by decide +kernel
theorem dX10_whoHas_27 : decode cX10_whoHas 27 = .ok (.goto 4, 3) := by decide +kernel
theorem dX10_whoHas_30 : decode cX10_whoHas 30 = .ok (.iload_n 2, 1) := by decide +kernel
theorem dX10_whoHas_31 : decode cX10_whoHas 31 = .ok (.istore_n 2, 1) := by decide +kernel
theorem dX10_whoHas_32 : decode cX10_whoHas 32 = .ok (.iinc 3 1, 3) := by decide +kernel
theorem dX10_whoHas_35 : decode cX10_whoHas 35 = .ok (.goto (-30), 3) := by decide +kernel
theorem dX10_whoHas_38 : decode cX10_whoHas 38 = .ok (.iload_n 2, 1) := by decide +kernel
theorem dX10_whoHas_39 : decode cX10_whoHas 39 = .ok (.ireturn, 1) := by decide +kernel
set_option maxRecDepth 100000 in
set_option maxHeartbeats 4000000 in
theorem s_X10_whoHas_J31 {ω : WD} {ρ : FR} {post : Int32 → Mem → Prop} (C : Cx ω ρ cX10_whoHas RX10 1 4) (R : RtI ω ρ cX10_whoHas .int post) {K5 : Int32 → Int32 → Mem → Prop} {l1 : Int32} {l3 : Int32} {s0 : Int32} (k5 : ∀ (u2 : Int32) (u3 : Int32) (M : Mem), K5 u2 u3 M → G ω ρ M 5 [(0, .ref (adr ω 128)), (1, .int l1), (2, .int u2), (3, .int u3)] []) {M : Mem} (h : w_X10_whoHas_J31 post K5 l1 l3 s0 M) : G ω ρ M 31 [(0, .ref (adr ω 128)), (1, .int l1), (3, .int l3)] [.int s0] := by
  refine G_istore_n C dX10_whoHas_31 (by decide) (lv' := [(2, .int s0), (0, .ref (adr ω 128)), (1, .int l1), (3, .int l3)]) rfl ?_
  obtain ⟨v1, ev1⟩ : ∃ y : Int32, y = (l3 + 1) := ⟨_, rfl⟩
  replace h := h v1 ev1
  refine G_iinc C dX10_whoHas_32 3 rfl (v := v1) (by rw [ev1]; rfl) (by decide) (lv' := [(3, .int v1), (2, .int s0), (0, .ref (adr ω 128)), (1, .int l1)]) rfl ?_
  refine G_goto (tgt := 5) C dX10_whoHas_35 (by decide) ?_
  refine G_sub [2, 3, 1, 0] (lv' := [(0, .ref (adr ω 128)), (1, .int l1), (2, .int s0), (3, .int v1)]) rfl ?_
  exact k5 _ _ _ h
set_option maxRecDepth 100000 in
set_option maxHeartbeats 4000000 in
theorem s_X10_whoHas_L5 {ω : WD} {ρ : FR} {post : Int32 → Mem → Prop} (C : Cx ω ρ cX10_whoHas RX10 1 4) (R : RtI ω ρ cX10_whoHas .int post) {l1 : Int32} : ∀ (f : Nat) (l2 : Int32) (l3 : Int32) (M : Mem), w_X10_whoHas_L5 post l1 f l2 l3 M → G ω ρ M 5 [(0, .ref (adr ω 128)), (1, .int l1), (2, .int l2), (3, .int l3)] [] := by
  intro f
  induction f with
  | zero => intro l2 l3 M h; exact False.elim h
  | succ f k5 =>
    intro l2 l3 M h
    refine G_iload_n C dX10_whoHas_5 3 rfl ?_
    refine G_aload_n C dX10_whoHas_6 0 rfl ?_
    refine gf_X10_13 C dX10_whoHas_7 ?_
    refine G_bipush (v := 24) C dX10_whoHas_10 (by decide) ?_
    refine G_iald C q130 (vp_lit rfl) (kk := 24) (by decide +kernel) dX10_whoHas_12 ?_
    obtain ⟨h1, h2⟩ := h
    refine G_icmp_ge (tgt := 38) C dX10_whoHas_13 (by decide) (fun c => ?_) (fun c => ?_)
    · have h := h1 c
      clear h1 h2
      refine G_iload_n C dX10_whoHas_38 2 rfl ?_
      exact R 39 _ _ _ dX10_whoHas_39 rfl h
    · have h := h2 c
      clear h1 h2
      refine G_aload_n C dX10_whoHas_16 0 rfl ?_
      refine G_iload_n C dX10_whoHas_17 3 rfl ?_
      refine G_iconst (v := 0) C dX10_whoHas_18 (by decide) ?_
      refine G_callI (As := [.int l3, .int 0]) (rest := []) C dX10_whoHas_19 lk_X10_157 (Nat.le_of_ble_eq_true rfl) (Nat.le_of_ble_eq_true rfl) q128 (by decide) rfl (Nat.le_of_ble_eq_true rfl) rfl (S_X10_of h) (fun r3 M2 h => ?_)
      refine G_iload_n C dX10_whoHas_22 1 rfl ?_
      obtain ⟨h1, h2⟩ := h
      refine G_icmp_ne (tgt := 30) C dX10_whoHas_23 (by decide) (fun c => ?_) (fun c => ?_)
      · have h := h1 c
        clear h1 h2
        refine G_iload_n C dX10_whoHas_30 2 rfl ?_
        refine G_sub [0, 1, 3] (lv' := [(0, .ref (adr ω 128)), (1, .int l1), (3, .int l3)]) rfl ?_
        exact s_X10_whoHas_J31 C R k5 h
      · have h := h2 c
        clear h1 h2
        refine G_iload_n C dX10_whoHas_26 3 rfl ?_
        refine G_goto (tgt := 31) C dX10_whoHas_27 (by decide) ?_
        refine G_sub [0, 1, 3] (lv' := [(0, .ref (adr ω 128)), (1, .int l1), (3, .int l3)]) rfl ?_
        exact s_X10_whoHas_J31 C R k5 h
set_option maxRecDepth 100000 in
set_option maxHeartbeats 4000000 in
theorem S_X10_whoHas {ω : WD} {l1 : Int32} {M : Mem} {post : Int32 → Mem → Prop} (h : w_X10_whoHas l1 M post) : MtI ω yX10_whoHas cX10_whoHas 4 (some .int) 1 [.ref (adr ω 128), .int l1] M post := by
  refine MtI.start (ty := .int) rfl (by decide +kernel) (own := RX10) rfl (Nat.le_of_ble_eq_true rfl) (fun ρ C R => ?_)
  show G ω ρ M 0 [(0, .ref (adr ω 128)), (1, .int l1)] []
  refine G_bipush (v := (-4)) C dX10_whoHas_0 (by decide) ?_
  refine G_istore_n C dX10_whoHas_2 (by decide) (lv' := [(2, .int (-4)), (0, .ref (adr ω 128)), (1, .int l1)]) rfl ?_
  refine G_iconst (v := 0) C dX10_whoHas_3 (by decide) ?_
  refine G_istore_n C dX10_whoHas_4 (by decide) (lv' := [(3, .int 0), (2, .int (-4)), (0, .ref (adr ω 128)), (1, .int l1)]) rfl ?_
  refine G_sub [2, 3, 1, 0] (lv' := [(0, .ref (adr ω 128)), (1, .int l1), (2, .int (-4)), (3, .int 0)]) rfl ?_
  obtain ⟨f, h⟩ := h
  exact s_X10_whoHas_L5 C R  f _ _ _ h
theorem dX10_connects_0 : decode cX10_connects 0 = .ok (.aload_n 0, 1) := by decide +kernel
theorem dX10_connects_1 : decode cX10_connects 1 = .ok (.iload_n 1, 1) := by decide +kernel
theorem dX10_connects_2 : decode cX10_connects 2 = .ok (.iconst 1, 1) := by decide +kernel
theorem dX10_connects_3 : decode cX10_connects 3 = .ok (.iload_n 2, 1) := by decide +kernel
theorem dX10_connects_4 : decode cX10_connects 4 = .ok (.invokevirtual 173, 3) := by decide +kernel
theorem dX10_connects_7 : decode cX10_connects 7 = .ok (.aload_n 0, 1) := by decide +kernel
theorem dX10_connects_8 : decode cX10_connects 8 = .ok (.iload_n 1, 1) := by decide +kernel
theorem dX10_connects_9 : decode cX10_connects 9 = .ok (.iconst 2, 1) := by decide +kernel
theorem dX10_connects_10 : decode cX10_connects 10 = .ok (.iconst 1, 1) := by decide +kernel
theorem dX10_connects_11 : decode cX10_connects 11 = .ok (.invokevirtual 173, 3) := by decide +kernel
theorem dX10_connects_14 : decode cX10_connects 14 = .ok (.aload_n 0, 1) := by decide +kernel
theorem dX10_connects_15 : decode cX10_connects 15 = .ok (.iload_n 1, 1) := by decide +kernel
theorem dX10_connects_16 : decode cX10_connects 16 = .ok (.iconst 3, 1) := by decide +kernel
theorem dX10_connects_17 : decode cX10_connects 17 = .ok (.iload_n 3, 1) := by decide +kernel
theorem dX10_connects_18 : decode cX10_connects 18 = .ok (.invokevirtual 173, 3) := by decide +kernel
theorem dX10_connects_21 : decode cX10_connects 21 = .ok (.aload_n 0, 1) := by decide +kernel
theorem dX10_connects_22 : decode cX10_connects 22 = .ok (.iload_n 2, 1) := by decide +kernel
theorem dX10_connects_23 : decode cX10_connects 23 = .ok (.iconst 1, 1) := by decide +kernel
theorem dX10_connects_24 : decode cX10_connects 24 = .ok (.iload_n 1, 1) := by decide +kernel
theorem dX10_connects_25 : decode cX10_connects 25 = .ok (.invokevirtual 173, 3) := by decide +kernel
theorem dX10_connects_28 : decode cX10_connects 28 = .ok (.aload_n 0, 1) := by decide +kernel
theorem dX10_connects_29 : decode cX10_connects 29 = .ok (.iload_n 2, 1) := by decide +kernel
theorem dX10_connects_30 : decode cX10_connects 30 = .ok (.iconst 2, 1) := by decide +kernel
theorem dX10_connects_31 : decode cX10_connects 31 = .ok (.iconst 2, 1) := by decide +kernel
theorem dX10_connects_32 : decode cX10_connects 32 = .ok (.invokevirtual 173, 3) := by decide +kernel
theorem dX10_connects_35 : decode cX10_connects 35 = .ok (.aload_n 0, 1) := by decide +kernel
theorem dX10_connects_36 : decode cX10_connects 36 = .ok (.iload_n 2, 1) := by decide +kernel
theorem dX10_connects_37 : decode cX10_connects 37 = .ok (.iconst 3, 1) := by decide +kernel
theorem dX10_connects_38 : decode cX10_connects 38 = .ok (.iload_n 3, 1) := by decide +kernel
theorem dX10_connects_39 : decode cX10_connects 39 = .ok (.invokevirtual 173, 3) := by decide +kernel
theorem dX10_connects_42 : decode cX10_connects 42 = .ok (.return_, 1) := by decide +kernel
theorem lk_X10_173 : LkV RX10 173 RX10 yX10_becomesOf cX10_becomesOf 4 none 3 := LkV.of 1280 1282 46 71 1283 (by decide +kernel) (by decide +kernel) (by decide +kernel) (by decide +kernel) (by decide +kernel) (by decide +kernel)
set_option maxRecDepth 100000 in
set_option maxHeartbeats 4000000 in
theorem S_X10_connects {ω : WD} {l1 : Int32} {l2 : Int32} {l3 : Int32} {M : Mem} {post : Mem → Prop} (h : w_X10_connects l1 l2 l3 M post) : MtV ω yX10_connects cX10_connects 4 none 1 [.ref (adr ω 128), .int l1, .int l2, .int l3] M post := by
  refine MtV.start rfl (by decide +kernel) (own := RX10) rfl (Nat.le_of_ble_eq_true rfl) (fun ρ C R => ?_)
  show G ω ρ M 0 [(0, .ref (adr ω 128)), (1, .int l1), (2, .int l2), (3, .int l3)] []
  refine G_aload_n C dX10_connects_0 0 rfl ?_
  refine G_iload_n C dX10_connects_1 1 rfl ?_
  refine G_iconst (v := 1) C dX10_connects_2 (by decide) ?_
  refine G_iload_n C dX10_connects_3 2 rfl ?_
  refine G_callV (As := [.int l1, .int 1, .int l2]) (rest := []) C dX10_connects_4 lk_X10_173 (Nat.le_of_ble_eq_true rfl) (Nat.le_of_ble_eq_true rfl) q128 (by decide) rfl (Nat.le_of_ble_eq_true rfl) rfl (S_X10_becomesOf h) (fun M1 h => ?_)
  refine G_aload_n C dX10_connects_7 0 rfl ?_
  refine G_iload_n C dX10_connects_8 1 rfl ?_
  refine G_iconst (v := 2) C dX10_connects_9 (by decide) ?_
  refine G_iconst (v := 1) C dX10_connects_10 (by decide) ?_
  refine G_callV (As := [.int l1, .int 2, .int 1]) (rest := []) C dX10_connects_11 lk_X10_173 (Nat.le_of_ble_eq_true rfl) (Nat.le_of_ble_eq_true rfl) q128 (by decide) rfl (Nat.le_of_ble_eq_true rfl) rfl (S_X10_becomesOf h) (fun M2 h => ?_)
  refine G_aload_n C dX10_connects_14 0 rfl ?_
  refine G_iload_n C dX10_connects_15 1 rfl ?_
  refine G_iconst (v := 3) C dX10_connects_16 (by decide) ?_
  refine G_iload_n C dX10_connects_17 3 rfl ?_
  refine G_callV (As := [.int l1, .int 3, .int l3]) (rest := []) C dX10_connects_18 lk_X10_173 (Nat.le_of_ble_eq_true rfl) (Nat.le_of_ble_eq_true rfl) q128 (by decide) rfl (Nat.le_of_ble_eq_true rfl) rfl (S_X10_becomesOf h) (fun M3 h => ?_)
  refine G_aload_n C dX10_connects_21 0 rfl ?_
  refine G_iload_n C dX10_connects_22 2 rfl ?_
  refine G_iconst (v := 1) C dX10_connects_23 (by decide) ?_
  refine G_iload_n C dX10_connects_24 1 rfl ?_
  refine G_callV (As := [.int l2, .int 1, .int l1]) (rest := []) C dX10_connects_25 lk_X10_173 (Nat.le_of_ble_eq_true rfl) (Nat.le_of_ble_eq_true rfl) q128 (by decide) rfl (Nat.le_of_ble_eq_true rfl) rfl (S_X10_becomesOf h) (fun M4 h => ?_)
  refine G_aload_n C dX10_connects_28 0 rfl ?_
  refine G_iload_n C dX10_connects_29 2 rfl ?_
  refine G_iconst (v := 2) C dX10_connects_30 (by decide) ?_
  refine G_iconst (v := 2) C dX10_connects_31 (by decide) ?_
  refine G_callV (As := [.int l2, .int 2, .int 2]) (rest := []) C dX10_connects_32 lk_X10_173 (Nat.le_of_ble_eq_true rfl) (Nat.le_of_ble_eq_true rfl) q128 (by decide) rfl (Nat.le_of_ble_eq_true rfl) rfl (S_X10_becomesOf h) (fun M5 h => ?_)
  refine G_aload_n C dX10_connects_35 0 rfl ?_
  refine G_iload_n C dX10_connects_36 2 rfl ?_
  refine G_iconst (v := 3) C dX10_connects_37 (by decide) ?_
  refine G_iload_n C dX10_connects_38 3 rfl ?_
  refine G_callV (As := [.int l2, .int 3, .int l3]) (rest := []) C dX10_connects_39 lk_X10_173 (Nat.le_of_ble_eq_true rfl) (Nat.le_of_ble_eq_true rfl) q128 (by decide) rfl (Nat.le_of_ble_eq_true rfl) rfl (S_X10_becomesOf h) (fun M6 h => ?_)
  exact R 42 _ _ dX10_connects_42 h
theorem dX10_dials_0 : decode cX10_dials 0 = .ok (.iload_n 2, 1) := by decide +kernel
theorem dX10_dials_1 : decode cX10_dials 1 = .ok (.bipush 10, 2) := by decide +kernel
theorem dX10_dials_3 : decode cX10_dials 3 = .ok (.idiv, 1) := by decide +kernel
theorem dX10_dials_4 : decode cX10_dials 4 = .ok (.istore_n 3, 1) := by decide +kernel
theorem dX10_dials_5 : decode cX10_dials 5 = .ok (.aload_n 0, 1) := by decide +kernel
theorem dX10_dials_6 : decode cX10_dials 6 = .ok (.invokevirtual 177, 3) := by decide +kernel
theorem dX10_dials_9 : decode cX10_dials 9 = .ok (.aload_n 0, 1) := by decide +kernel
theorem dX10_dials_10 : decode cX10_dials 10 = .ok (.getfield 13, 3) := by decide +kernel
theorem dX10_dials_13 : decode cX10_dials 13 = .ok (.bipush 25, 2) := by decide +kernel
theorem dX10_dials_15 : decode cX10_dials 15 = .ok (.iaload, 1) := by decide +kernel
theorem dX10_dials_16 : decode cX10_dials 16 = .ok (.if_icmp .lt 5, 3) := by decide +kernel
theorem dX10_dials_19 : decode cX10_dials 19 = .ok (.iconst 1, 1) := by decide +kernel
theorem dX10_dials_20 : decode cX10_dials 20 = .ok (.ireturn, 1) := by decide +kernel
theorem dX10_dials_21 : decode cX10_dials 21 = .ok (.aload_n 0, 1) := by decide +kernel
theorem dX10_dials_22 : decode cX10_dials 22 = .ok (.iload_n 3, 1) := by decide +kernel
theorem dX10_dials_23 : decode cX10_dials 23 = .ok (.invokevirtual 180, 3) := by decide +kernel
theorem dX10_dials_26 : decode cX10_dials 26 = .ok (.istore 4, 2) := by decide +kernel
theorem dX10_dials_28 : decode cX10_dials 28 = .ok (.iload 4, 2) := by decide +kernel
theorem dX10_dials_30 : decode cX10_dials 30 = .ok (.bipush (-4), 2) := by decide +kernel
theorem dX10_dials_32 : decode cX10_dials 32 = .ok (.if_icmp .ne 5, 3) := by decide +kernel
theorem dX10_dials_35 : decode cX10_dials 35 = .ok (.iconst 2, 1) := by decide +kernel
theorem dX10_dials_36 : decode cX10_dials 36 = .ok (.ireturn, 1) := by decide +kernel
theorem dX10_dials_37 : decode cX10_dials 37 = .ok (.aload_n 0, 1) := by decide +kernel
theorem dX10_dials_38 : decode cX10_dials 38 = .ok (.iload_n 3, 1) := by decide +kernel
theorem dX10_dials_39 : decode cX10_dials 39 = .ok (.iconst 3, 1) := by decide +kernel
theorem dX10_dials_40 : decode cX10_dials 40 = .ok (.iload 4, 2) := by decide +kernel
theorem dX10_dials_42 : decode cX10_dials 42 = .ok (.invokevirtual 183, 3) := by decide +kernel
theorem dX10_dials_45 : decode cX10_dials 45 = .ok (.aload_n 0, 1) := by decide +kernel
theorem dX10_dials_46 : decode cX10_dials 46 = .ok (.getfield 13, 3) := by decide +kernel
theorem dX10_dials_49 : decode cX10_dials 49 = .ok (.bipush 46, 2) := by decide +kernel
theorem dX10_dials_51 : decode cX10_dials 51 = .ok (.iconst 4, 1) := by decide +kernel
theorem dX10_dials_52 : decode cX10_dials 52 = .ok (.iload_n 3, 1) := by decide +kernel
theorem dX10_dials_53 : decode cX10_dials 53 = .ok (.imul, 1) := by decide +kernel
theorem dX10_dials_54 : decode cX10_dials 54 = .ok (.iadd, 1) := by decide +kernel
theorem dX10_dials_55 : decode cX10_dials 55 = .ok (.iload 4, 2) := by decide +kernel
theorem dX10_dials_57 : decode cX10_dials 57 = .ok (.iadd, 1) := by decide +kernel
theorem dX10_dials_58 : decode cX10_dials 58 = .ok (.dup2, 1) := by decide +kernel
theorem dX10_dials_59 : decode cX10_dials 59 = .ok (.iaload, 1) := by decide +kernel
theorem dX10_dials_60 : decode cX10_dials 60 = .ok (.iconst 1, 1) := by decide +kernel
theorem dX10_dials_61 : decode cX10_dials 61 = .ok (.iadd, 1) := by decide +kernel
theorem dX10_dials_62 : decode cX10_dials 62 = .ok (.iastore, 1) := by decide +kernel
theorem dX10_dials_63 : decode cX10_dials 63 = .ok (.aload_n 0, 1) := by decide +kernel
theorem dX10_dials_64 : decode cX10_dials 64 = .ok (.iload_n 3, 1) := by decide +kernel
theorem dX10_dials_65 : decode cX10_dials 65 = .ok (.iconst 2, 1) := by decide +kernel
theorem dX10_dials_66 : decode cX10_dials 66 = .ok (.invokevirtual 164, 3) := by decide +kernel
theorem dX10_dials_69 : decode cX10_dials 69 = .ok (.iload 4, 2) := by decide +kernel
theorem dX10_dials_71 : decode cX10_dials 71 = .ok (.ishr, 1) := by decide +kernel
theorem dX10_dials_72 : decode cX10_dials 72 = .ok (.iconst 1, 1) := by decide +kernel
theorem dX10_dials_73 : decode cX10_dials 73 = .ok (.iand, 1) := by decide +kernel
theorem dX10_dials_74 : decode cX10_dials 74 = .ok (.iconst 1, 1) := by decide +kernel
theorem dX10_dials_75 : decode cX10_dials 75 = .ok (.if_icmp .ne 5, 3) := by decide +kernel
theorem dX10_dials_78 : decode cX10_dials 78 = .ok (.iconst 3, 1) := by decide +kernel
theorem dX10_dials_79 : decode cX10_dials 79 = .ok (.ireturn, 1) := by decide +kernel
theorem dX10_dials_80 : decode cX10_dials 80 = .ok (.aload_n 0, 1) := by decide +kernel
theorem dX10_dials_81 : decode cX10_dials 81 = .ok (.iload_n 2, 1) := by decide +kernel
theorem dX10_dials_82 : decode cX10_dials 82 = .ok (.invokevirtual 186, 3) := by decide +kernel
theorem dX10_dials_85 : decode cX10_dials 85 = .ok (.istore 5, 2) := by decide +kernel
theorem dX10_dials_87 : decode cX10_dials 87 = .ok (.iload 5, 2) := by decide +kernel
theorem dX10_dials_89 : decode cX10_dials 89 = .ok (.bipush (-4), 2) := by decide +kernel
theorem dX10_dials_91 : decode cX10_dials 91 = .ok (.if_icmp .ne 5, 3) := by decide +kernel
theorem dX10_dials_94 : decode cX10_dials 94 = .ok (.iconst 4, 1) := by decide +kernel
theorem dX10_dials_95 : decode cX10_dials 95 = .ok (.ireturn, 1) := by decide +kernel
theorem dX10_dials_96 : decode cX10_dials 96 = .ok (.iload 5, 2) := by decide +kernel
theorem dX10_dials_98 : decode cX10_dials 98 = .ok (.iload_n 1, 1) := by decide +kernel
theorem dX10_dials_99 : decode cX10_dials 99 = .ok (.if_icmp .eq 13, 3) := by decide +kernel
theorem dX10_dials_102 : decode cX10_dials 102 = .ok (.aload_n 0, 1) := by decide +kernel
theorem dX10_dials_103 : decode cX10_dials 103 = .ok (.iload 5, 2) := by decide +kernel
theorem dX10_dials_105 : decode cX10_dials 105 = .ok (.iconst 2, 1) := by decide +kernel
theorem dX10_dials_106 : decode cX10_dials 106 = .ok (.invokevirtual 157, 3) := by decide +kernel
theorem dX10_dials_109 : decode cX10_dials 109 = .ok (.ifCond .eq 5, 3) := by decide +kernel
theorem dX10_dials_112 : decode cX10_dials 112 = .ok (.iconst 5, 1) := by decide +kernel
theorem dX10_dials_113 : decode cX10_dials 113 = .ok (.ireturn, 1) := by decide +kernel
theorem dX10_dials_114 : decode cX10_dials 114 = .ok (.aload_n 0, 1) := by decide +kernel
theorem dX10_dials_115 : decode cX10_dials 115 = .ok (.iload_n 1, 1) := by decide +kernel
theorem dX10_dials_116 : decode cX10_dials 116 = .ok (.iload 5, 2) := by decide +kernel
theorem dX10_dials_118 : decode cX10_dials 118 = .ok (.bipush 10, 2) := by decide +kernel
theorem dX10_dials_120 : decode cX10_dials 120 = .ok (.iload_n 3, 1) := by decide +kernel
theorem dX10_dials_121 : decode cX10_dials 121 = .ok (.imul, 1) := by decide +kernel
theorem dX10_dials_122 : decode cX10_dials 122 = .ok (.iload 4, 2) := by decide +kernel
theorem dX10_dials_124 : decode cX10_dials 124 = .ok (.iadd, 1) := by decide +kernel
theorem dX10_dials_125 : decode cX10_dials 125 = .ok (.invokevirtual 189, 3) := by decide +kernel
theorem dX10_dials_128 : decode cX10_dials 128 = .ok (.iconst 0, 1) := by decide +kernel
theorem dX10_dials_129 : decode cX10_dials 129 = .ok (.ireturn, 1) := by decide +kernel
theorem lk_X10_177 : LkV RX10 177 RX10 yX10_callsNow cX10_callsNow 3 (some .int) 0 := LkV.of 1164 1166 31 71 1167 (by decide +kernel) (by decide +kernel) (by decide +kernel) (by decide +kernel) (by decide +kernel) (by decide +kernel)
theorem lk_X10_180 : LkV RX10 180 RX10 yX10_taken cX10_taken 11 (some .int) 1 := LkV.of 1196 1198 36 71 1199 (by decide +kernel) (by decide +kernel) (by decide +kernel) (by decide +kernel) (by decide +kernel) (by decide +kernel)
theorem lk_X10_183 : LkV RX10 183 RX10 yX10_becomesOfGroup cX10_becomesOfGroup 4 none 3 := LkV.of 1248 1250 42 71 1251 (by decide +kernel) (by decide +kernel) (by decide +kernel) (by decide +kernel) (by decide +kernel) (by decide +kernel)
theorem lk_X10_186 : LkV RX10 186 RX10 yX10_whoHas cX10_whoHas 4 (some .int) 1 := LkV.of 1223 1225 39 71 1226 (by decide +kernel) (by decide +kernel) (by decide +kernel) (by decide +kernel) (by decide +kernel) (by decide +kernel)
theorem lk_X10_189 : LkV RX10 189 RX10 yX10_connects cX10_connects 4 none 3 := LkV.of 1276 1278 45 71 1279 (by decide +kernel) (by decide +kernel) (by decide +kernel) (by decide +kernel) (by decide +kernel) (by decide +kernel)
set_option maxRecDepth 100000 in
set_option maxHeartbeats 4000000 in
theorem S_X10_dials {ω : WD} {l1 : Int32} {l2 : Int32} {M : Mem} {post : Int32 → Mem → Prop} (h : w_X10_dials l1 l2 M post) : MtI ω yX10_dials cX10_dials 6 (some .int) 3 [.ref (adr ω 128), .int l1, .int l2] M post := by
  refine MtI.start (ty := .int) rfl (by decide +kernel) (own := RX10) rfl (Nat.le_of_ble_eq_true rfl) (fun ρ C R => ?_)
  show G ω ρ M 0 [(0, .ref (adr ω 128)), (1, .int l1), (2, .int l2)] []
  refine G_iload_n C dX10_dials_0 2 rfl ?_
  refine G_bipush (v := 10) C dX10_dials_1 (by decide) ?_
  refine G_idiv C dX10_dials_3 (by decide) ?_
  refine G_iname (fun v1 ev1 => ?_)
  replace h := h v1 ev1
  refine G_istore_n C dX10_dials_4 (by decide) (lv' := [(3, .int v1), (0, .ref (adr ω 128)), (1, .int l1), (2, .int l2)]) rfl ?_
  refine G_aload_n C dX10_dials_5 1 rfl ?_
  refine G_callI (As := []) (rest := []) C dX10_dials_6 lk_X10_177 (Nat.le_of_ble_eq_true rfl) (Nat.le_of_ble_eq_true rfl) q128 (by decide) rfl (Nat.le_of_ble_eq_true rfl) rfl (S_X10_callsNow h) (fun r3 M2 h => ?_)
  refine G_aload_n C dX10_dials_9 1 rfl ?_
  refine gf_X10_13 C dX10_dials_10 ?_
  refine G_bipush (v := 25) C dX10_dials_13 (by decide) ?_
  refine G_iald C q130 (vp_lit rfl) (kk := 25) (by decide +kernel) dX10_dials_15 ?_
  obtain ⟨h1, h2⟩ := h
  refine G_icmp_lt (tgt := 21) C dX10_dials_16 (by decide) (fun c => ?_) (fun c => ?_)
  · have h := h1 c
    clear h1 h2
    refine G_aload_n C dX10_dials_21 1 rfl ?_
    refine G_iload_n C dX10_dials_22 0 rfl ?_
    refine G_callI (As := [.int v1]) (rest := []) C dX10_dials_23 lk_X10_180 (Nat.le_of_ble_eq_true rfl) (Nat.le_of_ble_eq_true rfl) q128 (by decide) rfl (Nat.le_of_ble_eq_true rfl) rfl (S_X10_taken h) (fun r5 M4 h => ?_)
    refine G_istore C dX10_dials_26 (by decide) (lv' := [(4, .int r5), (3, .int v1), (0, .ref (adr ω 128)), (1, .int l1), (2, .int l2)]) rfl ?_
    refine G_iload C dX10_dials_28 0 rfl ?_
    refine G_bipush (v := (-4)) C dX10_dials_30 (by decide) ?_
    obtain ⟨h1, h2⟩ := h
    refine G_icmp_ne (tgt := 37) C dX10_dials_32 (by decide) (fun c => ?_) (fun c => ?_)
    · have h := h1 c
      clear h1 h2
      refine G_aload_n C dX10_dials_37 2 rfl ?_
      refine G_iload_n C dX10_dials_38 1 rfl ?_
      refine G_iconst (v := 3) C dX10_dials_39 (by decide) ?_
      refine G_iload C dX10_dials_40 0 rfl ?_
      refine G_callV (As := [.int v1, .int 3, .int r5]) (rest := []) C dX10_dials_42 lk_X10_183 (Nat.le_of_ble_eq_true rfl) (Nat.le_of_ble_eq_true rfl) q128 (by decide) rfl (Nat.le_of_ble_eq_true rfl) rfl (S_X10_becomesOfGroup h) (fun M6 h => ?_)
      refine G_aload_n C dX10_dials_45 2 rfl ?_
      refine gf_X10_13 C dX10_dials_46 ?_
      refine G_bipush (v := 46) C dX10_dials_49 (by decide) ?_
      refine G_iconst (v := 4) C dX10_dials_51 (by decide) ?_
      refine G_iload_n C dX10_dials_52 1 rfl ?_
      refine G_imul C dX10_dials_53 ?_
      refine G_iadd C dX10_dials_54 ?_
      refine G_iload C dX10_dials_55 0 rfl ?_
      refine G_iadd C dX10_dials_57 ?_
      refine G_dup2 C dX10_dials_58 rfl rfl ?_
      obtain ⟨hi, h⟩ := h
      refine G_iald C q130 hi rfl dX10_dials_59 ?_
      refine G_iconst (v := 1) C dX10_dials_60 (by decide) ?_
      refine G_iadd C dX10_dials_61 ?_
      obtain ⟨hi, h⟩ := h
      refine G_iast C q130 hi rfl dX10_dials_62 (G_mname (fun M7 eM7 => ?_))
      replace h := h M7 eM7
      refine G_aload_n C dX10_dials_63 2 rfl ?_
      refine G_iload_n C dX10_dials_64 1 rfl ?_
      refine G_iconst (v := 2) C dX10_dials_65 (by decide) ?_
      refine G_callI (As := [.int v1, .int 2]) (rest := []) C dX10_dials_66 lk_X10_164 (Nat.le_of_ble_eq_true rfl) (Nat.le_of_ble_eq_true rfl) q128 (by decide) rfl (Nat.le_of_ble_eq_true rfl) rfl (S_X10_ofGroup h) (fun r9 M8 h => ?_)
      refine G_iload C dX10_dials_69 0 rfl ?_
      refine G_ishr C dX10_dials_71 ?_
      refine G_iconst (v := 1) C dX10_dials_72 (by decide) ?_
      refine G_iand C dX10_dials_73 ?_
      refine G_iconst (v := 1) C dX10_dials_74 (by decide) ?_
      obtain ⟨h1, h2⟩ := h
      refine G_icmp_ne (tgt := 80) C dX10_dials_75 (by decide) (fun c => ?_) (fun c => ?_)
      · have h := h1 c
        clear h1 h2
        refine G_aload_n C dX10_dials_80 2 rfl ?_
        refine G_iload_n C dX10_dials_81 4 rfl ?_
        refine G_callI (As := [.int l2]) (rest := []) C dX10_dials_82 lk_X10_186 (Nat.le_of_ble_eq_true rfl) (Nat.le_of_ble_eq_true rfl) q128 (by decide) rfl (Nat.le_of_ble_eq_true rfl) rfl (S_X10_whoHas h) (fun r11 M10 h => ?_)
        refine G_istore C dX10_dials_85 (by decide) (lv' := [(5, .int r11), (4, .int r5), (3, .int v1), (0, .ref (adr ω 128)), (1, .int l1), (2, .int l2)]) rfl ?_
        refine G_iload C dX10_dials_87 0 rfl ?_
        refine G_bipush (v := (-4)) C dX10_dials_89 (by decide) ?_
        obtain ⟨h1, h2⟩ := h
        refine G_icmp_ne (tgt := 96) C dX10_dials_91 (by decide) (fun c => ?_) (fun c => ?_)
        · have h := h1 c
          clear h1 h2
          refine G_iload C dX10_dials_96 0 rfl ?_
          refine G_iload_n C dX10_dials_98 4 rfl ?_
          obtain ⟨h1, h2⟩ := h
          refine G_icmp_eq (tgt := 112) C dX10_dials_99 (by decide) (fun c => ?_) (fun c => ?_)
          · have h := h1 c
            clear h1 h2
            refine G_iconst (v := 5) C dX10_dials_112 (by decide) ?_
            exact R 113 _ _ _ dX10_dials_113 rfl h
          · have h := h2 c
            clear h1 h2
            refine G_aload_n C dX10_dials_102 3 rfl ?_
            refine G_iload C dX10_dials_103 0 rfl ?_
            refine G_iconst (v := 2) C dX10_dials_105 (by decide) ?_
            refine G_callI (As := [.int r11, .int 2]) (rest := []) C dX10_dials_106 lk_X10_157 (Nat.le_of_ble_eq_true rfl) (Nat.le_of_ble_eq_true rfl) q128 (by decide) rfl (Nat.le_of_ble_eq_true rfl) rfl (S_X10_of h) (fun r13 M12 h => ?_)
            obtain ⟨h1, h2⟩ := h
            refine G_if_eq (tgt := 114) C dX10_dials_109 (by decide) (fun c => ?_) (fun c => ?_)
            · have h := h1 c
              clear h1 h2
              refine G_aload_n C dX10_dials_114 3 rfl ?_
              refine G_iload_n C dX10_dials_115 4 rfl ?_
              refine G_iload C dX10_dials_116 0 rfl ?_
              refine G_bipush (v := 10) C dX10_dials_118 (by decide) ?_
              refine G_iload_n C dX10_dials_120 2 rfl ?_
              refine G_imul C dX10_dials_121 ?_
              refine G_iload C dX10_dials_122 1 rfl ?_
              refine G_iadd C dX10_dials_124 ?_
              refine G_callV (As := [.int l1, .int r11, .int ((10 * v1) + r5)]) (rest := []) C dX10_dials_125 lk_X10_189 (Nat.le_of_ble_eq_true rfl) (Nat.le_of_ble_eq_true rfl) q128 (by decide) rfl (Nat.le_of_ble_eq_true rfl) rfl (S_X10_connects h) (fun M14 h => ?_)
              refine G_iconst (v := 0) C dX10_dials_128 (by decide) ?_
              exact R 129 _ _ _ dX10_dials_129 rfl h
            · have h := h2 c
              clear h1 h2
              refine G_iconst (v := 5) C dX10_dials_112 (by decide) ?_
              exact R 113 _ _ _ dX10_dials_113 rfl h
        · have h := h2 c
          clear h1 h2
          refine G_iconst (v := 4) C dX10_dials_94 (by decide) ?_
          exact R 95 _ _ _ dX10_dials_95 rfl h
      · have h := h2 c
        clear h1 h2
        refine G_iconst (v := 3) C dX10_dials_78 (by decide) ?_
        exact R 79 _ _ _ dX10_dials_79 rfl h
    · have h := h2 c
      clear h1 h2
      refine G_iconst (v := 2) C dX10_dials_35 (by decide) ?_
      exact R 36 _ _ _ dX10_dials_36 rfl h
  · have h := h2 c
    clear h1 h2
    refine G_iconst (v := 1) C dX10_dials_19 (by decide) ?_
    exact R 20 _ _ _ dX10_dials_20 rfl h
theorem dX10_leaves_0 : decode cX10_leaves 0 = .ok (.aload_n 0, 1) := by decide +kernel
theorem dX10_leaves_1 : decode cX10_leaves 1 = .ok (.iload_n 1, 1) := by decide +kernel
theorem dX10_leaves_2 : decode cX10_leaves 2 = .ok (.iconst 1, 1) := by decide +kernel
theorem dX10_leaves_3 : decode cX10_leaves 3 = .ok (.bipush (-4), 2) := by decide +kernel
theorem dX10_leaves_5 : decode cX10_leaves 5 = .ok (.invokevirtual 173, 3) := by decide +kernel
theorem dX10_leaves_8 : decode cX10_leaves 8 = .ok (.aload_n 0, 1) := by decide +kernel
theorem dX10_leaves_9 : decode cX10_leaves 9 = .ok (.iload_n 1, 1) := by decide +kernel
theorem dX10_leaves_10 : decode cX10_leaves 10 = .ok (.iconst 2, 1) := by decide +kernel
theorem dX10_leaves_11 : decode cX10_leaves 11 = .ok (.iconst 0, 1) := by decide +kernel
theorem dX10_leaves_12 : decode cX10_leaves 12 = .ok (.invokevirtual 173, 3) := by decide +kernel
theorem dX10_leaves_15 : decode cX10_leaves 15 = .ok (.aload_n 0, 1) := by decide +kernel
theorem dX10_leaves_16 : decode cX10_leaves 16 = .ok (.iload_n 1, 1) := by decide +kernel
theorem dX10_leaves_17 : decode cX10_leaves 17 = .ok (.iconst 3, 1) := by decide +kernel
theorem dX10_leaves_18 : decode cX10_leaves 18 = .ok (.bipush (-4), 2) := by decide +kernel
theorem dX10_leaves_20 : decode cX10_leaves 20 = .ok (.invokevirtual 173, 3) := by decide +kernel
theorem dX10_leaves_23 : decode cX10_leaves 23 = .ok (.return_, 1) := by decide +kernel
set_option maxRecDepth 100000 in
set_option maxHeartbeats 4000000 in
theorem S_X10_leaves {ω : WD} {l1 : Int32} {M : Mem} {post : Mem → Prop} (h : w_X10_leaves l1 M post) : MtV ω yX10_leaves cX10_leaves 2 none 1 [.ref (adr ω 128), .int l1] M post := by
  refine MtV.start rfl (by decide +kernel) (own := RX10) rfl (Nat.le_of_ble_eq_true rfl) (fun ρ C R => ?_)
  show G ω ρ M 0 [(0, .ref (adr ω 128)), (1, .int l1)] []
  refine G_aload_n C dX10_leaves_0 0 rfl ?_
  refine G_iload_n C dX10_leaves_1 1 rfl ?_
  refine G_iconst (v := 1) C dX10_leaves_2 (by decide) ?_
  refine G_bipush (v := (-4)) C dX10_leaves_3 (by decide) ?_
  refine G_callV (As := [.int l1, .int 1, .int (-4)]) (rest := []) C dX10_leaves_5 lk_X10_173 (Nat.le_of_ble_eq_true rfl) (Nat.le_of_ble_eq_true rfl) q128 (by decide) rfl (Nat.le_of_ble_eq_true rfl) rfl (S_X10_becomesOf h) (fun M1 h => ?_)
  refine G_aload_n C dX10_leaves_8 0 rfl ?_
  refine G_iload_n C dX10_leaves_9 1 rfl ?_
  refine G_iconst (v := 2) C dX10_leaves_10 (by decide) ?_
  refine G_iconst (v := 0) C dX10_leaves_11 (by decide) ?_
  refine G_callV (As := [.int l1, .int 2, .int 0]) (rest := []) C dX10_leaves_12 lk_X10_173 (Nat.le_of_ble_eq_true rfl) (Nat.le_of_ble_eq_true rfl) q128 (by decide) rfl (Nat.le_of_ble_eq_true rfl) rfl (S_X10_becomesOf h) (fun M2 h => ?_)
  refine G_aload_n C dX10_leaves_15 0 rfl ?_
  refine G_iload_n C dX10_leaves_16 1 rfl ?_
  refine G_iconst (v := 3) C dX10_leaves_17 (by decide) ?_
  refine G_bipush (v := (-4)) C dX10_leaves_18 (by decide) ?_
  refine G_callV (As := [.int l1, .int 3, .int (-4)]) (rest := []) C dX10_leaves_20 lk_X10_173 (Nat.le_of_ble_eq_true rfl) (Nat.le_of_ble_eq_true rfl) q128 (by decide) rfl (Nat.le_of_ble_eq_true rfl) rfl (S_X10_becomesOf h) (fun M3 h => ?_)
  exact R 23 _ _ dX10_leaves_23 h
theorem dX10_hangsUp_0 : decode cX10_hangsUp 0 = .ok (.aload_n 0, 1) := by decide +kernel
theorem dX10_hangsUp_1 : decode cX10_hangsUp 1 = .ok (.iload_n 1, 1) := by decide +kernel
theorem dX10_hangsUp_2 : decode cX10_hangsUp 2 = .ok (.iconst 1, 1) := by decide +kernel
theorem dX10_hangsUp_3 : decode cX10_hangsUp 3 = .ok (.invokevirtual 157, 3) := by decide +kernel
theorem dX10_hangsUp_6 : decode cX10_hangsUp 6 = .ok (.istore_n 2, 1) := by decide +kernel
theorem dX10_hangsUp_7 : decode cX10_hangsUp 7 = .ok (.aload_n 0, 1) := by decide +kernel
theorem dX10_hangsUp_8 : decode cX10_hangsUp 8 = .ok (.iload_n 1, 1) := by decide +kernel
theorem dX10_hangsUp_9 : decode cX10_hangsUp 9 = .ok (.invokevirtual 192, 3) := by decide +kernel
theorem dX10_hangsUp_12 : decode cX10_hangsUp 12 = .ok (.aload_n 0, 1) := by decide +kernel
theorem dX10_hangsUp_13 : decode cX10_hangsUp 13 = .ok (.iload_n 2, 1) := by decide +kernel
theorem dX10_hangsUp_14 : decode cX10_hangsUp 14 = .ok (.invokevirtual 192, 3) := by decide +kernel
theorem dX10_hangsUp_17 : decode cX10_hangsUp 17 = .ok (.return_, 1) := by decide +kernel
theorem lk_X10_192 : LkV RX10 192 RX10 yX10_leaves cX10_leaves 2 none 1 := LkV.of 1292 1294 48 71 1295 (by decide +kernel) (by decide +kernel) (by decide +kernel) (by decide +kernel) (by decide +kernel) (by decide +kernel)
set_option maxRecDepth 100000 in
set_option maxHeartbeats 4000000 in
theorem S_X10_hangsUp {ω : WD} {l1 : Int32} {M : Mem} {post : Mem → Prop} (h : w_X10_hangsUp l1 M post) : MtV ω yX10_hangsUp cX10_hangsUp 3 none 2 [.ref (adr ω 128), .int l1] M post := by
  refine MtV.start rfl (by decide +kernel) (own := RX10) rfl (Nat.le_of_ble_eq_true rfl) (fun ρ C R => ?_)
  show G ω ρ M 0 [(0, .ref (adr ω 128)), (1, .int l1)] []
  refine G_aload_n C dX10_hangsUp_0 0 rfl ?_
  refine G_iload_n C dX10_hangsUp_1 1 rfl ?_
  refine G_iconst (v := 1) C dX10_hangsUp_2 (by decide) ?_
  refine G_callI (As := [.int l1, .int 1]) (rest := []) C dX10_hangsUp_3 lk_X10_157 (Nat.le_of_ble_eq_true rfl) (Nat.le_of_ble_eq_true rfl) q128 (by decide) rfl (Nat.le_of_ble_eq_true rfl) rfl (S_X10_of h) (fun r2 M1 h => ?_)
  refine G_istore_n C dX10_hangsUp_6 (by decide) (lv' := [(2, .int r2), (0, .ref (adr ω 128)), (1, .int l1)]) rfl ?_
  refine G_aload_n C dX10_hangsUp_7 1 rfl ?_
  refine G_iload_n C dX10_hangsUp_8 2 rfl ?_
  refine G_callV (As := [.int l1]) (rest := []) C dX10_hangsUp_9 lk_X10_192 (Nat.le_of_ble_eq_true rfl) (Nat.le_of_ble_eq_true rfl) q128 (by decide) rfl (Nat.le_of_ble_eq_true rfl) rfl (S_X10_leaves h) (fun M3 h => ?_)
  refine G_aload_n C dX10_hangsUp_12 1 rfl ?_
  refine G_iload_n C dX10_hangsUp_13 0 rfl ?_
  refine G_callV (As := [.int r2]) (rest := []) C dX10_hangsUp_14 lk_X10_192 (Nat.le_of_ble_eq_true rfl) (Nat.le_of_ble_eq_true rfl) q128 (by decide) rfl (Nat.le_of_ble_eq_true rfl) rfl (S_X10_leaves h) (fun M4 h => ?_)
  exact R 17 _ _ dX10_hangsUp_17 h
theorem dX10_acts_0 : decode cX10_acts 0 = .ok (.aload_n 0, 1) := by decide +kernel
theorem dX10_acts_1 : decode cX10_acts 1 = .ok (.iload_n 1, 1) := by decide +kernel
theorem dX10_acts_2 : decode cX10_acts 2 = .ok (.iconst 2, 1) := by decide +kernel
theorem dX10_acts_3 : decode cX10_acts 3 = .ok (.invokevirtual 157, 3) := by decide +kernel
theorem dX10_acts_6 : decode cX10_acts 6 = .ok (.ifCond .eq 7, 3) := by decide +kernel
theorem dX10_acts_9 : decode cX10_acts 9 = .ok (.iconst 1, 1) := by decide +kernel
theorem dX10_acts_10 : decode cX10_acts 10 = .ok (.goto 4, 3) := by decide +kernel
theorem dX10_acts_13 : decode cX10_acts 13 = .ok (.iconst 0, 1) := by decide +kernel
theorem dX10_acts_14 : decode cX10_acts 14 = .ok (.istore_n 3, 1) := by decide +kernel
theorem dX10_acts_15 : decode cX10_acts 15 = .ok (.iload_n 3, 1) := by decide +kernel
theorem dX10_acts_16 : decode cX10_acts 16 = .ok (.iload_n 2, 1) := by decide +kernel
theorem dX10_acts_17 : decode cX10_acts 17 = .ok (.bipush 99, 2) := by decide +kernel
theorem dX10_acts_19 : decode cX10_acts 19 = .ok (.if_icmp .ne 7, 3) := by decide +kernel
theorem dX10_acts_22 : decode cX10_acts 22 = .ok (.iconst 1, 1) := by decide +kernel
theorem dX10_acts_23 : decode cX10_acts 23 = .ok (.goto 4, 3) := by decide +kernel
theorem dX10_acts_26 : decode cX10_acts 26 = .ok (.iconst 0, 1) := by decide +kernel
theorem dX10_acts_27 : decode cX10_acts 27 = .ok (.if_icmp .eq 6, 3) := by decide +kernel
theorem dX10_acts_30 : decode cX10_acts 30 = .ok (.bipush 6, 2) := by decide +kernel
theorem dX10_acts_32 : decode cX10_acts 32 = .ok (.ireturn, 1) := by decide +kernel
theorem dX10_acts_33 : decode cX10_acts 33 = .ok (.iload_n 2, 1) := by decide +kernel
theorem dX10_acts_34 : decode cX10_acts 34 = .ok (.bipush 99, 2) := by decide +kernel
theorem dX10_acts_36 : decode cX10_acts 36 = .ok (.if_icmp .ne 10, 3) := by decide +kernel
theorem dX10_acts_39 : decode cX10_acts 39 = .ok (.aload_n 0, 1) := by decide +kernel
theorem dX10_acts_40 : decode cX10_acts 40 = .ok (.iload_n 1, 1) := by decide +kernel
theorem dX10_acts_41 : decode cX10_acts 41 = .ok (.invokevirtual 195, 3) := by decide +kernel
theorem dX10_acts_44 : decode cX10_acts 44 = .ok (.iconst 0, 1) := by decide +kernel
theorem dX10_acts_45 : decode cX10_acts 45 = .ok (.ireturn, 1) := by decide +kernel
theorem dX10_acts_46 : decode cX10_acts 46 = .ok (.aload_n 0, 1) := by decide +kernel
theorem dX10_acts_47 : decode cX10_acts 47 = .ok (.iload_n 1, 1) := by decide +kernel
theorem dX10_acts_48 : decode cX10_acts 48 = .ok (.iload_n 2, 1) := by decide +kernel
theorem dX10_acts_49 : decode cX10_acts 49 = .ok (.invokevirtual 198, 3) := by decide +kernel
theorem dX10_acts_52 : decode cX10_acts 52 = .ok (.ireturn, 1) := by decide +kernel
theorem lk_X10_198 : LkV RX10 198 RX10 yX10_dials cX10_dials 6 (some .int) 2 := LkV.of 1272 1274 44 71 1275 (by decide +kernel) (by decide +kernel) (by decide +kernel) (by decide +kernel) (by decide +kernel) (by decide +kernel)
theorem lk_X10_195 : LkV RX10 195 RX10 yX10_hangsUp cX10_hangsUp 3 none 1 := LkV.of 1288 1290 47 71 1291 (by decide +kernel) (by decide +kernel) (by decide +kernel) (by decide +kernel) (by decide +kernel) (by decide +kernel)
set_option maxRecDepth 100000 in
set_option maxHeartbeats 4000000 in
theorem s_X10_acts_J27 {ω : WD} {ρ : FR} {post : Int32 → Mem → Prop} (C : Cx ω ρ cX10_acts RX10 4 4) (R : RtI ω ρ cX10_acts .int post) {l1 : Int32} {l2 : Int32} {s0 : Int32} {s1 : Int32} {M : Mem} (h : w_X10_acts_J27 post l1 l2 s0 s1 M) : G ω ρ M 27 [(0, .ref (adr ω 128)), (1, .int l1), (2, .int l2)] [.int s1, .int s0] := by
  obtain ⟨h1, h2⟩ := h
  refine G_icmp_eq (tgt := 33) C dX10_acts_27 (by decide) (fun c => ?_) (fun c => ?_)
  · have h := h1 c
    clear h1 h2
    refine G_iload_n C dX10_acts_33 2 rfl ?_
    refine G_bipush (v := 99) C dX10_acts_34 (by decide) ?_
    obtain ⟨h1, h2⟩ := h
    refine G_icmp_ne (tgt := 46) C dX10_acts_36 (by decide) (fun c => ?_) (fun c => ?_)
    · have h := h1 c
      clear h1 h2
      refine G_aload_n C dX10_acts_46 0 rfl ?_
      refine G_iload_n C dX10_acts_47 1 rfl ?_
      refine G_iload_n C dX10_acts_48 2 rfl ?_
      refine G_callI (As := [.int l1, .int l2]) (rest := []) C dX10_acts_49 lk_X10_198 (Nat.le_of_ble_eq_true rfl) (Nat.le_of_ble_eq_true rfl) q128 (by decide) rfl (Nat.le_of_ble_eq_true rfl) rfl (S_X10_dials h) (fun r2 M1 h => ?_)
      exact R 52 _ _ _ dX10_acts_52 rfl h
    · have h := h2 c
      clear h1 h2
      refine G_aload_n C dX10_acts_39 0 rfl ?_
      refine G_iload_n C dX10_acts_40 1 rfl ?_
      refine G_callV (As := [.int l1]) (rest := []) C dX10_acts_41 lk_X10_195 (Nat.le_of_ble_eq_true rfl) (Nat.le_of_ble_eq_true rfl) q128 (by decide) rfl (Nat.le_of_ble_eq_true rfl) rfl (S_X10_hangsUp h) (fun M3 h => ?_)
      refine G_iconst (v := 0) C dX10_acts_44 (by decide) ?_
      exact R 45 _ _ _ dX10_acts_45 rfl h
  · have h := h2 c
    clear h1 h2
    refine G_bipush (v := 6) C dX10_acts_30 (by decide) ?_
    exact R 32 _ _ _ dX10_acts_32 rfl h
set_option maxRecDepth 100000 in
set_option maxHeartbeats 4000000 in
theorem s_X10_acts_J14 {ω : WD} {ρ : FR} {post : Int32 → Mem → Prop} (C : Cx ω ρ cX10_acts RX10 4 4) (R : RtI ω ρ cX10_acts .int post) {l1 : Int32} {l2 : Int32} {s0 : Int32} {M : Mem} (h : w_X10_acts_J14 post l1 l2 s0 M) : G ω ρ M 14 [(0, .ref (adr ω 128)), (1, .int l1), (2, .int l2)] [.int s0] := by
  refine G_istore_n C dX10_acts_14 (by decide) (lv' := [(3, .int s0), (0, .ref (adr ω 128)), (1, .int l1), (2, .int l2)]) rfl ?_
  refine G_iload_n C dX10_acts_15 0 rfl ?_
  refine G_iload_n C dX10_acts_16 3 rfl ?_
  refine G_bipush (v := 99) C dX10_acts_17 (by decide) ?_
  obtain ⟨h1, h2⟩ := h
  refine G_icmp_ne (tgt := 26) C dX10_acts_19 (by decide) (fun c => ?_) (fun c => ?_)
  · have h := h1 c
    clear h1 h2
    refine G_iconst (v := 0) C dX10_acts_26 (by decide) ?_
    refine G_sub [1, 2, 3] (lv' := [(0, .ref (adr ω 128)), (1, .int l1), (2, .int l2)]) rfl ?_
    exact s_X10_acts_J27 C R  h
  · have h := h2 c
    clear h1 h2
    refine G_iconst (v := 1) C dX10_acts_22 (by decide) ?_
    refine G_goto (tgt := 27) C dX10_acts_23 (by decide) ?_
    refine G_sub [1, 2, 3] (lv' := [(0, .ref (adr ω 128)), (1, .int l1), (2, .int l2)]) rfl ?_
    exact s_X10_acts_J27 C R  h
set_option maxRecDepth 100000 in
set_option maxHeartbeats 4000000 in
theorem S_X10_acts {ω : WD} {l1 : Int32} {l2 : Int32} {M : Mem} {post : Int32 → Mem → Prop} (h : w_X10_acts l1 l2 M post) : MtI ω yX10_acts cX10_acts 4 (some .int) 4 [.ref (adr ω 128), .int l1, .int l2] M post := by
  refine MtI.start (ty := .int) rfl (by decide +kernel) (own := RX10) rfl (Nat.le_of_ble_eq_true rfl) (fun ρ C R => ?_)
  show G ω ρ M 0 [(0, .ref (adr ω 128)), (1, .int l1), (2, .int l2)] []
  refine G_aload_n C dX10_acts_0 0 rfl ?_
  refine G_iload_n C dX10_acts_1 1 rfl ?_
  refine G_iconst (v := 2) C dX10_acts_2 (by decide) ?_
  refine G_callI (As := [.int l1, .int 2]) (rest := []) C dX10_acts_3 lk_X10_157 (Nat.le_of_ble_eq_true rfl) (Nat.le_of_ble_eq_true rfl) q128 (by decide) rfl (Nat.le_of_ble_eq_true rfl) rfl (S_X10_of h) (fun r5 M4 h => ?_)
  obtain ⟨h1, h2⟩ := h
  refine G_if_eq (tgt := 13) C dX10_acts_6 (by decide) (fun c => ?_) (fun c => ?_)
  · have h := h1 c
    clear h1 h2
    refine G_iconst (v := 0) C dX10_acts_13 (by decide) ?_
    exact s_X10_acts_J14 C R  h
  · have h := h2 c
    clear h1 h2
    refine G_iconst (v := 1) C dX10_acts_9 (by decide) ?_
    refine G_goto (tgt := 14) C dX10_acts_10 (by decide) ?_
    exact s_X10_acts_J14 C R  h
theorem dX10_planGoes_0 : decode cX10_planGoes 0 = .ok (.iconst 0, 1) := by decide +kernel
theorem dX10_planGoes_1 : decode cX10_planGoes 1 = .ok (.istore_n 2, 1) := by decide +kernel
theorem dX10_planGoes_2 : decode cX10_planGoes 2 = .ok (.iload_n 2, 1) := by decide +kernel
theorem dX10_planGoes_3 : decode cX10_planGoes 3 = .ok (.aload_n 0, 1) := by decide +kernel
theorem dX10_planGoes_4 : decode cX10_planGoes 4 = .ok (.getfield 13, 3) := by decide +kernel
theorem dX10_planGoes_7 : decode cX10_planGoes 7 = .ok (.bipush 66, 2) := by decide +kernel
theorem dX10_planGoes_9 : decode cX10_planGoes 9 = .ok (.iaload, 1) := by decide +kernel
theorem dX10_planGoes_10 : decode cX10_planGoes 10 = .ok (.if_icmp .ge 57, 3) := by decide +kernel
theorem dX10_planGoes_13 : decode cX10_planGoes 13 = .ok (.aload_n 0, 1) := by decide +kernel
theorem dX10_planGoes_14 : decode cX10_planGoes 14 = .ok (.getfield 26, 3) := by decide +kernel
theorem dX10_planGoes_17 : decode cX10_planGoes 17 = .ok (.iload_n 2, 1) := by decide +kernel
theorem dX10_planGoes_18 : decode cX10_planGoes 18 = .ok (.iload_n 1, 1) := by decide +kernel
theorem dX10_planGoes_19 : decode cX10_planGoes 19 = .ok (.iload_n 2, 1) := by decide +kernel
theorem dX10_planGoes_20 : decode cX10_planGoes 20 = .ok (.ishr, 1) := by decide +kernel
theorem dX10_planGoes_21 : decode cX10_planGoes 21 = .ok (.iconst 1, 1) := by decide +kernel
theorem dX10_planGoes_22 : decode cX10_planGoes 22 = .ok (.iand, 1) := by decide +kernel
theorem dX10_planGoes_23 : decode cX10_planGoes 23 = .ok (.iconst 1, 1) := by decide +kernel
theorem dX10_planGoes_24 : decode cX10_planGoes 24 = .ok (.if_icmp .ne 8, 3) := by decide +kernel
theorem dX10_planGoes_27 : decode cX10_planGoes 27 = .ok (.bipush 6, 2) := by decide +kernel
theorem dX10_planGoes_29 : decode cX10_planGoes 29 = .ok (.goto 31, 3) := by decide +kernel
theorem dX10_planGoes_32 : decode cX10_planGoes 32 = .ok (.aload_n 0, 1) := by decide +kernel
theorem dX10_planGoes_33 : decode cX10_planGoes 33 = .ok (.aload_n 0, 1) := by decide +kernel
theorem dX10_planGoes_34 : decode cX10_planGoes 34 = .ok (.getfield 13, 3) := by decide +kernel
theorem dX10_planGoes_37 : decode cX10_planGoes 37 = .ok (.bipush 67, 2) := by decide +kernel
theorem dX10_planGoes_39 : decode cX10_planGoes 39 = .ok (.iconst 2, 1) := by decide +kernel
theorem dX10_planGoes_40 : decode cX10_planGoes 40 = .ok (.iload_n 2, 1) := by decide +kernel
theorem dX10_planGoes_41 : decode cX10_planGoes 41 = .ok (.imul, 1) := by decide +kernel
theorem dX10_planGoes_42 : decode cX10_planGoes 42 = .ok (.iadd, 1) := by decide +kernel
theorem dX10_planGoes_43 : decode cX10_planGoes 43 = .ok (.iaload, 1) := by decide +kernel
theorem dX10_planGoes_44 : decode cX10_planGoes 44 = .ok (.aload_n 0, 1) := by decide +kernel
theorem dX10_planGoes_45 : decode cX10_planGoes 45 = .ok (.getfield 13, 3) := by decide +kernel
theorem dX10_planGoes_48 : decode cX10_planGoes 48 = .ok (.bipush 67, 2) := by decide +kernel
theorem dX10_planGoes_50 : decode cX10_planGoes 50 = .ok (.iconst 2, 1) := by decide +kernel
theorem dX10_planGoes_51 : decode cX10_planGoes 51 = .ok (.iload_n 2, 1) := by decide +kernel
theorem dX10_planGoes_52 : decode cX10_planGoes 52 = .ok (.imul, 1) := by decide +kernel
theorem dX10_planGoes_53 : decode cX10_planGoes 53 = .ok (.iadd, 1) := by decide +kernel
theorem dX10_planGoes_54 : decode cX10_planGoes 54 = .ok (.iconst 1, 1) := by decide +kernel
theorem dX10_planGoes_55 : decode cX10_planGoes 55 = .ok (.iadd, 1) := by decide +kernel
theorem dX10_planGoes_56 : decode cX10_planGoes 56 = .ok (.iaload, 1) := by decide +kernel
theorem dX10_planGoes_57 : decode cX10_planGoes 57 = .ok (.invokevirtual 201, 3) := by decide +kernel
theorem dX10_planGoes_60 : decode cX10_planGoes 60 = .ok (.iastore, 1) := by decide +kernel
theorem dX10_planGoes_61 : decode cX10_planGoes 61 = .ok (.iinc 2 1, 3) := by decide +kernel
theorem dX10_planGoes_64 : decode cX10_planGoes 64 = .ok (.goto (-62), 3) := by decide +kernel
theorem dX10_planGoes_67 : decode cX10_planGoes 67 = .ok (.return_, 1) := by decide +kernel
theorem gf_X10_26 {ω : WD} {ρ : FR} {M : Mem} {cc : ByteArray} {d n pc : Nat} {lv : List (Nat × Value)} {rest : List Value} (C : Cx ω ρ cc RX10 d n) (hd : decode cc pc = .ok (.getfield 26, 3)) (k : G ω ρ M (pc + 3) lv (.ref (adr ω 134) :: rest)) : G ω ρ M pc lv (.ref (adr ω 128) :: rest) := G_get (N := 28) (T := TX10) (C := RX10) (q := 16) C (q128 : isK 10 128) (by decide) rfl in_X10 (by decide) (tb_of 992 ⟨by decide +kernel, rfl⟩) rfl rfl hd k
theorem lk_X10_201 : LkV RX10 201 RX10 yX10_acts cX10_acts 4 (some .int) 2 := LkV.of 1304 1306 50 71 1307 (by decide +kernel) (by decide +kernel) (by decide +kernel) (by decide +kernel) (by decide +kernel) (by decide +kernel)
set_option maxRecDepth 100000 in
set_option maxHeartbeats 4000000 in
theorem s_X10_planGoes_J60 {ω : WD} {ρ : FR} {post : Mem → Prop} (C : Cx ω ρ cX10_planGoes RX10 5 3) (R : RtV ω ρ cX10_planGoes post) {K2 : Int32 → Mem → Prop} {l1 : Int32} {l2 : Int32} {s1 : Int32} {s2 : Int32} (k2 : ∀ (u2 : Int32) (M : Mem), K2 u2 M → G ω ρ M 2 [(0, .ref (adr ω 128)), (1, .int l1), (2, .int u2)] []) {M : Mem} (h : w_X10_planGoes_J60 post K2 l1 l2 s1 s2 M) : G ω ρ M 60 [(0, .ref (adr ω 128)), (1, .int l1), (2, .int l2)] [.int s2, .int s1, .ref (adr ω 134)] := by
  obtain ⟨hi, h⟩ := h
  refine G_iast C q134 hi rfl dX10_planGoes_60 (G_mname (fun M1 eM1 => ?_))
  replace h := h M1 eM1
  obtain ⟨v2, ev2⟩ : ∃ y : Int32, y = (l2 + 1) := ⟨_, rfl⟩
  replace h := h v2 ev2
  refine G_iinc C dX10_planGoes_61 2 rfl (v := v2) (by rw [ev2]; rfl) (by decide) (lv' := [(2, .int v2), (0, .ref (adr ω 128)), (1, .int l1)]) rfl ?_
  refine G_goto (tgt := 2) C dX10_planGoes_64 (by decide) ?_
  refine G_sub [1, 2, 0] (lv' := [(0, .ref (adr ω 128)), (1, .int l1), (2, .int v2)]) rfl ?_
  exact k2 _ _ h
set_option maxRecDepth 100000 in
set_option maxHeartbeats 4000000 in
theorem s_X10_planGoes_L2 {ω : WD} {ρ : FR} {post : Mem → Prop} (C : Cx ω ρ cX10_planGoes RX10 5 3) (R : RtV ω ρ cX10_planGoes post) {l1 : Int32} : ∀ (f : Nat) (l2 : Int32) (M : Mem), w_X10_planGoes_L2 post l1 f l2 M → G ω ρ M 2 [(0, .ref (adr ω 128)), (1, .int l1), (2, .int l2)] [] := by
  intro f
  induction f with
  | zero => intro l2 M h; exact False.elim h
  | succ f k2 =>
    intro l2 M h
    refine G_iload_n C dX10_planGoes_2 2 rfl ?_
    refine G_aload_n C dX10_planGoes_3 0 rfl ?_
    refine gf_X10_13 C dX10_planGoes_4 ?_
    refine G_bipush (v := 66) C dX10_planGoes_7 (by decide) ?_
    refine G_iald C q130 (vp_lit rfl) (kk := 66) (by decide +kernel) dX10_planGoes_9 ?_
    obtain ⟨h1, h2⟩ := h
    refine G_icmp_ge (tgt := 67) C dX10_planGoes_10 (by decide) (fun c => ?_) (fun c => ?_)
    · have h := h1 c
      clear h1 h2
      exact R 67 _ _ dX10_planGoes_67 h
    · have h := h2 c
      clear h1 h2
      refine G_aload_n C dX10_planGoes_13 0 rfl ?_
      refine gf_X10_26 C dX10_planGoes_14 ?_
      refine G_iload_n C dX10_planGoes_17 2 rfl ?_
      refine G_iload_n C dX10_planGoes_18 1 rfl ?_
      refine G_iload_n C dX10_planGoes_19 2 rfl ?_
      refine G_ishr C dX10_planGoes_20 ?_
      refine G_iconst (v := 1) C dX10_planGoes_21 (by decide) ?_
      refine G_iand C dX10_planGoes_22 ?_
      refine G_iconst (v := 1) C dX10_planGoes_23 (by decide) ?_
      obtain ⟨h1, h2⟩ := h
      refine G_icmp_ne (tgt := 32) C dX10_planGoes_24 (by decide) (fun c => ?_) (fun c => ?_)
      · have h := h1 c
        clear h1 h2
        refine G_aload_n C dX10_planGoes_32 0 rfl ?_
        refine G_aload_n C dX10_planGoes_33 0 rfl ?_
        refine gf_X10_13 C dX10_planGoes_34 ?_
        refine G_bipush (v := 67) C dX10_planGoes_37 (by decide) ?_
        refine G_iconst (v := 2) C dX10_planGoes_39 (by decide) ?_
        refine G_iload_n C dX10_planGoes_40 2 rfl ?_
        refine G_imul C dX10_planGoes_41 ?_
        refine G_iadd C dX10_planGoes_42 ?_
        obtain ⟨hi, h⟩ := h
        refine G_iald C q130 hi rfl dX10_planGoes_43 ?_
        refine G_aload_n C dX10_planGoes_44 0 rfl ?_
        refine gf_X10_13 C dX10_planGoes_45 ?_
        refine G_bipush (v := 67) C dX10_planGoes_48 (by decide) ?_
        refine G_iconst (v := 2) C dX10_planGoes_50 (by decide) ?_
        refine G_iload_n C dX10_planGoes_51 2 rfl ?_
        refine G_imul C dX10_planGoes_52 ?_
        refine G_iadd C dX10_planGoes_53 ?_
        refine G_iconst (v := 1) C dX10_planGoes_54 (by decide) ?_
        refine G_iadd C dX10_planGoes_55 ?_
        obtain ⟨hi, h⟩ := h
        refine G_iald C q130 hi rfl dX10_planGoes_56 ?_
        refine G_callI (As := [.int (rd M 130 (67 + (2 * l2)).toNatClampNeg), .int (rd M 130 ((67 + (2 * l2)) + 1).toNatClampNeg)]) (rest := [.int l2, .ref (adr ω 134)]) C dX10_planGoes_57 lk_X10_201 (Nat.le_of_ble_eq_true rfl) (Nat.le_of_ble_eq_true rfl) q128 (by decide) rfl (Nat.le_of_ble_eq_true rfl) rfl (S_X10_acts h) (fun r4 M3 h => ?_)
        exact s_X10_planGoes_J60 C R k2 h
      · have h := h2 c
        clear h1 h2
        refine G_bipush (v := 6) C dX10_planGoes_27 (by decide) ?_
        refine G_goto (tgt := 60) C dX10_planGoes_29 (by decide) ?_
        exact s_X10_planGoes_J60 C R k2 h
set_option maxRecDepth 100000 in
set_option maxHeartbeats 4000000 in
theorem S_X10_planGoes {ω : WD} {l1 : Int32} {M : Mem} {post : Mem → Prop} (h : w_X10_planGoes l1 M post) : MtV ω yX10_planGoes cX10_planGoes 3 none 5 [.ref (adr ω 128), .int l1] M post := by
  refine MtV.start rfl (by decide +kernel) (own := RX10) rfl (Nat.le_of_ble_eq_true rfl) (fun ρ C R => ?_)
  show G ω ρ M 0 [(0, .ref (adr ω 128)), (1, .int l1)] []
  refine G_iconst (v := 0) C dX10_planGoes_0 (by decide) ?_
  refine G_istore_n C dX10_planGoes_1 (by decide) (lv' := [(2, .int 0), (0, .ref (adr ω 128)), (1, .int l1)]) rfl ?_
  refine G_sub [1, 2, 0] (lv' := [(0, .ref (adr ω 128)), (1, .int l1), (2, .int 0)]) rfl ?_
  obtain ⟨f, h⟩ := h
  exact s_X10_planGoes_L2 C R  f _ _ h
theorem dX10_isLost_0 : decode cX10_isLost 0 = .ok (.iload_n 0, 1) := by decide +kernel
theorem dX10_isLost_1 : decode cX10_isLost 1 = .ok (.i2l, 1) := by decide +kernel
theorem dX10_isLost_2 : decode cX10_isLost 2 = .ok (.lconst 1, 1) := by decide +kernel
theorem dX10_isLost_3 : decode cX10_isLost 3 = .ok (.ldc2_w 204, 3) := by decide +kernel
theorem dX10_isLost_6 : decode cX10_isLost 6 = .ok (.invokestatic 52, 3) := by decide +kernel
theorem dX10_isLost_9 : decode cX10_isLost 9 = .ok (.ireturn, 1) := by decide +kernel
set_option maxRecDepth 100000 in
set_option maxHeartbeats 4000000 in
theorem S_X10_isLost {ω : WD} {l0 : Int32} {M : Mem} {post : Int32 → Mem → Prop} (h : w_X10_isLost l0 M post) : MtI ω yX10_isLost cX10_isLost 1 (some .boolean) 1 [.int l0] M post := by
  refine MtI.start (ty := .boolean) rfl (by decide +kernel) (own := RX10) rfl (Nat.le_of_ble_eq_true rfl) (fun ρ C R => ?_)
  show G ω ρ M 0 [(0, .int l0)] []
  refine G_iload_n C dX10_isLost_0 0 rfl ?_
  refine G_i2l C dX10_isLost_1 ?_
  refine G_lconst (v := 1) C dX10_isLost_2 (by decide) ?_
  refine G_ldc2 (v := 5) C dX10_isLost_3 (tb_of 1311 ⟨by decide +kernel, rfl⟩) ?_
  refine G_scallI (As := [.long ((l0).toInt64), .long 1, .long 5]) (rest := []) C dX10_isLost_6 lk_X10_52 (Nat.le_of_ble_eq_true rfl) (Nat.le_of_ble_eq_true rfl) (Nat.le_of_ble_eq_true rfl) rfl (S_X10_in h) (fun r2 M1 h => ?_)
  exact R 9 _ _ _ dX10_isLost_9 h.1.1 h.2
theorem dX10_lostMany_0 : decode cX10_lostMany 0 = .ok (.iconst 0, 1) := by decide +kernel
theorem dX10_lostMany_1 : decode cX10_lostMany 1 = .ok (.istore_n 1, 1) := by decide +kernel
theorem dX10_lostMany_2 : decode cX10_lostMany 2 = .ok (.iconst 0, 1) := by decide +kernel
theorem dX10_lostMany_3 : decode cX10_lostMany 3 = .ok (.istore_n 2, 1) := by decide +kernel
theorem dX10_lostMany_4 : decode cX10_lostMany 4 = .ok (.iload_n 2, 1) := by decide +kernel
theorem dX10_lostMany_5 : decode cX10_lostMany 5 = .ok (.aload_n 0, 1) := by decide +kernel
theorem dX10_lostMany_6 : decode cX10_lostMany 6 = .ok (.getfield 13, 3) := by decide +kernel
theorem dX10_lostMany_9 : decode cX10_lostMany 9 = .ok (.bipush 66, 2) := by decide +kernel
theorem dX10_lostMany_11 : decode cX10_lostMany 11 = .ok (.iaload, 1) := by decide +kernel
theorem dX10_lostMany_12 : decode cX10_lostMany 12 = .ok (.if_icmp .ge 24, 3) := by decide +kernel
theorem dX10_lostMany_15 : decode cX10_lostMany 15 = .ok (.iload_n 1, 1) := by decide +kernel
theorem dX10_lostMany_16 : decode cX10_lostMany 16 = .ok (.aload_n 0, 1) := by decide +kernel
theorem dX10_lostMany_17 : decode cX10_lostMany 17 = .ok (.getfield 26, 3) := by decide +kernel
theorem dX10_lostMany_20 : decode cX10_lostMany 20 = .ok (.iload_n 2, 1) := by decide +kernel
theorem dX10_lostMany_21 : decode cX10_lostMany 21 = .ok (.iaload, 1) := by decide +kernel
theorem dX10_lostMany_22 : decode cX10_lostMany 22 = .ok (.invokestatic 206, 3) := by decide +kernel
theorem dX10_lostMany_25 : decode cX10_lostMany 25 = .ok (.invokestatic 160, 3) := by decide +kernel
theorem dX10_lostMany_28 : decode cX10_lostMany 28 = .ok (.iadd, 1) := by decide +kernel
theorem dX10_lostMany_29 : decode cX10_lostMany 29 = .ok (.istore_n 1, 1) := by decide +kernel
theorem dX10_lostMany_30 : decode cX10_lostMany 30 = .ok (.iinc 2 1, 3) := by decide +kernel
theorem dX10_lostMany_33 : decode cX10_lostMany 33 = .ok (.goto (-29), 3) := by decide +kernel
theorem dX10_lostMany_36 : decode cX10_lostMany 36 = .ok (.iload_n 1, 1) := by decide +kernel
theorem dX10_lostMany_37 : decode cX10_lostMany 37 = .ok (.ireturn, 1) := by decide +kernel
theorem lk_X10_206 : LkS RX10 206 yX10_isLost cX10_isLost 1 (some .boolean) 1 := LkS.of 1308 1309 71 1310 (by decide +kernel) (by decide +kernel) (by decide +kernel) (by decide +kernel) (by decide +kernel)
set_option maxRecDepth 100000 in
set_option maxHeartbeats 4000000 in
theorem s_X10_lostMany_L4 {ω : WD} {ρ : FR} {post : Int32 → Mem → Prop} (C : Cx ω ρ cX10_lostMany RX10 2 3) (R : RtI ω ρ cX10_lostMany .int post) : ∀ (f : Nat) (l1 : Int32) (l2 : Int32) (M : Mem), w_X10_lostMany_L4 post f l1 l2 M → G ω ρ M 4 [(0, .ref (adr ω 128)), (1, .int l1), (2, .int l2)] [] := by
  intro f
  induction f with
  | zero => intro l1 l2 M h; exact False.elim h
  | succ f k4 =>
    intro l1 l2 M h
    refine G_iload_n C dX10_lostMany_4 2 rfl ?_
    refine G_aload_n C dX10_lostMany_5 0 rfl ?_
    refine gf_X10_13 C dX10_lostMany_6 ?_
    refine G_bipush (v := 66) C dX10_lostMany_9 (by decide) ?_
    refine G_iald C q130 (vp_lit rfl) (kk := 66) (by decide +kernel) dX10_lostMany_11 ?_
    obtain ⟨h1, h2⟩ := h
    refine G_icmp_ge (tgt := 36) C dX10_lostMany_12 (by decide) (fun c => ?_) (fun c => ?_)
    · have h := h1 c
      clear h1 h2
      refine G_iload_n C dX10_lostMany_36 1 rfl ?_
      exact R 37 _ _ _ dX10_lostMany_37 rfl h
    · have h := h2 c
      clear h1 h2
      refine G_iload_n C dX10_lostMany_15 1 rfl ?_
      refine G_aload_n C dX10_lostMany_16 0 rfl ?_
      refine gf_X10_26 C dX10_lostMany_17 ?_
      refine G_iload_n C dX10_lostMany_20 2 rfl ?_
      obtain ⟨hi, h⟩ := h
      refine G_iald C q134 hi rfl dX10_lostMany_21 ?_
      refine G_scallI (As := [.int (rd M 134 l2.toNatClampNeg)]) (rest := [.int l1]) C dX10_lostMany_22 lk_X10_206 (Nat.le_of_ble_eq_true rfl) (Nat.le_of_ble_eq_true rfl) (Nat.le_of_ble_eq_true rfl) rfl (S_X10_isLost h) (fun r2 M1 h => ?_)
      refine G_scallI (As := [.int r2]) (rest := [.int l1]) C dX10_lostMany_25 lk_X10_160 (Nat.le_of_ble_eq_true rfl) (Nat.le_of_ble_eq_true rfl) (Nat.le_of_ble_eq_true rfl) rfl (S_X10_flag h) (fun r4 M3 h => ?_)
      refine G_iadd C dX10_lostMany_28 ?_
      refine G_iname (fun v5 ev5 => ?_)
      replace h := h v5 ev5
      refine G_istore_n C dX10_lostMany_29 (by decide) (lv' := [(1, .int v5), (0, .ref (adr ω 128)), (2, .int l2)]) rfl ?_
      obtain ⟨v6, ev6⟩ : ∃ y : Int32, y = (l2 + 1) := ⟨_, rfl⟩
      replace h := h v6 ev6
      refine G_iinc C dX10_lostMany_30 2 rfl (v := v6) (by rw [ev6]; rfl) (by decide) (lv' := [(2, .int v6), (1, .int v5), (0, .ref (adr ω 128))]) rfl ?_
      refine G_goto (tgt := 4) C dX10_lostMany_33 (by decide) ?_
      refine G_sub [2, 1, 0] (lv' := [(0, .ref (adr ω 128)), (1, .int v5), (2, .int v6)]) rfl ?_
      exact k4 _ _ _ h
set_option maxRecDepth 100000 in
set_option maxHeartbeats 4000000 in
theorem S_X10_lostMany {ω : WD} {M : Mem} {post : Int32 → Mem → Prop} (h : w_X10_lostMany M post) : MtI ω yX10_lostMany cX10_lostMany 3 (some .int) 2 [.ref (adr ω 128)] M post := by
  refine MtI.start (ty := .int) rfl (by decide +kernel) (own := RX10) rfl (Nat.le_of_ble_eq_true rfl) (fun ρ C R => ?_)
  show G ω ρ M 0 [(0, .ref (adr ω 128))] []
  refine G_iconst (v := 0) C dX10_lostMany_0 (by decide) ?_
  refine G_istore_n C dX10_lostMany_1 (by decide) (lv' := [(1, .int 0), (0, .ref (adr ω 128))]) rfl ?_
  refine G_iconst (v := 0) C dX10_lostMany_2 (by decide) ?_
  refine G_istore_n C dX10_lostMany_3 (by decide) (lv' := [(2, .int 0), (1, .int 0), (0, .ref (adr ω 128))]) rfl ?_
  refine G_sub [2, 1, 0] (lv' := [(0, .ref (adr ω 128)), (1, .int 0), (2, .int 0)]) rfl ?_
  obtain ⟨f, h⟩ := h
  exact s_X10_lostMany_L4 C R  f _ _ _ h
theorem dX10_allUses_0 : decode cX10_allUses 0 = .ok (.iconst 0, 1) := by decide +kernel
theorem dX10_allUses_1 : decode cX10_allUses 1 = .ok (.istore_n 1, 1) := by decide +kernel
theorem dX10_allUses_2 : decode cX10_allUses 2 = .ok (.iconst 0, 1) := by decide +kernel
theorem dX10_allUses_3 : decode cX10_allUses 3 = .ok (.istore_n 2, 1) := by decide +kernel
theorem dX10_allUses_4 : decode cX10_allUses 4 = .ok (.iload_n 2, 1) := by decide +kernel
theorem dX10_allUses_5 : decode cX10_allUses 5 = .ok (.bipush 20, 2) := by decide +kernel
theorem dX10_allUses_7 : decode cX10_allUses 7 = .ok (.if_icmp .ge 21, 3) := by decide +kernel
theorem dX10_allUses_10 : decode cX10_allUses 10 = .ok (.iload_n 1, 1) := by decide +kernel
theorem dX10_allUses_11 : decode cX10_allUses 11 = .ok (.aload_n 0, 1) := by decide +kernel
theorem dX10_allUses_12 : decode cX10_allUses 12 = .ok (.getfield 13, 3) := by decide +kernel
theorem dX10_allUses_15 : decode cX10_allUses 15 = .ok (.bipush 46, 2) := by decide +kernel
theorem dX10_allUses_17 : decode cX10_allUses 17 = .ok (.iload_n 2, 1) := by decide +kernel
theorem dX10_allUses_18 : decode cX10_allUses 18 = .ok (.iadd, 1) := by decide +kernel
theorem dX10_allUses_19 : decode cX10_allUses 19 = .ok (.iaload, 1) := by decide +kernel
theorem dX10_allUses_20 : decode cX10_allUses 20 = .ok (.iadd, 1) := by decide +kernel
theorem dX10_allUses_21 : decode cX10_allUses 21 = .ok (.istore_n 1, 1) := by decide +kernel
theorem dX10_allUses_22 : decode cX10_allUses 22 = .ok (.iinc 2 1, 3) := by decide +kernel
theorem dX10_allUses_25 : decode cX10_allUses 25 = .ok (.goto (-21), 3) := by decide +kernel
theorem dX10_allUses_28 : decode cX10_allUses 28 = .ok (.iload_n 1, 1) := by decide +kernel
theorem dX10_allUses_29 : decode cX10_allUses 29 = .ok (.ireturn, 1) := by decide +kernel
set_option maxRecDepth 100000 in
set_option maxHeartbeats 4000000 in
theorem s_X10_allUses_L4 {ω : WD} {ρ : FR} {post : Int32 → Mem → Prop} (C : Cx ω ρ cX10_allUses RX10 0 3) (R : RtI ω ρ cX10_allUses .int post) : ∀ (f : Nat) (l1 : Int32) (l2 : Int32) (M : Mem), w_X10_allUses_L4 post f l1 l2 M → G ω ρ M 4 [(0, .ref (adr ω 128)), (1, .int l1), (2, .int l2)] [] := by
  intro f
  induction f with
  | zero => intro l1 l2 M h; exact False.elim h
  | succ f k4 =>
    intro l1 l2 M h
    refine G_iload_n C dX10_allUses_4 2 rfl ?_
    refine G_bipush (v := 20) C dX10_allUses_5 (by decide) ?_
    obtain ⟨h1, h2⟩ := h
    refine G_icmp_ge (tgt := 28) C dX10_allUses_7 (by decide) (fun c => ?_) (fun c => ?_)
    · have h := h1 c
      clear h1 h2
      refine G_iload_n C dX10_allUses_28 1 rfl ?_
      exact R 29 _ _ _ dX10_allUses_29 rfl h
    · have h := h2 c
      clear h1 h2
      refine G_iload_n C dX10_allUses_10 1 rfl ?_
      refine G_aload_n C dX10_allUses_11 0 rfl ?_
      refine gf_X10_13 C dX10_allUses_12 ?_
      refine G_bipush (v := 46) C dX10_allUses_15 (by decide) ?_
      refine G_iload_n C dX10_allUses_17 2 rfl ?_
      refine G_iadd C dX10_allUses_18 ?_
      obtain ⟨hi, h⟩ := h
      refine G_iald C q130 hi rfl dX10_allUses_19 ?_
      refine G_iadd C dX10_allUses_20 ?_
      refine G_iname (fun v1 ev1 => ?_)
      replace h := h v1 ev1
      refine G_istore_n C dX10_allUses_21 (by decide) (lv' := [(1, .int v1), (0, .ref (adr ω 128)), (2, .int l2)]) rfl ?_
      obtain ⟨v2, ev2⟩ : ∃ y : Int32, y = (l2 + 1) := ⟨_, rfl⟩
      replace h := h v2 ev2
      refine G_iinc C dX10_allUses_22 2 rfl (v := v2) (by rw [ev2]; rfl) (by decide) (lv' := [(2, .int v2), (1, .int v1), (0, .ref (adr ω 128))]) rfl ?_
      refine G_goto (tgt := 4) C dX10_allUses_25 (by decide) ?_
      refine G_sub [2, 1, 0] (lv' := [(0, .ref (adr ω 128)), (1, .int v1), (2, .int v2)]) rfl ?_
      exact k4 _ _ _ h
set_option maxRecDepth 100000 in
set_option maxHeartbeats 4000000 in
theorem S_X10_allUses {ω : WD} {M : Mem} {post : Int32 → Mem → Prop} (h : w_X10_allUses M post) : MtI ω yX10_allUses cX10_allUses 3 (some .int) 0 [.ref (adr ω 128)] M post := by
  refine MtI.start (ty := .int) rfl (by decide +kernel) (own := RX10) rfl (Nat.le_of_ble_eq_true rfl) (fun ρ C R => ?_)
  show G ω ρ M 0 [(0, .ref (adr ω 128))] []
  refine G_iconst (v := 0) C dX10_allUses_0 (by decide) ?_
  refine G_istore_n C dX10_allUses_1 (by decide) (lv' := [(1, .int 0), (0, .ref (adr ω 128))]) rfl ?_
  refine G_iconst (v := 0) C dX10_allUses_2 (by decide) ?_
  refine G_istore_n C dX10_allUses_3 (by decide) (lv' := [(2, .int 0), (1, .int 0), (0, .ref (adr ω 128))]) rfl ?_
  refine G_sub [2, 1, 0] (lv' := [(0, .ref (adr ω 128)), (1, .int 0), (2, .int 0)]) rfl ?_
  obtain ⟨f, h⟩ := h
  exact s_X10_allUses_L4 C R  f _ _ _ h
theorem dX10_rule_0 : decode cX10_rule 0 = .ok (.aload_n 0, 1) := by decide +kernel
theorem dX10_rule_1 : decode cX10_rule 1 = .ok (.invokevirtual 209, 3) := by decide +kernel
theorem dX10_rule_4 : decode cX10_rule 4 = .ok (.iconst 0, 1) := by decide +kernel
theorem dX10_rule_5 : decode cX10_rule 5 = .ok (.istore_n 2, 1) := by decide +kernel
theorem dX10_rule_6 : decode cX10_rule 6 = .ok (.iconst 0, 1) := by decide +kernel
theorem dX10_rule_7 : decode cX10_rule 7 = .ok (.istore_n 3, 1) := by decide +kernel
theorem dX10_rule_8 : decode cX10_rule 8 = .ok (.iload_n 3, 1) := by decide +kernel
theorem dX10_rule_9 : decode cX10_rule 9 = .ok (.aload_n 0, 1) := by decide +kernel
theorem dX10_rule_10 : decode cX10_rule 10 = .ok (.getfield 7, 3) := by decide +kernel
theorem dX10_rule_13 : decode cX10_rule 13 = .ok (.bipush 24, 2) := by decide +kernel
theorem dX10_rule_15 : decode cX10_rule 15 = .ok (.iaload, 1) := by decide +kernel
theorem dX10_rule_16 : decode cX10_rule 16 = .ok (.if_icmp .ge 31, 3) := by decide +kernel
theorem dX10_rule_19 : decode cX10_rule 19 = .ok (.iload_n 2, 1) := by decide +kernel
theorem dX10_rule_20 : decode cX10_rule 20 = .ok (.aload_n 0, 1) := by decide +kernel
theorem dX10_rule_21 : decode cX10_rule 21 = .ok (.iload_n 3, 1) := by decide +kernel
theorem dX10_rule_22 : decode cX10_rule 22 = .ok (.iconst 2, 1) := by decide +kernel
theorem dX10_rule_23 : decode cX10_rule 23 = .ok (.invokevirtual 157, 3) := by decide +kernel
theorem dX10_rule_26 : decode cX10_rule 26 = .ok (.ifCond .eq 7, 3) := by decide +kernel
theorem dX10_rule_29 : decode cX10_rule 29 = .ok (.iconst 1, 1) := by decide +kernel
theorem dX10_rule_30 : decode cX10_rule 30 = .ok (.goto 4, 3) := by decide +kernel
theorem dX10_rule_33 : decode cX10_rule 33 = .ok (.iconst 0, 1) := by decide +kernel
theorem dX10_rule_34 : decode cX10_rule 34 = .ok (.invokestatic 160, 3) := by decide +kernel
theorem dX10_rule_37 : decode cX10_rule 37 = .ok (.iload_n 3, 1) := by decide +kernel
theorem dX10_rule_38 : decode cX10_rule 38 = .ok (.ishl, 1) := by decide +kernel
theorem dX10_rule_39 : decode cX10_rule 39 = .ok (.ior, 1) := by decide +kernel
theorem dX10_rule_40 : decode cX10_rule 40 = .ok (.istore_n 2, 1) := by decide +kernel
theorem dX10_rule_41 : decode cX10_rule 41 = .ok (.iinc 3 1, 3) := by decide +kernel
theorem dX10_rule_44 : decode cX10_rule 44 = .ok (.goto (-36), 3) := by decide +kernel
theorem dX10_rule_47 : decode cX10_rule 47 = .ok (.iload_n 1, 1) := by decide +kernel
theorem dX10_rule_48 : decode cX10_rule 48 = .ok (.tableswitch 76 0 5 #[40, 48, 56, 61, 69, 74], 40) := by decide +kernel
theorem dX10_rule_88 : decode cX10_rule 88 = .ok (.aload_n 0, 1) := by decide +kernel
theorem dX10_rule_89 : decode cX10_rule 89 = .ok (.getfield 7, 3) := by decide +kernel
theorem dX10_rule_92 : decode cX10_rule 92 = .ok (.bipush 24, 2) := by decide +kernel
theorem dX10_rule_94 : decode cX10_rule 94 = .ok (.iaload, 1) := by decide +kernel
theorem dX10_rule_95 : decode cX10_rule 95 = .ok (.ireturn, 1) := by decide +kernel
theorem dX10_rule_96 : decode cX10_rule 96 = .ok (.aload_n 0, 1) := by decide +kernel
theorem dX10_rule_97 : decode cX10_rule 97 = .ok (.getfield 7, 3) := by decide +kernel
theorem dX10_rule_100 : decode cX10_rule 100 = .ok (.bipush 25, 2) := by decide +kernel
theorem dX10_rule_102 : decode cX10_rule 102 = .ok (.iaload, 1) := by decide +kernel
theorem dX10_rule_103 : decode cX10_rule 103 = .ok (.ireturn, 1) := by decide +kernel
theorem dX10_rule_104 : decode cX10_rule 104 = .ok (.aload_n 0, 1) := by decide +kernel
theorem dX10_rule_105 : decode cX10_rule 105 = .ok (.invokevirtual 177, 3) := by decide +kernel
theorem dX10_rule_108 : decode cX10_rule 108 = .ok (.ireturn, 1) := by decide +kernel
theorem dX10_rule_109 : decode cX10_rule 109 = .ok (.aload_n 0, 1) := by decide +kernel
theorem dX10_rule_110 : decode cX10_rule 110 = .ok (.getfield 7, 3) := by decide +kernel
theorem dX10_rule_113 : decode cX10_rule 113 = .ok (.bipush 66, 2) := by decide +kernel
theorem dX10_rule_115 : decode cX10_rule 115 = .ok (.iaload, 1) := by decide +kernel
theorem dX10_rule_116 : decode cX10_rule 116 = .ok (.ireturn, 1) := by decide +kernel
theorem dX10_rule_117 : decode cX10_rule 117 = .ok (.aload_n 0, 1) := by decide +kernel
theorem dX10_rule_118 : decode cX10_rule 118 = .ok (.invokevirtual 212, 3) := by decide +kernel
theorem dX10_rule_121 : decode cX10_rule 121 = .ok (.ireturn, 1) := by decide +kernel
theorem dX10_rule_122 : decode cX10_rule 122 = .ok (.iload_n 2, 1) := by decide +kernel
theorem dX10_rule_123 : decode cX10_rule 123 = .ok (.ireturn, 1) := by decide +kernel
theorem dX10_rule_124 : decode cX10_rule 124 = .ok (.iconst (-1), 1) := by decide +kernel
theorem dX10_rule_125 : decode cX10_rule 125 = .ok (.ireturn, 1) := by decide +kernel
theorem lk_X10_212 : LkV RX10 212 RX10 yX10_allUses cX10_allUses 3 (some .int) 0 := LkV.of 1168 1170 32 71 1171 (by decide +kernel) (by decide +kernel) (by decide +kernel) (by decide +kernel) (by decide +kernel) (by decide +kernel)
theorem lk_X10_209 : LkV RX10 209 RX10 yX10_starts cX10_starts 2 none 0 := LkV.of 1153 1155 29 71 1156 (by decide +kernel) (by decide +kernel) (by decide +kernel) (by decide +kernel) (by decide +kernel) (by decide +kernel)
set_option maxRecDepth 100000 in
set_option maxHeartbeats 4000000 in
theorem s_X10_rule_J34 {ω : WD} {ρ : FR} {post : Int32 → Mem → Prop} (C : Cx ω ρ cX10_rule RX10 2 4) (R : RtI ω ρ cX10_rule .int post) {K8 : Int32 → Int32 → Mem → Prop} {l1 : Int32} {l3 : Int32} {s0 : Int32} {s1 : Int32} (k8 : ∀ (u2 : Int32) (u3 : Int32) (M : Mem), K8 u2 u3 M → G ω ρ M 8 [(0, .ref (adr ω 128)), (1, .int l1), (2, .int u2), (3, .int u3)] []) {M : Mem} (h : w_X10_rule_J34 post K8 l1 l3 s0 s1 M) : G ω ρ M 34 [(0, .ref (adr ω 128)), (1, .int l1), (3, .int l3)] [.int s1, .int s0] := by
  refine G_scallI (As := [.int s1]) (rest := [.int s0]) C dX10_rule_34 lk_X10_160 (Nat.le_of_ble_eq_true rfl) (Nat.le_of_ble_eq_true rfl) (Nat.le_of_ble_eq_true rfl) rfl (S_X10_flag h) (fun r2 M1 h => ?_)
  refine G_iload_n C dX10_rule_37 2 rfl ?_
  refine G_ishl C dX10_rule_38 ?_
  refine G_ior C dX10_rule_39 ?_
  refine G_iname (fun v3 ev3 => ?_)
  replace h := h v3 ev3
  refine G_istore_n C dX10_rule_40 (by decide) (lv' := [(2, .int v3), (0, .ref (adr ω 128)), (1, .int l1), (3, .int l3)]) rfl ?_
  obtain ⟨v4, ev4⟩ : ∃ y : Int32, y = (l3 + 1) := ⟨_, rfl⟩
  replace h := h v4 ev4
  refine G_iinc C dX10_rule_41 3 rfl (v := v4) (by rw [ev4]; rfl) (by decide) (lv' := [(3, .int v4), (2, .int v3), (0, .ref (adr ω 128)), (1, .int l1)]) rfl ?_
  refine G_goto (tgt := 8) C dX10_rule_44 (by decide) ?_
  refine G_sub [2, 3, 1, 0] (lv' := [(0, .ref (adr ω 128)), (1, .int l1), (2, .int v3), (3, .int v4)]) rfl ?_
  exact k8 _ _ _ h
set_option maxRecDepth 100000 in
set_option maxHeartbeats 4000000 in
theorem s_X10_rule_L8 {ω : WD} {ρ : FR} {post : Int32 → Mem → Prop} (C : Cx ω ρ cX10_rule RX10 2 4) (R : RtI ω ρ cX10_rule .int post) {l1 : Int32} : ∀ (f : Nat) (l2 : Int32) (l3 : Int32) (M : Mem), w_X10_rule_L8 post l1 f l2 l3 M → G ω ρ M 8 [(0, .ref (adr ω 128)), (1, .int l1), (2, .int l2), (3, .int l3)] [] := by
  intro f
  induction f with
  | zero => intro l2 l3 M h; exact False.elim h
  | succ f k8 =>
    intro l2 l3 M h
    refine G_iload_n C dX10_rule_8 3 rfl ?_
    refine G_aload_n C dX10_rule_9 0 rfl ?_
    refine gf_X10_7 C dX10_rule_10 ?_
    refine G_bipush (v := 24) C dX10_rule_13 (by decide) ?_
    refine G_iald C q129 (vp_lit rfl) (kk := 24) (by decide +kernel) dX10_rule_15 ?_
    obtain ⟨h1, h2⟩ := h
    refine G_icmp_ge (tgt := 47) C dX10_rule_16 (by decide) (fun c => ?_) (fun c => ?_)
    · have h := h1 c
      clear h1 h2
      refine G_iload_n C dX10_rule_47 1 rfl ?_
      obtain ⟨h0, h1, h2, h3, h4, h5, h6⟩ := h
      by_cases cd : (l1).toInt < 0 ∨ 5 < (l1).toInt
      · have h := h6 cd
        clear h0 h1 h2 h3 h4 h5 h6
        refine G_tableOut (tgt := 124) C dX10_rule_48 cd (by decide) ?_
        refine G_iconst (v := (-1)) C dX10_rule_124 (by decide) ?_
        exact R 125 _ _ _ dX10_rule_125 rfl h
      · have cs : (l1).toInt = 0 ∨ (l1).toInt = 1 ∨ (l1).toInt = 2 ∨ (l1).toInt = 3 ∨ (l1).toInt = 4 ∨ (l1).toInt = 5 := by omega
        rcases cs with cs | cs | cs | cs | cs | cs
        · have h := h0 ((sw_toInt cs).trans (by decide))
          clear h0 h1 h2 h3 h4 h5 h6
          refine G_tableIn (tgt := 88) C dX10_rule_48 (by omega) (by omega) (by rw [cs]; rfl) (by decide) ?_
          refine G_aload_n C dX10_rule_88 0 rfl ?_
          refine gf_X10_7 C dX10_rule_89 ?_
          refine G_bipush (v := 24) C dX10_rule_92 (by decide) ?_
          refine G_iald C q129 (vp_lit rfl) (kk := 24) (by decide +kernel) dX10_rule_94 ?_
          exact R 95 _ _ _ dX10_rule_95 rfl h
        · have h := h1 ((sw_toInt cs).trans (by decide))
          clear h0 h1 h2 h3 h4 h5 h6
          refine G_tableIn (tgt := 96) C dX10_rule_48 (by omega) (by omega) (by rw [cs]; rfl) (by decide) ?_
          refine G_aload_n C dX10_rule_96 0 rfl ?_
          refine gf_X10_7 C dX10_rule_97 ?_
          refine G_bipush (v := 25) C dX10_rule_100 (by decide) ?_
          refine G_iald C q129 (vp_lit rfl) (kk := 25) (by decide +kernel) dX10_rule_102 ?_
          exact R 103 _ _ _ dX10_rule_103 rfl h
        · have h := h2 ((sw_toInt cs).trans (by decide))
          clear h0 h1 h2 h3 h4 h5 h6
          refine G_tableIn (tgt := 104) C dX10_rule_48 (by omega) (by omega) (by rw [cs]; rfl) (by decide) ?_
          refine G_aload_n C dX10_rule_104 0 rfl ?_
          refine G_callI (As := []) (rest := []) C dX10_rule_105 lk_X10_177 (Nat.le_of_ble_eq_true rfl) (Nat.le_of_ble_eq_true rfl) q128 (by decide) rfl (Nat.le_of_ble_eq_true rfl) rfl (S_X10_callsNow h) (fun r6 M5 h => ?_)
          exact R 108 _ _ _ dX10_rule_108 rfl h
        · have h := h3 ((sw_toInt cs).trans (by decide))
          clear h0 h1 h2 h3 h4 h5 h6
          refine G_tableIn (tgt := 109) C dX10_rule_48 (by omega) (by omega) (by rw [cs]; rfl) (by decide) ?_
          refine G_aload_n C dX10_rule_109 0 rfl ?_
          refine gf_X10_7 C dX10_rule_110 ?_
          refine G_bipush (v := 66) C dX10_rule_113 (by decide) ?_
          refine G_iald C q129 (vp_lit rfl) (kk := 66) (by decide +kernel) dX10_rule_115 ?_
          exact R 116 _ _ _ dX10_rule_116 rfl h
        · have h := h4 ((sw_toInt cs).trans (by decide))
          clear h0 h1 h2 h3 h4 h5 h6
          refine G_tableIn (tgt := 117) C dX10_rule_48 (by omega) (by omega) (by rw [cs]; rfl) (by decide) ?_
          refine G_aload_n C dX10_rule_117 0 rfl ?_
          refine G_callI (As := []) (rest := []) C dX10_rule_118 lk_X10_212 (Nat.le_of_ble_eq_true rfl) (Nat.le_of_ble_eq_true rfl) q128 (by decide) rfl (Nat.le_of_ble_eq_true rfl) rfl (S_X10_allUses h) (fun r8 M7 h => ?_)
          exact R 121 _ _ _ dX10_rule_121 rfl h
        · have h := h5 ((sw_toInt cs).trans (by decide))
          clear h0 h1 h2 h3 h4 h5 h6
          refine G_tableIn (tgt := 122) C dX10_rule_48 (by omega) (by omega) (by rw [cs]; rfl) (by decide) ?_
          refine G_iload_n C dX10_rule_122 2 rfl ?_
          exact R 123 _ _ _ dX10_rule_123 rfl h
    · have h := h2 c
      clear h1 h2
      refine G_iload_n C dX10_rule_19 2 rfl ?_
      refine G_aload_n C dX10_rule_20 0 rfl ?_
      refine G_iload_n C dX10_rule_21 3 rfl ?_
      refine G_iconst (v := 2) C dX10_rule_22 (by decide) ?_
      refine G_callI (As := [.int l3, .int 2]) (rest := [.int l2]) C dX10_rule_23 lk_X10_157 (Nat.le_of_ble_eq_true rfl) (Nat.le_of_ble_eq_true rfl) q128 (by decide) rfl (Nat.le_of_ble_eq_true rfl) rfl (S_X10_of h) (fun r10 M9 h => ?_)
      obtain ⟨h1, h2⟩ := h
      refine G_if_eq (tgt := 33) C dX10_rule_26 (by decide) (fun c => ?_) (fun c => ?_)
      · have h := h1 c
        clear h1 h2
        refine G_iconst (v := 0) C dX10_rule_33 (by decide) ?_
        refine G_sub [0, 1, 3] (lv' := [(0, .ref (adr ω 128)), (1, .int l1), (3, .int l3)]) rfl ?_
        exact s_X10_rule_J34 C R k8 h
      · have h := h2 c
        clear h1 h2
        refine G_iconst (v := 1) C dX10_rule_29 (by decide) ?_
        refine G_goto (tgt := 34) C dX10_rule_30 (by decide) ?_
        refine G_sub [0, 1, 3] (lv' := [(0, .ref (adr ω 128)), (1, .int l1), (3, .int l3)]) rfl ?_
        exact s_X10_rule_J34 C R k8 h
set_option maxRecDepth 100000 in
set_option maxHeartbeats 4000000 in
theorem S_X10_rule {ω : WD} {l1 : Int32} {M : Mem} {post : Int32 → Mem → Prop} (h : w_X10_rule l1 M post) : MtI ω yX10_rule cX10_rule 4 (some .int) 2 [.ref (adr ω 128), .int l1] M post := by
  refine MtI.start (ty := .int) rfl (by decide +kernel) (own := RX10) rfl (Nat.le_of_ble_eq_true rfl) (fun ρ C R => ?_)
  show G ω ρ M 0 [(0, .ref (adr ω 128)), (1, .int l1)] []
  refine G_aload_n C dX10_rule_0 0 rfl ?_
  refine G_callV (As := []) (rest := []) C dX10_rule_1 lk_X10_209 (Nat.le_of_ble_eq_true rfl) (Nat.le_of_ble_eq_true rfl) q128 (by decide) rfl (Nat.le_of_ble_eq_true rfl) rfl (S_X10_starts h) (fun M11 h => ?_)
  refine G_iconst (v := 0) C dX10_rule_4 (by decide) ?_
  refine G_istore_n C dX10_rule_5 (by decide) (lv' := [(2, .int 0), (0, .ref (adr ω 128)), (1, .int l1)]) rfl ?_
  refine G_iconst (v := 0) C dX10_rule_6 (by decide) ?_
  refine G_istore_n C dX10_rule_7 (by decide) (lv' := [(3, .int 0), (2, .int 0), (0, .ref (adr ω 128)), (1, .int l1)]) rfl ?_
  refine G_sub [2, 3, 1, 0] (lv' := [(0, .ref (adr ω 128)), (1, .int l1), (2, .int 0), (3, .int 0)]) rfl ?_
  obtain ⟨f, h⟩ := h
  exact s_X10_rule_L8 C R  f _ _ _ h
theorem dX10_one_0 : decode cX10_one 0 = .ok (.aload_n 0, 1) := by decide +kernel
theorem dX10_one_1 : decode cX10_one 1 = .ok (.iload_n 1, 1) := by decide +kernel
theorem dX10_one_2 : decode cX10_one 2 = .ok (.invokevirtual 215, 3) := by decide +kernel
theorem dX10_one_5 : decode cX10_one 5 = .ok (.ifCond .eq 28, 3) := by decide +kernel
theorem dX10_one_8 : decode cX10_one 8 = .ok (.iload_n 2, 1) := by decide +kernel
theorem dX10_one_9 : decode cX10_one 9 = .ok (.i2l, 1) := by decide +kernel
theorem dX10_one_10 : decode cX10_one 10 = .ok (.lconst 0, 1) := by decide +kernel
theorem dX10_one_11 : decode cX10_one 11 = .ok (.ldc2_w 218, 3) := by decide +kernel
theorem dX10_one_14 : decode cX10_one 14 = .ok (.invokestatic 52, 3) := by decide +kernel
theorem dX10_one_17 : decode cX10_one 17 = .ok (.ifCond .eq 16, 3) := by decide +kernel
theorem dX10_one_20 : decode cX10_one 20 = .ok (.aload_n 0, 1) := by decide +kernel
theorem dX10_one_21 : decode cX10_one 21 = .ok (.getfield 7, 3) := by decide +kernel
theorem dX10_one_24 : decode cX10_one 24 = .ok (.iconst 4, 1) := by decide +kernel
theorem dX10_one_25 : decode cX10_one 25 = .ok (.iload_n 1, 1) := by decide +kernel
theorem dX10_one_26 : decode cX10_one 26 = .ok (.imul, 1) := by decide +kernel
theorem dX10_one_27 : decode cX10_one 27 = .ok (.iload_n 2, 1) := by decide +kernel
theorem dX10_one_28 : decode cX10_one 28 = .ok (.iadd, 1) := by decide +kernel
theorem dX10_one_29 : decode cX10_one 29 = .ok (.iaload, 1) := by decide +kernel
theorem dX10_one_30 : decode cX10_one 30 = .ok (.goto 4, 3) := by decide +kernel
theorem dX10_one_33 : decode cX10_one 33 = .ok (.iconst (-1), 1) := by decide +kernel
theorem dX10_one_34 : decode cX10_one 34 = .ok (.ireturn, 1) := by decide +kernel
theorem lk_X10_215 : LkV RX10 215 RX10 yX10_isOne cX10_isOne 2 (some .boolean) 1 := LkV.of 1176 1178 33 71 1179 (by decide +kernel) (by decide +kernel) (by decide +kernel) (by decide +kernel) (by decide +kernel) (by decide +kernel)
set_option maxRecDepth 100000 in
set_option maxHeartbeats 4000000 in
theorem S_X10_one {ω : WD} {l1 : Int32} {l2 : Int32} {M : Mem} {post : Int32 → Mem → Prop} (h : w_X10_one l1 l2 M post) : MtI ω yX10_one cX10_one 3 (some .int) 2 [.ref (adr ω 128), .int l1, .int l2] M post := by
  refine MtI.start (ty := .int) rfl (by decide +kernel) (own := RX10) rfl (Nat.le_of_ble_eq_true rfl) (fun ρ C R => ?_)
  show G ω ρ M 0 [(0, .ref (adr ω 128)), (1, .int l1), (2, .int l2)] []
  refine G_aload_n C dX10_one_0 0 rfl ?_
  refine G_iload_n C dX10_one_1 1 rfl ?_
  refine G_callI (As := [.int l1]) (rest := []) C dX10_one_2 lk_X10_215 (Nat.le_of_ble_eq_true rfl) (Nat.le_of_ble_eq_true rfl) q128 (by decide) rfl (Nat.le_of_ble_eq_true rfl) rfl (S_X10_isOne h) (fun r2 M1 h => ?_)
  obtain ⟨h1, h2⟩ := h
  refine G_if_eq (tgt := 33) C dX10_one_5 (by decide) (fun c => ?_) (fun c => ?_)
  · have h := h1 c
    clear h1 h2
    refine G_iconst (v := (-1)) C dX10_one_33 (by decide) ?_
    exact R 34 _ _ _ dX10_one_34 rfl h
  · have h := h2 c
    clear h1 h2
    refine G_iload_n C dX10_one_8 2 rfl ?_
    refine G_i2l C dX10_one_9 ?_
    refine G_lconst (v := 0) C dX10_one_10 (by decide) ?_
    refine G_ldc2 (v := 3) C dX10_one_11 (tb_of 1180 ⟨by decide +kernel, rfl⟩) ?_
    refine G_scallI (As := [.long ((l2).toInt64), .long 0, .long 3]) (rest := []) C dX10_one_14 lk_X10_52 (Nat.le_of_ble_eq_true rfl) (Nat.le_of_ble_eq_true rfl) (Nat.le_of_ble_eq_true rfl) rfl (S_X10_in h) (fun r4 M3 h => ?_)
    obtain ⟨h1, h2⟩ := h
    refine G_if_eq (tgt := 33) C dX10_one_17 (by decide) (fun c => ?_) (fun c => ?_)
    · have h := h1 c
      clear h1 h2
      refine G_iconst (v := (-1)) C dX10_one_33 (by decide) ?_
      exact R 34 _ _ _ dX10_one_34 rfl h
    · have h := h2 c
      clear h1 h2
      refine G_aload_n C dX10_one_20 0 rfl ?_
      refine gf_X10_7 C dX10_one_21 ?_
      refine G_iconst (v := 4) C dX10_one_24 (by decide) ?_
      refine G_iload_n C dX10_one_25 1 rfl ?_
      refine G_imul C dX10_one_26 ?_
      refine G_iload_n C dX10_one_27 2 rfl ?_
      refine G_iadd C dX10_one_28 ?_
      obtain ⟨hi, h⟩ := h
      refine G_iald C q129 hi rfl dX10_one_29 ?_
      refine G_goto (tgt := 34) C dX10_one_30 (by decide) ?_
      exact R 34 _ _ _ dX10_one_34 rfl h
theorem dX10_group_0 : decode cX10_group 0 = .ok (.iload_n 1, 1) := by decide +kernel
theorem dX10_group_1 : decode cX10_group 1 = .ok (.invokestatic 220, 3) := by decide +kernel
theorem dX10_group_4 : decode cX10_group 4 = .ok (.ifCond .ne 5, 3) := by decide +kernel
theorem dX10_group_7 : decode cX10_group 7 = .ok (.iconst (-1), 1) := by decide +kernel
theorem dX10_group_8 : decode cX10_group 8 = .ok (.ireturn, 1) := by decide +kernel
theorem dX10_group_9 : decode cX10_group 9 = .ok (.aload_n 0, 1) := by decide +kernel
theorem dX10_group_10 : decode cX10_group 10 = .ok (.invokevirtual 209, 3) := by decide +kernel
theorem dX10_group_13 : decode cX10_group 13 = .ok (.iload_n 2, 1) := by decide +kernel
theorem dX10_group_14 : decode cX10_group 14 = .ok (.tableswitch 78 0 5 #[38, 45, 52, 59, 65, 72], 38) := by decide +kernel
theorem dX10_group_52 : decode cX10_group 52 = .ok (.aload_n 0, 1) := by decide +kernel
theorem dX10_group_53 : decode cX10_group 53 = .ok (.iload_n 1, 1) := by decide +kernel
theorem dX10_group_54 : decode cX10_group 54 = .ok (.iconst 0, 1) := by decide +kernel
theorem dX10_group_55 : decode cX10_group 55 = .ok (.invokevirtual 164, 3) := by decide +kernel
theorem dX10_group_58 : decode cX10_group 58 = .ok (.ireturn, 1) := by decide +kernel
theorem dX10_group_59 : decode cX10_group 59 = .ok (.aload_n 0, 1) := by decide +kernel
theorem dX10_group_60 : decode cX10_group 60 = .ok (.iload_n 1, 1) := by decide +kernel
theorem dX10_group_61 : decode cX10_group 61 = .ok (.iconst 1, 1) := by decide +kernel
theorem dX10_group_62 : decode cX10_group 62 = .ok (.invokevirtual 164, 3) := by decide +kernel
theorem dX10_group_65 : decode cX10_group 65 = .ok (.ireturn, 1) := by decide +kernel
theorem dX10_group_66 : decode cX10_group 66 = .ok (.aload_n 0, 1) := by decide +kernel
theorem dX10_group_67 : decode cX10_group 67 = .ok (.iload_n 1, 1) := by decide +kernel
theorem dX10_group_68 : decode cX10_group 68 = .ok (.iconst 2, 1) := by decide +kernel
theorem dX10_group_69 : decode cX10_group 69 = .ok (.invokevirtual 164, 3) := by decide +kernel
theorem dX10_group_72 : decode cX10_group 72 = .ok (.ireturn, 1) := by decide +kernel
theorem dX10_group_73 : decode cX10_group 73 = .ok (.aload_n 0, 1) := by decide +kernel
theorem dX10_group_74 : decode cX10_group 74 = .ok (.iload_n 1, 1) := by decide +kernel
theorem dX10_group_75 : decode cX10_group 75 = .ok (.invokevirtual 167, 3) := by decide +kernel
theorem dX10_group_78 : decode cX10_group 78 = .ok (.ireturn, 1) := by decide +kernel
theorem dX10_group_79 : decode cX10_group 79 = .ok (.aload_n 0, 1) := by decide +kernel
theorem dX10_group_80 : decode cX10_group 80 = .ok (.iload_n 1, 1) := by decide +kernel
theorem dX10_group_81 : decode cX10_group 81 = .ok (.iconst 3, 1) := by decide +kernel
theorem dX10_group_82 : decode cX10_group 82 = .ok (.invokevirtual 164, 3) := by decide +kernel
theorem dX10_group_85 : decode cX10_group 85 = .ok (.ireturn, 1) := by decide +kernel
theorem dX10_group_86 : decode cX10_group 86 = .ok (.aload_n 0, 1) := by decide +kernel
theorem dX10_group_87 : decode cX10_group 87 = .ok (.iload_n 1, 1) := by decide +kernel
theorem dX10_group_88 : decode cX10_group 88 = .ok (.invokevirtual 180, 3) := by decide +kernel
theorem dX10_group_91 : decode cX10_group 91 = .ok (.ireturn, 1) := by decide +kernel
theorem dX10_group_92 : decode cX10_group 92 = .ok (.iconst (-1), 1) := by decide +kernel
theorem dX10_group_93 : decode cX10_group 93 = .ok (.ireturn, 1) := by decide +kernel
theorem lk_X10_220 : LkS RX10 220 yX10_isGroup cX10_isGroup 1 (some .boolean) 1 := LkS.of 1185 1186 71 1187 (by decide +kernel) (by decide +kernel) (by decide +kernel) (by decide +kernel) (by decide +kernel)
set_option maxRecDepth 100000 in
set_option maxHeartbeats 4000000 in
theorem S_X10_group {ω : WD} {l1 : Int32} {l2 : Int32} {M : Mem} {post : Int32 → Mem → Prop} (h : w_X10_group l1 l2 M post) : MtI ω yX10_group cX10_group 3 (some .int) 3 [.ref (adr ω 128), .int l1, .int l2] M post := by
  refine MtI.start (ty := .int) rfl (by decide +kernel) (own := RX10) rfl (Nat.le_of_ble_eq_true rfl) (fun ρ C R => ?_)
  show G ω ρ M 0 [(0, .ref (adr ω 128)), (1, .int l1), (2, .int l2)] []
  refine G_iload_n C dX10_group_0 1 rfl ?_
  refine G_scallI (As := [.int l1]) (rest := []) C dX10_group_1 lk_X10_220 (Nat.le_of_ble_eq_true rfl) (Nat.le_of_ble_eq_true rfl) (Nat.le_of_ble_eq_true rfl) rfl (S_X10_isGroup h) (fun r2 M1 h => ?_)
  obtain ⟨h1, h2⟩ := h
  refine G_if_ne (tgt := 9) C dX10_group_4 (by decide) (fun c => ?_) (fun c => ?_)
  · have h := h1 c
    clear h1 h2
    refine G_aload_n C dX10_group_9 0 rfl ?_
    refine G_callV (As := []) (rest := []) C dX10_group_10 lk_X10_209 (Nat.le_of_ble_eq_true rfl) (Nat.le_of_ble_eq_true rfl) q128 (by decide) rfl (Nat.le_of_ble_eq_true rfl) rfl (S_X10_starts h) (fun M3 h => ?_)
    refine G_iload_n C dX10_group_13 2 rfl ?_
    obtain ⟨h0, h1, h2, h3, h4, h5, h6⟩ := h
    by_cases cd : (l2).toInt < 0 ∨ 5 < (l2).toInt
    · have h := h6 cd
      clear h0 h1 h2 h3 h4 h5 h6
      refine G_tableOut (tgt := 92) C dX10_group_14 cd (by decide) ?_
      refine G_iconst (v := (-1)) C dX10_group_92 (by decide) ?_
      exact R 93 _ _ _ dX10_group_93 rfl h
    · have cs : (l2).toInt = 0 ∨ (l2).toInt = 1 ∨ (l2).toInt = 2 ∨ (l2).toInt = 3 ∨ (l2).toInt = 4 ∨ (l2).toInt = 5 := by omega
      rcases cs with cs | cs | cs | cs | cs | cs
      · have h := h0 ((sw_toInt cs).trans (by decide))
        clear h0 h1 h2 h3 h4 h5 h6
        refine G_tableIn (tgt := 52) C dX10_group_14 (by omega) (by omega) (by rw [cs]; rfl) (by decide) ?_
        refine G_aload_n C dX10_group_52 0 rfl ?_
        refine G_iload_n C dX10_group_53 1 rfl ?_
        refine G_iconst (v := 0) C dX10_group_54 (by decide) ?_
        refine G_callI (As := [.int l1, .int 0]) (rest := []) C dX10_group_55 lk_X10_164 (Nat.le_of_ble_eq_true rfl) (Nat.le_of_ble_eq_true rfl) q128 (by decide) rfl (Nat.le_of_ble_eq_true rfl) rfl (S_X10_ofGroup h) (fun r5 M4 h => ?_)
        exact R 58 _ _ _ dX10_group_58 rfl h
      · have h := h1 ((sw_toInt cs).trans (by decide))
        clear h0 h1 h2 h3 h4 h5 h6
        refine G_tableIn (tgt := 59) C dX10_group_14 (by omega) (by omega) (by rw [cs]; rfl) (by decide) ?_
        refine G_aload_n C dX10_group_59 0 rfl ?_
        refine G_iload_n C dX10_group_60 1 rfl ?_
        refine G_iconst (v := 1) C dX10_group_61 (by decide) ?_
        refine G_callI (As := [.int l1, .int 1]) (rest := []) C dX10_group_62 lk_X10_164 (Nat.le_of_ble_eq_true rfl) (Nat.le_of_ble_eq_true rfl) q128 (by decide) rfl (Nat.le_of_ble_eq_true rfl) rfl (S_X10_ofGroup h) (fun r7 M6 h => ?_)
        exact R 65 _ _ _ dX10_group_65 rfl h
      · have h := h2 ((sw_toInt cs).trans (by decide))
        clear h0 h1 h2 h3 h4 h5 h6
        refine G_tableIn (tgt := 66) C dX10_group_14 (by omega) (by omega) (by rw [cs]; rfl) (by decide) ?_
        refine G_aload_n C dX10_group_66 0 rfl ?_
        refine G_iload_n C dX10_group_67 1 rfl ?_
        refine G_iconst (v := 2) C dX10_group_68 (by decide) ?_
        refine G_callI (As := [.int l1, .int 2]) (rest := []) C dX10_group_69 lk_X10_164 (Nat.le_of_ble_eq_true rfl) (Nat.le_of_ble_eq_true rfl) q128 (by decide) rfl (Nat.le_of_ble_eq_true rfl) rfl (S_X10_ofGroup h) (fun r9 M8 h => ?_)
        exact R 72 _ _ _ dX10_group_72 rfl h
      · have h := h3 ((sw_toInt cs).trans (by decide))
        clear h0 h1 h2 h3 h4 h5 h6
        refine G_tableIn (tgt := 73) C dX10_group_14 (by omega) (by omega) (by rw [cs]; rfl) (by decide) ?_
        refine G_aload_n C dX10_group_73 0 rfl ?_
        refine G_iload_n C dX10_group_74 1 rfl ?_
        refine G_callI (As := [.int l1]) (rest := []) C dX10_group_75 lk_X10_167 (Nat.le_of_ble_eq_true rfl) (Nat.le_of_ble_eq_true rfl) q128 (by decide) rfl (Nat.le_of_ble_eq_true rfl) rfl (S_X10_held h) (fun r11 M10 h => ?_)
        exact R 78 _ _ _ dX10_group_78 rfl h
      · have h := h4 ((sw_toInt cs).trans (by decide))
        clear h0 h1 h2 h3 h4 h5 h6
        refine G_tableIn (tgt := 79) C dX10_group_14 (by omega) (by omega) (by rw [cs]; rfl) (by decide) ?_
        refine G_aload_n C dX10_group_79 0 rfl ?_
        refine G_iload_n C dX10_group_80 1 rfl ?_
        refine G_iconst (v := 3) C dX10_group_81 (by decide) ?_
        refine G_callI (As := [.int l1, .int 3]) (rest := []) C dX10_group_82 lk_X10_164 (Nat.le_of_ble_eq_true rfl) (Nat.le_of_ble_eq_true rfl) q128 (by decide) rfl (Nat.le_of_ble_eq_true rfl) rfl (S_X10_ofGroup h) (fun r13 M12 h => ?_)
        exact R 85 _ _ _ dX10_group_85 rfl h
      · have h := h5 ((sw_toInt cs).trans (by decide))
        clear h0 h1 h2 h3 h4 h5 h6
        refine G_tableIn (tgt := 86) C dX10_group_14 (by omega) (by omega) (by rw [cs]; rfl) (by decide) ?_
        refine G_aload_n C dX10_group_86 0 rfl ?_
        refine G_iload_n C dX10_group_87 1 rfl ?_
        refine G_callI (As := [.int l1]) (rest := []) C dX10_group_88 lk_X10_180 (Nat.le_of_ble_eq_true rfl) (Nat.le_of_ble_eq_true rfl) q128 (by decide) rfl (Nat.le_of_ble_eq_true rfl) rfl (S_X10_taken h) (fun r15 M14 h => ?_)
        exact R 91 _ _ _ dX10_group_91 rfl h
  · have h := h2 c
    clear h1 h2
    refine G_iconst (v := (-1)) C dX10_group_7 (by decide) ?_
    exact R 8 _ _ _ dX10_group_8 rfl h
theorem dX10_isWay_0 : decode cX10_isWay 0 = .ok (.iload_n 1, 1) := by decide +kernel
theorem dX10_isWay_1 : decode cX10_isWay 1 = .ok (.invokestatic 220, 3) := by decide +kernel
theorem dX10_isWay_4 : decode cX10_isWay 4 = .ok (.ifCond .eq 32, 3) := by decide +kernel
theorem dX10_isWay_7 : decode cX10_isWay 7 = .ok (.iload_n 2, 1) := by decide +kernel
theorem dX10_isWay_8 : decode cX10_isWay 8 = .ok (.i2l, 1) := by decide +kernel
theorem dX10_isWay_9 : decode cX10_isWay 9 = .ok (.lconst 0, 1) := by decide +kernel
theorem dX10_isWay_10 : decode cX10_isWay 10 = .ok (.aload_n 0, 1) := by decide +kernel
theorem dX10_isWay_11 : decode cX10_isWay 11 = .ok (.getfield 7, 3) := by decide +kernel
theorem dX10_isWay_14 : decode cX10_isWay 14 = .ok (.bipush 26, 2) := by decide +kernel
theorem dX10_isWay_16 : decode cX10_isWay 16 = .ok (.iconst 4, 1) := by decide +kernel
theorem dX10_isWay_17 : decode cX10_isWay 17 = .ok (.iload_n 1, 1) := by decide +kernel
theorem dX10_isWay_18 : decode cX10_isWay 18 = .ok (.imul, 1) := by decide +kernel
theorem dX10_isWay_19 : decode cX10_isWay 19 = .ok (.iadd, 1) := by decide +kernel
theorem dX10_isWay_20 : decode cX10_isWay 20 = .ok (.iconst 1, 1) := by decide +kernel
theorem dX10_isWay_21 : decode cX10_isWay 21 = .ok (.iadd, 1) := by decide +kernel
theorem dX10_isWay_22 : decode cX10_isWay 22 = .ok (.iaload, 1) := by decide +kernel
theorem dX10_isWay_23 : decode cX10_isWay 23 = .ok (.iconst 1, 1) := by decide +kernel
theorem dX10_isWay_24 : decode cX10_isWay 24 = .ok (.isub, 1) := by decide +kernel
theorem dX10_isWay_25 : decode cX10_isWay 25 = .ok (.i2l, 1) := by decide +kernel
theorem dX10_isWay_26 : decode cX10_isWay 26 = .ok (.invokestatic 52, 3) := by decide +kernel
theorem dX10_isWay_29 : decode cX10_isWay 29 = .ok (.ifCond .eq 7, 3) := by decide +kernel
theorem dX10_isWay_32 : decode cX10_isWay 32 = .ok (.iconst 1, 1) := by decide +kernel
theorem dX10_isWay_33 : decode cX10_isWay 33 = .ok (.goto 4, 3) := by decide +kernel
theorem dX10_isWay_36 : decode cX10_isWay 36 = .ok (.iconst 0, 1) := by decide +kernel
theorem dX10_isWay_37 : decode cX10_isWay 37 = .ok (.ireturn, 1) := by decide +kernel
set_option maxRecDepth 100000 in
set_option maxHeartbeats 4000000 in
theorem S_X10_isWay {ω : WD} {l1 : Int32} {l2 : Int32} {M : Mem} {post : Int32 → Mem → Prop} (h : w_X10_isWay l1 l2 M post) : MtI ω yX10_isWay cX10_isWay 3 (some .boolean) 2 [.ref (adr ω 128), .int l1, .int l2] M post := by
  refine MtI.start (ty := .boolean) rfl (by decide +kernel) (own := RX10) rfl (Nat.le_of_ble_eq_true rfl) (fun ρ C R => ?_)
  show G ω ρ M 0 [(0, .ref (adr ω 128)), (1, .int l1), (2, .int l2)] []
  refine G_iload_n C dX10_isWay_0 1 rfl ?_
  refine G_scallI (As := [.int l1]) (rest := []) C dX10_isWay_1 lk_X10_220 (Nat.le_of_ble_eq_true rfl) (Nat.le_of_ble_eq_true rfl) (Nat.le_of_ble_eq_true rfl) rfl (S_X10_isGroup h) (fun r2 M1 h => ?_)
  obtain ⟨h1, h2⟩ := h
  refine G_if_eq (tgt := 36) C dX10_isWay_4 (by decide) (fun c => ?_) (fun c => ?_)
  · have h := h1 c
    clear h1 h2
    refine G_iconst (v := 0) C dX10_isWay_36 (by decide) ?_
    exact R 37 _ _ _ dX10_isWay_37 rfl h
  · have h := h2 c
    clear h1 h2
    refine G_iload_n C dX10_isWay_7 2 rfl ?_
    refine G_i2l C dX10_isWay_8 ?_
    refine G_lconst (v := 0) C dX10_isWay_9 (by decide) ?_
    refine G_aload_n C dX10_isWay_10 0 rfl ?_
    refine gf_X10_7 C dX10_isWay_11 ?_
    refine G_bipush (v := 26) C dX10_isWay_14 (by decide) ?_
    refine G_iconst (v := 4) C dX10_isWay_16 (by decide) ?_
    refine G_iload_n C dX10_isWay_17 1 rfl ?_
    refine G_imul C dX10_isWay_18 ?_
    refine G_iadd C dX10_isWay_19 ?_
    refine G_iconst (v := 1) C dX10_isWay_20 (by decide) ?_
    refine G_iadd C dX10_isWay_21 ?_
    obtain ⟨hi, h⟩ := h
    refine G_iald C q129 hi rfl dX10_isWay_22 ?_
    refine G_iconst (v := 1) C dX10_isWay_23 (by decide) ?_
    refine G_isub C dX10_isWay_24 ?_
    refine G_i2l C dX10_isWay_25 ?_
    refine G_scallI (As := [.long ((l2).toInt64), .long 0, .long ((((rd M1 129 ((26 + (4 * l1)) + 1).toNatClampNeg) - 1)).toInt64)]) (rest := []) C dX10_isWay_26 lk_X10_52 (Nat.le_of_ble_eq_true rfl) (Nat.le_of_ble_eq_true rfl) (Nat.le_of_ble_eq_true rfl) rfl (S_X10_in h) (fun r4 M3 h => ?_)
    obtain ⟨h1, h2⟩ := h
    refine G_if_eq (tgt := 36) C dX10_isWay_29 (by decide) (fun c => ?_) (fun c => ?_)
    · have h := h1 c
      clear h1 h2
      refine G_iconst (v := 0) C dX10_isWay_36 (by decide) ?_
      exact R 37 _ _ _ dX10_isWay_37 rfl h
    · have h := h2 c
      clear h1 h2
      refine G_iconst (v := 1) C dX10_isWay_32 (by decide) ?_
      refine G_goto (tgt := 37) C dX10_isWay_33 (by decide) ?_
      exact R 37 _ _ _ dX10_isWay_37 rfl h
theorem dX10_uses_0 : decode cX10_uses 0 = .ok (.aload_n 0, 1) := by decide +kernel
theorem dX10_uses_1 : decode cX10_uses 1 = .ok (.iload_n 1, 1) := by decide +kernel
theorem dX10_uses_2 : decode cX10_uses 2 = .ok (.iload_n 2, 1) := by decide +kernel
theorem dX10_uses_3 : decode cX10_uses 3 = .ok (.invokevirtual 223, 3) := by decide +kernel
theorem dX10_uses_6 : decode cX10_uses 6 = .ok (.ifCond .eq 19, 3) := by decide +kernel
theorem dX10_uses_9 : decode cX10_uses 9 = .ok (.aload_n 0, 1) := by decide +kernel
theorem dX10_uses_10 : decode cX10_uses 10 = .ok (.getfield 7, 3) := by decide +kernel
theorem dX10_uses_13 : decode cX10_uses 13 = .ok (.bipush 46, 2) := by decide +kernel
theorem dX10_uses_15 : decode cX10_uses 15 = .ok (.iconst 4, 1) := by decide +kernel
theorem dX10_uses_16 : decode cX10_uses 16 = .ok (.iload_n 1, 1) := by decide +kernel
theorem dX10_uses_17 : decode cX10_uses 17 = .ok (.imul, 1) := by decide +kernel
theorem dX10_uses_18 : decode cX10_uses 18 = .ok (.iadd, 1) := by decide +kernel
theorem dX10_uses_19 : decode cX10_uses 19 = .ok (.iload_n 2, 1) := by decide +kernel
theorem dX10_uses_20 : decode cX10_uses 20 = .ok (.iadd, 1) := by decide +kernel
theorem dX10_uses_21 : decode cX10_uses 21 = .ok (.iaload, 1) := by decide +kernel
theorem dX10_uses_22 : decode cX10_uses 22 = .ok (.goto 4, 3) := by decide +kernel
theorem dX10_uses_25 : decode cX10_uses 25 = .ok (.iconst (-1), 1) := by decide +kernel
theorem dX10_uses_26 : decode cX10_uses 26 = .ok (.ireturn, 1) := by decide +kernel
theorem lk_X10_223 : LkV RX10 223 RX10 yX10_isWay cX10_isWay 3 (some .boolean) 2 := LkV.of 1208 1210 38 71 1211 (by decide +kernel) (by decide +kernel) (by decide +kernel) (by decide +kernel) (by decide +kernel) (by decide +kernel)
set_option maxRecDepth 100000 in
set_option maxHeartbeats 4000000 in
theorem S_X10_uses {ω : WD} {l1 : Int32} {l2 : Int32} {M : Mem} {post : Int32 → Mem → Prop} (h : w_X10_uses l1 l2 M post) : MtI ω yX10_uses cX10_uses 3 (some .int) 3 [.ref (adr ω 128), .int l1, .int l2] M post := by
  refine MtI.start (ty := .int) rfl (by decide +kernel) (own := RX10) rfl (Nat.le_of_ble_eq_true rfl) (fun ρ C R => ?_)
  show G ω ρ M 0 [(0, .ref (adr ω 128)), (1, .int l1), (2, .int l2)] []
  refine G_aload_n C dX10_uses_0 0 rfl ?_
  refine G_iload_n C dX10_uses_1 1 rfl ?_
  refine G_iload_n C dX10_uses_2 2 rfl ?_
  refine G_callI (As := [.int l1, .int l2]) (rest := []) C dX10_uses_3 lk_X10_223 (Nat.le_of_ble_eq_true rfl) (Nat.le_of_ble_eq_true rfl) q128 (by decide) rfl (Nat.le_of_ble_eq_true rfl) rfl (S_X10_isWay h) (fun r2 M1 h => ?_)
  obtain ⟨h1, h2⟩ := h
  refine G_if_eq (tgt := 25) C dX10_uses_6 (by decide) (fun c => ?_) (fun c => ?_)
  · have h := h1 c
    clear h1 h2
    refine G_iconst (v := (-1)) C dX10_uses_25 (by decide) ?_
    exact R 26 _ _ _ dX10_uses_26 rfl h
  · have h := h2 c
    clear h1 h2
    refine G_aload_n C dX10_uses_9 0 rfl ?_
    refine gf_X10_7 C dX10_uses_10 ?_
    refine G_bipush (v := 46) C dX10_uses_13 (by decide) ?_
    refine G_iconst (v := 4) C dX10_uses_15 (by decide) ?_
    refine G_iload_n C dX10_uses_16 1 rfl ?_
    refine G_imul C dX10_uses_17 ?_
    refine G_iadd C dX10_uses_18 ?_
    refine G_iload_n C dX10_uses_19 2 rfl ?_
    refine G_iadd C dX10_uses_20 ?_
    obtain ⟨hi, h⟩ := h
    refine G_iald C q129 hi rfl dX10_uses_21 ?_
    refine G_goto (tgt := 26) C dX10_uses_22 (by decide) ?_
    exact R 26 _ _ _ dX10_uses_26 rfl h
theorem dX10_act_0 : decode cX10_act 0 = .ok (.iload_n 1, 1) := by decide +kernel
theorem dX10_act_1 : decode cX10_act 1 = .ok (.i2l, 1) := by decide +kernel
theorem dX10_act_2 : decode cX10_act 2 = .ok (.lconst 0, 1) := by decide +kernel
theorem dX10_act_3 : decode cX10_act 3 = .ok (.aload_n 0, 1) := by decide +kernel
theorem dX10_act_4 : decode cX10_act 4 = .ok (.getfield 7, 3) := by decide +kernel
theorem dX10_act_7 : decode cX10_act 7 = .ok (.bipush 66, 2) := by decide +kernel
theorem dX10_act_9 : decode cX10_act 9 = .ok (.iaload, 1) := by decide +kernel
theorem dX10_act_10 : decode cX10_act 10 = .ok (.iconst 1, 1) := by decide +kernel
theorem dX10_act_11 : decode cX10_act 11 = .ok (.isub, 1) := by decide +kernel
theorem dX10_act_12 : decode cX10_act 12 = .ok (.i2l, 1) := by decide +kernel
theorem dX10_act_13 : decode cX10_act 13 = .ok (.invokestatic 52, 3) := by decide +kernel
theorem dX10_act_16 : decode cX10_act 16 = .ok (.ifCond .eq 26, 3) := by decide +kernel
theorem dX10_act_19 : decode cX10_act 19 = .ok (.iload_n 2, 1) := by decide +kernel
theorem dX10_act_20 : decode cX10_act 20 = .ok (.invokestatic 226, 3) := by decide +kernel
theorem dX10_act_23 : decode cX10_act 23 = .ok (.ifCond .eq 19, 3) := by decide +kernel
theorem dX10_act_26 : decode cX10_act 26 = .ok (.aload_n 0, 1) := by decide +kernel
theorem dX10_act_27 : decode cX10_act 27 = .ok (.getfield 7, 3) := by decide +kernel
theorem dX10_act_30 : decode cX10_act 30 = .ok (.bipush 67, 2) := by decide +kernel
theorem dX10_act_32 : decode cX10_act 32 = .ok (.iconst 2, 1) := by decide +kernel
theorem dX10_act_33 : decode cX10_act 33 = .ok (.iload_n 1, 1) := by decide +kernel
theorem dX10_act_34 : decode cX10_act 34 = .ok (.imul, 1) := by decide +kernel
theorem dX10_act_35 : decode cX10_act 35 = .ok (.iadd, 1) := by decide +kernel
theorem dX10_act_36 : decode cX10_act 36 = .ok (.iload_n 2, 1) := by decide +kernel
theorem dX10_act_37 : decode cX10_act 37 = .ok (.iadd, 1) := by decide +kernel
theorem dX10_act_38 : decode cX10_act 38 = .ok (.iaload, 1) := by decide +kernel
theorem dX10_act_39 : decode cX10_act 39 = .ok (.goto 4, 3) := by decide +kernel
theorem dX10_act_42 : decode cX10_act 42 = .ok (.iconst (-1), 1) := by decide +kernel
theorem dX10_act_43 : decode cX10_act 43 = .ok (.ireturn, 1) := by decide +kernel
theorem lk_X10_226 : LkS RX10 226 yX10_isPart cX10_isPart 1 (some .boolean) 1 := LkS.of 1216 1217 71 1218 (by decide +kernel) (by decide +kernel) (by decide +kernel) (by decide +kernel) (by decide +kernel)
set_option maxRecDepth 100000 in
set_option maxHeartbeats 4000000 in
theorem S_X10_act {ω : WD} {l1 : Int32} {l2 : Int32} {M : Mem} {post : Int32 → Mem → Prop} (h : w_X10_act l1 l2 M post) : MtI ω yX10_act cX10_act 3 (some .int) 2 [.ref (adr ω 128), .int l1, .int l2] M post := by
  refine MtI.start (ty := .int) rfl (by decide +kernel) (own := RX10) rfl (Nat.le_of_ble_eq_true rfl) (fun ρ C R => ?_)
  show G ω ρ M 0 [(0, .ref (adr ω 128)), (1, .int l1), (2, .int l2)] []
  refine G_iload_n C dX10_act_0 1 rfl ?_
  refine G_i2l C dX10_act_1 ?_
  refine G_lconst (v := 0) C dX10_act_2 (by decide) ?_
  refine G_aload_n C dX10_act_3 0 rfl ?_
  refine gf_X10_7 C dX10_act_4 ?_
  refine G_bipush (v := 66) C dX10_act_7 (by decide) ?_
  refine G_iald C q129 (vp_lit rfl) (kk := 66) (by decide +kernel) dX10_act_9 ?_
  refine G_iconst (v := 1) C dX10_act_10 (by decide) ?_
  refine G_isub C dX10_act_11 ?_
  refine G_i2l C dX10_act_12 ?_
  refine G_scallI (As := [.long ((l1).toInt64), .long 0, .long ((((rd M 129 66) - 1)).toInt64)]) (rest := []) C dX10_act_13 lk_X10_52 (Nat.le_of_ble_eq_true rfl) (Nat.le_of_ble_eq_true rfl) (Nat.le_of_ble_eq_true rfl) rfl (S_X10_in h) (fun r2 M1 h => ?_)
  obtain ⟨h1, h2⟩ := h
  refine G_if_eq (tgt := 42) C dX10_act_16 (by decide) (fun c => ?_) (fun c => ?_)
  · have h := h1 c
    clear h1 h2
    refine G_iconst (v := (-1)) C dX10_act_42 (by decide) ?_
    exact R 43 _ _ _ dX10_act_43 rfl h
  · have h := h2 c
    clear h1 h2
    refine G_iload_n C dX10_act_19 2 rfl ?_
    refine G_scallI (As := [.int l2]) (rest := []) C dX10_act_20 lk_X10_226 (Nat.le_of_ble_eq_true rfl) (Nat.le_of_ble_eq_true rfl) (Nat.le_of_ble_eq_true rfl) rfl (S_X10_isPart h) (fun r4 M3 h => ?_)
    obtain ⟨h1, h2⟩ := h
    refine G_if_eq (tgt := 42) C dX10_act_23 (by decide) (fun c => ?_) (fun c => ?_)
    · have h := h1 c
      clear h1 h2
      refine G_iconst (v := (-1)) C dX10_act_42 (by decide) ?_
      exact R 43 _ _ _ dX10_act_43 rfl h
    · have h := h2 c
      clear h1 h2
      refine G_aload_n C dX10_act_26 0 rfl ?_
      refine gf_X10_7 C dX10_act_27 ?_
      refine G_bipush (v := 67) C dX10_act_30 (by decide) ?_
      refine G_iconst (v := 2) C dX10_act_32 (by decide) ?_
      refine G_iload_n C dX10_act_33 1 rfl ?_
      refine G_imul C dX10_act_34 ?_
      refine G_iadd C dX10_act_35 ?_
      refine G_iload_n C dX10_act_36 2 rfl ?_
      refine G_iadd C dX10_act_37 ?_
      obtain ⟨hi, h⟩ := h
      refine G_iald C q129 hi rfl dX10_act_38 ?_
      refine G_goto (tgt := 43) C dX10_act_39 (by decide) ?_
      exact R 43 _ _ _ dX10_act_43 rfl h
theorem dX10_becomes_0 : decode cX10_becomes 0 = .ok (.aload_n 0, 1) := by decide +kernel
theorem dX10_becomes_1 : decode cX10_becomes 1 = .ok (.getfield 7, 3) := by decide +kernel
theorem dX10_becomes_4 : decode cX10_becomes 4 = .ok (.iload_n 1, 1) := by decide +kernel
theorem dX10_becomes_5 : decode cX10_becomes 5 = .ok (.iaload, 1) := by decide +kernel
theorem dX10_becomes_6 : decode cX10_becomes 6 = .ok (.istore_n 3, 1) := by decide +kernel
theorem dX10_becomes_7 : decode cX10_becomes 7 = .ok (.aload_n 0, 1) := by decide +kernel
theorem dX10_becomes_8 : decode cX10_becomes 8 = .ok (.getfield 7, 3) := by decide +kernel
theorem dX10_becomes_11 : decode cX10_becomes 11 = .ok (.iload_n 1, 1) := by decide +kernel
theorem dX10_becomes_12 : decode cX10_becomes 12 = .ok (.iload_n 2, 1) := by decide +kernel
theorem dX10_becomes_13 : decode cX10_becomes 13 = .ok (.iastore, 1) := by decide +kernel
theorem dX10_becomes_14 : decode cX10_becomes 14 = .ok (.iload_n 3, 1) := by decide +kernel
theorem dX10_becomes_15 : decode cX10_becomes 15 = .ok (.ireturn, 1) := by decide +kernel
set_option maxRecDepth 100000 in
set_option maxHeartbeats 4000000 in
theorem S_X10_becomes {ω : WD} {l1 : Int32} {l2 : Int32} {M : Mem} {post : Int32 → Mem → Prop} (h : w_X10_becomes l1 l2 M post) : MtI ω yX10_becomes cX10_becomes 4 (some .int) 0 [.ref (adr ω 128), .int l1, .int l2] M post := by
  refine MtI.start (ty := .int) rfl (by decide +kernel) (own := RX10) rfl (Nat.le_of_ble_eq_true rfl) (fun ρ C R => ?_)
  show G ω ρ M 0 [(0, .ref (adr ω 128)), (1, .int l1), (2, .int l2)] []
  refine G_aload_n C dX10_becomes_0 0 rfl ?_
  refine gf_X10_7 C dX10_becomes_1 ?_
  refine G_iload_n C dX10_becomes_4 1 rfl ?_
  obtain ⟨hi, h⟩ := h
  refine G_iald C q129 hi rfl dX10_becomes_5 ?_
  refine G_iname (fun v1 ev1 => ?_)
  replace h := h v1 ev1
  refine G_istore_n C dX10_becomes_6 (by decide) (lv' := [(3, .int v1), (0, .ref (adr ω 128)), (1, .int l1), (2, .int l2)]) rfl ?_
  refine G_aload_n C dX10_becomes_7 1 rfl ?_
  refine gf_X10_7 C dX10_becomes_8 ?_
  refine G_iload_n C dX10_becomes_11 2 rfl ?_
  refine G_iload_n C dX10_becomes_12 3 rfl ?_
  obtain ⟨hi, h⟩ := h
  refine G_iast C q129 hi rfl dX10_becomes_13 (G_mname (fun M2 eM2 => ?_))
  replace h := h M2 eM2
  refine G_iload_n C dX10_becomes_14 0 rfl ?_
  exact R 15 _ _ _ dX10_becomes_15 rfl h
theorem dX10_number_0 : decode cX10_number 0 = .ok (.aload_n 0, 1) := by decide +kernel
theorem dX10_number_1 : decode cX10_number 1 = .ok (.invokevirtual 209, 3) := by decide +kernel
theorem dX10_number_4 : decode cX10_number 4 = .ok (.aload_n 0, 1) := by decide +kernel
theorem dX10_number_5 : decode cX10_number 5 = .ok (.iload_n 2, 1) := by decide +kernel
theorem dX10_number_6 : decode cX10_number 6 = .ok (.invokevirtual 186, 3) := by decide +kernel
theorem dX10_number_9 : decode cX10_number 9 = .ok (.istore_n 3, 1) := by decide +kernel
theorem dX10_number_10 : decode cX10_number 10 = .ok (.aload_n 0, 1) := by decide +kernel
theorem dX10_number_11 : decode cX10_number 11 = .ok (.iload_n 1, 1) := by decide +kernel
theorem dX10_number_12 : decode cX10_number 12 = .ok (.invokevirtual 215, 3) := by decide +kernel
theorem dX10_number_15 : decode cX10_number 15 = .ok (.ifCond .eq 21, 3) := by decide +kernel
theorem dX10_number_18 : decode cX10_number 18 = .ok (.iload_n 2, 1) := by decide +kernel
theorem dX10_number_19 : decode cX10_number 19 = .ok (.invokestatic 56, 3) := by decide +kernel
theorem dX10_number_22 : decode cX10_number 22 = .ok (.ifCond .eq 14, 3) := by decide +kernel
theorem dX10_number_25 : decode cX10_number 25 = .ok (.iload_n 3, 1) := by decide +kernel
theorem dX10_number_26 : decode cX10_number 26 = .ok (.bipush (-4), 2) := by decide +kernel
theorem dX10_number_28 : decode cX10_number 28 = .ok (.if_icmp .eq 10, 3) := by decide +kernel
theorem dX10_number_31 : decode cX10_number 31 = .ok (.iload_n 3, 1) := by decide +kernel
theorem dX10_number_32 : decode cX10_number 32 = .ok (.iload_n 1, 1) := by decide +kernel
theorem dX10_number_33 : decode cX10_number 33 = .ok (.if_icmp .eq 5, 3) := by decide +kernel
theorem dX10_number_36 : decode cX10_number 36 = .ok (.iconst (-1), 1) := by decide +kernel
theorem dX10_number_37 : decode cX10_number 37 = .ok (.ireturn, 1) := by decide +kernel
theorem dX10_number_38 : decode cX10_number 38 = .ok (.aload_n 0, 1) := by decide +kernel
theorem dX10_number_39 : decode cX10_number 39 = .ok (.getfield 7, 3) := by decide +kernel
theorem dX10_number_42 : decode cX10_number 42 = .ok (.iconst 4, 1) := by decide +kernel
theorem dX10_number_43 : decode cX10_number 43 = .ok (.iload_n 1, 1) := by decide +kernel
theorem dX10_number_44 : decode cX10_number 44 = .ok (.imul, 1) := by decide +kernel
theorem dX10_number_45 : decode cX10_number 45 = .ok (.iconst 2, 1) := by decide +kernel
theorem dX10_number_46 : decode cX10_number 46 = .ok (.iadd, 1) := by decide +kernel
theorem dX10_number_47 : decode cX10_number 47 = .ok (.iaload, 1) := by decide +kernel
theorem dX10_number_48 : decode cX10_number 48 = .ok (.ifCond .eq 8, 3) := by decide +kernel
theorem dX10_number_51 : decode cX10_number 51 = .ok (.bipush (-2), 2) := by decide +kernel
theorem dX10_number_53 : decode cX10_number 53 = .ok (.goto 13, 3) := by decide +kernel
theorem dX10_number_56 : decode cX10_number 56 = .ok (.aload_n 0, 1) := by decide +kernel
theorem dX10_number_57 : decode cX10_number 57 = .ok (.iconst 4, 1) := by decide +kernel
theorem dX10_number_58 : decode cX10_number 58 = .ok (.iload_n 1, 1) := by decide +kernel
theorem dX10_number_59 : decode cX10_number 59 = .ok (.imul, 1) := by decide +kernel
theorem dX10_number_60 : decode cX10_number 60 = .ok (.iconst 0, 1) := by decide +kernel
theorem dX10_number_61 : decode cX10_number 61 = .ok (.iadd, 1) := by decide +kernel
theorem dX10_number_62 : decode cX10_number 62 = .ok (.iload_n 2, 1) := by decide +kernel
theorem dX10_number_63 : decode cX10_number 63 = .ok (.invokevirtual 229, 3) := by decide +kernel
theorem dX10_number_66 : decode cX10_number 66 = .ok (.ireturn, 1) := by decide +kernel
theorem lk_X10_229 : LkV RX10 229 RX10 yX10_becomes cX10_becomes 4 (some .int) 2 := LkV.of 1227 1229 40 71 1230 (by decide +kernel) (by decide +kernel) (by decide +kernel) (by decide +kernel) (by decide +kernel) (by decide +kernel)
set_option maxRecDepth 100000 in
set_option maxHeartbeats 4000000 in
theorem s_X10_number_J38 {ω : WD} {ρ : FR} {post : Int32 → Mem → Prop} (C : Cx ω ρ cX10_number RX10 2 4) (R : RtI ω ρ cX10_number .int post) {l1 : Int32} {l2 : Int32} {M : Mem} (h : w_X10_number_J38 post l1 l2 M) : G ω ρ M 38 [(0, .ref (adr ω 128)), (1, .int l1), (2, .int l2)] [] := by
  refine G_aload_n C dX10_number_38 0 rfl ?_
  refine gf_X10_7 C dX10_number_39 ?_
  refine G_iconst (v := 4) C dX10_number_42 (by decide) ?_
  refine G_iload_n C dX10_number_43 1 rfl ?_
  refine G_imul C dX10_number_44 ?_
  refine G_iconst (v := 2) C dX10_number_45 (by decide) ?_
  refine G_iadd C dX10_number_46 ?_
  obtain ⟨hi, h⟩ := h
  refine G_iald C q129 hi rfl dX10_number_47 ?_
  obtain ⟨h1, h2⟩ := h
  refine G_if_eq (tgt := 56) C dX10_number_48 (by decide) (fun c => ?_) (fun c => ?_)
  · have h := h1 c
    clear h1 h2
    refine G_aload_n C dX10_number_56 0 rfl ?_
    refine G_iconst (v := 4) C dX10_number_57 (by decide) ?_
    refine G_iload_n C dX10_number_58 1 rfl ?_
    refine G_imul C dX10_number_59 ?_
    refine G_iconst (v := 0) C dX10_number_60 (by decide) ?_
    refine G_iadd C dX10_number_61 ?_
    refine G_iload_n C dX10_number_62 2 rfl ?_
    refine G_callI (As := [.int ((4 * l1) + 0), .int l2]) (rest := []) C dX10_number_63 lk_X10_229 (Nat.le_of_ble_eq_true rfl) (Nat.le_of_ble_eq_true rfl) q128 (by decide) rfl (Nat.le_of_ble_eq_true rfl) rfl (S_X10_becomes h) (fun r2 M1 h => ?_)
    exact R 66 _ _ _ dX10_number_66 rfl h
  · have h := h2 c
    clear h1 h2
    refine G_bipush (v := (-2)) C dX10_number_51 (by decide) ?_
    refine G_goto (tgt := 66) C dX10_number_53 (by decide) ?_
    exact R 66 _ _ _ dX10_number_66 rfl h
set_option maxRecDepth 100000 in
set_option maxHeartbeats 4000000 in
theorem S_X10_number {ω : WD} {l1 : Int32} {l2 : Int32} {M : Mem} {post : Int32 → Mem → Prop} (h : w_X10_number l1 l2 M post) : MtI ω yX10_number cX10_number 4 (some .int) 2 [.ref (adr ω 128), .int l1, .int l2] M post := by
  refine MtI.start (ty := .int) rfl (by decide +kernel) (own := RX10) rfl (Nat.le_of_ble_eq_true rfl) (fun ρ C R => ?_)
  show G ω ρ M 0 [(0, .ref (adr ω 128)), (1, .int l1), (2, .int l2)] []
  refine G_aload_n C dX10_number_0 0 rfl ?_
  refine G_callV (As := []) (rest := []) C dX10_number_1 lk_X10_209 (Nat.le_of_ble_eq_true rfl) (Nat.le_of_ble_eq_true rfl) q128 (by decide) rfl (Nat.le_of_ble_eq_true rfl) rfl (S_X10_starts h) (fun M3 h => ?_)
  refine G_aload_n C dX10_number_4 0 rfl ?_
  refine G_iload_n C dX10_number_5 2 rfl ?_
  refine G_callI (As := [.int l2]) (rest := []) C dX10_number_6 lk_X10_186 (Nat.le_of_ble_eq_true rfl) (Nat.le_of_ble_eq_true rfl) q128 (by decide) rfl (Nat.le_of_ble_eq_true rfl) rfl (S_X10_whoHas h) (fun r5 M4 h => ?_)
  refine G_istore_n C dX10_number_9 (by decide) (lv' := [(3, .int r5), (0, .ref (adr ω 128)), (1, .int l1), (2, .int l2)]) rfl ?_
  refine G_aload_n C dX10_number_10 1 rfl ?_
  refine G_iload_n C dX10_number_11 2 rfl ?_
  refine G_callI (As := [.int l1]) (rest := []) C dX10_number_12 lk_X10_215 (Nat.le_of_ble_eq_true rfl) (Nat.le_of_ble_eq_true rfl) q128 (by decide) rfl (Nat.le_of_ble_eq_true rfl) rfl (S_X10_isOne h) (fun r7 M6 h => ?_)
  obtain ⟨h1, h2⟩ := h
  refine G_if_eq (tgt := 36) C dX10_number_15 (by decide) (fun c => ?_) (fun c => ?_)
  · have h := h1 c
    clear h1 h2
    refine G_iconst (v := (-1)) C dX10_number_36 (by decide) ?_
    exact R 37 _ _ _ dX10_number_37 rfl h
  · have h := h2 c
    clear h1 h2
    refine G_iload_n C dX10_number_18 3 rfl ?_
    refine G_scallI (As := [.int l2]) (rest := []) C dX10_number_19 lk_X10_56 (Nat.le_of_ble_eq_true rfl) (Nat.le_of_ble_eq_true rfl) (Nat.le_of_ble_eq_true rfl) rfl (S_X10_isNumber h) (fun r9 M8 h => ?_)
    obtain ⟨h1, h2⟩ := h
    refine G_if_eq (tgt := 36) C dX10_number_22 (by decide) (fun c => ?_) (fun c => ?_)
    · have h := h1 c
      clear h1 h2
      refine G_iconst (v := (-1)) C dX10_number_36 (by decide) ?_
      exact R 37 _ _ _ dX10_number_37 rfl h
    · have h := h2 c
      clear h1 h2
      refine G_iload_n C dX10_number_25 0 rfl ?_
      refine G_bipush (v := (-4)) C dX10_number_26 (by decide) ?_
      obtain ⟨h1, h2⟩ := h
      refine G_icmp_eq (tgt := 38) C dX10_number_28 (by decide) (fun c => ?_) (fun c => ?_)
      · have h := h1 c
        clear h1 h2
        refine G_sub [1, 2, 3] (lv' := [(0, .ref (adr ω 128)), (1, .int l1), (2, .int l2)]) rfl ?_
        exact s_X10_number_J38 C R  h
      · have h := h2 c
        clear h1 h2
        refine G_iload_n C dX10_number_31 0 rfl ?_
        refine G_iload_n C dX10_number_32 2 rfl ?_
        obtain ⟨h1, h2⟩ := h
        refine G_icmp_eq (tgt := 38) C dX10_number_33 (by decide) (fun c => ?_) (fun c => ?_)
        · have h := h1 c
          clear h1 h2
          refine G_sub [1, 2, 3] (lv' := [(0, .ref (adr ω 128)), (1, .int l1), (2, .int l2)]) rfl ?_
          exact s_X10_number_J38 C R  h
        · have h := h2 c
          clear h1 h2
          refine G_iconst (v := (-1)) C dX10_number_36 (by decide) ?_
          exact R 37 _ _ _ dX10_number_37 rfl h
theorem dX10_finders_0 : decode cX10_finders 0 = .ok (.iload_n 1, 1) := by decide +kernel
theorem dX10_finders_1 : decode cX10_finders 1 = .ok (.i2l, 1) := by decide +kernel
theorem dX10_finders_2 : decode cX10_finders 2 = .ok (.lconst 1, 1) := by decide +kernel
theorem dX10_finders_3 : decode cX10_finders 3 = .ok (.ldc2_w 232, 3) := by decide +kernel
theorem dX10_finders_6 : decode cX10_finders 6 = .ok (.invokestatic 52, 3) := by decide +kernel
theorem dX10_finders_9 : decode cX10_finders 9 = .ok (.ifCond .ne 5, 3) := by decide +kernel
theorem dX10_finders_12 : decode cX10_finders 12 = .ok (.iconst (-1), 1) := by decide +kernel
theorem dX10_finders_13 : decode cX10_finders 13 = .ok (.ireturn, 1) := by decide +kernel
theorem dX10_finders_14 : decode cX10_finders 14 = .ok (.aload_n 0, 1) := by decide +kernel
theorem dX10_finders_15 : decode cX10_finders 15 = .ok (.invokevirtual 209, 3) := by decide +kernel
theorem dX10_finders_18 : decode cX10_finders 18 = .ok (.aload_n 0, 1) := by decide +kernel
theorem dX10_finders_19 : decode cX10_finders 19 = .ok (.invokevirtual 177, 3) := by decide +kernel
theorem dX10_finders_22 : decode cX10_finders 22 = .ok (.iload_n 1, 1) := by decide +kernel
theorem dX10_finders_23 : decode cX10_finders 23 = .ok (.if_icmp .le 8, 3) := by decide +kernel
theorem dX10_finders_26 : decode cX10_finders 26 = .ok (.bipush (-2), 2) := by decide +kernel
theorem dX10_finders_28 : decode cX10_finders 28 = .ok (.goto 10, 3) := by decide +kernel
theorem dX10_finders_31 : decode cX10_finders 31 = .ok (.aload_n 0, 1) := by decide +kernel
theorem dX10_finders_32 : decode cX10_finders 32 = .ok (.bipush 25, 2) := by decide +kernel
theorem dX10_finders_34 : decode cX10_finders 34 = .ok (.iload_n 1, 1) := by decide +kernel
theorem dX10_finders_35 : decode cX10_finders 35 = .ok (.invokevirtual 229, 3) := by decide +kernel
theorem dX10_finders_38 : decode cX10_finders 38 = .ok (.ireturn, 1) := by decide +kernel
set_option maxRecDepth 100000 in
set_option maxHeartbeats 4000000 in
theorem S_X10_finders {ω : WD} {l1 : Int32} {M : Mem} {post : Int32 → Mem → Prop} (h : w_X10_finders l1 M post) : MtI ω yX10_finders cX10_finders 2 (some .int) 2 [.ref (adr ω 128), .int l1] M post := by
  refine MtI.start (ty := .int) rfl (by decide +kernel) (own := RX10) rfl (Nat.le_of_ble_eq_true rfl) (fun ρ C R => ?_)
  show G ω ρ M 0 [(0, .ref (adr ω 128)), (1, .int l1)] []
  refine G_iload_n C dX10_finders_0 1 rfl ?_
  refine G_i2l C dX10_finders_1 ?_
  refine G_lconst (v := 1) C dX10_finders_2 (by decide) ?_
  refine G_ldc2 (v := 6) C dX10_finders_3 (tb_of 1235 ⟨by decide +kernel, rfl⟩) ?_
  refine G_scallI (As := [.long ((l1).toInt64), .long 1, .long 6]) (rest := []) C dX10_finders_6 lk_X10_52 (Nat.le_of_ble_eq_true rfl) (Nat.le_of_ble_eq_true rfl) (Nat.le_of_ble_eq_true rfl) rfl (S_X10_in h) (fun r2 M1 h => ?_)
  obtain ⟨h1, h2⟩ := h
  refine G_if_ne (tgt := 14) C dX10_finders_9 (by decide) (fun c => ?_) (fun c => ?_)
  · have h := h1 c
    clear h1 h2
    refine G_aload_n C dX10_finders_14 0 rfl ?_
    refine G_callV (As := []) (rest := []) C dX10_finders_15 lk_X10_209 (Nat.le_of_ble_eq_true rfl) (Nat.le_of_ble_eq_true rfl) q128 (by decide) rfl (Nat.le_of_ble_eq_true rfl) rfl (S_X10_starts h) (fun M3 h => ?_)
    refine G_aload_n C dX10_finders_18 0 rfl ?_
    refine G_callI (As := []) (rest := []) C dX10_finders_19 lk_X10_177 (Nat.le_of_ble_eq_true rfl) (Nat.le_of_ble_eq_true rfl) q128 (by decide) rfl (Nat.le_of_ble_eq_true rfl) rfl (S_X10_callsNow h) (fun r5 M4 h => ?_)
    refine G_iload_n C dX10_finders_22 1 rfl ?_
    obtain ⟨h1, h2⟩ := h
    refine G_icmp_le (tgt := 31) C dX10_finders_23 (by decide) (fun c => ?_) (fun c => ?_)
    · have h := h1 c
      clear h1 h2
      refine G_aload_n C dX10_finders_31 0 rfl ?_
      refine G_bipush (v := 25) C dX10_finders_32 (by decide) ?_
      refine G_iload_n C dX10_finders_34 1 rfl ?_
      refine G_callI (As := [.int 25, .int l1]) (rest := []) C dX10_finders_35 lk_X10_229 (Nat.le_of_ble_eq_true rfl) (Nat.le_of_ble_eq_true rfl) q128 (by decide) rfl (Nat.le_of_ble_eq_true rfl) rfl (S_X10_becomes h) (fun r7 M6 h => ?_)
      exact R 38 _ _ _ dX10_finders_38 rfl h
    · have h := h2 c
      clear h1 h2
      refine G_bipush (v := (-2)) C dX10_finders_26 (by decide) ?_
      refine G_goto (tgt := 38) C dX10_finders_28 (by decide) ?_
      exact R 38 _ _ _ dX10_finders_38 rfl h
  · have h := h2 c
    clear h1 h2
    refine G_iconst (v := (-1)) C dX10_finders_12 (by decide) ?_
    exact R 13 _ _ _ dX10_finders_13 rfl h
theorem dX10_hunt_0 : decode cX10_hunt 0 = .ok (.iload_n 1, 1) := by decide +kernel
theorem dX10_hunt_1 : decode cX10_hunt 1 = .ok (.invokestatic 220, 3) := by decide +kernel
theorem dX10_hunt_4 : decode cX10_hunt 4 = .ok (.ifCond .eq 31, 3) := by decide +kernel
theorem dX10_hunt_7 : decode cX10_hunt 7 = .ok (.iload_n 2, 1) := by decide +kernel
theorem dX10_hunt_8 : decode cX10_hunt 8 = .ok (.i2l, 1) := by decide +kernel
theorem dX10_hunt_9 : decode cX10_hunt 9 = .ok (.lconst 0, 1) := by decide +kernel
theorem dX10_hunt_10 : decode cX10_hunt 10 = .ok (.ldc2_w 218, 3) := by decide +kernel
theorem dX10_hunt_13 : decode cX10_hunt 13 = .ok (.invokestatic 52, 3) := by decide +kernel
theorem dX10_hunt_16 : decode cX10_hunt 16 = .ok (.ifCond .eq 19, 3) := by decide +kernel
theorem dX10_hunt_19 : decode cX10_hunt 19 = .ok (.aload_n 0, 1) := by decide +kernel
theorem dX10_hunt_20 : decode cX10_hunt 20 = .ok (.bipush 26, 2) := by decide +kernel
theorem dX10_hunt_22 : decode cX10_hunt 22 = .ok (.iconst 4, 1) := by decide +kernel
theorem dX10_hunt_23 : decode cX10_hunt 23 = .ok (.iload_n 1, 1) := by decide +kernel
theorem dX10_hunt_24 : decode cX10_hunt 24 = .ok (.imul, 1) := by decide +kernel
theorem dX10_hunt_25 : decode cX10_hunt 25 = .ok (.iadd, 1) := by decide +kernel
theorem dX10_hunt_26 : decode cX10_hunt 26 = .ok (.iconst 0, 1) := by decide +kernel
theorem dX10_hunt_27 : decode cX10_hunt 27 = .ok (.iadd, 1) := by decide +kernel
theorem dX10_hunt_28 : decode cX10_hunt 28 = .ok (.iload_n 2, 1) := by decide +kernel
theorem dX10_hunt_29 : decode cX10_hunt 29 = .ok (.invokevirtual 229, 3) := by decide +kernel
theorem dX10_hunt_32 : decode cX10_hunt 32 = .ok (.goto 4, 3) := by decide +kernel
theorem dX10_hunt_35 : decode cX10_hunt 35 = .ok (.iconst (-1), 1) := by decide +kernel
theorem dX10_hunt_36 : decode cX10_hunt 36 = .ok (.ireturn, 1) := by decide +kernel
set_option maxRecDepth 100000 in
set_option maxHeartbeats 4000000 in
theorem S_X10_hunt {ω : WD} {l1 : Int32} {l2 : Int32} {M : Mem} {post : Int32 → Mem → Prop} (h : w_X10_hunt l1 l2 M post) : MtI ω yX10_hunt cX10_hunt 3 (some .int) 2 [.ref (adr ω 128), .int l1, .int l2] M post := by
  refine MtI.start (ty := .int) rfl (by decide +kernel) (own := RX10) rfl (Nat.le_of_ble_eq_true rfl) (fun ρ C R => ?_)
  show G ω ρ M 0 [(0, .ref (adr ω 128)), (1, .int l1), (2, .int l2)] []
  refine G_iload_n C dX10_hunt_0 1 rfl ?_
  refine G_scallI (As := [.int l1]) (rest := []) C dX10_hunt_1 lk_X10_220 (Nat.le_of_ble_eq_true rfl) (Nat.le_of_ble_eq_true rfl) (Nat.le_of_ble_eq_true rfl) rfl (S_X10_isGroup h) (fun r2 M1 h => ?_)
  obtain ⟨h1, h2⟩ := h
  refine G_if_eq (tgt := 35) C dX10_hunt_4 (by decide) (fun c => ?_) (fun c => ?_)
  · have h := h1 c
    clear h1 h2
    refine G_iconst (v := (-1)) C dX10_hunt_35 (by decide) ?_
    exact R 36 _ _ _ dX10_hunt_36 rfl h
  · have h := h2 c
    clear h1 h2
    refine G_iload_n C dX10_hunt_7 2 rfl ?_
    refine G_i2l C dX10_hunt_8 ?_
    refine G_lconst (v := 0) C dX10_hunt_9 (by decide) ?_
    refine G_ldc2 (v := 3) C dX10_hunt_10 (tb_of 1180 ⟨by decide +kernel, rfl⟩) ?_
    refine G_scallI (As := [.long ((l2).toInt64), .long 0, .long 3]) (rest := []) C dX10_hunt_13 lk_X10_52 (Nat.le_of_ble_eq_true rfl) (Nat.le_of_ble_eq_true rfl) (Nat.le_of_ble_eq_true rfl) rfl (S_X10_in h) (fun r4 M3 h => ?_)
    obtain ⟨h1, h2⟩ := h
    refine G_if_eq (tgt := 35) C dX10_hunt_16 (by decide) (fun c => ?_) (fun c => ?_)
    · have h := h1 c
      clear h1 h2
      refine G_iconst (v := (-1)) C dX10_hunt_35 (by decide) ?_
      exact R 36 _ _ _ dX10_hunt_36 rfl h
    · have h := h2 c
      clear h1 h2
      refine G_aload_n C dX10_hunt_19 0 rfl ?_
      refine G_bipush (v := 26) C dX10_hunt_20 (by decide) ?_
      refine G_iconst (v := 4) C dX10_hunt_22 (by decide) ?_
      refine G_iload_n C dX10_hunt_23 1 rfl ?_
      refine G_imul C dX10_hunt_24 ?_
      refine G_iadd C dX10_hunt_25 ?_
      refine G_iconst (v := 0) C dX10_hunt_26 (by decide) ?_
      refine G_iadd C dX10_hunt_27 ?_
      refine G_iload_n C dX10_hunt_28 2 rfl ?_
      refine G_callI (As := [.int ((26 + (4 * l1)) + 0), .int l2]) (rest := []) C dX10_hunt_29 lk_X10_229 (Nat.le_of_ble_eq_true rfl) (Nat.le_of_ble_eq_true rfl) q128 (by decide) rfl (Nat.le_of_ble_eq_true rfl) rfl (S_X10_becomes h) (fun r6 M5 h => ?_)
      refine G_goto (tgt := 36) C dX10_hunt_32 (by decide) ?_
      exact R 36 _ _ _ dX10_hunt_36 rfl h
theorem dX10_hasWays_0 : decode cX10_hasWays 0 = .ok (.aload_n 0, 1) := by decide +kernel
theorem dX10_hasWays_1 : decode cX10_hasWays 1 = .ok (.iload_n 1, 1) := by decide +kernel
theorem dX10_hasWays_2 : decode cX10_hasWays 2 = .ok (.iconst 1, 1) := by decide +kernel
theorem dX10_hasWays_3 : decode cX10_hasWays 3 = .ok (.iload_n 2, 1) := by decide +kernel
theorem dX10_hasWays_4 : decode cX10_hasWays 4 = .ok (.invokevirtual 183, 3) := by decide +kernel
theorem dX10_hasWays_7 : decode cX10_hasWays 7 = .ok (.aload_n 0, 1) := by decide +kernel
theorem dX10_hasWays_8 : decode cX10_hasWays 8 = .ok (.iload_n 1, 1) := by decide +kernel
theorem dX10_hasWays_9 : decode cX10_hasWays 9 = .ok (.iconst 2, 1) := by decide +kernel
theorem dX10_hasWays_10 : decode cX10_hasWays 10 = .ok (.aload_n 0, 1) := by decide +kernel
theorem dX10_hasWays_11 : decode cX10_hasWays 11 = .ok (.iload_n 1, 1) := by decide +kernel
theorem dX10_hasWays_12 : decode cX10_hasWays 12 = .ok (.iconst 2, 1) := by decide +kernel
theorem dX10_hasWays_13 : decode cX10_hasWays 13 = .ok (.invokevirtual 164, 3) := by decide +kernel
theorem dX10_hasWays_16 : decode cX10_hasWays 16 = .ok (.iconst 1, 1) := by decide +kernel
theorem dX10_hasWays_17 : decode cX10_hasWays 17 = .ok (.iload_n 2, 1) := by decide +kernel
theorem dX10_hasWays_18 : decode cX10_hasWays 18 = .ok (.ishl, 1) := by decide +kernel
theorem dX10_hasWays_19 : decode cX10_hasWays 19 = .ok (.iconst 1, 1) := by decide +kernel
theorem dX10_hasWays_20 : decode cX10_hasWays 20 = .ok (.isub, 1) := by decide +kernel
theorem dX10_hasWays_21 : decode cX10_hasWays 21 = .ok (.iand, 1) := by decide +kernel
theorem dX10_hasWays_22 : decode cX10_hasWays 22 = .ok (.invokevirtual 183, 3) := by decide +kernel
theorem dX10_hasWays_25 : decode cX10_hasWays 25 = .ok (.aload_n 0, 1) := by decide +kernel
theorem dX10_hasWays_26 : decode cX10_hasWays 26 = .ok (.iload_n 1, 1) := by decide +kernel
theorem dX10_hasWays_27 : decode cX10_hasWays 27 = .ok (.iconst 3, 1) := by decide +kernel
theorem dX10_hasWays_28 : decode cX10_hasWays 28 = .ok (.aload_n 0, 1) := by decide +kernel
theorem dX10_hasWays_29 : decode cX10_hasWays 29 = .ok (.iload_n 1, 1) := by decide +kernel
theorem dX10_hasWays_30 : decode cX10_hasWays 30 = .ok (.iconst 3, 1) := by decide +kernel
theorem dX10_hasWays_31 : decode cX10_hasWays 31 = .ok (.invokevirtual 164, 3) := by decide +kernel
theorem dX10_hasWays_34 : decode cX10_hasWays 34 = .ok (.iload_n 2, 1) := by decide +kernel
theorem dX10_hasWays_35 : decode cX10_hasWays 35 = .ok (.if_icmp .lt 8, 3) := by decide +kernel
theorem dX10_hasWays_38 : decode cX10_hasWays 38 = .ok (.bipush (-4), 2) := by decide +kernel
theorem dX10_hasWays_40 : decode cX10_hasWays 40 = .ok (.goto 9, 3) := by decide +kernel
theorem dX10_hasWays_43 : decode cX10_hasWays 43 = .ok (.aload_n 0, 1) := by decide +kernel
theorem dX10_hasWays_44 : decode cX10_hasWays 44 = .ok (.iload_n 1, 1) := by decide +kernel
theorem dX10_hasWays_45 : decode cX10_hasWays 45 = .ok (.iconst 3, 1) := by decide +kernel
theorem dX10_hasWays_46 : decode cX10_hasWays 46 = .ok (.invokevirtual 164, 3) := by decide +kernel
theorem dX10_hasWays_49 : decode cX10_hasWays 49 = .ok (.invokevirtual 183, 3) := by decide +kernel
theorem dX10_hasWays_52 : decode cX10_hasWays 52 = .ok (.iload_n 2, 1) := by decide +kernel
theorem dX10_hasWays_53 : decode cX10_hasWays 53 = .ok (.istore_n 3, 1) := by decide +kernel
theorem dX10_hasWays_54 : decode cX10_hasWays 54 = .ok (.iload_n 3, 1) := by decide +kernel
theorem dX10_hasWays_55 : decode cX10_hasWays 55 = .ok (.iconst 4, 1) := by decide +kernel
theorem dX10_hasWays_56 : decode cX10_hasWays 56 = .ok (.if_icmp .ge 23, 3) := by decide +kernel
theorem dX10_hasWays_59 : decode cX10_hasWays 59 = .ok (.aload_n 0, 1) := by decide +kernel
theorem dX10_hasWays_60 : decode cX10_hasWays 60 = .ok (.getfield 13, 3) := by decide +kernel
theorem dX10_hasWays_63 : decode cX10_hasWays 63 = .ok (.bipush 46, 2) := by decide +kernel
theorem dX10_hasWays_65 : decode cX10_hasWays 65 = .ok (.iconst 4, 1) := by decide +kernel
theorem dX10_hasWays_66 : decode cX10_hasWays 66 = .ok (.iload_n 1, 1) := by decide +kernel
theorem dX10_hasWays_67 : decode cX10_hasWays 67 = .ok (.imul, 1) := by decide +kernel
theorem dX10_hasWays_68 : decode cX10_hasWays 68 = .ok (.iadd, 1) := by decide +kernel
theorem dX10_hasWays_69 : decode cX10_hasWays 69 = .ok (.iload_n 3, 1) := by decide +kernel
theorem dX10_hasWays_70 : decode cX10_hasWays 70 = .ok (.iadd, 1) := by decide +kernel
theorem dX10_hasWays_71 : decode cX10_hasWays 71 = .ok (.iconst 0, 1) := by decide +kernel
theorem dX10_hasWays_72 : decode cX10_hasWays 72 = .ok (.iastore, 1) := by decide +kernel
theorem dX10_hasWays_73 : decode cX10_hasWays 73 = .ok (.iinc 3 1, 3) := by decide +kernel
theorem dX10_hasWays_76 : decode cX10_hasWays 76 = .ok (.goto (-22), 3) := by decide +kernel
theorem dX10_hasWays_79 : decode cX10_hasWays 79 = .ok (.return_, 1) := by decide +kernel
set_option maxRecDepth 100000 in
set_option maxHeartbeats 4000000 in
theorem s_X10_hasWays_L54 {ω : WD} {ρ : FR} {post : Mem → Prop} (C : Cx ω ρ cX10_hasWays RX10 1 4) (R : RtV ω ρ cX10_hasWays post) {l1 : Int32} : ∀ (f : Nat) (l3 : Int32) (M : Mem), w_X10_hasWays_L54 post l1 f l3 M → G ω ρ M 54 [(0, .ref (adr ω 128)), (1, .int l1), (3, .int l3)] [] := by
  intro f
  induction f with
  | zero => intro l3 M h; exact False.elim h
  | succ f k54 =>
    intro l3 M h
    refine G_iload_n C dX10_hasWays_54 2 rfl ?_
    refine G_iconst (v := 4) C dX10_hasWays_55 (by decide) ?_
    obtain ⟨h1, h2⟩ := h
    refine G_icmp_ge (tgt := 79) C dX10_hasWays_56 (by decide) (fun c => ?_) (fun c => ?_)
    · have h := h1 c
      clear h1 h2
      exact R 79 _ _ dX10_hasWays_79 h
    · have h := h2 c
      clear h1 h2
      refine G_aload_n C dX10_hasWays_59 0 rfl ?_
      refine gf_X10_13 C dX10_hasWays_60 ?_
      refine G_bipush (v := 46) C dX10_hasWays_63 (by decide) ?_
      refine G_iconst (v := 4) C dX10_hasWays_65 (by decide) ?_
      refine G_iload_n C dX10_hasWays_66 1 rfl ?_
      refine G_imul C dX10_hasWays_67 ?_
      refine G_iadd C dX10_hasWays_68 ?_
      refine G_iload_n C dX10_hasWays_69 2 rfl ?_
      refine G_iadd C dX10_hasWays_70 ?_
      refine G_iconst (v := 0) C dX10_hasWays_71 (by decide) ?_
      obtain ⟨hi, h⟩ := h
      refine G_iast C q130 hi rfl dX10_hasWays_72 (G_mname (fun M1 eM1 => ?_))
      replace h := h M1 eM1
      obtain ⟨v2, ev2⟩ : ∃ y : Int32, y = (l3 + 1) := ⟨_, rfl⟩
      replace h := h v2 ev2
      refine G_iinc C dX10_hasWays_73 2 rfl (v := v2) (by rw [ev2]; rfl) (by decide) (lv' := [(3, .int v2), (0, .ref (adr ω 128)), (1, .int l1)]) rfl ?_
      refine G_goto (tgt := 54) C dX10_hasWays_76 (by decide) ?_
      refine G_sub [1, 2, 0] (lv' := [(0, .ref (adr ω 128)), (1, .int l1), (3, .int v2)]) rfl ?_
      exact k54 _ _ h
set_option maxRecDepth 100000 in
set_option maxHeartbeats 4000000 in
theorem s_X10_hasWays_J49 {ω : WD} {ρ : FR} {post : Mem → Prop} (C : Cx ω ρ cX10_hasWays RX10 1 4) (R : RtV ω ρ cX10_hasWays post) {l1 : Int32} {l2 : Int32} {s1 : Int32} {s2 : Int32} {s3 : Int32} {M : Mem} (h : w_X10_hasWays_J49 post l1 l2 s1 s2 s3 M) : G ω ρ M 49 [(0, .ref (adr ω 128)), (1, .int l1), (2, .int l2)] [.int s3, .int s2, .int s1, .ref (adr ω 128)] := by
  refine G_callV (As := [.int s1, .int s2, .int s3]) (rest := []) C dX10_hasWays_49 lk_X10_183 (Nat.le_of_ble_eq_true rfl) (Nat.le_of_ble_eq_true rfl) q128 (by decide) rfl (Nat.le_of_ble_eq_true rfl) rfl (S_X10_becomesOfGroup h) (fun M3 h => ?_)
  refine G_iload_n C dX10_hasWays_52 2 rfl ?_
  refine G_istore_n C dX10_hasWays_53 (by decide) (lv' := [(3, .int l2), (0, .ref (adr ω 128)), (1, .int l1), (2, .int l2)]) rfl ?_
  refine G_sub [1, 2, 0] (lv' := [(0, .ref (adr ω 128)), (1, .int l1), (3, .int l2)]) rfl ?_
  obtain ⟨f, h⟩ := h
  exact s_X10_hasWays_L54 C R  f _ _ h
set_option maxRecDepth 100000 in
set_option maxHeartbeats 4000000 in
theorem S_X10_hasWays {ω : WD} {l1 : Int32} {l2 : Int32} {M : Mem} {post : Mem → Prop} (h : w_X10_hasWays l1 l2 M post) : MtV ω yX10_hasWays cX10_hasWays 4 none 1 [.ref (adr ω 128), .int l1, .int l2] M post := by
  refine MtV.start rfl (by decide +kernel) (own := RX10) rfl (Nat.le_of_ble_eq_true rfl) (fun ρ C R => ?_)
  show G ω ρ M 0 [(0, .ref (adr ω 128)), (1, .int l1), (2, .int l2)] []
  refine G_aload_n C dX10_hasWays_0 0 rfl ?_
  refine G_iload_n C dX10_hasWays_1 1 rfl ?_
  refine G_iconst (v := 1) C dX10_hasWays_2 (by decide) ?_
  refine G_iload_n C dX10_hasWays_3 2 rfl ?_
  refine G_callV (As := [.int l1, .int 1, .int l2]) (rest := []) C dX10_hasWays_4 lk_X10_183 (Nat.le_of_ble_eq_true rfl) (Nat.le_of_ble_eq_true rfl) q128 (by decide) rfl (Nat.le_of_ble_eq_true rfl) rfl (S_X10_becomesOfGroup h) (fun M4 h => ?_)
  refine G_aload_n C dX10_hasWays_7 0 rfl ?_
  refine G_iload_n C dX10_hasWays_8 1 rfl ?_
  refine G_iconst (v := 2) C dX10_hasWays_9 (by decide) ?_
  refine G_aload_n C dX10_hasWays_10 0 rfl ?_
  refine G_iload_n C dX10_hasWays_11 1 rfl ?_
  refine G_iconst (v := 2) C dX10_hasWays_12 (by decide) ?_
  refine G_callI (As := [.int l1, .int 2]) (rest := [.int 2, .int l1, .ref (adr ω 128)]) C dX10_hasWays_13 lk_X10_164 (Nat.le_of_ble_eq_true rfl) (Nat.le_of_ble_eq_true rfl) q128 (by decide) rfl (Nat.le_of_ble_eq_true rfl) rfl (S_X10_ofGroup h) (fun r6 M5 h => ?_)
  refine G_iconst (v := 1) C dX10_hasWays_16 (by decide) ?_
  refine G_iload_n C dX10_hasWays_17 2 rfl ?_
  refine G_ishl C dX10_hasWays_18 ?_
  refine G_iconst (v := 1) C dX10_hasWays_19 (by decide) ?_
  refine G_isub C dX10_hasWays_20 ?_
  refine G_iand C dX10_hasWays_21 ?_
  refine G_callV (As := [.int l1, .int 2, .int (r6 &&& ((ishl 1 l2) - 1))]) (rest := []) C dX10_hasWays_22 lk_X10_183 (Nat.le_of_ble_eq_true rfl) (Nat.le_of_ble_eq_true rfl) q128 (by decide) rfl (Nat.le_of_ble_eq_true rfl) rfl (S_X10_becomesOfGroup h) (fun M7 h => ?_)
  refine G_aload_n C dX10_hasWays_25 0 rfl ?_
  refine G_iload_n C dX10_hasWays_26 1 rfl ?_
  refine G_iconst (v := 3) C dX10_hasWays_27 (by decide) ?_
  refine G_aload_n C dX10_hasWays_28 0 rfl ?_
  refine G_iload_n C dX10_hasWays_29 1 rfl ?_
  refine G_iconst (v := 3) C dX10_hasWays_30 (by decide) ?_
  refine G_callI (As := [.int l1, .int 3]) (rest := [.int 3, .int l1, .ref (adr ω 128)]) C dX10_hasWays_31 lk_X10_164 (Nat.le_of_ble_eq_true rfl) (Nat.le_of_ble_eq_true rfl) q128 (by decide) rfl (Nat.le_of_ble_eq_true rfl) rfl (S_X10_ofGroup h) (fun r9 M8 h => ?_)
  refine G_iload_n C dX10_hasWays_34 2 rfl ?_
  obtain ⟨h1, h2⟩ := h
  refine G_icmp_lt (tgt := 43) C dX10_hasWays_35 (by decide) (fun c => ?_) (fun c => ?_)
  · have h := h1 c
    clear h1 h2
    refine G_aload_n C dX10_hasWays_43 0 rfl ?_
    refine G_iload_n C dX10_hasWays_44 1 rfl ?_
    refine G_iconst (v := 3) C dX10_hasWays_45 (by decide) ?_
    refine G_callI (As := [.int l1, .int 3]) (rest := [.int 3, .int l1, .ref (adr ω 128)]) C dX10_hasWays_46 lk_X10_164 (Nat.le_of_ble_eq_true rfl) (Nat.le_of_ble_eq_true rfl) q128 (by decide) rfl (Nat.le_of_ble_eq_true rfl) rfl (S_X10_ofGroup h) (fun r11 M10 h => ?_)
    exact s_X10_hasWays_J49 C R  h
  · have h := h2 c
    clear h1 h2
    refine G_bipush (v := (-4)) C dX10_hasWays_38 (by decide) ?_
    refine G_goto (tgt := 49) C dX10_hasWays_40 (by decide) ?_
    exact s_X10_hasWays_J49 C R  h
theorem dX10_ways_0 : decode cX10_ways 0 = .ok (.iload_n 1, 1) := by decide +kernel
theorem dX10_ways_1 : decode cX10_ways 1 = .ok (.invokestatic 220, 3) := by decide +kernel
theorem dX10_ways_4 : decode cX10_ways 4 = .ok (.ifCond .eq 15, 3) := by decide +kernel
theorem dX10_ways_7 : decode cX10_ways 7 = .ok (.iload_n 2, 1) := by decide +kernel
theorem dX10_ways_8 : decode cX10_ways 8 = .ok (.i2l, 1) := by decide +kernel
theorem dX10_ways_9 : decode cX10_ways 9 = .ok (.lconst 0, 1) := by decide +kernel
theorem dX10_ways_10 : decode cX10_ways 10 = .ok (.ldc2_w 50, 3) := by decide +kernel
theorem dX10_ways_13 : decode cX10_ways 13 = .ok (.invokestatic 52, 3) := by decide +kernel
theorem dX10_ways_16 : decode cX10_ways 16 = .ok (.ifCond .ne 5, 3) := by decide +kernel
theorem dX10_ways_19 : decode cX10_ways 19 = .ok (.iconst (-1), 1) := by decide +kernel
theorem dX10_ways_20 : decode cX10_ways 20 = .ok (.ireturn, 1) := by decide +kernel
theorem dX10_ways_21 : decode cX10_ways 21 = .ok (.aload_n 0, 1) := by decide +kernel
theorem dX10_ways_22 : decode cX10_ways 22 = .ok (.invokevirtual 209, 3) := by decide +kernel
theorem dX10_ways_25 : decode cX10_ways 25 = .ok (.aload_n 0, 1) := by decide +kernel
theorem dX10_ways_26 : decode cX10_ways 26 = .ok (.iload_n 1, 1) := by decide +kernel
theorem dX10_ways_27 : decode cX10_ways 27 = .ok (.iconst 1, 1) := by decide +kernel
theorem dX10_ways_28 : decode cX10_ways 28 = .ok (.invokevirtual 164, 3) := by decide +kernel
theorem dX10_ways_31 : decode cX10_ways 31 = .ok (.istore_n 3, 1) := by decide +kernel
theorem dX10_ways_32 : decode cX10_ways 32 = .ok (.aload_n 0, 1) := by decide +kernel
theorem dX10_ways_33 : decode cX10_ways 33 = .ok (.iload_n 1, 1) := by decide +kernel
theorem dX10_ways_34 : decode cX10_ways 34 = .ok (.invokevirtual 167, 3) := by decide +kernel
theorem dX10_ways_37 : decode cX10_ways 37 = .ok (.iload_n 2, 1) := by decide +kernel
theorem dX10_ways_38 : decode cX10_ways 38 = .ok (.ishr, 1) := by decide +kernel
theorem dX10_ways_39 : decode cX10_ways 39 = .ok (.ifCond .eq 6, 3) := by decide +kernel
theorem dX10_ways_42 : decode cX10_ways 42 = .ok (.bipush (-2), 2) := by decide +kernel
theorem dX10_ways_44 : decode cX10_ways 44 = .ok (.ireturn, 1) := by decide +kernel
theorem dX10_ways_45 : decode cX10_ways 45 = .ok (.aload_n 0, 1) := by decide +kernel
theorem dX10_ways_46 : decode cX10_ways 46 = .ok (.iload_n 1, 1) := by decide +kernel
theorem dX10_ways_47 : decode cX10_ways 47 = .ok (.iload_n 2, 1) := by decide +kernel
theorem dX10_ways_48 : decode cX10_ways 48 = .ok (.invokevirtual 234, 3) := by decide +kernel
theorem dX10_ways_51 : decode cX10_ways 51 = .ok (.aload_n 0, 1) := by decide +kernel
theorem dX10_ways_52 : decode cX10_ways 52 = .ok (.invokevirtual 238, 3) := by decide +kernel
theorem dX10_ways_55 : decode cX10_ways 55 = .ok (.iload_n 3, 1) := by decide +kernel
theorem dX10_ways_56 : decode cX10_ways 56 = .ok (.ireturn, 1) := by decide +kernel
theorem lk_X10_234 : LkV RX10 234 RX10 yX10_hasWays cX10_hasWays 4 none 2 := LkV.of 1244 1246 41 71 1247 (by decide +kernel) (by decide +kernel) (by decide +kernel) (by decide +kernel) (by decide +kernel) (by decide +kernel)
theorem lk_X10_238 : LkV RX10 238 RX10 yX10_settles cX10_settles 2 none 0 := LkV.of 1252 1254 43 71 1255 (by decide +kernel) (by decide +kernel) (by decide +kernel) (by decide +kernel) (by decide +kernel) (by decide +kernel)
set_option maxRecDepth 100000 in
set_option maxHeartbeats 4000000 in
theorem S_X10_ways {ω : WD} {l1 : Int32} {l2 : Int32} {M : Mem} {post : Int32 → Mem → Prop} (h : w_X10_ways l1 l2 M post) : MtI ω yX10_ways cX10_ways 4 (some .int) 2 [.ref (adr ω 128), .int l1, .int l2] M post := by
  refine MtI.start (ty := .int) rfl (by decide +kernel) (own := RX10) rfl (Nat.le_of_ble_eq_true rfl) (fun ρ C R => ?_)
  show G ω ρ M 0 [(0, .ref (adr ω 128)), (1, .int l1), (2, .int l2)] []
  refine G_iload_n C dX10_ways_0 1 rfl ?_
  refine G_scallI (As := [.int l1]) (rest := []) C dX10_ways_1 lk_X10_220 (Nat.le_of_ble_eq_true rfl) (Nat.le_of_ble_eq_true rfl) (Nat.le_of_ble_eq_true rfl) rfl (S_X10_isGroup h) (fun r2 M1 h => ?_)
  obtain ⟨h1, h2⟩ := h
  refine G_if_eq (tgt := 19) C dX10_ways_4 (by decide) (fun c => ?_) (fun c => ?_)
  · have h := h1 c
    clear h1 h2
    refine G_iconst (v := (-1)) C dX10_ways_19 (by decide) ?_
    exact R 20 _ _ _ dX10_ways_20 rfl h
  · have h := h2 c
    clear h1 h2
    refine G_iload_n C dX10_ways_7 2 rfl ?_
    refine G_i2l C dX10_ways_8 ?_
    refine G_lconst (v := 0) C dX10_ways_9 (by decide) ?_
    refine G_ldc2 (v := 4) C dX10_ways_10 (tb_of 1129 ⟨by decide +kernel, rfl⟩) ?_
    refine G_scallI (As := [.long ((l2).toInt64), .long 0, .long 4]) (rest := []) C dX10_ways_13 lk_X10_52 (Nat.le_of_ble_eq_true rfl) (Nat.le_of_ble_eq_true rfl) (Nat.le_of_ble_eq_true rfl) rfl (S_X10_in h) (fun r4 M3 h => ?_)
    obtain ⟨h1, h2⟩ := h
    refine G_if_ne (tgt := 21) C dX10_ways_16 (by decide) (fun c => ?_) (fun c => ?_)
    · have h := h1 c
      clear h1 h2
      refine G_aload_n C dX10_ways_21 0 rfl ?_
      refine G_callV (As := []) (rest := []) C dX10_ways_22 lk_X10_209 (Nat.le_of_ble_eq_true rfl) (Nat.le_of_ble_eq_true rfl) q128 (by decide) rfl (Nat.le_of_ble_eq_true rfl) rfl (S_X10_starts h) (fun M5 h => ?_)
      refine G_aload_n C dX10_ways_25 0 rfl ?_
      refine G_iload_n C dX10_ways_26 1 rfl ?_
      refine G_iconst (v := 1) C dX10_ways_27 (by decide) ?_
      refine G_callI (As := [.int l1, .int 1]) (rest := []) C dX10_ways_28 lk_X10_164 (Nat.le_of_ble_eq_true rfl) (Nat.le_of_ble_eq_true rfl) q128 (by decide) rfl (Nat.le_of_ble_eq_true rfl) rfl (S_X10_ofGroup h) (fun r7 M6 h => ?_)
      refine G_istore_n C dX10_ways_31 (by decide) (lv' := [(3, .int r7), (0, .ref (adr ω 128)), (1, .int l1), (2, .int l2)]) rfl ?_
      refine G_aload_n C dX10_ways_32 1 rfl ?_
      refine G_iload_n C dX10_ways_33 2 rfl ?_
      refine G_callI (As := [.int l1]) (rest := []) C dX10_ways_34 lk_X10_167 (Nat.le_of_ble_eq_true rfl) (Nat.le_of_ble_eq_true rfl) q128 (by decide) rfl (Nat.le_of_ble_eq_true rfl) rfl (S_X10_held h) (fun r9 M8 h => ?_)
      refine G_iload_n C dX10_ways_37 3 rfl ?_
      refine G_ishr C dX10_ways_38 ?_
      obtain ⟨h1, h2⟩ := h
      refine G_if_eq (tgt := 45) C dX10_ways_39 (by decide) (fun c => ?_) (fun c => ?_)
      · have h := h1 c
        clear h1 h2
        refine G_aload_n C dX10_ways_45 1 rfl ?_
        refine G_iload_n C dX10_ways_46 2 rfl ?_
        refine G_iload_n C dX10_ways_47 3 rfl ?_
        refine G_callV (As := [.int l1, .int l2]) (rest := []) C dX10_ways_48 lk_X10_234 (Nat.le_of_ble_eq_true rfl) (Nat.le_of_ble_eq_true rfl) q128 (by decide) rfl (Nat.le_of_ble_eq_true rfl) rfl (S_X10_hasWays h) (fun M10 h => ?_)
        refine G_aload_n C dX10_ways_51 1 rfl ?_
        refine G_callV (As := []) (rest := []) C dX10_ways_52 lk_X10_238 (Nat.le_of_ble_eq_true rfl) (Nat.le_of_ble_eq_true rfl) q128 (by decide) rfl (Nat.le_of_ble_eq_true rfl) rfl (S_X10_settles h) (fun M11 h => ?_)
        refine G_iload_n C dX10_ways_55 0 rfl ?_
        exact R 56 _ _ _ dX10_ways_56 rfl h
      · have h := h2 c
        clear h1 h2
        refine G_bipush (v := (-2)) C dX10_ways_42 (by decide) ?_
        exact R 44 _ _ _ dX10_ways_44 rfl h
    · have h := h2 c
      clear h1 h2
      refine G_iconst (v := (-1)) C dX10_ways_19 (by decide) ?_
      exact R 20 _ _ _ dX10_ways_20 rfl h
theorem dX10_dead_0 : decode cX10_dead 0 = .ok (.aload_n 0, 1) := by decide +kernel
theorem dX10_dead_1 : decode cX10_dead 1 = .ok (.iload_n 1, 1) := by decide +kernel
theorem dX10_dead_2 : decode cX10_dead 2 = .ok (.iload_n 2, 1) := by decide +kernel
theorem dX10_dead_3 : decode cX10_dead 3 = .ok (.invokevirtual 223, 3) := by decide +kernel
theorem dX10_dead_6 : decode cX10_dead 6 = .ok (.ifCond .ne 5, 3) := by decide +kernel
theorem dX10_dead_9 : decode cX10_dead 9 = .ok (.iconst (-1), 1) := by decide +kernel
theorem dX10_dead_10 : decode cX10_dead 10 = .ok (.ireturn, 1) := by decide +kernel
theorem dX10_dead_11 : decode cX10_dead 11 = .ok (.bipush 26, 2) := by decide +kernel
theorem dX10_dead_13 : decode cX10_dead 13 = .ok (.iconst 4, 1) := by decide +kernel
theorem dX10_dead_14 : decode cX10_dead 14 = .ok (.iload_n 1, 1) := by decide +kernel
theorem dX10_dead_15 : decode cX10_dead 15 = .ok (.imul, 1) := by decide +kernel
theorem dX10_dead_16 : decode cX10_dead 16 = .ok (.iadd, 1) := by decide +kernel
theorem dX10_dead_17 : decode cX10_dead 17 = .ok (.iconst 2, 1) := by decide +kernel
theorem dX10_dead_18 : decode cX10_dead 18 = .ok (.iadd, 1) := by decide +kernel
theorem dX10_dead_19 : decode cX10_dead 19 = .ok (.istore 4, 2) := by decide +kernel
theorem dX10_dead_21 : decode cX10_dead 21 = .ok (.aload_n 0, 1) := by decide +kernel
theorem dX10_dead_22 : decode cX10_dead 22 = .ok (.iload 4, 2) := by decide +kernel
theorem dX10_dead_24 : decode cX10_dead 24 = .ok (.iload_n 3, 1) := by decide +kernel
theorem dX10_dead_25 : decode cX10_dead 25 = .ok (.ifCond .eq 17, 3) := by decide +kernel
theorem dX10_dead_28 : decode cX10_dead 28 = .ok (.aload_n 0, 1) := by decide +kernel
theorem dX10_dead_29 : decode cX10_dead 29 = .ok (.getfield 7, 3) := by decide +kernel
theorem dX10_dead_32 : decode cX10_dead 32 = .ok (.iload 4, 2) := by decide +kernel
theorem dX10_dead_34 : decode cX10_dead 34 = .ok (.iaload, 1) := by decide +kernel
theorem dX10_dead_35 : decode cX10_dead 35 = .ok (.iconst 1, 1) := by decide +kernel
theorem dX10_dead_36 : decode cX10_dead 36 = .ok (.iload_n 2, 1) := by decide +kernel
theorem dX10_dead_37 : decode cX10_dead 37 = .ok (.ishl, 1) := by decide +kernel
theorem dX10_dead_38 : decode cX10_dead 38 = .ok (.ior, 1) := by decide +kernel
theorem dX10_dead_39 : decode cX10_dead 39 = .ok (.goto 16, 3) := by decide +kernel
theorem dX10_dead_42 : decode cX10_dead 42 = .ok (.aload_n 0, 1) := by decide +kernel
theorem dX10_dead_43 : decode cX10_dead 43 = .ok (.getfield 7, 3) := by decide +kernel
theorem dX10_dead_46 : decode cX10_dead 46 = .ok (.iload 4, 2) := by decide +kernel
theorem dX10_dead_48 : decode cX10_dead 48 = .ok (.iaload, 1) := by decide +kernel
theorem dX10_dead_49 : decode cX10_dead 49 = .ok (.iconst 1, 1) := by decide +kernel
theorem dX10_dead_50 : decode cX10_dead 50 = .ok (.iload_n 2, 1) := by decide +kernel
theorem dX10_dead_51 : decode cX10_dead 51 = .ok (.ishl, 1) := by decide +kernel
theorem dX10_dead_52 : decode cX10_dead 52 = .ok (.iconst (-1), 1) := by decide +kernel
theorem dX10_dead_53 : decode cX10_dead 53 = .ok (.ixor, 1) := by decide +kernel
theorem dX10_dead_54 : decode cX10_dead 54 = .ok (.iand, 1) := by decide +kernel
theorem dX10_dead_55 : decode cX10_dead 55 = .ok (.invokevirtual 229, 3) := by decide +kernel
theorem dX10_dead_58 : decode cX10_dead 58 = .ok (.istore 5, 2) := by decide +kernel
theorem dX10_dead_60 : decode cX10_dead 60 = .ok (.iload 5, 2) := by decide +kernel
theorem dX10_dead_62 : decode cX10_dead 62 = .ok (.iload_n 2, 1) := by decide +kernel
theorem dX10_dead_63 : decode cX10_dead 63 = .ok (.ishr, 1) := by decide +kernel
theorem dX10_dead_64 : decode cX10_dead 64 = .ok (.iconst 1, 1) := by decide +kernel
theorem dX10_dead_65 : decode cX10_dead 65 = .ok (.iand, 1) := by decide +kernel
theorem dX10_dead_66 : decode cX10_dead 66 = .ok (.ireturn, 1) := by decide +kernel
set_option maxRecDepth 100000 in
set_option maxHeartbeats 4000000 in
theorem s_X10_dead_J55 {ω : WD} {ρ : FR} {post : Int32 → Mem → Prop} (C : Cx ω ρ cX10_dead RX10 3 6) (R : RtI ω ρ cX10_dead .int post) {l2 : Int32} {s1 : Int32} {s2 : Int32} {M : Mem} (h : w_X10_dead_J55 post l2 s1 s2 M) : G ω ρ M 55 [(2, .int l2)] [.int s2, .int s1, .ref (adr ω 128)] := by
  refine G_callI (As := [.int s1, .int s2]) (rest := []) C dX10_dead_55 lk_X10_229 (Nat.le_of_ble_eq_true rfl) (Nat.le_of_ble_eq_true rfl) q128 (by decide) rfl (Nat.le_of_ble_eq_true rfl) rfl (S_X10_becomes h) (fun r2 M1 h => ?_)
  refine G_istore C dX10_dead_58 (by decide) (lv' := [(5, .int r2), (2, .int l2)]) rfl ?_
  refine G_iload C dX10_dead_60 0 rfl ?_
  refine G_iload_n C dX10_dead_62 1 rfl ?_
  refine G_ishr C dX10_dead_63 ?_
  refine G_iconst (v := 1) C dX10_dead_64 (by decide) ?_
  refine G_iand C dX10_dead_65 ?_
  exact R 66 _ _ _ dX10_dead_66 rfl h
set_option maxRecDepth 100000 in
set_option maxHeartbeats 4000000 in
theorem S_X10_dead {ω : WD} {l1 : Int32} {l2 : Int32} {l3 : Int32} {M : Mem} {post : Int32 → Mem → Prop} (h : w_X10_dead l1 l2 l3 M post) : MtI ω yX10_dead cX10_dead 6 (some .int) 3 [.ref (adr ω 128), .int l1, .int l2, .int l3] M post := by
  refine MtI.start (ty := .int) rfl (by decide +kernel) (own := RX10) rfl (Nat.le_of_ble_eq_true rfl) (fun ρ C R => ?_)
  show G ω ρ M 0 [(0, .ref (adr ω 128)), (1, .int l1), (2, .int l2), (3, .int l3)] []
  refine G_aload_n C dX10_dead_0 0 rfl ?_
  refine G_iload_n C dX10_dead_1 1 rfl ?_
  refine G_iload_n C dX10_dead_2 2 rfl ?_
  refine G_callI (As := [.int l1, .int l2]) (rest := []) C dX10_dead_3 lk_X10_223 (Nat.le_of_ble_eq_true rfl) (Nat.le_of_ble_eq_true rfl) q128 (by decide) rfl (Nat.le_of_ble_eq_true rfl) rfl (S_X10_isWay h) (fun r4 M3 h => ?_)
  obtain ⟨h1, h2⟩ := h
  refine G_if_ne (tgt := 11) C dX10_dead_6 (by decide) (fun c => ?_) (fun c => ?_)
  · have h := h1 c
    clear h1 h2
    refine G_bipush (v := 26) C dX10_dead_11 (by decide) ?_
    refine G_iconst (v := 4) C dX10_dead_13 (by decide) ?_
    refine G_iload_n C dX10_dead_14 1 rfl ?_
    refine G_imul C dX10_dead_15 ?_
    refine G_iadd C dX10_dead_16 ?_
    refine G_iconst (v := 2) C dX10_dead_17 (by decide) ?_
    refine G_iadd C dX10_dead_18 ?_
    refine G_iname (fun v5 ev5 => ?_)
    replace h := h v5 ev5
    refine G_istore C dX10_dead_19 (by decide) (lv' := [(4, .int v5), (0, .ref (adr ω 128)), (1, .int l1), (2, .int l2), (3, .int l3)]) rfl ?_
    refine G_aload_n C dX10_dead_21 1 rfl ?_
    refine G_iload C dX10_dead_22 0 rfl ?_
    refine G_iload_n C dX10_dead_24 4 rfl ?_
    obtain ⟨h1, h2⟩ := h
    refine G_if_eq (tgt := 42) C dX10_dead_25 (by decide) (fun c => ?_) (fun c => ?_)
    · have h := h1 c
      clear h1 h2
      refine G_aload_n C dX10_dead_42 1 rfl ?_
      refine gf_X10_7 C dX10_dead_43 ?_
      refine G_iload C dX10_dead_46 0 rfl ?_
      obtain ⟨hi, h⟩ := h
      refine G_iald C q129 hi rfl dX10_dead_48 ?_
      refine G_iconst (v := 1) C dX10_dead_49 (by decide) ?_
      refine G_iload_n C dX10_dead_50 3 rfl ?_
      refine G_ishl C dX10_dead_51 ?_
      refine G_iconst (v := (-1)) C dX10_dead_52 (by decide) ?_
      refine G_ixor C dX10_dead_53 ?_
      refine G_iand C dX10_dead_54 ?_
      refine G_sub [3] (lv' := [(2, .int l2)]) rfl ?_
      exact s_X10_dead_J55 C R  h
    · have h := h2 c
      clear h1 h2
      refine G_aload_n C dX10_dead_28 1 rfl ?_
      refine gf_X10_7 C dX10_dead_29 ?_
      refine G_iload C dX10_dead_32 0 rfl ?_
      obtain ⟨hi, h⟩ := h
      refine G_iald C q129 hi rfl dX10_dead_34 ?_
      refine G_iconst (v := 1) C dX10_dead_35 (by decide) ?_
      refine G_iload_n C dX10_dead_36 3 rfl ?_
      refine G_ishl C dX10_dead_37 ?_
      refine G_ior C dX10_dead_38 ?_
      refine G_goto (tgt := 55) C dX10_dead_39 (by decide) ?_
      refine G_sub [3] (lv' := [(2, .int l2)]) rfl ?_
      exact s_X10_dead_J55 C R  h
  · have h := h2 c
    clear h1 h2
    refine G_iconst (v := (-1)) C dX10_dead_9 (by decide) ?_
    exact R 10 _ _ _ dX10_dead_10 rfl h
theorem dX10_plan_0 : decode cX10_plan 0 = .ok (.aload_n 0, 1) := by decide +kernel
theorem dX10_plan_1 : decode cX10_plan 1 = .ok (.iload_n 1, 1) := by decide +kernel
theorem dX10_plan_2 : decode cX10_plan 2 = .ok (.invokevirtual 215, 3) := by decide +kernel
theorem dX10_plan_5 : decode cX10_plan 5 = .ok (.ifCond .eq 10, 3) := by decide +kernel
theorem dX10_plan_8 : decode cX10_plan 8 = .ok (.iload_n 2, 1) := by decide +kernel
theorem dX10_plan_9 : decode cX10_plan 9 = .ok (.invokestatic 134, 3) := by decide +kernel
theorem dX10_plan_12 : decode cX10_plan 12 = .ok (.ifCond .ne 5, 3) := by decide +kernel
theorem dX10_plan_15 : decode cX10_plan 15 = .ok (.iconst (-1), 1) := by decide +kernel
theorem dX10_plan_16 : decode cX10_plan 16 = .ok (.ireturn, 1) := by decide +kernel
theorem dX10_plan_17 : decode cX10_plan 17 = .ok (.aload_n 0, 1) := by decide +kernel
theorem dX10_plan_18 : decode cX10_plan 18 = .ok (.getfield 7, 3) := by decide +kernel
theorem dX10_plan_21 : decode cX10_plan 21 = .ok (.bipush 66, 2) := by decide +kernel
theorem dX10_plan_23 : decode cX10_plan 23 = .ok (.iaload, 1) := by decide +kernel
theorem dX10_plan_24 : decode cX10_plan 24 = .ok (.bipush 8, 2) := by decide +kernel
theorem dX10_plan_26 : decode cX10_plan 26 = .ok (.if_icmp .ne 6, 3) := by decide +kernel
theorem dX10_plan_29 : decode cX10_plan 29 = .ok (.bipush (-3), 2) := by decide +kernel
theorem dX10_plan_31 : decode cX10_plan 31 = .ok (.ireturn, 1) := by decide +kernel
theorem dX10_plan_32 : decode cX10_plan 32 = .ok (.bipush 67, 2) := by decide +kernel
theorem dX10_plan_34 : decode cX10_plan 34 = .ok (.iconst 2, 1) := by decide +kernel
theorem dX10_plan_35 : decode cX10_plan 35 = .ok (.aload_n 0, 1) := by decide +kernel
theorem dX10_plan_36 : decode cX10_plan 36 = .ok (.getfield 7, 3) := by decide +kernel
theorem dX10_plan_39 : decode cX10_plan 39 = .ok (.bipush 66, 2) := by decide +kernel
theorem dX10_plan_41 : decode cX10_plan 41 = .ok (.iaload, 1) := by decide +kernel
theorem dX10_plan_42 : decode cX10_plan 42 = .ok (.imul, 1) := by decide +kernel
theorem dX10_plan_43 : decode cX10_plan 43 = .ok (.iadd, 1) := by decide +kernel
theorem dX10_plan_44 : decode cX10_plan 44 = .ok (.istore_n 3, 1) := by decide +kernel
theorem dX10_plan_45 : decode cX10_plan 45 = .ok (.aload_n 0, 1) := by decide +kernel
theorem dX10_plan_46 : decode cX10_plan 46 = .ok (.getfield 7, 3) := by decide +kernel
theorem dX10_plan_49 : decode cX10_plan 49 = .ok (.iload_n 3, 1) := by decide +kernel
theorem dX10_plan_50 : decode cX10_plan 50 = .ok (.iload_n 1, 1) := by decide +kernel
theorem dX10_plan_51 : decode cX10_plan 51 = .ok (.iastore, 1) := by decide +kernel
theorem dX10_plan_52 : decode cX10_plan 52 = .ok (.aload_n 0, 1) := by decide +kernel
theorem dX10_plan_53 : decode cX10_plan 53 = .ok (.getfield 7, 3) := by decide +kernel
theorem dX10_plan_56 : decode cX10_plan 56 = .ok (.iload_n 3, 1) := by decide +kernel
theorem dX10_plan_57 : decode cX10_plan 57 = .ok (.iconst 1, 1) := by decide +kernel
theorem dX10_plan_58 : decode cX10_plan 58 = .ok (.iadd, 1) := by decide +kernel
theorem dX10_plan_59 : decode cX10_plan 59 = .ok (.iload_n 2, 1) := by decide +kernel
theorem dX10_plan_60 : decode cX10_plan 60 = .ok (.iastore, 1) := by decide +kernel
theorem dX10_plan_61 : decode cX10_plan 61 = .ok (.aload_n 0, 1) := by decide +kernel
theorem dX10_plan_62 : decode cX10_plan 62 = .ok (.getfield 7, 3) := by decide +kernel
theorem dX10_plan_65 : decode cX10_plan 65 = .ok (.bipush 66, 2) := by decide +kernel
theorem dX10_plan_67 : decode cX10_plan 67 = .ok (.dup2, 1) := by decide +kernel
theorem dX10_plan_68 : decode cX10_plan 68 = .ok (.iaload, 1) := by decide +kernel
theorem dX10_plan_69 : decode cX10_plan 69 = .ok (.iconst 1, 1) := by decide +kernel
theorem dX10_plan_70 : decode cX10_plan 70 = .ok (.iadd, 1) := by decide +kernel
theorem dX10_plan_71 : decode cX10_plan 71 = .ok (.iastore, 1) := by decide +kernel
theorem dX10_plan_72 : decode cX10_plan 72 = .ok (.aload_n 0, 1) := by decide +kernel
theorem dX10_plan_73 : decode cX10_plan 73 = .ok (.getfield 7, 3) := by decide +kernel
theorem dX10_plan_76 : decode cX10_plan 76 = .ok (.bipush 66, 2) := by decide +kernel
theorem dX10_plan_78 : decode cX10_plan 78 = .ok (.iaload, 1) := by decide +kernel
theorem dX10_plan_79 : decode cX10_plan 79 = .ok (.ireturn, 1) := by decide +kernel
set_option maxRecDepth 100000 in
set_option maxHeartbeats 4000000 in
theorem S_X10_plan {ω : WD} {l1 : Int32} {l2 : Int32} {M : Mem} {post : Int32 → Mem → Prop} (h : w_X10_plan l1 l2 M post) : MtI ω yX10_plan cX10_plan 4 (some .int) 3 [.ref (adr ω 128), .int l1, .int l2] M post := by
  refine MtI.start (ty := .int) rfl (by decide +kernel) (own := RX10) rfl (Nat.le_of_ble_eq_true rfl) (fun ρ C R => ?_)
  show G ω ρ M 0 [(0, .ref (adr ω 128)), (1, .int l1), (2, .int l2)] []
  refine G_aload_n C dX10_plan_0 0 rfl ?_
  refine G_iload_n C dX10_plan_1 1 rfl ?_
  refine G_callI (As := [.int l1]) (rest := []) C dX10_plan_2 lk_X10_215 (Nat.le_of_ble_eq_true rfl) (Nat.le_of_ble_eq_true rfl) q128 (by decide) rfl (Nat.le_of_ble_eq_true rfl) rfl (S_X10_isOne h) (fun r2 M1 h => ?_)
  obtain ⟨h1, h2⟩ := h
  refine G_if_eq (tgt := 15) C dX10_plan_5 (by decide) (fun c => ?_) (fun c => ?_)
  · have h := h1 c
    clear h1 h2
    refine G_iconst (v := (-1)) C dX10_plan_15 (by decide) ?_
    exact R 16 _ _ _ dX10_plan_16 rfl h
  · have h := h2 c
    clear h1 h2
    refine G_iload_n C dX10_plan_8 2 rfl ?_
    refine G_scallI (As := [.int l2]) (rest := []) C dX10_plan_9 lk_X10_134 (Nat.le_of_ble_eq_true rfl) (Nat.le_of_ble_eq_true rfl) (Nat.le_of_ble_eq_true rfl) rfl (S_X10_isDialled h) (fun r4 M3 h => ?_)
    obtain ⟨h1, h2⟩ := h
    refine G_if_ne (tgt := 17) C dX10_plan_12 (by decide) (fun c => ?_) (fun c => ?_)
    · have h := h1 c
      clear h1 h2
      refine G_aload_n C dX10_plan_17 0 rfl ?_
      refine gf_X10_7 C dX10_plan_18 ?_
      refine G_bipush (v := 66) C dX10_plan_21 (by decide) ?_
      refine G_iald C q129 (vp_lit rfl) (kk := 66) (by decide +kernel) dX10_plan_23 ?_
      refine G_bipush (v := 8) C dX10_plan_24 (by decide) ?_
      obtain ⟨h1, h2⟩ := h
      refine G_icmp_ne (tgt := 32) C dX10_plan_26 (by decide) (fun c => ?_) (fun c => ?_)
      · have h := h1 c
        clear h1 h2
        refine G_bipush (v := 67) C dX10_plan_32 (by decide) ?_
        refine G_iconst (v := 2) C dX10_plan_34 (by decide) ?_
        refine G_aload_n C dX10_plan_35 0 rfl ?_
        refine gf_X10_7 C dX10_plan_36 ?_
        refine G_bipush (v := 66) C dX10_plan_39 (by decide) ?_
        refine G_iald C q129 (vp_lit rfl) (kk := 66) (by decide +kernel) dX10_plan_41 ?_
        refine G_imul C dX10_plan_42 ?_
        refine G_iadd C dX10_plan_43 ?_
        refine G_iname (fun v5 ev5 => ?_)
        replace h := h v5 ev5
        refine G_istore_n C dX10_plan_44 (by decide) (lv' := [(3, .int v5), (0, .ref (adr ω 128)), (1, .int l1), (2, .int l2)]) rfl ?_
        refine G_aload_n C dX10_plan_45 1 rfl ?_
        refine gf_X10_7 C dX10_plan_46 ?_
        refine G_iload_n C dX10_plan_49 0 rfl ?_
        refine G_iload_n C dX10_plan_50 2 rfl ?_
        obtain ⟨hi, h⟩ := h
        refine G_iast C q129 hi rfl dX10_plan_51 (G_mname (fun M6 eM6 => ?_))
        replace h := h M6 eM6
        refine G_aload_n C dX10_plan_52 1 rfl ?_
        refine gf_X10_7 C dX10_plan_53 ?_
        refine G_iload_n C dX10_plan_56 0 rfl ?_
        refine G_iconst (v := 1) C dX10_plan_57 (by decide) ?_
        refine G_iadd C dX10_plan_58 ?_
        refine G_iload_n C dX10_plan_59 3 rfl ?_
        obtain ⟨hi, h⟩ := h
        refine G_iast C q129 hi rfl dX10_plan_60 (G_mname (fun M7 eM7 => ?_))
        replace h := h M7 eM7
        refine G_aload_n C dX10_plan_61 1 rfl ?_
        refine gf_X10_7 C dX10_plan_62 ?_
        refine G_bipush (v := 66) C dX10_plan_65 (by decide) ?_
        refine G_dup2 C dX10_plan_67 rfl rfl ?_
        refine G_iald C q129 (vp_lit rfl) (kk := 66) (by decide +kernel) dX10_plan_68 ?_
        refine G_iconst (v := 1) C dX10_plan_69 (by decide) ?_
        refine G_iadd C dX10_plan_70 ?_
        refine G_iast C q129 (vp_lit rfl) (kk := 66) (by decide +kernel) dX10_plan_71 (G_mname (fun M8 eM8 => ?_))
        replace h := h M8 eM8
        refine G_aload_n C dX10_plan_72 1 rfl ?_
        refine gf_X10_7 C dX10_plan_73 ?_
        refine G_bipush (v := 66) C dX10_plan_76 (by decide) ?_
        refine G_iald C q129 (vp_lit rfl) (kk := 66) (by decide +kernel) dX10_plan_78 ?_
        exact R 79 _ _ _ dX10_plan_79 rfl h
      · have h := h2 c
        clear h1 h2
        refine G_bipush (v := (-3)) C dX10_plan_29 (by decide) ?_
        exact R 31 _ _ _ dX10_plan_31 rfl h
    · have h := h2 c
      clear h1 h2
      refine G_iconst (v := (-1)) C dX10_plan_15 (by decide) ?_
      exact R 16 _ _ _ dX10_plan_16 rfl h
theorem dX10_cut_0 : decode cX10_cut 0 = .ok (.iload_n 1, 1) := by decide +kernel
theorem dX10_cut_1 : decode cX10_cut 1 = .ok (.i2l, 1) := by decide +kernel
theorem dX10_cut_2 : decode cX10_cut 2 = .ok (.lconst 0, 1) := by decide +kernel
theorem dX10_cut_3 : decode cX10_cut 3 = .ok (.aload_n 0, 1) := by decide +kernel
theorem dX10_cut_4 : decode cX10_cut 4 = .ok (.getfield 7, 3) := by decide +kernel
theorem dX10_cut_7 : decode cX10_cut 7 = .ok (.bipush 66, 2) := by decide +kernel
theorem dX10_cut_9 : decode cX10_cut 9 = .ok (.iaload, 1) := by decide +kernel
theorem dX10_cut_10 : decode cX10_cut 10 = .ok (.i2l, 1) := by decide +kernel
theorem dX10_cut_11 : decode cX10_cut 11 = .ok (.invokestatic 52, 3) := by decide +kernel
theorem dX10_cut_14 : decode cX10_cut 14 = .ok (.ifCond .eq 13, 3) := by decide +kernel
theorem dX10_cut_17 : decode cX10_cut 17 = .ok (.aload_n 0, 1) := by decide +kernel
theorem dX10_cut_18 : decode cX10_cut 18 = .ok (.bipush 66, 2) := by decide +kernel
theorem dX10_cut_20 : decode cX10_cut 20 = .ok (.iload_n 1, 1) := by decide +kernel
theorem dX10_cut_21 : decode cX10_cut 21 = .ok (.invokevirtual 229, 3) := by decide +kernel
theorem dX10_cut_24 : decode cX10_cut 24 = .ok (.goto 4, 3) := by decide +kernel
theorem dX10_cut_27 : decode cX10_cut 27 = .ok (.iconst (-1), 1) := by decide +kernel
theorem dX10_cut_28 : decode cX10_cut 28 = .ok (.ireturn, 1) := by decide +kernel
set_option maxRecDepth 100000 in
set_option maxHeartbeats 4000000 in
theorem S_X10_cut {ω : WD} {l1 : Int32} {M : Mem} {post : Int32 → Mem → Prop} (h : w_X10_cut l1 M post) : MtI ω yX10_cut cX10_cut 2 (some .int) 1 [.ref (adr ω 128), .int l1] M post := by
  refine MtI.start (ty := .int) rfl (by decide +kernel) (own := RX10) rfl (Nat.le_of_ble_eq_true rfl) (fun ρ C R => ?_)
  show G ω ρ M 0 [(0, .ref (adr ω 128)), (1, .int l1)] []
  refine G_iload_n C dX10_cut_0 1 rfl ?_
  refine G_i2l C dX10_cut_1 ?_
  refine G_lconst (v := 0) C dX10_cut_2 (by decide) ?_
  refine G_aload_n C dX10_cut_3 0 rfl ?_
  refine gf_X10_7 C dX10_cut_4 ?_
  refine G_bipush (v := 66) C dX10_cut_7 (by decide) ?_
  refine G_iald C q129 (vp_lit rfl) (kk := 66) (by decide +kernel) dX10_cut_9 ?_
  refine G_i2l C dX10_cut_10 ?_
  refine G_scallI (As := [.long ((l1).toInt64), .long 0, .long (((rd M 129 66)).toInt64)]) (rest := []) C dX10_cut_11 lk_X10_52 (Nat.le_of_ble_eq_true rfl) (Nat.le_of_ble_eq_true rfl) (Nat.le_of_ble_eq_true rfl) rfl (S_X10_in h) (fun r2 M1 h => ?_)
  obtain ⟨h1, h2⟩ := h
  refine G_if_eq (tgt := 27) C dX10_cut_14 (by decide) (fun c => ?_) (fun c => ?_)
  · have h := h1 c
    clear h1 h2
    refine G_iconst (v := (-1)) C dX10_cut_27 (by decide) ?_
    exact R 28 _ _ _ dX10_cut_28 rfl h
  · have h := h2 c
    clear h1 h2
    refine G_aload_n C dX10_cut_17 0 rfl ?_
    refine G_bipush (v := 66) C dX10_cut_18 (by decide) ?_
    refine G_iload_n C dX10_cut_20 1 rfl ?_
    refine G_callI (As := [.int 66, .int l1]) (rest := []) C dX10_cut_21 lk_X10_229 (Nat.le_of_ble_eq_true rfl) (Nat.le_of_ble_eq_true rfl) q128 (by decide) rfl (Nat.le_of_ble_eq_true rfl) rfl (S_X10_becomes h) (fun r4 M3 h => ?_)
    refine G_goto (tgt := 28) C dX10_cut_24 (by decide) ?_
    exact R 28 _ _ _ dX10_cut_28 rfl h
theorem dX10_dial_0 : decode cX10_dial 0 = .ok (.aload_n 0, 1) := by decide +kernel
theorem dX10_dial_1 : decode cX10_dial 1 = .ok (.iload_n 1, 1) := by decide +kernel
theorem dX10_dial_2 : decode cX10_dial 2 = .ok (.invokevirtual 215, 3) := by decide +kernel
theorem dX10_dial_5 : decode cX10_dial 5 = .ok (.ifCond .eq 10, 3) := by decide +kernel
theorem dX10_dial_8 : decode cX10_dial 8 = .ok (.iload_n 2, 1) := by decide +kernel
theorem dX10_dial_9 : decode cX10_dial 9 = .ok (.invokestatic 56, 3) := by decide +kernel
theorem dX10_dial_12 : decode cX10_dial 12 = .ok (.ifCond .ne 5, 3) := by decide +kernel
theorem dX10_dial_15 : decode cX10_dial 15 = .ok (.iconst (-1), 1) := by decide +kernel
theorem dX10_dial_16 : decode cX10_dial 16 = .ok (.ireturn, 1) := by decide +kernel
theorem dX10_dial_17 : decode cX10_dial 17 = .ok (.aload_n 0, 1) := by decide +kernel
theorem dX10_dial_18 : decode cX10_dial 18 = .ok (.invokevirtual 209, 3) := by decide +kernel
theorem dX10_dial_21 : decode cX10_dial 21 = .ok (.aload_n 0, 1) := by decide +kernel
theorem dX10_dial_22 : decode cX10_dial 22 = .ok (.iload_n 1, 1) := by decide +kernel
theorem dX10_dial_23 : decode cX10_dial 23 = .ok (.iconst 2, 1) := by decide +kernel
theorem dX10_dial_24 : decode cX10_dial 24 = .ok (.invokevirtual 157, 3) := by decide +kernel
theorem dX10_dial_27 : decode cX10_dial 27 = .ok (.ifCond .eq 6, 3) := by decide +kernel
theorem dX10_dial_30 : decode cX10_dial 30 = .ok (.bipush (-2), 2) := by decide +kernel
theorem dX10_dial_32 : decode cX10_dial 32 = .ok (.ireturn, 1) := by decide +kernel
theorem dX10_dial_33 : decode cX10_dial 33 = .ok (.aload_n 0, 1) := by decide +kernel
theorem dX10_dial_34 : decode cX10_dial 34 = .ok (.iload_n 1, 1) := by decide +kernel
theorem dX10_dial_35 : decode cX10_dial 35 = .ok (.iload_n 2, 1) := by decide +kernel
theorem dX10_dial_36 : decode cX10_dial 36 = .ok (.invokevirtual 198, 3) := by decide +kernel
theorem dX10_dial_39 : decode cX10_dial 39 = .ok (.istore_n 3, 1) := by decide +kernel
theorem dX10_dial_40 : decode cX10_dial 40 = .ok (.aload_n 0, 1) := by decide +kernel
theorem dX10_dial_41 : decode cX10_dial 41 = .ok (.invokevirtual 238, 3) := by decide +kernel
theorem dX10_dial_44 : decode cX10_dial 44 = .ok (.iload_n 3, 1) := by decide +kernel
theorem dX10_dial_45 : decode cX10_dial 45 = .ok (.ireturn, 1) := by decide +kernel
set_option maxRecDepth 100000 in
set_option maxHeartbeats 4000000 in
theorem S_X10_dial {ω : WD} {l1 : Int32} {l2 : Int32} {M : Mem} {post : Int32 → Mem → Prop} (h : w_X10_dial l1 l2 M post) : MtI ω yX10_dial cX10_dial 4 (some .int) 4 [.ref (adr ω 128), .int l1, .int l2] M post := by
  refine MtI.start (ty := .int) rfl (by decide +kernel) (own := RX10) rfl (Nat.le_of_ble_eq_true rfl) (fun ρ C R => ?_)
  show G ω ρ M 0 [(0, .ref (adr ω 128)), (1, .int l1), (2, .int l2)] []
  refine G_aload_n C dX10_dial_0 0 rfl ?_
  refine G_iload_n C dX10_dial_1 1 rfl ?_
  refine G_callI (As := [.int l1]) (rest := []) C dX10_dial_2 lk_X10_215 (Nat.le_of_ble_eq_true rfl) (Nat.le_of_ble_eq_true rfl) q128 (by decide) rfl (Nat.le_of_ble_eq_true rfl) rfl (S_X10_isOne h) (fun r2 M1 h => ?_)
  obtain ⟨h1, h2⟩ := h
  refine G_if_eq (tgt := 15) C dX10_dial_5 (by decide) (fun c => ?_) (fun c => ?_)
  · have h := h1 c
    clear h1 h2
    refine G_iconst (v := (-1)) C dX10_dial_15 (by decide) ?_
    exact R 16 _ _ _ dX10_dial_16 rfl h
  · have h := h2 c
    clear h1 h2
    refine G_iload_n C dX10_dial_8 2 rfl ?_
    refine G_scallI (As := [.int l2]) (rest := []) C dX10_dial_9 lk_X10_56 (Nat.le_of_ble_eq_true rfl) (Nat.le_of_ble_eq_true rfl) (Nat.le_of_ble_eq_true rfl) rfl (S_X10_isNumber h) (fun r4 M3 h => ?_)
    obtain ⟨h1, h2⟩ := h
    refine G_if_ne (tgt := 17) C dX10_dial_12 (by decide) (fun c => ?_) (fun c => ?_)
    · have h := h1 c
      clear h1 h2
      refine G_aload_n C dX10_dial_17 0 rfl ?_
      refine G_callV (As := []) (rest := []) C dX10_dial_18 lk_X10_209 (Nat.le_of_ble_eq_true rfl) (Nat.le_of_ble_eq_true rfl) q128 (by decide) rfl (Nat.le_of_ble_eq_true rfl) rfl (S_X10_starts h) (fun M5 h => ?_)
      refine G_aload_n C dX10_dial_21 0 rfl ?_
      refine G_iload_n C dX10_dial_22 1 rfl ?_
      refine G_iconst (v := 2) C dX10_dial_23 (by decide) ?_
      refine G_callI (As := [.int l1, .int 2]) (rest := []) C dX10_dial_24 lk_X10_157 (Nat.le_of_ble_eq_true rfl) (Nat.le_of_ble_eq_true rfl) q128 (by decide) rfl (Nat.le_of_ble_eq_true rfl) rfl (S_X10_of h) (fun r7 M6 h => ?_)
      obtain ⟨h1, h2⟩ := h
      refine G_if_eq (tgt := 33) C dX10_dial_27 (by decide) (fun c => ?_) (fun c => ?_)
      · have h := h1 c
        clear h1 h2
        refine G_aload_n C dX10_dial_33 0 rfl ?_
        refine G_iload_n C dX10_dial_34 1 rfl ?_
        refine G_iload_n C dX10_dial_35 2 rfl ?_
        refine G_callI (As := [.int l1, .int l2]) (rest := []) C dX10_dial_36 lk_X10_198 (Nat.le_of_ble_eq_true rfl) (Nat.le_of_ble_eq_true rfl) q128 (by decide) rfl (Nat.le_of_ble_eq_true rfl) rfl (S_X10_dials h) (fun r9 M8 h => ?_)
        refine G_istore_n C dX10_dial_39 (by decide) (lv' := [(3, .int r9), (0, .ref (adr ω 128)), (1, .int l1), (2, .int l2)]) rfl ?_
        refine G_aload_n C dX10_dial_40 1 rfl ?_
        refine G_callV (As := []) (rest := []) C dX10_dial_41 lk_X10_238 (Nat.le_of_ble_eq_true rfl) (Nat.le_of_ble_eq_true rfl) q128 (by decide) rfl (Nat.le_of_ble_eq_true rfl) rfl (S_X10_settles h) (fun M10 h => ?_)
        refine G_iload_n C dX10_dial_44 0 rfl ?_
        exact R 45 _ _ _ dX10_dial_45 rfl h
      · have h := h2 c
        clear h1 h2
        refine G_bipush (v := (-2)) C dX10_dial_30 (by decide) ?_
        exact R 32 _ _ _ dX10_dial_32 rfl h
    · have h := h2 c
      clear h1 h2
      refine G_iconst (v := (-1)) C dX10_dial_15 (by decide) ?_
      exact R 16 _ _ _ dX10_dial_16 rfl h
theorem dX10_hang_0 : decode cX10_hang 0 = .ok (.aload_n 0, 1) := by decide +kernel
theorem dX10_hang_1 : decode cX10_hang 1 = .ok (.iload_n 1, 1) := by decide +kernel
theorem dX10_hang_2 : decode cX10_hang 2 = .ok (.invokevirtual 215, 3) := by decide +kernel
theorem dX10_hang_5 : decode cX10_hang 5 = .ok (.ifCond .ne 5, 3) := by decide +kernel
theorem dX10_hang_8 : decode cX10_hang 8 = .ok (.iconst (-1), 1) := by decide +kernel
theorem dX10_hang_9 : decode cX10_hang 9 = .ok (.ireturn, 1) := by decide +kernel
theorem dX10_hang_10 : decode cX10_hang 10 = .ok (.aload_n 0, 1) := by decide +kernel
theorem dX10_hang_11 : decode cX10_hang 11 = .ok (.invokevirtual 209, 3) := by decide +kernel
theorem dX10_hang_14 : decode cX10_hang 14 = .ok (.aload_n 0, 1) := by decide +kernel
theorem dX10_hang_15 : decode cX10_hang 15 = .ok (.iload_n 1, 1) := by decide +kernel
theorem dX10_hang_16 : decode cX10_hang 16 = .ok (.iconst 1, 1) := by decide +kernel
theorem dX10_hang_17 : decode cX10_hang 17 = .ok (.invokevirtual 157, 3) := by decide +kernel
theorem dX10_hang_20 : decode cX10_hang 20 = .ok (.istore_n 2, 1) := by decide +kernel
theorem dX10_hang_21 : decode cX10_hang 21 = .ok (.iload_n 2, 1) := by decide +kernel
theorem dX10_hang_22 : decode cX10_hang 22 = .ok (.bipush (-4), 2) := by decide +kernel
theorem dX10_hang_24 : decode cX10_hang 24 = .ok (.if_icmp .ne 6, 3) := by decide +kernel
theorem dX10_hang_27 : decode cX10_hang 27 = .ok (.bipush (-2), 2) := by decide +kernel
theorem dX10_hang_29 : decode cX10_hang 29 = .ok (.ireturn, 1) := by decide +kernel
theorem dX10_hang_30 : decode cX10_hang 30 = .ok (.aload_n 0, 1) := by decide +kernel
theorem dX10_hang_31 : decode cX10_hang 31 = .ok (.iload_n 1, 1) := by decide +kernel
theorem dX10_hang_32 : decode cX10_hang 32 = .ok (.invokevirtual 195, 3) := by decide +kernel
theorem dX10_hang_35 : decode cX10_hang 35 = .ok (.aload_n 0, 1) := by decide +kernel
theorem dX10_hang_36 : decode cX10_hang 36 = .ok (.invokevirtual 238, 3) := by decide +kernel
theorem dX10_hang_39 : decode cX10_hang 39 = .ok (.iload_n 2, 1) := by decide +kernel
theorem dX10_hang_40 : decode cX10_hang 40 = .ok (.ireturn, 1) := by decide +kernel
set_option maxRecDepth 100000 in
set_option maxHeartbeats 4000000 in
theorem S_X10_hang {ω : WD} {l1 : Int32} {M : Mem} {post : Int32 → Mem → Prop} (h : w_X10_hang l1 M post) : MtI ω yX10_hang cX10_hang 3 (some .int) 3 [.ref (adr ω 128), .int l1] M post := by
  refine MtI.start (ty := .int) rfl (by decide +kernel) (own := RX10) rfl (Nat.le_of_ble_eq_true rfl) (fun ρ C R => ?_)
  show G ω ρ M 0 [(0, .ref (adr ω 128)), (1, .int l1)] []
  refine G_aload_n C dX10_hang_0 0 rfl ?_
  refine G_iload_n C dX10_hang_1 1 rfl ?_
  refine G_callI (As := [.int l1]) (rest := []) C dX10_hang_2 lk_X10_215 (Nat.le_of_ble_eq_true rfl) (Nat.le_of_ble_eq_true rfl) q128 (by decide) rfl (Nat.le_of_ble_eq_true rfl) rfl (S_X10_isOne h) (fun r2 M1 h => ?_)
  obtain ⟨h1, h2⟩ := h
  refine G_if_ne (tgt := 10) C dX10_hang_5 (by decide) (fun c => ?_) (fun c => ?_)
  · have h := h1 c
    clear h1 h2
    refine G_aload_n C dX10_hang_10 0 rfl ?_
    refine G_callV (As := []) (rest := []) C dX10_hang_11 lk_X10_209 (Nat.le_of_ble_eq_true rfl) (Nat.le_of_ble_eq_true rfl) q128 (by decide) rfl (Nat.le_of_ble_eq_true rfl) rfl (S_X10_starts h) (fun M3 h => ?_)
    refine G_aload_n C dX10_hang_14 0 rfl ?_
    refine G_iload_n C dX10_hang_15 1 rfl ?_
    refine G_iconst (v := 1) C dX10_hang_16 (by decide) ?_
    refine G_callI (As := [.int l1, .int 1]) (rest := []) C dX10_hang_17 lk_X10_157 (Nat.le_of_ble_eq_true rfl) (Nat.le_of_ble_eq_true rfl) q128 (by decide) rfl (Nat.le_of_ble_eq_true rfl) rfl (S_X10_of h) (fun r5 M4 h => ?_)
    refine G_istore_n C dX10_hang_20 (by decide) (lv' := [(2, .int r5), (0, .ref (adr ω 128)), (1, .int l1)]) rfl ?_
    refine G_iload_n C dX10_hang_21 0 rfl ?_
    refine G_bipush (v := (-4)) C dX10_hang_22 (by decide) ?_
    obtain ⟨h1, h2⟩ := h
    refine G_icmp_ne (tgt := 30) C dX10_hang_24 (by decide) (fun c => ?_) (fun c => ?_)
    · have h := h1 c
      clear h1 h2
      refine G_aload_n C dX10_hang_30 1 rfl ?_
      refine G_iload_n C dX10_hang_31 2 rfl ?_
      refine G_callV (As := [.int l1]) (rest := []) C dX10_hang_32 lk_X10_195 (Nat.le_of_ble_eq_true rfl) (Nat.le_of_ble_eq_true rfl) q128 (by decide) rfl (Nat.le_of_ble_eq_true rfl) rfl (S_X10_hangsUp h) (fun M6 h => ?_)
      refine G_aload_n C dX10_hang_35 1 rfl ?_
      refine G_callV (As := []) (rest := []) C dX10_hang_36 lk_X10_238 (Nat.le_of_ble_eq_true rfl) (Nat.le_of_ble_eq_true rfl) q128 (by decide) rfl (Nat.le_of_ble_eq_true rfl) rfl (S_X10_settles h) (fun M7 h => ?_)
      refine G_iload_n C dX10_hang_39 0 rfl ?_
      exact R 40 _ _ _ dX10_hang_40 rfl h
    · have h := h2 c
      clear h1 h2
      refine G_bipush (v := (-2)) C dX10_hang_27 (by decide) ?_
      exact R 29 _ _ _ dX10_hang_29 rfl h
  · have h := h2 c
    clear h1 h2
    refine G_iconst (v := (-1)) C dX10_hang_8 (by decide) ?_
    exact R 9 _ _ _ dX10_hang_9 rfl h
theorem dX10_runs_0 : decode cX10_runs 0 = .ok (.iload_n 1, 1) := by decide +kernel
theorem dX10_runs_1 : decode cX10_runs 1 = .ok (.i2l, 1) := by decide +kernel
theorem dX10_runs_2 : decode cX10_runs 2 = .ok (.lconst 0, 1) := by decide +kernel
theorem dX10_runs_3 : decode cX10_runs 3 = .ok (.ldc2_w 50, 3) := by decide +kernel
theorem dX10_runs_6 : decode cX10_runs 6 = .ok (.invokestatic 52, 3) := by decide +kernel
theorem dX10_runs_9 : decode cX10_runs 9 = .ok (.ifCond .ne 5, 3) := by decide +kernel
theorem dX10_runs_12 : decode cX10_runs 12 = .ok (.iconst (-1), 1) := by decide +kernel
theorem dX10_runs_13 : decode cX10_runs 13 = .ok (.ireturn, 1) := by decide +kernel
theorem dX10_runs_14 : decode cX10_runs 14 = .ok (.iconst 0, 1) := by decide +kernel
theorem dX10_runs_15 : decode cX10_runs 15 = .ok (.istore_n 2, 1) := by decide +kernel
theorem dX10_runs_16 : decode cX10_runs 16 = .ok (.bipush (-4), 2) := by decide +kernel
theorem dX10_runs_18 : decode cX10_runs 18 = .ok (.istore_n 3, 1) := by decide +kernel
theorem dX10_runs_19 : decode cX10_runs 19 = .ok (.iconst 0, 1) := by decide +kernel
theorem dX10_runs_20 : decode cX10_runs 20 = .ok (.istore 4, 2) := by decide +kernel
theorem dX10_runs_22 : decode cX10_runs 22 = .ok (.aload_n 0, 1) := by decide +kernel
theorem dX10_runs_23 : decode cX10_runs 23 = .ok (.invokevirtual 209, 3) := by decide +kernel
theorem dX10_runs_26 : decode cX10_runs 26 = .ok (.aload_n 0, 1) := by decide +kernel
theorem dX10_runs_27 : decode cX10_runs 27 = .ok (.iconst 0, 1) := by decide +kernel
theorem dX10_runs_28 : decode cX10_runs 28 = .ok (.invokevirtual 241, 3) := by decide +kernel
theorem dX10_runs_31 : decode cX10_runs 31 = .ok (.iconst 0, 1) := by decide +kernel
theorem dX10_runs_32 : decode cX10_runs 32 = .ok (.istore 5, 2) := by decide +kernel
theorem dX10_runs_34 : decode cX10_runs 34 = .ok (.iload 5, 2) := by decide +kernel
theorem dX10_runs_36 : decode cX10_runs 36 = .ok (.aload_n 0, 1) := by decide +kernel
theorem dX10_runs_37 : decode cX10_runs 37 = .ok (.getfield 13, 3) := by decide +kernel
theorem dX10_runs_40 : decode cX10_runs 40 = .ok (.bipush 66, 2) := by decide +kernel
theorem dX10_runs_42 : decode cX10_runs 42 = .ok (.iaload, 1) := by decide +kernel
theorem dX10_runs_43 : decode cX10_runs 43 = .ok (.if_icmp .ge 100, 3) := by decide +kernel
theorem dX10_runs_46 : decode cX10_runs 46 = .ok (.iload_n 2, 1) := by decide +kernel
theorem dX10_runs_47 : decode cX10_runs 47 = .ok (.aload_n 0, 1) := by decide +kernel
theorem dX10_runs_48 : decode cX10_runs 48 = .ok (.getfield 26, 3) := by decide +kernel
theorem dX10_runs_51 : decode cX10_runs 51 = .ok (.iload 5, 2) := by decide +kernel
theorem dX10_runs_53 : decode cX10_runs 53 = .ok (.iaload, 1) := by decide +kernel
theorem dX10_runs_54 : decode cX10_runs 54 = .ok (.ifCond .ne 26, 3) := by decide +kernel
theorem dX10_runs_57 : decode cX10_runs 57 = .ok (.aload_n 0, 1) := by decide +kernel
theorem dX10_runs_58 : decode cX10_runs 58 = .ok (.getfield 13, 3) := by decide +kernel
theorem dX10_runs_61 : decode cX10_runs 61 = .ok (.bipush 67, 2) := by decide +kernel
theorem dX10_runs_63 : decode cX10_runs 63 = .ok (.iconst 2, 1) := by decide +kernel
theorem dX10_runs_64 : decode cX10_runs 64 = .ok (.iload 5, 2) := by decide +kernel
theorem dX10_runs_66 : decode cX10_runs 66 = .ok (.imul, 1) := by decide +kernel
theorem dX10_runs_67 : decode cX10_runs 67 = .ok (.iadd, 1) := by decide +kernel
theorem dX10_runs_68 : decode cX10_runs 68 = .ok (.iconst 1, 1) := by decide +kernel
theorem dX10_runs_69 : decode cX10_runs 69 = .ok (.iadd, 1) := by decide +kernel
theorem dX10_runs_70 : decode cX10_runs 70 = .ok (.iaload, 1) := by decide +kernel
theorem dX10_runs_71 : decode cX10_runs 71 = .ok (.bipush 99, 2) := by decide +kernel
theorem dX10_runs_73 : decode cX10_runs 73 = .ok (.if_icmp .eq 7, 3) := by decide +kernel
theorem dX10_runs_76 : decode cX10_runs 76 = .ok (.iconst 1, 1) := by decide +kernel
theorem dX10_runs_77 : decode cX10_runs 77 = .ok (.goto 4, 3) := by decide +kernel
theorem dX10_runs_80 : decode cX10_runs 80 = .ok (.iconst 0, 1) := by decide +kernel
theorem dX10_runs_81 : decode cX10_runs 81 = .ok (.invokestatic 160, 3) := by decide +kernel
theorem dX10_runs_84 : decode cX10_runs 84 = .ok (.iadd, 1) := by decide +kernel
theorem dX10_runs_85 : decode cX10_runs 85 = .ok (.istore_n 2, 1) := by decide +kernel
theorem dX10_runs_86 : decode cX10_runs 86 = .ok (.iload_n 3, 1) := by decide +kernel
theorem dX10_runs_87 : decode cX10_runs 87 = .ok (.bipush (-4), 2) := by decide +kernel
theorem dX10_runs_89 : decode cX10_runs 89 = .ok (.if_icmp .ne 21, 3) := by decide +kernel
theorem dX10_runs_92 : decode cX10_runs 92 = .ok (.aload_n 0, 1) := by decide +kernel
theorem dX10_runs_93 : decode cX10_runs 93 = .ok (.getfield 26, 3) := by decide +kernel
theorem dX10_runs_96 : decode cX10_runs 96 = .ok (.iload 5, 2) := by decide +kernel
theorem dX10_runs_98 : decode cX10_runs 98 = .ok (.iaload, 1) := by decide +kernel
theorem dX10_runs_99 : decode cX10_runs 99 = .ok (.invokestatic 206, 3) := by decide +kernel
theorem dX10_runs_102 : decode cX10_runs 102 = .ok (.ifCond .eq 8, 3) := by decide +kernel
theorem dX10_runs_105 : decode cX10_runs 105 = .ok (.iload 5, 2) := by decide +kernel
theorem dX10_runs_107 : decode cX10_runs 107 = .ok (.goto 4, 3) := by decide +kernel
theorem dX10_runs_110 : decode cX10_runs 110 = .ok (.iload_n 3, 1) := by decide +kernel
theorem dX10_runs_111 : decode cX10_runs 111 = .ok (.istore_n 3, 1) := by decide +kernel
theorem dX10_runs_112 : decode cX10_runs 112 = .ok (.iload 4, 2) := by decide +kernel
theorem dX10_runs_114 : decode cX10_runs 114 = .ok (.aload_n 0, 1) := by decide +kernel
theorem dX10_runs_115 : decode cX10_runs 115 = .ok (.getfield 26, 3) := by decide +kernel
theorem dX10_runs_118 : decode cX10_runs 118 = .ok (.iload 5, 2) := by decide +kernel
theorem dX10_runs_120 : decode cX10_runs 120 = .ok (.iaload, 1) := by decide +kernel
theorem dX10_runs_121 : decode cX10_runs 121 = .ok (.bipush 6, 2) := by decide +kernel
theorem dX10_runs_123 : decode cX10_runs 123 = .ok (.if_icmp .ne 7, 3) := by decide +kernel
theorem dX10_runs_126 : decode cX10_runs 126 = .ok (.iconst 1, 1) := by decide +kernel
theorem dX10_runs_127 : decode cX10_runs 127 = .ok (.goto 4, 3) := by decide +kernel
theorem dX10_runs_130 : decode cX10_runs 130 = .ok (.iconst 0, 1) := by decide +kernel
theorem dX10_runs_131 : decode cX10_runs 131 = .ok (.invokestatic 160, 3) := by decide +kernel
theorem dX10_runs_134 : decode cX10_runs 134 = .ok (.iadd, 1) := by decide +kernel
theorem dX10_runs_135 : decode cX10_runs 135 = .ok (.istore 4, 2) := by decide +kernel
theorem dX10_runs_137 : decode cX10_runs 137 = .ok (.iinc 5 1, 3) := by decide +kernel
theorem dX10_runs_140 : decode cX10_runs 140 = .ok (.goto (-106), 3) := by decide +kernel
theorem dX10_runs_143 : decode cX10_runs 143 = .ok (.iload_n 1, 1) := by decide +kernel
theorem dX10_runs_144 : decode cX10_runs 144 = .ok (.tableswitch 46 0 3 #[32, 34, 39, 41], 32) := by decide +kernel
theorem dX10_runs_176 : decode cX10_runs 176 = .ok (.iload_n 2, 1) := by decide +kernel
theorem dX10_runs_177 : decode cX10_runs 177 = .ok (.ireturn, 1) := by decide +kernel
theorem dX10_runs_178 : decode cX10_runs 178 = .ok (.aload_n 0, 1) := by decide +kernel
theorem dX10_runs_179 : decode cX10_runs 179 = .ok (.invokevirtual 244, 3) := by decide +kernel
theorem dX10_runs_182 : decode cX10_runs 182 = .ok (.ireturn, 1) := by decide +kernel
theorem dX10_runs_183 : decode cX10_runs 183 = .ok (.iload_n 3, 1) := by decide +kernel
theorem dX10_runs_184 : decode cX10_runs 184 = .ok (.ireturn, 1) := by decide +kernel
theorem dX10_runs_185 : decode cX10_runs 185 = .ok (.aload_n 0, 1) := by decide +kernel
theorem dX10_runs_186 : decode cX10_runs 186 = .ok (.invokevirtual 177, 3) := by decide +kernel
theorem dX10_runs_189 : decode cX10_runs 189 = .ok (.ireturn, 1) := by decide +kernel
theorem dX10_runs_190 : decode cX10_runs 190 = .ok (.iload 4, 2) := by decide +kernel
theorem dX10_runs_192 : decode cX10_runs 192 = .ok (.ireturn, 1) := by decide +kernel
theorem lk_X10_244 : LkV RX10 244 RX10 yX10_lostMany cX10_lostMany 3 (some .int) 0 := LkV.of 1312 1314 51 71 1315 (by decide +kernel) (by decide +kernel) (by decide +kernel) (by decide +kernel) (by decide +kernel) (by decide +kernel)
theorem lk_X10_241 : LkV RX10 241 RX10 yX10_planGoes cX10_planGoes 3 none 1 := LkV.of 1300 1302 49 71 1303 (by decide +kernel) (by decide +kernel) (by decide +kernel) (by decide +kernel) (by decide +kernel) (by decide +kernel)
set_option maxRecDepth 100000 in
set_option maxHeartbeats 4000000 in
theorem s_X10_runs_J131 {ω : WD} {ρ : FR} {post : Int32 → Mem → Prop} (C : Cx ω ρ cX10_runs RX10 6 6) (R : RtI ω ρ cX10_runs .int post) {K34 : Int32 → Int32 → Int32 → Int32 → Mem → Prop} {l1 : Int32} {l2 : Int32} {l3 : Int32} {l5 : Int32} {s0 : Int32} {s1 : Int32} (k34 : ∀ (u2 : Int32) (u3 : Int32) (u4 : Int32) (u5 : Int32) (M : Mem), K34 u2 u3 u4 u5 M → G ω ρ M 34 [(0, .ref (adr ω 128)), (1, .int l1), (2, .int u2), (3, .int u3), (4, .int u4), (5, .int u5)] []) {M : Mem} (h : w_X10_runs_J131 post K34 l1 l2 l3 l5 s0 s1 M) : G ω ρ M 131 [(0, .ref (adr ω 128)), (1, .int l1), (2, .int l2), (3, .int l3), (5, .int l5)] [.int s1, .int s0] := by
  refine G_scallI (As := [.int s1]) (rest := [.int s0]) C dX10_runs_131 lk_X10_160 (Nat.le_of_ble_eq_true rfl) (Nat.le_of_ble_eq_true rfl) (Nat.le_of_ble_eq_true rfl) rfl (S_X10_flag h) (fun r2 M1 h => ?_)
  refine G_iadd C dX10_runs_134 ?_
  refine G_iname (fun v3 ev3 => ?_)
  replace h := h v3 ev3
  refine G_istore C dX10_runs_135 (by decide) (lv' := [(4, .int v3), (0, .ref (adr ω 128)), (1, .int l1), (2, .int l2), (3, .int l3), (5, .int l5)]) rfl ?_
  obtain ⟨v4, ev4⟩ : ∃ y : Int32, y = (l5 + 1) := ⟨_, rfl⟩
  replace h := h v4 ev4
  refine G_iinc C dX10_runs_137 5 rfl (v := v4) (by rw [ev4]; rfl) (by decide) (lv' := [(5, .int v4), (4, .int v3), (0, .ref (adr ω 128)), (1, .int l1), (2, .int l2), (3, .int l3)]) rfl ?_
  refine G_goto (tgt := 34) C dX10_runs_140 (by decide) ?_
  refine G_sub [2, 3, 4, 5, 1, 0] (lv' := [(0, .ref (adr ω 128)), (1, .int l1), (2, .int l2), (3, .int l3), (4, .int v3), (5, .int v4)]) rfl ?_
  exact k34 _ _ _ _ _ h
set_option maxRecDepth 100000 in
set_option maxHeartbeats 4000000 in
theorem s_X10_runs_J111 {ω : WD} {ρ : FR} {post : Int32 → Mem → Prop} (C : Cx ω ρ cX10_runs RX10 6 6) (R : RtI ω ρ cX10_runs .int post) {K34 : Int32 → Int32 → Int32 → Int32 → Mem → Prop} {l1 : Int32} {l2 : Int32} {l4 : Int32} {l5 : Int32} {s0 : Int32} (k34 : ∀ (u2 : Int32) (u3 : Int32) (u4 : Int32) (u5 : Int32) (M : Mem), K34 u2 u3 u4 u5 M → G ω ρ M 34 [(0, .ref (adr ω 128)), (1, .int l1), (2, .int u2), (3, .int u3), (4, .int u4), (5, .int u5)] []) {M : Mem} (h : w_X10_runs_J111 post K34 l1 l2 l4 l5 s0 M) : G ω ρ M 111 [(0, .ref (adr ω 128)), (1, .int l1), (2, .int l2), (4, .int l4), (5, .int l5)] [.int s0] := by
  refine G_istore_n C dX10_runs_111 (by decide) (lv' := [(3, .int s0), (0, .ref (adr ω 128)), (1, .int l1), (2, .int l2), (4, .int l4), (5, .int l5)]) rfl ?_
  refine G_iload C dX10_runs_112 4 rfl ?_
  refine G_aload_n C dX10_runs_114 1 rfl ?_
  refine gf_X10_26 C dX10_runs_115 ?_
  refine G_iload C dX10_runs_118 5 rfl ?_
  obtain ⟨hi, h⟩ := h
  refine G_iald C q134 hi rfl dX10_runs_120 ?_
  refine G_bipush (v := 6) C dX10_runs_121 (by decide) ?_
  obtain ⟨h1, h2⟩ := h
  refine G_icmp_ne (tgt := 130) C dX10_runs_123 (by decide) (fun c => ?_) (fun c => ?_)
  · have h := h1 c
    clear h1 h2
    refine G_iconst (v := 0) C dX10_runs_130 (by decide) ?_
    refine G_sub [1, 2, 3, 0, 5] (lv' := [(0, .ref (adr ω 128)), (1, .int l1), (2, .int l2), (3, .int s0), (5, .int l5)]) rfl ?_
    exact s_X10_runs_J131 C R k34 h
  · have h := h2 c
    clear h1 h2
    refine G_iconst (v := 1) C dX10_runs_126 (by decide) ?_
    refine G_goto (tgt := 131) C dX10_runs_127 (by decide) ?_
    refine G_sub [1, 2, 3, 0, 5] (lv' := [(0, .ref (adr ω 128)), (1, .int l1), (2, .int l2), (3, .int s0), (5, .int l5)]) rfl ?_
    exact s_X10_runs_J131 C R k34 h
set_option maxRecDepth 100000 in
set_option maxHeartbeats 4000000 in
theorem s_X10_runs_J110 {ω : WD} {ρ : FR} {post : Int32 → Mem → Prop} (C : Cx ω ρ cX10_runs RX10 6 6) (R : RtI ω ρ cX10_runs .int post) {K34 : Int32 → Int32 → Int32 → Int32 → Mem → Prop} {l1 : Int32} {l2 : Int32} {l3 : Int32} {l4 : Int32} {l5 : Int32} (k34 : ∀ (u2 : Int32) (u3 : Int32) (u4 : Int32) (u5 : Int32) (M : Mem), K34 u2 u3 u4 u5 M → G ω ρ M 34 [(0, .ref (adr ω 128)), (1, .int l1), (2, .int u2), (3, .int u3), (4, .int u4), (5, .int u5)] []) {M : Mem} (h : w_X10_runs_J110 post K34 l1 l2 l3 l4 l5 M) : G ω ρ M 110 [(0, .ref (adr ω 128)), (1, .int l1), (2, .int l2), (3, .int l3), (4, .int l4), (5, .int l5)] [] := by
  refine G_iload_n C dX10_runs_110 3 rfl ?_
  refine G_sub [0, 1, 2, 4, 5] (lv' := [(0, .ref (adr ω 128)), (1, .int l1), (2, .int l2), (4, .int l4), (5, .int l5)]) rfl ?_
  exact s_X10_runs_J111 C R k34 h
set_option maxRecDepth 100000 in
set_option maxHeartbeats 4000000 in
theorem s_X10_runs_J81 {ω : WD} {ρ : FR} {post : Int32 → Mem → Prop} (C : Cx ω ρ cX10_runs RX10 6 6) (R : RtI ω ρ cX10_runs .int post) {K34 : Int32 → Int32 → Int32 → Int32 → Mem → Prop} {l1 : Int32} {l3 : Int32} {l4 : Int32} {l5 : Int32} {s0 : Int32} {s1 : Int32} (k34 : ∀ (u2 : Int32) (u3 : Int32) (u4 : Int32) (u5 : Int32) (M : Mem), K34 u2 u3 u4 u5 M → G ω ρ M 34 [(0, .ref (adr ω 128)), (1, .int l1), (2, .int u2), (3, .int u3), (4, .int u4), (5, .int u5)] []) {M : Mem} (h : w_X10_runs_J81 post K34 l1 l3 l4 l5 s0 s1 M) : G ω ρ M 81 [(0, .ref (adr ω 128)), (1, .int l1), (3, .int l3), (4, .int l4), (5, .int l5)] [.int s1, .int s0] := by
  refine G_scallI (As := [.int s1]) (rest := [.int s0]) C dX10_runs_81 lk_X10_160 (Nat.le_of_ble_eq_true rfl) (Nat.le_of_ble_eq_true rfl) (Nat.le_of_ble_eq_true rfl) rfl (S_X10_flag h) (fun r6 M5 h => ?_)
  refine G_iadd C dX10_runs_84 ?_
  refine G_iname (fun v7 ev7 => ?_)
  replace h := h v7 ev7
  refine G_istore_n C dX10_runs_85 (by decide) (lv' := [(2, .int v7), (0, .ref (adr ω 128)), (1, .int l1), (3, .int l3), (4, .int l4), (5, .int l5)]) rfl ?_
  refine G_iload_n C dX10_runs_86 3 rfl ?_
  refine G_bipush (v := (-4)) C dX10_runs_87 (by decide) ?_
  obtain ⟨h1, h2⟩ := h
  refine G_icmp_ne (tgt := 110) C dX10_runs_89 (by decide) (fun c => ?_) (fun c => ?_)
  · have h := h1 c
    clear h1 h2
    refine G_sub [1, 2, 0, 3, 4, 5] (lv' := [(0, .ref (adr ω 128)), (1, .int l1), (2, .int v7), (3, .int l3), (4, .int l4), (5, .int l5)]) rfl ?_
    exact s_X10_runs_J110 C R k34 h
  · have h := h2 c
    clear h1 h2
    refine G_aload_n C dX10_runs_92 1 rfl ?_
    refine gf_X10_26 C dX10_runs_93 ?_
    refine G_iload C dX10_runs_96 5 rfl ?_
    obtain ⟨hi, h⟩ := h
    refine G_iald C q134 hi rfl dX10_runs_98 ?_
    refine G_scallI (As := [.int (rd M5 134 l5.toNatClampNeg)]) (rest := []) C dX10_runs_99 lk_X10_206 (Nat.le_of_ble_eq_true rfl) (Nat.le_of_ble_eq_true rfl) (Nat.le_of_ble_eq_true rfl) rfl (S_X10_isLost h) (fun r9 M8 h => ?_)
    obtain ⟨h1, h2⟩ := h
    refine G_if_eq (tgt := 110) C dX10_runs_102 (by decide) (fun c => ?_) (fun c => ?_)
    · have h := h1 c
      clear h1 h2
      refine G_sub [1, 2, 0, 3, 4, 5] (lv' := [(0, .ref (adr ω 128)), (1, .int l1), (2, .int v7), (3, .int l3), (4, .int l4), (5, .int l5)]) rfl ?_
      exact s_X10_runs_J110 C R k34 h
    · have h := h2 c
      clear h1 h2
      refine G_iload C dX10_runs_105 5 rfl ?_
      refine G_goto (tgt := 111) C dX10_runs_107 (by decide) ?_
      refine G_sub [1, 2, 0, 4, 5] (lv' := [(0, .ref (adr ω 128)), (1, .int l1), (2, .int v7), (4, .int l4), (5, .int l5)]) rfl ?_
      exact s_X10_runs_J111 C R k34 h
set_option maxRecDepth 100000 in
set_option maxHeartbeats 4000000 in
theorem s_X10_runs_J80 {ω : WD} {ρ : FR} {post : Int32 → Mem → Prop} (C : Cx ω ρ cX10_runs RX10 6 6) (R : RtI ω ρ cX10_runs .int post) {K34 : Int32 → Int32 → Int32 → Int32 → Mem → Prop} {l1 : Int32} {l3 : Int32} {l4 : Int32} {l5 : Int32} {s0 : Int32} (k34 : ∀ (u2 : Int32) (u3 : Int32) (u4 : Int32) (u5 : Int32) (M : Mem), K34 u2 u3 u4 u5 M → G ω ρ M 34 [(0, .ref (adr ω 128)), (1, .int l1), (2, .int u2), (3, .int u3), (4, .int u4), (5, .int u5)] []) {M : Mem} (h : w_X10_runs_J80 post K34 l1 l3 l4 l5 s0 M) : G ω ρ M 80 [(0, .ref (adr ω 128)), (1, .int l1), (3, .int l3), (4, .int l4), (5, .int l5)] [.int s0] := by
  refine G_iconst (v := 0) C dX10_runs_80 (by decide) ?_
  exact s_X10_runs_J81 C R k34 h
set_option maxRecDepth 100000 in
set_option maxHeartbeats 4000000 in
theorem s_X10_runs_L34 {ω : WD} {ρ : FR} {post : Int32 → Mem → Prop} (C : Cx ω ρ cX10_runs RX10 6 6) (R : RtI ω ρ cX10_runs .int post) {l1 : Int32} : ∀ (f : Nat) (l2 : Int32) (l3 : Int32) (l4 : Int32) (l5 : Int32) (M : Mem), w_X10_runs_L34 post l1 f l2 l3 l4 l5 M → G ω ρ M 34 [(0, .ref (adr ω 128)), (1, .int l1), (2, .int l2), (3, .int l3), (4, .int l4), (5, .int l5)] [] := by
  intro f
  induction f with
  | zero => intro l2 l3 l4 l5 M h; exact False.elim h
  | succ f k34 =>
    intro l2 l3 l4 l5 M h
    refine G_iload C dX10_runs_34 5 rfl ?_
    refine G_aload_n C dX10_runs_36 0 rfl ?_
    refine gf_X10_13 C dX10_runs_37 ?_
    refine G_bipush (v := 66) C dX10_runs_40 (by decide) ?_
    refine G_iald C q130 (vp_lit rfl) (kk := 66) (by decide +kernel) dX10_runs_42 ?_
    obtain ⟨h1, h2⟩ := h
    refine G_icmp_ge (tgt := 143) C dX10_runs_43 (by decide) (fun c => ?_) (fun c => ?_)
    · have h := h1 c
      clear h1 h2
      refine G_iload_n C dX10_runs_143 1 rfl ?_
      obtain ⟨h0, h1, h2, h3, h4⟩ := h
      by_cases cd : (l1).toInt < 0 ∨ 3 < (l1).toInt
      · have h := h4 cd
        clear h0 h1 h2 h3 h4
        refine G_tableOut (tgt := 190) C dX10_runs_144 cd (by decide) ?_
        refine G_iload C dX10_runs_190 4 rfl ?_
        exact R 192 _ _ _ dX10_runs_192 rfl h
      · have cs : (l1).toInt = 0 ∨ (l1).toInt = 1 ∨ (l1).toInt = 2 ∨ (l1).toInt = 3 := by omega
        rcases cs with cs | cs | cs | cs
        · have h := h0 ((sw_toInt cs).trans (by decide))
          clear h0 h1 h2 h3 h4
          refine G_tableIn (tgt := 176) C dX10_runs_144 (by omega) (by omega) (by rw [cs]; rfl) (by decide) ?_
          refine G_iload_n C dX10_runs_176 2 rfl ?_
          exact R 177 _ _ _ dX10_runs_177 rfl h
        · have h := h1 ((sw_toInt cs).trans (by decide))
          clear h0 h1 h2 h3 h4
          refine G_tableIn (tgt := 178) C dX10_runs_144 (by omega) (by omega) (by rw [cs]; rfl) (by decide) ?_
          refine G_aload_n C dX10_runs_178 0 rfl ?_
          refine G_callI (As := []) (rest := []) C dX10_runs_179 lk_X10_244 (Nat.le_of_ble_eq_true rfl) (Nat.le_of_ble_eq_true rfl) q128 (by decide) rfl (Nat.le_of_ble_eq_true rfl) rfl (S_X10_lostMany h) (fun r11 M10 h => ?_)
          exact R 182 _ _ _ dX10_runs_182 rfl h
        · have h := h2 ((sw_toInt cs).trans (by decide))
          clear h0 h1 h2 h3 h4
          refine G_tableIn (tgt := 183) C dX10_runs_144 (by omega) (by omega) (by rw [cs]; rfl) (by decide) ?_
          refine G_iload_n C dX10_runs_183 3 rfl ?_
          exact R 184 _ _ _ dX10_runs_184 rfl h
        · have h := h3 ((sw_toInt cs).trans (by decide))
          clear h0 h1 h2 h3 h4
          refine G_tableIn (tgt := 185) C dX10_runs_144 (by omega) (by omega) (by rw [cs]; rfl) (by decide) ?_
          refine G_aload_n C dX10_runs_185 0 rfl ?_
          refine G_callI (As := []) (rest := []) C dX10_runs_186 lk_X10_177 (Nat.le_of_ble_eq_true rfl) (Nat.le_of_ble_eq_true rfl) q128 (by decide) rfl (Nat.le_of_ble_eq_true rfl) rfl (S_X10_callsNow h) (fun r13 M12 h => ?_)
          exact R 189 _ _ _ dX10_runs_189 rfl h
    · have h := h2 c
      clear h1 h2
      refine G_iload_n C dX10_runs_46 2 rfl ?_
      refine G_aload_n C dX10_runs_47 0 rfl ?_
      refine gf_X10_26 C dX10_runs_48 ?_
      refine G_iload C dX10_runs_51 5 rfl ?_
      obtain ⟨hi, h⟩ := h
      refine G_iald C q134 hi rfl dX10_runs_53 ?_
      obtain ⟨h1, h2⟩ := h
      refine G_if_ne (tgt := 80) C dX10_runs_54 (by decide) (fun c => ?_) (fun c => ?_)
      · have h := h1 c
        clear h1 h2
        refine G_sub [0, 1, 3, 4, 5] (lv' := [(0, .ref (adr ω 128)), (1, .int l1), (3, .int l3), (4, .int l4), (5, .int l5)]) rfl ?_
        exact s_X10_runs_J80 C R k34 h
      · have h := h2 c
        clear h1 h2
        refine G_aload_n C dX10_runs_57 0 rfl ?_
        refine gf_X10_13 C dX10_runs_58 ?_
        refine G_bipush (v := 67) C dX10_runs_61 (by decide) ?_
        refine G_iconst (v := 2) C dX10_runs_63 (by decide) ?_
        refine G_iload C dX10_runs_64 5 rfl ?_
        refine G_imul C dX10_runs_66 ?_
        refine G_iadd C dX10_runs_67 ?_
        refine G_iconst (v := 1) C dX10_runs_68 (by decide) ?_
        refine G_iadd C dX10_runs_69 ?_
        obtain ⟨hi, h⟩ := h
        refine G_iald C q130 hi rfl dX10_runs_70 ?_
        refine G_bipush (v := 99) C dX10_runs_71 (by decide) ?_
        obtain ⟨h1, h2⟩ := h
        refine G_icmp_eq (tgt := 80) C dX10_runs_73 (by decide) (fun c => ?_) (fun c => ?_)
        · have h := h1 c
          clear h1 h2
          refine G_sub [0, 1, 3, 4, 5] (lv' := [(0, .ref (adr ω 128)), (1, .int l1), (3, .int l3), (4, .int l4), (5, .int l5)]) rfl ?_
          exact s_X10_runs_J80 C R k34 h
        · have h := h2 c
          clear h1 h2
          refine G_iconst (v := 1) C dX10_runs_76 (by decide) ?_
          refine G_goto (tgt := 81) C dX10_runs_77 (by decide) ?_
          refine G_sub [0, 1, 3, 4, 5] (lv' := [(0, .ref (adr ω 128)), (1, .int l1), (3, .int l3), (4, .int l4), (5, .int l5)]) rfl ?_
          exact s_X10_runs_J81 C R k34 h
set_option maxRecDepth 100000 in
set_option maxHeartbeats 4000000 in
theorem S_X10_runs {ω : WD} {l1 : Int32} {M : Mem} {post : Int32 → Mem → Prop} (h : w_X10_runs l1 M post) : MtI ω yX10_runs cX10_runs 6 (some .int) 6 [.ref (adr ω 128), .int l1] M post := by
  refine MtI.start (ty := .int) rfl (by decide +kernel) (own := RX10) rfl (Nat.le_of_ble_eq_true rfl) (fun ρ C R => ?_)
  show G ω ρ M 0 [(0, .ref (adr ω 128)), (1, .int l1)] []
  refine G_iload_n C dX10_runs_0 1 rfl ?_
  refine G_i2l C dX10_runs_1 ?_
  refine G_lconst (v := 0) C dX10_runs_2 (by decide) ?_
  refine G_ldc2 (v := 4) C dX10_runs_3 (tb_of 1129 ⟨by decide +kernel, rfl⟩) ?_
  refine G_scallI (As := [.long ((l1).toInt64), .long 0, .long 4]) (rest := []) C dX10_runs_6 lk_X10_52 (Nat.le_of_ble_eq_true rfl) (Nat.le_of_ble_eq_true rfl) (Nat.le_of_ble_eq_true rfl) rfl (S_X10_in h) (fun r15 M14 h => ?_)
  obtain ⟨h1, h2⟩ := h
  refine G_if_ne (tgt := 14) C dX10_runs_9 (by decide) (fun c => ?_) (fun c => ?_)
  · have h := h1 c
    clear h1 h2
    refine G_iconst (v := 0) C dX10_runs_14 (by decide) ?_
    refine G_istore_n C dX10_runs_15 (by decide) (lv' := [(2, .int 0), (0, .ref (adr ω 128)), (1, .int l1)]) rfl ?_
    refine G_bipush (v := (-4)) C dX10_runs_16 (by decide) ?_
    refine G_istore_n C dX10_runs_18 (by decide) (lv' := [(3, .int (-4)), (2, .int 0), (0, .ref (adr ω 128)), (1, .int l1)]) rfl ?_
    refine G_iconst (v := 0) C dX10_runs_19 (by decide) ?_
    refine G_istore C dX10_runs_20 (by decide) (lv' := [(4, .int 0), (3, .int (-4)), (2, .int 0), (0, .ref (adr ω 128)), (1, .int l1)]) rfl ?_
    refine G_aload_n C dX10_runs_22 3 rfl ?_
    refine G_callV (As := []) (rest := []) C dX10_runs_23 lk_X10_209 (Nat.le_of_ble_eq_true rfl) (Nat.le_of_ble_eq_true rfl) q128 (by decide) rfl (Nat.le_of_ble_eq_true rfl) rfl (S_X10_starts h) (fun M16 h => ?_)
    refine G_aload_n C dX10_runs_26 3 rfl ?_
    refine G_iconst (v := 0) C dX10_runs_27 (by decide) ?_
    refine G_callV (As := [.int 0]) (rest := []) C dX10_runs_28 lk_X10_241 (Nat.le_of_ble_eq_true rfl) (Nat.le_of_ble_eq_true rfl) q128 (by decide) rfl (Nat.le_of_ble_eq_true rfl) rfl (S_X10_planGoes h) (fun M17 h => ?_)
    refine G_iconst (v := 0) C dX10_runs_31 (by decide) ?_
    refine G_istore C dX10_runs_32 (by decide) (lv' := [(5, .int 0), (4, .int 0), (3, .int (-4)), (2, .int 0), (0, .ref (adr ω 128)), (1, .int l1)]) rfl ?_
    refine G_sub [4, 5, 3, 2, 1, 0] (lv' := [(0, .ref (adr ω 128)), (1, .int l1), (2, .int 0), (3, .int (-4)), (4, .int 0), (5, .int 0)]) rfl ?_
    obtain ⟨f, h⟩ := h
    exact s_X10_runs_L34 C R  f _ _ _ _ _ h
  · have h := h2 c
    clear h1 h2
    refine G_iconst (v := (-1)) C dX10_runs_12 (by decide) ?_
    exact R 13 _ _ _ dX10_runs_13 rfl h
theorem dX10_fate_0 : decode cX10_fate 0 = .ok (.iload_n 1, 1) := by decide +kernel
theorem dX10_fate_1 : decode cX10_fate 1 = .ok (.i2l, 1) := by decide +kernel
theorem dX10_fate_2 : decode cX10_fate 2 = .ok (.lconst 0, 1) := by decide +kernel
theorem dX10_fate_3 : decode cX10_fate 3 = .ok (.aload_n 0, 1) := by decide +kernel
theorem dX10_fate_4 : decode cX10_fate 4 = .ok (.getfield 7, 3) := by decide +kernel
theorem dX10_fate_7 : decode cX10_fate 7 = .ok (.bipush 66, 2) := by decide +kernel
theorem dX10_fate_9 : decode cX10_fate 9 = .ok (.iaload, 1) := by decide +kernel
theorem dX10_fate_10 : decode cX10_fate 10 = .ok (.iconst 1, 1) := by decide +kernel
theorem dX10_fate_11 : decode cX10_fate 11 = .ok (.isub, 1) := by decide +kernel
theorem dX10_fate_12 : decode cX10_fate 12 = .ok (.i2l, 1) := by decide +kernel
theorem dX10_fate_13 : decode cX10_fate 13 = .ok (.invokestatic 52, 3) := by decide +kernel
theorem dX10_fate_16 : decode cX10_fate 16 = .ok (.ifCond .ne 5, 3) := by decide +kernel
theorem dX10_fate_19 : decode cX10_fate 19 = .ok (.iconst (-1), 1) := by decide +kernel
theorem dX10_fate_20 : decode cX10_fate 20 = .ok (.ireturn, 1) := by decide +kernel
theorem dX10_fate_21 : decode cX10_fate 21 = .ok (.aload_n 0, 1) := by decide +kernel
theorem dX10_fate_22 : decode cX10_fate 22 = .ok (.invokevirtual 209, 3) := by decide +kernel
theorem dX10_fate_25 : decode cX10_fate 25 = .ok (.aload_n 0, 1) := by decide +kernel
theorem dX10_fate_26 : decode cX10_fate 26 = .ok (.iconst 0, 1) := by decide +kernel
theorem dX10_fate_27 : decode cX10_fate 27 = .ok (.invokevirtual 241, 3) := by decide +kernel
theorem dX10_fate_30 : decode cX10_fate 30 = .ok (.aload_n 0, 1) := by decide +kernel
theorem dX10_fate_31 : decode cX10_fate 31 = .ok (.getfield 26, 3) := by decide +kernel
theorem dX10_fate_34 : decode cX10_fate 34 = .ok (.iload_n 1, 1) := by decide +kernel
theorem dX10_fate_35 : decode cX10_fate 35 = .ok (.iaload, 1) := by decide +kernel
theorem dX10_fate_36 : decode cX10_fate 36 = .ok (.ireturn, 1) := by decide +kernel
set_option maxRecDepth 100000 in
set_option maxHeartbeats 4000000 in
theorem S_X10_fate {ω : WD} {l1 : Int32} {M : Mem} {post : Int32 → Mem → Prop} (h : w_X10_fate l1 M post) : MtI ω yX10_fate cX10_fate 2 (some .int) 6 [.ref (adr ω 128), .int l1] M post := by
  refine MtI.start (ty := .int) rfl (by decide +kernel) (own := RX10) rfl (Nat.le_of_ble_eq_true rfl) (fun ρ C R => ?_)
  show G ω ρ M 0 [(0, .ref (adr ω 128)), (1, .int l1)] []
  refine G_iload_n C dX10_fate_0 1 rfl ?_
  refine G_i2l C dX10_fate_1 ?_
  refine G_lconst (v := 0) C dX10_fate_2 (by decide) ?_
  refine G_aload_n C dX10_fate_3 0 rfl ?_
  refine gf_X10_7 C dX10_fate_4 ?_
  refine G_bipush (v := 66) C dX10_fate_7 (by decide) ?_
  refine G_iald C q129 (vp_lit rfl) (kk := 66) (by decide +kernel) dX10_fate_9 ?_
  refine G_iconst (v := 1) C dX10_fate_10 (by decide) ?_
  refine G_isub C dX10_fate_11 ?_
  refine G_i2l C dX10_fate_12 ?_
  refine G_scallI (As := [.long ((l1).toInt64), .long 0, .long ((((rd M 129 66) - 1)).toInt64)]) (rest := []) C dX10_fate_13 lk_X10_52 (Nat.le_of_ble_eq_true rfl) (Nat.le_of_ble_eq_true rfl) (Nat.le_of_ble_eq_true rfl) rfl (S_X10_in h) (fun r2 M1 h => ?_)
  obtain ⟨h1, h2⟩ := h
  refine G_if_ne (tgt := 21) C dX10_fate_16 (by decide) (fun c => ?_) (fun c => ?_)
  · have h := h1 c
    clear h1 h2
    refine G_aload_n C dX10_fate_21 0 rfl ?_
    refine G_callV (As := []) (rest := []) C dX10_fate_22 lk_X10_209 (Nat.le_of_ble_eq_true rfl) (Nat.le_of_ble_eq_true rfl) q128 (by decide) rfl (Nat.le_of_ble_eq_true rfl) rfl (S_X10_starts h) (fun M3 h => ?_)
    refine G_aload_n C dX10_fate_25 0 rfl ?_
    refine G_iconst (v := 0) C dX10_fate_26 (by decide) ?_
    refine G_callV (As := [.int 0]) (rest := []) C dX10_fate_27 lk_X10_241 (Nat.le_of_ble_eq_true rfl) (Nat.le_of_ble_eq_true rfl) q128 (by decide) rfl (Nat.le_of_ble_eq_true rfl) rfl (S_X10_planGoes h) (fun M4 h => ?_)
    refine G_aload_n C dX10_fate_30 0 rfl ?_
    refine gf_X10_26 C dX10_fate_31 ?_
    refine G_iload_n C dX10_fate_34 1 rfl ?_
    obtain ⟨hi, h⟩ := h
    refine G_iald C q134 hi rfl dX10_fate_35 ?_
    exact R 36 _ _ _ dX10_fate_36 rfl h
  · have h := h2 c
    clear h1 h2
    refine G_iconst (v := (-1)) C dX10_fate_19 (by decide) ?_
    exact R 20 _ _ _ dX10_fate_20 rfl h
theorem dX10_ahead_0 : decode cX10_ahead 0 = .ok (.aload_n 0, 1) := by decide +kernel
theorem dX10_ahead_1 : decode cX10_ahead 1 = .ok (.iload_n 1, 1) := by decide +kernel
theorem dX10_ahead_2 : decode cX10_ahead 2 = .ok (.invokevirtual 215, 3) := by decide +kernel
theorem dX10_ahead_5 : decode cX10_ahead 5 = .ok (.ifCond .ne 5, 3) := by decide +kernel
theorem dX10_ahead_8 : decode cX10_ahead 8 = .ok (.iconst (-1), 1) := by decide +kernel
theorem dX10_ahead_9 : decode cX10_ahead 9 = .ok (.ireturn, 1) := by decide +kernel
theorem dX10_ahead_10 : decode cX10_ahead 10 = .ok (.aload_n 0, 1) := by decide +kernel
theorem dX10_ahead_11 : decode cX10_ahead 11 = .ok (.invokevirtual 209, 3) := by decide +kernel
theorem dX10_ahead_14 : decode cX10_ahead 14 = .ok (.aload_n 0, 1) := by decide +kernel
theorem dX10_ahead_15 : decode cX10_ahead 15 = .ok (.iconst 0, 1) := by decide +kernel
theorem dX10_ahead_16 : decode cX10_ahead 16 = .ok (.invokevirtual 241, 3) := by decide +kernel
theorem dX10_ahead_19 : decode cX10_ahead 19 = .ok (.aload_n 0, 1) := by decide +kernel
theorem dX10_ahead_20 : decode cX10_ahead 20 = .ok (.iload_n 1, 1) := by decide +kernel
theorem dX10_ahead_21 : decode cX10_ahead 21 = .ok (.iconst 1, 1) := by decide +kernel
theorem dX10_ahead_22 : decode cX10_ahead 22 = .ok (.invokevirtual 157, 3) := by decide +kernel
theorem dX10_ahead_25 : decode cX10_ahead 25 = .ok (.ireturn, 1) := by decide +kernel
set_option maxRecDepth 100000 in
set_option maxHeartbeats 4000000 in
theorem S_X10_ahead {ω : WD} {l1 : Int32} {M : Mem} {post : Int32 → Mem → Prop} (h : w_X10_ahead l1 M post) : MtI ω yX10_ahead cX10_ahead 2 (some .int) 6 [.ref (adr ω 128), .int l1] M post := by
  refine MtI.start (ty := .int) rfl (by decide +kernel) (own := RX10) rfl (Nat.le_of_ble_eq_true rfl) (fun ρ C R => ?_)
  show G ω ρ M 0 [(0, .ref (adr ω 128)), (1, .int l1)] []
  refine G_aload_n C dX10_ahead_0 0 rfl ?_
  refine G_iload_n C dX10_ahead_1 1 rfl ?_
  refine G_callI (As := [.int l1]) (rest := []) C dX10_ahead_2 lk_X10_215 (Nat.le_of_ble_eq_true rfl) (Nat.le_of_ble_eq_true rfl) q128 (by decide) rfl (Nat.le_of_ble_eq_true rfl) rfl (S_X10_isOne h) (fun r2 M1 h => ?_)
  obtain ⟨h1, h2⟩ := h
  refine G_if_ne (tgt := 10) C dX10_ahead_5 (by decide) (fun c => ?_) (fun c => ?_)
  · have h := h1 c
    clear h1 h2
    refine G_aload_n C dX10_ahead_10 0 rfl ?_
    refine G_callV (As := []) (rest := []) C dX10_ahead_11 lk_X10_209 (Nat.le_of_ble_eq_true rfl) (Nat.le_of_ble_eq_true rfl) q128 (by decide) rfl (Nat.le_of_ble_eq_true rfl) rfl (S_X10_starts h) (fun M3 h => ?_)
    refine G_aload_n C dX10_ahead_14 0 rfl ?_
    refine G_iconst (v := 0) C dX10_ahead_15 (by decide) ?_
    refine G_callV (As := [.int 0]) (rest := []) C dX10_ahead_16 lk_X10_241 (Nat.le_of_ble_eq_true rfl) (Nat.le_of_ble_eq_true rfl) q128 (by decide) rfl (Nat.le_of_ble_eq_true rfl) rfl (S_X10_planGoes h) (fun M4 h => ?_)
    refine G_aload_n C dX10_ahead_19 0 rfl ?_
    refine G_iload_n C dX10_ahead_20 1 rfl ?_
    refine G_iconst (v := 1) C dX10_ahead_21 (by decide) ?_
    refine G_callI (As := [.int l1, .int 1]) (rest := []) C dX10_ahead_22 lk_X10_157 (Nat.le_of_ble_eq_true rfl) (Nat.le_of_ble_eq_true rfl) q128 (by decide) rfl (Nat.le_of_ble_eq_true rfl) rfl (S_X10_of h) (fun r6 M5 h => ?_)
    exact R 25 _ _ _ dX10_ahead_25 rfl h
  · have h := h2 c
    clear h1 h2
    refine G_iconst (v := (-1)) C dX10_ahead_8 (by decide) ?_
    exact R 9 _ _ _ dX10_ahead_9 rfl h
theorem dX10_isLostBy_0 : decode cX10_isLostBy 0 = .ok (.iconst 0, 1) := by decide +kernel
theorem dX10_isLostBy_1 : decode cX10_isLostBy 1 = .ok (.istore_n 3, 1) := by decide +kernel
theorem dX10_isLostBy_2 : decode cX10_isLostBy 2 = .ok (.iconst 0, 1) := by decide +kernel
theorem dX10_isLostBy_3 : decode cX10_isLostBy 3 = .ok (.istore 4, 2) := by decide +kernel
theorem dX10_isLostBy_5 : decode cX10_isLostBy 5 = .ok (.iload 4, 2) := by decide +kernel
theorem dX10_isLostBy_7 : decode cX10_isLostBy 7 = .ok (.aload_n 0, 1) := by decide +kernel
theorem dX10_isLostBy_8 : decode cX10_isLostBy 8 = .ok (.getfield 13, 3) := by decide +kernel
theorem dX10_isLostBy_11 : decode cX10_isLostBy 11 = .ok (.bipush 66, 2) := by decide +kernel
theorem dX10_isLostBy_13 : decode cX10_isLostBy 13 = .ok (.iaload, 1) := by decide +kernel
theorem dX10_isLostBy_14 : decode cX10_isLostBy 14 = .ok (.if_icmp .ge 57, 3) := by decide +kernel
theorem dX10_isLostBy_17 : decode cX10_isLostBy 17 = .ok (.iload_n 3, 1) := by decide +kernel
theorem dX10_isLostBy_18 : decode cX10_isLostBy 18 = .ok (.ifCond .ne 41, 3) := by decide +kernel
theorem dX10_isLostBy_21 : decode cX10_isLostBy 21 = .ok (.aload_n 0, 1) := by decide +kernel
theorem dX10_isLostBy_22 : decode cX10_isLostBy 22 = .ok (.getfield 26, 3) := by decide +kernel
theorem dX10_isLostBy_25 : decode cX10_isLostBy 25 = .ok (.iload 4, 2) := by decide +kernel
theorem dX10_isLostBy_27 : decode cX10_isLostBy 27 = .ok (.iaload, 1) := by decide +kernel
theorem dX10_isLostBy_28 : decode cX10_isLostBy 28 = .ok (.iload_n 1, 1) := by decide +kernel
theorem dX10_isLostBy_29 : decode cX10_isLostBy 29 = .ok (.if_icmp .ne 34, 3) := by decide +kernel
theorem dX10_isLostBy_32 : decode cX10_isLostBy 32 = .ok (.iload_n 2, 1) := by decide +kernel
theorem dX10_isLostBy_33 : decode cX10_isLostBy 33 = .ok (.bipush (-4), 2) := by decide +kernel
theorem dX10_isLostBy_35 : decode cX10_isLostBy 35 = .ok (.if_icmp .eq 24, 3) := by decide +kernel
theorem dX10_isLostBy_38 : decode cX10_isLostBy 38 = .ok (.aload_n 0, 1) := by decide +kernel
theorem dX10_isLostBy_39 : decode cX10_isLostBy 39 = .ok (.getfield 13, 3) := by decide +kernel
theorem dX10_isLostBy_42 : decode cX10_isLostBy 42 = .ok (.bipush 67, 2) := by decide +kernel
theorem dX10_isLostBy_44 : decode cX10_isLostBy 44 = .ok (.iconst 2, 1) := by decide +kernel
theorem dX10_isLostBy_45 : decode cX10_isLostBy 45 = .ok (.iload 4, 2) := by decide +kernel
theorem dX10_isLostBy_47 : decode cX10_isLostBy 47 = .ok (.imul, 1) := by decide +kernel
theorem dX10_isLostBy_48 : decode cX10_isLostBy 48 = .ok (.iadd, 1) := by decide +kernel
theorem dX10_isLostBy_49 : decode cX10_isLostBy 49 = .ok (.iconst 1, 1) := by decide +kernel
theorem dX10_isLostBy_50 : decode cX10_isLostBy 50 = .ok (.iadd, 1) := by decide +kernel
theorem dX10_isLostBy_51 : decode cX10_isLostBy 51 = .ok (.iaload, 1) := by decide +kernel
theorem dX10_isLostBy_52 : decode cX10_isLostBy 52 = .ok (.bipush 10, 2) := by decide +kernel
theorem dX10_isLostBy_54 : decode cX10_isLostBy 54 = .ok (.idiv, 1) := by decide +kernel
theorem dX10_isLostBy_55 : decode cX10_isLostBy 55 = .ok (.iload_n 2, 1) := by decide +kernel
theorem dX10_isLostBy_56 : decode cX10_isLostBy 56 = .ok (.if_icmp .ne 7, 3) := by decide +kernel
theorem dX10_isLostBy_59 : decode cX10_isLostBy 59 = .ok (.iconst 1, 1) := by decide +kernel
theorem dX10_isLostBy_60 : decode cX10_isLostBy 60 = .ok (.goto 4, 3) := by decide +kernel
theorem dX10_isLostBy_63 : decode cX10_isLostBy 63 = .ok (.iconst 0, 1) := by decide +kernel
theorem dX10_isLostBy_64 : decode cX10_isLostBy 64 = .ok (.istore_n 3, 1) := by decide +kernel
theorem dX10_isLostBy_65 : decode cX10_isLostBy 65 = .ok (.iinc 4 1, 3) := by decide +kernel
theorem dX10_isLostBy_68 : decode cX10_isLostBy 68 = .ok (.goto (-63), 3) := by decide +kernel
theorem dX10_isLostBy_71 : decode cX10_isLostBy 71 = .ok (.iload_n 3, 1) := by decide +kernel
theorem dX10_isLostBy_72 : decode cX10_isLostBy 72 = .ok (.ireturn, 1) := by decide +kernel
set_option maxRecDepth 100000 in
set_option maxHeartbeats 4000000 in
theorem s_X10_isLostBy_J64 {ω : WD} {ρ : FR} {post : Int32 → Mem → Prop} (C : Cx ω ρ cX10_isLostBy RX10 0 5) (R : RtI ω ρ cX10_isLostBy .boolean post) {K5 : Int32 → Int32 → Mem → Prop} {l1 : Int32} {l2 : Int32} {l4 : Int32} {s0 : Int32} (k5 : ∀ (u3 : Int32) (u4 : Int32) (M : Mem), K5 u3 u4 M → G ω ρ M 5 [(0, .ref (adr ω 128)), (1, .int l1), (2, .int l2), (3, .int u3), (4, .int u4)] []) {M : Mem} (h : w_X10_isLostBy_J64 post K5 l1 l2 l4 s0 M) : G ω ρ M 64 [(0, .ref (adr ω 128)), (1, .int l1), (2, .int l2), (4, .int l4)] [.int s0] := by
  refine G_istore_n C dX10_isLostBy_64 (by decide) (lv' := [(3, .int s0), (0, .ref (adr ω 128)), (1, .int l1), (2, .int l2), (4, .int l4)]) rfl ?_
  obtain ⟨v1, ev1⟩ : ∃ y : Int32, y = (l4 + 1) := ⟨_, rfl⟩
  replace h := h v1 ev1
  refine G_iinc C dX10_isLostBy_65 4 rfl (v := v1) (by rw [ev1]; rfl) (by decide) (lv' := [(4, .int v1), (3, .int s0), (0, .ref (adr ω 128)), (1, .int l1), (2, .int l2)]) rfl ?_
  refine G_goto (tgt := 5) C dX10_isLostBy_68 (by decide) ?_
  refine G_sub [2, 3, 4, 1, 0] (lv' := [(0, .ref (adr ω 128)), (1, .int l1), (2, .int l2), (3, .int s0), (4, .int v1)]) rfl ?_
  exact k5 _ _ _ h
set_option maxRecDepth 100000 in
set_option maxHeartbeats 4000000 in
theorem s_X10_isLostBy_J59 {ω : WD} {ρ : FR} {post : Int32 → Mem → Prop} (C : Cx ω ρ cX10_isLostBy RX10 0 5) (R : RtI ω ρ cX10_isLostBy .boolean post) {K5 : Int32 → Int32 → Mem → Prop} {l1 : Int32} {l2 : Int32} {l4 : Int32} (k5 : ∀ (u3 : Int32) (u4 : Int32) (M : Mem), K5 u3 u4 M → G ω ρ M 5 [(0, .ref (adr ω 128)), (1, .int l1), (2, .int l2), (3, .int u3), (4, .int u4)] []) {M : Mem} (h : w_X10_isLostBy_J59 post K5 l1 l2 l4 M) : G ω ρ M 59 [(0, .ref (adr ω 128)), (1, .int l1), (2, .int l2), (4, .int l4)] [] := by
  refine G_iconst (v := 1) C dX10_isLostBy_59 (by decide) ?_
  refine G_goto (tgt := 64) C dX10_isLostBy_60 (by decide) ?_
  exact s_X10_isLostBy_J64 C R k5 h
set_option maxRecDepth 100000 in
set_option maxHeartbeats 4000000 in
theorem s_X10_isLostBy_J63 {ω : WD} {ρ : FR} {post : Int32 → Mem → Prop} (C : Cx ω ρ cX10_isLostBy RX10 0 5) (R : RtI ω ρ cX10_isLostBy .boolean post) {K5 : Int32 → Int32 → Mem → Prop} {l1 : Int32} {l2 : Int32} {l4 : Int32} (k5 : ∀ (u3 : Int32) (u4 : Int32) (M : Mem), K5 u3 u4 M → G ω ρ M 5 [(0, .ref (adr ω 128)), (1, .int l1), (2, .int l2), (3, .int u3), (4, .int u4)] []) {M : Mem} (h : w_X10_isLostBy_J63 post K5 l1 l2 l4 M) : G ω ρ M 63 [(0, .ref (adr ω 128)), (1, .int l1), (2, .int l2), (4, .int l4)] [] := by
  refine G_iconst (v := 0) C dX10_isLostBy_63 (by decide) ?_
  exact s_X10_isLostBy_J64 C R k5 h
set_option maxRecDepth 100000 in
set_option maxHeartbeats 4000000 in
theorem s_X10_isLostBy_L5 {ω : WD} {ρ : FR} {post : Int32 → Mem → Prop} (C : Cx ω ρ cX10_isLostBy RX10 0 5) (R : RtI ω ρ cX10_isLostBy .boolean post) {l1 : Int32} {l2 : Int32} : ∀ (f : Nat) (l3 : Int32) (l4 : Int32) (M : Mem), w_X10_isLostBy_L5 post l1 l2 f l3 l4 M → G ω ρ M 5 [(0, .ref (adr ω 128)), (1, .int l1), (2, .int l2), (3, .int l3), (4, .int l4)] [] := by
  intro f
  induction f with
  | zero => intro l3 l4 M h; exact False.elim h
  | succ f k5 =>
    intro l3 l4 M h
    refine G_iload C dX10_isLostBy_5 4 rfl ?_
    refine G_aload_n C dX10_isLostBy_7 0 rfl ?_
    refine gf_X10_13 C dX10_isLostBy_8 ?_
    refine G_bipush (v := 66) C dX10_isLostBy_11 (by decide) ?_
    refine G_iald C q130 (vp_lit rfl) (kk := 66) (by decide +kernel) dX10_isLostBy_13 ?_
    obtain ⟨h1, h2⟩ := h
    refine G_icmp_ge (tgt := 71) C dX10_isLostBy_14 (by decide) (fun c => ?_) (fun c => ?_)
    · have h := h1 c
      clear h1 h2
      refine G_iload_n C dX10_isLostBy_71 3 rfl ?_
      exact R 72 _ _ _ dX10_isLostBy_72 h.1.1 h.2
    · have h := h2 c
      clear h1 h2
      refine G_iload_n C dX10_isLostBy_17 3 rfl ?_
      obtain ⟨h1, h2⟩ := h
      refine G_if_ne (tgt := 59) C dX10_isLostBy_18 (by decide) (fun c => ?_) (fun c => ?_)
      · have h := h1 c
        clear h1 h2
        refine G_sub [0, 1, 2, 4] (lv' := [(0, .ref (adr ω 128)), (1, .int l1), (2, .int l2), (4, .int l4)]) rfl ?_
        exact s_X10_isLostBy_J59 C R k5 h
      · have h := h2 c
        clear h1 h2
        refine G_aload_n C dX10_isLostBy_21 0 rfl ?_
        refine gf_X10_26 C dX10_isLostBy_22 ?_
        refine G_iload C dX10_isLostBy_25 4 rfl ?_
        obtain ⟨hi, h⟩ := h
        refine G_iald C q134 hi rfl dX10_isLostBy_27 ?_
        refine G_iload_n C dX10_isLostBy_28 1 rfl ?_
        obtain ⟨h1, h2⟩ := h
        refine G_icmp_ne (tgt := 63) C dX10_isLostBy_29 (by decide) (fun c => ?_) (fun c => ?_)
        · have h := h1 c
          clear h1 h2
          refine G_sub [0, 1, 2, 4] (lv' := [(0, .ref (adr ω 128)), (1, .int l1), (2, .int l2), (4, .int l4)]) rfl ?_
          exact s_X10_isLostBy_J63 C R k5 h
        · have h := h2 c
          clear h1 h2
          refine G_iload_n C dX10_isLostBy_32 2 rfl ?_
          refine G_bipush (v := (-4)) C dX10_isLostBy_33 (by decide) ?_
          obtain ⟨h1, h2⟩ := h
          refine G_icmp_eq (tgt := 59) C dX10_isLostBy_35 (by decide) (fun c => ?_) (fun c => ?_)
          · have h := h1 c
            clear h1 h2
            refine G_sub [0, 1, 2, 4] (lv' := [(0, .ref (adr ω 128)), (1, .int l1), (2, .int l2), (4, .int l4)]) rfl ?_
            exact s_X10_isLostBy_J59 C R k5 h
          · have h := h2 c
            clear h1 h2
            refine G_aload_n C dX10_isLostBy_38 0 rfl ?_
            refine gf_X10_13 C dX10_isLostBy_39 ?_
            refine G_bipush (v := 67) C dX10_isLostBy_42 (by decide) ?_
            refine G_iconst (v := 2) C dX10_isLostBy_44 (by decide) ?_
            refine G_iload C dX10_isLostBy_45 4 rfl ?_
            refine G_imul C dX10_isLostBy_47 ?_
            refine G_iadd C dX10_isLostBy_48 ?_
            refine G_iconst (v := 1) C dX10_isLostBy_49 (by decide) ?_
            refine G_iadd C dX10_isLostBy_50 ?_
            obtain ⟨hi, h⟩ := h
            refine G_iald C q130 hi rfl dX10_isLostBy_51 ?_
            refine G_bipush (v := 10) C dX10_isLostBy_52 (by decide) ?_
            refine G_idiv C dX10_isLostBy_54 (by decide) ?_
            refine G_iload_n C dX10_isLostBy_55 2 rfl ?_
            obtain ⟨h1, h2⟩ := h
            refine G_icmp_ne (tgt := 63) C dX10_isLostBy_56 (by decide) (fun c => ?_) (fun c => ?_)
            · have h := h1 c
              clear h1 h2
              refine G_sub [0, 1, 2, 4] (lv' := [(0, .ref (adr ω 128)), (1, .int l1), (2, .int l2), (4, .int l4)]) rfl ?_
              exact s_X10_isLostBy_J63 C R k5 h
            · have h := h2 c
              clear h1 h2
              refine G_sub [0, 1, 2, 4] (lv' := [(0, .ref (adr ω 128)), (1, .int l1), (2, .int l2), (4, .int l4)]) rfl ?_
              exact s_X10_isLostBy_J59 C R k5 h
set_option maxRecDepth 100000 in
set_option maxHeartbeats 4000000 in
theorem S_X10_isLostBy {ω : WD} {l1 : Int32} {l2 : Int32} {M : Mem} {post : Int32 → Mem → Prop} (h : w_X10_isLostBy l1 l2 M post) : MtI ω yX10_isLostBy cX10_isLostBy 5 (some .boolean) 0 [.ref (adr ω 128), .int l1, .int l2] M post := by
  refine MtI.start (ty := .boolean) rfl (by decide +kernel) (own := RX10) rfl (Nat.le_of_ble_eq_true rfl) (fun ρ C R => ?_)
  show G ω ρ M 0 [(0, .ref (adr ω 128)), (1, .int l1), (2, .int l2)] []
  refine G_iconst (v := 0) C dX10_isLostBy_0 (by decide) ?_
  refine G_istore_n C dX10_isLostBy_1 (by decide) (lv' := [(3, .int 0), (0, .ref (adr ω 128)), (1, .int l1), (2, .int l2)]) rfl ?_
  refine G_iconst (v := 0) C dX10_isLostBy_2 (by decide) ?_
  refine G_istore C dX10_isLostBy_3 (by decide) (lv' := [(4, .int 0), (3, .int 0), (0, .ref (adr ω 128)), (1, .int l1), (2, .int l2)]) rfl ?_
  refine G_sub [2, 3, 4, 1, 0] (lv' := [(0, .ref (adr ω 128)), (1, .int l1), (2, .int l2), (3, .int 0), (4, .int 0)]) rfl ?_
  obtain ⟨f, h⟩ := h
  exact s_X10_isLostBy_L5 C R  f _ _ _ h
theorem dX10_need_0 : decode cX10_need 0 = .ok (.iload_n 1, 1) := by decide +kernel
theorem dX10_need_1 : decode cX10_need 1 = .ok (.invokestatic 220, 3) := by decide +kernel
theorem dX10_need_4 : decode cX10_need 4 = .ok (.ifCond .ne 5, 3) := by decide +kernel
theorem dX10_need_7 : decode cX10_need 7 = .ok (.iconst (-1), 1) := by decide +kernel
theorem dX10_need_8 : decode cX10_need 8 = .ok (.ireturn, 1) := by decide +kernel
theorem dX10_need_9 : decode cX10_need 9 = .ok (.iconst 0, 1) := by decide +kernel
theorem dX10_need_10 : decode cX10_need 10 = .ok (.istore_n 2, 1) := by decide +kernel
theorem dX10_need_11 : decode cX10_need 11 = .ok (.iload_n 2, 1) := by decide +kernel
theorem dX10_need_12 : decode cX10_need 12 = .ok (.iconst 4, 1) := by decide +kernel
theorem dX10_need_13 : decode cX10_need 13 = .ok (.if_icmp .gt 45, 3) := by decide +kernel
theorem dX10_need_16 : decode cX10_need 16 = .ok (.aload_n 0, 1) := by decide +kernel
theorem dX10_need_17 : decode cX10_need 17 = .ok (.invokevirtual 209, 3) := by decide +kernel
theorem dX10_need_20 : decode cX10_need 20 = .ok (.aload_n 0, 1) := by decide +kernel
theorem dX10_need_21 : decode cX10_need 21 = .ok (.iload_n 1, 1) := by decide +kernel
theorem dX10_need_22 : decode cX10_need 22 = .ok (.invokevirtual 167, 3) := by decide +kernel
theorem dX10_need_25 : decode cX10_need 25 = .ok (.iload_n 2, 1) := by decide +kernel
theorem dX10_need_26 : decode cX10_need 26 = .ok (.ishr, 1) := by decide +kernel
theorem dX10_need_27 : decode cX10_need 27 = .ok (.ifCond .ne 25, 3) := by decide +kernel
theorem dX10_need_30 : decode cX10_need 30 = .ok (.aload_n 0, 1) := by decide +kernel
theorem dX10_need_31 : decode cX10_need 31 = .ok (.iload_n 1, 1) := by decide +kernel
theorem dX10_need_32 : decode cX10_need 32 = .ok (.iload_n 2, 1) := by decide +kernel
theorem dX10_need_33 : decode cX10_need 33 = .ok (.invokevirtual 234, 3) := by decide +kernel
theorem dX10_need_36 : decode cX10_need 36 = .ok (.aload_n 0, 1) := by decide +kernel
theorem dX10_need_37 : decode cX10_need 37 = .ok (.iconst 0, 1) := by decide +kernel
theorem dX10_need_38 : decode cX10_need 38 = .ok (.invokevirtual 241, 3) := by decide +kernel
theorem dX10_need_41 : decode cX10_need 41 = .ok (.aload_n 0, 1) := by decide +kernel
theorem dX10_need_42 : decode cX10_need 42 = .ok (.iconst 2, 1) := by decide +kernel
theorem dX10_need_43 : decode cX10_need 43 = .ok (.iload_n 1, 1) := by decide +kernel
theorem dX10_need_44 : decode cX10_need 44 = .ok (.invokevirtual 247, 3) := by decide +kernel
theorem dX10_need_47 : decode cX10_need 47 = .ok (.ifCond .ne 5, 3) := by decide +kernel
theorem dX10_need_50 : decode cX10_need 50 = .ok (.iload_n 2, 1) := by decide +kernel
theorem dX10_need_51 : decode cX10_need 51 = .ok (.ireturn, 1) := by decide +kernel
theorem dX10_need_52 : decode cX10_need 52 = .ok (.iinc 2 1, 3) := by decide +kernel
theorem dX10_need_55 : decode cX10_need 55 = .ok (.goto (-44), 3) := by decide +kernel
theorem dX10_need_58 : decode cX10_need 58 = .ok (.bipush (-4), 2) := by decide +kernel
theorem dX10_need_60 : decode cX10_need 60 = .ok (.ireturn, 1) := by decide +kernel
theorem lk_X10_247 : LkV RX10 247 RX10 yX10_isLostBy cX10_isLostBy 5 (some .boolean) 2 := LkV.of 1328 1330 52 71 1331 (by decide +kernel) (by decide +kernel) (by decide +kernel) (by decide +kernel) (by decide +kernel) (by decide +kernel)
set_option maxRecDepth 100000 in
set_option maxHeartbeats 4000000 in
theorem s_X10_need_J52 {ω : WD} {ρ : FR} {post : Int32 → Mem → Prop} (C : Cx ω ρ cX10_need RX10 6 3) (R : RtI ω ρ cX10_need .int post) {K11 : Int32 → Mem → Prop} {l1 : Int32} {l2 : Int32} (k11 : ∀ (u2 : Int32) (M : Mem), K11 u2 M → G ω ρ M 11 [(0, .ref (adr ω 128)), (1, .int l1), (2, .int u2)] []) {M : Mem} (h : w_X10_need_J52 post K11 l1 l2 M) : G ω ρ M 52 [(0, .ref (adr ω 128)), (1, .int l1), (2, .int l2)] [] := by
  obtain ⟨v1, ev1⟩ : ∃ y : Int32, y = (l2 + 1) := ⟨_, rfl⟩
  replace h := h v1 ev1
  refine G_iinc C dX10_need_52 2 rfl (v := v1) (by rw [ev1]; rfl) (by decide) (lv' := [(2, .int v1), (0, .ref (adr ω 128)), (1, .int l1)]) rfl ?_
  refine G_goto (tgt := 11) C dX10_need_55 (by decide) ?_
  refine G_sub [1, 2, 0] (lv' := [(0, .ref (adr ω 128)), (1, .int l1), (2, .int v1)]) rfl ?_
  exact k11 _ _ h
set_option maxRecDepth 100000 in
set_option maxHeartbeats 4000000 in
theorem s_X10_need_L11 {ω : WD} {ρ : FR} {post : Int32 → Mem → Prop} (C : Cx ω ρ cX10_need RX10 6 3) (R : RtI ω ρ cX10_need .int post) {l1 : Int32} : ∀ (f : Nat) (l2 : Int32) (M : Mem), w_X10_need_L11 post l1 f l2 M → G ω ρ M 11 [(0, .ref (adr ω 128)), (1, .int l1), (2, .int l2)] [] := by
  intro f
  induction f with
  | zero => intro l2 M h; exact False.elim h
  | succ f k11 =>
    intro l2 M h
    refine G_iload_n C dX10_need_11 2 rfl ?_
    refine G_iconst (v := 4) C dX10_need_12 (by decide) ?_
    obtain ⟨h1, h2⟩ := h
    refine G_icmp_gt (tgt := 58) C dX10_need_13 (by decide) (fun c => ?_) (fun c => ?_)
    · have h := h1 c
      clear h1 h2
      refine G_bipush (v := (-4)) C dX10_need_58 (by decide) ?_
      exact R 60 _ _ _ dX10_need_60 rfl h
    · have h := h2 c
      clear h1 h2
      refine G_aload_n C dX10_need_16 0 rfl ?_
      refine G_callV (As := []) (rest := []) C dX10_need_17 lk_X10_209 (Nat.le_of_ble_eq_true rfl) (Nat.le_of_ble_eq_true rfl) q128 (by decide) rfl (Nat.le_of_ble_eq_true rfl) rfl (S_X10_starts h) (fun M2 h => ?_)
      refine G_aload_n C dX10_need_20 0 rfl ?_
      refine G_iload_n C dX10_need_21 1 rfl ?_
      refine G_callI (As := [.int l1]) (rest := []) C dX10_need_22 lk_X10_167 (Nat.le_of_ble_eq_true rfl) (Nat.le_of_ble_eq_true rfl) q128 (by decide) rfl (Nat.le_of_ble_eq_true rfl) rfl (S_X10_held h) (fun r4 M3 h => ?_)
      refine G_iload_n C dX10_need_25 2 rfl ?_
      refine G_ishr C dX10_need_26 ?_
      obtain ⟨h1, h2⟩ := h
      refine G_if_ne (tgt := 52) C dX10_need_27 (by decide) (fun c => ?_) (fun c => ?_)
      · have h := h1 c
        clear h1 h2
        exact s_X10_need_J52 C R k11 h
      · have h := h2 c
        clear h1 h2
        refine G_aload_n C dX10_need_30 0 rfl ?_
        refine G_iload_n C dX10_need_31 1 rfl ?_
        refine G_iload_n C dX10_need_32 2 rfl ?_
        refine G_callV (As := [.int l1, .int l2]) (rest := []) C dX10_need_33 lk_X10_234 (Nat.le_of_ble_eq_true rfl) (Nat.le_of_ble_eq_true rfl) q128 (by decide) rfl (Nat.le_of_ble_eq_true rfl) rfl (S_X10_hasWays h) (fun M5 h => ?_)
        refine G_aload_n C dX10_need_36 0 rfl ?_
        refine G_iconst (v := 0) C dX10_need_37 (by decide) ?_
        refine G_callV (As := [.int 0]) (rest := []) C dX10_need_38 lk_X10_241 (Nat.le_of_ble_eq_true rfl) (Nat.le_of_ble_eq_true rfl) q128 (by decide) rfl (Nat.le_of_ble_eq_true rfl) rfl (S_X10_planGoes h) (fun M6 h => ?_)
        refine G_aload_n C dX10_need_41 0 rfl ?_
        refine G_iconst (v := 2) C dX10_need_42 (by decide) ?_
        refine G_iload_n C dX10_need_43 1 rfl ?_
        refine G_callI (As := [.int 2, .int l1]) (rest := []) C dX10_need_44 lk_X10_247 (Nat.le_of_ble_eq_true rfl) (Nat.le_of_ble_eq_true rfl) q128 (by decide) rfl (Nat.le_of_ble_eq_true rfl) rfl (S_X10_isLostBy h) (fun r8 M7 h => ?_)
        obtain ⟨h1, h2⟩ := h
        refine G_if_ne (tgt := 52) C dX10_need_47 (by decide) (fun c => ?_) (fun c => ?_)
        · have h := h1 c
          clear h1 h2
          exact s_X10_need_J52 C R k11 h
        · have h := h2 c
          clear h1 h2
          refine G_iload_n C dX10_need_50 2 rfl ?_
          exact R 51 _ _ _ dX10_need_51 rfl h
set_option maxRecDepth 100000 in
set_option maxHeartbeats 4000000 in
theorem S_X10_need {ω : WD} {l1 : Int32} {M : Mem} {post : Int32 → Mem → Prop} (h : w_X10_need l1 M post) : MtI ω yX10_need cX10_need 3 (some .int) 6 [.ref (adr ω 128), .int l1] M post := by
  refine MtI.start (ty := .int) rfl (by decide +kernel) (own := RX10) rfl (Nat.le_of_ble_eq_true rfl) (fun ρ C R => ?_)
  show G ω ρ M 0 [(0, .ref (adr ω 128)), (1, .int l1)] []
  refine G_iload_n C dX10_need_0 1 rfl ?_
  refine G_scallI (As := [.int l1]) (rest := []) C dX10_need_1 lk_X10_220 (Nat.le_of_ble_eq_true rfl) (Nat.le_of_ble_eq_true rfl) (Nat.le_of_ble_eq_true rfl) rfl (S_X10_isGroup h) (fun r10 M9 h => ?_)
  obtain ⟨h1, h2⟩ := h
  refine G_if_ne (tgt := 9) C dX10_need_4 (by decide) (fun c => ?_) (fun c => ?_)
  · have h := h1 c
    clear h1 h2
    refine G_iconst (v := 0) C dX10_need_9 (by decide) ?_
    refine G_istore_n C dX10_need_10 (by decide) (lv' := [(2, .int 0), (0, .ref (adr ω 128)), (1, .int l1)]) rfl ?_
    refine G_sub [1, 2, 0] (lv' := [(0, .ref (adr ω 128)), (1, .int l1), (2, .int 0)]) rfl ?_
    obtain ⟨f, h⟩ := h
    exact s_X10_need_L11 C R  f _ _ h
  · have h := h2 c
    clear h1 h2
    refine G_iconst (v := (-1)) C dX10_need_7 (by decide) ?_
    exact R 8 _ _ _ dX10_need_8 rfl h
theorem dX10_few_0 : decode cX10_few 0 = .ok (.iconst 1, 1) := by decide +kernel
theorem dX10_few_1 : decode cX10_few 1 = .ok (.istore_n 1, 1) := by decide +kernel
theorem dX10_few_2 : decode cX10_few 2 = .ok (.iload_n 1, 1) := by decide +kernel
theorem dX10_few_3 : decode cX10_few 3 = .ok (.bipush 6, 2) := by decide +kernel
theorem dX10_few_5 : decode cX10_few 5 = .ok (.if_icmp .gt 46, 3) := by decide +kernel
theorem dX10_few_8 : decode cX10_few 8 = .ok (.aload_n 0, 1) := by decide +kernel
theorem dX10_few_9 : decode cX10_few 9 = .ok (.invokevirtual 209, 3) := by decide +kernel
theorem dX10_few_12 : decode cX10_few 12 = .ok (.aload_n 0, 1) := by decide +kernel
theorem dX10_few_13 : decode cX10_few 13 = .ok (.invokevirtual 177, 3) := by decide +kernel
theorem dX10_few_16 : decode cX10_few 16 = .ok (.iload_n 1, 1) := by decide +kernel
theorem dX10_few_17 : decode cX10_few 17 = .ok (.if_icmp .gt 28, 3) := by decide +kernel
theorem dX10_few_20 : decode cX10_few 20 = .ok (.aload_n 0, 1) := by decide +kernel
theorem dX10_few_21 : decode cX10_few 21 = .ok (.getfield 13, 3) := by decide +kernel
theorem dX10_few_24 : decode cX10_few 24 = .ok (.bipush 25, 2) := by decide +kernel
theorem dX10_few_26 : decode cX10_few 26 = .ok (.iload_n 1, 1) := by decide +kernel
theorem dX10_few_27 : decode cX10_few 27 = .ok (.iastore, 1) := by decide +kernel
theorem dX10_few_28 : decode cX10_few 28 = .ok (.aload_n 0, 1) := by decide +kernel
theorem dX10_few_29 : decode cX10_few 29 = .ok (.iconst 0, 1) := by decide +kernel
theorem dX10_few_30 : decode cX10_few 30 = .ok (.invokevirtual 241, 3) := by decide +kernel
theorem dX10_few_33 : decode cX10_few 33 = .ok (.aload_n 0, 1) := by decide +kernel
theorem dX10_few_34 : decode cX10_few 34 = .ok (.iconst 1, 1) := by decide +kernel
theorem dX10_few_35 : decode cX10_few 35 = .ok (.bipush (-4), 2) := by decide +kernel
theorem dX10_few_37 : decode cX10_few 37 = .ok (.invokevirtual 247, 3) := by decide +kernel
theorem dX10_few_40 : decode cX10_few 40 = .ok (.ifCond .ne 5, 3) := by decide +kernel
theorem dX10_few_43 : decode cX10_few 43 = .ok (.iload_n 1, 1) := by decide +kernel
theorem dX10_few_44 : decode cX10_few 44 = .ok (.ireturn, 1) := by decide +kernel
theorem dX10_few_45 : decode cX10_few 45 = .ok (.iinc 1 1, 3) := by decide +kernel
theorem dX10_few_48 : decode cX10_few 48 = .ok (.goto (-46), 3) := by decide +kernel
theorem dX10_few_51 : decode cX10_few 51 = .ok (.bipush (-4), 2) := by decide +kernel
theorem dX10_few_53 : decode cX10_few 53 = .ok (.ireturn, 1) := by decide +kernel
set_option maxRecDepth 100000 in
set_option maxHeartbeats 4000000 in
theorem s_X10_few_J45 {ω : WD} {ρ : FR} {post : Int32 → Mem → Prop} (C : Cx ω ρ cX10_few RX10 6 2) (R : RtI ω ρ cX10_few .int post) {K2 : Int32 → Mem → Prop} {l1 : Int32} (k2 : ∀ (u1 : Int32) (M : Mem), K2 u1 M → G ω ρ M 2 [(0, .ref (adr ω 128)), (1, .int u1)] []) {M : Mem} (h : w_X10_few_J45 post K2 l1 M) : G ω ρ M 45 [(0, .ref (adr ω 128)), (1, .int l1)] [] := by
  obtain ⟨v1, ev1⟩ : ∃ y : Int32, y = (l1 + 1) := ⟨_, rfl⟩
  replace h := h v1 ev1
  refine G_iinc C dX10_few_45 1 rfl (v := v1) (by rw [ev1]; rfl) (by decide) (lv' := [(1, .int v1), (0, .ref (adr ω 128))]) rfl ?_
  refine G_goto (tgt := 2) C dX10_few_48 (by decide) ?_
  refine G_sub [1, 0] (lv' := [(0, .ref (adr ω 128)), (1, .int v1)]) rfl ?_
  exact k2 _ _ h
set_option maxRecDepth 100000 in
set_option maxHeartbeats 4000000 in
theorem s_X10_few_L2 {ω : WD} {ρ : FR} {post : Int32 → Mem → Prop} (C : Cx ω ρ cX10_few RX10 6 2) (R : RtI ω ρ cX10_few .int post) : ∀ (f : Nat) (l1 : Int32) (M : Mem), w_X10_few_L2 post f l1 M → G ω ρ M 2 [(0, .ref (adr ω 128)), (1, .int l1)] [] := by
  intro f
  induction f with
  | zero => intro l1 M h; exact False.elim h
  | succ f k2 =>
    intro l1 M h
    refine G_iload_n C dX10_few_2 1 rfl ?_
    refine G_bipush (v := 6) C dX10_few_3 (by decide) ?_
    obtain ⟨h1, h2⟩ := h
    refine G_icmp_gt (tgt := 51) C dX10_few_5 (by decide) (fun c => ?_) (fun c => ?_)
    · have h := h1 c
      clear h1 h2
      refine G_bipush (v := (-4)) C dX10_few_51 (by decide) ?_
      exact R 53 _ _ _ dX10_few_53 rfl h
    · have h := h2 c
      clear h1 h2
      refine G_aload_n C dX10_few_8 0 rfl ?_
      refine G_callV (As := []) (rest := []) C dX10_few_9 lk_X10_209 (Nat.le_of_ble_eq_true rfl) (Nat.le_of_ble_eq_true rfl) q128 (by decide) rfl (Nat.le_of_ble_eq_true rfl) rfl (S_X10_starts h) (fun M2 h => ?_)
      refine G_aload_n C dX10_few_12 0 rfl ?_
      refine G_callI (As := []) (rest := []) C dX10_few_13 lk_X10_177 (Nat.le_of_ble_eq_true rfl) (Nat.le_of_ble_eq_true rfl) q128 (by decide) rfl (Nat.le_of_ble_eq_true rfl) rfl (S_X10_callsNow h) (fun r4 M3 h => ?_)
      refine G_iload_n C dX10_few_16 1 rfl ?_
      obtain ⟨h1, h2⟩ := h
      refine G_icmp_gt (tgt := 45) C dX10_few_17 (by decide) (fun c => ?_) (fun c => ?_)
      · have h := h1 c
        clear h1 h2
        exact s_X10_few_J45 C R k2 h
      · have h := h2 c
        clear h1 h2
        refine G_aload_n C dX10_few_20 0 rfl ?_
        refine gf_X10_13 C dX10_few_21 ?_
        refine G_bipush (v := 25) C dX10_few_24 (by decide) ?_
        refine G_iload_n C dX10_few_26 1 rfl ?_
        refine G_iast C q130 (vp_lit rfl) (kk := 25) (by decide +kernel) dX10_few_27 (G_mname (fun M5 eM5 => ?_))
        replace h := h M5 eM5
        refine G_aload_n C dX10_few_28 0 rfl ?_
        refine G_iconst (v := 0) C dX10_few_29 (by decide) ?_
        refine G_callV (As := [.int 0]) (rest := []) C dX10_few_30 lk_X10_241 (Nat.le_of_ble_eq_true rfl) (Nat.le_of_ble_eq_true rfl) q128 (by decide) rfl (Nat.le_of_ble_eq_true rfl) rfl (S_X10_planGoes h) (fun M6 h => ?_)
        refine G_aload_n C dX10_few_33 0 rfl ?_
        refine G_iconst (v := 1) C dX10_few_34 (by decide) ?_
        refine G_bipush (v := (-4)) C dX10_few_35 (by decide) ?_
        refine G_callI (As := [.int 1, .int (-4)]) (rest := []) C dX10_few_37 lk_X10_247 (Nat.le_of_ble_eq_true rfl) (Nat.le_of_ble_eq_true rfl) q128 (by decide) rfl (Nat.le_of_ble_eq_true rfl) rfl (S_X10_isLostBy h) (fun r8 M7 h => ?_)
        obtain ⟨h1, h2⟩ := h
        refine G_if_ne (tgt := 45) C dX10_few_40 (by decide) (fun c => ?_) (fun c => ?_)
        · have h := h1 c
          clear h1 h2
          exact s_X10_few_J45 C R k2 h
        · have h := h2 c
          clear h1 h2
          refine G_iload_n C dX10_few_43 1 rfl ?_
          exact R 44 _ _ _ dX10_few_44 rfl h
set_option maxRecDepth 100000 in
set_option maxHeartbeats 4000000 in
theorem S_X10_few {ω : WD} {M : Mem} {post : Int32 → Mem → Prop} (h : w_X10_few M post) : MtI ω yX10_few cX10_few 2 (some .int) 6 [.ref (adr ω 128)] M post := by
  refine MtI.start (ty := .int) rfl (by decide +kernel) (own := RX10) rfl (Nat.le_of_ble_eq_true rfl) (fun ρ C R => ?_)
  show G ω ρ M 0 [(0, .ref (adr ω 128))] []
  refine G_iconst (v := 1) C dX10_few_0 (by decide) ?_
  refine G_istore_n C dX10_few_1 (by decide) (lv' := [(1, .int 1), (0, .ref (adr ω 128))]) rfl ?_
  refine G_sub [1, 0] (lv' := [(0, .ref (adr ω 128)), (1, .int 1)]) rfl ?_
  obtain ⟨f, h⟩ := h
  exact s_X10_few_L2 C R  f _ _ h
theorem dX10_startsJudging_0 : decode cX10_startsJudging 0 = .ok (.aload_n 0, 1) := by decide +kernel
theorem dX10_startsJudging_1 : decode cX10_startsJudging 1 = .ok (.invokevirtual 209, 3) := by decide +kernel
theorem dX10_startsJudging_4 : decode cX10_startsJudging 4 = .ok (.aload_n 0, 1) := by decide +kernel
theorem dX10_startsJudging_5 : decode cX10_startsJudging 5 = .ok (.iconst 0, 1) := by decide +kernel
theorem dX10_startsJudging_6 : decode cX10_startsJudging 6 = .ok (.invokevirtual 241, 3) := by decide +kernel
theorem dX10_startsJudging_9 : decode cX10_startsJudging 9 = .ok (.aload_n 0, 1) := by decide +kernel
theorem dX10_startsJudging_10 : decode cX10_startsJudging 10 = .ok (.bipush (-4), 2) := by decide +kernel
theorem dX10_startsJudging_12 : decode cX10_startsJudging 12 = .ok (.putfield 250, 3) := by decide +kernel
theorem dX10_startsJudging_15 : decode cX10_startsJudging 15 = .ok (.aload_n 0, 1) := by decide +kernel
theorem dX10_startsJudging_16 : decode cX10_startsJudging 16 = .ok (.aload_n 0, 1) := by decide +kernel
theorem dX10_startsJudging_17 : decode cX10_startsJudging 17 = .ok (.invokevirtual 244, 3) := by decide +kernel
theorem dX10_startsJudging_20 : decode cX10_startsJudging 20 = .ok (.putfield 253, 3) := by decide +kernel
theorem dX10_startsJudging_23 : decode cX10_startsJudging 23 = .ok (.return_, 1) := by decide +kernel
theorem pf_X10_250 {ω : WD} {ρ : FR} {M : Mem} {cc : ByteArray} {d n pc : Nat} {lv : List (Nat × Value)} {rest : List Value} {v : Int32} (C : Cx ω ρ cc RX10 d n) (hd : decode cc pc = .ok (.putfield 250, 3)) (k : ∀ M1, M1 = wr M 128 17 v → G ω ρ M1 (pc + 3) lv rest) : G ω ρ M pc lv (.int v :: .ref (adr ω 128) :: rest) := G_put (N := 28) (T := TX10) (C := RX10) (q := 17) (ty := .int) C (q128 : isK 10 128) (by decide) rfl in_X10 tyX10 tyX10_ok nmX10 (by decide) (tb_of 993 ⟨by decide +kernel, rfl⟩) rfl rfl (by decide +kernel) rfl rfl (fun _ _ => Nat.le_of_ble_eq_true rfl) (fun _ => rfl) hd (k _ rfl)
theorem pf_X10_253 {ω : WD} {ρ : FR} {M : Mem} {cc : ByteArray} {d n pc : Nat} {lv : List (Nat × Value)} {rest : List Value} {v : Int32} (C : Cx ω ρ cc RX10 d n) (hd : decode cc pc = .ok (.putfield 253, 3)) (k : ∀ M1, M1 = wr M 128 18 v → G ω ρ M1 (pc + 3) lv rest) : G ω ρ M pc lv (.int v :: .ref (adr ω 128) :: rest) := G_put (N := 28) (T := TX10) (C := RX10) (q := 18) (ty := .int) C (q128 : isK 10 128) (by decide) rfl in_X10 tyX10 tyX10_ok nmX10 (by decide) (tb_of 994 ⟨by decide +kernel, rfl⟩) rfl rfl (by decide +kernel) rfl rfl (fun _ _ => Nat.le_of_ble_eq_true rfl) (fun _ => rfl) hd (k _ rfl)
set_option maxRecDepth 100000 in
set_option maxHeartbeats 4000000 in
theorem S_X10_startsJudging {ω : WD} {M : Mem} {post : Mem → Prop} (h : w_X10_startsJudging M post) : MtV ω yX10_startsJudging cX10_startsJudging 1 none 6 [.ref (adr ω 128)] M post := by
  refine MtV.start rfl (by decide +kernel) (own := RX10) rfl (Nat.le_of_ble_eq_true rfl) (fun ρ C R => ?_)
  show G ω ρ M 0 [(0, .ref (adr ω 128))] []
  refine G_aload_n C dX10_startsJudging_0 0 rfl ?_
  refine G_callV (As := []) (rest := []) C dX10_startsJudging_1 lk_X10_209 (Nat.le_of_ble_eq_true rfl) (Nat.le_of_ble_eq_true rfl) q128 (by decide) rfl (Nat.le_of_ble_eq_true rfl) rfl (S_X10_starts h) (fun M1 h => ?_)
  refine G_aload_n C dX10_startsJudging_4 0 rfl ?_
  refine G_iconst (v := 0) C dX10_startsJudging_5 (by decide) ?_
  refine G_callV (As := [.int 0]) (rest := []) C dX10_startsJudging_6 lk_X10_241 (Nat.le_of_ble_eq_true rfl) (Nat.le_of_ble_eq_true rfl) q128 (by decide) rfl (Nat.le_of_ble_eq_true rfl) rfl (S_X10_planGoes h) (fun M2 h => ?_)
  refine G_aload_n C dX10_startsJudging_9 0 rfl ?_
  refine G_bipush (v := (-4)) C dX10_startsJudging_10 (by decide) ?_
  refine pf_X10_250 C dX10_startsJudging_12 (fun M3 eM3 => ?_)
  replace h := h M3 eM3
  refine G_aload_n C dX10_startsJudging_15 0 rfl ?_
  refine G_aload_n C dX10_startsJudging_16 0 rfl ?_
  refine G_callI (As := []) (rest := [.ref (adr ω 128)]) C dX10_startsJudging_17 lk_X10_244 (Nat.le_of_ble_eq_true rfl) (Nat.le_of_ble_eq_true rfl) q128 (by decide) rfl (Nat.le_of_ble_eq_true rfl) rfl (S_X10_lostMany h) (fun r5 M4 h => ?_)
  refine pf_X10_253 C dX10_startsJudging_20 (fun M6 eM6 => ?_)
  replace h := h M6 eM6
  exact R 23 _ _ dX10_startsJudging_23 h
theorem dX10_judges_0 : decode cX10_judges 0 = .ok (.aload_n 0, 1) := by decide +kernel
theorem dX10_judges_1 : decode cX10_judges 1 = .ok (.iload_n 2, 1) := by decide +kernel
theorem dX10_judges_2 : decode cX10_judges 2 = .ok (.invokevirtual 241, 3) := by decide +kernel
theorem dX10_judges_5 : decode cX10_judges 5 = .ok (.aload_n 0, 1) := by decide +kernel
theorem dX10_judges_6 : decode cX10_judges 6 = .ok (.invokevirtual 244, 3) := by decide +kernel
theorem dX10_judges_9 : decode cX10_judges 9 = .ok (.istore_n 3, 1) := by decide +kernel
theorem dX10_judges_10 : decode cX10_judges 10 = .ok (.aload_n 0, 1) := by decide +kernel
theorem dX10_judges_11 : decode cX10_judges 11 = .ok (.iload_n 3, 1) := by decide +kernel
theorem dX10_judges_12 : decode cX10_judges 12 = .ok (.aload_n 0, 1) := by decide +kernel
theorem dX10_judges_13 : decode cX10_judges 13 = .ok (.getfield 253, 3) := by decide +kernel
theorem dX10_judges_16 : decode cX10_judges 16 = .ok (.if_icmp .ge 7, 3) := by decide +kernel
theorem dX10_judges_19 : decode cX10_judges 19 = .ok (.iload_n 1, 1) := by decide +kernel
theorem dX10_judges_20 : decode cX10_judges 20 = .ok (.goto 7, 3) := by decide +kernel
theorem dX10_judges_23 : decode cX10_judges 23 = .ok (.aload_n 0, 1) := by decide +kernel
theorem dX10_judges_24 : decode cX10_judges 24 = .ok (.getfield 250, 3) := by decide +kernel
theorem dX10_judges_27 : decode cX10_judges 27 = .ok (.putfield 250, 3) := by decide +kernel
theorem dX10_judges_30 : decode cX10_judges 30 = .ok (.aload_n 0, 1) := by decide +kernel
theorem dX10_judges_31 : decode cX10_judges 31 = .ok (.iload_n 3, 1) := by decide +kernel
theorem dX10_judges_32 : decode cX10_judges 32 = .ok (.aload_n 0, 1) := by decide +kernel
theorem dX10_judges_33 : decode cX10_judges 33 = .ok (.getfield 253, 3) := by decide +kernel
theorem dX10_judges_36 : decode cX10_judges 36 = .ok (.if_icmp .ge 7, 3) := by decide +kernel
theorem dX10_judges_39 : decode cX10_judges 39 = .ok (.iload_n 3, 1) := by decide +kernel
theorem dX10_judges_40 : decode cX10_judges 40 = .ok (.goto 7, 3) := by decide +kernel
theorem dX10_judges_43 : decode cX10_judges 43 = .ok (.aload_n 0, 1) := by decide +kernel
theorem dX10_judges_44 : decode cX10_judges 44 = .ok (.getfield 253, 3) := by decide +kernel
theorem dX10_judges_47 : decode cX10_judges 47 = .ok (.putfield 253, 3) := by decide +kernel
theorem dX10_judges_50 : decode cX10_judges 50 = .ok (.return_, 1) := by decide +kernel
theorem gf_X10_253 {ω : WD} {ρ : FR} {M : Mem} {cc : ByteArray} {d n pc : Nat} {lv : List (Nat × Value)} {rest : List Value} (C : Cx ω ρ cc RX10 d n) (hd : decode cc pc = .ok (.getfield 253, 3)) (k : G ω ρ M (pc + 3) lv (.int (rd M 128 18) :: rest)) : G ω ρ M pc lv (.ref (adr ω 128) :: rest) := G_get (N := 28) (T := TX10) (C := RX10) (q := 18) C (q128 : isK 10 128) (by decide) rfl in_X10 (by decide) (tb_of 994 ⟨by decide +kernel, rfl⟩) rfl rfl hd k
theorem gf_X10_250 {ω : WD} {ρ : FR} {M : Mem} {cc : ByteArray} {d n pc : Nat} {lv : List (Nat × Value)} {rest : List Value} (C : Cx ω ρ cc RX10 d n) (hd : decode cc pc = .ok (.getfield 250, 3)) (k : G ω ρ M (pc + 3) lv (.int (rd M 128 17) :: rest)) : G ω ρ M pc lv (.ref (adr ω 128) :: rest) := G_get (N := 28) (T := TX10) (C := RX10) (q := 17) C (q128 : isK 10 128) (by decide) rfl in_X10 (by decide) (tb_of 993 ⟨by decide +kernel, rfl⟩) rfl rfl hd k
set_option maxRecDepth 100000 in
set_option maxHeartbeats 4000000 in
theorem s_X10_judges_J27 {ω : WD} {ρ : FR} {post : Mem → Prop} (C : Cx ω ρ cX10_judges RX10 6 4) (R : RtV ω ρ cX10_judges post) {l3 : Int32} {s1 : Int32} {M : Mem} (h : w_X10_judges_J27 post l3 s1 M) : G ω ρ M 27 [(0, .ref (adr ω 128)), (3, .int l3)] [.int s1, .ref (adr ω 128)] := by
  refine pf_X10_250 C dX10_judges_27 (fun M1 eM1 => ?_)
  replace h := h M1 eM1
  refine G_aload_n C dX10_judges_30 0 rfl ?_
  refine G_iload_n C dX10_judges_31 1 rfl ?_
  refine G_aload_n C dX10_judges_32 0 rfl ?_
  refine gf_X10_253 C dX10_judges_33 ?_
  obtain ⟨h1, h2⟩ := h
  refine G_icmp_ge (tgt := 43) C dX10_judges_36 (by decide) (fun c => ?_) (fun c => ?_)
  · have h := h1 c
    clear h1 h2
    refine G_aload_n C dX10_judges_43 0 rfl ?_
    refine gf_X10_253 C dX10_judges_44 ?_
    refine pf_X10_253 C dX10_judges_47 (fun M2 eM2 => ?_)
    replace h := h M2 eM2
    exact R 50 _ _ dX10_judges_50 h
  · have h := h2 c
    clear h1 h2
    refine G_iload_n C dX10_judges_39 1 rfl ?_
    refine G_goto (tgt := 47) C dX10_judges_40 (by decide) ?_
    refine pf_X10_253 C dX10_judges_47 (fun M3 eM3 => ?_)
    replace h := h M3 eM3
    exact R 50 _ _ dX10_judges_50 h
set_option maxRecDepth 100000 in
set_option maxHeartbeats 4000000 in
theorem S_X10_judges {ω : WD} {l1 : Int32} {l2 : Int32} {M : Mem} {post : Mem → Prop} (h : w_X10_judges l1 l2 M post) : MtV ω yX10_judges cX10_judges 4 none 6 [.ref (adr ω 128), .int l1, .int l2] M post := by
  refine MtV.start rfl (by decide +kernel) (own := RX10) rfl (Nat.le_of_ble_eq_true rfl) (fun ρ C R => ?_)
  show G ω ρ M 0 [(0, .ref (adr ω 128)), (1, .int l1), (2, .int l2)] []
  refine G_aload_n C dX10_judges_0 0 rfl ?_
  refine G_iload_n C dX10_judges_1 2 rfl ?_
  refine G_callV (As := [.int l2]) (rest := []) C dX10_judges_2 lk_X10_241 (Nat.le_of_ble_eq_true rfl) (Nat.le_of_ble_eq_true rfl) q128 (by decide) rfl (Nat.le_of_ble_eq_true rfl) rfl (S_X10_planGoes h) (fun M4 h => ?_)
  refine G_aload_n C dX10_judges_5 0 rfl ?_
  refine G_callI (As := []) (rest := []) C dX10_judges_6 lk_X10_244 (Nat.le_of_ble_eq_true rfl) (Nat.le_of_ble_eq_true rfl) q128 (by decide) rfl (Nat.le_of_ble_eq_true rfl) rfl (S_X10_lostMany h) (fun r6 M5 h => ?_)
  refine G_istore_n C dX10_judges_9 (by decide) (lv' := [(3, .int r6), (0, .ref (adr ω 128)), (1, .int l1), (2, .int l2)]) rfl ?_
  refine G_aload_n C dX10_judges_10 1 rfl ?_
  refine G_iload_n C dX10_judges_11 0 rfl ?_
  refine G_aload_n C dX10_judges_12 1 rfl ?_
  refine gf_X10_253 C dX10_judges_13 ?_
  obtain ⟨h1, h2⟩ := h
  refine G_icmp_ge (tgt := 23) C dX10_judges_16 (by decide) (fun c => ?_) (fun c => ?_)
  · have h := h1 c
    clear h1 h2
    refine G_aload_n C dX10_judges_23 1 rfl ?_
    refine gf_X10_250 C dX10_judges_24 ?_
    refine G_sub [1, 0] (lv' := [(0, .ref (adr ω 128)), (3, .int r6)]) rfl ?_
    exact s_X10_judges_J27 C R  h
  · have h := h2 c
    clear h1 h2
    refine G_iload_n C dX10_judges_19 2 rfl ?_
    refine G_goto (tgt := 27) C dX10_judges_20 (by decide) ?_
    refine G_sub [1, 0] (lv' := [(0, .ref (adr ω 128)), (3, .int r6)]) rfl ?_
    exact s_X10_judges_J27 C R  h
theorem dX10_judged_0 : decode cX10_judged 0 = .ok (.aload_n 0, 1) := by decide +kernel
theorem dX10_judged_1 : decode cX10_judged 1 = .ok (.getfield 250, 3) := by decide +kernel
theorem dX10_judged_4 : decode cX10_judged 4 = .ok (.bipush (-4), 2) := by decide +kernel
theorem dX10_judged_6 : decode cX10_judged 6 = .ok (.if_icmp .ne 8, 3) := by decide +kernel
theorem dX10_judged_9 : decode cX10_judged 9 = .ok (.bipush (-4), 2) := by decide +kernel
theorem dX10_judged_11 : decode cX10_judged 11 = .ok (.goto 18, 3) := by decide +kernel
theorem dX10_judged_14 : decode cX10_judged 14 = .ok (.iload_n 1, 1) := by decide +kernel
theorem dX10_judged_15 : decode cX10_judged 15 = .ok (.ifCond .ne 10, 3) := by decide +kernel
theorem dX10_judged_18 : decode cX10_judged 18 = .ok (.aload_n 0, 1) := by decide +kernel
theorem dX10_judged_19 : decode cX10_judged 19 = .ok (.getfield 250, 3) := by decide +kernel
theorem dX10_judged_22 : decode cX10_judged 22 = .ok (.goto 7, 3) := by decide +kernel
theorem dX10_judged_25 : decode cX10_judged 25 = .ok (.aload_n 0, 1) := by decide +kernel
theorem dX10_judged_26 : decode cX10_judged 26 = .ok (.getfield 253, 3) := by decide +kernel
theorem dX10_judged_29 : decode cX10_judged 29 = .ok (.ireturn, 1) := by decide +kernel
set_option maxRecDepth 100000 in
set_option maxHeartbeats 4000000 in
theorem S_X10_judged {ω : WD} {l1 : Int32} {M : Mem} {post : Int32 → Mem → Prop} (h : w_X10_judged l1 M post) : MtI ω yX10_judged cX10_judged 2 (some .int) 0 [.ref (adr ω 128), .int l1] M post := by
  refine MtI.start (ty := .int) rfl (by decide +kernel) (own := RX10) rfl (Nat.le_of_ble_eq_true rfl) (fun ρ C R => ?_)
  show G ω ρ M 0 [(0, .ref (adr ω 128)), (1, .int l1)] []
  refine G_aload_n C dX10_judged_0 0 rfl ?_
  refine gf_X10_250 C dX10_judged_1 ?_
  refine G_bipush (v := (-4)) C dX10_judged_4 (by decide) ?_
  obtain ⟨h1, h2⟩ := h
  refine G_icmp_ne (tgt := 14) C dX10_judged_6 (by decide) (fun c => ?_) (fun c => ?_)
  · have h := h1 c
    clear h1 h2
    refine G_iload_n C dX10_judged_14 1 rfl ?_
    obtain ⟨h1, h2⟩ := h
    refine G_if_ne (tgt := 25) C dX10_judged_15 (by decide) (fun c => ?_) (fun c => ?_)
    · have h := h1 c
      clear h1 h2
      refine G_aload_n C dX10_judged_25 0 rfl ?_
      refine gf_X10_253 C dX10_judged_26 ?_
      exact R 29 _ _ _ dX10_judged_29 rfl h
    · have h := h2 c
      clear h1 h2
      refine G_aload_n C dX10_judged_18 0 rfl ?_
      refine gf_X10_250 C dX10_judged_19 ?_
      refine G_goto (tgt := 29) C dX10_judged_22 (by decide) ?_
      exact R 29 _ _ _ dX10_judged_29 rfl h
  · have h := h2 c
    clear h1 h2
    refine G_bipush (v := (-4)) C dX10_judged_9 (by decide) ?_
    refine G_goto (tgt := 29) C dX10_judged_11 (by decide) ?_
    exact R 29 _ _ _ dX10_judged_29 rfl h
theorem dX10_grade_0 : decode cX10_grade 0 = .ok (.iload_n 1, 1) := by decide +kernel
theorem dX10_grade_1 : decode cX10_grade 1 = .ok (.invokestatic 220, 3) := by decide +kernel
theorem dX10_grade_4 : decode cX10_grade 4 = .ok (.ifCond .eq 10, 3) := by decide +kernel
theorem dX10_grade_7 : decode cX10_grade 7 = .ok (.iload_n 2, 1) := by decide +kernel
theorem dX10_grade_8 : decode cX10_grade 8 = .ok (.invokestatic 226, 3) := by decide +kernel
theorem dX10_grade_11 : decode cX10_grade 11 = .ok (.ifCond .ne 5, 3) := by decide +kernel
theorem dX10_grade_14 : decode cX10_grade 14 = .ok (.iconst (-1), 1) := by decide +kernel
theorem dX10_grade_15 : decode cX10_grade 15 = .ok (.ireturn, 1) := by decide +kernel
theorem dX10_grade_16 : decode cX10_grade 16 = .ok (.aload_n 0, 1) := by decide +kernel
theorem dX10_grade_17 : decode cX10_grade 17 = .ok (.invokevirtual 256, 3) := by decide +kernel
theorem dX10_grade_20 : decode cX10_grade 20 = .ok (.aload_n 0, 1) := by decide +kernel
theorem dX10_grade_21 : decode cX10_grade 21 = .ok (.bipush 9, 2) := by decide +kernel
theorem dX10_grade_23 : decode cX10_grade 23 = .ok (.putfield 253, 3) := by decide +kernel
theorem dX10_grade_26 : decode cX10_grade 26 = .ok (.iconst 0, 1) := by decide +kernel
theorem dX10_grade_27 : decode cX10_grade 27 = .ok (.istore_n 3, 1) := by decide +kernel
theorem dX10_grade_28 : decode cX10_grade 28 = .ok (.iload_n 3, 1) := by decide +kernel
theorem dX10_grade_29 : decode cX10_grade 29 = .ok (.iconst 4, 1) := by decide +kernel
theorem dX10_grade_30 : decode cX10_grade 30 = .ok (.if_icmp .ge 26, 3) := by decide +kernel
theorem dX10_grade_33 : decode cX10_grade 33 = .ok (.aload_n 0, 1) := by decide +kernel
theorem dX10_grade_34 : decode cX10_grade 34 = .ok (.invokevirtual 209, 3) := by decide +kernel
theorem dX10_grade_37 : decode cX10_grade 37 = .ok (.aload_n 0, 1) := by decide +kernel
theorem dX10_grade_38 : decode cX10_grade 38 = .ok (.iload_n 1, 1) := by decide +kernel
theorem dX10_grade_39 : decode cX10_grade 39 = .ok (.iconst 0, 1) := by decide +kernel
theorem dX10_grade_40 : decode cX10_grade 40 = .ok (.iload_n 3, 1) := by decide +kernel
theorem dX10_grade_41 : decode cX10_grade 41 = .ok (.invokevirtual 183, 3) := by decide +kernel
theorem dX10_grade_44 : decode cX10_grade 44 = .ok (.aload_n 0, 1) := by decide +kernel
theorem dX10_grade_45 : decode cX10_grade 45 = .ok (.iload_n 3, 1) := by decide +kernel
theorem dX10_grade_46 : decode cX10_grade 46 = .ok (.iconst 0, 1) := by decide +kernel
theorem dX10_grade_47 : decode cX10_grade 47 = .ok (.invokevirtual 259, 3) := by decide +kernel
theorem dX10_grade_50 : decode cX10_grade 50 = .ok (.iinc 3 1, 3) := by decide +kernel
theorem dX10_grade_53 : decode cX10_grade 53 = .ok (.goto (-25), 3) := by decide +kernel
theorem dX10_grade_56 : decode cX10_grade 56 = .ok (.aload_n 0, 1) := by decide +kernel
theorem dX10_grade_57 : decode cX10_grade 57 = .ok (.iload_n 2, 1) := by decide +kernel
theorem dX10_grade_58 : decode cX10_grade 58 = .ok (.invokevirtual 262, 3) := by decide +kernel
theorem dX10_grade_61 : decode cX10_grade 61 = .ok (.ireturn, 1) := by decide +kernel
theorem lk_X10_262 : LkV RX10 262 RX10 yX10_judged cX10_judged 2 (some .int) 1 := LkV.of 1348 1350 55 71 1351 (by decide +kernel) (by decide +kernel) (by decide +kernel) (by decide +kernel) (by decide +kernel) (by decide +kernel)
theorem lk_X10_259 : LkV RX10 259 RX10 yX10_judges cX10_judges 4 none 2 := LkV.of 1344 1346 54 71 1347 (by decide +kernel) (by decide +kernel) (by decide +kernel) (by decide +kernel) (by decide +kernel) (by decide +kernel)
theorem lk_X10_256 : LkV RX10 256 RX10 yX10_startsJudging cX10_startsJudging 1 none 0 := LkV.of 1340 1342 53 71 1343 (by decide +kernel) (by decide +kernel) (by decide +kernel) (by decide +kernel) (by decide +kernel) (by decide +kernel)
set_option maxRecDepth 100000 in
set_option maxHeartbeats 4000000 in
theorem s_X10_grade_L28 {ω : WD} {ρ : FR} {post : Int32 → Mem → Prop} (C : Cx ω ρ cX10_grade RX10 7 4) (R : RtI ω ρ cX10_grade .int post) {l1 : Int32} {l2 : Int32} : ∀ (f : Nat) (l3 : Int32) (M : Mem), w_X10_grade_L28 post l1 l2 f l3 M → G ω ρ M 28 [(0, .ref (adr ω 128)), (1, .int l1), (2, .int l2), (3, .int l3)] [] := by
  intro f
  induction f with
  | zero => intro l3 M h; exact False.elim h
  | succ f k28 =>
    intro l3 M h
    refine G_iload_n C dX10_grade_28 3 rfl ?_
    refine G_iconst (v := 4) C dX10_grade_29 (by decide) ?_
    obtain ⟨h1, h2⟩ := h
    refine G_icmp_ge (tgt := 56) C dX10_grade_30 (by decide) (fun c => ?_) (fun c => ?_)
    · have h := h1 c
      clear h1 h2
      refine G_aload_n C dX10_grade_56 0 rfl ?_
      refine G_iload_n C dX10_grade_57 2 rfl ?_
      refine G_callI (As := [.int l2]) (rest := []) C dX10_grade_58 lk_X10_262 (Nat.le_of_ble_eq_true rfl) (Nat.le_of_ble_eq_true rfl) q128 (by decide) rfl (Nat.le_of_ble_eq_true rfl) rfl (S_X10_judged h) (fun r2 M1 h => ?_)
      exact R 61 _ _ _ dX10_grade_61 rfl h
    · have h := h2 c
      clear h1 h2
      refine G_aload_n C dX10_grade_33 0 rfl ?_
      refine G_callV (As := []) (rest := []) C dX10_grade_34 lk_X10_209 (Nat.le_of_ble_eq_true rfl) (Nat.le_of_ble_eq_true rfl) q128 (by decide) rfl (Nat.le_of_ble_eq_true rfl) rfl (S_X10_starts h) (fun M3 h => ?_)
      refine G_aload_n C dX10_grade_37 0 rfl ?_
      refine G_iload_n C dX10_grade_38 1 rfl ?_
      refine G_iconst (v := 0) C dX10_grade_39 (by decide) ?_
      refine G_iload_n C dX10_grade_40 3 rfl ?_
      refine G_callV (As := [.int l1, .int 0, .int l3]) (rest := []) C dX10_grade_41 lk_X10_183 (Nat.le_of_ble_eq_true rfl) (Nat.le_of_ble_eq_true rfl) q128 (by decide) rfl (Nat.le_of_ble_eq_true rfl) rfl (S_X10_becomesOfGroup h) (fun M4 h => ?_)
      refine G_aload_n C dX10_grade_44 0 rfl ?_
      refine G_iload_n C dX10_grade_45 3 rfl ?_
      refine G_iconst (v := 0) C dX10_grade_46 (by decide) ?_
      refine G_callV (As := [.int l3, .int 0]) (rest := []) C dX10_grade_47 lk_X10_259 (Nat.le_of_ble_eq_true rfl) (Nat.le_of_ble_eq_true rfl) q128 (by decide) rfl (Nat.le_of_ble_eq_true rfl) rfl (S_X10_judges h) (fun M5 h => ?_)
      obtain ⟨v6, ev6⟩ : ∃ y : Int32, y = (l3 + 1) := ⟨_, rfl⟩
      replace h := h v6 ev6
      refine G_iinc C dX10_grade_50 3 rfl (v := v6) (by rw [ev6]; rfl) (by decide) (lv' := [(3, .int v6), (0, .ref (adr ω 128)), (1, .int l1), (2, .int l2)]) rfl ?_
      refine G_goto (tgt := 28) C dX10_grade_53 (by decide) ?_
      refine G_sub [1, 2, 3, 0] (lv' := [(0, .ref (adr ω 128)), (1, .int l1), (2, .int l2), (3, .int v6)]) rfl ?_
      exact k28 _ _ h
set_option maxRecDepth 100000 in
set_option maxHeartbeats 4000000 in
theorem S_X10_grade {ω : WD} {l1 : Int32} {l2 : Int32} {M : Mem} {post : Int32 → Mem → Prop} (h : w_X10_grade l1 l2 M post) : MtI ω yX10_grade cX10_grade 4 (some .int) 7 [.ref (adr ω 128), .int l1, .int l2] M post := by
  refine MtI.start (ty := .int) rfl (by decide +kernel) (own := RX10) rfl (Nat.le_of_ble_eq_true rfl) (fun ρ C R => ?_)
  show G ω ρ M 0 [(0, .ref (adr ω 128)), (1, .int l1), (2, .int l2)] []
  refine G_iload_n C dX10_grade_0 1 rfl ?_
  refine G_scallI (As := [.int l1]) (rest := []) C dX10_grade_1 lk_X10_220 (Nat.le_of_ble_eq_true rfl) (Nat.le_of_ble_eq_true rfl) (Nat.le_of_ble_eq_true rfl) rfl (S_X10_isGroup h) (fun r8 M7 h => ?_)
  obtain ⟨h1, h2⟩ := h
  refine G_if_eq (tgt := 14) C dX10_grade_4 (by decide) (fun c => ?_) (fun c => ?_)
  · have h := h1 c
    clear h1 h2
    refine G_iconst (v := (-1)) C dX10_grade_14 (by decide) ?_
    exact R 15 _ _ _ dX10_grade_15 rfl h
  · have h := h2 c
    clear h1 h2
    refine G_iload_n C dX10_grade_7 2 rfl ?_
    refine G_scallI (As := [.int l2]) (rest := []) C dX10_grade_8 lk_X10_226 (Nat.le_of_ble_eq_true rfl) (Nat.le_of_ble_eq_true rfl) (Nat.le_of_ble_eq_true rfl) rfl (S_X10_isPart h) (fun r10 M9 h => ?_)
    obtain ⟨h1, h2⟩ := h
    refine G_if_ne (tgt := 16) C dX10_grade_11 (by decide) (fun c => ?_) (fun c => ?_)
    · have h := h1 c
      clear h1 h2
      refine G_aload_n C dX10_grade_16 0 rfl ?_
      refine G_callV (As := []) (rest := []) C dX10_grade_17 lk_X10_256 (Nat.le_of_ble_eq_true rfl) (Nat.le_of_ble_eq_true rfl) q128 (by decide) rfl (Nat.le_of_ble_eq_true rfl) rfl (S_X10_startsJudging h) (fun M11 h => ?_)
      refine G_aload_n C dX10_grade_20 0 rfl ?_
      refine G_bipush (v := 9) C dX10_grade_21 (by decide) ?_
      refine pf_X10_253 C dX10_grade_23 (fun M12 eM12 => ?_)
      replace h := h M12 eM12
      refine G_iconst (v := 0) C dX10_grade_26 (by decide) ?_
      refine G_istore_n C dX10_grade_27 (by decide) (lv' := [(3, .int 0), (0, .ref (adr ω 128)), (1, .int l1), (2, .int l2)]) rfl ?_
      refine G_sub [1, 2, 3, 0] (lv' := [(0, .ref (adr ω 128)), (1, .int l1), (2, .int l2), (3, .int 0)]) rfl ?_
      obtain ⟨f, h⟩ := h
      exact s_X10_grade_L28 C R  f _ _ h
    · have h := h2 c
      clear h1 h2
      refine G_iconst (v := (-1)) C dX10_grade_14 (by decide) ?_
      exact R 15 _ _ _ dX10_grade_15 rfl h
theorem dX10_swap_0 : decode cX10_swap 0 = .ok (.iload_n 1, 1) := by decide +kernel
theorem dX10_swap_1 : decode cX10_swap 1 = .ok (.invokestatic 226, 3) := by decide +kernel
theorem dX10_swap_4 : decode cX10_swap 4 = .ok (.ifCond .ne 5, 3) := by decide +kernel
theorem dX10_swap_7 : decode cX10_swap 7 = .ok (.iconst (-1), 1) := by decide +kernel
theorem dX10_swap_8 : decode cX10_swap 8 = .ok (.ireturn, 1) := by decide +kernel
theorem dX10_swap_9 : decode cX10_swap 9 = .ok (.aload_n 0, 1) := by decide +kernel
theorem dX10_swap_10 : decode cX10_swap 10 = .ok (.invokevirtual 256, 3) := by decide +kernel
theorem dX10_swap_13 : decode cX10_swap 13 = .ok (.iconst 0, 1) := by decide +kernel
theorem dX10_swap_14 : decode cX10_swap 14 = .ok (.istore_n 2, 1) := by decide +kernel
theorem dX10_swap_15 : decode cX10_swap 15 = .ok (.iload_n 2, 1) := by decide +kernel
theorem dX10_swap_16 : decode cX10_swap 16 = .ok (.aload_n 0, 1) := by decide +kernel
theorem dX10_swap_17 : decode cX10_swap 17 = .ok (.getfield 7, 3) := by decide +kernel
theorem dX10_swap_20 : decode cX10_swap 20 = .ok (.bipush 24, 2) := by decide +kernel
theorem dX10_swap_22 : decode cX10_swap 22 = .ok (.iaload, 1) := by decide +kernel
theorem dX10_swap_23 : decode cX10_swap 23 = .ok (.if_icmp .ge 103, 3) := by decide +kernel
theorem dX10_swap_26 : decode cX10_swap 26 = .ok (.iload_n 2, 1) := by decide +kernel
theorem dX10_swap_27 : decode cX10_swap 27 = .ok (.iconst 1, 1) := by decide +kernel
theorem dX10_swap_28 : decode cX10_swap 28 = .ok (.iadd, 1) := by decide +kernel
theorem dX10_swap_29 : decode cX10_swap 29 = .ok (.istore_n 3, 1) := by decide +kernel
theorem dX10_swap_30 : decode cX10_swap 30 = .ok (.iload_n 3, 1) := by decide +kernel
theorem dX10_swap_31 : decode cX10_swap 31 = .ok (.aload_n 0, 1) := by decide +kernel
theorem dX10_swap_32 : decode cX10_swap 32 = .ok (.getfield 7, 3) := by decide +kernel
theorem dX10_swap_35 : decode cX10_swap 35 = .ok (.bipush 24, 2) := by decide +kernel
theorem dX10_swap_37 : decode cX10_swap 37 = .ok (.iaload, 1) := by decide +kernel
theorem dX10_swap_38 : decode cX10_swap 38 = .ok (.if_icmp .ge 82, 3) := by decide +kernel
theorem dX10_swap_41 : decode cX10_swap 41 = .ok (.aload_n 0, 1) := by decide +kernel
theorem dX10_swap_42 : decode cX10_swap 42 = .ok (.getfield 7, 3) := by decide +kernel
theorem dX10_swap_45 : decode cX10_swap 45 = .ok (.iconst 4, 1) := by decide +kernel
theorem dX10_swap_46 : decode cX10_swap 46 = .ok (.iload_n 2, 1) := by decide +kernel
theorem dX10_swap_47 : decode cX10_swap 47 = .ok (.imul, 1) := by decide +kernel
theorem dX10_swap_48 : decode cX10_swap 48 = .ok (.iconst 2, 1) := by decide +kernel
theorem dX10_swap_49 : decode cX10_swap 49 = .ok (.iadd, 1) := by decide +kernel
theorem dX10_swap_50 : decode cX10_swap 50 = .ok (.iaload, 1) := by decide +kernel
theorem dX10_swap_51 : decode cX10_swap 51 = .ok (.ifCond .ne 63, 3) := by decide +kernel
theorem dX10_swap_54 : decode cX10_swap 54 = .ok (.aload_n 0, 1) := by decide +kernel
theorem dX10_swap_55 : decode cX10_swap 55 = .ok (.getfield 7, 3) := by decide +kernel
theorem dX10_swap_58 : decode cX10_swap 58 = .ok (.iconst 4, 1) := by decide +kernel
theorem dX10_swap_59 : decode cX10_swap 59 = .ok (.iload_n 3, 1) := by decide +kernel
theorem dX10_swap_60 : decode cX10_swap 60 = .ok (.imul, 1) := by decide +kernel
theorem dX10_swap_61 : decode cX10_swap 61 = .ok (.iconst 2, 1) := by decide +kernel
theorem dX10_swap_62 : decode cX10_swap 62 = .ok (.iadd, 1) := by decide +kernel
theorem dX10_swap_63 : decode cX10_swap 63 = .ok (.iaload, 1) := by decide +kernel
theorem dX10_swap_64 : decode cX10_swap 64 = .ok (.ifCond .ne 50, 3) := by decide +kernel
theorem dX10_swap_67 : decode cX10_swap 67 = .ok (.aload_n 0, 1) := by decide +kernel
theorem dX10_swap_68 : decode cX10_swap 68 = .ok (.invokevirtual 209, 3) := by decide +kernel
theorem dX10_swap_71 : decode cX10_swap 71 = .ok (.aload_n 0, 1) := by decide +kernel
theorem dX10_swap_72 : decode cX10_swap 72 = .ok (.iload_n 2, 1) := by decide +kernel
theorem dX10_swap_73 : decode cX10_swap 73 = .ok (.iconst 0, 1) := by decide +kernel
theorem dX10_swap_74 : decode cX10_swap 74 = .ok (.aload_n 0, 1) := by decide +kernel
theorem dX10_swap_75 : decode cX10_swap 75 = .ok (.getfield 7, 3) := by decide +kernel
theorem dX10_swap_78 : decode cX10_swap 78 = .ok (.iconst 4, 1) := by decide +kernel
theorem dX10_swap_79 : decode cX10_swap 79 = .ok (.iload_n 3, 1) := by decide +kernel
theorem dX10_swap_80 : decode cX10_swap 80 = .ok (.imul, 1) := by decide +kernel
theorem dX10_swap_81 : decode cX10_swap 81 = .ok (.iconst 0, 1) := by decide +kernel
theorem dX10_swap_82 : decode cX10_swap 82 = .ok (.iadd, 1) := by decide +kernel
theorem dX10_swap_83 : decode cX10_swap 83 = .ok (.iaload, 1) := by decide +kernel
theorem dX10_swap_84 : decode cX10_swap 84 = .ok (.invokevirtual 173, 3) := by decide +kernel
theorem dX10_swap_87 : decode cX10_swap 87 = .ok (.aload_n 0, 1) := by decide +kernel
theorem dX10_swap_88 : decode cX10_swap 88 = .ok (.iload_n 3, 1) := by decide +kernel
theorem dX10_swap_89 : decode cX10_swap 89 = .ok (.iconst 0, 1) := by decide +kernel
theorem dX10_swap_90 : decode cX10_swap 90 = .ok (.aload_n 0, 1) := by decide +kernel
theorem dX10_swap_91 : decode cX10_swap 91 = .ok (.getfield 7, 3) := by decide +kernel
theorem dX10_swap_94 : decode cX10_swap 94 = .ok (.iconst 4, 1) := by decide +kernel
theorem dX10_swap_95 : decode cX10_swap 95 = .ok (.iload_n 2, 1) := by decide +kernel
theorem dX10_swap_96 : decode cX10_swap 96 = .ok (.imul, 1) := by decide +kernel
theorem dX10_swap_97 : decode cX10_swap 97 = .ok (.iconst 0, 1) := by decide +kernel
theorem dX10_swap_98 : decode cX10_swap 98 = .ok (.iadd, 1) := by decide +kernel
theorem dX10_swap_99 : decode cX10_swap 99 = .ok (.iaload, 1) := by decide +kernel
theorem dX10_swap_100 : decode cX10_swap 100 = .ok (.invokevirtual 173, 3) := by decide +kernel
theorem dX10_swap_103 : decode cX10_swap 103 = .ok (.aload_n 0, 1) := by decide +kernel
theorem dX10_swap_104 : decode cX10_swap 104 = .ok (.bipush 10, 2) := by decide +kernel
theorem dX10_swap_106 : decode cX10_swap 106 = .ok (.iload_n 2, 1) := by decide +kernel
theorem dX10_swap_107 : decode cX10_swap 107 = .ok (.imul, 1) := by decide +kernel
theorem dX10_swap_108 : decode cX10_swap 108 = .ok (.iload_n 3, 1) := by decide +kernel
theorem dX10_swap_109 : decode cX10_swap 109 = .ok (.iadd, 1) := by decide +kernel
theorem dX10_swap_110 : decode cX10_swap 110 = .ok (.iconst 0, 1) := by decide +kernel
theorem dX10_swap_111 : decode cX10_swap 111 = .ok (.invokevirtual 259, 3) := by decide +kernel
theorem dX10_swap_114 : decode cX10_swap 114 = .ok (.iinc 3 1, 3) := by decide +kernel
theorem dX10_swap_117 : decode cX10_swap 117 = .ok (.goto (-87), 3) := by decide +kernel
theorem dX10_swap_120 : decode cX10_swap 120 = .ok (.iinc 2 1, 3) := by decide +kernel
theorem dX10_swap_123 : decode cX10_swap 123 = .ok (.goto (-108), 3) := by decide +kernel
theorem dX10_swap_126 : decode cX10_swap 126 = .ok (.aload_n 0, 1) := by decide +kernel
theorem dX10_swap_127 : decode cX10_swap 127 = .ok (.iload_n 1, 1) := by decide +kernel
theorem dX10_swap_128 : decode cX10_swap 128 = .ok (.invokevirtual 262, 3) := by decide +kernel
theorem dX10_swap_131 : decode cX10_swap 131 = .ok (.ireturn, 1) := by decide +kernel
set_option maxRecDepth 100000 in
set_option maxHeartbeats 4000000 in
theorem s_X10_swap_J114 {ω : WD} {ρ : FR} {post : Int32 → Mem → Prop} (C : Cx ω ρ cX10_swap RX10 7 4) (R : RtI ω ρ cX10_swap .int post) {K15 : Int32 → Mem → Prop} {K30 : Int32 → Mem → Prop} {l1 : Int32} {l2 : Int32} {l3 : Int32} (k15 : ∀ (u2 : Int32) (M : Mem), K15 u2 M → G ω ρ M 15 [(0, .ref (adr ω 128)), (1, .int l1), (2, .int u2)] []) (k30 : ∀ (u3 : Int32) (M : Mem), K30 u3 M → G ω ρ M 30 [(0, .ref (adr ω 128)), (1, .int l1), (2, .int l2), (3, .int u3)] []) {M : Mem} (h : w_X10_swap_J114 post K15 K30 l1 l2 l3 M) : G ω ρ M 114 [(0, .ref (adr ω 128)), (1, .int l1), (2, .int l2), (3, .int l3)] [] := by
  obtain ⟨v1, ev1⟩ : ∃ y : Int32, y = (l3 + 1) := ⟨_, rfl⟩
  replace h := h v1 ev1
  refine G_iinc C dX10_swap_114 3 rfl (v := v1) (by rw [ev1]; rfl) (by decide) (lv' := [(3, .int v1), (0, .ref (adr ω 128)), (1, .int l1), (2, .int l2)]) rfl ?_
  refine G_goto (tgt := 30) C dX10_swap_117 (by decide) ?_
  refine G_sub [1, 2, 3, 0] (lv' := [(0, .ref (adr ω 128)), (1, .int l1), (2, .int l2), (3, .int v1)]) rfl ?_
  exact k30 _ _ h
set_option maxRecDepth 100000 in
set_option maxHeartbeats 4000000 in
theorem s_X10_swap_L30 {ω : WD} {ρ : FR} {post : Int32 → Mem → Prop} (C : Cx ω ρ cX10_swap RX10 7 4) (R : RtI ω ρ cX10_swap .int post) {K15 : Int32 → Mem → Prop} {l1 : Int32} {l2 : Int32} (k15 : ∀ (u2 : Int32) (M : Mem), K15 u2 M → G ω ρ M 15 [(0, .ref (adr ω 128)), (1, .int l1), (2, .int u2)] []) : ∀ (f : Nat) (l3 : Int32) (M : Mem), w_X10_swap_L30 post K15 l1 l2 f l3 M → G ω ρ M 30 [(0, .ref (adr ω 128)), (1, .int l1), (2, .int l2), (3, .int l3)] [] := by
  intro f
  induction f with
  | zero => intro l3 M h; exact False.elim h
  | succ f k30 =>
    intro l3 M h
    refine G_iload_n C dX10_swap_30 3 rfl ?_
    refine G_aload_n C dX10_swap_31 0 rfl ?_
    refine gf_X10_7 C dX10_swap_32 ?_
    refine G_bipush (v := 24) C dX10_swap_35 (by decide) ?_
    refine G_iald C q129 (vp_lit rfl) (kk := 24) (by decide +kernel) dX10_swap_37 ?_
    obtain ⟨h1, h2⟩ := h
    refine G_icmp_ge (tgt := 120) C dX10_swap_38 (by decide) (fun c => ?_) (fun c => ?_)
    · have h := h1 c
      clear h1 h2
      obtain ⟨v2, ev2⟩ : ∃ y : Int32, y = (l2 + 1) := ⟨_, rfl⟩
      replace h := h v2 ev2
      refine G_iinc C dX10_swap_120 2 rfl (v := v2) (by rw [ev2]; rfl) (by decide) (lv' := [(2, .int v2), (0, .ref (adr ω 128)), (1, .int l1), (3, .int l3)]) rfl ?_
      refine G_goto (tgt := 15) C dX10_swap_123 (by decide) ?_
      refine G_sub [1, 2, 0] (lv' := [(0, .ref (adr ω 128)), (1, .int l1), (2, .int v2)]) rfl ?_
      exact k15 _ _ h
    · have h := h2 c
      clear h1 h2
      refine G_aload_n C dX10_swap_41 0 rfl ?_
      refine gf_X10_7 C dX10_swap_42 ?_
      refine G_iconst (v := 4) C dX10_swap_45 (by decide) ?_
      refine G_iload_n C dX10_swap_46 2 rfl ?_
      refine G_imul C dX10_swap_47 ?_
      refine G_iconst (v := 2) C dX10_swap_48 (by decide) ?_
      refine G_iadd C dX10_swap_49 ?_
      obtain ⟨hi, h⟩ := h
      refine G_iald C q129 hi rfl dX10_swap_50 ?_
      obtain ⟨h1, h2⟩ := h
      refine G_if_ne (tgt := 114) C dX10_swap_51 (by decide) (fun c => ?_) (fun c => ?_)
      · have h := h1 c
        clear h1 h2
        exact s_X10_swap_J114 C R k15 k30 h
      · have h := h2 c
        clear h1 h2
        refine G_aload_n C dX10_swap_54 0 rfl ?_
        refine gf_X10_7 C dX10_swap_55 ?_
        refine G_iconst (v := 4) C dX10_swap_58 (by decide) ?_
        refine G_iload_n C dX10_swap_59 3 rfl ?_
        refine G_imul C dX10_swap_60 ?_
        refine G_iconst (v := 2) C dX10_swap_61 (by decide) ?_
        refine G_iadd C dX10_swap_62 ?_
        obtain ⟨hi, h⟩ := h
        refine G_iald C q129 hi rfl dX10_swap_63 ?_
        obtain ⟨h1, h2⟩ := h
        refine G_if_ne (tgt := 114) C dX10_swap_64 (by decide) (fun c => ?_) (fun c => ?_)
        · have h := h1 c
          clear h1 h2
          exact s_X10_swap_J114 C R k15 k30 h
        · have h := h2 c
          clear h1 h2
          refine G_aload_n C dX10_swap_67 0 rfl ?_
          refine G_callV (As := []) (rest := []) C dX10_swap_68 lk_X10_209 (Nat.le_of_ble_eq_true rfl) (Nat.le_of_ble_eq_true rfl) q128 (by decide) rfl (Nat.le_of_ble_eq_true rfl) rfl (S_X10_starts h) (fun M3 h => ?_)
          refine G_aload_n C dX10_swap_71 0 rfl ?_
          refine G_iload_n C dX10_swap_72 2 rfl ?_
          refine G_iconst (v := 0) C dX10_swap_73 (by decide) ?_
          refine G_aload_n C dX10_swap_74 0 rfl ?_
          refine gf_X10_7 C dX10_swap_75 ?_
          refine G_iconst (v := 4) C dX10_swap_78 (by decide) ?_
          refine G_iload_n C dX10_swap_79 3 rfl ?_
          refine G_imul C dX10_swap_80 ?_
          refine G_iconst (v := 0) C dX10_swap_81 (by decide) ?_
          refine G_iadd C dX10_swap_82 ?_
          obtain ⟨hi, h⟩ := h
          refine G_iald C q129 hi rfl dX10_swap_83 ?_
          refine G_callV (As := [.int l2, .int 0, .int (rd M3 129 ((4 * l3) + 0).toNatClampNeg)]) (rest := []) C dX10_swap_84 lk_X10_173 (Nat.le_of_ble_eq_true rfl) (Nat.le_of_ble_eq_true rfl) q128 (by decide) rfl (Nat.le_of_ble_eq_true rfl) rfl (S_X10_becomesOf h) (fun M4 h => ?_)
          refine G_aload_n C dX10_swap_87 0 rfl ?_
          refine G_iload_n C dX10_swap_88 3 rfl ?_
          refine G_iconst (v := 0) C dX10_swap_89 (by decide) ?_
          refine G_aload_n C dX10_swap_90 0 rfl ?_
          refine gf_X10_7 C dX10_swap_91 ?_
          refine G_iconst (v := 4) C dX10_swap_94 (by decide) ?_
          refine G_iload_n C dX10_swap_95 2 rfl ?_
          refine G_imul C dX10_swap_96 ?_
          refine G_iconst (v := 0) C dX10_swap_97 (by decide) ?_
          refine G_iadd C dX10_swap_98 ?_
          obtain ⟨hi, h⟩ := h
          refine G_iald C q129 hi rfl dX10_swap_99 ?_
          refine G_callV (As := [.int l3, .int 0, .int (rd M4 129 ((4 * l2) + 0).toNatClampNeg)]) (rest := []) C dX10_swap_100 lk_X10_173 (Nat.le_of_ble_eq_true rfl) (Nat.le_of_ble_eq_true rfl) q128 (by decide) rfl (Nat.le_of_ble_eq_true rfl) rfl (S_X10_becomesOf h) (fun M5 h => ?_)
          refine G_aload_n C dX10_swap_103 0 rfl ?_
          refine G_bipush (v := 10) C dX10_swap_104 (by decide) ?_
          refine G_iload_n C dX10_swap_106 2 rfl ?_
          refine G_imul C dX10_swap_107 ?_
          refine G_iload_n C dX10_swap_108 3 rfl ?_
          refine G_iadd C dX10_swap_109 ?_
          refine G_iconst (v := 0) C dX10_swap_110 (by decide) ?_
          refine G_callV (As := [.int ((10 * l2) + l3), .int 0]) (rest := []) C dX10_swap_111 lk_X10_259 (Nat.le_of_ble_eq_true rfl) (Nat.le_of_ble_eq_true rfl) q128 (by decide) rfl (Nat.le_of_ble_eq_true rfl) rfl (S_X10_judges h) (fun M6 h => ?_)
          exact s_X10_swap_J114 C R k15 k30 h
set_option maxRecDepth 100000 in
set_option maxHeartbeats 4000000 in
theorem s_X10_swap_L15 {ω : WD} {ρ : FR} {post : Int32 → Mem → Prop} (C : Cx ω ρ cX10_swap RX10 7 4) (R : RtI ω ρ cX10_swap .int post) {l1 : Int32} : ∀ (f : Nat) (l2 : Int32) (M : Mem), w_X10_swap_L15 post l1 f l2 M → G ω ρ M 15 [(0, .ref (adr ω 128)), (1, .int l1), (2, .int l2)] [] := by
  intro f
  induction f with
  | zero => intro l2 M h; exact False.elim h
  | succ f k15 =>
    intro l2 M h
    refine G_iload_n C dX10_swap_15 2 rfl ?_
    refine G_aload_n C dX10_swap_16 0 rfl ?_
    refine gf_X10_7 C dX10_swap_17 ?_
    refine G_bipush (v := 24) C dX10_swap_20 (by decide) ?_
    refine G_iald C q129 (vp_lit rfl) (kk := 24) (by decide +kernel) dX10_swap_22 ?_
    obtain ⟨h1, h2⟩ := h
    refine G_icmp_ge (tgt := 126) C dX10_swap_23 (by decide) (fun c => ?_) (fun c => ?_)
    · have h := h1 c
      clear h1 h2
      refine G_aload_n C dX10_swap_126 0 rfl ?_
      refine G_iload_n C dX10_swap_127 1 rfl ?_
      refine G_callI (As := [.int l1]) (rest := []) C dX10_swap_128 lk_X10_262 (Nat.le_of_ble_eq_true rfl) (Nat.le_of_ble_eq_true rfl) q128 (by decide) rfl (Nat.le_of_ble_eq_true rfl) rfl (S_X10_judged h) (fun r8 M7 h => ?_)
      exact R 131 _ _ _ dX10_swap_131 rfl h
    · have h := h2 c
      clear h1 h2
      refine G_iload_n C dX10_swap_26 2 rfl ?_
      refine G_iconst (v := 1) C dX10_swap_27 (by decide) ?_
      refine G_iadd C dX10_swap_28 ?_
      refine G_iname (fun v9 ev9 => ?_)
      replace h := h v9 ev9
      refine G_istore_n C dX10_swap_29 (by decide) (lv' := [(3, .int v9), (0, .ref (adr ω 128)), (1, .int l1), (2, .int l2)]) rfl ?_
      refine G_sub [1, 2, 3, 0] (lv' := [(0, .ref (adr ω 128)), (1, .int l1), (2, .int l2), (3, .int v9)]) rfl ?_
      obtain ⟨f, h⟩ := h
      exact s_X10_swap_L30 C R k15 f _ _ h
set_option maxRecDepth 100000 in
set_option maxHeartbeats 4000000 in
theorem S_X10_swap {ω : WD} {l1 : Int32} {M : Mem} {post : Int32 → Mem → Prop} (h : w_X10_swap l1 M post) : MtI ω yX10_swap cX10_swap 4 (some .int) 7 [.ref (adr ω 128), .int l1] M post := by
  refine MtI.start (ty := .int) rfl (by decide +kernel) (own := RX10) rfl (Nat.le_of_ble_eq_true rfl) (fun ρ C R => ?_)
  show G ω ρ M 0 [(0, .ref (adr ω 128)), (1, .int l1)] []
  refine G_iload_n C dX10_swap_0 1 rfl ?_
  refine G_scallI (As := [.int l1]) (rest := []) C dX10_swap_1 lk_X10_226 (Nat.le_of_ble_eq_true rfl) (Nat.le_of_ble_eq_true rfl) (Nat.le_of_ble_eq_true rfl) rfl (S_X10_isPart h) (fun r11 M10 h => ?_)
  obtain ⟨h1, h2⟩ := h
  refine G_if_ne (tgt := 9) C dX10_swap_4 (by decide) (fun c => ?_) (fun c => ?_)
  · have h := h1 c
    clear h1 h2
    refine G_aload_n C dX10_swap_9 0 rfl ?_
    refine G_callV (As := []) (rest := []) C dX10_swap_10 lk_X10_256 (Nat.le_of_ble_eq_true rfl) (Nat.le_of_ble_eq_true rfl) q128 (by decide) rfl (Nat.le_of_ble_eq_true rfl) rfl (S_X10_startsJudging h) (fun M12 h => ?_)
    refine G_iconst (v := 0) C dX10_swap_13 (by decide) ?_
    refine G_istore_n C dX10_swap_14 (by decide) (lv' := [(2, .int 0), (0, .ref (adr ω 128)), (1, .int l1)]) rfl ?_
    refine G_sub [1, 2, 0] (lv' := [(0, .ref (adr ω 128)), (1, .int l1), (2, .int 0)]) rfl ?_
    obtain ⟨f, h⟩ := h
    exact s_X10_swap_L15 C R  f _ _ h
  · have h := h2 c
    clear h1 h2
    refine G_iconst (v := (-1)) C dX10_swap_7 (by decide) ?_
    exact R 8 _ _ _ dX10_swap_8 rfl h
theorem dX10_leave_0 : decode cX10_leave 0 = .ok (.iload_n 1, 1) := by decide +kernel
theorem dX10_leave_1 : decode cX10_leave 1 = .ok (.invokestatic 226, 3) := by decide +kernel
theorem dX10_leave_4 : decode cX10_leave 4 = .ok (.ifCond .ne 5, 3) := by decide +kernel
theorem dX10_leave_7 : decode cX10_leave 7 = .ok (.iconst (-1), 1) := by decide +kernel
theorem dX10_leave_8 : decode cX10_leave 8 = .ok (.ireturn, 1) := by decide +kernel
theorem dX10_leave_9 : decode cX10_leave 9 = .ok (.aload_n 0, 1) := by decide +kernel
theorem dX10_leave_10 : decode cX10_leave 10 = .ok (.invokevirtual 256, 3) := by decide +kernel
theorem dX10_leave_13 : decode cX10_leave 13 = .ok (.iconst 0, 1) := by decide +kernel
theorem dX10_leave_14 : decode cX10_leave 14 = .ok (.istore_n 2, 1) := by decide +kernel
theorem dX10_leave_15 : decode cX10_leave 15 = .ok (.iload_n 2, 1) := by decide +kernel
theorem dX10_leave_16 : decode cX10_leave 16 = .ok (.aload_n 0, 1) := by decide +kernel
theorem dX10_leave_17 : decode cX10_leave 17 = .ok (.getfield 7, 3) := by decide +kernel
theorem dX10_leave_20 : decode cX10_leave 20 = .ok (.bipush 66, 2) := by decide +kernel
theorem dX10_leave_22 : decode cX10_leave 22 = .ok (.iaload, 1) := by decide +kernel
theorem dX10_leave_23 : decode cX10_leave 23 = .ok (.if_icmp .ge 21, 3) := by decide +kernel
theorem dX10_leave_26 : decode cX10_leave 26 = .ok (.aload_n 0, 1) := by decide +kernel
theorem dX10_leave_27 : decode cX10_leave 27 = .ok (.invokevirtual 209, 3) := by decide +kernel
theorem dX10_leave_30 : decode cX10_leave 30 = .ok (.aload_n 0, 1) := by decide +kernel
theorem dX10_leave_31 : decode cX10_leave 31 = .ok (.iload_n 2, 1) := by decide +kernel
theorem dX10_leave_32 : decode cX10_leave 32 = .ok (.iconst 1, 1) := by decide +kernel
theorem dX10_leave_33 : decode cX10_leave 33 = .ok (.iload_n 2, 1) := by decide +kernel
theorem dX10_leave_34 : decode cX10_leave 34 = .ok (.ishl, 1) := by decide +kernel
theorem dX10_leave_35 : decode cX10_leave 35 = .ok (.invokevirtual 259, 3) := by decide +kernel
theorem dX10_leave_38 : decode cX10_leave 38 = .ok (.iinc 2 1, 3) := by decide +kernel
theorem dX10_leave_41 : decode cX10_leave 41 = .ok (.goto (-26), 3) := by decide +kernel
theorem dX10_leave_44 : decode cX10_leave 44 = .ok (.aload_n 0, 1) := by decide +kernel
theorem dX10_leave_45 : decode cX10_leave 45 = .ok (.iload_n 1, 1) := by decide +kernel
theorem dX10_leave_46 : decode cX10_leave 46 = .ok (.invokevirtual 262, 3) := by decide +kernel
theorem dX10_leave_49 : decode cX10_leave 49 = .ok (.ireturn, 1) := by decide +kernel
set_option maxRecDepth 100000 in
set_option maxHeartbeats 4000000 in
theorem s_X10_leave_L15 {ω : WD} {ρ : FR} {post : Int32 → Mem → Prop} (C : Cx ω ρ cX10_leave RX10 7 3) (R : RtI ω ρ cX10_leave .int post) {l1 : Int32} : ∀ (f : Nat) (l2 : Int32) (M : Mem), w_X10_leave_L15 post l1 f l2 M → G ω ρ M 15 [(0, .ref (adr ω 128)), (1, .int l1), (2, .int l2)] [] := by
  intro f
  induction f with
  | zero => intro l2 M h; exact False.elim h
  | succ f k15 =>
    intro l2 M h
    refine G_iload_n C dX10_leave_15 2 rfl ?_
    refine G_aload_n C dX10_leave_16 0 rfl ?_
    refine gf_X10_7 C dX10_leave_17 ?_
    refine G_bipush (v := 66) C dX10_leave_20 (by decide) ?_
    refine G_iald C q129 (vp_lit rfl) (kk := 66) (by decide +kernel) dX10_leave_22 ?_
    obtain ⟨h1, h2⟩ := h
    refine G_icmp_ge (tgt := 44) C dX10_leave_23 (by decide) (fun c => ?_) (fun c => ?_)
    · have h := h1 c
      clear h1 h2
      refine G_aload_n C dX10_leave_44 0 rfl ?_
      refine G_iload_n C dX10_leave_45 1 rfl ?_
      refine G_callI (As := [.int l1]) (rest := []) C dX10_leave_46 lk_X10_262 (Nat.le_of_ble_eq_true rfl) (Nat.le_of_ble_eq_true rfl) q128 (by decide) rfl (Nat.le_of_ble_eq_true rfl) rfl (S_X10_judged h) (fun r2 M1 h => ?_)
      exact R 49 _ _ _ dX10_leave_49 rfl h
    · have h := h2 c
      clear h1 h2
      refine G_aload_n C dX10_leave_26 0 rfl ?_
      refine G_callV (As := []) (rest := []) C dX10_leave_27 lk_X10_209 (Nat.le_of_ble_eq_true rfl) (Nat.le_of_ble_eq_true rfl) q128 (by decide) rfl (Nat.le_of_ble_eq_true rfl) rfl (S_X10_starts h) (fun M3 h => ?_)
      refine G_aload_n C dX10_leave_30 0 rfl ?_
      refine G_iload_n C dX10_leave_31 2 rfl ?_
      refine G_iconst (v := 1) C dX10_leave_32 (by decide) ?_
      refine G_iload_n C dX10_leave_33 2 rfl ?_
      refine G_ishl C dX10_leave_34 ?_
      refine G_callV (As := [.int l2, .int (ishl 1 l2)]) (rest := []) C dX10_leave_35 lk_X10_259 (Nat.le_of_ble_eq_true rfl) (Nat.le_of_ble_eq_true rfl) q128 (by decide) rfl (Nat.le_of_ble_eq_true rfl) rfl (S_X10_judges h) (fun M4 h => ?_)
      obtain ⟨v5, ev5⟩ : ∃ y : Int32, y = (l2 + 1) := ⟨_, rfl⟩
      replace h := h v5 ev5
      refine G_iinc C dX10_leave_38 2 rfl (v := v5) (by rw [ev5]; rfl) (by decide) (lv' := [(2, .int v5), (0, .ref (adr ω 128)), (1, .int l1)]) rfl ?_
      refine G_goto (tgt := 15) C dX10_leave_41 (by decide) ?_
      refine G_sub [1, 2, 0] (lv' := [(0, .ref (adr ω 128)), (1, .int l1), (2, .int v5)]) rfl ?_
      exact k15 _ _ h
set_option maxRecDepth 100000 in
set_option maxHeartbeats 4000000 in
theorem S_X10_leave {ω : WD} {l1 : Int32} {M : Mem} {post : Int32 → Mem → Prop} (h : w_X10_leave l1 M post) : MtI ω yX10_leave cX10_leave 3 (some .int) 7 [.ref (adr ω 128), .int l1] M post := by
  refine MtI.start (ty := .int) rfl (by decide +kernel) (own := RX10) rfl (Nat.le_of_ble_eq_true rfl) (fun ρ C R => ?_)
  show G ω ρ M 0 [(0, .ref (adr ω 128)), (1, .int l1)] []
  refine G_iload_n C dX10_leave_0 1 rfl ?_
  refine G_scallI (As := [.int l1]) (rest := []) C dX10_leave_1 lk_X10_226 (Nat.le_of_ble_eq_true rfl) (Nat.le_of_ble_eq_true rfl) (Nat.le_of_ble_eq_true rfl) rfl (S_X10_isPart h) (fun r7 M6 h => ?_)
  obtain ⟨h1, h2⟩ := h
  refine G_if_ne (tgt := 9) C dX10_leave_4 (by decide) (fun c => ?_) (fun c => ?_)
  · have h := h1 c
    clear h1 h2
    refine G_aload_n C dX10_leave_9 0 rfl ?_
    refine G_callV (As := []) (rest := []) C dX10_leave_10 lk_X10_256 (Nat.le_of_ble_eq_true rfl) (Nat.le_of_ble_eq_true rfl) q128 (by decide) rfl (Nat.le_of_ble_eq_true rfl) rfl (S_X10_startsJudging h) (fun M8 h => ?_)
    refine G_iconst (v := 0) C dX10_leave_13 (by decide) ?_
    refine G_istore_n C dX10_leave_14 (by decide) (lv' := [(2, .int 0), (0, .ref (adr ω 128)), (1, .int l1)]) rfl ?_
    refine G_sub [1, 2, 0] (lv' := [(0, .ref (adr ω 128)), (1, .int l1), (2, .int 0)]) rfl ?_
    obtain ⟨f, h⟩ := h
    exact s_X10_leave_L15 C R  f _ _ h
  · have h := h2 c
    clear h1 h2
    refine G_iconst (v := (-1)) C dX10_leave_7 (by decide) ?_
    exact R 8 _ _ _ dX10_leave_8 rfl h
theorem dX10_more_0 : decode cX10_more 0 = .ok (.iload_n 1, 1) := by decide +kernel
theorem dX10_more_1 : decode cX10_more 1 = .ok (.invokestatic 226, 3) := by decide +kernel
theorem dX10_more_4 : decode cX10_more 4 = .ok (.ifCond .ne 5, 3) := by decide +kernel
theorem dX10_more_7 : decode cX10_more 7 = .ok (.iconst (-1), 1) := by decide +kernel
theorem dX10_more_8 : decode cX10_more 8 = .ok (.ireturn, 1) := by decide +kernel
theorem dX10_more_9 : decode cX10_more 9 = .ok (.aload_n 0, 1) := by decide +kernel
theorem dX10_more_10 : decode cX10_more 10 = .ok (.invokevirtual 256, 3) := by decide +kernel
theorem dX10_more_13 : decode cX10_more 13 = .ok (.iconst 0, 1) := by decide +kernel
theorem dX10_more_14 : decode cX10_more 14 = .ok (.istore_n 2, 1) := by decide +kernel
theorem dX10_more_15 : decode cX10_more 15 = .ok (.iload_n 2, 1) := by decide +kernel
theorem dX10_more_16 : decode cX10_more 16 = .ok (.iconst 5, 1) := by decide +kernel
theorem dX10_more_17 : decode cX10_more 17 = .ok (.if_icmp .ge 42, 3) := by decide +kernel
theorem dX10_more_20 : decode cX10_more 20 = .ok (.aload_n 0, 1) := by decide +kernel
theorem dX10_more_21 : decode cX10_more 21 = .ok (.invokevirtual 209, 3) := by decide +kernel
theorem dX10_more_24 : decode cX10_more 24 = .ok (.aload_n 0, 1) := by decide +kernel
theorem dX10_more_25 : decode cX10_more 25 = .ok (.iload_n 2, 1) := by decide +kernel
theorem dX10_more_26 : decode cX10_more 26 = .ok (.iconst 1, 1) := by decide +kernel
theorem dX10_more_27 : decode cX10_more 27 = .ok (.invokevirtual 164, 3) := by decide +kernel
theorem dX10_more_30 : decode cX10_more 30 = .ok (.iconst 4, 1) := by decide +kernel
theorem dX10_more_31 : decode cX10_more 31 = .ok (.if_icmp .ge 22, 3) := by decide +kernel
theorem dX10_more_34 : decode cX10_more 34 = .ok (.aload_n 0, 1) := by decide +kernel
theorem dX10_more_35 : decode cX10_more 35 = .ok (.iload_n 2, 1) := by decide +kernel
theorem dX10_more_36 : decode cX10_more 36 = .ok (.aload_n 0, 1) := by decide +kernel
theorem dX10_more_37 : decode cX10_more 37 = .ok (.iload_n 2, 1) := by decide +kernel
theorem dX10_more_38 : decode cX10_more 38 = .ok (.iconst 1, 1) := by decide +kernel
theorem dX10_more_39 : decode cX10_more 39 = .ok (.invokevirtual 164, 3) := by decide +kernel
theorem dX10_more_42 : decode cX10_more 42 = .ok (.iconst 1, 1) := by decide +kernel
theorem dX10_more_43 : decode cX10_more 43 = .ok (.iadd, 1) := by decide +kernel
theorem dX10_more_44 : decode cX10_more 44 = .ok (.invokevirtual 234, 3) := by decide +kernel
theorem dX10_more_47 : decode cX10_more 47 = .ok (.aload_n 0, 1) := by decide +kernel
theorem dX10_more_48 : decode cX10_more 48 = .ok (.iload_n 2, 1) := by decide +kernel
theorem dX10_more_49 : decode cX10_more 49 = .ok (.iconst 0, 1) := by decide +kernel
theorem dX10_more_50 : decode cX10_more 50 = .ok (.invokevirtual 259, 3) := by decide +kernel
theorem dX10_more_53 : decode cX10_more 53 = .ok (.iinc 2 1, 3) := by decide +kernel
theorem dX10_more_56 : decode cX10_more 56 = .ok (.goto (-41), 3) := by decide +kernel
theorem dX10_more_59 : decode cX10_more 59 = .ok (.aload_n 0, 1) := by decide +kernel
theorem dX10_more_60 : decode cX10_more 60 = .ok (.iload_n 1, 1) := by decide +kernel
theorem dX10_more_61 : decode cX10_more 61 = .ok (.invokevirtual 262, 3) := by decide +kernel
theorem dX10_more_64 : decode cX10_more 64 = .ok (.ireturn, 1) := by decide +kernel
set_option maxRecDepth 100000 in
set_option maxHeartbeats 4000000 in
theorem s_X10_more_J53 {ω : WD} {ρ : FR} {post : Int32 → Mem → Prop} (C : Cx ω ρ cX10_more RX10 7 3) (R : RtI ω ρ cX10_more .int post) {K15 : Int32 → Mem → Prop} {l1 : Int32} {l2 : Int32} (k15 : ∀ (u2 : Int32) (M : Mem), K15 u2 M → G ω ρ M 15 [(0, .ref (adr ω 128)), (1, .int l1), (2, .int u2)] []) {M : Mem} (h : w_X10_more_J53 post K15 l1 l2 M) : G ω ρ M 53 [(0, .ref (adr ω 128)), (1, .int l1), (2, .int l2)] [] := by
  obtain ⟨v1, ev1⟩ : ∃ y : Int32, y = (l2 + 1) := ⟨_, rfl⟩
  replace h := h v1 ev1
  refine G_iinc C dX10_more_53 2 rfl (v := v1) (by rw [ev1]; rfl) (by decide) (lv' := [(2, .int v1), (0, .ref (adr ω 128)), (1, .int l1)]) rfl ?_
  refine G_goto (tgt := 15) C dX10_more_56 (by decide) ?_
  refine G_sub [1, 2, 0] (lv' := [(0, .ref (adr ω 128)), (1, .int l1), (2, .int v1)]) rfl ?_
  exact k15 _ _ h
set_option maxRecDepth 100000 in
set_option maxHeartbeats 4000000 in
theorem s_X10_more_L15 {ω : WD} {ρ : FR} {post : Int32 → Mem → Prop} (C : Cx ω ρ cX10_more RX10 7 3) (R : RtI ω ρ cX10_more .int post) {l1 : Int32} : ∀ (f : Nat) (l2 : Int32) (M : Mem), w_X10_more_L15 post l1 f l2 M → G ω ρ M 15 [(0, .ref (adr ω 128)), (1, .int l1), (2, .int l2)] [] := by
  intro f
  induction f with
  | zero => intro l2 M h; exact False.elim h
  | succ f k15 =>
    intro l2 M h
    refine G_iload_n C dX10_more_15 2 rfl ?_
    refine G_iconst (v := 5) C dX10_more_16 (by decide) ?_
    obtain ⟨h1, h2⟩ := h
    refine G_icmp_ge (tgt := 59) C dX10_more_17 (by decide) (fun c => ?_) (fun c => ?_)
    · have h := h1 c
      clear h1 h2
      refine G_aload_n C dX10_more_59 0 rfl ?_
      refine G_iload_n C dX10_more_60 1 rfl ?_
      refine G_callI (As := [.int l1]) (rest := []) C dX10_more_61 lk_X10_262 (Nat.le_of_ble_eq_true rfl) (Nat.le_of_ble_eq_true rfl) q128 (by decide) rfl (Nat.le_of_ble_eq_true rfl) rfl (S_X10_judged h) (fun r3 M2 h => ?_)
      exact R 64 _ _ _ dX10_more_64 rfl h
    · have h := h2 c
      clear h1 h2
      refine G_aload_n C dX10_more_20 0 rfl ?_
      refine G_callV (As := []) (rest := []) C dX10_more_21 lk_X10_209 (Nat.le_of_ble_eq_true rfl) (Nat.le_of_ble_eq_true rfl) q128 (by decide) rfl (Nat.le_of_ble_eq_true rfl) rfl (S_X10_starts h) (fun M4 h => ?_)
      refine G_aload_n C dX10_more_24 0 rfl ?_
      refine G_iload_n C dX10_more_25 2 rfl ?_
      refine G_iconst (v := 1) C dX10_more_26 (by decide) ?_
      refine G_callI (As := [.int l2, .int 1]) (rest := []) C dX10_more_27 lk_X10_164 (Nat.le_of_ble_eq_true rfl) (Nat.le_of_ble_eq_true rfl) q128 (by decide) rfl (Nat.le_of_ble_eq_true rfl) rfl (S_X10_ofGroup h) (fun r6 M5 h => ?_)
      refine G_iconst (v := 4) C dX10_more_30 (by decide) ?_
      obtain ⟨h1, h2⟩ := h
      refine G_icmp_ge (tgt := 53) C dX10_more_31 (by decide) (fun c => ?_) (fun c => ?_)
      · have h := h1 c
        clear h1 h2
        exact s_X10_more_J53 C R k15 h
      · have h := h2 c
        clear h1 h2
        refine G_aload_n C dX10_more_34 0 rfl ?_
        refine G_iload_n C dX10_more_35 2 rfl ?_
        refine G_aload_n C dX10_more_36 0 rfl ?_
        refine G_iload_n C dX10_more_37 2 rfl ?_
        refine G_iconst (v := 1) C dX10_more_38 (by decide) ?_
        refine G_callI (As := [.int l2, .int 1]) (rest := [.int l2, .ref (adr ω 128)]) C dX10_more_39 lk_X10_164 (Nat.le_of_ble_eq_true rfl) (Nat.le_of_ble_eq_true rfl) q128 (by decide) rfl (Nat.le_of_ble_eq_true rfl) rfl (S_X10_ofGroup h) (fun r8 M7 h => ?_)
        refine G_iconst (v := 1) C dX10_more_42 (by decide) ?_
        refine G_iadd C dX10_more_43 ?_
        refine G_callV (As := [.int l2, .int (r8 + 1)]) (rest := []) C dX10_more_44 lk_X10_234 (Nat.le_of_ble_eq_true rfl) (Nat.le_of_ble_eq_true rfl) q128 (by decide) rfl (Nat.le_of_ble_eq_true rfl) rfl (S_X10_hasWays h) (fun M9 h => ?_)
        refine G_aload_n C dX10_more_47 0 rfl ?_
        refine G_iload_n C dX10_more_48 2 rfl ?_
        refine G_iconst (v := 0) C dX10_more_49 (by decide) ?_
        refine G_callV (As := [.int l2, .int 0]) (rest := []) C dX10_more_50 lk_X10_259 (Nat.le_of_ble_eq_true rfl) (Nat.le_of_ble_eq_true rfl) q128 (by decide) rfl (Nat.le_of_ble_eq_true rfl) rfl (S_X10_judges h) (fun M10 h => ?_)
        exact s_X10_more_J53 C R k15 h
set_option maxRecDepth 100000 in
set_option maxHeartbeats 4000000 in
theorem S_X10_more {ω : WD} {l1 : Int32} {M : Mem} {post : Int32 → Mem → Prop} (h : w_X10_more l1 M post) : MtI ω yX10_more cX10_more 3 (some .int) 7 [.ref (adr ω 128), .int l1] M post := by
  refine MtI.start (ty := .int) rfl (by decide +kernel) (own := RX10) rfl (Nat.le_of_ble_eq_true rfl) (fun ρ C R => ?_)
  show G ω ρ M 0 [(0, .ref (adr ω 128)), (1, .int l1)] []
  refine G_iload_n C dX10_more_0 1 rfl ?_
  refine G_scallI (As := [.int l1]) (rest := []) C dX10_more_1 lk_X10_226 (Nat.le_of_ble_eq_true rfl) (Nat.le_of_ble_eq_true rfl) (Nat.le_of_ble_eq_true rfl) rfl (S_X10_isPart h) (fun r12 M11 h => ?_)
  obtain ⟨h1, h2⟩ := h
  refine G_if_ne (tgt := 9) C dX10_more_4 (by decide) (fun c => ?_) (fun c => ?_)
  · have h := h1 c
    clear h1 h2
    refine G_aload_n C dX10_more_9 0 rfl ?_
    refine G_callV (As := []) (rest := []) C dX10_more_10 lk_X10_256 (Nat.le_of_ble_eq_true rfl) (Nat.le_of_ble_eq_true rfl) q128 (by decide) rfl (Nat.le_of_ble_eq_true rfl) rfl (S_X10_startsJudging h) (fun M13 h => ?_)
    refine G_iconst (v := 0) C dX10_more_13 (by decide) ?_
    refine G_istore_n C dX10_more_14 (by decide) (lv' := [(2, .int 0), (0, .ref (adr ω 128)), (1, .int l1)]) rfl ?_
    refine G_sub [1, 2, 0] (lv' := [(0, .ref (adr ω 128)), (1, .int l1), (2, .int 0)]) rfl ?_
    obtain ⟨f, h⟩ := h
    exact s_X10_more_L15 C R  f _ _ h
  · have h := h2 c
    clear h1 h2
    refine G_iconst (v := (-1)) C dX10_more_7 (by decide) ?_
    exact R 8 _ _ _ dX10_more_8 rfl h
theorem dX10_common_0 : decode cX10_common 0 = .ok (.lload_n 0, 1) := by decide +kernel
theorem dX10_common_1 : decode cX10_common 1 = .ok (.lstore 4, 2) := by decide +kernel
theorem dX10_common_3 : decode cX10_common 3 = .ok (.lload_n 2, 1) := by decide +kernel
theorem dX10_common_4 : decode cX10_common 4 = .ok (.lstore 6, 2) := by decide +kernel
theorem dX10_common_6 : decode cX10_common 6 = .ok (.lload 6, 2) := by decide +kernel
theorem dX10_common_8 : decode cX10_common 8 = .ok (.lconst 0, 1) := by decide +kernel
theorem dX10_common_9 : decode cX10_common 9 = .ok (.lcmp, 1) := by decide +kernel
theorem dX10_common_10 : decode cX10_common 10 = .ok (.ifCond .eq 21, 3) := by decide +kernel
theorem dX10_common_13 : decode cX10_common 13 = .ok (.lload 4, 2) := by decide +kernel
theorem dX10_common_15 : decode cX10_common 15 = .ok (.lload 6, 2) := by decide +kernel
theorem dX10_common_17 : decode cX10_common 17 = .ok (.lrem, 1) := by decide +kernel
theorem dX10_common_18 : decode cX10_common 18 = .ok (.lstore 8, 2) := by decide +kernel
theorem dX10_common_20 : decode cX10_common 20 = .ok (.lload 6, 2) := by decide +kernel
theorem dX10_common_22 : decode cX10_common 22 = .ok (.lstore 4, 2) := by decide +kernel
theorem dX10_common_24 : decode cX10_common 24 = .ok (.lload 8, 2) := by decide +kernel
theorem dX10_common_26 : decode cX10_common 26 = .ok (.lstore 6, 2) := by decide +kernel
theorem dX10_common_28 : decode cX10_common 28 = .ok (.goto (-22), 3) := by decide +kernel
theorem dX10_common_31 : decode cX10_common 31 = .ok (.lload 4, 2) := by decide +kernel
theorem dX10_common_33 : decode cX10_common 33 = .ok (.lreturn, 1) := by decide +kernel
set_option maxRecDepth 100000 in
set_option maxHeartbeats 4000000 in
theorem s_X10_common_L6 {ω : WD} {ρ : FR} {post : Int64 → Mem → Prop} (C : Cx ω ρ cX10_common RX10 0 10) (R : RtL ω ρ cX10_common post) : ∀ (f : Nat) (l4 : Int64) (l6 : Int64) (M : Mem), w_X10_common_L6 post f l4 l6 M → G ω ρ M 6 [(4, .long l4), (6, .long l6)] [] := by
  intro f
  induction f with
  | zero => intro l4 l6 M h; exact False.elim h
  | succ f k6 =>
    intro l4 l6 M h
    refine G_lload C dX10_common_6 1 rfl ?_
    refine G_lconst (v := 0) C dX10_common_8 (by decide) ?_
    refine G_lcmp C dX10_common_9 ?_
    obtain ⟨h1, h2⟩ := h
    refine G_if_eq (tgt := 31) C dX10_common_10 (by decide) (fun c => ?_) (fun c => ?_)
    · have h := h1 c
      clear h1 h2
      refine G_lload C dX10_common_31 0 rfl ?_
      exact R 33 _ _ _ dX10_common_33 h
    · have h := h2 c
      clear h1 h2
      refine G_lload C dX10_common_13 0 rfl ?_
      refine G_lload C dX10_common_15 1 rfl ?_
      obtain ⟨hz, h⟩ := h
      refine G_lrem C dX10_common_17 hz ?_
      refine G_lname (fun v1 ev1 => ?_)
      replace h := h v1 ev1
      refine G_lstore C dX10_common_18 (by decide) (lv' := [(8, .long v1), (4, .long l4), (6, .long l6)]) rfl ?_
      refine G_lload C dX10_common_20 2 rfl ?_
      refine G_lstore C dX10_common_22 (by decide) (lv' := [(4, .long l6), (8, .long v1), (6, .long l6)]) rfl ?_
      refine G_lload C dX10_common_24 1 rfl ?_
      refine G_lstore C dX10_common_26 (by decide) (lv' := [(6, .long v1), (4, .long l6), (8, .long v1)]) rfl ?_
      refine G_goto (tgt := 6) C dX10_common_28 (by decide) ?_
      refine G_sub [1, 0] (lv' := [(4, .long l6), (6, .long v1)]) rfl ?_
      exact k6 _ _ _ h
set_option maxRecDepth 100000 in
set_option maxHeartbeats 4000000 in
theorem S_X10_common {ω : WD} {l0 : Int64} {l2 : Int64} {M : Mem} {post : Int64 → Mem → Prop} (h : w_X10_common l0 l2 M post) : MtL ω yX10_common cX10_common 10 (some .long) 0 [.long l0, .long l2] M post := by
  refine MtL.start rfl (by decide +kernel) (own := RX10) rfl (Nat.le_of_ble_eq_true rfl) (fun ρ C R => ?_)
  show G ω ρ M 0 [(0, .long l0), (2, .long l2)] []
  refine G_lload_n C dX10_common_0 0 rfl ?_
  refine G_lstore C dX10_common_1 (by decide) (lv' := [(4, .long l0), (0, .long l0), (2, .long l2)]) rfl ?_
  refine G_lload_n C dX10_common_3 2 rfl ?_
  refine G_lstore C dX10_common_4 (by decide) (lv' := [(6, .long l2), (4, .long l0), (0, .long l0), (2, .long l2)]) rfl ?_
  refine G_sub [1, 0] (lv' := [(4, .long l0), (6, .long l2)]) rfl ?_
  obtain ⟨f, h⟩ := h
  exact s_X10_common_L6 C R  f _ _ _ h
theorem dX10_told_0 : decode cX10_told 0 = .ok (.lload_n 2, 1) := by decide +kernel
theorem dX10_told_1 : decode cX10_told 1 = .ok (.lload_n 0, 1) := by decide +kernel
theorem dX10_told_2 : decode cX10_told 2 = .ok (.invokestatic 265, 3) := by decide +kernel
theorem dX10_told_5 : decode cX10_told 5 = .ok (.lstore 5, 2) := by decide +kernel
theorem dX10_told_7 : decode cX10_told 7 = .ok (.iload 4, 2) := by decide +kernel
theorem dX10_told_9 : decode cX10_told 9 = .ok (.ifCond .ne 10, 3) := by decide +kernel
theorem dX10_told_12 : decode cX10_told 12 = .ok (.lload_n 0, 1) := by decide +kernel
theorem dX10_told_13 : decode cX10_told 13 = .ok (.lload 5, 2) := by decide +kernel
theorem dX10_told_15 : decode cX10_told 15 = .ok (.ldiv, 1) := by decide +kernel
theorem dX10_told_16 : decode cX10_told 16 = .ok (.goto 7, 3) := by decide +kernel
theorem dX10_told_19 : decode cX10_told 19 = .ok (.lload_n 2, 1) := by decide +kernel
theorem dX10_told_20 : decode cX10_told 20 = .ok (.lload 5, 2) := by decide +kernel
theorem dX10_told_22 : decode cX10_told 22 = .ok (.ldiv, 1) := by decide +kernel
theorem dX10_told_23 : decode cX10_told 23 = .ok (.lreturn, 1) := by decide +kernel
theorem lk_X10_265 : LkS RX10 265 yX10_common cX10_common 10 (some .long) 2 := LkS.of 1377 1378 71 1379 (by decide +kernel) (by decide +kernel) (by decide +kernel) (by decide +kernel) (by decide +kernel)
set_option maxRecDepth 100000 in
set_option maxHeartbeats 4000000 in
theorem S_X10_told {ω : WD} {l0 : Int64} {l2 : Int64} {l4 : Int32} {M : Mem} {post : Int64 → Mem → Prop} (h : w_X10_told l0 l2 l4 M post) : MtL ω yX10_told cX10_told 7 (some .long) 1 [.long l0, .long l2, .int l4] M post := by
  refine MtL.start rfl (by decide +kernel) (own := RX10) rfl (Nat.le_of_ble_eq_true rfl) (fun ρ C R => ?_)
  show G ω ρ M 0 [(0, .long l0), (2, .long l2), (4, .int l4)] []
  refine G_lload_n C dX10_told_0 1 rfl ?_
  refine G_lload_n C dX10_told_1 0 rfl ?_
  refine G_scallL (As := [.long l2, .long l0]) (rest := []) C dX10_told_2 lk_X10_265 (Nat.le_of_ble_eq_true rfl) (Nat.le_of_ble_eq_true rfl) (Nat.le_of_ble_eq_true rfl) rfl (S_X10_common h) (fun r2 M1 h => ?_)
  refine G_lstore C dX10_told_5 (by decide) (lv' := [(5, .long r2), (0, .long l0), (2, .long l2), (4, .int l4)]) rfl ?_
  refine G_iload C dX10_told_7 3 rfl ?_
  obtain ⟨h1, h2⟩ := h
  refine G_if_ne (tgt := 19) C dX10_told_9 (by decide) (fun c => ?_) (fun c => ?_)
  · have h := h1 c
    clear h1 h2
    refine G_lload_n C dX10_told_19 2 rfl ?_
    refine G_lload C dX10_told_20 0 rfl ?_
    obtain ⟨hz, h⟩ := h
    refine G_ldiv C dX10_told_22 hz ?_
    exact R 23 _ _ _ dX10_told_23 h
  · have h := h2 c
    clear h1 h2
    refine G_lload_n C dX10_told_12 1 rfl ?_
    refine G_lload C dX10_told_13 0 rfl ?_
    obtain ⟨hz, h⟩ := h
    refine G_ldiv C dX10_told_15 hz ?_
    refine G_goto (tgt := 23) C dX10_told_16 (by decide) ?_
    exact R 23 _ _ _ dX10_told_23 h
theorem dX10_findOdds_0 : decode cX10_findOdds 0 = .ok (.aload_n 0, 1) := by decide +kernel
theorem dX10_findOdds_1 : decode cX10_findOdds 1 = .ok (.lconst 0, 1) := by decide +kernel
theorem dX10_findOdds_2 : decode cX10_findOdds 2 = .ok (.putfield 269, 3) := by decide +kernel
theorem dX10_findOdds_5 : decode cX10_findOdds 5 = .ok (.aload_n 0, 1) := by decide +kernel
theorem dX10_findOdds_6 : decode cX10_findOdds 6 = .ok (.lconst 0, 1) := by decide +kernel
theorem dX10_findOdds_7 : decode cX10_findOdds 7 = .ok (.putfield 273, 3) := by decide +kernel
theorem dX10_findOdds_10 : decode cX10_findOdds 10 = .ok (.aload_n 0, 1) := by decide +kernel
theorem dX10_findOdds_11 : decode cX10_findOdds 11 = .ok (.lconst 1, 1) := by decide +kernel
theorem dX10_findOdds_12 : decode cX10_findOdds 12 = .ok (.putfield 276, 3) := by decide +kernel
theorem dX10_findOdds_15 : decode cX10_findOdds 15 = .ok (.iconst 0, 1) := by decide +kernel
theorem dX10_findOdds_16 : decode cX10_findOdds 16 = .ok (.istore 4, 2) := by decide +kernel
theorem dX10_findOdds_18 : decode cX10_findOdds 18 = .ok (.iload 4, 2) := by decide +kernel
theorem dX10_findOdds_20 : decode cX10_findOdds 20 = .ok (.aload_n 0, 1) := by decide +kernel
theorem dX10_findOdds_21 : decode cX10_findOdds 21 = .ok (.getfield 7, 3) := by decide +kernel
theorem dX10_findOdds_24 : decode cX10_findOdds 24 = .ok (.bipush 66, 2) := by decide +kernel
theorem dX10_findOdds_26 : decode cX10_findOdds 26 = .ok (.iaload, 1) := by decide +kernel
theorem dX10_findOdds_27 : decode cX10_findOdds 27 = .ok (.if_icmp .ge 44, 3) := by decide +kernel
theorem dX10_findOdds_30 : decode cX10_findOdds 30 = .ok (.aload_n 0, 1) := by decide +kernel
theorem dX10_findOdds_31 : decode cX10_findOdds 31 = .ok (.dup, 1) := by decide +kernel
theorem dX10_findOdds_32 : decode cX10_findOdds 32 = .ok (.getfield 276, 3) := by decide +kernel
theorem dX10_findOdds_35 : decode cX10_findOdds 35 = .ok (.aload_n 0, 1) := by decide +kernel
theorem dX10_findOdds_36 : decode cX10_findOdds 36 = .ok (.getfield 7, 3) := by decide +kernel
theorem dX10_findOdds_39 : decode cX10_findOdds 39 = .ok (.bipush 67, 2) := by decide +kernel
theorem dX10_findOdds_41 : decode cX10_findOdds 41 = .ok (.iconst 2, 1) := by decide +kernel
theorem dX10_findOdds_42 : decode cX10_findOdds 42 = .ok (.iload 4, 2) := by decide +kernel
theorem dX10_findOdds_44 : decode cX10_findOdds 44 = .ok (.imul, 1) := by decide +kernel
theorem dX10_findOdds_45 : decode cX10_findOdds 45 = .ok (.iadd, 1) := by decide +kernel
theorem dX10_findOdds_46 : decode cX10_findOdds 46 = .ok (.iconst 1, 1) := by decide +kernel
theorem dX10_findOdds_47 : decode cX10_findOdds 47 = .ok (.iadd, 1) := by decide +kernel
theorem dX10_findOdds_48 : decode cX10_findOdds 48 = .ok (.iaload, 1) := by decide +kernel
theorem dX10_findOdds_49 : decode cX10_findOdds 49 = .ok (.bipush 99, 2) := by decide +kernel
theorem dX10_findOdds_51 : decode cX10_findOdds 51 = .ok (.if_icmp .ne 7, 3) := by decide +kernel
theorem dX10_findOdds_54 : decode cX10_findOdds 54 = .ok (.lconst 1, 1) := by decide +kernel
theorem dX10_findOdds_55 : decode cX10_findOdds 55 = .ok (.goto 6, 3) := by decide +kernel
theorem dX10_findOdds_58 : decode cX10_findOdds 58 = .ok (.ldc2_w 279, 3) := by decide +kernel
theorem dX10_findOdds_61 : decode cX10_findOdds 61 = .ok (.lmul, 1) := by decide +kernel
theorem dX10_findOdds_62 : decode cX10_findOdds 62 = .ok (.putfield 276, 3) := by decide +kernel
theorem dX10_findOdds_65 : decode cX10_findOdds 65 = .ok (.iinc 4 1, 3) := by decide +kernel
theorem dX10_findOdds_68 : decode cX10_findOdds 68 = .ok (.goto (-50), 3) := by decide +kernel
theorem dX10_findOdds_71 : decode cX10_findOdds 71 = .ok (.iconst 0, 1) := by decide +kernel
theorem dX10_findOdds_72 : decode cX10_findOdds 72 = .ok (.istore 4, 2) := by decide +kernel
theorem dX10_findOdds_74 : decode cX10_findOdds 74 = .ok (.iload 4, 2) := by decide +kernel
theorem dX10_findOdds_76 : decode cX10_findOdds 76 = .ok (.iconst 1, 1) := by decide +kernel
theorem dX10_findOdds_77 : decode cX10_findOdds 77 = .ok (.aload_n 0, 1) := by decide +kernel
theorem dX10_findOdds_78 : decode cX10_findOdds 78 = .ok (.getfield 7, 3) := by decide +kernel
theorem dX10_findOdds_81 : decode cX10_findOdds 81 = .ok (.bipush 66, 2) := by decide +kernel
theorem dX10_findOdds_83 : decode cX10_findOdds 83 = .ok (.iaload, 1) := by decide +kernel
theorem dX10_findOdds_84 : decode cX10_findOdds 84 = .ok (.ishl, 1) := by decide +kernel
theorem dX10_findOdds_85 : decode cX10_findOdds 85 = .ok (.if_icmp .ge 168, 3) := by decide +kernel
theorem dX10_findOdds_88 : decode cX10_findOdds 88 = .ok (.lconst 1, 1) := by decide +kernel
theorem dX10_findOdds_89 : decode cX10_findOdds 89 = .ok (.lstore 5, 2) := by decide +kernel
theorem dX10_findOdds_91 : decode cX10_findOdds 91 = .ok (.iconst 0, 1) := by decide +kernel
theorem dX10_findOdds_92 : decode cX10_findOdds 92 = .ok (.istore 7, 2) := by decide +kernel
theorem dX10_findOdds_94 : decode cX10_findOdds 94 = .ok (.iload 7, 2) := by decide +kernel
theorem dX10_findOdds_96 : decode cX10_findOdds 96 = .ok (.aload_n 0, 1) := by decide +kernel
theorem dX10_findOdds_97 : decode cX10_findOdds 97 = .ok (.getfield 7, 3) := by decide +kernel
theorem dX10_findOdds_100 : decode cX10_findOdds 100 = .ok (.bipush 66, 2) := by decide +kernel
theorem dX10_findOdds_102 : decode cX10_findOdds 102 = .ok (.iaload, 1) := by decide +kernel
theorem dX10_findOdds_103 : decode cX10_findOdds 103 = .ok (.if_icmp .ge 79, 3) := by decide +kernel
theorem dX10_findOdds_106 : decode cX10_findOdds 106 = .ok (.iload 4, 2) := by decide +kernel
theorem dX10_findOdds_108 : decode cX10_findOdds 108 = .ok (.iload 7, 2) := by decide +kernel
theorem dX10_findOdds_110 : decode cX10_findOdds 110 = .ok (.ishr, 1) := by decide +kernel
theorem dX10_findOdds_111 : decode cX10_findOdds 111 = .ok (.iconst 1, 1) := by decide +kernel
theorem dX10_findOdds_112 : decode cX10_findOdds 112 = .ok (.iand, 1) := by decide +kernel
theorem dX10_findOdds_113 : decode cX10_findOdds 113 = .ok (.iconst 1, 1) := by decide +kernel
theorem dX10_findOdds_114 : decode cX10_findOdds 114 = .ok (.if_icmp .ne 7, 3) := by decide +kernel
theorem dX10_findOdds_117 : decode cX10_findOdds 117 = .ok (.iconst 1, 1) := by decide +kernel
theorem dX10_findOdds_118 : decode cX10_findOdds 118 = .ok (.goto 4, 3) := by decide +kernel
theorem dX10_findOdds_121 : decode cX10_findOdds 121 = .ok (.iconst 0, 1) := by decide +kernel
theorem dX10_findOdds_122 : decode cX10_findOdds 122 = .ok (.istore 8, 2) := by decide +kernel
theorem dX10_findOdds_124 : decode cX10_findOdds 124 = .ok (.lload 5, 2) := by decide +kernel
theorem dX10_findOdds_126 : decode cX10_findOdds 126 = .ok (.aload_n 0, 1) := by decide +kernel
theorem dX10_findOdds_127 : decode cX10_findOdds 127 = .ok (.getfield 7, 3) := by decide +kernel
theorem dX10_findOdds_130 : decode cX10_findOdds 130 = .ok (.bipush 67, 2) := by decide +kernel
theorem dX10_findOdds_132 : decode cX10_findOdds 132 = .ok (.iconst 2, 1) := by decide +kernel
theorem dX10_findOdds_133 : decode cX10_findOdds 133 = .ok (.iload 7, 2) := by decide +kernel
theorem dX10_findOdds_135 : decode cX10_findOdds 135 = .ok (.imul, 1) := by decide +kernel
theorem dX10_findOdds_136 : decode cX10_findOdds 136 = .ok (.iadd, 1) := by decide +kernel
theorem dX10_findOdds_137 : decode cX10_findOdds 137 = .ok (.iconst 1, 1) := by decide +kernel
theorem dX10_findOdds_138 : decode cX10_findOdds 138 = .ok (.iadd, 1) := by decide +kernel
theorem dX10_findOdds_139 : decode cX10_findOdds 139 = .ok (.iaload, 1) := by decide +kernel
theorem dX10_findOdds_140 : decode cX10_findOdds 140 = .ok (.bipush 99, 2) := by decide +kernel
theorem dX10_findOdds_142 : decode cX10_findOdds 142 = .ok (.if_icmp .ne 16, 3) := by decide +kernel
theorem dX10_findOdds_145 : decode cX10_findOdds 145 = .ok (.iload 8, 2) := by decide +kernel
theorem dX10_findOdds_147 : decode cX10_findOdds 147 = .ok (.ifCond .eq 7, 3) := by decide +kernel
theorem dX10_findOdds_150 : decode cX10_findOdds 150 = .ok (.lconst 0, 1) := by decide +kernel
theorem dX10_findOdds_151 : decode cX10_findOdds 151 = .ok (.goto 22, 3) := by decide +kernel
theorem dX10_findOdds_154 : decode cX10_findOdds 154 = .ok (.lconst 1, 1) := by decide +kernel
theorem dX10_findOdds_155 : decode cX10_findOdds 155 = .ok (.goto 18, 3) := by decide +kernel
theorem dX10_findOdds_158 : decode cX10_findOdds 158 = .ok (.iload 8, 2) := by decide +kernel
theorem dX10_findOdds_160 : decode cX10_findOdds 160 = .ok (.ifCond .eq 8, 3) := by decide +kernel
theorem dX10_findOdds_163 : decode cX10_findOdds 163 = .ok (.iload_n 1, 1) := by decide +kernel
theorem dX10_findOdds_164 : decode cX10_findOdds 164 = .ok (.i2l, 1) := by decide +kernel
theorem dX10_findOdds_165 : decode cX10_findOdds 165 = .ok (.goto 8, 3) := by decide +kernel
theorem dX10_findOdds_168 : decode cX10_findOdds 168 = .ok (.bipush 10, 2) := by decide +kernel
theorem dX10_findOdds_170 : decode cX10_findOdds 170 = .ok (.iload_n 1, 1) := by decide +kernel
theorem dX10_findOdds_171 : decode cX10_findOdds 171 = .ok (.isub, 1) := by decide +kernel
theorem dX10_findOdds_172 : decode cX10_findOdds 172 = .ok (.i2l, 1) := by decide +kernel
theorem dX10_findOdds_173 : decode cX10_findOdds 173 = .ok (.lmul, 1) := by decide +kernel
theorem dX10_findOdds_174 : decode cX10_findOdds 174 = .ok (.lstore 5, 2) := by decide +kernel
theorem dX10_findOdds_176 : decode cX10_findOdds 176 = .ok (.iinc 7 1, 3) := by decide +kernel
theorem dX10_findOdds_179 : decode cX10_findOdds 179 = .ok (.goto (-85), 3) := by decide +kernel
theorem dX10_findOdds_182 : decode cX10_findOdds 182 = .ok (.lload 5, 2) := by decide +kernel
theorem dX10_findOdds_184 : decode cX10_findOdds 184 = .ok (.lconst 0, 1) := by decide +kernel
theorem dX10_findOdds_185 : decode cX10_findOdds 185 = .ok (.lcmp, 1) := by decide +kernel
theorem dX10_findOdds_186 : decode cX10_findOdds 186 = .ok (.ifCond .le 61, 3) := by decide +kernel
theorem dX10_findOdds_189 : decode cX10_findOdds 189 = .ok (.aload_n 0, 1) := by decide +kernel
theorem dX10_findOdds_190 : decode cX10_findOdds 190 = .ok (.invokevirtual 209, 3) := by decide +kernel
theorem dX10_findOdds_193 : decode cX10_findOdds 193 = .ok (.aload_n 0, 1) := by decide +kernel
theorem dX10_findOdds_194 : decode cX10_findOdds 194 = .ok (.iload 4, 2) := by decide +kernel
theorem dX10_findOdds_196 : decode cX10_findOdds 196 = .ok (.invokevirtual 241, 3) := by decide +kernel
theorem dX10_findOdds_199 : decode cX10_findOdds 199 = .ok (.aload_n 0, 1) := by decide +kernel
theorem dX10_findOdds_200 : decode cX10_findOdds 200 = .ok (.dup, 1) := by decide +kernel
theorem dX10_findOdds_201 : decode cX10_findOdds 201 = .ok (.getfield 269, 3) := by decide +kernel
theorem dX10_findOdds_204 : decode cX10_findOdds 204 = .ok (.iload_n 2, 1) := by decide +kernel
theorem dX10_findOdds_205 : decode cX10_findOdds 205 = .ok (.bipush (-4), 2) := by decide +kernel
theorem dX10_findOdds_207 : decode cX10_findOdds 207 = .ok (.if_icmp .eq 18, 3) := by decide +kernel
theorem dX10_findOdds_210 : decode cX10_findOdds 210 = .ok (.aload_n 0, 1) := by decide +kernel
theorem dX10_findOdds_211 : decode cX10_findOdds 211 = .ok (.iload_n 2, 1) := by decide +kernel
theorem dX10_findOdds_212 : decode cX10_findOdds 212 = .ok (.iconst 1, 1) := by decide +kernel
theorem dX10_findOdds_213 : decode cX10_findOdds 213 = .ok (.invokevirtual 157, 3) := by decide +kernel
theorem dX10_findOdds_216 : decode cX10_findOdds 216 = .ok (.iload_n 3, 1) := by decide +kernel
theorem dX10_findOdds_217 : decode cX10_findOdds 217 = .ok (.if_icmp .ne 8, 3) := by decide +kernel
theorem dX10_findOdds_220 : decode cX10_findOdds 220 = .ok (.lload 5, 2) := by decide +kernel
theorem dX10_findOdds_222 : decode cX10_findOdds 222 = .ok (.goto 4, 3) := by decide +kernel
theorem dX10_findOdds_225 : decode cX10_findOdds 225 = .ok (.lconst 0, 1) := by decide +kernel
theorem dX10_findOdds_226 : decode cX10_findOdds 226 = .ok (.ladd, 1) := by decide +kernel
theorem dX10_findOdds_227 : decode cX10_findOdds 227 = .ok (.putfield 269, 3) := by decide +kernel
theorem dX10_findOdds_230 : decode cX10_findOdds 230 = .ok (.aload_n 0, 1) := by decide +kernel
theorem dX10_findOdds_231 : decode cX10_findOdds 231 = .ok (.dup, 1) := by decide +kernel
theorem dX10_findOdds_232 : decode cX10_findOdds 232 = .ok (.getfield 273, 3) := by decide +kernel
theorem dX10_findOdds_235 : decode cX10_findOdds 235 = .ok (.lload 5, 2) := by decide +kernel
theorem dX10_findOdds_237 : decode cX10_findOdds 237 = .ok (.aload_n 0, 1) := by decide +kernel
theorem dX10_findOdds_238 : decode cX10_findOdds 238 = .ok (.invokevirtual 244, 3) := by decide +kernel
theorem dX10_findOdds_241 : decode cX10_findOdds 241 = .ok (.i2l, 1) := by decide +kernel
theorem dX10_findOdds_242 : decode cX10_findOdds 242 = .ok (.lmul, 1) := by decide +kernel
theorem dX10_findOdds_243 : decode cX10_findOdds 243 = .ok (.ladd, 1) := by decide +kernel
theorem dX10_findOdds_244 : decode cX10_findOdds 244 = .ok (.putfield 273, 3) := by decide +kernel
theorem dX10_findOdds_247 : decode cX10_findOdds 247 = .ok (.iinc 4 1, 3) := by decide +kernel
theorem dX10_findOdds_250 : decode cX10_findOdds 250 = .ok (.goto (-176), 3) := by decide +kernel
theorem dX10_findOdds_253 : decode cX10_findOdds 253 = .ok (.return_, 1) := by decide +kernel
theorem pf_X10_276 {ω : WD} {ρ : FR} {M : Mem} {cc : ByteArray} {d n pc : Nat} {lv : List (Nat × Value)} {rest : List Value} {v : Int64} (C : Cx ω ρ cc RX10 d n) (hd : decode cc pc = .ok (.putfield 276, 3)) (k : ∀ M1, M1 = wl M 21 v → G ω ρ M1 (pc + 3) lv rest) : G ω ρ M pc lv (.long v :: .ref (adr ω 128) :: rest) := G_putL (N := 28) (T := TX10) (C := RX10) (q := 21) C rfl in_X10 tyX10 tyX10_ok nmX10 (by decide) (tb_of 997 ⟨by decide +kernel, rfl⟩) rfl rfl (by decide +kernel) (fun _ _ => Nat.le_of_ble_eq_true rfl) (fun _ => rfl) hd (k _ rfl)
theorem pf_X10_269 {ω : WD} {ρ : FR} {M : Mem} {cc : ByteArray} {d n pc : Nat} {lv : List (Nat × Value)} {rest : List Value} {v : Int64} (C : Cx ω ρ cc RX10 d n) (hd : decode cc pc = .ok (.putfield 269, 3)) (k : ∀ M1, M1 = wl M 19 v → G ω ρ M1 (pc + 3) lv rest) : G ω ρ M pc lv (.long v :: .ref (adr ω 128) :: rest) := G_putL (N := 28) (T := TX10) (C := RX10) (q := 19) C rfl in_X10 tyX10 tyX10_ok nmX10 (by decide) (tb_of 995 ⟨by decide +kernel, rfl⟩) rfl rfl (by decide +kernel) (fun _ _ => Nat.le_of_ble_eq_true rfl) (fun _ => rfl) hd (k _ rfl)
theorem gf_X10_273 {ω : WD} {ρ : FR} {M : Mem} {cc : ByteArray} {d n pc : Nat} {lv : List (Nat × Value)} {rest : List Value} (C : Cx ω ρ cc RX10 d n) (hd : decode cc pc = .ok (.getfield 273, 3)) (k : G ω ρ M (pc + 3) lv (.long (rl M 20) :: rest)) : G ω ρ M pc lv (.ref (adr ω 128) :: rest) := G_get (N := 28) (T := TX10) (C := RX10) (q := 20) C (q128 : isK 10 128) (by decide) rfl in_X10 (by decide) (tb_of 996 ⟨by decide +kernel, rfl⟩) rfl rfl hd k
theorem pf_X10_273 {ω : WD} {ρ : FR} {M : Mem} {cc : ByteArray} {d n pc : Nat} {lv : List (Nat × Value)} {rest : List Value} {v : Int64} (C : Cx ω ρ cc RX10 d n) (hd : decode cc pc = .ok (.putfield 273, 3)) (k : ∀ M1, M1 = wl M 20 v → G ω ρ M1 (pc + 3) lv rest) : G ω ρ M pc lv (.long v :: .ref (adr ω 128) :: rest) := G_putL (N := 28) (T := TX10) (C := RX10) (q := 20) C rfl in_X10 tyX10 tyX10_ok nmX10 (by decide) (tb_of 996 ⟨by decide +kernel, rfl⟩) rfl rfl (by decide +kernel) (fun _ _ => Nat.le_of_ble_eq_true rfl) (fun _ => rfl) hd (k _ rfl)
theorem gf_X10_269 {ω : WD} {ρ : FR} {M : Mem} {cc : ByteArray} {d n pc : Nat} {lv : List (Nat × Value)} {rest : List Value} (C : Cx ω ρ cc RX10 d n) (hd : decode cc pc = .ok (.getfield 269, 3)) (k : G ω ρ M (pc + 3) lv (.long (rl M 19) :: rest)) : G ω ρ M pc lv (.ref (adr ω 128) :: rest) := G_get (N := 28) (T := TX10) (C := RX10) (q := 19) C (q128 : isK 10 128) (by decide) rfl in_X10 (by decide) (tb_of 995 ⟨by decide +kernel, rfl⟩) rfl rfl hd k
theorem gf_X10_276 {ω : WD} {ρ : FR} {M : Mem} {cc : ByteArray} {d n pc : Nat} {lv : List (Nat × Value)} {rest : List Value} (C : Cx ω ρ cc RX10 d n) (hd : decode cc pc = .ok (.getfield 276, 3)) (k : G ω ρ M (pc + 3) lv (.long (rl M 21) :: rest)) : G ω ρ M pc lv (.ref (adr ω 128) :: rest) := G_get (N := 28) (T := TX10) (C := RX10) (q := 21) C (q128 : isK 10 128) (by decide) rfl in_X10 (by decide) (tb_of 997 ⟨by decide +kernel, rfl⟩) rfl rfl hd k
set_option maxRecDepth 100000 in
set_option maxHeartbeats 4000000 in
theorem s_X10_findOdds_J61 {ω : WD} {ρ : FR} {post : Mem → Prop} (C : Cx ω ρ cX10_findOdds RX10 6 9) (R : RtV ω ρ cX10_findOdds post) {K18 : Int32 → Mem → Prop} {l1 : Int32} {l2 : Int32} {l3 : Int32} {l4 : Int32} {s1 : Int64} {s2 : Int64} (k18 : ∀ (u4 : Int32) (M : Mem), K18 u4 M → G ω ρ M 18 [(0, .ref (adr ω 128)), (1, .int l1), (2, .int l2), (3, .int l3), (4, .int u4)] []) {M : Mem} (h : w_X10_findOdds_J61 post K18 l1 l2 l3 l4 s1 s2 M) : G ω ρ M 61 [(0, .ref (adr ω 128)), (1, .int l1), (2, .int l2), (3, .int l3), (4, .int l4)] [.long s2, .long s1, .ref (adr ω 128)] := by
  refine G_lmul C dX10_findOdds_61 ?_
  refine pf_X10_276 C dX10_findOdds_62 (fun M1 eM1 => ?_)
  replace h := h M1 eM1
  obtain ⟨v2, ev2⟩ : ∃ y : Int32, y = (l4 + 1) := ⟨_, rfl⟩
  replace h := h v2 ev2
  refine G_iinc C dX10_findOdds_65 4 rfl (v := v2) (by rw [ev2]; rfl) (by decide) (lv' := [(4, .int v2), (0, .ref (adr ω 128)), (1, .int l1), (2, .int l2), (3, .int l3)]) rfl ?_
  refine G_goto (tgt := 18) C dX10_findOdds_68 (by decide) ?_
  refine G_sub [1, 2, 3, 4, 0] (lv' := [(0, .ref (adr ω 128)), (1, .int l1), (2, .int l2), (3, .int l3), (4, .int v2)]) rfl ?_
  exact k18 _ _ h
set_option maxRecDepth 100000 in
set_option maxHeartbeats 4000000 in
theorem s_X10_findOdds_J173 {ω : WD} {ρ : FR} {post : Mem → Prop} (C : Cx ω ρ cX10_findOdds RX10 6 9) (R : RtV ω ρ cX10_findOdds post) {K74 : Int32 → Mem → Prop} {K94 : Int64 → Int32 → Mem → Prop} {l1 : Int32} {l2 : Int32} {l3 : Int32} {l4 : Int32} {l7 : Int32} {s0 : Int64} {s1 : Int64} (k74 : ∀ (u4 : Int32) (M : Mem), K74 u4 M → G ω ρ M 74 [(0, .ref (adr ω 128)), (1, .int l1), (2, .int l2), (3, .int l3), (4, .int u4)] []) (k94 : ∀ (u5 : Int64) (u7 : Int32) (M : Mem), K94 u5 u7 M → G ω ρ M 94 [(0, .ref (adr ω 128)), (1, .int l1), (2, .int l2), (3, .int l3), (4, .int l4), (5, .long u5), (7, .int u7)] []) {M : Mem} (h : w_X10_findOdds_J173 post K74 K94 l1 l2 l3 l4 l7 s0 s1 M) : G ω ρ M 173 [(0, .ref (adr ω 128)), (1, .int l1), (2, .int l2), (3, .int l3), (4, .int l4), (7, .int l7)] [.long s1, .long s0] := by
  refine G_lmul C dX10_findOdds_173 ?_
  refine G_lname (fun v3 ev3 => ?_)
  replace h := h v3 ev3
  refine G_lstore C dX10_findOdds_174 (by decide) (lv' := [(5, .long v3), (0, .ref (adr ω 128)), (1, .int l1), (2, .int l2), (3, .int l3), (4, .int l4), (7, .int l7)]) rfl ?_
  obtain ⟨v4, ev4⟩ : ∃ y : Int32, y = (l7 + 1) := ⟨_, rfl⟩
  replace h := h v4 ev4
  refine G_iinc C dX10_findOdds_176 6 rfl (v := v4) (by rw [ev4]; rfl) (by decide) (lv' := [(7, .int v4), (5, .long v3), (0, .ref (adr ω 128)), (1, .int l1), (2, .int l2), (3, .int l3), (4, .int l4)]) rfl ?_
  refine G_goto (tgt := 94) C dX10_findOdds_179 (by decide) ?_
  refine G_sub [2, 3, 4, 5, 6, 1, 0] (lv' := [(0, .ref (adr ω 128)), (1, .int l1), (2, .int l2), (3, .int l3), (4, .int l4), (5, .long v3), (7, .int v4)]) rfl ?_
  exact k94 _ _ _ h
set_option maxRecDepth 100000 in
set_option maxHeartbeats 4000000 in
theorem s_X10_findOdds_J122 {ω : WD} {ρ : FR} {post : Mem → Prop} (C : Cx ω ρ cX10_findOdds RX10 6 9) (R : RtV ω ρ cX10_findOdds post) {K74 : Int32 → Mem → Prop} {K94 : Int64 → Int32 → Mem → Prop} {l1 : Int32} {l2 : Int32} {l3 : Int32} {l4 : Int32} {l5 : Int64} {l7 : Int32} {s0 : Int32} (k74 : ∀ (u4 : Int32) (M : Mem), K74 u4 M → G ω ρ M 74 [(0, .ref (adr ω 128)), (1, .int l1), (2, .int l2), (3, .int l3), (4, .int u4)] []) (k94 : ∀ (u5 : Int64) (u7 : Int32) (M : Mem), K94 u5 u7 M → G ω ρ M 94 [(0, .ref (adr ω 128)), (1, .int l1), (2, .int l2), (3, .int l3), (4, .int l4), (5, .long u5), (7, .int u7)] []) {M : Mem} (h : w_X10_findOdds_J122 post K74 K94 l1 l2 l3 l4 l5 l7 s0 M) : G ω ρ M 122 [(0, .ref (adr ω 128)), (1, .int l1), (2, .int l2), (3, .int l3), (4, .int l4), (5, .long l5), (7, .int l7)] [.int s0] := by
  refine G_istore C dX10_findOdds_122 (by decide) (lv' := [(8, .int s0), (0, .ref (adr ω 128)), (1, .int l1), (2, .int l2), (3, .int l3), (4, .int l4), (5, .long l5), (7, .int l7)]) rfl ?_
  refine G_lload C dX10_findOdds_124 6 rfl ?_
  refine G_aload_n C dX10_findOdds_126 1 rfl ?_
  refine gf_X10_7 C dX10_findOdds_127 ?_
  refine G_bipush (v := 67) C dX10_findOdds_130 (by decide) ?_
  refine G_iconst (v := 2) C dX10_findOdds_132 (by decide) ?_
  refine G_iload C dX10_findOdds_133 7 rfl ?_
  refine G_imul C dX10_findOdds_135 ?_
  refine G_iadd C dX10_findOdds_136 ?_
  refine G_iconst (v := 1) C dX10_findOdds_137 (by decide) ?_
  refine G_iadd C dX10_findOdds_138 ?_
  obtain ⟨hi, h⟩ := h
  refine G_iald C q129 hi rfl dX10_findOdds_139 ?_
  refine G_bipush (v := 99) C dX10_findOdds_140 (by decide) ?_
  obtain ⟨h1, h2⟩ := h
  refine G_icmp_ne (tgt := 158) C dX10_findOdds_142 (by decide) (fun c => ?_) (fun c => ?_)
  · have h := h1 c
    clear h1 h2
    refine G_iload C dX10_findOdds_158 0 rfl ?_
    obtain ⟨h1, h2⟩ := h
    refine G_if_eq (tgt := 168) C dX10_findOdds_160 (by decide) (fun c => ?_) (fun c => ?_)
    · have h := h1 c
      clear h1 h2
      refine G_bipush (v := 10) C dX10_findOdds_168 (by decide) ?_
      refine G_iload_n C dX10_findOdds_170 2 rfl ?_
      refine G_isub C dX10_findOdds_171 ?_
      refine G_i2l C dX10_findOdds_172 ?_
      refine G_sub [1, 2, 3, 4, 5, 7] (lv' := [(0, .ref (adr ω 128)), (1, .int l1), (2, .int l2), (3, .int l3), (4, .int l4), (7, .int l7)]) rfl ?_
      exact s_X10_findOdds_J173 C R k74 k94 h
    · have h := h2 c
      clear h1 h2
      refine G_iload_n C dX10_findOdds_163 2 rfl ?_
      refine G_i2l C dX10_findOdds_164 ?_
      refine G_goto (tgt := 173) C dX10_findOdds_165 (by decide) ?_
      refine G_sub [1, 2, 3, 4, 5, 7] (lv' := [(0, .ref (adr ω 128)), (1, .int l1), (2, .int l2), (3, .int l3), (4, .int l4), (7, .int l7)]) rfl ?_
      exact s_X10_findOdds_J173 C R k74 k94 h
  · have h := h2 c
    clear h1 h2
    refine G_iload C dX10_findOdds_145 0 rfl ?_
    obtain ⟨h1, h2⟩ := h
    refine G_if_eq (tgt := 154) C dX10_findOdds_147 (by decide) (fun c => ?_) (fun c => ?_)
    · have h := h1 c
      clear h1 h2
      refine G_lconst (v := 1) C dX10_findOdds_154 (by decide) ?_
      refine G_goto (tgt := 173) C dX10_findOdds_155 (by decide) ?_
      refine G_sub [1, 2, 3, 4, 5, 7] (lv' := [(0, .ref (adr ω 128)), (1, .int l1), (2, .int l2), (3, .int l3), (4, .int l4), (7, .int l7)]) rfl ?_
      exact s_X10_findOdds_J173 C R k74 k94 h
    · have h := h2 c
      clear h1 h2
      refine G_lconst (v := 0) C dX10_findOdds_150 (by decide) ?_
      refine G_goto (tgt := 173) C dX10_findOdds_151 (by decide) ?_
      refine G_sub [1, 2, 3, 4, 5, 7] (lv' := [(0, .ref (adr ω 128)), (1, .int l1), (2, .int l2), (3, .int l3), (4, .int l4), (7, .int l7)]) rfl ?_
      exact s_X10_findOdds_J173 C R k74 k94 h
set_option maxRecDepth 100000 in
set_option maxHeartbeats 4000000 in
theorem s_X10_findOdds_J247 {ω : WD} {ρ : FR} {post : Mem → Prop} (C : Cx ω ρ cX10_findOdds RX10 6 9) (R : RtV ω ρ cX10_findOdds post) {K74 : Int32 → Mem → Prop} {l1 : Int32} {l2 : Int32} {l3 : Int32} {l4 : Int32} (k74 : ∀ (u4 : Int32) (M : Mem), K74 u4 M → G ω ρ M 74 [(0, .ref (adr ω 128)), (1, .int l1), (2, .int l2), (3, .int l3), (4, .int u4)] []) {M : Mem} (h : w_X10_findOdds_J247 post K74 l1 l2 l3 l4 M) : G ω ρ M 247 [(0, .ref (adr ω 128)), (1, .int l1), (2, .int l2), (3, .int l3), (4, .int l4)] [] := by
  obtain ⟨v5, ev5⟩ : ∃ y : Int32, y = (l4 + 1) := ⟨_, rfl⟩
  replace h := h v5 ev5
  refine G_iinc C dX10_findOdds_247 4 rfl (v := v5) (by rw [ev5]; rfl) (by decide) (lv' := [(4, .int v5), (0, .ref (adr ω 128)), (1, .int l1), (2, .int l2), (3, .int l3)]) rfl ?_
  refine G_goto (tgt := 74) C dX10_findOdds_250 (by decide) ?_
  refine G_sub [1, 2, 3, 4, 0] (lv' := [(0, .ref (adr ω 128)), (1, .int l1), (2, .int l2), (3, .int l3), (4, .int v5)]) rfl ?_
  exact k74 _ _ h
set_option maxRecDepth 100000 in
set_option maxHeartbeats 4000000 in
theorem s_X10_findOdds_J226 {ω : WD} {ρ : FR} {post : Mem → Prop} (C : Cx ω ρ cX10_findOdds RX10 6 9) (R : RtV ω ρ cX10_findOdds post) {K74 : Int32 → Mem → Prop} {l1 : Int32} {l2 : Int32} {l3 : Int32} {l4 : Int32} {l5 : Int64} {s1 : Int64} {s2 : Int64} (k74 : ∀ (u4 : Int32) (M : Mem), K74 u4 M → G ω ρ M 74 [(0, .ref (adr ω 128)), (1, .int l1), (2, .int l2), (3, .int l3), (4, .int u4)] []) {M : Mem} (h : w_X10_findOdds_J226 post K74 l1 l2 l3 l4 l5 s1 s2 M) : G ω ρ M 226 [(0, .ref (adr ω 128)), (1, .int l1), (2, .int l2), (3, .int l3), (4, .int l4), (5, .long l5)] [.long s2, .long s1, .ref (adr ω 128)] := by
  refine G_ladd C dX10_findOdds_226 ?_
  refine pf_X10_269 C dX10_findOdds_227 (fun M6 eM6 => ?_)
  replace h := h M6 eM6
  refine G_aload_n C dX10_findOdds_230 0 rfl ?_
  refine G_dup C dX10_findOdds_231 rfl ?_
  refine gf_X10_273 C dX10_findOdds_232 ?_
  refine G_lload C dX10_findOdds_235 5 rfl ?_
  refine G_aload_n C dX10_findOdds_237 0 rfl ?_
  refine G_callI (As := []) (rest := [.long l5, .long (rl M6 20), .ref (adr ω 128)]) C dX10_findOdds_238 lk_X10_244 (Nat.le_of_ble_eq_true rfl) (Nat.le_of_ble_eq_true rfl) q128 (by decide) rfl (Nat.le_of_ble_eq_true rfl) rfl (S_X10_lostMany h) (fun r8 M7 h => ?_)
  refine G_i2l C dX10_findOdds_241 ?_
  refine G_lmul C dX10_findOdds_242 ?_
  refine G_ladd C dX10_findOdds_243 ?_
  refine pf_X10_273 C dX10_findOdds_244 (fun M9 eM9 => ?_)
  replace h := h M9 eM9
  refine G_sub [0, 1, 2, 3, 4] (lv' := [(0, .ref (adr ω 128)), (1, .int l1), (2, .int l2), (3, .int l3), (4, .int l4)]) rfl ?_
  exact s_X10_findOdds_J247 C R k74 h
set_option maxRecDepth 100000 in
set_option maxHeartbeats 4000000 in
theorem s_X10_findOdds_J225 {ω : WD} {ρ : FR} {post : Mem → Prop} (C : Cx ω ρ cX10_findOdds RX10 6 9) (R : RtV ω ρ cX10_findOdds post) {K74 : Int32 → Mem → Prop} {l1 : Int32} {l2 : Int32} {l3 : Int32} {l4 : Int32} {l5 : Int64} {s1 : Int64} (k74 : ∀ (u4 : Int32) (M : Mem), K74 u4 M → G ω ρ M 74 [(0, .ref (adr ω 128)), (1, .int l1), (2, .int l2), (3, .int l3), (4, .int u4)] []) {M : Mem} (h : w_X10_findOdds_J225 post K74 l1 l2 l3 l4 l5 s1 M) : G ω ρ M 225 [(0, .ref (adr ω 128)), (1, .int l1), (2, .int l2), (3, .int l3), (4, .int l4), (5, .long l5)] [.long s1, .ref (adr ω 128)] := by
  refine G_lconst (v := 0) C dX10_findOdds_225 (by decide) ?_
  exact s_X10_findOdds_J226 C R k74 h
set_option maxRecDepth 100000 in
set_option maxHeartbeats 4000000 in
theorem s_X10_findOdds_L94 {ω : WD} {ρ : FR} {post : Mem → Prop} (C : Cx ω ρ cX10_findOdds RX10 6 9) (R : RtV ω ρ cX10_findOdds post) {K74 : Int32 → Mem → Prop} {l1 : Int32} {l2 : Int32} {l3 : Int32} {l4 : Int32} (k74 : ∀ (u4 : Int32) (M : Mem), K74 u4 M → G ω ρ M 74 [(0, .ref (adr ω 128)), (1, .int l1), (2, .int l2), (3, .int l3), (4, .int u4)] []) : ∀ (f : Nat) (l5 : Int64) (l7 : Int32) (M : Mem), w_X10_findOdds_L94 post K74 l1 l2 l3 l4 f l5 l7 M → G ω ρ M 94 [(0, .ref (adr ω 128)), (1, .int l1), (2, .int l2), (3, .int l3), (4, .int l4), (5, .long l5), (7, .int l7)] [] := by
  intro f
  induction f with
  | zero => intro l5 l7 M h; exact False.elim h
  | succ f k94 =>
    intro l5 l7 M h
    refine G_iload C dX10_findOdds_94 6 rfl ?_
    refine G_aload_n C dX10_findOdds_96 0 rfl ?_
    refine gf_X10_7 C dX10_findOdds_97 ?_
    refine G_bipush (v := 66) C dX10_findOdds_100 (by decide) ?_
    refine G_iald C q129 (vp_lit rfl) (kk := 66) (by decide +kernel) dX10_findOdds_102 ?_
    obtain ⟨h1, h2⟩ := h
    refine G_icmp_ge (tgt := 182) C dX10_findOdds_103 (by decide) (fun c => ?_) (fun c => ?_)
    · have h := h1 c
      clear h1 h2
      refine G_lload C dX10_findOdds_182 5 rfl ?_
      refine G_lconst (v := 0) C dX10_findOdds_184 (by decide) ?_
      refine G_lcmp C dX10_findOdds_185 ?_
      obtain ⟨h1, h2⟩ := h
      refine G_if_le (tgt := 247) C dX10_findOdds_186 (by decide) (fun c => ?_) (fun c => ?_)
      · have h := h1 c
        clear h1 h2
        refine G_sub [0, 1, 2, 3, 4] (lv' := [(0, .ref (adr ω 128)), (1, .int l1), (2, .int l2), (3, .int l3), (4, .int l4)]) rfl ?_
        exact s_X10_findOdds_J247 C R k74 h
      · have h := h2 c
        clear h1 h2
        refine G_aload_n C dX10_findOdds_189 0 rfl ?_
        refine G_callV (As := []) (rest := []) C dX10_findOdds_190 lk_X10_209 (Nat.le_of_ble_eq_true rfl) (Nat.le_of_ble_eq_true rfl) q128 (by decide) rfl (Nat.le_of_ble_eq_true rfl) rfl (S_X10_starts h) (fun M10 h => ?_)
        refine G_aload_n C dX10_findOdds_193 0 rfl ?_
        refine G_iload C dX10_findOdds_194 4 rfl ?_
        refine G_callV (As := [.int l4]) (rest := []) C dX10_findOdds_196 lk_X10_241 (Nat.le_of_ble_eq_true rfl) (Nat.le_of_ble_eq_true rfl) q128 (by decide) rfl (Nat.le_of_ble_eq_true rfl) rfl (S_X10_planGoes h) (fun M11 h => ?_)
        refine G_aload_n C dX10_findOdds_199 0 rfl ?_
        refine G_dup C dX10_findOdds_200 rfl ?_
        refine gf_X10_269 C dX10_findOdds_201 ?_
        refine G_iload_n C dX10_findOdds_204 2 rfl ?_
        refine G_bipush (v := (-4)) C dX10_findOdds_205 (by decide) ?_
        obtain ⟨h1, h2⟩ := h
        refine G_icmp_eq (tgt := 225) C dX10_findOdds_207 (by decide) (fun c => ?_) (fun c => ?_)
        · have h := h1 c
          clear h1 h2
          refine G_sub [0, 1, 2, 3, 4, 5] (lv' := [(0, .ref (adr ω 128)), (1, .int l1), (2, .int l2), (3, .int l3), (4, .int l4), (5, .long l5)]) rfl ?_
          exact s_X10_findOdds_J225 C R k74 h
        · have h := h2 c
          clear h1 h2
          refine G_aload_n C dX10_findOdds_210 0 rfl ?_
          refine G_iload_n C dX10_findOdds_211 2 rfl ?_
          refine G_iconst (v := 1) C dX10_findOdds_212 (by decide) ?_
          refine G_callI (As := [.int l2, .int 1]) (rest := [.long (rl M11 19), .ref (adr ω 128)]) C dX10_findOdds_213 lk_X10_157 (Nat.le_of_ble_eq_true rfl) (Nat.le_of_ble_eq_true rfl) q128 (by decide) rfl (Nat.le_of_ble_eq_true rfl) rfl (S_X10_of h) (fun r13 M12 h => ?_)
          refine G_iload_n C dX10_findOdds_216 3 rfl ?_
          obtain ⟨h1, h2⟩ := h
          refine G_icmp_ne (tgt := 225) C dX10_findOdds_217 (by decide) (fun c => ?_) (fun c => ?_)
          · have h := h1 c
            clear h1 h2
            refine G_sub [0, 1, 2, 3, 4, 5] (lv' := [(0, .ref (adr ω 128)), (1, .int l1), (2, .int l2), (3, .int l3), (4, .int l4), (5, .long l5)]) rfl ?_
            exact s_X10_findOdds_J225 C R k74 h
          · have h := h2 c
            clear h1 h2
            refine G_lload C dX10_findOdds_220 5 rfl ?_
            refine G_goto (tgt := 226) C dX10_findOdds_222 (by decide) ?_
            refine G_sub [0, 1, 2, 3, 4, 5] (lv' := [(0, .ref (adr ω 128)), (1, .int l1), (2, .int l2), (3, .int l3), (4, .int l4), (5, .long l5)]) rfl ?_
            exact s_X10_findOdds_J226 C R k74 h
    · have h := h2 c
      clear h1 h2
      refine G_iload C dX10_findOdds_106 4 rfl ?_
      refine G_iload C dX10_findOdds_108 6 rfl ?_
      refine G_ishr C dX10_findOdds_110 ?_
      refine G_iconst (v := 1) C dX10_findOdds_111 (by decide) ?_
      refine G_iand C dX10_findOdds_112 ?_
      refine G_iconst (v := 1) C dX10_findOdds_113 (by decide) ?_
      obtain ⟨h1, h2⟩ := h
      refine G_icmp_ne (tgt := 121) C dX10_findOdds_114 (by decide) (fun c => ?_) (fun c => ?_)
      · have h := h1 c
        clear h1 h2
        refine G_iconst (v := 0) C dX10_findOdds_121 (by decide) ?_
        exact s_X10_findOdds_J122 C R k74 k94 h
      · have h := h2 c
        clear h1 h2
        refine G_iconst (v := 1) C dX10_findOdds_117 (by decide) ?_
        refine G_goto (tgt := 122) C dX10_findOdds_118 (by decide) ?_
        exact s_X10_findOdds_J122 C R k74 k94 h
set_option maxRecDepth 100000 in
set_option maxHeartbeats 4000000 in
theorem s_X10_findOdds_L74 {ω : WD} {ρ : FR} {post : Mem → Prop} (C : Cx ω ρ cX10_findOdds RX10 6 9) (R : RtV ω ρ cX10_findOdds post) {l1 : Int32} {l2 : Int32} {l3 : Int32} : ∀ (f : Nat) (l4 : Int32) (M : Mem), w_X10_findOdds_L74 post l1 l2 l3 f l4 M → G ω ρ M 74 [(0, .ref (adr ω 128)), (1, .int l1), (2, .int l2), (3, .int l3), (4, .int l4)] [] := by
  intro f
  induction f with
  | zero => intro l4 M h; exact False.elim h
  | succ f k74 =>
    intro l4 M h
    refine G_iload C dX10_findOdds_74 4 rfl ?_
    refine G_iconst (v := 1) C dX10_findOdds_76 (by decide) ?_
    refine G_aload_n C dX10_findOdds_77 0 rfl ?_
    refine gf_X10_7 C dX10_findOdds_78 ?_
    refine G_bipush (v := 66) C dX10_findOdds_81 (by decide) ?_
    refine G_iald C q129 (vp_lit rfl) (kk := 66) (by decide +kernel) dX10_findOdds_83 ?_
    refine G_ishl C dX10_findOdds_84 ?_
    obtain ⟨h1, h2⟩ := h
    refine G_icmp_ge (tgt := 253) C dX10_findOdds_85 (by decide) (fun c => ?_) (fun c => ?_)
    · have h := h1 c
      clear h1 h2
      exact R 253 _ _ dX10_findOdds_253 h
    · have h := h2 c
      clear h1 h2
      refine G_lconst (v := 1) C dX10_findOdds_88 (by decide) ?_
      refine G_lstore C dX10_findOdds_89 (by decide) (lv' := [(5, .long 1), (0, .ref (adr ω 128)), (1, .int l1), (2, .int l2), (3, .int l3), (4, .int l4)]) rfl ?_
      refine G_iconst (v := 0) C dX10_findOdds_91 (by decide) ?_
      refine G_istore C dX10_findOdds_92 (by decide) (lv' := [(7, .int 0), (5, .long 1), (0, .ref (adr ω 128)), (1, .int l1), (2, .int l2), (3, .int l3), (4, .int l4)]) rfl ?_
      refine G_sub [2, 3, 4, 5, 6, 1, 0] (lv' := [(0, .ref (adr ω 128)), (1, .int l1), (2, .int l2), (3, .int l3), (4, .int l4), (5, .long 1), (7, .int 0)]) rfl ?_
      obtain ⟨f, h⟩ := h
      exact s_X10_findOdds_L94 C R k74 f _ _ _ h
set_option maxRecDepth 100000 in
set_option maxHeartbeats 4000000 in
theorem s_X10_findOdds_L18 {ω : WD} {ρ : FR} {post : Mem → Prop} (C : Cx ω ρ cX10_findOdds RX10 6 9) (R : RtV ω ρ cX10_findOdds post) {l1 : Int32} {l2 : Int32} {l3 : Int32} : ∀ (f : Nat) (l4 : Int32) (M : Mem), w_X10_findOdds_L18 post l1 l2 l3 f l4 M → G ω ρ M 18 [(0, .ref (adr ω 128)), (1, .int l1), (2, .int l2), (3, .int l3), (4, .int l4)] [] := by
  intro f
  induction f with
  | zero => intro l4 M h; exact False.elim h
  | succ f k18 =>
    intro l4 M h
    refine G_iload C dX10_findOdds_18 4 rfl ?_
    refine G_aload_n C dX10_findOdds_20 0 rfl ?_
    refine gf_X10_7 C dX10_findOdds_21 ?_
    refine G_bipush (v := 66) C dX10_findOdds_24 (by decide) ?_
    refine G_iald C q129 (vp_lit rfl) (kk := 66) (by decide +kernel) dX10_findOdds_26 ?_
    obtain ⟨h1, h2⟩ := h
    refine G_icmp_ge (tgt := 71) C dX10_findOdds_27 (by decide) (fun c => ?_) (fun c => ?_)
    · have h := h1 c
      clear h1 h2
      refine G_iconst (v := 0) C dX10_findOdds_71 (by decide) ?_
      refine G_istore C dX10_findOdds_72 (by decide) (lv' := [(4, .int 0), (0, .ref (adr ω 128)), (1, .int l1), (2, .int l2), (3, .int l3)]) rfl ?_
      refine G_sub [1, 2, 3, 4, 0] (lv' := [(0, .ref (adr ω 128)), (1, .int l1), (2, .int l2), (3, .int l3), (4, .int 0)]) rfl ?_
      obtain ⟨f, h⟩ := h
      exact s_X10_findOdds_L74 C R  f _ _ h
    · have h := h2 c
      clear h1 h2
      refine G_aload_n C dX10_findOdds_30 0 rfl ?_
      refine G_dup C dX10_findOdds_31 rfl ?_
      refine gf_X10_276 C dX10_findOdds_32 ?_
      refine G_aload_n C dX10_findOdds_35 0 rfl ?_
      refine gf_X10_7 C dX10_findOdds_36 ?_
      refine G_bipush (v := 67) C dX10_findOdds_39 (by decide) ?_
      refine G_iconst (v := 2) C dX10_findOdds_41 (by decide) ?_
      refine G_iload C dX10_findOdds_42 4 rfl ?_
      refine G_imul C dX10_findOdds_44 ?_
      refine G_iadd C dX10_findOdds_45 ?_
      refine G_iconst (v := 1) C dX10_findOdds_46 (by decide) ?_
      refine G_iadd C dX10_findOdds_47 ?_
      obtain ⟨hi, h⟩ := h
      refine G_iald C q129 hi rfl dX10_findOdds_48 ?_
      refine G_bipush (v := 99) C dX10_findOdds_49 (by decide) ?_
      obtain ⟨h1, h2⟩ := h
      refine G_icmp_ne (tgt := 58) C dX10_findOdds_51 (by decide) (fun c => ?_) (fun c => ?_)
      · have h := h1 c
        clear h1 h2
        refine G_ldc2 (v := 10) C dX10_findOdds_58 (tb_of 1368 ⟨by decide +kernel, rfl⟩) ?_
        exact s_X10_findOdds_J61 C R k18 h
      · have h := h2 c
        clear h1 h2
        refine G_lconst (v := 1) C dX10_findOdds_54 (by decide) ?_
        refine G_goto (tgt := 61) C dX10_findOdds_55 (by decide) ?_
        exact s_X10_findOdds_J61 C R k18 h
set_option maxRecDepth 100000 in
set_option maxHeartbeats 4000000 in
theorem S_X10_findOdds {ω : WD} {l1 : Int32} {l2 : Int32} {l3 : Int32} {M : Mem} {post : Mem → Prop} (h : w_X10_findOdds l1 l2 l3 M post) : MtV ω yX10_findOdds cX10_findOdds 9 none 6 [.ref (adr ω 128), .int l1, .int l2, .int l3] M post := by
  refine MtV.start rfl (by decide +kernel) (own := RX10) rfl (Nat.le_of_ble_eq_true rfl) (fun ρ C R => ?_)
  show G ω ρ M 0 [(0, .ref (adr ω 128)), (1, .int l1), (2, .int l2), (3, .int l3)] []
  refine G_aload_n C dX10_findOdds_0 0 rfl ?_
  refine G_lconst (v := 0) C dX10_findOdds_1 (by decide) ?_
  refine pf_X10_269 C dX10_findOdds_2 (fun M14 eM14 => ?_)
  replace h := h M14 eM14
  refine G_aload_n C dX10_findOdds_5 0 rfl ?_
  refine G_lconst (v := 0) C dX10_findOdds_6 (by decide) ?_
  refine pf_X10_273 C dX10_findOdds_7 (fun M15 eM15 => ?_)
  replace h := h M15 eM15
  refine G_aload_n C dX10_findOdds_10 0 rfl ?_
  refine G_lconst (v := 1) C dX10_findOdds_11 (by decide) ?_
  refine pf_X10_276 C dX10_findOdds_12 (fun M16 eM16 => ?_)
  replace h := h M16 eM16
  refine G_iconst (v := 0) C dX10_findOdds_15 (by decide) ?_
  refine G_istore C dX10_findOdds_16 (by decide) (lv' := [(4, .int 0), (0, .ref (adr ω 128)), (1, .int l1), (2, .int l2), (3, .int l3)]) rfl ?_
  refine G_sub [1, 2, 3, 4, 0] (lv' := [(0, .ref (adr ω 128)), (1, .int l1), (2, .int l2), (3, .int l3), (4, .int 0)]) rfl ?_
  obtain ⟨f, h⟩ := h
  exact s_X10_findOdds_L18 C R  f _ _ h
theorem dX10_luck_0 : decode cX10_luck 0 = .ok (.iload_n 1, 1) := by decide +kernel
theorem dX10_luck_1 : decode cX10_luck 1 = .ok (.i2l, 1) := by decide +kernel
theorem dX10_luck_2 : decode cX10_luck 2 = .ok (.lconst 0, 1) := by decide +kernel
theorem dX10_luck_3 : decode cX10_luck 3 = .ok (.ldc2_w 279, 3) := by decide +kernel
theorem dX10_luck_6 : decode cX10_luck 6 = .ok (.invokestatic 52, 3) := by decide +kernel
theorem dX10_luck_9 : decode cX10_luck 9 = .ok (.ifCond .eq 32, 3) := by decide +kernel
theorem dX10_luck_12 : decode cX10_luck 12 = .ok (.aload_n 0, 1) := by decide +kernel
theorem dX10_luck_13 : decode cX10_luck 13 = .ok (.iload_n 2, 1) := by decide +kernel
theorem dX10_luck_14 : decode cX10_luck 14 = .ok (.invokevirtual 215, 3) := by decide +kernel
theorem dX10_luck_17 : decode cX10_luck 17 = .ok (.ifCond .eq 24, 3) := by decide +kernel
theorem dX10_luck_20 : decode cX10_luck 20 = .ok (.aload_n 0, 1) := by decide +kernel
theorem dX10_luck_21 : decode cX10_luck 21 = .ok (.iload_n 3, 1) := by decide +kernel
theorem dX10_luck_22 : decode cX10_luck 22 = .ok (.invokevirtual 215, 3) := by decide +kernel
theorem dX10_luck_25 : decode cX10_luck 25 = .ok (.ifCond .eq 16, 3) := by decide +kernel
theorem dX10_luck_28 : decode cX10_luck 28 = .ok (.iload_n 2, 1) := by decide +kernel
theorem dX10_luck_29 : decode cX10_luck 29 = .ok (.iload_n 3, 1) := by decide +kernel
theorem dX10_luck_30 : decode cX10_luck 30 = .ok (.if_icmp .eq 11, 3) := by decide +kernel
theorem dX10_luck_33 : decode cX10_luck 33 = .ok (.iload 4, 2) := by decide +kernel
theorem dX10_luck_35 : decode cX10_luck 35 = .ok (.invokestatic 226, 3) := by decide +kernel
theorem dX10_luck_38 : decode cX10_luck 38 = .ok (.ifCond .ne 7, 3) := by decide +kernel
theorem dX10_luck_41 : decode cX10_luck 41 = .ok (.ldc2_w 281, 3) := by decide +kernel
theorem dX10_luck_44 : decode cX10_luck 44 = .ok (.lreturn, 1) := by decide +kernel
theorem dX10_luck_45 : decode cX10_luck 45 = .ok (.aload_n 0, 1) := by decide +kernel
theorem dX10_luck_46 : decode cX10_luck 46 = .ok (.iload_n 1, 1) := by decide +kernel
theorem dX10_luck_47 : decode cX10_luck 47 = .ok (.iload_n 2, 1) := by decide +kernel
theorem dX10_luck_48 : decode cX10_luck 48 = .ok (.iload_n 3, 1) := by decide +kernel
theorem dX10_luck_49 : decode cX10_luck 49 = .ok (.invokevirtual 283, 3) := by decide +kernel
theorem dX10_luck_52 : decode cX10_luck 52 = .ok (.aload_n 0, 1) := by decide +kernel
theorem dX10_luck_53 : decode cX10_luck 53 = .ok (.getfield 269, 3) := by decide +kernel
theorem dX10_luck_56 : decode cX10_luck 56 = .ok (.aload_n 0, 1) := by decide +kernel
theorem dX10_luck_57 : decode cX10_luck 57 = .ok (.getfield 276, 3) := by decide +kernel
theorem dX10_luck_60 : decode cX10_luck 60 = .ok (.iload 4, 2) := by decide +kernel
theorem dX10_luck_62 : decode cX10_luck 62 = .ok (.invokestatic 286, 3) := by decide +kernel
theorem dX10_luck_65 : decode cX10_luck 65 = .ok (.lreturn, 1) := by decide +kernel
theorem lk_X10_283 : LkV RX10 283 RX10 yX10_findOdds cX10_findOdds 9 none 3 := LkV.of 1370 1372 56 71 1373 (by decide +kernel) (by decide +kernel) (by decide +kernel) (by decide +kernel) (by decide +kernel) (by decide +kernel)
theorem lk_X10_286 : LkS RX10 286 yX10_told cX10_told 7 (some .long) 3 := LkS.of 1374 1375 71 1376 (by decide +kernel) (by decide +kernel) (by decide +kernel) (by decide +kernel) (by decide +kernel)
set_option maxRecDepth 100000 in
set_option maxHeartbeats 4000000 in
theorem S_X10_luck {ω : WD} {l1 : Int32} {l2 : Int32} {l3 : Int32} {l4 : Int32} {M : Mem} {post : Int64 → Mem → Prop} (h : w_X10_luck l1 l2 l3 l4 M post) : MtL ω yX10_luck cX10_luck 5 (some .long) 7 [.ref (adr ω 128), .int l1, .int l2, .int l3, .int l4] M post := by
  refine MtL.start rfl (by decide +kernel) (own := RX10) rfl (Nat.le_of_ble_eq_true rfl) (fun ρ C R => ?_)
  show G ω ρ M 0 [(0, .ref (adr ω 128)), (1, .int l1), (2, .int l2), (3, .int l3), (4, .int l4)] []
  refine G_iload_n C dX10_luck_0 1 rfl ?_
  refine G_i2l C dX10_luck_1 ?_
  refine G_lconst (v := 0) C dX10_luck_2 (by decide) ?_
  refine G_ldc2 (v := 10) C dX10_luck_3 (tb_of 1368 ⟨by decide +kernel, rfl⟩) ?_
  refine G_scallI (As := [.long ((l1).toInt64), .long 0, .long 10]) (rest := []) C dX10_luck_6 lk_X10_52 (Nat.le_of_ble_eq_true rfl) (Nat.le_of_ble_eq_true rfl) (Nat.le_of_ble_eq_true rfl) rfl (S_X10_in h) (fun r2 M1 h => ?_)
  obtain ⟨h1, h2⟩ := h
  refine G_if_eq (tgt := 41) C dX10_luck_9 (by decide) (fun c => ?_) (fun c => ?_)
  · have h := h1 c
    clear h1 h2
    refine G_ldc2 (v := (-1)) C dX10_luck_41 (tb_of 1369 ⟨by decide +kernel, rfl⟩) ?_
    exact R 44 _ _ _ dX10_luck_44 h
  · have h := h2 c
    clear h1 h2
    refine G_aload_n C dX10_luck_12 0 rfl ?_
    refine G_iload_n C dX10_luck_13 2 rfl ?_
    refine G_callI (As := [.int l2]) (rest := []) C dX10_luck_14 lk_X10_215 (Nat.le_of_ble_eq_true rfl) (Nat.le_of_ble_eq_true rfl) q128 (by decide) rfl (Nat.le_of_ble_eq_true rfl) rfl (S_X10_isOne h) (fun r4 M3 h => ?_)
    obtain ⟨h1, h2⟩ := h
    refine G_if_eq (tgt := 41) C dX10_luck_17 (by decide) (fun c => ?_) (fun c => ?_)
    · have h := h1 c
      clear h1 h2
      refine G_ldc2 (v := (-1)) C dX10_luck_41 (tb_of 1369 ⟨by decide +kernel, rfl⟩) ?_
      exact R 44 _ _ _ dX10_luck_44 h
    · have h := h2 c
      clear h1 h2
      refine G_aload_n C dX10_luck_20 0 rfl ?_
      refine G_iload_n C dX10_luck_21 3 rfl ?_
      refine G_callI (As := [.int l3]) (rest := []) C dX10_luck_22 lk_X10_215 (Nat.le_of_ble_eq_true rfl) (Nat.le_of_ble_eq_true rfl) q128 (by decide) rfl (Nat.le_of_ble_eq_true rfl) rfl (S_X10_isOne h) (fun r6 M5 h => ?_)
      obtain ⟨h1, h2⟩ := h
      refine G_if_eq (tgt := 41) C dX10_luck_25 (by decide) (fun c => ?_) (fun c => ?_)
      · have h := h1 c
        clear h1 h2
        refine G_ldc2 (v := (-1)) C dX10_luck_41 (tb_of 1369 ⟨by decide +kernel, rfl⟩) ?_
        exact R 44 _ _ _ dX10_luck_44 h
      · have h := h2 c
        clear h1 h2
        refine G_iload_n C dX10_luck_28 2 rfl ?_
        refine G_iload_n C dX10_luck_29 3 rfl ?_
        obtain ⟨h1, h2⟩ := h
        refine G_icmp_eq (tgt := 41) C dX10_luck_30 (by decide) (fun c => ?_) (fun c => ?_)
        · have h := h1 c
          clear h1 h2
          refine G_ldc2 (v := (-1)) C dX10_luck_41 (tb_of 1369 ⟨by decide +kernel, rfl⟩) ?_
          exact R 44 _ _ _ dX10_luck_44 h
        · have h := h2 c
          clear h1 h2
          refine G_iload C dX10_luck_33 4 rfl ?_
          refine G_scallI (As := [.int l4]) (rest := []) C dX10_luck_35 lk_X10_226 (Nat.le_of_ble_eq_true rfl) (Nat.le_of_ble_eq_true rfl) (Nat.le_of_ble_eq_true rfl) rfl (S_X10_isPart h) (fun r8 M7 h => ?_)
          obtain ⟨h1, h2⟩ := h
          refine G_if_ne (tgt := 45) C dX10_luck_38 (by decide) (fun c => ?_) (fun c => ?_)
          · have h := h1 c
            clear h1 h2
            refine G_aload_n C dX10_luck_45 0 rfl ?_
            refine G_iload_n C dX10_luck_46 1 rfl ?_
            refine G_iload_n C dX10_luck_47 2 rfl ?_
            refine G_iload_n C dX10_luck_48 3 rfl ?_
            refine G_callV (As := [.int l1, .int l2, .int l3]) (rest := []) C dX10_luck_49 lk_X10_283 (Nat.le_of_ble_eq_true rfl) (Nat.le_of_ble_eq_true rfl) q128 (by decide) rfl (Nat.le_of_ble_eq_true rfl) rfl (S_X10_findOdds h) (fun M9 h => ?_)
            refine G_aload_n C dX10_luck_52 0 rfl ?_
            refine gf_X10_269 C dX10_luck_53 ?_
            refine G_aload_n C dX10_luck_56 0 rfl ?_
            refine gf_X10_276 C dX10_luck_57 ?_
            refine G_iload C dX10_luck_60 4 rfl ?_
            refine G_scallL (As := [.long (rl M9 19), .long (rl M9 21), .int l4]) (rest := []) C dX10_luck_62 lk_X10_286 (Nat.le_of_ble_eq_true rfl) (Nat.le_of_ble_eq_true rfl) (Nat.le_of_ble_eq_true rfl) rfl (S_X10_told h) (fun r11 M10 h => ?_)
            exact R 65 _ _ _ dX10_luck_65 h
          · have h := h2 c
            clear h1 h2
            refine G_ldc2 (v := (-1)) C dX10_luck_41 (tb_of 1369 ⟨by decide +kernel, rfl⟩) ?_
            exact R 44 _ _ _ dX10_luck_44 h
theorem dX10_mean_0 : decode cX10_mean 0 = .ok (.iload_n 1, 1) := by decide +kernel
theorem dX10_mean_1 : decode cX10_mean 1 = .ok (.i2l, 1) := by decide +kernel
theorem dX10_mean_2 : decode cX10_mean 2 = .ok (.lconst 0, 1) := by decide +kernel
theorem dX10_mean_3 : decode cX10_mean 3 = .ok (.ldc2_w 279, 3) := by decide +kernel
theorem dX10_mean_6 : decode cX10_mean 6 = .ok (.invokestatic 52, 3) := by decide +kernel
theorem dX10_mean_9 : decode cX10_mean 9 = .ok (.ifCond .eq 10, 3) := by decide +kernel
theorem dX10_mean_12 : decode cX10_mean 12 = .ok (.iload_n 2, 1) := by decide +kernel
theorem dX10_mean_13 : decode cX10_mean 13 = .ok (.invokestatic 226, 3) := by decide +kernel
theorem dX10_mean_16 : decode cX10_mean 16 = .ok (.ifCond .ne 7, 3) := by decide +kernel
theorem dX10_mean_19 : decode cX10_mean 19 = .ok (.ldc2_w 281, 3) := by decide +kernel
theorem dX10_mean_22 : decode cX10_mean 22 = .ok (.lreturn, 1) := by decide +kernel
theorem dX10_mean_23 : decode cX10_mean 23 = .ok (.aload_n 0, 1) := by decide +kernel
theorem dX10_mean_24 : decode cX10_mean 24 = .ok (.iload_n 1, 1) := by decide +kernel
theorem dX10_mean_25 : decode cX10_mean 25 = .ok (.bipush (-4), 2) := by decide +kernel
theorem dX10_mean_27 : decode cX10_mean 27 = .ok (.iconst 0, 1) := by decide +kernel
theorem dX10_mean_28 : decode cX10_mean 28 = .ok (.invokevirtual 283, 3) := by decide +kernel
theorem dX10_mean_31 : decode cX10_mean 31 = .ok (.aload_n 0, 1) := by decide +kernel
theorem dX10_mean_32 : decode cX10_mean 32 = .ok (.getfield 273, 3) := by decide +kernel
theorem dX10_mean_35 : decode cX10_mean 35 = .ok (.aload_n 0, 1) := by decide +kernel
theorem dX10_mean_36 : decode cX10_mean 36 = .ok (.getfield 276, 3) := by decide +kernel
theorem dX10_mean_39 : decode cX10_mean 39 = .ok (.iload_n 2, 1) := by decide +kernel
theorem dX10_mean_40 : decode cX10_mean 40 = .ok (.invokestatic 286, 3) := by decide +kernel
theorem dX10_mean_43 : decode cX10_mean 43 = .ok (.lreturn, 1) := by decide +kernel
set_option maxRecDepth 100000 in
set_option maxHeartbeats 4000000 in
theorem S_X10_mean {ω : WD} {l1 : Int32} {l2 : Int32} {M : Mem} {post : Int64 → Mem → Prop} (h : w_X10_mean l1 l2 M post) : MtL ω yX10_mean cX10_mean 3 (some .long) 7 [.ref (adr ω 128), .int l1, .int l2] M post := by
  refine MtL.start rfl (by decide +kernel) (own := RX10) rfl (Nat.le_of_ble_eq_true rfl) (fun ρ C R => ?_)
  show G ω ρ M 0 [(0, .ref (adr ω 128)), (1, .int l1), (2, .int l2)] []
  refine G_iload_n C dX10_mean_0 1 rfl ?_
  refine G_i2l C dX10_mean_1 ?_
  refine G_lconst (v := 0) C dX10_mean_2 (by decide) ?_
  refine G_ldc2 (v := 10) C dX10_mean_3 (tb_of 1368 ⟨by decide +kernel, rfl⟩) ?_
  refine G_scallI (As := [.long ((l1).toInt64), .long 0, .long 10]) (rest := []) C dX10_mean_6 lk_X10_52 (Nat.le_of_ble_eq_true rfl) (Nat.le_of_ble_eq_true rfl) (Nat.le_of_ble_eq_true rfl) rfl (S_X10_in h) (fun r2 M1 h => ?_)
  obtain ⟨h1, h2⟩ := h
  refine G_if_eq (tgt := 19) C dX10_mean_9 (by decide) (fun c => ?_) (fun c => ?_)
  · have h := h1 c
    clear h1 h2
    refine G_ldc2 (v := (-1)) C dX10_mean_19 (tb_of 1369 ⟨by decide +kernel, rfl⟩) ?_
    exact R 22 _ _ _ dX10_mean_22 h
  · have h := h2 c
    clear h1 h2
    refine G_iload_n C dX10_mean_12 2 rfl ?_
    refine G_scallI (As := [.int l2]) (rest := []) C dX10_mean_13 lk_X10_226 (Nat.le_of_ble_eq_true rfl) (Nat.le_of_ble_eq_true rfl) (Nat.le_of_ble_eq_true rfl) rfl (S_X10_isPart h) (fun r4 M3 h => ?_)
    obtain ⟨h1, h2⟩ := h
    refine G_if_ne (tgt := 23) C dX10_mean_16 (by decide) (fun c => ?_) (fun c => ?_)
    · have h := h1 c
      clear h1 h2
      refine G_aload_n C dX10_mean_23 0 rfl ?_
      refine G_iload_n C dX10_mean_24 1 rfl ?_
      refine G_bipush (v := (-4)) C dX10_mean_25 (by decide) ?_
      refine G_iconst (v := 0) C dX10_mean_27 (by decide) ?_
      refine G_callV (As := [.int l1, .int (-4), .int 0]) (rest := []) C dX10_mean_28 lk_X10_283 (Nat.le_of_ble_eq_true rfl) (Nat.le_of_ble_eq_true rfl) q128 (by decide) rfl (Nat.le_of_ble_eq_true rfl) rfl (S_X10_findOdds h) (fun M5 h => ?_)
      refine G_aload_n C dX10_mean_31 0 rfl ?_
      refine gf_X10_273 C dX10_mean_32 ?_
      refine G_aload_n C dX10_mean_35 0 rfl ?_
      refine gf_X10_276 C dX10_mean_36 ?_
      refine G_iload_n C dX10_mean_39 2 rfl ?_
      refine G_scallL (As := [.long (rl M5 20), .long (rl M5 21), .int l2]) (rest := []) C dX10_mean_40 lk_X10_286 (Nat.le_of_ble_eq_true rfl) (Nat.le_of_ble_eq_true rfl) (Nat.le_of_ble_eq_true rfl) rfl (S_X10_told h) (fun r7 M6 h => ?_)
      exact R 43 _ _ _ dX10_mean_43 h
    · have h := h2 c
      clear h1 h2
      refine G_ldc2 (v := (-1)) C dX10_mean_19 (tb_of 1369 ⟨by decide +kernel, rfl⟩) ?_
      exact R 22 _ _ _ dX10_mean_22 h
theorem dX10_see_0 : decode cX10_see 0 = .ok (.iload_n 1, 1) := by decide +kernel
theorem dX10_see_1 : decode cX10_see 1 = .ok (.i2l, 1) := by decide +kernel
theorem dX10_see_2 : decode cX10_see 2 = .ok (.lconst 0, 1) := by decide +kernel
theorem dX10_see_3 : decode cX10_see 3 = .ok (.ldc2_w 290, 3) := by decide +kernel
theorem dX10_see_6 : decode cX10_see 6 = .ok (.invokestatic 52, 3) := by decide +kernel
theorem dX10_see_9 : decode cX10_see 9 = .ok (.ifCond .eq 15, 3) := by decide +kernel
theorem dX10_see_12 : decode cX10_see 12 = .ok (.iload_n 2, 1) := by decide +kernel
theorem dX10_see_13 : decode cX10_see 13 = .ok (.i2l, 1) := by decide +kernel
theorem dX10_see_14 : decode cX10_see 14 = .ok (.lconst 0, 1) := by decide +kernel
theorem dX10_see_15 : decode cX10_see 15 = .ok (.ldc2_w 232, 3) := by decide +kernel
theorem dX10_see_18 : decode cX10_see 18 = .ok (.invokestatic 52, 3) := by decide +kernel
theorem dX10_see_21 : decode cX10_see 21 = .ok (.ifCond .ne 5, 3) := by decide +kernel
theorem dX10_see_24 : decode cX10_see 24 = .ok (.iconst (-1), 1) := by decide +kernel
theorem dX10_see_25 : decode cX10_see 25 = .ok (.ireturn, 1) := by decide +kernel
theorem dX10_see_26 : decode cX10_see 26 = .ok (.aload_n 0, 1) := by decide +kernel
theorem dX10_see_27 : decode cX10_see 27 = .ok (.getfield 7, 3) := by decide +kernel
theorem dX10_see_30 : decode cX10_see 30 = .ok (.bipush 83, 2) := by decide +kernel
theorem dX10_see_32 : decode cX10_see 32 = .ok (.iaload, 1) := by decide +kernel
theorem dX10_see_33 : decode cX10_see 33 = .ok (.bipush 6, 2) := by decide +kernel
theorem dX10_see_35 : decode cX10_see 35 = .ok (.if_icmp .ne 6, 3) := by decide +kernel
theorem dX10_see_38 : decode cX10_see 38 = .ok (.bipush (-3), 2) := by decide +kernel
theorem dX10_see_40 : decode cX10_see 40 = .ok (.ireturn, 1) := by decide +kernel
theorem dX10_see_41 : decode cX10_see 41 = .ok (.bipush 84, 2) := by decide +kernel
theorem dX10_see_43 : decode cX10_see 43 = .ok (.iconst 2, 1) := by decide +kernel
theorem dX10_see_44 : decode cX10_see 44 = .ok (.aload_n 0, 1) := by decide +kernel
theorem dX10_see_45 : decode cX10_see 45 = .ok (.getfield 7, 3) := by decide +kernel
theorem dX10_see_48 : decode cX10_see 48 = .ok (.bipush 83, 2) := by decide +kernel
theorem dX10_see_50 : decode cX10_see 50 = .ok (.iaload, 1) := by decide +kernel
theorem dX10_see_51 : decode cX10_see 51 = .ok (.imul, 1) := by decide +kernel
theorem dX10_see_52 : decode cX10_see 52 = .ok (.iadd, 1) := by decide +kernel
theorem dX10_see_53 : decode cX10_see 53 = .ok (.istore_n 3, 1) := by decide +kernel
theorem dX10_see_54 : decode cX10_see 54 = .ok (.aload_n 0, 1) := by decide +kernel
theorem dX10_see_55 : decode cX10_see 55 = .ok (.getfield 7, 3) := by decide +kernel
theorem dX10_see_58 : decode cX10_see 58 = .ok (.iload_n 3, 1) := by decide +kernel
theorem dX10_see_59 : decode cX10_see 59 = .ok (.iload_n 1, 1) := by decide +kernel
theorem dX10_see_60 : decode cX10_see 60 = .ok (.iastore, 1) := by decide +kernel
theorem dX10_see_61 : decode cX10_see 61 = .ok (.aload_n 0, 1) := by decide +kernel
theorem dX10_see_62 : decode cX10_see 62 = .ok (.getfield 7, 3) := by decide +kernel
theorem dX10_see_65 : decode cX10_see 65 = .ok (.iload_n 3, 1) := by decide +kernel
theorem dX10_see_66 : decode cX10_see 66 = .ok (.iconst 1, 1) := by decide +kernel
theorem dX10_see_67 : decode cX10_see 67 = .ok (.iadd, 1) := by decide +kernel
theorem dX10_see_68 : decode cX10_see 68 = .ok (.iload_n 2, 1) := by decide +kernel
theorem dX10_see_69 : decode cX10_see 69 = .ok (.iastore, 1) := by decide +kernel
theorem dX10_see_70 : decode cX10_see 70 = .ok (.aload_n 0, 1) := by decide +kernel
theorem dX10_see_71 : decode cX10_see 71 = .ok (.getfield 7, 3) := by decide +kernel
theorem dX10_see_74 : decode cX10_see 74 = .ok (.bipush 83, 2) := by decide +kernel
theorem dX10_see_76 : decode cX10_see 76 = .ok (.dup2, 1) := by decide +kernel
theorem dX10_see_77 : decode cX10_see 77 = .ok (.iaload, 1) := by decide +kernel
theorem dX10_see_78 : decode cX10_see 78 = .ok (.iconst 1, 1) := by decide +kernel
theorem dX10_see_79 : decode cX10_see 79 = .ok (.iadd, 1) := by decide +kernel
theorem dX10_see_80 : decode cX10_see 80 = .ok (.iastore, 1) := by decide +kernel
theorem dX10_see_81 : decode cX10_see 81 = .ok (.aload_n 0, 1) := by decide +kernel
theorem dX10_see_82 : decode cX10_see 82 = .ok (.getfield 7, 3) := by decide +kernel
theorem dX10_see_85 : decode cX10_see 85 = .ok (.bipush 83, 2) := by decide +kernel
theorem dX10_see_87 : decode cX10_see 87 = .ok (.iaload, 1) := by decide +kernel
theorem dX10_see_88 : decode cX10_see 88 = .ok (.ireturn, 1) := by decide +kernel
set_option maxRecDepth 100000 in
set_option maxHeartbeats 4000000 in
theorem S_X10_see {ω : WD} {l1 : Int32} {l2 : Int32} {M : Mem} {post : Int32 → Mem → Prop} (h : w_X10_see l1 l2 M post) : MtI ω yX10_see cX10_see 4 (some .int) 1 [.ref (adr ω 128), .int l1, .int l2] M post := by
  refine MtI.start (ty := .int) rfl (by decide +kernel) (own := RX10) rfl (Nat.le_of_ble_eq_true rfl) (fun ρ C R => ?_)
  show G ω ρ M 0 [(0, .ref (adr ω 128)), (1, .int l1), (2, .int l2)] []
  refine G_iload_n C dX10_see_0 1 rfl ?_
  refine G_i2l C dX10_see_1 ?_
  refine G_lconst (v := 0) C dX10_see_2 (by decide) ?_
  refine G_ldc2 (v := 7) C dX10_see_3 (tb_of 1388 ⟨by decide +kernel, rfl⟩) ?_
  refine G_scallI (As := [.long ((l1).toInt64), .long 0, .long 7]) (rest := []) C dX10_see_6 lk_X10_52 (Nat.le_of_ble_eq_true rfl) (Nat.le_of_ble_eq_true rfl) (Nat.le_of_ble_eq_true rfl) rfl (S_X10_in h) (fun r2 M1 h => ?_)
  obtain ⟨h1, h2⟩ := h
  refine G_if_eq (tgt := 24) C dX10_see_9 (by decide) (fun c => ?_) (fun c => ?_)
  · have h := h1 c
    clear h1 h2
    refine G_iconst (v := (-1)) C dX10_see_24 (by decide) ?_
    exact R 25 _ _ _ dX10_see_25 rfl h
  · have h := h2 c
    clear h1 h2
    refine G_iload_n C dX10_see_12 2 rfl ?_
    refine G_i2l C dX10_see_13 ?_
    refine G_lconst (v := 0) C dX10_see_14 (by decide) ?_
    refine G_ldc2 (v := 6) C dX10_see_15 (tb_of 1235 ⟨by decide +kernel, rfl⟩) ?_
    refine G_scallI (As := [.long ((l2).toInt64), .long 0, .long 6]) (rest := []) C dX10_see_18 lk_X10_52 (Nat.le_of_ble_eq_true rfl) (Nat.le_of_ble_eq_true rfl) (Nat.le_of_ble_eq_true rfl) rfl (S_X10_in h) (fun r4 M3 h => ?_)
    obtain ⟨h1, h2⟩ := h
    refine G_if_ne (tgt := 26) C dX10_see_21 (by decide) (fun c => ?_) (fun c => ?_)
    · have h := h1 c
      clear h1 h2
      refine G_aload_n C dX10_see_26 0 rfl ?_
      refine gf_X10_7 C dX10_see_27 ?_
      refine G_bipush (v := 83) C dX10_see_30 (by decide) ?_
      refine G_iald C q129 (vp_lit rfl) (kk := 83) (by decide +kernel) dX10_see_32 ?_
      refine G_bipush (v := 6) C dX10_see_33 (by decide) ?_
      obtain ⟨h1, h2⟩ := h
      refine G_icmp_ne (tgt := 41) C dX10_see_35 (by decide) (fun c => ?_) (fun c => ?_)
      · have h := h1 c
        clear h1 h2
        refine G_bipush (v := 84) C dX10_see_41 (by decide) ?_
        refine G_iconst (v := 2) C dX10_see_43 (by decide) ?_
        refine G_aload_n C dX10_see_44 0 rfl ?_
        refine gf_X10_7 C dX10_see_45 ?_
        refine G_bipush (v := 83) C dX10_see_48 (by decide) ?_
        refine G_iald C q129 (vp_lit rfl) (kk := 83) (by decide +kernel) dX10_see_50 ?_
        refine G_imul C dX10_see_51 ?_
        refine G_iadd C dX10_see_52 ?_
        refine G_iname (fun v5 ev5 => ?_)
        replace h := h v5 ev5
        refine G_istore_n C dX10_see_53 (by decide) (lv' := [(3, .int v5), (0, .ref (adr ω 128)), (1, .int l1), (2, .int l2)]) rfl ?_
        refine G_aload_n C dX10_see_54 1 rfl ?_
        refine gf_X10_7 C dX10_see_55 ?_
        refine G_iload_n C dX10_see_58 0 rfl ?_
        refine G_iload_n C dX10_see_59 2 rfl ?_
        obtain ⟨hi, h⟩ := h
        refine G_iast C q129 hi rfl dX10_see_60 (G_mname (fun M6 eM6 => ?_))
        replace h := h M6 eM6
        refine G_aload_n C dX10_see_61 1 rfl ?_
        refine gf_X10_7 C dX10_see_62 ?_
        refine G_iload_n C dX10_see_65 0 rfl ?_
        refine G_iconst (v := 1) C dX10_see_66 (by decide) ?_
        refine G_iadd C dX10_see_67 ?_
        refine G_iload_n C dX10_see_68 3 rfl ?_
        obtain ⟨hi, h⟩ := h
        refine G_iast C q129 hi rfl dX10_see_69 (G_mname (fun M7 eM7 => ?_))
        replace h := h M7 eM7
        refine G_aload_n C dX10_see_70 1 rfl ?_
        refine gf_X10_7 C dX10_see_71 ?_
        refine G_bipush (v := 83) C dX10_see_74 (by decide) ?_
        refine G_dup2 C dX10_see_76 rfl rfl ?_
        refine G_iald C q129 (vp_lit rfl) (kk := 83) (by decide +kernel) dX10_see_77 ?_
        refine G_iconst (v := 1) C dX10_see_78 (by decide) ?_
        refine G_iadd C dX10_see_79 ?_
        refine G_iast C q129 (vp_lit rfl) (kk := 83) (by decide +kernel) dX10_see_80 (G_mname (fun M8 eM8 => ?_))
        replace h := h M8 eM8
        refine G_aload_n C dX10_see_81 1 rfl ?_
        refine gf_X10_7 C dX10_see_82 ?_
        refine G_bipush (v := 83) C dX10_see_85 (by decide) ?_
        refine G_iald C q129 (vp_lit rfl) (kk := 83) (by decide +kernel) dX10_see_87 ?_
        exact R 88 _ _ _ dX10_see_88 rfl h
      · have h := h2 c
        clear h1 h2
        refine G_bipush (v := (-3)) C dX10_see_38 (by decide) ?_
        exact R 40 _ _ _ dX10_see_40 rfl h
    · have h := h2 c
      clear h1 h2
      refine G_iconst (v := (-1)) C dX10_see_24 (by decide) ?_
      exact R 25 _ _ _ dX10_see_25 rfl h
theorem dX10_forget_0 : decode cX10_forget 0 = .ok (.iload_n 1, 1) := by decide +kernel
theorem dX10_forget_1 : decode cX10_forget 1 = .ok (.i2l, 1) := by decide +kernel
theorem dX10_forget_2 : decode cX10_forget 2 = .ok (.lconst 0, 1) := by decide +kernel
theorem dX10_forget_3 : decode cX10_forget 3 = .ok (.aload_n 0, 1) := by decide +kernel
theorem dX10_forget_4 : decode cX10_forget 4 = .ok (.getfield 7, 3) := by decide +kernel
theorem dX10_forget_7 : decode cX10_forget 7 = .ok (.bipush 83, 2) := by decide +kernel
theorem dX10_forget_9 : decode cX10_forget 9 = .ok (.iaload, 1) := by decide +kernel
theorem dX10_forget_10 : decode cX10_forget 10 = .ok (.i2l, 1) := by decide +kernel
theorem dX10_forget_11 : decode cX10_forget 11 = .ok (.invokestatic 52, 3) := by decide +kernel
theorem dX10_forget_14 : decode cX10_forget 14 = .ok (.ifCond .eq 13, 3) := by decide +kernel
theorem dX10_forget_17 : decode cX10_forget 17 = .ok (.aload_n 0, 1) := by decide +kernel
theorem dX10_forget_18 : decode cX10_forget 18 = .ok (.bipush 83, 2) := by decide +kernel
theorem dX10_forget_20 : decode cX10_forget 20 = .ok (.iload_n 1, 1) := by decide +kernel
theorem dX10_forget_21 : decode cX10_forget 21 = .ok (.invokevirtual 229, 3) := by decide +kernel
theorem dX10_forget_24 : decode cX10_forget 24 = .ok (.goto 4, 3) := by decide +kernel
theorem dX10_forget_27 : decode cX10_forget 27 = .ok (.iconst (-1), 1) := by decide +kernel
theorem dX10_forget_28 : decode cX10_forget 28 = .ok (.ireturn, 1) := by decide +kernel
set_option maxRecDepth 100000 in
set_option maxHeartbeats 4000000 in
theorem S_X10_forget {ω : WD} {l1 : Int32} {M : Mem} {post : Int32 → Mem → Prop} (h : w_X10_forget l1 M post) : MtI ω yX10_forget cX10_forget 2 (some .int) 1 [.ref (adr ω 128), .int l1] M post := by
  refine MtI.start (ty := .int) rfl (by decide +kernel) (own := RX10) rfl (Nat.le_of_ble_eq_true rfl) (fun ρ C R => ?_)
  show G ω ρ M 0 [(0, .ref (adr ω 128)), (1, .int l1)] []
  refine G_iload_n C dX10_forget_0 1 rfl ?_
  refine G_i2l C dX10_forget_1 ?_
  refine G_lconst (v := 0) C dX10_forget_2 (by decide) ?_
  refine G_aload_n C dX10_forget_3 0 rfl ?_
  refine gf_X10_7 C dX10_forget_4 ?_
  refine G_bipush (v := 83) C dX10_forget_7 (by decide) ?_
  refine G_iald C q129 (vp_lit rfl) (kk := 83) (by decide +kernel) dX10_forget_9 ?_
  refine G_i2l C dX10_forget_10 ?_
  refine G_scallI (As := [.long ((l1).toInt64), .long 0, .long (((rd M 129 83)).toInt64)]) (rest := []) C dX10_forget_11 lk_X10_52 (Nat.le_of_ble_eq_true rfl) (Nat.le_of_ble_eq_true rfl) (Nat.le_of_ble_eq_true rfl) rfl (S_X10_in h) (fun r2 M1 h => ?_)
  obtain ⟨h1, h2⟩ := h
  refine G_if_eq (tgt := 27) C dX10_forget_14 (by decide) (fun c => ?_) (fun c => ?_)
  · have h := h1 c
    clear h1 h2
    refine G_iconst (v := (-1)) C dX10_forget_27 (by decide) ?_
    exact R 28 _ _ _ dX10_forget_28 rfl h
  · have h := h2 c
    clear h1 h2
    refine G_aload_n C dX10_forget_17 0 rfl ?_
    refine G_bipush (v := 83) C dX10_forget_18 (by decide) ?_
    refine G_iload_n C dX10_forget_20 1 rfl ?_
    refine G_callI (As := [.int 83, .int l1]) (rest := []) C dX10_forget_21 lk_X10_229 (Nat.le_of_ble_eq_true rfl) (Nat.le_of_ble_eq_true rfl) q128 (by decide) rfl (Nat.le_of_ble_eq_true rfl) rfl (S_X10_becomes h) (fun r4 M3 h => ?_)
    refine G_goto (tgt := 28) C dX10_forget_24 (by decide) ?_
    exact R 28 _ _ _ dX10_forget_28 rfl h
theorem dX10_isSoWith_0 : decode cX10_isSoWith 0 = .ok (.aload_n 0, 1) := by decide +kernel
theorem dX10_isSoWith_1 : decode cX10_isSoWith 1 = .ok (.invokevirtual 209, 3) := by decide +kernel
theorem dX10_isSoWith_4 : decode cX10_isSoWith 4 = .ok (.aload_n 0, 1) := by decide +kernel
theorem dX10_isSoWith_5 : decode cX10_isSoWith 5 = .ok (.iload_n 1, 1) := by decide +kernel
theorem dX10_isSoWith_6 : decode cX10_isSoWith 6 = .ok (.iload_n 2, 1) := by decide +kernel
theorem dX10_isSoWith_7 : decode cX10_isSoWith 7 = .ok (.iload_n 3, 1) := by decide +kernel
theorem dX10_isSoWith_8 : decode cX10_isSoWith 8 = .ok (.invokevirtual 183, 3) := by decide +kernel
theorem dX10_isSoWith_11 : decode cX10_isSoWith 11 = .ok (.aload_n 0, 1) := by decide +kernel
theorem dX10_isSoWith_12 : decode cX10_isSoWith 12 = .ok (.iconst 0, 1) := by decide +kernel
theorem dX10_isSoWith_13 : decode cX10_isSoWith 13 = .ok (.invokevirtual 241, 3) := by decide +kernel
theorem dX10_isSoWith_16 : decode cX10_isSoWith 16 = .ok (.iconst 1, 1) := by decide +kernel
theorem dX10_isSoWith_17 : decode cX10_isSoWith 17 = .ok (.istore 4, 2) := by decide +kernel
theorem dX10_isSoWith_19 : decode cX10_isSoWith 19 = .ok (.iconst 0, 1) := by decide +kernel
theorem dX10_isSoWith_20 : decode cX10_isSoWith 20 = .ok (.istore 5, 2) := by decide +kernel
theorem dX10_isSoWith_22 : decode cX10_isSoWith 22 = .ok (.iload 5, 2) := by decide +kernel
theorem dX10_isSoWith_24 : decode cX10_isSoWith 24 = .ok (.aload_n 0, 1) := by decide +kernel
theorem dX10_isSoWith_25 : decode cX10_isSoWith 25 = .ok (.getfield 7, 3) := by decide +kernel
theorem dX10_isSoWith_28 : decode cX10_isSoWith 28 = .ok (.bipush 83, 2) := by decide +kernel
theorem dX10_isSoWith_30 : decode cX10_isSoWith 30 = .ok (.iaload, 1) := by decide +kernel
theorem dX10_isSoWith_31 : decode cX10_isSoWith 31 = .ok (.if_icmp .ge 71, 3) := by decide +kernel
theorem dX10_isSoWith_34 : decode cX10_isSoWith 34 = .ok (.aload_n 0, 1) := by decide +kernel
theorem dX10_isSoWith_35 : decode cX10_isSoWith 35 = .ok (.getfield 7, 3) := by decide +kernel
theorem dX10_isSoWith_38 : decode cX10_isSoWith 38 = .ok (.bipush 84, 2) := by decide +kernel
theorem dX10_isSoWith_40 : decode cX10_isSoWith 40 = .ok (.iconst 2, 1) := by decide +kernel
theorem dX10_isSoWith_41 : decode cX10_isSoWith 41 = .ok (.iload 5, 2) := by decide +kernel
theorem dX10_isSoWith_43 : decode cX10_isSoWith 43 = .ok (.imul, 1) := by decide +kernel
theorem dX10_isSoWith_44 : decode cX10_isSoWith 44 = .ok (.iadd, 1) := by decide +kernel
theorem dX10_isSoWith_45 : decode cX10_isSoWith 45 = .ok (.iaload, 1) := by decide +kernel
theorem dX10_isSoWith_46 : decode cX10_isSoWith 46 = .ok (.istore 6, 2) := by decide +kernel
theorem dX10_isSoWith_48 : decode cX10_isSoWith 48 = .ok (.iload 4, 2) := by decide +kernel
theorem dX10_isSoWith_50 : decode cX10_isSoWith 50 = .ok (.ifCond .eq 43, 3) := by decide +kernel
theorem dX10_isSoWith_53 : decode cX10_isSoWith 53 = .ok (.iload 6, 2) := by decide +kernel
theorem dX10_isSoWith_55 : decode cX10_isSoWith 55 = .ok (.aload_n 0, 1) := by decide +kernel
theorem dX10_isSoWith_56 : decode cX10_isSoWith 56 = .ok (.getfield 7, 3) := by decide +kernel
theorem dX10_isSoWith_59 : decode cX10_isSoWith 59 = .ok (.bipush 66, 2) := by decide +kernel
theorem dX10_isSoWith_61 : decode cX10_isSoWith 61 = .ok (.iaload, 1) := by decide +kernel
theorem dX10_isSoWith_62 : decode cX10_isSoWith 62 = .ok (.if_icmp .ge 31, 3) := by decide +kernel
theorem dX10_isSoWith_65 : decode cX10_isSoWith 65 = .ok (.aload_n 0, 1) := by decide +kernel
theorem dX10_isSoWith_66 : decode cX10_isSoWith 66 = .ok (.getfield 26, 3) := by decide +kernel
theorem dX10_isSoWith_69 : decode cX10_isSoWith 69 = .ok (.iload 6, 2) := by decide +kernel
theorem dX10_isSoWith_71 : decode cX10_isSoWith 71 = .ok (.iaload, 1) := by decide +kernel
theorem dX10_isSoWith_72 : decode cX10_isSoWith 72 = .ok (.aload_n 0, 1) := by decide +kernel
theorem dX10_isSoWith_73 : decode cX10_isSoWith 73 = .ok (.getfield 7, 3) := by decide +kernel
theorem dX10_isSoWith_76 : decode cX10_isSoWith 76 = .ok (.bipush 84, 2) := by decide +kernel
theorem dX10_isSoWith_78 : decode cX10_isSoWith 78 = .ok (.iconst 2, 1) := by decide +kernel
theorem dX10_isSoWith_79 : decode cX10_isSoWith 79 = .ok (.iload 5, 2) := by decide +kernel
theorem dX10_isSoWith_81 : decode cX10_isSoWith 81 = .ok (.imul, 1) := by decide +kernel
theorem dX10_isSoWith_82 : decode cX10_isSoWith 82 = .ok (.iadd, 1) := by decide +kernel
theorem dX10_isSoWith_83 : decode cX10_isSoWith 83 = .ok (.iconst 1, 1) := by decide +kernel
theorem dX10_isSoWith_84 : decode cX10_isSoWith 84 = .ok (.iadd, 1) := by decide +kernel
theorem dX10_isSoWith_85 : decode cX10_isSoWith 85 = .ok (.iaload, 1) := by decide +kernel
theorem dX10_isSoWith_86 : decode cX10_isSoWith 86 = .ok (.if_icmp .ne 7, 3) := by decide +kernel
theorem dX10_isSoWith_89 : decode cX10_isSoWith 89 = .ok (.iconst 1, 1) := by decide +kernel
theorem dX10_isSoWith_90 : decode cX10_isSoWith 90 = .ok (.goto 4, 3) := by decide +kernel
theorem dX10_isSoWith_93 : decode cX10_isSoWith 93 = .ok (.iconst 0, 1) := by decide +kernel
theorem dX10_isSoWith_94 : decode cX10_isSoWith 94 = .ok (.istore 4, 2) := by decide +kernel
theorem dX10_isSoWith_96 : decode cX10_isSoWith 96 = .ok (.iinc 5 1, 3) := by decide +kernel
theorem dX10_isSoWith_99 : decode cX10_isSoWith 99 = .ok (.goto (-77), 3) := by decide +kernel
theorem dX10_isSoWith_102 : decode cX10_isSoWith 102 = .ok (.iload 4, 2) := by decide +kernel
theorem dX10_isSoWith_104 : decode cX10_isSoWith 104 = .ok (.ireturn, 1) := by decide +kernel
set_option maxRecDepth 100000 in
set_option maxHeartbeats 4000000 in
theorem s_X10_isSoWith_J94 {ω : WD} {ρ : FR} {post : Int32 → Mem → Prop} (C : Cx ω ρ cX10_isSoWith RX10 6 7) (R : RtI ω ρ cX10_isSoWith .boolean post) {K22 : Int32 → Int32 → Mem → Prop} {l5 : Int32} {s0 : Int32} (k22 : ∀ (u4 : Int32) (u5 : Int32) (M : Mem), K22 u4 u5 M → G ω ρ M 22 [(0, .ref (adr ω 128)), (4, .int u4), (5, .int u5)] []) {M : Mem} (h : w_X10_isSoWith_J94 post K22 l5 s0 M) : G ω ρ M 94 [(0, .ref (adr ω 128)), (5, .int l5)] [.int s0] := by
  refine G_istore C dX10_isSoWith_94 (by decide) (lv' := [(4, .int s0), (0, .ref (adr ω 128)), (5, .int l5)]) rfl ?_
  obtain ⟨v1, ev1⟩ : ∃ y : Int32, y = (l5 + 1) := ⟨_, rfl⟩
  replace h := h v1 ev1
  refine G_iinc C dX10_isSoWith_96 2 rfl (v := v1) (by rw [ev1]; rfl) (by decide) (lv' := [(5, .int v1), (4, .int s0), (0, .ref (adr ω 128))]) rfl ?_
  refine G_goto (tgt := 22) C dX10_isSoWith_99 (by decide) ?_
  refine G_sub [2, 1, 0] (lv' := [(0, .ref (adr ω 128)), (4, .int s0), (5, .int v1)]) rfl ?_
  exact k22 _ _ _ h
set_option maxRecDepth 100000 in
set_option maxHeartbeats 4000000 in
theorem s_X10_isSoWith_J93 {ω : WD} {ρ : FR} {post : Int32 → Mem → Prop} (C : Cx ω ρ cX10_isSoWith RX10 6 7) (R : RtI ω ρ cX10_isSoWith .boolean post) {K22 : Int32 → Int32 → Mem → Prop} {l5 : Int32} (k22 : ∀ (u4 : Int32) (u5 : Int32) (M : Mem), K22 u4 u5 M → G ω ρ M 22 [(0, .ref (adr ω 128)), (4, .int u4), (5, .int u5)] []) {M : Mem} (h : w_X10_isSoWith_J93 post K22 l5 M) : G ω ρ M 93 [(0, .ref (adr ω 128)), (5, .int l5)] [] := by
  refine G_iconst (v := 0) C dX10_isSoWith_93 (by decide) ?_
  exact s_X10_isSoWith_J94 C R k22 h
set_option maxRecDepth 100000 in
set_option maxHeartbeats 4000000 in
theorem s_X10_isSoWith_L22 {ω : WD} {ρ : FR} {post : Int32 → Mem → Prop} (C : Cx ω ρ cX10_isSoWith RX10 6 7) (R : RtI ω ρ cX10_isSoWith .boolean post) : ∀ (f : Nat) (l4 : Int32) (l5 : Int32) (M : Mem), w_X10_isSoWith_L22 post f l4 l5 M → G ω ρ M 22 [(0, .ref (adr ω 128)), (4, .int l4), (5, .int l5)] [] := by
  intro f
  induction f with
  | zero => intro l4 l5 M h; exact False.elim h
  | succ f k22 =>
    intro l4 l5 M h
    refine G_iload C dX10_isSoWith_22 2 rfl ?_
    refine G_aload_n C dX10_isSoWith_24 0 rfl ?_
    refine gf_X10_7 C dX10_isSoWith_25 ?_
    refine G_bipush (v := 83) C dX10_isSoWith_28 (by decide) ?_
    refine G_iald C q129 (vp_lit rfl) (kk := 83) (by decide +kernel) dX10_isSoWith_30 ?_
    obtain ⟨h1, h2⟩ := h
    refine G_icmp_ge (tgt := 102) C dX10_isSoWith_31 (by decide) (fun c => ?_) (fun c => ?_)
    · have h := h1 c
      clear h1 h2
      refine G_iload C dX10_isSoWith_102 1 rfl ?_
      exact R 104 _ _ _ dX10_isSoWith_104 h.1.1 h.2
    · have h := h2 c
      clear h1 h2
      refine G_aload_n C dX10_isSoWith_34 0 rfl ?_
      refine gf_X10_7 C dX10_isSoWith_35 ?_
      refine G_bipush (v := 84) C dX10_isSoWith_38 (by decide) ?_
      refine G_iconst (v := 2) C dX10_isSoWith_40 (by decide) ?_
      refine G_iload C dX10_isSoWith_41 2 rfl ?_
      refine G_imul C dX10_isSoWith_43 ?_
      refine G_iadd C dX10_isSoWith_44 ?_
      obtain ⟨hi, h⟩ := h
      refine G_iald C q129 hi rfl dX10_isSoWith_45 ?_
      refine G_iname (fun v2 ev2 => ?_)
      replace h := h v2 ev2
      refine G_istore C dX10_isSoWith_46 (by decide) (lv' := [(6, .int v2), (0, .ref (adr ω 128)), (4, .int l4), (5, .int l5)]) rfl ?_
      refine G_iload C dX10_isSoWith_48 2 rfl ?_
      obtain ⟨h1, h2⟩ := h
      refine G_if_eq (tgt := 93) C dX10_isSoWith_50 (by decide) (fun c => ?_) (fun c => ?_)
      · have h := h1 c
        clear h1 h2
        refine G_sub [1, 3] (lv' := [(0, .ref (adr ω 128)), (5, .int l5)]) rfl ?_
        exact s_X10_isSoWith_J93 C R k22 h
      · have h := h2 c
        clear h1 h2
        refine G_iload C dX10_isSoWith_53 0 rfl ?_
        refine G_aload_n C dX10_isSoWith_55 1 rfl ?_
        refine gf_X10_7 C dX10_isSoWith_56 ?_
        refine G_bipush (v := 66) C dX10_isSoWith_59 (by decide) ?_
        refine G_iald C q129 (vp_lit rfl) (kk := 66) (by decide +kernel) dX10_isSoWith_61 ?_
        obtain ⟨h1, h2⟩ := h
        refine G_icmp_ge (tgt := 93) C dX10_isSoWith_62 (by decide) (fun c => ?_) (fun c => ?_)
        · have h := h1 c
          clear h1 h2
          refine G_sub [1, 3] (lv' := [(0, .ref (adr ω 128)), (5, .int l5)]) rfl ?_
          exact s_X10_isSoWith_J93 C R k22 h
        · have h := h2 c
          clear h1 h2
          refine G_aload_n C dX10_isSoWith_65 1 rfl ?_
          refine gf_X10_26 C dX10_isSoWith_66 ?_
          refine G_iload C dX10_isSoWith_69 0 rfl ?_
          obtain ⟨hi, h⟩ := h
          refine G_iald C q134 hi rfl dX10_isSoWith_71 ?_
          refine G_aload_n C dX10_isSoWith_72 1 rfl ?_
          refine gf_X10_7 C dX10_isSoWith_73 ?_
          refine G_bipush (v := 84) C dX10_isSoWith_76 (by decide) ?_
          refine G_iconst (v := 2) C dX10_isSoWith_78 (by decide) ?_
          refine G_iload C dX10_isSoWith_79 3 rfl ?_
          refine G_imul C dX10_isSoWith_81 ?_
          refine G_iadd C dX10_isSoWith_82 ?_
          refine G_iconst (v := 1) C dX10_isSoWith_83 (by decide) ?_
          refine G_iadd C dX10_isSoWith_84 ?_
          obtain ⟨hi, h⟩ := h
          refine G_iald C q129 hi rfl dX10_isSoWith_85 ?_
          obtain ⟨h1, h2⟩ := h
          refine G_icmp_ne (tgt := 93) C dX10_isSoWith_86 (by decide) (fun c => ?_) (fun c => ?_)
          · have h := h1 c
            clear h1 h2
            refine G_sub [1, 3] (lv' := [(0, .ref (adr ω 128)), (5, .int l5)]) rfl ?_
            exact s_X10_isSoWith_J93 C R k22 h
          · have h := h2 c
            clear h1 h2
            refine G_iconst (v := 1) C dX10_isSoWith_89 (by decide) ?_
            refine G_goto (tgt := 94) C dX10_isSoWith_90 (by decide) ?_
            refine G_sub [1, 3] (lv' := [(0, .ref (adr ω 128)), (5, .int l5)]) rfl ?_
            exact s_X10_isSoWith_J94 C R k22 h
set_option maxRecDepth 100000 in
set_option maxHeartbeats 4000000 in
theorem S_X10_isSoWith {ω : WD} {l1 : Int32} {l2 : Int32} {l3 : Int32} {M : Mem} {post : Int32 → Mem → Prop} (h : w_X10_isSoWith l1 l2 l3 M post) : MtI ω yX10_isSoWith cX10_isSoWith 7 (some .boolean) 6 [.ref (adr ω 128), .int l1, .int l2, .int l3] M post := by
  refine MtI.start (ty := .boolean) rfl (by decide +kernel) (own := RX10) rfl (Nat.le_of_ble_eq_true rfl) (fun ρ C R => ?_)
  show G ω ρ M 0 [(0, .ref (adr ω 128)), (1, .int l1), (2, .int l2), (3, .int l3)] []
  refine G_aload_n C dX10_isSoWith_0 0 rfl ?_
  refine G_callV (As := []) (rest := []) C dX10_isSoWith_1 lk_X10_209 (Nat.le_of_ble_eq_true rfl) (Nat.le_of_ble_eq_true rfl) q128 (by decide) rfl (Nat.le_of_ble_eq_true rfl) rfl (S_X10_starts h) (fun M3 h => ?_)
  refine G_aload_n C dX10_isSoWith_4 0 rfl ?_
  refine G_iload_n C dX10_isSoWith_5 1 rfl ?_
  refine G_iload_n C dX10_isSoWith_6 2 rfl ?_
  refine G_iload_n C dX10_isSoWith_7 3 rfl ?_
  refine G_callV (As := [.int l1, .int l2, .int l3]) (rest := []) C dX10_isSoWith_8 lk_X10_183 (Nat.le_of_ble_eq_true rfl) (Nat.le_of_ble_eq_true rfl) q128 (by decide) rfl (Nat.le_of_ble_eq_true rfl) rfl (S_X10_becomesOfGroup h) (fun M4 h => ?_)
  refine G_aload_n C dX10_isSoWith_11 0 rfl ?_
  refine G_iconst (v := 0) C dX10_isSoWith_12 (by decide) ?_
  refine G_callV (As := [.int 0]) (rest := []) C dX10_isSoWith_13 lk_X10_241 (Nat.le_of_ble_eq_true rfl) (Nat.le_of_ble_eq_true rfl) q128 (by decide) rfl (Nat.le_of_ble_eq_true rfl) rfl (S_X10_planGoes h) (fun M5 h => ?_)
  refine G_iconst (v := 1) C dX10_isSoWith_16 (by decide) ?_
  refine G_istore C dX10_isSoWith_17 (by decide) (lv' := [(4, .int 1), (0, .ref (adr ω 128)), (1, .int l1), (2, .int l2), (3, .int l3)]) rfl ?_
  refine G_iconst (v := 0) C dX10_isSoWith_19 (by decide) ?_
  refine G_istore C dX10_isSoWith_20 (by decide) (lv' := [(5, .int 0), (4, .int 1), (0, .ref (adr ω 128)), (1, .int l1), (2, .int l2), (3, .int l3)]) rfl ?_
  refine G_sub [2, 1, 0] (lv' := [(0, .ref (adr ω 128)), (4, .int 1), (5, .int 0)]) rfl ?_
  obtain ⟨f, h⟩ := h
  exact s_X10_isSoWith_L22 C R  f _ _ _ h
theorem dX10_hunts_0 : decode cX10_hunts 0 = .ok (.iload_n 1, 1) := by decide +kernel
theorem dX10_hunts_1 : decode cX10_hunts 1 = .ok (.invokestatic 220, 3) := by decide +kernel
theorem dX10_hunts_4 : decode cX10_hunts 4 = .ok (.ifCond .ne 5, 3) := by decide +kernel
theorem dX10_hunts_7 : decode cX10_hunts 7 = .ok (.iconst (-1), 1) := by decide +kernel
theorem dX10_hunts_8 : decode cX10_hunts 8 = .ok (.ireturn, 1) := by decide +kernel
theorem dX10_hunts_9 : decode cX10_hunts 9 = .ok (.iconst 0, 1) := by decide +kernel
theorem dX10_hunts_10 : decode cX10_hunts 10 = .ok (.istore_n 2, 1) := by decide +kernel
theorem dX10_hunts_11 : decode cX10_hunts 11 = .ok (.iconst 0, 1) := by decide +kernel
theorem dX10_hunts_12 : decode cX10_hunts 12 = .ok (.istore_n 3, 1) := by decide +kernel
theorem dX10_hunts_13 : decode cX10_hunts 13 = .ok (.iload_n 3, 1) := by decide +kernel
theorem dX10_hunts_14 : decode cX10_hunts 14 = .ok (.iconst 4, 1) := by decide +kernel
theorem dX10_hunts_15 : decode cX10_hunts 15 = .ok (.if_icmp .ge 24, 3) := by decide +kernel
theorem dX10_hunts_18 : decode cX10_hunts 18 = .ok (.iload_n 2, 1) := by decide +kernel
theorem dX10_hunts_19 : decode cX10_hunts 19 = .ok (.aload_n 0, 1) := by decide +kernel
theorem dX10_hunts_20 : decode cX10_hunts 20 = .ok (.iload_n 1, 1) := by decide +kernel
theorem dX10_hunts_21 : decode cX10_hunts 21 = .ok (.iconst 0, 1) := by decide +kernel
theorem dX10_hunts_22 : decode cX10_hunts 22 = .ok (.iload_n 3, 1) := by decide +kernel
theorem dX10_hunts_23 : decode cX10_hunts 23 = .ok (.invokevirtual 292, 3) := by decide +kernel
theorem dX10_hunts_26 : decode cX10_hunts 26 = .ok (.invokestatic 160, 3) := by decide +kernel
theorem dX10_hunts_29 : decode cX10_hunts 29 = .ok (.iload_n 3, 1) := by decide +kernel
theorem dX10_hunts_30 : decode cX10_hunts 30 = .ok (.ishl, 1) := by decide +kernel
theorem dX10_hunts_31 : decode cX10_hunts 31 = .ok (.ior, 1) := by decide +kernel
theorem dX10_hunts_32 : decode cX10_hunts 32 = .ok (.istore_n 2, 1) := by decide +kernel
theorem dX10_hunts_33 : decode cX10_hunts 33 = .ok (.iinc 3 1, 3) := by decide +kernel
theorem dX10_hunts_36 : decode cX10_hunts 36 = .ok (.goto (-23), 3) := by decide +kernel
theorem dX10_hunts_39 : decode cX10_hunts 39 = .ok (.iload_n 2, 1) := by decide +kernel
theorem dX10_hunts_40 : decode cX10_hunts 40 = .ok (.ireturn, 1) := by decide +kernel
theorem lk_X10_292 : LkV RX10 292 RX10 yX10_isSoWith cX10_isSoWith 7 (some .boolean) 3 := LkV.of 1397 1399 57 71 1400 (by decide +kernel) (by decide +kernel) (by decide +kernel) (by decide +kernel) (by decide +kernel) (by decide +kernel)
set_option maxRecDepth 100000 in
set_option maxHeartbeats 4000000 in
theorem s_X10_hunts_L13 {ω : WD} {ρ : FR} {post : Int32 → Mem → Prop} (C : Cx ω ρ cX10_hunts RX10 7 4) (R : RtI ω ρ cX10_hunts .int post) {l1 : Int32} : ∀ (f : Nat) (l2 : Int32) (l3 : Int32) (M : Mem), w_X10_hunts_L13 post l1 f l2 l3 M → G ω ρ M 13 [(0, .ref (adr ω 128)), (1, .int l1), (2, .int l2), (3, .int l3)] [] := by
  intro f
  induction f with
  | zero => intro l2 l3 M h; exact False.elim h
  | succ f k13 =>
    intro l2 l3 M h
    refine G_iload_n C dX10_hunts_13 3 rfl ?_
    refine G_iconst (v := 4) C dX10_hunts_14 (by decide) ?_
    obtain ⟨h1, h2⟩ := h
    refine G_icmp_ge (tgt := 39) C dX10_hunts_15 (by decide) (fun c => ?_) (fun c => ?_)
    · have h := h1 c
      clear h1 h2
      refine G_iload_n C dX10_hunts_39 2 rfl ?_
      exact R 40 _ _ _ dX10_hunts_40 rfl h
    · have h := h2 c
      clear h1 h2
      refine G_iload_n C dX10_hunts_18 2 rfl ?_
      refine G_aload_n C dX10_hunts_19 0 rfl ?_
      refine G_iload_n C dX10_hunts_20 1 rfl ?_
      refine G_iconst (v := 0) C dX10_hunts_21 (by decide) ?_
      refine G_iload_n C dX10_hunts_22 3 rfl ?_
      refine G_callI (As := [.int l1, .int 0, .int l3]) (rest := [.int l2]) C dX10_hunts_23 lk_X10_292 (Nat.le_of_ble_eq_true rfl) (Nat.le_of_ble_eq_true rfl) q128 (by decide) rfl (Nat.le_of_ble_eq_true rfl) rfl (S_X10_isSoWith h) (fun r2 M1 h => ?_)
      refine G_scallI (As := [.int r2]) (rest := [.int l2]) C dX10_hunts_26 lk_X10_160 (Nat.le_of_ble_eq_true rfl) (Nat.le_of_ble_eq_true rfl) (Nat.le_of_ble_eq_true rfl) rfl (S_X10_flag h) (fun r4 M3 h => ?_)
      refine G_iload_n C dX10_hunts_29 3 rfl ?_
      refine G_ishl C dX10_hunts_30 ?_
      refine G_ior C dX10_hunts_31 ?_
      refine G_iname (fun v5 ev5 => ?_)
      replace h := h v5 ev5
      refine G_istore_n C dX10_hunts_32 (by decide) (lv' := [(2, .int v5), (0, .ref (adr ω 128)), (1, .int l1), (3, .int l3)]) rfl ?_
      obtain ⟨v6, ev6⟩ : ∃ y : Int32, y = (l3 + 1) := ⟨_, rfl⟩
      replace h := h v6 ev6
      refine G_iinc C dX10_hunts_33 3 rfl (v := v6) (by rw [ev6]; rfl) (by decide) (lv' := [(3, .int v6), (2, .int v5), (0, .ref (adr ω 128)), (1, .int l1)]) rfl ?_
      refine G_goto (tgt := 13) C dX10_hunts_36 (by decide) ?_
      refine G_sub [2, 3, 1, 0] (lv' := [(0, .ref (adr ω 128)), (1, .int l1), (2, .int v5), (3, .int v6)]) rfl ?_
      exact k13 _ _ _ h
set_option maxRecDepth 100000 in
set_option maxHeartbeats 4000000 in
theorem S_X10_hunts {ω : WD} {l1 : Int32} {M : Mem} {post : Int32 → Mem → Prop} (h : w_X10_hunts l1 M post) : MtI ω yX10_hunts cX10_hunts 4 (some .int) 7 [.ref (adr ω 128), .int l1] M post := by
  refine MtI.start (ty := .int) rfl (by decide +kernel) (own := RX10) rfl (Nat.le_of_ble_eq_true rfl) (fun ρ C R => ?_)
  show G ω ρ M 0 [(0, .ref (adr ω 128)), (1, .int l1)] []
  refine G_iload_n C dX10_hunts_0 1 rfl ?_
  refine G_scallI (As := [.int l1]) (rest := []) C dX10_hunts_1 lk_X10_220 (Nat.le_of_ble_eq_true rfl) (Nat.le_of_ble_eq_true rfl) (Nat.le_of_ble_eq_true rfl) rfl (S_X10_isGroup h) (fun r8 M7 h => ?_)
  obtain ⟨h1, h2⟩ := h
  refine G_if_ne (tgt := 9) C dX10_hunts_4 (by decide) (fun c => ?_) (fun c => ?_)
  · have h := h1 c
    clear h1 h2
    refine G_iconst (v := 0) C dX10_hunts_9 (by decide) ?_
    refine G_istore_n C dX10_hunts_10 (by decide) (lv' := [(2, .int 0), (0, .ref (adr ω 128)), (1, .int l1)]) rfl ?_
    refine G_iconst (v := 0) C dX10_hunts_11 (by decide) ?_
    refine G_istore_n C dX10_hunts_12 (by decide) (lv' := [(3, .int 0), (2, .int 0), (0, .ref (adr ω 128)), (1, .int l1)]) rfl ?_
    refine G_sub [2, 3, 1, 0] (lv' := [(0, .ref (adr ω 128)), (1, .int l1), (2, .int 0), (3, .int 0)]) rfl ?_
    obtain ⟨f, h⟩ := h
    exact s_X10_hunts_L13 C R  f _ _ _ h
  · have h := h2 c
    clear h1 h2
    refine G_iconst (v := (-1)) C dX10_hunts_7 (by decide) ?_
    exact R 8 _ _ _ dX10_hunts_8 rfl h
theorem dX10_setsOf_0 : decode cX10_setsOf 0 = .ok (.iconst 1, 1) := by decide +kernel
theorem dX10_setsOf_1 : decode cX10_setsOf 1 = .ok (.aload_n 0, 1) := by decide +kernel
theorem dX10_setsOf_2 : decode cX10_setsOf 2 = .ok (.getfield 7, 3) := by decide +kernel
theorem dX10_setsOf_5 : decode cX10_setsOf 5 = .ok (.bipush 26, 2) := by decide +kernel
theorem dX10_setsOf_7 : decode cX10_setsOf 7 = .ok (.iconst 4, 1) := by decide +kernel
theorem dX10_setsOf_8 : decode cX10_setsOf 8 = .ok (.iload_n 1, 1) := by decide +kernel
theorem dX10_setsOf_9 : decode cX10_setsOf 9 = .ok (.imul, 1) := by decide +kernel
theorem dX10_setsOf_10 : decode cX10_setsOf 10 = .ok (.iadd, 1) := by decide +kernel
theorem dX10_setsOf_11 : decode cX10_setsOf 11 = .ok (.iconst 1, 1) := by decide +kernel
theorem dX10_setsOf_12 : decode cX10_setsOf 12 = .ok (.iadd, 1) := by decide +kernel
theorem dX10_setsOf_13 : decode cX10_setsOf 13 = .ok (.iaload, 1) := by decide +kernel
theorem dX10_setsOf_14 : decode cX10_setsOf 14 = .ok (.ishl, 1) := by decide +kernel
theorem dX10_setsOf_15 : decode cX10_setsOf 15 = .ok (.ireturn, 1) := by decide +kernel
set_option maxRecDepth 100000 in
set_option maxHeartbeats 4000000 in
theorem S_X10_setsOf {ω : WD} {l1 : Int32} {M : Mem} {post : Int32 → Mem → Prop} (h : w_X10_setsOf l1 M post) : MtI ω yX10_setsOf cX10_setsOf 2 (some .int) 0 [.ref (adr ω 128), .int l1] M post := by
  refine MtI.start (ty := .int) rfl (by decide +kernel) (own := RX10) rfl (Nat.le_of_ble_eq_true rfl) (fun ρ C R => ?_)
  show G ω ρ M 0 [(0, .ref (adr ω 128)), (1, .int l1)] []
  refine G_iconst (v := 1) C dX10_setsOf_0 (by decide) ?_
  refine G_aload_n C dX10_setsOf_1 0 rfl ?_
  refine gf_X10_7 C dX10_setsOf_2 ?_
  refine G_bipush (v := 26) C dX10_setsOf_5 (by decide) ?_
  refine G_iconst (v := 4) C dX10_setsOf_7 (by decide) ?_
  refine G_iload_n C dX10_setsOf_8 1 rfl ?_
  refine G_imul C dX10_setsOf_9 ?_
  refine G_iadd C dX10_setsOf_10 ?_
  refine G_iconst (v := 1) C dX10_setsOf_11 (by decide) ?_
  refine G_iadd C dX10_setsOf_12 ?_
  obtain ⟨hi, h⟩ := h
  refine G_iald C q129 hi rfl dX10_setsOf_13 ?_
  refine G_ishl C dX10_setsOf_14 ?_
  exact R 15 _ _ _ dX10_setsOf_15 rfl h
theorem dX10_deads_0 : decode cX10_deads 0 = .ok (.iload_n 1, 1) := by decide +kernel
theorem dX10_deads_1 : decode cX10_deads 1 = .ok (.invokestatic 220, 3) := by decide +kernel
theorem dX10_deads_4 : decode cX10_deads 4 = .ok (.ifCond .ne 5, 3) := by decide +kernel
theorem dX10_deads_7 : decode cX10_deads 7 = .ok (.iconst (-1), 1) := by decide +kernel
theorem dX10_deads_8 : decode cX10_deads 8 = .ok (.ireturn, 1) := by decide +kernel
theorem dX10_deads_9 : decode cX10_deads 9 = .ok (.iconst 0, 1) := by decide +kernel
theorem dX10_deads_10 : decode cX10_deads 10 = .ok (.istore_n 2, 1) := by decide +kernel
theorem dX10_deads_11 : decode cX10_deads 11 = .ok (.iconst 0, 1) := by decide +kernel
theorem dX10_deads_12 : decode cX10_deads 12 = .ok (.istore_n 3, 1) := by decide +kernel
theorem dX10_deads_13 : decode cX10_deads 13 = .ok (.iload_n 3, 1) := by decide +kernel
theorem dX10_deads_14 : decode cX10_deads 14 = .ok (.aload_n 0, 1) := by decide +kernel
theorem dX10_deads_15 : decode cX10_deads 15 = .ok (.iload_n 1, 1) := by decide +kernel
theorem dX10_deads_16 : decode cX10_deads 16 = .ok (.invokevirtual 295, 3) := by decide +kernel
theorem dX10_deads_19 : decode cX10_deads 19 = .ok (.if_icmp .ge 24, 3) := by decide +kernel
theorem dX10_deads_22 : decode cX10_deads 22 = .ok (.iload_n 2, 1) := by decide +kernel
theorem dX10_deads_23 : decode cX10_deads 23 = .ok (.aload_n 0, 1) := by decide +kernel
theorem dX10_deads_24 : decode cX10_deads 24 = .ok (.iload_n 1, 1) := by decide +kernel
theorem dX10_deads_25 : decode cX10_deads 25 = .ok (.iconst 2, 1) := by decide +kernel
theorem dX10_deads_26 : decode cX10_deads 26 = .ok (.iload_n 3, 1) := by decide +kernel
theorem dX10_deads_27 : decode cX10_deads 27 = .ok (.invokevirtual 292, 3) := by decide +kernel
theorem dX10_deads_30 : decode cX10_deads 30 = .ok (.invokestatic 160, 3) := by decide +kernel
theorem dX10_deads_33 : decode cX10_deads 33 = .ok (.iload_n 3, 1) := by decide +kernel
theorem dX10_deads_34 : decode cX10_deads 34 = .ok (.ishl, 1) := by decide +kernel
theorem dX10_deads_35 : decode cX10_deads 35 = .ok (.ior, 1) := by decide +kernel
theorem dX10_deads_36 : decode cX10_deads 36 = .ok (.istore_n 2, 1) := by decide +kernel
theorem dX10_deads_37 : decode cX10_deads 37 = .ok (.iinc 3 1, 3) := by decide +kernel
theorem dX10_deads_40 : decode cX10_deads 40 = .ok (.goto (-27), 3) := by decide +kernel
theorem dX10_deads_43 : decode cX10_deads 43 = .ok (.iload_n 2, 1) := by decide +kernel
theorem dX10_deads_44 : decode cX10_deads 44 = .ok (.ireturn, 1) := by decide +kernel
theorem lk_X10_295 : LkV RX10 295 RX10 yX10_setsOf cX10_setsOf 2 (some .int) 1 := LkV.of 1405 1407 58 71 1408 (by decide +kernel) (by decide +kernel) (by decide +kernel) (by decide +kernel) (by decide +kernel) (by decide +kernel)
set_option maxRecDepth 100000 in
set_option maxHeartbeats 4000000 in
theorem s_X10_deads_L13 {ω : WD} {ρ : FR} {post : Int32 → Mem → Prop} (C : Cx ω ρ cX10_deads RX10 7 4) (R : RtI ω ρ cX10_deads .int post) {l1 : Int32} : ∀ (f : Nat) (l2 : Int32) (l3 : Int32) (M : Mem), w_X10_deads_L13 post l1 f l2 l3 M → G ω ρ M 13 [(0, .ref (adr ω 128)), (1, .int l1), (2, .int l2), (3, .int l3)] [] := by
  intro f
  induction f with
  | zero => intro l2 l3 M h; exact False.elim h
  | succ f k13 =>
    intro l2 l3 M h
    refine G_iload_n C dX10_deads_13 3 rfl ?_
    refine G_aload_n C dX10_deads_14 0 rfl ?_
    refine G_iload_n C dX10_deads_15 1 rfl ?_
    refine G_callI (As := [.int l1]) (rest := [.int l3]) C dX10_deads_16 lk_X10_295 (Nat.le_of_ble_eq_true rfl) (Nat.le_of_ble_eq_true rfl) q128 (by decide) rfl (Nat.le_of_ble_eq_true rfl) rfl (S_X10_setsOf h) (fun r2 M1 h => ?_)
    obtain ⟨h1, h2⟩ := h
    refine G_icmp_ge (tgt := 43) C dX10_deads_19 (by decide) (fun c => ?_) (fun c => ?_)
    · have h := h1 c
      clear h1 h2
      refine G_iload_n C dX10_deads_43 2 rfl ?_
      exact R 44 _ _ _ dX10_deads_44 rfl h
    · have h := h2 c
      clear h1 h2
      refine G_iload_n C dX10_deads_22 2 rfl ?_
      refine G_aload_n C dX10_deads_23 0 rfl ?_
      refine G_iload_n C dX10_deads_24 1 rfl ?_
      refine G_iconst (v := 2) C dX10_deads_25 (by decide) ?_
      refine G_iload_n C dX10_deads_26 3 rfl ?_
      refine G_callI (As := [.int l1, .int 2, .int l3]) (rest := [.int l2]) C dX10_deads_27 lk_X10_292 (Nat.le_of_ble_eq_true rfl) (Nat.le_of_ble_eq_true rfl) q128 (by decide) rfl (Nat.le_of_ble_eq_true rfl) rfl (S_X10_isSoWith h) (fun r4 M3 h => ?_)
      refine G_scallI (As := [.int r4]) (rest := [.int l2]) C dX10_deads_30 lk_X10_160 (Nat.le_of_ble_eq_true rfl) (Nat.le_of_ble_eq_true rfl) (Nat.le_of_ble_eq_true rfl) rfl (S_X10_flag h) (fun r6 M5 h => ?_)
      refine G_iload_n C dX10_deads_33 3 rfl ?_
      refine G_ishl C dX10_deads_34 ?_
      refine G_ior C dX10_deads_35 ?_
      refine G_iname (fun v7 ev7 => ?_)
      replace h := h v7 ev7
      refine G_istore_n C dX10_deads_36 (by decide) (lv' := [(2, .int v7), (0, .ref (adr ω 128)), (1, .int l1), (3, .int l3)]) rfl ?_
      obtain ⟨v8, ev8⟩ : ∃ y : Int32, y = (l3 + 1) := ⟨_, rfl⟩
      replace h := h v8 ev8
      refine G_iinc C dX10_deads_37 3 rfl (v := v8) (by rw [ev8]; rfl) (by decide) (lv' := [(3, .int v8), (2, .int v7), (0, .ref (adr ω 128)), (1, .int l1)]) rfl ?_
      refine G_goto (tgt := 13) C dX10_deads_40 (by decide) ?_
      refine G_sub [2, 3, 1, 0] (lv' := [(0, .ref (adr ω 128)), (1, .int l1), (2, .int v7), (3, .int v8)]) rfl ?_
      exact k13 _ _ _ h
set_option maxRecDepth 100000 in
set_option maxHeartbeats 4000000 in
theorem S_X10_deads {ω : WD} {l1 : Int32} {M : Mem} {post : Int32 → Mem → Prop} (h : w_X10_deads l1 M post) : MtI ω yX10_deads cX10_deads 4 (some .int) 7 [.ref (adr ω 128), .int l1] M post := by
  refine MtI.start (ty := .int) rfl (by decide +kernel) (own := RX10) rfl (Nat.le_of_ble_eq_true rfl) (fun ρ C R => ?_)
  show G ω ρ M 0 [(0, .ref (adr ω 128)), (1, .int l1)] []
  refine G_iload_n C dX10_deads_0 1 rfl ?_
  refine G_scallI (As := [.int l1]) (rest := []) C dX10_deads_1 lk_X10_220 (Nat.le_of_ble_eq_true rfl) (Nat.le_of_ble_eq_true rfl) (Nat.le_of_ble_eq_true rfl) rfl (S_X10_isGroup h) (fun r10 M9 h => ?_)
  obtain ⟨h1, h2⟩ := h
  refine G_if_ne (tgt := 9) C dX10_deads_4 (by decide) (fun c => ?_) (fun c => ?_)
  · have h := h1 c
    clear h1 h2
    refine G_iconst (v := 0) C dX10_deads_9 (by decide) ?_
    refine G_istore_n C dX10_deads_10 (by decide) (lv' := [(2, .int 0), (0, .ref (adr ω 128)), (1, .int l1)]) rfl ?_
    refine G_iconst (v := 0) C dX10_deads_11 (by decide) ?_
    refine G_istore_n C dX10_deads_12 (by decide) (lv' := [(3, .int 0), (2, .int 0), (0, .ref (adr ω 128)), (1, .int l1)]) rfl ?_
    refine G_sub [2, 3, 1, 0] (lv' := [(0, .ref (adr ω 128)), (1, .int l1), (2, .int 0), (3, .int 0)]) rfl ?_
    obtain ⟨f, h⟩ := h
    exact s_X10_deads_L13 C R  f _ _ _ h
  · have h := h2 c
    clear h1 h2
    refine G_iconst (v := (-1)) C dX10_deads_7 (by decide) ?_
    exact R 8 _ _ _ dX10_deads_8 rfl h
theorem dX10_ask_0 : decode cX10_ask 0 = .ok (.iload_n 1, 1) := by decide +kernel
theorem dX10_ask_1 : decode cX10_ask 1 = .ok (.invokestatic 220, 3) := by decide +kernel
theorem dX10_ask_4 : decode cX10_ask 4 = .ok (.ifCond .eq 10, 3) := by decide +kernel
theorem dX10_ask_7 : decode cX10_ask 7 = .ok (.iload_n 2, 1) := by decide +kernel
theorem dX10_ask_8 : decode cX10_ask 8 = .ok (.invokestatic 226, 3) := by decide +kernel
theorem dX10_ask_11 : decode cX10_ask 11 = .ok (.ifCond .ne 5, 3) := by decide +kernel
theorem dX10_ask_14 : decode cX10_ask 14 = .ok (.iconst (-1), 1) := by decide +kernel
theorem dX10_ask_15 : decode cX10_ask 15 = .ok (.ireturn, 1) := by decide +kernel
theorem dX10_ask_16 : decode cX10_ask 16 = .ok (.iconst 0, 1) := by decide +kernel
theorem dX10_ask_17 : decode cX10_ask 17 = .ok (.istore_n 3, 1) := by decide +kernel
theorem dX10_ask_18 : decode cX10_ask 18 = .ok (.bipush (-4), 2) := by decide +kernel
theorem dX10_ask_20 : decode cX10_ask 20 = .ok (.istore 4, 2) := by decide +kernel
theorem dX10_ask_22 : decode cX10_ask 22 = .ok (.iconst 0, 1) := by decide +kernel
theorem dX10_ask_23 : decode cX10_ask 23 = .ok (.istore 5, 2) := by decide +kernel
theorem dX10_ask_25 : decode cX10_ask 25 = .ok (.iload 5, 2) := by decide +kernel
theorem dX10_ask_27 : decode cX10_ask 27 = .ok (.bipush 56, 2) := by decide +kernel
theorem dX10_ask_29 : decode cX10_ask 29 = .ok (.if_icmp .ge 17, 3) := by decide +kernel
theorem dX10_ask_32 : decode cX10_ask 32 = .ok (.aload_n 0, 1) := by decide +kernel
theorem dX10_ask_33 : decode cX10_ask 33 = .ok (.getfield 29, 3) := by decide +kernel
theorem dX10_ask_36 : decode cX10_ask 36 = .ok (.iload 5, 2) := by decide +kernel
theorem dX10_ask_38 : decode cX10_ask 38 = .ok (.iconst 0, 1) := by decide +kernel
theorem dX10_ask_39 : decode cX10_ask 39 = .ok (.iastore, 1) := by decide +kernel
theorem dX10_ask_40 : decode cX10_ask 40 = .ok (.iinc 5 1, 3) := by decide +kernel
theorem dX10_ask_43 : decode cX10_ask 43 = .ok (.goto (-18), 3) := by decide +kernel
theorem dX10_ask_46 : decode cX10_ask 46 = .ok (.iconst 0, 1) := by decide +kernel
theorem dX10_ask_47 : decode cX10_ask 47 = .ok (.istore 5, 2) := by decide +kernel
theorem dX10_ask_49 : decode cX10_ask 49 = .ok (.iload 5, 2) := by decide +kernel
theorem dX10_ask_51 : decode cX10_ask 51 = .ok (.aload_n 0, 1) := by decide +kernel
theorem dX10_ask_52 : decode cX10_ask 52 = .ok (.iload_n 1, 1) := by decide +kernel
theorem dX10_ask_53 : decode cX10_ask 53 = .ok (.invokevirtual 295, 3) := by decide +kernel
theorem dX10_ask_56 : decode cX10_ask 56 = .ok (.if_icmp .ge 66, 3) := by decide +kernel
theorem dX10_ask_59 : decode cX10_ask 59 = .ok (.aload_n 0, 1) := by decide +kernel
theorem dX10_ask_60 : decode cX10_ask 60 = .ok (.iload_n 1, 1) := by decide +kernel
theorem dX10_ask_61 : decode cX10_ask 61 = .ok (.iconst 2, 1) := by decide +kernel
theorem dX10_ask_62 : decode cX10_ask 62 = .ok (.iload 5, 2) := by decide +kernel
theorem dX10_ask_64 : decode cX10_ask 64 = .ok (.invokevirtual 292, 3) := by decide +kernel
theorem dX10_ask_67 : decode cX10_ask 67 = .ok (.ifCond .eq 49, 3) := by decide +kernel
theorem dX10_ask_70 : decode cX10_ask 70 = .ok (.iinc 3 1, 3) := by decide +kernel
theorem dX10_ask_73 : decode cX10_ask 73 = .ok (.iconst 0, 1) := by decide +kernel
theorem dX10_ask_74 : decode cX10_ask 74 = .ok (.istore 6, 2) := by decide +kernel
theorem dX10_ask_76 : decode cX10_ask 76 = .ok (.iload 6, 2) := by decide +kernel
theorem dX10_ask_78 : decode cX10_ask 78 = .ok (.aload_n 0, 1) := by decide +kernel
theorem dX10_ask_79 : decode cX10_ask 79 = .ok (.getfield 7, 3) := by decide +kernel
theorem dX10_ask_82 : decode cX10_ask 82 = .ok (.bipush 66, 2) := by decide +kernel
theorem dX10_ask_84 : decode cX10_ask 84 = .ok (.iaload, 1) := by decide +kernel
theorem dX10_ask_85 : decode cX10_ask 85 = .ok (.if_icmp .ge 31, 3) := by decide +kernel
theorem dX10_ask_88 : decode cX10_ask 88 = .ok (.aload_n 0, 1) := by decide +kernel
theorem dX10_ask_89 : decode cX10_ask 89 = .ok (.getfield 29, 3) := by decide +kernel
theorem dX10_ask_92 : decode cX10_ask 92 = .ok (.bipush 7, 2) := by decide +kernel
theorem dX10_ask_94 : decode cX10_ask 94 = .ok (.iload 6, 2) := by decide +kernel
theorem dX10_ask_96 : decode cX10_ask 96 = .ok (.imul, 1) := by decide +kernel
theorem dX10_ask_97 : decode cX10_ask 97 = .ok (.aload_n 0, 1) := by decide +kernel
theorem dX10_ask_98 : decode cX10_ask 98 = .ok (.getfield 26, 3) := by decide +kernel
theorem dX10_ask_101 : decode cX10_ask 101 = .ok (.iload 6, 2) := by decide +kernel
theorem dX10_ask_103 : decode cX10_ask 103 = .ok (.iaload, 1) := by decide +kernel
theorem dX10_ask_104 : decode cX10_ask 104 = .ok (.iadd, 1) := by decide +kernel
theorem dX10_ask_105 : decode cX10_ask 105 = .ok (.dup2, 1) := by decide +kernel
theorem dX10_ask_106 : decode cX10_ask 106 = .ok (.iaload, 1) := by decide +kernel
theorem dX10_ask_107 : decode cX10_ask 107 = .ok (.iconst 1, 1) := by decide +kernel
theorem dX10_ask_108 : decode cX10_ask 108 = .ok (.iadd, 1) := by decide +kernel
theorem dX10_ask_109 : decode cX10_ask 109 = .ok (.iastore, 1) := by decide +kernel
theorem dX10_ask_110 : decode cX10_ask 110 = .ok (.iinc 6 1, 3) := by decide +kernel
theorem dX10_ask_113 : decode cX10_ask 113 = .ok (.goto (-37), 3) := by decide +kernel
theorem dX10_ask_116 : decode cX10_ask 116 = .ok (.iinc 5 1, 3) := by decide +kernel
theorem dX10_ask_119 : decode cX10_ask 119 = .ok (.goto (-70), 3) := by decide +kernel
theorem dX10_ask_122 : decode cX10_ask 122 = .ok (.iconst 0, 1) := by decide +kernel
theorem dX10_ask_123 : decode cX10_ask 123 = .ok (.istore 5, 2) := by decide +kernel
theorem dX10_ask_125 : decode cX10_ask 125 = .ok (.iload 5, 2) := by decide +kernel
theorem dX10_ask_127 : decode cX10_ask 127 = .ok (.aload_n 0, 1) := by decide +kernel
theorem dX10_ask_128 : decode cX10_ask 128 = .ok (.getfield 7, 3) := by decide +kernel
theorem dX10_ask_131 : decode cX10_ask 131 = .ok (.bipush 66, 2) := by decide +kernel
theorem dX10_ask_133 : decode cX10_ask 133 = .ok (.iaload, 1) := by decide +kernel
theorem dX10_ask_134 : decode cX10_ask 134 = .ok (.if_icmp .ge 94, 3) := by decide +kernel
theorem dX10_ask_137 : decode cX10_ask 137 = .ok (.iconst 0, 1) := by decide +kernel
theorem dX10_ask_138 : decode cX10_ask 138 = .ok (.istore 6, 2) := by decide +kernel
theorem dX10_ask_140 : decode cX10_ask 140 = .ok (.iconst 0, 1) := by decide +kernel
theorem dX10_ask_141 : decode cX10_ask 141 = .ok (.istore 7, 2) := by decide +kernel
theorem dX10_ask_143 : decode cX10_ask 143 = .ok (.iload 7, 2) := by decide +kernel
theorem dX10_ask_145 : decode cX10_ask 145 = .ok (.bipush 7, 2) := by decide +kernel
theorem dX10_ask_147 : decode cX10_ask 147 = .ok (.if_icmp .ge 47, 3) := by decide +kernel
theorem dX10_ask_150 : decode cX10_ask 150 = .ok (.aload_n 0, 1) := by decide +kernel
theorem dX10_ask_151 : decode cX10_ask 151 = .ok (.getfield 29, 3) := by decide +kernel
theorem dX10_ask_154 : decode cX10_ask 154 = .ok (.bipush 7, 2) := by decide +kernel
theorem dX10_ask_156 : decode cX10_ask 156 = .ok (.iload 5, 2) := by decide +kernel
theorem dX10_ask_158 : decode cX10_ask 158 = .ok (.imul, 1) := by decide +kernel
theorem dX10_ask_159 : decode cX10_ask 159 = .ok (.iload 7, 2) := by decide +kernel
theorem dX10_ask_161 : decode cX10_ask 161 = .ok (.iadd, 1) := by decide +kernel
theorem dX10_ask_162 : decode cX10_ask 162 = .ok (.iaload, 1) := by decide +kernel
theorem dX10_ask_163 : decode cX10_ask 163 = .ok (.iload 6, 2) := by decide +kernel
theorem dX10_ask_165 : decode cX10_ask 165 = .ok (.if_icmp .le 19, 3) := by decide +kernel
theorem dX10_ask_168 : decode cX10_ask 168 = .ok (.aload_n 0, 1) := by decide +kernel
theorem dX10_ask_169 : decode cX10_ask 169 = .ok (.getfield 29, 3) := by decide +kernel
theorem dX10_ask_172 : decode cX10_ask 172 = .ok (.bipush 7, 2) := by decide +kernel
theorem dX10_ask_174 : decode cX10_ask 174 = .ok (.iload 5, 2) := by decide +kernel
theorem dX10_ask_176 : decode cX10_ask 176 = .ok (.imul, 1) := by decide +kernel
theorem dX10_ask_177 : decode cX10_ask 177 = .ok (.iload 7, 2) := by decide +kernel
theorem dX10_ask_179 : decode cX10_ask 179 = .ok (.iadd, 1) := by decide +kernel
theorem dX10_ask_180 : decode cX10_ask 180 = .ok (.iaload, 1) := by decide +kernel
theorem dX10_ask_181 : decode cX10_ask 181 = .ok (.goto 5, 3) := by decide +kernel
theorem dX10_ask_184 : decode cX10_ask 184 = .ok (.iload 6, 2) := by decide +kernel
theorem dX10_ask_186 : decode cX10_ask 186 = .ok (.istore 6, 2) := by decide +kernel
theorem dX10_ask_188 : decode cX10_ask 188 = .ok (.iinc 7 1, 3) := by decide +kernel
theorem dX10_ask_191 : decode cX10_ask 191 = .ok (.goto (-48), 3) := by decide +kernel
theorem dX10_ask_194 : decode cX10_ask 194 = .ok (.iload 6, 2) := by decide +kernel
theorem dX10_ask_196 : decode cX10_ask 196 = .ok (.iload_n 3, 1) := by decide +kernel
theorem dX10_ask_197 : decode cX10_ask 197 = .ok (.if_icmp .ge 8, 3) := by decide +kernel
theorem dX10_ask_200 : decode cX10_ask 200 = .ok (.iload 5, 2) := by decide +kernel
theorem dX10_ask_202 : decode cX10_ask 202 = .ok (.goto 5, 3) := by decide +kernel
theorem dX10_ask_205 : decode cX10_ask 205 = .ok (.iload 4, 2) := by decide +kernel
theorem dX10_ask_207 : decode cX10_ask 207 = .ok (.istore 4, 2) := by decide +kernel
theorem dX10_ask_209 : decode cX10_ask 209 = .ok (.iload 6, 2) := by decide +kernel
theorem dX10_ask_211 : decode cX10_ask 211 = .ok (.iload_n 3, 1) := by decide +kernel
theorem dX10_ask_212 : decode cX10_ask 212 = .ok (.if_icmp .ge 8, 3) := by decide +kernel
theorem dX10_ask_215 : decode cX10_ask 215 = .ok (.iload 6, 2) := by decide +kernel
theorem dX10_ask_217 : decode cX10_ask 217 = .ok (.goto 4, 3) := by decide +kernel
theorem dX10_ask_220 : decode cX10_ask 220 = .ok (.iload_n 3, 1) := by decide +kernel
theorem dX10_ask_221 : decode cX10_ask 221 = .ok (.istore_n 3, 1) := by decide +kernel
theorem dX10_ask_222 : decode cX10_ask 222 = .ok (.iinc 5 1, 3) := by decide +kernel
theorem dX10_ask_225 : decode cX10_ask 225 = .ok (.goto (-100), 3) := by decide +kernel
theorem dX10_ask_228 : decode cX10_ask 228 = .ok (.iload 4, 2) := by decide +kernel
theorem dX10_ask_230 : decode cX10_ask 230 = .ok (.bipush (-4), 2) := by decide +kernel
theorem dX10_ask_232 : decode cX10_ask 232 = .ok (.if_icmp .ne 8, 3) := by decide +kernel
theorem dX10_ask_235 : decode cX10_ask 235 = .ok (.bipush (-4), 2) := by decide +kernel
theorem dX10_ask_237 : decode cX10_ask 237 = .ok (.goto 13, 3) := by decide +kernel
theorem dX10_ask_240 : decode cX10_ask 240 = .ok (.iload_n 2, 1) := by decide +kernel
theorem dX10_ask_241 : decode cX10_ask 241 = .ok (.ifCond .ne 8, 3) := by decide +kernel
theorem dX10_ask_244 : decode cX10_ask 244 = .ok (.iload 4, 2) := by decide +kernel
theorem dX10_ask_246 : decode cX10_ask 246 = .ok (.goto 4, 3) := by decide +kernel
theorem dX10_ask_249 : decode cX10_ask 249 = .ok (.iload_n 3, 1) := by decide +kernel
theorem dX10_ask_250 : decode cX10_ask 250 = .ok (.ireturn, 1) := by decide +kernel
theorem gf_X10_29 {ω : WD} {ρ : FR} {M : Mem} {cc : ByteArray} {d n pc : Nat} {lv : List (Nat × Value)} {rest : List Value} (C : Cx ω ρ cc RX10 d n) (hd : decode cc pc = .ok (.getfield 29, 3)) (k : G ω ρ M (pc + 3) lv (.ref (adr ω 135) :: rest)) : G ω ρ M pc lv (.ref (adr ω 128) :: rest) := G_get (N := 28) (T := TX10) (C := RX10) (q := 22) C (q128 : isK 10 128) (by decide) rfl in_X10 (by decide) (tb_of 998 ⟨by decide +kernel, rfl⟩) rfl rfl hd k
set_option maxRecDepth 100000 in
set_option maxHeartbeats 4000000 in
theorem s_X10_ask_J116 {ω : WD} {ρ : FR} {post : Int32 → Mem → Prop} (C : Cx ω ρ cX10_ask RX10 7 8) (R : RtI ω ρ cX10_ask .int post) {K49 : Int32 → Int32 → Mem → Prop} {l1 : Int32} {l2 : Int32} {l3 : Int32} {l4 : Int32} {l5 : Int32} (k49 : ∀ (u3 : Int32) (u5 : Int32) (M : Mem), K49 u3 u5 M → G ω ρ M 49 [(0, .ref (adr ω 128)), (1, .int l1), (2, .int l2), (3, .int u3), (4, .int l4), (5, .int u5)] []) {M : Mem} (h : w_X10_ask_J116 post K49 l1 l2 l3 l4 l5 M) : G ω ρ M 116 [(0, .ref (adr ω 128)), (1, .int l1), (2, .int l2), (3, .int l3), (4, .int l4), (5, .int l5)] [] := by
  obtain ⟨v1, ev1⟩ : ∃ y : Int32, y = (l5 + 1) := ⟨_, rfl⟩
  replace h := h v1 ev1
  refine G_iinc C dX10_ask_116 5 rfl (v := v1) (by rw [ev1]; rfl) (by decide) (lv' := [(5, .int v1), (0, .ref (adr ω 128)), (1, .int l1), (2, .int l2), (3, .int l3), (4, .int l4)]) rfl ?_
  refine G_goto (tgt := 49) C dX10_ask_119 (by decide) ?_
  refine G_sub [1, 2, 3, 4, 5, 0] (lv' := [(0, .ref (adr ω 128)), (1, .int l1), (2, .int l2), (3, .int l3), (4, .int l4), (5, .int v1)]) rfl ?_
  exact k49 _ _ _ h
set_option maxRecDepth 100000 in
set_option maxHeartbeats 4000000 in
theorem s_X10_ask_L76 {ω : WD} {ρ : FR} {post : Int32 → Mem → Prop} (C : Cx ω ρ cX10_ask RX10 7 8) (R : RtI ω ρ cX10_ask .int post) {K49 : Int32 → Int32 → Mem → Prop} {l1 : Int32} {l2 : Int32} {l3 : Int32} {l4 : Int32} {l5 : Int32} (k49 : ∀ (u3 : Int32) (u5 : Int32) (M : Mem), K49 u3 u5 M → G ω ρ M 49 [(0, .ref (adr ω 128)), (1, .int l1), (2, .int l2), (3, .int u3), (4, .int l4), (5, .int u5)] []) : ∀ (f : Nat) (l6 : Int32) (M : Mem), w_X10_ask_L76 post K49 l1 l2 l3 l4 l5 f l6 M → G ω ρ M 76 [(0, .ref (adr ω 128)), (1, .int l1), (2, .int l2), (3, .int l3), (4, .int l4), (5, .int l5), (6, .int l6)] [] := by
  intro f
  induction f with
  | zero => intro l6 M h; exact False.elim h
  | succ f k76 =>
    intro l6 M h
    refine G_iload C dX10_ask_76 6 rfl ?_
    refine G_aload_n C dX10_ask_78 0 rfl ?_
    refine gf_X10_7 C dX10_ask_79 ?_
    refine G_bipush (v := 66) C dX10_ask_82 (by decide) ?_
    refine G_iald C q129 (vp_lit rfl) (kk := 66) (by decide +kernel) dX10_ask_84 ?_
    obtain ⟨h1, h2⟩ := h
    refine G_icmp_ge (tgt := 116) C dX10_ask_85 (by decide) (fun c => ?_) (fun c => ?_)
    · have h := h1 c
      clear h1 h2
      refine G_sub [0, 1, 2, 3, 4, 5] (lv' := [(0, .ref (adr ω 128)), (1, .int l1), (2, .int l2), (3, .int l3), (4, .int l4), (5, .int l5)]) rfl ?_
      exact s_X10_ask_J116 C R k49 h
    · have h := h2 c
      clear h1 h2
      refine G_aload_n C dX10_ask_88 0 rfl ?_
      refine gf_X10_29 C dX10_ask_89 ?_
      refine G_bipush (v := 7) C dX10_ask_92 (by decide) ?_
      refine G_iload C dX10_ask_94 6 rfl ?_
      refine G_imul C dX10_ask_96 ?_
      refine G_aload_n C dX10_ask_97 0 rfl ?_
      refine gf_X10_26 C dX10_ask_98 ?_
      refine G_iload C dX10_ask_101 6 rfl ?_
      obtain ⟨hi, h⟩ := h
      refine G_iald C q134 hi rfl dX10_ask_103 ?_
      refine G_iadd C dX10_ask_104 ?_
      refine G_dup2 C dX10_ask_105 rfl rfl ?_
      obtain ⟨hi, h⟩ := h
      refine G_iald C q135 hi rfl dX10_ask_106 ?_
      refine G_iconst (v := 1) C dX10_ask_107 (by decide) ?_
      refine G_iadd C dX10_ask_108 ?_
      obtain ⟨hi, h⟩ := h
      refine G_iast C q135 hi rfl dX10_ask_109 (G_mname (fun M2 eM2 => ?_))
      replace h := h M2 eM2
      obtain ⟨v3, ev3⟩ : ∃ y : Int32, y = (l6 + 1) := ⟨_, rfl⟩
      replace h := h v3 ev3
      refine G_iinc C dX10_ask_110 6 rfl (v := v3) (by rw [ev3]; rfl) (by decide) (lv' := [(6, .int v3), (0, .ref (adr ω 128)), (1, .int l1), (2, .int l2), (3, .int l3), (4, .int l4), (5, .int l5)]) rfl ?_
      refine G_goto (tgt := 76) C dX10_ask_113 (by decide) ?_
      refine G_sub [1, 2, 3, 4, 5, 6, 0] (lv' := [(0, .ref (adr ω 128)), (1, .int l1), (2, .int l2), (3, .int l3), (4, .int l4), (5, .int l5), (6, .int v3)]) rfl ?_
      exact k76 _ _ h
set_option maxRecDepth 100000 in
set_option maxHeartbeats 4000000 in
theorem s_X10_ask_J186 {ω : WD} {ρ : FR} {post : Int32 → Mem → Prop} (C : Cx ω ρ cX10_ask RX10 7 8) (R : RtI ω ρ cX10_ask .int post) {K125 : Int32 → Int32 → Int32 → Mem → Prop} {K143 : Int32 → Int32 → Mem → Prop} {l2 : Int32} {l3 : Int32} {l4 : Int32} {l5 : Int32} {l7 : Int32} {s0 : Int32} (k125 : ∀ (u3 : Int32) (u4 : Int32) (u5 : Int32) (M : Mem), K125 u3 u4 u5 M → G ω ρ M 125 [(0, .ref (adr ω 128)), (2, .int l2), (3, .int u3), (4, .int u4), (5, .int u5)] []) (k143 : ∀ (u6 : Int32) (u7 : Int32) (M : Mem), K143 u6 u7 M → G ω ρ M 143 [(0, .ref (adr ω 128)), (2, .int l2), (3, .int l3), (4, .int l4), (5, .int l5), (6, .int u6), (7, .int u7)] []) {M : Mem} (h : w_X10_ask_J186 post K125 K143 l2 l3 l4 l5 l7 s0 M) : G ω ρ M 186 [(0, .ref (adr ω 128)), (2, .int l2), (3, .int l3), (4, .int l4), (5, .int l5), (7, .int l7)] [.int s0] := by
  refine G_istore C dX10_ask_186 (by decide) (lv' := [(6, .int s0), (0, .ref (adr ω 128)), (2, .int l2), (3, .int l3), (4, .int l4), (5, .int l5), (7, .int l7)]) rfl ?_
  obtain ⟨v4, ev4⟩ : ∃ y : Int32, y = (l7 + 1) := ⟨_, rfl⟩
  replace h := h v4 ev4
  refine G_iinc C dX10_ask_188 6 rfl (v := v4) (by rw [ev4]; rfl) (by decide) (lv' := [(7, .int v4), (6, .int s0), (0, .ref (adr ω 128)), (2, .int l2), (3, .int l3), (4, .int l4), (5, .int l5)]) rfl ?_
  refine G_goto (tgt := 143) C dX10_ask_191 (by decide) ?_
  refine G_sub [2, 3, 4, 5, 6, 1, 0] (lv' := [(0, .ref (adr ω 128)), (2, .int l2), (3, .int l3), (4, .int l4), (5, .int l5), (6, .int s0), (7, .int v4)]) rfl ?_
  exact k143 _ _ _ h
set_option maxRecDepth 100000 in
set_option maxHeartbeats 4000000 in
theorem s_X10_ask_J221 {ω : WD} {ρ : FR} {post : Int32 → Mem → Prop} (C : Cx ω ρ cX10_ask RX10 7 8) (R : RtI ω ρ cX10_ask .int post) {K125 : Int32 → Int32 → Int32 → Mem → Prop} {l2 : Int32} {l4 : Int32} {l5 : Int32} {s0 : Int32} (k125 : ∀ (u3 : Int32) (u4 : Int32) (u5 : Int32) (M : Mem), K125 u3 u4 u5 M → G ω ρ M 125 [(0, .ref (adr ω 128)), (2, .int l2), (3, .int u3), (4, .int u4), (5, .int u5)] []) {M : Mem} (h : w_X10_ask_J221 post K125 l2 l4 l5 s0 M) : G ω ρ M 221 [(0, .ref (adr ω 128)), (2, .int l2), (4, .int l4), (5, .int l5)] [.int s0] := by
  refine G_istore_n C dX10_ask_221 (by decide) (lv' := [(3, .int s0), (0, .ref (adr ω 128)), (2, .int l2), (4, .int l4), (5, .int l5)]) rfl ?_
  obtain ⟨v5, ev5⟩ : ∃ y : Int32, y = (l5 + 1) := ⟨_, rfl⟩
  replace h := h v5 ev5
  refine G_iinc C dX10_ask_222 4 rfl (v := v5) (by rw [ev5]; rfl) (by decide) (lv' := [(5, .int v5), (3, .int s0), (0, .ref (adr ω 128)), (2, .int l2), (4, .int l4)]) rfl ?_
  refine G_goto (tgt := 125) C dX10_ask_225 (by decide) ?_
  refine G_sub [2, 3, 1, 4, 0] (lv' := [(0, .ref (adr ω 128)), (2, .int l2), (3, .int s0), (4, .int l4), (5, .int v5)]) rfl ?_
  exact k125 _ _ _ _ h
set_option maxRecDepth 100000 in
set_option maxHeartbeats 4000000 in
theorem s_X10_ask_J207 {ω : WD} {ρ : FR} {post : Int32 → Mem → Prop} (C : Cx ω ρ cX10_ask RX10 7 8) (R : RtI ω ρ cX10_ask .int post) {K125 : Int32 → Int32 → Int32 → Mem → Prop} {l2 : Int32} {l3 : Int32} {l5 : Int32} {l6 : Int32} {s0 : Int32} (k125 : ∀ (u3 : Int32) (u4 : Int32) (u5 : Int32) (M : Mem), K125 u3 u4 u5 M → G ω ρ M 125 [(0, .ref (adr ω 128)), (2, .int l2), (3, .int u3), (4, .int u4), (5, .int u5)] []) {M : Mem} (h : w_X10_ask_J207 post K125 l2 l3 l5 l6 s0 M) : G ω ρ M 207 [(0, .ref (adr ω 128)), (2, .int l2), (3, .int l3), (5, .int l5), (6, .int l6)] [.int s0] := by
  refine G_istore C dX10_ask_207 (by decide) (lv' := [(4, .int s0), (0, .ref (adr ω 128)), (2, .int l2), (3, .int l3), (5, .int l5), (6, .int l6)]) rfl ?_
  refine G_iload C dX10_ask_209 5 rfl ?_
  refine G_iload_n C dX10_ask_211 3 rfl ?_
  obtain ⟨h1, h2⟩ := h
  refine G_icmp_ge (tgt := 220) C dX10_ask_212 (by decide) (fun c => ?_) (fun c => ?_)
  · have h := h1 c
    clear h1 h2
    refine G_iload_n C dX10_ask_220 3 rfl ?_
    refine G_sub [1, 2, 0, 4] (lv' := [(0, .ref (adr ω 128)), (2, .int l2), (4, .int s0), (5, .int l5)]) rfl ?_
    exact s_X10_ask_J221 C R k125 h
  · have h := h2 c
    clear h1 h2
    refine G_iload C dX10_ask_215 5 rfl ?_
    refine G_goto (tgt := 221) C dX10_ask_217 (by decide) ?_
    refine G_sub [1, 2, 0, 4] (lv' := [(0, .ref (adr ω 128)), (2, .int l2), (4, .int s0), (5, .int l5)]) rfl ?_
    exact s_X10_ask_J221 C R k125 h
set_option maxRecDepth 100000 in
set_option maxHeartbeats 4000000 in
theorem s_X10_ask_L143 {ω : WD} {ρ : FR} {post : Int32 → Mem → Prop} (C : Cx ω ρ cX10_ask RX10 7 8) (R : RtI ω ρ cX10_ask .int post) {K125 : Int32 → Int32 → Int32 → Mem → Prop} {l2 : Int32} {l3 : Int32} {l4 : Int32} {l5 : Int32} (k125 : ∀ (u3 : Int32) (u4 : Int32) (u5 : Int32) (M : Mem), K125 u3 u4 u5 M → G ω ρ M 125 [(0, .ref (adr ω 128)), (2, .int l2), (3, .int u3), (4, .int u4), (5, .int u5)] []) : ∀ (f : Nat) (l6 : Int32) (l7 : Int32) (M : Mem), w_X10_ask_L143 post K125 l2 l3 l4 l5 f l6 l7 M → G ω ρ M 143 [(0, .ref (adr ω 128)), (2, .int l2), (3, .int l3), (4, .int l4), (5, .int l5), (6, .int l6), (7, .int l7)] [] := by
  intro f
  induction f with
  | zero => intro l6 l7 M h; exact False.elim h
  | succ f k143 =>
    intro l6 l7 M h
    refine G_iload C dX10_ask_143 6 rfl ?_
    refine G_bipush (v := 7) C dX10_ask_145 (by decide) ?_
    obtain ⟨h1, h2⟩ := h
    refine G_icmp_ge (tgt := 194) C dX10_ask_147 (by decide) (fun c => ?_) (fun c => ?_)
    · have h := h1 c
      clear h1 h2
      refine G_iload C dX10_ask_194 5 rfl ?_
      refine G_iload_n C dX10_ask_196 2 rfl ?_
      obtain ⟨h1, h2⟩ := h
      refine G_icmp_ge (tgt := 205) C dX10_ask_197 (by decide) (fun c => ?_) (fun c => ?_)
      · have h := h1 c
        clear h1 h2
        refine G_iload C dX10_ask_205 3 rfl ?_
        refine G_sub [0, 1, 2, 4, 5] (lv' := [(0, .ref (adr ω 128)), (2, .int l2), (3, .int l3), (5, .int l5), (6, .int l6)]) rfl ?_
        exact s_X10_ask_J207 C R k125 h
      · have h := h2 c
        clear h1 h2
        refine G_iload C dX10_ask_200 4 rfl ?_
        refine G_goto (tgt := 207) C dX10_ask_202 (by decide) ?_
        refine G_sub [0, 1, 2, 4, 5] (lv' := [(0, .ref (adr ω 128)), (2, .int l2), (3, .int l3), (5, .int l5), (6, .int l6)]) rfl ?_
        exact s_X10_ask_J207 C R k125 h
    · have h := h2 c
      clear h1 h2
      refine G_aload_n C dX10_ask_150 0 rfl ?_
      refine gf_X10_29 C dX10_ask_151 ?_
      refine G_bipush (v := 7) C dX10_ask_154 (by decide) ?_
      refine G_iload C dX10_ask_156 4 rfl ?_
      refine G_imul C dX10_ask_158 ?_
      refine G_iload C dX10_ask_159 6 rfl ?_
      refine G_iadd C dX10_ask_161 ?_
      obtain ⟨hi, h⟩ := h
      refine G_iald C q135 hi rfl dX10_ask_162 ?_
      refine G_iload C dX10_ask_163 5 rfl ?_
      obtain ⟨h1, h2⟩ := h
      refine G_icmp_le (tgt := 184) C dX10_ask_165 (by decide) (fun c => ?_) (fun c => ?_)
      · have h := h1 c
        clear h1 h2
        refine G_iload C dX10_ask_184 5 rfl ?_
        refine G_sub [0, 1, 2, 3, 4, 6] (lv' := [(0, .ref (adr ω 128)), (2, .int l2), (3, .int l3), (4, .int l4), (5, .int l5), (7, .int l7)]) rfl ?_
        exact s_X10_ask_J186 C R k125 k143 h
      · have h := h2 c
        clear h1 h2
        refine G_aload_n C dX10_ask_168 0 rfl ?_
        refine gf_X10_29 C dX10_ask_169 ?_
        refine G_bipush (v := 7) C dX10_ask_172 (by decide) ?_
        refine G_iload C dX10_ask_174 4 rfl ?_
        refine G_imul C dX10_ask_176 ?_
        refine G_iload C dX10_ask_177 6 rfl ?_
        refine G_iadd C dX10_ask_179 ?_
        obtain ⟨hi, h⟩ := h
        refine G_iald C q135 hi rfl dX10_ask_180 ?_
        refine G_goto (tgt := 186) C dX10_ask_181 (by decide) ?_
        refine G_sub [0, 1, 2, 3, 4, 6] (lv' := [(0, .ref (adr ω 128)), (2, .int l2), (3, .int l3), (4, .int l4), (5, .int l5), (7, .int l7)]) rfl ?_
        exact s_X10_ask_J186 C R k125 k143 h
set_option maxRecDepth 100000 in
set_option maxHeartbeats 4000000 in
theorem s_X10_ask_L125 {ω : WD} {ρ : FR} {post : Int32 → Mem → Prop} (C : Cx ω ρ cX10_ask RX10 7 8) (R : RtI ω ρ cX10_ask .int post) {l2 : Int32} : ∀ (f : Nat) (l3 : Int32) (l4 : Int32) (l5 : Int32) (M : Mem), w_X10_ask_L125 post l2 f l3 l4 l5 M → G ω ρ M 125 [(0, .ref (adr ω 128)), (2, .int l2), (3, .int l3), (4, .int l4), (5, .int l5)] [] := by
  intro f
  induction f with
  | zero => intro l3 l4 l5 M h; exact False.elim h
  | succ f k125 =>
    intro l3 l4 l5 M h
    refine G_iload C dX10_ask_125 4 rfl ?_
    refine G_aload_n C dX10_ask_127 0 rfl ?_
    refine gf_X10_7 C dX10_ask_128 ?_
    refine G_bipush (v := 66) C dX10_ask_131 (by decide) ?_
    refine G_iald C q129 (vp_lit rfl) (kk := 66) (by decide +kernel) dX10_ask_133 ?_
    obtain ⟨h1, h2⟩ := h
    refine G_icmp_ge (tgt := 228) C dX10_ask_134 (by decide) (fun c => ?_) (fun c => ?_)
    · have h := h1 c
      clear h1 h2
      refine G_iload C dX10_ask_228 3 rfl ?_
      refine G_bipush (v := (-4)) C dX10_ask_230 (by decide) ?_
      obtain ⟨h1, h2⟩ := h
      refine G_icmp_ne (tgt := 240) C dX10_ask_232 (by decide) (fun c => ?_) (fun c => ?_)
      · have h := h1 c
        clear h1 h2
        refine G_iload_n C dX10_ask_240 1 rfl ?_
        obtain ⟨h1, h2⟩ := h
        refine G_if_ne (tgt := 249) C dX10_ask_241 (by decide) (fun c => ?_) (fun c => ?_)
        · have h := h1 c
          clear h1 h2
          refine G_iload_n C dX10_ask_249 2 rfl ?_
          exact R 250 _ _ _ dX10_ask_250 rfl h
        · have h := h2 c
          clear h1 h2
          refine G_iload C dX10_ask_244 3 rfl ?_
          refine G_goto (tgt := 250) C dX10_ask_246 (by decide) ?_
          exact R 250 _ _ _ dX10_ask_250 rfl h
      · have h := h2 c
        clear h1 h2
        refine G_bipush (v := (-4)) C dX10_ask_235 (by decide) ?_
        refine G_goto (tgt := 250) C dX10_ask_237 (by decide) ?_
        exact R 250 _ _ _ dX10_ask_250 rfl h
    · have h := h2 c
      clear h1 h2
      refine G_iconst (v := 0) C dX10_ask_137 (by decide) ?_
      refine G_istore C dX10_ask_138 (by decide) (lv' := [(6, .int 0), (0, .ref (adr ω 128)), (2, .int l2), (3, .int l3), (4, .int l4), (5, .int l5)]) rfl ?_
      refine G_iconst (v := 0) C dX10_ask_140 (by decide) ?_
      refine G_istore C dX10_ask_141 (by decide) (lv' := [(7, .int 0), (6, .int 0), (0, .ref (adr ω 128)), (2, .int l2), (3, .int l3), (4, .int l4), (5, .int l5)]) rfl ?_
      refine G_sub [2, 3, 4, 5, 6, 1, 0] (lv' := [(0, .ref (adr ω 128)), (2, .int l2), (3, .int l3), (4, .int l4), (5, .int l5), (6, .int 0), (7, .int 0)]) rfl ?_
      obtain ⟨f, h⟩ := h
      exact s_X10_ask_L143 C R k125 f _ _ _ h
set_option maxRecDepth 100000 in
set_option maxHeartbeats 4000000 in
theorem s_X10_ask_L49 {ω : WD} {ρ : FR} {post : Int32 → Mem → Prop} (C : Cx ω ρ cX10_ask RX10 7 8) (R : RtI ω ρ cX10_ask .int post) {l1 : Int32} {l2 : Int32} {l4 : Int32} : ∀ (f : Nat) (l3 : Int32) (l5 : Int32) (M : Mem), w_X10_ask_L49 post l1 l2 l4 f l3 l5 M → G ω ρ M 49 [(0, .ref (adr ω 128)), (1, .int l1), (2, .int l2), (3, .int l3), (4, .int l4), (5, .int l5)] [] := by
  intro f
  induction f with
  | zero => intro l3 l5 M h; exact False.elim h
  | succ f k49 =>
    intro l3 l5 M h
    refine G_iload C dX10_ask_49 5 rfl ?_
    refine G_aload_n C dX10_ask_51 0 rfl ?_
    refine G_iload_n C dX10_ask_52 1 rfl ?_
    refine G_callI (As := [.int l1]) (rest := [.int l5]) C dX10_ask_53 lk_X10_295 (Nat.le_of_ble_eq_true rfl) (Nat.le_of_ble_eq_true rfl) q128 (by decide) rfl (Nat.le_of_ble_eq_true rfl) rfl (S_X10_setsOf h) (fun r7 M6 h => ?_)
    obtain ⟨h1, h2⟩ := h
    refine G_icmp_ge (tgt := 122) C dX10_ask_56 (by decide) (fun c => ?_) (fun c => ?_)
    · have h := h1 c
      clear h1 h2
      refine G_iconst (v := 0) C dX10_ask_122 (by decide) ?_
      refine G_istore C dX10_ask_123 (by decide) (lv' := [(5, .int 0), (0, .ref (adr ω 128)), (1, .int l1), (2, .int l2), (3, .int l3), (4, .int l4)]) rfl ?_
      refine G_sub [1, 3, 4, 5, 0] (lv' := [(0, .ref (adr ω 128)), (2, .int l2), (3, .int l3), (4, .int l4), (5, .int 0)]) rfl ?_
      obtain ⟨f, h⟩ := h
      exact s_X10_ask_L125 C R  f _ _ _ _ h
    · have h := h2 c
      clear h1 h2
      refine G_aload_n C dX10_ask_59 0 rfl ?_
      refine G_iload_n C dX10_ask_60 1 rfl ?_
      refine G_iconst (v := 2) C dX10_ask_61 (by decide) ?_
      refine G_iload C dX10_ask_62 5 rfl ?_
      refine G_callI (As := [.int l1, .int 2, .int l5]) (rest := []) C dX10_ask_64 lk_X10_292 (Nat.le_of_ble_eq_true rfl) (Nat.le_of_ble_eq_true rfl) q128 (by decide) rfl (Nat.le_of_ble_eq_true rfl) rfl (S_X10_isSoWith h) (fun r9 M8 h => ?_)
      obtain ⟨h1, h2⟩ := h
      refine G_if_eq (tgt := 116) C dX10_ask_67 (by decide) (fun c => ?_) (fun c => ?_)
      · have h := h1 c
        clear h1 h2
        exact s_X10_ask_J116 C R k49 h
      · have h := h2 c
        clear h1 h2
        obtain ⟨v10, ev10⟩ : ∃ y : Int32, y = (l3 + 1) := ⟨_, rfl⟩
        replace h := h v10 ev10
        refine G_iinc C dX10_ask_70 3 rfl (v := v10) (by rw [ev10]; rfl) (by decide) (lv' := [(3, .int v10), (0, .ref (adr ω 128)), (1, .int l1), (2, .int l2), (4, .int l4), (5, .int l5)]) rfl ?_
        refine G_iconst (v := 0) C dX10_ask_73 (by decide) ?_
        refine G_istore C dX10_ask_74 (by decide) (lv' := [(6, .int 0), (3, .int v10), (0, .ref (adr ω 128)), (1, .int l1), (2, .int l2), (4, .int l4), (5, .int l5)]) rfl ?_
        refine G_sub [2, 3, 4, 1, 5, 6, 0] (lv' := [(0, .ref (adr ω 128)), (1, .int l1), (2, .int l2), (3, .int v10), (4, .int l4), (5, .int l5), (6, .int 0)]) rfl ?_
        obtain ⟨f, h⟩ := h
        exact s_X10_ask_L76 C R k49 f _ _ h
set_option maxRecDepth 100000 in
set_option maxHeartbeats 4000000 in
theorem s_X10_ask_L25 {ω : WD} {ρ : FR} {post : Int32 → Mem → Prop} (C : Cx ω ρ cX10_ask RX10 7 8) (R : RtI ω ρ cX10_ask .int post) {l1 : Int32} {l2 : Int32} {l3 : Int32} {l4 : Int32} : ∀ (f : Nat) (l5 : Int32) (M : Mem), w_X10_ask_L25 post l1 l2 l3 l4 f l5 M → G ω ρ M 25 [(0, .ref (adr ω 128)), (1, .int l1), (2, .int l2), (3, .int l3), (4, .int l4), (5, .int l5)] [] := by
  intro f
  induction f with
  | zero => intro l5 M h; exact False.elim h
  | succ f k25 =>
    intro l5 M h
    refine G_iload C dX10_ask_25 5 rfl ?_
    refine G_bipush (v := 56) C dX10_ask_27 (by decide) ?_
    obtain ⟨h1, h2⟩ := h
    refine G_icmp_ge (tgt := 46) C dX10_ask_29 (by decide) (fun c => ?_) (fun c => ?_)
    · have h := h1 c
      clear h1 h2
      refine G_iconst (v := 0) C dX10_ask_46 (by decide) ?_
      refine G_istore C dX10_ask_47 (by decide) (lv' := [(5, .int 0), (0, .ref (adr ω 128)), (1, .int l1), (2, .int l2), (3, .int l3), (4, .int l4)]) rfl ?_
      refine G_sub [1, 2, 3, 4, 5, 0] (lv' := [(0, .ref (adr ω 128)), (1, .int l1), (2, .int l2), (3, .int l3), (4, .int l4), (5, .int 0)]) rfl ?_
      obtain ⟨f, h⟩ := h
      exact s_X10_ask_L49 C R  f _ _ _ h
    · have h := h2 c
      clear h1 h2
      refine G_aload_n C dX10_ask_32 0 rfl ?_
      refine gf_X10_29 C dX10_ask_33 ?_
      refine G_iload C dX10_ask_36 5 rfl ?_
      refine G_iconst (v := 0) C dX10_ask_38 (by decide) ?_
      obtain ⟨hi, h⟩ := h
      refine G_iast C q135 hi rfl dX10_ask_39 (G_mname (fun M11 eM11 => ?_))
      replace h := h M11 eM11
      obtain ⟨v12, ev12⟩ : ∃ y : Int32, y = (l5 + 1) := ⟨_, rfl⟩
      replace h := h v12 ev12
      refine G_iinc C dX10_ask_40 5 rfl (v := v12) (by rw [ev12]; rfl) (by decide) (lv' := [(5, .int v12), (0, .ref (adr ω 128)), (1, .int l1), (2, .int l2), (3, .int l3), (4, .int l4)]) rfl ?_
      refine G_goto (tgt := 25) C dX10_ask_43 (by decide) ?_
      refine G_sub [1, 2, 3, 4, 5, 0] (lv' := [(0, .ref (adr ω 128)), (1, .int l1), (2, .int l2), (3, .int l3), (4, .int l4), (5, .int v12)]) rfl ?_
      exact k25 _ _ h
set_option maxRecDepth 100000 in
set_option maxHeartbeats 4000000 in
theorem S_X10_ask {ω : WD} {l1 : Int32} {l2 : Int32} {M : Mem} {post : Int32 → Mem → Prop} (h : w_X10_ask l1 l2 M post) : MtI ω yX10_ask cX10_ask 8 (some .int) 7 [.ref (adr ω 128), .int l1, .int l2] M post := by
  refine MtI.start (ty := .int) rfl (by decide +kernel) (own := RX10) rfl (Nat.le_of_ble_eq_true rfl) (fun ρ C R => ?_)
  show G ω ρ M 0 [(0, .ref (adr ω 128)), (1, .int l1), (2, .int l2)] []
  refine G_iload_n C dX10_ask_0 1 rfl ?_
  refine G_scallI (As := [.int l1]) (rest := []) C dX10_ask_1 lk_X10_220 (Nat.le_of_ble_eq_true rfl) (Nat.le_of_ble_eq_true rfl) (Nat.le_of_ble_eq_true rfl) rfl (S_X10_isGroup h) (fun r14 M13 h => ?_)
  obtain ⟨h1, h2⟩ := h
  refine G_if_eq (tgt := 14) C dX10_ask_4 (by decide) (fun c => ?_) (fun c => ?_)
  · have h := h1 c
    clear h1 h2
    refine G_iconst (v := (-1)) C dX10_ask_14 (by decide) ?_
    exact R 15 _ _ _ dX10_ask_15 rfl h
  · have h := h2 c
    clear h1 h2
    refine G_iload_n C dX10_ask_7 2 rfl ?_
    refine G_scallI (As := [.int l2]) (rest := []) C dX10_ask_8 lk_X10_226 (Nat.le_of_ble_eq_true rfl) (Nat.le_of_ble_eq_true rfl) (Nat.le_of_ble_eq_true rfl) rfl (S_X10_isPart h) (fun r16 M15 h => ?_)
    obtain ⟨h1, h2⟩ := h
    refine G_if_ne (tgt := 16) C dX10_ask_11 (by decide) (fun c => ?_) (fun c => ?_)
    · have h := h1 c
      clear h1 h2
      refine G_iconst (v := 0) C dX10_ask_16 (by decide) ?_
      refine G_istore_n C dX10_ask_17 (by decide) (lv' := [(3, .int 0), (0, .ref (adr ω 128)), (1, .int l1), (2, .int l2)]) rfl ?_
      refine G_bipush (v := (-4)) C dX10_ask_18 (by decide) ?_
      refine G_istore C dX10_ask_20 (by decide) (lv' := [(4, .int (-4)), (3, .int 0), (0, .ref (adr ω 128)), (1, .int l1), (2, .int l2)]) rfl ?_
      refine G_iconst (v := 0) C dX10_ask_22 (by decide) ?_
      refine G_istore C dX10_ask_23 (by decide) (lv' := [(5, .int 0), (4, .int (-4)), (3, .int 0), (0, .ref (adr ω 128)), (1, .int l1), (2, .int l2)]) rfl ?_
      refine G_sub [3, 4, 5, 2, 1, 0] (lv' := [(0, .ref (adr ω 128)), (1, .int l1), (2, .int l2), (3, .int 0), (4, .int (-4)), (5, .int 0)]) rfl ?_
      obtain ⟨f, h⟩ := h
      exact s_X10_ask_L25 C R  f _ _ h
    · have h := h2 c
      clear h1 h2
      refine G_iconst (v := (-1)) C dX10_ask_14 (by decide) ?_
      exact R 15 _ _ _ dX10_ask_15 rfl h
theorem dX10_drift_0 : decode cX10_drift 0 = .ok (.iload_n 2, 1) := by decide +kernel
theorem dX10_drift_1 : decode cX10_drift 1 = .ok (.i2l, 1) := by decide +kernel
theorem dX10_drift_2 : decode cX10_drift 2 = .ok (.lconst 1, 1) := by decide +kernel
theorem dX10_drift_3 : decode cX10_drift 3 = .ok (.ldc2_w 298, 3) := by decide +kernel
theorem dX10_drift_6 : decode cX10_drift 6 = .ok (.invokestatic 52, 3) := by decide +kernel
theorem dX10_drift_9 : decode cX10_drift 9 = .ok (.ifCond .eq 10, 3) := by decide +kernel
theorem dX10_drift_12 : decode cX10_drift 12 = .ok (.iload_n 3, 1) := by decide +kernel
theorem dX10_drift_13 : decode cX10_drift 13 = .ok (.invokestatic 226, 3) := by decide +kernel
theorem dX10_drift_16 : decode cX10_drift 16 = .ok (.ifCond .ne 5, 3) := by decide +kernel
theorem dX10_drift_19 : decode cX10_drift 19 = .ok (.iconst (-1), 1) := by decide +kernel
theorem dX10_drift_20 : decode cX10_drift 20 = .ok (.ireturn, 1) := by decide +kernel
theorem dX10_drift_21 : decode cX10_drift 21 = .ok (.aload_n 0, 1) := by decide +kernel
theorem dX10_drift_22 : decode cX10_drift 22 = .ok (.getfield 7, 3) := by decide +kernel
theorem dX10_drift_25 : decode cX10_drift 25 = .ok (.bipush 24, 2) := by decide +kernel
theorem dX10_drift_27 : decode cX10_drift 27 = .ok (.iaload, 1) := by decide +kernel
theorem dX10_drift_28 : decode cX10_drift 28 = .ok (.ifCond .ne 6, 3) := by decide +kernel
theorem dX10_drift_31 : decode cX10_drift 31 = .ok (.bipush (-2), 2) := by decide +kernel
theorem dX10_drift_33 : decode cX10_drift 33 = .ok (.ireturn, 1) := by decide +kernel
theorem dX10_drift_34 : decode cX10_drift 34 = .ok (.iload_n 1, 1) := by decide +kernel
theorem dX10_drift_35 : decode cX10_drift 35 = .ok (.istore 4, 2) := by decide +kernel
theorem dX10_drift_37 : decode cX10_drift 37 = .ok (.iconst 0, 1) := by decide +kernel
theorem dX10_drift_38 : decode cX10_drift 38 = .ok (.istore 5, 2) := by decide +kernel
theorem dX10_drift_40 : decode cX10_drift 40 = .ok (.aload_n 0, 1) := by decide +kernel
theorem dX10_drift_41 : decode cX10_drift 41 = .ok (.invokevirtual 209, 3) := by decide +kernel
theorem dX10_drift_44 : decode cX10_drift 44 = .ok (.iconst 0, 1) := by decide +kernel
theorem dX10_drift_45 : decode cX10_drift 45 = .ok (.istore 6, 2) := by decide +kernel
theorem dX10_drift_47 : decode cX10_drift 47 = .ok (.iload 6, 2) := by decide +kernel
theorem dX10_drift_49 : decode cX10_drift 49 = .ok (.iload_n 2, 1) := by decide +kernel
theorem dX10_drift_50 : decode cX10_drift 50 = .ok (.if_icmp .ge 98, 3) := by decide +kernel
theorem dX10_drift_53 : decode cX10_drift 53 = .ok (.iload 4, 2) := by decide +kernel
theorem dX10_drift_55 : decode cX10_drift 55 = .ok (.ldc_w 300, 3) := by decide +kernel
theorem dX10_drift_58 : decode cX10_drift 58 = .ok (.imul, 1) := by decide +kernel
theorem dX10_drift_59 : decode cX10_drift 59 = .ok (.sipush 12345, 3) := by decide +kernel
theorem dX10_drift_62 : decode cX10_drift 62 = .ok (.iadd, 1) := by decide +kernel
theorem dX10_drift_63 : decode cX10_drift 63 = .ok (.istore 4, 2) := by decide +kernel
theorem dX10_drift_65 : decode cX10_drift 65 = .ok (.iload 4, 2) := by decide +kernel
theorem dX10_drift_67 : decode cX10_drift 67 = .ok (.bipush 16, 2) := by decide +kernel
theorem dX10_drift_69 : decode cX10_drift 69 = .ok (.ishr, 1) := by decide +kernel
theorem dX10_drift_70 : decode cX10_drift 70 = .ok (.sipush 32767, 3) := by decide +kernel
theorem dX10_drift_73 : decode cX10_drift 73 = .ok (.iand, 1) := by decide +kernel
theorem dX10_drift_74 : decode cX10_drift 74 = .ok (.istore 7, 2) := by decide +kernel
theorem dX10_drift_76 : decode cX10_drift 76 = .ok (.iload 7, 2) := by decide +kernel
theorem dX10_drift_78 : decode cX10_drift 78 = .ok (.aload_n 0, 1) := by decide +kernel
theorem dX10_drift_79 : decode cX10_drift 79 = .ok (.getfield 13, 3) := by decide +kernel
theorem dX10_drift_82 : decode cX10_drift 82 = .ok (.bipush 24, 2) := by decide +kernel
theorem dX10_drift_84 : decode cX10_drift 84 = .ok (.iaload, 1) := by decide +kernel
theorem dX10_drift_85 : decode cX10_drift 85 = .ok (.irem, 1) := by decide +kernel
theorem dX10_drift_86 : decode cX10_drift 86 = .ok (.istore 8, 2) := by decide +kernel
theorem dX10_drift_88 : decode cX10_drift 88 = .ok (.aload_n 0, 1) := by decide +kernel
theorem dX10_drift_89 : decode cX10_drift 89 = .ok (.iload 8, 2) := by decide +kernel
theorem dX10_drift_91 : decode cX10_drift 91 = .ok (.iconst 2, 1) := by decide +kernel
theorem dX10_drift_92 : decode cX10_drift 92 = .ok (.invokevirtual 157, 3) := by decide +kernel
theorem dX10_drift_95 : decode cX10_drift 95 = .ok (.ifCond .eq 12, 3) := by decide +kernel
theorem dX10_drift_98 : decode cX10_drift 98 = .ok (.aload_n 0, 1) := by decide +kernel
theorem dX10_drift_99 : decode cX10_drift 99 = .ok (.iload 8, 2) := by decide +kernel
theorem dX10_drift_101 : decode cX10_drift 101 = .ok (.invokevirtual 195, 3) := by decide +kernel
theorem dX10_drift_104 : decode cX10_drift 104 = .ok (.goto 38, 3) := by decide +kernel
theorem dX10_drift_107 : decode cX10_drift 107 = .ok (.iload 5, 2) := by decide +kernel
theorem dX10_drift_109 : decode cX10_drift 109 = .ok (.aload_n 0, 1) := by decide +kernel
theorem dX10_drift_110 : decode cX10_drift 110 = .ok (.iload 8, 2) := by decide +kernel
theorem dX10_drift_112 : decode cX10_drift 112 = .ok (.aload_n 0, 1) := by decide +kernel
theorem dX10_drift_113 : decode cX10_drift 113 = .ok (.iload 7, 2) := by decide +kernel
theorem dX10_drift_115 : decode cX10_drift 115 = .ok (.bipush 8, 2) := by decide +kernel
theorem dX10_drift_117 : decode cX10_drift 117 = .ok (.idiv, 1) := by decide +kernel
theorem dX10_drift_118 : decode cX10_drift 118 = .ok (.aload_n 0, 1) := by decide +kernel
theorem dX10_drift_119 : decode cX10_drift 119 = .ok (.getfield 13, 3) := by decide +kernel
theorem dX10_drift_122 : decode cX10_drift 122 = .ok (.bipush 24, 2) := by decide +kernel
theorem dX10_drift_124 : decode cX10_drift 124 = .ok (.iaload, 1) := by decide +kernel
theorem dX10_drift_125 : decode cX10_drift 125 = .ok (.irem, 1) := by decide +kernel
theorem dX10_drift_126 : decode cX10_drift 126 = .ok (.iconst 0, 1) := by decide +kernel
theorem dX10_drift_127 : decode cX10_drift 127 = .ok (.invokevirtual 157, 3) := by decide +kernel
theorem dX10_drift_130 : decode cX10_drift 130 = .ok (.invokevirtual 198, 3) := by decide +kernel
theorem dX10_drift_133 : decode cX10_drift 133 = .ok (.invokestatic 206, 3) := by decide +kernel
theorem dX10_drift_136 : decode cX10_drift 136 = .ok (.invokestatic 160, 3) := by decide +kernel
theorem dX10_drift_139 : decode cX10_drift 139 = .ok (.iadd, 1) := by decide +kernel
theorem dX10_drift_140 : decode cX10_drift 140 = .ok (.istore 5, 2) := by decide +kernel
theorem dX10_drift_142 : decode cX10_drift 142 = .ok (.iinc 6 1, 3) := by decide +kernel
theorem dX10_drift_145 : decode cX10_drift 145 = .ok (.goto (-98), 3) := by decide +kernel
theorem dX10_drift_148 : decode cX10_drift 148 = .ok (.iload_n 3, 1) := by decide +kernel
theorem dX10_drift_149 : decode cX10_drift 149 = .ok (.ifCond .ne 8, 3) := by decide +kernel
theorem dX10_drift_152 : decode cX10_drift 152 = .ok (.iload 5, 2) := by decide +kernel
theorem dX10_drift_154 : decode cX10_drift 154 = .ok (.goto 7, 3) := by decide +kernel
theorem dX10_drift_157 : decode cX10_drift 157 = .ok (.aload_n 0, 1) := by decide +kernel
theorem dX10_drift_158 : decode cX10_drift 158 = .ok (.invokevirtual 177, 3) := by decide +kernel
theorem dX10_drift_161 : decode cX10_drift 161 = .ok (.ireturn, 1) := by decide +kernel
set_option maxRecDepth 100000 in
set_option maxHeartbeats 4000000 in
theorem s_X10_drift_J142 {ω : WD} {ρ : FR} {post : Int32 → Mem → Prop} (C : Cx ω ρ cX10_drift RX10 4 9) (R : RtI ω ρ cX10_drift .int post) {K47 : Int32 → Int32 → Int32 → Mem → Prop} {l2 : Int32} {l3 : Int32} {l4 : Int32} {l5 : Int32} {l6 : Int32} (k47 : ∀ (u4 : Int32) (u5 : Int32) (u6 : Int32) (M : Mem), K47 u4 u5 u6 M → G ω ρ M 47 [(0, .ref (adr ω 128)), (2, .int l2), (3, .int l3), (4, .int u4), (5, .int u5), (6, .int u6)] []) {M : Mem} (h : w_X10_drift_J142 post K47 l2 l3 l4 l5 l6 M) : G ω ρ M 142 [(0, .ref (adr ω 128)), (2, .int l2), (3, .int l3), (4, .int l4), (5, .int l5), (6, .int l6)] [] := by
  obtain ⟨v1, ev1⟩ : ∃ y : Int32, y = (l6 + 1) := ⟨_, rfl⟩
  replace h := h v1 ev1
  refine G_iinc C dX10_drift_142 5 rfl (v := v1) (by rw [ev1]; rfl) (by decide) (lv' := [(6, .int v1), (0, .ref (adr ω 128)), (2, .int l2), (3, .int l3), (4, .int l4), (5, .int l5)]) rfl ?_
  refine G_goto (tgt := 47) C dX10_drift_145 (by decide) ?_
  refine G_sub [1, 2, 3, 4, 5, 0] (lv' := [(0, .ref (adr ω 128)), (2, .int l2), (3, .int l3), (4, .int l4), (5, .int l5), (6, .int v1)]) rfl ?_
  exact k47 _ _ _ _ h
set_option maxRecDepth 100000 in
set_option maxHeartbeats 4000000 in
theorem s_X10_drift_L47 {ω : WD} {ρ : FR} {post : Int32 → Mem → Prop} (C : Cx ω ρ cX10_drift RX10 4 9) (R : RtI ω ρ cX10_drift .int post) {l2 : Int32} {l3 : Int32} : ∀ (f : Nat) (l4 : Int32) (l5 : Int32) (l6 : Int32) (M : Mem), w_X10_drift_L47 post l2 l3 f l4 l5 l6 M → G ω ρ M 47 [(0, .ref (adr ω 128)), (2, .int l2), (3, .int l3), (4, .int l4), (5, .int l5), (6, .int l6)] [] := by
  intro f
  induction f with
  | zero => intro l4 l5 l6 M h; exact False.elim h
  | succ f k47 =>
    intro l4 l5 l6 M h
    refine G_iload C dX10_drift_47 5 rfl ?_
    refine G_iload_n C dX10_drift_49 1 rfl ?_
    obtain ⟨h1, h2⟩ := h
    refine G_icmp_ge (tgt := 148) C dX10_drift_50 (by decide) (fun c => ?_) (fun c => ?_)
    · have h := h1 c
      clear h1 h2
      refine G_iload_n C dX10_drift_148 2 rfl ?_
      obtain ⟨h1, h2⟩ := h
      refine G_if_ne (tgt := 157) C dX10_drift_149 (by decide) (fun c => ?_) (fun c => ?_)
      · have h := h1 c
        clear h1 h2
        refine G_aload_n C dX10_drift_157 0 rfl ?_
        refine G_callI (As := []) (rest := []) C dX10_drift_158 lk_X10_177 (Nat.le_of_ble_eq_true rfl) (Nat.le_of_ble_eq_true rfl) q128 (by decide) rfl (Nat.le_of_ble_eq_true rfl) rfl (S_X10_callsNow h) (fun r3 M2 h => ?_)
        exact R 161 _ _ _ dX10_drift_161 rfl h
      · have h := h2 c
        clear h1 h2
        refine G_iload C dX10_drift_152 4 rfl ?_
        refine G_goto (tgt := 161) C dX10_drift_154 (by decide) ?_
        exact R 161 _ _ _ dX10_drift_161 rfl h
    · have h := h2 c
      clear h1 h2
      refine G_iload C dX10_drift_53 3 rfl ?_
      refine G_ldcw (v := 1103515245) C dX10_drift_55 (tb_of 1418 ⟨by decide +kernel, rfl⟩) ?_
      refine G_imul C dX10_drift_58 ?_
      refine G_sipush (v := 12345) C dX10_drift_59 (by decide) ?_
      refine G_iadd C dX10_drift_62 ?_
      refine G_iname (fun v4 ev4 => ?_)
      replace h := h v4 ev4
      refine G_istore C dX10_drift_63 (by decide) (lv' := [(4, .int v4), (0, .ref (adr ω 128)), (2, .int l2), (3, .int l3), (5, .int l5), (6, .int l6)]) rfl ?_
      refine G_iload C dX10_drift_65 0 rfl ?_
      refine G_bipush (v := 16) C dX10_drift_67 (by decide) ?_
      refine G_ishr C dX10_drift_69 ?_
      refine G_sipush (v := 32767) C dX10_drift_70 (by decide) ?_
      refine G_iand C dX10_drift_73 ?_
      refine G_iname (fun v5 ev5 => ?_)
      replace h := h v5 ev5
      refine G_istore C dX10_drift_74 (by decide) (lv' := [(7, .int v5), (4, .int v4), (0, .ref (adr ω 128)), (2, .int l2), (3, .int l3), (5, .int l5), (6, .int l6)]) rfl ?_
      refine G_iload C dX10_drift_76 0 rfl ?_
      refine G_aload_n C dX10_drift_78 2 rfl ?_
      refine gf_X10_13 C dX10_drift_79 ?_
      refine G_bipush (v := 24) C dX10_drift_82 (by decide) ?_
      refine G_iald C q130 (vp_lit rfl) (kk := 24) (by decide +kernel) dX10_drift_84 ?_
      obtain ⟨hz, h⟩ := h
      refine G_irem C dX10_drift_85 hz ?_
      refine G_iname (fun v6 ev6 => ?_)
      replace h := h v6 ev6
      refine G_istore C dX10_drift_86 (by decide) (lv' := [(8, .int v6), (7, .int v5), (4, .int v4), (0, .ref (adr ω 128)), (2, .int l2), (3, .int l3), (5, .int l5), (6, .int l6)]) rfl ?_
      refine G_aload_n C dX10_drift_88 3 rfl ?_
      refine G_iload C dX10_drift_89 0 rfl ?_
      refine G_iconst (v := 2) C dX10_drift_91 (by decide) ?_
      refine G_callI (As := [.int v6, .int 2]) (rest := []) C dX10_drift_92 lk_X10_157 (Nat.le_of_ble_eq_true rfl) (Nat.le_of_ble_eq_true rfl) q128 (by decide) rfl (Nat.le_of_ble_eq_true rfl) rfl (S_X10_of h) (fun r8 M7 h => ?_)
      obtain ⟨h1, h2⟩ := h
      refine G_if_eq (tgt := 107) C dX10_drift_95 (by decide) (fun c => ?_) (fun c => ?_)
      · have h := h1 c
        clear h1 h2
        refine G_iload C dX10_drift_107 6 rfl ?_
        refine G_aload_n C dX10_drift_109 3 rfl ?_
        refine G_iload C dX10_drift_110 0 rfl ?_
        refine G_aload_n C dX10_drift_112 3 rfl ?_
        refine G_iload C dX10_drift_113 1 rfl ?_
        refine G_bipush (v := 8) C dX10_drift_115 (by decide) ?_
        refine G_idiv C dX10_drift_117 (by decide) ?_
        refine G_aload_n C dX10_drift_118 3 rfl ?_
        refine gf_X10_13 C dX10_drift_119 ?_
        refine G_bipush (v := 24) C dX10_drift_122 (by decide) ?_
        refine G_iald C q130 (vp_lit rfl) (kk := 24) (by decide +kernel) dX10_drift_124 ?_
        obtain ⟨hz, h⟩ := h
        refine G_irem C dX10_drift_125 hz ?_
        refine G_iconst (v := 0) C dX10_drift_126 (by decide) ?_
        refine G_callI (As := [.int (irem (v5 / 8) (rd M7 130 24)), .int 0]) (rest := [.int v6, .ref (adr ω 128), .int l5]) C dX10_drift_127 lk_X10_157 (Nat.le_of_ble_eq_true rfl) (Nat.le_of_ble_eq_true rfl) q128 (by decide) rfl (Nat.le_of_ble_eq_true rfl) rfl (S_X10_of h) (fun r10 M9 h => ?_)
        refine G_callI (As := [.int v6, .int r10]) (rest := [.int l5]) C dX10_drift_130 lk_X10_198 (Nat.le_of_ble_eq_true rfl) (Nat.le_of_ble_eq_true rfl) q128 (by decide) rfl (Nat.le_of_ble_eq_true rfl) rfl (S_X10_dials h) (fun r12 M11 h => ?_)
        refine G_scallI (As := [.int r12]) (rest := [.int l5]) C dX10_drift_133 lk_X10_206 (Nat.le_of_ble_eq_true rfl) (Nat.le_of_ble_eq_true rfl) (Nat.le_of_ble_eq_true rfl) rfl (S_X10_isLost h) (fun r14 M13 h => ?_)
        refine G_scallI (As := [.int r14]) (rest := [.int l5]) C dX10_drift_136 lk_X10_160 (Nat.le_of_ble_eq_true rfl) (Nat.le_of_ble_eq_true rfl) (Nat.le_of_ble_eq_true rfl) rfl (S_X10_flag h) (fun r16 M15 h => ?_)
        refine G_iadd C dX10_drift_139 ?_
        refine G_iname (fun v17 ev17 => ?_)
        replace h := h v17 ev17
        refine G_istore C dX10_drift_140 (by decide) (lv' := [(5, .int v17), (8, .int v6), (7, .int v5), (4, .int v4), (0, .ref (adr ω 128)), (2, .int l2), (3, .int l3), (6, .int l6)]) rfl ?_
        refine G_sub [4, 5, 6, 3, 0, 7] (lv' := [(0, .ref (adr ω 128)), (2, .int l2), (3, .int l3), (4, .int v4), (5, .int v17), (6, .int l6)]) rfl ?_
        exact s_X10_drift_J142 C R k47 h
      · have h := h2 c
        clear h1 h2
        refine G_aload_n C dX10_drift_98 3 rfl ?_
        refine G_iload C dX10_drift_99 0 rfl ?_
        refine G_callV (As := [.int v6]) (rest := []) C dX10_drift_101 lk_X10_195 (Nat.le_of_ble_eq_true rfl) (Nat.le_of_ble_eq_true rfl) q128 (by decide) rfl (Nat.le_of_ble_eq_true rfl) rfl (S_X10_hangsUp h) (fun M18 h => ?_)
        refine G_goto (tgt := 142) C dX10_drift_104 (by decide) ?_
        refine G_sub [3, 4, 5, 2, 6, 7] (lv' := [(0, .ref (adr ω 128)), (2, .int l2), (3, .int l3), (4, .int v4), (5, .int l5), (6, .int l6)]) rfl ?_
        exact s_X10_drift_J142 C R k47 h
set_option maxRecDepth 100000 in
set_option maxHeartbeats 4000000 in
theorem S_X10_drift {ω : WD} {l1 : Int32} {l2 : Int32} {l3 : Int32} {M : Mem} {post : Int32 → Mem → Prop} (h : w_X10_drift l1 l2 l3 M post) : MtI ω yX10_drift cX10_drift 9 (some .int) 4 [.ref (adr ω 128), .int l1, .int l2, .int l3] M post := by
  refine MtI.start (ty := .int) rfl (by decide +kernel) (own := RX10) rfl (Nat.le_of_ble_eq_true rfl) (fun ρ C R => ?_)
  show G ω ρ M 0 [(0, .ref (adr ω 128)), (1, .int l1), (2, .int l2), (3, .int l3)] []
  refine G_iload_n C dX10_drift_0 2 rfl ?_
  refine G_i2l C dX10_drift_1 ?_
  refine G_lconst (v := 1) C dX10_drift_2 (by decide) ?_
  refine G_ldc2 (v := 60) C dX10_drift_3 (tb_of 1417 ⟨by decide +kernel, rfl⟩) ?_
  refine G_scallI (As := [.long ((l2).toInt64), .long 1, .long 60]) (rest := []) C dX10_drift_6 lk_X10_52 (Nat.le_of_ble_eq_true rfl) (Nat.le_of_ble_eq_true rfl) (Nat.le_of_ble_eq_true rfl) rfl (S_X10_in h) (fun r20 M19 h => ?_)
  obtain ⟨h1, h2⟩ := h
  refine G_if_eq (tgt := 19) C dX10_drift_9 (by decide) (fun c => ?_) (fun c => ?_)
  · have h := h1 c
    clear h1 h2
    refine G_iconst (v := (-1)) C dX10_drift_19 (by decide) ?_
    exact R 20 _ _ _ dX10_drift_20 rfl h
  · have h := h2 c
    clear h1 h2
    refine G_iload_n C dX10_drift_12 3 rfl ?_
    refine G_scallI (As := [.int l3]) (rest := []) C dX10_drift_13 lk_X10_226 (Nat.le_of_ble_eq_true rfl) (Nat.le_of_ble_eq_true rfl) (Nat.le_of_ble_eq_true rfl) rfl (S_X10_isPart h) (fun r22 M21 h => ?_)
    obtain ⟨h1, h2⟩ := h
    refine G_if_ne (tgt := 21) C dX10_drift_16 (by decide) (fun c => ?_) (fun c => ?_)
    · have h := h1 c
      clear h1 h2
      refine G_aload_n C dX10_drift_21 0 rfl ?_
      refine gf_X10_7 C dX10_drift_22 ?_
      refine G_bipush (v := 24) C dX10_drift_25 (by decide) ?_
      refine G_iald C q129 (vp_lit rfl) (kk := 24) (by decide +kernel) dX10_drift_27 ?_
      obtain ⟨h1, h2⟩ := h
      refine G_if_ne (tgt := 34) C dX10_drift_28 (by decide) (fun c => ?_) (fun c => ?_)
      · have h := h1 c
        clear h1 h2
        refine G_iload_n C dX10_drift_34 1 rfl ?_
        refine G_istore C dX10_drift_35 (by decide) (lv' := [(4, .int l1), (0, .ref (adr ω 128)), (1, .int l1), (2, .int l2), (3, .int l3)]) rfl ?_
        refine G_iconst (v := 0) C dX10_drift_37 (by decide) ?_
        refine G_istore C dX10_drift_38 (by decide) (lv' := [(5, .int 0), (4, .int l1), (0, .ref (adr ω 128)), (1, .int l1), (2, .int l2), (3, .int l3)]) rfl ?_
        refine G_aload_n C dX10_drift_40 2 rfl ?_
        refine G_callV (As := []) (rest := []) C dX10_drift_41 lk_X10_209 (Nat.le_of_ble_eq_true rfl) (Nat.le_of_ble_eq_true rfl) q128 (by decide) rfl (Nat.le_of_ble_eq_true rfl) rfl (S_X10_starts h) (fun M23 h => ?_)
        refine G_iconst (v := 0) C dX10_drift_44 (by decide) ?_
        refine G_istore C dX10_drift_45 (by decide) (lv' := [(6, .int 0), (5, .int 0), (4, .int l1), (0, .ref (adr ω 128)), (1, .int l1), (2, .int l2), (3, .int l3)]) rfl ?_
        refine G_sub [3, 5, 6, 2, 1, 0] (lv' := [(0, .ref (adr ω 128)), (2, .int l2), (3, .int l3), (4, .int l1), (5, .int 0), (6, .int 0)]) rfl ?_
        obtain ⟨f, h⟩ := h
        exact s_X10_drift_L47 C R  f _ _ _ _ h
      · have h := h2 c
        clear h1 h2
        refine G_bipush (v := (-2)) C dX10_drift_31 (by decide) ?_
        exact R 33 _ _ _ dX10_drift_33 rfl h
    · have h := h2 c
      clear h1 h2
      refine G_iconst (v := (-1)) C dX10_drift_19 (by decide) ?_
      exact R 20 _ _ _ dX10_drift_20 rfl h
theorem dX10_copies_0 : decode cX10_copies 0 = .ok (.iconst 0, 1) := by decide +kernel
theorem dX10_copies_1 : decode cX10_copies 1 = .ok (.istore_n 3, 1) := by decide +kernel
theorem dX10_copies_2 : decode cX10_copies 2 = .ok (.iload_n 3, 1) := by decide +kernel
theorem dX10_copies_3 : decode cX10_copies 3 = .ok (.bipush 96, 2) := by decide +kernel
theorem dX10_copies_5 : decode cX10_copies 5 = .ok (.if_icmp .ge 25, 3) := by decide +kernel
theorem dX10_copies_8 : decode cX10_copies 8 = .ok (.aload_n 0, 1) := by decide +kernel
theorem dX10_copies_9 : decode cX10_copies 9 = .ok (.getfield 7, 3) := by decide +kernel
theorem dX10_copies_12 : decode cX10_copies 12 = .ok (.iload_n 1, 1) := by decide +kernel
theorem dX10_copies_13 : decode cX10_copies 13 = .ok (.iload_n 3, 1) := by decide +kernel
theorem dX10_copies_14 : decode cX10_copies 14 = .ok (.iadd, 1) := by decide +kernel
theorem dX10_copies_15 : decode cX10_copies 15 = .ok (.aload_n 0, 1) := by decide +kernel
theorem dX10_copies_16 : decode cX10_copies 16 = .ok (.getfield 7, 3) := by decide +kernel
theorem dX10_copies_19 : decode cX10_copies 19 = .ok (.iload_n 2, 1) := by decide +kernel
theorem dX10_copies_20 : decode cX10_copies 20 = .ok (.iload_n 3, 1) := by decide +kernel
theorem dX10_copies_21 : decode cX10_copies 21 = .ok (.iadd, 1) := by decide +kernel
theorem dX10_copies_22 : decode cX10_copies 22 = .ok (.iaload, 1) := by decide +kernel
theorem dX10_copies_23 : decode cX10_copies 23 = .ok (.iastore, 1) := by decide +kernel
theorem dX10_copies_24 : decode cX10_copies 24 = .ok (.iinc 3 1, 3) := by decide +kernel
theorem dX10_copies_27 : decode cX10_copies 27 = .ok (.goto (-25), 3) := by decide +kernel
theorem dX10_copies_30 : decode cX10_copies 30 = .ok (.return_, 1) := by decide +kernel
set_option maxRecDepth 100000 in
set_option maxHeartbeats 4000000 in
theorem s_X10_copies_L2 {ω : WD} {ρ : FR} {post : Mem → Prop} (C : Cx ω ρ cX10_copies RX10 0 4) (R : RtV ω ρ cX10_copies post) {l1 : Int32} {l2 : Int32} : ∀ (f : Nat) (l3 : Int32) (M : Mem), w_X10_copies_L2 post l1 l2 f l3 M → G ω ρ M 2 [(0, .ref (adr ω 128)), (1, .int l1), (2, .int l2), (3, .int l3)] [] := by
  intro f
  induction f with
  | zero => intro l3 M h; exact False.elim h
  | succ f k2 =>
    intro l3 M h
    refine G_iload_n C dX10_copies_2 3 rfl ?_
    refine G_bipush (v := 96) C dX10_copies_3 (by decide) ?_
    obtain ⟨h1, h2⟩ := h
    refine G_icmp_ge (tgt := 30) C dX10_copies_5 (by decide) (fun c => ?_) (fun c => ?_)
    · have h := h1 c
      clear h1 h2
      exact R 30 _ _ dX10_copies_30 h
    · have h := h2 c
      clear h1 h2
      refine G_aload_n C dX10_copies_8 0 rfl ?_
      refine gf_X10_7 C dX10_copies_9 ?_
      refine G_iload_n C dX10_copies_12 1 rfl ?_
      refine G_iload_n C dX10_copies_13 3 rfl ?_
      refine G_iadd C dX10_copies_14 ?_
      refine G_aload_n C dX10_copies_15 0 rfl ?_
      refine gf_X10_7 C dX10_copies_16 ?_
      refine G_iload_n C dX10_copies_19 2 rfl ?_
      refine G_iload_n C dX10_copies_20 3 rfl ?_
      refine G_iadd C dX10_copies_21 ?_
      obtain ⟨hi, h⟩ := h
      refine G_iald C q129 hi rfl dX10_copies_22 ?_
      obtain ⟨hi, h⟩ := h
      refine G_iast C q129 hi rfl dX10_copies_23 (G_mname (fun M1 eM1 => ?_))
      replace h := h M1 eM1
      obtain ⟨v2, ev2⟩ : ∃ y : Int32, y = (l3 + 1) := ⟨_, rfl⟩
      replace h := h v2 ev2
      refine G_iinc C dX10_copies_24 3 rfl (v := v2) (by rw [ev2]; rfl) (by decide) (lv' := [(3, .int v2), (0, .ref (adr ω 128)), (1, .int l1), (2, .int l2)]) rfl ?_
      refine G_goto (tgt := 2) C dX10_copies_27 (by decide) ?_
      refine G_sub [1, 2, 3, 0] (lv' := [(0, .ref (adr ω 128)), (1, .int l1), (2, .int l2), (3, .int v2)]) rfl ?_
      exact k2 _ _ h
set_option maxRecDepth 100000 in
set_option maxHeartbeats 4000000 in
theorem S_X10_copies {ω : WD} {l1 : Int32} {l2 : Int32} {M : Mem} {post : Mem → Prop} (h : w_X10_copies l1 l2 M post) : MtV ω yX10_copies cX10_copies 4 none 0 [.ref (adr ω 128), .int l1, .int l2] M post := by
  refine MtV.start rfl (by decide +kernel) (own := RX10) rfl (Nat.le_of_ble_eq_true rfl) (fun ρ C R => ?_)
  show G ω ρ M 0 [(0, .ref (adr ω 128)), (1, .int l1), (2, .int l2)] []
  refine G_iconst (v := 0) C dX10_copies_0 (by decide) ?_
  refine G_istore_n C dX10_copies_1 (by decide) (lv' := [(3, .int 0), (0, .ref (adr ω 128)), (1, .int l1), (2, .int l2)]) rfl ?_
  refine G_sub [1, 2, 3, 0] (lv' := [(0, .ref (adr ω 128)), (1, .int l1), (2, .int l2), (3, .int 0)]) rfl ?_
  obtain ⟨f, h⟩ := h
  exact s_X10_copies_L2 C R  f _ _ h
theorem dX10_keep_0 : decode cX10_keep 0 = .ok (.iload_n 1, 1) := by decide +kernel
theorem dX10_keep_1 : decode cX10_keep 1 = .ok (.i2l, 1) := by decide +kernel
theorem dX10_keep_2 : decode cX10_keep 2 = .ok (.lconst 0, 1) := by decide +kernel
theorem dX10_keep_3 : decode cX10_keep 3 = .ok (.lconst 1, 1) := by decide +kernel
theorem dX10_keep_4 : decode cX10_keep 4 = .ok (.invokestatic 52, 3) := by decide +kernel
theorem dX10_keep_7 : decode cX10_keep 7 = .ok (.ifCond .ne 5, 3) := by decide +kernel
theorem dX10_keep_10 : decode cX10_keep 10 = .ok (.iconst (-1), 1) := by decide +kernel
theorem dX10_keep_11 : decode cX10_keep 11 = .ok (.ireturn, 1) := by decide +kernel
theorem dX10_keep_12 : decode cX10_keep 12 = .ok (.aload_n 0, 1) := by decide +kernel
theorem dX10_keep_13 : decode cX10_keep 13 = .ok (.getfield 16, 3) := by decide +kernel
theorem dX10_keep_16 : decode cX10_keep 16 = .ok (.iload_n 1, 1) := by decide +kernel
theorem dX10_keep_17 : decode cX10_keep 17 = .ok (.baload, 1) := by decide +kernel
theorem dX10_keep_18 : decode cX10_keep 18 = .ok (.invokestatic 160, 3) := by decide +kernel
theorem dX10_keep_21 : decode cX10_keep 21 = .ok (.istore_n 2, 1) := by decide +kernel
theorem dX10_keep_22 : decode cX10_keep 22 = .ok (.aload_n 0, 1) := by decide +kernel
theorem dX10_keep_23 : decode cX10_keep 23 = .ok (.getfield 16, 3) := by decide +kernel
theorem dX10_keep_26 : decode cX10_keep 26 = .ok (.iload_n 1, 1) := by decide +kernel
theorem dX10_keep_27 : decode cX10_keep 27 = .ok (.iconst 1, 1) := by decide +kernel
theorem dX10_keep_28 : decode cX10_keep 28 = .ok (.bastore, 1) := by decide +kernel
theorem dX10_keep_29 : decode cX10_keep 29 = .ok (.aload_n 0, 1) := by decide +kernel
theorem dX10_keep_30 : decode cX10_keep 30 = .ok (.bipush 96, 2) := by decide +kernel
theorem dX10_keep_32 : decode cX10_keep 32 = .ok (.iload_n 1, 1) := by decide +kernel
theorem dX10_keep_33 : decode cX10_keep 33 = .ok (.iconst 1, 1) := by decide +kernel
theorem dX10_keep_34 : decode cX10_keep 34 = .ok (.iadd, 1) := by decide +kernel
theorem dX10_keep_35 : decode cX10_keep 35 = .ok (.imul, 1) := by decide +kernel
theorem dX10_keep_36 : decode cX10_keep 36 = .ok (.iconst 0, 1) := by decide +kernel
theorem dX10_keep_37 : decode cX10_keep 37 = .ok (.invokevirtual 301, 3) := by decide +kernel
theorem dX10_keep_40 : decode cX10_keep 40 = .ok (.iload_n 2, 1) := by decide +kernel
theorem dX10_keep_41 : decode cX10_keep 41 = .ok (.ireturn, 1) := by decide +kernel
theorem lk_X10_301 : LkV RX10 301 RX10 yX10_copies cX10_copies 4 none 2 := LkV.of 1423 1425 59 71 1426 (by decide +kernel) (by decide +kernel) (by decide +kernel) (by decide +kernel) (by decide +kernel) (by decide +kernel)
set_option maxRecDepth 100000 in
set_option maxHeartbeats 4000000 in
theorem S_X10_keep {ω : WD} {l1 : Int32} {M : Mem} {post : Int32 → Mem → Prop} (h : w_X10_keep l1 M post) : MtI ω yX10_keep cX10_keep 3 (some .int) 1 [.ref (adr ω 128), .int l1] M post := by
  refine MtI.start (ty := .int) rfl (by decide +kernel) (own := RX10) rfl (Nat.le_of_ble_eq_true rfl) (fun ρ C R => ?_)
  show G ω ρ M 0 [(0, .ref (adr ω 128)), (1, .int l1)] []
  refine G_iload_n C dX10_keep_0 1 rfl ?_
  refine G_i2l C dX10_keep_1 ?_
  refine G_lconst (v := 0) C dX10_keep_2 (by decide) ?_
  refine G_lconst (v := 1) C dX10_keep_3 (by decide) ?_
  refine G_scallI (As := [.long ((l1).toInt64), .long 0, .long 1]) (rest := []) C dX10_keep_4 lk_X10_52 (Nat.le_of_ble_eq_true rfl) (Nat.le_of_ble_eq_true rfl) (Nat.le_of_ble_eq_true rfl) rfl (S_X10_in h) (fun r2 M1 h => ?_)
  obtain ⟨h1, h2⟩ := h
  refine G_if_ne (tgt := 12) C dX10_keep_7 (by decide) (fun c => ?_) (fun c => ?_)
  · have h := h1 c
    clear h1 h2
    refine G_aload_n C dX10_keep_12 0 rfl ?_
    refine gf_X10_16 C dX10_keep_13 ?_
    refine G_iload_n C dX10_keep_16 1 rfl ?_
    obtain ⟨hi, h⟩ := h
    refine G_zald C q131 hi rfl dX10_keep_17 ?_
    refine G_scallI (As := [.int (rd M1 131 l1.toNatClampNeg)]) (rest := []) C dX10_keep_18 lk_X10_160 (Nat.le_of_ble_eq_true rfl) (Nat.le_of_ble_eq_true rfl) (Nat.le_of_ble_eq_true rfl) rfl (S_X10_flag h) (fun r4 M3 h => ?_)
    refine G_istore_n C dX10_keep_21 (by decide) (lv' := [(2, .int r4), (0, .ref (adr ω 128)), (1, .int l1)]) rfl ?_
    refine G_aload_n C dX10_keep_22 1 rfl ?_
    refine gf_X10_16 C dX10_keep_23 ?_
    refine G_iload_n C dX10_keep_26 2 rfl ?_
    refine G_iconst (v := 1) C dX10_keep_27 (by decide) ?_
    obtain ⟨hi, h⟩ := h
    refine G_zast C q131 hi rfl rfl dX10_keep_28 (G_mname (fun M5 eM5 => ?_))
    replace h := h M5 eM5
    refine G_aload_n C dX10_keep_29 1 rfl ?_
    refine G_bipush (v := 96) C dX10_keep_30 (by decide) ?_
    refine G_iload_n C dX10_keep_32 2 rfl ?_
    refine G_iconst (v := 1) C dX10_keep_33 (by decide) ?_
    refine G_iadd C dX10_keep_34 ?_
    refine G_imul C dX10_keep_35 ?_
    refine G_iconst (v := 0) C dX10_keep_36 (by decide) ?_
    refine G_callV (As := [.int (96 * (l1 + 1)), .int 0]) (rest := []) C dX10_keep_37 lk_X10_301 (Nat.le_of_ble_eq_true rfl) (Nat.le_of_ble_eq_true rfl) q128 (by decide) rfl (Nat.le_of_ble_eq_true rfl) rfl (S_X10_copies h) (fun M6 h => ?_)
    refine G_iload_n C dX10_keep_40 0 rfl ?_
    exact R 41 _ _ _ dX10_keep_41 rfl h
  · have h := h2 c
    clear h1 h2
    refine G_iconst (v := (-1)) C dX10_keep_10 (by decide) ?_
    exact R 11 _ _ _ dX10_keep_11 rfl h
theorem dX10_back_0 : decode cX10_back 0 = .ok (.iload_n 1, 1) := by decide +kernel
theorem dX10_back_1 : decode cX10_back 1 = .ok (.i2l, 1) := by decide +kernel
theorem dX10_back_2 : decode cX10_back 2 = .ok (.lconst 0, 1) := by decide +kernel
theorem dX10_back_3 : decode cX10_back 3 = .ok (.lconst 1, 1) := by decide +kernel
theorem dX10_back_4 : decode cX10_back 4 = .ok (.invokestatic 52, 3) := by decide +kernel
theorem dX10_back_7 : decode cX10_back 7 = .ok (.ifCond .ne 5, 3) := by decide +kernel
theorem dX10_back_10 : decode cX10_back 10 = .ok (.iconst (-1), 1) := by decide +kernel
theorem dX10_back_11 : decode cX10_back 11 = .ok (.ireturn, 1) := by decide +kernel
theorem dX10_back_12 : decode cX10_back 12 = .ok (.aload_n 0, 1) := by decide +kernel
theorem dX10_back_13 : decode cX10_back 13 = .ok (.getfield 16, 3) := by decide +kernel
theorem dX10_back_16 : decode cX10_back 16 = .ok (.iload_n 1, 1) := by decide +kernel
theorem dX10_back_17 : decode cX10_back 17 = .ok (.baload, 1) := by decide +kernel
theorem dX10_back_18 : decode cX10_back 18 = .ok (.ifCond .ne 6, 3) := by decide +kernel
theorem dX10_back_21 : decode cX10_back 21 = .ok (.bipush (-2), 2) := by decide +kernel
theorem dX10_back_23 : decode cX10_back 23 = .ok (.ireturn, 1) := by decide +kernel
theorem dX10_back_24 : decode cX10_back 24 = .ok (.aload_n 0, 1) := by decide +kernel
theorem dX10_back_25 : decode cX10_back 25 = .ok (.iconst 0, 1) := by decide +kernel
theorem dX10_back_26 : decode cX10_back 26 = .ok (.bipush 96, 2) := by decide +kernel
theorem dX10_back_28 : decode cX10_back 28 = .ok (.iload_n 1, 1) := by decide +kernel
theorem dX10_back_29 : decode cX10_back 29 = .ok (.iconst 1, 1) := by decide +kernel
theorem dX10_back_30 : decode cX10_back 30 = .ok (.iadd, 1) := by decide +kernel
theorem dX10_back_31 : decode cX10_back 31 = .ok (.imul, 1) := by decide +kernel
theorem dX10_back_32 : decode cX10_back 32 = .ok (.invokevirtual 301, 3) := by decide +kernel
theorem dX10_back_35 : decode cX10_back 35 = .ok (.aload_n 0, 1) := by decide +kernel
theorem dX10_back_36 : decode cX10_back 36 = .ok (.invokevirtual 209, 3) := by decide +kernel
theorem dX10_back_39 : decode cX10_back 39 = .ok (.aload_n 0, 1) := by decide +kernel
theorem dX10_back_40 : decode cX10_back 40 = .ok (.invokevirtual 177, 3) := by decide +kernel
theorem dX10_back_43 : decode cX10_back 43 = .ok (.ireturn, 1) := by decide +kernel
set_option maxRecDepth 100000 in
set_option maxHeartbeats 4000000 in
theorem S_X10_back {ω : WD} {l1 : Int32} {M : Mem} {post : Int32 → Mem → Prop} (h : w_X10_back l1 M post) : MtI ω yX10_back cX10_back 2 (some .int) 2 [.ref (adr ω 128), .int l1] M post := by
  refine MtI.start (ty := .int) rfl (by decide +kernel) (own := RX10) rfl (Nat.le_of_ble_eq_true rfl) (fun ρ C R => ?_)
  show G ω ρ M 0 [(0, .ref (adr ω 128)), (1, .int l1)] []
  refine G_iload_n C dX10_back_0 1 rfl ?_
  refine G_i2l C dX10_back_1 ?_
  refine G_lconst (v := 0) C dX10_back_2 (by decide) ?_
  refine G_lconst (v := 1) C dX10_back_3 (by decide) ?_
  refine G_scallI (As := [.long ((l1).toInt64), .long 0, .long 1]) (rest := []) C dX10_back_4 lk_X10_52 (Nat.le_of_ble_eq_true rfl) (Nat.le_of_ble_eq_true rfl) (Nat.le_of_ble_eq_true rfl) rfl (S_X10_in h) (fun r2 M1 h => ?_)
  obtain ⟨h1, h2⟩ := h
  refine G_if_ne (tgt := 12) C dX10_back_7 (by decide) (fun c => ?_) (fun c => ?_)
  · have h := h1 c
    clear h1 h2
    refine G_aload_n C dX10_back_12 0 rfl ?_
    refine gf_X10_16 C dX10_back_13 ?_
    refine G_iload_n C dX10_back_16 1 rfl ?_
    obtain ⟨hi, h⟩ := h
    refine G_zald C q131 hi rfl dX10_back_17 ?_
    obtain ⟨h1, h2⟩ := h
    refine G_if_ne (tgt := 24) C dX10_back_18 (by decide) (fun c => ?_) (fun c => ?_)
    · have h := h1 c
      clear h1 h2
      refine G_aload_n C dX10_back_24 0 rfl ?_
      refine G_iconst (v := 0) C dX10_back_25 (by decide) ?_
      refine G_bipush (v := 96) C dX10_back_26 (by decide) ?_
      refine G_iload_n C dX10_back_28 1 rfl ?_
      refine G_iconst (v := 1) C dX10_back_29 (by decide) ?_
      refine G_iadd C dX10_back_30 ?_
      refine G_imul C dX10_back_31 ?_
      refine G_callV (As := [.int 0, .int (96 * (l1 + 1))]) (rest := []) C dX10_back_32 lk_X10_301 (Nat.le_of_ble_eq_true rfl) (Nat.le_of_ble_eq_true rfl) q128 (by decide) rfl (Nat.le_of_ble_eq_true rfl) rfl (S_X10_copies h) (fun M3 h => ?_)
      refine G_aload_n C dX10_back_35 0 rfl ?_
      refine G_callV (As := []) (rest := []) C dX10_back_36 lk_X10_209 (Nat.le_of_ble_eq_true rfl) (Nat.le_of_ble_eq_true rfl) q128 (by decide) rfl (Nat.le_of_ble_eq_true rfl) rfl (S_X10_starts h) (fun M4 h => ?_)
      refine G_aload_n C dX10_back_39 0 rfl ?_
      refine G_callI (As := []) (rest := []) C dX10_back_40 lk_X10_177 (Nat.le_of_ble_eq_true rfl) (Nat.le_of_ble_eq_true rfl) q128 (by decide) rfl (Nat.le_of_ble_eq_true rfl) rfl (S_X10_callsNow h) (fun r6 M5 h => ?_)
      exact R 43 _ _ _ dX10_back_43 rfl h
    · have h := h2 c
      clear h1 h2
      refine G_bipush (v := (-2)) C dX10_back_21 (by decide) ?_
      exact R 23 _ _ _ dX10_back_23 rfl h
  · have h := h2 c
    clear h1 h2
    refine G_iconst (v := (-1)) C dX10_back_10 (by decide) ?_
    exact R 11 _ _ _ dX10_back_11 rfl h
theorem dX10_isSheet_0 : decode cX10_isSheet 0 = .ok (.iload_n 0, 1) := by decide +kernel
theorem dX10_isSheet_1 : decode cX10_isSheet 1 = .ok (.i2l, 1) := by decide +kernel
theorem dX10_isSheet_2 : decode cX10_isSheet 2 = .ok (.lconst 0, 1) := by decide +kernel
theorem dX10_isSheet_3 : decode cX10_isSheet 3 = .ok (.ldc2_w 218, 3) := by decide +kernel
theorem dX10_isSheet_6 : decode cX10_isSheet 6 = .ok (.invokestatic 52, 3) := by decide +kernel
theorem dX10_isSheet_9 : decode cX10_isSheet 9 = .ok (.ifCond .eq 19, 3) := by decide +kernel
theorem dX10_isSheet_12 : decode cX10_isSheet 12 = .ok (.iload_n 1, 1) := by decide +kernel
theorem dX10_isSheet_13 : decode cX10_isSheet 13 = .ok (.i2l, 1) := by decide +kernel
theorem dX10_isSheet_14 : decode cX10_isSheet 14 = .ok (.lconst 0, 1) := by decide +kernel
theorem dX10_isSheet_15 : decode cX10_isSheet 15 = .ok (.ldc2_w 304, 3) := by decide +kernel
theorem dX10_isSheet_18 : decode cX10_isSheet 18 = .ok (.invokestatic 52, 3) := by decide +kernel
theorem dX10_isSheet_21 : decode cX10_isSheet 21 = .ok (.ifCond .eq 7, 3) := by decide +kernel
theorem dX10_isSheet_24 : decode cX10_isSheet 24 = .ok (.iconst 1, 1) := by decide +kernel
theorem dX10_isSheet_25 : decode cX10_isSheet 25 = .ok (.goto 4, 3) := by decide +kernel
theorem dX10_isSheet_28 : decode cX10_isSheet 28 = .ok (.iconst 0, 1) := by decide +kernel
theorem dX10_isSheet_29 : decode cX10_isSheet 29 = .ok (.ireturn, 1) := by decide +kernel
set_option maxRecDepth 100000 in
set_option maxHeartbeats 4000000 in
theorem S_X10_isSheet {ω : WD} {l0 : Int32} {l1 : Int32} {M : Mem} {post : Int32 → Mem → Prop} (h : w_X10_isSheet l0 l1 M post) : MtI ω yX10_isSheet cX10_isSheet 2 (some .boolean) 1 [.int l0, .int l1] M post := by
  refine MtI.start (ty := .boolean) rfl (by decide +kernel) (own := RX10) rfl (Nat.le_of_ble_eq_true rfl) (fun ρ C R => ?_)
  show G ω ρ M 0 [(0, .int l0), (1, .int l1)] []
  refine G_iload_n C dX10_isSheet_0 0 rfl ?_
  refine G_i2l C dX10_isSheet_1 ?_
  refine G_lconst (v := 0) C dX10_isSheet_2 (by decide) ?_
  refine G_ldc2 (v := 3) C dX10_isSheet_3 (tb_of 1180 ⟨by decide +kernel, rfl⟩) ?_
  refine G_scallI (As := [.long ((l0).toInt64), .long 0, .long 3]) (rest := []) C dX10_isSheet_6 lk_X10_52 (Nat.le_of_ble_eq_true rfl) (Nat.le_of_ble_eq_true rfl) (Nat.le_of_ble_eq_true rfl) rfl (S_X10_in h) (fun r2 M1 h => ?_)
  obtain ⟨h1, h2⟩ := h
  refine G_if_eq (tgt := 28) C dX10_isSheet_9 (by decide) (fun c => ?_) (fun c => ?_)
  · have h := h1 c
    clear h1 h2
    refine G_iconst (v := 0) C dX10_isSheet_28 (by decide) ?_
    exact R 29 _ _ _ dX10_isSheet_29 rfl h
  · have h := h2 c
    clear h1 h2
    refine G_iload_n C dX10_isSheet_12 1 rfl ?_
    refine G_i2l C dX10_isSheet_13 ?_
    refine G_lconst (v := 0) C dX10_isSheet_14 (by decide) ?_
    refine G_ldc2 (v := 2) C dX10_isSheet_15 (tb_of 1438 ⟨by decide +kernel, rfl⟩) ?_
    refine G_scallI (As := [.long ((l1).toInt64), .long 0, .long 2]) (rest := []) C dX10_isSheet_18 lk_X10_52 (Nat.le_of_ble_eq_true rfl) (Nat.le_of_ble_eq_true rfl) (Nat.le_of_ble_eq_true rfl) rfl (S_X10_in h) (fun r4 M3 h => ?_)
    obtain ⟨h1, h2⟩ := h
    refine G_if_eq (tgt := 28) C dX10_isSheet_21 (by decide) (fun c => ?_) (fun c => ?_)
    · have h := h1 c
      clear h1 h2
      refine G_iconst (v := 0) C dX10_isSheet_28 (by decide) ?_
      exact R 29 _ _ _ dX10_isSheet_29 rfl h
    · have h := h2 c
      clear h1 h2
      refine G_iconst (v := 1) C dX10_isSheet_24 (by decide) ?_
      refine G_goto (tgt := 29) C dX10_isSheet_25 (by decide) ?_
      exact R 29 _ _ _ dX10_isSheet_29 rfl h
theorem dX10_sheet_0 : decode cX10_sheet 0 = .ok (.iload_n 1, 1) := by decide +kernel
theorem dX10_sheet_1 : decode cX10_sheet 1 = .ok (.iload_n 2, 1) := by decide +kernel
theorem dX10_sheet_2 : decode cX10_sheet 2 = .ok (.invokestatic 306, 3) := by decide +kernel
theorem dX10_sheet_5 : decode cX10_sheet 5 = .ok (.ifCond .eq 9, 3) := by decide +kernel
theorem dX10_sheet_8 : decode cX10_sheet 8 = .ok (.iload_n 3, 1) := by decide +kernel
theorem dX10_sheet_9 : decode cX10_sheet 9 = .ok (.bipush 40, 2) := by decide +kernel
theorem dX10_sheet_11 : decode cX10_sheet 11 = .ok (.if_icmp .le 5, 3) := by decide +kernel
theorem dX10_sheet_14 : decode cX10_sheet 14 = .ok (.iconst (-1), 1) := by decide +kernel
theorem dX10_sheet_15 : decode cX10_sheet 15 = .ok (.ireturn, 1) := by decide +kernel
theorem dX10_sheet_16 : decode cX10_sheet 16 = .ok (.iload_n 3, 1) := by decide +kernel
theorem dX10_sheet_17 : decode cX10_sheet 17 = .ok (.ifCond .ge 6, 3) := by decide +kernel
theorem dX10_sheet_20 : decode cX10_sheet 20 = .ok (.bipush (-14), 2) := by decide +kernel
theorem dX10_sheet_22 : decode cX10_sheet 22 = .ok (.ireturn, 1) := by decide +kernel
theorem dX10_sheet_23 : decode cX10_sheet 23 = .ok (.aload_n 0, 1) := by decide +kernel
theorem dX10_sheet_24 : decode cX10_sheet 24 = .ok (.getfield 32, 3) := by decide +kernel
theorem dX10_sheet_27 : decode cX10_sheet 27 = .ok (.iload_n 1, 1) := by decide +kernel
theorem dX10_sheet_28 : decode cX10_sheet 28 = .ok (.iload_n 2, 1) := by decide +kernel
theorem dX10_sheet_29 : decode cX10_sheet 29 = .ok (.iastore, 1) := by decide +kernel
theorem dX10_sheet_30 : decode cX10_sheet 30 = .ok (.aload_n 0, 1) := by decide +kernel
theorem dX10_sheet_31 : decode cX10_sheet 31 = .ok (.getfield 35, 3) := by decide +kernel
theorem dX10_sheet_34 : decode cX10_sheet 34 = .ok (.iload_n 1, 1) := by decide +kernel
theorem dX10_sheet_35 : decode cX10_sheet 35 = .ok (.iload_n 3, 1) := by decide +kernel
theorem dX10_sheet_36 : decode cX10_sheet 36 = .ok (.iastore, 1) := by decide +kernel
theorem dX10_sheet_37 : decode cX10_sheet 37 = .ok (.iconst 0, 1) := by decide +kernel
theorem dX10_sheet_38 : decode cX10_sheet 38 = .ok (.istore 4, 2) := by decide +kernel
theorem dX10_sheet_40 : decode cX10_sheet 40 = .ok (.iload 4, 2) := by decide +kernel
theorem dX10_sheet_42 : decode cX10_sheet 42 = .ok (.bipush 40, 2) := by decide +kernel
theorem dX10_sheet_44 : decode cX10_sheet 44 = .ok (.if_icmp .ge 22, 3) := by decide +kernel
theorem dX10_sheet_47 : decode cX10_sheet 47 = .ok (.aload_n 0, 1) := by decide +kernel
theorem dX10_sheet_48 : decode cX10_sheet 48 = .ok (.getfield 38, 3) := by decide +kernel
theorem dX10_sheet_51 : decode cX10_sheet 51 = .ok (.bipush 40, 2) := by decide +kernel
theorem dX10_sheet_53 : decode cX10_sheet 53 = .ok (.iload_n 1, 1) := by decide +kernel
theorem dX10_sheet_54 : decode cX10_sheet 54 = .ok (.imul, 1) := by decide +kernel
theorem dX10_sheet_55 : decode cX10_sheet 55 = .ok (.iload 4, 2) := by decide +kernel
theorem dX10_sheet_57 : decode cX10_sheet 57 = .ok (.iadd, 1) := by decide +kernel
theorem dX10_sheet_58 : decode cX10_sheet 58 = .ok (.iconst 0, 1) := by decide +kernel
theorem dX10_sheet_59 : decode cX10_sheet 59 = .ok (.iastore, 1) := by decide +kernel
theorem dX10_sheet_60 : decode cX10_sheet 60 = .ok (.iinc 4 1, 3) := by decide +kernel
theorem dX10_sheet_63 : decode cX10_sheet 63 = .ok (.goto (-23), 3) := by decide +kernel
theorem dX10_sheet_66 : decode cX10_sheet 66 = .ok (.iconst 1, 1) := by decide +kernel
theorem dX10_sheet_67 : decode cX10_sheet 67 = .ok (.ireturn, 1) := by decide +kernel
theorem gf_X10_38 {ω : WD} {ρ : FR} {M : Mem} {cc : ByteArray} {d n pc : Nat} {lv : List (Nat × Value)} {rest : List Value} (C : Cx ω ρ cc RX10 d n) (hd : decode cc pc = .ok (.getfield 38, 3)) (k : G ω ρ M (pc + 3) lv (.ref (adr ω 138) :: rest)) : G ω ρ M pc lv (.ref (adr ω 128) :: rest) := G_get (N := 28) (T := TX10) (C := RX10) (q := 25) C (q128 : isK 10 128) (by decide) rfl in_X10 (by decide) (tb_of 1001 ⟨by decide +kernel, rfl⟩) rfl rfl hd k
theorem lk_X10_306 : LkS RX10 306 yX10_isSheet cX10_isSheet 2 (some .boolean) 2 := LkS.of 1435 1436 71 1437 (by decide +kernel) (by decide +kernel) (by decide +kernel) (by decide +kernel) (by decide +kernel)
theorem gf_X10_32 {ω : WD} {ρ : FR} {M : Mem} {cc : ByteArray} {d n pc : Nat} {lv : List (Nat × Value)} {rest : List Value} (C : Cx ω ρ cc RX10 d n) (hd : decode cc pc = .ok (.getfield 32, 3)) (k : G ω ρ M (pc + 3) lv (.ref (adr ω 136) :: rest)) : G ω ρ M pc lv (.ref (adr ω 128) :: rest) := G_get (N := 28) (T := TX10) (C := RX10) (q := 23) C (q128 : isK 10 128) (by decide) rfl in_X10 (by decide) (tb_of 999 ⟨by decide +kernel, rfl⟩) rfl rfl hd k
theorem gf_X10_35 {ω : WD} {ρ : FR} {M : Mem} {cc : ByteArray} {d n pc : Nat} {lv : List (Nat × Value)} {rest : List Value} (C : Cx ω ρ cc RX10 d n) (hd : decode cc pc = .ok (.getfield 35, 3)) (k : G ω ρ M (pc + 3) lv (.ref (adr ω 137) :: rest)) : G ω ρ M pc lv (.ref (adr ω 128) :: rest) := G_get (N := 28) (T := TX10) (C := RX10) (q := 24) C (q128 : isK 10 128) (by decide) rfl in_X10 (by decide) (tb_of 1000 ⟨by decide +kernel, rfl⟩) rfl rfl hd k
set_option maxRecDepth 100000 in
set_option maxHeartbeats 4000000 in
theorem s_X10_sheet_L40 {ω : WD} {ρ : FR} {post : Int32 → Mem → Prop} (C : Cx ω ρ cX10_sheet RX10 2 5) (R : RtI ω ρ cX10_sheet .int post) {l1 : Int32} : ∀ (f : Nat) (l4 : Int32) (M : Mem), w_X10_sheet_L40 post l1 f l4 M → G ω ρ M 40 [(0, .ref (adr ω 128)), (1, .int l1), (4, .int l4)] [] := by
  intro f
  induction f with
  | zero => intro l4 M h; exact False.elim h
  | succ f k40 =>
    intro l4 M h
    refine G_iload C dX10_sheet_40 2 rfl ?_
    refine G_bipush (v := 40) C dX10_sheet_42 (by decide) ?_
    obtain ⟨h1, h2⟩ := h
    refine G_icmp_ge (tgt := 66) C dX10_sheet_44 (by decide) (fun c => ?_) (fun c => ?_)
    · have h := h1 c
      clear h1 h2
      refine G_iconst (v := 1) C dX10_sheet_66 (by decide) ?_
      exact R 67 _ _ _ dX10_sheet_67 rfl h
    · have h := h2 c
      clear h1 h2
      refine G_aload_n C dX10_sheet_47 0 rfl ?_
      refine gf_X10_38 C dX10_sheet_48 ?_
      refine G_bipush (v := 40) C dX10_sheet_51 (by decide) ?_
      refine G_iload_n C dX10_sheet_53 1 rfl ?_
      refine G_imul C dX10_sheet_54 ?_
      refine G_iload C dX10_sheet_55 2 rfl ?_
      refine G_iadd C dX10_sheet_57 ?_
      refine G_iconst (v := 0) C dX10_sheet_58 (by decide) ?_
      obtain ⟨hi, h⟩ := h
      refine G_iast C q138 hi rfl dX10_sheet_59 (G_mname (fun M1 eM1 => ?_))
      replace h := h M1 eM1
      obtain ⟨v2, ev2⟩ : ∃ y : Int32, y = (l4 + 1) := ⟨_, rfl⟩
      replace h := h v2 ev2
      refine G_iinc C dX10_sheet_60 2 rfl (v := v2) (by rw [ev2]; rfl) (by decide) (lv' := [(4, .int v2), (0, .ref (adr ω 128)), (1, .int l1)]) rfl ?_
      refine G_goto (tgt := 40) C dX10_sheet_63 (by decide) ?_
      refine G_sub [1, 2, 0] (lv' := [(0, .ref (adr ω 128)), (1, .int l1), (4, .int v2)]) rfl ?_
      exact k40 _ _ h
set_option maxRecDepth 100000 in
set_option maxHeartbeats 4000000 in
theorem S_X10_sheet {ω : WD} {l1 : Int32} {l2 : Int32} {l3 : Int32} {M : Mem} {post : Int32 → Mem → Prop} (h : w_X10_sheet l1 l2 l3 M post) : MtI ω yX10_sheet cX10_sheet 5 (some .int) 2 [.ref (adr ω 128), .int l1, .int l2, .int l3] M post := by
  refine MtI.start (ty := .int) rfl (by decide +kernel) (own := RX10) rfl (Nat.le_of_ble_eq_true rfl) (fun ρ C R => ?_)
  show G ω ρ M 0 [(0, .ref (adr ω 128)), (1, .int l1), (2, .int l2), (3, .int l3)] []
  refine G_iload_n C dX10_sheet_0 1 rfl ?_
  refine G_iload_n C dX10_sheet_1 2 rfl ?_
  refine G_scallI (As := [.int l1, .int l2]) (rest := []) C dX10_sheet_2 lk_X10_306 (Nat.le_of_ble_eq_true rfl) (Nat.le_of_ble_eq_true rfl) (Nat.le_of_ble_eq_true rfl) rfl (S_X10_isSheet h) (fun r4 M3 h => ?_)
  obtain ⟨h1, h2⟩ := h
  refine G_if_eq (tgt := 14) C dX10_sheet_5 (by decide) (fun c => ?_) (fun c => ?_)
  · have h := h1 c
    clear h1 h2
    refine G_iconst (v := (-1)) C dX10_sheet_14 (by decide) ?_
    exact R 15 _ _ _ dX10_sheet_15 rfl h
  · have h := h2 c
    clear h1 h2
    refine G_iload_n C dX10_sheet_8 3 rfl ?_
    refine G_bipush (v := 40) C dX10_sheet_9 (by decide) ?_
    obtain ⟨h1, h2⟩ := h
    refine G_icmp_le (tgt := 16) C dX10_sheet_11 (by decide) (fun c => ?_) (fun c => ?_)
    · have h := h1 c
      clear h1 h2
      refine G_iload_n C dX10_sheet_16 3 rfl ?_
      obtain ⟨h1, h2⟩ := h
      refine G_if_ge (tgt := 23) C dX10_sheet_17 (by decide) (fun c => ?_) (fun c => ?_)
      · have h := h1 c
        clear h1 h2
        refine G_aload_n C dX10_sheet_23 0 rfl ?_
        refine gf_X10_32 C dX10_sheet_24 ?_
        refine G_iload_n C dX10_sheet_27 1 rfl ?_
        refine G_iload_n C dX10_sheet_28 2 rfl ?_
        obtain ⟨hi, h⟩ := h
        refine G_iast C q136 hi rfl dX10_sheet_29 (G_mname (fun M5 eM5 => ?_))
        replace h := h M5 eM5
        refine G_aload_n C dX10_sheet_30 0 rfl ?_
        refine gf_X10_35 C dX10_sheet_31 ?_
        refine G_iload_n C dX10_sheet_34 1 rfl ?_
        refine G_iload_n C dX10_sheet_35 3 rfl ?_
        obtain ⟨hi, h⟩ := h
        refine G_iast C q137 hi rfl dX10_sheet_36 (G_mname (fun M6 eM6 => ?_))
        replace h := h M6 eM6
        refine G_iconst (v := 0) C dX10_sheet_37 (by decide) ?_
        refine G_istore C dX10_sheet_38 (by decide) (lv' := [(4, .int 0), (0, .ref (adr ω 128)), (1, .int l1), (2, .int l2), (3, .int l3)]) rfl ?_
        refine G_sub [1, 2, 0] (lv' := [(0, .ref (adr ω 128)), (1, .int l1), (4, .int 0)]) rfl ?_
        obtain ⟨f, h⟩ := h
        exact s_X10_sheet_L40 C R  f _ _ h
      · have h := h2 c
        clear h1 h2
        refine G_bipush (v := (-14)) C dX10_sheet_20 (by decide) ?_
        exact R 22 _ _ _ dX10_sheet_22 rfl h
    · have h := h2 c
      clear h1 h2
      refine G_iconst (v := (-1)) C dX10_sheet_14 (by decide) ?_
      exact R 15 _ _ _ dX10_sheet_15 rfl h
theorem dX10_lay_0 : decode cX10_lay 0 = .ok (.iload_n 1, 1) := by decide +kernel
theorem dX10_lay_1 : decode cX10_lay 1 = .ok (.iconst 0, 1) := by decide +kernel
theorem dX10_lay_2 : decode cX10_lay 2 = .ok (.invokestatic 306, 3) := by decide +kernel
theorem dX10_lay_5 : decode cX10_lay 5 = .ok (.ifCond .ne 5, 3) := by decide +kernel
theorem dX10_lay_8 : decode cX10_lay 8 = .ok (.iconst (-1), 1) := by decide +kernel
theorem dX10_lay_9 : decode cX10_lay 9 = .ok (.ireturn, 1) := by decide +kernel
theorem dX10_lay_10 : decode cX10_lay 10 = .ok (.aload_n 0, 1) := by decide +kernel
theorem dX10_lay_11 : decode cX10_lay 11 = .ok (.getfield 32, 3) := by decide +kernel
theorem dX10_lay_14 : decode cX10_lay 14 = .ok (.iload_n 1, 1) := by decide +kernel
theorem dX10_lay_15 : decode cX10_lay 15 = .ok (.iaload, 1) := by decide +kernel
theorem dX10_lay_16 : decode cX10_lay 16 = .ok (.bipush (-4), 2) := by decide +kernel
theorem dX10_lay_18 : decode cX10_lay 18 = .ok (.if_icmp .ne 6, 3) := by decide +kernel
theorem dX10_lay_21 : decode cX10_lay 21 = .ok (.bipush (-11), 2) := by decide +kernel
theorem dX10_lay_23 : decode cX10_lay 23 = .ok (.ireturn, 1) := by decide +kernel
theorem dX10_lay_24 : decode cX10_lay 24 = .ok (.iload_n 2, 1) := by decide +kernel
theorem dX10_lay_25 : decode cX10_lay 25 = .ok (.i2l, 1) := by decide +kernel
theorem dX10_lay_26 : decode cX10_lay 26 = .ok (.lconst 0, 1) := by decide +kernel
theorem dX10_lay_27 : decode cX10_lay 27 = .ok (.aload_n 0, 1) := by decide +kernel
theorem dX10_lay_28 : decode cX10_lay 28 = .ok (.getfield 35, 3) := by decide +kernel
theorem dX10_lay_31 : decode cX10_lay 31 = .ok (.iload_n 1, 1) := by decide +kernel
theorem dX10_lay_32 : decode cX10_lay 32 = .ok (.iaload, 1) := by decide +kernel
theorem dX10_lay_33 : decode cX10_lay 33 = .ok (.iconst 1, 1) := by decide +kernel
theorem dX10_lay_34 : decode cX10_lay 34 = .ok (.isub, 1) := by decide +kernel
theorem dX10_lay_35 : decode cX10_lay 35 = .ok (.i2l, 1) := by decide +kernel
theorem dX10_lay_36 : decode cX10_lay 36 = .ok (.invokestatic 52, 3) := by decide +kernel
theorem dX10_lay_39 : decode cX10_lay 39 = .ok (.ifCond .ne 6, 3) := by decide +kernel
theorem dX10_lay_42 : decode cX10_lay 42 = .ok (.bipush (-12), 2) := by decide +kernel
theorem dX10_lay_44 : decode cX10_lay 44 = .ok (.ireturn, 1) := by decide +kernel
theorem dX10_lay_45 : decode cX10_lay 45 = .ok (.aload_n 0, 1) := by decide +kernel
theorem dX10_lay_46 : decode cX10_lay 46 = .ok (.getfield 38, 3) := by decide +kernel
theorem dX10_lay_49 : decode cX10_lay 49 = .ok (.bipush 40, 2) := by decide +kernel
theorem dX10_lay_51 : decode cX10_lay 51 = .ok (.iload_n 1, 1) := by decide +kernel
theorem dX10_lay_52 : decode cX10_lay 52 = .ok (.imul, 1) := by decide +kernel
theorem dX10_lay_53 : decode cX10_lay 53 = .ok (.iload_n 2, 1) := by decide +kernel
theorem dX10_lay_54 : decode cX10_lay 54 = .ok (.iadd, 1) := by decide +kernel
theorem dX10_lay_55 : decode cX10_lay 55 = .ok (.aload_n 0, 1) := by decide +kernel
theorem dX10_lay_56 : decode cX10_lay 56 = .ok (.getfield 32, 3) := by decide +kernel
theorem dX10_lay_59 : decode cX10_lay 59 = .ok (.iload_n 1, 1) := by decide +kernel
theorem dX10_lay_60 : decode cX10_lay 60 = .ok (.iaload, 1) := by decide +kernel
theorem dX10_lay_61 : decode cX10_lay 61 = .ok (.ifCond .ne 8, 3) := by decide +kernel
theorem dX10_lay_64 : decode cX10_lay 64 = .ok (.iload_n 3, 1) := by decide +kernel
theorem dX10_lay_65 : decode cX10_lay 65 = .ok (.i2b, 1) := by decide +kernel
theorem dX10_lay_66 : decode cX10_lay 66 = .ok (.goto 19, 3) := by decide +kernel
theorem dX10_lay_69 : decode cX10_lay 69 = .ok (.aload_n 0, 1) := by decide +kernel
theorem dX10_lay_70 : decode cX10_lay 70 = .ok (.getfield 32, 3) := by decide +kernel
theorem dX10_lay_73 : decode cX10_lay 73 = .ok (.iload_n 1, 1) := by decide +kernel
theorem dX10_lay_74 : decode cX10_lay 74 = .ok (.iaload, 1) := by decide +kernel
theorem dX10_lay_75 : decode cX10_lay 75 = .ok (.iconst 1, 1) := by decide +kernel
theorem dX10_lay_76 : decode cX10_lay 76 = .ok (.if_icmp .ne 8, 3) := by decide +kernel
theorem dX10_lay_79 : decode cX10_lay 79 = .ok (.iload_n 3, 1) := by decide +kernel
theorem dX10_lay_80 : decode cX10_lay 80 = .ok (.i2s, 1) := by decide +kernel
theorem dX10_lay_81 : decode cX10_lay 81 = .ok (.goto 4, 3) := by decide +kernel
theorem dX10_lay_84 : decode cX10_lay 84 = .ok (.iload_n 3, 1) := by decide +kernel
theorem dX10_lay_85 : decode cX10_lay 85 = .ok (.iastore, 1) := by decide +kernel
theorem dX10_lay_86 : decode cX10_lay 86 = .ok (.iconst 1, 1) := by decide +kernel
theorem dX10_lay_87 : decode cX10_lay 87 = .ok (.ireturn, 1) := by decide +kernel
set_option maxRecDepth 100000 in
set_option maxHeartbeats 4000000 in
theorem S_X10_lay {ω : WD} {l1 : Int32} {l2 : Int32} {l3 : Int32} {M : Mem} {post : Int32 → Mem → Prop} (h : w_X10_lay l1 l2 l3 M post) : MtI ω yX10_lay cX10_lay 4 (some .int) 2 [.ref (adr ω 128), .int l1, .int l2, .int l3] M post := by
  refine MtI.start (ty := .int) rfl (by decide +kernel) (own := RX10) rfl (Nat.le_of_ble_eq_true rfl) (fun ρ C R => ?_)
  show G ω ρ M 0 [(0, .ref (adr ω 128)), (1, .int l1), (2, .int l2), (3, .int l3)] []
  refine G_iload_n C dX10_lay_0 1 rfl ?_
  refine G_iconst (v := 0) C dX10_lay_1 (by decide) ?_
  refine G_scallI (As := [.int l1, .int 0]) (rest := []) C dX10_lay_2 lk_X10_306 (Nat.le_of_ble_eq_true rfl) (Nat.le_of_ble_eq_true rfl) (Nat.le_of_ble_eq_true rfl) rfl (S_X10_isSheet h) (fun r2 M1 h => ?_)
  obtain ⟨h1, h2⟩ := h
  refine G_if_ne (tgt := 10) C dX10_lay_5 (by decide) (fun c => ?_) (fun c => ?_)
  · have h := h1 c
    clear h1 h2
    refine G_aload_n C dX10_lay_10 0 rfl ?_
    refine gf_X10_32 C dX10_lay_11 ?_
    refine G_iload_n C dX10_lay_14 1 rfl ?_
    obtain ⟨hi, h⟩ := h
    refine G_iald C q136 hi rfl dX10_lay_15 ?_
    refine G_bipush (v := (-4)) C dX10_lay_16 (by decide) ?_
    obtain ⟨h1, h2⟩ := h
    refine G_icmp_ne (tgt := 24) C dX10_lay_18 (by decide) (fun c => ?_) (fun c => ?_)
    · have h := h1 c
      clear h1 h2
      refine G_iload_n C dX10_lay_24 2 rfl ?_
      refine G_i2l C dX10_lay_25 ?_
      refine G_lconst (v := 0) C dX10_lay_26 (by decide) ?_
      refine G_aload_n C dX10_lay_27 0 rfl ?_
      refine gf_X10_35 C dX10_lay_28 ?_
      refine G_iload_n C dX10_lay_31 1 rfl ?_
      obtain ⟨hi, h⟩ := h
      refine G_iald C q137 hi rfl dX10_lay_32 ?_
      refine G_iconst (v := 1) C dX10_lay_33 (by decide) ?_
      refine G_isub C dX10_lay_34 ?_
      refine G_i2l C dX10_lay_35 ?_
      refine G_scallI (As := [.long ((l2).toInt64), .long 0, .long ((((rd M1 137 l1.toNatClampNeg) - 1)).toInt64)]) (rest := []) C dX10_lay_36 lk_X10_52 (Nat.le_of_ble_eq_true rfl) (Nat.le_of_ble_eq_true rfl) (Nat.le_of_ble_eq_true rfl) rfl (S_X10_in h) (fun r4 M3 h => ?_)
      obtain ⟨h1, h2⟩ := h
      refine G_if_ne (tgt := 45) C dX10_lay_39 (by decide) (fun c => ?_) (fun c => ?_)
      · have h := h1 c
        clear h1 h2
        refine G_aload_n C dX10_lay_45 0 rfl ?_
        refine gf_X10_38 C dX10_lay_46 ?_
        refine G_bipush (v := 40) C dX10_lay_49 (by decide) ?_
        refine G_iload_n C dX10_lay_51 1 rfl ?_
        refine G_imul C dX10_lay_52 ?_
        refine G_iload_n C dX10_lay_53 2 rfl ?_
        refine G_iadd C dX10_lay_54 ?_
        refine G_aload_n C dX10_lay_55 0 rfl ?_
        refine gf_X10_32 C dX10_lay_56 ?_
        refine G_iload_n C dX10_lay_59 1 rfl ?_
        obtain ⟨hi, h⟩ := h
        refine G_iald C q136 hi rfl dX10_lay_60 ?_
        obtain ⟨h1, h2⟩ := h
        refine G_if_ne (tgt := 69) C dX10_lay_61 (by decide) (fun c => ?_) (fun c => ?_)
        · have h := h1 c
          clear h1 h2
          refine G_aload_n C dX10_lay_69 0 rfl ?_
          refine gf_X10_32 C dX10_lay_70 ?_
          refine G_iload_n C dX10_lay_73 1 rfl ?_
          obtain ⟨hi, h⟩ := h
          refine G_iald C q136 hi rfl dX10_lay_74 ?_
          refine G_iconst (v := 1) C dX10_lay_75 (by decide) ?_
          obtain ⟨h1, h2⟩ := h
          refine G_icmp_ne (tgt := 84) C dX10_lay_76 (by decide) (fun c => ?_) (fun c => ?_)
          · have h := h1 c
            clear h1 h2
            refine G_iload_n C dX10_lay_84 3 rfl ?_
            obtain ⟨hi, h⟩ := h
            refine G_iast C q138 hi rfl dX10_lay_85 (G_mname (fun M5 eM5 => ?_))
            replace h := h M5 eM5
            refine G_iconst (v := 1) C dX10_lay_86 (by decide) ?_
            exact R 87 _ _ _ dX10_lay_87 rfl h
          · have h := h2 c
            clear h1 h2
            refine G_iload_n C dX10_lay_79 3 rfl ?_
            refine G_i2s C dX10_lay_80 ?_
            refine G_goto (tgt := 85) C dX10_lay_81 (by decide) ?_
            obtain ⟨hi, h⟩ := h
            refine G_iast C q138 hi rfl dX10_lay_85 (G_mname (fun M6 eM6 => ?_))
            replace h := h M6 eM6
            refine G_iconst (v := 1) C dX10_lay_86 (by decide) ?_
            exact R 87 _ _ _ dX10_lay_87 rfl h
        · have h := h2 c
          clear h1 h2
          refine G_iload_n C dX10_lay_64 3 rfl ?_
          refine G_i2b C dX10_lay_65 ?_
          refine G_goto (tgt := 85) C dX10_lay_66 (by decide) ?_
          obtain ⟨hi, h⟩ := h
          refine G_iast C q138 hi rfl dX10_lay_85 (G_mname (fun M7 eM7 => ?_))
          replace h := h M7 eM7
          refine G_iconst (v := 1) C dX10_lay_86 (by decide) ?_
          exact R 87 _ _ _ dX10_lay_87 rfl h
      · have h := h2 c
        clear h1 h2
        refine G_bipush (v := (-12)) C dX10_lay_42 (by decide) ?_
        exact R 44 _ _ _ dX10_lay_44 rfl h
    · have h := h2 c
      clear h1 h2
      refine G_bipush (v := (-11)) C dX10_lay_21 (by decide) ?_
      exact R 23 _ _ _ dX10_lay_23 rfl h
  · have h := h2 c
    clear h1 h2
    refine G_iconst (v := (-1)) C dX10_lay_8 (by decide) ?_
    exact R 9 _ _ _ dX10_lay_9 rfl h
theorem dX10_read_0 : decode cX10_read 0 = .ok (.iload_n 1, 1) := by decide +kernel
theorem dX10_read_1 : decode cX10_read 1 = .ok (.iload_n 2, 1) := by decide +kernel
theorem dX10_read_2 : decode cX10_read 2 = .ok (.invokestatic 306, 3) := by decide +kernel
theorem dX10_read_5 : decode cX10_read 5 = .ok (.ifCond .eq 16, 3) := by decide +kernel
theorem dX10_read_8 : decode cX10_read 8 = .ok (.iload 4, 2) := by decide +kernel
theorem dX10_read_10 : decode cX10_read 10 = .ok (.i2l, 1) := by decide +kernel
theorem dX10_read_11 : decode cX10_read 11 = .ok (.lconst 0, 1) := by decide +kernel
theorem dX10_read_12 : decode cX10_read 12 = .ok (.ldc2_w 309, 3) := by decide +kernel
theorem dX10_read_15 : decode cX10_read 15 = .ok (.invokestatic 52, 3) := by decide +kernel
theorem dX10_read_18 : decode cX10_read 18 = .ok (.ifCond .ne 5, 3) := by decide +kernel
theorem dX10_read_21 : decode cX10_read 21 = .ok (.iconst (-1), 1) := by decide +kernel
theorem dX10_read_22 : decode cX10_read 22 = .ok (.ireturn, 1) := by decide +kernel
theorem dX10_read_23 : decode cX10_read 23 = .ok (.iconst 0, 1) := by decide +kernel
theorem dX10_read_24 : decode cX10_read 24 = .ok (.istore 5, 2) := by decide +kernel
theorem dX10_read_26 : decode cX10_read 26 = .ok (.iload 5, 2) := by decide +kernel
theorem dX10_read_28 : decode cX10_read 28 = .ok (.bipush 96, 2) := by decide +kernel
theorem dX10_read_30 : decode cX10_read 30 = .ok (.if_icmp .ge 23, 3) := by decide +kernel
theorem dX10_read_33 : decode cX10_read 33 = .ok (.aload_n 0, 1) := by decide +kernel
theorem dX10_read_34 : decode cX10_read 34 = .ok (.getfield 41, 3) := by decide +kernel
theorem dX10_read_37 : decode cX10_read 37 = .ok (.iload 5, 2) := by decide +kernel
theorem dX10_read_39 : decode cX10_read 39 = .ok (.aload_n 0, 1) := by decide +kernel
theorem dX10_read_40 : decode cX10_read 40 = .ok (.getfield 7, 3) := by decide +kernel
theorem dX10_read_43 : decode cX10_read 43 = .ok (.iload 5, 2) := by decide +kernel
theorem dX10_read_45 : decode cX10_read 45 = .ok (.iaload, 1) := by decide +kernel
theorem dX10_read_46 : decode cX10_read 46 = .ok (.iastore, 1) := by decide +kernel
theorem dX10_read_47 : decode cX10_read 47 = .ok (.iinc 5 1, 3) := by decide +kernel
theorem dX10_read_50 : decode cX10_read 50 = .ok (.goto (-24), 3) := by decide +kernel
theorem dX10_read_53 : decode cX10_read 53 = .ok (.iconst 0, 1) := by decide +kernel
theorem dX10_read_54 : decode cX10_read 54 = .ok (.istore 5, 2) := by decide +kernel
theorem dX10_read_56 : decode cX10_read 56 = .ok (.iconst 0, 1) := by decide +kernel
theorem dX10_read_57 : decode cX10_read 57 = .ok (.istore 6, 2) := by decide +kernel
theorem dX10_read_59 : decode cX10_read 59 = .ok (.iconst 0, 1) := by decide +kernel
theorem dX10_read_60 : decode cX10_read 60 = .ok (.istore 7, 2) := by decide +kernel
theorem dX10_read_62 : decode cX10_read 62 = .ok (.iload 7, 2) := by decide +kernel
theorem dX10_read_64 : decode cX10_read 64 = .ok (.iload 4, 2) := by decide +kernel
theorem dX10_read_66 : decode cX10_read 66 = .ok (.if_icmp .ge 216, 3) := by decide +kernel
theorem dX10_read_69 : decode cX10_read 69 = .ok (.iload 5, 2) := by decide +kernel
theorem dX10_read_71 : decode cX10_read 71 = .ok (.ifCond .ne 211, 3) := by decide +kernel
theorem dX10_read_74 : decode cX10_read 74 = .ok (.iconst 0, 1) := by decide +kernel
theorem dX10_read_75 : decode cX10_read 75 = .ok (.istore 8, 2) := by decide +kernel
theorem dX10_read_77 : decode cX10_read 77 = .ok (.iload 8, 2) := by decide +kernel
theorem dX10_read_79 : decode cX10_read 79 = .ok (.iconst 2, 1) := by decide +kernel
theorem dX10_read_80 : decode cX10_read 80 = .ok (.if_icmp .ge 84, 3) := by decide +kernel
theorem dX10_read_83 : decode cX10_read 83 = .ok (.iload 5, 2) := by decide +kernel
theorem dX10_read_85 : decode cX10_read 85 = .ok (.ifCond .ne 79, 3) := by decide +kernel
theorem dX10_read_88 : decode cX10_read 88 = .ok (.iload_n 3, 1) := by decide +kernel
theorem dX10_read_89 : decode cX10_read 89 = .ok (.i2l, 1) := by decide +kernel
theorem dX10_read_90 : decode cX10_read 90 = .ok (.iconst 2, 1) := by decide +kernel
theorem dX10_read_91 : decode cX10_read 91 = .ok (.iload 7, 2) := by decide +kernel
theorem dX10_read_93 : decode cX10_read 93 = .ok (.imul, 1) := by decide +kernel
theorem dX10_read_94 : decode cX10_read 94 = .ok (.i2l, 1) := by decide +kernel
theorem dX10_read_95 : decode cX10_read 95 = .ok (.ladd, 1) := by decide +kernel
theorem dX10_read_96 : decode cX10_read 96 = .ok (.iload 8, 2) := by decide +kernel
theorem dX10_read_98 : decode cX10_read 98 = .ok (.i2l, 1) := by decide +kernel
theorem dX10_read_99 : decode cX10_read 99 = .ok (.ladd, 1) := by decide +kernel
theorem dX10_read_100 : decode cX10_read 100 = .ok (.lstore 9, 2) := by decide +kernel
theorem dX10_read_102 : decode cX10_read 102 = .ok (.aload_n 0, 1) := by decide +kernel
theorem dX10_read_103 : decode cX10_read 103 = .ok (.getfield 32, 3) := by decide +kernel
theorem dX10_read_106 : decode cX10_read 106 = .ok (.iload_n 1, 1) := by decide +kernel
theorem dX10_read_107 : decode cX10_read 107 = .ok (.iaload, 1) := by decide +kernel
theorem dX10_read_108 : decode cX10_read 108 = .ok (.bipush (-4), 2) := by decide +kernel
theorem dX10_read_110 : decode cX10_read 110 = .ok (.if_icmp .ne 7, 3) := by decide +kernel
theorem dX10_read_113 : decode cX10_read 113 = .ok (.iconst 1, 1) := by decide +kernel
theorem dX10_read_114 : decode cX10_read 114 = .ok (.goto 42, 3) := by decide +kernel
theorem dX10_read_117 : decode cX10_read 117 = .ok (.aload_n 0, 1) := by decide +kernel
theorem dX10_read_118 : decode cX10_read 118 = .ok (.getfield 32, 3) := by decide +kernel
theorem dX10_read_121 : decode cX10_read 121 = .ok (.iload_n 1, 1) := by decide +kernel
theorem dX10_read_122 : decode cX10_read 122 = .ok (.iaload, 1) := by decide +kernel
theorem dX10_read_123 : decode cX10_read 123 = .ok (.iload_n 2, 1) := by decide +kernel
theorem dX10_read_124 : decode cX10_read 124 = .ok (.if_icmp .eq 7, 3) := by decide +kernel
theorem dX10_read_127 : decode cX10_read 127 = .ok (.iconst 3, 1) := by decide +kernel
theorem dX10_read_128 : decode cX10_read 128 = .ok (.goto 28, 3) := by decide +kernel
theorem dX10_read_131 : decode cX10_read 131 = .ok (.lload 9, 2) := by decide +kernel
theorem dX10_read_133 : decode cX10_read 133 = .ok (.lconst 0, 1) := by decide +kernel
theorem dX10_read_134 : decode cX10_read 134 = .ok (.lcmp, 1) := by decide +kernel
theorem dX10_read_135 : decode cX10_read 135 = .ok (.ifCond .lt 16, 3) := by decide +kernel
theorem dX10_read_138 : decode cX10_read 138 = .ok (.lload 9, 2) := by decide +kernel
theorem dX10_read_140 : decode cX10_read 140 = .ok (.aload_n 0, 1) := by decide +kernel
theorem dX10_read_141 : decode cX10_read 141 = .ok (.getfield 35, 3) := by decide +kernel
theorem dX10_read_144 : decode cX10_read 144 = .ok (.iload_n 1, 1) := by decide +kernel
theorem dX10_read_145 : decode cX10_read 145 = .ok (.iaload, 1) := by decide +kernel
theorem dX10_read_146 : decode cX10_read 146 = .ok (.i2l, 1) := by decide +kernel
theorem dX10_read_147 : decode cX10_read 147 = .ok (.lcmp, 1) := by decide +kernel
theorem dX10_read_148 : decode cX10_read 148 = .ok (.ifCond .lt 7, 3) := by decide +kernel
theorem dX10_read_151 : decode cX10_read 151 = .ok (.iconst 2, 1) := by decide +kernel
theorem dX10_read_152 : decode cX10_read 152 = .ok (.goto 4, 3) := by decide +kernel
theorem dX10_read_155 : decode cX10_read 155 = .ok (.iconst 0, 1) := by decide +kernel
theorem dX10_read_156 : decode cX10_read 156 = .ok (.istore 5, 2) := by decide +kernel
theorem dX10_read_158 : decode cX10_read 158 = .ok (.iinc 8 1, 3) := by decide +kernel
theorem dX10_read_161 : decode cX10_read 161 = .ok (.goto (-84), 3) := by decide +kernel
theorem dX10_read_164 : decode cX10_read 164 = .ok (.iload 5, 2) := by decide +kernel
theorem dX10_read_166 : decode cX10_read 166 = .ok (.ifCond .ne 110, 3) := by decide +kernel
theorem dX10_read_169 : decode cX10_read 169 = .ok (.bipush 40, 2) := by decide +kernel
theorem dX10_read_171 : decode cX10_read 171 = .ok (.iload_n 1, 1) := by decide +kernel
theorem dX10_read_172 : decode cX10_read 172 = .ok (.imul, 1) := by decide +kernel
theorem dX10_read_173 : decode cX10_read 173 = .ok (.iload_n 3, 1) := by decide +kernel
theorem dX10_read_174 : decode cX10_read 174 = .ok (.iadd, 1) := by decide +kernel
theorem dX10_read_175 : decode cX10_read 175 = .ok (.iconst 2, 1) := by decide +kernel
theorem dX10_read_176 : decode cX10_read 176 = .ok (.iload 7, 2) := by decide +kernel
theorem dX10_read_178 : decode cX10_read 178 = .ok (.imul, 1) := by decide +kernel
theorem dX10_read_179 : decode cX10_read 179 = .ok (.iadd, 1) := by decide +kernel
theorem dX10_read_180 : decode cX10_read 180 = .ok (.istore 8, 2) := by decide +kernel
theorem dX10_read_182 : decode cX10_read 182 = .ok (.aload_n 0, 1) := by decide +kernel
theorem dX10_read_183 : decode cX10_read 183 = .ok (.getfield 38, 3) := by decide +kernel
theorem dX10_read_186 : decode cX10_read 186 = .ok (.iload 8, 2) := by decide +kernel
theorem dX10_read_188 : decode cX10_read 188 = .ok (.iconst 1, 1) := by decide +kernel
theorem dX10_read_189 : decode cX10_read 189 = .ok (.iadd, 1) := by decide +kernel
theorem dX10_read_190 : decode cX10_read 190 = .ok (.iaload, 1) := by decide +kernel
theorem dX10_read_191 : decode cX10_read 191 = .ok (.bipush 99, 2) := by decide +kernel
theorem dX10_read_193 : decode cX10_read 193 = .ok (.if_icmp .ne 17, 3) := by decide +kernel
theorem dX10_read_196 : decode cX10_read 196 = .ok (.aload_n 0, 1) := by decide +kernel
theorem dX10_read_197 : decode cX10_read 197 = .ok (.aload_n 0, 1) := by decide +kernel
theorem dX10_read_198 : decode cX10_read 198 = .ok (.getfield 38, 3) := by decide +kernel
theorem dX10_read_201 : decode cX10_read 201 = .ok (.iload 8, 2) := by decide +kernel
theorem dX10_read_203 : decode cX10_read 203 = .ok (.iaload, 1) := by decide +kernel
theorem dX10_read_204 : decode cX10_read 204 = .ok (.invokevirtual 311, 3) := by decide +kernel
theorem dX10_read_207 : decode cX10_read 207 = .ok (.goto 23, 3) := by decide +kernel
theorem dX10_read_210 : decode cX10_read 210 = .ok (.aload_n 0, 1) := by decide +kernel
theorem dX10_read_211 : decode cX10_read 211 = .ok (.aload_n 0, 1) := by decide +kernel
theorem dX10_read_212 : decode cX10_read 212 = .ok (.getfield 38, 3) := by decide +kernel
theorem dX10_read_215 : decode cX10_read 215 = .ok (.iload 8, 2) := by decide +kernel
theorem dX10_read_217 : decode cX10_read 217 = .ok (.iaload, 1) := by decide +kernel
theorem dX10_read_218 : decode cX10_read 218 = .ok (.aload_n 0, 1) := by decide +kernel
theorem dX10_read_219 : decode cX10_read 219 = .ok (.getfield 38, 3) := by decide +kernel
theorem dX10_read_222 : decode cX10_read 222 = .ok (.iload 8, 2) := by decide +kernel
theorem dX10_read_224 : decode cX10_read 224 = .ok (.iconst 1, 1) := by decide +kernel
theorem dX10_read_225 : decode cX10_read 225 = .ok (.iadd, 1) := by decide +kernel
theorem dX10_read_226 : decode cX10_read 226 = .ok (.iaload, 1) := by decide +kernel
theorem dX10_read_227 : decode cX10_read 227 = .ok (.invokevirtual 314, 3) := by decide +kernel
theorem dX10_read_230 : decode cX10_read 230 = .ok (.istore 9, 2) := by decide +kernel
theorem dX10_read_232 : decode cX10_read 232 = .ok (.iload 9, 2) := by decide +kernel
theorem dX10_read_234 : decode cX10_read 234 = .ok (.ifCond .ge 39, 3) := by decide +kernel
theorem dX10_read_237 : decode cX10_read 237 = .ok (.iconst 0, 1) := by decide +kernel
theorem dX10_read_238 : decode cX10_read 238 = .ok (.istore 10, 2) := by decide +kernel
theorem dX10_read_240 : decode cX10_read 240 = .ok (.iload 10, 2) := by decide +kernel
theorem dX10_read_242 : decode cX10_read 242 = .ok (.bipush 96, 2) := by decide +kernel
theorem dX10_read_244 : decode cX10_read 244 = .ok (.if_icmp .ge 23, 3) := by decide +kernel
theorem dX10_read_247 : decode cX10_read 247 = .ok (.aload_n 0, 1) := by decide +kernel
theorem dX10_read_248 : decode cX10_read 248 = .ok (.getfield 7, 3) := by decide +kernel
theorem dX10_read_251 : decode cX10_read 251 = .ok (.iload 10, 2) := by decide +kernel
theorem dX10_read_253 : decode cX10_read 253 = .ok (.aload_n 0, 1) := by decide +kernel
theorem dX10_read_254 : decode cX10_read 254 = .ok (.getfield 41, 3) := by decide +kernel
theorem dX10_read_257 : decode cX10_read 257 = .ok (.iload 10, 2) := by decide +kernel
theorem dX10_read_259 : decode cX10_read 259 = .ok (.iaload, 1) := by decide +kernel
theorem dX10_read_260 : decode cX10_read 260 = .ok (.iastore, 1) := by decide +kernel
theorem dX10_read_261 : decode cX10_read 261 = .ok (.iinc 10 1, 3) := by decide +kernel
theorem dX10_read_264 : decode cX10_read 264 = .ok (.goto (-24), 3) := by decide +kernel
theorem dX10_read_267 : decode cX10_read 267 = .ok (.bipush (-20), 2) := by decide +kernel
theorem dX10_read_269 : decode cX10_read 269 = .ok (.iload 7, 2) := by decide +kernel
theorem dX10_read_271 : decode cX10_read 271 = .ok (.isub, 1) := by decide +kernel
theorem dX10_read_272 : decode cX10_read 272 = .ok (.ireturn, 1) := by decide +kernel
theorem dX10_read_273 : decode cX10_read 273 = .ok (.iinc 6 1, 3) := by decide +kernel
theorem dX10_read_276 : decode cX10_read 276 = .ok (.iinc 7 1, 3) := by decide +kernel
theorem dX10_read_279 : decode cX10_read 279 = .ok (.goto (-217), 3) := by decide +kernel
theorem dX10_read_282 : decode cX10_read 282 = .ok (.aload_n 0, 1) := by decide +kernel
theorem dX10_read_283 : decode cX10_read 283 = .ok (.iload 5, 2) := by decide +kernel
theorem dX10_read_285 : decode cX10_read 285 = .ok (.putfield 317, 3) := by decide +kernel
theorem dX10_read_288 : decode cX10_read 288 = .ok (.iload 6, 2) := by decide +kernel
theorem dX10_read_290 : decode cX10_read 290 = .ok (.ireturn, 1) := by decide +kernel
theorem gf_X10_41 {ω : WD} {ρ : FR} {M : Mem} {cc : ByteArray} {d n pc : Nat} {lv : List (Nat × Value)} {rest : List Value} (C : Cx ω ρ cc RX10 d n) (hd : decode cc pc = .ok (.getfield 41, 3)) (k : G ω ρ M (pc + 3) lv (.ref (adr ω 139) :: rest)) : G ω ρ M pc lv (.ref (adr ω 128) :: rest) := G_get (N := 28) (T := TX10) (C := RX10) (q := 27) C (q128 : isK 10 128) (by decide) rfl in_X10 (by decide) (tb_of 1003 ⟨by decide +kernel, rfl⟩) rfl rfl hd k
theorem lk_X10_314 : LkV RX10 314 RX10 yX10_dial cX10_dial 4 (some .int) 2 := LkV.of 1449 1269 1270 71 1271 (by decide +kernel) (by decide +kernel) (by decide +kernel) (by decide +kernel) (by decide +kernel) (by decide +kernel)
theorem lk_X10_311 : LkV RX10 311 RX10 yX10_hang cX10_hang 3 (some .int) 1 := LkV.of 1448 1285 1286 71 1287 (by decide +kernel) (by decide +kernel) (by decide +kernel) (by decide +kernel) (by decide +kernel) (by decide +kernel)
theorem pf_X10_317 {ω : WD} {ρ : FR} {M : Mem} {cc : ByteArray} {d n pc : Nat} {lv : List (Nat × Value)} {rest : List Value} {v : Int32} (C : Cx ω ρ cc RX10 d n) (hd : decode cc pc = .ok (.putfield 317, 3)) (k : ∀ M1, M1 = wr M 128 26 v → G ω ρ M1 (pc + 3) lv rest) : G ω ρ M pc lv (.int v :: .ref (adr ω 128) :: rest) := G_put (N := 28) (T := TX10) (C := RX10) (q := 26) (ty := .int) C (q128 : isK 10 128) (by decide) rfl in_X10 tyX10 tyX10_ok nmX10 (by decide) (tb_of 1002 ⟨by decide +kernel, rfl⟩) rfl rfl (by decide +kernel) rfl rfl (fun _ _ => Nat.le_of_ble_eq_true rfl) (fun _ => rfl) hd (k _ rfl)
set_option maxRecDepth 100000 in
set_option maxHeartbeats 4000000 in
theorem s_X10_read_J156 {ω : WD} {ρ : FR} {post : Int32 → Mem → Prop} (C : Cx ω ρ cX10_read RX10 5 11) (R : RtI ω ρ cX10_read .int post) {K62 : Int32 → Int32 → Int32 → Mem → Prop} {K77 : Int32 → Int32 → Mem → Prop} {l1 : Int32} {l2 : Int32} {l3 : Int32} {l4 : Int32} {l6 : Int32} {l7 : Int32} {l8 : Int32} {s0 : Int32} (k62 : ∀ (u5 : Int32) (u6 : Int32) (u7 : Int32) (M : Mem), K62 u5 u6 u7 M → G ω ρ M 62 [(0, .ref (adr ω 128)), (1, .int l1), (2, .int l2), (3, .int l3), (4, .int l4), (5, .int u5), (6, .int u6), (7, .int u7)] []) (k77 : ∀ (u5 : Int32) (u8 : Int32) (M : Mem), K77 u5 u8 M → G ω ρ M 77 [(0, .ref (adr ω 128)), (1, .int l1), (2, .int l2), (3, .int l3), (4, .int l4), (5, .int u5), (6, .int l6), (7, .int l7), (8, .int u8)] []) {M : Mem} (h : w_X10_read_J156 post K62 K77 l1 l2 l3 l4 l6 l7 l8 s0 M) : G ω ρ M 156 [(0, .ref (adr ω 128)), (1, .int l1), (2, .int l2), (3, .int l3), (4, .int l4), (6, .int l6), (7, .int l7), (8, .int l8)] [.int s0] := by
  refine G_istore C dX10_read_156 (by decide) (lv' := [(5, .int s0), (0, .ref (adr ω 128)), (1, .int l1), (2, .int l2), (3, .int l3), (4, .int l4), (6, .int l6), (7, .int l7), (8, .int l8)]) rfl ?_
  obtain ⟨v1, ev1⟩ : ∃ y : Int32, y = (l8 + 1) := ⟨_, rfl⟩
  replace h := h v1 ev1
  refine G_iinc C dX10_read_158 8 rfl (v := v1) (by rw [ev1]; rfl) (by decide) (lv' := [(8, .int v1), (5, .int s0), (0, .ref (adr ω 128)), (1, .int l1), (2, .int l2), (3, .int l3), (4, .int l4), (6, .int l6), (7, .int l7)]) rfl ?_
  refine G_goto (tgt := 77) C dX10_read_161 (by decide) ?_
  refine G_sub [2, 3, 4, 5, 6, 1, 7, 8, 0] (lv' := [(0, .ref (adr ω 128)), (1, .int l1), (2, .int l2), (3, .int l3), (4, .int l4), (5, .int s0), (6, .int l6), (7, .int l7), (8, .int v1)]) rfl ?_
  exact k77 _ _ _ h
set_option maxRecDepth 100000 in
set_option maxHeartbeats 4000000 in
theorem s_X10_read_J151 {ω : WD} {ρ : FR} {post : Int32 → Mem → Prop} (C : Cx ω ρ cX10_read RX10 5 11) (R : RtI ω ρ cX10_read .int post) {K62 : Int32 → Int32 → Int32 → Mem → Prop} {K77 : Int32 → Int32 → Mem → Prop} {l1 : Int32} {l2 : Int32} {l3 : Int32} {l4 : Int32} {l6 : Int32} {l7 : Int32} {l8 : Int32} (k62 : ∀ (u5 : Int32) (u6 : Int32) (u7 : Int32) (M : Mem), K62 u5 u6 u7 M → G ω ρ M 62 [(0, .ref (adr ω 128)), (1, .int l1), (2, .int l2), (3, .int l3), (4, .int l4), (5, .int u5), (6, .int u6), (7, .int u7)] []) (k77 : ∀ (u5 : Int32) (u8 : Int32) (M : Mem), K77 u5 u8 M → G ω ρ M 77 [(0, .ref (adr ω 128)), (1, .int l1), (2, .int l2), (3, .int l3), (4, .int l4), (5, .int u5), (6, .int l6), (7, .int l7), (8, .int u8)] []) {M : Mem} (h : w_X10_read_J151 post K62 K77 l1 l2 l3 l4 l6 l7 l8 M) : G ω ρ M 151 [(0, .ref (adr ω 128)), (1, .int l1), (2, .int l2), (3, .int l3), (4, .int l4), (6, .int l6), (7, .int l7), (8, .int l8)] [] := by
  refine G_iconst (v := 2) C dX10_read_151 (by decide) ?_
  refine G_goto (tgt := 156) C dX10_read_152 (by decide) ?_
  exact s_X10_read_J156 C R k62 k77 h
set_option maxRecDepth 100000 in
set_option maxHeartbeats 4000000 in
theorem s_X10_read_L240 {ω : WD} {ρ : FR} {post : Int32 → Mem → Prop} (C : Cx ω ρ cX10_read RX10 5 11) (R : RtI ω ρ cX10_read .int post) {l7 : Int32} : ∀ (f : Nat) (l10 : Int32) (M : Mem), w_X10_read_L240 post l7 f l10 M → G ω ρ M 240 [(0, .ref (adr ω 128)), (7, .int l7), (10, .int l10)] [] := by
  intro f
  induction f with
  | zero => intro l10 M h; exact False.elim h
  | succ f k240 =>
    intro l10 M h
    refine G_iload C dX10_read_240 2 rfl ?_
    refine G_bipush (v := 96) C dX10_read_242 (by decide) ?_
    obtain ⟨h1, h2⟩ := h
    refine G_icmp_ge (tgt := 267) C dX10_read_244 (by decide) (fun c => ?_) (fun c => ?_)
    · have h := h1 c
      clear h1 h2
      refine G_bipush (v := (-20)) C dX10_read_267 (by decide) ?_
      refine G_iload C dX10_read_269 1 rfl ?_
      refine G_isub C dX10_read_271 ?_
      exact R 272 _ _ _ dX10_read_272 rfl h
    · have h := h2 c
      clear h1 h2
      refine G_aload_n C dX10_read_247 0 rfl ?_
      refine gf_X10_7 C dX10_read_248 ?_
      refine G_iload C dX10_read_251 2 rfl ?_
      refine G_aload_n C dX10_read_253 0 rfl ?_
      refine gf_X10_41 C dX10_read_254 ?_
      refine G_iload C dX10_read_257 2 rfl ?_
      obtain ⟨hi, h⟩ := h
      refine G_iald C q139 hi rfl dX10_read_259 ?_
      obtain ⟨hi, h⟩ := h
      refine G_iast C q129 hi rfl dX10_read_260 (G_mname (fun M2 eM2 => ?_))
      replace h := h M2 eM2
      obtain ⟨v3, ev3⟩ : ∃ y : Int32, y = (l10 + 1) := ⟨_, rfl⟩
      replace h := h v3 ev3
      refine G_iinc C dX10_read_261 2 rfl (v := v3) (by rw [ev3]; rfl) (by decide) (lv' := [(10, .int v3), (0, .ref (adr ω 128)), (7, .int l7)]) rfl ?_
      refine G_goto (tgt := 240) C dX10_read_264 (by decide) ?_
      refine G_sub [1, 2, 0] (lv' := [(0, .ref (adr ω 128)), (7, .int l7), (10, .int v3)]) rfl ?_
      exact k240 _ _ h
set_option maxRecDepth 100000 in
set_option maxHeartbeats 4000000 in
theorem s_X10_read_J276 {ω : WD} {ρ : FR} {post : Int32 → Mem → Prop} (C : Cx ω ρ cX10_read RX10 5 11) (R : RtI ω ρ cX10_read .int post) {K62 : Int32 → Int32 → Int32 → Mem → Prop} {l1 : Int32} {l2 : Int32} {l3 : Int32} {l4 : Int32} {l5 : Int32} {l6 : Int32} {l7 : Int32} (k62 : ∀ (u5 : Int32) (u6 : Int32) (u7 : Int32) (M : Mem), K62 u5 u6 u7 M → G ω ρ M 62 [(0, .ref (adr ω 128)), (1, .int l1), (2, .int l2), (3, .int l3), (4, .int l4), (5, .int u5), (6, .int u6), (7, .int u7)] []) {M : Mem} (h : w_X10_read_J276 post K62 l1 l2 l3 l4 l5 l6 l7 M) : G ω ρ M 276 [(0, .ref (adr ω 128)), (1, .int l1), (2, .int l2), (3, .int l3), (4, .int l4), (5, .int l5), (6, .int l6), (7, .int l7)] [] := by
  obtain ⟨v4, ev4⟩ : ∃ y : Int32, y = (l7 + 1) := ⟨_, rfl⟩
  replace h := h v4 ev4
  refine G_iinc C dX10_read_276 7 rfl (v := v4) (by rw [ev4]; rfl) (by decide) (lv' := [(7, .int v4), (0, .ref (adr ω 128)), (1, .int l1), (2, .int l2), (3, .int l3), (4, .int l4), (5, .int l5), (6, .int l6)]) rfl ?_
  refine G_goto (tgt := 62) C dX10_read_279 (by decide) ?_
  refine G_sub [1, 2, 3, 4, 5, 6, 7, 0] (lv' := [(0, .ref (adr ω 128)), (1, .int l1), (2, .int l2), (3, .int l3), (4, .int l4), (5, .int l5), (6, .int l6), (7, .int v4)]) rfl ?_
  exact k62 _ _ _ _ h
set_option maxRecDepth 100000 in
set_option maxHeartbeats 4000000 in
theorem s_X10_read_J230 {ω : WD} {ρ : FR} {post : Int32 → Mem → Prop} (C : Cx ω ρ cX10_read RX10 5 11) (R : RtI ω ρ cX10_read .int post) {K62 : Int32 → Int32 → Int32 → Mem → Prop} {l1 : Int32} {l2 : Int32} {l3 : Int32} {l4 : Int32} {l5 : Int32} {l6 : Int32} {l7 : Int32} {s0 : Int32} (k62 : ∀ (u5 : Int32) (u6 : Int32) (u7 : Int32) (M : Mem), K62 u5 u6 u7 M → G ω ρ M 62 [(0, .ref (adr ω 128)), (1, .int l1), (2, .int l2), (3, .int l3), (4, .int l4), (5, .int u5), (6, .int u6), (7, .int u7)] []) {M : Mem} (h : w_X10_read_J230 post K62 l1 l2 l3 l4 l5 l6 l7 s0 M) : G ω ρ M 230 [(0, .ref (adr ω 128)), (1, .int l1), (2, .int l2), (3, .int l3), (4, .int l4), (5, .int l5), (6, .int l6), (7, .int l7)] [.int s0] := by
  refine G_istore C dX10_read_230 (by decide) (lv' := [(9, .int s0), (0, .ref (adr ω 128)), (1, .int l1), (2, .int l2), (3, .int l3), (4, .int l4), (5, .int l5), (6, .int l6), (7, .int l7)]) rfl ?_
  refine G_iload C dX10_read_232 0 rfl ?_
  obtain ⟨h1, h2⟩ := h
  refine G_if_ge (tgt := 273) C dX10_read_234 (by decide) (fun c => ?_) (fun c => ?_)
  · have h := h1 c
    clear h1 h2
    obtain ⟨v5, ev5⟩ : ∃ y : Int32, y = (l6 + 1) := ⟨_, rfl⟩
    replace h := h v5 ev5
    refine G_iinc C dX10_read_273 7 rfl (v := v5) (by rw [ev5]; rfl) (by decide) (lv' := [(6, .int v5), (9, .int s0), (0, .ref (adr ω 128)), (1, .int l1), (2, .int l2), (3, .int l3), (4, .int l4), (5, .int l5), (7, .int l7)]) rfl ?_
    refine G_sub [2, 3, 4, 5, 6, 7, 0, 8] (lv' := [(0, .ref (adr ω 128)), (1, .int l1), (2, .int l2), (3, .int l3), (4, .int l4), (5, .int l5), (6, .int v5), (7, .int l7)]) rfl ?_
    exact s_X10_read_J276 C R k62 h
  · have h := h2 c
    clear h1 h2
    refine G_iconst (v := 0) C dX10_read_237 (by decide) ?_
    refine G_istore C dX10_read_238 (by decide) (lv' := [(10, .int 0), (9, .int s0), (0, .ref (adr ω 128)), (1, .int l1), (2, .int l2), (3, .int l3), (4, .int l4), (5, .int l5), (6, .int l6), (7, .int l7)]) rfl ?_
    refine G_sub [2, 9, 0] (lv' := [(0, .ref (adr ω 128)), (7, .int l7), (10, .int 0)]) rfl ?_
    obtain ⟨f, h⟩ := h
    exact s_X10_read_L240 C R  f _ _ h
set_option maxRecDepth 100000 in
set_option maxHeartbeats 4000000 in
theorem s_X10_read_J164 {ω : WD} {ρ : FR} {post : Int32 → Mem → Prop} (C : Cx ω ρ cX10_read RX10 5 11) (R : RtI ω ρ cX10_read .int post) {K62 : Int32 → Int32 → Int32 → Mem → Prop} {l1 : Int32} {l2 : Int32} {l3 : Int32} {l4 : Int32} {l5 : Int32} {l6 : Int32} {l7 : Int32} (k62 : ∀ (u5 : Int32) (u6 : Int32) (u7 : Int32) (M : Mem), K62 u5 u6 u7 M → G ω ρ M 62 [(0, .ref (adr ω 128)), (1, .int l1), (2, .int l2), (3, .int l3), (4, .int l4), (5, .int u5), (6, .int u6), (7, .int u7)] []) {M : Mem} (h : w_X10_read_J164 post K62 l1 l2 l3 l4 l5 l6 l7 M) : G ω ρ M 164 [(0, .ref (adr ω 128)), (1, .int l1), (2, .int l2), (3, .int l3), (4, .int l4), (5, .int l5), (6, .int l6), (7, .int l7)] [] := by
  refine G_iload C dX10_read_164 5 rfl ?_
  obtain ⟨h1, h2⟩ := h
  refine G_if_ne (tgt := 276) C dX10_read_166 (by decide) (fun c => ?_) (fun c => ?_)
  · have h := h1 c
    clear h1 h2
    exact s_X10_read_J276 C R k62 h
  · have h := h2 c
    clear h1 h2
    refine G_bipush (v := 40) C dX10_read_169 (by decide) ?_
    refine G_iload_n C dX10_read_171 1 rfl ?_
    refine G_imul C dX10_read_172 ?_
    refine G_iload_n C dX10_read_173 3 rfl ?_
    refine G_iadd C dX10_read_174 ?_
    refine G_iconst (v := 2) C dX10_read_175 (by decide) ?_
    refine G_iload C dX10_read_176 7 rfl ?_
    refine G_imul C dX10_read_178 ?_
    refine G_iadd C dX10_read_179 ?_
    refine G_iname (fun v6 ev6 => ?_)
    replace h := h v6 ev6
    refine G_istore C dX10_read_180 (by decide) (lv' := [(8, .int v6), (0, .ref (adr ω 128)), (1, .int l1), (2, .int l2), (3, .int l3), (4, .int l4), (5, .int l5), (6, .int l6), (7, .int l7)]) rfl ?_
    refine G_aload_n C dX10_read_182 1 rfl ?_
    refine gf_X10_38 C dX10_read_183 ?_
    refine G_iload C dX10_read_186 0 rfl ?_
    refine G_iconst (v := 1) C dX10_read_188 (by decide) ?_
    refine G_iadd C dX10_read_189 ?_
    obtain ⟨hi, h⟩ := h
    refine G_iald C q138 hi rfl dX10_read_190 ?_
    refine G_bipush (v := 99) C dX10_read_191 (by decide) ?_
    obtain ⟨h1, h2⟩ := h
    refine G_icmp_ne (tgt := 210) C dX10_read_193 (by decide) (fun c => ?_) (fun c => ?_)
    · have h := h1 c
      clear h1 h2
      refine G_aload_n C dX10_read_210 1 rfl ?_
      refine G_aload_n C dX10_read_211 1 rfl ?_
      refine gf_X10_38 C dX10_read_212 ?_
      refine G_iload C dX10_read_215 0 rfl ?_
      obtain ⟨hi, h⟩ := h
      refine G_iald C q138 hi rfl dX10_read_217 ?_
      refine G_aload_n C dX10_read_218 1 rfl ?_
      refine gf_X10_38 C dX10_read_219 ?_
      refine G_iload C dX10_read_222 0 rfl ?_
      refine G_iconst (v := 1) C dX10_read_224 (by decide) ?_
      refine G_iadd C dX10_read_225 ?_
      obtain ⟨hi, h⟩ := h
      refine G_iald C q138 hi rfl dX10_read_226 ?_
      refine G_callI (As := [.int (rd M 138 v6.toNatClampNeg), .int (rd M 138 (v6 + 1).toNatClampNeg)]) (rest := []) C dX10_read_227 lk_X10_314 (Nat.le_of_ble_eq_true rfl) (Nat.le_of_ble_eq_true rfl) q128 (by decide) rfl (Nat.le_of_ble_eq_true rfl) rfl (S_X10_dial h) (fun r8 M7 h => ?_)
      refine G_sub [1, 2, 3, 4, 5, 6, 7, 8] (lv' := [(0, .ref (adr ω 128)), (1, .int l1), (2, .int l2), (3, .int l3), (4, .int l4), (5, .int l5), (6, .int l6), (7, .int l7)]) rfl ?_
      exact s_X10_read_J230 C R k62 h
    · have h := h2 c
      clear h1 h2
      refine G_aload_n C dX10_read_196 1 rfl ?_
      refine G_aload_n C dX10_read_197 1 rfl ?_
      refine gf_X10_38 C dX10_read_198 ?_
      refine G_iload C dX10_read_201 0 rfl ?_
      obtain ⟨hi, h⟩ := h
      refine G_iald C q138 hi rfl dX10_read_203 ?_
      refine G_callI (As := [.int (rd M 138 v6.toNatClampNeg)]) (rest := []) C dX10_read_204 lk_X10_311 (Nat.le_of_ble_eq_true rfl) (Nat.le_of_ble_eq_true rfl) q128 (by decide) rfl (Nat.le_of_ble_eq_true rfl) rfl (S_X10_hang h) (fun r10 M9 h => ?_)
      refine G_goto (tgt := 230) C dX10_read_207 (by decide) ?_
      refine G_sub [1, 2, 3, 4, 5, 6, 7, 8] (lv' := [(0, .ref (adr ω 128)), (1, .int l1), (2, .int l2), (3, .int l3), (4, .int l4), (5, .int l5), (6, .int l6), (7, .int l7)]) rfl ?_
      exact s_X10_read_J230 C R k62 h
set_option maxRecDepth 100000 in
set_option maxHeartbeats 4000000 in
theorem s_X10_read_L77 {ω : WD} {ρ : FR} {post : Int32 → Mem → Prop} (C : Cx ω ρ cX10_read RX10 5 11) (R : RtI ω ρ cX10_read .int post) {K62 : Int32 → Int32 → Int32 → Mem → Prop} {l1 : Int32} {l2 : Int32} {l3 : Int32} {l4 : Int32} {l6 : Int32} {l7 : Int32} (k62 : ∀ (u5 : Int32) (u6 : Int32) (u7 : Int32) (M : Mem), K62 u5 u6 u7 M → G ω ρ M 62 [(0, .ref (adr ω 128)), (1, .int l1), (2, .int l2), (3, .int l3), (4, .int l4), (5, .int u5), (6, .int u6), (7, .int u7)] []) : ∀ (f : Nat) (l5 : Int32) (l8 : Int32) (M : Mem), w_X10_read_L77 post K62 l1 l2 l3 l4 l6 l7 f l5 l8 M → G ω ρ M 77 [(0, .ref (adr ω 128)), (1, .int l1), (2, .int l2), (3, .int l3), (4, .int l4), (5, .int l5), (6, .int l6), (7, .int l7), (8, .int l8)] [] := by
  intro f
  induction f with
  | zero => intro l5 l8 M h; exact False.elim h
  | succ f k77 =>
    intro l5 l8 M h
    refine G_iload C dX10_read_77 8 rfl ?_
    refine G_iconst (v := 2) C dX10_read_79 (by decide) ?_
    obtain ⟨h1, h2⟩ := h
    refine G_icmp_ge (tgt := 164) C dX10_read_80 (by decide) (fun c => ?_) (fun c => ?_)
    · have h := h1 c
      clear h1 h2
      refine G_sub [0, 1, 2, 3, 4, 5, 6, 7] (lv' := [(0, .ref (adr ω 128)), (1, .int l1), (2, .int l2), (3, .int l3), (4, .int l4), (5, .int l5), (6, .int l6), (7, .int l7)]) rfl ?_
      exact s_X10_read_J164 C R k62 h
    · have h := h2 c
      clear h1 h2
      refine G_iload C dX10_read_83 5 rfl ?_
      obtain ⟨h1, h2⟩ := h
      refine G_if_ne (tgt := 164) C dX10_read_85 (by decide) (fun c => ?_) (fun c => ?_)
      · have h := h1 c
        clear h1 h2
        refine G_sub [0, 1, 2, 3, 4, 5, 6, 7] (lv' := [(0, .ref (adr ω 128)), (1, .int l1), (2, .int l2), (3, .int l3), (4, .int l4), (5, .int l5), (6, .int l6), (7, .int l7)]) rfl ?_
        exact s_X10_read_J164 C R k62 h
      · have h := h2 c
        clear h1 h2
        refine G_iload_n C dX10_read_88 3 rfl ?_
        refine G_i2l C dX10_read_89 ?_
        refine G_iconst (v := 2) C dX10_read_90 (by decide) ?_
        refine G_iload C dX10_read_91 7 rfl ?_
        refine G_imul C dX10_read_93 ?_
        refine G_i2l C dX10_read_94 ?_
        refine G_ladd C dX10_read_95 ?_
        refine G_iload C dX10_read_96 8 rfl ?_
        refine G_i2l C dX10_read_98 ?_
        refine G_ladd C dX10_read_99 ?_
        refine G_lname (fun v11 ev11 => ?_)
        replace h := h v11 ev11
        refine G_lstore C dX10_read_100 (by decide) (lv' := [(9, .long v11), (0, .ref (adr ω 128)), (1, .int l1), (2, .int l2), (3, .int l3), (4, .int l4), (5, .int l5), (6, .int l6), (7, .int l7), (8, .int l8)]) rfl ?_
        refine G_aload_n C dX10_read_102 1 rfl ?_
        refine gf_X10_32 C dX10_read_103 ?_
        refine G_iload_n C dX10_read_106 2 rfl ?_
        obtain ⟨hi, h⟩ := h
        refine G_iald C q136 hi rfl dX10_read_107 ?_
        refine G_bipush (v := (-4)) C dX10_read_108 (by decide) ?_
        obtain ⟨h1, h2⟩ := h
        refine G_icmp_ne (tgt := 117) C dX10_read_110 (by decide) (fun c => ?_) (fun c => ?_)
        · have h := h1 c
          clear h1 h2
          refine G_aload_n C dX10_read_117 1 rfl ?_
          refine gf_X10_32 C dX10_read_118 ?_
          refine G_iload_n C dX10_read_121 2 rfl ?_
          obtain ⟨hi, h⟩ := h
          refine G_iald C q136 hi rfl dX10_read_122 ?_
          refine G_iload_n C dX10_read_123 3 rfl ?_
          obtain ⟨h1, h2⟩ := h
          refine G_icmp_eq (tgt := 131) C dX10_read_124 (by decide) (fun c => ?_) (fun c => ?_)
          · have h := h1 c
            clear h1 h2
            refine G_lload C dX10_read_131 0 rfl ?_
            refine G_lconst (v := 0) C dX10_read_133 (by decide) ?_
            refine G_lcmp C dX10_read_134 ?_
            obtain ⟨h1, h2⟩ := h
            refine G_if_lt (tgt := 151) C dX10_read_135 (by decide) (fun c => ?_) (fun c => ?_)
            · have h := h1 c
              clear h1 h2
              refine G_sub [1, 2, 3, 4, 5, 7, 8, 9] (lv' := [(0, .ref (adr ω 128)), (1, .int l1), (2, .int l2), (3, .int l3), (4, .int l4), (6, .int l6), (7, .int l7), (8, .int l8)]) rfl ?_
              exact s_X10_read_J151 C R k62 k77 h
            · have h := h2 c
              clear h1 h2
              refine G_lload C dX10_read_138 0 rfl ?_
              refine G_aload_n C dX10_read_140 1 rfl ?_
              refine gf_X10_35 C dX10_read_141 ?_
              refine G_iload_n C dX10_read_144 2 rfl ?_
              obtain ⟨hi, h⟩ := h
              refine G_iald C q137 hi rfl dX10_read_145 ?_
              refine G_i2l C dX10_read_146 ?_
              refine G_lcmp C dX10_read_147 ?_
              obtain ⟨h1, h2⟩ := h
              refine G_if_lt (tgt := 155) C dX10_read_148 (by decide) (fun c => ?_) (fun c => ?_)
              · have h := h1 c
                clear h1 h2
                refine G_iconst (v := 0) C dX10_read_155 (by decide) ?_
                refine G_sub [1, 2, 3, 4, 5, 7, 8, 9] (lv' := [(0, .ref (adr ω 128)), (1, .int l1), (2, .int l2), (3, .int l3), (4, .int l4), (6, .int l6), (7, .int l7), (8, .int l8)]) rfl ?_
                exact s_X10_read_J156 C R k62 k77 h
              · have h := h2 c
                clear h1 h2
                refine G_sub [1, 2, 3, 4, 5, 7, 8, 9] (lv' := [(0, .ref (adr ω 128)), (1, .int l1), (2, .int l2), (3, .int l3), (4, .int l4), (6, .int l6), (7, .int l7), (8, .int l8)]) rfl ?_
                exact s_X10_read_J151 C R k62 k77 h
          · have h := h2 c
            clear h1 h2
            refine G_iconst (v := 3) C dX10_read_127 (by decide) ?_
            refine G_goto (tgt := 156) C dX10_read_128 (by decide) ?_
            refine G_sub [1, 2, 3, 4, 5, 7, 8, 9] (lv' := [(0, .ref (adr ω 128)), (1, .int l1), (2, .int l2), (3, .int l3), (4, .int l4), (6, .int l6), (7, .int l7), (8, .int l8)]) rfl ?_
            exact s_X10_read_J156 C R k62 k77 h
        · have h := h2 c
          clear h1 h2
          refine G_iconst (v := 1) C dX10_read_113 (by decide) ?_
          refine G_goto (tgt := 156) C dX10_read_114 (by decide) ?_
          refine G_sub [1, 2, 3, 4, 5, 7, 8, 9] (lv' := [(0, .ref (adr ω 128)), (1, .int l1), (2, .int l2), (3, .int l3), (4, .int l4), (6, .int l6), (7, .int l7), (8, .int l8)]) rfl ?_
          exact s_X10_read_J156 C R k62 k77 h
set_option maxRecDepth 100000 in
set_option maxHeartbeats 4000000 in
theorem s_X10_read_L62 {ω : WD} {ρ : FR} {post : Int32 → Mem → Prop} (C : Cx ω ρ cX10_read RX10 5 11) (R : RtI ω ρ cX10_read .int post) {l1 : Int32} {l2 : Int32} {l3 : Int32} {l4 : Int32} : ∀ (f : Nat) (l5 : Int32) (l6 : Int32) (l7 : Int32) (M : Mem), w_X10_read_L62 post l1 l2 l3 l4 f l5 l6 l7 M → G ω ρ M 62 [(0, .ref (adr ω 128)), (1, .int l1), (2, .int l2), (3, .int l3), (4, .int l4), (5, .int l5), (6, .int l6), (7, .int l7)] [] := by
  intro f
  induction f with
  | zero => intro l5 l6 l7 M h; exact False.elim h
  | succ f k62 =>
    intro l5 l6 l7 M h
    refine G_iload C dX10_read_62 7 rfl ?_
    refine G_iload C dX10_read_64 4 rfl ?_
    obtain ⟨h1, h2⟩ := h
    refine G_icmp_ge (tgt := 282) C dX10_read_66 (by decide) (fun c => ?_) (fun c => ?_)
    · have h := h1 c
      clear h1 h2
      refine G_aload_n C dX10_read_282 0 rfl ?_
      refine G_iload C dX10_read_283 5 rfl ?_
      refine pf_X10_317 C dX10_read_285 (fun M12 eM12 => ?_)
      replace h := h M12 eM12
      refine G_iload C dX10_read_288 6 rfl ?_
      exact R 290 _ _ _ dX10_read_290 rfl h
    · have h := h2 c
      clear h1 h2
      refine G_iload C dX10_read_69 5 rfl ?_
      obtain ⟨h1, h2⟩ := h
      refine G_if_ne (tgt := 282) C dX10_read_71 (by decide) (fun c => ?_) (fun c => ?_)
      · have h := h1 c
        clear h1 h2
        refine G_aload_n C dX10_read_282 0 rfl ?_
        refine G_iload C dX10_read_283 5 rfl ?_
        refine pf_X10_317 C dX10_read_285 (fun M13 eM13 => ?_)
        replace h := h M13 eM13
        refine G_iload C dX10_read_288 6 rfl ?_
        exact R 290 _ _ _ dX10_read_290 rfl h
      · have h := h2 c
        clear h1 h2
        refine G_iconst (v := 0) C dX10_read_74 (by decide) ?_
        refine G_istore C dX10_read_75 (by decide) (lv' := [(8, .int 0), (0, .ref (adr ω 128)), (1, .int l1), (2, .int l2), (3, .int l3), (4, .int l4), (5, .int l5), (6, .int l6), (7, .int l7)]) rfl ?_
        refine G_sub [1, 2, 3, 4, 5, 6, 7, 8, 0] (lv' := [(0, .ref (adr ω 128)), (1, .int l1), (2, .int l2), (3, .int l3), (4, .int l4), (5, .int l5), (6, .int l6), (7, .int l7), (8, .int 0)]) rfl ?_
        obtain ⟨f, h⟩ := h
        exact s_X10_read_L77 C R k62 f _ _ _ h
set_option maxRecDepth 100000 in
set_option maxHeartbeats 4000000 in
theorem s_X10_read_L26 {ω : WD} {ρ : FR} {post : Int32 → Mem → Prop} (C : Cx ω ρ cX10_read RX10 5 11) (R : RtI ω ρ cX10_read .int post) {l1 : Int32} {l2 : Int32} {l3 : Int32} {l4 : Int32} : ∀ (f : Nat) (l5 : Int32) (M : Mem), w_X10_read_L26 post l1 l2 l3 l4 f l5 M → G ω ρ M 26 [(0, .ref (adr ω 128)), (1, .int l1), (2, .int l2), (3, .int l3), (4, .int l4), (5, .int l5)] [] := by
  intro f
  induction f with
  | zero => intro l5 M h; exact False.elim h
  | succ f k26 =>
    intro l5 M h
    refine G_iload C dX10_read_26 5 rfl ?_
    refine G_bipush (v := 96) C dX10_read_28 (by decide) ?_
    obtain ⟨h1, h2⟩ := h
    refine G_icmp_ge (tgt := 53) C dX10_read_30 (by decide) (fun c => ?_) (fun c => ?_)
    · have h := h1 c
      clear h1 h2
      refine G_iconst (v := 0) C dX10_read_53 (by decide) ?_
      refine G_istore C dX10_read_54 (by decide) (lv' := [(5, .int 0), (0, .ref (adr ω 128)), (1, .int l1), (2, .int l2), (3, .int l3), (4, .int l4)]) rfl ?_
      refine G_iconst (v := 0) C dX10_read_56 (by decide) ?_
      refine G_istore C dX10_read_57 (by decide) (lv' := [(6, .int 0), (5, .int 0), (0, .ref (adr ω 128)), (1, .int l1), (2, .int l2), (3, .int l3), (4, .int l4)]) rfl ?_
      refine G_iconst (v := 0) C dX10_read_59 (by decide) ?_
      refine G_istore C dX10_read_60 (by decide) (lv' := [(7, .int 0), (6, .int 0), (5, .int 0), (0, .ref (adr ω 128)), (1, .int l1), (2, .int l2), (3, .int l3), (4, .int l4)]) rfl ?_
      refine G_sub [3, 4, 5, 6, 7, 2, 1, 0] (lv' := [(0, .ref (adr ω 128)), (1, .int l1), (2, .int l2), (3, .int l3), (4, .int l4), (5, .int 0), (6, .int 0), (7, .int 0)]) rfl ?_
      obtain ⟨f, h⟩ := h
      exact s_X10_read_L62 C R  f _ _ _ _ h
    · have h := h2 c
      clear h1 h2
      refine G_aload_n C dX10_read_33 0 rfl ?_
      refine gf_X10_41 C dX10_read_34 ?_
      refine G_iload C dX10_read_37 5 rfl ?_
      refine G_aload_n C dX10_read_39 0 rfl ?_
      refine gf_X10_7 C dX10_read_40 ?_
      refine G_iload C dX10_read_43 5 rfl ?_
      obtain ⟨hi, h⟩ := h
      refine G_iald C q129 hi rfl dX10_read_45 ?_
      obtain ⟨hi, h⟩ := h
      refine G_iast C q139 hi rfl dX10_read_46 (G_mname (fun M14 eM14 => ?_))
      replace h := h M14 eM14
      obtain ⟨v15, ev15⟩ : ∃ y : Int32, y = (l5 + 1) := ⟨_, rfl⟩
      replace h := h v15 ev15
      refine G_iinc C dX10_read_47 5 rfl (v := v15) (by rw [ev15]; rfl) (by decide) (lv' := [(5, .int v15), (0, .ref (adr ω 128)), (1, .int l1), (2, .int l2), (3, .int l3), (4, .int l4)]) rfl ?_
      refine G_goto (tgt := 26) C dX10_read_50 (by decide) ?_
      refine G_sub [1, 2, 3, 4, 5, 0] (lv' := [(0, .ref (adr ω 128)), (1, .int l1), (2, .int l2), (3, .int l3), (4, .int l4), (5, .int v15)]) rfl ?_
      exact k26 _ _ h
set_option maxRecDepth 100000 in
set_option maxHeartbeats 4000000 in
theorem S_X10_read {ω : WD} {l1 : Int32} {l2 : Int32} {l3 : Int32} {l4 : Int32} {M : Mem} {post : Int32 → Mem → Prop} (h : w_X10_read l1 l2 l3 l4 M post) : MtI ω yX10_read cX10_read 11 (some .int) 5 [.ref (adr ω 128), .int l1, .int l2, .int l3, .int l4] M post := by
  refine MtI.start (ty := .int) rfl (by decide +kernel) (own := RX10) rfl (Nat.le_of_ble_eq_true rfl) (fun ρ C R => ?_)
  show G ω ρ M 0 [(0, .ref (adr ω 128)), (1, .int l1), (2, .int l2), (3, .int l3), (4, .int l4)] []
  refine G_iload_n C dX10_read_0 1 rfl ?_
  refine G_iload_n C dX10_read_1 2 rfl ?_
  refine G_scallI (As := [.int l1, .int l2]) (rest := []) C dX10_read_2 lk_X10_306 (Nat.le_of_ble_eq_true rfl) (Nat.le_of_ble_eq_true rfl) (Nat.le_of_ble_eq_true rfl) rfl (S_X10_isSheet h) (fun r17 M16 h => ?_)
  obtain ⟨h1, h2⟩ := h
  refine G_if_eq (tgt := 21) C dX10_read_5 (by decide) (fun c => ?_) (fun c => ?_)
  · have h := h1 c
    clear h1 h2
    refine G_iconst (v := (-1)) C dX10_read_21 (by decide) ?_
    exact R 22 _ _ _ dX10_read_22 rfl h
  · have h := h2 c
    clear h1 h2
    refine G_iload C dX10_read_8 4 rfl ?_
    refine G_i2l C dX10_read_10 ?_
    refine G_lconst (v := 0) C dX10_read_11 (by decide) ?_
    refine G_ldc2 (v := 20) C dX10_read_12 (tb_of 1447 ⟨by decide +kernel, rfl⟩) ?_
    refine G_scallI (As := [.long ((l4).toInt64), .long 0, .long 20]) (rest := []) C dX10_read_15 lk_X10_52 (Nat.le_of_ble_eq_true rfl) (Nat.le_of_ble_eq_true rfl) (Nat.le_of_ble_eq_true rfl) rfl (S_X10_in h) (fun r19 M18 h => ?_)
    obtain ⟨h1, h2⟩ := h
    refine G_if_ne (tgt := 23) C dX10_read_18 (by decide) (fun c => ?_) (fun c => ?_)
    · have h := h1 c
      clear h1 h2
      refine G_iconst (v := 0) C dX10_read_23 (by decide) ?_
      refine G_istore C dX10_read_24 (by decide) (lv' := [(5, .int 0), (0, .ref (adr ω 128)), (1, .int l1), (2, .int l2), (3, .int l3), (4, .int l4)]) rfl ?_
      refine G_sub [1, 2, 3, 4, 5, 0] (lv' := [(0, .ref (adr ω 128)), (1, .int l1), (2, .int l2), (3, .int l3), (4, .int l4), (5, .int 0)]) rfl ?_
      obtain ⟨f, h⟩ := h
      exact s_X10_read_L26 C R  f _ _ h
    · have h := h2 c
      clear h1 h2
      refine G_iconst (v := (-1)) C dX10_read_21 (by decide) ?_
      exact R 22 _ _ _ dX10_read_22 rfl h
theorem dX10_torn_0 : decode cX10_torn 0 = .ok (.aload_n 0, 1) := by decide +kernel
theorem dX10_torn_1 : decode cX10_torn 1 = .ok (.getfield 317, 3) := by decide +kernel
theorem dX10_torn_4 : decode cX10_torn 4 = .ok (.ireturn, 1) := by decide +kernel
theorem gf_X10_317 {ω : WD} {ρ : FR} {M : Mem} {cc : ByteArray} {d n pc : Nat} {lv : List (Nat × Value)} {rest : List Value} (C : Cx ω ρ cc RX10 d n) (hd : decode cc pc = .ok (.getfield 317, 3)) (k : G ω ρ M (pc + 3) lv (.int (rd M 128 26) :: rest)) : G ω ρ M pc lv (.ref (adr ω 128) :: rest) := G_get (N := 28) (T := TX10) (C := RX10) (q := 26) C (q128 : isK 10 128) (by decide) rfl in_X10 (by decide) (tb_of 1002 ⟨by decide +kernel, rfl⟩) rfl rfl hd k
set_option maxRecDepth 100000 in
set_option maxHeartbeats 4000000 in
theorem S_X10_torn {ω : WD} {M : Mem} {post : Int32 → Mem → Prop} (h : w_X10_torn M post) : MtI ω yX10_torn cX10_torn 1 (some .int) 0 [.ref (adr ω 128)] M post := by
  refine MtI.start (ty := .int) rfl (by decide +kernel) (own := RX10) rfl (Nat.le_of_ble_eq_true rfl) (fun ρ C R => ?_)
  show G ω ρ M 0 [(0, .ref (adr ω 128))] []
  refine G_aload_n C dX10_torn_0 0 rfl ?_
  refine gf_X10_317 C dX10_torn_1 ?_
  exact R 4 _ _ _ dX10_torn_4 rfl h
theorem dX10_count_0 : decode cX10_count 0 = .ok (.aload_n 0, 1) := by decide +kernel
theorem dX10_count_1 : decode cX10_count 1 = .ok (.invokevirtual 209, 3) := by decide +kernel
theorem dX10_count_4 : decode cX10_count 4 = .ok (.iconst 0, 1) := by decide +kernel
theorem dX10_count_5 : decode cX10_count 5 = .ok (.istore_n 2, 1) := by decide +kernel
theorem dX10_count_6 : decode cX10_count 6 = .ok (.iconst 0, 1) := by decide +kernel
theorem dX10_count_7 : decode cX10_count 7 = .ok (.istore_n 3, 1) := by decide +kernel
theorem dX10_count_8 : decode cX10_count 8 = .ok (.iconst 0, 1) := by decide +kernel
theorem dX10_count_9 : decode cX10_count 9 = .ok (.istore 4, 2) := by decide +kernel
theorem dX10_count_11 : decode cX10_count 11 = .ok (.iload 4, 2) := by decide +kernel
theorem dX10_count_13 : decode cX10_count 13 = .ok (.iconst 5, 1) := by decide +kernel
theorem dX10_count_14 : decode cX10_count 14 = .ok (.if_icmp .ge 49, 3) := by decide +kernel
theorem dX10_count_17 : decode cX10_count 17 = .ok (.iload_n 2, 1) := by decide +kernel
theorem dX10_count_18 : decode cX10_count 18 = .ok (.aload_n 0, 1) := by decide +kernel
theorem dX10_count_19 : decode cX10_count 19 = .ok (.iload 4, 2) := by decide +kernel
theorem dX10_count_21 : decode cX10_count 21 = .ok (.iconst 1, 1) := by decide +kernel
theorem dX10_count_22 : decode cX10_count 22 = .ok (.invokevirtual 164, 3) := by decide +kernel
theorem dX10_count_25 : decode cX10_count 25 = .ok (.iadd, 1) := by decide +kernel
theorem dX10_count_26 : decode cX10_count 26 = .ok (.istore_n 2, 1) := by decide +kernel
theorem dX10_count_27 : decode cX10_count 27 = .ok (.iconst 0, 1) := by decide +kernel
theorem dX10_count_28 : decode cX10_count 28 = .ok (.istore 5, 2) := by decide +kernel
theorem dX10_count_30 : decode cX10_count 30 = .ok (.iload 5, 2) := by decide +kernel
theorem dX10_count_32 : decode cX10_count 32 = .ok (.iconst 4, 1) := by decide +kernel
theorem dX10_count_33 : decode cX10_count 33 = .ok (.if_icmp .ge 24, 3) := by decide +kernel
theorem dX10_count_36 : decode cX10_count 36 = .ok (.iload_n 3, 1) := by decide +kernel
theorem dX10_count_37 : decode cX10_count 37 = .ok (.aload_n 0, 1) := by decide +kernel
theorem dX10_count_38 : decode cX10_count 38 = .ok (.iload 4, 2) := by decide +kernel
theorem dX10_count_40 : decode cX10_count 40 = .ok (.iconst 2, 1) := by decide +kernel
theorem dX10_count_41 : decode cX10_count 41 = .ok (.invokevirtual 164, 3) := by decide +kernel
theorem dX10_count_44 : decode cX10_count 44 = .ok (.iload 5, 2) := by decide +kernel
theorem dX10_count_46 : decode cX10_count 46 = .ok (.ishr, 1) := by decide +kernel
theorem dX10_count_47 : decode cX10_count 47 = .ok (.iconst 1, 1) := by decide +kernel
theorem dX10_count_48 : decode cX10_count 48 = .ok (.iand, 1) := by decide +kernel
theorem dX10_count_49 : decode cX10_count 49 = .ok (.iadd, 1) := by decide +kernel
theorem dX10_count_50 : decode cX10_count 50 = .ok (.istore_n 3, 1) := by decide +kernel
theorem dX10_count_51 : decode cX10_count 51 = .ok (.iinc 5 1, 3) := by decide +kernel
theorem dX10_count_54 : decode cX10_count 54 = .ok (.goto (-24), 3) := by decide +kernel
theorem dX10_count_57 : decode cX10_count 57 = .ok (.iinc 4 1, 3) := by decide +kernel
theorem dX10_count_60 : decode cX10_count 60 = .ok (.goto (-49), 3) := by decide +kernel
theorem dX10_count_63 : decode cX10_count 63 = .ok (.iload_n 1, 1) := by decide +kernel
theorem dX10_count_64 : decode cX10_count 64 = .ok (.tableswitch 100 0 5 #[40, 48, 68, 73, 96, 98], 40) := by decide +kernel
theorem dX10_count_104 : decode cX10_count 104 = .ok (.aload_n 0, 1) := by decide +kernel
theorem dX10_count_105 : decode cX10_count 105 = .ok (.getfield 7, 3) := by decide +kernel
theorem dX10_count_108 : decode cX10_count 108 = .ok (.bipush 83, 2) := by decide +kernel
theorem dX10_count_110 : decode cX10_count 110 = .ok (.iaload, 1) := by decide +kernel
theorem dX10_count_111 : decode cX10_count 111 = .ok (.ireturn, 1) := by decide +kernel
theorem dX10_count_112 : decode cX10_count 112 = .ok (.aload_n 0, 1) := by decide +kernel
theorem dX10_count_113 : decode cX10_count 113 = .ok (.getfield 16, 3) := by decide +kernel
theorem dX10_count_116 : decode cX10_count 116 = .ok (.iconst 0, 1) := by decide +kernel
theorem dX10_count_117 : decode cX10_count 117 = .ok (.baload, 1) := by decide +kernel
theorem dX10_count_118 : decode cX10_count 118 = .ok (.invokestatic 160, 3) := by decide +kernel
theorem dX10_count_121 : decode cX10_count 121 = .ok (.aload_n 0, 1) := by decide +kernel
theorem dX10_count_122 : decode cX10_count 122 = .ok (.getfield 16, 3) := by decide +kernel
theorem dX10_count_125 : decode cX10_count 125 = .ok (.iconst 1, 1) := by decide +kernel
theorem dX10_count_126 : decode cX10_count 126 = .ok (.baload, 1) := by decide +kernel
theorem dX10_count_127 : decode cX10_count 127 = .ok (.invokestatic 160, 3) := by decide +kernel
theorem dX10_count_130 : decode cX10_count 130 = .ok (.iadd, 1) := by decide +kernel
theorem dX10_count_131 : decode cX10_count 131 = .ok (.ireturn, 1) := by decide +kernel
theorem dX10_count_132 : decode cX10_count 132 = .ok (.aload_n 0, 1) := by decide +kernel
theorem dX10_count_133 : decode cX10_count 133 = .ok (.getfield 76, 3) := by decide +kernel
theorem dX10_count_136 : decode cX10_count 136 = .ok (.ireturn, 1) := by decide +kernel
theorem dX10_count_137 : decode cX10_count 137 = .ok (.aload_n 0, 1) := by decide +kernel
theorem dX10_count_138 : decode cX10_count 138 = .ok (.getfield 32, 3) := by decide +kernel
theorem dX10_count_141 : decode cX10_count 141 = .ok (.iconst 0, 1) := by decide +kernel
theorem dX10_count_142 : decode cX10_count 142 = .ok (.iaload, 1) := by decide +kernel
theorem dX10_count_143 : decode cX10_count 143 = .ok (.bipush (-4), 2) := by decide +kernel
theorem dX10_count_145 : decode cX10_count 145 = .ok (.if_icmp .ne 8, 3) := by decide +kernel
theorem dX10_count_148 : decode cX10_count 148 = .ok (.bipush (-4), 2) := by decide +kernel
theorem dX10_count_150 : decode cX10_count 150 = .ok (.goto 9, 3) := by decide +kernel
theorem dX10_count_153 : decode cX10_count 153 = .ok (.aload_n 0, 1) := by decide +kernel
theorem dX10_count_154 : decode cX10_count 154 = .ok (.getfield 35, 3) := by decide +kernel
theorem dX10_count_157 : decode cX10_count 157 = .ok (.iconst 0, 1) := by decide +kernel
theorem dX10_count_158 : decode cX10_count 158 = .ok (.iaload, 1) := by decide +kernel
theorem dX10_count_159 : decode cX10_count 159 = .ok (.ireturn, 1) := by decide +kernel
theorem dX10_count_160 : decode cX10_count 160 = .ok (.iload_n 2, 1) := by decide +kernel
theorem dX10_count_161 : decode cX10_count 161 = .ok (.ireturn, 1) := by decide +kernel
theorem dX10_count_162 : decode cX10_count 162 = .ok (.iload_n 3, 1) := by decide +kernel
theorem dX10_count_163 : decode cX10_count 163 = .ok (.ireturn, 1) := by decide +kernel
theorem dX10_count_164 : decode cX10_count 164 = .ok (.iconst (-1), 1) := by decide +kernel
theorem dX10_count_165 : decode cX10_count 165 = .ok (.ireturn, 1) := by decide +kernel
set_option maxRecDepth 100000 in
set_option maxHeartbeats 4000000 in
theorem s_X10_count_L30 {ω : WD} {ρ : FR} {post : Int32 → Mem → Prop} (C : Cx ω ρ cX10_count RX10 1 6) (R : RtI ω ρ cX10_count .int post) {K11 : Int32 → Int32 → Int32 → Mem → Prop} {l1 : Int32} {l2 : Int32} {l4 : Int32} (k11 : ∀ (u2 : Int32) (u3 : Int32) (u4 : Int32) (M : Mem), K11 u2 u3 u4 M → G ω ρ M 11 [(0, .ref (adr ω 128)), (1, .int l1), (2, .int u2), (3, .int u3), (4, .int u4)] []) : ∀ (f : Nat) (l3 : Int32) (l5 : Int32) (M : Mem), w_X10_count_L30 post K11 l1 l2 l4 f l3 l5 M → G ω ρ M 30 [(0, .ref (adr ω 128)), (1, .int l1), (2, .int l2), (3, .int l3), (4, .int l4), (5, .int l5)] [] := by
  intro f
  induction f with
  | zero => intro l3 l5 M h; exact False.elim h
  | succ f k30 =>
    intro l3 l5 M h
    refine G_iload C dX10_count_30 5 rfl ?_
    refine G_iconst (v := 4) C dX10_count_32 (by decide) ?_
    obtain ⟨h1, h2⟩ := h
    refine G_icmp_ge (tgt := 57) C dX10_count_33 (by decide) (fun c => ?_) (fun c => ?_)
    · have h := h1 c
      clear h1 h2
      obtain ⟨v1, ev1⟩ : ∃ y : Int32, y = (l4 + 1) := ⟨_, rfl⟩
      replace h := h v1 ev1
      refine G_iinc C dX10_count_57 4 rfl (v := v1) (by rw [ev1]; rfl) (by decide) (lv' := [(4, .int v1), (0, .ref (adr ω 128)), (1, .int l1), (2, .int l2), (3, .int l3), (5, .int l5)]) rfl ?_
      refine G_goto (tgt := 11) C dX10_count_60 (by decide) ?_
      refine G_sub [1, 2, 3, 4, 0] (lv' := [(0, .ref (adr ω 128)), (1, .int l1), (2, .int l2), (3, .int l3), (4, .int v1)]) rfl ?_
      exact k11 _ _ _ _ h
    · have h := h2 c
      clear h1 h2
      refine G_iload_n C dX10_count_36 3 rfl ?_
      refine G_aload_n C dX10_count_37 0 rfl ?_
      refine G_iload C dX10_count_38 4 rfl ?_
      refine G_iconst (v := 2) C dX10_count_40 (by decide) ?_
      refine G_callI (As := [.int l4, .int 2]) (rest := [.int l3]) C dX10_count_41 lk_X10_164 (Nat.le_of_ble_eq_true rfl) (Nat.le_of_ble_eq_true rfl) q128 (by decide) rfl (Nat.le_of_ble_eq_true rfl) rfl (S_X10_ofGroup h) (fun r3 M2 h => ?_)
      refine G_iload C dX10_count_44 5 rfl ?_
      refine G_ishr C dX10_count_46 ?_
      refine G_iconst (v := 1) C dX10_count_47 (by decide) ?_
      refine G_iand C dX10_count_48 ?_
      refine G_iadd C dX10_count_49 ?_
      refine G_iname (fun v4 ev4 => ?_)
      replace h := h v4 ev4
      refine G_istore_n C dX10_count_50 (by decide) (lv' := [(3, .int v4), (0, .ref (adr ω 128)), (1, .int l1), (2, .int l2), (4, .int l4), (5, .int l5)]) rfl ?_
      obtain ⟨v5, ev5⟩ : ∃ y : Int32, y = (l5 + 1) := ⟨_, rfl⟩
      replace h := h v5 ev5
      refine G_iinc C dX10_count_51 5 rfl (v := v5) (by rw [ev5]; rfl) (by decide) (lv' := [(5, .int v5), (3, .int v4), (0, .ref (adr ω 128)), (1, .int l1), (2, .int l2), (4, .int l4)]) rfl ?_
      refine G_goto (tgt := 30) C dX10_count_54 (by decide) ?_
      refine G_sub [2, 3, 4, 1, 5, 0] (lv' := [(0, .ref (adr ω 128)), (1, .int l1), (2, .int l2), (3, .int v4), (4, .int l4), (5, .int v5)]) rfl ?_
      exact k30 _ _ _ h
set_option maxRecDepth 100000 in
set_option maxHeartbeats 4000000 in
theorem s_X10_count_L11 {ω : WD} {ρ : FR} {post : Int32 → Mem → Prop} (C : Cx ω ρ cX10_count RX10 1 6) (R : RtI ω ρ cX10_count .int post) {l1 : Int32} : ∀ (f : Nat) (l2 : Int32) (l3 : Int32) (l4 : Int32) (M : Mem), w_X10_count_L11 post l1 f l2 l3 l4 M → G ω ρ M 11 [(0, .ref (adr ω 128)), (1, .int l1), (2, .int l2), (3, .int l3), (4, .int l4)] [] := by
  intro f
  induction f with
  | zero => intro l2 l3 l4 M h; exact False.elim h
  | succ f k11 =>
    intro l2 l3 l4 M h
    refine G_iload C dX10_count_11 4 rfl ?_
    refine G_iconst (v := 5) C dX10_count_13 (by decide) ?_
    obtain ⟨h1, h2⟩ := h
    refine G_icmp_ge (tgt := 63) C dX10_count_14 (by decide) (fun c => ?_) (fun c => ?_)
    · have h := h1 c
      clear h1 h2
      refine G_iload_n C dX10_count_63 1 rfl ?_
      obtain ⟨h0, h1, h2, h3, h4, h5, h6⟩ := h
      by_cases cd : (l1).toInt < 0 ∨ 5 < (l1).toInt
      · have h := h6 cd
        clear h0 h1 h2 h3 h4 h5 h6
        refine G_tableOut (tgt := 164) C dX10_count_64 cd (by decide) ?_
        refine G_iconst (v := (-1)) C dX10_count_164 (by decide) ?_
        exact R 165 _ _ _ dX10_count_165 rfl h
      · have cs : (l1).toInt = 0 ∨ (l1).toInt = 1 ∨ (l1).toInt = 2 ∨ (l1).toInt = 3 ∨ (l1).toInt = 4 ∨ (l1).toInt = 5 := by omega
        rcases cs with cs | cs | cs | cs | cs | cs
        · have h := h0 ((sw_toInt cs).trans (by decide))
          clear h0 h1 h2 h3 h4 h5 h6
          refine G_tableIn (tgt := 104) C dX10_count_64 (by omega) (by omega) (by rw [cs]; rfl) (by decide) ?_
          refine G_aload_n C dX10_count_104 0 rfl ?_
          refine gf_X10_7 C dX10_count_105 ?_
          refine G_bipush (v := 83) C dX10_count_108 (by decide) ?_
          refine G_iald C q129 (vp_lit rfl) (kk := 83) (by decide +kernel) dX10_count_110 ?_
          exact R 111 _ _ _ dX10_count_111 rfl h
        · have h := h1 ((sw_toInt cs).trans (by decide))
          clear h0 h1 h2 h3 h4 h5 h6
          refine G_tableIn (tgt := 112) C dX10_count_64 (by omega) (by omega) (by rw [cs]; rfl) (by decide) ?_
          refine G_aload_n C dX10_count_112 0 rfl ?_
          refine gf_X10_16 C dX10_count_113 ?_
          refine G_iconst (v := 0) C dX10_count_116 (by decide) ?_
          refine G_zald C q131 (vp_lit rfl) (kk := 0) (by decide +kernel) dX10_count_117 ?_
          refine G_scallI (As := [.int (rd M 131 0)]) (rest := []) C dX10_count_118 lk_X10_160 (Nat.le_of_ble_eq_true rfl) (Nat.le_of_ble_eq_true rfl) (Nat.le_of_ble_eq_true rfl) rfl (S_X10_flag h) (fun r7 M6 h => ?_)
          refine G_aload_n C dX10_count_121 0 rfl ?_
          refine gf_X10_16 C dX10_count_122 ?_
          refine G_iconst (v := 1) C dX10_count_125 (by decide) ?_
          refine G_zald C q131 (vp_lit rfl) (kk := 1) (by decide +kernel) dX10_count_126 ?_
          refine G_scallI (As := [.int (rd M6 131 1)]) (rest := [.int r7]) C dX10_count_127 lk_X10_160 (Nat.le_of_ble_eq_true rfl) (Nat.le_of_ble_eq_true rfl) (Nat.le_of_ble_eq_true rfl) rfl (S_X10_flag h) (fun r9 M8 h => ?_)
          refine G_iadd C dX10_count_130 ?_
          exact R 131 _ _ _ dX10_count_131 rfl h
        · have h := h2 ((sw_toInt cs).trans (by decide))
          clear h0 h1 h2 h3 h4 h5 h6
          refine G_tableIn (tgt := 132) C dX10_count_64 (by omega) (by omega) (by rw [cs]; rfl) (by decide) ?_
          refine G_aload_n C dX10_count_132 0 rfl ?_
          refine gf_X10_76 C dX10_count_133 ?_
          exact R 136 _ _ _ dX10_count_136 rfl h
        · have h := h3 ((sw_toInt cs).trans (by decide))
          clear h0 h1 h2 h3 h4 h5 h6
          refine G_tableIn (tgt := 137) C dX10_count_64 (by omega) (by omega) (by rw [cs]; rfl) (by decide) ?_
          refine G_aload_n C dX10_count_137 0 rfl ?_
          refine gf_X10_32 C dX10_count_138 ?_
          refine G_iconst (v := 0) C dX10_count_141 (by decide) ?_
          refine G_iald C q136 (vp_lit rfl) (kk := 0) (by decide +kernel) dX10_count_142 ?_
          refine G_bipush (v := (-4)) C dX10_count_143 (by decide) ?_
          obtain ⟨h1, h2⟩ := h
          refine G_icmp_ne (tgt := 153) C dX10_count_145 (by decide) (fun c => ?_) (fun c => ?_)
          · have h := h1 c
            clear h1 h2
            refine G_aload_n C dX10_count_153 0 rfl ?_
            refine gf_X10_35 C dX10_count_154 ?_
            refine G_iconst (v := 0) C dX10_count_157 (by decide) ?_
            refine G_iald C q137 (vp_lit rfl) (kk := 0) (by decide +kernel) dX10_count_158 ?_
            exact R 159 _ _ _ dX10_count_159 rfl h
          · have h := h2 c
            clear h1 h2
            refine G_bipush (v := (-4)) C dX10_count_148 (by decide) ?_
            refine G_goto (tgt := 159) C dX10_count_150 (by decide) ?_
            exact R 159 _ _ _ dX10_count_159 rfl h
        · have h := h4 ((sw_toInt cs).trans (by decide))
          clear h0 h1 h2 h3 h4 h5 h6
          refine G_tableIn (tgt := 160) C dX10_count_64 (by omega) (by omega) (by rw [cs]; rfl) (by decide) ?_
          refine G_iload_n C dX10_count_160 2 rfl ?_
          exact R 161 _ _ _ dX10_count_161 rfl h
        · have h := h5 ((sw_toInt cs).trans (by decide))
          clear h0 h1 h2 h3 h4 h5 h6
          refine G_tableIn (tgt := 162) C dX10_count_64 (by omega) (by omega) (by rw [cs]; rfl) (by decide) ?_
          refine G_iload_n C dX10_count_162 3 rfl ?_
          exact R 163 _ _ _ dX10_count_163 rfl h
    · have h := h2 c
      clear h1 h2
      refine G_iload_n C dX10_count_17 2 rfl ?_
      refine G_aload_n C dX10_count_18 0 rfl ?_
      refine G_iload C dX10_count_19 4 rfl ?_
      refine G_iconst (v := 1) C dX10_count_21 (by decide) ?_
      refine G_callI (As := [.int l4, .int 1]) (rest := [.int l2]) C dX10_count_22 lk_X10_164 (Nat.le_of_ble_eq_true rfl) (Nat.le_of_ble_eq_true rfl) q128 (by decide) rfl (Nat.le_of_ble_eq_true rfl) rfl (S_X10_ofGroup h) (fun r11 M10 h => ?_)
      refine G_iadd C dX10_count_25 ?_
      refine G_iname (fun v12 ev12 => ?_)
      replace h := h v12 ev12
      refine G_istore_n C dX10_count_26 (by decide) (lv' := [(2, .int v12), (0, .ref (adr ω 128)), (1, .int l1), (3, .int l3), (4, .int l4)]) rfl ?_
      refine G_iconst (v := 0) C dX10_count_27 (by decide) ?_
      refine G_istore C dX10_count_28 (by decide) (lv' := [(5, .int 0), (2, .int v12), (0, .ref (adr ω 128)), (1, .int l1), (3, .int l3), (4, .int l4)]) rfl ?_
      refine G_sub [2, 3, 1, 4, 5, 0] (lv' := [(0, .ref (adr ω 128)), (1, .int l1), (2, .int v12), (3, .int l3), (4, .int l4), (5, .int 0)]) rfl ?_
      obtain ⟨f, h⟩ := h
      exact s_X10_count_L30 C R k11 f _ _ _ h
set_option maxRecDepth 100000 in
set_option maxHeartbeats 4000000 in
theorem S_X10_count {ω : WD} {l1 : Int32} {M : Mem} {post : Int32 → Mem → Prop} (h : w_X10_count l1 M post) : MtI ω yX10_count cX10_count 6 (some .int) 1 [.ref (adr ω 128), .int l1] M post := by
  refine MtI.start (ty := .int) rfl (by decide +kernel) (own := RX10) rfl (Nat.le_of_ble_eq_true rfl) (fun ρ C R => ?_)
  show G ω ρ M 0 [(0, .ref (adr ω 128)), (1, .int l1)] []
  refine G_aload_n C dX10_count_0 0 rfl ?_
  refine G_callV (As := []) (rest := []) C dX10_count_1 lk_X10_209 (Nat.le_of_ble_eq_true rfl) (Nat.le_of_ble_eq_true rfl) q128 (by decide) rfl (Nat.le_of_ble_eq_true rfl) rfl (S_X10_starts h) (fun M13 h => ?_)
  refine G_iconst (v := 0) C dX10_count_4 (by decide) ?_
  refine G_istore_n C dX10_count_5 (by decide) (lv' := [(2, .int 0), (0, .ref (adr ω 128)), (1, .int l1)]) rfl ?_
  refine G_iconst (v := 0) C dX10_count_6 (by decide) ?_
  refine G_istore_n C dX10_count_7 (by decide) (lv' := [(3, .int 0), (2, .int 0), (0, .ref (adr ω 128)), (1, .int l1)]) rfl ?_
  refine G_iconst (v := 0) C dX10_count_8 (by decide) ?_
  refine G_istore C dX10_count_9 (by decide) (lv' := [(4, .int 0), (3, .int 0), (2, .int 0), (0, .ref (adr ω 128)), (1, .int l1)]) rfl ?_
  refine G_sub [3, 4, 2, 1, 0] (lv' := [(0, .ref (adr ω 128)), (1, .int l1), (2, .int 0), (3, .int 0), (4, .int 0)]) rfl ?_
  obtain ⟨f, h⟩ := h
  exact s_X10_count_L11 C R  f _ _ _ _ h
