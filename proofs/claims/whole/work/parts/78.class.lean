theorem dX9_feed_0 : decode cX9_feed 0 = .ok (.iload_n 1, 1) := by decide +kernel
theorem dX9_feed_1 : decode cX9_feed 1 = .ok (.ifCond .lt 9, 3) := by decide +kernel
theorem dX9_feed_4 : decode cX9_feed 4 = .ok (.iload_n 1, 1) := by decide +kernel
theorem dX9_feed_5 : decode cX9_feed 5 = .ok (.bipush 127, 2) := by decide +kernel
theorem dX9_feed_7 : decode cX9_feed 7 = .ok (.if_icmp .le 5, 3) := by decide +kernel
theorem dX9_feed_10 : decode cX9_feed 10 = .ok (.iconst (-1), 1) := by decide +kernel
theorem dX9_feed_11 : decode cX9_feed 11 = .ok (.ireturn, 1) := by decide +kernel
theorem dX9_feed_12 : decode cX9_feed 12 = .ok (.aload_n 0, 1) := by decide +kernel
theorem dX9_feed_13 : decode cX9_feed 13 = .ok (.getfield 53, 3) := by decide +kernel
theorem dX9_feed_16 : decode cX9_feed 16 = .ok (.getfield 75, 3) := by decide +kernel
theorem dX9_feed_19 : decode cX9_feed 19 = .ok (.sipush 160, 3) := by decide +kernel
theorem dX9_feed_22 : decode cX9_feed 22 = .ok (.if_icmp .lt 6, 3) := by decide +kernel
theorem dX9_feed_25 : decode cX9_feed 25 = .ok (.bipush (-3), 2) := by decide +kernel
theorem dX9_feed_27 : decode cX9_feed 27 = .ok (.ireturn, 1) := by decide +kernel
theorem dX9_feed_28 : decode cX9_feed 28 = .ok (.aload_n 0, 1) := by decide +kernel
theorem dX9_feed_29 : decode cX9_feed 29 = .ok (.getfield 53, 3) := by decide +kernel
theorem dX9_feed_32 : decode cX9_feed 32 = .ok (.getfield 80, 3) := by decide +kernel
theorem dX9_feed_35 : decode cX9_feed 35 = .ok (.aload_n 0, 1) := by decide +kernel
theorem dX9_feed_36 : decode cX9_feed 36 = .ok (.getfield 53, 3) := by decide +kernel
theorem dX9_feed_39 : decode cX9_feed 39 = .ok (.getfield 75, 3) := by decide +kernel
theorem dX9_feed_42 : decode cX9_feed 42 = .ok (.iload_n 1, 1) := by decide +kernel
theorem dX9_feed_43 : decode cX9_feed 43 = .ok (.iastore, 1) := by decide +kernel
theorem dX9_feed_44 : decode cX9_feed 44 = .ok (.aload_n 0, 1) := by decide +kernel
theorem dX9_feed_45 : decode cX9_feed 45 = .ok (.getfield 53, 3) := by decide +kernel
theorem dX9_feed_48 : decode cX9_feed 48 = .ok (.dup, 1) := by decide +kernel
theorem dX9_feed_49 : decode cX9_feed 49 = .ok (.getfield 75, 3) := by decide +kernel
theorem dX9_feed_52 : decode cX9_feed 52 = .ok (.iconst 1, 1) := by decide +kernel
theorem dX9_feed_53 : decode cX9_feed 53 = .ok (.iadd, 1) := by decide +kernel
theorem dX9_feed_54 : decode cX9_feed 54 = .ok (.putfield 75, 3) := by decide +kernel
theorem dX9_feed_57 : decode cX9_feed 57 = .ok (.aload_n 0, 1) := by decide +kernel
theorem dX9_feed_58 : decode cX9_feed 58 = .ok (.getfield 53, 3) := by decide +kernel
theorem dX9_feed_61 : decode cX9_feed 61 = .ok (.getfield 75, 3) := by decide +kernel
theorem dX9_feed_64 : decode cX9_feed 64 = .ok (.ireturn, 1) := by decide +kernel
theorem gf_X9_53 {ω : WD} {ρ : FR} {M : Mem} {cc : ByteArray} {d n pc : Nat} {lv : List (Nat × Value)} {rest : List Value} (C : Cx ω ρ cc RX9 d n) (hd : decode cc pc = .ok (.getfield 53, 3)) (k : G ω ρ M (pc + 3) lv (.ref (adr ω 51) :: rest)) : G ω ρ M pc lv (.ref (adr ω 0) :: rest) := G_get (N := 11) (T := TX9) (C := RX9) (q := 6) C (q0 : isK 9 0) (by decide) rfl in_X9 (by decide) (tb_of 378 ⟨by decide +kernel, rfl⟩) rfl rfl hd k
theorem gf_X9_75 {ω : WD} {ρ : FR} {M : Mem} {cc : ByteArray} {d n pc : Nat} {lv : List (Nat × Value)} {rest : List Value} (C : Cx ω ρ cc RX9 d n) (hd : decode cc pc = .ok (.getfield 75, 3)) (k : G ω ρ M (pc + 3) lv (.int (rd M 51 1) :: rest)) : G ω ρ M pc lv (.ref (adr ω 51) :: rest) := G_get (N := 6) (T := TX7) (C := RX7) (q := 1) C (q51 : isK 7 51) (by decide) rfl in_X7 (by decide) (tb_of 270 ⟨by decide +kernel, rfl⟩) rfl rfl hd k
theorem gf_X9_80 {ω : WD} {ρ : FR} {M : Mem} {cc : ByteArray} {d n pc : Nat} {lv : List (Nat × Value)} {rest : List Value} (C : Cx ω ρ cc RX9 d n) (hd : decode cc pc = .ok (.getfield 80, 3)) (k : G ω ρ M (pc + 3) lv (.ref (adr ω 52) :: rest)) : G ω ρ M pc lv (.ref (adr ω 51) :: rest) := G_get (N := 6) (T := TX7) (C := RX7) (q := 0) C (q51 : isK 7 51) (by decide) rfl in_X7 (by decide) (tb_of 268 ⟨by decide +kernel, rfl⟩) rfl rfl hd k
theorem pf_X9_75 {ω : WD} {ρ : FR} {M : Mem} {cc : ByteArray} {d n pc : Nat} {lv : List (Nat × Value)} {rest : List Value} {v : Int32} (C : Cx ω ρ cc RX9 d n) (hd : decode cc pc = .ok (.putfield 75, 3)) (k : ∀ M1, M1 = wr M 51 1 v → G ω ρ M1 (pc + 3) lv rest) : G ω ρ M pc lv (.int v :: .ref (adr ω 51) :: rest) := G_put (N := 6) (T := TX7) (C := RX7) (q := 1) (ty := .int) C (q51 : isK 7 51) (by decide) rfl in_X7 tyX7 tyX7_ok nmX7 (by decide) (tb_of 270 ⟨by decide +kernel, rfl⟩) rfl rfl (by decide +kernel) rfl rfl (fun _ _ => Nat.le_of_ble_eq_true rfl) (fun _ => rfl) hd (k _ rfl)
set_option maxRecDepth 100000 in
set_option maxHeartbeats 4000000 in
theorem S_X9_feed {ω : WD} {l1 : Int32} {M : Mem} {post : Int32 → Mem → Prop} (h : w_X9_feed l1 M post) : MtI ω yX9_feed cX9_feed 2 (some .int) 0 [.ref (adr ω 0), .int l1] M post := by
  refine MtI.start (ty := .int) rfl (by decide +kernel) (own := RX9) rfl (Nat.le_of_ble_eq_true rfl) (fun ρ C R => ?_)
  show G ω ρ M 0 [(0, .ref (adr ω 0)), (1, .int l1)] []
  refine G_iload_n C dX9_feed_0 1 rfl ?_
  obtain ⟨h1, h2⟩ := h
  refine G_if_lt (tgt := 10) C dX9_feed_1 (by decide) (fun c => ?_) (fun c => ?_)
  · have h := h1 c
    clear h1 h2
    refine G_iconst (v := (-1)) C dX9_feed_10 (by decide) ?_
    exact R 11 _ _ _ dX9_feed_11 rfl h
  · have h := h2 c
    clear h1 h2
    refine G_iload_n C dX9_feed_4 1 rfl ?_
    refine G_bipush (v := 127) C dX9_feed_5 (by decide) ?_
    obtain ⟨h1, h2⟩ := h
    refine G_icmp_le (tgt := 12) C dX9_feed_7 (by decide) (fun c => ?_) (fun c => ?_)
    · have h := h1 c
      clear h1 h2
      refine G_aload_n C dX9_feed_12 0 rfl ?_
      refine gf_X9_53 C dX9_feed_13 ?_
      refine gf_X9_75 C dX9_feed_16 ?_
      refine G_sipush (v := 160) C dX9_feed_19 (by decide) ?_
      obtain ⟨h1, h2⟩ := h
      refine G_icmp_lt (tgt := 28) C dX9_feed_22 (by decide) (fun c => ?_) (fun c => ?_)
      · have h := h1 c
        clear h1 h2
        refine G_aload_n C dX9_feed_28 0 rfl ?_
        refine gf_X9_53 C dX9_feed_29 ?_
        refine gf_X9_80 C dX9_feed_32 ?_
        refine G_aload_n C dX9_feed_35 0 rfl ?_
        refine gf_X9_53 C dX9_feed_36 ?_
        refine gf_X9_75 C dX9_feed_39 ?_
        refine G_iload_n C dX9_feed_42 1 rfl ?_
        obtain ⟨hi, h⟩ := h
        refine G_iast C q52 hi rfl dX9_feed_43 (G_mname (fun M1 eM1 => ?_))
        replace h := h M1 eM1
        refine G_aload_n C dX9_feed_44 0 rfl ?_
        refine gf_X9_53 C dX9_feed_45 ?_
        refine G_dup C dX9_feed_48 rfl ?_
        refine gf_X9_75 C dX9_feed_49 ?_
        refine G_iconst (v := 1) C dX9_feed_52 (by decide) ?_
        refine G_iadd C dX9_feed_53 ?_
        refine pf_X9_75 C dX9_feed_54 (fun M2 eM2 => ?_)
        replace h := h M2 eM2
        refine G_aload_n C dX9_feed_57 0 rfl ?_
        refine gf_X9_53 C dX9_feed_58 ?_
        refine gf_X9_75 C dX9_feed_61 ?_
        exact R 64 _ _ _ dX9_feed_64 rfl h
      · have h := h2 c
        clear h1 h2
        refine G_bipush (v := (-3)) C dX9_feed_25 (by decide) ?_
        exact R 27 _ _ _ dX9_feed_27 rfl h
    · have h := h2 c
      clear h1 h2
      refine G_iconst (v := (-1)) C dX9_feed_10 (by decide) ?_
      exact R 11 _ _ _ dX9_feed_11 rfl h
theorem dX9_end_0 : decode cX9_end 0 = .ok (.iload_n 1, 1) := by decide +kernel
theorem dX9_end_1 : decode cX9_end 1 = .ok (.ifCond .lt 14, 3) := by decide +kernel
theorem dX9_end_4 : decode cX9_end 4 = .ok (.iload_n 1, 1) := by decide +kernel
theorem dX9_end_5 : decode cX9_end 5 = .ok (.aload_n 0, 1) := by decide +kernel
theorem dX9_end_6 : decode cX9_end 6 = .ok (.getfield 53, 3) := by decide +kernel
theorem dX9_end_9 : decode cX9_end 9 = .ok (.getfield 75, 3) := by decide +kernel
theorem dX9_end_12 : decode cX9_end 12 = .ok (.if_icmp .le 5, 3) := by decide +kernel
theorem dX9_end_15 : decode cX9_end 15 = .ok (.iconst (-1), 1) := by decide +kernel
theorem dX9_end_16 : decode cX9_end 16 = .ok (.ireturn, 1) := by decide +kernel
theorem dX9_end_17 : decode cX9_end 17 = .ok (.aload_n 0, 1) := by decide +kernel
theorem dX9_end_18 : decode cX9_end 18 = .ok (.getfield 53, 3) := by decide +kernel
theorem dX9_end_21 : decode cX9_end 21 = .ok (.getfield 75, 3) := by decide +kernel
theorem dX9_end_24 : decode cX9_end 24 = .ok (.istore_n 2, 1) := by decide +kernel
theorem dX9_end_25 : decode cX9_end 25 = .ok (.aload_n 0, 1) := by decide +kernel
theorem dX9_end_26 : decode cX9_end 26 = .ok (.getfield 53, 3) := by decide +kernel
theorem dX9_end_29 : decode cX9_end 29 = .ok (.iload_n 1, 1) := by decide +kernel
theorem dX9_end_30 : decode cX9_end 30 = .ok (.putfield 75, 3) := by decide +kernel
theorem dX9_end_33 : decode cX9_end 33 = .ok (.iload_n 2, 1) := by decide +kernel
theorem dX9_end_34 : decode cX9_end 34 = .ok (.ireturn, 1) := by decide +kernel
set_option maxRecDepth 100000 in
set_option maxHeartbeats 4000000 in
theorem S_X9_end {ω : WD} {l1 : Int32} {M : Mem} {post : Int32 → Mem → Prop} (h : w_X9_end l1 M post) : MtI ω yX9_end cX9_end 3 (some .int) 0 [.ref (adr ω 0), .int l1] M post := by
  refine MtI.start (ty := .int) rfl (by decide +kernel) (own := RX9) rfl (Nat.le_of_ble_eq_true rfl) (fun ρ C R => ?_)
  show G ω ρ M 0 [(0, .ref (adr ω 0)), (1, .int l1)] []
  refine G_iload_n C dX9_end_0 1 rfl ?_
  obtain ⟨h1, h2⟩ := h
  refine G_if_lt (tgt := 15) C dX9_end_1 (by decide) (fun c => ?_) (fun c => ?_)
  · have h := h1 c
    clear h1 h2
    refine G_iconst (v := (-1)) C dX9_end_15 (by decide) ?_
    exact R 16 _ _ _ dX9_end_16 rfl h
  · have h := h2 c
    clear h1 h2
    refine G_iload_n C dX9_end_4 1 rfl ?_
    refine G_aload_n C dX9_end_5 0 rfl ?_
    refine gf_X9_53 C dX9_end_6 ?_
    refine gf_X9_75 C dX9_end_9 ?_
    obtain ⟨h1, h2⟩ := h
    refine G_icmp_le (tgt := 17) C dX9_end_12 (by decide) (fun c => ?_) (fun c => ?_)
    · have h := h1 c
      clear h1 h2
      refine G_aload_n C dX9_end_17 0 rfl ?_
      refine gf_X9_53 C dX9_end_18 ?_
      refine gf_X9_75 C dX9_end_21 ?_
      refine G_iname (fun v1 ev1 => ?_)
      replace h := h v1 ev1
      refine G_istore_n C dX9_end_24 (by decide) (lv' := [(2, .int v1), (0, .ref (adr ω 0)), (1, .int l1)]) rfl ?_
      refine G_aload_n C dX9_end_25 1 rfl ?_
      refine gf_X9_53 C dX9_end_26 ?_
      refine G_iload_n C dX9_end_29 2 rfl ?_
      refine pf_X9_75 C dX9_end_30 (fun M2 eM2 => ?_)
      replace h := h M2 eM2
      refine G_iload_n C dX9_end_33 0 rfl ?_
      exact R 34 _ _ _ dX9_end_34 rfl h
    · have h := h2 c
      clear h1 h2
      refine G_iconst (v := (-1)) C dX9_end_15 (by decide) ?_
      exact R 16 _ _ _ dX9_end_16 rfl h
theorem dX9_text_0 : decode cX9_text 0 = .ok (.aload_n 0, 1) := by decide +kernel
theorem dX9_text_1 : decode cX9_text 1 = .ok (.getfield 45, 3) := by decide +kernel
theorem dX9_text_4 : decode cX9_text 4 = .ok (.invokevirtual 84, 3) := by decide +kernel
theorem dX9_text_7 : decode cX9_text 7 = .ok (.istore_n 1, 1) := by decide +kernel
theorem dX9_text_8 : decode cX9_text 8 = .ok (.aload_n 0, 1) := by decide +kernel
theorem dX9_text_9 : decode cX9_text 9 = .ok (.getfield 53, 3) := by decide +kernel
theorem dX9_text_12 : decode cX9_text 12 = .ok (.iconst 0, 1) := by decide +kernel
theorem dX9_text_13 : decode cX9_text 13 = .ok (.putfield 75, 3) := by decide +kernel
theorem dX9_text_16 : decode cX9_text 16 = .ok (.aload_n 0, 1) := by decide +kernel
theorem dX9_text_17 : decode cX9_text 17 = .ok (.aload_n 0, 1) := by decide +kernel
theorem dX9_text_18 : decode cX9_text 18 = .ok (.getfield 45, 3) := by decide +kernel
theorem dX9_text_21 : decode cX9_text 21 = .ok (.getfield 88, 3) := by decide +kernel
theorem dX9_text_24 : decode cX9_text 24 = .ok (.putfield 66, 3) := by decide +kernel
theorem dX9_text_27 : decode cX9_text 27 = .ok (.iload_n 1, 1) := by decide +kernel
theorem dX9_text_28 : decode cX9_text 28 = .ok (.ifCond .ne 14, 3) := by decide +kernel
theorem dX9_text_31 : decode cX9_text 31 = .ok (.bipush (-10), 2) := by decide +kernel
theorem dX9_text_33 : decode cX9_text 33 = .ok (.aload_n 0, 1) := by decide +kernel
theorem dX9_text_34 : decode cX9_text 34 = .ok (.getfield 45, 3) := by decide +kernel
theorem dX9_text_37 : decode cX9_text 37 = .ok (.getfield 91, 3) := by decide +kernel
theorem dX9_text_40 : decode cX9_text 40 = .ok (.isub, 1) := by decide +kernel
theorem dX9_text_41 : decode cX9_text 41 = .ok (.ireturn, 1) := by decide +kernel
theorem dX9_text_42 : decode cX9_text 42 = .ok (.aload_n 0, 1) := by decide +kernel
theorem dX9_text_43 : decode cX9_text 43 = .ok (.getfield 10, 3) := by decide +kernel
theorem dX9_text_46 : decode cX9_text 46 = .ok (.aload_n 0, 1) := by decide +kernel
theorem dX9_text_47 : decode cX9_text 47 = .ok (.getfield 45, 3) := by decide +kernel
theorem dX9_text_50 : decode cX9_text 50 = .ok (.getfield 94, 3) := by decide +kernel
theorem dX9_text_53 : decode cX9_text 53 = .ok (.invokevirtual 97, 3) := by decide +kernel
theorem dX9_text_56 : decode cX9_text 56 = .ok (.aload_n 0, 1) := by decide +kernel
theorem dX9_text_57 : decode cX9_text 57 = .ok (.getfield 19, 3) := by decide +kernel
theorem dX9_text_60 : decode cX9_text 60 = .ok (.aload_n 0, 1) := by decide +kernel
theorem dX9_text_61 : decode cX9_text 61 = .ok (.getfield 45, 3) := by decide +kernel
theorem dX9_text_64 : decode cX9_text 64 = .ok (.getfield 101, 3) := by decide +kernel
theorem dX9_text_67 : decode cX9_text 67 = .ok (.invokevirtual 102, 3) := by decide +kernel
theorem dX9_text_70 : decode cX9_text 70 = .ok (.iconst 0, 1) := by decide +kernel
theorem dX9_text_71 : decode cX9_text 71 = .ok (.istore_n 2, 1) := by decide +kernel
theorem dX9_text_72 : decode cX9_text 72 = .ok (.iload_n 2, 1) := by decide +kernel
theorem dX9_text_73 : decode cX9_text 73 = .ok (.iconst 2, 1) := by decide +kernel
theorem dX9_text_74 : decode cX9_text 74 = .ok (.if_icmp .ge 19, 3) := by decide +kernel
theorem dX9_text_77 : decode cX9_text 77 = .ok (.aload_n 0, 1) := by decide +kernel
theorem dX9_text_78 : decode cX9_text 78 = .ok (.getfield 56, 3) := by decide +kernel
theorem dX9_text_81 : decode cX9_text 81 = .ok (.iload_n 2, 1) := by decide +kernel
theorem dX9_text_82 : decode cX9_text 82 = .ok (.aaload, 1) := by decide +kernel
theorem dX9_text_83 : decode cX9_text 83 = .ok (.iconst 0, 1) := by decide +kernel
theorem dX9_text_84 : decode cX9_text 84 = .ok (.putfield 105, 3) := by decide +kernel
theorem dX9_text_87 : decode cX9_text 87 = .ok (.iinc 2 1, 3) := by decide +kernel
theorem dX9_text_90 : decode cX9_text 90 = .ok (.goto (-18), 3) := by decide +kernel
theorem dX9_text_93 : decode cX9_text 93 = .ok (.aload_n 0, 1) := by decide +kernel
theorem dX9_text_94 : decode cX9_text 94 = .ok (.getfield 45, 3) := by decide +kernel
theorem dX9_text_97 : decode cX9_text 97 = .ok (.getfield 109, 3) := by decide +kernel
theorem dX9_text_100 : decode cX9_text 100 = .ok (.ireturn, 1) := by decide +kernel
theorem gf_X9_45 {ω : WD} {ρ : FR} {M : Mem} {cc : ByteArray} {d n pc : Nat} {lv : List (Nat × Value)} {rest : List Value} (C : Cx ω ρ cc RX9 d n) (hd : decode cc pc = .ok (.getfield 45, 3)) (k : G ω ρ M (pc + 3) lv (.ref (adr ω 50) :: rest)) : G ω ρ M pc lv (.ref (adr ω 0) :: rest) := G_get (N := 11) (T := TX9) (C := RX9) (q := 5) C (q0 : isK 9 0) (by decide) rfl in_X9 (by decide) (tb_of 377 ⟨by decide +kernel, rfl⟩) rfl rfl hd k
theorem gf_X9_109 {ω : WD} {ρ : FR} {M : Mem} {cc : ByteArray} {d n pc : Nat} {lv : List (Nat × Value)} {rest : List Value} (C : Cx ω ρ cc RX9 d n) (hd : decode cc pc = .ok (.getfield 109, 3)) (k : G ω ρ M (pc + 3) lv (.int (rd M 50 3) :: rest)) : G ω ρ M pc lv (.ref (adr ω 50) :: rest) := G_get (N := 9) (T := TX4) (C := RX4) (q := 3) C (q50 : isK 4 50) (by decide) rfl in_X4 (by decide) (tb_of 302 ⟨by decide +kernel, rfl⟩) rfl rfl hd k
theorem gf_X9_56 {ω : WD} {ρ : FR} {M : Mem} {cc : ByteArray} {d n pc : Nat} {lv : List (Nat × Value)} {rest : List Value} (C : Cx ω ρ cc RX9 d n) (hd : decode cc pc = .ok (.getfield 56, 3)) (k : G ω ρ M (pc + 3) lv (.ref (adr ω 74) :: rest)) : G ω ρ M pc lv (.ref (adr ω 0) :: rest) := G_get (N := 11) (T := TX9) (C := RX9) (q := 7) C (q0 : isK 9 0) (by decide) rfl in_X9 (by decide) (tb_of 379 ⟨by decide +kernel, rfl⟩) rfl rfl hd k
theorem pf_X9_105 {ω : WD} {ρ : FR} {M : Mem} {cc : ByteArray} {d n pc i : Nat} {lv : List (Nat × Value)} {rest : List Value} {v : Int32} (C : Cx ω ρ cc RX9 d n) (hk : isK 3 i) (hz : zb v) (hd : decode cc pc = .ok (.putfield 105, 3)) (k : ∀ M1, M1 = wr M i 0 v → G ω ρ M1 (pc + 3) lv rest) : G ω ρ M pc lv (.int v :: .ref (adr ω i) :: rest) := G_put (N := 3) (T := TX3) (C := RX3) (q := 0) (ty := .boolean) C hk (by decide) rfl in_X3 tyX3 tyX3_ok nmX3 (by decide) (tb_of 343 ⟨by decide +kernel, rfl⟩) rfl rfl (by decide +kernel) hz.1 hz.2 (fun _ _ => Nat.le_of_ble_eq_true rfl) (fun _ => rfl) hd (k _ rfl)
theorem lk_X9_84 : LkV RX9 84 RX4 yX4_readAll cX4_readAll 2 (some .boolean) 0 := LkV.of 418 419 420 67 421 (by decide +kernel) (by decide +kernel) (by decide +kernel) (by decide +kernel) (by decide +kernel) (by decide +kernel)
theorem gf_X9_88 {ω : WD} {ρ : FR} {M : Mem} {cc : ByteArray} {d n pc : Nat} {lv : List (Nat × Value)} {rest : List Value} (C : Cx ω ρ cc RX9 d n) (hd : decode cc pc = .ok (.getfield 88, 3)) (k : G ω ρ M (pc + 3) lv (.int (rd M 50 4) :: rest)) : G ω ρ M pc lv (.ref (adr ω 50) :: rest) := G_get (N := 9) (T := TX4) (C := RX4) (q := 4) C (q50 : isK 4 50) (by decide) rfl in_X4 (by decide) (tb_of 304 ⟨by decide +kernel, rfl⟩) rfl rfl hd k
theorem pf_X9_66 {ω : WD} {ρ : FR} {M : Mem} {cc : ByteArray} {d n pc : Nat} {lv : List (Nat × Value)} {rest : List Value} {v : Int32} (C : Cx ω ρ cc RX9 d n) (hd : decode cc pc = .ok (.putfield 66, 3)) (k : ∀ M1, M1 = wr M 0 9 v → G ω ρ M1 (pc + 3) lv rest) : G ω ρ M pc lv (.int v :: .ref (adr ω 0) :: rest) := G_put (N := 11) (T := TX9) (C := RX9) (q := 9) (ty := .int) C (q0 : isK 9 0) (by decide) rfl in_X9 tyX9 tyX9_ok nmX9 (by decide) (tb_of 381 ⟨by decide +kernel, rfl⟩) rfl rfl (by decide +kernel) rfl rfl (fun _ _ => Nat.le_of_ble_eq_true rfl) (fun _ => rfl) hd (k _ rfl)
theorem gf_X9_10 {ω : WD} {ρ : FR} {M : Mem} {cc : ByteArray} {d n pc : Nat} {lv : List (Nat × Value)} {rest : List Value} (C : Cx ω ρ cc RX9 d n) (hd : decode cc pc = .ok (.getfield 10, 3)) (k : G ω ρ M (pc + 3) lv (.ref (adr ω 1) :: rest)) : G ω ρ M pc lv (.ref (adr ω 0) :: rest) := G_get (N := 11) (T := TX9) (C := RX9) (q := 0) C (q0 : isK 9 0) (by decide) rfl in_X9 (by decide) (tb_of 372 ⟨by decide +kernel, rfl⟩) rfl rfl hd k
theorem gf_X9_94 {ω : WD} {ρ : FR} {M : Mem} {cc : ByteArray} {d n pc : Nat} {lv : List (Nat × Value)} {rest : List Value} (C : Cx ω ρ cc RX9 d n) (hd : decode cc pc = .ok (.getfield 94, 3)) (k : G ω ρ M (pc + 3) lv (.ref (adr ω 53) :: rest)) : G ω ρ M pc lv (.ref (adr ω 50) :: rest) := G_get (N := 9) (T := TX4) (C := RX4) (q := 1) C (q50 : isK 4 50) (by decide) rfl in_X4 (by decide) (tb_of 298 ⟨by decide +kernel, rfl⟩) rfl rfl hd k
theorem lk_X9_97 : LkV RX9 97 RX1 yX1_copyFrom cX1_copyFrom 3 none 1 := LkV.of 584 585 586 62 587 (by decide +kernel) (by decide +kernel) (by decide +kernel) (by decide +kernel) (by decide +kernel) (by decide +kernel)
theorem gf_X9_19 {ω : WD} {ρ : FR} {M : Mem} {cc : ByteArray} {d n pc : Nat} {lv : List (Nat × Value)} {rest : List Value} (C : Cx ω ρ cc RX9 d n) (hd : decode cc pc = .ok (.getfield 19, 3)) (k : G ω ρ M (pc + 3) lv (.ref (adr ω 17) :: rest)) : G ω ρ M pc lv (.ref (adr ω 0) :: rest) := G_get (N := 11) (T := TX9) (C := RX9) (q := 1) C (q0 : isK 9 0) (by decide) rfl in_X9 (by decide) (tb_of 373 ⟨by decide +kernel, rfl⟩) rfl rfl hd k
theorem gf_X9_101 {ω : WD} {ρ : FR} {M : Mem} {cc : ByteArray} {d n pc : Nat} {lv : List (Nat × Value)} {rest : List Value} (C : Cx ω ρ cc RX9 d n) (hd : decode cc pc = .ok (.getfield 101, 3)) (k : G ω ρ M (pc + 3) lv (.ref (adr ω 69) :: rest)) : G ω ρ M pc lv (.ref (adr ω 50) :: rest) := G_get (N := 9) (T := TX4) (C := RX4) (q := 2) C (q50 : isK 4 50) (by decide) rfl in_X4 (by decide) (tb_of 300 ⟨by decide +kernel, rfl⟩) rfl rfl hd k
theorem lk_X9_102 : LkV RX9 102 RX5 yX5_copyFrom cX5_copyFrom 3 none 1 := LkV.of 592 593 594 64 595 (by decide +kernel) (by decide +kernel) (by decide +kernel) (by decide +kernel) (by decide +kernel) (by decide +kernel)
theorem gf_X9_91 {ω : WD} {ρ : FR} {M : Mem} {cc : ByteArray} {d n pc : Nat} {lv : List (Nat × Value)} {rest : List Value} (C : Cx ω ρ cc RX9 d n) (hd : decode cc pc = .ok (.getfield 91, 3)) (k : G ω ρ M (pc + 3) lv (.int (rd M 50 5) :: rest)) : G ω ρ M pc lv (.ref (adr ω 50) :: rest) := G_get (N := 9) (T := TX4) (C := RX4) (q := 5) C (q50 : isK 4 50) (by decide) rfl in_X4 (by decide) (tb_of 306 ⟨by decide +kernel, rfl⟩) rfl rfl hd k
set_option maxRecDepth 100000 in
set_option maxHeartbeats 4000000 in
theorem s_X9_text_L72 {ω : WD} {ρ : FR} {post : Int32 → Mem → Prop} (C : Cx ω ρ cX9_text RX9 7 3) (R : RtI ω ρ cX9_text .int post) : ∀ (f : Nat) (l2 : Int32) (M : Mem), w_X9_text_L72 post f l2 M → G ω ρ M 72 [(0, .ref (adr ω 0)), (2, .int l2)] [] := by
  intro f
  induction f with
  | zero => intro l2 M h; exact False.elim h
  | succ f k72 =>
    intro l2 M h
    refine G_iload_n C dX9_text_72 1 rfl ?_
    refine G_iconst (v := 2) C dX9_text_73 (by decide) ?_
    obtain ⟨h1, h2⟩ := h
    refine G_icmp_ge (tgt := 93) C dX9_text_74 (by decide) (fun c => ?_) (fun c => ?_)
    · have h := h1 c
      clear h1 h2
      refine G_aload_n C dX9_text_93 0 rfl ?_
      refine gf_X9_45 C dX9_text_94 ?_
      refine gf_X9_109 C dX9_text_97 ?_
      exact R 100 _ _ _ dX9_text_100 rfl h
    · have h := h2 c
      clear h1 h2
      refine G_aload_n C dX9_text_77 0 rfl ?_
      refine gf_X9_56 C dX9_text_78 ?_
      refine G_iload_n C dX9_text_81 1 rfl ?_
      obtain ⟨hi, h⟩ := h
      refine G_aldImage C q74 hi dX9_text_82 (G_rname (fun g1 eg1 => ?_))
      replace h := h g1 eg1
      have hg1 := el_14 q74 hi eg1
      refine G_iconst (v := 0) C dX9_text_83 (by decide) ?_
      refine pf_X9_105 C hg1 zb_0 dX9_text_84 (fun M2 eM2 => ?_)
      replace h := h M2 eM2
      obtain ⟨v3, ev3⟩ : ∃ y : Int32, y = (l2 + 1) := ⟨_, rfl⟩
      replace h := h v3 ev3
      refine G_iinc C dX9_text_87 1 rfl (v := v3) (by rw [ev3]; rfl) (by decide) (lv' := [(2, .int v3), (0, .ref (adr ω 0))]) rfl ?_
      refine G_goto (tgt := 72) C dX9_text_90 (by decide) ?_
      refine G_sub [1, 0] (lv' := [(0, .ref (adr ω 0)), (2, .int v3)]) rfl ?_
      exact k72 _ _ h
set_option maxRecDepth 100000 in
set_option maxHeartbeats 4000000 in
theorem S_X9_text {ω : WD} {M : Mem} {post : Int32 → Mem → Prop} (h : w_X9_text M post) : MtI ω yX9_text cX9_text 3 (some .int) 7 [.ref (adr ω 0)] M post := by
  refine MtI.start (ty := .int) rfl (by decide +kernel) (own := RX9) rfl (Nat.le_of_ble_eq_true rfl) (fun ρ C R => ?_)
  show G ω ρ M 0 [(0, .ref (adr ω 0))] []
  refine G_aload_n C dX9_text_0 0 rfl ?_
  refine gf_X9_45 C dX9_text_1 ?_
  refine G_callI (As := []) (rest := []) C dX9_text_4 lk_X9_84 (Nat.le_of_ble_eq_true rfl) (Nat.le_of_ble_eq_true rfl) q50 (by decide) rfl (Nat.le_of_ble_eq_true rfl) rfl (S_X4_readAll h) (fun r5 M4 h => ?_)
  refine G_istore_n C dX9_text_7 (by decide) (lv' := [(1, .int r5), (0, .ref (adr ω 0))]) rfl ?_
  refine G_aload_n C dX9_text_8 1 rfl ?_
  refine gf_X9_53 C dX9_text_9 ?_
  refine G_iconst (v := 0) C dX9_text_12 (by decide) ?_
  refine pf_X9_75 C dX9_text_13 (fun M6 eM6 => ?_)
  replace h := h M6 eM6
  refine G_aload_n C dX9_text_16 1 rfl ?_
  refine G_aload_n C dX9_text_17 1 rfl ?_
  refine gf_X9_45 C dX9_text_18 ?_
  refine gf_X9_88 C dX9_text_21 ?_
  refine pf_X9_66 C dX9_text_24 (fun M7 eM7 => ?_)
  replace h := h M7 eM7
  refine G_iload_n C dX9_text_27 0 rfl ?_
  obtain ⟨h1, h2⟩ := h
  refine G_if_ne (tgt := 42) C dX9_text_28 (by decide) (fun c => ?_) (fun c => ?_)
  · have h := h1 c
    clear h1 h2
    refine G_aload_n C dX9_text_42 1 rfl ?_
    refine gf_X9_10 C dX9_text_43 ?_
    refine G_aload_n C dX9_text_46 1 rfl ?_
    refine gf_X9_45 C dX9_text_47 ?_
    refine gf_X9_94 C dX9_text_50 ?_
    refine G_callV (As := [.ref (adr ω 53)]) (rest := []) C dX9_text_53 lk_X9_97 (Nat.le_of_ble_eq_true rfl) (Nat.le_of_ble_eq_true rfl) q1 (by decide) rfl (Nat.le_of_ble_eq_true rfl) rfl (S_X1_copyFrom q1 q53 h) (fun M8 h => ?_)
    refine G_aload_n C dX9_text_56 1 rfl ?_
    refine gf_X9_19 C dX9_text_57 ?_
    refine G_aload_n C dX9_text_60 1 rfl ?_
    refine gf_X9_45 C dX9_text_61 ?_
    refine gf_X9_101 C dX9_text_64 ?_
    refine G_callV (As := [.ref (adr ω 69)]) (rest := []) C dX9_text_67 lk_X9_102 (Nat.le_of_ble_eq_true rfl) (Nat.le_of_ble_eq_true rfl) q17 (by decide) rfl (Nat.le_of_ble_eq_true rfl) rfl (S_X5_copyFrom q17 q69 h) (fun M9 h => ?_)
    refine G_iconst (v := 0) C dX9_text_70 (by decide) ?_
    refine G_istore_n C dX9_text_71 (by decide) (lv' := [(2, .int 0), (1, .int r5), (0, .ref (adr ω 0))]) rfl ?_
    refine G_sub [2, 0] (lv' := [(0, .ref (adr ω 0)), (2, .int 0)]) rfl ?_
    obtain ⟨f, h⟩ := h
    exact s_X9_text_L72 C R  f _ _ h
  · have h := h2 c
    clear h1 h2
    refine G_bipush (v := (-10)) C dX9_text_31 (by decide) ?_
    refine G_aload_n C dX9_text_33 1 rfl ?_
    refine gf_X9_45 C dX9_text_34 ?_
    refine gf_X9_91 C dX9_text_37 ?_
    refine G_isub C dX9_text_40 ?_
    exact R 41 _ _ _ dX9_text_41 rfl h
theorem dX9_fault_0 : decode cX9_fault 0 = .ok (.aload_n 0, 1) := by decide +kernel
theorem dX9_fault_1 : decode cX9_fault 1 = .ok (.getfield 66, 3) := by decide +kernel
theorem dX9_fault_4 : decode cX9_fault 4 = .ok (.ireturn, 1) := by decide +kernel
theorem gf_X9_66 {ω : WD} {ρ : FR} {M : Mem} {cc : ByteArray} {d n pc : Nat} {lv : List (Nat × Value)} {rest : List Value} (C : Cx ω ρ cc RX9 d n) (hd : decode cc pc = .ok (.getfield 66, 3)) (k : G ω ρ M (pc + 3) lv (.int (rd M 0 9) :: rest)) : G ω ρ M pc lv (.ref (adr ω 0) :: rest) := G_get (N := 11) (T := TX9) (C := RX9) (q := 9) C (q0 : isK 9 0) (by decide) rfl in_X9 (by decide) (tb_of 381 ⟨by decide +kernel, rfl⟩) rfl rfl hd k
set_option maxRecDepth 100000 in
set_option maxHeartbeats 4000000 in
theorem S_X9_fault {ω : WD} {M : Mem} {post : Int32 → Mem → Prop} (h : w_X9_fault M post) : MtI ω yX9_fault cX9_fault 1 (some .int) 0 [.ref (adr ω 0)] M post := by
  refine MtI.start (ty := .int) rfl (by decide +kernel) (own := RX9) rfl (Nat.le_of_ble_eq_true rfl) (fun ρ C R => ?_)
  show G ω ρ M 0 [(0, .ref (adr ω 0))] []
  refine G_aload_n C dX9_fault_0 0 rfl ?_
  refine gf_X9_66 C dX9_fault_1 ?_
  exact R 4 _ _ _ dX9_fault_4 rfl h
theorem dX9_rule_0 : decode cX9_rule 0 = .ok (.iload_n 1, 1) := by decide +kernel
theorem dX9_rule_1 : decode cX9_rule 1 = .ok (.tableswitch 87 0 5 #[39, 47, 55, 63, 71, 79], 39) := by decide +kernel
theorem dX9_rule_40 : decode cX9_rule 40 = .ok (.aload_n 0, 1) := by decide +kernel
theorem dX9_rule_41 : decode cX9_rule 41 = .ok (.getfield 10, 3) := by decide +kernel
theorem dX9_rule_44 : decode cX9_rule 44 = .ok (.getfield 112, 3) := by decide +kernel
theorem dX9_rule_47 : decode cX9_rule 47 = .ok (.ireturn, 1) := by decide +kernel
theorem dX9_rule_48 : decode cX9_rule 48 = .ok (.aload_n 0, 1) := by decide +kernel
theorem dX9_rule_49 : decode cX9_rule 49 = .ok (.getfield 10, 3) := by decide +kernel
theorem dX9_rule_52 : decode cX9_rule 52 = .ok (.getfield 115, 3) := by decide +kernel
theorem dX9_rule_55 : decode cX9_rule 55 = .ok (.ireturn, 1) := by decide +kernel
theorem dX9_rule_56 : decode cX9_rule 56 = .ok (.aload_n 0, 1) := by decide +kernel
theorem dX9_rule_57 : decode cX9_rule 57 = .ok (.getfield 10, 3) := by decide +kernel
theorem dX9_rule_60 : decode cX9_rule 60 = .ok (.getfield 118, 3) := by decide +kernel
theorem dX9_rule_63 : decode cX9_rule 63 = .ok (.ireturn, 1) := by decide +kernel
theorem dX9_rule_64 : decode cX9_rule 64 = .ok (.aload_n 0, 1) := by decide +kernel
theorem dX9_rule_65 : decode cX9_rule 65 = .ok (.getfield 19, 3) := by decide +kernel
theorem dX9_rule_68 : decode cX9_rule 68 = .ok (.getfield 121, 3) := by decide +kernel
theorem dX9_rule_71 : decode cX9_rule 71 = .ok (.ireturn, 1) := by decide +kernel
theorem dX9_rule_72 : decode cX9_rule 72 = .ok (.aload_n 0, 1) := by decide +kernel
theorem dX9_rule_73 : decode cX9_rule 73 = .ok (.getfield 10, 3) := by decide +kernel
theorem dX9_rule_76 : decode cX9_rule 76 = .ok (.invokevirtual 124, 3) := by decide +kernel
theorem dX9_rule_79 : decode cX9_rule 79 = .ok (.ireturn, 1) := by decide +kernel
theorem dX9_rule_80 : decode cX9_rule 80 = .ok (.aload_n 0, 1) := by decide +kernel
theorem dX9_rule_81 : decode cX9_rule 81 = .ok (.getfield 10, 3) := by decide +kernel
theorem dX9_rule_84 : decode cX9_rule 84 = .ok (.invokevirtual 128, 3) := by decide +kernel
theorem dX9_rule_87 : decode cX9_rule 87 = .ok (.ireturn, 1) := by decide +kernel
theorem dX9_rule_88 : decode cX9_rule 88 = .ok (.iconst (-1), 1) := by decide +kernel
theorem dX9_rule_89 : decode cX9_rule 89 = .ok (.ireturn, 1) := by decide +kernel
theorem gf_X9_112 {ω : WD} {ρ : FR} {M : Mem} {cc : ByteArray} {d n pc i : Nat} {lv : List (Nat × Value)} {rest : List Value} (C : Cx ω ρ cc RX9 d n) (hk : isK 1 i) (hd : decode cc pc = .ok (.getfield 112, 3)) (k : G ω ρ M (pc + 3) lv (.int (rd M i 0) :: rest)) : G ω ρ M pc lv (.ref (adr ω i) :: rest) := G_get (N := 8) (T := TX1) (C := RX1) (q := 0) C hk (by decide) rfl in_X1 (by decide) (tb_of 132 ⟨by decide +kernel, rfl⟩) rfl rfl hd k
theorem gf_X9_115 {ω : WD} {ρ : FR} {M : Mem} {cc : ByteArray} {d n pc i : Nat} {lv : List (Nat × Value)} {rest : List Value} (C : Cx ω ρ cc RX9 d n) (hk : isK 1 i) (hd : decode cc pc = .ok (.getfield 115, 3)) (k : G ω ρ M (pc + 3) lv (.int (rd M i 1) :: rest)) : G ω ρ M pc lv (.ref (adr ω i) :: rest) := G_get (N := 8) (T := TX1) (C := RX1) (q := 1) C hk (by decide) rfl in_X1 (by decide) (tb_of 135 ⟨by decide +kernel, rfl⟩) rfl rfl hd k
theorem gf_X9_118 {ω : WD} {ρ : FR} {M : Mem} {cc : ByteArray} {d n pc i : Nat} {lv : List (Nat × Value)} {rest : List Value} (C : Cx ω ρ cc RX9 d n) (hk : isK 1 i) (hd : decode cc pc = .ok (.getfield 118, 3)) (k : G ω ρ M (pc + 3) lv (.int (rd M i 2) :: rest)) : G ω ρ M pc lv (.ref (adr ω i) :: rest) := G_get (N := 8) (T := TX1) (C := RX1) (q := 2) C hk (by decide) rfl in_X1 (by decide) (tb_of 138 ⟨by decide +kernel, rfl⟩) rfl rfl hd k
theorem gf_X9_121 {ω : WD} {ρ : FR} {M : Mem} {cc : ByteArray} {d n pc i : Nat} {lv : List (Nat × Value)} {rest : List Value} (C : Cx ω ρ cc RX9 d n) (hk : isK 5 i) (hd : decode cc pc = .ok (.getfield 121, 3)) (k : G ω ρ M (pc + 3) lv (.int (rd M i 0) :: rest)) : G ω ρ M pc lv (.ref (adr ω i) :: rest) := G_get (N := 6) (T := TX5) (C := RX5) (q := 0) C hk (by decide) rfl in_X5 (by decide) (tb_of 176 ⟨by decide +kernel, rfl⟩) rfl rfl hd k
theorem lk_X9_124 : LkV RX9 124 RX1 yX1_allUses cX1_allUses 4 (some .int) 0 := LkV.of 605 606 607 62 608 (by decide +kernel) (by decide +kernel) (by decide +kernel) (by decide +kernel) (by decide +kernel) (by decide +kernel)
theorem lk_X9_128 : LkV RX9 128 RX1 yX1_inCalls cX1_inCalls 3 (some .int) 0 := LkV.of 609 610 611 62 612 (by decide +kernel) (by decide +kernel) (by decide +kernel) (by decide +kernel) (by decide +kernel) (by decide +kernel)
set_option maxRecDepth 100000 in
set_option maxHeartbeats 4000000 in
theorem S_X9_rule {ω : WD} {l1 : Int32} {M : Mem} {post : Int32 → Mem → Prop} (h : w_X9_rule l1 M post) : MtI ω yX9_rule cX9_rule 2 (some .int) 1 [.ref (adr ω 0), .int l1] M post := by
  refine MtI.start (ty := .int) rfl (by decide +kernel) (own := RX9) rfl (Nat.le_of_ble_eq_true rfl) (fun ρ C R => ?_)
  show G ω ρ M 0 [(0, .ref (adr ω 0)), (1, .int l1)] []
  refine G_iload_n C dX9_rule_0 1 rfl ?_
  obtain ⟨h0, h1, h2, h3, h4, h5, h6⟩ := h
  by_cases cd : (l1).toInt < 0 ∨ 5 < (l1).toInt
  · have h := h6 cd
    clear h0 h1 h2 h3 h4 h5 h6
    refine G_tableOut (tgt := 88) C dX9_rule_1 cd (by decide) ?_
    refine G_iconst (v := (-1)) C dX9_rule_88 (by decide) ?_
    exact R 89 _ _ _ dX9_rule_89 rfl h
  · have cs : (l1).toInt = 0 ∨ (l1).toInt = 1 ∨ (l1).toInt = 2 ∨ (l1).toInt = 3 ∨ (l1).toInt = 4 ∨ (l1).toInt = 5 := by omega
    rcases cs with cs | cs | cs | cs | cs | cs
    · have h := h0 ((sw_toInt cs).trans (by decide))
      clear h0 h1 h2 h3 h4 h5 h6
      refine G_tableIn (tgt := 40) C dX9_rule_1 (by omega) (by omega) (by rw [cs]; rfl) (by decide) ?_
      refine G_aload_n C dX9_rule_40 0 rfl ?_
      refine gf_X9_10 C dX9_rule_41 ?_
      refine gf_X9_112 C q1 dX9_rule_44 ?_
      exact R 47 _ _ _ dX9_rule_47 rfl h
    · have h := h1 ((sw_toInt cs).trans (by decide))
      clear h0 h1 h2 h3 h4 h5 h6
      refine G_tableIn (tgt := 48) C dX9_rule_1 (by omega) (by omega) (by rw [cs]; rfl) (by decide) ?_
      refine G_aload_n C dX9_rule_48 0 rfl ?_
      refine gf_X9_10 C dX9_rule_49 ?_
      refine gf_X9_115 C q1 dX9_rule_52 ?_
      exact R 55 _ _ _ dX9_rule_55 rfl h
    · have h := h2 ((sw_toInt cs).trans (by decide))
      clear h0 h1 h2 h3 h4 h5 h6
      refine G_tableIn (tgt := 56) C dX9_rule_1 (by omega) (by omega) (by rw [cs]; rfl) (by decide) ?_
      refine G_aload_n C dX9_rule_56 0 rfl ?_
      refine gf_X9_10 C dX9_rule_57 ?_
      refine gf_X9_118 C q1 dX9_rule_60 ?_
      exact R 63 _ _ _ dX9_rule_63 rfl h
    · have h := h3 ((sw_toInt cs).trans (by decide))
      clear h0 h1 h2 h3 h4 h5 h6
      refine G_tableIn (tgt := 64) C dX9_rule_1 (by omega) (by omega) (by rw [cs]; rfl) (by decide) ?_
      refine G_aload_n C dX9_rule_64 0 rfl ?_
      refine gf_X9_19 C dX9_rule_65 ?_
      refine gf_X9_121 C q17 dX9_rule_68 ?_
      exact R 71 _ _ _ dX9_rule_71 rfl h
    · have h := h4 ((sw_toInt cs).trans (by decide))
      clear h0 h1 h2 h3 h4 h5 h6
      refine G_tableIn (tgt := 72) C dX9_rule_1 (by omega) (by omega) (by rw [cs]; rfl) (by decide) ?_
      refine G_aload_n C dX9_rule_72 0 rfl ?_
      refine gf_X9_10 C dX9_rule_73 ?_
      refine G_callI (As := []) (rest := []) C dX9_rule_76 lk_X9_124 (Nat.le_of_ble_eq_true rfl) (Nat.le_of_ble_eq_true rfl) q1 (by decide) rfl (Nat.le_of_ble_eq_true rfl) rfl (S_X1_allUses q1 h) (fun r2 M1 h => ?_)
      exact R 79 _ _ _ dX9_rule_79 rfl h
    · have h := h5 ((sw_toInt cs).trans (by decide))
      clear h0 h1 h2 h3 h4 h5 h6
      refine G_tableIn (tgt := 80) C dX9_rule_1 (by omega) (by omega) (by rw [cs]; rfl) (by decide) ?_
      refine G_aload_n C dX9_rule_80 0 rfl ?_
      refine gf_X9_10 C dX9_rule_81 ?_
      refine G_callI (As := []) (rest := []) C dX9_rule_84 lk_X9_128 (Nat.le_of_ble_eq_true rfl) (Nat.le_of_ble_eq_true rfl) q1 (by decide) rfl (Nat.le_of_ble_eq_true rfl) rfl (S_X1_inCalls q1 h) (fun r4 M3 h => ?_)
      exact R 87 _ _ _ dX9_rule_87 rfl h
theorem dX9_one_0 : decode cX9_one 0 = .ok (.aload_n 0, 1) := by decide +kernel
theorem dX9_one_1 : decode cX9_one 1 = .ok (.getfield 10, 3) := by decide +kernel
theorem dX9_one_4 : decode cX9_one 4 = .ok (.iload_n 1, 1) := by decide +kernel
theorem dX9_one_5 : decode cX9_one 5 = .ok (.invokevirtual 131, 3) := by decide +kernel
theorem dX9_one_8 : decode cX9_one 8 = .ok (.ifCond .ne 5, 3) := by decide +kernel
theorem dX9_one_11 : decode cX9_one 11 = .ok (.iconst (-1), 1) := by decide +kernel
theorem dX9_one_12 : decode cX9_one 12 = .ok (.ireturn, 1) := by decide +kernel
theorem dX9_one_13 : decode cX9_one 13 = .ok (.iload_n 2, 1) := by decide +kernel
theorem dX9_one_14 : decode cX9_one 14 = .ok (.tableswitch 70 0 3 #[30, 40, 50, 60], 30) := by decide +kernel
theorem dX9_one_44 : decode cX9_one 44 = .ok (.aload_n 0, 1) := by decide +kernel
theorem dX9_one_45 : decode cX9_one 45 = .ok (.getfield 10, 3) := by decide +kernel
theorem dX9_one_48 : decode cX9_one 48 = .ok (.getfield 135, 3) := by decide +kernel
theorem dX9_one_51 : decode cX9_one 51 = .ok (.iload_n 1, 1) := by decide +kernel
theorem dX9_one_52 : decode cX9_one 52 = .ok (.iaload, 1) := by decide +kernel
theorem dX9_one_53 : decode cX9_one 53 = .ok (.ireturn, 1) := by decide +kernel
theorem dX9_one_54 : decode cX9_one 54 = .ok (.aload_n 0, 1) := by decide +kernel
theorem dX9_one_55 : decode cX9_one 55 = .ok (.getfield 10, 3) := by decide +kernel
theorem dX9_one_58 : decode cX9_one 58 = .ok (.getfield 138, 3) := by decide +kernel
theorem dX9_one_61 : decode cX9_one 61 = .ok (.iload_n 1, 1) := by decide +kernel
theorem dX9_one_62 : decode cX9_one 62 = .ok (.iaload, 1) := by decide +kernel
theorem dX9_one_63 : decode cX9_one 63 = .ok (.ireturn, 1) := by decide +kernel
theorem dX9_one_64 : decode cX9_one 64 = .ok (.aload_n 0, 1) := by decide +kernel
theorem dX9_one_65 : decode cX9_one 65 = .ok (.getfield 10, 3) := by decide +kernel
theorem dX9_one_68 : decode cX9_one 68 = .ok (.getfield 141, 3) := by decide +kernel
theorem dX9_one_71 : decode cX9_one 71 = .ok (.iload_n 1, 1) := by decide +kernel
theorem dX9_one_72 : decode cX9_one 72 = .ok (.iaload, 1) := by decide +kernel
theorem dX9_one_73 : decode cX9_one 73 = .ok (.ireturn, 1) := by decide +kernel
theorem dX9_one_74 : decode cX9_one 74 = .ok (.aload_n 0, 1) := by decide +kernel
theorem dX9_one_75 : decode cX9_one 75 = .ok (.getfield 10, 3) := by decide +kernel
theorem dX9_one_78 : decode cX9_one 78 = .ok (.getfield 144, 3) := by decide +kernel
theorem dX9_one_81 : decode cX9_one 81 = .ok (.iload_n 1, 1) := by decide +kernel
theorem dX9_one_82 : decode cX9_one 82 = .ok (.iaload, 1) := by decide +kernel
theorem dX9_one_83 : decode cX9_one 83 = .ok (.ireturn, 1) := by decide +kernel
theorem dX9_one_84 : decode cX9_one 84 = .ok (.iconst (-1), 1) := by decide +kernel
theorem dX9_one_85 : decode cX9_one 85 = .ok (.ireturn, 1) := by decide +kernel
theorem lk_X9_131 : LkV RX9 131 RX1 yX1_has cX1_has 2 (some .boolean) 1 := LkV.of 617 459 460 62 461 (by decide +kernel) (by decide +kernel) (by decide +kernel) (by decide +kernel) (by decide +kernel) (by decide +kernel)
theorem gf_X9_135 {ω : WD} {ρ : FR} {M : Mem} {cc : ByteArray} {d n pc i : Nat} {lv : List (Nat × Value)} {rest : List Value} (C : Cx ω ρ cc RX9 d n) (hk : isK 1 i) (hd : decode cc pc = .ok (.getfield 135, 3)) (k : G ω ρ M (pc + 3) lv (.ref (adr ω (i + 1)) :: rest)) : G ω ρ M pc lv (.ref (adr ω i) :: rest) := G_get (N := 8) (T := TX1) (C := RX1) (q := 3) C hk (by decide) rfl in_X1 (by decide) (tb_of 140 ⟨by decide +kernel, rfl⟩) rfl rfl hd k
theorem gf_X9_138 {ω : WD} {ρ : FR} {M : Mem} {cc : ByteArray} {d n pc i : Nat} {lv : List (Nat × Value)} {rest : List Value} (C : Cx ω ρ cc RX9 d n) (hk : isK 1 i) (hd : decode cc pc = .ok (.getfield 138, 3)) (k : G ω ρ M (pc + 3) lv (.ref (adr ω (i + 2)) :: rest)) : G ω ρ M pc lv (.ref (adr ω i) :: rest) := G_get (N := 8) (T := TX1) (C := RX1) (q := 4) C hk (by decide) rfl in_X1 (by decide) (tb_of 142 ⟨by decide +kernel, rfl⟩) rfl rfl hd k
theorem gf_X9_141 {ω : WD} {ρ : FR} {M : Mem} {cc : ByteArray} {d n pc i : Nat} {lv : List (Nat × Value)} {rest : List Value} (C : Cx ω ρ cc RX9 d n) (hk : isK 1 i) (hd : decode cc pc = .ok (.getfield 141, 3)) (k : G ω ρ M (pc + 3) lv (.ref (adr ω (i + 3)) :: rest)) : G ω ρ M pc lv (.ref (adr ω i) :: rest) := G_get (N := 8) (T := TX1) (C := RX1) (q := 5) C hk (by decide) rfl in_X1 (by decide) (tb_of 145 ⟨by decide +kernel, rfl⟩) rfl rfl hd k
theorem gf_X9_144 {ω : WD} {ρ : FR} {M : Mem} {cc : ByteArray} {d n pc i : Nat} {lv : List (Nat × Value)} {rest : List Value} (C : Cx ω ρ cc RX9 d n) (hk : isK 1 i) (hd : decode cc pc = .ok (.getfield 144, 3)) (k : G ω ρ M (pc + 3) lv (.ref (adr ω (i + 4)) :: rest)) : G ω ρ M pc lv (.ref (adr ω i) :: rest) := G_get (N := 8) (T := TX1) (C := RX1) (q := 6) C hk (by decide) rfl in_X1 (by decide) (tb_of 147 ⟨by decide +kernel, rfl⟩) rfl rfl hd k
set_option maxRecDepth 100000 in
set_option maxHeartbeats 4000000 in
theorem S_X9_one {ω : WD} {l1 : Int32} {l2 : Int32} {M : Mem} {post : Int32 → Mem → Prop} (h : w_X9_one l1 l2 M post) : MtI ω yX9_one cX9_one 3 (some .int) 1 [.ref (adr ω 0), .int l1, .int l2] M post := by
  refine MtI.start (ty := .int) rfl (by decide +kernel) (own := RX9) rfl (Nat.le_of_ble_eq_true rfl) (fun ρ C R => ?_)
  show G ω ρ M 0 [(0, .ref (adr ω 0)), (1, .int l1), (2, .int l2)] []
  refine G_aload_n C dX9_one_0 0 rfl ?_
  refine gf_X9_10 C dX9_one_1 ?_
  refine G_iload_n C dX9_one_4 1 rfl ?_
  refine G_callI (As := [.int l1]) (rest := []) C dX9_one_5 lk_X9_131 (Nat.le_of_ble_eq_true rfl) (Nat.le_of_ble_eq_true rfl) q1 (by decide) rfl (Nat.le_of_ble_eq_true rfl) rfl (S_X1_has q1 h) (fun r2 M1 h => ?_)
  obtain ⟨h1, h2⟩ := h
  refine G_if_ne (tgt := 13) C dX9_one_8 (by decide) (fun c => ?_) (fun c => ?_)
  · have h := h1 c
    clear h1 h2
    refine G_iload_n C dX9_one_13 2 rfl ?_
    obtain ⟨h0, h1, h2, h3, h4⟩ := h
    by_cases cd : (l2).toInt < 0 ∨ 3 < (l2).toInt
    · have h := h4 cd
      clear h0 h1 h2 h3 h4
      refine G_tableOut (tgt := 84) C dX9_one_14 cd (by decide) ?_
      refine G_iconst (v := (-1)) C dX9_one_84 (by decide) ?_
      exact R 85 _ _ _ dX9_one_85 rfl h
    · have cs : (l2).toInt = 0 ∨ (l2).toInt = 1 ∨ (l2).toInt = 2 ∨ (l2).toInt = 3 := by omega
      rcases cs with cs | cs | cs | cs
      · have h := h0 ((sw_toInt cs).trans (by decide))
        clear h0 h1 h2 h3 h4
        refine G_tableIn (tgt := 44) C dX9_one_14 (by omega) (by omega) (by rw [cs]; rfl) (by decide) ?_
        refine G_aload_n C dX9_one_44 0 rfl ?_
        refine gf_X9_10 C dX9_one_45 ?_
        refine gf_X9_135 C q1 dX9_one_48 ?_
        refine G_iload_n C dX9_one_51 1 rfl ?_
        obtain ⟨hi, h⟩ := h
        refine G_iald C q2 hi rfl dX9_one_52 ?_
        exact R 53 _ _ _ dX9_one_53 rfl h
      · have h := h1 ((sw_toInt cs).trans (by decide))
        clear h0 h1 h2 h3 h4
        refine G_tableIn (tgt := 54) C dX9_one_14 (by omega) (by omega) (by rw [cs]; rfl) (by decide) ?_
        refine G_aload_n C dX9_one_54 0 rfl ?_
        refine gf_X9_10 C dX9_one_55 ?_
        refine gf_X9_138 C q1 dX9_one_58 ?_
        refine G_iload_n C dX9_one_61 1 rfl ?_
        obtain ⟨hi, h⟩ := h
        refine G_iald C q3 hi rfl dX9_one_62 ?_
        exact R 63 _ _ _ dX9_one_63 rfl h
      · have h := h2 ((sw_toInt cs).trans (by decide))
        clear h0 h1 h2 h3 h4
        refine G_tableIn (tgt := 64) C dX9_one_14 (by omega) (by omega) (by rw [cs]; rfl) (by decide) ?_
        refine G_aload_n C dX9_one_64 0 rfl ?_
        refine gf_X9_10 C dX9_one_65 ?_
        refine gf_X9_141 C q1 dX9_one_68 ?_
        refine G_iload_n C dX9_one_71 1 rfl ?_
        obtain ⟨hi, h⟩ := h
        refine G_iald C q4 hi rfl dX9_one_72 ?_
        exact R 73 _ _ _ dX9_one_73 rfl h
      · have h := h3 ((sw_toInt cs).trans (by decide))
        clear h0 h1 h2 h3 h4
        refine G_tableIn (tgt := 74) C dX9_one_14 (by omega) (by omega) (by rw [cs]; rfl) (by decide) ?_
        refine G_aload_n C dX9_one_74 0 rfl ?_
        refine gf_X9_10 C dX9_one_75 ?_
        refine gf_X9_144 C q1 dX9_one_78 ?_
        refine G_iload_n C dX9_one_81 1 rfl ?_
        obtain ⟨hi, h⟩ := h
        refine G_iald C q5 hi rfl dX9_one_82 ?_
        exact R 83 _ _ _ dX9_one_83 rfl h
  · have h := h2 c
    clear h1 h2
    refine G_iconst (v := (-1)) C dX9_one_11 (by decide) ?_
    exact R 12 _ _ _ dX9_one_12 rfl h
theorem dX9_isGroup_0 : decode cX9_isGroup 0 = .ok (.iload_n 0, 1) := by decide +kernel
theorem dX9_isGroup_1 : decode cX9_isGroup 1 = .ok (.ifCond .lt 12, 3) := by decide +kernel
theorem dX9_isGroup_4 : decode cX9_isGroup 4 = .ok (.iload_n 0, 1) := by decide +kernel
theorem dX9_isGroup_5 : decode cX9_isGroup 5 = .ok (.iconst 5, 1) := by decide +kernel
theorem dX9_isGroup_6 : decode cX9_isGroup 6 = .ok (.if_icmp .ge 7, 3) := by decide +kernel
theorem dX9_isGroup_9 : decode cX9_isGroup 9 = .ok (.iconst 1, 1) := by decide +kernel
theorem dX9_isGroup_10 : decode cX9_isGroup 10 = .ok (.goto 4, 3) := by decide +kernel
theorem dX9_isGroup_13 : decode cX9_isGroup 13 = .ok (.iconst 0, 1) := by decide +kernel
theorem dX9_isGroup_14 : decode cX9_isGroup 14 = .ok (.ireturn, 1) := by decide +kernel
set_option maxRecDepth 100000 in
set_option maxHeartbeats 4000000 in
theorem S_X9_isGroup {ω : WD} {l0 : Int32} {M : Mem} {post : Int32 → Mem → Prop} (h : w_X9_isGroup l0 M post) : MtI ω yX9_isGroup cX9_isGroup 1 (some .boolean) 0 [.int l0] M post := by
  refine MtI.start (ty := .boolean) rfl (by decide +kernel) (own := RX9) rfl (Nat.le_of_ble_eq_true rfl) (fun ρ C R => ?_)
  show G ω ρ M 0 [(0, .int l0)] []
  refine G_iload_n C dX9_isGroup_0 0 rfl ?_
  obtain ⟨h1, h2⟩ := h
  refine G_if_lt (tgt := 13) C dX9_isGroup_1 (by decide) (fun c => ?_) (fun c => ?_)
  · have h := h1 c
    clear h1 h2
    refine G_iconst (v := 0) C dX9_isGroup_13 (by decide) ?_
    exact R 14 _ _ _ dX9_isGroup_14 rfl h
  · have h := h2 c
    clear h1 h2
    refine G_iload_n C dX9_isGroup_4 0 rfl ?_
    refine G_iconst (v := 5) C dX9_isGroup_5 (by decide) ?_
    obtain ⟨h1, h2⟩ := h
    refine G_icmp_ge (tgt := 13) C dX9_isGroup_6 (by decide) (fun c => ?_) (fun c => ?_)
    · have h := h1 c
      clear h1 h2
      refine G_iconst (v := 0) C dX9_isGroup_13 (by decide) ?_
      exact R 14 _ _ _ dX9_isGroup_14 rfl h
    · have h := h2 c
      clear h1 h2
      refine G_iconst (v := 1) C dX9_isGroup_9 (by decide) ?_
      refine G_goto (tgt := 14) C dX9_isGroup_10 (by decide) ?_
      exact R 14 _ _ _ dX9_isGroup_14 rfl h
theorem dX9_group_0 : decode cX9_group 0 = .ok (.iload_n 1, 1) := by decide +kernel
theorem dX9_group_1 : decode cX9_group 1 = .ok (.invokestatic 147, 3) := by decide +kernel
theorem dX9_group_4 : decode cX9_group 4 = .ok (.ifCond .ne 5, 3) := by decide +kernel
theorem dX9_group_7 : decode cX9_group 7 = .ok (.iconst (-1), 1) := by decide +kernel
theorem dX9_group_8 : decode cX9_group 8 = .ok (.ireturn, 1) := by decide +kernel
theorem dX9_group_9 : decode cX9_group 9 = .ok (.aload_n 0, 1) := by decide +kernel
theorem dX9_group_10 : decode cX9_group 10 = .ok (.getfield 10, 3) := by decide +kernel
theorem dX9_group_13 : decode cX9_group 13 = .ok (.getfield 150, 3) := by decide +kernel
theorem dX9_group_16 : decode cX9_group 16 = .ok (.iload_n 1, 1) := by decide +kernel
theorem dX9_group_17 : decode cX9_group 17 = .ok (.aaload, 1) := by decide +kernel
theorem dX9_group_18 : decode cX9_group 18 = .ok (.astore_n 3, 1) := by decide +kernel
theorem dX9_group_19 : decode cX9_group 19 = .ok (.iload_n 2, 1) := by decide +kernel
theorem dX9_group_20 : decode cX9_group 20 = .ok (.tableswitch 70 0 5 #[40, 45, 50, 55, 60, 65], 40) := by decide +kernel
theorem dX9_group_60 : decode cX9_group 60 = .ok (.aload_n 3, 1) := by decide +kernel
theorem dX9_group_61 : decode cX9_group 61 = .ok (.getfield 154, 3) := by decide +kernel
theorem dX9_group_64 : decode cX9_group 64 = .ok (.ireturn, 1) := by decide +kernel
theorem dX9_group_65 : decode cX9_group 65 = .ok (.aload_n 3, 1) := by decide +kernel
theorem dX9_group_66 : decode cX9_group 66 = .ok (.getfield 159, 3) := by decide +kernel
theorem dX9_group_69 : decode cX9_group 69 = .ok (.ireturn, 1) := by decide +kernel
theorem dX9_group_70 : decode cX9_group 70 = .ok (.aload_n 3, 1) := by decide +kernel
theorem dX9_group_71 : decode cX9_group 71 = .ok (.getfield 162, 3) := by decide +kernel
theorem dX9_group_74 : decode cX9_group 74 = .ok (.ireturn, 1) := by decide +kernel
theorem dX9_group_75 : decode cX9_group 75 = .ok (.aload_n 3, 1) := by decide +kernel
theorem dX9_group_76 : decode cX9_group 76 = .ok (.getfield 165, 3) := by decide +kernel
theorem dX9_group_79 : decode cX9_group 79 = .ok (.ireturn, 1) := by decide +kernel
theorem dX9_group_80 : decode cX9_group 80 = .ok (.aload_n 3, 1) := by decide +kernel
theorem dX9_group_81 : decode cX9_group 81 = .ok (.getfield 168, 3) := by decide +kernel
theorem dX9_group_84 : decode cX9_group 84 = .ok (.ireturn, 1) := by decide +kernel
theorem dX9_group_85 : decode cX9_group 85 = .ok (.aload_n 3, 1) := by decide +kernel
theorem dX9_group_86 : decode cX9_group 86 = .ok (.invokevirtual 171, 3) := by decide +kernel
theorem dX9_group_89 : decode cX9_group 89 = .ok (.ireturn, 1) := by decide +kernel
theorem dX9_group_90 : decode cX9_group 90 = .ok (.iconst (-1), 1) := by decide +kernel
theorem dX9_group_91 : decode cX9_group 91 = .ok (.ireturn, 1) := by decide +kernel
theorem lk_X9_147 : LkS RX9 147 yX9_isGroup cX9_isGroup 1 (some .boolean) 1 := LkS.of 622 623 61 624 (by decide +kernel) (by decide +kernel) (by decide +kernel) (by decide +kernel) (by decide +kernel)
theorem gf_X9_150 {ω : WD} {ρ : FR} {M : Mem} {cc : ByteArray} {d n pc i : Nat} {lv : List (Nat × Value)} {rest : List Value} (C : Cx ω ρ cc RX9 d n) (hk : isK 1 i) (hd : decode cc pc = .ok (.getfield 150, 3)) (k : G ω ρ M (pc + 3) lv (.ref (adr ω (i + 5)) :: rest)) : G ω ρ M pc lv (.ref (adr ω i) :: rest) := G_get (N := 8) (T := TX1) (C := RX1) (q := 7) C hk (by decide) rfl in_X1 (by decide) (tb_of 149 ⟨by decide +kernel, rfl⟩) rfl rfl hd k
theorem gf_X9_154 {ω : WD} {ρ : FR} {M : Mem} {cc : ByteArray} {d n pc i : Nat} {lv : List (Nat × Value)} {rest : List Value} (C : Cx ω ρ cc RX9 d n) (hk : isK 2 i) (hd : decode cc pc = .ok (.getfield 154, 3)) (k : G ω ρ M (pc + 3) lv (.int (rd M i 0) :: rest)) : G ω ρ M pc lv (.ref (adr ω i) :: rest) := G_get (N := 6) (T := TX2) (C := RX2) (q := 0) C hk (by decide) rfl in_X2 (by decide) (tb_of 100 ⟨by decide +kernel, rfl⟩) rfl rfl hd k
theorem gf_X9_159 {ω : WD} {ρ : FR} {M : Mem} {cc : ByteArray} {d n pc i : Nat} {lv : List (Nat × Value)} {rest : List Value} (C : Cx ω ρ cc RX9 d n) (hk : isK 2 i) (hd : decode cc pc = .ok (.getfield 159, 3)) (k : G ω ρ M (pc + 3) lv (.int (rd M i 1) :: rest)) : G ω ρ M pc lv (.ref (adr ω i) :: rest) := G_get (N := 6) (T := TX2) (C := RX2) (q := 1) C hk (by decide) rfl in_X2 (by decide) (tb_of 103 ⟨by decide +kernel, rfl⟩) rfl rfl hd k
theorem gf_X9_162 {ω : WD} {ρ : FR} {M : Mem} {cc : ByteArray} {d n pc i : Nat} {lv : List (Nat × Value)} {rest : List Value} (C : Cx ω ρ cc RX9 d n) (hk : isK 2 i) (hd : decode cc pc = .ok (.getfield 162, 3)) (k : G ω ρ M (pc + 3) lv (.int (rd M i 2) :: rest)) : G ω ρ M pc lv (.ref (adr ω i) :: rest) := G_get (N := 6) (T := TX2) (C := RX2) (q := 2) C hk (by decide) rfl in_X2 (by decide) (tb_of 106 ⟨by decide +kernel, rfl⟩) rfl rfl hd k
theorem gf_X9_165 {ω : WD} {ρ : FR} {M : Mem} {cc : ByteArray} {d n pc i : Nat} {lv : List (Nat × Value)} {rest : List Value} (C : Cx ω ρ cc RX9 d n) (hk : isK 2 i) (hd : decode cc pc = .ok (.getfield 165, 3)) (k : G ω ρ M (pc + 3) lv (.int (rd M i 3) :: rest)) : G ω ρ M pc lv (.ref (adr ω i) :: rest) := G_get (N := 6) (T := TX2) (C := RX2) (q := 3) C hk (by decide) rfl in_X2 (by decide) (tb_of 110 ⟨by decide +kernel, rfl⟩) rfl rfl hd k
theorem gf_X9_168 {ω : WD} {ρ : FR} {M : Mem} {cc : ByteArray} {d n pc i : Nat} {lv : List (Nat × Value)} {rest : List Value} (C : Cx ω ρ cc RX9 d n) (hk : isK 2 i) (hd : decode cc pc = .ok (.getfield 168, 3)) (k : G ω ρ M (pc + 3) lv (.int (rd M i 4) :: rest)) : G ω ρ M pc lv (.ref (adr ω i) :: rest) := G_get (N := 6) (T := TX2) (C := RX2) (q := 4) C hk (by decide) rfl in_X2 (by decide) (tb_of 113 ⟨by decide +kernel, rfl⟩) rfl rfl hd k
theorem lk_X9_171 : LkV RX9 171 RX2 yX2_pick cX2_pick 4 (some .int) 0 := LkV.of 625 626 627 63 628 (by decide +kernel) (by decide +kernel) (by decide +kernel) (by decide +kernel) (by decide +kernel) (by decide +kernel)
set_option maxRecDepth 100000 in
set_option maxHeartbeats 4000000 in
theorem S_X9_group {ω : WD} {l1 : Int32} {l2 : Int32} {M : Mem} {post : Int32 → Mem → Prop} (h : w_X9_group l1 l2 M post) : MtI ω yX9_group cX9_group 4 (some .int) 2 [.ref (adr ω 0), .int l1, .int l2] M post := by
  refine MtI.start (ty := .int) rfl (by decide +kernel) (own := RX9) rfl (Nat.le_of_ble_eq_true rfl) (fun ρ C R => ?_)
  show G ω ρ M 0 [(0, .ref (adr ω 0)), (1, .int l1), (2, .int l2)] []
  refine G_iload_n C dX9_group_0 1 rfl ?_
  refine G_scallI (As := [.int l1]) (rest := []) C dX9_group_1 lk_X9_147 (Nat.le_of_ble_eq_true rfl) (Nat.le_of_ble_eq_true rfl) (Nat.le_of_ble_eq_true rfl) rfl (S_X9_isGroup h) (fun r2 M1 h => ?_)
  obtain ⟨h1, h2⟩ := h
  refine G_if_ne (tgt := 9) C dX9_group_4 (by decide) (fun c => ?_) (fun c => ?_)
  · have h := h1 c
    clear h1 h2
    refine G_aload_n C dX9_group_9 0 rfl ?_
    refine gf_X9_10 C dX9_group_10 ?_
    refine gf_X9_150 C q1 dX9_group_13 ?_
    refine G_iload_n C dX9_group_16 1 rfl ?_
    obtain ⟨hi, h⟩ := h
    refine G_aldGroup C q6 hi dX9_group_17 (G_rname (fun g3 eg3 => ?_))
    replace h := h g3 eg3
    have hg3 := el_13 q6 hi eg3
    refine G_astore_n C dX9_group_18 (by decide) (lv' := [(3, .ref (adr ω g3)), (0, .ref (adr ω 0)), (1, .int l1), (2, .int l2)]) rfl ?_
    refine G_iload_n C dX9_group_19 3 rfl ?_
    obtain ⟨h0, h1, h2, h3, h4, h5, h6⟩ := h
    by_cases cd : (l2).toInt < 0 ∨ 5 < (l2).toInt
    · have h := h6 cd
      clear h0 h1 h2 h3 h4 h5 h6
      refine G_tableOut (tgt := 90) C dX9_group_20 cd (by decide) ?_
      refine G_iconst (v := (-1)) C dX9_group_90 (by decide) ?_
      exact R 91 _ _ _ dX9_group_91 rfl h
    · have cs : (l2).toInt = 0 ∨ (l2).toInt = 1 ∨ (l2).toInt = 2 ∨ (l2).toInt = 3 ∨ (l2).toInt = 4 ∨ (l2).toInt = 5 := by omega
      rcases cs with cs | cs | cs | cs | cs | cs
      · have h := h0 ((sw_toInt cs).trans (by decide))
        clear h0 h1 h2 h3 h4 h5 h6
        refine G_tableIn (tgt := 60) C dX9_group_20 (by omega) (by omega) (by rw [cs]; rfl) (by decide) ?_
        refine G_aload_n C dX9_group_60 0 rfl ?_
        refine gf_X9_154 C hg3 dX9_group_61 ?_
        exact R 64 _ _ _ dX9_group_64 rfl h
      · have h := h1 ((sw_toInt cs).trans (by decide))
        clear h0 h1 h2 h3 h4 h5 h6
        refine G_tableIn (tgt := 65) C dX9_group_20 (by omega) (by omega) (by rw [cs]; rfl) (by decide) ?_
        refine G_aload_n C dX9_group_65 0 rfl ?_
        refine gf_X9_159 C hg3 dX9_group_66 ?_
        exact R 69 _ _ _ dX9_group_69 rfl h
      · have h := h2 ((sw_toInt cs).trans (by decide))
        clear h0 h1 h2 h3 h4 h5 h6
        refine G_tableIn (tgt := 70) C dX9_group_20 (by omega) (by omega) (by rw [cs]; rfl) (by decide) ?_
        refine G_aload_n C dX9_group_70 0 rfl ?_
        refine gf_X9_162 C hg3 dX9_group_71 ?_
        exact R 74 _ _ _ dX9_group_74 rfl h
      · have h := h3 ((sw_toInt cs).trans (by decide))
        clear h0 h1 h2 h3 h4 h5 h6
        refine G_tableIn (tgt := 75) C dX9_group_20 (by omega) (by omega) (by rw [cs]; rfl) (by decide) ?_
        refine G_aload_n C dX9_group_75 0 rfl ?_
        refine gf_X9_165 C hg3 dX9_group_76 ?_
        exact R 79 _ _ _ dX9_group_79 rfl h
      · have h := h4 ((sw_toInt cs).trans (by decide))
        clear h0 h1 h2 h3 h4 h5 h6
        refine G_tableIn (tgt := 80) C dX9_group_20 (by omega) (by omega) (by rw [cs]; rfl) (by decide) ?_
        refine G_aload_n C dX9_group_80 0 rfl ?_
        refine gf_X9_168 C hg3 dX9_group_81 ?_
        exact R 84 _ _ _ dX9_group_84 rfl h
      · have h := h5 ((sw_toInt cs).trans (by decide))
        clear h0 h1 h2 h3 h4 h5 h6
        refine G_tableIn (tgt := 85) C dX9_group_20 (by omega) (by omega) (by rw [cs]; rfl) (by decide) ?_
        refine G_aload_n C dX9_group_85 0 rfl ?_
        refine G_callI (As := []) (rest := []) C dX9_group_86 lk_X9_171 (Nat.le_of_ble_eq_true rfl) (Nat.le_of_ble_eq_true rfl) hg3 (by decide) rfl (Nat.le_of_ble_eq_true rfl) rfl (S_X2_pick hg3 h) (fun r5 M4 h => ?_)
        exact R 89 _ _ _ dX9_group_89 rfl h
  · have h := h2 c
    clear h1 h2
    refine G_iconst (v := (-1)) C dX9_group_7 (by decide) ?_
    exact R 8 _ _ _ dX9_group_8 rfl h
theorem dX9_isWay_0 : decode cX9_isWay 0 = .ok (.iload_n 1, 1) := by decide +kernel
theorem dX9_isWay_1 : decode cX9_isWay 1 = .ok (.invokestatic 147, 3) := by decide +kernel
theorem dX9_isWay_4 : decode cX9_isWay 4 = .ok (.ifCond .eq 27, 3) := by decide +kernel
theorem dX9_isWay_7 : decode cX9_isWay 7 = .ok (.iload_n 2, 1) := by decide +kernel
theorem dX9_isWay_8 : decode cX9_isWay 8 = .ok (.ifCond .lt 23, 3) := by decide +kernel
theorem dX9_isWay_11 : decode cX9_isWay 11 = .ok (.iload_n 2, 1) := by decide +kernel
theorem dX9_isWay_12 : decode cX9_isWay 12 = .ok (.aload_n 0, 1) := by decide +kernel
theorem dX9_isWay_13 : decode cX9_isWay 13 = .ok (.getfield 10, 3) := by decide +kernel
theorem dX9_isWay_16 : decode cX9_isWay 16 = .ok (.getfield 150, 3) := by decide +kernel
theorem dX9_isWay_19 : decode cX9_isWay 19 = .ok (.iload_n 1, 1) := by decide +kernel
theorem dX9_isWay_20 : decode cX9_isWay 20 = .ok (.aaload, 1) := by decide +kernel
theorem dX9_isWay_21 : decode cX9_isWay 21 = .ok (.getfield 159, 3) := by decide +kernel
theorem dX9_isWay_24 : decode cX9_isWay 24 = .ok (.if_icmp .ge 7, 3) := by decide +kernel
theorem dX9_isWay_27 : decode cX9_isWay 27 = .ok (.iconst 1, 1) := by decide +kernel
theorem dX9_isWay_28 : decode cX9_isWay 28 = .ok (.goto 4, 3) := by decide +kernel
theorem dX9_isWay_31 : decode cX9_isWay 31 = .ok (.iconst 0, 1) := by decide +kernel
theorem dX9_isWay_32 : decode cX9_isWay 32 = .ok (.ireturn, 1) := by decide +kernel
set_option maxRecDepth 100000 in
set_option maxHeartbeats 4000000 in
theorem S_X9_isWay {ω : WD} {l1 : Int32} {l2 : Int32} {M : Mem} {post : Int32 → Mem → Prop} (h : w_X9_isWay l1 l2 M post) : MtI ω yX9_isWay cX9_isWay 3 (some .boolean) 1 [.ref (adr ω 0), .int l1, .int l2] M post := by
  refine MtI.start (ty := .boolean) rfl (by decide +kernel) (own := RX9) rfl (Nat.le_of_ble_eq_true rfl) (fun ρ C R => ?_)
  show G ω ρ M 0 [(0, .ref (adr ω 0)), (1, .int l1), (2, .int l2)] []
  refine G_iload_n C dX9_isWay_0 1 rfl ?_
  refine G_scallI (As := [.int l1]) (rest := []) C dX9_isWay_1 lk_X9_147 (Nat.le_of_ble_eq_true rfl) (Nat.le_of_ble_eq_true rfl) (Nat.le_of_ble_eq_true rfl) rfl (S_X9_isGroup h) (fun r2 M1 h => ?_)
  obtain ⟨h1, h2⟩ := h
  refine G_if_eq (tgt := 31) C dX9_isWay_4 (by decide) (fun c => ?_) (fun c => ?_)
  · have h := h1 c
    clear h1 h2
    refine G_iconst (v := 0) C dX9_isWay_31 (by decide) ?_
    exact R 32 _ _ _ dX9_isWay_32 rfl h
  · have h := h2 c
    clear h1 h2
    refine G_iload_n C dX9_isWay_7 2 rfl ?_
    obtain ⟨h1, h2⟩ := h
    refine G_if_lt (tgt := 31) C dX9_isWay_8 (by decide) (fun c => ?_) (fun c => ?_)
    · have h := h1 c
      clear h1 h2
      refine G_iconst (v := 0) C dX9_isWay_31 (by decide) ?_
      exact R 32 _ _ _ dX9_isWay_32 rfl h
    · have h := h2 c
      clear h1 h2
      refine G_iload_n C dX9_isWay_11 2 rfl ?_
      refine G_aload_n C dX9_isWay_12 0 rfl ?_
      refine gf_X9_10 C dX9_isWay_13 ?_
      refine gf_X9_150 C q1 dX9_isWay_16 ?_
      refine G_iload_n C dX9_isWay_19 1 rfl ?_
      obtain ⟨hi, h⟩ := h
      refine G_aldGroup C q6 hi dX9_isWay_20 (G_rname (fun g3 eg3 => ?_))
      replace h := h g3 eg3
      have hg3 := el_13 q6 hi eg3
      refine gf_X9_159 C hg3 dX9_isWay_21 ?_
      obtain ⟨h1, h2⟩ := h
      refine G_icmp_ge (tgt := 31) C dX9_isWay_24 (by decide) (fun c => ?_) (fun c => ?_)
      · have h := h1 c
        clear h1 h2
        refine G_iconst (v := 0) C dX9_isWay_31 (by decide) ?_
        exact R 32 _ _ _ dX9_isWay_32 rfl h
      · have h := h2 c
        clear h1 h2
        refine G_iconst (v := 1) C dX9_isWay_27 (by decide) ?_
        refine G_goto (tgt := 32) C dX9_isWay_28 (by decide) ?_
        exact R 32 _ _ _ dX9_isWay_32 rfl h
theorem dX9_uses_0 : decode cX9_uses 0 = .ok (.aload_n 0, 1) := by decide +kernel
theorem dX9_uses_1 : decode cX9_uses 1 = .ok (.iload_n 1, 1) := by decide +kernel
theorem dX9_uses_2 : decode cX9_uses 2 = .ok (.iload_n 2, 1) := by decide +kernel
theorem dX9_uses_3 : decode cX9_uses 3 = .ok (.invokevirtual 174, 3) := by decide +kernel
theorem dX9_uses_6 : decode cX9_uses 6 = .ok (.ifCond .ne 5, 3) := by decide +kernel
theorem dX9_uses_9 : decode cX9_uses 9 = .ok (.iconst (-1), 1) := by decide +kernel
theorem dX9_uses_10 : decode cX9_uses 10 = .ok (.ireturn, 1) := by decide +kernel
theorem dX9_uses_11 : decode cX9_uses 11 = .ok (.aload_n 0, 1) := by decide +kernel
theorem dX9_uses_12 : decode cX9_uses 12 = .ok (.getfield 10, 3) := by decide +kernel
theorem dX9_uses_15 : decode cX9_uses 15 = .ok (.getfield 150, 3) := by decide +kernel
theorem dX9_uses_18 : decode cX9_uses 18 = .ok (.iload_n 1, 1) := by decide +kernel
theorem dX9_uses_19 : decode cX9_uses 19 = .ok (.aaload, 1) := by decide +kernel
theorem dX9_uses_20 : decode cX9_uses 20 = .ok (.getfield 178, 3) := by decide +kernel
theorem dX9_uses_23 : decode cX9_uses 23 = .ok (.iload_n 2, 1) := by decide +kernel
theorem dX9_uses_24 : decode cX9_uses 24 = .ok (.iaload, 1) := by decide +kernel
theorem dX9_uses_25 : decode cX9_uses 25 = .ok (.ireturn, 1) := by decide +kernel
theorem lk_X9_174 : LkV RX9 174 RX9 yX9_isWay cX9_isWay 3 (some .boolean) 2 := LkV.of 641 643 0 61 644 (by decide +kernel) (by decide +kernel) (by decide +kernel) (by decide +kernel) (by decide +kernel) (by decide +kernel)
theorem gf_X9_178 {ω : WD} {ρ : FR} {M : Mem} {cc : ByteArray} {d n pc i : Nat} {lv : List (Nat × Value)} {rest : List Value} (C : Cx ω ρ cc RX9 d n) (hk : isK 2 i) (hd : decode cc pc = .ok (.getfield 178, 3)) (k : G ω ρ M (pc + 3) lv (.ref (adr ω (i + 1)) :: rest)) : G ω ρ M pc lv (.ref (adr ω i) :: rest) := G_get (N := 6) (T := TX2) (C := RX2) (q := 5) C hk (by decide) rfl in_X2 (by decide) (tb_of 116 ⟨by decide +kernel, rfl⟩) rfl rfl hd k
set_option maxRecDepth 100000 in
set_option maxHeartbeats 4000000 in
theorem S_X9_uses {ω : WD} {l1 : Int32} {l2 : Int32} {M : Mem} {post : Int32 → Mem → Prop} (h : w_X9_uses l1 l2 M post) : MtI ω yX9_uses cX9_uses 3 (some .int) 2 [.ref (adr ω 0), .int l1, .int l2] M post := by
  refine MtI.start (ty := .int) rfl (by decide +kernel) (own := RX9) rfl (Nat.le_of_ble_eq_true rfl) (fun ρ C R => ?_)
  show G ω ρ M 0 [(0, .ref (adr ω 0)), (1, .int l1), (2, .int l2)] []
  refine G_aload_n C dX9_uses_0 0 rfl ?_
  refine G_iload_n C dX9_uses_1 1 rfl ?_
  refine G_iload_n C dX9_uses_2 2 rfl ?_
  refine G_callI (As := [.int l1, .int l2]) (rest := []) C dX9_uses_3 lk_X9_174 (Nat.le_of_ble_eq_true rfl) (Nat.le_of_ble_eq_true rfl) q0 (by decide) rfl (Nat.le_of_ble_eq_true rfl) rfl (S_X9_isWay h) (fun r2 M1 h => ?_)
  obtain ⟨h1, h2⟩ := h
  refine G_if_ne (tgt := 11) C dX9_uses_6 (by decide) (fun c => ?_) (fun c => ?_)
  · have h := h1 c
    clear h1 h2
    refine G_aload_n C dX9_uses_11 0 rfl ?_
    refine gf_X9_10 C dX9_uses_12 ?_
    refine gf_X9_150 C q1 dX9_uses_15 ?_
    refine G_iload_n C dX9_uses_18 1 rfl ?_
    obtain ⟨hi, h⟩ := h
    refine G_aldGroup C q6 hi dX9_uses_19 (G_rname (fun g3 eg3 => ?_))
    replace h := h g3 eg3
    have hg3 := el_13 q6 hi eg3
    refine gf_X9_178 C hg3 dX9_uses_20 ?_
    refine G_iload_n C dX9_uses_23 2 rfl ?_
    obtain ⟨hi, h⟩ := h
    refine G_iald C (st_2_5 hg3) hi rfl dX9_uses_24 ?_
    exact R 25 _ _ _ dX9_uses_25 rfl h
  · have h := h2 c
    clear h1 h2
    refine G_iconst (v := (-1)) C dX9_uses_9 (by decide) ?_
    exact R 10 _ _ _ dX9_uses_10 rfl h
theorem dX9_isAct_0 : decode cX9_isAct 0 = .ok (.iload_n 1, 1) := by decide +kernel
theorem dX9_isAct_1 : decode cX9_isAct 1 = .ok (.ifCond .lt 18, 3) := by decide +kernel
theorem dX9_isAct_4 : decode cX9_isAct 4 = .ok (.iload_n 1, 1) := by decide +kernel
theorem dX9_isAct_5 : decode cX9_isAct 5 = .ok (.aload_n 0, 1) := by decide +kernel
theorem dX9_isAct_6 : decode cX9_isAct 6 = .ok (.getfield 19, 3) := by decide +kernel
theorem dX9_isAct_9 : decode cX9_isAct 9 = .ok (.getfield 121, 3) := by decide +kernel
theorem dX9_isAct_12 : decode cX9_isAct 12 = .ok (.if_icmp .ge 7, 3) := by decide +kernel
theorem dX9_isAct_15 : decode cX9_isAct 15 = .ok (.iconst 1, 1) := by decide +kernel
theorem dX9_isAct_16 : decode cX9_isAct 16 = .ok (.goto 4, 3) := by decide +kernel
theorem dX9_isAct_19 : decode cX9_isAct 19 = .ok (.iconst 0, 1) := by decide +kernel
theorem dX9_isAct_20 : decode cX9_isAct 20 = .ok (.ireturn, 1) := by decide +kernel
set_option maxRecDepth 100000 in
set_option maxHeartbeats 4000000 in
theorem S_X9_isAct {ω : WD} {l1 : Int32} {M : Mem} {post : Int32 → Mem → Prop} (h : w_X9_isAct l1 M post) : MtI ω yX9_isAct cX9_isAct 2 (some .boolean) 0 [.ref (adr ω 0), .int l1] M post := by
  refine MtI.start (ty := .boolean) rfl (by decide +kernel) (own := RX9) rfl (Nat.le_of_ble_eq_true rfl) (fun ρ C R => ?_)
  show G ω ρ M 0 [(0, .ref (adr ω 0)), (1, .int l1)] []
  refine G_iload_n C dX9_isAct_0 1 rfl ?_
  obtain ⟨h1, h2⟩ := h
  refine G_if_lt (tgt := 19) C dX9_isAct_1 (by decide) (fun c => ?_) (fun c => ?_)
  · have h := h1 c
    clear h1 h2
    refine G_iconst (v := 0) C dX9_isAct_19 (by decide) ?_
    exact R 20 _ _ _ dX9_isAct_20 rfl h
  · have h := h2 c
    clear h1 h2
    refine G_iload_n C dX9_isAct_4 1 rfl ?_
    refine G_aload_n C dX9_isAct_5 0 rfl ?_
    refine gf_X9_19 C dX9_isAct_6 ?_
    refine gf_X9_121 C q17 dX9_isAct_9 ?_
    obtain ⟨h1, h2⟩ := h
    refine G_icmp_ge (tgt := 19) C dX9_isAct_12 (by decide) (fun c => ?_) (fun c => ?_)
    · have h := h1 c
      clear h1 h2
      refine G_iconst (v := 0) C dX9_isAct_19 (by decide) ?_
      exact R 20 _ _ _ dX9_isAct_20 rfl h
    · have h := h2 c
      clear h1 h2
      refine G_iconst (v := 1) C dX9_isAct_15 (by decide) ?_
      refine G_goto (tgt := 20) C dX9_isAct_16 (by decide) ?_
      exact R 20 _ _ _ dX9_isAct_20 rfl h
theorem dX9_isBit_0 : decode cX9_isBit 0 = .ok (.iload_n 0, 1) := by decide +kernel
theorem dX9_isBit_1 : decode cX9_isBit 1 = .ok (.ifCond .eq 8, 3) := by decide +kernel
theorem dX9_isBit_4 : decode cX9_isBit 4 = .ok (.iload_n 0, 1) := by decide +kernel
theorem dX9_isBit_5 : decode cX9_isBit 5 = .ok (.iconst 1, 1) := by decide +kernel
theorem dX9_isBit_6 : decode cX9_isBit 6 = .ok (.if_icmp .ne 7, 3) := by decide +kernel
theorem dX9_isBit_9 : decode cX9_isBit 9 = .ok (.iconst 1, 1) := by decide +kernel
theorem dX9_isBit_10 : decode cX9_isBit 10 = .ok (.goto 4, 3) := by decide +kernel
theorem dX9_isBit_13 : decode cX9_isBit 13 = .ok (.iconst 0, 1) := by decide +kernel
theorem dX9_isBit_14 : decode cX9_isBit 14 = .ok (.ireturn, 1) := by decide +kernel
set_option maxRecDepth 100000 in
set_option maxHeartbeats 4000000 in
theorem s_X9_isBit_J9 {ω : WD} {ρ : FR} {post : Int32 → Mem → Prop} (C : Cx ω ρ cX9_isBit RX9 0 1) (R : RtI ω ρ cX9_isBit .boolean post) {M : Mem} (h : w_X9_isBit_J9 post M) : G ω ρ M 9 [] [] := by
  refine G_iconst (v := 1) C dX9_isBit_9 (by decide) ?_
  refine G_goto (tgt := 14) C dX9_isBit_10 (by decide) ?_
  exact R 14 _ _ _ dX9_isBit_14 rfl h
set_option maxRecDepth 100000 in
set_option maxHeartbeats 4000000 in
theorem S_X9_isBit {ω : WD} {l0 : Int32} {M : Mem} {post : Int32 → Mem → Prop} (h : w_X9_isBit l0 M post) : MtI ω yX9_isBit cX9_isBit 1 (some .boolean) 0 [.int l0] M post := by
  refine MtI.start (ty := .boolean) rfl (by decide +kernel) (own := RX9) rfl (Nat.le_of_ble_eq_true rfl) (fun ρ C R => ?_)
  show G ω ρ M 0 [(0, .int l0)] []
  refine G_iload_n C dX9_isBit_0 0 rfl ?_
  obtain ⟨h1, h2⟩ := h
  refine G_if_eq (tgt := 9) C dX9_isBit_1 (by decide) (fun c => ?_) (fun c => ?_)
  · have h := h1 c
    clear h1 h2
    refine G_sub [] (lv' := []) rfl ?_
    exact s_X9_isBit_J9 C R  h
  · have h := h2 c
    clear h1 h2
    refine G_iload_n C dX9_isBit_4 0 rfl ?_
    refine G_iconst (v := 1) C dX9_isBit_5 (by decide) ?_
    obtain ⟨h1, h2⟩ := h
    refine G_icmp_ne (tgt := 13) C dX9_isBit_6 (by decide) (fun c => ?_) (fun c => ?_)
    · have h := h1 c
      clear h1 h2
      refine G_iconst (v := 0) C dX9_isBit_13 (by decide) ?_
      exact R 14 _ _ _ dX9_isBit_14 rfl h
    · have h := h2 c
      clear h1 h2
      refine G_sub [] (lv' := []) rfl ?_
      exact s_X9_isBit_J9 C R  h
theorem dX9_act_0 : decode cX9_act 0 = .ok (.aload_n 0, 1) := by decide +kernel
theorem dX9_act_1 : decode cX9_act 1 = .ok (.iload_n 1, 1) := by decide +kernel
theorem dX9_act_2 : decode cX9_act 2 = .ok (.invokevirtual 181, 3) := by decide +kernel
theorem dX9_act_5 : decode cX9_act 5 = .ok (.ifCond .eq 10, 3) := by decide +kernel
theorem dX9_act_8 : decode cX9_act 8 = .ok (.iload_n 2, 1) := by decide +kernel
theorem dX9_act_9 : decode cX9_act 9 = .ok (.invokestatic 184, 3) := by decide +kernel
theorem dX9_act_12 : decode cX9_act 12 = .ok (.ifCond .ne 5, 3) := by decide +kernel
theorem dX9_act_15 : decode cX9_act 15 = .ok (.iconst (-1), 1) := by decide +kernel
theorem dX9_act_16 : decode cX9_act 16 = .ok (.ireturn, 1) := by decide +kernel
theorem dX9_act_17 : decode cX9_act 17 = .ok (.iload_n 2, 1) := by decide +kernel
theorem dX9_act_18 : decode cX9_act 18 = .ok (.ifCond .ne 15, 3) := by decide +kernel
theorem dX9_act_21 : decode cX9_act 21 = .ok (.aload_n 0, 1) := by decide +kernel
theorem dX9_act_22 : decode cX9_act 22 = .ok (.getfield 19, 3) := by decide +kernel
theorem dX9_act_25 : decode cX9_act 25 = .ok (.getfield 187, 3) := by decide +kernel
theorem dX9_act_28 : decode cX9_act 28 = .ok (.iload_n 1, 1) := by decide +kernel
theorem dX9_act_29 : decode cX9_act 29 = .ok (.iaload, 1) := by decide +kernel
theorem dX9_act_30 : decode cX9_act 30 = .ok (.goto 12, 3) := by decide +kernel
theorem dX9_act_33 : decode cX9_act 33 = .ok (.aload_n 0, 1) := by decide +kernel
theorem dX9_act_34 : decode cX9_act 34 = .ok (.getfield 19, 3) := by decide +kernel
theorem dX9_act_37 : decode cX9_act 37 = .ok (.getfield 190, 3) := by decide +kernel
theorem dX9_act_40 : decode cX9_act 40 = .ok (.iload_n 1, 1) := by decide +kernel
theorem dX9_act_41 : decode cX9_act 41 = .ok (.iaload, 1) := by decide +kernel
theorem dX9_act_42 : decode cX9_act 42 = .ok (.ireturn, 1) := by decide +kernel
theorem lk_X9_181 : LkV RX9 181 RX9 yX9_isAct cX9_isAct 2 (some .boolean) 1 := LkV.of 649 651 1 61 652 (by decide +kernel) (by decide +kernel) (by decide +kernel) (by decide +kernel) (by decide +kernel) (by decide +kernel)
theorem lk_X9_184 : LkS RX9 184 yX9_isBit cX9_isBit 1 (some .boolean) 1 := LkS.of 653 654 61 655 (by decide +kernel) (by decide +kernel) (by decide +kernel) (by decide +kernel) (by decide +kernel)
theorem gf_X9_190 {ω : WD} {ρ : FR} {M : Mem} {cc : ByteArray} {d n pc i : Nat} {lv : List (Nat × Value)} {rest : List Value} (C : Cx ω ρ cc RX9 d n) (hk : isK 5 i) (hd : decode cc pc = .ok (.getfield 190, 3)) (k : G ω ρ M (pc + 3) lv (.ref (adr ω (i + 2)) :: rest)) : G ω ρ M pc lv (.ref (adr ω i) :: rest) := G_get (N := 6) (T := TX5) (C := RX5) (q := 3) C hk (by decide) rfl in_X5 (by decide) (tb_of 187 ⟨by decide +kernel, rfl⟩) rfl rfl hd k
theorem gf_X9_187 {ω : WD} {ρ : FR} {M : Mem} {cc : ByteArray} {d n pc i : Nat} {lv : List (Nat × Value)} {rest : List Value} (C : Cx ω ρ cc RX9 d n) (hk : isK 5 i) (hd : decode cc pc = .ok (.getfield 187, 3)) (k : G ω ρ M (pc + 3) lv (.ref (adr ω (i + 1)) :: rest)) : G ω ρ M pc lv (.ref (adr ω i) :: rest) := G_get (N := 6) (T := TX5) (C := RX5) (q := 2) C hk (by decide) rfl in_X5 (by decide) (tb_of 183 ⟨by decide +kernel, rfl⟩) rfl rfl hd k
set_option maxRecDepth 100000 in
set_option maxHeartbeats 4000000 in
theorem S_X9_act {ω : WD} {l1 : Int32} {l2 : Int32} {M : Mem} {post : Int32 → Mem → Prop} (h : w_X9_act l1 l2 M post) : MtI ω yX9_act cX9_act 3 (some .int) 1 [.ref (adr ω 0), .int l1, .int l2] M post := by
  refine MtI.start (ty := .int) rfl (by decide +kernel) (own := RX9) rfl (Nat.le_of_ble_eq_true rfl) (fun ρ C R => ?_)
  show G ω ρ M 0 [(0, .ref (adr ω 0)), (1, .int l1), (2, .int l2)] []
  refine G_aload_n C dX9_act_0 0 rfl ?_
  refine G_iload_n C dX9_act_1 1 rfl ?_
  refine G_callI (As := [.int l1]) (rest := []) C dX9_act_2 lk_X9_181 (Nat.le_of_ble_eq_true rfl) (Nat.le_of_ble_eq_true rfl) q0 (by decide) rfl (Nat.le_of_ble_eq_true rfl) rfl (S_X9_isAct h) (fun r2 M1 h => ?_)
  obtain ⟨h1, h2⟩ := h
  refine G_if_eq (tgt := 15) C dX9_act_5 (by decide) (fun c => ?_) (fun c => ?_)
  · have h := h1 c
    clear h1 h2
    refine G_iconst (v := (-1)) C dX9_act_15 (by decide) ?_
    exact R 16 _ _ _ dX9_act_16 rfl h
  · have h := h2 c
    clear h1 h2
    refine G_iload_n C dX9_act_8 2 rfl ?_
    refine G_scallI (As := [.int l2]) (rest := []) C dX9_act_9 lk_X9_184 (Nat.le_of_ble_eq_true rfl) (Nat.le_of_ble_eq_true rfl) (Nat.le_of_ble_eq_true rfl) rfl (S_X9_isBit h) (fun r4 M3 h => ?_)
    obtain ⟨h1, h2⟩ := h
    refine G_if_ne (tgt := 17) C dX9_act_12 (by decide) (fun c => ?_) (fun c => ?_)
    · have h := h1 c
      clear h1 h2
      refine G_iload_n C dX9_act_17 2 rfl ?_
      obtain ⟨h1, h2⟩ := h
      refine G_if_ne (tgt := 33) C dX9_act_18 (by decide) (fun c => ?_) (fun c => ?_)
      · have h := h1 c
        clear h1 h2
        refine G_aload_n C dX9_act_33 0 rfl ?_
        refine gf_X9_19 C dX9_act_34 ?_
        refine gf_X9_190 C q17 dX9_act_37 ?_
        refine G_iload_n C dX9_act_40 1 rfl ?_
        obtain ⟨hi, h⟩ := h
        refine G_iald C q19 hi rfl dX9_act_41 ?_
        exact R 42 _ _ _ dX9_act_42 rfl h
      · have h := h2 c
        clear h1 h2
        refine G_aload_n C dX9_act_21 0 rfl ?_
        refine gf_X9_19 C dX9_act_22 ?_
        refine gf_X9_187 C q17 dX9_act_25 ?_
        refine G_iload_n C dX9_act_28 1 rfl ?_
        obtain ⟨hi, h⟩ := h
        refine G_iald C q18 hi rfl dX9_act_29 ?_
        refine G_goto (tgt := 42) C dX9_act_30 (by decide) ?_
        exact R 42 _ _ _ dX9_act_42 rfl h
    · have h := h2 c
      clear h1 h2
      refine G_iconst (v := (-1)) C dX9_act_15 (by decide) ?_
      exact R 16 _ _ _ dX9_act_16 rfl h
theorem dX9_number_0 : decode cX9_number 0 = .ok (.aload_n 0, 1) := by decide +kernel
theorem dX9_number_1 : decode cX9_number 1 = .ok (.getfield 10, 3) := by decide +kernel
theorem dX9_number_4 : decode cX9_number 4 = .ok (.iload_n 1, 1) := by decide +kernel
theorem dX9_number_5 : decode cX9_number 5 = .ok (.invokevirtual 131, 3) := by decide +kernel
theorem dX9_number_8 : decode cX9_number 8 = .ok (.ifCond .eq 10, 3) := by decide +kernel
theorem dX9_number_11 : decode cX9_number 11 = .ok (.iload_n 2, 1) := by decide +kernel
theorem dX9_number_12 : decode cX9_number 12 = .ok (.invokestatic 193, 3) := by decide +kernel
theorem dX9_number_15 : decode cX9_number 15 = .ok (.ifCond .ne 5, 3) := by decide +kernel
theorem dX9_number_18 : decode cX9_number 18 = .ok (.iconst (-1), 1) := by decide +kernel
theorem dX9_number_19 : decode cX9_number 19 = .ok (.ireturn, 1) := by decide +kernel
theorem dX9_number_20 : decode cX9_number 20 = .ok (.aload_n 0, 1) := by decide +kernel
theorem dX9_number_21 : decode cX9_number 21 = .ok (.getfield 10, 3) := by decide +kernel
theorem dX9_number_24 : decode cX9_number 24 = .ok (.iload_n 2, 1) := by decide +kernel
theorem dX9_number_25 : decode cX9_number 25 = .ok (.invokevirtual 196, 3) := by decide +kernel
theorem dX9_number_28 : decode cX9_number 28 = .ok (.istore_n 3, 1) := by decide +kernel
theorem dX9_number_29 : decode cX9_number 29 = .ok (.iload_n 3, 1) := by decide +kernel
theorem dX9_number_30 : decode cX9_number 30 = .ok (.bipush (-4), 2) := by decide +kernel
theorem dX9_number_32 : decode cX9_number 32 = .ok (.if_icmp .eq 10, 3) := by decide +kernel
theorem dX9_number_35 : decode cX9_number 35 = .ok (.iload_n 3, 1) := by decide +kernel
theorem dX9_number_36 : decode cX9_number 36 = .ok (.iload_n 1, 1) := by decide +kernel
theorem dX9_number_37 : decode cX9_number 37 = .ok (.if_icmp .eq 5, 3) := by decide +kernel
theorem dX9_number_40 : decode cX9_number 40 = .ok (.iconst (-1), 1) := by decide +kernel
theorem dX9_number_41 : decode cX9_number 41 = .ok (.ireturn, 1) := by decide +kernel
theorem dX9_number_42 : decode cX9_number 42 = .ok (.aload_n 0, 1) := by decide +kernel
theorem dX9_number_43 : decode cX9_number 43 = .ok (.getfield 10, 3) := by decide +kernel
theorem dX9_number_46 : decode cX9_number 46 = .ok (.getfield 141, 3) := by decide +kernel
theorem dX9_number_49 : decode cX9_number 49 = .ok (.iload_n 1, 1) := by decide +kernel
theorem dX9_number_50 : decode cX9_number 50 = .ok (.iaload, 1) := by decide +kernel
theorem dX9_number_51 : decode cX9_number 51 = .ok (.ifCond .eq 6, 3) := by decide +kernel
theorem dX9_number_54 : decode cX9_number 54 = .ok (.bipush (-2), 2) := by decide +kernel
theorem dX9_number_56 : decode cX9_number 56 = .ok (.ireturn, 1) := by decide +kernel
theorem dX9_number_57 : decode cX9_number 57 = .ok (.aload_n 0, 1) := by decide +kernel
theorem dX9_number_58 : decode cX9_number 58 = .ok (.getfield 10, 3) := by decide +kernel
theorem dX9_number_61 : decode cX9_number 61 = .ok (.getfield 135, 3) := by decide +kernel
theorem dX9_number_64 : decode cX9_number 64 = .ok (.iload_n 1, 1) := by decide +kernel
theorem dX9_number_65 : decode cX9_number 65 = .ok (.iaload, 1) := by decide +kernel
theorem dX9_number_66 : decode cX9_number 66 = .ok (.istore 4, 2) := by decide +kernel
theorem dX9_number_68 : decode cX9_number 68 = .ok (.aload_n 0, 1) := by decide +kernel
theorem dX9_number_69 : decode cX9_number 69 = .ok (.getfield 10, 3) := by decide +kernel
theorem dX9_number_72 : decode cX9_number 72 = .ok (.getfield 135, 3) := by decide +kernel
theorem dX9_number_75 : decode cX9_number 75 = .ok (.iload_n 1, 1) := by decide +kernel
theorem dX9_number_76 : decode cX9_number 76 = .ok (.iload_n 2, 1) := by decide +kernel
theorem dX9_number_77 : decode cX9_number 77 = .ok (.iastore, 1) := by decide +kernel
theorem dX9_number_78 : decode cX9_number 78 = .ok (.iload 4, 2) := by decide +kernel
theorem dX9_number_80 : decode cX9_number 80 = .ok (.ireturn, 1) := by decide +kernel
theorem lk_X9_196 : LkV RX9 196 RX1 yX1_owner cX1_owner 3 (some .int) 1 := LkV.of 660 539 540 62 541 (by decide +kernel) (by decide +kernel) (by decide +kernel) (by decide +kernel) (by decide +kernel) (by decide +kernel)
set_option maxRecDepth 100000 in
set_option maxHeartbeats 4000000 in
theorem s_X9_number_J42 {ω : WD} {ρ : FR} {post : Int32 → Mem → Prop} (C : Cx ω ρ cX9_number RX9 1 5) (R : RtI ω ρ cX9_number .int post) {l1 : Int32} {l2 : Int32} {M : Mem} (h : w_X9_number_J42 post l1 l2 M) : G ω ρ M 42 [(0, .ref (adr ω 0)), (1, .int l1), (2, .int l2)] [] := by
  refine G_aload_n C dX9_number_42 0 rfl ?_
  refine gf_X9_10 C dX9_number_43 ?_
  refine gf_X9_141 C q1 dX9_number_46 ?_
  refine G_iload_n C dX9_number_49 1 rfl ?_
  obtain ⟨hi, h⟩ := h
  refine G_iald C q4 hi rfl dX9_number_50 ?_
  obtain ⟨h1, h2⟩ := h
  refine G_if_eq (tgt := 57) C dX9_number_51 (by decide) (fun c => ?_) (fun c => ?_)
  · have h := h1 c
    clear h1 h2
    refine G_aload_n C dX9_number_57 0 rfl ?_
    refine gf_X9_10 C dX9_number_58 ?_
    refine gf_X9_135 C q1 dX9_number_61 ?_
    refine G_iload_n C dX9_number_64 1 rfl ?_
    obtain ⟨hi, h⟩ := h
    refine G_iald C q2 hi rfl dX9_number_65 ?_
    refine G_iname (fun v1 ev1 => ?_)
    replace h := h v1 ev1
    refine G_istore C dX9_number_66 (by decide) (lv' := [(4, .int v1), (0, .ref (adr ω 0)), (1, .int l1), (2, .int l2)]) rfl ?_
    refine G_aload_n C dX9_number_68 1 rfl ?_
    refine gf_X9_10 C dX9_number_69 ?_
    refine gf_X9_135 C q1 dX9_number_72 ?_
    refine G_iload_n C dX9_number_75 2 rfl ?_
    refine G_iload_n C dX9_number_76 3 rfl ?_
    obtain ⟨hi, h⟩ := h
    refine G_iast C q2 hi rfl dX9_number_77 (G_mname (fun M2 eM2 => ?_))
    replace h := h M2 eM2
    refine G_iload C dX9_number_78 0 rfl ?_
    exact R 80 _ _ _ dX9_number_80 rfl h
  · have h := h2 c
    clear h1 h2
    refine G_bipush (v := (-2)) C dX9_number_54 (by decide) ?_
    exact R 56 _ _ _ dX9_number_56 rfl h
set_option maxRecDepth 100000 in
set_option maxHeartbeats 4000000 in
theorem S_X9_number {ω : WD} {l1 : Int32} {l2 : Int32} {M : Mem} {post : Int32 → Mem → Prop} (h : w_X9_number l1 l2 M post) : MtI ω yX9_number cX9_number 5 (some .int) 1 [.ref (adr ω 0), .int l1, .int l2] M post := by
  refine MtI.start (ty := .int) rfl (by decide +kernel) (own := RX9) rfl (Nat.le_of_ble_eq_true rfl) (fun ρ C R => ?_)
  show G ω ρ M 0 [(0, .ref (adr ω 0)), (1, .int l1), (2, .int l2)] []
  refine G_aload_n C dX9_number_0 0 rfl ?_
  refine gf_X9_10 C dX9_number_1 ?_
  refine G_iload_n C dX9_number_4 1 rfl ?_
  refine G_callI (As := [.int l1]) (rest := []) C dX9_number_5 lk_X9_131 (Nat.le_of_ble_eq_true rfl) (Nat.le_of_ble_eq_true rfl) q1 (by decide) rfl (Nat.le_of_ble_eq_true rfl) rfl (S_X1_has q1 h) (fun r4 M3 h => ?_)
  obtain ⟨h1, h2⟩ := h
  refine G_if_eq (tgt := 18) C dX9_number_8 (by decide) (fun c => ?_) (fun c => ?_)
  · have h := h1 c
    clear h1 h2
    refine G_iconst (v := (-1)) C dX9_number_18 (by decide) ?_
    exact R 19 _ _ _ dX9_number_19 rfl h
  · have h := h2 c
    clear h1 h2
    refine G_iload_n C dX9_number_11 2 rfl ?_
    refine G_scallI (As := [.int l2]) (rest := []) C dX9_number_12 lk_X9_193 (Nat.le_of_ble_eq_true rfl) (Nat.le_of_ble_eq_true rfl) (Nat.le_of_ble_eq_true rfl) rfl (S_X9_isNumber h) (fun r6 M5 h => ?_)
    obtain ⟨h1, h2⟩ := h
    refine G_if_ne (tgt := 20) C dX9_number_15 (by decide) (fun c => ?_) (fun c => ?_)
    · have h := h1 c
      clear h1 h2
      refine G_aload_n C dX9_number_20 0 rfl ?_
      refine gf_X9_10 C dX9_number_21 ?_
      refine G_iload_n C dX9_number_24 2 rfl ?_
      refine G_callI (As := [.int l2]) (rest := []) C dX9_number_25 lk_X9_196 (Nat.le_of_ble_eq_true rfl) (Nat.le_of_ble_eq_true rfl) q1 (by decide) rfl (Nat.le_of_ble_eq_true rfl) rfl (S_X1_owner q1 h) (fun r8 M7 h => ?_)
      refine G_istore_n C dX9_number_28 (by decide) (lv' := [(3, .int r8), (0, .ref (adr ω 0)), (1, .int l1), (2, .int l2)]) rfl ?_
      refine G_iload_n C dX9_number_29 0 rfl ?_
      refine G_bipush (v := (-4)) C dX9_number_30 (by decide) ?_
      obtain ⟨h1, h2⟩ := h
      refine G_icmp_eq (tgt := 42) C dX9_number_32 (by decide) (fun c => ?_) (fun c => ?_)
      · have h := h1 c
        clear h1 h2
        refine G_sub [1, 2, 3] (lv' := [(0, .ref (adr ω 0)), (1, .int l1), (2, .int l2)]) rfl ?_
        exact s_X9_number_J42 C R  h
      · have h := h2 c
        clear h1 h2
        refine G_iload_n C dX9_number_35 0 rfl ?_
        refine G_iload_n C dX9_number_36 2 rfl ?_
        obtain ⟨h1, h2⟩ := h
        refine G_icmp_eq (tgt := 42) C dX9_number_37 (by decide) (fun c => ?_) (fun c => ?_)
        · have h := h1 c
          clear h1 h2
          refine G_sub [1, 2, 3] (lv' := [(0, .ref (adr ω 0)), (1, .int l1), (2, .int l2)]) rfl ?_
          exact s_X9_number_J42 C R  h
        · have h := h2 c
          clear h1 h2
          refine G_iconst (v := (-1)) C dX9_number_40 (by decide) ?_
          exact R 41 _ _ _ dX9_number_41 rfl h
    · have h := h2 c
      clear h1 h2
      refine G_iconst (v := (-1)) C dX9_number_18 (by decide) ?_
      exact R 19 _ _ _ dX9_number_19 rfl h
theorem dX9_finders_0 : decode cX9_finders 0 = .ok (.iload_n 1, 1) := by decide +kernel
theorem dX9_finders_1 : decode cX9_finders 1 = .ok (.iconst 1, 1) := by decide +kernel
theorem dX9_finders_2 : decode cX9_finders 2 = .ok (.if_icmp .lt 9, 3) := by decide +kernel
theorem dX9_finders_5 : decode cX9_finders 5 = .ok (.iload_n 1, 1) := by decide +kernel
theorem dX9_finders_6 : decode cX9_finders 6 = .ok (.bipush 6, 2) := by decide +kernel
theorem dX9_finders_8 : decode cX9_finders 8 = .ok (.if_icmp .le 5, 3) := by decide +kernel
theorem dX9_finders_11 : decode cX9_finders 11 = .ok (.iconst (-1), 1) := by decide +kernel
theorem dX9_finders_12 : decode cX9_finders 12 = .ok (.ireturn, 1) := by decide +kernel
theorem dX9_finders_13 : decode cX9_finders 13 = .ok (.aload_n 0, 1) := by decide +kernel
theorem dX9_finders_14 : decode cX9_finders 14 = .ok (.getfield 10, 3) := by decide +kernel
theorem dX9_finders_17 : decode cX9_finders 17 = .ok (.getfield 118, 3) := by decide +kernel
theorem dX9_finders_20 : decode cX9_finders 20 = .ok (.iload_n 1, 1) := by decide +kernel
theorem dX9_finders_21 : decode cX9_finders 21 = .ok (.if_icmp .le 6, 3) := by decide +kernel
theorem dX9_finders_24 : decode cX9_finders 24 = .ok (.bipush (-2), 2) := by decide +kernel
theorem dX9_finders_26 : decode cX9_finders 26 = .ok (.ireturn, 1) := by decide +kernel
theorem dX9_finders_27 : decode cX9_finders 27 = .ok (.aload_n 0, 1) := by decide +kernel
theorem dX9_finders_28 : decode cX9_finders 28 = .ok (.getfield 10, 3) := by decide +kernel
theorem dX9_finders_31 : decode cX9_finders 31 = .ok (.getfield 115, 3) := by decide +kernel
theorem dX9_finders_34 : decode cX9_finders 34 = .ok (.istore_n 2, 1) := by decide +kernel
theorem dX9_finders_35 : decode cX9_finders 35 = .ok (.aload_n 0, 1) := by decide +kernel
theorem dX9_finders_36 : decode cX9_finders 36 = .ok (.getfield 10, 3) := by decide +kernel
theorem dX9_finders_39 : decode cX9_finders 39 = .ok (.iload_n 1, 1) := by decide +kernel
theorem dX9_finders_40 : decode cX9_finders 40 = .ok (.putfield 115, 3) := by decide +kernel
theorem dX9_finders_43 : decode cX9_finders 43 = .ok (.iload_n 2, 1) := by decide +kernel
theorem dX9_finders_44 : decode cX9_finders 44 = .ok (.ireturn, 1) := by decide +kernel
theorem pf_X9_115 {ω : WD} {ρ : FR} {M : Mem} {cc : ByteArray} {d n pc i : Nat} {lv : List (Nat × Value)} {rest : List Value} {v : Int32} (C : Cx ω ρ cc RX9 d n) (hk : isK 1 i) (hd : decode cc pc = .ok (.putfield 115, 3)) (k : ∀ M1, M1 = wr M i 1 v → G ω ρ M1 (pc + 3) lv rest) : G ω ρ M pc lv (.int v :: .ref (adr ω i) :: rest) := G_put (N := 8) (T := TX1) (C := RX1) (q := 1) (ty := .int) C hk (by decide) rfl in_X1 tyX1 tyX1_ok nmX1 (by decide) (tb_of 135 ⟨by decide +kernel, rfl⟩) rfl rfl (by decide +kernel) rfl rfl (fun _ _ => Nat.le_of_ble_eq_true rfl) (fun _ => rfl) hd (k _ rfl)
set_option maxRecDepth 100000 in
set_option maxHeartbeats 4000000 in
theorem S_X9_finders {ω : WD} {l1 : Int32} {M : Mem} {post : Int32 → Mem → Prop} (h : w_X9_finders l1 M post) : MtI ω yX9_finders cX9_finders 3 (some .int) 0 [.ref (adr ω 0), .int l1] M post := by
  refine MtI.start (ty := .int) rfl (by decide +kernel) (own := RX9) rfl (Nat.le_of_ble_eq_true rfl) (fun ρ C R => ?_)
  show G ω ρ M 0 [(0, .ref (adr ω 0)), (1, .int l1)] []
  refine G_iload_n C dX9_finders_0 1 rfl ?_
  refine G_iconst (v := 1) C dX9_finders_1 (by decide) ?_
  obtain ⟨h1, h2⟩ := h
  refine G_icmp_lt (tgt := 11) C dX9_finders_2 (by decide) (fun c => ?_) (fun c => ?_)
  · have h := h1 c
    clear h1 h2
    refine G_iconst (v := (-1)) C dX9_finders_11 (by decide) ?_
    exact R 12 _ _ _ dX9_finders_12 rfl h
  · have h := h2 c
    clear h1 h2
    refine G_iload_n C dX9_finders_5 1 rfl ?_
    refine G_bipush (v := 6) C dX9_finders_6 (by decide) ?_
    obtain ⟨h1, h2⟩ := h
    refine G_icmp_le (tgt := 13) C dX9_finders_8 (by decide) (fun c => ?_) (fun c => ?_)
    · have h := h1 c
      clear h1 h2
      refine G_aload_n C dX9_finders_13 0 rfl ?_
      refine gf_X9_10 C dX9_finders_14 ?_
      refine gf_X9_118 C q1 dX9_finders_17 ?_
      refine G_iload_n C dX9_finders_20 1 rfl ?_
      obtain ⟨h1, h2⟩ := h
      refine G_icmp_le (tgt := 27) C dX9_finders_21 (by decide) (fun c => ?_) (fun c => ?_)
      · have h := h1 c
        clear h1 h2
        refine G_aload_n C dX9_finders_27 0 rfl ?_
        refine gf_X9_10 C dX9_finders_28 ?_
        refine gf_X9_115 C q1 dX9_finders_31 ?_
        refine G_iname (fun v1 ev1 => ?_)
        replace h := h v1 ev1
        refine G_istore_n C dX9_finders_34 (by decide) (lv' := [(2, .int v1), (0, .ref (adr ω 0)), (1, .int l1)]) rfl ?_
        refine G_aload_n C dX9_finders_35 1 rfl ?_
        refine gf_X9_10 C dX9_finders_36 ?_
        refine G_iload_n C dX9_finders_39 2 rfl ?_
        refine pf_X9_115 C q1 dX9_finders_40 (fun M2 eM2 => ?_)
        replace h := h M2 eM2
        refine G_iload_n C dX9_finders_43 0 rfl ?_
        exact R 44 _ _ _ dX9_finders_44 rfl h
      · have h := h2 c
        clear h1 h2
        refine G_bipush (v := (-2)) C dX9_finders_24 (by decide) ?_
        exact R 26 _ _ _ dX9_finders_26 rfl h
    · have h := h2 c
      clear h1 h2
      refine G_iconst (v := (-1)) C dX9_finders_11 (by decide) ?_
      exact R 12 _ _ _ dX9_finders_12 rfl h
theorem dX9_hunt_0 : decode cX9_hunt 0 = .ok (.iload_n 1, 1) := by decide +kernel
theorem dX9_hunt_1 : decode cX9_hunt 1 = .ok (.invokestatic 147, 3) := by decide +kernel
theorem dX9_hunt_4 : decode cX9_hunt 4 = .ok (.ifCond .eq 12, 3) := by decide +kernel
theorem dX9_hunt_7 : decode cX9_hunt 7 = .ok (.iload_n 2, 1) := by decide +kernel
theorem dX9_hunt_8 : decode cX9_hunt 8 = .ok (.ifCond .lt 8, 3) := by decide +kernel
theorem dX9_hunt_11 : decode cX9_hunt 11 = .ok (.iload_n 2, 1) := by decide +kernel
theorem dX9_hunt_12 : decode cX9_hunt 12 = .ok (.iconst 3, 1) := by decide +kernel
theorem dX9_hunt_13 : decode cX9_hunt 13 = .ok (.if_icmp .le 5, 3) := by decide +kernel
theorem dX9_hunt_16 : decode cX9_hunt 16 = .ok (.iconst (-1), 1) := by decide +kernel
theorem dX9_hunt_17 : decode cX9_hunt 17 = .ok (.ireturn, 1) := by decide +kernel
theorem dX9_hunt_18 : decode cX9_hunt 18 = .ok (.aload_n 0, 1) := by decide +kernel
theorem dX9_hunt_19 : decode cX9_hunt 19 = .ok (.getfield 10, 3) := by decide +kernel
theorem dX9_hunt_22 : decode cX9_hunt 22 = .ok (.getfield 150, 3) := by decide +kernel
theorem dX9_hunt_25 : decode cX9_hunt 25 = .ok (.iload_n 1, 1) := by decide +kernel
theorem dX9_hunt_26 : decode cX9_hunt 26 = .ok (.aaload, 1) := by decide +kernel
theorem dX9_hunt_27 : decode cX9_hunt 27 = .ok (.getfield 154, 3) := by decide +kernel
theorem dX9_hunt_30 : decode cX9_hunt 30 = .ok (.istore_n 3, 1) := by decide +kernel
theorem dX9_hunt_31 : decode cX9_hunt 31 = .ok (.aload_n 0, 1) := by decide +kernel
theorem dX9_hunt_32 : decode cX9_hunt 32 = .ok (.getfield 10, 3) := by decide +kernel
theorem dX9_hunt_35 : decode cX9_hunt 35 = .ok (.getfield 150, 3) := by decide +kernel
theorem dX9_hunt_38 : decode cX9_hunt 38 = .ok (.iload_n 1, 1) := by decide +kernel
theorem dX9_hunt_39 : decode cX9_hunt 39 = .ok (.aaload, 1) := by decide +kernel
theorem dX9_hunt_40 : decode cX9_hunt 40 = .ok (.iload_n 2, 1) := by decide +kernel
theorem dX9_hunt_41 : decode cX9_hunt 41 = .ok (.putfield 154, 3) := by decide +kernel
theorem dX9_hunt_44 : decode cX9_hunt 44 = .ok (.iload_n 3, 1) := by decide +kernel
theorem dX9_hunt_45 : decode cX9_hunt 45 = .ok (.ireturn, 1) := by decide +kernel
theorem pf_X9_154 {ω : WD} {ρ : FR} {M : Mem} {cc : ByteArray} {d n pc i : Nat} {lv : List (Nat × Value)} {rest : List Value} {v : Int32} (C : Cx ω ρ cc RX9 d n) (hk : isK 2 i) (hd : decode cc pc = .ok (.putfield 154, 3)) (k : ∀ M1, M1 = wr M i 0 v → G ω ρ M1 (pc + 3) lv rest) : G ω ρ M pc lv (.int v :: .ref (adr ω i) :: rest) := G_put (N := 6) (T := TX2) (C := RX2) (q := 0) (ty := .int) C hk (by decide) rfl in_X2 tyX2 tyX2_ok nmX2 (by decide) (tb_of 100 ⟨by decide +kernel, rfl⟩) rfl rfl (by decide +kernel) rfl rfl (fun _ _ => Nat.le_of_ble_eq_true rfl) (fun _ => rfl) hd (k _ rfl)
set_option maxRecDepth 100000 in
set_option maxHeartbeats 4000000 in
theorem S_X9_hunt {ω : WD} {l1 : Int32} {l2 : Int32} {M : Mem} {post : Int32 → Mem → Prop} (h : w_X9_hunt l1 l2 M post) : MtI ω yX9_hunt cX9_hunt 4 (some .int) 1 [.ref (adr ω 0), .int l1, .int l2] M post := by
  refine MtI.start (ty := .int) rfl (by decide +kernel) (own := RX9) rfl (Nat.le_of_ble_eq_true rfl) (fun ρ C R => ?_)
  show G ω ρ M 0 [(0, .ref (adr ω 0)), (1, .int l1), (2, .int l2)] []
  refine G_iload_n C dX9_hunt_0 1 rfl ?_
  refine G_scallI (As := [.int l1]) (rest := []) C dX9_hunt_1 lk_X9_147 (Nat.le_of_ble_eq_true rfl) (Nat.le_of_ble_eq_true rfl) (Nat.le_of_ble_eq_true rfl) rfl (S_X9_isGroup h) (fun r2 M1 h => ?_)
  obtain ⟨h1, h2⟩ := h
  refine G_if_eq (tgt := 16) C dX9_hunt_4 (by decide) (fun c => ?_) (fun c => ?_)
  · have h := h1 c
    clear h1 h2
    refine G_iconst (v := (-1)) C dX9_hunt_16 (by decide) ?_
    exact R 17 _ _ _ dX9_hunt_17 rfl h
  · have h := h2 c
    clear h1 h2
    refine G_iload_n C dX9_hunt_7 2 rfl ?_
    obtain ⟨h1, h2⟩ := h
    refine G_if_lt (tgt := 16) C dX9_hunt_8 (by decide) (fun c => ?_) (fun c => ?_)
    · have h := h1 c
      clear h1 h2
      refine G_iconst (v := (-1)) C dX9_hunt_16 (by decide) ?_
      exact R 17 _ _ _ dX9_hunt_17 rfl h
    · have h := h2 c
      clear h1 h2
      refine G_iload_n C dX9_hunt_11 2 rfl ?_
      refine G_iconst (v := 3) C dX9_hunt_12 (by decide) ?_
      obtain ⟨h1, h2⟩ := h
      refine G_icmp_le (tgt := 18) C dX9_hunt_13 (by decide) (fun c => ?_) (fun c => ?_)
      · have h := h1 c
        clear h1 h2
        refine G_aload_n C dX9_hunt_18 0 rfl ?_
        refine gf_X9_10 C dX9_hunt_19 ?_
        refine gf_X9_150 C q1 dX9_hunt_22 ?_
        refine G_iload_n C dX9_hunt_25 1 rfl ?_
        obtain ⟨hi, h⟩ := h
        refine G_aldGroup C q6 hi dX9_hunt_26 (G_rname (fun g3 eg3 => ?_))
        replace h := h g3 eg3
        have hg3 := el_13 q6 hi eg3
        refine gf_X9_154 C hg3 dX9_hunt_27 ?_
        refine G_iname (fun v4 ev4 => ?_)
        replace h := h v4 ev4
        refine G_istore_n C dX9_hunt_30 (by decide) (lv' := [(3, .int v4), (0, .ref (adr ω 0)), (1, .int l1), (2, .int l2)]) rfl ?_
        refine G_aload_n C dX9_hunt_31 1 rfl ?_
        refine gf_X9_10 C dX9_hunt_32 ?_
        refine gf_X9_150 C q1 dX9_hunt_35 ?_
        refine G_iload_n C dX9_hunt_38 2 rfl ?_
        obtain ⟨hi, h⟩ := h
        refine G_aldGroup C q6 hi dX9_hunt_39 (G_rname (fun g5 eg5 => ?_))
        replace h := h g5 eg5
        have hg5 := el_13 q6 hi eg5
        refine G_iload_n C dX9_hunt_40 3 rfl ?_
        refine pf_X9_154 C hg5 dX9_hunt_41 (fun M6 eM6 => ?_)
        replace h := h M6 eM6
        refine G_iload_n C dX9_hunt_44 0 rfl ?_
        exact R 45 _ _ _ dX9_hunt_45 rfl h
      · have h := h2 c
        clear h1 h2
        refine G_iconst (v := (-1)) C dX9_hunt_16 (by decide) ?_
        exact R 17 _ _ _ dX9_hunt_17 rfl h
theorem dX9_ways_0 : decode cX9_ways 0 = .ok (.iload_n 1, 1) := by decide +kernel
theorem dX9_ways_1 : decode cX9_ways 1 = .ok (.invokestatic 147, 3) := by decide +kernel
theorem dX9_ways_4 : decode cX9_ways 4 = .ok (.ifCond .eq 12, 3) := by decide +kernel
theorem dX9_ways_7 : decode cX9_ways 7 = .ok (.iload_n 2, 1) := by decide +kernel
theorem dX9_ways_8 : decode cX9_ways 8 = .ok (.ifCond .lt 8, 3) := by decide +kernel
theorem dX9_ways_11 : decode cX9_ways 11 = .ok (.iload_n 2, 1) := by decide +kernel
theorem dX9_ways_12 : decode cX9_ways 12 = .ok (.iconst 4, 1) := by decide +kernel
theorem dX9_ways_13 : decode cX9_ways 13 = .ok (.if_icmp .le 5, 3) := by decide +kernel
theorem dX9_ways_16 : decode cX9_ways 16 = .ok (.iconst (-1), 1) := by decide +kernel
theorem dX9_ways_17 : decode cX9_ways 17 = .ok (.ireturn, 1) := by decide +kernel
theorem dX9_ways_18 : decode cX9_ways 18 = .ok (.aload_n 0, 1) := by decide +kernel
theorem dX9_ways_19 : decode cX9_ways 19 = .ok (.getfield 10, 3) := by decide +kernel
theorem dX9_ways_22 : decode cX9_ways 22 = .ok (.getfield 150, 3) := by decide +kernel
theorem dX9_ways_25 : decode cX9_ways 25 = .ok (.iload_n 1, 1) := by decide +kernel
theorem dX9_ways_26 : decode cX9_ways 26 = .ok (.aaload, 1) := by decide +kernel
theorem dX9_ways_27 : decode cX9_ways 27 = .ok (.astore_n 3, 1) := by decide +kernel
theorem dX9_ways_28 : decode cX9_ways 28 = .ok (.aload_n 3, 1) := by decide +kernel
theorem dX9_ways_29 : decode cX9_ways 29 = .ok (.iload_n 2, 1) := by decide +kernel
theorem dX9_ways_30 : decode cX9_ways 30 = .ok (.invokevirtual 200, 3) := by decide +kernel
theorem dX9_ways_33 : decode cX9_ways 33 = .ok (.ifCond .ne 6, 3) := by decide +kernel
theorem dX9_ways_36 : decode cX9_ways 36 = .ok (.bipush (-2), 2) := by decide +kernel
theorem dX9_ways_38 : decode cX9_ways 38 = .ok (.ireturn, 1) := by decide +kernel
theorem dX9_ways_39 : decode cX9_ways 39 = .ok (.aload_n 3, 1) := by decide +kernel
theorem dX9_ways_40 : decode cX9_ways 40 = .ok (.getfield 159, 3) := by decide +kernel
theorem dX9_ways_43 : decode cX9_ways 43 = .ok (.istore 4, 2) := by decide +kernel
theorem dX9_ways_45 : decode cX9_ways 45 = .ok (.aload_n 3, 1) := by decide +kernel
theorem dX9_ways_46 : decode cX9_ways 46 = .ok (.iload_n 2, 1) := by decide +kernel
theorem dX9_ways_47 : decode cX9_ways 47 = .ok (.invokevirtual 203, 3) := by decide +kernel
theorem dX9_ways_50 : decode cX9_ways 50 = .ok (.iload 4, 2) := by decide +kernel
theorem dX9_ways_52 : decode cX9_ways 52 = .ok (.ireturn, 1) := by decide +kernel
theorem lk_X9_200 : LkV RX9 200 RX2 yX2_isFreeFrom cX2_isFreeFrom 2 (some .boolean) 1 := LkV.of 673 674 675 63 676 (by decide +kernel) (by decide +kernel) (by decide +kernel) (by decide +kernel) (by decide +kernel) (by decide +kernel)
theorem lk_X9_203 : LkV RX9 203 RX2 yX2_resize cX2_resize 3 none 1 := LkV.of 677 565 566 63 567 (by decide +kernel) (by decide +kernel) (by decide +kernel) (by decide +kernel) (by decide +kernel) (by decide +kernel)
set_option maxRecDepth 100000 in
set_option maxHeartbeats 4000000 in
theorem S_X9_ways {ω : WD} {l1 : Int32} {l2 : Int32} {M : Mem} {post : Int32 → Mem → Prop} (h : w_X9_ways l1 l2 M post) : MtI ω yX9_ways cX9_ways 5 (some .int) 1 [.ref (adr ω 0), .int l1, .int l2] M post := by
  refine MtI.start (ty := .int) rfl (by decide +kernel) (own := RX9) rfl (Nat.le_of_ble_eq_true rfl) (fun ρ C R => ?_)
  show G ω ρ M 0 [(0, .ref (adr ω 0)), (1, .int l1), (2, .int l2)] []
  refine G_iload_n C dX9_ways_0 1 rfl ?_
  refine G_scallI (As := [.int l1]) (rest := []) C dX9_ways_1 lk_X9_147 (Nat.le_of_ble_eq_true rfl) (Nat.le_of_ble_eq_true rfl) (Nat.le_of_ble_eq_true rfl) rfl (S_X9_isGroup h) (fun r2 M1 h => ?_)
  obtain ⟨h1, h2⟩ := h
  refine G_if_eq (tgt := 16) C dX9_ways_4 (by decide) (fun c => ?_) (fun c => ?_)
  · have h := h1 c
    clear h1 h2
    refine G_iconst (v := (-1)) C dX9_ways_16 (by decide) ?_
    exact R 17 _ _ _ dX9_ways_17 rfl h
  · have h := h2 c
    clear h1 h2
    refine G_iload_n C dX9_ways_7 2 rfl ?_
    obtain ⟨h1, h2⟩ := h
    refine G_if_lt (tgt := 16) C dX9_ways_8 (by decide) (fun c => ?_) (fun c => ?_)
    · have h := h1 c
      clear h1 h2
      refine G_iconst (v := (-1)) C dX9_ways_16 (by decide) ?_
      exact R 17 _ _ _ dX9_ways_17 rfl h
    · have h := h2 c
      clear h1 h2
      refine G_iload_n C dX9_ways_11 2 rfl ?_
      refine G_iconst (v := 4) C dX9_ways_12 (by decide) ?_
      obtain ⟨h1, h2⟩ := h
      refine G_icmp_le (tgt := 18) C dX9_ways_13 (by decide) (fun c => ?_) (fun c => ?_)
      · have h := h1 c
        clear h1 h2
        refine G_aload_n C dX9_ways_18 0 rfl ?_
        refine gf_X9_10 C dX9_ways_19 ?_
        refine gf_X9_150 C q1 dX9_ways_22 ?_
        refine G_iload_n C dX9_ways_25 1 rfl ?_
        obtain ⟨hi, h⟩ := h
        refine G_aldGroup C q6 hi dX9_ways_26 (G_rname (fun g3 eg3 => ?_))
        replace h := h g3 eg3
        have hg3 := el_13 q6 hi eg3
        refine G_astore_n C dX9_ways_27 (by decide) (lv' := [(3, .ref (adr ω g3)), (0, .ref (adr ω 0)), (1, .int l1), (2, .int l2)]) rfl ?_
        refine G_aload_n C dX9_ways_28 0 rfl ?_
        refine G_iload_n C dX9_ways_29 3 rfl ?_
        refine G_callI (As := [.int l2]) (rest := []) C dX9_ways_30 lk_X9_200 (Nat.le_of_ble_eq_true rfl) (Nat.le_of_ble_eq_true rfl) hg3 (by decide) rfl (Nat.le_of_ble_eq_true rfl) rfl (S_X2_isFreeFrom hg3 h) (fun r5 M4 h => ?_)
        obtain ⟨h1, h2⟩ := h
        refine G_if_ne (tgt := 39) C dX9_ways_33 (by decide) (fun c => ?_) (fun c => ?_)
        · have h := h1 c
          clear h1 h2
          refine G_aload_n C dX9_ways_39 0 rfl ?_
          refine gf_X9_159 C hg3 dX9_ways_40 ?_
          refine G_iname (fun v6 ev6 => ?_)
          replace h := h v6 ev6
          refine G_istore C dX9_ways_43 (by decide) (lv' := [(4, .int v6), (3, .ref (adr ω g3)), (0, .ref (adr ω 0)), (1, .int l1), (2, .int l2)]) rfl ?_
          refine G_aload_n C dX9_ways_45 1 rfl ?_
          refine G_iload_n C dX9_ways_46 4 rfl ?_
          refine G_callV (As := [.int l2]) (rest := []) C dX9_ways_47 lk_X9_203 (Nat.le_of_ble_eq_true rfl) (Nat.le_of_ble_eq_true rfl) hg3 (by decide) rfl (Nat.le_of_ble_eq_true rfl) rfl (S_X2_resize hg3 h) (fun M7 h => ?_)
          refine G_iload C dX9_ways_50 0 rfl ?_
          exact R 52 _ _ _ dX9_ways_52 rfl h
        · have h := h2 c
          clear h1 h2
          refine G_bipush (v := (-2)) C dX9_ways_36 (by decide) ?_
          exact R 38 _ _ _ dX9_ways_38 rfl h
      · have h := h2 c
        clear h1 h2
        refine G_iconst (v := (-1)) C dX9_ways_16 (by decide) ?_
        exact R 17 _ _ _ dX9_ways_17 rfl h
theorem dX9_dead_0 : decode cX9_dead 0 = .ok (.aload_n 0, 1) := by decide +kernel
theorem dX9_dead_1 : decode cX9_dead 1 = .ok (.iload_n 1, 1) := by decide +kernel
theorem dX9_dead_2 : decode cX9_dead 2 = .ok (.iload_n 2, 1) := by decide +kernel
theorem dX9_dead_3 : decode cX9_dead 3 = .ok (.invokevirtual 174, 3) := by decide +kernel
theorem dX9_dead_6 : decode cX9_dead 6 = .ok (.ifCond .ne 5, 3) := by decide +kernel
theorem dX9_dead_9 : decode cX9_dead 9 = .ok (.iconst (-1), 1) := by decide +kernel
theorem dX9_dead_10 : decode cX9_dead 10 = .ok (.ireturn, 1) := by decide +kernel
theorem dX9_dead_11 : decode cX9_dead 11 = .ok (.aload_n 0, 1) := by decide +kernel
theorem dX9_dead_12 : decode cX9_dead 12 = .ok (.getfield 10, 3) := by decide +kernel
theorem dX9_dead_15 : decode cX9_dead 15 = .ok (.getfield 150, 3) := by decide +kernel
theorem dX9_dead_18 : decode cX9_dead 18 = .ok (.iload_n 1, 1) := by decide +kernel
theorem dX9_dead_19 : decode cX9_dead 19 = .ok (.aaload, 1) := by decide +kernel
theorem dX9_dead_20 : decode cX9_dead 20 = .ok (.astore 4, 2) := by decide +kernel
theorem dX9_dead_22 : decode cX9_dead 22 = .ok (.aload 4, 2) := by decide +kernel
theorem dX9_dead_24 : decode cX9_dead 24 = .ok (.iload_n 2, 1) := by decide +kernel
theorem dX9_dead_25 : decode cX9_dead 25 = .ok (.invokevirtual 207, 3) := by decide +kernel
theorem dX9_dead_28 : decode cX9_dead 28 = .ok (.ifCond .eq 7, 3) := by decide +kernel
theorem dX9_dead_31 : decode cX9_dead 31 = .ok (.iconst 1, 1) := by decide +kernel
theorem dX9_dead_32 : decode cX9_dead 32 = .ok (.goto 4, 3) := by decide +kernel
theorem dX9_dead_35 : decode cX9_dead 35 = .ok (.iconst 0, 1) := by decide +kernel
theorem dX9_dead_36 : decode cX9_dead 36 = .ok (.istore 5, 2) := by decide +kernel
theorem dX9_dead_38 : decode cX9_dead 38 = .ok (.aload 4, 2) := by decide +kernel
theorem dX9_dead_40 : decode cX9_dead 40 = .ok (.iload_n 3, 1) := by decide +kernel
theorem dX9_dead_41 : decode cX9_dead 41 = .ok (.ifCond .eq 15, 3) := by decide +kernel
theorem dX9_dead_44 : decode cX9_dead 44 = .ok (.aload 4, 2) := by decide +kernel
theorem dX9_dead_46 : decode cX9_dead 46 = .ok (.getfield 162, 3) := by decide +kernel
theorem dX9_dead_49 : decode cX9_dead 49 = .ok (.iconst 1, 1) := by decide +kernel
theorem dX9_dead_50 : decode cX9_dead 50 = .ok (.iload_n 2, 1) := by decide +kernel
theorem dX9_dead_51 : decode cX9_dead 51 = .ok (.ishl, 1) := by decide +kernel
theorem dX9_dead_52 : decode cX9_dead 52 = .ok (.ior, 1) := by decide +kernel
theorem dX9_dead_53 : decode cX9_dead 53 = .ok (.goto 14, 3) := by decide +kernel
theorem dX9_dead_56 : decode cX9_dead 56 = .ok (.aload 4, 2) := by decide +kernel
theorem dX9_dead_58 : decode cX9_dead 58 = .ok (.getfield 162, 3) := by decide +kernel
theorem dX9_dead_61 : decode cX9_dead 61 = .ok (.iconst 1, 1) := by decide +kernel
theorem dX9_dead_62 : decode cX9_dead 62 = .ok (.iload_n 2, 1) := by decide +kernel
theorem dX9_dead_63 : decode cX9_dead 63 = .ok (.ishl, 1) := by decide +kernel
theorem dX9_dead_64 : decode cX9_dead 64 = .ok (.iconst (-1), 1) := by decide +kernel
theorem dX9_dead_65 : decode cX9_dead 65 = .ok (.ixor, 1) := by decide +kernel
theorem dX9_dead_66 : decode cX9_dead 66 = .ok (.iand, 1) := by decide +kernel
theorem dX9_dead_67 : decode cX9_dead 67 = .ok (.putfield 162, 3) := by decide +kernel
theorem dX9_dead_70 : decode cX9_dead 70 = .ok (.iload 5, 2) := by decide +kernel
theorem dX9_dead_72 : decode cX9_dead 72 = .ok (.ireturn, 1) := by decide +kernel
theorem pf_X9_162 {ω : WD} {ρ : FR} {M : Mem} {cc : ByteArray} {d n pc i : Nat} {lv : List (Nat × Value)} {rest : List Value} {v : Int32} (C : Cx ω ρ cc RX9 d n) (hk : isK 2 i) (hd : decode cc pc = .ok (.putfield 162, 3)) (k : ∀ M1, M1 = wr M i 2 v → G ω ρ M1 (pc + 3) lv rest) : G ω ρ M pc lv (.int v :: .ref (adr ω i) :: rest) := G_put (N := 6) (T := TX2) (C := RX2) (q := 2) (ty := .int) C hk (by decide) rfl in_X2 tyX2 tyX2_ok nmX2 (by decide) (tb_of 106 ⟨by decide +kernel, rfl⟩) rfl rfl (by decide +kernel) rfl rfl (fun _ _ => Nat.le_of_ble_eq_true rfl) (fun _ => rfl) hd (k _ rfl)
theorem lk_X9_207 : LkV RX9 207 RX2 yX2_isDead cX2_isDead 2 (some .boolean) 1 := LkV.of 682 683 684 63 685 (by decide +kernel) (by decide +kernel) (by decide +kernel) (by decide +kernel) (by decide +kernel) (by decide +kernel)
set_option maxRecDepth 100000 in
set_option maxHeartbeats 4000000 in
theorem s_X9_dead_J36 {ω : WD} {ρ : FR} {post : Int32 → Mem → Prop} (C : Cx ω ρ cX9_dead RX9 2 6) (R : RtI ω ρ cX9_dead .int post) {l2 : Int32} {l3 : Int32} {l4 : Nat} {s0 : Int32} {M : Mem} (hl4 : isK 2 l4) (h : w_X9_dead_J36 post l2 l3 l4 s0 M) : G ω ρ M 36 [(2, .int l2), (3, .int l3), (4, .ref (adr ω l4))] [.int s0] := by
  refine G_istore C dX9_dead_36 (by decide) (lv' := [(5, .int s0), (2, .int l2), (3, .int l3), (4, .ref (adr ω l4))]) rfl ?_
  refine G_aload C dX9_dead_38 3 rfl ?_
  refine G_iload_n C dX9_dead_40 2 rfl ?_
  obtain ⟨h1, h2⟩ := h
  refine G_if_eq (tgt := 56) C dX9_dead_41 (by decide) (fun c => ?_) (fun c => ?_)
  · have h := h1 c
    clear h1 h2
    refine G_aload C dX9_dead_56 3 rfl ?_
    refine gf_X9_162 C hl4 dX9_dead_58 ?_
    refine G_iconst (v := 1) C dX9_dead_61 (by decide) ?_
    refine G_iload_n C dX9_dead_62 1 rfl ?_
    refine G_ishl C dX9_dead_63 ?_
    refine G_iconst (v := (-1)) C dX9_dead_64 (by decide) ?_
    refine G_ixor C dX9_dead_65 ?_
    refine G_iand C dX9_dead_66 ?_
    refine pf_X9_162 C hl4 dX9_dead_67 (fun M1 eM1 => ?_)
    replace h := h M1 eM1
    refine G_iload C dX9_dead_70 0 rfl ?_
    exact R 72 _ _ _ dX9_dead_72 rfl h
  · have h := h2 c
    clear h1 h2
    refine G_aload C dX9_dead_44 3 rfl ?_
    refine gf_X9_162 C hl4 dX9_dead_46 ?_
    refine G_iconst (v := 1) C dX9_dead_49 (by decide) ?_
    refine G_iload_n C dX9_dead_50 1 rfl ?_
    refine G_ishl C dX9_dead_51 ?_
    refine G_ior C dX9_dead_52 ?_
    refine G_goto (tgt := 67) C dX9_dead_53 (by decide) ?_
    refine pf_X9_162 C hl4 dX9_dead_67 (fun M2 eM2 => ?_)
    replace h := h M2 eM2
    refine G_iload C dX9_dead_70 0 rfl ?_
    exact R 72 _ _ _ dX9_dead_72 rfl h
set_option maxRecDepth 100000 in
set_option maxHeartbeats 4000000 in
theorem S_X9_dead {ω : WD} {l1 : Int32} {l2 : Int32} {l3 : Int32} {M : Mem} {post : Int32 → Mem → Prop} (h : w_X9_dead l1 l2 l3 M post) : MtI ω yX9_dead cX9_dead 6 (some .int) 2 [.ref (adr ω 0), .int l1, .int l2, .int l3] M post := by
  refine MtI.start (ty := .int) rfl (by decide +kernel) (own := RX9) rfl (Nat.le_of_ble_eq_true rfl) (fun ρ C R => ?_)
  show G ω ρ M 0 [(0, .ref (adr ω 0)), (1, .int l1), (2, .int l2), (3, .int l3)] []
  refine G_aload_n C dX9_dead_0 0 rfl ?_
  refine G_iload_n C dX9_dead_1 1 rfl ?_
  refine G_iload_n C dX9_dead_2 2 rfl ?_
  refine G_callI (As := [.int l1, .int l2]) (rest := []) C dX9_dead_3 lk_X9_174 (Nat.le_of_ble_eq_true rfl) (Nat.le_of_ble_eq_true rfl) q0 (by decide) rfl (Nat.le_of_ble_eq_true rfl) rfl (S_X9_isWay h) (fun r4 M3 h => ?_)
  obtain ⟨h1, h2⟩ := h
  refine G_if_ne (tgt := 11) C dX9_dead_6 (by decide) (fun c => ?_) (fun c => ?_)
  · have h := h1 c
    clear h1 h2
    refine G_aload_n C dX9_dead_11 0 rfl ?_
    refine gf_X9_10 C dX9_dead_12 ?_
    refine gf_X9_150 C q1 dX9_dead_15 ?_
    refine G_iload_n C dX9_dead_18 1 rfl ?_
    obtain ⟨hi, h⟩ := h
    refine G_aldGroup C q6 hi dX9_dead_19 (G_rname (fun g5 eg5 => ?_))
    replace h := h g5 eg5
    have hg5 := el_13 q6 hi eg5
    refine G_astore C dX9_dead_20 (by decide) (lv' := [(4, .ref (adr ω g5)), (0, .ref (adr ω 0)), (1, .int l1), (2, .int l2), (3, .int l3)]) rfl ?_
    refine G_aload C dX9_dead_22 0 rfl ?_
    refine G_iload_n C dX9_dead_24 3 rfl ?_
    refine G_callI (As := [.int l2]) (rest := []) C dX9_dead_25 lk_X9_207 (Nat.le_of_ble_eq_true rfl) (Nat.le_of_ble_eq_true rfl) hg5 (by decide) rfl (Nat.le_of_ble_eq_true rfl) rfl (S_X2_isDead hg5 h) (fun r7 M6 h => ?_)
    obtain ⟨h1, h2⟩ := h
    refine G_if_eq (tgt := 35) C dX9_dead_28 (by decide) (fun c => ?_) (fun c => ?_)
    · have h := h1 c
      clear h1 h2
      refine G_iconst (v := 0) C dX9_dead_35 (by decide) ?_
      refine G_sub [3, 4, 0] (lv' := [(2, .int l2), (3, .int l3), (4, .ref (adr ω g5))]) rfl ?_
      exact s_X9_dead_J36 C R hg5 h
    · have h := h2 c
      clear h1 h2
      refine G_iconst (v := 1) C dX9_dead_31 (by decide) ?_
      refine G_goto (tgt := 36) C dX9_dead_32 (by decide) ?_
      refine G_sub [3, 4, 0] (lv' := [(2, .int l2), (3, .int l3), (4, .ref (adr ω g5))]) rfl ?_
      exact s_X9_dead_J36 C R hg5 h
  · have h := h2 c
    clear h1 h2
    refine G_iconst (v := (-1)) C dX9_dead_9 (by decide) ?_
    exact R 10 _ _ _ dX9_dead_10 rfl h
theorem dX9_plan_0 : decode cX9_plan 0 = .ok (.aload_n 0, 1) := by decide +kernel
theorem dX9_plan_1 : decode cX9_plan 1 = .ok (.getfield 10, 3) := by decide +kernel
theorem dX9_plan_4 : decode cX9_plan 4 = .ok (.iload_n 1, 1) := by decide +kernel
theorem dX9_plan_5 : decode cX9_plan 5 = .ok (.invokevirtual 131, 3) := by decide +kernel
theorem dX9_plan_8 : decode cX9_plan 8 = .ok (.ifCond .eq 10, 3) := by decide +kernel
theorem dX9_plan_11 : decode cX9_plan 11 = .ok (.iload_n 2, 1) := by decide +kernel
theorem dX9_plan_12 : decode cX9_plan 12 = .ok (.invokestatic 210, 3) := by decide +kernel
theorem dX9_plan_15 : decode cX9_plan 15 = .ok (.ifCond .ne 5, 3) := by decide +kernel
theorem dX9_plan_18 : decode cX9_plan 18 = .ok (.iconst (-1), 1) := by decide +kernel
theorem dX9_plan_19 : decode cX9_plan 19 = .ok (.ireturn, 1) := by decide +kernel
theorem dX9_plan_20 : decode cX9_plan 20 = .ok (.aload_n 0, 1) := by decide +kernel
theorem dX9_plan_21 : decode cX9_plan 21 = .ok (.getfield 19, 3) := by decide +kernel
theorem dX9_plan_24 : decode cX9_plan 24 = .ok (.getfield 121, 3) := by decide +kernel
theorem dX9_plan_27 : decode cX9_plan 27 = .ok (.bipush 8, 2) := by decide +kernel
theorem dX9_plan_29 : decode cX9_plan 29 = .ok (.if_icmp .lt 6, 3) := by decide +kernel
theorem dX9_plan_32 : decode cX9_plan 32 = .ok (.bipush (-3), 2) := by decide +kernel
theorem dX9_plan_34 : decode cX9_plan 34 = .ok (.ireturn, 1) := by decide +kernel
theorem dX9_plan_35 : decode cX9_plan 35 = .ok (.aload_n 0, 1) := by decide +kernel
theorem dX9_plan_36 : decode cX9_plan 36 = .ok (.getfield 19, 3) := by decide +kernel
theorem dX9_plan_39 : decode cX9_plan 39 = .ok (.iload_n 1, 1) := by decide +kernel
theorem dX9_plan_40 : decode cX9_plan 40 = .ok (.iload_n 2, 1) := by decide +kernel
theorem dX9_plan_41 : decode cX9_plan 41 = .ok (.invokevirtual 213, 3) := by decide +kernel
theorem dX9_plan_44 : decode cX9_plan 44 = .ok (.aload_n 0, 1) := by decide +kernel
theorem dX9_plan_45 : decode cX9_plan 45 = .ok (.getfield 19, 3) := by decide +kernel
theorem dX9_plan_48 : decode cX9_plan 48 = .ok (.getfield 121, 3) := by decide +kernel
theorem dX9_plan_51 : decode cX9_plan 51 = .ok (.ireturn, 1) := by decide +kernel
theorem lk_X9_210 : LkS RX9 210 yX9_isDialled cX9_isDialled 1 (some .boolean) 1 := LkS.of 690 577 61 578 (by decide +kernel) (by decide +kernel) (by decide +kernel) (by decide +kernel) (by decide +kernel)
theorem lk_X9_213 : LkV RX9 213 RX5 yX5_addAct cX5_addAct 3 none 2 := LkV.of 691 581 582 64 583 (by decide +kernel) (by decide +kernel) (by decide +kernel) (by decide +kernel) (by decide +kernel) (by decide +kernel)
set_option maxRecDepth 100000 in
set_option maxHeartbeats 4000000 in
theorem S_X9_plan {ω : WD} {l1 : Int32} {l2 : Int32} {M : Mem} {post : Int32 → Mem → Prop} (h : w_X9_plan l1 l2 M post) : MtI ω yX9_plan cX9_plan 3 (some .int) 2 [.ref (adr ω 0), .int l1, .int l2] M post := by
  refine MtI.start (ty := .int) rfl (by decide +kernel) (own := RX9) rfl (Nat.le_of_ble_eq_true rfl) (fun ρ C R => ?_)
  show G ω ρ M 0 [(0, .ref (adr ω 0)), (1, .int l1), (2, .int l2)] []
  refine G_aload_n C dX9_plan_0 0 rfl ?_
  refine gf_X9_10 C dX9_plan_1 ?_
  refine G_iload_n C dX9_plan_4 1 rfl ?_
  refine G_callI (As := [.int l1]) (rest := []) C dX9_plan_5 lk_X9_131 (Nat.le_of_ble_eq_true rfl) (Nat.le_of_ble_eq_true rfl) q1 (by decide) rfl (Nat.le_of_ble_eq_true rfl) rfl (S_X1_has q1 h) (fun r2 M1 h => ?_)
  obtain ⟨h1, h2⟩ := h
  refine G_if_eq (tgt := 18) C dX9_plan_8 (by decide) (fun c => ?_) (fun c => ?_)
  · have h := h1 c
    clear h1 h2
    refine G_iconst (v := (-1)) C dX9_plan_18 (by decide) ?_
    exact R 19 _ _ _ dX9_plan_19 rfl h
  · have h := h2 c
    clear h1 h2
    refine G_iload_n C dX9_plan_11 2 rfl ?_
    refine G_scallI (As := [.int l2]) (rest := []) C dX9_plan_12 lk_X9_210 (Nat.le_of_ble_eq_true rfl) (Nat.le_of_ble_eq_true rfl) (Nat.le_of_ble_eq_true rfl) rfl (S_X9_isDialled h) (fun r4 M3 h => ?_)
    obtain ⟨h1, h2⟩ := h
    refine G_if_ne (tgt := 20) C dX9_plan_15 (by decide) (fun c => ?_) (fun c => ?_)
    · have h := h1 c
      clear h1 h2
      refine G_aload_n C dX9_plan_20 0 rfl ?_
      refine gf_X9_19 C dX9_plan_21 ?_
      refine gf_X9_121 C q17 dX9_plan_24 ?_
      refine G_bipush (v := 8) C dX9_plan_27 (by decide) ?_
      obtain ⟨h1, h2⟩ := h
      refine G_icmp_lt (tgt := 35) C dX9_plan_29 (by decide) (fun c => ?_) (fun c => ?_)
      · have h := h1 c
        clear h1 h2
        refine G_aload_n C dX9_plan_35 0 rfl ?_
        refine gf_X9_19 C dX9_plan_36 ?_
        refine G_iload_n C dX9_plan_39 1 rfl ?_
        refine G_iload_n C dX9_plan_40 2 rfl ?_
        refine G_callV (As := [.int l1, .int l2]) (rest := []) C dX9_plan_41 lk_X9_213 (Nat.le_of_ble_eq_true rfl) (Nat.le_of_ble_eq_true rfl) q17 (by decide) rfl (Nat.le_of_ble_eq_true rfl) rfl (S_X5_addAct q17 h) (fun M5 h => ?_)
        refine G_aload_n C dX9_plan_44 0 rfl ?_
        refine gf_X9_19 C dX9_plan_45 ?_
        refine gf_X9_121 C q17 dX9_plan_48 ?_
        exact R 51 _ _ _ dX9_plan_51 rfl h
      · have h := h2 c
        clear h1 h2
        refine G_bipush (v := (-3)) C dX9_plan_32 (by decide) ?_
        exact R 34 _ _ _ dX9_plan_34 rfl h
    · have h := h2 c
      clear h1 h2
      refine G_iconst (v := (-1)) C dX9_plan_18 (by decide) ?_
      exact R 19 _ _ _ dX9_plan_19 rfl h
theorem dX9_cut_0 : decode cX9_cut 0 = .ok (.iload_n 1, 1) := by decide +kernel
theorem dX9_cut_1 : decode cX9_cut 1 = .ok (.ifCond .lt 14, 3) := by decide +kernel
theorem dX9_cut_4 : decode cX9_cut 4 = .ok (.iload_n 1, 1) := by decide +kernel
theorem dX9_cut_5 : decode cX9_cut 5 = .ok (.aload_n 0, 1) := by decide +kernel
theorem dX9_cut_6 : decode cX9_cut 6 = .ok (.getfield 19, 3) := by decide +kernel
theorem dX9_cut_9 : decode cX9_cut 9 = .ok (.getfield 121, 3) := by decide +kernel
theorem dX9_cut_12 : decode cX9_cut 12 = .ok (.if_icmp .le 5, 3) := by decide +kernel
theorem dX9_cut_15 : decode cX9_cut 15 = .ok (.iconst (-1), 1) := by decide +kernel
theorem dX9_cut_16 : decode cX9_cut 16 = .ok (.ireturn, 1) := by decide +kernel
theorem dX9_cut_17 : decode cX9_cut 17 = .ok (.aload_n 0, 1) := by decide +kernel
theorem dX9_cut_18 : decode cX9_cut 18 = .ok (.getfield 19, 3) := by decide +kernel
theorem dX9_cut_21 : decode cX9_cut 21 = .ok (.getfield 121, 3) := by decide +kernel
theorem dX9_cut_24 : decode cX9_cut 24 = .ok (.istore_n 2, 1) := by decide +kernel
theorem dX9_cut_25 : decode cX9_cut 25 = .ok (.aload_n 0, 1) := by decide +kernel
theorem dX9_cut_26 : decode cX9_cut 26 = .ok (.getfield 19, 3) := by decide +kernel
theorem dX9_cut_29 : decode cX9_cut 29 = .ok (.iload_n 1, 1) := by decide +kernel
theorem dX9_cut_30 : decode cX9_cut 30 = .ok (.putfield 121, 3) := by decide +kernel
theorem dX9_cut_33 : decode cX9_cut 33 = .ok (.iload_n 2, 1) := by decide +kernel
theorem dX9_cut_34 : decode cX9_cut 34 = .ok (.ireturn, 1) := by decide +kernel
theorem pf_X9_121 {ω : WD} {ρ : FR} {M : Mem} {cc : ByteArray} {d n pc i : Nat} {lv : List (Nat × Value)} {rest : List Value} {v : Int32} (C : Cx ω ρ cc RX9 d n) (hk : isK 5 i) (hd : decode cc pc = .ok (.putfield 121, 3)) (k : ∀ M1, M1 = wr M i 0 v → G ω ρ M1 (pc + 3) lv rest) : G ω ρ M pc lv (.int v :: .ref (adr ω i) :: rest) := G_put (N := 6) (T := TX5) (C := RX5) (q := 0) (ty := .int) C hk (by decide) rfl in_X5 tyX5 tyX5_ok nmX5 (by decide) (tb_of 176 ⟨by decide +kernel, rfl⟩) rfl rfl (by decide +kernel) rfl rfl (fun _ _ => Nat.le_of_ble_eq_true rfl) (fun _ => rfl) hd (k _ rfl)
set_option maxRecDepth 100000 in
set_option maxHeartbeats 4000000 in
theorem S_X9_cut {ω : WD} {l1 : Int32} {M : Mem} {post : Int32 → Mem → Prop} (h : w_X9_cut l1 M post) : MtI ω yX9_cut cX9_cut 3 (some .int) 0 [.ref (adr ω 0), .int l1] M post := by
  refine MtI.start (ty := .int) rfl (by decide +kernel) (own := RX9) rfl (Nat.le_of_ble_eq_true rfl) (fun ρ C R => ?_)
  show G ω ρ M 0 [(0, .ref (adr ω 0)), (1, .int l1)] []
  refine G_iload_n C dX9_cut_0 1 rfl ?_
  obtain ⟨h1, h2⟩ := h
  refine G_if_lt (tgt := 15) C dX9_cut_1 (by decide) (fun c => ?_) (fun c => ?_)
  · have h := h1 c
    clear h1 h2
    refine G_iconst (v := (-1)) C dX9_cut_15 (by decide) ?_
    exact R 16 _ _ _ dX9_cut_16 rfl h
  · have h := h2 c
    clear h1 h2
    refine G_iload_n C dX9_cut_4 1 rfl ?_
    refine G_aload_n C dX9_cut_5 0 rfl ?_
    refine gf_X9_19 C dX9_cut_6 ?_
    refine gf_X9_121 C q17 dX9_cut_9 ?_
    obtain ⟨h1, h2⟩ := h
    refine G_icmp_le (tgt := 17) C dX9_cut_12 (by decide) (fun c => ?_) (fun c => ?_)
    · have h := h1 c
      clear h1 h2
      refine G_aload_n C dX9_cut_17 0 rfl ?_
      refine gf_X9_19 C dX9_cut_18 ?_
      refine gf_X9_121 C q17 dX9_cut_21 ?_
      refine G_iname (fun v1 ev1 => ?_)
      replace h := h v1 ev1
      refine G_istore_n C dX9_cut_24 (by decide) (lv' := [(2, .int v1), (0, .ref (adr ω 0)), (1, .int l1)]) rfl ?_
      refine G_aload_n C dX9_cut_25 1 rfl ?_
      refine gf_X9_19 C dX9_cut_26 ?_
      refine G_iload_n C dX9_cut_29 2 rfl ?_
      refine pf_X9_121 C q17 dX9_cut_30 (fun M2 eM2 => ?_)
      replace h := h M2 eM2
      refine G_iload_n C dX9_cut_33 0 rfl ?_
      exact R 34 _ _ _ dX9_cut_34 rfl h
    · have h := h2 c
      clear h1 h2
      refine G_iconst (v := (-1)) C dX9_cut_15 (by decide) ?_
      exact R 16 _ _ _ dX9_cut_16 rfl h
theorem dX9_dialIn_0 : decode cX9_dialIn 0 = .ok (.aload_n 0, 1) := by decide +kernel
theorem dX9_dialIn_1 : decode cX9_dialIn 1 = .ok (.iload_n 1, 1) := by decide +kernel
theorem dX9_dialIn_2 : decode cX9_dialIn 2 = .ok (.invokevirtual 131, 3) := by decide +kernel
theorem dX9_dialIn_5 : decode cX9_dialIn 5 = .ok (.ifCond .eq 10, 3) := by decide +kernel
theorem dX9_dialIn_8 : decode cX9_dialIn 8 = .ok (.iload_n 2, 1) := by decide +kernel
theorem dX9_dialIn_9 : decode cX9_dialIn 9 = .ok (.invokestatic 193, 3) := by decide +kernel
theorem dX9_dialIn_12 : decode cX9_dialIn 12 = .ok (.ifCond .ne 5, 3) := by decide +kernel
theorem dX9_dialIn_15 : decode cX9_dialIn 15 = .ok (.iconst (-1), 1) := by decide +kernel
theorem dX9_dialIn_16 : decode cX9_dialIn 16 = .ok (.ireturn, 1) := by decide +kernel
theorem dX9_dialIn_17 : decode cX9_dialIn 17 = .ok (.aload_n 0, 1) := by decide +kernel
theorem dX9_dialIn_18 : decode cX9_dialIn 18 = .ok (.getfield 141, 3) := by decide +kernel
theorem dX9_dialIn_21 : decode cX9_dialIn 21 = .ok (.iload_n 1, 1) := by decide +kernel
theorem dX9_dialIn_22 : decode cX9_dialIn 22 = .ok (.iaload, 1) := by decide +kernel
theorem dX9_dialIn_23 : decode cX9_dialIn 23 = .ok (.ifCond .eq 6, 3) := by decide +kernel
theorem dX9_dialIn_26 : decode cX9_dialIn 26 = .ok (.bipush (-2), 2) := by decide +kernel
theorem dX9_dialIn_28 : decode cX9_dialIn 28 = .ok (.ireturn, 1) := by decide +kernel
theorem dX9_dialIn_29 : decode cX9_dialIn 29 = .ok (.aload_n 0, 1) := by decide +kernel
theorem dX9_dialIn_30 : decode cX9_dialIn 30 = .ok (.iload_n 1, 1) := by decide +kernel
theorem dX9_dialIn_31 : decode cX9_dialIn 31 = .ok (.iload_n 2, 1) := by decide +kernel
theorem dX9_dialIn_32 : decode cX9_dialIn 32 = .ok (.invokevirtual 330, 3) := by decide +kernel
theorem dX9_dialIn_35 : decode cX9_dialIn 35 = .ok (.ireturn, 1) := by decide +kernel
theorem lk_X9_330 : LkV RX9 330 RX1 yX1_ring cX1_ring 7 (some .int) 2 := LkV.of 703 704 705 62 706 (by decide +kernel) (by decide +kernel) (by decide +kernel) (by decide +kernel) (by decide +kernel) (by decide +kernel)
set_option maxRecDepth 100000 in
set_option maxHeartbeats 4000000 in
theorem S_X9_dialIn {ω : WD} {y : Nat} {l1 : Int32} {l2 : Int32} {M : Mem} {post : Int32 → Mem → Prop} (hy : isK 1 y) (h : w_X9_dialIn y l1 l2 M post) : MtI ω yX9_dialIn cX9_dialIn 3 (some .int) 3 [.ref (adr ω y), .int l1, .int l2] M post := by
  refine MtI.start (ty := .int) rfl (by decide +kernel) (own := RX9) rfl (Nat.le_of_ble_eq_true rfl) (fun ρ C R => ?_)
  show G ω ρ M 0 [(0, .ref (adr ω y)), (1, .int l1), (2, .int l2)] []
  refine G_aload_n C dX9_dialIn_0 0 rfl ?_
  refine G_iload_n C dX9_dialIn_1 1 rfl ?_
  refine G_callI (As := [.int l1]) (rest := []) C dX9_dialIn_2 lk_X9_131 (Nat.le_of_ble_eq_true rfl) (Nat.le_of_ble_eq_true rfl) hy (by decide) rfl (Nat.le_of_ble_eq_true rfl) rfl (S_X1_has hy h) (fun r2 M1 h => ?_)
  obtain ⟨h1, h2⟩ := h
  refine G_if_eq (tgt := 15) C dX9_dialIn_5 (by decide) (fun c => ?_) (fun c => ?_)
  · have h := h1 c
    clear h1 h2
    refine G_iconst (v := (-1)) C dX9_dialIn_15 (by decide) ?_
    exact R 16 _ _ _ dX9_dialIn_16 rfl h
  · have h := h2 c
    clear h1 h2
    refine G_iload_n C dX9_dialIn_8 2 rfl ?_
    refine G_scallI (As := [.int l2]) (rest := []) C dX9_dialIn_9 lk_X9_193 (Nat.le_of_ble_eq_true rfl) (Nat.le_of_ble_eq_true rfl) (Nat.le_of_ble_eq_true rfl) rfl (S_X9_isNumber h) (fun r4 M3 h => ?_)
    obtain ⟨h1, h2⟩ := h
    refine G_if_ne (tgt := 17) C dX9_dialIn_12 (by decide) (fun c => ?_) (fun c => ?_)
    · have h := h1 c
      clear h1 h2
      refine G_aload_n C dX9_dialIn_17 0 rfl ?_
      refine gf_X9_141 C hy dX9_dialIn_18 ?_
      refine G_iload_n C dX9_dialIn_21 1 rfl ?_
      obtain ⟨hi, h⟩ := h
      refine G_iald C (st_1_5 hy) hi rfl dX9_dialIn_22 ?_
      obtain ⟨h1, h2⟩ := h
      refine G_if_eq (tgt := 29) C dX9_dialIn_23 (by decide) (fun c => ?_) (fun c => ?_)
      · have h := h1 c
        clear h1 h2
        refine G_aload_n C dX9_dialIn_29 0 rfl ?_
        refine G_iload_n C dX9_dialIn_30 1 rfl ?_
        refine G_iload_n C dX9_dialIn_31 2 rfl ?_
        refine G_callI (As := [.int l1, .int l2]) (rest := []) C dX9_dialIn_32 lk_X9_330 (Nat.le_of_ble_eq_true rfl) (Nat.le_of_ble_eq_true rfl) hy (by decide) rfl (Nat.le_of_ble_eq_true rfl) rfl (S_X1_ring hy h) (fun r6 M5 h => ?_)
        exact R 35 _ _ _ dX9_dialIn_35 rfl h
      · have h := h2 c
        clear h1 h2
        refine G_bipush (v := (-2)) C dX9_dialIn_26 (by decide) ?_
        exact R 28 _ _ _ dX9_dialIn_28 rfl h
    · have h := h2 c
      clear h1 h2
      refine G_iconst (v := (-1)) C dX9_dialIn_15 (by decide) ?_
      exact R 16 _ _ _ dX9_dialIn_16 rfl h
theorem dX9_dial_0 : decode cX9_dial 0 = .ok (.aload_n 0, 1) := by decide +kernel
theorem dX9_dial_1 : decode cX9_dial 1 = .ok (.getfield 10, 3) := by decide +kernel
theorem dX9_dial_4 : decode cX9_dial 4 = .ok (.iload_n 1, 1) := by decide +kernel
theorem dX9_dial_5 : decode cX9_dial 5 = .ok (.iload_n 2, 1) := by decide +kernel
theorem dX9_dial_6 : decode cX9_dial 6 = .ok (.invokestatic 217, 3) := by decide +kernel
theorem dX9_dial_9 : decode cX9_dial 9 = .ok (.ireturn, 1) := by decide +kernel
theorem lk_X9_217 : LkS RX9 217 yX9_dialIn cX9_dialIn 3 (some .int) 3 := LkS.of 700 701 61 702 (by decide +kernel) (by decide +kernel) (by decide +kernel) (by decide +kernel) (by decide +kernel)
set_option maxRecDepth 100000 in
set_option maxHeartbeats 4000000 in
theorem S_X9_dial {ω : WD} {l1 : Int32} {l2 : Int32} {M : Mem} {post : Int32 → Mem → Prop} (h : w_X9_dial l1 l2 M post) : MtI ω yX9_dial cX9_dial 3 (some .int) 4 [.ref (adr ω 0), .int l1, .int l2] M post := by
  refine MtI.start (ty := .int) rfl (by decide +kernel) (own := RX9) rfl (Nat.le_of_ble_eq_true rfl) (fun ρ C R => ?_)
  show G ω ρ M 0 [(0, .ref (adr ω 0)), (1, .int l1), (2, .int l2)] []
  refine G_aload_n C dX9_dial_0 0 rfl ?_
  refine gf_X9_10 C dX9_dial_1 ?_
  refine G_iload_n C dX9_dial_4 1 rfl ?_
  refine G_iload_n C dX9_dial_5 2 rfl ?_
  refine G_scallI (As := [.ref (adr ω 1), .int l1, .int l2]) (rest := []) C dX9_dial_6 lk_X9_217 (Nat.le_of_ble_eq_true rfl) (Nat.le_of_ble_eq_true rfl) (Nat.le_of_ble_eq_true rfl) rfl (S_X9_dialIn q1 h) (fun r2 M1 h => ?_)
  exact R 9 _ _ _ dX9_dial_9 rfl h
theorem dX9_hangIn_0 : decode cX9_hangIn 0 = .ok (.aload_n 0, 1) := by decide +kernel
theorem dX9_hangIn_1 : decode cX9_hangIn 1 = .ok (.iload_n 1, 1) := by decide +kernel
theorem dX9_hangIn_2 : decode cX9_hangIn 2 = .ok (.invokevirtual 131, 3) := by decide +kernel
theorem dX9_hangIn_5 : decode cX9_hangIn 5 = .ok (.ifCond .ne 5, 3) := by decide +kernel
theorem dX9_hangIn_8 : decode cX9_hangIn 8 = .ok (.iconst (-1), 1) := by decide +kernel
theorem dX9_hangIn_9 : decode cX9_hangIn 9 = .ok (.ireturn, 1) := by decide +kernel
theorem dX9_hangIn_10 : decode cX9_hangIn 10 = .ok (.aload_n 0, 1) := by decide +kernel
theorem dX9_hangIn_11 : decode cX9_hangIn 11 = .ok (.getfield 141, 3) := by decide +kernel
theorem dX9_hangIn_14 : decode cX9_hangIn 14 = .ok (.iload_n 1, 1) := by decide +kernel
theorem dX9_hangIn_15 : decode cX9_hangIn 15 = .ok (.iaload, 1) := by decide +kernel
theorem dX9_hangIn_16 : decode cX9_hangIn 16 = .ok (.ifCond .ne 6, 3) := by decide +kernel
theorem dX9_hangIn_19 : decode cX9_hangIn 19 = .ok (.bipush (-2), 2) := by decide +kernel
theorem dX9_hangIn_21 : decode cX9_hangIn 21 = .ok (.ireturn, 1) := by decide +kernel
theorem dX9_hangIn_22 : decode cX9_hangIn 22 = .ok (.aload_n 0, 1) := by decide +kernel
theorem dX9_hangIn_23 : decode cX9_hangIn 23 = .ok (.iload_n 1, 1) := by decide +kernel
theorem dX9_hangIn_24 : decode cX9_hangIn 24 = .ok (.invokevirtual 327, 3) := by decide +kernel
theorem dX9_hangIn_27 : decode cX9_hangIn 27 = .ok (.ireturn, 1) := by decide +kernel
theorem lk_X9_327 : LkV RX9 327 RX1 yX1_part cX1_part 4 (some .int) 1 := LkV.of 721 722 723 62 724 (by decide +kernel) (by decide +kernel) (by decide +kernel) (by decide +kernel) (by decide +kernel) (by decide +kernel)
set_option maxRecDepth 100000 in
set_option maxHeartbeats 4000000 in
theorem S_X9_hangIn {ω : WD} {y : Nat} {l1 : Int32} {M : Mem} {post : Int32 → Mem → Prop} (hy : isK 1 y) (h : w_X9_hangIn y l1 M post) : MtI ω yX9_hangIn cX9_hangIn 2 (some .int) 2 [.ref (adr ω y), .int l1] M post := by
  refine MtI.start (ty := .int) rfl (by decide +kernel) (own := RX9) rfl (Nat.le_of_ble_eq_true rfl) (fun ρ C R => ?_)
  show G ω ρ M 0 [(0, .ref (adr ω y)), (1, .int l1)] []
  refine G_aload_n C dX9_hangIn_0 0 rfl ?_
  refine G_iload_n C dX9_hangIn_1 1 rfl ?_
  refine G_callI (As := [.int l1]) (rest := []) C dX9_hangIn_2 lk_X9_131 (Nat.le_of_ble_eq_true rfl) (Nat.le_of_ble_eq_true rfl) hy (by decide) rfl (Nat.le_of_ble_eq_true rfl) rfl (S_X1_has hy h) (fun r2 M1 h => ?_)
  obtain ⟨h1, h2⟩ := h
  refine G_if_ne (tgt := 10) C dX9_hangIn_5 (by decide) (fun c => ?_) (fun c => ?_)
  · have h := h1 c
    clear h1 h2
    refine G_aload_n C dX9_hangIn_10 0 rfl ?_
    refine gf_X9_141 C hy dX9_hangIn_11 ?_
    refine G_iload_n C dX9_hangIn_14 1 rfl ?_
    obtain ⟨hi, h⟩ := h
    refine G_iald C (st_1_5 hy) hi rfl dX9_hangIn_15 ?_
    obtain ⟨h1, h2⟩ := h
    refine G_if_ne (tgt := 22) C dX9_hangIn_16 (by decide) (fun c => ?_) (fun c => ?_)
    · have h := h1 c
      clear h1 h2
      refine G_aload_n C dX9_hangIn_22 0 rfl ?_
      refine G_iload_n C dX9_hangIn_23 1 rfl ?_
      refine G_callI (As := [.int l1]) (rest := []) C dX9_hangIn_24 lk_X9_327 (Nat.le_of_ble_eq_true rfl) (Nat.le_of_ble_eq_true rfl) hy (by decide) rfl (Nat.le_of_ble_eq_true rfl) rfl (S_X1_part hy h) (fun r4 M3 h => ?_)
      exact R 27 _ _ _ dX9_hangIn_27 rfl h
    · have h := h2 c
      clear h1 h2
      refine G_bipush (v := (-2)) C dX9_hangIn_19 (by decide) ?_
      exact R 21 _ _ _ dX9_hangIn_21 rfl h
  · have h := h2 c
    clear h1 h2
    refine G_iconst (v := (-1)) C dX9_hangIn_8 (by decide) ?_
    exact R 9 _ _ _ dX9_hangIn_9 rfl h
theorem dX9_hang_0 : decode cX9_hang 0 = .ok (.aload_n 0, 1) := by decide +kernel
theorem dX9_hang_1 : decode cX9_hang 1 = .ok (.getfield 10, 3) := by decide +kernel
theorem dX9_hang_4 : decode cX9_hang 4 = .ok (.iload_n 1, 1) := by decide +kernel
theorem dX9_hang_5 : decode cX9_hang 5 = .ok (.invokestatic 221, 3) := by decide +kernel
theorem dX9_hang_8 : decode cX9_hang 8 = .ok (.ireturn, 1) := by decide +kernel
theorem lk_X9_221 : LkS RX9 221 yX9_hangIn cX9_hangIn 2 (some .int) 2 := LkS.of 718 719 61 720 (by decide +kernel) (by decide +kernel) (by decide +kernel) (by decide +kernel) (by decide +kernel)
set_option maxRecDepth 100000 in
set_option maxHeartbeats 4000000 in
theorem S_X9_hang {ω : WD} {l1 : Int32} {M : Mem} {post : Int32 → Mem → Prop} (h : w_X9_hang l1 M post) : MtI ω yX9_hang cX9_hang 2 (some .int) 3 [.ref (adr ω 0), .int l1] M post := by
  refine MtI.start (ty := .int) rfl (by decide +kernel) (own := RX9) rfl (Nat.le_of_ble_eq_true rfl) (fun ρ C R => ?_)
  show G ω ρ M 0 [(0, .ref (adr ω 0)), (1, .int l1)] []
  refine G_aload_n C dX9_hang_0 0 rfl ?_
  refine gf_X9_10 C dX9_hang_1 ?_
  refine G_iload_n C dX9_hang_4 1 rfl ?_
  refine G_scallI (As := [.ref (adr ω 1), .int l1]) (rest := []) C dX9_hang_5 lk_X9_221 (Nat.le_of_ble_eq_true rfl) (Nat.le_of_ble_eq_true rfl) (Nat.le_of_ble_eq_true rfl) rfl (S_X9_hangIn q1 h) (fun r2 M1 h => ?_)
  exact R 8 _ _ _ dX9_hang_8 rfl h
theorem dX9_followAsIs_0 : decode cX9_followAsIs 0 = .ok (.aload_n 0, 1) := by decide +kernel
theorem dX9_followAsIs_1 : decode cX9_followAsIs 1 = .ok (.getfield 26, 3) := by decide +kernel
theorem dX9_followAsIs_4 : decode cX9_followAsIs 4 = .ok (.getfield 237, 3) := by decide +kernel
theorem dX9_followAsIs_7 : decode cX9_followAsIs 7 = .ok (.aload_n 0, 1) := by decide +kernel
theorem dX9_followAsIs_8 : decode cX9_followAsIs 8 = .ok (.getfield 10, 3) := by decide +kernel
theorem dX9_followAsIs_11 : decode cX9_followAsIs 11 = .ok (.invokevirtual 97, 3) := by decide +kernel
theorem dX9_followAsIs_14 : decode cX9_followAsIs 14 = .ok (.aload_n 0, 1) := by decide +kernel
theorem dX9_followAsIs_15 : decode cX9_followAsIs 15 = .ok (.getfield 26, 3) := by decide +kernel
theorem dX9_followAsIs_18 : decode cX9_followAsIs 18 = .ok (.aload_n 0, 1) := by decide +kernel
theorem dX9_followAsIs_19 : decode cX9_followAsIs 19 = .ok (.getfield 19, 3) := by decide +kernel
theorem dX9_followAsIs_22 : decode cX9_followAsIs 22 = .ok (.sipush 255, 3) := by decide +kernel
theorem dX9_followAsIs_25 : decode cX9_followAsIs 25 = .ok (.invokevirtual 244, 3) := by decide +kernel
theorem dX9_followAsIs_28 : decode cX9_followAsIs 28 = .ok (.return_, 1) := by decide +kernel
theorem gf_X9_26 {ω : WD} {ρ : FR} {M : Mem} {cc : ByteArray} {d n pc : Nat} {lv : List (Nat × Value)} {rest : List Value} (C : Cx ω ρ cc RX9 d n) (hd : decode cc pc = .ok (.getfield 26, 3)) (k : G ω ρ M (pc + 3) lv (.ref (adr ω 22) :: rest)) : G ω ρ M pc lv (.ref (adr ω 0) :: rest) := G_get (N := 11) (T := TX9) (C := RX9) (q := 2) C (q0 : isK 9 0) (by decide) rfl in_X9 (by decide) (tb_of 374 ⟨by decide +kernel, rfl⟩) rfl rfl hd k
theorem gf_X9_237 {ω : WD} {ρ : FR} {M : Mem} {cc : ByteArray} {d n pc : Nat} {lv : List (Nat × Value)} {rest : List Value} (C : Cx ω ρ cc RX9 d n) (hd : decode cc pc = .ok (.getfield 237, 3)) (k : G ω ρ M (pc + 3) lv (.ref (adr ω 23) :: rest)) : G ω ρ M pc lv (.ref (adr ω 22) :: rest) := G_get (N := 6) (T := TX8) (C := RX8) (q := 0) C (q22 : isK 8 22) (by decide) rfl in_X8 (by decide) (tb_of 216 ⟨by decide +kernel, rfl⟩) rfl rfl hd k
theorem lk_X9_244 : LkV RX9 244 RX8 yX8_follow cX8_follow 4 none 2 := LkV.of 733 734 735 65 736 (by decide +kernel) (by decide +kernel) (by decide +kernel) (by decide +kernel) (by decide +kernel) (by decide +kernel)
set_option maxRecDepth 100000 in
set_option maxHeartbeats 4000000 in
theorem S_X9_followAsIs {ω : WD} {M : Mem} {post : Mem → Prop} (h : w_X9_followAsIs M post) : MtV ω yX9_followAsIs cX9_followAsIs 1 none 5 [.ref (adr ω 0)] M post := by
  refine MtV.start rfl (by decide +kernel) (own := RX9) rfl (Nat.le_of_ble_eq_true rfl) (fun ρ C R => ?_)
  show G ω ρ M 0 [(0, .ref (adr ω 0))] []
  refine G_aload_n C dX9_followAsIs_0 0 rfl ?_
  refine gf_X9_26 C dX9_followAsIs_1 ?_
  refine gf_X9_237 C dX9_followAsIs_4 ?_
  refine G_aload_n C dX9_followAsIs_7 0 rfl ?_
  refine gf_X9_10 C dX9_followAsIs_8 ?_
  refine G_callV (As := [.ref (adr ω 1)]) (rest := []) C dX9_followAsIs_11 lk_X9_97 (Nat.le_of_ble_eq_true rfl) (Nat.le_of_ble_eq_true rfl) q23 (by decide) rfl (Nat.le_of_ble_eq_true rfl) rfl (S_X1_copyFrom q23 q1 h) (fun M1 h => ?_)
  refine G_aload_n C dX9_followAsIs_14 0 rfl ?_
  refine gf_X9_26 C dX9_followAsIs_15 ?_
  refine G_aload_n C dX9_followAsIs_18 0 rfl ?_
  refine gf_X9_19 C dX9_followAsIs_19 ?_
  refine G_sipush (v := 255) C dX9_followAsIs_22 (by decide) ?_
  refine G_callV (As := [.ref (adr ω 17), .int 255]) (rest := []) C dX9_followAsIs_25 lk_X9_244 (Nat.le_of_ble_eq_true rfl) (Nat.le_of_ble_eq_true rfl) q22 (by decide) rfl (Nat.le_of_ble_eq_true rfl) rfl (S_X8_follow h) (fun M2 h => ?_)
  exact R 28 _ _ dX9_followAsIs_28 h
theorem dX9_runs_0 : decode cX9_runs 0 = .ok (.iload_n 1, 1) := by decide +kernel
theorem dX9_runs_1 : decode cX9_runs 1 = .ok (.ifCond .lt 8, 3) := by decide +kernel
theorem dX9_runs_4 : decode cX9_runs 4 = .ok (.iload_n 1, 1) := by decide +kernel
theorem dX9_runs_5 : decode cX9_runs 5 = .ok (.iconst 4, 1) := by decide +kernel
theorem dX9_runs_6 : decode cX9_runs 6 = .ok (.if_icmp .le 5, 3) := by decide +kernel
theorem dX9_runs_9 : decode cX9_runs 9 = .ok (.iconst (-1), 1) := by decide +kernel
theorem dX9_runs_10 : decode cX9_runs 10 = .ok (.ireturn, 1) := by decide +kernel
theorem dX9_runs_11 : decode cX9_runs 11 = .ok (.aload_n 0, 1) := by decide +kernel
theorem dX9_runs_12 : decode cX9_runs 12 = .ok (.invokevirtual 225, 3) := by decide +kernel
theorem dX9_runs_15 : decode cX9_runs 15 = .ok (.iload_n 1, 1) := by decide +kernel
theorem dX9_runs_16 : decode cX9_runs 16 = .ok (.tableswitch 67 0 3 #[32, 40, 48, 56], 32) := by decide +kernel
theorem dX9_runs_48 : decode cX9_runs 48 = .ok (.aload_n 0, 1) := by decide +kernel
theorem dX9_runs_49 : decode cX9_runs 49 = .ok (.getfield 26, 3) := by decide +kernel
theorem dX9_runs_52 : decode cX9_runs 52 = .ok (.getfield 228, 3) := by decide +kernel
theorem dX9_runs_55 : decode cX9_runs 55 = .ok (.ireturn, 1) := by decide +kernel
theorem dX9_runs_56 : decode cX9_runs 56 = .ok (.aload_n 0, 1) := by decide +kernel
theorem dX9_runs_57 : decode cX9_runs 57 = .ok (.getfield 26, 3) := by decide +kernel
theorem dX9_runs_60 : decode cX9_runs 60 = .ok (.getfield 231, 3) := by decide +kernel
theorem dX9_runs_63 : decode cX9_runs 63 = .ok (.ireturn, 1) := by decide +kernel
theorem dX9_runs_64 : decode cX9_runs 64 = .ok (.aload_n 0, 1) := by decide +kernel
theorem dX9_runs_65 : decode cX9_runs 65 = .ok (.getfield 26, 3) := by decide +kernel
theorem dX9_runs_68 : decode cX9_runs 68 = .ok (.getfield 234, 3) := by decide +kernel
theorem dX9_runs_71 : decode cX9_runs 71 = .ok (.ireturn, 1) := by decide +kernel
theorem dX9_runs_72 : decode cX9_runs 72 = .ok (.aload_n 0, 1) := by decide +kernel
theorem dX9_runs_73 : decode cX9_runs 73 = .ok (.getfield 26, 3) := by decide +kernel
theorem dX9_runs_76 : decode cX9_runs 76 = .ok (.getfield 237, 3) := by decide +kernel
theorem dX9_runs_79 : decode cX9_runs 79 = .ok (.getfield 118, 3) := by decide +kernel
theorem dX9_runs_82 : decode cX9_runs 82 = .ok (.ireturn, 1) := by decide +kernel
theorem dX9_runs_83 : decode cX9_runs 83 = .ok (.aload_n 0, 1) := by decide +kernel
theorem dX9_runs_84 : decode cX9_runs 84 = .ok (.getfield 26, 3) := by decide +kernel
theorem dX9_runs_87 : decode cX9_runs 87 = .ok (.getfield 238, 3) := by decide +kernel
theorem dX9_runs_90 : decode cX9_runs 90 = .ok (.ireturn, 1) := by decide +kernel
theorem lk_X9_225 : LkV RX9 225 RX9 yX9_followAsIs cX9_followAsIs 1 none 0 := LkV.of 729 731 2 61 732 (by decide +kernel) (by decide +kernel) (by decide +kernel) (by decide +kernel) (by decide +kernel) (by decide +kernel)
theorem gf_X9_228 {ω : WD} {ρ : FR} {M : Mem} {cc : ByteArray} {d n pc : Nat} {lv : List (Nat × Value)} {rest : List Value} (C : Cx ω ρ cc RX9 d n) (hd : decode cc pc = .ok (.getfield 228, 3)) (k : G ω ρ M (pc + 3) lv (.int (rd M 22 2) :: rest)) : G ω ρ M pc lv (.ref (adr ω 22) :: rest) := G_get (N := 6) (T := TX8) (C := RX8) (q := 2) C (q22 : isK 8 22) (by decide) rfl in_X8 (by decide) (tb_of 220 ⟨by decide +kernel, rfl⟩) rfl rfl hd k
theorem gf_X9_231 {ω : WD} {ρ : FR} {M : Mem} {cc : ByteArray} {d n pc : Nat} {lv : List (Nat × Value)} {rest : List Value} (C : Cx ω ρ cc RX9 d n) (hd : decode cc pc = .ok (.getfield 231, 3)) (k : G ω ρ M (pc + 3) lv (.int (rd M 22 3) :: rest)) : G ω ρ M pc lv (.ref (adr ω 22) :: rest) := G_get (N := 6) (T := TX8) (C := RX8) (q := 3) C (q22 : isK 8 22) (by decide) rfl in_X8 (by decide) (tb_of 222 ⟨by decide +kernel, rfl⟩) rfl rfl hd k
theorem gf_X9_234 {ω : WD} {ρ : FR} {M : Mem} {cc : ByteArray} {d n pc : Nat} {lv : List (Nat × Value)} {rest : List Value} (C : Cx ω ρ cc RX9 d n) (hd : decode cc pc = .ok (.getfield 234, 3)) (k : G ω ρ M (pc + 3) lv (.int (rd M 22 4) :: rest)) : G ω ρ M pc lv (.ref (adr ω 22) :: rest) := G_get (N := 6) (T := TX8) (C := RX8) (q := 4) C (q22 : isK 8 22) (by decide) rfl in_X8 (by decide) (tb_of 224 ⟨by decide +kernel, rfl⟩) rfl rfl hd k
theorem gf_X9_238 {ω : WD} {ρ : FR} {M : Mem} {cc : ByteArray} {d n pc : Nat} {lv : List (Nat × Value)} {rest : List Value} (C : Cx ω ρ cc RX9 d n) (hd : decode cc pc = .ok (.getfield 238, 3)) (k : G ω ρ M (pc + 3) lv (.int (rd M 22 5) :: rest)) : G ω ρ M pc lv (.ref (adr ω 22) :: rest) := G_get (N := 6) (T := TX8) (C := RX8) (q := 5) C (q22 : isK 8 22) (by decide) rfl in_X8 (by decide) (tb_of 226 ⟨by decide +kernel, rfl⟩) rfl rfl hd k
set_option maxRecDepth 100000 in
set_option maxHeartbeats 4000000 in
theorem S_X9_runs {ω : WD} {l1 : Int32} {M : Mem} {post : Int32 → Mem → Prop} (h : w_X9_runs l1 M post) : MtI ω yX9_runs cX9_runs 2 (some .int) 6 [.ref (adr ω 0), .int l1] M post := by
  refine MtI.start (ty := .int) rfl (by decide +kernel) (own := RX9) rfl (Nat.le_of_ble_eq_true rfl) (fun ρ C R => ?_)
  show G ω ρ M 0 [(0, .ref (adr ω 0)), (1, .int l1)] []
  refine G_iload_n C dX9_runs_0 1 rfl ?_
  obtain ⟨h1, h2⟩ := h
  refine G_if_lt (tgt := 9) C dX9_runs_1 (by decide) (fun c => ?_) (fun c => ?_)
  · have h := h1 c
    clear h1 h2
    refine G_iconst (v := (-1)) C dX9_runs_9 (by decide) ?_
    exact R 10 _ _ _ dX9_runs_10 rfl h
  · have h := h2 c
    clear h1 h2
    refine G_iload_n C dX9_runs_4 1 rfl ?_
    refine G_iconst (v := 4) C dX9_runs_5 (by decide) ?_
    obtain ⟨h1, h2⟩ := h
    refine G_icmp_le (tgt := 11) C dX9_runs_6 (by decide) (fun c => ?_) (fun c => ?_)
    · have h := h1 c
      clear h1 h2
      refine G_aload_n C dX9_runs_11 0 rfl ?_
      refine G_callV (As := []) (rest := []) C dX9_runs_12 lk_X9_225 (Nat.le_of_ble_eq_true rfl) (Nat.le_of_ble_eq_true rfl) q0 (by decide) rfl (Nat.le_of_ble_eq_true rfl) rfl (S_X9_followAsIs h) (fun M1 h => ?_)
      refine G_iload_n C dX9_runs_15 1 rfl ?_
      obtain ⟨h0, h1, h2, h3, h4⟩ := h
      by_cases cd : (l1).toInt < 0 ∨ 3 < (l1).toInt
      · have h := h4 cd
        clear h0 h1 h2 h3 h4
        refine G_tableOut (tgt := 83) C dX9_runs_16 cd (by decide) ?_
        refine G_aload_n C dX9_runs_83 0 rfl ?_
        refine gf_X9_26 C dX9_runs_84 ?_
        refine gf_X9_238 C dX9_runs_87 ?_
        exact R 90 _ _ _ dX9_runs_90 rfl h
      · have cs : (l1).toInt = 0 ∨ (l1).toInt = 1 ∨ (l1).toInt = 2 ∨ (l1).toInt = 3 := by omega
        rcases cs with cs | cs | cs | cs
        · have h := h0 ((sw_toInt cs).trans (by decide))
          clear h0 h1 h2 h3 h4
          refine G_tableIn (tgt := 48) C dX9_runs_16 (by omega) (by omega) (by rw [cs]; rfl) (by decide) ?_
          refine G_aload_n C dX9_runs_48 0 rfl ?_
          refine gf_X9_26 C dX9_runs_49 ?_
          refine gf_X9_228 C dX9_runs_52 ?_
          exact R 55 _ _ _ dX9_runs_55 rfl h
        · have h := h1 ((sw_toInt cs).trans (by decide))
          clear h0 h1 h2 h3 h4
          refine G_tableIn (tgt := 56) C dX9_runs_16 (by omega) (by omega) (by rw [cs]; rfl) (by decide) ?_
          refine G_aload_n C dX9_runs_56 0 rfl ?_
          refine gf_X9_26 C dX9_runs_57 ?_
          refine gf_X9_231 C dX9_runs_60 ?_
          exact R 63 _ _ _ dX9_runs_63 rfl h
        · have h := h2 ((sw_toInt cs).trans (by decide))
          clear h0 h1 h2 h3 h4
          refine G_tableIn (tgt := 64) C dX9_runs_16 (by omega) (by omega) (by rw [cs]; rfl) (by decide) ?_
          refine G_aload_n C dX9_runs_64 0 rfl ?_
          refine gf_X9_26 C dX9_runs_65 ?_
          refine gf_X9_234 C dX9_runs_68 ?_
          exact R 71 _ _ _ dX9_runs_71 rfl h
        · have h := h3 ((sw_toInt cs).trans (by decide))
          clear h0 h1 h2 h3 h4
          refine G_tableIn (tgt := 72) C dX9_runs_16 (by omega) (by omega) (by rw [cs]; rfl) (by decide) ?_
          refine G_aload_n C dX9_runs_72 0 rfl ?_
          refine gf_X9_26 C dX9_runs_73 ?_
          refine gf_X9_237 C dX9_runs_76 ?_
          refine gf_X9_118 C q23 dX9_runs_79 ?_
          exact R 82 _ _ _ dX9_runs_82 rfl h
    · have h := h2 c
      clear h1 h2
      refine G_iconst (v := (-1)) C dX9_runs_9 (by decide) ?_
      exact R 10 _ _ _ dX9_runs_10 rfl h
theorem dX9_fate_0 : decode cX9_fate 0 = .ok (.aload_n 0, 1) := by decide +kernel
theorem dX9_fate_1 : decode cX9_fate 1 = .ok (.iload_n 1, 1) := by decide +kernel
theorem dX9_fate_2 : decode cX9_fate 2 = .ok (.invokevirtual 181, 3) := by decide +kernel
theorem dX9_fate_5 : decode cX9_fate 5 = .ok (.ifCond .ne 5, 3) := by decide +kernel
theorem dX9_fate_8 : decode cX9_fate 8 = .ok (.iconst (-1), 1) := by decide +kernel
theorem dX9_fate_9 : decode cX9_fate 9 = .ok (.ireturn, 1) := by decide +kernel
theorem dX9_fate_10 : decode cX9_fate 10 = .ok (.aload_n 0, 1) := by decide +kernel
theorem dX9_fate_11 : decode cX9_fate 11 = .ok (.invokevirtual 225, 3) := by decide +kernel
theorem dX9_fate_14 : decode cX9_fate 14 = .ok (.aload_n 0, 1) := by decide +kernel
theorem dX9_fate_15 : decode cX9_fate 15 = .ok (.getfield 26, 3) := by decide +kernel
theorem dX9_fate_18 : decode cX9_fate 18 = .ok (.getfield 241, 3) := by decide +kernel
theorem dX9_fate_21 : decode cX9_fate 21 = .ok (.iload_n 1, 1) := by decide +kernel
theorem dX9_fate_22 : decode cX9_fate 22 = .ok (.iaload, 1) := by decide +kernel
theorem dX9_fate_23 : decode cX9_fate 23 = .ok (.ireturn, 1) := by decide +kernel
theorem gf_X9_241 {ω : WD} {ρ : FR} {M : Mem} {cc : ByteArray} {d n pc : Nat} {lv : List (Nat × Value)} {rest : List Value} (C : Cx ω ρ cc RX9 d n) (hd : decode cc pc = .ok (.getfield 241, 3)) (k : G ω ρ M (pc + 3) lv (.ref (adr ω 39) :: rest)) : G ω ρ M pc lv (.ref (adr ω 22) :: rest) := G_get (N := 6) (T := TX8) (C := RX8) (q := 1) C (q22 : isK 8 22) (by decide) rfl in_X8 (by decide) (tb_of 218 ⟨by decide +kernel, rfl⟩) rfl rfl hd k
set_option maxRecDepth 100000 in
set_option maxHeartbeats 4000000 in
theorem S_X9_fate {ω : WD} {l1 : Int32} {M : Mem} {post : Int32 → Mem → Prop} (h : w_X9_fate l1 M post) : MtI ω yX9_fate cX9_fate 2 (some .int) 6 [.ref (adr ω 0), .int l1] M post := by
  refine MtI.start (ty := .int) rfl (by decide +kernel) (own := RX9) rfl (Nat.le_of_ble_eq_true rfl) (fun ρ C R => ?_)
  show G ω ρ M 0 [(0, .ref (adr ω 0)), (1, .int l1)] []
  refine G_aload_n C dX9_fate_0 0 rfl ?_
  refine G_iload_n C dX9_fate_1 1 rfl ?_
  refine G_callI (As := [.int l1]) (rest := []) C dX9_fate_2 lk_X9_181 (Nat.le_of_ble_eq_true rfl) (Nat.le_of_ble_eq_true rfl) q0 (by decide) rfl (Nat.le_of_ble_eq_true rfl) rfl (S_X9_isAct h) (fun r2 M1 h => ?_)
  obtain ⟨h1, h2⟩ := h
  refine G_if_ne (tgt := 10) C dX9_fate_5 (by decide) (fun c => ?_) (fun c => ?_)
  · have h := h1 c
    clear h1 h2
    refine G_aload_n C dX9_fate_10 0 rfl ?_
    refine G_callV (As := []) (rest := []) C dX9_fate_11 lk_X9_225 (Nat.le_of_ble_eq_true rfl) (Nat.le_of_ble_eq_true rfl) q0 (by decide) rfl (Nat.le_of_ble_eq_true rfl) rfl (S_X9_followAsIs h) (fun M3 h => ?_)
    refine G_aload_n C dX9_fate_14 0 rfl ?_
    refine gf_X9_26 C dX9_fate_15 ?_
    refine gf_X9_241 C dX9_fate_18 ?_
    refine G_iload_n C dX9_fate_21 1 rfl ?_
    obtain ⟨hi, h⟩ := h
    refine G_iald C q39 hi rfl dX9_fate_22 ?_
    exact R 23 _ _ _ dX9_fate_23 rfl h
  · have h := h2 c
    clear h1 h2
    refine G_iconst (v := (-1)) C dX9_fate_8 (by decide) ?_
    exact R 9 _ _ _ dX9_fate_9 rfl h
theorem dX9_ahead_0 : decode cX9_ahead 0 = .ok (.aload_n 0, 1) := by decide +kernel
theorem dX9_ahead_1 : decode cX9_ahead 1 = .ok (.getfield 10, 3) := by decide +kernel
theorem dX9_ahead_4 : decode cX9_ahead 4 = .ok (.iload_n 1, 1) := by decide +kernel
theorem dX9_ahead_5 : decode cX9_ahead 5 = .ok (.invokevirtual 131, 3) := by decide +kernel
theorem dX9_ahead_8 : decode cX9_ahead 8 = .ok (.ifCond .ne 5, 3) := by decide +kernel
theorem dX9_ahead_11 : decode cX9_ahead 11 = .ok (.iconst (-1), 1) := by decide +kernel
theorem dX9_ahead_12 : decode cX9_ahead 12 = .ok (.ireturn, 1) := by decide +kernel
theorem dX9_ahead_13 : decode cX9_ahead 13 = .ok (.aload_n 0, 1) := by decide +kernel
theorem dX9_ahead_14 : decode cX9_ahead 14 = .ok (.invokevirtual 225, 3) := by decide +kernel
theorem dX9_ahead_17 : decode cX9_ahead 17 = .ok (.aload_n 0, 1) := by decide +kernel
theorem dX9_ahead_18 : decode cX9_ahead 18 = .ok (.getfield 26, 3) := by decide +kernel
theorem dX9_ahead_21 : decode cX9_ahead 21 = .ok (.getfield 237, 3) := by decide +kernel
theorem dX9_ahead_24 : decode cX9_ahead 24 = .ok (.getfield 138, 3) := by decide +kernel
theorem dX9_ahead_27 : decode cX9_ahead 27 = .ok (.iload_n 1, 1) := by decide +kernel
theorem dX9_ahead_28 : decode cX9_ahead 28 = .ok (.iaload, 1) := by decide +kernel
theorem dX9_ahead_29 : decode cX9_ahead 29 = .ok (.ireturn, 1) := by decide +kernel
set_option maxRecDepth 100000 in
set_option maxHeartbeats 4000000 in
theorem S_X9_ahead {ω : WD} {l1 : Int32} {M : Mem} {post : Int32 → Mem → Prop} (h : w_X9_ahead l1 M post) : MtI ω yX9_ahead cX9_ahead 2 (some .int) 6 [.ref (adr ω 0), .int l1] M post := by
  refine MtI.start (ty := .int) rfl (by decide +kernel) (own := RX9) rfl (Nat.le_of_ble_eq_true rfl) (fun ρ C R => ?_)
  show G ω ρ M 0 [(0, .ref (adr ω 0)), (1, .int l1)] []
  refine G_aload_n C dX9_ahead_0 0 rfl ?_
  refine gf_X9_10 C dX9_ahead_1 ?_
  refine G_iload_n C dX9_ahead_4 1 rfl ?_
  refine G_callI (As := [.int l1]) (rest := []) C dX9_ahead_5 lk_X9_131 (Nat.le_of_ble_eq_true rfl) (Nat.le_of_ble_eq_true rfl) q1 (by decide) rfl (Nat.le_of_ble_eq_true rfl) rfl (S_X1_has q1 h) (fun r2 M1 h => ?_)
  obtain ⟨h1, h2⟩ := h
  refine G_if_ne (tgt := 13) C dX9_ahead_8 (by decide) (fun c => ?_) (fun c => ?_)
  · have h := h1 c
    clear h1 h2
    refine G_aload_n C dX9_ahead_13 0 rfl ?_
    refine G_callV (As := []) (rest := []) C dX9_ahead_14 lk_X9_225 (Nat.le_of_ble_eq_true rfl) (Nat.le_of_ble_eq_true rfl) q0 (by decide) rfl (Nat.le_of_ble_eq_true rfl) rfl (S_X9_followAsIs h) (fun M3 h => ?_)
    refine G_aload_n C dX9_ahead_17 0 rfl ?_
    refine gf_X9_26 C dX9_ahead_18 ?_
    refine gf_X9_237 C dX9_ahead_21 ?_
    refine gf_X9_138 C q23 dX9_ahead_24 ?_
    refine G_iload_n C dX9_ahead_27 1 rfl ?_
    obtain ⟨hi, h⟩ := h
    refine G_iald C q25 hi rfl dX9_ahead_28 ?_
    exact R 29 _ _ _ dX9_ahead_29 rfl h
  · have h := h2 c
    clear h1 h2
    refine G_iconst (v := (-1)) C dX9_ahead_11 (by decide) ?_
    exact R 12 _ _ _ dX9_ahead_12 rfl h
theorem dX9_need_0 : decode cX9_need 0 = .ok (.iload_n 1, 1) := by decide +kernel
theorem dX9_need_1 : decode cX9_need 1 = .ok (.invokestatic 147, 3) := by decide +kernel
theorem dX9_need_4 : decode cX9_need 4 = .ok (.ifCond .ne 5, 3) := by decide +kernel
theorem dX9_need_7 : decode cX9_need 7 = .ok (.iconst (-1), 1) := by decide +kernel
theorem dX9_need_8 : decode cX9_need 8 = .ok (.ireturn, 1) := by decide +kernel
theorem dX9_need_9 : decode cX9_need 9 = .ok (.iconst 0, 1) := by decide +kernel
theorem dX9_need_10 : decode cX9_need 10 = .ok (.istore_n 2, 1) := by decide +kernel
theorem dX9_need_11 : decode cX9_need 11 = .ok (.iload_n 2, 1) := by decide +kernel
theorem dX9_need_12 : decode cX9_need 12 = .ok (.iconst 4, 1) := by decide +kernel
theorem dX9_need_13 : decode cX9_need 13 = .ok (.if_icmp .gt 86, 3) := by decide +kernel
theorem dX9_need_16 : decode cX9_need 16 = .ok (.aload_n 0, 1) := by decide +kernel
theorem dX9_need_17 : decode cX9_need 17 = .ok (.getfield 10, 3) := by decide +kernel
theorem dX9_need_20 : decode cX9_need 20 = .ok (.getfield 150, 3) := by decide +kernel
theorem dX9_need_23 : decode cX9_need 23 = .ok (.iload_n 1, 1) := by decide +kernel
theorem dX9_need_24 : decode cX9_need 24 = .ok (.aaload, 1) := by decide +kernel
theorem dX9_need_25 : decode cX9_need 25 = .ok (.iload_n 2, 1) := by decide +kernel
theorem dX9_need_26 : decode cX9_need 26 = .ok (.invokevirtual 200, 3) := by decide +kernel
theorem dX9_need_29 : decode cX9_need 29 = .ok (.ifCond .eq 64, 3) := by decide +kernel
theorem dX9_need_32 : decode cX9_need 32 = .ok (.aload_n 0, 1) := by decide +kernel
theorem dX9_need_33 : decode cX9_need 33 = .ok (.getfield 26, 3) := by decide +kernel
theorem dX9_need_36 : decode cX9_need 36 = .ok (.getfield 237, 3) := by decide +kernel
theorem dX9_need_39 : decode cX9_need 39 = .ok (.aload_n 0, 1) := by decide +kernel
theorem dX9_need_40 : decode cX9_need 40 = .ok (.getfield 10, 3) := by decide +kernel
theorem dX9_need_43 : decode cX9_need 43 = .ok (.invokevirtual 97, 3) := by decide +kernel
theorem dX9_need_46 : decode cX9_need 46 = .ok (.aload_n 0, 1) := by decide +kernel
theorem dX9_need_47 : decode cX9_need 47 = .ok (.getfield 26, 3) := by decide +kernel
theorem dX9_need_50 : decode cX9_need 50 = .ok (.getfield 237, 3) := by decide +kernel
theorem dX9_need_53 : decode cX9_need 53 = .ok (.getfield 150, 3) := by decide +kernel
theorem dX9_need_56 : decode cX9_need 56 = .ok (.iload_n 1, 1) := by decide +kernel
theorem dX9_need_57 : decode cX9_need 57 = .ok (.aaload, 1) := by decide +kernel
theorem dX9_need_58 : decode cX9_need 58 = .ok (.iload_n 2, 1) := by decide +kernel
theorem dX9_need_59 : decode cX9_need 59 = .ok (.invokevirtual 203, 3) := by decide +kernel
theorem dX9_need_62 : decode cX9_need 62 = .ok (.aload_n 0, 1) := by decide +kernel
theorem dX9_need_63 : decode cX9_need 63 = .ok (.getfield 26, 3) := by decide +kernel
theorem dX9_need_66 : decode cX9_need 66 = .ok (.aload_n 0, 1) := by decide +kernel
theorem dX9_need_67 : decode cX9_need 67 = .ok (.getfield 19, 3) := by decide +kernel
theorem dX9_need_70 : decode cX9_need 70 = .ok (.sipush 255, 3) := by decide +kernel
theorem dX9_need_73 : decode cX9_need 73 = .ok (.invokevirtual 244, 3) := by decide +kernel
theorem dX9_need_76 : decode cX9_need 76 = .ok (.aload_n 0, 1) := by decide +kernel
theorem dX9_need_77 : decode cX9_need 77 = .ok (.getfield 26, 3) := by decide +kernel
theorem dX9_need_80 : decode cX9_need 80 = .ok (.aload_n 0, 1) := by decide +kernel
theorem dX9_need_81 : decode cX9_need 81 = .ok (.getfield 19, 3) := by decide +kernel
theorem dX9_need_84 : decode cX9_need 84 = .ok (.iload_n 1, 1) := by decide +kernel
theorem dX9_need_85 : decode cX9_need 85 = .ok (.invokevirtual 248, 3) := by decide +kernel
theorem dX9_need_88 : decode cX9_need 88 = .ok (.ifCond .ne 5, 3) := by decide +kernel
theorem dX9_need_91 : decode cX9_need 91 = .ok (.iload_n 2, 1) := by decide +kernel
theorem dX9_need_92 : decode cX9_need 92 = .ok (.ireturn, 1) := by decide +kernel
theorem dX9_need_93 : decode cX9_need 93 = .ok (.iinc 2 1, 3) := by decide +kernel
theorem dX9_need_96 : decode cX9_need 96 = .ok (.goto (-85), 3) := by decide +kernel
theorem dX9_need_99 : decode cX9_need 99 = .ok (.bipush (-4), 2) := by decide +kernel
theorem dX9_need_101 : decode cX9_need 101 = .ok (.ireturn, 1) := by decide +kernel
theorem lk_X9_248 : LkV RX9 248 RX8 yX8_wantedWayOf cX8_wantedWayOf 4 (some .boolean) 2 := LkV.of 759 760 761 65 762 (by decide +kernel) (by decide +kernel) (by decide +kernel) (by decide +kernel) (by decide +kernel) (by decide +kernel)
set_option maxRecDepth 100000 in
set_option maxHeartbeats 4000000 in
theorem s_X9_need_J93 {ω : WD} {ρ : FR} {post : Int32 → Mem → Prop} (C : Cx ω ρ cX9_need RX9 5 3) (R : RtI ω ρ cX9_need .int post) {K11 : Int32 → Mem → Prop} {l1 : Int32} {l2 : Int32} (k11 : ∀ (u2 : Int32) (M : Mem), K11 u2 M → G ω ρ M 11 [(0, .ref (adr ω 0)), (1, .int l1), (2, .int u2)] []) {M : Mem} (h : w_X9_need_J93 post K11 l1 l2 M) : G ω ρ M 93 [(0, .ref (adr ω 0)), (1, .int l1), (2, .int l2)] [] := by
  obtain ⟨v1, ev1⟩ : ∃ y : Int32, y = (l2 + 1) := ⟨_, rfl⟩
  replace h := h v1 ev1
  refine G_iinc C dX9_need_93 2 rfl (v := v1) (by rw [ev1]; rfl) (by decide) (lv' := [(2, .int v1), (0, .ref (adr ω 0)), (1, .int l1)]) rfl ?_
  refine G_goto (tgt := 11) C dX9_need_96 (by decide) ?_
  refine G_sub [1, 2, 0] (lv' := [(0, .ref (adr ω 0)), (1, .int l1), (2, .int v1)]) rfl ?_
  exact k11 _ _ h
set_option maxRecDepth 100000 in
set_option maxHeartbeats 4000000 in
theorem s_X9_need_L11 {ω : WD} {ρ : FR} {post : Int32 → Mem → Prop} (C : Cx ω ρ cX9_need RX9 5 3) (R : RtI ω ρ cX9_need .int post) {l1 : Int32} : ∀ (f : Nat) (l2 : Int32) (M : Mem), w_X9_need_L11 post l1 f l2 M → G ω ρ M 11 [(0, .ref (adr ω 0)), (1, .int l1), (2, .int l2)] [] := by
  intro f
  induction f with
  | zero => intro l2 M h; exact False.elim h
  | succ f k11 =>
    intro l2 M h
    refine G_iload_n C dX9_need_11 2 rfl ?_
    refine G_iconst (v := 4) C dX9_need_12 (by decide) ?_
    obtain ⟨h1, h2⟩ := h
    refine G_icmp_gt (tgt := 99) C dX9_need_13 (by decide) (fun c => ?_) (fun c => ?_)
    · have h := h1 c
      clear h1 h2
      refine G_bipush (v := (-4)) C dX9_need_99 (by decide) ?_
      exact R 101 _ _ _ dX9_need_101 rfl h
    · have h := h2 c
      clear h1 h2
      refine G_aload_n C dX9_need_16 0 rfl ?_
      refine gf_X9_10 C dX9_need_17 ?_
      refine gf_X9_150 C q1 dX9_need_20 ?_
      refine G_iload_n C dX9_need_23 1 rfl ?_
      obtain ⟨hi, h⟩ := h
      refine G_aldGroup C q6 hi dX9_need_24 (G_rname (fun g2 eg2 => ?_))
      replace h := h g2 eg2
      have hg2 := el_13 q6 hi eg2
      refine G_iload_n C dX9_need_25 2 rfl ?_
      refine G_callI (As := [.int l2]) (rest := []) C dX9_need_26 lk_X9_200 (Nat.le_of_ble_eq_true rfl) (Nat.le_of_ble_eq_true rfl) hg2 (by decide) rfl (Nat.le_of_ble_eq_true rfl) rfl (S_X2_isFreeFrom hg2 h) (fun r4 M3 h => ?_)
      obtain ⟨h1, h2⟩ := h
      refine G_if_eq (tgt := 93) C dX9_need_29 (by decide) (fun c => ?_) (fun c => ?_)
      · have h := h1 c
        clear h1 h2
        exact s_X9_need_J93 C R k11 h
      · have h := h2 c
        clear h1 h2
        refine G_aload_n C dX9_need_32 0 rfl ?_
        refine gf_X9_26 C dX9_need_33 ?_
        refine gf_X9_237 C dX9_need_36 ?_
        refine G_aload_n C dX9_need_39 0 rfl ?_
        refine gf_X9_10 C dX9_need_40 ?_
        refine G_callV (As := [.ref (adr ω 1)]) (rest := []) C dX9_need_43 lk_X9_97 (Nat.le_of_ble_eq_true rfl) (Nat.le_of_ble_eq_true rfl) q23 (by decide) rfl (Nat.le_of_ble_eq_true rfl) rfl (S_X1_copyFrom q23 q1 h) (fun M5 h => ?_)
        refine G_aload_n C dX9_need_46 0 rfl ?_
        refine gf_X9_26 C dX9_need_47 ?_
        refine gf_X9_237 C dX9_need_50 ?_
        refine gf_X9_150 C q23 dX9_need_53 ?_
        refine G_iload_n C dX9_need_56 1 rfl ?_
        obtain ⟨hi, h⟩ := h
        refine G_aldGroup C q28 hi dX9_need_57 (G_rname (fun g6 eg6 => ?_))
        replace h := h g6 eg6
        have hg6 := el_13 q28 hi eg6
        refine G_iload_n C dX9_need_58 2 rfl ?_
        refine G_callV (As := [.int l2]) (rest := []) C dX9_need_59 lk_X9_203 (Nat.le_of_ble_eq_true rfl) (Nat.le_of_ble_eq_true rfl) hg6 (by decide) rfl (Nat.le_of_ble_eq_true rfl) rfl (S_X2_resize hg6 h) (fun M7 h => ?_)
        refine G_aload_n C dX9_need_62 0 rfl ?_
        refine gf_X9_26 C dX9_need_63 ?_
        refine G_aload_n C dX9_need_66 0 rfl ?_
        refine gf_X9_19 C dX9_need_67 ?_
        refine G_sipush (v := 255) C dX9_need_70 (by decide) ?_
        refine G_callV (As := [.ref (adr ω 17), .int 255]) (rest := []) C dX9_need_73 lk_X9_244 (Nat.le_of_ble_eq_true rfl) (Nat.le_of_ble_eq_true rfl) q22 (by decide) rfl (Nat.le_of_ble_eq_true rfl) rfl (S_X8_follow h) (fun M8 h => ?_)
        refine G_aload_n C dX9_need_76 0 rfl ?_
        refine gf_X9_26 C dX9_need_77 ?_
        refine G_aload_n C dX9_need_80 0 rfl ?_
        refine gf_X9_19 C dX9_need_81 ?_
        refine G_iload_n C dX9_need_84 1 rfl ?_
        refine G_callI (As := [.ref (adr ω 17), .int l1]) (rest := []) C dX9_need_85 lk_X9_248 (Nat.le_of_ble_eq_true rfl) (Nat.le_of_ble_eq_true rfl) q22 (by decide) rfl (Nat.le_of_ble_eq_true rfl) rfl (S_X8_wantedWayOf h) (fun r10 M9 h => ?_)
        obtain ⟨h1, h2⟩ := h
        refine G_if_ne (tgt := 93) C dX9_need_88 (by decide) (fun c => ?_) (fun c => ?_)
        · have h := h1 c
          clear h1 h2
          exact s_X9_need_J93 C R k11 h
        · have h := h2 c
          clear h1 h2
          refine G_iload_n C dX9_need_91 2 rfl ?_
          exact R 92 _ _ _ dX9_need_92 rfl h
set_option maxRecDepth 100000 in
set_option maxHeartbeats 4000000 in
theorem S_X9_need {ω : WD} {l1 : Int32} {M : Mem} {post : Int32 → Mem → Prop} (h : w_X9_need l1 M post) : MtI ω yX9_need cX9_need 3 (some .int) 5 [.ref (adr ω 0), .int l1] M post := by
  refine MtI.start (ty := .int) rfl (by decide +kernel) (own := RX9) rfl (Nat.le_of_ble_eq_true rfl) (fun ρ C R => ?_)
  show G ω ρ M 0 [(0, .ref (adr ω 0)), (1, .int l1)] []
  refine G_iload_n C dX9_need_0 1 rfl ?_
  refine G_scallI (As := [.int l1]) (rest := []) C dX9_need_1 lk_X9_147 (Nat.le_of_ble_eq_true rfl) (Nat.le_of_ble_eq_true rfl) (Nat.le_of_ble_eq_true rfl) rfl (S_X9_isGroup h) (fun r12 M11 h => ?_)
  obtain ⟨h1, h2⟩ := h
  refine G_if_ne (tgt := 9) C dX9_need_4 (by decide) (fun c => ?_) (fun c => ?_)
  · have h := h1 c
    clear h1 h2
    refine G_iconst (v := 0) C dX9_need_9 (by decide) ?_
    refine G_istore_n C dX9_need_10 (by decide) (lv' := [(2, .int 0), (0, .ref (adr ω 0)), (1, .int l1)]) rfl ?_
    refine G_sub [1, 2, 0] (lv' := [(0, .ref (adr ω 0)), (1, .int l1), (2, .int 0)]) rfl ?_
    obtain ⟨f, h⟩ := h
    exact s_X9_need_L11 C R  f _ _ h
  · have h := h2 c
    clear h1 h2
    refine G_iconst (v := (-1)) C dX9_need_7 (by decide) ?_
    exact R 8 _ _ _ dX9_need_8 rfl h
theorem dX9_few_0 : decode cX9_few 0 = .ok (.iconst 1, 1) := by decide +kernel
theorem dX9_few_1 : decode cX9_few 1 = .ok (.aload_n 0, 1) := by decide +kernel
theorem dX9_few_2 : decode cX9_few 2 = .ok (.getfield 10, 3) := by decide +kernel
theorem dX9_few_5 : decode cX9_few 5 = .ok (.getfield 118, 3) := by decide +kernel
theorem dX9_few_8 : decode cX9_few 8 = .ok (.invokestatic 252, 3) := by decide +kernel
theorem dX9_few_11 : decode cX9_few 11 = .ok (.istore_n 1, 1) := by decide +kernel
theorem dX9_few_12 : decode cX9_few 12 = .ok (.iload_n 1, 1) := by decide +kernel
theorem dX9_few_13 : decode cX9_few 13 = .ok (.bipush 6, 2) := by decide +kernel
theorem dX9_few_15 : decode cX9_few 15 = .ok (.if_icmp .gt 64, 3) := by decide +kernel
theorem dX9_few_18 : decode cX9_few 18 = .ok (.aload_n 0, 1) := by decide +kernel
theorem dX9_few_19 : decode cX9_few 19 = .ok (.getfield 26, 3) := by decide +kernel
theorem dX9_few_22 : decode cX9_few 22 = .ok (.getfield 237, 3) := by decide +kernel
theorem dX9_few_25 : decode cX9_few 25 = .ok (.aload_n 0, 1) := by decide +kernel
theorem dX9_few_26 : decode cX9_few 26 = .ok (.getfield 10, 3) := by decide +kernel
theorem dX9_few_29 : decode cX9_few 29 = .ok (.invokevirtual 97, 3) := by decide +kernel
theorem dX9_few_32 : decode cX9_few 32 = .ok (.aload_n 0, 1) := by decide +kernel
theorem dX9_few_33 : decode cX9_few 33 = .ok (.getfield 26, 3) := by decide +kernel
theorem dX9_few_36 : decode cX9_few 36 = .ok (.getfield 237, 3) := by decide +kernel
theorem dX9_few_39 : decode cX9_few 39 = .ok (.iload_n 1, 1) := by decide +kernel
theorem dX9_few_40 : decode cX9_few 40 = .ok (.putfield 115, 3) := by decide +kernel
theorem dX9_few_43 : decode cX9_few 43 = .ok (.aload_n 0, 1) := by decide +kernel
theorem dX9_few_44 : decode cX9_few 44 = .ok (.getfield 26, 3) := by decide +kernel
theorem dX9_few_47 : decode cX9_few 47 = .ok (.aload_n 0, 1) := by decide +kernel
theorem dX9_few_48 : decode cX9_few 48 = .ok (.getfield 19, 3) := by decide +kernel
theorem dX9_few_51 : decode cX9_few 51 = .ok (.sipush 255, 3) := by decide +kernel
theorem dX9_few_54 : decode cX9_few 54 = .ok (.invokevirtual 244, 3) := by decide +kernel
theorem dX9_few_57 : decode cX9_few 57 = .ok (.aload_n 0, 1) := by decide +kernel
theorem dX9_few_58 : decode cX9_few 58 = .ok (.getfield 26, 3) := by decide +kernel
theorem dX9_few_61 : decode cX9_few 61 = .ok (.aload_n 0, 1) := by decide +kernel
theorem dX9_few_62 : decode cX9_few 62 = .ok (.getfield 19, 3) := by decide +kernel
theorem dX9_few_65 : decode cX9_few 65 = .ok (.invokevirtual 258, 3) := by decide +kernel
theorem dX9_few_68 : decode cX9_few 68 = .ok (.ifCond .ne 5, 3) := by decide +kernel
theorem dX9_few_71 : decode cX9_few 71 = .ok (.iload_n 1, 1) := by decide +kernel
theorem dX9_few_72 : decode cX9_few 72 = .ok (.ireturn, 1) := by decide +kernel
theorem dX9_few_73 : decode cX9_few 73 = .ok (.iinc 1 1, 3) := by decide +kernel
theorem dX9_few_76 : decode cX9_few 76 = .ok (.goto (-64), 3) := by decide +kernel
theorem dX9_few_79 : decode cX9_few 79 = .ok (.bipush (-4), 2) := by decide +kernel
theorem dX9_few_81 : decode cX9_few 81 = .ok (.ireturn, 1) := by decide +kernel
theorem lk_X9_258 : LkV RX9 258 RX8 yX8_wantedFinder cX8_wantedFinder 3 (some .boolean) 1 := LkV.of 770 771 772 65 773 (by decide +kernel) (by decide +kernel) (by decide +kernel) (by decide +kernel) (by decide +kernel) (by decide +kernel)
set_option maxRecDepth 100000 in
set_option maxHeartbeats 4000000 in
theorem s_X9_few_L12 {ω : WD} {ρ : FR} {post : Int32 → Mem → Prop} (C : Cx ω ρ cX9_few RX9 5 2) (R : RtI ω ρ cX9_few .int post) : ∀ (f : Nat) (l1 : Int32) (M : Mem), w_X9_few_L12 post f l1 M → G ω ρ M 12 [(0, .ref (adr ω 0)), (1, .int l1)] [] := by
  intro f
  induction f with
  | zero => intro l1 M h; exact False.elim h
  | succ f k12 =>
    intro l1 M h
    refine G_iload_n C dX9_few_12 1 rfl ?_
    refine G_bipush (v := 6) C dX9_few_13 (by decide) ?_
    obtain ⟨h1, h2⟩ := h
    refine G_icmp_gt (tgt := 79) C dX9_few_15 (by decide) (fun c => ?_) (fun c => ?_)
    · have h := h1 c
      clear h1 h2
      refine G_bipush (v := (-4)) C dX9_few_79 (by decide) ?_
      exact R 81 _ _ _ dX9_few_81 rfl h
    · have h := h2 c
      clear h1 h2
      refine G_aload_n C dX9_few_18 0 rfl ?_
      refine gf_X9_26 C dX9_few_19 ?_
      refine gf_X9_237 C dX9_few_22 ?_
      refine G_aload_n C dX9_few_25 0 rfl ?_
      refine gf_X9_10 C dX9_few_26 ?_
      refine G_callV (As := [.ref (adr ω 1)]) (rest := []) C dX9_few_29 lk_X9_97 (Nat.le_of_ble_eq_true rfl) (Nat.le_of_ble_eq_true rfl) q23 (by decide) rfl (Nat.le_of_ble_eq_true rfl) rfl (S_X1_copyFrom q23 q1 h) (fun M1 h => ?_)
      refine G_aload_n C dX9_few_32 0 rfl ?_
      refine gf_X9_26 C dX9_few_33 ?_
      refine gf_X9_237 C dX9_few_36 ?_
      refine G_iload_n C dX9_few_39 1 rfl ?_
      refine pf_X9_115 C q23 dX9_few_40 (fun M2 eM2 => ?_)
      replace h := h M2 eM2
      refine G_aload_n C dX9_few_43 0 rfl ?_
      refine gf_X9_26 C dX9_few_44 ?_
      refine G_aload_n C dX9_few_47 0 rfl ?_
      refine gf_X9_19 C dX9_few_48 ?_
      refine G_sipush (v := 255) C dX9_few_51 (by decide) ?_
      refine G_callV (As := [.ref (adr ω 17), .int 255]) (rest := []) C dX9_few_54 lk_X9_244 (Nat.le_of_ble_eq_true rfl) (Nat.le_of_ble_eq_true rfl) q22 (by decide) rfl (Nat.le_of_ble_eq_true rfl) rfl (S_X8_follow h) (fun M3 h => ?_)
      refine G_aload_n C dX9_few_57 0 rfl ?_
      refine gf_X9_26 C dX9_few_58 ?_
      refine G_aload_n C dX9_few_61 0 rfl ?_
      refine gf_X9_19 C dX9_few_62 ?_
      refine G_callI (As := [.ref (adr ω 17)]) (rest := []) C dX9_few_65 lk_X9_258 (Nat.le_of_ble_eq_true rfl) (Nat.le_of_ble_eq_true rfl) q22 (by decide) rfl (Nat.le_of_ble_eq_true rfl) rfl (S_X8_wantedFinder h) (fun r5 M4 h => ?_)
      obtain ⟨h1, h2⟩ := h
      refine G_if_ne (tgt := 73) C dX9_few_68 (by decide) (fun c => ?_) (fun c => ?_)
      · have h := h1 c
        clear h1 h2
        obtain ⟨v6, ev6⟩ : ∃ y : Int32, y = (l1 + 1) := ⟨_, rfl⟩
        replace h := h v6 ev6
        refine G_iinc C dX9_few_73 1 rfl (v := v6) (by rw [ev6]; rfl) (by decide) (lv' := [(1, .int v6), (0, .ref (adr ω 0))]) rfl ?_
        refine G_goto (tgt := 12) C dX9_few_76 (by decide) ?_
        refine G_sub [1, 0] (lv' := [(0, .ref (adr ω 0)), (1, .int v6)]) rfl ?_
        exact k12 _ _ h
      · have h := h2 c
        clear h1 h2
        refine G_iload_n C dX9_few_71 1 rfl ?_
        exact R 72 _ _ _ dX9_few_72 rfl h
set_option maxRecDepth 100000 in
set_option maxHeartbeats 4000000 in
theorem S_X9_few {ω : WD} {M : Mem} {post : Int32 → Mem → Prop} (h : w_X9_few M post) : MtI ω yX9_few cX9_few 2 (some .int) 5 [.ref (adr ω 0)] M post := by
  refine MtI.start (ty := .int) rfl (by decide +kernel) (own := RX9) rfl (Nat.le_of_ble_eq_true rfl) (fun ρ C R => ?_)
  show G ω ρ M 0 [(0, .ref (adr ω 0))] []
  refine G_iconst (v := 1) C dX9_few_0 (by decide) ?_
  refine G_aload_n C dX9_few_1 0 rfl ?_
  refine gf_X9_10 C dX9_few_2 ?_
  refine gf_X9_118 C q1 dX9_few_5 ?_
  refine G_max C dX9_few_8 767 768 76 769 (by decide +kernel) (by decide +kernel) (by decide +kernel) (by decide +kernel) (Nat.le_of_ble_eq_true rfl) (Nat.le_of_ble_eq_true rfl) ?_
  refine G_iname (fun v7 ev7 => ?_)
  replace h := h v7 ev7
  refine G_istore_n C dX9_few_11 (by decide) (lv' := [(1, .int v7), (0, .ref (adr ω 0))]) rfl ?_
  refine G_sub [1, 0] (lv' := [(0, .ref (adr ω 0)), (1, .int v7)]) rfl ?_
  obtain ⟨f, h⟩ := h
  exact s_X9_few_L12 C R  f _ _ h
theorem dX9_followWithHunt_0 : decode cX9_followWithHunt 0 = .ok (.aload_n 0, 1) := by decide +kernel
theorem dX9_followWithHunt_1 : decode cX9_followWithHunt 1 = .ok (.getfield 26, 3) := by decide +kernel
theorem dX9_followWithHunt_4 : decode cX9_followWithHunt 4 = .ok (.getfield 237, 3) := by decide +kernel
theorem dX9_followWithHunt_7 : decode cX9_followWithHunt 7 = .ok (.aload_n 0, 1) := by decide +kernel
theorem dX9_followWithHunt_8 : decode cX9_followWithHunt 8 = .ok (.getfield 10, 3) := by decide +kernel
theorem dX9_followWithHunt_11 : decode cX9_followWithHunt 11 = .ok (.invokevirtual 97, 3) := by decide +kernel
theorem dX9_followWithHunt_14 : decode cX9_followWithHunt 14 = .ok (.aload_n 0, 1) := by decide +kernel
theorem dX9_followWithHunt_15 : decode cX9_followWithHunt 15 = .ok (.getfield 26, 3) := by decide +kernel
theorem dX9_followWithHunt_18 : decode cX9_followWithHunt 18 = .ok (.getfield 237, 3) := by decide +kernel
theorem dX9_followWithHunt_21 : decode cX9_followWithHunt 21 = .ok (.getfield 150, 3) := by decide +kernel
theorem dX9_followWithHunt_24 : decode cX9_followWithHunt 24 = .ok (.iload_n 1, 1) := by decide +kernel
theorem dX9_followWithHunt_25 : decode cX9_followWithHunt 25 = .ok (.aaload, 1) := by decide +kernel
theorem dX9_followWithHunt_26 : decode cX9_followWithHunt 26 = .ok (.iload_n 2, 1) := by decide +kernel
theorem dX9_followWithHunt_27 : decode cX9_followWithHunt 27 = .ok (.putfield 154, 3) := by decide +kernel
theorem dX9_followWithHunt_30 : decode cX9_followWithHunt 30 = .ok (.aload_n 0, 1) := by decide +kernel
theorem dX9_followWithHunt_31 : decode cX9_followWithHunt 31 = .ok (.getfield 26, 3) := by decide +kernel
theorem dX9_followWithHunt_34 : decode cX9_followWithHunt 34 = .ok (.aload_n 0, 1) := by decide +kernel
theorem dX9_followWithHunt_35 : decode cX9_followWithHunt 35 = .ok (.getfield 19, 3) := by decide +kernel
theorem dX9_followWithHunt_38 : decode cX9_followWithHunt 38 = .ok (.sipush 255, 3) := by decide +kernel
theorem dX9_followWithHunt_41 : decode cX9_followWithHunt 41 = .ok (.invokevirtual 244, 3) := by decide +kernel
theorem dX9_followWithHunt_44 : decode cX9_followWithHunt 44 = .ok (.return_, 1) := by decide +kernel
set_option maxRecDepth 100000 in
set_option maxHeartbeats 4000000 in
theorem S_X9_followWithHunt {ω : WD} {l1 : Int32} {l2 : Int32} {M : Mem} {post : Mem → Prop} (h : w_X9_followWithHunt l1 l2 M post) : MtV ω yX9_followWithHunt cX9_followWithHunt 3 none 5 [.ref (adr ω 0), .int l1, .int l2] M post := by
  refine MtV.start rfl (by decide +kernel) (own := RX9) rfl (Nat.le_of_ble_eq_true rfl) (fun ρ C R => ?_)
  show G ω ρ M 0 [(0, .ref (adr ω 0)), (1, .int l1), (2, .int l2)] []
  refine G_aload_n C dX9_followWithHunt_0 0 rfl ?_
  refine gf_X9_26 C dX9_followWithHunt_1 ?_
  refine gf_X9_237 C dX9_followWithHunt_4 ?_
  refine G_aload_n C dX9_followWithHunt_7 0 rfl ?_
  refine gf_X9_10 C dX9_followWithHunt_8 ?_
  refine G_callV (As := [.ref (adr ω 1)]) (rest := []) C dX9_followWithHunt_11 lk_X9_97 (Nat.le_of_ble_eq_true rfl) (Nat.le_of_ble_eq_true rfl) q23 (by decide) rfl (Nat.le_of_ble_eq_true rfl) rfl (S_X1_copyFrom q23 q1 h) (fun M1 h => ?_)
  refine G_aload_n C dX9_followWithHunt_14 0 rfl ?_
  refine gf_X9_26 C dX9_followWithHunt_15 ?_
  refine gf_X9_237 C dX9_followWithHunt_18 ?_
  refine gf_X9_150 C q23 dX9_followWithHunt_21 ?_
  refine G_iload_n C dX9_followWithHunt_24 1 rfl ?_
  obtain ⟨hi, h⟩ := h
  refine G_aldGroup C q28 hi dX9_followWithHunt_25 (G_rname (fun g2 eg2 => ?_))
  replace h := h g2 eg2
  have hg2 := el_13 q28 hi eg2
  refine G_iload_n C dX9_followWithHunt_26 2 rfl ?_
  refine pf_X9_154 C hg2 dX9_followWithHunt_27 (fun M3 eM3 => ?_)
  replace h := h M3 eM3
  refine G_aload_n C dX9_followWithHunt_30 0 rfl ?_
  refine gf_X9_26 C dX9_followWithHunt_31 ?_
  refine G_aload_n C dX9_followWithHunt_34 0 rfl ?_
  refine gf_X9_19 C dX9_followWithHunt_35 ?_
  refine G_sipush (v := 255) C dX9_followWithHunt_38 (by decide) ?_
  refine G_callV (As := [.ref (adr ω 17), .int 255]) (rest := []) C dX9_followWithHunt_41 lk_X9_244 (Nat.le_of_ble_eq_true rfl) (Nat.le_of_ble_eq_true rfl) q22 (by decide) rfl (Nat.le_of_ble_eq_true rfl) rfl (S_X8_follow h) (fun M4 h => ?_)
  exact R 44 _ _ dX9_followWithHunt_44 h
theorem dX9_grade_0 : decode cX9_grade 0 = .ok (.iload_n 1, 1) := by decide +kernel
theorem dX9_grade_1 : decode cX9_grade 1 = .ok (.invokestatic 147, 3) := by decide +kernel
theorem dX9_grade_4 : decode cX9_grade 4 = .ok (.ifCond .eq 10, 3) := by decide +kernel
theorem dX9_grade_7 : decode cX9_grade 7 = .ok (.iload_n 2, 1) := by decide +kernel
theorem dX9_grade_8 : decode cX9_grade 8 = .ok (.invokestatic 184, 3) := by decide +kernel
theorem dX9_grade_11 : decode cX9_grade 11 = .ok (.ifCond .ne 5, 3) := by decide +kernel
theorem dX9_grade_14 : decode cX9_grade 14 = .ok (.iconst (-1), 1) := by decide +kernel
theorem dX9_grade_15 : decode cX9_grade 15 = .ok (.ireturn, 1) := by decide +kernel
theorem dX9_grade_16 : decode cX9_grade 16 = .ok (.aload_n 0, 1) := by decide +kernel
theorem dX9_grade_17 : decode cX9_grade 17 = .ok (.getfield 33, 3) := by decide +kernel
theorem dX9_grade_20 : decode cX9_grade 20 = .ok (.bipush 9, 2) := by decide +kernel
theorem dX9_grade_22 : decode cX9_grade 22 = .ok (.invokevirtual 262, 3) := by decide +kernel
theorem dX9_grade_25 : decode cX9_grade 25 = .ok (.iconst 0, 1) := by decide +kernel
theorem dX9_grade_26 : decode cX9_grade 26 = .ok (.istore_n 3, 1) := by decide +kernel
theorem dX9_grade_27 : decode cX9_grade 27 = .ok (.iload_n 3, 1) := by decide +kernel
theorem dX9_grade_28 : decode cX9_grade 28 = .ok (.iconst 3, 1) := by decide +kernel
theorem dX9_grade_29 : decode cX9_grade 29 = .ok (.if_icmp .gt 30, 3) := by decide +kernel
theorem dX9_grade_32 : decode cX9_grade 32 = .ok (.aload_n 0, 1) := by decide +kernel
theorem dX9_grade_33 : decode cX9_grade 33 = .ok (.iload_n 1, 1) := by decide +kernel
theorem dX9_grade_34 : decode cX9_grade 34 = .ok (.iload_n 3, 1) := by decide +kernel
theorem dX9_grade_35 : decode cX9_grade 35 = .ok (.invokevirtual 265, 3) := by decide +kernel
theorem dX9_grade_38 : decode cX9_grade 38 = .ok (.aload_n 0, 1) := by decide +kernel
theorem dX9_grade_39 : decode cX9_grade 39 = .ok (.getfield 33, 3) := by decide +kernel
theorem dX9_grade_42 : decode cX9_grade 42 = .ok (.iload_n 3, 1) := by decide +kernel
theorem dX9_grade_43 : decode cX9_grade 43 = .ok (.aload_n 0, 1) := by decide +kernel
theorem dX9_grade_44 : decode cX9_grade 44 = .ok (.getfield 26, 3) := by decide +kernel
theorem dX9_grade_47 : decode cX9_grade 47 = .ok (.getfield 231, 3) := by decide +kernel
theorem dX9_grade_50 : decode cX9_grade 50 = .ok (.invokevirtual 268, 3) := by decide +kernel
theorem dX9_grade_53 : decode cX9_grade 53 = .ok (.iinc 3 1, 3) := by decide +kernel
theorem dX9_grade_56 : decode cX9_grade 56 = .ok (.goto (-29), 3) := by decide +kernel
theorem dX9_grade_59 : decode cX9_grade 59 = .ok (.aload_n 0, 1) := by decide +kernel
theorem dX9_grade_60 : decode cX9_grade 60 = .ok (.getfield 33, 3) := by decide +kernel
theorem dX9_grade_63 : decode cX9_grade 63 = .ok (.iload_n 2, 1) := by decide +kernel
theorem dX9_grade_64 : decode cX9_grade 64 = .ok (.invokevirtual 271, 3) := by decide +kernel
theorem dX9_grade_67 : decode cX9_grade 67 = .ok (.ireturn, 1) := by decide +kernel
theorem gf_X9_33 {ω : WD} {ρ : FR} {M : Mem} {cc : ByteArray} {d n pc : Nat} {lv : List (Nat × Value)} {rest : List Value} (C : Cx ω ρ cc RX9 d n) (hd : decode cc pc = .ok (.getfield 33, 3)) (k : G ω ρ M (pc + 3) lv (.ref (adr ω 40) :: rest)) : G ω ρ M pc lv (.ref (adr ω 0) :: rest) := G_get (N := 11) (T := TX9) (C := RX9) (q := 3) C (q0 : isK 9 0) (by decide) rfl in_X9 (by decide) (tb_of 375 ⟨by decide +kernel, rfl⟩) rfl rfl hd k
theorem lk_X9_271 : LkV RX9 271 RX0 yX0_told cX0_told 2 (some .int) 1 := LkV.of 790 791 792 66 793 (by decide +kernel) (by decide +kernel) (by decide +kernel) (by decide +kernel) (by decide +kernel) (by decide +kernel)
theorem lk_X9_265 : LkV RX9 265 RX9 yX9_followWithHunt cX9_followWithHunt 3 none 2 := LkV.of 782 784 3 61 785 (by decide +kernel) (by decide +kernel) (by decide +kernel) (by decide +kernel) (by decide +kernel) (by decide +kernel)
theorem lk_X9_268 : LkV RX9 268 RX0 yX0_offer cX0_offer 3 none 2 := LkV.of 786 787 788 66 789 (by decide +kernel) (by decide +kernel) (by decide +kernel) (by decide +kernel) (by decide +kernel) (by decide +kernel)
theorem lk_X9_262 : LkV RX9 262 RX0 yX0_begin cX0_begin 2 none 1 := LkV.of 778 779 780 66 781 (by decide +kernel) (by decide +kernel) (by decide +kernel) (by decide +kernel) (by decide +kernel) (by decide +kernel)
set_option maxRecDepth 100000 in
set_option maxHeartbeats 4000000 in
theorem s_X9_grade_L27 {ω : WD} {ρ : FR} {post : Int32 → Mem → Prop} (C : Cx ω ρ cX9_grade RX9 6 4) (R : RtI ω ρ cX9_grade .int post) {l1 : Int32} {l2 : Int32} : ∀ (f : Nat) (l3 : Int32) (M : Mem), w_X9_grade_L27 post l1 l2 f l3 M → G ω ρ M 27 [(0, .ref (adr ω 0)), (1, .int l1), (2, .int l2), (3, .int l3)] [] := by
  intro f
  induction f with
  | zero => intro l3 M h; exact False.elim h
  | succ f k27 =>
    intro l3 M h
    refine G_iload_n C dX9_grade_27 3 rfl ?_
    refine G_iconst (v := 3) C dX9_grade_28 (by decide) ?_
    obtain ⟨h1, h2⟩ := h
    refine G_icmp_gt (tgt := 59) C dX9_grade_29 (by decide) (fun c => ?_) (fun c => ?_)
    · have h := h1 c
      clear h1 h2
      refine G_aload_n C dX9_grade_59 0 rfl ?_
      refine gf_X9_33 C dX9_grade_60 ?_
      refine G_iload_n C dX9_grade_63 2 rfl ?_
      refine G_callI (As := [.int l2]) (rest := []) C dX9_grade_64 lk_X9_271 (Nat.le_of_ble_eq_true rfl) (Nat.le_of_ble_eq_true rfl) q40 (by decide) rfl (Nat.le_of_ble_eq_true rfl) rfl (S_X0_told h) (fun r2 M1 h => ?_)
      exact R 67 _ _ _ dX9_grade_67 rfl h
    · have h := h2 c
      clear h1 h2
      refine G_aload_n C dX9_grade_32 0 rfl ?_
      refine G_iload_n C dX9_grade_33 1 rfl ?_
      refine G_iload_n C dX9_grade_34 3 rfl ?_
      refine G_callV (As := [.int l1, .int l3]) (rest := []) C dX9_grade_35 lk_X9_265 (Nat.le_of_ble_eq_true rfl) (Nat.le_of_ble_eq_true rfl) q0 (by decide) rfl (Nat.le_of_ble_eq_true rfl) rfl (S_X9_followWithHunt h) (fun M3 h => ?_)
      refine G_aload_n C dX9_grade_38 0 rfl ?_
      refine gf_X9_33 C dX9_grade_39 ?_
      refine G_iload_n C dX9_grade_42 3 rfl ?_
      refine G_aload_n C dX9_grade_43 0 rfl ?_
      refine gf_X9_26 C dX9_grade_44 ?_
      refine gf_X9_231 C dX9_grade_47 ?_
      refine G_callV (As := [.int l3, .int (rd M3 22 3)]) (rest := []) C dX9_grade_50 lk_X9_268 (Nat.le_of_ble_eq_true rfl) (Nat.le_of_ble_eq_true rfl) q40 (by decide) rfl (Nat.le_of_ble_eq_true rfl) rfl (S_X0_offer h) (fun M4 h => ?_)
      obtain ⟨v5, ev5⟩ : ∃ y : Int32, y = (l3 + 1) := ⟨_, rfl⟩
      replace h := h v5 ev5
      refine G_iinc C dX9_grade_53 3 rfl (v := v5) (by rw [ev5]; rfl) (by decide) (lv' := [(3, .int v5), (0, .ref (adr ω 0)), (1, .int l1), (2, .int l2)]) rfl ?_
      refine G_goto (tgt := 27) C dX9_grade_56 (by decide) ?_
      refine G_sub [1, 2, 3, 0] (lv' := [(0, .ref (adr ω 0)), (1, .int l1), (2, .int l2), (3, .int v5)]) rfl ?_
      exact k27 _ _ h
set_option maxRecDepth 100000 in
set_option maxHeartbeats 4000000 in
theorem S_X9_grade {ω : WD} {l1 : Int32} {l2 : Int32} {M : Mem} {post : Int32 → Mem → Prop} (h : w_X9_grade l1 l2 M post) : MtI ω yX9_grade cX9_grade 4 (some .int) 6 [.ref (adr ω 0), .int l1, .int l2] M post := by
  refine MtI.start (ty := .int) rfl (by decide +kernel) (own := RX9) rfl (Nat.le_of_ble_eq_true rfl) (fun ρ C R => ?_)
  show G ω ρ M 0 [(0, .ref (adr ω 0)), (1, .int l1), (2, .int l2)] []
  refine G_iload_n C dX9_grade_0 1 rfl ?_
  refine G_scallI (As := [.int l1]) (rest := []) C dX9_grade_1 lk_X9_147 (Nat.le_of_ble_eq_true rfl) (Nat.le_of_ble_eq_true rfl) (Nat.le_of_ble_eq_true rfl) rfl (S_X9_isGroup h) (fun r7 M6 h => ?_)
  obtain ⟨h1, h2⟩ := h
  refine G_if_eq (tgt := 14) C dX9_grade_4 (by decide) (fun c => ?_) (fun c => ?_)
  · have h := h1 c
    clear h1 h2
    refine G_iconst (v := (-1)) C dX9_grade_14 (by decide) ?_
    exact R 15 _ _ _ dX9_grade_15 rfl h
  · have h := h2 c
    clear h1 h2
    refine G_iload_n C dX9_grade_7 2 rfl ?_
    refine G_scallI (As := [.int l2]) (rest := []) C dX9_grade_8 lk_X9_184 (Nat.le_of_ble_eq_true rfl) (Nat.le_of_ble_eq_true rfl) (Nat.le_of_ble_eq_true rfl) rfl (S_X9_isBit h) (fun r9 M8 h => ?_)
    obtain ⟨h1, h2⟩ := h
    refine G_if_ne (tgt := 16) C dX9_grade_11 (by decide) (fun c => ?_) (fun c => ?_)
    · have h := h1 c
      clear h1 h2
      refine G_aload_n C dX9_grade_16 0 rfl ?_
      refine gf_X9_33 C dX9_grade_17 ?_
      refine G_bipush (v := 9) C dX9_grade_20 (by decide) ?_
      refine G_callV (As := [.int 9]) (rest := []) C dX9_grade_22 lk_X9_262 (Nat.le_of_ble_eq_true rfl) (Nat.le_of_ble_eq_true rfl) q40 (by decide) rfl (Nat.le_of_ble_eq_true rfl) rfl (S_X0_begin h) (fun M10 h => ?_)
      refine G_iconst (v := 0) C dX9_grade_25 (by decide) ?_
      refine G_istore_n C dX9_grade_26 (by decide) (lv' := [(3, .int 0), (0, .ref (adr ω 0)), (1, .int l1), (2, .int l2)]) rfl ?_
      refine G_sub [1, 2, 3, 0] (lv' := [(0, .ref (adr ω 0)), (1, .int l1), (2, .int l2), (3, .int 0)]) rfl ?_
      obtain ⟨f, h⟩ := h
      exact s_X9_grade_L27 C R  f _ _ h
    · have h := h2 c
      clear h1 h2
      refine G_iconst (v := (-1)) C dX9_grade_14 (by decide) ?_
      exact R 15 _ _ _ dX9_grade_15 rfl h
theorem dX9_followWithSwap_0 : decode cX9_followWithSwap 0 = .ok (.aload_n 0, 1) := by decide +kernel
theorem dX9_followWithSwap_1 : decode cX9_followWithSwap 1 = .ok (.getfield 26, 3) := by decide +kernel
theorem dX9_followWithSwap_4 : decode cX9_followWithSwap 4 = .ok (.getfield 237, 3) := by decide +kernel
theorem dX9_followWithSwap_7 : decode cX9_followWithSwap 7 = .ok (.aload_n 0, 1) := by decide +kernel
theorem dX9_followWithSwap_8 : decode cX9_followWithSwap 8 = .ok (.getfield 10, 3) := by decide +kernel
theorem dX9_followWithSwap_11 : decode cX9_followWithSwap 11 = .ok (.invokevirtual 97, 3) := by decide +kernel
theorem dX9_followWithSwap_14 : decode cX9_followWithSwap 14 = .ok (.aload_n 0, 1) := by decide +kernel
theorem dX9_followWithSwap_15 : decode cX9_followWithSwap 15 = .ok (.getfield 26, 3) := by decide +kernel
theorem dX9_followWithSwap_18 : decode cX9_followWithSwap 18 = .ok (.getfield 237, 3) := by decide +kernel
theorem dX9_followWithSwap_21 : decode cX9_followWithSwap 21 = .ok (.getfield 135, 3) := by decide +kernel
theorem dX9_followWithSwap_24 : decode cX9_followWithSwap 24 = .ok (.iload_n 1, 1) := by decide +kernel
theorem dX9_followWithSwap_25 : decode cX9_followWithSwap 25 = .ok (.aload_n 0, 1) := by decide +kernel
theorem dX9_followWithSwap_26 : decode cX9_followWithSwap 26 = .ok (.getfield 10, 3) := by decide +kernel
theorem dX9_followWithSwap_29 : decode cX9_followWithSwap 29 = .ok (.getfield 135, 3) := by decide +kernel
theorem dX9_followWithSwap_32 : decode cX9_followWithSwap 32 = .ok (.iload_n 2, 1) := by decide +kernel
theorem dX9_followWithSwap_33 : decode cX9_followWithSwap 33 = .ok (.iaload, 1) := by decide +kernel
theorem dX9_followWithSwap_34 : decode cX9_followWithSwap 34 = .ok (.iastore, 1) := by decide +kernel
theorem dX9_followWithSwap_35 : decode cX9_followWithSwap 35 = .ok (.aload_n 0, 1) := by decide +kernel
theorem dX9_followWithSwap_36 : decode cX9_followWithSwap 36 = .ok (.getfield 26, 3) := by decide +kernel
theorem dX9_followWithSwap_39 : decode cX9_followWithSwap 39 = .ok (.getfield 237, 3) := by decide +kernel
theorem dX9_followWithSwap_42 : decode cX9_followWithSwap 42 = .ok (.getfield 135, 3) := by decide +kernel
theorem dX9_followWithSwap_45 : decode cX9_followWithSwap 45 = .ok (.iload_n 2, 1) := by decide +kernel
theorem dX9_followWithSwap_46 : decode cX9_followWithSwap 46 = .ok (.aload_n 0, 1) := by decide +kernel
theorem dX9_followWithSwap_47 : decode cX9_followWithSwap 47 = .ok (.getfield 10, 3) := by decide +kernel
theorem dX9_followWithSwap_50 : decode cX9_followWithSwap 50 = .ok (.getfield 135, 3) := by decide +kernel
theorem dX9_followWithSwap_53 : decode cX9_followWithSwap 53 = .ok (.iload_n 1, 1) := by decide +kernel
theorem dX9_followWithSwap_54 : decode cX9_followWithSwap 54 = .ok (.iaload, 1) := by decide +kernel
theorem dX9_followWithSwap_55 : decode cX9_followWithSwap 55 = .ok (.iastore, 1) := by decide +kernel
theorem dX9_followWithSwap_56 : decode cX9_followWithSwap 56 = .ok (.aload_n 0, 1) := by decide +kernel
theorem dX9_followWithSwap_57 : decode cX9_followWithSwap 57 = .ok (.getfield 26, 3) := by decide +kernel
theorem dX9_followWithSwap_60 : decode cX9_followWithSwap 60 = .ok (.aload_n 0, 1) := by decide +kernel
theorem dX9_followWithSwap_61 : decode cX9_followWithSwap 61 = .ok (.getfield 19, 3) := by decide +kernel
theorem dX9_followWithSwap_64 : decode cX9_followWithSwap 64 = .ok (.sipush 255, 3) := by decide +kernel
theorem dX9_followWithSwap_67 : decode cX9_followWithSwap 67 = .ok (.invokevirtual 244, 3) := by decide +kernel
theorem dX9_followWithSwap_70 : decode cX9_followWithSwap 70 = .ok (.return_, 1) := by decide +kernel
set_option maxRecDepth 100000 in
set_option maxHeartbeats 4000000 in
theorem S_X9_followWithSwap {ω : WD} {l1 : Int32} {l2 : Int32} {M : Mem} {post : Mem → Prop} (h : w_X9_followWithSwap l1 l2 M post) : MtV ω yX9_followWithSwap cX9_followWithSwap 3 none 5 [.ref (adr ω 0), .int l1, .int l2] M post := by
  refine MtV.start rfl (by decide +kernel) (own := RX9) rfl (Nat.le_of_ble_eq_true rfl) (fun ρ C R => ?_)
  show G ω ρ M 0 [(0, .ref (adr ω 0)), (1, .int l1), (2, .int l2)] []
  refine G_aload_n C dX9_followWithSwap_0 0 rfl ?_
  refine gf_X9_26 C dX9_followWithSwap_1 ?_
  refine gf_X9_237 C dX9_followWithSwap_4 ?_
  refine G_aload_n C dX9_followWithSwap_7 0 rfl ?_
  refine gf_X9_10 C dX9_followWithSwap_8 ?_
  refine G_callV (As := [.ref (adr ω 1)]) (rest := []) C dX9_followWithSwap_11 lk_X9_97 (Nat.le_of_ble_eq_true rfl) (Nat.le_of_ble_eq_true rfl) q23 (by decide) rfl (Nat.le_of_ble_eq_true rfl) rfl (S_X1_copyFrom q23 q1 h) (fun M1 h => ?_)
  refine G_aload_n C dX9_followWithSwap_14 0 rfl ?_
  refine gf_X9_26 C dX9_followWithSwap_15 ?_
  refine gf_X9_237 C dX9_followWithSwap_18 ?_
  refine gf_X9_135 C q23 dX9_followWithSwap_21 ?_
  refine G_iload_n C dX9_followWithSwap_24 1 rfl ?_
  refine G_aload_n C dX9_followWithSwap_25 0 rfl ?_
  refine gf_X9_10 C dX9_followWithSwap_26 ?_
  refine gf_X9_135 C q1 dX9_followWithSwap_29 ?_
  refine G_iload_n C dX9_followWithSwap_32 2 rfl ?_
  obtain ⟨hi, h⟩ := h
  refine G_iald C q2 hi rfl dX9_followWithSwap_33 ?_
  obtain ⟨hi, h⟩ := h
  refine G_iast C q24 hi rfl dX9_followWithSwap_34 (G_mname (fun M2 eM2 => ?_))
  replace h := h M2 eM2
  refine G_aload_n C dX9_followWithSwap_35 0 rfl ?_
  refine gf_X9_26 C dX9_followWithSwap_36 ?_
  refine gf_X9_237 C dX9_followWithSwap_39 ?_
  refine gf_X9_135 C q23 dX9_followWithSwap_42 ?_
  refine G_iload_n C dX9_followWithSwap_45 2 rfl ?_
  refine G_aload_n C dX9_followWithSwap_46 0 rfl ?_
  refine gf_X9_10 C dX9_followWithSwap_47 ?_
  refine gf_X9_135 C q1 dX9_followWithSwap_50 ?_
  refine G_iload_n C dX9_followWithSwap_53 1 rfl ?_
  obtain ⟨hi, h⟩ := h
  refine G_iald C q2 hi rfl dX9_followWithSwap_54 ?_
  obtain ⟨hi, h⟩ := h
  refine G_iast C q24 hi rfl dX9_followWithSwap_55 (G_mname (fun M3 eM3 => ?_))
  replace h := h M3 eM3
  refine G_aload_n C dX9_followWithSwap_56 0 rfl ?_
  refine gf_X9_26 C dX9_followWithSwap_57 ?_
  refine G_aload_n C dX9_followWithSwap_60 0 rfl ?_
  refine gf_X9_19 C dX9_followWithSwap_61 ?_
  refine G_sipush (v := 255) C dX9_followWithSwap_64 (by decide) ?_
  refine G_callV (As := [.ref (adr ω 17), .int 255]) (rest := []) C dX9_followWithSwap_67 lk_X9_244 (Nat.le_of_ble_eq_true rfl) (Nat.le_of_ble_eq_true rfl) q22 (by decide) rfl (Nat.le_of_ble_eq_true rfl) rfl (S_X8_follow h) (fun M4 h => ?_)
  exact R 70 _ _ dX9_followWithSwap_70 h
theorem dX9_swap_0 : decode cX9_swap 0 = .ok (.iload_n 1, 1) := by decide +kernel
theorem dX9_swap_1 : decode cX9_swap 1 = .ok (.invokestatic 184, 3) := by decide +kernel
theorem dX9_swap_4 : decode cX9_swap 4 = .ok (.ifCond .ne 5, 3) := by decide +kernel
theorem dX9_swap_7 : decode cX9_swap 7 = .ok (.iconst (-1), 1) := by decide +kernel
theorem dX9_swap_8 : decode cX9_swap 8 = .ok (.ireturn, 1) := by decide +kernel
theorem dX9_swap_9 : decode cX9_swap 9 = .ok (.aload_n 0, 1) := by decide +kernel
theorem dX9_swap_10 : decode cX9_swap 10 = .ok (.invokevirtual 225, 3) := by decide +kernel
theorem dX9_swap_13 : decode cX9_swap 13 = .ok (.aload_n 0, 1) := by decide +kernel
theorem dX9_swap_14 : decode cX9_swap 14 = .ok (.getfield 33, 3) := by decide +kernel
theorem dX9_swap_17 : decode cX9_swap 17 = .ok (.aload_n 0, 1) := by decide +kernel
theorem dX9_swap_18 : decode cX9_swap 18 = .ok (.getfield 26, 3) := by decide +kernel
theorem dX9_swap_21 : decode cX9_swap 21 = .ok (.getfield 231, 3) := by decide +kernel
theorem dX9_swap_24 : decode cX9_swap 24 = .ok (.invokevirtual 262, 3) := by decide +kernel
theorem dX9_swap_27 : decode cX9_swap 27 = .ok (.iconst 0, 1) := by decide +kernel
theorem dX9_swap_28 : decode cX9_swap 28 = .ok (.istore_n 2, 1) := by decide +kernel
theorem dX9_swap_29 : decode cX9_swap 29 = .ok (.iload_n 2, 1) := by decide +kernel
theorem dX9_swap_30 : decode cX9_swap 30 = .ok (.aload_n 0, 1) := by decide +kernel
theorem dX9_swap_31 : decode cX9_swap 31 = .ok (.getfield 10, 3) := by decide +kernel
theorem dX9_swap_34 : decode cX9_swap 34 = .ok (.getfield 112, 3) := by decide +kernel
theorem dX9_swap_37 : decode cX9_swap 37 = .ok (.if_icmp .ge 80, 3) := by decide +kernel
theorem dX9_swap_40 : decode cX9_swap 40 = .ok (.iload_n 2, 1) := by decide +kernel
theorem dX9_swap_41 : decode cX9_swap 41 = .ok (.iconst 1, 1) := by decide +kernel
theorem dX9_swap_42 : decode cX9_swap 42 = .ok (.iadd, 1) := by decide +kernel
theorem dX9_swap_43 : decode cX9_swap 43 = .ok (.istore_n 3, 1) := by decide +kernel
theorem dX9_swap_44 : decode cX9_swap 44 = .ok (.iload_n 3, 1) := by decide +kernel
theorem dX9_swap_45 : decode cX9_swap 45 = .ok (.aload_n 0, 1) := by decide +kernel
theorem dX9_swap_46 : decode cX9_swap 46 = .ok (.getfield 10, 3) := by decide +kernel
theorem dX9_swap_49 : decode cX9_swap 49 = .ok (.getfield 112, 3) := by decide +kernel
theorem dX9_swap_52 : decode cX9_swap 52 = .ok (.if_icmp .ge 59, 3) := by decide +kernel
theorem dX9_swap_55 : decode cX9_swap 55 = .ok (.aload_n 0, 1) := by decide +kernel
theorem dX9_swap_56 : decode cX9_swap 56 = .ok (.getfield 10, 3) := by decide +kernel
theorem dX9_swap_59 : decode cX9_swap 59 = .ok (.getfield 141, 3) := by decide +kernel
theorem dX9_swap_62 : decode cX9_swap 62 = .ok (.iload_n 2, 1) := by decide +kernel
theorem dX9_swap_63 : decode cX9_swap 63 = .ok (.iaload, 1) := by decide +kernel
theorem dX9_swap_64 : decode cX9_swap 64 = .ok (.ifCond .ne 41, 3) := by decide +kernel
theorem dX9_swap_67 : decode cX9_swap 67 = .ok (.aload_n 0, 1) := by decide +kernel
theorem dX9_swap_68 : decode cX9_swap 68 = .ok (.getfield 10, 3) := by decide +kernel
theorem dX9_swap_71 : decode cX9_swap 71 = .ok (.getfield 141, 3) := by decide +kernel
theorem dX9_swap_74 : decode cX9_swap 74 = .ok (.iload_n 3, 1) := by decide +kernel
theorem dX9_swap_75 : decode cX9_swap 75 = .ok (.iaload, 1) := by decide +kernel
theorem dX9_swap_76 : decode cX9_swap 76 = .ok (.ifCond .ne 29, 3) := by decide +kernel
theorem dX9_swap_79 : decode cX9_swap 79 = .ok (.aload_n 0, 1) := by decide +kernel
theorem dX9_swap_80 : decode cX9_swap 80 = .ok (.iload_n 2, 1) := by decide +kernel
theorem dX9_swap_81 : decode cX9_swap 81 = .ok (.iload_n 3, 1) := by decide +kernel
theorem dX9_swap_82 : decode cX9_swap 82 = .ok (.invokevirtual 274, 3) := by decide +kernel
theorem dX9_swap_85 : decode cX9_swap 85 = .ok (.aload_n 0, 1) := by decide +kernel
theorem dX9_swap_86 : decode cX9_swap 86 = .ok (.getfield 33, 3) := by decide +kernel
theorem dX9_swap_89 : decode cX9_swap 89 = .ok (.bipush 10, 2) := by decide +kernel
theorem dX9_swap_91 : decode cX9_swap 91 = .ok (.iload_n 2, 1) := by decide +kernel
theorem dX9_swap_92 : decode cX9_swap 92 = .ok (.imul, 1) := by decide +kernel
theorem dX9_swap_93 : decode cX9_swap 93 = .ok (.iload_n 3, 1) := by decide +kernel
theorem dX9_swap_94 : decode cX9_swap 94 = .ok (.iadd, 1) := by decide +kernel
theorem dX9_swap_95 : decode cX9_swap 95 = .ok (.aload_n 0, 1) := by decide +kernel
theorem dX9_swap_96 : decode cX9_swap 96 = .ok (.getfield 26, 3) := by decide +kernel
theorem dX9_swap_99 : decode cX9_swap 99 = .ok (.getfield 231, 3) := by decide +kernel
theorem dX9_swap_102 : decode cX9_swap 102 = .ok (.invokevirtual 268, 3) := by decide +kernel
theorem dX9_swap_105 : decode cX9_swap 105 = .ok (.iinc 3 1, 3) := by decide +kernel
theorem dX9_swap_108 : decode cX9_swap 108 = .ok (.goto (-64), 3) := by decide +kernel
theorem dX9_swap_111 : decode cX9_swap 111 = .ok (.iinc 2 1, 3) := by decide +kernel
theorem dX9_swap_114 : decode cX9_swap 114 = .ok (.goto (-85), 3) := by decide +kernel
theorem dX9_swap_117 : decode cX9_swap 117 = .ok (.aload_n 0, 1) := by decide +kernel
theorem dX9_swap_118 : decode cX9_swap 118 = .ok (.getfield 33, 3) := by decide +kernel
theorem dX9_swap_121 : decode cX9_swap 121 = .ok (.iload_n 1, 1) := by decide +kernel
theorem dX9_swap_122 : decode cX9_swap 122 = .ok (.invokevirtual 271, 3) := by decide +kernel
theorem dX9_swap_125 : decode cX9_swap 125 = .ok (.ireturn, 1) := by decide +kernel
theorem lk_X9_274 : LkV RX9 274 RX9 yX9_followWithSwap cX9_followWithSwap 3 none 2 := LkV.of 798 800 4 61 801 (by decide +kernel) (by decide +kernel) (by decide +kernel) (by decide +kernel) (by decide +kernel) (by decide +kernel)
set_option maxRecDepth 100000 in
set_option maxHeartbeats 4000000 in
theorem s_X9_swap_J105 {ω : WD} {ρ : FR} {post : Int32 → Mem → Prop} (C : Cx ω ρ cX9_swap RX9 6 4) (R : RtI ω ρ cX9_swap .int post) {K29 : Int32 → Mem → Prop} {K44 : Int32 → Mem → Prop} {l1 : Int32} {l2 : Int32} {l3 : Int32} (k29 : ∀ (u2 : Int32) (M : Mem), K29 u2 M → G ω ρ M 29 [(0, .ref (adr ω 0)), (1, .int l1), (2, .int u2)] []) (k44 : ∀ (u3 : Int32) (M : Mem), K44 u3 M → G ω ρ M 44 [(0, .ref (adr ω 0)), (1, .int l1), (2, .int l2), (3, .int u3)] []) {M : Mem} (h : w_X9_swap_J105 post K29 K44 l1 l2 l3 M) : G ω ρ M 105 [(0, .ref (adr ω 0)), (1, .int l1), (2, .int l2), (3, .int l3)] [] := by
  obtain ⟨v1, ev1⟩ : ∃ y : Int32, y = (l3 + 1) := ⟨_, rfl⟩
  replace h := h v1 ev1
  refine G_iinc C dX9_swap_105 3 rfl (v := v1) (by rw [ev1]; rfl) (by decide) (lv' := [(3, .int v1), (0, .ref (adr ω 0)), (1, .int l1), (2, .int l2)]) rfl ?_
  refine G_goto (tgt := 44) C dX9_swap_108 (by decide) ?_
  refine G_sub [1, 2, 3, 0] (lv' := [(0, .ref (adr ω 0)), (1, .int l1), (2, .int l2), (3, .int v1)]) rfl ?_
  exact k44 _ _ h
set_option maxRecDepth 100000 in
set_option maxHeartbeats 4000000 in
theorem s_X9_swap_L44 {ω : WD} {ρ : FR} {post : Int32 → Mem → Prop} (C : Cx ω ρ cX9_swap RX9 6 4) (R : RtI ω ρ cX9_swap .int post) {K29 : Int32 → Mem → Prop} {l1 : Int32} {l2 : Int32} (k29 : ∀ (u2 : Int32) (M : Mem), K29 u2 M → G ω ρ M 29 [(0, .ref (adr ω 0)), (1, .int l1), (2, .int u2)] []) : ∀ (f : Nat) (l3 : Int32) (M : Mem), w_X9_swap_L44 post K29 l1 l2 f l3 M → G ω ρ M 44 [(0, .ref (adr ω 0)), (1, .int l1), (2, .int l2), (3, .int l3)] [] := by
  intro f
  induction f with
  | zero => intro l3 M h; exact False.elim h
  | succ f k44 =>
    intro l3 M h
    refine G_iload_n C dX9_swap_44 3 rfl ?_
    refine G_aload_n C dX9_swap_45 0 rfl ?_
    refine gf_X9_10 C dX9_swap_46 ?_
    refine gf_X9_112 C q1 dX9_swap_49 ?_
    obtain ⟨h1, h2⟩ := h
    refine G_icmp_ge (tgt := 111) C dX9_swap_52 (by decide) (fun c => ?_) (fun c => ?_)
    · have h := h1 c
      clear h1 h2
      obtain ⟨v2, ev2⟩ : ∃ y : Int32, y = (l2 + 1) := ⟨_, rfl⟩
      replace h := h v2 ev2
      refine G_iinc C dX9_swap_111 2 rfl (v := v2) (by rw [ev2]; rfl) (by decide) (lv' := [(2, .int v2), (0, .ref (adr ω 0)), (1, .int l1), (3, .int l3)]) rfl ?_
      refine G_goto (tgt := 29) C dX9_swap_114 (by decide) ?_
      refine G_sub [1, 2, 0] (lv' := [(0, .ref (adr ω 0)), (1, .int l1), (2, .int v2)]) rfl ?_
      exact k29 _ _ h
    · have h := h2 c
      clear h1 h2
      refine G_aload_n C dX9_swap_55 0 rfl ?_
      refine gf_X9_10 C dX9_swap_56 ?_
      refine gf_X9_141 C q1 dX9_swap_59 ?_
      refine G_iload_n C dX9_swap_62 2 rfl ?_
      obtain ⟨hi, h⟩ := h
      refine G_iald C q4 hi rfl dX9_swap_63 ?_
      obtain ⟨h1, h2⟩ := h
      refine G_if_ne (tgt := 105) C dX9_swap_64 (by decide) (fun c => ?_) (fun c => ?_)
      · have h := h1 c
        clear h1 h2
        exact s_X9_swap_J105 C R k29 k44 h
      · have h := h2 c
        clear h1 h2
        refine G_aload_n C dX9_swap_67 0 rfl ?_
        refine gf_X9_10 C dX9_swap_68 ?_
        refine gf_X9_141 C q1 dX9_swap_71 ?_
        refine G_iload_n C dX9_swap_74 3 rfl ?_
        obtain ⟨hi, h⟩ := h
        refine G_iald C q4 hi rfl dX9_swap_75 ?_
        obtain ⟨h1, h2⟩ := h
        refine G_if_ne (tgt := 105) C dX9_swap_76 (by decide) (fun c => ?_) (fun c => ?_)
        · have h := h1 c
          clear h1 h2
          exact s_X9_swap_J105 C R k29 k44 h
        · have h := h2 c
          clear h1 h2
          refine G_aload_n C dX9_swap_79 0 rfl ?_
          refine G_iload_n C dX9_swap_80 2 rfl ?_
          refine G_iload_n C dX9_swap_81 3 rfl ?_
          refine G_callV (As := [.int l2, .int l3]) (rest := []) C dX9_swap_82 lk_X9_274 (Nat.le_of_ble_eq_true rfl) (Nat.le_of_ble_eq_true rfl) q0 (by decide) rfl (Nat.le_of_ble_eq_true rfl) rfl (S_X9_followWithSwap h) (fun M3 h => ?_)
          refine G_aload_n C dX9_swap_85 0 rfl ?_
          refine gf_X9_33 C dX9_swap_86 ?_
          refine G_bipush (v := 10) C dX9_swap_89 (by decide) ?_
          refine G_iload_n C dX9_swap_91 2 rfl ?_
          refine G_imul C dX9_swap_92 ?_
          refine G_iload_n C dX9_swap_93 3 rfl ?_
          refine G_iadd C dX9_swap_94 ?_
          refine G_aload_n C dX9_swap_95 0 rfl ?_
          refine gf_X9_26 C dX9_swap_96 ?_
          refine gf_X9_231 C dX9_swap_99 ?_
          refine G_callV (As := [.int ((10 * l2) + l3), .int (rd M3 22 3)]) (rest := []) C dX9_swap_102 lk_X9_268 (Nat.le_of_ble_eq_true rfl) (Nat.le_of_ble_eq_true rfl) q40 (by decide) rfl (Nat.le_of_ble_eq_true rfl) rfl (S_X0_offer h) (fun M4 h => ?_)
          exact s_X9_swap_J105 C R k29 k44 h
set_option maxRecDepth 100000 in
set_option maxHeartbeats 4000000 in
theorem s_X9_swap_L29 {ω : WD} {ρ : FR} {post : Int32 → Mem → Prop} (C : Cx ω ρ cX9_swap RX9 6 4) (R : RtI ω ρ cX9_swap .int post) {l1 : Int32} : ∀ (f : Nat) (l2 : Int32) (M : Mem), w_X9_swap_L29 post l1 f l2 M → G ω ρ M 29 [(0, .ref (adr ω 0)), (1, .int l1), (2, .int l2)] [] := by
  intro f
  induction f with
  | zero => intro l2 M h; exact False.elim h
  | succ f k29 =>
    intro l2 M h
    refine G_iload_n C dX9_swap_29 2 rfl ?_
    refine G_aload_n C dX9_swap_30 0 rfl ?_
    refine gf_X9_10 C dX9_swap_31 ?_
    refine gf_X9_112 C q1 dX9_swap_34 ?_
    obtain ⟨h1, h2⟩ := h
    refine G_icmp_ge (tgt := 117) C dX9_swap_37 (by decide) (fun c => ?_) (fun c => ?_)
    · have h := h1 c
      clear h1 h2
      refine G_aload_n C dX9_swap_117 0 rfl ?_
      refine gf_X9_33 C dX9_swap_118 ?_
      refine G_iload_n C dX9_swap_121 1 rfl ?_
      refine G_callI (As := [.int l1]) (rest := []) C dX9_swap_122 lk_X9_271 (Nat.le_of_ble_eq_true rfl) (Nat.le_of_ble_eq_true rfl) q40 (by decide) rfl (Nat.le_of_ble_eq_true rfl) rfl (S_X0_told h) (fun r6 M5 h => ?_)
      exact R 125 _ _ _ dX9_swap_125 rfl h
    · have h := h2 c
      clear h1 h2
      refine G_iload_n C dX9_swap_40 2 rfl ?_
      refine G_iconst (v := 1) C dX9_swap_41 (by decide) ?_
      refine G_iadd C dX9_swap_42 ?_
      refine G_iname (fun v7 ev7 => ?_)
      replace h := h v7 ev7
      refine G_istore_n C dX9_swap_43 (by decide) (lv' := [(3, .int v7), (0, .ref (adr ω 0)), (1, .int l1), (2, .int l2)]) rfl ?_
      refine G_sub [1, 2, 3, 0] (lv' := [(0, .ref (adr ω 0)), (1, .int l1), (2, .int l2), (3, .int v7)]) rfl ?_
      obtain ⟨f, h⟩ := h
      exact s_X9_swap_L44 C R k29 f _ _ h
set_option maxRecDepth 100000 in
set_option maxHeartbeats 4000000 in
theorem S_X9_swap {ω : WD} {l1 : Int32} {M : Mem} {post : Int32 → Mem → Prop} (h : w_X9_swap l1 M post) : MtI ω yX9_swap cX9_swap 4 (some .int) 6 [.ref (adr ω 0), .int l1] M post := by
  refine MtI.start (ty := .int) rfl (by decide +kernel) (own := RX9) rfl (Nat.le_of_ble_eq_true rfl) (fun ρ C R => ?_)
  show G ω ρ M 0 [(0, .ref (adr ω 0)), (1, .int l1)] []
  refine G_iload_n C dX9_swap_0 1 rfl ?_
  refine G_scallI (As := [.int l1]) (rest := []) C dX9_swap_1 lk_X9_184 (Nat.le_of_ble_eq_true rfl) (Nat.le_of_ble_eq_true rfl) (Nat.le_of_ble_eq_true rfl) rfl (S_X9_isBit h) (fun r9 M8 h => ?_)
  obtain ⟨h1, h2⟩ := h
  refine G_if_ne (tgt := 9) C dX9_swap_4 (by decide) (fun c => ?_) (fun c => ?_)
  · have h := h1 c
    clear h1 h2
    refine G_aload_n C dX9_swap_9 0 rfl ?_
    refine G_callV (As := []) (rest := []) C dX9_swap_10 lk_X9_225 (Nat.le_of_ble_eq_true rfl) (Nat.le_of_ble_eq_true rfl) q0 (by decide) rfl (Nat.le_of_ble_eq_true rfl) rfl (S_X9_followAsIs h) (fun M10 h => ?_)
    refine G_aload_n C dX9_swap_13 0 rfl ?_
    refine gf_X9_33 C dX9_swap_14 ?_
    refine G_aload_n C dX9_swap_17 0 rfl ?_
    refine gf_X9_26 C dX9_swap_18 ?_
    refine gf_X9_231 C dX9_swap_21 ?_
    refine G_callV (As := [.int (rd M10 22 3)]) (rest := []) C dX9_swap_24 lk_X9_262 (Nat.le_of_ble_eq_true rfl) (Nat.le_of_ble_eq_true rfl) q40 (by decide) rfl (Nat.le_of_ble_eq_true rfl) rfl (S_X0_begin h) (fun M11 h => ?_)
    refine G_iconst (v := 0) C dX9_swap_27 (by decide) ?_
    refine G_istore_n C dX9_swap_28 (by decide) (lv' := [(2, .int 0), (0, .ref (adr ω 0)), (1, .int l1)]) rfl ?_
    refine G_sub [1, 2, 0] (lv' := [(0, .ref (adr ω 0)), (1, .int l1), (2, .int 0)]) rfl ?_
    obtain ⟨f, h⟩ := h
    exact s_X9_swap_L29 C R  f _ _ h
  · have h := h2 c
    clear h1 h2
    refine G_iconst (v := (-1)) C dX9_swap_7 (by decide) ?_
    exact R 8 _ _ _ dX9_swap_8 rfl h
theorem dX9_leave_0 : decode cX9_leave 0 = .ok (.iload_n 1, 1) := by decide +kernel
theorem dX9_leave_1 : decode cX9_leave 1 = .ok (.invokestatic 184, 3) := by decide +kernel
theorem dX9_leave_4 : decode cX9_leave 4 = .ok (.ifCond .ne 5, 3) := by decide +kernel
theorem dX9_leave_7 : decode cX9_leave 7 = .ok (.iconst (-1), 1) := by decide +kernel
theorem dX9_leave_8 : decode cX9_leave 8 = .ok (.ireturn, 1) := by decide +kernel
theorem dX9_leave_9 : decode cX9_leave 9 = .ok (.aload_n 0, 1) := by decide +kernel
theorem dX9_leave_10 : decode cX9_leave 10 = .ok (.invokevirtual 225, 3) := by decide +kernel
theorem dX9_leave_13 : decode cX9_leave 13 = .ok (.aload_n 0, 1) := by decide +kernel
theorem dX9_leave_14 : decode cX9_leave 14 = .ok (.getfield 33, 3) := by decide +kernel
theorem dX9_leave_17 : decode cX9_leave 17 = .ok (.aload_n 0, 1) := by decide +kernel
theorem dX9_leave_18 : decode cX9_leave 18 = .ok (.getfield 26, 3) := by decide +kernel
theorem dX9_leave_21 : decode cX9_leave 21 = .ok (.getfield 231, 3) := by decide +kernel
theorem dX9_leave_24 : decode cX9_leave 24 = .ok (.invokevirtual 262, 3) := by decide +kernel
theorem dX9_leave_27 : decode cX9_leave 27 = .ok (.iconst 0, 1) := by decide +kernel
theorem dX9_leave_28 : decode cX9_leave 28 = .ok (.istore_n 2, 1) := by decide +kernel
theorem dX9_leave_29 : decode cX9_leave 29 = .ok (.iload_n 2, 1) := by decide +kernel
theorem dX9_leave_30 : decode cX9_leave 30 = .ok (.aload_n 0, 1) := by decide +kernel
theorem dX9_leave_31 : decode cX9_leave 31 = .ok (.getfield 19, 3) := by decide +kernel
theorem dX9_leave_34 : decode cX9_leave 34 = .ok (.getfield 121, 3) := by decide +kernel
theorem dX9_leave_37 : decode cX9_leave 37 = .ok (.if_icmp .ge 58, 3) := by decide +kernel
theorem dX9_leave_40 : decode cX9_leave 40 = .ok (.aload_n 0, 1) := by decide +kernel
theorem dX9_leave_41 : decode cX9_leave 41 = .ok (.getfield 26, 3) := by decide +kernel
theorem dX9_leave_44 : decode cX9_leave 44 = .ok (.getfield 237, 3) := by decide +kernel
theorem dX9_leave_47 : decode cX9_leave 47 = .ok (.aload_n 0, 1) := by decide +kernel
theorem dX9_leave_48 : decode cX9_leave 48 = .ok (.getfield 10, 3) := by decide +kernel
theorem dX9_leave_51 : decode cX9_leave 51 = .ok (.invokevirtual 97, 3) := by decide +kernel
theorem dX9_leave_54 : decode cX9_leave 54 = .ok (.aload_n 0, 1) := by decide +kernel
theorem dX9_leave_55 : decode cX9_leave 55 = .ok (.getfield 26, 3) := by decide +kernel
theorem dX9_leave_58 : decode cX9_leave 58 = .ok (.aload_n 0, 1) := by decide +kernel
theorem dX9_leave_59 : decode cX9_leave 59 = .ok (.getfield 19, 3) := by decide +kernel
theorem dX9_leave_62 : decode cX9_leave 62 = .ok (.sipush 255, 3) := by decide +kernel
theorem dX9_leave_65 : decode cX9_leave 65 = .ok (.iconst 1, 1) := by decide +kernel
theorem dX9_leave_66 : decode cX9_leave 66 = .ok (.iload_n 2, 1) := by decide +kernel
theorem dX9_leave_67 : decode cX9_leave 67 = .ok (.ishl, 1) := by decide +kernel
theorem dX9_leave_68 : decode cX9_leave 68 = .ok (.iconst (-1), 1) := by decide +kernel
theorem dX9_leave_69 : decode cX9_leave 69 = .ok (.ixor, 1) := by decide +kernel
theorem dX9_leave_70 : decode cX9_leave 70 = .ok (.iand, 1) := by decide +kernel
theorem dX9_leave_71 : decode cX9_leave 71 = .ok (.invokevirtual 244, 3) := by decide +kernel
theorem dX9_leave_74 : decode cX9_leave 74 = .ok (.aload_n 0, 1) := by decide +kernel
theorem dX9_leave_75 : decode cX9_leave 75 = .ok (.getfield 33, 3) := by decide +kernel
theorem dX9_leave_78 : decode cX9_leave 78 = .ok (.iload_n 2, 1) := by decide +kernel
theorem dX9_leave_79 : decode cX9_leave 79 = .ok (.aload_n 0, 1) := by decide +kernel
theorem dX9_leave_80 : decode cX9_leave 80 = .ok (.getfield 26, 3) := by decide +kernel
theorem dX9_leave_83 : decode cX9_leave 83 = .ok (.getfield 231, 3) := by decide +kernel
theorem dX9_leave_86 : decode cX9_leave 86 = .ok (.invokevirtual 268, 3) := by decide +kernel
theorem dX9_leave_89 : decode cX9_leave 89 = .ok (.iinc 2 1, 3) := by decide +kernel
theorem dX9_leave_92 : decode cX9_leave 92 = .ok (.goto (-63), 3) := by decide +kernel
theorem dX9_leave_95 : decode cX9_leave 95 = .ok (.aload_n 0, 1) := by decide +kernel
theorem dX9_leave_96 : decode cX9_leave 96 = .ok (.getfield 33, 3) := by decide +kernel
theorem dX9_leave_99 : decode cX9_leave 99 = .ok (.iload_n 1, 1) := by decide +kernel
theorem dX9_leave_100 : decode cX9_leave 100 = .ok (.invokevirtual 271, 3) := by decide +kernel
theorem dX9_leave_103 : decode cX9_leave 103 = .ok (.ireturn, 1) := by decide +kernel
set_option maxRecDepth 100000 in
set_option maxHeartbeats 4000000 in
theorem s_X9_leave_L29 {ω : WD} {ρ : FR} {post : Int32 → Mem → Prop} (C : Cx ω ρ cX9_leave RX9 6 3) (R : RtI ω ρ cX9_leave .int post) {l1 : Int32} : ∀ (f : Nat) (l2 : Int32) (M : Mem), w_X9_leave_L29 post l1 f l2 M → G ω ρ M 29 [(0, .ref (adr ω 0)), (1, .int l1), (2, .int l2)] [] := by
  intro f
  induction f with
  | zero => intro l2 M h; exact False.elim h
  | succ f k29 =>
    intro l2 M h
    refine G_iload_n C dX9_leave_29 2 rfl ?_
    refine G_aload_n C dX9_leave_30 0 rfl ?_
    refine gf_X9_19 C dX9_leave_31 ?_
    refine gf_X9_121 C q17 dX9_leave_34 ?_
    obtain ⟨h1, h2⟩ := h
    refine G_icmp_ge (tgt := 95) C dX9_leave_37 (by decide) (fun c => ?_) (fun c => ?_)
    · have h := h1 c
      clear h1 h2
      refine G_aload_n C dX9_leave_95 0 rfl ?_
      refine gf_X9_33 C dX9_leave_96 ?_
      refine G_iload_n C dX9_leave_99 1 rfl ?_
      refine G_callI (As := [.int l1]) (rest := []) C dX9_leave_100 lk_X9_271 (Nat.le_of_ble_eq_true rfl) (Nat.le_of_ble_eq_true rfl) q40 (by decide) rfl (Nat.le_of_ble_eq_true rfl) rfl (S_X0_told h) (fun r2 M1 h => ?_)
      exact R 103 _ _ _ dX9_leave_103 rfl h
    · have h := h2 c
      clear h1 h2
      refine G_aload_n C dX9_leave_40 0 rfl ?_
      refine gf_X9_26 C dX9_leave_41 ?_
      refine gf_X9_237 C dX9_leave_44 ?_
      refine G_aload_n C dX9_leave_47 0 rfl ?_
      refine gf_X9_10 C dX9_leave_48 ?_
      refine G_callV (As := [.ref (adr ω 1)]) (rest := []) C dX9_leave_51 lk_X9_97 (Nat.le_of_ble_eq_true rfl) (Nat.le_of_ble_eq_true rfl) q23 (by decide) rfl (Nat.le_of_ble_eq_true rfl) rfl (S_X1_copyFrom q23 q1 h) (fun M3 h => ?_)
      refine G_aload_n C dX9_leave_54 0 rfl ?_
      refine gf_X9_26 C dX9_leave_55 ?_
      refine G_aload_n C dX9_leave_58 0 rfl ?_
      refine gf_X9_19 C dX9_leave_59 ?_
      refine G_sipush (v := 255) C dX9_leave_62 (by decide) ?_
      refine G_iconst (v := 1) C dX9_leave_65 (by decide) ?_
      refine G_iload_n C dX9_leave_66 2 rfl ?_
      refine G_ishl C dX9_leave_67 ?_
      refine G_iconst (v := (-1)) C dX9_leave_68 (by decide) ?_
      refine G_ixor C dX9_leave_69 ?_
      refine G_iand C dX9_leave_70 ?_
      refine G_callV (As := [.ref (adr ω 17), .int (255 &&& ((ishl 1 l2) ^^^ (-1)))]) (rest := []) C dX9_leave_71 lk_X9_244 (Nat.le_of_ble_eq_true rfl) (Nat.le_of_ble_eq_true rfl) q22 (by decide) rfl (Nat.le_of_ble_eq_true rfl) rfl (S_X8_follow h) (fun M4 h => ?_)
      refine G_aload_n C dX9_leave_74 0 rfl ?_
      refine gf_X9_33 C dX9_leave_75 ?_
      refine G_iload_n C dX9_leave_78 2 rfl ?_
      refine G_aload_n C dX9_leave_79 0 rfl ?_
      refine gf_X9_26 C dX9_leave_80 ?_
      refine gf_X9_231 C dX9_leave_83 ?_
      refine G_callV (As := [.int l2, .int (rd M4 22 3)]) (rest := []) C dX9_leave_86 lk_X9_268 (Nat.le_of_ble_eq_true rfl) (Nat.le_of_ble_eq_true rfl) q40 (by decide) rfl (Nat.le_of_ble_eq_true rfl) rfl (S_X0_offer h) (fun M5 h => ?_)
      obtain ⟨v6, ev6⟩ : ∃ y : Int32, y = (l2 + 1) := ⟨_, rfl⟩
      replace h := h v6 ev6
      refine G_iinc C dX9_leave_89 2 rfl (v := v6) (by rw [ev6]; rfl) (by decide) (lv' := [(2, .int v6), (0, .ref (adr ω 0)), (1, .int l1)]) rfl ?_
      refine G_goto (tgt := 29) C dX9_leave_92 (by decide) ?_
      refine G_sub [1, 2, 0] (lv' := [(0, .ref (adr ω 0)), (1, .int l1), (2, .int v6)]) rfl ?_
      exact k29 _ _ h
set_option maxRecDepth 100000 in
set_option maxHeartbeats 4000000 in
theorem S_X9_leave {ω : WD} {l1 : Int32} {M : Mem} {post : Int32 → Mem → Prop} (h : w_X9_leave l1 M post) : MtI ω yX9_leave cX9_leave 3 (some .int) 6 [.ref (adr ω 0), .int l1] M post := by
  refine MtI.start (ty := .int) rfl (by decide +kernel) (own := RX9) rfl (Nat.le_of_ble_eq_true rfl) (fun ρ C R => ?_)
  show G ω ρ M 0 [(0, .ref (adr ω 0)), (1, .int l1)] []
  refine G_iload_n C dX9_leave_0 1 rfl ?_
  refine G_scallI (As := [.int l1]) (rest := []) C dX9_leave_1 lk_X9_184 (Nat.le_of_ble_eq_true rfl) (Nat.le_of_ble_eq_true rfl) (Nat.le_of_ble_eq_true rfl) rfl (S_X9_isBit h) (fun r8 M7 h => ?_)
  obtain ⟨h1, h2⟩ := h
  refine G_if_ne (tgt := 9) C dX9_leave_4 (by decide) (fun c => ?_) (fun c => ?_)
  · have h := h1 c
    clear h1 h2
    refine G_aload_n C dX9_leave_9 0 rfl ?_
    refine G_callV (As := []) (rest := []) C dX9_leave_10 lk_X9_225 (Nat.le_of_ble_eq_true rfl) (Nat.le_of_ble_eq_true rfl) q0 (by decide) rfl (Nat.le_of_ble_eq_true rfl) rfl (S_X9_followAsIs h) (fun M9 h => ?_)
    refine G_aload_n C dX9_leave_13 0 rfl ?_
    refine gf_X9_33 C dX9_leave_14 ?_
    refine G_aload_n C dX9_leave_17 0 rfl ?_
    refine gf_X9_26 C dX9_leave_18 ?_
    refine gf_X9_231 C dX9_leave_21 ?_
    refine G_callV (As := [.int (rd M9 22 3)]) (rest := []) C dX9_leave_24 lk_X9_262 (Nat.le_of_ble_eq_true rfl) (Nat.le_of_ble_eq_true rfl) q40 (by decide) rfl (Nat.le_of_ble_eq_true rfl) rfl (S_X0_begin h) (fun M10 h => ?_)
    refine G_iconst (v := 0) C dX9_leave_27 (by decide) ?_
    refine G_istore_n C dX9_leave_28 (by decide) (lv' := [(2, .int 0), (0, .ref (adr ω 0)), (1, .int l1)]) rfl ?_
    refine G_sub [1, 2, 0] (lv' := [(0, .ref (adr ω 0)), (1, .int l1), (2, .int 0)]) rfl ?_
    obtain ⟨f, h⟩ := h
    exact s_X9_leave_L29 C R  f _ _ h
  · have h := h2 c
    clear h1 h2
    refine G_iconst (v := (-1)) C dX9_leave_7 (by decide) ?_
    exact R 8 _ _ _ dX9_leave_8 rfl h
theorem dX9_more_0 : decode cX9_more 0 = .ok (.iload_n 1, 1) := by decide +kernel
theorem dX9_more_1 : decode cX9_more 1 = .ok (.invokestatic 184, 3) := by decide +kernel
theorem dX9_more_4 : decode cX9_more 4 = .ok (.ifCond .ne 5, 3) := by decide +kernel
theorem dX9_more_7 : decode cX9_more 7 = .ok (.iconst (-1), 1) := by decide +kernel
theorem dX9_more_8 : decode cX9_more 8 = .ok (.ireturn, 1) := by decide +kernel
theorem dX9_more_9 : decode cX9_more 9 = .ok (.aload_n 0, 1) := by decide +kernel
theorem dX9_more_10 : decode cX9_more 10 = .ok (.invokevirtual 225, 3) := by decide +kernel
theorem dX9_more_13 : decode cX9_more 13 = .ok (.aload_n 0, 1) := by decide +kernel
theorem dX9_more_14 : decode cX9_more 14 = .ok (.getfield 33, 3) := by decide +kernel
theorem dX9_more_17 : decode cX9_more 17 = .ok (.aload_n 0, 1) := by decide +kernel
theorem dX9_more_18 : decode cX9_more 18 = .ok (.getfield 26, 3) := by decide +kernel
theorem dX9_more_21 : decode cX9_more 21 = .ok (.getfield 231, 3) := by decide +kernel
theorem dX9_more_24 : decode cX9_more 24 = .ok (.invokevirtual 262, 3) := by decide +kernel
theorem dX9_more_27 : decode cX9_more 27 = .ok (.iconst 0, 1) := by decide +kernel
theorem dX9_more_28 : decode cX9_more 28 = .ok (.istore_n 2, 1) := by decide +kernel
theorem dX9_more_29 : decode cX9_more 29 = .ok (.iload_n 2, 1) := by decide +kernel
theorem dX9_more_30 : decode cX9_more 30 = .ok (.iconst 5, 1) := by decide +kernel
theorem dX9_more_31 : decode cX9_more 31 = .ok (.if_icmp .ge 88, 3) := by decide +kernel
theorem dX9_more_34 : decode cX9_more 34 = .ok (.aload_n 0, 1) := by decide +kernel
theorem dX9_more_35 : decode cX9_more 35 = .ok (.getfield 10, 3) := by decide +kernel
theorem dX9_more_38 : decode cX9_more 38 = .ok (.getfield 150, 3) := by decide +kernel
theorem dX9_more_41 : decode cX9_more 41 = .ok (.iload_n 2, 1) := by decide +kernel
theorem dX9_more_42 : decode cX9_more 42 = .ok (.aaload, 1) := by decide +kernel
theorem dX9_more_43 : decode cX9_more 43 = .ok (.getfield 159, 3) := by decide +kernel
theorem dX9_more_46 : decode cX9_more 46 = .ok (.istore_n 3, 1) := by decide +kernel
theorem dX9_more_47 : decode cX9_more 47 = .ok (.iload_n 3, 1) := by decide +kernel
theorem dX9_more_48 : decode cX9_more 48 = .ok (.iconst 4, 1) := by decide +kernel
theorem dX9_more_49 : decode cX9_more 49 = .ok (.if_icmp .ge 64, 3) := by decide +kernel
theorem dX9_more_52 : decode cX9_more 52 = .ok (.aload_n 0, 1) := by decide +kernel
theorem dX9_more_53 : decode cX9_more 53 = .ok (.getfield 26, 3) := by decide +kernel
theorem dX9_more_56 : decode cX9_more 56 = .ok (.getfield 237, 3) := by decide +kernel
theorem dX9_more_59 : decode cX9_more 59 = .ok (.aload_n 0, 1) := by decide +kernel
theorem dX9_more_60 : decode cX9_more 60 = .ok (.getfield 10, 3) := by decide +kernel
theorem dX9_more_63 : decode cX9_more 63 = .ok (.invokevirtual 97, 3) := by decide +kernel
theorem dX9_more_66 : decode cX9_more 66 = .ok (.aload_n 0, 1) := by decide +kernel
theorem dX9_more_67 : decode cX9_more 67 = .ok (.getfield 26, 3) := by decide +kernel
theorem dX9_more_70 : decode cX9_more 70 = .ok (.getfield 237, 3) := by decide +kernel
theorem dX9_more_73 : decode cX9_more 73 = .ok (.getfield 150, 3) := by decide +kernel
theorem dX9_more_76 : decode cX9_more 76 = .ok (.iload_n 2, 1) := by decide +kernel
theorem dX9_more_77 : decode cX9_more 77 = .ok (.aaload, 1) := by decide +kernel
theorem dX9_more_78 : decode cX9_more 78 = .ok (.iload_n 3, 1) := by decide +kernel
theorem dX9_more_79 : decode cX9_more 79 = .ok (.iconst 1, 1) := by decide +kernel
theorem dX9_more_80 : decode cX9_more 80 = .ok (.iadd, 1) := by decide +kernel
theorem dX9_more_81 : decode cX9_more 81 = .ok (.invokevirtual 203, 3) := by decide +kernel
theorem dX9_more_84 : decode cX9_more 84 = .ok (.aload_n 0, 1) := by decide +kernel
theorem dX9_more_85 : decode cX9_more 85 = .ok (.getfield 26, 3) := by decide +kernel
theorem dX9_more_88 : decode cX9_more 88 = .ok (.aload_n 0, 1) := by decide +kernel
theorem dX9_more_89 : decode cX9_more 89 = .ok (.getfield 19, 3) := by decide +kernel
theorem dX9_more_92 : decode cX9_more 92 = .ok (.sipush 255, 3) := by decide +kernel
theorem dX9_more_95 : decode cX9_more 95 = .ok (.invokevirtual 244, 3) := by decide +kernel
theorem dX9_more_98 : decode cX9_more 98 = .ok (.aload_n 0, 1) := by decide +kernel
theorem dX9_more_99 : decode cX9_more 99 = .ok (.getfield 33, 3) := by decide +kernel
theorem dX9_more_102 : decode cX9_more 102 = .ok (.iload_n 2, 1) := by decide +kernel
theorem dX9_more_103 : decode cX9_more 103 = .ok (.aload_n 0, 1) := by decide +kernel
theorem dX9_more_104 : decode cX9_more 104 = .ok (.getfield 26, 3) := by decide +kernel
theorem dX9_more_107 : decode cX9_more 107 = .ok (.getfield 231, 3) := by decide +kernel
theorem dX9_more_110 : decode cX9_more 110 = .ok (.invokevirtual 268, 3) := by decide +kernel
theorem dX9_more_113 : decode cX9_more 113 = .ok (.iinc 2 1, 3) := by decide +kernel
theorem dX9_more_116 : decode cX9_more 116 = .ok (.goto (-87), 3) := by decide +kernel
theorem dX9_more_119 : decode cX9_more 119 = .ok (.aload_n 0, 1) := by decide +kernel
theorem dX9_more_120 : decode cX9_more 120 = .ok (.getfield 33, 3) := by decide +kernel
theorem dX9_more_123 : decode cX9_more 123 = .ok (.iload_n 1, 1) := by decide +kernel
theorem dX9_more_124 : decode cX9_more 124 = .ok (.invokevirtual 271, 3) := by decide +kernel
theorem dX9_more_127 : decode cX9_more 127 = .ok (.ireturn, 1) := by decide +kernel
set_option maxRecDepth 100000 in
set_option maxHeartbeats 4000000 in
theorem s_X9_more_J113 {ω : WD} {ρ : FR} {post : Int32 → Mem → Prop} (C : Cx ω ρ cX9_more RX9 6 4) (R : RtI ω ρ cX9_more .int post) {K29 : Int32 → Mem → Prop} {l1 : Int32} {l2 : Int32} (k29 : ∀ (u2 : Int32) (M : Mem), K29 u2 M → G ω ρ M 29 [(0, .ref (adr ω 0)), (1, .int l1), (2, .int u2)] []) {M : Mem} (h : w_X9_more_J113 post K29 l1 l2 M) : G ω ρ M 113 [(0, .ref (adr ω 0)), (1, .int l1), (2, .int l2)] [] := by
  obtain ⟨v1, ev1⟩ : ∃ y : Int32, y = (l2 + 1) := ⟨_, rfl⟩
  replace h := h v1 ev1
  refine G_iinc C dX9_more_113 2 rfl (v := v1) (by rw [ev1]; rfl) (by decide) (lv' := [(2, .int v1), (0, .ref (adr ω 0)), (1, .int l1)]) rfl ?_
  refine G_goto (tgt := 29) C dX9_more_116 (by decide) ?_
  refine G_sub [1, 2, 0] (lv' := [(0, .ref (adr ω 0)), (1, .int l1), (2, .int v1)]) rfl ?_
  exact k29 _ _ h
set_option maxRecDepth 100000 in
set_option maxHeartbeats 4000000 in
theorem s_X9_more_L29 {ω : WD} {ρ : FR} {post : Int32 → Mem → Prop} (C : Cx ω ρ cX9_more RX9 6 4) (R : RtI ω ρ cX9_more .int post) {l1 : Int32} : ∀ (f : Nat) (l2 : Int32) (M : Mem), w_X9_more_L29 post l1 f l2 M → G ω ρ M 29 [(0, .ref (adr ω 0)), (1, .int l1), (2, .int l2)] [] := by
  intro f
  induction f with
  | zero => intro l2 M h; exact False.elim h
  | succ f k29 =>
    intro l2 M h
    refine G_iload_n C dX9_more_29 2 rfl ?_
    refine G_iconst (v := 5) C dX9_more_30 (by decide) ?_
    obtain ⟨h1, h2⟩ := h
    refine G_icmp_ge (tgt := 119) C dX9_more_31 (by decide) (fun c => ?_) (fun c => ?_)
    · have h := h1 c
      clear h1 h2
      refine G_aload_n C dX9_more_119 0 rfl ?_
      refine gf_X9_33 C dX9_more_120 ?_
      refine G_iload_n C dX9_more_123 1 rfl ?_
      refine G_callI (As := [.int l1]) (rest := []) C dX9_more_124 lk_X9_271 (Nat.le_of_ble_eq_true rfl) (Nat.le_of_ble_eq_true rfl) q40 (by decide) rfl (Nat.le_of_ble_eq_true rfl) rfl (S_X0_told h) (fun r3 M2 h => ?_)
      exact R 127 _ _ _ dX9_more_127 rfl h
    · have h := h2 c
      clear h1 h2
      refine G_aload_n C dX9_more_34 0 rfl ?_
      refine gf_X9_10 C dX9_more_35 ?_
      refine gf_X9_150 C q1 dX9_more_38 ?_
      refine G_iload_n C dX9_more_41 2 rfl ?_
      obtain ⟨hi, h⟩ := h
      refine G_aldGroup C q6 hi dX9_more_42 (G_rname (fun g4 eg4 => ?_))
      replace h := h g4 eg4
      have hg4 := el_13 q6 hi eg4
      refine gf_X9_159 C hg4 dX9_more_43 ?_
      refine G_iname (fun v5 ev5 => ?_)
      replace h := h v5 ev5
      refine G_istore_n C dX9_more_46 (by decide) (lv' := [(3, .int v5), (0, .ref (adr ω 0)), (1, .int l1), (2, .int l2)]) rfl ?_
      refine G_iload_n C dX9_more_47 0 rfl ?_
      refine G_iconst (v := 4) C dX9_more_48 (by decide) ?_
      obtain ⟨h1, h2⟩ := h
      refine G_icmp_ge (tgt := 113) C dX9_more_49 (by decide) (fun c => ?_) (fun c => ?_)
      · have h := h1 c
        clear h1 h2
        refine G_sub [1, 2, 3] (lv' := [(0, .ref (adr ω 0)), (1, .int l1), (2, .int l2)]) rfl ?_
        exact s_X9_more_J113 C R k29 h
      · have h := h2 c
        clear h1 h2
        refine G_aload_n C dX9_more_52 1 rfl ?_
        refine gf_X9_26 C dX9_more_53 ?_
        refine gf_X9_237 C dX9_more_56 ?_
        refine G_aload_n C dX9_more_59 1 rfl ?_
        refine gf_X9_10 C dX9_more_60 ?_
        refine G_callV (As := [.ref (adr ω 1)]) (rest := []) C dX9_more_63 lk_X9_97 (Nat.le_of_ble_eq_true rfl) (Nat.le_of_ble_eq_true rfl) q23 (by decide) rfl (Nat.le_of_ble_eq_true rfl) rfl (S_X1_copyFrom q23 q1 h) (fun M6 h => ?_)
        refine G_aload_n C dX9_more_66 1 rfl ?_
        refine gf_X9_26 C dX9_more_67 ?_
        refine gf_X9_237 C dX9_more_70 ?_
        refine gf_X9_150 C q23 dX9_more_73 ?_
        refine G_iload_n C dX9_more_76 3 rfl ?_
        obtain ⟨hi, h⟩ := h
        refine G_aldGroup C q28 hi dX9_more_77 (G_rname (fun g7 eg7 => ?_))
        replace h := h g7 eg7
        have hg7 := el_13 q28 hi eg7
        refine G_iload_n C dX9_more_78 0 rfl ?_
        refine G_iconst (v := 1) C dX9_more_79 (by decide) ?_
        refine G_iadd C dX9_more_80 ?_
        refine G_callV (As := [.int (v5 + 1)]) (rest := []) C dX9_more_81 lk_X9_203 (Nat.le_of_ble_eq_true rfl) (Nat.le_of_ble_eq_true rfl) hg7 (by decide) rfl (Nat.le_of_ble_eq_true rfl) rfl (S_X2_resize hg7 h) (fun M8 h => ?_)
        refine G_aload_n C dX9_more_84 1 rfl ?_
        refine gf_X9_26 C dX9_more_85 ?_
        refine G_aload_n C dX9_more_88 1 rfl ?_
        refine gf_X9_19 C dX9_more_89 ?_
        refine G_sipush (v := 255) C dX9_more_92 (by decide) ?_
        refine G_callV (As := [.ref (adr ω 17), .int 255]) (rest := []) C dX9_more_95 lk_X9_244 (Nat.le_of_ble_eq_true rfl) (Nat.le_of_ble_eq_true rfl) q22 (by decide) rfl (Nat.le_of_ble_eq_true rfl) rfl (S_X8_follow h) (fun M9 h => ?_)
        refine G_aload_n C dX9_more_98 1 rfl ?_
        refine gf_X9_33 C dX9_more_99 ?_
        refine G_iload_n C dX9_more_102 3 rfl ?_
        refine G_aload_n C dX9_more_103 1 rfl ?_
        refine gf_X9_26 C dX9_more_104 ?_
        refine gf_X9_231 C dX9_more_107 ?_
        refine G_callV (As := [.int l2, .int (rd M9 22 3)]) (rest := []) C dX9_more_110 lk_X9_268 (Nat.le_of_ble_eq_true rfl) (Nat.le_of_ble_eq_true rfl) q40 (by decide) rfl (Nat.le_of_ble_eq_true rfl) rfl (S_X0_offer h) (fun M10 h => ?_)
        refine G_sub [1, 2, 3] (lv' := [(0, .ref (adr ω 0)), (1, .int l1), (2, .int l2)]) rfl ?_
        exact s_X9_more_J113 C R k29 h
set_option maxRecDepth 100000 in
set_option maxHeartbeats 4000000 in
theorem S_X9_more {ω : WD} {l1 : Int32} {M : Mem} {post : Int32 → Mem → Prop} (h : w_X9_more l1 M post) : MtI ω yX9_more cX9_more 4 (some .int) 6 [.ref (adr ω 0), .int l1] M post := by
  refine MtI.start (ty := .int) rfl (by decide +kernel) (own := RX9) rfl (Nat.le_of_ble_eq_true rfl) (fun ρ C R => ?_)
  show G ω ρ M 0 [(0, .ref (adr ω 0)), (1, .int l1)] []
  refine G_iload_n C dX9_more_0 1 rfl ?_
  refine G_scallI (As := [.int l1]) (rest := []) C dX9_more_1 lk_X9_184 (Nat.le_of_ble_eq_true rfl) (Nat.le_of_ble_eq_true rfl) (Nat.le_of_ble_eq_true rfl) rfl (S_X9_isBit h) (fun r12 M11 h => ?_)
  obtain ⟨h1, h2⟩ := h
  refine G_if_ne (tgt := 9) C dX9_more_4 (by decide) (fun c => ?_) (fun c => ?_)
  · have h := h1 c
    clear h1 h2
    refine G_aload_n C dX9_more_9 0 rfl ?_
    refine G_callV (As := []) (rest := []) C dX9_more_10 lk_X9_225 (Nat.le_of_ble_eq_true rfl) (Nat.le_of_ble_eq_true rfl) q0 (by decide) rfl (Nat.le_of_ble_eq_true rfl) rfl (S_X9_followAsIs h) (fun M13 h => ?_)
    refine G_aload_n C dX9_more_13 0 rfl ?_
    refine gf_X9_33 C dX9_more_14 ?_
    refine G_aload_n C dX9_more_17 0 rfl ?_
    refine gf_X9_26 C dX9_more_18 ?_
    refine gf_X9_231 C dX9_more_21 ?_
    refine G_callV (As := [.int (rd M13 22 3)]) (rest := []) C dX9_more_24 lk_X9_262 (Nat.le_of_ble_eq_true rfl) (Nat.le_of_ble_eq_true rfl) q40 (by decide) rfl (Nat.le_of_ble_eq_true rfl) rfl (S_X0_begin h) (fun M14 h => ?_)
    refine G_iconst (v := 0) C dX9_more_27 (by decide) ?_
    refine G_istore_n C dX9_more_28 (by decide) (lv' := [(2, .int 0), (0, .ref (adr ω 0)), (1, .int l1)]) rfl ?_
    refine G_sub [1, 2, 0] (lv' := [(0, .ref (adr ω 0)), (1, .int l1), (2, .int 0)]) rfl ?_
    obtain ⟨f, h⟩ := h
    exact s_X9_more_L29 C R  f _ _ h
  · have h := h2 c
    clear h1 h2
    refine G_iconst (v := (-1)) C dX9_more_7 (by decide) ?_
    exact R 8 _ _ _ dX9_more_8 rfl h
theorem dX9_isOdds_0 : decode cX9_isOdds 0 = .ok (.iload_n 0, 1) := by decide +kernel
theorem dX9_isOdds_1 : decode cX9_isOdds 1 = .ok (.ifCond .lt 13, 3) := by decide +kernel
theorem dX9_isOdds_4 : decode cX9_isOdds 4 = .ok (.iload_n 0, 1) := by decide +kernel
theorem dX9_isOdds_5 : decode cX9_isOdds 5 = .ok (.bipush 10, 2) := by decide +kernel
theorem dX9_isOdds_7 : decode cX9_isOdds 7 = .ok (.if_icmp .gt 7, 3) := by decide +kernel
theorem dX9_isOdds_10 : decode cX9_isOdds 10 = .ok (.iconst 1, 1) := by decide +kernel
theorem dX9_isOdds_11 : decode cX9_isOdds 11 = .ok (.goto 4, 3) := by decide +kernel
theorem dX9_isOdds_14 : decode cX9_isOdds 14 = .ok (.iconst 0, 1) := by decide +kernel
theorem dX9_isOdds_15 : decode cX9_isOdds 15 = .ok (.ireturn, 1) := by decide +kernel
set_option maxRecDepth 100000 in
set_option maxHeartbeats 4000000 in
theorem S_X9_isOdds {ω : WD} {l0 : Int32} {M : Mem} {post : Int32 → Mem → Prop} (h : w_X9_isOdds l0 M post) : MtI ω yX9_isOdds cX9_isOdds 1 (some .boolean) 0 [.int l0] M post := by
  refine MtI.start (ty := .boolean) rfl (by decide +kernel) (own := RX9) rfl (Nat.le_of_ble_eq_true rfl) (fun ρ C R => ?_)
  show G ω ρ M 0 [(0, .int l0)] []
  refine G_iload_n C dX9_isOdds_0 0 rfl ?_
  obtain ⟨h1, h2⟩ := h
  refine G_if_lt (tgt := 14) C dX9_isOdds_1 (by decide) (fun c => ?_) (fun c => ?_)
  · have h := h1 c
    clear h1 h2
    refine G_iconst (v := 0) C dX9_isOdds_14 (by decide) ?_
    exact R 15 _ _ _ dX9_isOdds_15 rfl h
  · have h := h2 c
    clear h1 h2
    refine G_iload_n C dX9_isOdds_4 0 rfl ?_
    refine G_bipush (v := 10) C dX9_isOdds_5 (by decide) ?_
    obtain ⟨h1, h2⟩ := h
    refine G_icmp_gt (tgt := 14) C dX9_isOdds_7 (by decide) (fun c => ?_) (fun c => ?_)
    · have h := h1 c
      clear h1 h2
      refine G_iconst (v := 0) C dX9_isOdds_14 (by decide) ?_
      exact R 15 _ _ _ dX9_isOdds_15 rfl h
    · have h := h2 c
      clear h1 h2
      refine G_iconst (v := 1) C dX9_isOdds_10 (by decide) ?_
      refine G_goto (tgt := 15) C dX9_isOdds_11 (by decide) ?_
      exact R 15 _ _ _ dX9_isOdds_15 rfl h
theorem dX9_power_0 : decode cX9_power 0 = .ok (.lconst 1, 1) := by decide +kernel
theorem dX9_power_1 : decode cX9_power 1 = .ok (.lstore_n 2, 1) := by decide +kernel
theorem dX9_power_2 : decode cX9_power 2 = .ok (.iconst 0, 1) := by decide +kernel
theorem dX9_power_3 : decode cX9_power 3 = .ok (.istore 4, 2) := by decide +kernel
theorem dX9_power_5 : decode cX9_power 5 = .ok (.iload 4, 2) := by decide +kernel
theorem dX9_power_7 : decode cX9_power 7 = .ok (.iload_n 1, 1) := by decide +kernel
theorem dX9_power_8 : decode cX9_power 8 = .ok (.if_icmp .ge 14, 3) := by decide +kernel
theorem dX9_power_11 : decode cX9_power 11 = .ok (.lload_n 2, 1) := by decide +kernel
theorem dX9_power_12 : decode cX9_power 12 = .ok (.iload_n 0, 1) := by decide +kernel
theorem dX9_power_13 : decode cX9_power 13 = .ok (.i2l, 1) := by decide +kernel
theorem dX9_power_14 : decode cX9_power 14 = .ok (.lmul, 1) := by decide +kernel
theorem dX9_power_15 : decode cX9_power 15 = .ok (.lstore_n 2, 1) := by decide +kernel
theorem dX9_power_16 : decode cX9_power 16 = .ok (.iinc 4 1, 3) := by decide +kernel
theorem dX9_power_19 : decode cX9_power 19 = .ok (.goto (-14), 3) := by decide +kernel
theorem dX9_power_22 : decode cX9_power 22 = .ok (.lload_n 2, 1) := by decide +kernel
theorem dX9_power_23 : decode cX9_power 23 = .ok (.lreturn, 1) := by decide +kernel
set_option maxRecDepth 100000 in
set_option maxHeartbeats 4000000 in
theorem s_X9_power_L5 {ω : WD} {ρ : FR} {post : Int64 → Mem → Prop} (C : Cx ω ρ cX9_power RX9 0 5) (R : RtL ω ρ cX9_power post) {l0 : Int32} {l1 : Int32} : ∀ (f : Nat) (l2 : Int64) (l4 : Int32) (M : Mem), w_X9_power_L5 post l0 l1 f l2 l4 M → G ω ρ M 5 [(0, .int l0), (1, .int l1), (2, .long l2), (4, .int l4)] [] := by
  intro f
  induction f with
  | zero => intro l2 l4 M h; exact False.elim h
  | succ f k5 =>
    intro l2 l4 M h
    refine G_iload C dX9_power_5 3 rfl ?_
    refine G_iload_n C dX9_power_7 1 rfl ?_
    obtain ⟨h1, h2⟩ := h
    refine G_icmp_ge (tgt := 22) C dX9_power_8 (by decide) (fun c => ?_) (fun c => ?_)
    · have h := h1 c
      clear h1 h2
      refine G_lload_n C dX9_power_22 2 rfl ?_
      exact R 23 _ _ _ dX9_power_23 h
    · have h := h2 c
      clear h1 h2
      refine G_lload_n C dX9_power_11 2 rfl ?_
      refine G_iload_n C dX9_power_12 0 rfl ?_
      refine G_i2l C dX9_power_13 ?_
      refine G_lmul C dX9_power_14 ?_
      refine G_lname (fun v1 ev1 => ?_)
      replace h := h v1 ev1
      refine G_lstore_n C dX9_power_15 (by decide) (lv' := [(2, .long v1), (0, .int l0), (1, .int l1), (4, .int l4)]) rfl ?_
      obtain ⟨v2, ev2⟩ : ∃ y : Int32, y = (l4 + 1) := ⟨_, rfl⟩
      replace h := h v2 ev2
      refine G_iinc C dX9_power_16 3 rfl (v := v2) (by rw [ev2]; rfl) (by decide) (lv' := [(4, .int v2), (2, .long v1), (0, .int l0), (1, .int l1)]) rfl ?_
      refine G_goto (tgt := 5) C dX9_power_19 (by decide) ?_
      refine G_sub [2, 3, 1, 0] (lv' := [(0, .int l0), (1, .int l1), (2, .long v1), (4, .int v2)]) rfl ?_
      exact k5 _ _ _ h
set_option maxRecDepth 100000 in
set_option maxHeartbeats 4000000 in
theorem S_X9_power {ω : WD} {l0 : Int32} {l1 : Int32} {M : Mem} {post : Int64 → Mem → Prop} (h : w_X9_power l0 l1 M post) : MtL ω yX9_power cX9_power 5 (some .long) 0 [.int l0, .int l1] M post := by
  refine MtL.start rfl (by decide +kernel) (own := RX9) rfl (Nat.le_of_ble_eq_true rfl) (fun ρ C R => ?_)
  show G ω ρ M 0 [(0, .int l0), (1, .int l1)] []
  refine G_lconst (v := 1) C dX9_power_0 (by decide) ?_
  refine G_lstore_n C dX9_power_1 (by decide) (lv' := [(2, .long 1), (0, .int l0), (1, .int l1)]) rfl ?_
  refine G_iconst (v := 0) C dX9_power_2 (by decide) ?_
  refine G_istore C dX9_power_3 (by decide) (lv' := [(4, .int 0), (2, .long 1), (0, .int l0), (1, .int l1)]) rfl ?_
  refine G_sub [2, 3, 1, 0] (lv' := [(0, .int l0), (1, .int l1), (2, .long 1), (4, .int 0)]) rfl ?_
  obtain ⟨f, h⟩ := h
  exact s_X9_power_L5 C R  f _ _ _ h
theorem dX9_broughtBy_0 : decode cX9_broughtBy 0 = .ok (.iload_n 1, 1) := by decide +kernel
theorem dX9_broughtBy_1 : decode cX9_broughtBy 1 = .ok (.bipush (-4), 2) := by decide +kernel
theorem dX9_broughtBy_3 : decode cX9_broughtBy 3 = .ok (.if_icmp .ne 11, 3) := by decide +kernel
theorem dX9_broughtBy_6 : decode cX9_broughtBy 6 = .ok (.aload_n 0, 1) := by decide +kernel
theorem dX9_broughtBy_7 : decode cX9_broughtBy 7 = .ok (.getfield 26, 3) := by decide +kernel
theorem dX9_broughtBy_10 : decode cX9_broughtBy 10 = .ok (.getfield 231, 3) := by decide +kernel
theorem dX9_broughtBy_13 : decode cX9_broughtBy 13 = .ok (.ireturn, 1) := by decide +kernel
theorem dX9_broughtBy_14 : decode cX9_broughtBy 14 = .ok (.aload_n 0, 1) := by decide +kernel
theorem dX9_broughtBy_15 : decode cX9_broughtBy 15 = .ok (.getfield 26, 3) := by decide +kernel
theorem dX9_broughtBy_18 : decode cX9_broughtBy 18 = .ok (.getfield 237, 3) := by decide +kernel
theorem dX9_broughtBy_21 : decode cX9_broughtBy 21 = .ok (.getfield 138, 3) := by decide +kernel
theorem dX9_broughtBy_24 : decode cX9_broughtBy 24 = .ok (.iload_n 1, 1) := by decide +kernel
theorem dX9_broughtBy_25 : decode cX9_broughtBy 25 = .ok (.iaload, 1) := by decide +kernel
theorem dX9_broughtBy_26 : decode cX9_broughtBy 26 = .ok (.iload_n 2, 1) := by decide +kernel
theorem dX9_broughtBy_27 : decode cX9_broughtBy 27 = .ok (.if_icmp .ne 7, 3) := by decide +kernel
theorem dX9_broughtBy_30 : decode cX9_broughtBy 30 = .ok (.iconst 1, 1) := by decide +kernel
theorem dX9_broughtBy_31 : decode cX9_broughtBy 31 = .ok (.goto 4, 3) := by decide +kernel
theorem dX9_broughtBy_34 : decode cX9_broughtBy 34 = .ok (.iconst 0, 1) := by decide +kernel
theorem dX9_broughtBy_35 : decode cX9_broughtBy 35 = .ok (.ireturn, 1) := by decide +kernel
set_option maxRecDepth 100000 in
set_option maxHeartbeats 4000000 in
theorem S_X9_broughtBy {ω : WD} {l1 : Int32} {l2 : Int32} {M : Mem} {post : Int32 → Mem → Prop} (h : w_X9_broughtBy l1 l2 M post) : MtI ω yX9_broughtBy cX9_broughtBy 3 (some .int) 0 [.ref (adr ω 0), .int l1, .int l2] M post := by
  refine MtI.start (ty := .int) rfl (by decide +kernel) (own := RX9) rfl (Nat.le_of_ble_eq_true rfl) (fun ρ C R => ?_)
  show G ω ρ M 0 [(0, .ref (adr ω 0)), (1, .int l1), (2, .int l2)] []
  refine G_iload_n C dX9_broughtBy_0 1 rfl ?_
  refine G_bipush (v := (-4)) C dX9_broughtBy_1 (by decide) ?_
  obtain ⟨h1, h2⟩ := h
  refine G_icmp_ne (tgt := 14) C dX9_broughtBy_3 (by decide) (fun c => ?_) (fun c => ?_)
  · have h := h1 c
    clear h1 h2
    refine G_aload_n C dX9_broughtBy_14 0 rfl ?_
    refine gf_X9_26 C dX9_broughtBy_15 ?_
    refine gf_X9_237 C dX9_broughtBy_18 ?_
    refine gf_X9_138 C q23 dX9_broughtBy_21 ?_
    refine G_iload_n C dX9_broughtBy_24 1 rfl ?_
    obtain ⟨hi, h⟩ := h
    refine G_iald C q25 hi rfl dX9_broughtBy_25 ?_
    refine G_iload_n C dX9_broughtBy_26 2 rfl ?_
    obtain ⟨h1, h2⟩ := h
    refine G_icmp_ne (tgt := 34) C dX9_broughtBy_27 (by decide) (fun c => ?_) (fun c => ?_)
    · have h := h1 c
      clear h1 h2
      refine G_iconst (v := 0) C dX9_broughtBy_34 (by decide) ?_
      exact R 35 _ _ _ dX9_broughtBy_35 rfl h
    · have h := h2 c
      clear h1 h2
      refine G_iconst (v := 1) C dX9_broughtBy_30 (by decide) ?_
      refine G_goto (tgt := 35) C dX9_broughtBy_31 (by decide) ?_
      exact R 35 _ _ _ dX9_broughtBy_35 rfl h
  · have h := h2 c
    clear h1 h2
    refine G_aload_n C dX9_broughtBy_6 0 rfl ?_
    refine gf_X9_26 C dX9_broughtBy_7 ?_
    refine gf_X9_231 C dX9_broughtBy_10 ?_
    exact R 13 _ _ _ dX9_broughtBy_13 rfl h
theorem dX9_weighed_0 : decode cX9_weighed 0 = .ok (.aload_n 0, 1) := by decide +kernel
theorem dX9_weighed_1 : decode cX9_weighed 1 = .ok (.getfield 19, 3) := by decide +kernel
theorem dX9_weighed_4 : decode cX9_weighed 4 = .ok (.invokevirtual 286, 3) := by decide +kernel
theorem dX9_weighed_7 : decode cX9_weighed 7 = .ok (.istore 4, 2) := by decide +kernel
theorem dX9_weighed_9 : decode cX9_weighed 9 = .ok (.iload 4, 2) := by decide +kernel
theorem dX9_weighed_11 : decode cX9_weighed 11 = .ok (.invokestatic 289, 3) := by decide +kernel
theorem dX9_weighed_14 : decode cX9_weighed 14 = .ok (.istore 5, 2) := by decide +kernel
theorem dX9_weighed_16 : decode cX9_weighed 16 = .ok (.lconst 0, 1) := by decide +kernel
theorem dX9_weighed_17 : decode cX9_weighed 17 = .ok (.lstore 6, 2) := by decide +kernel
theorem dX9_weighed_19 : decode cX9_weighed 19 = .ok (.iconst 0, 1) := by decide +kernel
theorem dX9_weighed_20 : decode cX9_weighed 20 = .ok (.istore 8, 2) := by decide +kernel
theorem dX9_weighed_22 : decode cX9_weighed 22 = .ok (.iload 8, 2) := by decide +kernel
theorem dX9_weighed_24 : decode cX9_weighed 24 = .ok (.sipush 255, 3) := by decide +kernel
theorem dX9_weighed_27 : decode cX9_weighed 27 = .ok (.if_icmp .gt 101, 3) := by decide +kernel
theorem dX9_weighed_30 : decode cX9_weighed 30 = .ok (.iload 8, 2) := by decide +kernel
theorem dX9_weighed_32 : decode cX9_weighed 32 = .ok (.iload 4, 2) := by decide +kernel
theorem dX9_weighed_34 : decode cX9_weighed 34 = .ok (.iconst (-1), 1) := by decide +kernel
theorem dX9_weighed_35 : decode cX9_weighed 35 = .ok (.ixor, 1) := by decide +kernel
theorem dX9_weighed_36 : decode cX9_weighed 36 = .ok (.iand, 1) := by decide +kernel
theorem dX9_weighed_37 : decode cX9_weighed 37 = .ok (.ifCond .ne 85, 3) := by decide +kernel
theorem dX9_weighed_40 : decode cX9_weighed 40 = .ok (.iload 8, 2) := by decide +kernel
theorem dX9_weighed_42 : decode cX9_weighed 42 = .ok (.invokestatic 289, 3) := by decide +kernel
theorem dX9_weighed_45 : decode cX9_weighed 45 = .ok (.istore 9, 2) := by decide +kernel
theorem dX9_weighed_47 : decode cX9_weighed 47 = .ok (.bipush 10, 2) := by decide +kernel
theorem dX9_weighed_49 : decode cX9_weighed 49 = .ok (.iload_n 1, 1) := by decide +kernel
theorem dX9_weighed_50 : decode cX9_weighed 50 = .ok (.isub, 1) := by decide +kernel
theorem dX9_weighed_51 : decode cX9_weighed 51 = .ok (.iload 9, 2) := by decide +kernel
theorem dX9_weighed_53 : decode cX9_weighed 53 = .ok (.invokestatic 294, 3) := by decide +kernel
theorem dX9_weighed_56 : decode cX9_weighed 56 = .ok (.iload_n 1, 1) := by decide +kernel
theorem dX9_weighed_57 : decode cX9_weighed 57 = .ok (.iload 5, 2) := by decide +kernel
theorem dX9_weighed_59 : decode cX9_weighed 59 = .ok (.iload 9, 2) := by decide +kernel
theorem dX9_weighed_61 : decode cX9_weighed 61 = .ok (.isub, 1) := by decide +kernel
theorem dX9_weighed_62 : decode cX9_weighed 62 = .ok (.invokestatic 294, 3) := by decide +kernel
theorem dX9_weighed_65 : decode cX9_weighed 65 = .ok (.lmul, 1) := by decide +kernel
theorem dX9_weighed_66 : decode cX9_weighed 66 = .ok (.lstore 10, 2) := by decide +kernel
theorem dX9_weighed_68 : decode cX9_weighed 68 = .ok (.lload 10, 2) := by decide +kernel
theorem dX9_weighed_70 : decode cX9_weighed 70 = .ok (.lconst 0, 1) := by decide +kernel
theorem dX9_weighed_71 : decode cX9_weighed 71 = .ok (.lcmp, 1) := by decide +kernel
theorem dX9_weighed_72 : decode cX9_weighed 72 = .ok (.ifCond .eq 50, 3) := by decide +kernel
theorem dX9_weighed_75 : decode cX9_weighed 75 = .ok (.aload_n 0, 1) := by decide +kernel
theorem dX9_weighed_76 : decode cX9_weighed 76 = .ok (.getfield 26, 3) := by decide +kernel
theorem dX9_weighed_79 : decode cX9_weighed 79 = .ok (.getfield 237, 3) := by decide +kernel
theorem dX9_weighed_82 : decode cX9_weighed 82 = .ok (.aload_n 0, 1) := by decide +kernel
theorem dX9_weighed_83 : decode cX9_weighed 83 = .ok (.getfield 10, 3) := by decide +kernel
theorem dX9_weighed_86 : decode cX9_weighed 86 = .ok (.invokevirtual 97, 3) := by decide +kernel
theorem dX9_weighed_89 : decode cX9_weighed 89 = .ok (.aload_n 0, 1) := by decide +kernel
theorem dX9_weighed_90 : decode cX9_weighed 90 = .ok (.getfield 26, 3) := by decide +kernel
theorem dX9_weighed_93 : decode cX9_weighed 93 = .ok (.aload_n 0, 1) := by decide +kernel
theorem dX9_weighed_94 : decode cX9_weighed 94 = .ok (.getfield 19, 3) := by decide +kernel
theorem dX9_weighed_97 : decode cX9_weighed 97 = .ok (.iload 8, 2) := by decide +kernel
theorem dX9_weighed_99 : decode cX9_weighed 99 = .ok (.iload 4, 2) := by decide +kernel
theorem dX9_weighed_101 : decode cX9_weighed 101 = .ok (.iconst (-1), 1) := by decide +kernel
theorem dX9_weighed_102 : decode cX9_weighed 102 = .ok (.ixor, 1) := by decide +kernel
theorem dX9_weighed_103 : decode cX9_weighed 103 = .ok (.ior, 1) := by decide +kernel
theorem dX9_weighed_104 : decode cX9_weighed 104 = .ok (.invokevirtual 244, 3) := by decide +kernel
theorem dX9_weighed_107 : decode cX9_weighed 107 = .ok (.lload 6, 2) := by decide +kernel
theorem dX9_weighed_109 : decode cX9_weighed 109 = .ok (.lload 10, 2) := by decide +kernel
theorem dX9_weighed_111 : decode cX9_weighed 111 = .ok (.aload_n 0, 1) := by decide +kernel
theorem dX9_weighed_112 : decode cX9_weighed 112 = .ok (.iload_n 2, 1) := by decide +kernel
theorem dX9_weighed_113 : decode cX9_weighed 113 = .ok (.iload_n 3, 1) := by decide +kernel
theorem dX9_weighed_114 : decode cX9_weighed 114 = .ok (.invokevirtual 371, 3) := by decide +kernel
theorem dX9_weighed_117 : decode cX9_weighed 117 = .ok (.i2l, 1) := by decide +kernel
theorem dX9_weighed_118 : decode cX9_weighed 118 = .ok (.lmul, 1) := by decide +kernel
theorem dX9_weighed_119 : decode cX9_weighed 119 = .ok (.ladd, 1) := by decide +kernel
theorem dX9_weighed_120 : decode cX9_weighed 120 = .ok (.lstore 6, 2) := by decide +kernel
theorem dX9_weighed_122 : decode cX9_weighed 122 = .ok (.iinc 8 1, 3) := by decide +kernel
theorem dX9_weighed_125 : decode cX9_weighed 125 = .ok (.goto (-103), 3) := by decide +kernel
theorem dX9_weighed_128 : decode cX9_weighed 128 = .ok (.lload 6, 2) := by decide +kernel
theorem dX9_weighed_130 : decode cX9_weighed 130 = .ok (.lreturn, 1) := by decide +kernel
theorem lk_X9_289 : LkS RX9 289 yJ6_bitCount_0f7a4 cJ6_bitCount_0f7a4 1 (some .int) 1 := LkS.of 826 827 77 828 (by decide +kernel) (by decide +kernel) (by decide +kernel) (by decide +kernel) (by decide +kernel)
theorem lk_X9_294 : LkS RX9 294 yX9_power cX9_power 5 (some .long) 2 := LkS.of 832 833 61 834 (by decide +kernel) (by decide +kernel) (by decide +kernel) (by decide +kernel) (by decide +kernel)
theorem lk_X9_371 : LkV RX9 371 RX9 yX9_broughtBy cX9_broughtBy 3 (some .int) 2 := LkV.of 835 837 6 61 838 (by decide +kernel) (by decide +kernel) (by decide +kernel) (by decide +kernel) (by decide +kernel) (by decide +kernel)
theorem lk_X9_286 : LkV RX9 286 RX5 yX5_dials cX5_dials 3 (some .int) 0 := LkV.of 822 823 824 64 825 (by decide +kernel) (by decide +kernel) (by decide +kernel) (by decide +kernel) (by decide +kernel) (by decide +kernel)
set_option maxRecDepth 100000 in
set_option maxHeartbeats 4000000 in
theorem s_X9_weighed_J122 {ω : WD} {ρ : FR} {post : Int64 → Mem → Prop} (C : Cx ω ρ cX9_weighed RX9 5 12) (R : RtL ω ρ cX9_weighed post) {K22 : Int64 → Int32 → Mem → Prop} {l1 : Int32} {l2 : Int32} {l3 : Int32} {l4 : Int32} {l5 : Int32} {l6 : Int64} {l8 : Int32} (k22 : ∀ (u6 : Int64) (u8 : Int32) (M : Mem), K22 u6 u8 M → G ω ρ M 22 [(0, .ref (adr ω 0)), (1, .int l1), (2, .int l2), (3, .int l3), (4, .int l4), (5, .int l5), (6, .long u6), (8, .int u8)] []) {M : Mem} (h : w_X9_weighed_J122 post K22 l1 l2 l3 l4 l5 l6 l8 M) : G ω ρ M 122 [(0, .ref (adr ω 0)), (1, .int l1), (2, .int l2), (3, .int l3), (4, .int l4), (5, .int l5), (6, .long l6), (8, .int l8)] [] := by
  obtain ⟨v1, ev1⟩ : ∃ y : Int32, y = (l8 + 1) := ⟨_, rfl⟩
  replace h := h v1 ev1
  refine G_iinc C dX9_weighed_122 7 rfl (v := v1) (by rw [ev1]; rfl) (by decide) (lv' := [(8, .int v1), (0, .ref (adr ω 0)), (1, .int l1), (2, .int l2), (3, .int l3), (4, .int l4), (5, .int l5), (6, .long l6)]) rfl ?_
  refine G_goto (tgt := 22) C dX9_weighed_125 (by decide) ?_
  refine G_sub [1, 2, 3, 4, 5, 6, 7, 0] (lv' := [(0, .ref (adr ω 0)), (1, .int l1), (2, .int l2), (3, .int l3), (4, .int l4), (5, .int l5), (6, .long l6), (8, .int v1)]) rfl ?_
  exact k22 _ _ _ h
set_option maxRecDepth 100000 in
set_option maxHeartbeats 4000000 in
theorem s_X9_weighed_L22 {ω : WD} {ρ : FR} {post : Int64 → Mem → Prop} (C : Cx ω ρ cX9_weighed RX9 5 12) (R : RtL ω ρ cX9_weighed post) {l1 : Int32} {l2 : Int32} {l3 : Int32} {l4 : Int32} {l5 : Int32} : ∀ (f : Nat) (l6 : Int64) (l8 : Int32) (M : Mem), w_X9_weighed_L22 post l1 l2 l3 l4 l5 f l6 l8 M → G ω ρ M 22 [(0, .ref (adr ω 0)), (1, .int l1), (2, .int l2), (3, .int l3), (4, .int l4), (5, .int l5), (6, .long l6), (8, .int l8)] [] := by
  intro f
  induction f with
  | zero => intro l6 l8 M h; exact False.elim h
  | succ f k22 =>
    intro l6 l8 M h
    refine G_iload C dX9_weighed_22 7 rfl ?_
    refine G_sipush (v := 255) C dX9_weighed_24 (by decide) ?_
    obtain ⟨h1, h2⟩ := h
    refine G_icmp_gt (tgt := 128) C dX9_weighed_27 (by decide) (fun c => ?_) (fun c => ?_)
    · have h := h1 c
      clear h1 h2
      refine G_lload C dX9_weighed_128 6 rfl ?_
      exact R 130 _ _ _ dX9_weighed_130 h
    · have h := h2 c
      clear h1 h2
      refine G_iload C dX9_weighed_30 7 rfl ?_
      refine G_iload C dX9_weighed_32 4 rfl ?_
      refine G_iconst (v := (-1)) C dX9_weighed_34 (by decide) ?_
      refine G_ixor C dX9_weighed_35 ?_
      refine G_iand C dX9_weighed_36 ?_
      obtain ⟨h1, h2⟩ := h
      refine G_if_ne (tgt := 122) C dX9_weighed_37 (by decide) (fun c => ?_) (fun c => ?_)
      · have h := h1 c
        clear h1 h2
        exact s_X9_weighed_J122 C R k22 h
      · have h := h2 c
        clear h1 h2
        refine G_iload C dX9_weighed_40 7 rfl ?_
        refine G_scallI (As := [.int l8]) (rest := []) C dX9_weighed_42 lk_X9_289 (Nat.le_of_ble_eq_true rfl) (Nat.le_of_ble_eq_true rfl) (Nat.le_of_ble_eq_true rfl) rfl (S_J6_bitCount_0f7a4 h) (fun r3 M2 h => ?_)
        refine G_istore C dX9_weighed_45 (by decide) (lv' := [(9, .int r3), (0, .ref (adr ω 0)), (1, .int l1), (2, .int l2), (3, .int l3), (4, .int l4), (5, .int l5), (6, .long l6), (8, .int l8)]) rfl ?_
        refine G_bipush (v := 10) C dX9_weighed_47 (by decide) ?_
        refine G_iload_n C dX9_weighed_49 2 rfl ?_
        refine G_isub C dX9_weighed_50 ?_
        refine G_iload C dX9_weighed_51 0 rfl ?_
        refine G_scallL (As := [.int (10 - l1), .int r3]) (rest := []) C dX9_weighed_53 lk_X9_294 (Nat.le_of_ble_eq_true rfl) (Nat.le_of_ble_eq_true rfl) (Nat.le_of_ble_eq_true rfl) rfl (S_X9_power h) (fun r5 M4 h => ?_)
        refine G_iload_n C dX9_weighed_56 2 rfl ?_
        refine G_iload C dX9_weighed_57 6 rfl ?_
        refine G_iload C dX9_weighed_59 0 rfl ?_
        refine G_isub C dX9_weighed_61 ?_
        refine G_scallL (As := [.int l1, .int (l5 - r3)]) (rest := [.long r5]) C dX9_weighed_62 lk_X9_294 (Nat.le_of_ble_eq_true rfl) (Nat.le_of_ble_eq_true rfl) (Nat.le_of_ble_eq_true rfl) rfl (S_X9_power h) (fun r7 M6 h => ?_)
        refine G_lmul C dX9_weighed_65 ?_
        refine G_lname (fun v8 ev8 => ?_)
        replace h := h v8 ev8
        refine G_lstore C dX9_weighed_66 (by decide) (lv' := [(10, .long v8), (9, .int r3), (0, .ref (adr ω 0)), (1, .int l1), (2, .int l2), (3, .int l3), (4, .int l4), (5, .int l5), (6, .long l6), (8, .int l8)]) rfl ?_
        refine G_lload C dX9_weighed_68 0 rfl ?_
        refine G_lconst (v := 0) C dX9_weighed_70 (by decide) ?_
        refine G_lcmp C dX9_weighed_71 ?_
        obtain ⟨h1, h2⟩ := h
        refine G_if_eq (tgt := 122) C dX9_weighed_72 (by decide) (fun c => ?_) (fun c => ?_)
        · have h := h1 c
          clear h1 h2
          refine G_sub [2, 3, 4, 5, 6, 7, 8, 9] (lv' := [(0, .ref (adr ω 0)), (1, .int l1), (2, .int l2), (3, .int l3), (4, .int l4), (5, .int l5), (6, .long l6), (8, .int l8)]) rfl ?_
          exact s_X9_weighed_J122 C R k22 h
        · have h := h2 c
          clear h1 h2
          refine G_aload_n C dX9_weighed_75 2 rfl ?_
          refine gf_X9_26 C dX9_weighed_76 ?_
          refine gf_X9_237 C dX9_weighed_79 ?_
          refine G_aload_n C dX9_weighed_82 2 rfl ?_
          refine gf_X9_10 C dX9_weighed_83 ?_
          refine G_callV (As := [.ref (adr ω 1)]) (rest := []) C dX9_weighed_86 lk_X9_97 (Nat.le_of_ble_eq_true rfl) (Nat.le_of_ble_eq_true rfl) q23 (by decide) rfl (Nat.le_of_ble_eq_true rfl) rfl (S_X1_copyFrom q23 q1 h) (fun M9 h => ?_)
          refine G_aload_n C dX9_weighed_89 2 rfl ?_
          refine gf_X9_26 C dX9_weighed_90 ?_
          refine G_aload_n C dX9_weighed_93 2 rfl ?_
          refine gf_X9_19 C dX9_weighed_94 ?_
          refine G_iload C dX9_weighed_97 9 rfl ?_
          refine G_iload C dX9_weighed_99 6 rfl ?_
          refine G_iconst (v := (-1)) C dX9_weighed_101 (by decide) ?_
          refine G_ixor C dX9_weighed_102 ?_
          refine G_ior C dX9_weighed_103 ?_
          refine G_callV (As := [.ref (adr ω 17), .int (l8 ||| (l4 ^^^ (-1)))]) (rest := []) C dX9_weighed_104 lk_X9_244 (Nat.le_of_ble_eq_true rfl) (Nat.le_of_ble_eq_true rfl) q22 (by decide) rfl (Nat.le_of_ble_eq_true rfl) rfl (S_X8_follow h) (fun M10 h => ?_)
          refine G_lload C dX9_weighed_107 8 rfl ?_
          refine G_lload C dX9_weighed_109 0 rfl ?_
          refine G_aload_n C dX9_weighed_111 2 rfl ?_
          refine G_iload_n C dX9_weighed_112 4 rfl ?_
          refine G_iload_n C dX9_weighed_113 5 rfl ?_
          refine G_callI (As := [.int l2, .int l3]) (rest := [.long v8, .long l6]) C dX9_weighed_114 lk_X9_371 (Nat.le_of_ble_eq_true rfl) (Nat.le_of_ble_eq_true rfl) q0 (by decide) rfl (Nat.le_of_ble_eq_true rfl) rfl (S_X9_broughtBy h) (fun r12 M11 h => ?_)
          refine G_i2l C dX9_weighed_117 ?_
          refine G_lmul C dX9_weighed_118 ?_
          refine G_ladd C dX9_weighed_119 ?_
          refine G_lname (fun v13 ev13 => ?_)
          replace h := h v13 ev13
          refine G_lstore C dX9_weighed_120 (by decide) (lv' := [(6, .long v13), (10, .long v8), (9, .int r3), (0, .ref (adr ω 0)), (1, .int l1), (2, .int l2), (3, .int l3), (4, .int l4), (5, .int l5), (8, .int l8)]) rfl ?_
          refine G_sub [3, 4, 5, 6, 7, 8, 0, 9] (lv' := [(0, .ref (adr ω 0)), (1, .int l1), (2, .int l2), (3, .int l3), (4, .int l4), (5, .int l5), (6, .long v13), (8, .int l8)]) rfl ?_
          exact s_X9_weighed_J122 C R k22 h
set_option maxRecDepth 100000 in
set_option maxHeartbeats 4000000 in
theorem S_X9_weighed {ω : WD} {l1 : Int32} {l2 : Int32} {l3 : Int32} {M : Mem} {post : Int64 → Mem → Prop} (h : w_X9_weighed l1 l2 l3 M post) : MtL ω yX9_weighed cX9_weighed 12 (some .long) 5 [.ref (adr ω 0), .int l1, .int l2, .int l3] M post := by
  refine MtL.start rfl (by decide +kernel) (own := RX9) rfl (Nat.le_of_ble_eq_true rfl) (fun ρ C R => ?_)
  show G ω ρ M 0 [(0, .ref (adr ω 0)), (1, .int l1), (2, .int l2), (3, .int l3)] []
  refine G_aload_n C dX9_weighed_0 0 rfl ?_
  refine gf_X9_19 C dX9_weighed_1 ?_
  refine G_callI (As := []) (rest := []) C dX9_weighed_4 lk_X9_286 (Nat.le_of_ble_eq_true rfl) (Nat.le_of_ble_eq_true rfl) q17 (by decide) rfl (Nat.le_of_ble_eq_true rfl) rfl (S_X5_dials q17 h) (fun r15 M14 h => ?_)
  refine G_istore C dX9_weighed_7 (by decide) (lv' := [(4, .int r15), (0, .ref (adr ω 0)), (1, .int l1), (2, .int l2), (3, .int l3)]) rfl ?_
  refine G_iload C dX9_weighed_9 0 rfl ?_
  refine G_scallI (As := [.int r15]) (rest := []) C dX9_weighed_11 lk_X9_289 (Nat.le_of_ble_eq_true rfl) (Nat.le_of_ble_eq_true rfl) (Nat.le_of_ble_eq_true rfl) rfl (S_J6_bitCount_0f7a4 h) (fun r17 M16 h => ?_)
  refine G_istore C dX9_weighed_14 (by decide) (lv' := [(5, .int r17), (4, .int r15), (0, .ref (adr ω 0)), (1, .int l1), (2, .int l2), (3, .int l3)]) rfl ?_
  refine G_lconst (v := 0) C dX9_weighed_16 (by decide) ?_
  refine G_lstore C dX9_weighed_17 (by decide) (lv' := [(6, .long 0), (5, .int r17), (4, .int r15), (0, .ref (adr ω 0)), (1, .int l1), (2, .int l2), (3, .int l3)]) rfl ?_
  refine G_iconst (v := 0) C dX9_weighed_19 (by decide) ?_
  refine G_istore C dX9_weighed_20 (by decide) (lv' := [(8, .int 0), (6, .long 0), (5, .int r17), (4, .int r15), (0, .ref (adr ω 0)), (1, .int l1), (2, .int l2), (3, .int l3)]) rfl ?_
  refine G_sub [4, 5, 6, 7, 3, 2, 1, 0] (lv' := [(0, .ref (adr ω 0)), (1, .int l1), (2, .int l2), (3, .int l3), (4, .int r15), (5, .int r17), (6, .long 0), (8, .int 0)]) rfl ?_
  obtain ⟨f, h⟩ := h
  exact s_X9_weighed_L22 C R  f _ _ _ h
theorem dX9_divisor_0 : decode cX9_divisor 0 = .ok (.lload_n 0, 1) := by decide +kernel
theorem dX9_divisor_1 : decode cX9_divisor 1 = .ok (.lstore 4, 2) := by decide +kernel
theorem dX9_divisor_3 : decode cX9_divisor 3 = .ok (.lload_n 2, 1) := by decide +kernel
theorem dX9_divisor_4 : decode cX9_divisor 4 = .ok (.lstore 6, 2) := by decide +kernel
theorem dX9_divisor_6 : decode cX9_divisor 6 = .ok (.iconst 0, 1) := by decide +kernel
theorem dX9_divisor_7 : decode cX9_divisor 7 = .ok (.istore 8, 2) := by decide +kernel
theorem dX9_divisor_9 : decode cX9_divisor 9 = .ok (.iload 8, 2) := by decide +kernel
theorem dX9_divisor_11 : decode cX9_divisor 11 = .ok (.sipush 200, 3) := by decide +kernel
theorem dX9_divisor_14 : decode cX9_divisor 14 = .ok (.if_icmp .ge 31, 3) := by decide +kernel
theorem dX9_divisor_17 : decode cX9_divisor 17 = .ok (.lload 6, 2) := by decide +kernel
theorem dX9_divisor_19 : decode cX9_divisor 19 = .ok (.lconst 0, 1) := by decide +kernel
theorem dX9_divisor_20 : decode cX9_divisor 20 = .ok (.lcmp, 1) := by decide +kernel
theorem dX9_divisor_21 : decode cX9_divisor 21 = .ok (.ifCond .eq 24, 3) := by decide +kernel
theorem dX9_divisor_24 : decode cX9_divisor 24 = .ok (.lload 4, 2) := by decide +kernel
theorem dX9_divisor_26 : decode cX9_divisor 26 = .ok (.lload 6, 2) := by decide +kernel
theorem dX9_divisor_28 : decode cX9_divisor 28 = .ok (.lrem, 1) := by decide +kernel
theorem dX9_divisor_29 : decode cX9_divisor 29 = .ok (.lstore 9, 2) := by decide +kernel
theorem dX9_divisor_31 : decode cX9_divisor 31 = .ok (.lload 6, 2) := by decide +kernel
theorem dX9_divisor_33 : decode cX9_divisor 33 = .ok (.lstore 4, 2) := by decide +kernel
theorem dX9_divisor_35 : decode cX9_divisor 35 = .ok (.lload 9, 2) := by decide +kernel
theorem dX9_divisor_37 : decode cX9_divisor 37 = .ok (.lstore 6, 2) := by decide +kernel
theorem dX9_divisor_39 : decode cX9_divisor 39 = .ok (.iinc 8 1, 3) := by decide +kernel
theorem dX9_divisor_42 : decode cX9_divisor 42 = .ok (.goto (-33), 3) := by decide +kernel
theorem dX9_divisor_45 : decode cX9_divisor 45 = .ok (.lload 4, 2) := by decide +kernel
theorem dX9_divisor_47 : decode cX9_divisor 47 = .ok (.lreturn, 1) := by decide +kernel
set_option maxRecDepth 100000 in
set_option maxHeartbeats 4000000 in
theorem s_X9_divisor_L9 {ω : WD} {ρ : FR} {post : Int64 → Mem → Prop} (C : Cx ω ρ cX9_divisor RX9 0 11) (R : RtL ω ρ cX9_divisor post) : ∀ (f : Nat) (l4 : Int64) (l6 : Int64) (l8 : Int32) (M : Mem), w_X9_divisor_L9 post f l4 l6 l8 M → G ω ρ M 9 [(4, .long l4), (6, .long l6), (8, .int l8)] [] := by
  intro f
  induction f with
  | zero => intro l4 l6 l8 M h; exact False.elim h
  | succ f k9 =>
    intro l4 l6 l8 M h
    refine G_iload C dX9_divisor_9 2 rfl ?_
    refine G_sipush (v := 200) C dX9_divisor_11 (by decide) ?_
    obtain ⟨h1, h2⟩ := h
    refine G_icmp_ge (tgt := 45) C dX9_divisor_14 (by decide) (fun c => ?_) (fun c => ?_)
    · have h := h1 c
      clear h1 h2
      refine G_lload C dX9_divisor_45 0 rfl ?_
      exact R 47 _ _ _ dX9_divisor_47 h
    · have h := h2 c
      clear h1 h2
      refine G_lload C dX9_divisor_17 1 rfl ?_
      refine G_lconst (v := 0) C dX9_divisor_19 (by decide) ?_
      refine G_lcmp C dX9_divisor_20 ?_
      obtain ⟨h1, h2⟩ := h
      refine G_if_eq (tgt := 45) C dX9_divisor_21 (by decide) (fun c => ?_) (fun c => ?_)
      · have h := h1 c
        clear h1 h2
        refine G_lload C dX9_divisor_45 0 rfl ?_
        exact R 47 _ _ _ dX9_divisor_47 h
      · have h := h2 c
        clear h1 h2
        refine G_lload C dX9_divisor_24 0 rfl ?_
        refine G_lload C dX9_divisor_26 1 rfl ?_
        obtain ⟨hz, h⟩ := h
        refine G_lrem C dX9_divisor_28 hz ?_
        refine G_lname (fun v1 ev1 => ?_)
        replace h := h v1 ev1
        refine G_lstore C dX9_divisor_29 (by decide) (lv' := [(9, .long v1), (4, .long l4), (6, .long l6), (8, .int l8)]) rfl ?_
        refine G_lload C dX9_divisor_31 2 rfl ?_
        refine G_lstore C dX9_divisor_33 (by decide) (lv' := [(4, .long l6), (9, .long v1), (6, .long l6), (8, .int l8)]) rfl ?_
        refine G_lload C dX9_divisor_35 1 rfl ?_
        refine G_lstore C dX9_divisor_37 (by decide) (lv' := [(6, .long v1), (4, .long l6), (9, .long v1), (8, .int l8)]) rfl ?_
        obtain ⟨v2, ev2⟩ : ∃ y : Int32, y = (l8 + 1) := ⟨_, rfl⟩
        replace h := h v2 ev2
        refine G_iinc C dX9_divisor_39 3 rfl (v := v2) (by rw [ev2]; rfl) (by decide) (lv' := [(8, .int v2), (6, .long v1), (4, .long l6), (9, .long v1)]) rfl ?_
        refine G_goto (tgt := 9) C dX9_divisor_42 (by decide) ?_
        refine G_sub [2, 1, 0] (lv' := [(4, .long l6), (6, .long v1), (8, .int v2)]) rfl ?_
        exact k9 _ _ _ _ h
set_option maxRecDepth 100000 in
set_option maxHeartbeats 4000000 in
theorem S_X9_divisor {ω : WD} {l0 : Int64} {l2 : Int64} {M : Mem} {post : Int64 → Mem → Prop} (h : w_X9_divisor l0 l2 M post) : MtL ω yX9_divisor cX9_divisor 11 (some .long) 0 [.long l0, .long l2] M post := by
  refine MtL.start rfl (by decide +kernel) (own := RX9) rfl (Nat.le_of_ble_eq_true rfl) (fun ρ C R => ?_)
  show G ω ρ M 0 [(0, .long l0), (2, .long l2)] []
  refine G_lload_n C dX9_divisor_0 0 rfl ?_
  refine G_lstore C dX9_divisor_1 (by decide) (lv' := [(4, .long l0), (0, .long l0), (2, .long l2)]) rfl ?_
  refine G_lload_n C dX9_divisor_3 2 rfl ?_
  refine G_lstore C dX9_divisor_4 (by decide) (lv' := [(6, .long l2), (4, .long l0), (0, .long l0), (2, .long l2)]) rfl ?_
  refine G_iconst (v := 0) C dX9_divisor_6 (by decide) ?_
  refine G_istore C dX9_divisor_7 (by decide) (lv' := [(8, .int 0), (6, .long l2), (4, .long l0), (0, .long l0), (2, .long l2)]) rfl ?_
  refine G_sub [2, 1, 0] (lv' := [(4, .long l0), (6, .long l2), (8, .int 0)]) rfl ?_
  obtain ⟨f, h⟩ := h
  exact s_X9_divisor_L9 C R  f _ _ _ _ h
theorem dX9_fraction_0 : decode cX9_fraction 0 = .ok (.lload_n 0, 1) := by decide +kernel
theorem dX9_fraction_1 : decode cX9_fraction 1 = .ok (.lload_n 2, 1) := by decide +kernel
theorem dX9_fraction_2 : decode cX9_fraction 2 = .ok (.invokestatic 374, 3) := by decide +kernel
theorem dX9_fraction_5 : decode cX9_fraction 5 = .ok (.lstore 5, 2) := by decide +kernel
theorem dX9_fraction_7 : decode cX9_fraction 7 = .ok (.lload 5, 2) := by decide +kernel
theorem dX9_fraction_9 : decode cX9_fraction 9 = .ok (.lconst 0, 1) := by decide +kernel
theorem dX9_fraction_10 : decode cX9_fraction 10 = .ok (.lcmp, 1) := by decide +kernel
theorem dX9_fraction_11 : decode cX9_fraction 11 = .ok (.ifCond .ne 5, 3) := by decide +kernel
theorem dX9_fraction_14 : decode cX9_fraction 14 = .ok (.lconst 0, 1) := by decide +kernel
theorem dX9_fraction_15 : decode cX9_fraction 15 = .ok (.lreturn, 1) := by decide +kernel
theorem dX9_fraction_16 : decode cX9_fraction 16 = .ok (.iload 4, 2) := by decide +kernel
theorem dX9_fraction_18 : decode cX9_fraction 18 = .ok (.ifCond .ne 10, 3) := by decide +kernel
theorem dX9_fraction_21 : decode cX9_fraction 21 = .ok (.lload_n 0, 1) := by decide +kernel
theorem dX9_fraction_22 : decode cX9_fraction 22 = .ok (.lload 5, 2) := by decide +kernel
theorem dX9_fraction_24 : decode cX9_fraction 24 = .ok (.ldiv, 1) := by decide +kernel
theorem dX9_fraction_25 : decode cX9_fraction 25 = .ok (.goto 7, 3) := by decide +kernel
theorem dX9_fraction_28 : decode cX9_fraction 28 = .ok (.lload_n 2, 1) := by decide +kernel
theorem dX9_fraction_29 : decode cX9_fraction 29 = .ok (.lload 5, 2) := by decide +kernel
theorem dX9_fraction_31 : decode cX9_fraction 31 = .ok (.ldiv, 1) := by decide +kernel
theorem dX9_fraction_32 : decode cX9_fraction 32 = .ok (.lreturn, 1) := by decide +kernel
theorem lk_X9_374 : LkS RX9 374 yX9_divisor cX9_divisor 11 (some .long) 2 := LkS.of 842 843 61 844 (by decide +kernel) (by decide +kernel) (by decide +kernel) (by decide +kernel) (by decide +kernel)
set_option maxRecDepth 100000 in
set_option maxHeartbeats 4000000 in
theorem S_X9_fraction {ω : WD} {l0 : Int64} {l2 : Int64} {l4 : Int32} {M : Mem} {post : Int64 → Mem → Prop} (h : w_X9_fraction l0 l2 l4 M post) : MtL ω yX9_fraction cX9_fraction 7 (some .long) 1 [.long l0, .long l2, .int l4] M post := by
  refine MtL.start rfl (by decide +kernel) (own := RX9) rfl (Nat.le_of_ble_eq_true rfl) (fun ρ C R => ?_)
  show G ω ρ M 0 [(0, .long l0), (2, .long l2), (4, .int l4)] []
  refine G_lload_n C dX9_fraction_0 0 rfl ?_
  refine G_lload_n C dX9_fraction_1 1 rfl ?_
  refine G_scallL (As := [.long l0, .long l2]) (rest := []) C dX9_fraction_2 lk_X9_374 (Nat.le_of_ble_eq_true rfl) (Nat.le_of_ble_eq_true rfl) (Nat.le_of_ble_eq_true rfl) rfl (S_X9_divisor h) (fun r2 M1 h => ?_)
  refine G_lstore C dX9_fraction_5 (by decide) (lv' := [(5, .long r2), (0, .long l0), (2, .long l2), (4, .int l4)]) rfl ?_
  refine G_lload C dX9_fraction_7 0 rfl ?_
  refine G_lconst (v := 0) C dX9_fraction_9 (by decide) ?_
  refine G_lcmp C dX9_fraction_10 ?_
  obtain ⟨h1, h2⟩ := h
  refine G_if_ne (tgt := 16) C dX9_fraction_11 (by decide) (fun c => ?_) (fun c => ?_)
  · have h := h1 c
    clear h1 h2
    refine G_iload C dX9_fraction_16 3 rfl ?_
    obtain ⟨h1, h2⟩ := h
    refine G_if_ne (tgt := 28) C dX9_fraction_18 (by decide) (fun c => ?_) (fun c => ?_)
    · have h := h1 c
      clear h1 h2
      refine G_lload_n C dX9_fraction_28 2 rfl ?_
      refine G_lload C dX9_fraction_29 0 rfl ?_
      obtain ⟨hz, h⟩ := h
      refine G_ldiv C dX9_fraction_31 hz ?_
      exact R 32 _ _ _ dX9_fraction_32 h
    · have h := h2 c
      clear h1 h2
      refine G_lload_n C dX9_fraction_21 1 rfl ?_
      refine G_lload C dX9_fraction_22 0 rfl ?_
      obtain ⟨hz, h⟩ := h
      refine G_ldiv C dX9_fraction_24 hz ?_
      refine G_goto (tgt := 32) C dX9_fraction_25 (by decide) ?_
      exact R 32 _ _ _ dX9_fraction_32 h
  · have h := h2 c
    clear h1 h2
    refine G_lconst (v := 0) C dX9_fraction_14 (by decide) ?_
    exact R 15 _ _ _ dX9_fraction_15 h
theorem dX9_luck_0 : decode cX9_luck 0 = .ok (.iload_n 1, 1) := by decide +kernel
theorem dX9_luck_1 : decode cX9_luck 1 = .ok (.invokestatic 277, 3) := by decide +kernel
theorem dX9_luck_4 : decode cX9_luck 4 = .ok (.ifCond .eq 38, 3) := by decide +kernel
theorem dX9_luck_7 : decode cX9_luck 7 = .ok (.aload_n 0, 1) := by decide +kernel
theorem dX9_luck_8 : decode cX9_luck 8 = .ok (.getfield 10, 3) := by decide +kernel
theorem dX9_luck_11 : decode cX9_luck 11 = .ok (.iload_n 2, 1) := by decide +kernel
theorem dX9_luck_12 : decode cX9_luck 12 = .ok (.invokevirtual 131, 3) := by decide +kernel
theorem dX9_luck_15 : decode cX9_luck 15 = .ok (.ifCond .eq 27, 3) := by decide +kernel
theorem dX9_luck_18 : decode cX9_luck 18 = .ok (.aload_n 0, 1) := by decide +kernel
theorem dX9_luck_19 : decode cX9_luck 19 = .ok (.getfield 10, 3) := by decide +kernel
theorem dX9_luck_22 : decode cX9_luck 22 = .ok (.iload_n 3, 1) := by decide +kernel
theorem dX9_luck_23 : decode cX9_luck 23 = .ok (.invokevirtual 131, 3) := by decide +kernel
theorem dX9_luck_26 : decode cX9_luck 26 = .ok (.ifCond .eq 16, 3) := by decide +kernel
theorem dX9_luck_29 : decode cX9_luck 29 = .ok (.iload_n 2, 1) := by decide +kernel
theorem dX9_luck_30 : decode cX9_luck 30 = .ok (.iload_n 3, 1) := by decide +kernel
theorem dX9_luck_31 : decode cX9_luck 31 = .ok (.if_icmp .eq 11, 3) := by decide +kernel
theorem dX9_luck_34 : decode cX9_luck 34 = .ok (.iload 4, 2) := by decide +kernel
theorem dX9_luck_36 : decode cX9_luck 36 = .ok (.invokestatic 184, 3) := by decide +kernel
theorem dX9_luck_39 : decode cX9_luck 39 = .ok (.ifCond .ne 7, 3) := by decide +kernel
theorem dX9_luck_42 : decode cX9_luck 42 = .ok (.ldc2_w 280, 3) := by decide +kernel
theorem dX9_luck_45 : decode cX9_luck 45 = .ok (.lreturn, 1) := by decide +kernel
theorem dX9_luck_46 : decode cX9_luck 46 = .ok (.aload_n 0, 1) := by decide +kernel
theorem dX9_luck_47 : decode cX9_luck 47 = .ok (.iload_n 1, 1) := by decide +kernel
theorem dX9_luck_48 : decode cX9_luck 48 = .ok (.iload_n 2, 1) := by decide +kernel
theorem dX9_luck_49 : decode cX9_luck 49 = .ok (.iload_n 3, 1) := by decide +kernel
theorem dX9_luck_50 : decode cX9_luck 50 = .ok (.invokevirtual 282, 3) := by decide +kernel
theorem dX9_luck_53 : decode cX9_luck 53 = .ok (.bipush 10, 2) := by decide +kernel
theorem dX9_luck_55 : decode cX9_luck 55 = .ok (.aload_n 0, 1) := by decide +kernel
theorem dX9_luck_56 : decode cX9_luck 56 = .ok (.getfield 19, 3) := by decide +kernel
theorem dX9_luck_59 : decode cX9_luck 59 = .ok (.invokevirtual 286, 3) := by decide +kernel
theorem dX9_luck_62 : decode cX9_luck 62 = .ok (.invokestatic 289, 3) := by decide +kernel
theorem dX9_luck_65 : decode cX9_luck 65 = .ok (.invokestatic 294, 3) := by decide +kernel
theorem dX9_luck_68 : decode cX9_luck 68 = .ok (.iload 4, 2) := by decide +kernel
theorem dX9_luck_70 : decode cX9_luck 70 = .ok (.invokestatic 298, 3) := by decide +kernel
theorem dX9_luck_73 : decode cX9_luck 73 = .ok (.lreturn, 1) := by decide +kernel
theorem lk_X9_277 : LkS RX9 277 yX9_isOdds cX9_isOdds 1 (some .boolean) 1 := LkS.of 814 815 61 816 (by decide +kernel) (by decide +kernel) (by decide +kernel) (by decide +kernel) (by decide +kernel)
theorem lk_X9_282 : LkV RX9 282 RX9 yX9_weighed cX9_weighed 12 (some .long) 3 := LkV.of 818 820 5 61 821 (by decide +kernel) (by decide +kernel) (by decide +kernel) (by decide +kernel) (by decide +kernel) (by decide +kernel)
theorem lk_X9_298 : LkS RX9 298 yX9_fraction cX9_fraction 7 (some .long) 3 := LkS.of 839 840 61 841 (by decide +kernel) (by decide +kernel) (by decide +kernel) (by decide +kernel) (by decide +kernel)
set_option maxRecDepth 100000 in
set_option maxHeartbeats 4000000 in
theorem S_X9_luck {ω : WD} {l1 : Int32} {l2 : Int32} {l3 : Int32} {l4 : Int32} {M : Mem} {post : Int64 → Mem → Prop} (h : w_X9_luck l1 l2 l3 l4 M post) : MtL ω yX9_luck cX9_luck 5 (some .long) 6 [.ref (adr ω 0), .int l1, .int l2, .int l3, .int l4] M post := by
  refine MtL.start rfl (by decide +kernel) (own := RX9) rfl (Nat.le_of_ble_eq_true rfl) (fun ρ C R => ?_)
  show G ω ρ M 0 [(0, .ref (adr ω 0)), (1, .int l1), (2, .int l2), (3, .int l3), (4, .int l4)] []
  refine G_iload_n C dX9_luck_0 1 rfl ?_
  refine G_scallI (As := [.int l1]) (rest := []) C dX9_luck_1 lk_X9_277 (Nat.le_of_ble_eq_true rfl) (Nat.le_of_ble_eq_true rfl) (Nat.le_of_ble_eq_true rfl) rfl (S_X9_isOdds h) (fun r2 M1 h => ?_)
  obtain ⟨h1, h2⟩ := h
  refine G_if_eq (tgt := 42) C dX9_luck_4 (by decide) (fun c => ?_) (fun c => ?_)
  · have h := h1 c
    clear h1 h2
    refine G_ldc2 (v := (-1)) C dX9_luck_42 (tb_of 817 ⟨by decide +kernel, rfl⟩) ?_
    exact R 45 _ _ _ dX9_luck_45 h
  · have h := h2 c
    clear h1 h2
    refine G_aload_n C dX9_luck_7 0 rfl ?_
    refine gf_X9_10 C dX9_luck_8 ?_
    refine G_iload_n C dX9_luck_11 2 rfl ?_
    refine G_callI (As := [.int l2]) (rest := []) C dX9_luck_12 lk_X9_131 (Nat.le_of_ble_eq_true rfl) (Nat.le_of_ble_eq_true rfl) q1 (by decide) rfl (Nat.le_of_ble_eq_true rfl) rfl (S_X1_has q1 h) (fun r4 M3 h => ?_)
    obtain ⟨h1, h2⟩ := h
    refine G_if_eq (tgt := 42) C dX9_luck_15 (by decide) (fun c => ?_) (fun c => ?_)
    · have h := h1 c
      clear h1 h2
      refine G_ldc2 (v := (-1)) C dX9_luck_42 (tb_of 817 ⟨by decide +kernel, rfl⟩) ?_
      exact R 45 _ _ _ dX9_luck_45 h
    · have h := h2 c
      clear h1 h2
      refine G_aload_n C dX9_luck_18 0 rfl ?_
      refine gf_X9_10 C dX9_luck_19 ?_
      refine G_iload_n C dX9_luck_22 3 rfl ?_
      refine G_callI (As := [.int l3]) (rest := []) C dX9_luck_23 lk_X9_131 (Nat.le_of_ble_eq_true rfl) (Nat.le_of_ble_eq_true rfl) q1 (by decide) rfl (Nat.le_of_ble_eq_true rfl) rfl (S_X1_has q1 h) (fun r6 M5 h => ?_)
      obtain ⟨h1, h2⟩ := h
      refine G_if_eq (tgt := 42) C dX9_luck_26 (by decide) (fun c => ?_) (fun c => ?_)
      · have h := h1 c
        clear h1 h2
        refine G_ldc2 (v := (-1)) C dX9_luck_42 (tb_of 817 ⟨by decide +kernel, rfl⟩) ?_
        exact R 45 _ _ _ dX9_luck_45 h
      · have h := h2 c
        clear h1 h2
        refine G_iload_n C dX9_luck_29 2 rfl ?_
        refine G_iload_n C dX9_luck_30 3 rfl ?_
        obtain ⟨h1, h2⟩ := h
        refine G_icmp_eq (tgt := 42) C dX9_luck_31 (by decide) (fun c => ?_) (fun c => ?_)
        · have h := h1 c
          clear h1 h2
          refine G_ldc2 (v := (-1)) C dX9_luck_42 (tb_of 817 ⟨by decide +kernel, rfl⟩) ?_
          exact R 45 _ _ _ dX9_luck_45 h
        · have h := h2 c
          clear h1 h2
          refine G_iload C dX9_luck_34 4 rfl ?_
          refine G_scallI (As := [.int l4]) (rest := []) C dX9_luck_36 lk_X9_184 (Nat.le_of_ble_eq_true rfl) (Nat.le_of_ble_eq_true rfl) (Nat.le_of_ble_eq_true rfl) rfl (S_X9_isBit h) (fun r8 M7 h => ?_)
          obtain ⟨h1, h2⟩ := h
          refine G_if_ne (tgt := 46) C dX9_luck_39 (by decide) (fun c => ?_) (fun c => ?_)
          · have h := h1 c
            clear h1 h2
            refine G_aload_n C dX9_luck_46 0 rfl ?_
            refine G_iload_n C dX9_luck_47 1 rfl ?_
            refine G_iload_n C dX9_luck_48 2 rfl ?_
            refine G_iload_n C dX9_luck_49 3 rfl ?_
            refine G_callL (As := [.int l1, .int l2, .int l3]) (rest := []) C dX9_luck_50 lk_X9_282 (Nat.le_of_ble_eq_true rfl) (Nat.le_of_ble_eq_true rfl) q0 (by decide) rfl (Nat.le_of_ble_eq_true rfl) rfl (S_X9_weighed h) (fun r10 M9 h => ?_)
            refine G_bipush (v := 10) C dX9_luck_53 (by decide) ?_
            refine G_aload_n C dX9_luck_55 0 rfl ?_
            refine gf_X9_19 C dX9_luck_56 ?_
            refine G_callI (As := []) (rest := [.int 10, .long r10]) C dX9_luck_59 lk_X9_286 (Nat.le_of_ble_eq_true rfl) (Nat.le_of_ble_eq_true rfl) q17 (by decide) rfl (Nat.le_of_ble_eq_true rfl) rfl (S_X5_dials q17 h) (fun r12 M11 h => ?_)
            refine G_scallI (As := [.int r12]) (rest := [.int 10, .long r10]) C dX9_luck_62 lk_X9_289 (Nat.le_of_ble_eq_true rfl) (Nat.le_of_ble_eq_true rfl) (Nat.le_of_ble_eq_true rfl) rfl (S_J6_bitCount_0f7a4 h) (fun r14 M13 h => ?_)
            refine G_scallL (As := [.int 10, .int r14]) (rest := [.long r10]) C dX9_luck_65 lk_X9_294 (Nat.le_of_ble_eq_true rfl) (Nat.le_of_ble_eq_true rfl) (Nat.le_of_ble_eq_true rfl) rfl (S_X9_power h) (fun r16 M15 h => ?_)
            refine G_iload C dX9_luck_68 4 rfl ?_
            refine G_scallL (As := [.long r10, .long r16, .int l4]) (rest := []) C dX9_luck_70 lk_X9_298 (Nat.le_of_ble_eq_true rfl) (Nat.le_of_ble_eq_true rfl) (Nat.le_of_ble_eq_true rfl) rfl (S_X9_fraction h) (fun r18 M17 h => ?_)
            exact R 73 _ _ _ dX9_luck_73 h
          · have h := h2 c
            clear h1 h2
            refine G_ldc2 (v := (-1)) C dX9_luck_42 (tb_of 817 ⟨by decide +kernel, rfl⟩) ?_
            exact R 45 _ _ _ dX9_luck_45 h
theorem dX9_mean_0 : decode cX9_mean 0 = .ok (.iload_n 1, 1) := by decide +kernel
theorem dX9_mean_1 : decode cX9_mean 1 = .ok (.invokestatic 277, 3) := by decide +kernel
theorem dX9_mean_4 : decode cX9_mean 4 = .ok (.ifCond .eq 10, 3) := by decide +kernel
theorem dX9_mean_7 : decode cX9_mean 7 = .ok (.iload_n 2, 1) := by decide +kernel
theorem dX9_mean_8 : decode cX9_mean 8 = .ok (.invokestatic 184, 3) := by decide +kernel
theorem dX9_mean_11 : decode cX9_mean 11 = .ok (.ifCond .ne 7, 3) := by decide +kernel
theorem dX9_mean_14 : decode cX9_mean 14 = .ok (.ldc2_w 280, 3) := by decide +kernel
theorem dX9_mean_17 : decode cX9_mean 17 = .ok (.lreturn, 1) := by decide +kernel
theorem dX9_mean_18 : decode cX9_mean 18 = .ok (.aload_n 0, 1) := by decide +kernel
theorem dX9_mean_19 : decode cX9_mean 19 = .ok (.iload_n 1, 1) := by decide +kernel
theorem dX9_mean_20 : decode cX9_mean 20 = .ok (.bipush (-4), 2) := by decide +kernel
theorem dX9_mean_22 : decode cX9_mean 22 = .ok (.bipush (-4), 2) := by decide +kernel
theorem dX9_mean_24 : decode cX9_mean 24 = .ok (.invokevirtual 282, 3) := by decide +kernel
theorem dX9_mean_27 : decode cX9_mean 27 = .ok (.bipush 10, 2) := by decide +kernel
theorem dX9_mean_29 : decode cX9_mean 29 = .ok (.aload_n 0, 1) := by decide +kernel
theorem dX9_mean_30 : decode cX9_mean 30 = .ok (.getfield 19, 3) := by decide +kernel
theorem dX9_mean_33 : decode cX9_mean 33 = .ok (.invokevirtual 286, 3) := by decide +kernel
theorem dX9_mean_36 : decode cX9_mean 36 = .ok (.invokestatic 289, 3) := by decide +kernel
theorem dX9_mean_39 : decode cX9_mean 39 = .ok (.invokestatic 294, 3) := by decide +kernel
theorem dX9_mean_42 : decode cX9_mean 42 = .ok (.iload_n 2, 1) := by decide +kernel
theorem dX9_mean_43 : decode cX9_mean 43 = .ok (.invokestatic 298, 3) := by decide +kernel
theorem dX9_mean_46 : decode cX9_mean 46 = .ok (.lreturn, 1) := by decide +kernel
set_option maxRecDepth 100000 in
set_option maxHeartbeats 4000000 in
theorem S_X9_mean {ω : WD} {l1 : Int32} {l2 : Int32} {M : Mem} {post : Int64 → Mem → Prop} (h : w_X9_mean l1 l2 M post) : MtL ω yX9_mean cX9_mean 3 (some .long) 6 [.ref (adr ω 0), .int l1, .int l2] M post := by
  refine MtL.start rfl (by decide +kernel) (own := RX9) rfl (Nat.le_of_ble_eq_true rfl) (fun ρ C R => ?_)
  show G ω ρ M 0 [(0, .ref (adr ω 0)), (1, .int l1), (2, .int l2)] []
  refine G_iload_n C dX9_mean_0 1 rfl ?_
  refine G_scallI (As := [.int l1]) (rest := []) C dX9_mean_1 lk_X9_277 (Nat.le_of_ble_eq_true rfl) (Nat.le_of_ble_eq_true rfl) (Nat.le_of_ble_eq_true rfl) rfl (S_X9_isOdds h) (fun r2 M1 h => ?_)
  obtain ⟨h1, h2⟩ := h
  refine G_if_eq (tgt := 14) C dX9_mean_4 (by decide) (fun c => ?_) (fun c => ?_)
  · have h := h1 c
    clear h1 h2
    refine G_ldc2 (v := (-1)) C dX9_mean_14 (tb_of 817 ⟨by decide +kernel, rfl⟩) ?_
    exact R 17 _ _ _ dX9_mean_17 h
  · have h := h2 c
    clear h1 h2
    refine G_iload_n C dX9_mean_7 2 rfl ?_
    refine G_scallI (As := [.int l2]) (rest := []) C dX9_mean_8 lk_X9_184 (Nat.le_of_ble_eq_true rfl) (Nat.le_of_ble_eq_true rfl) (Nat.le_of_ble_eq_true rfl) rfl (S_X9_isBit h) (fun r4 M3 h => ?_)
    obtain ⟨h1, h2⟩ := h
    refine G_if_ne (tgt := 18) C dX9_mean_11 (by decide) (fun c => ?_) (fun c => ?_)
    · have h := h1 c
      clear h1 h2
      refine G_aload_n C dX9_mean_18 0 rfl ?_
      refine G_iload_n C dX9_mean_19 1 rfl ?_
      refine G_bipush (v := (-4)) C dX9_mean_20 (by decide) ?_
      refine G_bipush (v := (-4)) C dX9_mean_22 (by decide) ?_
      refine G_callL (As := [.int l1, .int (-4), .int (-4)]) (rest := []) C dX9_mean_24 lk_X9_282 (Nat.le_of_ble_eq_true rfl) (Nat.le_of_ble_eq_true rfl) q0 (by decide) rfl (Nat.le_of_ble_eq_true rfl) rfl (S_X9_weighed h) (fun r6 M5 h => ?_)
      refine G_bipush (v := 10) C dX9_mean_27 (by decide) ?_
      refine G_aload_n C dX9_mean_29 0 rfl ?_
      refine gf_X9_19 C dX9_mean_30 ?_
      refine G_callI (As := []) (rest := [.int 10, .long r6]) C dX9_mean_33 lk_X9_286 (Nat.le_of_ble_eq_true rfl) (Nat.le_of_ble_eq_true rfl) q17 (by decide) rfl (Nat.le_of_ble_eq_true rfl) rfl (S_X5_dials q17 h) (fun r8 M7 h => ?_)
      refine G_scallI (As := [.int r8]) (rest := [.int 10, .long r6]) C dX9_mean_36 lk_X9_289 (Nat.le_of_ble_eq_true rfl) (Nat.le_of_ble_eq_true rfl) (Nat.le_of_ble_eq_true rfl) rfl (S_J6_bitCount_0f7a4 h) (fun r10 M9 h => ?_)
      refine G_scallL (As := [.int 10, .int r10]) (rest := [.long r6]) C dX9_mean_39 lk_X9_294 (Nat.le_of_ble_eq_true rfl) (Nat.le_of_ble_eq_true rfl) (Nat.le_of_ble_eq_true rfl) rfl (S_X9_power h) (fun r12 M11 h => ?_)
      refine G_iload_n C dX9_mean_42 2 rfl ?_
      refine G_scallL (As := [.long r6, .long r12, .int l2]) (rest := []) C dX9_mean_43 lk_X9_298 (Nat.le_of_ble_eq_true rfl) (Nat.le_of_ble_eq_true rfl) (Nat.le_of_ble_eq_true rfl) rfl (S_X9_fraction h) (fun r14 M13 h => ?_)
      exact R 46 _ _ _ dX9_mean_46 h
    · have h := h2 c
      clear h1 h2
      refine G_ldc2 (v := (-1)) C dX9_mean_14 (tb_of 817 ⟨by decide +kernel, rfl⟩) ?_
      exact R 17 _ _ _ dX9_mean_17 h
theorem dX9_see_0 : decode cX9_see 0 = .ok (.iload_n 1, 1) := by decide +kernel
theorem dX9_see_1 : decode cX9_see 1 = .ok (.ifCond .lt 19, 3) := by decide +kernel
theorem dX9_see_4 : decode cX9_see 4 = .ok (.iload_n 1, 1) := by decide +kernel
theorem dX9_see_5 : decode cX9_see 5 = .ok (.bipush 8, 2) := by decide +kernel
theorem dX9_see_7 : decode cX9_see 7 = .ok (.if_icmp .ge 13, 3) := by decide +kernel
theorem dX9_see_10 : decode cX9_see 10 = .ok (.iload_n 2, 1) := by decide +kernel
theorem dX9_see_11 : decode cX9_see 11 = .ok (.ifCond .lt 9, 3) := by decide +kernel
theorem dX9_see_14 : decode cX9_see 14 = .ok (.iload_n 2, 1) := by decide +kernel
theorem dX9_see_15 : decode cX9_see 15 = .ok (.bipush 6, 2) := by decide +kernel
theorem dX9_see_17 : decode cX9_see 17 = .ok (.if_icmp .le 5, 3) := by decide +kernel
theorem dX9_see_20 : decode cX9_see 20 = .ok (.iconst (-1), 1) := by decide +kernel
theorem dX9_see_21 : decode cX9_see 21 = .ok (.ireturn, 1) := by decide +kernel
theorem dX9_see_22 : decode cX9_see 22 = .ok (.aload_n 0, 1) := by decide +kernel
theorem dX9_see_23 : decode cX9_see 23 = .ok (.getfield 19, 3) := by decide +kernel
theorem dX9_see_26 : decode cX9_see 26 = .ok (.getfield 302, 3) := by decide +kernel
theorem dX9_see_29 : decode cX9_see 29 = .ok (.bipush 6, 2) := by decide +kernel
theorem dX9_see_31 : decode cX9_see 31 = .ok (.if_icmp .lt 6, 3) := by decide +kernel
theorem dX9_see_34 : decode cX9_see 34 = .ok (.bipush (-3), 2) := by decide +kernel
theorem dX9_see_36 : decode cX9_see 36 = .ok (.ireturn, 1) := by decide +kernel
theorem dX9_see_37 : decode cX9_see 37 = .ok (.aload_n 0, 1) := by decide +kernel
theorem dX9_see_38 : decode cX9_see 38 = .ok (.getfield 19, 3) := by decide +kernel
theorem dX9_see_41 : decode cX9_see 41 = .ok (.getfield 305, 3) := by decide +kernel
theorem dX9_see_44 : decode cX9_see 44 = .ok (.aload_n 0, 1) := by decide +kernel
theorem dX9_see_45 : decode cX9_see 45 = .ok (.getfield 19, 3) := by decide +kernel
theorem dX9_see_48 : decode cX9_see 48 = .ok (.getfield 302, 3) := by decide +kernel
theorem dX9_see_51 : decode cX9_see 51 = .ok (.iload_n 1, 1) := by decide +kernel
theorem dX9_see_52 : decode cX9_see 52 = .ok (.iastore, 1) := by decide +kernel
theorem dX9_see_53 : decode cX9_see 53 = .ok (.aload_n 0, 1) := by decide +kernel
theorem dX9_see_54 : decode cX9_see 54 = .ok (.getfield 19, 3) := by decide +kernel
theorem dX9_see_57 : decode cX9_see 57 = .ok (.getfield 308, 3) := by decide +kernel
theorem dX9_see_60 : decode cX9_see 60 = .ok (.aload_n 0, 1) := by decide +kernel
theorem dX9_see_61 : decode cX9_see 61 = .ok (.getfield 19, 3) := by decide +kernel
theorem dX9_see_64 : decode cX9_see 64 = .ok (.getfield 302, 3) := by decide +kernel
theorem dX9_see_67 : decode cX9_see 67 = .ok (.iload_n 2, 1) := by decide +kernel
theorem dX9_see_68 : decode cX9_see 68 = .ok (.iastore, 1) := by decide +kernel
theorem dX9_see_69 : decode cX9_see 69 = .ok (.aload_n 0, 1) := by decide +kernel
theorem dX9_see_70 : decode cX9_see 70 = .ok (.getfield 19, 3) := by decide +kernel
theorem dX9_see_73 : decode cX9_see 73 = .ok (.dup, 1) := by decide +kernel
theorem dX9_see_74 : decode cX9_see 74 = .ok (.getfield 302, 3) := by decide +kernel
theorem dX9_see_77 : decode cX9_see 77 = .ok (.iconst 1, 1) := by decide +kernel
theorem dX9_see_78 : decode cX9_see 78 = .ok (.iadd, 1) := by decide +kernel
theorem dX9_see_79 : decode cX9_see 79 = .ok (.putfield 302, 3) := by decide +kernel
theorem dX9_see_82 : decode cX9_see 82 = .ok (.aload_n 0, 1) := by decide +kernel
theorem dX9_see_83 : decode cX9_see 83 = .ok (.getfield 19, 3) := by decide +kernel
theorem dX9_see_86 : decode cX9_see 86 = .ok (.getfield 302, 3) := by decide +kernel
theorem dX9_see_89 : decode cX9_see 89 = .ok (.ireturn, 1) := by decide +kernel
theorem gf_X9_302 {ω : WD} {ρ : FR} {M : Mem} {cc : ByteArray} {d n pc i : Nat} {lv : List (Nat × Value)} {rest : List Value} (C : Cx ω ρ cc RX9 d n) (hk : isK 5 i) (hd : decode cc pc = .ok (.getfield 302, 3)) (k : G ω ρ M (pc + 3) lv (.int (rd M i 1) :: rest)) : G ω ρ M pc lv (.ref (adr ω i) :: rest) := G_get (N := 6) (T := TX5) (C := RX5) (q := 1) C hk (by decide) rfl in_X5 (by decide) (tb_of 180 ⟨by decide +kernel, rfl⟩) rfl rfl hd k
theorem gf_X9_305 {ω : WD} {ρ : FR} {M : Mem} {cc : ByteArray} {d n pc i : Nat} {lv : List (Nat × Value)} {rest : List Value} (C : Cx ω ρ cc RX9 d n) (hk : isK 5 i) (hd : decode cc pc = .ok (.getfield 305, 3)) (k : G ω ρ M (pc + 3) lv (.ref (adr ω (i + 3)) :: rest)) : G ω ρ M pc lv (.ref (adr ω i) :: rest) := G_get (N := 6) (T := TX5) (C := RX5) (q := 4) C hk (by decide) rfl in_X5 (by decide) (tb_of 190 ⟨by decide +kernel, rfl⟩) rfl rfl hd k
theorem gf_X9_308 {ω : WD} {ρ : FR} {M : Mem} {cc : ByteArray} {d n pc i : Nat} {lv : List (Nat × Value)} {rest : List Value} (C : Cx ω ρ cc RX9 d n) (hk : isK 5 i) (hd : decode cc pc = .ok (.getfield 308, 3)) (k : G ω ρ M (pc + 3) lv (.ref (adr ω (i + 4)) :: rest)) : G ω ρ M pc lv (.ref (adr ω i) :: rest) := G_get (N := 6) (T := TX5) (C := RX5) (q := 5) C hk (by decide) rfl in_X5 (by decide) (tb_of 193 ⟨by decide +kernel, rfl⟩) rfl rfl hd k
theorem pf_X9_302 {ω : WD} {ρ : FR} {M : Mem} {cc : ByteArray} {d n pc i : Nat} {lv : List (Nat × Value)} {rest : List Value} {v : Int32} (C : Cx ω ρ cc RX9 d n) (hk : isK 5 i) (hd : decode cc pc = .ok (.putfield 302, 3)) (k : ∀ M1, M1 = wr M i 1 v → G ω ρ M1 (pc + 3) lv rest) : G ω ρ M pc lv (.int v :: .ref (adr ω i) :: rest) := G_put (N := 6) (T := TX5) (C := RX5) (q := 1) (ty := .int) C hk (by decide) rfl in_X5 tyX5 tyX5_ok nmX5 (by decide) (tb_of 180 ⟨by decide +kernel, rfl⟩) rfl rfl (by decide +kernel) rfl rfl (fun _ _ => Nat.le_of_ble_eq_true rfl) (fun _ => rfl) hd (k _ rfl)
set_option maxRecDepth 100000 in
set_option maxHeartbeats 4000000 in
theorem S_X9_see {ω : WD} {l1 : Int32} {l2 : Int32} {M : Mem} {post : Int32 → Mem → Prop} (h : w_X9_see l1 l2 M post) : MtI ω yX9_see cX9_see 3 (some .int) 0 [.ref (adr ω 0), .int l1, .int l2] M post := by
  refine MtI.start (ty := .int) rfl (by decide +kernel) (own := RX9) rfl (Nat.le_of_ble_eq_true rfl) (fun ρ C R => ?_)
  show G ω ρ M 0 [(0, .ref (adr ω 0)), (1, .int l1), (2, .int l2)] []
  refine G_iload_n C dX9_see_0 1 rfl ?_
  obtain ⟨h1, h2⟩ := h
  refine G_if_lt (tgt := 20) C dX9_see_1 (by decide) (fun c => ?_) (fun c => ?_)
  · have h := h1 c
    clear h1 h2
    refine G_iconst (v := (-1)) C dX9_see_20 (by decide) ?_
    exact R 21 _ _ _ dX9_see_21 rfl h
  · have h := h2 c
    clear h1 h2
    refine G_iload_n C dX9_see_4 1 rfl ?_
    refine G_bipush (v := 8) C dX9_see_5 (by decide) ?_
    obtain ⟨h1, h2⟩ := h
    refine G_icmp_ge (tgt := 20) C dX9_see_7 (by decide) (fun c => ?_) (fun c => ?_)
    · have h := h1 c
      clear h1 h2
      refine G_iconst (v := (-1)) C dX9_see_20 (by decide) ?_
      exact R 21 _ _ _ dX9_see_21 rfl h
    · have h := h2 c
      clear h1 h2
      refine G_iload_n C dX9_see_10 2 rfl ?_
      obtain ⟨h1, h2⟩ := h
      refine G_if_lt (tgt := 20) C dX9_see_11 (by decide) (fun c => ?_) (fun c => ?_)
      · have h := h1 c
        clear h1 h2
        refine G_iconst (v := (-1)) C dX9_see_20 (by decide) ?_
        exact R 21 _ _ _ dX9_see_21 rfl h
      · have h := h2 c
        clear h1 h2
        refine G_iload_n C dX9_see_14 2 rfl ?_
        refine G_bipush (v := 6) C dX9_see_15 (by decide) ?_
        obtain ⟨h1, h2⟩ := h
        refine G_icmp_le (tgt := 22) C dX9_see_17 (by decide) (fun c => ?_) (fun c => ?_)
        · have h := h1 c
          clear h1 h2
          refine G_aload_n C dX9_see_22 0 rfl ?_
          refine gf_X9_19 C dX9_see_23 ?_
          refine gf_X9_302 C q17 dX9_see_26 ?_
          refine G_bipush (v := 6) C dX9_see_29 (by decide) ?_
          obtain ⟨h1, h2⟩ := h
          refine G_icmp_lt (tgt := 37) C dX9_see_31 (by decide) (fun c => ?_) (fun c => ?_)
          · have h := h1 c
            clear h1 h2
            refine G_aload_n C dX9_see_37 0 rfl ?_
            refine gf_X9_19 C dX9_see_38 ?_
            refine gf_X9_305 C q17 dX9_see_41 ?_
            refine G_aload_n C dX9_see_44 0 rfl ?_
            refine gf_X9_19 C dX9_see_45 ?_
            refine gf_X9_302 C q17 dX9_see_48 ?_
            refine G_iload_n C dX9_see_51 1 rfl ?_
            obtain ⟨hi, h⟩ := h
            refine G_iast C q20 hi rfl dX9_see_52 (G_mname (fun M1 eM1 => ?_))
            replace h := h M1 eM1
            refine G_aload_n C dX9_see_53 0 rfl ?_
            refine gf_X9_19 C dX9_see_54 ?_
            refine gf_X9_308 C q17 dX9_see_57 ?_
            refine G_aload_n C dX9_see_60 0 rfl ?_
            refine gf_X9_19 C dX9_see_61 ?_
            refine gf_X9_302 C q17 dX9_see_64 ?_
            refine G_iload_n C dX9_see_67 2 rfl ?_
            obtain ⟨hi, h⟩ := h
            refine G_iast C q21 hi rfl dX9_see_68 (G_mname (fun M2 eM2 => ?_))
            replace h := h M2 eM2
            refine G_aload_n C dX9_see_69 0 rfl ?_
            refine gf_X9_19 C dX9_see_70 ?_
            refine G_dup C dX9_see_73 rfl ?_
            refine gf_X9_302 C q17 dX9_see_74 ?_
            refine G_iconst (v := 1) C dX9_see_77 (by decide) ?_
            refine G_iadd C dX9_see_78 ?_
            refine pf_X9_302 C q17 dX9_see_79 (fun M3 eM3 => ?_)
            replace h := h M3 eM3
            refine G_aload_n C dX9_see_82 0 rfl ?_
            refine gf_X9_19 C dX9_see_83 ?_
            refine gf_X9_302 C q17 dX9_see_86 ?_
            exact R 89 _ _ _ dX9_see_89 rfl h
          · have h := h2 c
            clear h1 h2
            refine G_bipush (v := (-3)) C dX9_see_34 (by decide) ?_
            exact R 36 _ _ _ dX9_see_36 rfl h
        · have h := h2 c
          clear h1 h2
          refine G_iconst (v := (-1)) C dX9_see_20 (by decide) ?_
          exact R 21 _ _ _ dX9_see_21 rfl h
theorem dX9_forget_0 : decode cX9_forget 0 = .ok (.iload_n 1, 1) := by decide +kernel
theorem dX9_forget_1 : decode cX9_forget 1 = .ok (.ifCond .lt 14, 3) := by decide +kernel
theorem dX9_forget_4 : decode cX9_forget 4 = .ok (.iload_n 1, 1) := by decide +kernel
theorem dX9_forget_5 : decode cX9_forget 5 = .ok (.aload_n 0, 1) := by decide +kernel
theorem dX9_forget_6 : decode cX9_forget 6 = .ok (.getfield 19, 3) := by decide +kernel
theorem dX9_forget_9 : decode cX9_forget 9 = .ok (.getfield 302, 3) := by decide +kernel
theorem dX9_forget_12 : decode cX9_forget 12 = .ok (.if_icmp .le 5, 3) := by decide +kernel
theorem dX9_forget_15 : decode cX9_forget 15 = .ok (.iconst (-1), 1) := by decide +kernel
theorem dX9_forget_16 : decode cX9_forget 16 = .ok (.ireturn, 1) := by decide +kernel
theorem dX9_forget_17 : decode cX9_forget 17 = .ok (.aload_n 0, 1) := by decide +kernel
theorem dX9_forget_18 : decode cX9_forget 18 = .ok (.getfield 19, 3) := by decide +kernel
theorem dX9_forget_21 : decode cX9_forget 21 = .ok (.getfield 302, 3) := by decide +kernel
theorem dX9_forget_24 : decode cX9_forget 24 = .ok (.istore_n 2, 1) := by decide +kernel
theorem dX9_forget_25 : decode cX9_forget 25 = .ok (.aload_n 0, 1) := by decide +kernel
theorem dX9_forget_26 : decode cX9_forget 26 = .ok (.getfield 19, 3) := by decide +kernel
theorem dX9_forget_29 : decode cX9_forget 29 = .ok (.iload_n 1, 1) := by decide +kernel
theorem dX9_forget_30 : decode cX9_forget 30 = .ok (.putfield 302, 3) := by decide +kernel
theorem dX9_forget_33 : decode cX9_forget 33 = .ok (.iload_n 2, 1) := by decide +kernel
theorem dX9_forget_34 : decode cX9_forget 34 = .ok (.ireturn, 1) := by decide +kernel
set_option maxRecDepth 100000 in
set_option maxHeartbeats 4000000 in
theorem S_X9_forget {ω : WD} {l1 : Int32} {M : Mem} {post : Int32 → Mem → Prop} (h : w_X9_forget l1 M post) : MtI ω yX9_forget cX9_forget 3 (some .int) 0 [.ref (adr ω 0), .int l1] M post := by
  refine MtI.start (ty := .int) rfl (by decide +kernel) (own := RX9) rfl (Nat.le_of_ble_eq_true rfl) (fun ρ C R => ?_)
  show G ω ρ M 0 [(0, .ref (adr ω 0)), (1, .int l1)] []
  refine G_iload_n C dX9_forget_0 1 rfl ?_
  obtain ⟨h1, h2⟩ := h
  refine G_if_lt (tgt := 15) C dX9_forget_1 (by decide) (fun c => ?_) (fun c => ?_)
  · have h := h1 c
    clear h1 h2
    refine G_iconst (v := (-1)) C dX9_forget_15 (by decide) ?_
    exact R 16 _ _ _ dX9_forget_16 rfl h
  · have h := h2 c
    clear h1 h2
    refine G_iload_n C dX9_forget_4 1 rfl ?_
    refine G_aload_n C dX9_forget_5 0 rfl ?_
    refine gf_X9_19 C dX9_forget_6 ?_
    refine gf_X9_302 C q17 dX9_forget_9 ?_
    obtain ⟨h1, h2⟩ := h
    refine G_icmp_le (tgt := 17) C dX9_forget_12 (by decide) (fun c => ?_) (fun c => ?_)
    · have h := h1 c
      clear h1 h2
      refine G_aload_n C dX9_forget_17 0 rfl ?_
      refine gf_X9_19 C dX9_forget_18 ?_
      refine gf_X9_302 C q17 dX9_forget_21 ?_
      refine G_iname (fun v1 ev1 => ?_)
      replace h := h v1 ev1
      refine G_istore_n C dX9_forget_24 (by decide) (lv' := [(2, .int v1), (0, .ref (adr ω 0)), (1, .int l1)]) rfl ?_
      refine G_aload_n C dX9_forget_25 1 rfl ?_
      refine gf_X9_19 C dX9_forget_26 ?_
      refine G_iload_n C dX9_forget_29 2 rfl ?_
      refine pf_X9_302 C q17 dX9_forget_30 (fun M2 eM2 => ?_)
      replace h := h M2 eM2
      refine G_iload_n C dX9_forget_33 0 rfl ?_
      exact R 34 _ _ _ dX9_forget_34 rfl h
    · have h := h2 c
      clear h1 h2
      refine G_iconst (v := (-1)) C dX9_forget_15 (by decide) ?_
      exact R 16 _ _ _ dX9_forget_16 rfl h
theorem dX9_hunts_0 : decode cX9_hunts 0 = .ok (.iload_n 1, 1) := by decide +kernel
theorem dX9_hunts_1 : decode cX9_hunts 1 = .ok (.invokestatic 147, 3) := by decide +kernel
theorem dX9_hunts_4 : decode cX9_hunts 4 = .ok (.ifCond .ne 5, 3) := by decide +kernel
theorem dX9_hunts_7 : decode cX9_hunts 7 = .ok (.iconst (-1), 1) := by decide +kernel
theorem dX9_hunts_8 : decode cX9_hunts 8 = .ok (.ireturn, 1) := by decide +kernel
theorem dX9_hunts_9 : decode cX9_hunts 9 = .ok (.iconst 0, 1) := by decide +kernel
theorem dX9_hunts_10 : decode cX9_hunts 10 = .ok (.istore_n 2, 1) := by decide +kernel
theorem dX9_hunts_11 : decode cX9_hunts 11 = .ok (.iconst 0, 1) := by decide +kernel
theorem dX9_hunts_12 : decode cX9_hunts 12 = .ok (.istore_n 3, 1) := by decide +kernel
theorem dX9_hunts_13 : decode cX9_hunts 13 = .ok (.iload_n 3, 1) := by decide +kernel
theorem dX9_hunts_14 : decode cX9_hunts 14 = .ok (.iconst 3, 1) := by decide +kernel
theorem dX9_hunts_15 : decode cX9_hunts 15 = .ok (.if_icmp .gt 35, 3) := by decide +kernel
theorem dX9_hunts_18 : decode cX9_hunts 18 = .ok (.aload_n 0, 1) := by decide +kernel
theorem dX9_hunts_19 : decode cX9_hunts 19 = .ok (.iload_n 1, 1) := by decide +kernel
theorem dX9_hunts_20 : decode cX9_hunts 20 = .ok (.iload_n 3, 1) := by decide +kernel
theorem dX9_hunts_21 : decode cX9_hunts 21 = .ok (.invokevirtual 265, 3) := by decide +kernel
theorem dX9_hunts_24 : decode cX9_hunts 24 = .ok (.aload_n 0, 1) := by decide +kernel
theorem dX9_hunts_25 : decode cX9_hunts 25 = .ok (.getfield 26, 3) := by decide +kernel
theorem dX9_hunts_28 : decode cX9_hunts 28 = .ok (.aload_n 0, 1) := by decide +kernel
theorem dX9_hunts_29 : decode cX9_hunts 29 = .ok (.getfield 19, 3) := by decide +kernel
theorem dX9_hunts_32 : decode cX9_hunts 32 = .ok (.invokevirtual 311, 3) := by decide +kernel
theorem dX9_hunts_35 : decode cX9_hunts 35 = .ok (.ifCond .eq 9, 3) := by decide +kernel
theorem dX9_hunts_38 : decode cX9_hunts 38 = .ok (.iload_n 2, 1) := by decide +kernel
theorem dX9_hunts_39 : decode cX9_hunts 39 = .ok (.iconst 1, 1) := by decide +kernel
theorem dX9_hunts_40 : decode cX9_hunts 40 = .ok (.iload_n 3, 1) := by decide +kernel
theorem dX9_hunts_41 : decode cX9_hunts 41 = .ok (.ishl, 1) := by decide +kernel
theorem dX9_hunts_42 : decode cX9_hunts 42 = .ok (.ior, 1) := by decide +kernel
theorem dX9_hunts_43 : decode cX9_hunts 43 = .ok (.istore_n 2, 1) := by decide +kernel
theorem dX9_hunts_44 : decode cX9_hunts 44 = .ok (.iinc 3 1, 3) := by decide +kernel
theorem dX9_hunts_47 : decode cX9_hunts 47 = .ok (.goto (-34), 3) := by decide +kernel
theorem dX9_hunts_50 : decode cX9_hunts 50 = .ok (.iload_n 2, 1) := by decide +kernel
theorem dX9_hunts_51 : decode cX9_hunts 51 = .ok (.ireturn, 1) := by decide +kernel
theorem lk_X9_311 : LkV RX9 311 RX8 yX8_isAsSeen cX8_isAsSeen 4 (some .boolean) 1 := LkV.of 861 862 863 65 864 (by decide +kernel) (by decide +kernel) (by decide +kernel) (by decide +kernel) (by decide +kernel) (by decide +kernel)
set_option maxRecDepth 100000 in
set_option maxHeartbeats 4000000 in
theorem s_X9_hunts_J44 {ω : WD} {ρ : FR} {post : Int32 → Mem → Prop} (C : Cx ω ρ cX9_hunts RX9 6 4) (R : RtI ω ρ cX9_hunts .int post) {K13 : Int32 → Int32 → Mem → Prop} {l1 : Int32} {l2 : Int32} {l3 : Int32} (k13 : ∀ (u2 : Int32) (u3 : Int32) (M : Mem), K13 u2 u3 M → G ω ρ M 13 [(0, .ref (adr ω 0)), (1, .int l1), (2, .int u2), (3, .int u3)] []) {M : Mem} (h : w_X9_hunts_J44 post K13 l1 l2 l3 M) : G ω ρ M 44 [(0, .ref (adr ω 0)), (1, .int l1), (2, .int l2), (3, .int l3)] [] := by
  obtain ⟨v1, ev1⟩ : ∃ y : Int32, y = (l3 + 1) := ⟨_, rfl⟩
  replace h := h v1 ev1
  refine G_iinc C dX9_hunts_44 3 rfl (v := v1) (by rw [ev1]; rfl) (by decide) (lv' := [(3, .int v1), (0, .ref (adr ω 0)), (1, .int l1), (2, .int l2)]) rfl ?_
  refine G_goto (tgt := 13) C dX9_hunts_47 (by decide) ?_
  refine G_sub [1, 2, 3, 0] (lv' := [(0, .ref (adr ω 0)), (1, .int l1), (2, .int l2), (3, .int v1)]) rfl ?_
  exact k13 _ _ _ h
set_option maxRecDepth 100000 in
set_option maxHeartbeats 4000000 in
theorem s_X9_hunts_L13 {ω : WD} {ρ : FR} {post : Int32 → Mem → Prop} (C : Cx ω ρ cX9_hunts RX9 6 4) (R : RtI ω ρ cX9_hunts .int post) {l1 : Int32} : ∀ (f : Nat) (l2 : Int32) (l3 : Int32) (M : Mem), w_X9_hunts_L13 post l1 f l2 l3 M → G ω ρ M 13 [(0, .ref (adr ω 0)), (1, .int l1), (2, .int l2), (3, .int l3)] [] := by
  intro f
  induction f with
  | zero => intro l2 l3 M h; exact False.elim h
  | succ f k13 =>
    intro l2 l3 M h
    refine G_iload_n C dX9_hunts_13 3 rfl ?_
    refine G_iconst (v := 3) C dX9_hunts_14 (by decide) ?_
    obtain ⟨h1, h2⟩ := h
    refine G_icmp_gt (tgt := 50) C dX9_hunts_15 (by decide) (fun c => ?_) (fun c => ?_)
    · have h := h1 c
      clear h1 h2
      refine G_iload_n C dX9_hunts_50 2 rfl ?_
      exact R 51 _ _ _ dX9_hunts_51 rfl h
    · have h := h2 c
      clear h1 h2
      refine G_aload_n C dX9_hunts_18 0 rfl ?_
      refine G_iload_n C dX9_hunts_19 1 rfl ?_
      refine G_iload_n C dX9_hunts_20 3 rfl ?_
      refine G_callV (As := [.int l1, .int l3]) (rest := []) C dX9_hunts_21 lk_X9_265 (Nat.le_of_ble_eq_true rfl) (Nat.le_of_ble_eq_true rfl) q0 (by decide) rfl (Nat.le_of_ble_eq_true rfl) rfl (S_X9_followWithHunt h) (fun M2 h => ?_)
      refine G_aload_n C dX9_hunts_24 0 rfl ?_
      refine gf_X9_26 C dX9_hunts_25 ?_
      refine G_aload_n C dX9_hunts_28 0 rfl ?_
      refine gf_X9_19 C dX9_hunts_29 ?_
      refine G_callI (As := [.ref (adr ω 17)]) (rest := []) C dX9_hunts_32 lk_X9_311 (Nat.le_of_ble_eq_true rfl) (Nat.le_of_ble_eq_true rfl) q22 (by decide) rfl (Nat.le_of_ble_eq_true rfl) rfl (S_X8_isAsSeen h) (fun r4 M3 h => ?_)
      obtain ⟨h1, h2⟩ := h
      refine G_if_eq (tgt := 44) C dX9_hunts_35 (by decide) (fun c => ?_) (fun c => ?_)
      · have h := h1 c
        clear h1 h2
        exact s_X9_hunts_J44 C R k13 h
      · have h := h2 c
        clear h1 h2
        refine G_iload_n C dX9_hunts_38 2 rfl ?_
        refine G_iconst (v := 1) C dX9_hunts_39 (by decide) ?_
        refine G_iload_n C dX9_hunts_40 3 rfl ?_
        refine G_ishl C dX9_hunts_41 ?_
        refine G_ior C dX9_hunts_42 ?_
        refine G_iname (fun v5 ev5 => ?_)
        replace h := h v5 ev5
        refine G_istore_n C dX9_hunts_43 (by decide) (lv' := [(2, .int v5), (0, .ref (adr ω 0)), (1, .int l1), (3, .int l3)]) rfl ?_
        refine G_sub [1, 2, 0, 3] (lv' := [(0, .ref (adr ω 0)), (1, .int l1), (2, .int v5), (3, .int l3)]) rfl ?_
        exact s_X9_hunts_J44 C R k13 h
set_option maxRecDepth 100000 in
set_option maxHeartbeats 4000000 in
theorem S_X9_hunts {ω : WD} {l1 : Int32} {M : Mem} {post : Int32 → Mem → Prop} (h : w_X9_hunts l1 M post) : MtI ω yX9_hunts cX9_hunts 4 (some .int) 6 [.ref (adr ω 0), .int l1] M post := by
  refine MtI.start (ty := .int) rfl (by decide +kernel) (own := RX9) rfl (Nat.le_of_ble_eq_true rfl) (fun ρ C R => ?_)
  show G ω ρ M 0 [(0, .ref (adr ω 0)), (1, .int l1)] []
  refine G_iload_n C dX9_hunts_0 1 rfl ?_
  refine G_scallI (As := [.int l1]) (rest := []) C dX9_hunts_1 lk_X9_147 (Nat.le_of_ble_eq_true rfl) (Nat.le_of_ble_eq_true rfl) (Nat.le_of_ble_eq_true rfl) rfl (S_X9_isGroup h) (fun r7 M6 h => ?_)
  obtain ⟨h1, h2⟩ := h
  refine G_if_ne (tgt := 9) C dX9_hunts_4 (by decide) (fun c => ?_) (fun c => ?_)
  · have h := h1 c
    clear h1 h2
    refine G_iconst (v := 0) C dX9_hunts_9 (by decide) ?_
    refine G_istore_n C dX9_hunts_10 (by decide) (lv' := [(2, .int 0), (0, .ref (adr ω 0)), (1, .int l1)]) rfl ?_
    refine G_iconst (v := 0) C dX9_hunts_11 (by decide) ?_
    refine G_istore_n C dX9_hunts_12 (by decide) (lv' := [(3, .int 0), (2, .int 0), (0, .ref (adr ω 0)), (1, .int l1)]) rfl ?_
    refine G_sub [2, 3, 1, 0] (lv' := [(0, .ref (adr ω 0)), (1, .int l1), (2, .int 0), (3, .int 0)]) rfl ?_
    obtain ⟨f, h⟩ := h
    exact s_X9_hunts_L13 C R  f _ _ _ h
  · have h := h2 c
    clear h1 h2
    refine G_iconst (v := (-1)) C dX9_hunts_7 (by decide) ?_
    exact R 8 _ _ _ dX9_hunts_8 rfl h
theorem dX9_followWithDead_0 : decode cX9_followWithDead 0 = .ok (.aload_n 0, 1) := by decide +kernel
theorem dX9_followWithDead_1 : decode cX9_followWithDead 1 = .ok (.getfield 26, 3) := by decide +kernel
theorem dX9_followWithDead_4 : decode cX9_followWithDead 4 = .ok (.getfield 237, 3) := by decide +kernel
theorem dX9_followWithDead_7 : decode cX9_followWithDead 7 = .ok (.aload_n 0, 1) := by decide +kernel
theorem dX9_followWithDead_8 : decode cX9_followWithDead 8 = .ok (.getfield 10, 3) := by decide +kernel
theorem dX9_followWithDead_11 : decode cX9_followWithDead 11 = .ok (.invokevirtual 97, 3) := by decide +kernel
theorem dX9_followWithDead_14 : decode cX9_followWithDead 14 = .ok (.aload_n 0, 1) := by decide +kernel
theorem dX9_followWithDead_15 : decode cX9_followWithDead 15 = .ok (.getfield 26, 3) := by decide +kernel
theorem dX9_followWithDead_18 : decode cX9_followWithDead 18 = .ok (.getfield 237, 3) := by decide +kernel
theorem dX9_followWithDead_21 : decode cX9_followWithDead 21 = .ok (.getfield 150, 3) := by decide +kernel
theorem dX9_followWithDead_24 : decode cX9_followWithDead 24 = .ok (.iload_n 1, 1) := by decide +kernel
theorem dX9_followWithDead_25 : decode cX9_followWithDead 25 = .ok (.aaload, 1) := by decide +kernel
theorem dX9_followWithDead_26 : decode cX9_followWithDead 26 = .ok (.iload_n 2, 1) := by decide +kernel
theorem dX9_followWithDead_27 : decode cX9_followWithDead 27 = .ok (.putfield 162, 3) := by decide +kernel
theorem dX9_followWithDead_30 : decode cX9_followWithDead 30 = .ok (.aload_n 0, 1) := by decide +kernel
theorem dX9_followWithDead_31 : decode cX9_followWithDead 31 = .ok (.getfield 26, 3) := by decide +kernel
theorem dX9_followWithDead_34 : decode cX9_followWithDead 34 = .ok (.aload_n 0, 1) := by decide +kernel
theorem dX9_followWithDead_35 : decode cX9_followWithDead 35 = .ok (.getfield 19, 3) := by decide +kernel
theorem dX9_followWithDead_38 : decode cX9_followWithDead 38 = .ok (.sipush 255, 3) := by decide +kernel
theorem dX9_followWithDead_41 : decode cX9_followWithDead 41 = .ok (.invokevirtual 244, 3) := by decide +kernel
theorem dX9_followWithDead_44 : decode cX9_followWithDead 44 = .ok (.return_, 1) := by decide +kernel
set_option maxRecDepth 100000 in
set_option maxHeartbeats 4000000 in
theorem S_X9_followWithDead {ω : WD} {l1 : Int32} {l2 : Int32} {M : Mem} {post : Mem → Prop} (h : w_X9_followWithDead l1 l2 M post) : MtV ω yX9_followWithDead cX9_followWithDead 3 none 5 [.ref (adr ω 0), .int l1, .int l2] M post := by
  refine MtV.start rfl (by decide +kernel) (own := RX9) rfl (Nat.le_of_ble_eq_true rfl) (fun ρ C R => ?_)
  show G ω ρ M 0 [(0, .ref (adr ω 0)), (1, .int l1), (2, .int l2)] []
  refine G_aload_n C dX9_followWithDead_0 0 rfl ?_
  refine gf_X9_26 C dX9_followWithDead_1 ?_
  refine gf_X9_237 C dX9_followWithDead_4 ?_
  refine G_aload_n C dX9_followWithDead_7 0 rfl ?_
  refine gf_X9_10 C dX9_followWithDead_8 ?_
  refine G_callV (As := [.ref (adr ω 1)]) (rest := []) C dX9_followWithDead_11 lk_X9_97 (Nat.le_of_ble_eq_true rfl) (Nat.le_of_ble_eq_true rfl) q23 (by decide) rfl (Nat.le_of_ble_eq_true rfl) rfl (S_X1_copyFrom q23 q1 h) (fun M1 h => ?_)
  refine G_aload_n C dX9_followWithDead_14 0 rfl ?_
  refine gf_X9_26 C dX9_followWithDead_15 ?_
  refine gf_X9_237 C dX9_followWithDead_18 ?_
  refine gf_X9_150 C q23 dX9_followWithDead_21 ?_
  refine G_iload_n C dX9_followWithDead_24 1 rfl ?_
  obtain ⟨hi, h⟩ := h
  refine G_aldGroup C q28 hi dX9_followWithDead_25 (G_rname (fun g2 eg2 => ?_))
  replace h := h g2 eg2
  have hg2 := el_13 q28 hi eg2
  refine G_iload_n C dX9_followWithDead_26 2 rfl ?_
  refine pf_X9_162 C hg2 dX9_followWithDead_27 (fun M3 eM3 => ?_)
  replace h := h M3 eM3
  refine G_aload_n C dX9_followWithDead_30 0 rfl ?_
  refine gf_X9_26 C dX9_followWithDead_31 ?_
  refine G_aload_n C dX9_followWithDead_34 0 rfl ?_
  refine gf_X9_19 C dX9_followWithDead_35 ?_
  refine G_sipush (v := 255) C dX9_followWithDead_38 (by decide) ?_
  refine G_callV (As := [.ref (adr ω 17), .int 255]) (rest := []) C dX9_followWithDead_41 lk_X9_244 (Nat.le_of_ble_eq_true rfl) (Nat.le_of_ble_eq_true rfl) q22 (by decide) rfl (Nat.le_of_ble_eq_true rfl) rfl (S_X8_follow h) (fun M4 h => ?_)
  exact R 44 _ _ dX9_followWithDead_44 h
theorem dX9_deads_0 : decode cX9_deads 0 = .ok (.iload_n 1, 1) := by decide +kernel
theorem dX9_deads_1 : decode cX9_deads 1 = .ok (.invokestatic 147, 3) := by decide +kernel
theorem dX9_deads_4 : decode cX9_deads 4 = .ok (.ifCond .ne 5, 3) := by decide +kernel
theorem dX9_deads_7 : decode cX9_deads 7 = .ok (.iconst (-1), 1) := by decide +kernel
theorem dX9_deads_8 : decode cX9_deads 8 = .ok (.ireturn, 1) := by decide +kernel
theorem dX9_deads_9 : decode cX9_deads 9 = .ok (.iconst 0, 1) := by decide +kernel
theorem dX9_deads_10 : decode cX9_deads 10 = .ok (.istore_n 2, 1) := by decide +kernel
theorem dX9_deads_11 : decode cX9_deads 11 = .ok (.iconst 1, 1) := by decide +kernel
theorem dX9_deads_12 : decode cX9_deads 12 = .ok (.aload_n 0, 1) := by decide +kernel
theorem dX9_deads_13 : decode cX9_deads 13 = .ok (.getfield 10, 3) := by decide +kernel
theorem dX9_deads_16 : decode cX9_deads 16 = .ok (.getfield 150, 3) := by decide +kernel
theorem dX9_deads_19 : decode cX9_deads 19 = .ok (.iload_n 1, 1) := by decide +kernel
theorem dX9_deads_20 : decode cX9_deads 20 = .ok (.aaload, 1) := by decide +kernel
theorem dX9_deads_21 : decode cX9_deads 21 = .ok (.getfield 159, 3) := by decide +kernel
theorem dX9_deads_24 : decode cX9_deads 24 = .ok (.ishl, 1) := by decide +kernel
theorem dX9_deads_25 : decode cX9_deads 25 = .ok (.istore_n 3, 1) := by decide +kernel
theorem dX9_deads_26 : decode cX9_deads 26 = .ok (.iconst 0, 1) := by decide +kernel
theorem dX9_deads_27 : decode cX9_deads 27 = .ok (.istore 4, 2) := by decide +kernel
theorem dX9_deads_29 : decode cX9_deads 29 = .ok (.iload 4, 2) := by decide +kernel
theorem dX9_deads_31 : decode cX9_deads 31 = .ok (.iload_n 3, 1) := by decide +kernel
theorem dX9_deads_32 : decode cX9_deads 32 = .ok (.if_icmp .ge 37, 3) := by decide +kernel
theorem dX9_deads_35 : decode cX9_deads 35 = .ok (.aload_n 0, 1) := by decide +kernel
theorem dX9_deads_36 : decode cX9_deads 36 = .ok (.iload_n 1, 1) := by decide +kernel
theorem dX9_deads_37 : decode cX9_deads 37 = .ok (.iload 4, 2) := by decide +kernel
theorem dX9_deads_39 : decode cX9_deads 39 = .ok (.invokevirtual 314, 3) := by decide +kernel
theorem dX9_deads_42 : decode cX9_deads 42 = .ok (.aload_n 0, 1) := by decide +kernel
theorem dX9_deads_43 : decode cX9_deads 43 = .ok (.getfield 26, 3) := by decide +kernel
theorem dX9_deads_46 : decode cX9_deads 46 = .ok (.aload_n 0, 1) := by decide +kernel
theorem dX9_deads_47 : decode cX9_deads 47 = .ok (.getfield 19, 3) := by decide +kernel
theorem dX9_deads_50 : decode cX9_deads 50 = .ok (.invokevirtual 311, 3) := by decide +kernel
theorem dX9_deads_53 : decode cX9_deads 53 = .ok (.ifCond .eq 10, 3) := by decide +kernel
theorem dX9_deads_56 : decode cX9_deads 56 = .ok (.iload_n 2, 1) := by decide +kernel
theorem dX9_deads_57 : decode cX9_deads 57 = .ok (.iconst 1, 1) := by decide +kernel
theorem dX9_deads_58 : decode cX9_deads 58 = .ok (.iload 4, 2) := by decide +kernel
theorem dX9_deads_60 : decode cX9_deads 60 = .ok (.ishl, 1) := by decide +kernel
theorem dX9_deads_61 : decode cX9_deads 61 = .ok (.ior, 1) := by decide +kernel
theorem dX9_deads_62 : decode cX9_deads 62 = .ok (.istore_n 2, 1) := by decide +kernel
theorem dX9_deads_63 : decode cX9_deads 63 = .ok (.iinc 4 1, 3) := by decide +kernel
theorem dX9_deads_66 : decode cX9_deads 66 = .ok (.goto (-37), 3) := by decide +kernel
theorem dX9_deads_69 : decode cX9_deads 69 = .ok (.iload_n 2, 1) := by decide +kernel
theorem dX9_deads_70 : decode cX9_deads 70 = .ok (.ireturn, 1) := by decide +kernel
theorem lk_X9_314 : LkV RX9 314 RX9 yX9_followWithDead cX9_followWithDead 3 none 2 := LkV.of 869 871 7 61 872 (by decide +kernel) (by decide +kernel) (by decide +kernel) (by decide +kernel) (by decide +kernel) (by decide +kernel)
set_option maxRecDepth 100000 in
set_option maxHeartbeats 4000000 in
theorem s_X9_deads_J63 {ω : WD} {ρ : FR} {post : Int32 → Mem → Prop} (C : Cx ω ρ cX9_deads RX9 6 5) (R : RtI ω ρ cX9_deads .int post) {K29 : Int32 → Int32 → Mem → Prop} {l1 : Int32} {l2 : Int32} {l3 : Int32} {l4 : Int32} (k29 : ∀ (u2 : Int32) (u4 : Int32) (M : Mem), K29 u2 u4 M → G ω ρ M 29 [(0, .ref (adr ω 0)), (1, .int l1), (2, .int u2), (3, .int l3), (4, .int u4)] []) {M : Mem} (h : w_X9_deads_J63 post K29 l1 l2 l3 l4 M) : G ω ρ M 63 [(0, .ref (adr ω 0)), (1, .int l1), (2, .int l2), (3, .int l3), (4, .int l4)] [] := by
  obtain ⟨v1, ev1⟩ : ∃ y : Int32, y = (l4 + 1) := ⟨_, rfl⟩
  replace h := h v1 ev1
  refine G_iinc C dX9_deads_63 4 rfl (v := v1) (by rw [ev1]; rfl) (by decide) (lv' := [(4, .int v1), (0, .ref (adr ω 0)), (1, .int l1), (2, .int l2), (3, .int l3)]) rfl ?_
  refine G_goto (tgt := 29) C dX9_deads_66 (by decide) ?_
  refine G_sub [1, 2, 3, 4, 0] (lv' := [(0, .ref (adr ω 0)), (1, .int l1), (2, .int l2), (3, .int l3), (4, .int v1)]) rfl ?_
  exact k29 _ _ _ h
set_option maxRecDepth 100000 in
set_option maxHeartbeats 4000000 in
theorem s_X9_deads_L29 {ω : WD} {ρ : FR} {post : Int32 → Mem → Prop} (C : Cx ω ρ cX9_deads RX9 6 5) (R : RtI ω ρ cX9_deads .int post) {l1 : Int32} {l3 : Int32} : ∀ (f : Nat) (l2 : Int32) (l4 : Int32) (M : Mem), w_X9_deads_L29 post l1 l3 f l2 l4 M → G ω ρ M 29 [(0, .ref (adr ω 0)), (1, .int l1), (2, .int l2), (3, .int l3), (4, .int l4)] [] := by
  intro f
  induction f with
  | zero => intro l2 l4 M h; exact False.elim h
  | succ f k29 =>
    intro l2 l4 M h
    refine G_iload C dX9_deads_29 4 rfl ?_
    refine G_iload_n C dX9_deads_31 3 rfl ?_
    obtain ⟨h1, h2⟩ := h
    refine G_icmp_ge (tgt := 69) C dX9_deads_32 (by decide) (fun c => ?_) (fun c => ?_)
    · have h := h1 c
      clear h1 h2
      refine G_iload_n C dX9_deads_69 2 rfl ?_
      exact R 70 _ _ _ dX9_deads_70 rfl h
    · have h := h2 c
      clear h1 h2
      refine G_aload_n C dX9_deads_35 0 rfl ?_
      refine G_iload_n C dX9_deads_36 1 rfl ?_
      refine G_iload C dX9_deads_37 4 rfl ?_
      refine G_callV (As := [.int l1, .int l4]) (rest := []) C dX9_deads_39 lk_X9_314 (Nat.le_of_ble_eq_true rfl) (Nat.le_of_ble_eq_true rfl) q0 (by decide) rfl (Nat.le_of_ble_eq_true rfl) rfl (S_X9_followWithDead h) (fun M2 h => ?_)
      refine G_aload_n C dX9_deads_42 0 rfl ?_
      refine gf_X9_26 C dX9_deads_43 ?_
      refine G_aload_n C dX9_deads_46 0 rfl ?_
      refine gf_X9_19 C dX9_deads_47 ?_
      refine G_callI (As := [.ref (adr ω 17)]) (rest := []) C dX9_deads_50 lk_X9_311 (Nat.le_of_ble_eq_true rfl) (Nat.le_of_ble_eq_true rfl) q22 (by decide) rfl (Nat.le_of_ble_eq_true rfl) rfl (S_X8_isAsSeen h) (fun r4 M3 h => ?_)
      obtain ⟨h1, h2⟩ := h
      refine G_if_eq (tgt := 63) C dX9_deads_53 (by decide) (fun c => ?_) (fun c => ?_)
      · have h := h1 c
        clear h1 h2
        exact s_X9_deads_J63 C R k29 h
      · have h := h2 c
        clear h1 h2
        refine G_iload_n C dX9_deads_56 2 rfl ?_
        refine G_iconst (v := 1) C dX9_deads_57 (by decide) ?_
        refine G_iload C dX9_deads_58 4 rfl ?_
        refine G_ishl C dX9_deads_60 ?_
        refine G_ior C dX9_deads_61 ?_
        refine G_iname (fun v5 ev5 => ?_)
        replace h := h v5 ev5
        refine G_istore_n C dX9_deads_62 (by decide) (lv' := [(2, .int v5), (0, .ref (adr ω 0)), (1, .int l1), (3, .int l3), (4, .int l4)]) rfl ?_
        refine G_sub [1, 2, 0, 3, 4] (lv' := [(0, .ref (adr ω 0)), (1, .int l1), (2, .int v5), (3, .int l3), (4, .int l4)]) rfl ?_
        exact s_X9_deads_J63 C R k29 h
set_option maxRecDepth 100000 in
set_option maxHeartbeats 4000000 in
theorem S_X9_deads {ω : WD} {l1 : Int32} {M : Mem} {post : Int32 → Mem → Prop} (h : w_X9_deads l1 M post) : MtI ω yX9_deads cX9_deads 5 (some .int) 6 [.ref (adr ω 0), .int l1] M post := by
  refine MtI.start (ty := .int) rfl (by decide +kernel) (own := RX9) rfl (Nat.le_of_ble_eq_true rfl) (fun ρ C R => ?_)
  show G ω ρ M 0 [(0, .ref (adr ω 0)), (1, .int l1)] []
  refine G_iload_n C dX9_deads_0 1 rfl ?_
  refine G_scallI (As := [.int l1]) (rest := []) C dX9_deads_1 lk_X9_147 (Nat.le_of_ble_eq_true rfl) (Nat.le_of_ble_eq_true rfl) (Nat.le_of_ble_eq_true rfl) rfl (S_X9_isGroup h) (fun r7 M6 h => ?_)
  obtain ⟨h1, h2⟩ := h
  refine G_if_ne (tgt := 9) C dX9_deads_4 (by decide) (fun c => ?_) (fun c => ?_)
  · have h := h1 c
    clear h1 h2
    refine G_iconst (v := 0) C dX9_deads_9 (by decide) ?_
    refine G_istore_n C dX9_deads_10 (by decide) (lv' := [(2, .int 0), (0, .ref (adr ω 0)), (1, .int l1)]) rfl ?_
    refine G_iconst (v := 1) C dX9_deads_11 (by decide) ?_
    refine G_aload_n C dX9_deads_12 1 rfl ?_
    refine gf_X9_10 C dX9_deads_13 ?_
    refine gf_X9_150 C q1 dX9_deads_16 ?_
    refine G_iload_n C dX9_deads_19 2 rfl ?_
    obtain ⟨hi, h⟩ := h
    refine G_aldGroup C q6 hi dX9_deads_20 (G_rname (fun g8 eg8 => ?_))
    replace h := h g8 eg8
    have hg8 := el_13 q6 hi eg8
    refine gf_X9_159 C hg8 dX9_deads_21 ?_
    refine G_ishl C dX9_deads_24 ?_
    refine G_iname (fun v9 ev9 => ?_)
    replace h := h v9 ev9
    refine G_istore_n C dX9_deads_25 (by decide) (lv' := [(3, .int v9), (2, .int 0), (0, .ref (adr ω 0)), (1, .int l1)]) rfl ?_
    refine G_iconst (v := 0) C dX9_deads_26 (by decide) ?_
    refine G_istore C dX9_deads_27 (by decide) (lv' := [(4, .int 0), (3, .int v9), (2, .int 0), (0, .ref (adr ω 0)), (1, .int l1)]) rfl ?_
    refine G_sub [3, 4, 2, 1, 0] (lv' := [(0, .ref (adr ω 0)), (1, .int l1), (2, .int 0), (3, .int v9), (4, .int 0)]) rfl ?_
    obtain ⟨f, h⟩ := h
    exact s_X9_deads_L29 C R  f _ _ _ h
  · have h := h2 c
    clear h1 h2
    refine G_iconst (v := (-1)) C dX9_deads_7 (by decide) ?_
    exact R 8 _ _ _ dX9_deads_8 rfl h
theorem dX9_clearTally_0 : decode cX9_clearTally 0 = .ok (.iconst 0, 1) := by decide +kernel
theorem dX9_clearTally_1 : decode cX9_clearTally 1 = .ok (.istore_n 1, 1) := by decide +kernel
theorem dX9_clearTally_2 : decode cX9_clearTally 2 = .ok (.iload_n 1, 1) := by decide +kernel
theorem dX9_clearTally_3 : decode cX9_clearTally 3 = .ok (.bipush 8, 2) := by decide +kernel
theorem dX9_clearTally_5 : decode cX9_clearTally 5 = .ok (.if_icmp .ge 32, 3) := by decide +kernel
theorem dX9_clearTally_8 : decode cX9_clearTally 8 = .ok (.iconst 0, 1) := by decide +kernel
theorem dX9_clearTally_9 : decode cX9_clearTally 9 = .ok (.istore_n 2, 1) := by decide +kernel
theorem dX9_clearTally_10 : decode cX9_clearTally 10 = .ok (.iload_n 2, 1) := by decide +kernel
theorem dX9_clearTally_11 : decode cX9_clearTally 11 = .ok (.bipush 6, 2) := by decide +kernel
theorem dX9_clearTally_13 : decode cX9_clearTally 13 = .ok (.if_icmp .gt 18, 3) := by decide +kernel
theorem dX9_clearTally_16 : decode cX9_clearTally 16 = .ok (.aload_n 0, 1) := by decide +kernel
theorem dX9_clearTally_17 : decode cX9_clearTally 17 = .ok (.getfield 39, 3) := by decide +kernel
theorem dX9_clearTally_20 : decode cX9_clearTally 20 = .ok (.iload_n 1, 1) := by decide +kernel
theorem dX9_clearTally_21 : decode cX9_clearTally 21 = .ok (.aaload, 1) := by decide +kernel
theorem dX9_clearTally_22 : decode cX9_clearTally 22 = .ok (.iload_n 2, 1) := by decide +kernel
theorem dX9_clearTally_23 : decode cX9_clearTally 23 = .ok (.iconst 0, 1) := by decide +kernel
theorem dX9_clearTally_24 : decode cX9_clearTally 24 = .ok (.iastore, 1) := by decide +kernel
theorem dX9_clearTally_25 : decode cX9_clearTally 25 = .ok (.iinc 2 1, 3) := by decide +kernel
theorem dX9_clearTally_28 : decode cX9_clearTally 28 = .ok (.goto (-18), 3) := by decide +kernel
theorem dX9_clearTally_31 : decode cX9_clearTally 31 = .ok (.iinc 1 1, 3) := by decide +kernel
theorem dX9_clearTally_34 : decode cX9_clearTally 34 = .ok (.goto (-32), 3) := by decide +kernel
theorem dX9_clearTally_37 : decode cX9_clearTally 37 = .ok (.return_, 1) := by decide +kernel
theorem gf_X9_39 {ω : WD} {ρ : FR} {M : Mem} {cc : ByteArray} {d n pc : Nat} {lv : List (Nat × Value)} {rest : List Value} (C : Cx ω ρ cc RX9 d n) (hd : decode cc pc = .ok (.getfield 39, 3)) (k : G ω ρ M (pc + 3) lv (.ref (adr ω 41) :: rest)) : G ω ρ M pc lv (.ref (adr ω 0) :: rest) := G_get (N := 11) (T := TX9) (C := RX9) (q := 4) C (q0 : isK 9 0) (by decide) rfl in_X9 (by decide) (tb_of 376 ⟨by decide +kernel, rfl⟩) rfl rfl hd k
set_option maxRecDepth 100000 in
set_option maxHeartbeats 4000000 in
theorem s_X9_clearTally_L10 {ω : WD} {ρ : FR} {post : Mem → Prop} (C : Cx ω ρ cX9_clearTally RX9 0 3) (R : RtV ω ρ cX9_clearTally post) {K2 : Int32 → Mem → Prop} {l1 : Int32} (k2 : ∀ (u1 : Int32) (M : Mem), K2 u1 M → G ω ρ M 2 [(0, .ref (adr ω 0)), (1, .int u1)] []) : ∀ (f : Nat) (l2 : Int32) (M : Mem), w_X9_clearTally_L10 post K2 l1 f l2 M → G ω ρ M 10 [(0, .ref (adr ω 0)), (1, .int l1), (2, .int l2)] [] := by
  intro f
  induction f with
  | zero => intro l2 M h; exact False.elim h
  | succ f k10 =>
    intro l2 M h
    refine G_iload_n C dX9_clearTally_10 2 rfl ?_
    refine G_bipush (v := 6) C dX9_clearTally_11 (by decide) ?_
    obtain ⟨h1, h2⟩ := h
    refine G_icmp_gt (tgt := 31) C dX9_clearTally_13 (by decide) (fun c => ?_) (fun c => ?_)
    · have h := h1 c
      clear h1 h2
      obtain ⟨v1, ev1⟩ : ∃ y : Int32, y = (l1 + 1) := ⟨_, rfl⟩
      replace h := h v1 ev1
      refine G_iinc C dX9_clearTally_31 1 rfl (v := v1) (by rw [ev1]; rfl) (by decide) (lv' := [(1, .int v1), (0, .ref (adr ω 0)), (2, .int l2)]) rfl ?_
      refine G_goto (tgt := 2) C dX9_clearTally_34 (by decide) ?_
      refine G_sub [1, 0] (lv' := [(0, .ref (adr ω 0)), (1, .int v1)]) rfl ?_
      exact k2 _ _ h
    · have h := h2 c
      clear h1 h2
      refine G_aload_n C dX9_clearTally_16 0 rfl ?_
      refine gf_X9_39 C dX9_clearTally_17 ?_
      refine G_iload_n C dX9_clearTally_20 1 rfl ?_
      obtain ⟨hi, h⟩ := h
      refine G_aldRow C q41 hi dX9_clearTally_21 (G_rname (fun g2 eg2 => ?_))
      replace h := h g2 eg2
      have hg2 := el_16 q41 hi eg2
      refine G_iload_n C dX9_clearTally_22 2 rfl ?_
      refine G_iconst (v := 0) C dX9_clearTally_23 (by decide) ?_
      obtain ⟨hi, h⟩ := h
      refine G_iast C hg2 hi rfl dX9_clearTally_24 (G_mname (fun M3 eM3 => ?_))
      replace h := h M3 eM3
      obtain ⟨v4, ev4⟩ : ∃ y : Int32, y = (l2 + 1) := ⟨_, rfl⟩
      replace h := h v4 ev4
      refine G_iinc C dX9_clearTally_25 2 rfl (v := v4) (by rw [ev4]; rfl) (by decide) (lv' := [(2, .int v4), (0, .ref (adr ω 0)), (1, .int l1)]) rfl ?_
      refine G_goto (tgt := 10) C dX9_clearTally_28 (by decide) ?_
      refine G_sub [1, 2, 0] (lv' := [(0, .ref (adr ω 0)), (1, .int l1), (2, .int v4)]) rfl ?_
      exact k10 _ _ h
set_option maxRecDepth 100000 in
set_option maxHeartbeats 4000000 in
theorem s_X9_clearTally_L2 {ω : WD} {ρ : FR} {post : Mem → Prop} (C : Cx ω ρ cX9_clearTally RX9 0 3) (R : RtV ω ρ cX9_clearTally post) : ∀ (f : Nat) (l1 : Int32) (M : Mem), w_X9_clearTally_L2 post f l1 M → G ω ρ M 2 [(0, .ref (adr ω 0)), (1, .int l1)] [] := by
  intro f
  induction f with
  | zero => intro l1 M h; exact False.elim h
  | succ f k2 =>
    intro l1 M h
    refine G_iload_n C dX9_clearTally_2 1 rfl ?_
    refine G_bipush (v := 8) C dX9_clearTally_3 (by decide) ?_
    obtain ⟨h1, h2⟩ := h
    refine G_icmp_ge (tgt := 37) C dX9_clearTally_5 (by decide) (fun c => ?_) (fun c => ?_)
    · have h := h1 c
      clear h1 h2
      exact R 37 _ _ dX9_clearTally_37 h
    · have h := h2 c
      clear h1 h2
      refine G_iconst (v := 0) C dX9_clearTally_8 (by decide) ?_
      refine G_istore_n C dX9_clearTally_9 (by decide) (lv' := [(2, .int 0), (0, .ref (adr ω 0)), (1, .int l1)]) rfl ?_
      refine G_sub [1, 2, 0] (lv' := [(0, .ref (adr ω 0)), (1, .int l1), (2, .int 0)]) rfl ?_
      obtain ⟨f, h⟩ := h
      exact s_X9_clearTally_L10 C R k2 f _ _ h
set_option maxRecDepth 100000 in
set_option maxHeartbeats 4000000 in
theorem S_X9_clearTally {ω : WD} {M : Mem} {post : Mem → Prop} (h : w_X9_clearTally M post) : MtV ω yX9_clearTally cX9_clearTally 3 none 0 [.ref (adr ω 0)] M post := by
  refine MtV.start rfl (by decide +kernel) (own := RX9) rfl (Nat.le_of_ble_eq_true rfl) (fun ρ C R => ?_)
  show G ω ρ M 0 [(0, .ref (adr ω 0))] []
  refine G_iconst (v := 0) C dX9_clearTally_0 (by decide) ?_
  refine G_istore_n C dX9_clearTally_1 (by decide) (lv' := [(1, .int 0), (0, .ref (adr ω 0))]) rfl ?_
  refine G_sub [1, 0] (lv' := [(0, .ref (adr ω 0)), (1, .int 0)]) rfl ?_
  obtain ⟨f, h⟩ := h
  exact s_X9_clearTally_L2 C R  f _ _ h
theorem dX9_tallyFates_0 : decode cX9_tallyFates 0 = .ok (.iconst 0, 1) := by decide +kernel
theorem dX9_tallyFates_1 : decode cX9_tallyFates 1 = .ok (.istore_n 1, 1) := by decide +kernel
theorem dX9_tallyFates_2 : decode cX9_tallyFates 2 = .ok (.iload_n 1, 1) := by decide +kernel
theorem dX9_tallyFates_3 : decode cX9_tallyFates 3 = .ok (.aload_n 0, 1) := by decide +kernel
theorem dX9_tallyFates_4 : decode cX9_tallyFates 4 = .ok (.getfield 19, 3) := by decide +kernel
theorem dX9_tallyFates_7 : decode cX9_tallyFates 7 = .ok (.getfield 121, 3) := by decide +kernel
theorem dX9_tallyFates_10 : decode cX9_tallyFates 10 = .ok (.if_icmp .ge 29, 3) := by decide +kernel
theorem dX9_tallyFates_13 : decode cX9_tallyFates 13 = .ok (.aload_n 0, 1) := by decide +kernel
theorem dX9_tallyFates_14 : decode cX9_tallyFates 14 = .ok (.getfield 39, 3) := by decide +kernel
theorem dX9_tallyFates_17 : decode cX9_tallyFates 17 = .ok (.iload_n 1, 1) := by decide +kernel
theorem dX9_tallyFates_18 : decode cX9_tallyFates 18 = .ok (.aaload, 1) := by decide +kernel
theorem dX9_tallyFates_19 : decode cX9_tallyFates 19 = .ok (.aload_n 0, 1) := by decide +kernel
theorem dX9_tallyFates_20 : decode cX9_tallyFates 20 = .ok (.getfield 26, 3) := by decide +kernel
theorem dX9_tallyFates_23 : decode cX9_tallyFates 23 = .ok (.getfield 241, 3) := by decide +kernel
theorem dX9_tallyFates_26 : decode cX9_tallyFates 26 = .ok (.iload_n 1, 1) := by decide +kernel
theorem dX9_tallyFates_27 : decode cX9_tallyFates 27 = .ok (.iaload, 1) := by decide +kernel
theorem dX9_tallyFates_28 : decode cX9_tallyFates 28 = .ok (.dup2, 1) := by decide +kernel
theorem dX9_tallyFates_29 : decode cX9_tallyFates 29 = .ok (.iaload, 1) := by decide +kernel
theorem dX9_tallyFates_30 : decode cX9_tallyFates 30 = .ok (.iconst 1, 1) := by decide +kernel
theorem dX9_tallyFates_31 : decode cX9_tallyFates 31 = .ok (.iadd, 1) := by decide +kernel
theorem dX9_tallyFates_32 : decode cX9_tallyFates 32 = .ok (.iastore, 1) := by decide +kernel
theorem dX9_tallyFates_33 : decode cX9_tallyFates 33 = .ok (.iinc 1 1, 3) := by decide +kernel
theorem dX9_tallyFates_36 : decode cX9_tallyFates 36 = .ok (.goto (-34), 3) := by decide +kernel
theorem dX9_tallyFates_39 : decode cX9_tallyFates 39 = .ok (.return_, 1) := by decide +kernel
set_option maxRecDepth 100000 in
set_option maxHeartbeats 4000000 in
theorem s_X9_tallyFates_L2 {ω : WD} {ρ : FR} {post : Mem → Prop} (C : Cx ω ρ cX9_tallyFates RX9 0 2) (R : RtV ω ρ cX9_tallyFates post) : ∀ (f : Nat) (l1 : Int32) (M : Mem), w_X9_tallyFates_L2 post f l1 M → G ω ρ M 2 [(0, .ref (adr ω 0)), (1, .int l1)] [] := by
  intro f
  induction f with
  | zero => intro l1 M h; exact False.elim h
  | succ f k2 =>
    intro l1 M h
    refine G_iload_n C dX9_tallyFates_2 1 rfl ?_
    refine G_aload_n C dX9_tallyFates_3 0 rfl ?_
    refine gf_X9_19 C dX9_tallyFates_4 ?_
    refine gf_X9_121 C q17 dX9_tallyFates_7 ?_
    obtain ⟨h1, h2⟩ := h
    refine G_icmp_ge (tgt := 39) C dX9_tallyFates_10 (by decide) (fun c => ?_) (fun c => ?_)
    · have h := h1 c
      clear h1 h2
      exact R 39 _ _ dX9_tallyFates_39 h
    · have h := h2 c
      clear h1 h2
      refine G_aload_n C dX9_tallyFates_13 0 rfl ?_
      refine gf_X9_39 C dX9_tallyFates_14 ?_
      refine G_iload_n C dX9_tallyFates_17 1 rfl ?_
      obtain ⟨hi, h⟩ := h
      refine G_aldRow C q41 hi dX9_tallyFates_18 (G_rname (fun g1 eg1 => ?_))
      replace h := h g1 eg1
      have hg1 := el_16 q41 hi eg1
      refine G_aload_n C dX9_tallyFates_19 0 rfl ?_
      refine gf_X9_26 C dX9_tallyFates_20 ?_
      refine gf_X9_241 C dX9_tallyFates_23 ?_
      refine G_iload_n C dX9_tallyFates_26 1 rfl ?_
      obtain ⟨hi, h⟩ := h
      refine G_iald C q39 hi rfl dX9_tallyFates_27 ?_
      refine G_dup2 C dX9_tallyFates_28 rfl rfl ?_
      obtain ⟨hi, h⟩ := h
      refine G_iald C hg1 hi rfl dX9_tallyFates_29 ?_
      refine G_iconst (v := 1) C dX9_tallyFates_30 (by decide) ?_
      refine G_iadd C dX9_tallyFates_31 ?_
      obtain ⟨hi, h⟩ := h
      refine G_iast C hg1 hi rfl dX9_tallyFates_32 (G_mname (fun M2 eM2 => ?_))
      replace h := h M2 eM2
      obtain ⟨v3, ev3⟩ : ∃ y : Int32, y = (l1 + 1) := ⟨_, rfl⟩
      replace h := h v3 ev3
      refine G_iinc C dX9_tallyFates_33 1 rfl (v := v3) (by rw [ev3]; rfl) (by decide) (lv' := [(1, .int v3), (0, .ref (adr ω 0))]) rfl ?_
      refine G_goto (tgt := 2) C dX9_tallyFates_36 (by decide) ?_
      refine G_sub [1, 0] (lv' := [(0, .ref (adr ω 0)), (1, .int v3)]) rfl ?_
      exact k2 _ _ h
set_option maxRecDepth 100000 in
set_option maxHeartbeats 4000000 in
theorem S_X9_tallyFates {ω : WD} {M : Mem} {post : Mem → Prop} (h : w_X9_tallyFates M post) : MtV ω yX9_tallyFates cX9_tallyFates 2 none 0 [.ref (adr ω 0)] M post := by
  refine MtV.start rfl (by decide +kernel) (own := RX9) rfl (Nat.le_of_ble_eq_true rfl) (fun ρ C R => ?_)
  show G ω ρ M 0 [(0, .ref (adr ω 0))] []
  refine G_iconst (v := 0) C dX9_tallyFates_0 (by decide) ?_
  refine G_istore_n C dX9_tallyFates_1 (by decide) (lv' := [(1, .int 0), (0, .ref (adr ω 0))]) rfl ?_
  refine G_sub [1, 0] (lv' := [(0, .ref (adr ω 0)), (1, .int 0)]) rfl ?_
  obtain ⟨f, h⟩ := h
  exact s_X9_tallyFates_L2 C R  f _ _ h
theorem dX9_mostTallied_0 : decode cX9_mostTallied 0 = .ok (.iconst 0, 1) := by decide +kernel
theorem dX9_mostTallied_1 : decode cX9_mostTallied 1 = .ok (.istore_n 2, 1) := by decide +kernel
theorem dX9_mostTallied_2 : decode cX9_mostTallied 2 = .ok (.iconst 0, 1) := by decide +kernel
theorem dX9_mostTallied_3 : decode cX9_mostTallied 3 = .ok (.istore_n 3, 1) := by decide +kernel
theorem dX9_mostTallied_4 : decode cX9_mostTallied 4 = .ok (.iload_n 3, 1) := by decide +kernel
theorem dX9_mostTallied_5 : decode cX9_mostTallied 5 = .ok (.bipush 6, 2) := by decide +kernel
theorem dX9_mostTallied_7 : decode cX9_mostTallied 7 = .ok (.if_icmp .gt 22, 3) := by decide +kernel
theorem dX9_mostTallied_10 : decode cX9_mostTallied 10 = .ok (.iload_n 2, 1) := by decide +kernel
theorem dX9_mostTallied_11 : decode cX9_mostTallied 11 = .ok (.aload_n 0, 1) := by decide +kernel
theorem dX9_mostTallied_12 : decode cX9_mostTallied 12 = .ok (.getfield 39, 3) := by decide +kernel
theorem dX9_mostTallied_15 : decode cX9_mostTallied 15 = .ok (.iload_n 1, 1) := by decide +kernel
theorem dX9_mostTallied_16 : decode cX9_mostTallied 16 = .ok (.aaload, 1) := by decide +kernel
theorem dX9_mostTallied_17 : decode cX9_mostTallied 17 = .ok (.iload_n 3, 1) := by decide +kernel
theorem dX9_mostTallied_18 : decode cX9_mostTallied 18 = .ok (.iaload, 1) := by decide +kernel
theorem dX9_mostTallied_19 : decode cX9_mostTallied 19 = .ok (.invokestatic 252, 3) := by decide +kernel
theorem dX9_mostTallied_22 : decode cX9_mostTallied 22 = .ok (.istore_n 2, 1) := by decide +kernel
theorem dX9_mostTallied_23 : decode cX9_mostTallied 23 = .ok (.iinc 3 1, 3) := by decide +kernel
theorem dX9_mostTallied_26 : decode cX9_mostTallied 26 = .ok (.goto (-22), 3) := by decide +kernel
theorem dX9_mostTallied_29 : decode cX9_mostTallied 29 = .ok (.iload_n 2, 1) := by decide +kernel
theorem dX9_mostTallied_30 : decode cX9_mostTallied 30 = .ok (.ireturn, 1) := by decide +kernel
set_option maxRecDepth 100000 in
set_option maxHeartbeats 4000000 in
theorem s_X9_mostTallied_L4 {ω : WD} {ρ : FR} {post : Int32 → Mem → Prop} (C : Cx ω ρ cX9_mostTallied RX9 1 4) (R : RtI ω ρ cX9_mostTallied .int post) {l1 : Int32} : ∀ (f : Nat) (l2 : Int32) (l3 : Int32) (M : Mem), w_X9_mostTallied_L4 post l1 f l2 l3 M → G ω ρ M 4 [(0, .ref (adr ω 0)), (1, .int l1), (2, .int l2), (3, .int l3)] [] := by
  intro f
  induction f with
  | zero => intro l2 l3 M h; exact False.elim h
  | succ f k4 =>
    intro l2 l3 M h
    refine G_iload_n C dX9_mostTallied_4 3 rfl ?_
    refine G_bipush (v := 6) C dX9_mostTallied_5 (by decide) ?_
    obtain ⟨h1, h2⟩ := h
    refine G_icmp_gt (tgt := 29) C dX9_mostTallied_7 (by decide) (fun c => ?_) (fun c => ?_)
    · have h := h1 c
      clear h1 h2
      refine G_iload_n C dX9_mostTallied_29 2 rfl ?_
      exact R 30 _ _ _ dX9_mostTallied_30 rfl h
    · have h := h2 c
      clear h1 h2
      refine G_iload_n C dX9_mostTallied_10 2 rfl ?_
      refine G_aload_n C dX9_mostTallied_11 0 rfl ?_
      refine gf_X9_39 C dX9_mostTallied_12 ?_
      refine G_iload_n C dX9_mostTallied_15 1 rfl ?_
      obtain ⟨hi, h⟩ := h
      refine G_aldRow C q41 hi dX9_mostTallied_16 (G_rname (fun g1 eg1 => ?_))
      replace h := h g1 eg1
      have hg1 := el_16 q41 hi eg1
      refine G_iload_n C dX9_mostTallied_17 3 rfl ?_
      obtain ⟨hi, h⟩ := h
      refine G_iald C hg1 hi rfl dX9_mostTallied_18 ?_
      refine G_max C dX9_mostTallied_19 767 768 76 769 (by decide +kernel) (by decide +kernel) (by decide +kernel) (by decide +kernel) (Nat.le_of_ble_eq_true rfl) (Nat.le_of_ble_eq_true rfl) ?_
      refine G_iname (fun v2 ev2 => ?_)
      replace h := h v2 ev2
      refine G_istore_n C dX9_mostTallied_22 (by decide) (lv' := [(2, .int v2), (0, .ref (adr ω 0)), (1, .int l1), (3, .int l3)]) rfl ?_
      obtain ⟨v3, ev3⟩ : ∃ y : Int32, y = (l3 + 1) := ⟨_, rfl⟩
      replace h := h v3 ev3
      refine G_iinc C dX9_mostTallied_23 3 rfl (v := v3) (by rw [ev3]; rfl) (by decide) (lv' := [(3, .int v3), (2, .int v2), (0, .ref (adr ω 0)), (1, .int l1)]) rfl ?_
      refine G_goto (tgt := 4) C dX9_mostTallied_26 (by decide) ?_
      refine G_sub [2, 3, 1, 0] (lv' := [(0, .ref (adr ω 0)), (1, .int l1), (2, .int v2), (3, .int v3)]) rfl ?_
      exact k4 _ _ _ h
set_option maxRecDepth 100000 in
set_option maxHeartbeats 4000000 in
theorem S_X9_mostTallied {ω : WD} {l1 : Int32} {M : Mem} {post : Int32 → Mem → Prop} (h : w_X9_mostTallied l1 M post) : MtI ω yX9_mostTallied cX9_mostTallied 4 (some .int) 1 [.ref (adr ω 0), .int l1] M post := by
  refine MtI.start (ty := .int) rfl (by decide +kernel) (own := RX9) rfl (Nat.le_of_ble_eq_true rfl) (fun ρ C R => ?_)
  show G ω ρ M 0 [(0, .ref (adr ω 0)), (1, .int l1)] []
  refine G_iconst (v := 0) C dX9_mostTallied_0 (by decide) ?_
  refine G_istore_n C dX9_mostTallied_1 (by decide) (lv' := [(2, .int 0), (0, .ref (adr ω 0)), (1, .int l1)]) rfl ?_
  refine G_iconst (v := 0) C dX9_mostTallied_2 (by decide) ?_
  refine G_istore_n C dX9_mostTallied_3 (by decide) (lv' := [(3, .int 0), (2, .int 0), (0, .ref (adr ω 0)), (1, .int l1)]) rfl ?_
  refine G_sub [2, 3, 1, 0] (lv' := [(0, .ref (adr ω 0)), (1, .int l1), (2, .int 0), (3, .int 0)]) rfl ?_
  obtain ⟨f, h⟩ := h
  exact s_X9_mostTallied_L4 C R  f _ _ _ h
theorem dX9_ask_0 : decode cX9_ask 0 = .ok (.iload_n 1, 1) := by decide +kernel
theorem dX9_ask_1 : decode cX9_ask 1 = .ok (.invokestatic 147, 3) := by decide +kernel
theorem dX9_ask_4 : decode cX9_ask 4 = .ok (.ifCond .eq 10, 3) := by decide +kernel
theorem dX9_ask_7 : decode cX9_ask 7 = .ok (.iload_n 2, 1) := by decide +kernel
theorem dX9_ask_8 : decode cX9_ask 8 = .ok (.invokestatic 184, 3) := by decide +kernel
theorem dX9_ask_11 : decode cX9_ask 11 = .ok (.ifCond .ne 5, 3) := by decide +kernel
theorem dX9_ask_14 : decode cX9_ask 14 = .ok (.iconst (-1), 1) := by decide +kernel
theorem dX9_ask_15 : decode cX9_ask 15 = .ok (.ireturn, 1) := by decide +kernel
theorem dX9_ask_16 : decode cX9_ask 16 = .ok (.aload_n 0, 1) := by decide +kernel
theorem dX9_ask_17 : decode cX9_ask 17 = .ok (.invokevirtual 317, 3) := by decide +kernel
theorem dX9_ask_20 : decode cX9_ask 20 = .ok (.iconst 0, 1) := by decide +kernel
theorem dX9_ask_21 : decode cX9_ask 21 = .ok (.istore_n 3, 1) := by decide +kernel
theorem dX9_ask_22 : decode cX9_ask 22 = .ok (.iconst 1, 1) := by decide +kernel
theorem dX9_ask_23 : decode cX9_ask 23 = .ok (.aload_n 0, 1) := by decide +kernel
theorem dX9_ask_24 : decode cX9_ask 24 = .ok (.getfield 10, 3) := by decide +kernel
theorem dX9_ask_27 : decode cX9_ask 27 = .ok (.getfield 150, 3) := by decide +kernel
theorem dX9_ask_30 : decode cX9_ask 30 = .ok (.iload_n 1, 1) := by decide +kernel
theorem dX9_ask_31 : decode cX9_ask 31 = .ok (.aaload, 1) := by decide +kernel
theorem dX9_ask_32 : decode cX9_ask 32 = .ok (.getfield 159, 3) := by decide +kernel
theorem dX9_ask_35 : decode cX9_ask 35 = .ok (.ishl, 1) := by decide +kernel
theorem dX9_ask_36 : decode cX9_ask 36 = .ok (.istore 4, 2) := by decide +kernel
theorem dX9_ask_38 : decode cX9_ask 38 = .ok (.iconst 0, 1) := by decide +kernel
theorem dX9_ask_39 : decode cX9_ask 39 = .ok (.istore 5, 2) := by decide +kernel
theorem dX9_ask_41 : decode cX9_ask 41 = .ok (.iload 5, 2) := by decide +kernel
theorem dX9_ask_43 : decode cX9_ask 43 = .ok (.iload 4, 2) := by decide +kernel
theorem dX9_ask_45 : decode cX9_ask 45 = .ok (.if_icmp .ge 37, 3) := by decide +kernel
theorem dX9_ask_48 : decode cX9_ask 48 = .ok (.aload_n 0, 1) := by decide +kernel
theorem dX9_ask_49 : decode cX9_ask 49 = .ok (.iload_n 1, 1) := by decide +kernel
theorem dX9_ask_50 : decode cX9_ask 50 = .ok (.iload 5, 2) := by decide +kernel
theorem dX9_ask_52 : decode cX9_ask 52 = .ok (.invokevirtual 314, 3) := by decide +kernel
theorem dX9_ask_55 : decode cX9_ask 55 = .ok (.aload_n 0, 1) := by decide +kernel
theorem dX9_ask_56 : decode cX9_ask 56 = .ok (.getfield 26, 3) := by decide +kernel
theorem dX9_ask_59 : decode cX9_ask 59 = .ok (.aload_n 0, 1) := by decide +kernel
theorem dX9_ask_60 : decode cX9_ask 60 = .ok (.getfield 19, 3) := by decide +kernel
theorem dX9_ask_63 : decode cX9_ask 63 = .ok (.invokevirtual 311, 3) := by decide +kernel
theorem dX9_ask_66 : decode cX9_ask 66 = .ok (.ifCond .eq 10, 3) := by decide +kernel
theorem dX9_ask_69 : decode cX9_ask 69 = .ok (.iinc 3 1, 3) := by decide +kernel
theorem dX9_ask_72 : decode cX9_ask 72 = .ok (.aload_n 0, 1) := by decide +kernel
theorem dX9_ask_73 : decode cX9_ask 73 = .ok (.invokevirtual 320, 3) := by decide +kernel
theorem dX9_ask_76 : decode cX9_ask 76 = .ok (.iinc 5 1, 3) := by decide +kernel
theorem dX9_ask_79 : decode cX9_ask 79 = .ok (.goto (-38), 3) := by decide +kernel
theorem dX9_ask_82 : decode cX9_ask 82 = .ok (.aload_n 0, 1) := by decide +kernel
theorem dX9_ask_83 : decode cX9_ask 83 = .ok (.getfield 33, 3) := by decide +kernel
theorem dX9_ask_86 : decode cX9_ask 86 = .ok (.iload_n 3, 1) := by decide +kernel
theorem dX9_ask_87 : decode cX9_ask 87 = .ok (.invokevirtual 262, 3) := by decide +kernel
theorem dX9_ask_90 : decode cX9_ask 90 = .ok (.iconst 0, 1) := by decide +kernel
theorem dX9_ask_91 : decode cX9_ask 91 = .ok (.istore 5, 2) := by decide +kernel
theorem dX9_ask_93 : decode cX9_ask 93 = .ok (.iload 5, 2) := by decide +kernel
theorem dX9_ask_95 : decode cX9_ask 95 = .ok (.aload_n 0, 1) := by decide +kernel
theorem dX9_ask_96 : decode cX9_ask 96 = .ok (.getfield 19, 3) := by decide +kernel
theorem dX9_ask_99 : decode cX9_ask 99 = .ok (.getfield 121, 3) := by decide +kernel
theorem dX9_ask_102 : decode cX9_ask 102 = .ok (.if_icmp .ge 24, 3) := by decide +kernel
theorem dX9_ask_105 : decode cX9_ask 105 = .ok (.aload_n 0, 1) := by decide +kernel
theorem dX9_ask_106 : decode cX9_ask 106 = .ok (.getfield 33, 3) := by decide +kernel
theorem dX9_ask_109 : decode cX9_ask 109 = .ok (.iload 5, 2) := by decide +kernel
theorem dX9_ask_111 : decode cX9_ask 111 = .ok (.aload_n 0, 1) := by decide +kernel
theorem dX9_ask_112 : decode cX9_ask 112 = .ok (.iload 5, 2) := by decide +kernel
theorem dX9_ask_114 : decode cX9_ask 114 = .ok (.invokevirtual 323, 3) := by decide +kernel
theorem dX9_ask_117 : decode cX9_ask 117 = .ok (.invokevirtual 268, 3) := by decide +kernel
theorem dX9_ask_120 : decode cX9_ask 120 = .ok (.iinc 5 1, 3) := by decide +kernel
theorem dX9_ask_123 : decode cX9_ask 123 = .ok (.goto (-30), 3) := by decide +kernel
theorem dX9_ask_126 : decode cX9_ask 126 = .ok (.aload_n 0, 1) := by decide +kernel
theorem dX9_ask_127 : decode cX9_ask 127 = .ok (.getfield 33, 3) := by decide +kernel
theorem dX9_ask_130 : decode cX9_ask 130 = .ok (.iload_n 2, 1) := by decide +kernel
theorem dX9_ask_131 : decode cX9_ask 131 = .ok (.invokevirtual 271, 3) := by decide +kernel
theorem dX9_ask_134 : decode cX9_ask 134 = .ok (.ireturn, 1) := by decide +kernel
theorem lk_X9_323 : LkV RX9 323 RX9 yX9_mostTallied cX9_mostTallied 4 (some .int) 1 := LkV.of 885 887 10 61 888 (by decide +kernel) (by decide +kernel) (by decide +kernel) (by decide +kernel) (by decide +kernel) (by decide +kernel)
theorem lk_X9_320 : LkV RX9 320 RX9 yX9_tallyFates cX9_tallyFates 2 none 0 := LkV.of 881 883 9 61 884 (by decide +kernel) (by decide +kernel) (by decide +kernel) (by decide +kernel) (by decide +kernel) (by decide +kernel)
theorem lk_X9_317 : LkV RX9 317 RX9 yX9_clearTally cX9_clearTally 3 none 0 := LkV.of 877 879 8 61 880 (by decide +kernel) (by decide +kernel) (by decide +kernel) (by decide +kernel) (by decide +kernel) (by decide +kernel)
set_option maxRecDepth 100000 in
set_option maxHeartbeats 4000000 in
theorem s_X9_ask_J76 {ω : WD} {ρ : FR} {post : Int32 → Mem → Prop} (C : Cx ω ρ cX9_ask RX9 6 6) (R : RtI ω ρ cX9_ask .int post) {K41 : Int32 → Int32 → Mem → Prop} {l1 : Int32} {l2 : Int32} {l3 : Int32} {l4 : Int32} {l5 : Int32} (k41 : ∀ (u3 : Int32) (u5 : Int32) (M : Mem), K41 u3 u5 M → G ω ρ M 41 [(0, .ref (adr ω 0)), (1, .int l1), (2, .int l2), (3, .int u3), (4, .int l4), (5, .int u5)] []) {M : Mem} (h : w_X9_ask_J76 post K41 l1 l2 l3 l4 l5 M) : G ω ρ M 76 [(0, .ref (adr ω 0)), (1, .int l1), (2, .int l2), (3, .int l3), (4, .int l4), (5, .int l5)] [] := by
  obtain ⟨v1, ev1⟩ : ∃ y : Int32, y = (l5 + 1) := ⟨_, rfl⟩
  replace h := h v1 ev1
  refine G_iinc C dX9_ask_76 5 rfl (v := v1) (by rw [ev1]; rfl) (by decide) (lv' := [(5, .int v1), (0, .ref (adr ω 0)), (1, .int l1), (2, .int l2), (3, .int l3), (4, .int l4)]) rfl ?_
  refine G_goto (tgt := 41) C dX9_ask_79 (by decide) ?_
  refine G_sub [1, 2, 3, 4, 5, 0] (lv' := [(0, .ref (adr ω 0)), (1, .int l1), (2, .int l2), (3, .int l3), (4, .int l4), (5, .int v1)]) rfl ?_
  exact k41 _ _ _ h
set_option maxRecDepth 100000 in
set_option maxHeartbeats 4000000 in
theorem s_X9_ask_L93 {ω : WD} {ρ : FR} {post : Int32 → Mem → Prop} (C : Cx ω ρ cX9_ask RX9 6 6) (R : RtI ω ρ cX9_ask .int post) {l2 : Int32} : ∀ (f : Nat) (l5 : Int32) (M : Mem), w_X9_ask_L93 post l2 f l5 M → G ω ρ M 93 [(0, .ref (adr ω 0)), (2, .int l2), (5, .int l5)] [] := by
  intro f
  induction f with
  | zero => intro l5 M h; exact False.elim h
  | succ f k93 =>
    intro l5 M h
    refine G_iload C dX9_ask_93 2 rfl ?_
    refine G_aload_n C dX9_ask_95 0 rfl ?_
    refine gf_X9_19 C dX9_ask_96 ?_
    refine gf_X9_121 C q17 dX9_ask_99 ?_
    obtain ⟨h1, h2⟩ := h
    refine G_icmp_ge (tgt := 126) C dX9_ask_102 (by decide) (fun c => ?_) (fun c => ?_)
    · have h := h1 c
      clear h1 h2
      refine G_aload_n C dX9_ask_126 0 rfl ?_
      refine gf_X9_33 C dX9_ask_127 ?_
      refine G_iload_n C dX9_ask_130 1 rfl ?_
      refine G_callI (As := [.int l2]) (rest := []) C dX9_ask_131 lk_X9_271 (Nat.le_of_ble_eq_true rfl) (Nat.le_of_ble_eq_true rfl) q40 (by decide) rfl (Nat.le_of_ble_eq_true rfl) rfl (S_X0_told h) (fun r3 M2 h => ?_)
      exact R 134 _ _ _ dX9_ask_134 rfl h
    · have h := h2 c
      clear h1 h2
      refine G_aload_n C dX9_ask_105 0 rfl ?_
      refine gf_X9_33 C dX9_ask_106 ?_
      refine G_iload C dX9_ask_109 2 rfl ?_
      refine G_aload_n C dX9_ask_111 0 rfl ?_
      refine G_iload C dX9_ask_112 2 rfl ?_
      refine G_callI (As := [.int l5]) (rest := [.int l5, .ref (adr ω 40)]) C dX9_ask_114 lk_X9_323 (Nat.le_of_ble_eq_true rfl) (Nat.le_of_ble_eq_true rfl) q0 (by decide) rfl (Nat.le_of_ble_eq_true rfl) rfl (S_X9_mostTallied h) (fun r5 M4 h => ?_)
      refine G_callV (As := [.int l5, .int r5]) (rest := []) C dX9_ask_117 lk_X9_268 (Nat.le_of_ble_eq_true rfl) (Nat.le_of_ble_eq_true rfl) q40 (by decide) rfl (Nat.le_of_ble_eq_true rfl) rfl (S_X0_offer h) (fun M6 h => ?_)
      obtain ⟨v7, ev7⟩ : ∃ y : Int32, y = (l5 + 1) := ⟨_, rfl⟩
      replace h := h v7 ev7
      refine G_iinc C dX9_ask_120 2 rfl (v := v7) (by rw [ev7]; rfl) (by decide) (lv' := [(5, .int v7), (0, .ref (adr ω 0)), (2, .int l2)]) rfl ?_
      refine G_goto (tgt := 93) C dX9_ask_123 (by decide) ?_
      refine G_sub [1, 2, 0] (lv' := [(0, .ref (adr ω 0)), (2, .int l2), (5, .int v7)]) rfl ?_
      exact k93 _ _ h
set_option maxRecDepth 100000 in
set_option maxHeartbeats 4000000 in
theorem s_X9_ask_L41 {ω : WD} {ρ : FR} {post : Int32 → Mem → Prop} (C : Cx ω ρ cX9_ask RX9 6 6) (R : RtI ω ρ cX9_ask .int post) {l1 : Int32} {l2 : Int32} {l4 : Int32} : ∀ (f : Nat) (l3 : Int32) (l5 : Int32) (M : Mem), w_X9_ask_L41 post l1 l2 l4 f l3 l5 M → G ω ρ M 41 [(0, .ref (adr ω 0)), (1, .int l1), (2, .int l2), (3, .int l3), (4, .int l4), (5, .int l5)] [] := by
  intro f
  induction f with
  | zero => intro l3 l5 M h; exact False.elim h
  | succ f k41 =>
    intro l3 l5 M h
    refine G_iload C dX9_ask_41 5 rfl ?_
    refine G_iload C dX9_ask_43 4 rfl ?_
    obtain ⟨h1, h2⟩ := h
    refine G_icmp_ge (tgt := 82) C dX9_ask_45 (by decide) (fun c => ?_) (fun c => ?_)
    · have h := h1 c
      clear h1 h2
      refine G_aload_n C dX9_ask_82 0 rfl ?_
      refine gf_X9_33 C dX9_ask_83 ?_
      refine G_iload_n C dX9_ask_86 3 rfl ?_
      refine G_callV (As := [.int l3]) (rest := []) C dX9_ask_87 lk_X9_262 (Nat.le_of_ble_eq_true rfl) (Nat.le_of_ble_eq_true rfl) q40 (by decide) rfl (Nat.le_of_ble_eq_true rfl) rfl (S_X0_begin h) (fun M8 h => ?_)
      refine G_iconst (v := 0) C dX9_ask_90 (by decide) ?_
      refine G_istore C dX9_ask_91 (by decide) (lv' := [(5, .int 0), (0, .ref (adr ω 0)), (1, .int l1), (2, .int l2), (3, .int l3), (4, .int l4)]) rfl ?_
      refine G_sub [1, 3, 0] (lv' := [(0, .ref (adr ω 0)), (2, .int l2), (5, .int 0)]) rfl ?_
      obtain ⟨f, h⟩ := h
      exact s_X9_ask_L93 C R  f _ _ h
    · have h := h2 c
      clear h1 h2
      refine G_aload_n C dX9_ask_48 0 rfl ?_
      refine G_iload_n C dX9_ask_49 1 rfl ?_
      refine G_iload C dX9_ask_50 5 rfl ?_
      refine G_callV (As := [.int l1, .int l5]) (rest := []) C dX9_ask_52 lk_X9_314 (Nat.le_of_ble_eq_true rfl) (Nat.le_of_ble_eq_true rfl) q0 (by decide) rfl (Nat.le_of_ble_eq_true rfl) rfl (S_X9_followWithDead h) (fun M9 h => ?_)
      refine G_aload_n C dX9_ask_55 0 rfl ?_
      refine gf_X9_26 C dX9_ask_56 ?_
      refine G_aload_n C dX9_ask_59 0 rfl ?_
      refine gf_X9_19 C dX9_ask_60 ?_
      refine G_callI (As := [.ref (adr ω 17)]) (rest := []) C dX9_ask_63 lk_X9_311 (Nat.le_of_ble_eq_true rfl) (Nat.le_of_ble_eq_true rfl) q22 (by decide) rfl (Nat.le_of_ble_eq_true rfl) rfl (S_X8_isAsSeen h) (fun r11 M10 h => ?_)
      obtain ⟨h1, h2⟩ := h
      refine G_if_eq (tgt := 76) C dX9_ask_66 (by decide) (fun c => ?_) (fun c => ?_)
      · have h := h1 c
        clear h1 h2
        exact s_X9_ask_J76 C R k41 h
      · have h := h2 c
        clear h1 h2
        obtain ⟨v12, ev12⟩ : ∃ y : Int32, y = (l3 + 1) := ⟨_, rfl⟩
        replace h := h v12 ev12
        refine G_iinc C dX9_ask_69 3 rfl (v := v12) (by rw [ev12]; rfl) (by decide) (lv' := [(3, .int v12), (0, .ref (adr ω 0)), (1, .int l1), (2, .int l2), (4, .int l4), (5, .int l5)]) rfl ?_
        refine G_aload_n C dX9_ask_72 1 rfl ?_
        refine G_callV (As := []) (rest := []) C dX9_ask_73 lk_X9_320 (Nat.le_of_ble_eq_true rfl) (Nat.le_of_ble_eq_true rfl) q0 (by decide) rfl (Nat.le_of_ble_eq_true rfl) rfl (S_X9_tallyFates h) (fun M13 h => ?_)
        refine G_sub [1, 2, 3, 0, 4, 5] (lv' := [(0, .ref (adr ω 0)), (1, .int l1), (2, .int l2), (3, .int v12), (4, .int l4), (5, .int l5)]) rfl ?_
        exact s_X9_ask_J76 C R k41 h
set_option maxRecDepth 100000 in
set_option maxHeartbeats 4000000 in
theorem S_X9_ask {ω : WD} {l1 : Int32} {l2 : Int32} {M : Mem} {post : Int32 → Mem → Prop} (h : w_X9_ask l1 l2 M post) : MtI ω yX9_ask cX9_ask 6 (some .int) 6 [.ref (adr ω 0), .int l1, .int l2] M post := by
  refine MtI.start (ty := .int) rfl (by decide +kernel) (own := RX9) rfl (Nat.le_of_ble_eq_true rfl) (fun ρ C R => ?_)
  show G ω ρ M 0 [(0, .ref (adr ω 0)), (1, .int l1), (2, .int l2)] []
  refine G_iload_n C dX9_ask_0 1 rfl ?_
  refine G_scallI (As := [.int l1]) (rest := []) C dX9_ask_1 lk_X9_147 (Nat.le_of_ble_eq_true rfl) (Nat.le_of_ble_eq_true rfl) (Nat.le_of_ble_eq_true rfl) rfl (S_X9_isGroup h) (fun r15 M14 h => ?_)
  obtain ⟨h1, h2⟩ := h
  refine G_if_eq (tgt := 14) C dX9_ask_4 (by decide) (fun c => ?_) (fun c => ?_)
  · have h := h1 c
    clear h1 h2
    refine G_iconst (v := (-1)) C dX9_ask_14 (by decide) ?_
    exact R 15 _ _ _ dX9_ask_15 rfl h
  · have h := h2 c
    clear h1 h2
    refine G_iload_n C dX9_ask_7 2 rfl ?_
    refine G_scallI (As := [.int l2]) (rest := []) C dX9_ask_8 lk_X9_184 (Nat.le_of_ble_eq_true rfl) (Nat.le_of_ble_eq_true rfl) (Nat.le_of_ble_eq_true rfl) rfl (S_X9_isBit h) (fun r17 M16 h => ?_)
    obtain ⟨h1, h2⟩ := h
    refine G_if_ne (tgt := 16) C dX9_ask_11 (by decide) (fun c => ?_) (fun c => ?_)
    · have h := h1 c
      clear h1 h2
      refine G_aload_n C dX9_ask_16 0 rfl ?_
      refine G_callV (As := []) (rest := []) C dX9_ask_17 lk_X9_317 (Nat.le_of_ble_eq_true rfl) (Nat.le_of_ble_eq_true rfl) q0 (by decide) rfl (Nat.le_of_ble_eq_true rfl) rfl (S_X9_clearTally h) (fun M18 h => ?_)
      refine G_iconst (v := 0) C dX9_ask_20 (by decide) ?_
      refine G_istore_n C dX9_ask_21 (by decide) (lv' := [(3, .int 0), (0, .ref (adr ω 0)), (1, .int l1), (2, .int l2)]) rfl ?_
      refine G_iconst (v := 1) C dX9_ask_22 (by decide) ?_
      refine G_aload_n C dX9_ask_23 1 rfl ?_
      refine gf_X9_10 C dX9_ask_24 ?_
      refine gf_X9_150 C q1 dX9_ask_27 ?_
      refine G_iload_n C dX9_ask_30 2 rfl ?_
      obtain ⟨hi, h⟩ := h
      refine G_aldGroup C q6 hi dX9_ask_31 (G_rname (fun g19 eg19 => ?_))
      replace h := h g19 eg19
      have hg19 := el_13 q6 hi eg19
      refine gf_X9_159 C hg19 dX9_ask_32 ?_
      refine G_ishl C dX9_ask_35 ?_
      refine G_iname (fun v20 ev20 => ?_)
      replace h := h v20 ev20
      refine G_istore C dX9_ask_36 (by decide) (lv' := [(4, .int v20), (3, .int 0), (0, .ref (adr ω 0)), (1, .int l1), (2, .int l2)]) rfl ?_
      refine G_iconst (v := 0) C dX9_ask_38 (by decide) ?_
      refine G_istore C dX9_ask_39 (by decide) (lv' := [(5, .int 0), (4, .int v20), (3, .int 0), (0, .ref (adr ω 0)), (1, .int l1), (2, .int l2)]) rfl ?_
      refine G_sub [3, 4, 5, 2, 1, 0] (lv' := [(0, .ref (adr ω 0)), (1, .int l1), (2, .int l2), (3, .int 0), (4, .int v20), (5, .int 0)]) rfl ?_
      obtain ⟨f, h⟩ := h
      exact s_X9_ask_L41 C R  f _ _ _ h
    · have h := h2 c
      clear h1 h2
      refine G_iconst (v := (-1)) C dX9_ask_14 (by decide) ?_
      exact R 15 _ _ _ dX9_ask_15 rfl h
theorem dX9_drift_0 : decode cX9_drift 0 = .ok (.iload_n 2, 1) := by decide +kernel
theorem dX9_drift_1 : decode cX9_drift 1 = .ok (.iconst 1, 1) := by decide +kernel
theorem dX9_drift_2 : decode cX9_drift 2 = .ok (.if_icmp .lt 16, 3) := by decide +kernel
theorem dX9_drift_5 : decode cX9_drift 5 = .ok (.iload_n 2, 1) := by decide +kernel
theorem dX9_drift_6 : decode cX9_drift 6 = .ok (.bipush 60, 2) := by decide +kernel
theorem dX9_drift_8 : decode cX9_drift 8 = .ok (.if_icmp .gt 10, 3) := by decide +kernel
theorem dX9_drift_11 : decode cX9_drift 11 = .ok (.iload_n 3, 1) := by decide +kernel
theorem dX9_drift_12 : decode cX9_drift 12 = .ok (.invokestatic 184, 3) := by decide +kernel
theorem dX9_drift_15 : decode cX9_drift 15 = .ok (.ifCond .ne 5, 3) := by decide +kernel
theorem dX9_drift_18 : decode cX9_drift 18 = .ok (.iconst (-1), 1) := by decide +kernel
theorem dX9_drift_19 : decode cX9_drift 19 = .ok (.ireturn, 1) := by decide +kernel
theorem dX9_drift_20 : decode cX9_drift 20 = .ok (.aload_n 0, 1) := by decide +kernel
theorem dX9_drift_21 : decode cX9_drift 21 = .ok (.getfield 10, 3) := by decide +kernel
theorem dX9_drift_24 : decode cX9_drift 24 = .ok (.getfield 112, 3) := by decide +kernel
theorem dX9_drift_27 : decode cX9_drift 27 = .ok (.ifCond .ne 6, 3) := by decide +kernel
theorem dX9_drift_30 : decode cX9_drift 30 = .ok (.bipush (-2), 2) := by decide +kernel
theorem dX9_drift_32 : decode cX9_drift 32 = .ok (.ireturn, 1) := by decide +kernel
theorem dX9_drift_33 : decode cX9_drift 33 = .ok (.aload_n 0, 1) := by decide +kernel
theorem dX9_drift_34 : decode cX9_drift 34 = .ok (.getfield 26, 3) := by decide +kernel
theorem dX9_drift_37 : decode cX9_drift 37 = .ok (.getfield 237, 3) := by decide +kernel
theorem dX9_drift_40 : decode cX9_drift 40 = .ok (.astore 4, 2) := by decide +kernel
theorem dX9_drift_42 : decode cX9_drift 42 = .ok (.aload 4, 2) := by decide +kernel
theorem dX9_drift_44 : decode cX9_drift 44 = .ok (.aload_n 0, 1) := by decide +kernel
theorem dX9_drift_45 : decode cX9_drift 45 = .ok (.getfield 10, 3) := by decide +kernel
theorem dX9_drift_48 : decode cX9_drift 48 = .ok (.invokevirtual 97, 3) := by decide +kernel
theorem dX9_drift_51 : decode cX9_drift 51 = .ok (.iconst 0, 1) := by decide +kernel
theorem dX9_drift_52 : decode cX9_drift 52 = .ok (.istore 5, 2) := by decide +kernel
theorem dX9_drift_54 : decode cX9_drift 54 = .ok (.iload_n 1, 1) := by decide +kernel
theorem dX9_drift_55 : decode cX9_drift 55 = .ok (.istore 6, 2) := by decide +kernel
theorem dX9_drift_57 : decode cX9_drift 57 = .ok (.iconst 0, 1) := by decide +kernel
theorem dX9_drift_58 : decode cX9_drift 58 = .ok (.istore 7, 2) := by decide +kernel
theorem dX9_drift_60 : decode cX9_drift 60 = .ok (.iload 7, 2) := by decide +kernel
theorem dX9_drift_62 : decode cX9_drift 62 = .ok (.iload_n 2, 1) := by decide +kernel
theorem dX9_drift_63 : decode cX9_drift 63 = .ok (.if_icmp .ge 98, 3) := by decide +kernel
theorem dX9_drift_66 : decode cX9_drift 66 = .ok (.iload 6, 2) := by decide +kernel
theorem dX9_drift_68 : decode cX9_drift 68 = .ok (.ldc_w 326, 3) := by decide +kernel
theorem dX9_drift_71 : decode cX9_drift 71 = .ok (.imul, 1) := by decide +kernel
theorem dX9_drift_72 : decode cX9_drift 72 = .ok (.sipush 12345, 3) := by decide +kernel
theorem dX9_drift_75 : decode cX9_drift 75 = .ok (.iadd, 1) := by decide +kernel
theorem dX9_drift_76 : decode cX9_drift 76 = .ok (.istore 6, 2) := by decide +kernel
theorem dX9_drift_78 : decode cX9_drift 78 = .ok (.iload 6, 2) := by decide +kernel
theorem dX9_drift_80 : decode cX9_drift 80 = .ok (.bipush 16, 2) := by decide +kernel
theorem dX9_drift_82 : decode cX9_drift 82 = .ok (.ishr, 1) := by decide +kernel
theorem dX9_drift_83 : decode cX9_drift 83 = .ok (.sipush 32767, 3) := by decide +kernel
theorem dX9_drift_86 : decode cX9_drift 86 = .ok (.iand, 1) := by decide +kernel
theorem dX9_drift_87 : decode cX9_drift 87 = .ok (.istore 8, 2) := by decide +kernel
theorem dX9_drift_89 : decode cX9_drift 89 = .ok (.iload 8, 2) := by decide +kernel
theorem dX9_drift_91 : decode cX9_drift 91 = .ok (.aload_n 0, 1) := by decide +kernel
theorem dX9_drift_92 : decode cX9_drift 92 = .ok (.getfield 10, 3) := by decide +kernel
theorem dX9_drift_95 : decode cX9_drift 95 = .ok (.getfield 112, 3) := by decide +kernel
theorem dX9_drift_98 : decode cX9_drift 98 = .ok (.irem, 1) := by decide +kernel
theorem dX9_drift_99 : decode cX9_drift 99 = .ok (.istore 9, 2) := by decide +kernel
theorem dX9_drift_101 : decode cX9_drift 101 = .ok (.aload 4, 2) := by decide +kernel
theorem dX9_drift_103 : decode cX9_drift 103 = .ok (.getfield 141, 3) := by decide +kernel
theorem dX9_drift_106 : decode cX9_drift 106 = .ok (.iload 9, 2) := by decide +kernel
theorem dX9_drift_108 : decode cX9_drift 108 = .ok (.iaload, 1) := by decide +kernel
theorem dX9_drift_109 : decode cX9_drift 109 = .ok (.ifCond .eq 14, 3) := by decide +kernel
theorem dX9_drift_112 : decode cX9_drift 112 = .ok (.aload 4, 2) := by decide +kernel
theorem dX9_drift_114 : decode cX9_drift 114 = .ok (.iload 9, 2) := by decide +kernel
theorem dX9_drift_116 : decode cX9_drift 116 = .ok (.invokevirtual 327, 3) := by decide +kernel
theorem dX9_drift_119 : decode cX9_drift 119 = .ok (.pop, 1) := by decide +kernel
theorem dX9_drift_120 : decode cX9_drift 120 = .ok (.goto 35, 3) := by decide +kernel
theorem dX9_drift_123 : decode cX9_drift 123 = .ok (.aload 4, 2) := by decide +kernel
theorem dX9_drift_125 : decode cX9_drift 125 = .ok (.iload 9, 2) := by decide +kernel
theorem dX9_drift_127 : decode cX9_drift 127 = .ok (.aload 4, 2) := by decide +kernel
theorem dX9_drift_129 : decode cX9_drift 129 = .ok (.getfield 135, 3) := by decide +kernel
theorem dX9_drift_132 : decode cX9_drift 132 = .ok (.iload 8, 2) := by decide +kernel
theorem dX9_drift_134 : decode cX9_drift 134 = .ok (.bipush 8, 2) := by decide +kernel
theorem dX9_drift_136 : decode cX9_drift 136 = .ok (.idiv, 1) := by decide +kernel
theorem dX9_drift_137 : decode cX9_drift 137 = .ok (.aload_n 0, 1) := by decide +kernel
theorem dX9_drift_138 : decode cX9_drift 138 = .ok (.getfield 10, 3) := by decide +kernel
theorem dX9_drift_141 : decode cX9_drift 141 = .ok (.getfield 112, 3) := by decide +kernel
theorem dX9_drift_144 : decode cX9_drift 144 = .ok (.irem, 1) := by decide +kernel
theorem dX9_drift_145 : decode cX9_drift 145 = .ok (.iaload, 1) := by decide +kernel
theorem dX9_drift_146 : decode cX9_drift 146 = .ok (.invokevirtual 330, 3) := by decide +kernel
theorem dX9_drift_149 : decode cX9_drift 149 = .ok (.ifCond .eq 6, 3) := by decide +kernel
theorem dX9_drift_152 : decode cX9_drift 152 = .ok (.iinc 5 1, 3) := by decide +kernel
theorem dX9_drift_155 : decode cX9_drift 155 = .ok (.iinc 7 1, 3) := by decide +kernel
theorem dX9_drift_158 : decode cX9_drift 158 = .ok (.goto (-98), 3) := by decide +kernel
theorem dX9_drift_161 : decode cX9_drift 161 = .ok (.iload_n 3, 1) := by decide +kernel
theorem dX9_drift_162 : decode cX9_drift 162 = .ok (.ifCond .ne 8, 3) := by decide +kernel
theorem dX9_drift_165 : decode cX9_drift 165 = .ok (.iload 5, 2) := by decide +kernel
theorem dX9_drift_167 : decode cX9_drift 167 = .ok (.goto 8, 3) := by decide +kernel
theorem dX9_drift_170 : decode cX9_drift 170 = .ok (.aload 4, 2) := by decide +kernel
theorem dX9_drift_172 : decode cX9_drift 172 = .ok (.getfield 118, 3) := by decide +kernel
theorem dX9_drift_175 : decode cX9_drift 175 = .ok (.ireturn, 1) := by decide +kernel
set_option maxRecDepth 100000 in
set_option maxHeartbeats 4000000 in
theorem s_X9_drift_J155 {ω : WD} {ρ : FR} {post : Int32 → Mem → Prop} (C : Cx ω ρ cX9_drift RX9 3 10) (R : RtI ω ρ cX9_drift .int post) {K60 : Int32 → Int32 → Int32 → Mem → Prop} {l2 : Int32} {l3 : Int32} {l5 : Int32} {l6 : Int32} {l7 : Int32} (k60 : ∀ (u5 : Int32) (u6 : Int32) (u7 : Int32) (M : Mem), K60 u5 u6 u7 M → G ω ρ M 60 [(0, .ref (adr ω 0)), (2, .int l2), (3, .int l3), (4, .ref (adr ω 23)), (5, .int u5), (6, .int u6), (7, .int u7)] []) {M : Mem} (h : w_X9_drift_J155 post K60 l2 l3 l5 l6 l7 M) : G ω ρ M 155 [(0, .ref (adr ω 0)), (2, .int l2), (3, .int l3), (4, .ref (adr ω 23)), (5, .int l5), (6, .int l6), (7, .int l7)] [] := by
  obtain ⟨v1, ev1⟩ : ∃ y : Int32, y = (l7 + 1) := ⟨_, rfl⟩
  replace h := h v1 ev1
  refine G_iinc C dX9_drift_155 6 rfl (v := v1) (by rw [ev1]; rfl) (by decide) (lv' := [(7, .int v1), (0, .ref (adr ω 0)), (2, .int l2), (3, .int l3), (4, .ref (adr ω 23)), (5, .int l5), (6, .int l6)]) rfl ?_
  refine G_goto (tgt := 60) C dX9_drift_158 (by decide) ?_
  refine G_sub [1, 2, 3, 4, 5, 6, 0] (lv' := [(0, .ref (adr ω 0)), (2, .int l2), (3, .int l3), (4, .ref (adr ω 23)), (5, .int l5), (6, .int l6), (7, .int v1)]) rfl ?_
  exact k60 _ _ _ _ h
set_option maxRecDepth 100000 in
set_option maxHeartbeats 4000000 in
theorem s_X9_drift_L60 {ω : WD} {ρ : FR} {post : Int32 → Mem → Prop} (C : Cx ω ρ cX9_drift RX9 3 10) (R : RtI ω ρ cX9_drift .int post) {l2 : Int32} {l3 : Int32} : ∀ (f : Nat) (l5 : Int32) (l6 : Int32) (l7 : Int32) (M : Mem), w_X9_drift_L60 post l2 l3 f l5 l6 l7 M → G ω ρ M 60 [(0, .ref (adr ω 0)), (2, .int l2), (3, .int l3), (4, .ref (adr ω 23)), (5, .int l5), (6, .int l6), (7, .int l7)] [] := by
  intro f
  induction f with
  | zero => intro l5 l6 l7 M h; exact False.elim h
  | succ f k60 =>
    intro l5 l6 l7 M h
    refine G_iload C dX9_drift_60 6 rfl ?_
    refine G_iload_n C dX9_drift_62 1 rfl ?_
    obtain ⟨h1, h2⟩ := h
    refine G_icmp_ge (tgt := 161) C dX9_drift_63 (by decide) (fun c => ?_) (fun c => ?_)
    · have h := h1 c
      clear h1 h2
      refine G_iload_n C dX9_drift_161 2 rfl ?_
      obtain ⟨h1, h2⟩ := h
      refine G_if_ne (tgt := 170) C dX9_drift_162 (by decide) (fun c => ?_) (fun c => ?_)
      · have h := h1 c
        clear h1 h2
        refine G_aload C dX9_drift_170 3 rfl ?_
        refine gf_X9_118 C q23 dX9_drift_172 ?_
        exact R 175 _ _ _ dX9_drift_175 rfl h
      · have h := h2 c
        clear h1 h2
        refine G_iload C dX9_drift_165 4 rfl ?_
        refine G_goto (tgt := 175) C dX9_drift_167 (by decide) ?_
        exact R 175 _ _ _ dX9_drift_175 rfl h
    · have h := h2 c
      clear h1 h2
      refine G_iload C dX9_drift_66 5 rfl ?_
      refine G_ldcw (v := 1103515245) C dX9_drift_68 (tb_of 893 ⟨by decide +kernel, rfl⟩) ?_
      refine G_imul C dX9_drift_71 ?_
      refine G_sipush (v := 12345) C dX9_drift_72 (by decide) ?_
      refine G_iadd C dX9_drift_75 ?_
      refine G_iname (fun v2 ev2 => ?_)
      replace h := h v2 ev2
      refine G_istore C dX9_drift_76 (by decide) (lv' := [(6, .int v2), (0, .ref (adr ω 0)), (2, .int l2), (3, .int l3), (4, .ref (adr ω 23)), (5, .int l5), (7, .int l7)]) rfl ?_
      refine G_iload C dX9_drift_78 0 rfl ?_
      refine G_bipush (v := 16) C dX9_drift_80 (by decide) ?_
      refine G_ishr C dX9_drift_82 ?_
      refine G_sipush (v := 32767) C dX9_drift_83 (by decide) ?_
      refine G_iand C dX9_drift_86 ?_
      refine G_iname (fun v3 ev3 => ?_)
      replace h := h v3 ev3
      refine G_istore C dX9_drift_87 (by decide) (lv' := [(8, .int v3), (6, .int v2), (0, .ref (adr ω 0)), (2, .int l2), (3, .int l3), (4, .ref (adr ω 23)), (5, .int l5), (7, .int l7)]) rfl ?_
      refine G_iload C dX9_drift_89 0 rfl ?_
      refine G_aload_n C dX9_drift_91 2 rfl ?_
      refine gf_X9_10 C dX9_drift_92 ?_
      refine gf_X9_112 C q1 dX9_drift_95 ?_
      obtain ⟨hz, h⟩ := h
      refine G_irem C dX9_drift_98 hz ?_
      refine G_iname (fun v4 ev4 => ?_)
      replace h := h v4 ev4
      refine G_istore C dX9_drift_99 (by decide) (lv' := [(9, .int v4), (8, .int v3), (6, .int v2), (0, .ref (adr ω 0)), (2, .int l2), (3, .int l3), (4, .ref (adr ω 23)), (5, .int l5), (7, .int l7)]) rfl ?_
      refine G_aload C dX9_drift_101 6 rfl ?_
      refine gf_X9_141 C q23 dX9_drift_103 ?_
      refine G_iload C dX9_drift_106 0 rfl ?_
      obtain ⟨hi, h⟩ := h
      refine G_iald C q26 hi rfl dX9_drift_108 ?_
      obtain ⟨h1, h2⟩ := h
      refine G_if_eq (tgt := 123) C dX9_drift_109 (by decide) (fun c => ?_) (fun c => ?_)
      · have h := h1 c
        clear h1 h2
        refine G_aload C dX9_drift_123 6 rfl ?_
        refine G_iload C dX9_drift_125 0 rfl ?_
        refine G_aload C dX9_drift_127 6 rfl ?_
        refine gf_X9_135 C q23 dX9_drift_129 ?_
        refine G_iload C dX9_drift_132 1 rfl ?_
        refine G_bipush (v := 8) C dX9_drift_134 (by decide) ?_
        refine G_idiv C dX9_drift_136 (by decide) ?_
        refine G_aload_n C dX9_drift_137 3 rfl ?_
        refine gf_X9_10 C dX9_drift_138 ?_
        refine gf_X9_112 C q1 dX9_drift_141 ?_
        obtain ⟨hz, h⟩ := h
        refine G_irem C dX9_drift_144 hz ?_
        obtain ⟨hi, h⟩ := h
        refine G_iald C q24 hi rfl dX9_drift_145 ?_
        refine G_callI (As := [.int v4, .int (rd M 24 (irem (v3 / 8) (rd M 1 0)).toNatClampNeg)]) (rest := []) C dX9_drift_146 lk_X9_330 (Nat.le_of_ble_eq_true rfl) (Nat.le_of_ble_eq_true rfl) q23 (by decide) rfl (Nat.le_of_ble_eq_true rfl) rfl (S_X1_ring q23 h) (fun r6 M5 h => ?_)
        obtain ⟨h1, h2⟩ := h
        refine G_if_eq (tgt := 155) C dX9_drift_149 (by decide) (fun c => ?_) (fun c => ?_)
        · have h := h1 c
          clear h1 h2
          refine G_sub [3, 4, 5, 6, 7, 2, 8] (lv' := [(0, .ref (adr ω 0)), (2, .int l2), (3, .int l3), (4, .ref (adr ω 23)), (5, .int l5), (6, .int v2), (7, .int l7)]) rfl ?_
          exact s_X9_drift_J155 C R k60 h
        · have h := h2 c
          clear h1 h2
          obtain ⟨v7, ev7⟩ : ∃ y : Int32, y = (l5 + 1) := ⟨_, rfl⟩
          replace h := h v7 ev7
          refine G_iinc C dX9_drift_152 7 rfl (v := v7) (by rw [ev7]; rfl) (by decide) (lv' := [(5, .int v7), (9, .int v4), (8, .int v3), (6, .int v2), (0, .ref (adr ω 0)), (2, .int l2), (3, .int l3), (4, .ref (adr ω 23)), (7, .int l7)]) rfl ?_
          refine G_sub [4, 5, 6, 7, 0, 3, 8] (lv' := [(0, .ref (adr ω 0)), (2, .int l2), (3, .int l3), (4, .ref (adr ω 23)), (5, .int v7), (6, .int v2), (7, .int l7)]) rfl ?_
          exact s_X9_drift_J155 C R k60 h
      · have h := h2 c
        clear h1 h2
        refine G_aload C dX9_drift_112 6 rfl ?_
        refine G_iload C dX9_drift_114 0 rfl ?_
        refine G_callI (As := [.int v4]) (rest := []) C dX9_drift_116 lk_X9_327 (Nat.le_of_ble_eq_true rfl) (Nat.le_of_ble_eq_true rfl) q23 (by decide) rfl (Nat.le_of_ble_eq_true rfl) rfl (S_X1_part q23 h) (fun r9 M8 h => ?_)
        refine G_pop C dX9_drift_119 rfl ?_
        refine G_goto (tgt := 155) C dX9_drift_120 (by decide) ?_
        refine G_sub [3, 4, 5, 6, 7, 2, 8] (lv' := [(0, .ref (adr ω 0)), (2, .int l2), (3, .int l3), (4, .ref (adr ω 23)), (5, .int l5), (6, .int v2), (7, .int l7)]) rfl ?_
        exact s_X9_drift_J155 C R k60 h
set_option maxRecDepth 100000 in
set_option maxHeartbeats 4000000 in
theorem S_X9_drift {ω : WD} {l1 : Int32} {l2 : Int32} {l3 : Int32} {M : Mem} {post : Int32 → Mem → Prop} (h : w_X9_drift l1 l2 l3 M post) : MtI ω yX9_drift cX9_drift 10 (some .int) 3 [.ref (adr ω 0), .int l1, .int l2, .int l3] M post := by
  refine MtI.start (ty := .int) rfl (by decide +kernel) (own := RX9) rfl (Nat.le_of_ble_eq_true rfl) (fun ρ C R => ?_)
  show G ω ρ M 0 [(0, .ref (adr ω 0)), (1, .int l1), (2, .int l2), (3, .int l3)] []
  refine G_iload_n C dX9_drift_0 2 rfl ?_
  refine G_iconst (v := 1) C dX9_drift_1 (by decide) ?_
  obtain ⟨h1, h2⟩ := h
  refine G_icmp_lt (tgt := 18) C dX9_drift_2 (by decide) (fun c => ?_) (fun c => ?_)
  · have h := h1 c
    clear h1 h2
    refine G_iconst (v := (-1)) C dX9_drift_18 (by decide) ?_
    exact R 19 _ _ _ dX9_drift_19 rfl h
  · have h := h2 c
    clear h1 h2
    refine G_iload_n C dX9_drift_5 2 rfl ?_
    refine G_bipush (v := 60) C dX9_drift_6 (by decide) ?_
    obtain ⟨h1, h2⟩ := h
    refine G_icmp_gt (tgt := 18) C dX9_drift_8 (by decide) (fun c => ?_) (fun c => ?_)
    · have h := h1 c
      clear h1 h2
      refine G_iconst (v := (-1)) C dX9_drift_18 (by decide) ?_
      exact R 19 _ _ _ dX9_drift_19 rfl h
    · have h := h2 c
      clear h1 h2
      refine G_iload_n C dX9_drift_11 3 rfl ?_
      refine G_scallI (As := [.int l3]) (rest := []) C dX9_drift_12 lk_X9_184 (Nat.le_of_ble_eq_true rfl) (Nat.le_of_ble_eq_true rfl) (Nat.le_of_ble_eq_true rfl) rfl (S_X9_isBit h) (fun r11 M10 h => ?_)
      obtain ⟨h1, h2⟩ := h
      refine G_if_ne (tgt := 20) C dX9_drift_15 (by decide) (fun c => ?_) (fun c => ?_)
      · have h := h1 c
        clear h1 h2
        refine G_aload_n C dX9_drift_20 0 rfl ?_
        refine gf_X9_10 C dX9_drift_21 ?_
        refine gf_X9_112 C q1 dX9_drift_24 ?_
        obtain ⟨h1, h2⟩ := h
        refine G_if_ne (tgt := 33) C dX9_drift_27 (by decide) (fun c => ?_) (fun c => ?_)
        · have h := h1 c
          clear h1 h2
          refine G_aload_n C dX9_drift_33 0 rfl ?_
          refine gf_X9_26 C dX9_drift_34 ?_
          refine gf_X9_237 C dX9_drift_37 ?_
          refine G_astore C dX9_drift_40 (by decide) (lv' := [(4, .ref (adr ω 23)), (0, .ref (adr ω 0)), (1, .int l1), (2, .int l2), (3, .int l3)]) rfl ?_
          refine G_aload C dX9_drift_42 0 rfl ?_
          refine G_aload_n C dX9_drift_44 1 rfl ?_
          refine gf_X9_10 C dX9_drift_45 ?_
          refine G_callV (As := [.ref (adr ω 1)]) (rest := []) C dX9_drift_48 lk_X9_97 (Nat.le_of_ble_eq_true rfl) (Nat.le_of_ble_eq_true rfl) q23 (by decide) rfl (Nat.le_of_ble_eq_true rfl) rfl (S_X1_copyFrom q23 q1 h) (fun M12 h => ?_)
          refine G_iconst (v := 0) C dX9_drift_51 (by decide) ?_
          refine G_istore C dX9_drift_52 (by decide) (lv' := [(5, .int 0), (4, .ref (adr ω 23)), (0, .ref (adr ω 0)), (1, .int l1), (2, .int l2), (3, .int l3)]) rfl ?_
          refine G_iload_n C dX9_drift_54 3 rfl ?_
          refine G_istore C dX9_drift_55 (by decide) (lv' := [(6, .int l1), (5, .int 0), (4, .ref (adr ω 23)), (0, .ref (adr ω 0)), (1, .int l1), (2, .int l2), (3, .int l3)]) rfl ?_
          refine G_iconst (v := 0) C dX9_drift_57 (by decide) ?_
          refine G_istore C dX9_drift_58 (by decide) (lv' := [(7, .int 0), (6, .int l1), (5, .int 0), (4, .ref (adr ω 23)), (0, .ref (adr ω 0)), (1, .int l1), (2, .int l2), (3, .int l3)]) rfl ?_
          refine G_sub [4, 6, 7, 3, 2, 1, 0] (lv' := [(0, .ref (adr ω 0)), (2, .int l2), (3, .int l3), (4, .ref (adr ω 23)), (5, .int 0), (6, .int l1), (7, .int 0)]) rfl ?_
          obtain ⟨f, h⟩ := h
          exact s_X9_drift_L60 C R  f _ _ _ _ h
        · have h := h2 c
          clear h1 h2
          refine G_bipush (v := (-2)) C dX9_drift_30 (by decide) ?_
          exact R 32 _ _ _ dX9_drift_32 rfl h
      · have h := h2 c
        clear h1 h2
        refine G_iconst (v := (-1)) C dX9_drift_18 (by decide) ?_
        exact R 19 _ _ _ dX9_drift_19 rfl h
theorem dX9_keep_0 : decode cX9_keep 0 = .ok (.iload_n 1, 1) := by decide +kernel
theorem dX9_keep_1 : decode cX9_keep 1 = .ok (.ifCond .lt 8, 3) := by decide +kernel
theorem dX9_keep_4 : decode cX9_keep 4 = .ok (.iload_n 1, 1) := by decide +kernel
theorem dX9_keep_5 : decode cX9_keep 5 = .ok (.iconst 2, 1) := by decide +kernel
theorem dX9_keep_6 : decode cX9_keep 6 = .ok (.if_icmp .lt 5, 3) := by decide +kernel
theorem dX9_keep_9 : decode cX9_keep 9 = .ok (.iconst (-1), 1) := by decide +kernel
theorem dX9_keep_10 : decode cX9_keep 10 = .ok (.ireturn, 1) := by decide +kernel
theorem dX9_keep_11 : decode cX9_keep 11 = .ok (.aload_n 0, 1) := by decide +kernel
theorem dX9_keep_12 : decode cX9_keep 12 = .ok (.getfield 56, 3) := by decide +kernel
theorem dX9_keep_15 : decode cX9_keep 15 = .ok (.iload_n 1, 1) := by decide +kernel
theorem dX9_keep_16 : decode cX9_keep 16 = .ok (.aaload, 1) := by decide +kernel
theorem dX9_keep_17 : decode cX9_keep 17 = .ok (.astore_n 2, 1) := by decide +kernel
theorem dX9_keep_18 : decode cX9_keep 18 = .ok (.aload_n 2, 1) := by decide +kernel
theorem dX9_keep_19 : decode cX9_keep 19 = .ok (.getfield 105, 3) := by decide +kernel
theorem dX9_keep_22 : decode cX9_keep 22 = .ok (.ifCond .eq 7, 3) := by decide +kernel
theorem dX9_keep_25 : decode cX9_keep 25 = .ok (.iconst 1, 1) := by decide +kernel
theorem dX9_keep_26 : decode cX9_keep 26 = .ok (.goto 4, 3) := by decide +kernel
theorem dX9_keep_29 : decode cX9_keep 29 = .ok (.iconst 0, 1) := by decide +kernel
theorem dX9_keep_30 : decode cX9_keep 30 = .ok (.istore_n 3, 1) := by decide +kernel
theorem dX9_keep_31 : decode cX9_keep 31 = .ok (.aload_n 2, 1) := by decide +kernel
theorem dX9_keep_32 : decode cX9_keep 32 = .ok (.iconst 1, 1) := by decide +kernel
theorem dX9_keep_33 : decode cX9_keep 33 = .ok (.putfield 105, 3) := by decide +kernel
theorem dX9_keep_36 : decode cX9_keep 36 = .ok (.aload_n 2, 1) := by decide +kernel
theorem dX9_keep_37 : decode cX9_keep 37 = .ok (.getfield 333, 3) := by decide +kernel
theorem dX9_keep_40 : decode cX9_keep 40 = .ok (.aload_n 0, 1) := by decide +kernel
theorem dX9_keep_41 : decode cX9_keep 41 = .ok (.getfield 10, 3) := by decide +kernel
theorem dX9_keep_44 : decode cX9_keep 44 = .ok (.invokevirtual 97, 3) := by decide +kernel
theorem dX9_keep_47 : decode cX9_keep 47 = .ok (.aload_n 2, 1) := by decide +kernel
theorem dX9_keep_48 : decode cX9_keep 48 = .ok (.getfield 334, 3) := by decide +kernel
theorem dX9_keep_51 : decode cX9_keep 51 = .ok (.aload_n 0, 1) := by decide +kernel
theorem dX9_keep_52 : decode cX9_keep 52 = .ok (.getfield 19, 3) := by decide +kernel
theorem dX9_keep_55 : decode cX9_keep 55 = .ok (.invokevirtual 102, 3) := by decide +kernel
theorem dX9_keep_58 : decode cX9_keep 58 = .ok (.iload_n 3, 1) := by decide +kernel
theorem dX9_keep_59 : decode cX9_keep 59 = .ok (.ireturn, 1) := by decide +kernel
theorem gf_X9_333 {ω : WD} {ρ : FR} {M : Mem} {cc : ByteArray} {d n pc i : Nat} {lv : List (Nat × Value)} {rest : List Value} (C : Cx ω ρ cc RX9 d n) (hk : isK 3 i) (hd : decode cc pc = .ok (.getfield 333, 3)) (k : G ω ρ M (pc + 3) lv (.ref (adr ω (i + 1)) :: rest)) : G ω ρ M pc lv (.ref (adr ω i) :: rest) := G_get (N := 3) (T := TX3) (C := RX3) (q := 1) C hk (by decide) rfl in_X3 (by decide) (tb_of 345 ⟨by decide +kernel, rfl⟩) rfl rfl hd k
theorem gf_X9_334 {ω : WD} {ρ : FR} {M : Mem} {cc : ByteArray} {d n pc i : Nat} {lv : List (Nat × Value)} {rest : List Value} (C : Cx ω ρ cc RX9 d n) (hk : isK 3 i) (hd : decode cc pc = .ok (.getfield 334, 3)) (k : G ω ρ M (pc + 3) lv (.ref (adr ω (i + 17)) :: rest)) : G ω ρ M pc lv (.ref (adr ω i) :: rest) := G_get (N := 3) (T := TX3) (C := RX3) (q := 2) C hk (by decide) rfl in_X3 (by decide) (tb_of 347 ⟨by decide +kernel, rfl⟩) rfl rfl hd k
theorem gf_X9_105 {ω : WD} {ρ : FR} {M : Mem} {cc : ByteArray} {d n pc i : Nat} {lv : List (Nat × Value)} {rest : List Value} (C : Cx ω ρ cc RX9 d n) (hk : isK 3 i) (hd : decode cc pc = .ok (.getfield 105, 3)) (k : G ω ρ M (pc + 3) lv (.int (rd M i 0) :: rest)) : G ω ρ M pc lv (.ref (adr ω i) :: rest) := G_get (N := 3) (T := TX3) (C := RX3) (q := 0) C hk (by decide) rfl in_X3 (by decide) (tb_of 343 ⟨by decide +kernel, rfl⟩) rfl rfl hd k
set_option maxRecDepth 100000 in
set_option maxHeartbeats 4000000 in
theorem s_X9_keep_J30 {ω : WD} {ρ : FR} {post : Int32 → Mem → Prop} (C : Cx ω ρ cX9_keep RX9 2 4) (R : RtI ω ρ cX9_keep .int post) {l2 : Nat} {s0 : Int32} {M : Mem} (hl2 : isK 3 l2) (h : w_X9_keep_J30 post l2 s0 M) : G ω ρ M 30 [(0, .ref (adr ω 0)), (2, .ref (adr ω l2))] [.int s0] := by
  refine G_istore_n C dX9_keep_30 (by decide) (lv' := [(3, .int s0), (0, .ref (adr ω 0)), (2, .ref (adr ω l2))]) rfl ?_
  refine G_aload_n C dX9_keep_31 2 rfl ?_
  refine G_iconst (v := 1) C dX9_keep_32 (by decide) ?_
  refine pf_X9_105 C hl2 zb_1 dX9_keep_33 (fun M1 eM1 => ?_)
  replace h := h M1 eM1
  refine G_aload_n C dX9_keep_36 2 rfl ?_
  refine gf_X9_333 C hl2 dX9_keep_37 ?_
  refine G_aload_n C dX9_keep_40 1 rfl ?_
  refine gf_X9_10 C dX9_keep_41 ?_
  refine G_callV (As := [.ref (adr ω 1)]) (rest := []) C dX9_keep_44 lk_X9_97 (Nat.le_of_ble_eq_true rfl) (Nat.le_of_ble_eq_true rfl) (st_3_1 hl2) (by decide) rfl (Nat.le_of_ble_eq_true rfl) rfl (S_X1_copyFrom (st_3_1 hl2) q1 h) (fun M2 h => ?_)
  refine G_aload_n C dX9_keep_47 2 rfl ?_
  refine gf_X9_334 C hl2 dX9_keep_48 ?_
  refine G_aload_n C dX9_keep_51 1 rfl ?_
  refine gf_X9_19 C dX9_keep_52 ?_
  refine G_callV (As := [.ref (adr ω 17)]) (rest := []) C dX9_keep_55 lk_X9_102 (Nat.le_of_ble_eq_true rfl) (Nat.le_of_ble_eq_true rfl) (st_3_2 hl2) (by decide) rfl (Nat.le_of_ble_eq_true rfl) rfl (S_X5_copyFrom (st_3_2 hl2) q17 h) (fun M3 h => ?_)
  refine G_iload_n C dX9_keep_58 0 rfl ?_
  exact R 59 _ _ _ dX9_keep_59 rfl h
set_option maxRecDepth 100000 in
set_option maxHeartbeats 4000000 in
theorem S_X9_keep {ω : WD} {l1 : Int32} {M : Mem} {post : Int32 → Mem → Prop} (h : w_X9_keep l1 M post) : MtI ω yX9_keep cX9_keep 4 (some .int) 2 [.ref (adr ω 0), .int l1] M post := by
  refine MtI.start (ty := .int) rfl (by decide +kernel) (own := RX9) rfl (Nat.le_of_ble_eq_true rfl) (fun ρ C R => ?_)
  show G ω ρ M 0 [(0, .ref (adr ω 0)), (1, .int l1)] []
  refine G_iload_n C dX9_keep_0 1 rfl ?_
  obtain ⟨h1, h2⟩ := h
  refine G_if_lt (tgt := 9) C dX9_keep_1 (by decide) (fun c => ?_) (fun c => ?_)
  · have h := h1 c
    clear h1 h2
    refine G_iconst (v := (-1)) C dX9_keep_9 (by decide) ?_
    exact R 10 _ _ _ dX9_keep_10 rfl h
  · have h := h2 c
    clear h1 h2
    refine G_iload_n C dX9_keep_4 1 rfl ?_
    refine G_iconst (v := 2) C dX9_keep_5 (by decide) ?_
    obtain ⟨h1, h2⟩ := h
    refine G_icmp_lt (tgt := 11) C dX9_keep_6 (by decide) (fun c => ?_) (fun c => ?_)
    · have h := h1 c
      clear h1 h2
      refine G_aload_n C dX9_keep_11 0 rfl ?_
      refine gf_X9_56 C dX9_keep_12 ?_
      refine G_iload_n C dX9_keep_15 1 rfl ?_
      obtain ⟨hi, h⟩ := h
      refine G_aldImage C q74 hi dX9_keep_16 (G_rname (fun g4 eg4 => ?_))
      replace h := h g4 eg4
      have hg4 := el_14 q74 hi eg4
      refine G_astore_n C dX9_keep_17 (by decide) (lv' := [(2, .ref (adr ω g4)), (0, .ref (adr ω 0)), (1, .int l1)]) rfl ?_
      refine G_aload_n C dX9_keep_18 0 rfl ?_
      refine gf_X9_105 C hg4 dX9_keep_19 ?_
      obtain ⟨h1, h2⟩ := h
      refine G_if_eq (tgt := 29) C dX9_keep_22 (by decide) (fun c => ?_) (fun c => ?_)
      · have h := h1 c
        clear h1 h2
        refine G_iconst (v := 0) C dX9_keep_29 (by decide) ?_
        refine G_sub [1, 0] (lv' := [(0, .ref (adr ω 0)), (2, .ref (adr ω g4))]) rfl ?_
        exact s_X9_keep_J30 C R hg4 h
      · have h := h2 c
        clear h1 h2
        refine G_iconst (v := 1) C dX9_keep_25 (by decide) ?_
        refine G_goto (tgt := 30) C dX9_keep_26 (by decide) ?_
        refine G_sub [1, 0] (lv' := [(0, .ref (adr ω 0)), (2, .ref (adr ω g4))]) rfl ?_
        exact s_X9_keep_J30 C R hg4 h
    · have h := h2 c
      clear h1 h2
      refine G_iconst (v := (-1)) C dX9_keep_9 (by decide) ?_
      exact R 10 _ _ _ dX9_keep_10 rfl h
theorem dX9_back_0 : decode cX9_back 0 = .ok (.iload_n 1, 1) := by decide +kernel
theorem dX9_back_1 : decode cX9_back 1 = .ok (.ifCond .lt 8, 3) := by decide +kernel
theorem dX9_back_4 : decode cX9_back 4 = .ok (.iload_n 1, 1) := by decide +kernel
theorem dX9_back_5 : decode cX9_back 5 = .ok (.iconst 2, 1) := by decide +kernel
theorem dX9_back_6 : decode cX9_back 6 = .ok (.if_icmp .lt 5, 3) := by decide +kernel
theorem dX9_back_9 : decode cX9_back 9 = .ok (.iconst (-1), 1) := by decide +kernel
theorem dX9_back_10 : decode cX9_back 10 = .ok (.ireturn, 1) := by decide +kernel
theorem dX9_back_11 : decode cX9_back 11 = .ok (.aload_n 0, 1) := by decide +kernel
theorem dX9_back_12 : decode cX9_back 12 = .ok (.getfield 56, 3) := by decide +kernel
theorem dX9_back_15 : decode cX9_back 15 = .ok (.iload_n 1, 1) := by decide +kernel
theorem dX9_back_16 : decode cX9_back 16 = .ok (.aaload, 1) := by decide +kernel
theorem dX9_back_17 : decode cX9_back 17 = .ok (.astore_n 2, 1) := by decide +kernel
theorem dX9_back_18 : decode cX9_back 18 = .ok (.aload_n 2, 1) := by decide +kernel
theorem dX9_back_19 : decode cX9_back 19 = .ok (.getfield 105, 3) := by decide +kernel
theorem dX9_back_22 : decode cX9_back 22 = .ok (.ifCond .ne 6, 3) := by decide +kernel
theorem dX9_back_25 : decode cX9_back 25 = .ok (.bipush (-2), 2) := by decide +kernel
theorem dX9_back_27 : decode cX9_back 27 = .ok (.ireturn, 1) := by decide +kernel
theorem dX9_back_28 : decode cX9_back 28 = .ok (.aload_n 0, 1) := by decide +kernel
theorem dX9_back_29 : decode cX9_back 29 = .ok (.getfield 10, 3) := by decide +kernel
theorem dX9_back_32 : decode cX9_back 32 = .ok (.aload_n 2, 1) := by decide +kernel
theorem dX9_back_33 : decode cX9_back 33 = .ok (.getfield 333, 3) := by decide +kernel
theorem dX9_back_36 : decode cX9_back 36 = .ok (.invokevirtual 97, 3) := by decide +kernel
theorem dX9_back_39 : decode cX9_back 39 = .ok (.aload_n 0, 1) := by decide +kernel
theorem dX9_back_40 : decode cX9_back 40 = .ok (.getfield 19, 3) := by decide +kernel
theorem dX9_back_43 : decode cX9_back 43 = .ok (.aload_n 2, 1) := by decide +kernel
theorem dX9_back_44 : decode cX9_back 44 = .ok (.getfield 334, 3) := by decide +kernel
theorem dX9_back_47 : decode cX9_back 47 = .ok (.invokevirtual 102, 3) := by decide +kernel
theorem dX9_back_50 : decode cX9_back 50 = .ok (.aload_n 0, 1) := by decide +kernel
theorem dX9_back_51 : decode cX9_back 51 = .ok (.getfield 10, 3) := by decide +kernel
theorem dX9_back_54 : decode cX9_back 54 = .ok (.getfield 118, 3) := by decide +kernel
theorem dX9_back_57 : decode cX9_back 57 = .ok (.ireturn, 1) := by decide +kernel
set_option maxRecDepth 100000 in
set_option maxHeartbeats 4000000 in
theorem S_X9_back {ω : WD} {l1 : Int32} {M : Mem} {post : Int32 → Mem → Prop} (h : w_X9_back l1 M post) : MtI ω yX9_back cX9_back 3 (some .int) 2 [.ref (adr ω 0), .int l1] M post := by
  refine MtI.start (ty := .int) rfl (by decide +kernel) (own := RX9) rfl (Nat.le_of_ble_eq_true rfl) (fun ρ C R => ?_)
  show G ω ρ M 0 [(0, .ref (adr ω 0)), (1, .int l1)] []
  refine G_iload_n C dX9_back_0 1 rfl ?_
  obtain ⟨h1, h2⟩ := h
  refine G_if_lt (tgt := 9) C dX9_back_1 (by decide) (fun c => ?_) (fun c => ?_)
  · have h := h1 c
    clear h1 h2
    refine G_iconst (v := (-1)) C dX9_back_9 (by decide) ?_
    exact R 10 _ _ _ dX9_back_10 rfl h
  · have h := h2 c
    clear h1 h2
    refine G_iload_n C dX9_back_4 1 rfl ?_
    refine G_iconst (v := 2) C dX9_back_5 (by decide) ?_
    obtain ⟨h1, h2⟩ := h
    refine G_icmp_lt (tgt := 11) C dX9_back_6 (by decide) (fun c => ?_) (fun c => ?_)
    · have h := h1 c
      clear h1 h2
      refine G_aload_n C dX9_back_11 0 rfl ?_
      refine gf_X9_56 C dX9_back_12 ?_
      refine G_iload_n C dX9_back_15 1 rfl ?_
      obtain ⟨hi, h⟩ := h
      refine G_aldImage C q74 hi dX9_back_16 (G_rname (fun g1 eg1 => ?_))
      replace h := h g1 eg1
      have hg1 := el_14 q74 hi eg1
      refine G_astore_n C dX9_back_17 (by decide) (lv' := [(2, .ref (adr ω g1)), (0, .ref (adr ω 0)), (1, .int l1)]) rfl ?_
      refine G_aload_n C dX9_back_18 0 rfl ?_
      refine gf_X9_105 C hg1 dX9_back_19 ?_
      obtain ⟨h1, h2⟩ := h
      refine G_if_ne (tgt := 28) C dX9_back_22 (by decide) (fun c => ?_) (fun c => ?_)
      · have h := h1 c
        clear h1 h2
        refine G_aload_n C dX9_back_28 1 rfl ?_
        refine gf_X9_10 C dX9_back_29 ?_
        refine G_aload_n C dX9_back_32 0 rfl ?_
        refine gf_X9_333 C hg1 dX9_back_33 ?_
        refine G_callV (As := [.ref (adr ω (g1 + 1))]) (rest := []) C dX9_back_36 lk_X9_97 (Nat.le_of_ble_eq_true rfl) (Nat.le_of_ble_eq_true rfl) q1 (by decide) rfl (Nat.le_of_ble_eq_true rfl) rfl (S_X1_copyFrom q1 (st_3_1 hg1) h) (fun M2 h => ?_)
        refine G_aload_n C dX9_back_39 1 rfl ?_
        refine gf_X9_19 C dX9_back_40 ?_
        refine G_aload_n C dX9_back_43 0 rfl ?_
        refine gf_X9_334 C hg1 dX9_back_44 ?_
        refine G_callV (As := [.ref (adr ω (g1 + 17))]) (rest := []) C dX9_back_47 lk_X9_102 (Nat.le_of_ble_eq_true rfl) (Nat.le_of_ble_eq_true rfl) q17 (by decide) rfl (Nat.le_of_ble_eq_true rfl) rfl (S_X5_copyFrom q17 (st_3_2 hg1) h) (fun M3 h => ?_)
        refine G_aload_n C dX9_back_50 1 rfl ?_
        refine gf_X9_10 C dX9_back_51 ?_
        refine gf_X9_118 C q1 dX9_back_54 ?_
        exact R 57 _ _ _ dX9_back_57 rfl h
      · have h := h2 c
        clear h1 h2
        refine G_bipush (v := (-2)) C dX9_back_25 (by decide) ?_
        exact R 27 _ _ _ dX9_back_27 rfl h
    · have h := h2 c
      clear h1 h2
      refine G_iconst (v := (-1)) C dX9_back_9 (by decide) ?_
      exact R 10 _ _ _ dX9_back_10 rfl h
theorem dX9_isSheet_0 : decode cX9_isSheet 0 = .ok (.iload_n 0, 1) := by decide +kernel
theorem dX9_isSheet_1 : decode cX9_isSheet 1 = .ok (.ifCond .lt 12, 3) := by decide +kernel
theorem dX9_isSheet_4 : decode cX9_isSheet 4 = .ok (.iload_n 0, 1) := by decide +kernel
theorem dX9_isSheet_5 : decode cX9_isSheet 5 = .ok (.iconst 4, 1) := by decide +kernel
theorem dX9_isSheet_6 : decode cX9_isSheet 6 = .ok (.if_icmp .ge 7, 3) := by decide +kernel
theorem dX9_isSheet_9 : decode cX9_isSheet 9 = .ok (.iconst 1, 1) := by decide +kernel
theorem dX9_isSheet_10 : decode cX9_isSheet 10 = .ok (.goto 4, 3) := by decide +kernel
theorem dX9_isSheet_13 : decode cX9_isSheet 13 = .ok (.iconst 0, 1) := by decide +kernel
theorem dX9_isSheet_14 : decode cX9_isSheet 14 = .ok (.ireturn, 1) := by decide +kernel
set_option maxRecDepth 100000 in
set_option maxHeartbeats 4000000 in
theorem S_X9_isSheet {ω : WD} {l0 : Int32} {M : Mem} {post : Int32 → Mem → Prop} (h : w_X9_isSheet l0 M post) : MtI ω yX9_isSheet cX9_isSheet 1 (some .boolean) 0 [.int l0] M post := by
  refine MtI.start (ty := .boolean) rfl (by decide +kernel) (own := RX9) rfl (Nat.le_of_ble_eq_true rfl) (fun ρ C R => ?_)
  show G ω ρ M 0 [(0, .int l0)] []
  refine G_iload_n C dX9_isSheet_0 0 rfl ?_
  obtain ⟨h1, h2⟩ := h
  refine G_if_lt (tgt := 13) C dX9_isSheet_1 (by decide) (fun c => ?_) (fun c => ?_)
  · have h := h1 c
    clear h1 h2
    refine G_iconst (v := 0) C dX9_isSheet_13 (by decide) ?_
    exact R 14 _ _ _ dX9_isSheet_14 rfl h
  · have h := h2 c
    clear h1 h2
    refine G_iload_n C dX9_isSheet_4 0 rfl ?_
    refine G_iconst (v := 4) C dX9_isSheet_5 (by decide) ?_
    obtain ⟨h1, h2⟩ := h
    refine G_icmp_ge (tgt := 13) C dX9_isSheet_6 (by decide) (fun c => ?_) (fun c => ?_)
    · have h := h1 c
      clear h1 h2
      refine G_iconst (v := 0) C dX9_isSheet_13 (by decide) ?_
      exact R 14 _ _ _ dX9_isSheet_14 rfl h
    · have h := h2 c
      clear h1 h2
      refine G_iconst (v := 1) C dX9_isSheet_9 (by decide) ?_
      refine G_goto (tgt := 14) C dX9_isSheet_10 (by decide) ?_
      exact R 14 _ _ _ dX9_isSheet_14 rfl h
theorem dX9_isLane_0 : decode cX9_isLane 0 = .ok (.iload_n 0, 1) := by decide +kernel
theorem dX9_isLane_1 : decode cX9_isLane 1 = .ok (.ifCond .lt 12, 3) := by decide +kernel
theorem dX9_isLane_4 : decode cX9_isLane 4 = .ok (.iload_n 0, 1) := by decide +kernel
theorem dX9_isLane_5 : decode cX9_isLane 5 = .ok (.iconst 2, 1) := by decide +kernel
theorem dX9_isLane_6 : decode cX9_isLane 6 = .ok (.if_icmp .gt 7, 3) := by decide +kernel
theorem dX9_isLane_9 : decode cX9_isLane 9 = .ok (.iconst 1, 1) := by decide +kernel
theorem dX9_isLane_10 : decode cX9_isLane 10 = .ok (.goto 4, 3) := by decide +kernel
theorem dX9_isLane_13 : decode cX9_isLane 13 = .ok (.iconst 0, 1) := by decide +kernel
theorem dX9_isLane_14 : decode cX9_isLane 14 = .ok (.ireturn, 1) := by decide +kernel
set_option maxRecDepth 100000 in
set_option maxHeartbeats 4000000 in
theorem S_X9_isLane {ω : WD} {l0 : Int32} {M : Mem} {post : Int32 → Mem → Prop} (h : w_X9_isLane l0 M post) : MtI ω yX9_isLane cX9_isLane 1 (some .boolean) 0 [.int l0] M post := by
  refine MtI.start (ty := .boolean) rfl (by decide +kernel) (own := RX9) rfl (Nat.le_of_ble_eq_true rfl) (fun ρ C R => ?_)
  show G ω ρ M 0 [(0, .int l0)] []
  refine G_iload_n C dX9_isLane_0 0 rfl ?_
  obtain ⟨h1, h2⟩ := h
  refine G_if_lt (tgt := 13) C dX9_isLane_1 (by decide) (fun c => ?_) (fun c => ?_)
  · have h := h1 c
    clear h1 h2
    refine G_iconst (v := 0) C dX9_isLane_13 (by decide) ?_
    exact R 14 _ _ _ dX9_isLane_14 rfl h
  · have h := h2 c
    clear h1 h2
    refine G_iload_n C dX9_isLane_4 0 rfl ?_
    refine G_iconst (v := 2) C dX9_isLane_5 (by decide) ?_
    obtain ⟨h1, h2⟩ := h
    refine G_icmp_gt (tgt := 13) C dX9_isLane_6 (by decide) (fun c => ?_) (fun c => ?_)
    · have h := h1 c
      clear h1 h2
      refine G_iconst (v := 0) C dX9_isLane_13 (by decide) ?_
      exact R 14 _ _ _ dX9_isLane_14 rfl h
    · have h := h2 c
      clear h1 h2
      refine G_iconst (v := 1) C dX9_isLane_9 (by decide) ?_
      refine G_goto (tgt := 14) C dX9_isLane_10 (by decide) ?_
      exact R 14 _ _ _ dX9_isLane_14 rfl h
theorem dX9_sheet_0 : decode cX9_sheet 0 = .ok (.iload_n 1, 1) := by decide +kernel
theorem dX9_sheet_1 : decode cX9_sheet 1 = .ok (.invokestatic 335, 3) := by decide +kernel
theorem dX9_sheet_4 : decode cX9_sheet 4 = .ok (.ifCond .eq 16, 3) := by decide +kernel
theorem dX9_sheet_7 : decode cX9_sheet 7 = .ok (.iload_n 2, 1) := by decide +kernel
theorem dX9_sheet_8 : decode cX9_sheet 8 = .ok (.invokestatic 338, 3) := by decide +kernel
theorem dX9_sheet_11 : decode cX9_sheet 11 = .ok (.ifCond .eq 9, 3) := by decide +kernel
theorem dX9_sheet_14 : decode cX9_sheet 14 = .ok (.iload_n 3, 1) := by decide +kernel
theorem dX9_sheet_15 : decode cX9_sheet 15 = .ok (.bipush 40, 2) := by decide +kernel
theorem dX9_sheet_17 : decode cX9_sheet 17 = .ok (.if_icmp .le 5, 3) := by decide +kernel
theorem dX9_sheet_20 : decode cX9_sheet 20 = .ok (.iconst (-1), 1) := by decide +kernel
theorem dX9_sheet_21 : decode cX9_sheet 21 = .ok (.ireturn, 1) := by decide +kernel
theorem dX9_sheet_22 : decode cX9_sheet 22 = .ok (.iload_n 3, 1) := by decide +kernel
theorem dX9_sheet_23 : decode cX9_sheet 23 = .ok (.ifCond .ge 6, 3) := by decide +kernel
theorem dX9_sheet_26 : decode cX9_sheet 26 = .ok (.bipush (-14), 2) := by decide +kernel
theorem dX9_sheet_28 : decode cX9_sheet 28 = .ok (.ireturn, 1) := by decide +kernel
theorem dX9_sheet_29 : decode cX9_sheet 29 = .ok (.aload_n 0, 1) := by decide +kernel
theorem dX9_sheet_30 : decode cX9_sheet 30 = .ok (.getfield 62, 3) := by decide +kernel
theorem dX9_sheet_33 : decode cX9_sheet 33 = .ok (.iload_n 1, 1) := by decide +kernel
theorem dX9_sheet_34 : decode cX9_sheet 34 = .ok (.aaload, 1) := by decide +kernel
theorem dX9_sheet_35 : decode cX9_sheet 35 = .ok (.iload_n 2, 1) := by decide +kernel
theorem dX9_sheet_36 : decode cX9_sheet 36 = .ok (.iload_n 3, 1) := by decide +kernel
theorem dX9_sheet_37 : decode cX9_sheet 37 = .ok (.invokevirtual 341, 3) := by decide +kernel
theorem dX9_sheet_40 : decode cX9_sheet 40 = .ok (.iconst 1, 1) := by decide +kernel
theorem dX9_sheet_41 : decode cX9_sheet 41 = .ok (.ireturn, 1) := by decide +kernel
theorem lk_X9_335 : LkS RX9 335 yX9_isSheet cX9_isSheet 1 (some .boolean) 1 := LkS.of 906 907 61 908 (by decide +kernel) (by decide +kernel) (by decide +kernel) (by decide +kernel) (by decide +kernel)
theorem lk_X9_338 : LkS RX9 338 yX9_isLane cX9_isLane 1 (some .boolean) 1 := LkS.of 909 910 61 911 (by decide +kernel) (by decide +kernel) (by decide +kernel) (by decide +kernel) (by decide +kernel)
theorem gf_X9_62 {ω : WD} {ρ : FR} {M : Mem} {cc : ByteArray} {d n pc : Nat} {lv : List (Nat × Value)} {rest : List Value} (C : Cx ω ρ cc RX9 d n) (hd : decode cc pc = .ok (.getfield 62, 3)) (k : G ω ρ M (pc + 3) lv (.ref (adr ω 75) :: rest)) : G ω ρ M pc lv (.ref (adr ω 0) :: rest) := G_get (N := 11) (T := TX9) (C := RX9) (q := 8) C (q0 : isK 9 0) (by decide) rfl in_X9 (by decide) (tb_of 380 ⟨by decide +kernel, rfl⟩) rfl rfl hd k
theorem lk_X9_341 : LkV RX9 341 RX6 yX6_renew cX6_renew 4 none 2 := LkV.of 912 913 914 70 915 (by decide +kernel) (by decide +kernel) (by decide +kernel) (by decide +kernel) (by decide +kernel) (by decide +kernel)
set_option maxRecDepth 100000 in
set_option maxHeartbeats 4000000 in
theorem S_X9_sheet {ω : WD} {l1 : Int32} {l2 : Int32} {l3 : Int32} {M : Mem} {post : Int32 → Mem → Prop} (h : w_X9_sheet l1 l2 l3 M post) : MtI ω yX9_sheet cX9_sheet 4 (some .int) 1 [.ref (adr ω 0), .int l1, .int l2, .int l3] M post := by
  refine MtI.start (ty := .int) rfl (by decide +kernel) (own := RX9) rfl (Nat.le_of_ble_eq_true rfl) (fun ρ C R => ?_)
  show G ω ρ M 0 [(0, .ref (adr ω 0)), (1, .int l1), (2, .int l2), (3, .int l3)] []
  refine G_iload_n C dX9_sheet_0 1 rfl ?_
  refine G_scallI (As := [.int l1]) (rest := []) C dX9_sheet_1 lk_X9_335 (Nat.le_of_ble_eq_true rfl) (Nat.le_of_ble_eq_true rfl) (Nat.le_of_ble_eq_true rfl) rfl (S_X9_isSheet h) (fun r2 M1 h => ?_)
  obtain ⟨h1, h2⟩ := h
  refine G_if_eq (tgt := 20) C dX9_sheet_4 (by decide) (fun c => ?_) (fun c => ?_)
  · have h := h1 c
    clear h1 h2
    refine G_iconst (v := (-1)) C dX9_sheet_20 (by decide) ?_
    exact R 21 _ _ _ dX9_sheet_21 rfl h
  · have h := h2 c
    clear h1 h2
    refine G_iload_n C dX9_sheet_7 2 rfl ?_
    refine G_scallI (As := [.int l2]) (rest := []) C dX9_sheet_8 lk_X9_338 (Nat.le_of_ble_eq_true rfl) (Nat.le_of_ble_eq_true rfl) (Nat.le_of_ble_eq_true rfl) rfl (S_X9_isLane h) (fun r4 M3 h => ?_)
    obtain ⟨h1, h2⟩ := h
    refine G_if_eq (tgt := 20) C dX9_sheet_11 (by decide) (fun c => ?_) (fun c => ?_)
    · have h := h1 c
      clear h1 h2
      refine G_iconst (v := (-1)) C dX9_sheet_20 (by decide) ?_
      exact R 21 _ _ _ dX9_sheet_21 rfl h
    · have h := h2 c
      clear h1 h2
      refine G_iload_n C dX9_sheet_14 3 rfl ?_
      refine G_bipush (v := 40) C dX9_sheet_15 (by decide) ?_
      obtain ⟨h1, h2⟩ := h
      refine G_icmp_le (tgt := 22) C dX9_sheet_17 (by decide) (fun c => ?_) (fun c => ?_)
      · have h := h1 c
        clear h1 h2
        refine G_iload_n C dX9_sheet_22 3 rfl ?_
        obtain ⟨h1, h2⟩ := h
        refine G_if_ge (tgt := 29) C dX9_sheet_23 (by decide) (fun c => ?_) (fun c => ?_)
        · have h := h1 c
          clear h1 h2
          refine G_aload_n C dX9_sheet_29 0 rfl ?_
          refine gf_X9_62 C dX9_sheet_30 ?_
          refine G_iload_n C dX9_sheet_33 1 rfl ?_
          obtain ⟨hi, h⟩ := h
          refine G_aldSheet C q75 hi dX9_sheet_34 (G_rname (fun g5 eg5 => ?_))
          replace h := h g5 eg5
          have hg5 := el_15 q75 hi eg5
          refine G_iload_n C dX9_sheet_35 2 rfl ?_
          refine G_iload_n C dX9_sheet_36 3 rfl ?_
          refine G_callV (As := [.int l2, .int l3]) (rest := []) C dX9_sheet_37 lk_X9_341 (Nat.le_of_ble_eq_true rfl) (Nat.le_of_ble_eq_true rfl) hg5 (by decide) rfl (Nat.le_of_ble_eq_true rfl) rfl (S_X6_renew hg5 h) (fun M6 h => ?_)
          refine G_iconst (v := 1) C dX9_sheet_40 (by decide) ?_
          exact R 41 _ _ _ dX9_sheet_41 rfl h
        · have h := h2 c
          clear h1 h2
          refine G_bipush (v := (-14)) C dX9_sheet_26 (by decide) ?_
          exact R 28 _ _ _ dX9_sheet_28 rfl h
      · have h := h2 c
        clear h1 h2
        refine G_iconst (v := (-1)) C dX9_sheet_20 (by decide) ?_
        exact R 21 _ _ _ dX9_sheet_21 rfl h
theorem dX9_lay_0 : decode cX9_lay 0 = .ok (.iload_n 1, 1) := by decide +kernel
theorem dX9_lay_1 : decode cX9_lay 1 = .ok (.invokestatic 335, 3) := by decide +kernel
theorem dX9_lay_4 : decode cX9_lay 4 = .ok (.ifCond .ne 5, 3) := by decide +kernel
theorem dX9_lay_7 : decode cX9_lay 7 = .ok (.iconst (-1), 1) := by decide +kernel
theorem dX9_lay_8 : decode cX9_lay 8 = .ok (.ireturn, 1) := by decide +kernel
theorem dX9_lay_9 : decode cX9_lay 9 = .ok (.aload_n 0, 1) := by decide +kernel
theorem dX9_lay_10 : decode cX9_lay 10 = .ok (.getfield 62, 3) := by decide +kernel
theorem dX9_lay_13 : decode cX9_lay 13 = .ok (.iload_n 1, 1) := by decide +kernel
theorem dX9_lay_14 : decode cX9_lay 14 = .ok (.aaload, 1) := by decide +kernel
theorem dX9_lay_15 : decode cX9_lay 15 = .ok (.astore 4, 2) := by decide +kernel
theorem dX9_lay_17 : decode cX9_lay 17 = .ok (.aload 4, 2) := by decide +kernel
theorem dX9_lay_19 : decode cX9_lay 19 = .ok (.getfield 344, 3) := by decide +kernel
theorem dX9_lay_22 : decode cX9_lay 22 = .ok (.bipush (-4), 2) := by decide +kernel
theorem dX9_lay_24 : decode cX9_lay 24 = .ok (.if_icmp .ne 6, 3) := by decide +kernel
theorem dX9_lay_27 : decode cX9_lay 27 = .ok (.bipush (-11), 2) := by decide +kernel
theorem dX9_lay_29 : decode cX9_lay 29 = .ok (.ireturn, 1) := by decide +kernel
theorem dX9_lay_30 : decode cX9_lay 30 = .ok (.aload 4, 2) := by decide +kernel
theorem dX9_lay_32 : decode cX9_lay 32 = .ok (.iload_n 2, 1) := by decide +kernel
theorem dX9_lay_33 : decode cX9_lay 33 = .ok (.i2l, 1) := by decide +kernel
theorem dX9_lay_34 : decode cX9_lay 34 = .ok (.invokevirtual 345, 3) := by decide +kernel
theorem dX9_lay_37 : decode cX9_lay 37 = .ok (.ifCond .ne 6, 3) := by decide +kernel
theorem dX9_lay_40 : decode cX9_lay 40 = .ok (.bipush (-12), 2) := by decide +kernel
theorem dX9_lay_42 : decode cX9_lay 42 = .ok (.ireturn, 1) := by decide +kernel
theorem dX9_lay_43 : decode cX9_lay 43 = .ok (.aload 4, 2) := by decide +kernel
theorem dX9_lay_45 : decode cX9_lay 45 = .ok (.getfield 348, 3) := by decide +kernel
theorem dX9_lay_48 : decode cX9_lay 48 = .ok (.iload_n 2, 1) := by decide +kernel
theorem dX9_lay_49 : decode cX9_lay 49 = .ok (.aload 4, 2) := by decide +kernel
theorem dX9_lay_51 : decode cX9_lay 51 = .ok (.iload_n 3, 1) := by decide +kernel
theorem dX9_lay_52 : decode cX9_lay 52 = .ok (.invokevirtual 351, 3) := by decide +kernel
theorem dX9_lay_55 : decode cX9_lay 55 = .ok (.iastore, 1) := by decide +kernel
theorem dX9_lay_56 : decode cX9_lay 56 = .ok (.iconst 1, 1) := by decide +kernel
theorem dX9_lay_57 : decode cX9_lay 57 = .ok (.ireturn, 1) := by decide +kernel
theorem gf_X9_344 {ω : WD} {ρ : FR} {M : Mem} {cc : ByteArray} {d n pc i : Nat} {lv : List (Nat × Value)} {rest : List Value} (C : Cx ω ρ cc RX9 d n) (hk : isK 6 i) (hd : decode cc pc = .ok (.getfield 344, 3)) (k : G ω ρ M (pc + 3) lv (.int (rd M i 1) :: rest)) : G ω ρ M pc lv (.ref (adr ω i) :: rest) := G_get (N := 3) (T := TX6) (C := RX6) (q := 1) C hk (by decide) rfl in_X6 (by decide) (tb_of 362 ⟨by decide +kernel, rfl⟩) rfl rfl hd k
theorem lk_X9_345 : LkV RX9 345 RX6 yX6_has cX6_has 3 (some .boolean) 1 := LkV.of 920 921 922 70 923 (by decide +kernel) (by decide +kernel) (by decide +kernel) (by decide +kernel) (by decide +kernel) (by decide +kernel)
theorem gf_X9_348 {ω : WD} {ρ : FR} {M : Mem} {cc : ByteArray} {d n pc i : Nat} {lv : List (Nat × Value)} {rest : List Value} (C : Cx ω ρ cc RX9 d n) (hk : isK 6 i) (hd : decode cc pc = .ok (.getfield 348, 3)) (k : G ω ρ M (pc + 3) lv (.ref (adr ω (i + 1)) :: rest)) : G ω ρ M pc lv (.ref (adr ω i) :: rest) := G_get (N := 3) (T := TX6) (C := RX6) (q := 2) C hk (by decide) rfl in_X6 (by decide) (tb_of 364 ⟨by decide +kernel, rfl⟩) rfl rfl hd k
theorem lk_X9_351 : LkV RX9 351 RX6 yX6_narrowed cX6_narrowed 2 (some .int) 1 := LkV.of 924 925 926 70 927 (by decide +kernel) (by decide +kernel) (by decide +kernel) (by decide +kernel) (by decide +kernel) (by decide +kernel)
set_option maxRecDepth 100000 in
set_option maxHeartbeats 4000000 in
theorem S_X9_lay {ω : WD} {l1 : Int32} {l2 : Int32} {l3 : Int32} {M : Mem} {post : Int32 → Mem → Prop} (h : w_X9_lay l1 l2 l3 M post) : MtI ω yX9_lay cX9_lay 5 (some .int) 1 [.ref (adr ω 0), .int l1, .int l2, .int l3] M post := by
  refine MtI.start (ty := .int) rfl (by decide +kernel) (own := RX9) rfl (Nat.le_of_ble_eq_true rfl) (fun ρ C R => ?_)
  show G ω ρ M 0 [(0, .ref (adr ω 0)), (1, .int l1), (2, .int l2), (3, .int l3)] []
  refine G_iload_n C dX9_lay_0 1 rfl ?_
  refine G_scallI (As := [.int l1]) (rest := []) C dX9_lay_1 lk_X9_335 (Nat.le_of_ble_eq_true rfl) (Nat.le_of_ble_eq_true rfl) (Nat.le_of_ble_eq_true rfl) rfl (S_X9_isSheet h) (fun r2 M1 h => ?_)
  obtain ⟨h1, h2⟩ := h
  refine G_if_ne (tgt := 9) C dX9_lay_4 (by decide) (fun c => ?_) (fun c => ?_)
  · have h := h1 c
    clear h1 h2
    refine G_aload_n C dX9_lay_9 0 rfl ?_
    refine gf_X9_62 C dX9_lay_10 ?_
    refine G_iload_n C dX9_lay_13 1 rfl ?_
    obtain ⟨hi, h⟩ := h
    refine G_aldSheet C q75 hi dX9_lay_14 (G_rname (fun g3 eg3 => ?_))
    replace h := h g3 eg3
    have hg3 := el_15 q75 hi eg3
    refine G_astore C dX9_lay_15 (by decide) (lv' := [(4, .ref (adr ω g3)), (0, .ref (adr ω 0)), (1, .int l1), (2, .int l2), (3, .int l3)]) rfl ?_
    refine G_aload C dX9_lay_17 0 rfl ?_
    refine gf_X9_344 C hg3 dX9_lay_19 ?_
    refine G_bipush (v := (-4)) C dX9_lay_22 (by decide) ?_
    obtain ⟨h1, h2⟩ := h
    refine G_icmp_ne (tgt := 30) C dX9_lay_24 (by decide) (fun c => ?_) (fun c => ?_)
    · have h := h1 c
      clear h1 h2
      refine G_aload C dX9_lay_30 0 rfl ?_
      refine G_iload_n C dX9_lay_32 3 rfl ?_
      refine G_i2l C dX9_lay_33 ?_
      refine G_callI (As := [.long ((l2).toInt64)]) (rest := []) C dX9_lay_34 lk_X9_345 (Nat.le_of_ble_eq_true rfl) (Nat.le_of_ble_eq_true rfl) hg3 (by decide) rfl (Nat.le_of_ble_eq_true rfl) rfl (S_X6_has hg3 h) (fun r5 M4 h => ?_)
      obtain ⟨h1, h2⟩ := h
      refine G_if_ne (tgt := 43) C dX9_lay_37 (by decide) (fun c => ?_) (fun c => ?_)
      · have h := h1 c
        clear h1 h2
        refine G_aload C dX9_lay_43 0 rfl ?_
        refine gf_X9_348 C hg3 dX9_lay_45 ?_
        refine G_iload_n C dX9_lay_48 3 rfl ?_
        refine G_aload C dX9_lay_49 0 rfl ?_
        refine G_iload_n C dX9_lay_51 4 rfl ?_
        refine G_callI (As := [.int l3]) (rest := [.int l2, .ref (adr ω (g3 + 1))]) C dX9_lay_52 lk_X9_351 (Nat.le_of_ble_eq_true rfl) (Nat.le_of_ble_eq_true rfl) hg3 (by decide) rfl (Nat.le_of_ble_eq_true rfl) rfl (S_X6_narrowed hg3 h) (fun r7 M6 h => ?_)
        obtain ⟨hi, h⟩ := h
        refine G_iast C (st_6_2 hg3) hi rfl dX9_lay_55 (G_mname (fun M8 eM8 => ?_))
        replace h := h M8 eM8
        refine G_iconst (v := 1) C dX9_lay_56 (by decide) ?_
        exact R 57 _ _ _ dX9_lay_57 rfl h
      · have h := h2 c
        clear h1 h2
        refine G_bipush (v := (-12)) C dX9_lay_40 (by decide) ?_
        exact R 42 _ _ _ dX9_lay_42 rfl h
    · have h := h2 c
      clear h1 h2
      refine G_bipush (v := (-11)) C dX9_lay_27 (by decide) ?_
      exact R 29 _ _ _ dX9_lay_29 rfl h
  · have h := h2 c
    clear h1 h2
    refine G_iconst (v := (-1)) C dX9_lay_7 (by decide) ?_
    exact R 8 _ _ _ dX9_lay_8 rfl h
theorem dX9_isRefused_0 : decode cX9_isRefused 0 = .ok (.iload_n 2, 1) := by decide +kernel
theorem dX9_isRefused_1 : decode cX9_isRefused 1 = .ok (.bipush 99, 2) := by decide +kernel
theorem dX9_isRefused_3 : decode cX9_isRefused 3 = .ok (.if_icmp .ne 17, 3) := by decide +kernel
theorem dX9_isRefused_6 : decode cX9_isRefused 6 = .ok (.aload_n 0, 1) := by decide +kernel
theorem dX9_isRefused_7 : decode cX9_isRefused 7 = .ok (.getfield 26, 3) := by decide +kernel
theorem dX9_isRefused_10 : decode cX9_isRefused 10 = .ok (.getfield 237, 3) := by decide +kernel
theorem dX9_isRefused_13 : decode cX9_isRefused 13 = .ok (.iload_n 1, 1) := by decide +kernel
theorem dX9_isRefused_14 : decode cX9_isRefused 14 = .ok (.invokestatic 221, 3) := by decide +kernel
theorem dX9_isRefused_17 : decode cX9_isRefused 17 = .ok (.goto 15, 3) := by decide +kernel
theorem dX9_isRefused_20 : decode cX9_isRefused 20 = .ok (.aload_n 0, 1) := by decide +kernel
theorem dX9_isRefused_21 : decode cX9_isRefused 21 = .ok (.getfield 26, 3) := by decide +kernel
theorem dX9_isRefused_24 : decode cX9_isRefused 24 = .ok (.getfield 237, 3) := by decide +kernel
theorem dX9_isRefused_27 : decode cX9_isRefused 27 = .ok (.iload_n 1, 1) := by decide +kernel
theorem dX9_isRefused_28 : decode cX9_isRefused 28 = .ok (.iload_n 2, 1) := by decide +kernel
theorem dX9_isRefused_29 : decode cX9_isRefused 29 = .ok (.invokestatic 217, 3) := by decide +kernel
theorem dX9_isRefused_32 : decode cX9_isRefused 32 = .ok (.istore_n 3, 1) := by decide +kernel
theorem dX9_isRefused_33 : decode cX9_isRefused 33 = .ok (.iload_n 3, 1) := by decide +kernel
theorem dX9_isRefused_34 : decode cX9_isRefused 34 = .ok (.ifCond .ge 7, 3) := by decide +kernel
theorem dX9_isRefused_37 : decode cX9_isRefused 37 = .ok (.iconst 1, 1) := by decide +kernel
theorem dX9_isRefused_38 : decode cX9_isRefused 38 = .ok (.goto 4, 3) := by decide +kernel
theorem dX9_isRefused_41 : decode cX9_isRefused 41 = .ok (.iconst 0, 1) := by decide +kernel
theorem dX9_isRefused_42 : decode cX9_isRefused 42 = .ok (.ireturn, 1) := by decide +kernel
set_option maxRecDepth 100000 in
set_option maxHeartbeats 4000000 in
theorem s_X9_isRefused_J32 {ω : WD} {ρ : FR} {post : Int32 → Mem → Prop} (C : Cx ω ρ cX9_isRefused RX9 4 4) (R : RtI ω ρ cX9_isRefused .boolean post) {s0 : Int32} {M : Mem} (h : w_X9_isRefused_J32 post s0 M) : G ω ρ M 32 [] [.int s0] := by
  refine G_istore_n C dX9_isRefused_32 (by decide) (lv' := [(3, .int s0)]) rfl ?_
  refine G_iload_n C dX9_isRefused_33 0 rfl ?_
  obtain ⟨h1, h2⟩ := h
  refine G_if_ge (tgt := 41) C dX9_isRefused_34 (by decide) (fun c => ?_) (fun c => ?_)
  · have h := h1 c
    clear h1 h2
    refine G_iconst (v := 0) C dX9_isRefused_41 (by decide) ?_
    exact R 42 _ _ _ dX9_isRefused_42 rfl h
  · have h := h2 c
    clear h1 h2
    refine G_iconst (v := 1) C dX9_isRefused_37 (by decide) ?_
    refine G_goto (tgt := 42) C dX9_isRefused_38 (by decide) ?_
    exact R 42 _ _ _ dX9_isRefused_42 rfl h
set_option maxRecDepth 100000 in
set_option maxHeartbeats 4000000 in
theorem S_X9_isRefused {ω : WD} {l1 : Int32} {l2 : Int32} {M : Mem} {post : Int32 → Mem → Prop} (h : w_X9_isRefused l1 l2 M post) : MtI ω yX9_isRefused cX9_isRefused 4 (some .boolean) 4 [.ref (adr ω 0), .int l1, .int l2] M post := by
  refine MtI.start (ty := .boolean) rfl (by decide +kernel) (own := RX9) rfl (Nat.le_of_ble_eq_true rfl) (fun ρ C R => ?_)
  show G ω ρ M 0 [(0, .ref (adr ω 0)), (1, .int l1), (2, .int l2)] []
  refine G_iload_n C dX9_isRefused_0 2 rfl ?_
  refine G_bipush (v := 99) C dX9_isRefused_1 (by decide) ?_
  obtain ⟨h1, h2⟩ := h
  refine G_icmp_ne (tgt := 20) C dX9_isRefused_3 (by decide) (fun c => ?_) (fun c => ?_)
  · have h := h1 c
    clear h1 h2
    refine G_aload_n C dX9_isRefused_20 0 rfl ?_
    refine gf_X9_26 C dX9_isRefused_21 ?_
    refine gf_X9_237 C dX9_isRefused_24 ?_
    refine G_iload_n C dX9_isRefused_27 1 rfl ?_
    refine G_iload_n C dX9_isRefused_28 2 rfl ?_
    refine G_scallI (As := [.ref (adr ω 23), .int l1, .int l2]) (rest := []) C dX9_isRefused_29 lk_X9_217 (Nat.le_of_ble_eq_true rfl) (Nat.le_of_ble_eq_true rfl) (Nat.le_of_ble_eq_true rfl) rfl (S_X9_dialIn q23 h) (fun r2 M1 h => ?_)
    refine G_sub [] (lv' := []) rfl ?_
    exact s_X9_isRefused_J32 C R  h
  · have h := h2 c
    clear h1 h2
    refine G_aload_n C dX9_isRefused_6 0 rfl ?_
    refine gf_X9_26 C dX9_isRefused_7 ?_
    refine gf_X9_237 C dX9_isRefused_10 ?_
    refine G_iload_n C dX9_isRefused_13 1 rfl ?_
    refine G_scallI (As := [.ref (adr ω 23), .int l1]) (rest := []) C dX9_isRefused_14 lk_X9_221 (Nat.le_of_ble_eq_true rfl) (Nat.le_of_ble_eq_true rfl) (Nat.le_of_ble_eq_true rfl) rfl (S_X9_hangIn q23 h) (fun r4 M3 h => ?_)
    refine G_goto (tgt := 32) C dX9_isRefused_17 (by decide) ?_
    refine G_sub [] (lv' := []) rfl ?_
    exact s_X9_isRefused_J32 C R  h
theorem dX9_read_0 : decode cX9_read 0 = .ok (.iload_n 1, 1) := by decide +kernel
theorem dX9_read_1 : decode cX9_read 1 = .ok (.invokestatic 335, 3) := by decide +kernel
theorem dX9_read_4 : decode cX9_read 4 = .ok (.ifCond .eq 22, 3) := by decide +kernel
theorem dX9_read_7 : decode cX9_read 7 = .ok (.iload_n 2, 1) := by decide +kernel
theorem dX9_read_8 : decode cX9_read 8 = .ok (.invokestatic 338, 3) := by decide +kernel
theorem dX9_read_11 : decode cX9_read 11 = .ok (.ifCond .eq 15, 3) := by decide +kernel
theorem dX9_read_14 : decode cX9_read 14 = .ok (.iload 4, 2) := by decide +kernel
theorem dX9_read_16 : decode cX9_read 16 = .ok (.ifCond .lt 10, 3) := by decide +kernel
theorem dX9_read_19 : decode cX9_read 19 = .ok (.iload 4, 2) := by decide +kernel
theorem dX9_read_21 : decode cX9_read 21 = .ok (.bipush 20, 2) := by decide +kernel
theorem dX9_read_23 : decode cX9_read 23 = .ok (.if_icmp .le 5, 3) := by decide +kernel
theorem dX9_read_26 : decode cX9_read 26 = .ok (.iconst (-1), 1) := by decide +kernel
theorem dX9_read_27 : decode cX9_read 27 = .ok (.ireturn, 1) := by decide +kernel
theorem dX9_read_28 : decode cX9_read 28 = .ok (.aload_n 0, 1) := by decide +kernel
theorem dX9_read_29 : decode cX9_read 29 = .ok (.getfield 62, 3) := by decide +kernel
theorem dX9_read_32 : decode cX9_read 32 = .ok (.iload_n 1, 1) := by decide +kernel
theorem dX9_read_33 : decode cX9_read 33 = .ok (.aaload, 1) := by decide +kernel
theorem dX9_read_34 : decode cX9_read 34 = .ok (.astore 5, 2) := by decide +kernel
theorem dX9_read_36 : decode cX9_read 36 = .ok (.iload 4, 2) := by decide +kernel
theorem dX9_read_38 : decode cX9_read 38 = .ok (.ifCond .ne 7, 3) := by decide +kernel
theorem dX9_read_41 : decode cX9_read 41 = .ok (.iconst 0, 1) := by decide +kernel
theorem dX9_read_42 : decode cX9_read 42 = .ok (.goto 9, 3) := by decide +kernel
theorem dX9_read_45 : decode cX9_read 45 = .ok (.aload 5, 2) := by decide +kernel
theorem dX9_read_47 : decode cX9_read 47 = .ok (.iload_n 2, 1) := by decide +kernel
theorem dX9_read_48 : decode cX9_read 48 = .ok (.invokevirtual 354, 3) := by decide +kernel
theorem dX9_read_51 : decode cX9_read 51 = .ok (.istore 6, 2) := by decide +kernel
theorem dX9_read_53 : decode cX9_read 53 = .ok (.aload_n 0, 1) := by decide +kernel
theorem dX9_read_54 : decode cX9_read 54 = .ok (.getfield 26, 3) := by decide +kernel
theorem dX9_read_57 : decode cX9_read 57 = .ok (.getfield 237, 3) := by decide +kernel
theorem dX9_read_60 : decode cX9_read 60 = .ok (.aload_n 0, 1) := by decide +kernel
theorem dX9_read_61 : decode cX9_read 61 = .ok (.getfield 10, 3) := by decide +kernel
theorem dX9_read_64 : decode cX9_read 64 = .ok (.invokevirtual 97, 3) := by decide +kernel
theorem dX9_read_67 : decode cX9_read 67 = .ok (.iconst 0, 1) := by decide +kernel
theorem dX9_read_68 : decode cX9_read 68 = .ok (.istore 7, 2) := by decide +kernel
theorem dX9_read_70 : decode cX9_read 70 = .ok (.iload 7, 2) := by decide +kernel
theorem dX9_read_72 : decode cX9_read 72 = .ok (.iload 4, 2) := by decide +kernel
theorem dX9_read_74 : decode cX9_read 74 = .ok (.if_icmp .ge 87, 3) := by decide +kernel
theorem dX9_read_77 : decode cX9_read 77 = .ok (.iload 6, 2) := by decide +kernel
theorem dX9_read_79 : decode cX9_read 79 = .ok (.ifCond .ne 82, 3) := by decide +kernel
theorem dX9_read_82 : decode cX9_read 82 = .ok (.iload_n 3, 1) := by decide +kernel
theorem dX9_read_83 : decode cX9_read 83 = .ok (.i2l, 1) := by decide +kernel
theorem dX9_read_84 : decode cX9_read 84 = .ok (.ldc2_w 357, 3) := by decide +kernel
theorem dX9_read_87 : decode cX9_read 87 = .ok (.iload 7, 2) := by decide +kernel
theorem dX9_read_89 : decode cX9_read 89 = .ok (.i2l, 1) := by decide +kernel
theorem dX9_read_90 : decode cX9_read 90 = .ok (.lmul, 1) := by decide +kernel
theorem dX9_read_91 : decode cX9_read 91 = .ok (.ladd, 1) := by decide +kernel
theorem dX9_read_92 : decode cX9_read 92 = .ok (.lstore 8, 2) := by decide +kernel
theorem dX9_read_94 : decode cX9_read 94 = .ok (.aload 5, 2) := by decide +kernel
theorem dX9_read_96 : decode cX9_read 96 = .ok (.lload 8, 2) := by decide +kernel
theorem dX9_read_98 : decode cX9_read 98 = .ok (.invokevirtual 345, 3) := by decide +kernel
theorem dX9_read_101 : decode cX9_read 101 = .ok (.ifCond .eq 15, 3) := by decide +kernel
theorem dX9_read_104 : decode cX9_read 104 = .ok (.aload 5, 2) := by decide +kernel
theorem dX9_read_106 : decode cX9_read 106 = .ok (.lload 8, 2) := by decide +kernel
theorem dX9_read_108 : decode cX9_read 108 = .ok (.lconst 1, 1) := by decide +kernel
theorem dX9_read_109 : decode cX9_read 109 = .ok (.ladd, 1) := by decide +kernel
theorem dX9_read_110 : decode cX9_read 110 = .ok (.invokevirtual 345, 3) := by decide +kernel
theorem dX9_read_113 : decode cX9_read 113 = .ok (.ifCond .ne 9, 3) := by decide +kernel
theorem dX9_read_116 : decode cX9_read 116 = .ok (.iconst 2, 1) := by decide +kernel
theorem dX9_read_117 : decode cX9_read 117 = .ok (.istore 6, 2) := by decide +kernel
theorem dX9_read_119 : decode cX9_read 119 = .ok (.goto 39, 3) := by decide +kernel
theorem dX9_read_122 : decode cX9_read 122 = .ok (.aload_n 0, 1) := by decide +kernel
theorem dX9_read_123 : decode cX9_read 123 = .ok (.aload 5, 2) := by decide +kernel
theorem dX9_read_125 : decode cX9_read 125 = .ok (.getfield 348, 3) := by decide +kernel
theorem dX9_read_128 : decode cX9_read 128 = .ok (.lload 8, 2) := by decide +kernel
theorem dX9_read_130 : decode cX9_read 130 = .ok (.l2i, 1) := by decide +kernel
theorem dX9_read_131 : decode cX9_read 131 = .ok (.iaload, 1) := by decide +kernel
theorem dX9_read_132 : decode cX9_read 132 = .ok (.aload 5, 2) := by decide +kernel
theorem dX9_read_134 : decode cX9_read 134 = .ok (.getfield 348, 3) := by decide +kernel
theorem dX9_read_137 : decode cX9_read 137 = .ok (.lload 8, 2) := by decide +kernel
theorem dX9_read_139 : decode cX9_read 139 = .ok (.l2i, 1) := by decide +kernel
theorem dX9_read_140 : decode cX9_read 140 = .ok (.iconst 1, 1) := by decide +kernel
theorem dX9_read_141 : decode cX9_read 141 = .ok (.iadd, 1) := by decide +kernel
theorem dX9_read_142 : decode cX9_read 142 = .ok (.iaload, 1) := by decide +kernel
theorem dX9_read_143 : decode cX9_read 143 = .ok (.invokevirtual 359, 3) := by decide +kernel
theorem dX9_read_146 : decode cX9_read 146 = .ok (.ifCond .eq 9, 3) := by decide +kernel
theorem dX9_read_149 : decode cX9_read 149 = .ok (.bipush (-20), 2) := by decide +kernel
theorem dX9_read_151 : decode cX9_read 151 = .ok (.iload 7, 2) := by decide +kernel
theorem dX9_read_153 : decode cX9_read 153 = .ok (.isub, 1) := by decide +kernel
theorem dX9_read_154 : decode cX9_read 154 = .ok (.ireturn, 1) := by decide +kernel
theorem dX9_read_155 : decode cX9_read 155 = .ok (.iinc 7 1, 3) := by decide +kernel
theorem dX9_read_158 : decode cX9_read 158 = .ok (.goto (-88), 3) := by decide +kernel
theorem dX9_read_161 : decode cX9_read 161 = .ok (.aload_n 0, 1) := by decide +kernel
theorem dX9_read_162 : decode cX9_read 162 = .ok (.getfield 10, 3) := by decide +kernel
theorem dX9_read_165 : decode cX9_read 165 = .ok (.aload_n 0, 1) := by decide +kernel
theorem dX9_read_166 : decode cX9_read 166 = .ok (.getfield 26, 3) := by decide +kernel
theorem dX9_read_169 : decode cX9_read 169 = .ok (.getfield 237, 3) := by decide +kernel
theorem dX9_read_172 : decode cX9_read 172 = .ok (.invokevirtual 97, 3) := by decide +kernel
theorem dX9_read_175 : decode cX9_read 175 = .ok (.aload_n 0, 1) := by decide +kernel
theorem dX9_read_176 : decode cX9_read 176 = .ok (.iload 6, 2) := by decide +kernel
theorem dX9_read_178 : decode cX9_read 178 = .ok (.putfield 70, 3) := by decide +kernel
theorem dX9_read_181 : decode cX9_read 181 = .ok (.iload 7, 2) := by decide +kernel
theorem dX9_read_183 : decode cX9_read 183 = .ok (.ireturn, 1) := by decide +kernel
theorem pf_X9_70 {ω : WD} {ρ : FR} {M : Mem} {cc : ByteArray} {d n pc : Nat} {lv : List (Nat × Value)} {rest : List Value} {v : Int32} (C : Cx ω ρ cc RX9 d n) (hd : decode cc pc = .ok (.putfield 70, 3)) (k : ∀ M1, M1 = wr M 0 10 v → G ω ρ M1 (pc + 3) lv rest) : G ω ρ M pc lv (.int v :: .ref (adr ω 0) :: rest) := G_put (N := 11) (T := TX9) (C := RX9) (q := 10) (ty := .int) C (q0 : isK 9 0) (by decide) rfl in_X9 tyX9 tyX9_ok nmX9 (by decide) (tb_of 382 ⟨by decide +kernel, rfl⟩) rfl rfl (by decide +kernel) rfl rfl (fun _ _ => Nat.le_of_ble_eq_true rfl) (fun _ => rfl) hd (k _ rfl)
theorem lk_X9_359 : LkV RX9 359 RX9 yX9_isRefused cX9_isRefused 4 (some .boolean) 2 := LkV.of 937 939 11 61 940 (by decide +kernel) (by decide +kernel) (by decide +kernel) (by decide +kernel) (by decide +kernel) (by decide +kernel)
theorem lk_X9_354 : LkV RX9 354 RX6 yX6_faultAs cX6_faultAs 2 (some .int) 1 := LkV.of 932 933 934 70 935 (by decide +kernel) (by decide +kernel) (by decide +kernel) (by decide +kernel) (by decide +kernel) (by decide +kernel)
set_option maxRecDepth 100000 in
set_option maxHeartbeats 4000000 in
theorem s_X9_read_J158 {ω : WD} {ρ : FR} {post : Int32 → Mem → Prop} (C : Cx ω ρ cX9_read RX9 5 10) (R : RtI ω ρ cX9_read .int post) {K70 : Int32 → Int32 → Mem → Prop} {l3 : Int32} {l4 : Int32} {l5 : Nat} {l6 : Int32} {l7 : Int32} (k70 : ∀ (u6 : Int32) (u7 : Int32) (M : Mem), K70 u6 u7 M → G ω ρ M 70 [(0, .ref (adr ω 0)), (3, .int l3), (4, .int l4), (5, .ref (adr ω l5)), (6, .int u6), (7, .int u7)] []) {M : Mem} (hl5 : isK 6 l5) (h : w_X9_read_J158 post K70 l3 l4 l5 l6 l7 M) : G ω ρ M 158 [(0, .ref (adr ω 0)), (3, .int l3), (4, .int l4), (5, .ref (adr ω l5)), (6, .int l6), (7, .int l7)] [] := by
  refine G_goto (tgt := 70) C dX9_read_158 (by decide) ?_
  exact k70 _ _ _ h
set_option maxRecDepth 100000 in
set_option maxHeartbeats 4000000 in
theorem s_X9_read_J116 {ω : WD} {ρ : FR} {post : Int32 → Mem → Prop} (C : Cx ω ρ cX9_read RX9 5 10) (R : RtI ω ρ cX9_read .int post) {K70 : Int32 → Int32 → Mem → Prop} {l3 : Int32} {l4 : Int32} {l5 : Nat} {l7 : Int32} (k70 : ∀ (u6 : Int32) (u7 : Int32) (M : Mem), K70 u6 u7 M → G ω ρ M 70 [(0, .ref (adr ω 0)), (3, .int l3), (4, .int l4), (5, .ref (adr ω l5)), (6, .int u6), (7, .int u7)] []) {M : Mem} (hl5 : isK 6 l5) (h : w_X9_read_J116 post K70 l3 l4 l5 l7 M) : G ω ρ M 116 [(0, .ref (adr ω 0)), (3, .int l3), (4, .int l4), (5, .ref (adr ω l5)), (7, .int l7)] [] := by
  refine G_iconst (v := 2) C dX9_read_116 (by decide) ?_
  refine G_istore C dX9_read_117 (by decide) (lv' := [(6, .int 2), (0, .ref (adr ω 0)), (3, .int l3), (4, .int l4), (5, .ref (adr ω l5)), (7, .int l7)]) rfl ?_
  refine G_goto (tgt := 158) C dX9_read_119 (by decide) ?_
  refine G_sub [1, 2, 3, 4, 0, 5] (lv' := [(0, .ref (adr ω 0)), (3, .int l3), (4, .int l4), (5, .ref (adr ω l5)), (6, .int 2), (7, .int l7)]) rfl ?_
  exact s_X9_read_J158 C R k70 hl5 h
set_option maxRecDepth 100000 in
set_option maxHeartbeats 4000000 in
theorem s_X9_read_J161 {ω : WD} {ρ : FR} {post : Int32 → Mem → Prop} (C : Cx ω ρ cX9_read RX9 5 10) (R : RtI ω ρ cX9_read .int post) {l6 : Int32} {l7 : Int32} {M : Mem} (h : w_X9_read_J161 post l6 l7 M) : G ω ρ M 161 [(0, .ref (adr ω 0)), (6, .int l6), (7, .int l7)] [] := by
  refine G_aload_n C dX9_read_161 0 rfl ?_
  refine gf_X9_10 C dX9_read_162 ?_
  refine G_aload_n C dX9_read_165 0 rfl ?_
  refine gf_X9_26 C dX9_read_166 ?_
  refine gf_X9_237 C dX9_read_169 ?_
  refine G_callV (As := [.ref (adr ω 23)]) (rest := []) C dX9_read_172 lk_X9_97 (Nat.le_of_ble_eq_true rfl) (Nat.le_of_ble_eq_true rfl) q1 (by decide) rfl (Nat.le_of_ble_eq_true rfl) rfl (S_X1_copyFrom q1 q23 h) (fun M1 h => ?_)
  refine G_aload_n C dX9_read_175 0 rfl ?_
  refine G_iload C dX9_read_176 1 rfl ?_
  refine pf_X9_70 C dX9_read_178 (fun M2 eM2 => ?_)
  replace h := h M2 eM2
  refine G_iload C dX9_read_181 2 rfl ?_
  exact R 183 _ _ _ dX9_read_183 rfl h
set_option maxRecDepth 100000 in
set_option maxHeartbeats 4000000 in
theorem s_X9_read_L70 {ω : WD} {ρ : FR} {post : Int32 → Mem → Prop} (C : Cx ω ρ cX9_read RX9 5 10) (R : RtI ω ρ cX9_read .int post) {l3 : Int32} {l4 : Int32} {l5 : Nat} (hl5 : isK 6 l5) : ∀ (f : Nat) (l6 : Int32) (l7 : Int32) (M : Mem), w_X9_read_L70 post l3 l4 l5 f l6 l7 M → G ω ρ M 70 [(0, .ref (adr ω 0)), (3, .int l3), (4, .int l4), (5, .ref (adr ω l5)), (6, .int l6), (7, .int l7)] [] := by
  intro f
  induction f with
  | zero => intro l6 l7 M h; exact False.elim h
  | succ f k70 =>
    intro l6 l7 M h
    refine G_iload C dX9_read_70 5 rfl ?_
    refine G_iload C dX9_read_72 2 rfl ?_
    obtain ⟨h1, h2⟩ := h
    refine G_icmp_ge (tgt := 161) C dX9_read_74 (by decide) (fun c => ?_) (fun c => ?_)
    · have h := h1 c
      clear h1 h2
      refine G_sub [0, 4, 5] (lv' := [(0, .ref (adr ω 0)), (6, .int l6), (7, .int l7)]) rfl ?_
      exact s_X9_read_J161 C R  h
    · have h := h2 c
      clear h1 h2
      refine G_iload C dX9_read_77 4 rfl ?_
      obtain ⟨h1, h2⟩ := h
      refine G_if_ne (tgt := 161) C dX9_read_79 (by decide) (fun c => ?_) (fun c => ?_)
      · have h := h1 c
        clear h1 h2
        refine G_sub [0, 4, 5] (lv' := [(0, .ref (adr ω 0)), (6, .int l6), (7, .int l7)]) rfl ?_
        exact s_X9_read_J161 C R  h
      · have h := h2 c
        clear h1 h2
        refine G_iload_n C dX9_read_82 1 rfl ?_
        refine G_i2l C dX9_read_83 ?_
        refine G_ldc2 (v := 2) C dX9_read_84 (tb_of 936 ⟨by decide +kernel, rfl⟩) ?_
        refine G_iload C dX9_read_87 5 rfl ?_
        refine G_i2l C dX9_read_89 ?_
        refine G_lmul C dX9_read_90 ?_
        refine G_ladd C dX9_read_91 ?_
        refine G_lname (fun v3 ev3 => ?_)
        replace h := h v3 ev3
        refine G_lstore C dX9_read_92 (by decide) (lv' := [(8, .long v3), (0, .ref (adr ω 0)), (3, .int l3), (4, .int l4), (5, .ref (adr ω l5)), (6, .int l6), (7, .int l7)]) rfl ?_
        refine G_aload C dX9_read_94 4 rfl ?_
        refine G_lload C dX9_read_96 0 rfl ?_
        refine G_callI (As := [.long v3]) (rest := []) C dX9_read_98 lk_X9_345 (Nat.le_of_ble_eq_true rfl) (Nat.le_of_ble_eq_true rfl) hl5 (by decide) rfl (Nat.le_of_ble_eq_true rfl) rfl (S_X6_has hl5 h) (fun r5 M4 h => ?_)
        obtain ⟨h1, h2⟩ := h
        refine G_if_eq (tgt := 116) C dX9_read_101 (by decide) (fun c => ?_) (fun c => ?_)
        · have h := h1 c
          clear h1 h2
          refine G_sub [1, 2, 3, 4, 6] (lv' := [(0, .ref (adr ω 0)), (3, .int l3), (4, .int l4), (5, .ref (adr ω l5)), (7, .int l7)]) rfl ?_
          exact s_X9_read_J116 C R k70 hl5 h
        · have h := h2 c
          clear h1 h2
          refine G_aload C dX9_read_104 4 rfl ?_
          refine G_lload C dX9_read_106 0 rfl ?_
          refine G_lconst (v := 1) C dX9_read_108 (by decide) ?_
          refine G_ladd C dX9_read_109 ?_
          refine G_callI (As := [.long (v3 + 1)]) (rest := []) C dX9_read_110 lk_X9_345 (Nat.le_of_ble_eq_true rfl) (Nat.le_of_ble_eq_true rfl) hl5 (by decide) rfl (Nat.le_of_ble_eq_true rfl) rfl (S_X6_has hl5 h) (fun r7 M6 h => ?_)
          obtain ⟨h1, h2⟩ := h
          refine G_if_ne (tgt := 122) C dX9_read_113 (by decide) (fun c => ?_) (fun c => ?_)
          · have h := h1 c
            clear h1 h2
            refine G_aload_n C dX9_read_122 1 rfl ?_
            refine G_aload C dX9_read_123 4 rfl ?_
            refine gf_X9_348 C hl5 dX9_read_125 ?_
            refine G_lload C dX9_read_128 0 rfl ?_
            refine G_l2i C dX9_read_130 ?_
            obtain ⟨hi, h⟩ := h
            refine G_iald C (st_6_2 hl5) hi rfl dX9_read_131 ?_
            refine G_aload C dX9_read_132 4 rfl ?_
            refine gf_X9_348 C hl5 dX9_read_134 ?_
            refine G_lload C dX9_read_137 0 rfl ?_
            refine G_l2i C dX9_read_139 ?_
            refine G_iconst (v := 1) C dX9_read_140 (by decide) ?_
            refine G_iadd C dX9_read_141 ?_
            obtain ⟨hi, h⟩ := h
            refine G_iald C (st_6_2 hl5) hi rfl dX9_read_142 ?_
            refine G_callI (As := [.int (rd M6 (l5 + 1) ((v3).toInt32).toNatClampNeg), .int (rd M6 (l5 + 1) (((v3).toInt32) + 1).toNatClampNeg)]) (rest := []) C dX9_read_143 lk_X9_359 (Nat.le_of_ble_eq_true rfl) (Nat.le_of_ble_eq_true rfl) q0 (by decide) rfl (Nat.le_of_ble_eq_true rfl) rfl (S_X9_isRefused h) (fun r9 M8 h => ?_)
            obtain ⟨h1, h2⟩ := h
            refine G_if_eq (tgt := 155) C dX9_read_146 (by decide) (fun c => ?_) (fun c => ?_)
            · have h := h1 c
              clear h1 h2
              obtain ⟨v10, ev10⟩ : ∃ y : Int32, y = (l7 + 1) := ⟨_, rfl⟩
              replace h := h v10 ev10
              refine G_iinc C dX9_read_155 6 rfl (v := v10) (by rw [ev10]; rfl) (by decide) (lv' := [(7, .int v10), (8, .long v3), (0, .ref (adr ω 0)), (3, .int l3), (4, .int l4), (5, .ref (adr ω l5)), (6, .int l6)]) rfl ?_
              refine G_sub [2, 3, 4, 5, 6, 0] (lv' := [(0, .ref (adr ω 0)), (3, .int l3), (4, .int l4), (5, .ref (adr ω l5)), (6, .int l6), (7, .int v10)]) rfl ?_
              exact s_X9_read_J158 C R k70 hl5 h
            · have h := h2 c
              clear h1 h2
              refine G_bipush (v := (-20)) C dX9_read_149 (by decide) ?_
              refine G_iload C dX9_read_151 6 rfl ?_
              refine G_isub C dX9_read_153 ?_
              exact R 154 _ _ _ dX9_read_154 rfl h
          · have h := h2 c
            clear h1 h2
            refine G_sub [1, 2, 3, 4, 6] (lv' := [(0, .ref (adr ω 0)), (3, .int l3), (4, .int l4), (5, .ref (adr ω l5)), (7, .int l7)]) rfl ?_
            exact s_X9_read_J116 C R k70 hl5 h
set_option maxRecDepth 100000 in
set_option maxHeartbeats 4000000 in
theorem s_X9_read_J51 {ω : WD} {ρ : FR} {post : Int32 → Mem → Prop} (C : Cx ω ρ cX9_read RX9 5 10) (R : RtI ω ρ cX9_read .int post) {l3 : Int32} {l4 : Int32} {l5 : Nat} {s0 : Int32} {M : Mem} (hl5 : isK 6 l5) (h : w_X9_read_J51 post l3 l4 l5 s0 M) : G ω ρ M 51 [(0, .ref (adr ω 0)), (3, .int l3), (4, .int l4), (5, .ref (adr ω l5))] [.int s0] := by
  refine G_istore C dX9_read_51 (by decide) (lv' := [(6, .int s0), (0, .ref (adr ω 0)), (3, .int l3), (4, .int l4), (5, .ref (adr ω l5))]) rfl ?_
  refine G_aload_n C dX9_read_53 1 rfl ?_
  refine gf_X9_26 C dX9_read_54 ?_
  refine gf_X9_237 C dX9_read_57 ?_
  refine G_aload_n C dX9_read_60 1 rfl ?_
  refine gf_X9_10 C dX9_read_61 ?_
  refine G_callV (As := [.ref (adr ω 1)]) (rest := []) C dX9_read_64 lk_X9_97 (Nat.le_of_ble_eq_true rfl) (Nat.le_of_ble_eq_true rfl) q23 (by decide) rfl (Nat.le_of_ble_eq_true rfl) rfl (S_X1_copyFrom q23 q1 h) (fun M11 h => ?_)
  refine G_iconst (v := 0) C dX9_read_67 (by decide) ?_
  refine G_istore C dX9_read_68 (by decide) (lv' := [(7, .int 0), (6, .int s0), (0, .ref (adr ω 0)), (3, .int l3), (4, .int l4), (5, .ref (adr ω l5))]) rfl ?_
  refine G_sub [2, 3, 4, 5, 1, 0] (lv' := [(0, .ref (adr ω 0)), (3, .int l3), (4, .int l4), (5, .ref (adr ω l5)), (6, .int s0), (7, .int 0)]) rfl ?_
  obtain ⟨f, h⟩ := h
  exact s_X9_read_L70 C R hl5 f _ _ _ h
set_option maxRecDepth 100000 in
set_option maxHeartbeats 4000000 in
theorem S_X9_read {ω : WD} {l1 : Int32} {l2 : Int32} {l3 : Int32} {l4 : Int32} {M : Mem} {post : Int32 → Mem → Prop} (h : w_X9_read l1 l2 l3 l4 M post) : MtI ω yX9_read cX9_read 10 (some .int) 5 [.ref (adr ω 0), .int l1, .int l2, .int l3, .int l4] M post := by
  refine MtI.start (ty := .int) rfl (by decide +kernel) (own := RX9) rfl (Nat.le_of_ble_eq_true rfl) (fun ρ C R => ?_)
  show G ω ρ M 0 [(0, .ref (adr ω 0)), (1, .int l1), (2, .int l2), (3, .int l3), (4, .int l4)] []
  refine G_iload_n C dX9_read_0 1 rfl ?_
  refine G_scallI (As := [.int l1]) (rest := []) C dX9_read_1 lk_X9_335 (Nat.le_of_ble_eq_true rfl) (Nat.le_of_ble_eq_true rfl) (Nat.le_of_ble_eq_true rfl) rfl (S_X9_isSheet h) (fun r13 M12 h => ?_)
  obtain ⟨h1, h2⟩ := h
  refine G_if_eq (tgt := 26) C dX9_read_4 (by decide) (fun c => ?_) (fun c => ?_)
  · have h := h1 c
    clear h1 h2
    refine G_iconst (v := (-1)) C dX9_read_26 (by decide) ?_
    exact R 27 _ _ _ dX9_read_27 rfl h
  · have h := h2 c
    clear h1 h2
    refine G_iload_n C dX9_read_7 2 rfl ?_
    refine G_scallI (As := [.int l2]) (rest := []) C dX9_read_8 lk_X9_338 (Nat.le_of_ble_eq_true rfl) (Nat.le_of_ble_eq_true rfl) (Nat.le_of_ble_eq_true rfl) rfl (S_X9_isLane h) (fun r15 M14 h => ?_)
    obtain ⟨h1, h2⟩ := h
    refine G_if_eq (tgt := 26) C dX9_read_11 (by decide) (fun c => ?_) (fun c => ?_)
    · have h := h1 c
      clear h1 h2
      refine G_iconst (v := (-1)) C dX9_read_26 (by decide) ?_
      exact R 27 _ _ _ dX9_read_27 rfl h
    · have h := h2 c
      clear h1 h2
      refine G_iload C dX9_read_14 4 rfl ?_
      obtain ⟨h1, h2⟩ := h
      refine G_if_lt (tgt := 26) C dX9_read_16 (by decide) (fun c => ?_) (fun c => ?_)
      · have h := h1 c
        clear h1 h2
        refine G_iconst (v := (-1)) C dX9_read_26 (by decide) ?_
        exact R 27 _ _ _ dX9_read_27 rfl h
      · have h := h2 c
        clear h1 h2
        refine G_iload C dX9_read_19 4 rfl ?_
        refine G_bipush (v := 20) C dX9_read_21 (by decide) ?_
        obtain ⟨h1, h2⟩ := h
        refine G_icmp_le (tgt := 28) C dX9_read_23 (by decide) (fun c => ?_) (fun c => ?_)
        · have h := h1 c
          clear h1 h2
          refine G_aload_n C dX9_read_28 0 rfl ?_
          refine gf_X9_62 C dX9_read_29 ?_
          refine G_iload_n C dX9_read_32 1 rfl ?_
          obtain ⟨hi, h⟩ := h
          refine G_aldSheet C q75 hi dX9_read_33 (G_rname (fun g16 eg16 => ?_))
          replace h := h g16 eg16
          have hg16 := el_15 q75 hi eg16
          refine G_astore C dX9_read_34 (by decide) (lv' := [(5, .ref (adr ω g16)), (0, .ref (adr ω 0)), (1, .int l1), (2, .int l2), (3, .int l3), (4, .int l4)]) rfl ?_
          refine G_iload C dX9_read_36 5 rfl ?_
          obtain ⟨h1, h2⟩ := h
          refine G_if_ne (tgt := 45) C dX9_read_38 (by decide) (fun c => ?_) (fun c => ?_)
          · have h := h1 c
            clear h1 h2
            refine G_aload C dX9_read_45 0 rfl ?_
            refine G_iload_n C dX9_read_47 3 rfl ?_
            refine G_callI (As := [.int l2]) (rest := []) C dX9_read_48 lk_X9_354 (Nat.le_of_ble_eq_true rfl) (Nat.le_of_ble_eq_true rfl) hg16 (by decide) rfl (Nat.le_of_ble_eq_true rfl) rfl (S_X6_faultAs hg16 h) (fun r18 M17 h => ?_)
            refine G_sub [1, 4, 5, 0] (lv' := [(0, .ref (adr ω 0)), (3, .int l3), (4, .int l4), (5, .ref (adr ω g16))]) rfl ?_
            exact s_X9_read_J51 C R hg16 h
          · have h := h2 c
            clear h1 h2
            refine G_iconst (v := 0) C dX9_read_41 (by decide) ?_
            refine G_goto (tgt := 51) C dX9_read_42 (by decide) ?_
            refine G_sub [1, 4, 5, 0] (lv' := [(0, .ref (adr ω 0)), (3, .int l3), (4, .int l4), (5, .ref (adr ω g16))]) rfl ?_
            exact s_X9_read_J51 C R hg16 h
        · have h := h2 c
          clear h1 h2
          refine G_iconst (v := (-1)) C dX9_read_26 (by decide) ?_
          exact R 27 _ _ _ dX9_read_27 rfl h
theorem dX9_torn_0 : decode cX9_torn 0 = .ok (.aload_n 0, 1) := by decide +kernel
theorem dX9_torn_1 : decode cX9_torn 1 = .ok (.getfield 70, 3) := by decide +kernel
theorem dX9_torn_4 : decode cX9_torn 4 = .ok (.ireturn, 1) := by decide +kernel
theorem gf_X9_70 {ω : WD} {ρ : FR} {M : Mem} {cc : ByteArray} {d n pc : Nat} {lv : List (Nat × Value)} {rest : List Value} (C : Cx ω ρ cc RX9 d n) (hd : decode cc pc = .ok (.getfield 70, 3)) (k : G ω ρ M (pc + 3) lv (.int (rd M 0 10) :: rest)) : G ω ρ M pc lv (.ref (adr ω 0) :: rest) := G_get (N := 11) (T := TX9) (C := RX9) (q := 10) C (q0 : isK 9 0) (by decide) rfl in_X9 (by decide) (tb_of 382 ⟨by decide +kernel, rfl⟩) rfl rfl hd k
set_option maxRecDepth 100000 in
set_option maxHeartbeats 4000000 in
theorem S_X9_torn {ω : WD} {M : Mem} {post : Int32 → Mem → Prop} (h : w_X9_torn M post) : MtI ω yX9_torn cX9_torn 1 (some .int) 0 [.ref (adr ω 0)] M post := by
  refine MtI.start (ty := .int) rfl (by decide +kernel) (own := RX9) rfl (Nat.le_of_ble_eq_true rfl) (fun ρ C R => ?_)
  show G ω ρ M 0 [(0, .ref (adr ω 0))] []
  refine G_aload_n C dX9_torn_0 0 rfl ?_
  refine gf_X9_70 C dX9_torn_1 ?_
  exact R 4 _ _ _ dX9_torn_4 rfl h
theorem dX9_countImages_0 : decode cX9_countImages 0 = .ok (.iconst 0, 1) := by decide +kernel
theorem dX9_countImages_1 : decode cX9_countImages 1 = .ok (.istore_n 1, 1) := by decide +kernel
theorem dX9_countImages_2 : decode cX9_countImages 2 = .ok (.iconst 0, 1) := by decide +kernel
theorem dX9_countImages_3 : decode cX9_countImages 3 = .ok (.istore_n 2, 1) := by decide +kernel
theorem dX9_countImages_4 : decode cX9_countImages 4 = .ok (.iload_n 2, 1) := by decide +kernel
theorem dX9_countImages_5 : decode cX9_countImages 5 = .ok (.iconst 2, 1) := by decide +kernel
theorem dX9_countImages_6 : decode cX9_countImages 6 = .ok (.if_icmp .ge 24, 3) := by decide +kernel
theorem dX9_countImages_9 : decode cX9_countImages 9 = .ok (.aload_n 0, 1) := by decide +kernel
theorem dX9_countImages_10 : decode cX9_countImages 10 = .ok (.getfield 56, 3) := by decide +kernel
theorem dX9_countImages_13 : decode cX9_countImages 13 = .ok (.iload_n 2, 1) := by decide +kernel
theorem dX9_countImages_14 : decode cX9_countImages 14 = .ok (.aaload, 1) := by decide +kernel
theorem dX9_countImages_15 : decode cX9_countImages 15 = .ok (.getfield 105, 3) := by decide +kernel
theorem dX9_countImages_18 : decode cX9_countImages 18 = .ok (.ifCond .eq 6, 3) := by decide +kernel
theorem dX9_countImages_21 : decode cX9_countImages 21 = .ok (.iinc 1 1, 3) := by decide +kernel
theorem dX9_countImages_24 : decode cX9_countImages 24 = .ok (.iinc 2 1, 3) := by decide +kernel
theorem dX9_countImages_27 : decode cX9_countImages 27 = .ok (.goto (-23), 3) := by decide +kernel
theorem dX9_countImages_30 : decode cX9_countImages 30 = .ok (.iload_n 1, 1) := by decide +kernel
theorem dX9_countImages_31 : decode cX9_countImages 31 = .ok (.ireturn, 1) := by decide +kernel
set_option maxRecDepth 100000 in
set_option maxHeartbeats 4000000 in
theorem s_X9_countImages_J24 {ω : WD} {ρ : FR} {post : Int32 → Mem → Prop} (C : Cx ω ρ cX9_countImages RX9 0 3) (R : RtI ω ρ cX9_countImages .int post) {K4 : Int32 → Int32 → Mem → Prop} {l1 : Int32} {l2 : Int32} (k4 : ∀ (u1 : Int32) (u2 : Int32) (M : Mem), K4 u1 u2 M → G ω ρ M 4 [(0, .ref (adr ω 0)), (1, .int u1), (2, .int u2)] []) {M : Mem} (h : w_X9_countImages_J24 post K4 l1 l2 M) : G ω ρ M 24 [(0, .ref (adr ω 0)), (1, .int l1), (2, .int l2)] [] := by
  obtain ⟨v1, ev1⟩ : ∃ y : Int32, y = (l2 + 1) := ⟨_, rfl⟩
  replace h := h v1 ev1
  refine G_iinc C dX9_countImages_24 2 rfl (v := v1) (by rw [ev1]; rfl) (by decide) (lv' := [(2, .int v1), (0, .ref (adr ω 0)), (1, .int l1)]) rfl ?_
  refine G_goto (tgt := 4) C dX9_countImages_27 (by decide) ?_
  refine G_sub [1, 2, 0] (lv' := [(0, .ref (adr ω 0)), (1, .int l1), (2, .int v1)]) rfl ?_
  exact k4 _ _ _ h
set_option maxRecDepth 100000 in
set_option maxHeartbeats 4000000 in
theorem s_X9_countImages_L4 {ω : WD} {ρ : FR} {post : Int32 → Mem → Prop} (C : Cx ω ρ cX9_countImages RX9 0 3) (R : RtI ω ρ cX9_countImages .int post) : ∀ (f : Nat) (l1 : Int32) (l2 : Int32) (M : Mem), w_X9_countImages_L4 post f l1 l2 M → G ω ρ M 4 [(0, .ref (adr ω 0)), (1, .int l1), (2, .int l2)] [] := by
  intro f
  induction f with
  | zero => intro l1 l2 M h; exact False.elim h
  | succ f k4 =>
    intro l1 l2 M h
    refine G_iload_n C dX9_countImages_4 2 rfl ?_
    refine G_iconst (v := 2) C dX9_countImages_5 (by decide) ?_
    obtain ⟨h1, h2⟩ := h
    refine G_icmp_ge (tgt := 30) C dX9_countImages_6 (by decide) (fun c => ?_) (fun c => ?_)
    · have h := h1 c
      clear h1 h2
      refine G_iload_n C dX9_countImages_30 1 rfl ?_
      exact R 31 _ _ _ dX9_countImages_31 rfl h
    · have h := h2 c
      clear h1 h2
      refine G_aload_n C dX9_countImages_9 0 rfl ?_
      refine gf_X9_56 C dX9_countImages_10 ?_
      refine G_iload_n C dX9_countImages_13 2 rfl ?_
      obtain ⟨hi, h⟩ := h
      refine G_aldImage C q74 hi dX9_countImages_14 (G_rname (fun g2 eg2 => ?_))
      replace h := h g2 eg2
      have hg2 := el_14 q74 hi eg2
      refine gf_X9_105 C hg2 dX9_countImages_15 ?_
      obtain ⟨h1, h2⟩ := h
      refine G_if_eq (tgt := 24) C dX9_countImages_18 (by decide) (fun c => ?_) (fun c => ?_)
      · have h := h1 c
        clear h1 h2
        exact s_X9_countImages_J24 C R k4 h
      · have h := h2 c
        clear h1 h2
        obtain ⟨v3, ev3⟩ : ∃ y : Int32, y = (l1 + 1) := ⟨_, rfl⟩
        replace h := h v3 ev3
        refine G_iinc C dX9_countImages_21 1 rfl (v := v3) (by rw [ev3]; rfl) (by decide) (lv' := [(1, .int v3), (0, .ref (adr ω 0)), (2, .int l2)]) rfl ?_
        refine G_sub [1, 0, 2] (lv' := [(0, .ref (adr ω 0)), (1, .int v3), (2, .int l2)]) rfl ?_
        exact s_X9_countImages_J24 C R k4 h
set_option maxRecDepth 100000 in
set_option maxHeartbeats 4000000 in
theorem S_X9_countImages {ω : WD} {M : Mem} {post : Int32 → Mem → Prop} (h : w_X9_countImages M post) : MtI ω yX9_countImages cX9_countImages 3 (some .int) 0 [.ref (adr ω 0)] M post := by
  refine MtI.start (ty := .int) rfl (by decide +kernel) (own := RX9) rfl (Nat.le_of_ble_eq_true rfl) (fun ρ C R => ?_)
  show G ω ρ M 0 [(0, .ref (adr ω 0))] []
  refine G_iconst (v := 0) C dX9_countImages_0 (by decide) ?_
  refine G_istore_n C dX9_countImages_1 (by decide) (lv' := [(1, .int 0), (0, .ref (adr ω 0))]) rfl ?_
  refine G_iconst (v := 0) C dX9_countImages_2 (by decide) ?_
  refine G_istore_n C dX9_countImages_3 (by decide) (lv' := [(2, .int 0), (1, .int 0), (0, .ref (adr ω 0))]) rfl ?_
  refine G_sub [2, 1, 0] (lv' := [(0, .ref (adr ω 0)), (1, .int 0), (2, .int 0)]) rfl ?_
  obtain ⟨f, h⟩ := h
  exact s_X9_countImages_L4 C R  f _ _ _ h
theorem dX9_count_0 : decode cX9_count 0 = .ok (.iload_n 1, 1) := by decide +kernel
theorem dX9_count_1 : decode cX9_count 1 = .ok (.tableswitch 86 0 5 #[39, 47, 52, 60, 70, 78], 39) := by decide +kernel
theorem dX9_count_40 : decode cX9_count 40 = .ok (.aload_n 0, 1) := by decide +kernel
theorem dX9_count_41 : decode cX9_count 41 = .ok (.getfield 19, 3) := by decide +kernel
theorem dX9_count_44 : decode cX9_count 44 = .ok (.getfield 302, 3) := by decide +kernel
theorem dX9_count_47 : decode cX9_count 47 = .ok (.ireturn, 1) := by decide +kernel
theorem dX9_count_48 : decode cX9_count 48 = .ok (.aload_n 0, 1) := by decide +kernel
theorem dX9_count_49 : decode cX9_count 49 = .ok (.invokevirtual 362, 3) := by decide +kernel
theorem dX9_count_52 : decode cX9_count 52 = .ok (.ireturn, 1) := by decide +kernel
theorem dX9_count_53 : decode cX9_count 53 = .ok (.aload_n 0, 1) := by decide +kernel
theorem dX9_count_54 : decode cX9_count 54 = .ok (.getfield 53, 3) := by decide +kernel
theorem dX9_count_57 : decode cX9_count 57 = .ok (.getfield 75, 3) := by decide +kernel
theorem dX9_count_60 : decode cX9_count 60 = .ok (.ireturn, 1) := by decide +kernel
theorem dX9_count_61 : decode cX9_count 61 = .ok (.aload_n 0, 1) := by decide +kernel
theorem dX9_count_62 : decode cX9_count 62 = .ok (.getfield 62, 3) := by decide +kernel
theorem dX9_count_65 : decode cX9_count 65 = .ok (.iconst 0, 1) := by decide +kernel
theorem dX9_count_66 : decode cX9_count 66 = .ok (.aaload, 1) := by decide +kernel
theorem dX9_count_67 : decode cX9_count 67 = .ok (.getfield 344, 3) := by decide +kernel
theorem dX9_count_70 : decode cX9_count 70 = .ok (.ireturn, 1) := by decide +kernel
theorem dX9_count_71 : decode cX9_count 71 = .ok (.aload_n 0, 1) := by decide +kernel
theorem dX9_count_72 : decode cX9_count 72 = .ok (.getfield 10, 3) := by decide +kernel
theorem dX9_count_75 : decode cX9_count 75 = .ok (.invokevirtual 365, 3) := by decide +kernel
theorem dX9_count_78 : decode cX9_count 78 = .ok (.ireturn, 1) := by decide +kernel
theorem dX9_count_79 : decode cX9_count 79 = .ok (.aload_n 0, 1) := by decide +kernel
theorem dX9_count_80 : decode cX9_count 80 = .ok (.getfield 10, 3) := by decide +kernel
theorem dX9_count_83 : decode cX9_count 83 = .ok (.invokevirtual 368, 3) := by decide +kernel
theorem dX9_count_86 : decode cX9_count 86 = .ok (.ireturn, 1) := by decide +kernel
theorem dX9_count_87 : decode cX9_count 87 = .ok (.iconst (-1), 1) := by decide +kernel
theorem dX9_count_88 : decode cX9_count 88 = .ok (.ireturn, 1) := by decide +kernel
theorem lk_X9_362 : LkV RX9 362 RX9 yX9_countImages cX9_countImages 3 (some .int) 0 := LkV.of 949 951 12 61 952 (by decide +kernel) (by decide +kernel) (by decide +kernel) (by decide +kernel) (by decide +kernel) (by decide +kernel)
theorem lk_X9_365 : LkV RX9 365 RX1 yX1_allWays cX1_allWays 3 (some .int) 0 := LkV.of 953 954 955 62 956 (by decide +kernel) (by decide +kernel) (by decide +kernel) (by decide +kernel) (by decide +kernel) (by decide +kernel)
theorem lk_X9_368 : LkV RX9 368 RX1 yX1_allDead cX1_allDead 3 (some .int) 0 := LkV.of 957 958 959 62 960 (by decide +kernel) (by decide +kernel) (by decide +kernel) (by decide +kernel) (by decide +kernel) (by decide +kernel)
set_option maxRecDepth 100000 in
set_option maxHeartbeats 4000000 in
theorem S_X9_count {ω : WD} {l1 : Int32} {M : Mem} {post : Int32 → Mem → Prop} (h : w_X9_count l1 M post) : MtI ω yX9_count cX9_count 2 (some .int) 2 [.ref (adr ω 0), .int l1] M post := by
  refine MtI.start (ty := .int) rfl (by decide +kernel) (own := RX9) rfl (Nat.le_of_ble_eq_true rfl) (fun ρ C R => ?_)
  show G ω ρ M 0 [(0, .ref (adr ω 0)), (1, .int l1)] []
  refine G_iload_n C dX9_count_0 1 rfl ?_
  obtain ⟨h0, h1, h2, h3, h4, h5, h6⟩ := h
  by_cases cd : (l1).toInt < 0 ∨ 5 < (l1).toInt
  · have h := h6 cd
    clear h0 h1 h2 h3 h4 h5 h6
    refine G_tableOut (tgt := 87) C dX9_count_1 cd (by decide) ?_
    refine G_iconst (v := (-1)) C dX9_count_87 (by decide) ?_
    exact R 88 _ _ _ dX9_count_88 rfl h
  · have cs : (l1).toInt = 0 ∨ (l1).toInt = 1 ∨ (l1).toInt = 2 ∨ (l1).toInt = 3 ∨ (l1).toInt = 4 ∨ (l1).toInt = 5 := by omega
    rcases cs with cs | cs | cs | cs | cs | cs
    · have h := h0 ((sw_toInt cs).trans (by decide))
      clear h0 h1 h2 h3 h4 h5 h6
      refine G_tableIn (tgt := 40) C dX9_count_1 (by omega) (by omega) (by rw [cs]; rfl) (by decide) ?_
      refine G_aload_n C dX9_count_40 0 rfl ?_
      refine gf_X9_19 C dX9_count_41 ?_
      refine gf_X9_302 C q17 dX9_count_44 ?_
      exact R 47 _ _ _ dX9_count_47 rfl h
    · have h := h1 ((sw_toInt cs).trans (by decide))
      clear h0 h1 h2 h3 h4 h5 h6
      refine G_tableIn (tgt := 48) C dX9_count_1 (by omega) (by omega) (by rw [cs]; rfl) (by decide) ?_
      refine G_aload_n C dX9_count_48 0 rfl ?_
      refine G_callI (As := []) (rest := []) C dX9_count_49 lk_X9_362 (Nat.le_of_ble_eq_true rfl) (Nat.le_of_ble_eq_true rfl) q0 (by decide) rfl (Nat.le_of_ble_eq_true rfl) rfl (S_X9_countImages h) (fun r2 M1 h => ?_)
      exact R 52 _ _ _ dX9_count_52 rfl h
    · have h := h2 ((sw_toInt cs).trans (by decide))
      clear h0 h1 h2 h3 h4 h5 h6
      refine G_tableIn (tgt := 53) C dX9_count_1 (by omega) (by omega) (by rw [cs]; rfl) (by decide) ?_
      refine G_aload_n C dX9_count_53 0 rfl ?_
      refine gf_X9_53 C dX9_count_54 ?_
      refine gf_X9_75 C dX9_count_57 ?_
      exact R 60 _ _ _ dX9_count_60 rfl h
    · have h := h3 ((sw_toInt cs).trans (by decide))
      clear h0 h1 h2 h3 h4 h5 h6
      refine G_tableIn (tgt := 61) C dX9_count_1 (by omega) (by omega) (by rw [cs]; rfl) (by decide) ?_
      refine G_aload_n C dX9_count_61 0 rfl ?_
      refine gf_X9_62 C dX9_count_62 ?_
      refine G_iconst (v := 0) C dX9_count_65 (by decide) ?_
      obtain ⟨hi, h⟩ := h
      refine G_aldSheet C q75 hi dX9_count_66 (G_rname (fun g3 eg3 => ?_))
      replace h := h g3 eg3
      have hg3 := el_15 q75 hi eg3
      refine gf_X9_344 C hg3 dX9_count_67 ?_
      exact R 70 _ _ _ dX9_count_70 rfl h
    · have h := h4 ((sw_toInt cs).trans (by decide))
      clear h0 h1 h2 h3 h4 h5 h6
      refine G_tableIn (tgt := 71) C dX9_count_1 (by omega) (by omega) (by rw [cs]; rfl) (by decide) ?_
      refine G_aload_n C dX9_count_71 0 rfl ?_
      refine gf_X9_10 C dX9_count_72 ?_
      refine G_callI (As := []) (rest := []) C dX9_count_75 lk_X9_365 (Nat.le_of_ble_eq_true rfl) (Nat.le_of_ble_eq_true rfl) q1 (by decide) rfl (Nat.le_of_ble_eq_true rfl) rfl (S_X1_allWays q1 h) (fun r5 M4 h => ?_)
      exact R 78 _ _ _ dX9_count_78 rfl h
    · have h := h5 ((sw_toInt cs).trans (by decide))
      clear h0 h1 h2 h3 h4 h5 h6
      refine G_tableIn (tgt := 79) C dX9_count_1 (by omega) (by omega) (by rw [cs]; rfl) (by decide) ?_
      refine G_aload_n C dX9_count_79 0 rfl ?_
      refine gf_X9_10 C dX9_count_80 ?_
      refine G_callI (As := []) (rest := []) C dX9_count_83 lk_X9_368 (Nat.le_of_ble_eq_true rfl) (Nat.le_of_ble_eq_true rfl) q1 (by decide) rfl (Nat.le_of_ble_eq_true rfl) rfl (S_X1_allDead q1 h) (fun r7 M6 h => ?_)
      exact R 86 _ _ _ dX9_count_86 rfl h
