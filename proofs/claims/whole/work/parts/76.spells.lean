theorem dJ0_coder_7d493_0 : decode cJ0_coder_7d493 0 = .ok (.getstatic 38, 3) := by decide +kernel
theorem dJ0_coder_7d493_3 : decode cJ0_coder_7d493 3 = .ok (.ifCond .eq 10, 3) := by decide +kernel
theorem dJ0_coder_7d493_6 : decode cJ0_coder_7d493 6 = .ok (.aload_n 0, 1) := by decide +kernel
theorem dJ0_coder_7d493_7 : decode cJ0_coder_7d493 7 = .ok (.getfield 15, 3) := by decide +kernel
theorem dJ0_coder_7d493_10 : decode cJ0_coder_7d493 10 = .ok (.goto 4, 3) := by decide +kernel
theorem dJ0_coder_7d493_13 : decode cJ0_coder_7d493 13 = .ok (.iconst 1, 1) := by decide +kernel
theorem dJ0_coder_7d493_14 : decode cJ0_coder_7d493 14 = .ok (.ireturn, 1) := by decide +kernel
theorem dJ0_isLatin1_aae02_0 : decode cJ0_isLatin1_aae02 0 = .ok (.getstatic 38, 3) := by decide +kernel
theorem dJ0_isLatin1_aae02_3 : decode cJ0_isLatin1_aae02 3 = .ok (.ifCond .eq 14, 3) := by decide +kernel
theorem dJ0_isLatin1_aae02_6 : decode cJ0_isLatin1_aae02 6 = .ok (.aload_n 0, 1) := by decide +kernel
theorem dJ0_isLatin1_aae02_7 : decode cJ0_isLatin1_aae02 7 = .ok (.getfield 15, 3) := by decide +kernel
theorem dJ0_isLatin1_aae02_10 : decode cJ0_isLatin1_aae02 10 = .ok (.ifCond .ne 7, 3) := by decide +kernel
theorem dJ0_isLatin1_aae02_13 : decode cJ0_isLatin1_aae02 13 = .ok (.iconst 1, 1) := by decide +kernel
theorem dJ0_isLatin1_aae02_14 : decode cJ0_isLatin1_aae02 14 = .ok (.goto 4, 3) := by decide +kernel
theorem dJ0_isLatin1_aae02_17 : decode cJ0_isLatin1_aae02 17 = .ok (.iconst 0, 1) := by decide +kernel
theorem dJ0_isLatin1_aae02_18 : decode cJ0_isLatin1_aae02 18 = .ok (.ireturn, 1) := by decide +kernel
theorem dJ0_length_8abf5_0 : decode cJ0_length_8abf5 0 = .ok (.aload_n 0, 1) := by decide +kernel
theorem dJ0_length_8abf5_1 : decode cJ0_length_8abf5 1 = .ok (.getfield 9, 3) := by decide +kernel
theorem dJ0_length_8abf5_4 : decode cJ0_length_8abf5 4 = .ok (.arraylength, 1) := by decide +kernel
theorem dJ0_length_8abf5_5 : decode cJ0_length_8abf5 5 = .ok (.aload_n 0, 1) := by decide +kernel
theorem dJ0_length_8abf5_6 : decode cJ0_length_8abf5 6 = .ok (.invokevirtual 335, 3) := by decide +kernel
theorem dJ0_length_8abf5_9 : decode cJ0_length_8abf5 9 = .ok (.ishr, 1) := by decide +kernel
theorem dJ0_length_8abf5_10 : decode cJ0_length_8abf5 10 = .ok (.ireturn, 1) := by decide +kernel
theorem dJ3_checkIndex_8e157_0 : decode cJ3_checkIndex_8e157 0 = .ok (.iload_n 0, 1) := by decide +kernel
theorem dJ3_checkIndex_8e157_1 : decode cJ3_checkIndex_8e157 1 = .ok (.ifCond .lt 8, 3) := by decide +kernel
theorem dJ3_checkIndex_8e157_4 : decode cJ3_checkIndex_8e157 4 = .ok (.iload_n 0, 1) := by decide +kernel
theorem dJ3_checkIndex_8e157_5 : decode cJ3_checkIndex_8e157 5 = .ok (.iload_n 1, 1) := by decide +kernel
theorem dJ3_checkIndex_8e157_6 : decode cJ3_checkIndex_8e157 6 = .ok (.if_icmp .lt 10, 3) := by decide +kernel
theorem dJ3_checkIndex_8e157_9 : decode cJ3_checkIndex_8e157 9 = .ok (.aload_n 2, 1) := by decide +kernel
theorem dJ3_checkIndex_8e157_10 : decode cJ3_checkIndex_8e157 10 = .ok (.iload_n 0, 1) := by decide +kernel
theorem dJ3_checkIndex_8e157_11 : decode cJ3_checkIndex_8e157 11 = .ok (.iload_n 1, 1) := by decide +kernel
theorem dJ3_checkIndex_8e157_12 : decode cJ3_checkIndex_8e157 12 = .ok (.invokestatic 95, 3) := by decide +kernel
theorem dJ3_checkIndex_8e157_15 : decode cJ3_checkIndex_8e157 15 = .ok (.athrow, 1) := by decide +kernel
theorem dJ3_checkIndex_8e157_16 : decode cJ3_checkIndex_8e157 16 = .ok (.iload_n 0, 1) := by decide +kernel
theorem dJ3_checkIndex_8e157_17 : decode cJ3_checkIndex_8e157 17 = .ok (.ireturn, 1) := by decide +kernel
theorem dJ0_checkIndex_df160_0 : decode cJ0_checkIndex_df160 0 = .ok (.iload_n 0, 1) := by decide +kernel
theorem dJ0_checkIndex_df160_1 : decode cJ0_checkIndex_df160 1 = .ok (.iload_n 1, 1) := by decide +kernel
theorem dJ0_checkIndex_df160_2 : decode cJ0_checkIndex_df160 2 = .ok (.getstatic 1053, 3) := by decide +kernel
theorem dJ0_checkIndex_df160_5 : decode cJ0_checkIndex_df160 5 = .ok (.invokestatic 1059, 3) := by decide +kernel
theorem dJ0_checkIndex_df160_8 : decode cJ0_checkIndex_df160 8 = .ok (.pop, 1) := by decide +kernel
theorem dJ0_checkIndex_df160_9 : decode cJ0_checkIndex_df160 9 = .ok (.return_, 1) := by decide +kernel
theorem dJ1_charAt_3b067_0 : decode cJ1_charAt_3b067 0 = .ok (.iload_n 1, 1) := by decide +kernel
theorem dJ1_charAt_3b067_1 : decode cJ1_charAt_3b067 1 = .ok (.aload_n 0, 1) := by decide +kernel
theorem dJ1_charAt_3b067_2 : decode cJ1_charAt_3b067 2 = .ok (.arraylength, 1) := by decide +kernel
theorem dJ1_charAt_3b067_3 : decode cJ1_charAt_3b067 3 = .ok (.invokestatic 9, 3) := by decide +kernel
theorem dJ1_charAt_3b067_6 : decode cJ1_charAt_3b067 6 = .ok (.aload_n 0, 1) := by decide +kernel
theorem dJ1_charAt_3b067_7 : decode cJ1_charAt_3b067 7 = .ok (.iload_n 1, 1) := by decide +kernel
theorem dJ1_charAt_3b067_8 : decode cJ1_charAt_3b067 8 = .ok (.baload, 1) := by decide +kernel
theorem dJ1_charAt_3b067_9 : decode cJ1_charAt_3b067 9 = .ok (.sipush 255, 3) := by decide +kernel
theorem dJ1_charAt_3b067_12 : decode cJ1_charAt_3b067 12 = .ok (.iand, 1) := by decide +kernel
theorem dJ1_charAt_3b067_13 : decode cJ1_charAt_3b067 13 = .ok (.i2c, 1) := by decide +kernel
theorem dJ1_charAt_3b067_14 : decode cJ1_charAt_3b067 14 = .ok (.ireturn, 1) := by decide +kernel
theorem dJ0_charAt_5068e_0 : decode cJ0_charAt_5068e 0 = .ok (.aload_n 0, 1) := by decide +kernel
theorem dJ0_charAt_5068e_1 : decode cJ0_charAt_5068e 1 = .ok (.invokevirtual 492, 3) := by decide +kernel
theorem dJ0_charAt_5068e_4 : decode cJ0_charAt_5068e 4 = .ok (.ifCond .eq 12, 3) := by decide +kernel
theorem dJ0_charAt_5068e_7 : decode cJ0_charAt_5068e 7 = .ok (.aload_n 0, 1) := by decide +kernel
theorem dJ0_charAt_5068e_8 : decode cJ0_charAt_5068e 8 = .ok (.getfield 9, 3) := by decide +kernel
theorem dJ0_charAt_5068e_11 : decode cJ0_charAt_5068e 11 = .ok (.iload_n 1, 1) := by decide +kernel
theorem dJ0_charAt_5068e_12 : decode cJ0_charAt_5068e 12 = .ok (.invokestatic 495, 3) := by decide +kernel
theorem dJ0_charAt_5068e_15 : decode cJ0_charAt_5068e 15 = .ok (.ireturn, 1) := by decide +kernel
theorem dJ0_charAt_5068e_16 : decode cJ0_charAt_5068e 16 = .ok (.aload_n 0, 1) := by decide +kernel
theorem dJ0_charAt_5068e_17 : decode cJ0_charAt_5068e 17 = .ok (.getfield 9, 3) := by decide +kernel
theorem dJ0_charAt_5068e_20 : decode cJ0_charAt_5068e 20 = .ok (.iload_n 1, 1) := by decide +kernel
theorem dJ0_charAt_5068e_21 : decode cJ0_charAt_5068e 21 = .ok (.invokestatic 498, 3) := by decide +kernel
theorem dJ0_charAt_5068e_24 : decode cJ0_charAt_5068e 24 = .ok (.ireturn, 1) := by decide +kernel
theorem dX7_spells_0 : decode cX7_spells 0 = .ok (.aload_n 0, 1) := by decide +kernel
theorem dX7_spells_1 : decode cX7_spells 1 = .ok (.getfield 25, 3) := by decide +kernel
theorem dX7_spells_4 : decode cX7_spells 4 = .ok (.aload_n 0, 1) := by decide +kernel
theorem dX7_spells_5 : decode cX7_spells 5 = .ok (.getfield 22, 3) := by decide +kernel
theorem dX7_spells_8 : decode cX7_spells 8 = .ok (.isub, 1) := by decide +kernel
theorem dX7_spells_9 : decode cX7_spells 9 = .ok (.aload_n 1, 1) := by decide +kernel
theorem dX7_spells_10 : decode cX7_spells 10 = .ok (.invokevirtual 38, 3) := by decide +kernel
theorem dX7_spells_13 : decode cX7_spells 13 = .ok (.if_icmp .eq 5, 3) := by decide +kernel
theorem dX7_spells_16 : decode cX7_spells 16 = .ok (.iconst 0, 1) := by decide +kernel
theorem dX7_spells_17 : decode cX7_spells 17 = .ok (.ireturn, 1) := by decide +kernel
theorem dX7_spells_18 : decode cX7_spells 18 = .ok (.iconst 0, 1) := by decide +kernel
theorem dX7_spells_19 : decode cX7_spells 19 = .ok (.istore_n 2, 1) := by decide +kernel
theorem dX7_spells_20 : decode cX7_spells 20 = .ok (.iload_n 2, 1) := by decide +kernel
theorem dX7_spells_21 : decode cX7_spells 21 = .ok (.aload_n 1, 1) := by decide +kernel
theorem dX7_spells_22 : decode cX7_spells 22 = .ok (.invokevirtual 38, 3) := by decide +kernel
theorem dX7_spells_25 : decode cX7_spells 25 = .ok (.if_icmp .ge 30, 3) := by decide +kernel
theorem dX7_spells_28 : decode cX7_spells 28 = .ok (.aload_n 0, 1) := by decide +kernel
theorem dX7_spells_29 : decode cX7_spells 29 = .ok (.getfield 9, 3) := by decide +kernel
theorem dX7_spells_32 : decode cX7_spells 32 = .ok (.aload_n 0, 1) := by decide +kernel
theorem dX7_spells_33 : decode cX7_spells 33 = .ok (.getfield 22, 3) := by decide +kernel
theorem dX7_spells_36 : decode cX7_spells 36 = .ok (.iload_n 2, 1) := by decide +kernel
theorem dX7_spells_37 : decode cX7_spells 37 = .ok (.iadd, 1) := by decide +kernel
theorem dX7_spells_38 : decode cX7_spells 38 = .ok (.iaload, 1) := by decide +kernel
theorem dX7_spells_39 : decode cX7_spells 39 = .ok (.aload_n 1, 1) := by decide +kernel
theorem dX7_spells_40 : decode cX7_spells 40 = .ok (.iload_n 2, 1) := by decide +kernel
theorem dX7_spells_41 : decode cX7_spells 41 = .ok (.invokevirtual 43, 3) := by decide +kernel
theorem dX7_spells_44 : decode cX7_spells 44 = .ok (.if_icmp .eq 5, 3) := by decide +kernel
theorem dX7_spells_47 : decode cX7_spells 47 = .ok (.iconst 0, 1) := by decide +kernel
theorem dX7_spells_48 : decode cX7_spells 48 = .ok (.ireturn, 1) := by decide +kernel
theorem dX7_spells_49 : decode cX7_spells 49 = .ok (.iinc 2 1, 3) := by decide +kernel
theorem dX7_spells_52 : decode cX7_spells 52 = .ok (.goto (-32), 3) := by decide +kernel
theorem dX7_spells_55 : decode cX7_spells 55 = .ok (.iconst 1, 1) := by decide +kernel
theorem dX7_spells_56 : decode cX7_spells 56 = .ok (.ireturn, 1) := by decide +kernel
theorem lk_J0_335 : LkV RJ0 335 RJ0 yJ0_coder_7d493 cJ0_coder_7d493 1 (some .byte) 0 := LkV.of 483 484 485 72 486 (by decide +kernel) (by decide +kernel) (by decide +kernel) (by decide +kernel) (by decide +kernel) (by decide +kernel)
theorem lk_J0_492 : LkV RJ0 492 RJ0 yJ0_isLatin1_aae02 cJ0_isLatin1_aae02 1 (some .boolean) 0 := LkV.of 493 494 495 72 496 (by decide +kernel) (by decide +kernel) (by decide +kernel) (by decide +kernel) (by decide +kernel) (by decide +kernel)
theorem lk_J0_495 : LkS RJ0 495 yJ1_charAt_3b067 cJ1_charAt_3b067 2 (some .char) 2 := LkS.of 497 498 73 499 (by decide +kernel) (by decide +kernel) (by decide +kernel) (by decide +kernel) (by decide +kernel)
theorem lk_J1_9 : LkS RJ1 9 yJ0_checkIndex_df160 cJ0_checkIndex_df160 2 none 2 := LkS.of 500 501 72 502 (by decide +kernel) (by decide +kernel) (by decide +kernel) (by decide +kernel) (by decide +kernel)
theorem lk_J0_1059 : LkS RJ0 1059 yJ3_checkIndex_8e157 cJ3_checkIndex_8e157 3 (some .int) 3 := LkS.of 505 506 74 507 (by decide +kernel) (by decide +kernel) (by decide +kernel) (by decide +kernel) (by decide +kernel)
theorem lk_X7_38 : LkV RX7 38 RJ0 yJ0_length_8abf5 cJ0_length_8abf5 1 (some .int) 0 := LkV.of 479 480 481 72 482 (by decide +kernel) (by decide +kernel) (by decide +kernel) (by decide +kernel) (by decide +kernel) (by decide +kernel)
theorem lk_X7_43 : LkV RX7 43 RJ0 yJ0_charAt_5068e cJ0_charAt_5068e 2 (some .char) 1 := LkV.of 489 490 491 72 492 (by decide +kernel) (by decide +kernel) (by decide +kernel) (by decide +kernel) (by decide +kernel) (by decide +kernel)

abbrev sK (ω : WD) (k : Nat) : Nat := ω.2.2.2.2.1 k
abbrev sV (ω : WD) (k : Nat) : Nat := ω.2.2.2.2.2 k
section GS
variable {ω : WD} {ρ : FR} {M : Mem} {cc : ByteArray} {own : String} {d n pc idx n' d' k : Nat} {lv : List (Nat × Value)} {As rest st : List Value} {y : MethodName} {bytes : ByteArray} {ret : Option FieldType}
theorem G_ldcS {j : Nat} (K : Cx ω ρ cc own d n) (ho : own = "StepCalls$Reader") (hd : decode cc pc = .ok (.ldc idx, 2)) (hj : j < 7) (hi : sxI.getD j 0 = idx) (k : G ω ρ M (pc + 2) lv (.ref (ω.2.2.2.2.1 j) :: rest)) : G ω ρ M pc lv rest := fun ls H locs h hP hS => by
  subst ho
  subst hi
  exact va_ldcS K.1 K.2.1 K.2.2.2.1 (K.2.2.2.2.2.2.2.2.2.1.2.2.1 j hj) hd (k ls H locs h hP hS)
theorem G_gets {C nm ds : String} {v : Value} (K : Cx ω ρ cc own d n) (hZ : va_Z C nm ds v (gA ω ρ.2.1.1.heap.size) ρ.2.1.1 ρ.2.1.1.heap) (hl : Cond.fieldLink own idx C nm ds ∈ TB) (hd : decode cc pc = .ok (.getstatic idx, 3)) (k : G ω ρ M (pc + 3) lv (v :: rest)) : G ω ρ M pc lv rest := fun ls H locs h hP hS =>
  va_gets K.1 K.2.1 hZ hS K.2.2.2.1 (K.2.2.2.2.1 _ hl) (fun x hx => hx) hd (k ls H locs h hP hS)
theorem G_scod (K : Cx ω ρ cc own d n) (hk : k < 7) (hl : Cond.fieldLink own idx "java/lang/String" "coder" "B" ∈ TB) (hd : decode cc pc = .ok (.getfield idx, 3)) (kk : G ω ρ M (pc + 3) lv (.int 0 :: rest)) : G ω ρ M pc lv (.ref (sK ω k) :: rest) := fun ls H locs h hP hS =>
  vk_getf K.1 K.2.1 (K.2.2.2.2.2.2.2.2.2.1.2.2.2.1.1 k hk).2.1 hS K.2.2.2.1 (K.2.2.2.2.1 _ hl) (fun x hx => hx) hd (kk ls H locs h hP hS)
theorem G_sval (K : Cx ω ρ cc own d n) (hk : k < 7) (hl : Cond.fieldLink own idx "java/lang/String" "value" "[B" ∈ TB) (hd : decode cc pc = .ok (.getfield idx, 3)) (kk : G ω ρ M (pc + 3) lv (.ref (sV ω k) :: rest)) : G ω ρ M pc lv (.ref (sK ω k) :: rest) := fun ls H locs h hP hS =>
  vk_getf K.1 K.2.1 (K.2.2.2.2.2.2.2.2.2.1.2.2.2.1.1 k hk).2.2.1 hS K.2.2.2.1 (K.2.2.2.2.1 _ hl) (fun x hx => hx) hd (kk ls H locs h hP hS)
theorem G_slen (K : Cx ω ρ cc own d n) (hk : k < 7) (hd : decode cc pc = .ok (.arraylength, 1)) (kk : G ω ρ M (pc + 1) lv (.int (Int32.ofNat (lenS.getD k 0)) :: rest)) : G ω ρ M pc lv (.ref (sV ω k) :: rest) := fun ls H locs h hP hS =>
  va_tlen K.1 K.2.1 (K.2.2.2.2.2.2.2.2.2.1.2.2.2.1.1 k hk).2.2.2 hS rfl hd (kk ls H locs h hP hS)
theorem G_sbald {i : Int32} (K : Cx ω ρ cc own d n) (hk : k < 7) (hi : vp_in i (lenS.getD k 0)) (hd : decode cc pc = .ok (.baload, 1)) (kk : G ω ρ M (pc + 1) lv (.int ((bytS.getD k []).getD i.toNatClampNeg 0) :: rest)) : G ω ρ M pc lv (.int i :: .ref (sV ω k) :: rest) := fun ls H locs h hP hS =>
  va_tb K.1 K.2.1 (K.2.2.2.2.2.2.2.2.2.1.2.2.2.1.1 k hk).2.2.2 hS hi rfl hd (kk ls H locs h hP hS)
theorem G_callIS {post : Int32 → Mem → Prop} (K : Cx ω ρ cc own d n) (hd : decode cc pc = .ok (.invokevirtual idx, 3)) (Lk : LkV own idx RJ0 y bytes n' ret As.length) (h1 : d' + 1 ≤ d) (h2 : n' ≤ 17) (hk : k < 7) (hcat : (rest.map fun v => v.category).sum ≤ 8) (hst : st = As.reverse ++ .ref (sK ω k) :: rest) (hm : MtI ω y bytes n' ret d' (.ref (sK ω k) :: As) M post) (kk : ∀ (r : Int32) (M' : Mem), post r M' → G ω ρ M' (pc + 3) lv (.int r :: rest)) : G ω ρ M pc lv st := fun ls H locs h hP hS =>
  va_calli (va_runV (Ts := TB) ⟨K.1, K.2.1, K.2.2.1, K.2.2.2.1, K.2.2.2.2.1⟩ (hm H.size) (cwV (ws := .code y bytes n' ret :: TB) As.length K.2.2.2.2.1 (lk_good Lk.1) rfl rfl rfl Lk.2 (room_of K h1 h2))
    ⟨blindM, vk_recv K.2.2.2.2.2.2.2.2.2.1.2.2.2.1 hk hS, fun U hU hW => preM_of K hP hS U hU hW _⟩ rfl rfl (h.1.trans K.2.2.2.2.2.2.2.2.2.2) hst (lv_room hcat) hd ⟨K.2.2.2.2.2.2.2.2.1.1, K.2.2.2.2.2.2.2.2.1.2⟩) hS (fun q _ hq => gA_in hS.1 hq) (fun q hq => gA_in hS.1 hq) (fun r u t H1 locs1 ht _ hp hB _ _ hS1 => kk r u hp ls H1 locs1 h (by rw [← ht]; exact hB) hS1)
end GS

set_option maxRecDepth 100000 in
set_option maxHeartbeats 4000000 in
theorem S_J0_coder_7d493 {ω : WD} {M : Mem} {post : Int32 → Mem → Prop} {k : Nat} (hk : k < 7) (h : post 0 M) : MtI ω yJ0_coder_7d493 cJ0_coder_7d493 1 (some .byte) 0 [.ref (sK ω k)] M post := by
  refine MtI.start (ty := .byte) rfl (by decide +kernel) (own := RJ0) rfl (Nat.le_of_ble_eq_true rfl) (fun ρ C R => ?_)
  show G ω ρ M 0 [(0, .ref (sK ω k))] []
  refine G_gets C C.2.2.2.2.2.2.2.2.2.1.2.2.2.2.1 (tb_of 487 ⟨by decide +kernel, rfl⟩) dJ0_coder_7d493_0 ?_
  refine G_if_eq (tgt := 13) C dJ0_coder_7d493_3 (by decide) (fun c => absurd c (by decide)) (fun _ => ?_)
  refine G_aload_n C dJ0_coder_7d493_6 0 rfl ?_
  refine G_scod C hk (tb_of 1459 ⟨by decide +kernel, rfl⟩) dJ0_coder_7d493_7 ?_
  refine G_goto (tgt := 14) C dJ0_coder_7d493_10 (by decide) ?_
  exact R 14 _ _ _ dJ0_coder_7d493_14 rfl h
set_option maxRecDepth 100000 in
set_option maxHeartbeats 4000000 in
theorem S_J0_isLatin1_aae02 {ω : WD} {M : Mem} {post : Int32 → Mem → Prop} {k : Nat} (hk : k < 7) (h : post 1 M) : MtI ω yJ0_isLatin1_aae02 cJ0_isLatin1_aae02 1 (some .boolean) 0 [.ref (sK ω k)] M post := by
  refine MtI.start (ty := .boolean) rfl (by decide +kernel) (own := RJ0) rfl (Nat.le_of_ble_eq_true rfl) (fun ρ C R => ?_)
  show G ω ρ M 0 [(0, .ref (sK ω k))] []
  refine G_gets C C.2.2.2.2.2.2.2.2.2.1.2.2.2.2.1 (tb_of 487 ⟨by decide +kernel, rfl⟩) dJ0_isLatin1_aae02_0 ?_
  refine G_if_eq (tgt := 17) C dJ0_isLatin1_aae02_3 (by decide) (fun c => absurd c (by decide)) (fun _ => ?_)
  refine G_aload_n C dJ0_isLatin1_aae02_6 0 rfl ?_
  refine G_scod C hk (tb_of 1459 ⟨by decide +kernel, rfl⟩) dJ0_isLatin1_aae02_7 ?_
  refine G_if_ne (tgt := 17) C dJ0_isLatin1_aae02_10 (by decide) (fun c => absurd rfl c) (fun _ => ?_)
  refine G_iconst (v := 1) C dJ0_isLatin1_aae02_13 (by decide) ?_
  refine G_goto (tgt := 18) C dJ0_isLatin1_aae02_14 (by decide) ?_
  exact R 18 _ _ _ dJ0_isLatin1_aae02_18 rfl h
set_option maxRecDepth 100000 in
set_option maxHeartbeats 4000000 in
theorem S_J0_length_8abf5 {ω : WD} {M : Mem} {post : Int32 → Mem → Prop} {k : Nat} (hk : k < 7) (h : post (Int32.ofNat (lenS.getD k 0)) M) : MtI ω yJ0_length_8abf5 cJ0_length_8abf5 1 (some .int) 1 [.ref (sK ω k)] M post := by
  refine MtI.start (ty := .int) rfl (by decide +kernel) (own := RJ0) rfl (Nat.le_of_ble_eq_true rfl) (fun ρ C R => ?_)
  show G ω ρ M 0 [(0, .ref (sK ω k))] []
  refine G_aload_n C dJ0_length_8abf5_0 0 rfl ?_
  refine G_sval C hk (tb_of 1458 ⟨by decide +kernel, rfl⟩) dJ0_length_8abf5_1 ?_
  refine G_slen C hk dJ0_length_8abf5_4 ?_
  refine G_aload_n C dJ0_length_8abf5_5 0 rfl ?_
  refine G_callIS (As := []) (rest := [.int (Int32.ofNat (lenS.getD k 0))]) C dJ0_length_8abf5_6 lk_J0_335 (Nat.le_of_ble_eq_true rfl) (Nat.le_of_ble_eq_true rfl) hk (Nat.le_of_ble_eq_true rfl) rfl (S_J0_coder_7d493 (post := fun r M' => r = 0 ∧ M' = M) hk ⟨rfl, rfl⟩) (fun r M1 hr => ?_)
  obtain ⟨rfl, rfl⟩ := hr
  refine G_ishr C dJ0_length_8abf5_9 ?_
  refine R 10 _ _ _ dJ0_length_8abf5_10 rfl ?_
  have e : ∀ k, k < 7 → (Int32.ofNat (lenS.getD k 0)) >>> ((0 : Int32) &&& 31) = Int32.ofNat (lenS.getD k 0) := by decide +kernel
  rw [e k hk]
  exact h
set_option maxRecDepth 100000 in
set_option maxHeartbeats 4000000 in
theorem S_J3_checkIndex_8e157 {ω : WD} {M : Mem} {post : Int32 → Mem → Prop} {i n : Int32} {v : Value} (hv : v = .null ∨ ∃ t, v = .ref t) (h0 : ¬ i < 0) (h1 : i < n) (h : post i M) : MtI ω yJ3_checkIndex_8e157 cJ3_checkIndex_8e157 3 (some .int) 0 [.int i, .int n, v] M post := by
  rcases hv with rfl | ⟨t, rfl⟩
  · refine MtI.start (ty := .int) rfl (by decide +kernel) (own := RJ3) rfl (Nat.le_of_ble_eq_true rfl) (fun ρ C R => ?_)
    show G ω ρ M 0 [(0, .int i), (1, .int n), (2, .null)] []
    refine G_iload_n C dJ3_checkIndex_8e157_0 0 rfl ?_
    refine G_if_lt (tgt := 9) C dJ3_checkIndex_8e157_1 (by decide) (fun c => absurd c h0) (fun _ => ?_)
    refine G_iload_n C dJ3_checkIndex_8e157_4 0 rfl ?_
    refine G_iload_n C dJ3_checkIndex_8e157_5 1 rfl ?_
    refine G_icmp_lt (tgt := 16) C dJ3_checkIndex_8e157_6 (by decide) (fun _ => ?_) (fun c => absurd h1 c)
    refine G_iload_n C dJ3_checkIndex_8e157_16 0 rfl ?_
    exact R 17 _ _ _ dJ3_checkIndex_8e157_17 rfl h
  · refine MtI.start (ty := .int) rfl (by decide +kernel) (own := RJ3) rfl (Nat.le_of_ble_eq_true rfl) (fun ρ C R => ?_)
    show G ω ρ M 0 [(0, .int i), (1, .int n), (2, .ref t)] []
    refine G_iload_n C dJ3_checkIndex_8e157_0 0 rfl ?_
    refine G_if_lt (tgt := 9) C dJ3_checkIndex_8e157_1 (by decide) (fun c => absurd c h0) (fun _ => ?_)
    refine G_iload_n C dJ3_checkIndex_8e157_4 0 rfl ?_
    refine G_iload_n C dJ3_checkIndex_8e157_5 1 rfl ?_
    refine G_icmp_lt (tgt := 16) C dJ3_checkIndex_8e157_6 (by decide) (fun _ => ?_) (fun c => absurd h1 c)
    refine G_iload_n C dJ3_checkIndex_8e157_16 0 rfl ?_
    exact R 17 _ _ _ dJ3_checkIndex_8e157_17 rfl h
set_option maxRecDepth 100000 in
set_option maxHeartbeats 4000000 in
theorem S_J0_checkIndex_df160 {ω : WD} {M : Mem} {post : Mem → Prop} {i n : Int32} (h0 : ¬ i < 0) (h1 : i < n) (h : post M) : MtV ω yJ0_checkIndex_df160 cJ0_checkIndex_df160 2 none 1 [.int i, .int n] M post := by
  refine MtV.start rfl (by decide +kernel) (own := RJ0) rfl (Nat.le_of_ble_eq_true rfl) (fun ρ C R => ?_)
  show G ω ρ M 0 [(0, .int i), (1, .int n)] []
  refine G_iload_n C dJ0_checkIndex_df160_0 0 rfl ?_
  refine G_iload_n C dJ0_checkIndex_df160_1 1 rfl ?_
  have hq := C.2.2.2.2.2.2.2.2.2.1.2.2.2.2.2
  have key : ∀ v : Value, (v = .null ∨ ∃ t, v = .ref t) → G ω ρ M 5 [(0, .int i), (1, .int n)] [v, .int n, .int i] := fun v hv => by
    refine G_scallI (As := [.int i, .int n, v]) (rest := []) C dJ0_checkIndex_df160_5 lk_J0_1059 (Nat.le_of_ble_eq_true rfl) (Nat.le_of_ble_eq_true rfl) (Nat.le_of_ble_eq_true rfl) rfl (S_J3_checkIndex_8e157 (post := fun r M' => M' = M) hv h0 h1 rfl) (fun r M1 hr => ?_)
    subst hr
    refine G_pop C dJ0_checkIndex_df160_8 rfl ?_
    exact R 9 _ _ dJ0_checkIndex_df160_9 h
  rcases hq with hq | ⟨t, hq⟩
  · exact G_gets C hq (tb_of 503 ⟨by decide +kernel, rfl⟩) dJ0_checkIndex_df160_2 (key _ (Or.inl rfl))
  · exact G_gets C hq (tb_of 503 ⟨by decide +kernel, rfl⟩) dJ0_checkIndex_df160_2 (key _ (Or.inr ⟨t, rfl⟩))
/-- the sign at place j of text k -/
def chS (k j : Nat) : Int32 := (bytS.getD k []).getD j 0
theorem chS_c : ∀ k, k < 7 → ∀ j, j < lenS.getD k 0 → ((chS k j &&& 255).toUInt32 % 65536).toInt32 = chS k j ∧ narrow .char (.int (chS k j)) = .int (chS k j) := by decide +kernel
theorem lenS_s : ∀ k, k < 7 → lenS.getD k 0 < 2 ^ 31 ∧ (bytS.getD k []).length = lenS.getD k 0 := by decide +kernel
set_option maxRecDepth 100000 in
set_option maxHeartbeats 4000000 in
theorem S_J1_charAt_3b067 {ω : WD} {M : Mem} {post : Int32 → Mem → Prop} {k : Nat} {i : Int32} (hk : k < 7) (hi : vp_in i (lenS.getD k 0)) (h : post (chS k i.toNatClampNeg) M) : MtI ω yJ1_charAt_3b067 cJ1_charAt_3b067 2 (some .char) 2 [.ref (sV ω k), .int i] M post := by
  refine MtI.start (ty := .char) rfl (by decide +kernel) (own := RJ1) rfl (Nat.le_of_ble_eq_true rfl) (fun ρ C R => ?_)
  show G ω ρ M 0 [(0, .ref (sV ω k)), (1, .int i)] []
  obtain ⟨j, hj, rfl⟩ := vp_in_of hi (lenS_s k hk).1
  have hs := (lenS_s k hk).1
  have hjc : (nI j).toNatClampNeg = j := nI_clamp (by omega)
  refine G_iload_n C dJ1_charAt_3b067_0 1 rfl ?_
  refine G_aload_n C dJ1_charAt_3b067_1 0 rfl ?_
  refine G_slen C hk dJ1_charAt_3b067_2 ?_
  refine G_scallV (As := [.int (nI j), .int (Int32.ofNat (lenS.getD k 0))]) (rest := []) C dJ1_charAt_3b067_3 lk_J1_9 (Nat.le_of_ble_eq_true rfl) (Nat.le_of_ble_eq_true rfl) (Nat.le_of_ble_eq_true rfl) rfl (S_J0_checkIndex_df160 (post := fun M' => M' = M) (nI_pos (by omega)) (nI_lt hj hs) rfl) (fun M1 hr => ?_)
  subst hr
  refine G_aload_n C dJ1_charAt_3b067_6 0 rfl ?_
  refine G_iload_n C dJ1_charAt_3b067_7 1 rfl ?_
  refine G_sbald C hk hi dJ1_charAt_3b067_8 ?_
  refine G_sipush (v := 255) C dJ1_charAt_3b067_9 (by decide) ?_
  refine G_iand C dJ1_charAt_3b067_12 ?_
  refine G_i2c C dJ1_charAt_3b067_13 ?_
  have e := chS_c k hk j hj
  rw [hjc] at h ⊢
  show G ω ρ M1 (13 + 1) _ [.int (((chS k j) &&& 255).toUInt32 % 65536).toInt32]
  rw [e.1]
  exact R 14 _ _ _ dJ1_charAt_3b067_14 e.2 h
set_option maxRecDepth 100000 in
set_option maxHeartbeats 4000000 in
theorem S_J0_charAt_5068e {ω : WD} {M : Mem} {post : Int32 → Mem → Prop} {k : Nat} {i : Int32} (hk : k < 7) (hi : vp_in i (lenS.getD k 0)) (h : post (chS k i.toNatClampNeg) M) : MtI ω yJ0_charAt_5068e cJ0_charAt_5068e 2 (some .char) 3 [.ref (sK ω k), .int i] M post := by
  refine MtI.start (ty := .char) rfl (by decide +kernel) (own := RJ0) rfl (Nat.le_of_ble_eq_true rfl) (fun ρ C R => ?_)
  show G ω ρ M 0 [(0, .ref (sK ω k)), (1, .int i)] []
  refine G_aload_n C dJ0_charAt_5068e_0 0 rfl ?_
  refine G_callIS (As := []) (rest := []) C dJ0_charAt_5068e_1 lk_J0_492 (Nat.le_of_ble_eq_true rfl) (Nat.le_of_ble_eq_true rfl) hk (Nat.le_of_ble_eq_true rfl) rfl (S_J0_isLatin1_aae02 (post := fun r M' => r = 1 ∧ M' = M) hk ⟨rfl, rfl⟩) (fun r M1 hr => ?_)
  obtain ⟨rfl, rfl⟩ := hr
  refine G_if_eq (tgt := 16) C dJ0_charAt_5068e_4 (by decide) (fun c => absurd c (by decide)) (fun _ => ?_)
  refine G_aload_n C dJ0_charAt_5068e_7 0 rfl ?_
  refine G_sval C hk (tb_of 1458 ⟨by decide +kernel, rfl⟩) dJ0_charAt_5068e_8 ?_
  refine G_iload_n C dJ0_charAt_5068e_11 1 rfl ?_
  refine G_scallI (As := [.ref (sV ω k), .int i]) (rest := []) C dJ0_charAt_5068e_12 lk_J0_495 (Nat.le_of_ble_eq_true rfl) (Nat.le_of_ble_eq_true rfl) (Nat.le_of_ble_eq_true rfl) rfl (S_J1_charAt_3b067 (post := fun r M' => r = chS k i.toNatClampNeg ∧ M' = M1) hk hi ⟨rfl, rfl⟩) (fun r M2 hr => ?_)
  obtain ⟨rfl, rfl⟩ := hr
  obtain ⟨j, hj, rfl⟩ := vp_in_of hi (lenS_s k hk).1
  have hs := (lenS_s k hk).1
  have hjc : (nI j).toNatClampNeg = j := nI_clamp (by omega)
  rw [hjc] at h ⊢
  exact R 15 _ _ _ dJ0_charAt_5068e_15 (chS_c k hk j hj).2 h
set_option maxRecDepth 100000 in
set_option maxHeartbeats 4000000 in
theorem S_X7_spells {ω : WD} {k : Nat} {M : Mem} {post : Int32 → Mem → Prop} (hk : k < 7) (h : w_X7_spells k M post) : MtI ω yX7_spells cX7_spells 3 (some .boolean) 4 [.ref (adr ω 51), .ref (sK ω k)] M post := by
  refine MtI.start (ty := .boolean) rfl (by decide +kernel) (own := RX7) rfl (Nat.le_of_ble_eq_true rfl) (fun ρ C R => ?_)
  show G ω ρ M 0 [(0, .ref (adr ω 51)), (1, .ref (sK ω k))] []
  have hs := (lenS_s k hk).1
  have loop : ∀ (bs : List Int32) (j : Nat), j ≤ lenS.getD k 0 → (bytS.getD k []).drop j = bs → w_sp post M bs (nI j) → G ω ρ M 20 [(2, .int (nI j)), (0, .ref (adr ω 51)), (1, .ref (sK ω k))] [] := by
    intro bs
    induction bs with
    | nil =>
      intro j hj hdr h
      have hlen : lenS.getD k 0 ≤ j := by rw [← (lenS_s k hk).2]; exact List.drop_eq_nil_iff.mp hdr
      refine G_iload_n C dX7_spells_20 0 rfl ?_
      refine G_aload_n C dX7_spells_21 2 rfl ?_
      refine G_callIS (As := []) (rest := [.int (nI j)]) C dX7_spells_22 lk_X7_38 (Nat.le_of_ble_eq_true rfl) (Nat.le_of_ble_eq_true rfl) hk (Nat.le_of_ble_eq_true rfl) rfl (S_J0_length_8abf5 (post := fun r M' => r = nI (lenS.getD k 0) ∧ M' = M) hk ⟨rfl, rfl⟩) (fun r M1 hr => ?_)
      obtain ⟨rfl, rfl⟩ := hr
      refine G_icmp_ge (tgt := 55) C dX7_spells_25 (by decide) (fun _ => ?_) (fun c => absurd (nI_le hlen (by omega)) c)
      refine G_iconst (v := 1) C dX7_spells_55 (by decide) ?_
      exact R 56 _ _ _ dX7_spells_56 rfl h
    | cons b bs ih =>
      intro j hj hdr h
      have hlt : j < lenS.getD k 0 := by
        rcases Nat.lt_or_ge j (lenS.getD k 0) with q | q
        · exact q
        · rw [List.drop_eq_nil_of_le (by rw [(lenS_s k hk).2]; exact q)] at hdr; cases hdr
      obtain ⟨hi, h1, h2⟩ := h
      have hb : chS k j = b := by
        have : (bytS.getD k []).drop j = (bytS.getD k [])[j]'(by rw [(lenS_s k hk).2]; exact hlt) :: (bytS.getD k []).drop (j + 1) := List.drop_eq_getElem_cons _
        rw [hdr] at this
        have e := (List.cons.inj this).1
        rw [e]
        unfold chS
        rw [List.getD_eq_getElem?_getD, List.getElem?_eq_getElem (by rw [(lenS_s k hk).2]; exact hlt)]
        rfl
      have hd2 : (bytS.getD k []).drop (j + 1) = bs := by
        have : (bytS.getD k []).drop j = (bytS.getD k [])[j]'(by rw [(lenS_s k hk).2]; exact hlt) :: (bytS.getD k []).drop (j + 1) := List.drop_eq_getElem_cons _
        rw [hdr] at this
        exact (List.cons.inj this).2.symm
      refine G_iload_n C dX7_spells_20 0 rfl ?_
      refine G_aload_n C dX7_spells_21 2 rfl ?_
      refine G_callIS (As := []) (rest := [.int (nI j)]) C dX7_spells_22 lk_X7_38 (Nat.le_of_ble_eq_true rfl) (Nat.le_of_ble_eq_true rfl) hk (Nat.le_of_ble_eq_true rfl) rfl (S_J0_length_8abf5 (post := fun r M' => r = nI (lenS.getD k 0) ∧ M' = M) hk ⟨rfl, rfl⟩) (fun r M1 hr => ?_)
      obtain ⟨rfl, rfl⟩ := hr
      refine G_icmp_ge (tgt := 55) C dX7_spells_25 (by decide) (fun c => absurd c (nI_ge hlt hs)) (fun _ => ?_)
      refine G_aload_n C dX7_spells_28 1 rfl ?_
      refine gf_X7_9 C dX7_spells_29 ?_
      refine G_aload_n C dX7_spells_32 1 rfl ?_
      refine gf_X7_22 C dX7_spells_33 ?_
      refine G_iload_n C dX7_spells_36 0 rfl ?_
      refine G_iadd C dX7_spells_37 ?_
      refine G_iald C q52 hi rfl dX7_spells_38 ?_
      refine G_aload_n C dX7_spells_39 2 rfl ?_
      refine G_iload_n C dX7_spells_40 0 rfl ?_
      refine G_callIS (As := [.int (nI j)]) (rest := [.int (rd M1 52 (rd M1 51 3 + nI j).toNatClampNeg)]) C dX7_spells_41 lk_X7_43 (Nat.le_of_ble_eq_true rfl) (Nat.le_of_ble_eq_true rfl) hk (Nat.le_of_ble_eq_true rfl) rfl (S_J0_charAt_5068e (post := fun r M' => r = chS k (nI j).toNatClampNeg ∧ M' = M1) hk (vp_in_nI hlt hs) ⟨rfl, rfl⟩) (fun r M2 hr => ?_)
      obtain ⟨rfl, rfl⟩ := hr
      rw [nI_clamp (show j < 2 ^ 31 by omega), hb]
      refine G_icmp_eq (tgt := 49) C dX7_spells_44 (by decide) (fun c => ?_) (fun c => ?_)
      · refine G_iinc C dX7_spells_49 0 rfl (v := nI (j + 1)) (nI_1 j) (by decide) (lv' := [(2, .int (nI (j + 1))), (0, .ref (adr ω 51)), (1, .ref (sK ω k))]) rfl ?_
        refine G_goto (tgt := 20) C dX7_spells_52 (by decide) ?_
        exact ih (j + 1) hlt hd2 (by have := h2 c; rw [nI_1] at this; exact this)
      · refine G_iconst (v := 0) C dX7_spells_47 (by decide) ?_
        exact R 48 _ _ _ dX7_spells_48 rfl (h1 c)
  obtain ⟨h1, h2⟩ := h
  refine G_aload_n C dX7_spells_0 0 rfl ?_
  refine gf_X7_25 C dX7_spells_1 ?_
  refine G_aload_n C dX7_spells_4 0 rfl ?_
  refine gf_X7_22 C dX7_spells_5 ?_
  refine G_isub C dX7_spells_8 ?_
  refine G_aload_n C dX7_spells_9 1 rfl ?_
  refine G_callIS (As := []) (rest := [.int (rd M 51 4 - rd M 51 3)]) C dX7_spells_10 lk_X7_38 (Nat.le_of_ble_eq_true rfl) (Nat.le_of_ble_eq_true rfl) hk (Nat.le_of_ble_eq_true rfl) rfl (S_J0_length_8abf5 (post := fun r M' => r = nI (lenS.getD k 0) ∧ M' = M) hk ⟨rfl, rfl⟩) (fun r M1 hr => ?_)
  obtain ⟨rfl, rfl⟩ := hr
  refine G_icmp_eq (tgt := 18) C dX7_spells_13 (by decide) (fun c => ?_) (fun c => ?_)
  · refine G_iconst (v := 0) C dX7_spells_18 (by decide) ?_
    refine G_istore_n C dX7_spells_19 (by decide) (lv' := [(2, .int 0), (0, .ref (adr ω 51)), (1, .ref (sK ω k))]) rfl ?_
    exact loop _ 0 (Nat.zero_le _) rfl (h2 c)
  · refine G_iconst (v := 0) C dX7_spells_16 (by decide) ?_
    exact R 17 _ _ _ dX7_spells_17 rfl (h1 c)
