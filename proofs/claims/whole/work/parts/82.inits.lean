/-! the constructors -/
def ini (c k : Nat) : Int32 := if c = 0 then (if k = 0 then -4 else 0) else if c = 1 then (if k = 1 then 2 else 0) else if c = 2 then (if k = 1 then 1 else if k = 4 then -4 else 0) else if c = 6 then (if k = 1 then -4 else 0) else if c = 8 then (if k = 4 then -4 else 0) else 0
/-- the memory of objects that are just made -/
def M0 : Mem := (fun i k => ini (kd i) k, fun _ => 0)
def E0 (ω : WD) (i : Nat) : va_E := cont ω M0 i
theorem E0_obj {ω : WD} {c i : Nat} (h : isK c i) (hc : c < 11) : E0 ω i = .inr (c, fsX c ω (ini c) (fun _ => 0) i) := by
  unfold E0
  rw [cont_obj h hc]
  show Sum.inr (c, fsX c ω (ini (kd i)) (fun _ => 0) i) = _
  rw [h.2]
theorem ini_11 {c : Nat} (h : 9 ≤ c) : ini c = fun _ => 0 := funext fun k => by
  unfold ini
  rw [if_neg (by omega), if_neg (by omega), if_neg (by omega), if_neg (by omega), if_neg (by omega)]
theorem E0_arr {ω : WD} {N i : Nat} (h : isA N i) : E0 ω i = .inl (ω.2.2.2.1 0, N, .inl (fun _ => 0)) := by
  unfold E0 cont
  rw [contX_arr h]
  show Sum.inl (_, _, Sum.inl (ini (kd i))) = _
  rw [h.2.1, ini_11 (by omega)]
theorem E0_zrr {ω : WD} {N i : Nat} (h : isZ N i) : E0 ω i = .inl (ω.2.2.2.1 1, N, .inl (fun _ => 0)) := by
  unfold E0 cont
  rw [contX_zrr h]
  show Sum.inl (_, _, Sum.inl (ini (kd i))) = _
  rw [h.2.1, ini_11 (by omega)]
theorem E0_13 {ω : WD} {i : Nat} (h : isK 13 i) : E0 ω i = .inl (ω.2.2.2.1 2, 5, .inr (.inr (.inr (.inr (fun t => some (adr ω (i + 1 + 2 * t))))))) := by
  unfold E0 cont contX
  rw [h.2]
  rfl
theorem E0_14 {ω : WD} {i : Nat} (h : isK 14 i) : E0 ω i = .inl (ω.2.2.2.1 3, 2, .inr (.inr (.inr (.inr (fun t => some (adr ω (i + 2 + 22 * t))))))) := by
  unfold E0 cont contX
  rw [h.2]
  rfl
theorem E0_15 {ω : WD} {i : Nat} (h : isK 15 i) : E0 ω i = .inl (ω.2.2.2.1 4, 4, .inr (.inr (.inr (.inr (fun t => some (adr ω (i + 45 + 2 * t))))))) := by
  unfold E0 cont contX
  rw [h.2]
  rfl
theorem E0_16 {ω : WD} {i : Nat} (h : isK 16 i) : E0 ω i = .inl (ω.2.2.2.1 5, 8, .inr (.inr (.inr (.inr (fun t => some (adr ω (i + 1 + t))))))) := by
  unfold E0 cont contX
  rw [h.2]
  rfl
theorem row16 {j : Nat} (h : j < 8) : isA 7 (41 + 1 + j) := (by decide +kernel : ∀ t, t < 8 → (41 + 1 + t < 140 ∧ kd (41 + 1 + t) = 11 ∧ ln (41 + 1 + t) = 7)) j h
theorem upE_done {E : Nat → va_E} {x : Nat} {e : va_E} (h : E x = e) : upE E x e = E := funext fun j => by
  by_cases z : j = x
  · rw [upE_eq z, z, h]
  · rw [upE_ne z]
theorem upE_up {E : Nat → va_E} {x : Nat} {e e' : va_E} : upE (upE E x e) x e' = upE E x e' := funext fun j => by
  by_cases z : j = x
  · rw [upE_eq z, upE_eq z]
  · rw [upE_ne z, upE_ne z, upE_ne z]
theorem arrV_cong {c : ClassId} {N : Nat} {f g : Nat → Value} (h : ∀ j, j < N → f j = g j) : arrV c N f = arrV c N g := congrArg (fun z => ({ cls := c, slots := Array.ofFn (n := N) z, vm := .none } : Cell)) (funext fun j => h j.val j.isLt)
/-- rows of references that say the same below their length -/
theorem va_refs {ω : WD} {q N : Nat} {cA : ClassId} {f g : Nat → Option Nat} {H : Heap} (h : ∀ j, j < N → f j = g j) (k : va_at ω.2.2.1 vwCl (q, .inl (cA, N, .inr (.inr (.inr (.inr f))))) H) : va_at ω.2.2.1 vwCl (q, .inl (cA, N, .inr (.inr (.inr (.inr g))))) H := by
  show H[q]? = some (vp_cell _ _)
  have k : H[q]? = some (vp_cell cA (N, .inr (.inr (.inr (.inr f))))) := k
  rw [k, vp_cell_q, vp_cell_q, arrV_cong (f := fun j => va_rf (f j)) (g := fun j => va_rf (g j)) (fun j hj => by rw [h j hj])]
theorem B_mna {ω : WD} {b0 : Nat} {ρ : FR} {n : Nat} {E : Nat → va_E} {cs ss pc idx : Nat} {cc : ByteArray} {own : String} {d nL kc ks : Nat} {lv : List (Nat × Value)} {rest : List Value} {N K' : Nat} {v w : Int32} (K : Kx ω b0 ρ cc own d nL kc ks) (hd : decode cc pc = .ok (.multianewarray idx 2, 4)) (a b : Nat) (ha : lw_tbl[a]? = some (.classLink own idx "[[I")) (hb : lw_tbl[b]? = some (.arrayClass .int)) (hv : v = nI N) (hw : w = nI K') (hN : N ≤ 1000) (hK : K' ≤ 1000) (hE : E n = .inl (ω.2.2.2.1 5, N, .inr (.inr (.inr (.inr (fun t => some (adr ω (n + 1 + t)))))))) (hR : ∀ j, j < N → E (n + 1 + j) = .inl (ω.2.2.2.1 0, K', .inl (fun _ => 0))) (hc : cs + (1 + N) ≤ kc) (hs : ss + (N + N * K') ≤ ks) (k : Bj ω b0 ρ (n + 1 + N) E [] (cs + 1 + N) (ss + N + N * K') (pc + 4) lv (.ref (adr ω n) :: rest)) : Bj ω b0 ρ n E [] cs ss pc lv (.int w :: .int v :: rest) := fun ls H locs h hP _ hz hS => by
  have hA := adrH K hz
  obtain ⟨hx, hbb, -, hown, hts, hK2, hadr, -, hb0, hO, -, hk1, hk2⟩ := K
  have hvN : v.toNatClampNeg = N := by rw [hv]; exact nI_clamp (by omega)
  have hwK : w.toNatClampNeg = K' := by rw [hw]; exact nI_clamp (by omega)
  refine W_rows hx hbb hown (hts _ (tb_of a ⟨ha, rfl⟩)) hO.2.2.2 (hts _ (tb_of b ⟨hb, rfl⟩)) rfl hd rfl (by rw [hv]; exact nI_pos (by omega)) (by rw [hw]; exact nI_pos (by omega)) (by omega) (by omega) (by omega) (by rw [hvN, hwK]; omega) (fun cA cR H1 L f1 f2 z1 e1 o1 r1 hL => ?_)
  rw [hvN] at z1 e1 r1
  rw [hwK] at r1
  rw [hvN, hwK]
  have hcA : cA = ω.2.2.2.1 5 := Option.some.inj (f1.symm.trans (hK2.2 5 _ rfl).2)
  have hcR : cR = ω.2.2.2.1 0 := Option.some.inj (f2.symm.trans (hK2.2 0 _ rfl).2)
  have hz' : H.size = b0 + n := hz
  rw [← hA]
  refine k ls H1 _ h (fun i hi => ?_) (fun p hp => by cases hp) (by rw [z1, hz]; show b0 + n + 0 + 1 + N = b0 + (n + 1 + N) + 0; omega) ⟨by rw [z1]; exact Nat.le_trans hS.1 (by omega), fun q h1 h2 => (o1 q (Nat.lt_of_lt_of_le h1 hS.1)).trans (hS.2.1 q h1 h2), fun q hq => ?_⟩
  · by_cases y1 : i < n
    · exact (hP i y1).kept (o1 _ (hP i y1).lt)
    · by_cases y2 : i = n
      · rw [y2, hE, hA]
        show H1[H.size]? = some (vp_cell _ _)
        rw [e1, vp_cell_q, hcA]
        refine congrArg some (arrV_cong (fun j hj => ?_))
        unfold mTo
        rw [if_pos hj]
        show Value.ref (H.size + 1 + j) = .ref (adr ω (n + 1 + j))
        rw [hadr, hz', show b0 + n + 1 + j = b0 + (n + 1 + j) by omega]
      · obtain ⟨j, rfl⟩ : ∃ j, i = n + 1 + j := ⟨i - (n + 1), by omega⟩
        rw [hR j (by omega)]
        show H1[adr ω (n + 1 + j)]? = some (vp_cell _ _)
        rw [hadr, show b0 + (n + 1 + j) = H.size + 1 + j by omega, r1 j (by omega), hcR]
        rfl
  · rcases List.mem_append.mp hq with y | y
    · exact hS.2.2 q y
    · show b0 ≤ q.base
      rw [hL q y]; omega
theorem dX0_init_0 : decode cX0_init 0 = .ok (.aload_n 0, 1) := by decide +kernel
theorem dX0_init_1 : decode cX0_init 1 = .ok (.invokespecial 3, 3) := by decide +kernel
theorem dX0_init_4 : decode cX0_init 4 = .ok (.aload_n 0, 1) := by decide +kernel
theorem dX0_init_5 : decode cX0_init 5 = .ok (.bipush (-4), 2) := by decide +kernel
theorem dX0_init_7 : decode cX0_init 7 = .ok (.putfield 9, 3) := by decide +kernel
theorem dX0_init_10 : decode cX0_init 10 = .ok (.aload_n 0, 1) := by decide +kernel
theorem dX0_init_11 : decode cX0_init 11 = .ok (.iconst 0, 1) := by decide +kernel
theorem dX0_init_12 : decode cX0_init 12 = .ok (.putfield 15, 3) := by decide +kernel
theorem dX0_init_15 : decode cX0_init 15 = .ok (.return_, 1) := by decide +kernel
theorem dX1_init_0 : decode cX1_init 0 = .ok (.aload_n 0, 1) := by decide +kernel
theorem dX1_init_1 : decode cX1_init 1 = .ok (.invokespecial 3, 3) := by decide +kernel
theorem dX1_init_4 : decode cX1_init 4 = .ok (.aload_n 0, 1) := by decide +kernel
theorem dX1_init_5 : decode cX1_init 5 = .ok (.iconst 0, 1) := by decide +kernel
theorem dX1_init_6 : decode cX1_init 6 = .ok (.putfield 9, 3) := by decide +kernel
theorem dX1_init_9 : decode cX1_init 9 = .ok (.aload_n 0, 1) := by decide +kernel
theorem dX1_init_10 : decode cX1_init 10 = .ok (.iconst 2, 1) := by decide +kernel
theorem dX1_init_11 : decode cX1_init 11 = .ok (.putfield 15, 3) := by decide +kernel
theorem dX1_init_14 : decode cX1_init 14 = .ok (.aload_n 0, 1) := by decide +kernel
theorem dX1_init_15 : decode cX1_init 15 = .ok (.iconst 0, 1) := by decide +kernel
theorem dX1_init_16 : decode cX1_init 16 = .ok (.putfield 18, 3) := by decide +kernel
theorem dX1_init_19 : decode cX1_init 19 = .ok (.aload_n 0, 1) := by decide +kernel
theorem dX1_init_20 : decode cX1_init 20 = .ok (.bipush 6, 2) := by decide +kernel
theorem dX1_init_22 : decode cX1_init 22 = .ok (.newarray .int, 2) := by decide +kernel
theorem dX1_init_24 : decode cX1_init 24 = .ok (.putfield 21, 3) := by decide +kernel
theorem dX1_init_27 : decode cX1_init 27 = .ok (.aload_n 0, 1) := by decide +kernel
theorem dX1_init_28 : decode cX1_init 28 = .ok (.bipush 6, 2) := by decide +kernel
theorem dX1_init_30 : decode cX1_init 30 = .ok (.newarray .int, 2) := by decide +kernel
theorem dX1_init_32 : decode cX1_init 32 = .ok (.putfield 25, 3) := by decide +kernel
theorem dX1_init_35 : decode cX1_init 35 = .ok (.aload_n 0, 1) := by decide +kernel
theorem dX1_init_36 : decode cX1_init 36 = .ok (.bipush 6, 2) := by decide +kernel
theorem dX1_init_38 : decode cX1_init 38 = .ok (.newarray .int, 2) := by decide +kernel
theorem dX1_init_40 : decode cX1_init 40 = .ok (.putfield 28, 3) := by decide +kernel
theorem dX1_init_43 : decode cX1_init 43 = .ok (.aload_n 0, 1) := by decide +kernel
theorem dX1_init_44 : decode cX1_init 44 = .ok (.bipush 6, 2) := by decide +kernel
theorem dX1_init_46 : decode cX1_init 46 = .ok (.newarray .int, 2) := by decide +kernel
theorem dX1_init_48 : decode cX1_init 48 = .ok (.putfield 31, 3) := by decide +kernel
theorem dX1_init_51 : decode cX1_init 51 = .ok (.aload_n 0, 1) := by decide +kernel
theorem dX1_init_52 : decode cX1_init 52 = .ok (.iconst 5, 1) := by decide +kernel
theorem dX1_init_53 : decode cX1_init 53 = .ok (.anewarray 34, 3) := by decide +kernel
theorem dX1_init_56 : decode cX1_init 56 = .ok (.putfield 36, 3) := by decide +kernel
theorem dX1_init_59 : decode cX1_init 59 = .ok (.iconst 0, 1) := by decide +kernel
theorem dX1_init_60 : decode cX1_init 60 = .ok (.istore_n 1, 1) := by decide +kernel
theorem dX1_init_61 : decode cX1_init 61 = .ok (.iload_n 1, 1) := by decide +kernel
theorem dX1_init_62 : decode cX1_init 62 = .ok (.iconst 5, 1) := by decide +kernel
theorem dX1_init_63 : decode cX1_init 63 = .ok (.if_icmp .ge 22, 3) := by decide +kernel
theorem dX1_init_66 : decode cX1_init 66 = .ok (.aload_n 0, 1) := by decide +kernel
theorem dX1_init_67 : decode cX1_init 67 = .ok (.getfield 36, 3) := by decide +kernel
theorem dX1_init_70 : decode cX1_init 70 = .ok (.iload_n 1, 1) := by decide +kernel
theorem dX1_init_71 : decode cX1_init 71 = .ok (.new 34, 3) := by decide +kernel
theorem dX1_init_74 : decode cX1_init 74 = .ok (.dup, 1) := by decide +kernel
theorem dX1_init_75 : decode cX1_init 75 = .ok (.invokespecial 40, 3) := by decide +kernel
theorem dX1_init_78 : decode cX1_init 78 = .ok (.aastore, 1) := by decide +kernel
theorem dX1_init_79 : decode cX1_init 79 = .ok (.iinc 1 1, 3) := by decide +kernel
theorem dX1_init_82 : decode cX1_init 82 = .ok (.goto (-21), 3) := by decide +kernel
theorem dX1_init_85 : decode cX1_init 85 = .ok (.return_, 1) := by decide +kernel
theorem dX2_init_0 : decode cX2_init 0 = .ok (.aload_n 0, 1) := by decide +kernel
theorem dX2_init_1 : decode cX2_init 1 = .ok (.invokespecial 3, 3) := by decide +kernel
theorem dX2_init_4 : decode cX2_init 4 = .ok (.aload_n 0, 1) := by decide +kernel
theorem dX2_init_5 : decode cX2_init 5 = .ok (.iconst 0, 1) := by decide +kernel
theorem dX2_init_6 : decode cX2_init 6 = .ok (.putfield 9, 3) := by decide +kernel
theorem dX2_init_9 : decode cX2_init 9 = .ok (.aload_n 0, 1) := by decide +kernel
theorem dX2_init_10 : decode cX2_init 10 = .ok (.iconst 1, 1) := by decide +kernel
theorem dX2_init_11 : decode cX2_init 11 = .ok (.putfield 15, 3) := by decide +kernel
theorem dX2_init_14 : decode cX2_init 14 = .ok (.aload_n 0, 1) := by decide +kernel
theorem dX2_init_15 : decode cX2_init 15 = .ok (.iconst 0, 1) := by decide +kernel
theorem dX2_init_16 : decode cX2_init 16 = .ok (.putfield 18, 3) := by decide +kernel
theorem dX2_init_19 : decode cX2_init 19 = .ok (.aload_n 0, 1) := by decide +kernel
theorem dX2_init_20 : decode cX2_init 20 = .ok (.iconst 0, 1) := by decide +kernel
theorem dX2_init_21 : decode cX2_init 21 = .ok (.putfield 21, 3) := by decide +kernel
theorem dX2_init_24 : decode cX2_init 24 = .ok (.aload_n 0, 1) := by decide +kernel
theorem dX2_init_25 : decode cX2_init 25 = .ok (.bipush (-4), 2) := by decide +kernel
theorem dX2_init_27 : decode cX2_init 27 = .ok (.putfield 24, 3) := by decide +kernel
theorem dX2_init_30 : decode cX2_init 30 = .ok (.aload_n 0, 1) := by decide +kernel
theorem dX2_init_31 : decode cX2_init 31 = .ok (.iconst 4, 1) := by decide +kernel
theorem dX2_init_32 : decode cX2_init 32 = .ok (.newarray .int, 2) := by decide +kernel
theorem dX2_init_34 : decode cX2_init 34 = .ok (.putfield 27, 3) := by decide +kernel
theorem dX2_init_37 : decode cX2_init 37 = .ok (.return_, 1) := by decide +kernel
theorem dX3_init_0 : decode cX3_init 0 = .ok (.aload_n 0, 1) := by decide +kernel
theorem dX3_init_1 : decode cX3_init 1 = .ok (.invokespecial 1, 3) := by decide +kernel
theorem dX3_init_4 : decode cX3_init 4 = .ok (.aload_n 0, 1) := by decide +kernel
theorem dX3_init_5 : decode cX3_init 5 = .ok (.iconst 0, 1) := by decide +kernel
theorem dX3_init_6 : decode cX3_init 6 = .ok (.putfield 7, 3) := by decide +kernel
theorem dX3_init_9 : decode cX3_init 9 = .ok (.aload_n 0, 1) := by decide +kernel
theorem dX3_init_10 : decode cX3_init 10 = .ok (.new 13, 3) := by decide +kernel
theorem dX3_init_13 : decode cX3_init 13 = .ok (.dup, 1) := by decide +kernel
theorem dX3_init_14 : decode cX3_init 14 = .ok (.invokespecial 15, 3) := by decide +kernel
theorem dX3_init_17 : decode cX3_init 17 = .ok (.putfield 16, 3) := by decide +kernel
theorem dX3_init_20 : decode cX3_init 20 = .ok (.aload_n 0, 1) := by decide +kernel
theorem dX3_init_21 : decode cX3_init 21 = .ok (.new 20, 3) := by decide +kernel
theorem dX3_init_24 : decode cX3_init 24 = .ok (.dup, 1) := by decide +kernel
theorem dX3_init_25 : decode cX3_init 25 = .ok (.invokespecial 22, 3) := by decide +kernel
theorem dX3_init_28 : decode cX3_init 28 = .ok (.putfield 23, 3) := by decide +kernel
theorem dX3_init_31 : decode cX3_init 31 = .ok (.return_, 1) := by decide +kernel
theorem dX4_init_0 : decode cX4_init 0 = .ok (.aload_n 0, 1) := by decide +kernel
theorem dX4_init_1 : decode cX4_init 1 = .ok (.invokespecial 3, 3) := by decide +kernel
theorem dX4_init_4 : decode cX4_init 4 = .ok (.aload_n 0, 1) := by decide +kernel
theorem dX4_init_5 : decode cX4_init 5 = .ok (.new 9, 3) := by decide +kernel
theorem dX4_init_8 : decode cX4_init 8 = .ok (.dup, 1) := by decide +kernel
theorem dX4_init_9 : decode cX4_init 9 = .ok (.invokespecial 11, 3) := by decide +kernel
theorem dX4_init_12 : decode cX4_init 12 = .ok (.putfield 12, 3) := by decide +kernel
theorem dX4_init_15 : decode cX4_init 15 = .ok (.aload_n 0, 1) := by decide +kernel
theorem dX4_init_16 : decode cX4_init 16 = .ok (.new 18, 3) := by decide +kernel
theorem dX4_init_19 : decode cX4_init 19 = .ok (.dup, 1) := by decide +kernel
theorem dX4_init_20 : decode cX4_init 20 = .ok (.invokespecial 20, 3) := by decide +kernel
theorem dX4_init_23 : decode cX4_init 23 = .ok (.putfield 21, 3) := by decide +kernel
theorem dX4_init_26 : decode cX4_init 26 = .ok (.aload_n 0, 1) := by decide +kernel
theorem dX4_init_27 : decode cX4_init 27 = .ok (.new 25, 3) := by decide +kernel
theorem dX4_init_30 : decode cX4_init 30 = .ok (.dup, 1) := by decide +kernel
theorem dX4_init_31 : decode cX4_init 31 = .ok (.invokespecial 27, 3) := by decide +kernel
theorem dX4_init_34 : decode cX4_init 34 = .ok (.putfield 28, 3) := by decide +kernel
theorem dX4_init_37 : decode cX4_init 37 = .ok (.aload_n 0, 1) := by decide +kernel
theorem dX4_init_38 : decode cX4_init 38 = .ok (.iconst 0, 1) := by decide +kernel
theorem dX4_init_39 : decode cX4_init 39 = .ok (.putfield 32, 3) := by decide +kernel
theorem dX4_init_42 : decode cX4_init 42 = .ok (.aload_n 0, 1) := by decide +kernel
theorem dX4_init_43 : decode cX4_init 43 = .ok (.iconst 0, 1) := by decide +kernel
theorem dX4_init_44 : decode cX4_init 44 = .ok (.putfield 36, 3) := by decide +kernel
theorem dX4_init_47 : decode cX4_init 47 = .ok (.aload_n 0, 1) := by decide +kernel
theorem dX4_init_48 : decode cX4_init 48 = .ok (.iconst 0, 1) := by decide +kernel
theorem dX4_init_49 : decode cX4_init 49 = .ok (.putfield 39, 3) := by decide +kernel
theorem dX4_init_52 : decode cX4_init 52 = .ok (.aload_n 0, 1) := by decide +kernel
theorem dX4_init_53 : decode cX4_init 53 = .ok (.iconst 0, 1) := by decide +kernel
theorem dX4_init_54 : decode cX4_init 54 = .ok (.putfield 42, 3) := by decide +kernel
theorem dX4_init_57 : decode cX4_init 57 = .ok (.aload_n 0, 1) := by decide +kernel
theorem dX4_init_58 : decode cX4_init 58 = .ok (.iconst 0, 1) := by decide +kernel
theorem dX4_init_59 : decode cX4_init 59 = .ok (.putfield 46, 3) := by decide +kernel
theorem dX4_init_62 : decode cX4_init 62 = .ok (.aload_n 0, 1) := by decide +kernel
theorem dX4_init_63 : decode cX4_init 63 = .ok (.iconst 0, 1) := by decide +kernel
theorem dX4_init_64 : decode cX4_init 64 = .ok (.putfield 49, 3) := by decide +kernel
theorem dX4_init_67 : decode cX4_init 67 = .ok (.return_, 1) := by decide +kernel
theorem dX5_init_0 : decode cX5_init 0 = .ok (.aload_n 0, 1) := by decide +kernel
theorem dX5_init_1 : decode cX5_init 1 = .ok (.invokespecial 3, 3) := by decide +kernel
theorem dX5_init_4 : decode cX5_init 4 = .ok (.aload_n 0, 1) := by decide +kernel
theorem dX5_init_5 : decode cX5_init 5 = .ok (.iconst 0, 1) := by decide +kernel
theorem dX5_init_6 : decode cX5_init 6 = .ok (.putfield 9, 3) := by decide +kernel
theorem dX5_init_9 : decode cX5_init 9 = .ok (.aload_n 0, 1) := by decide +kernel
theorem dX5_init_10 : decode cX5_init 10 = .ok (.iconst 0, 1) := by decide +kernel
theorem dX5_init_11 : decode cX5_init 11 = .ok (.putfield 15, 3) := by decide +kernel
theorem dX5_init_14 : decode cX5_init 14 = .ok (.aload_n 0, 1) := by decide +kernel
theorem dX5_init_15 : decode cX5_init 15 = .ok (.bipush 8, 2) := by decide +kernel
theorem dX5_init_17 : decode cX5_init 17 = .ok (.newarray .int, 2) := by decide +kernel
theorem dX5_init_19 : decode cX5_init 19 = .ok (.putfield 18, 3) := by decide +kernel
theorem dX5_init_22 : decode cX5_init 22 = .ok (.aload_n 0, 1) := by decide +kernel
theorem dX5_init_23 : decode cX5_init 23 = .ok (.bipush 8, 2) := by decide +kernel
theorem dX5_init_25 : decode cX5_init 25 = .ok (.newarray .int, 2) := by decide +kernel
theorem dX5_init_27 : decode cX5_init 27 = .ok (.putfield 22, 3) := by decide +kernel
theorem dX5_init_30 : decode cX5_init 30 = .ok (.aload_n 0, 1) := by decide +kernel
theorem dX5_init_31 : decode cX5_init 31 = .ok (.bipush 6, 2) := by decide +kernel
theorem dX5_init_33 : decode cX5_init 33 = .ok (.newarray .int, 2) := by decide +kernel
theorem dX5_init_35 : decode cX5_init 35 = .ok (.putfield 25, 3) := by decide +kernel
theorem dX5_init_38 : decode cX5_init 38 = .ok (.aload_n 0, 1) := by decide +kernel
theorem dX5_init_39 : decode cX5_init 39 = .ok (.bipush 6, 2) := by decide +kernel
theorem dX5_init_41 : decode cX5_init 41 = .ok (.newarray .int, 2) := by decide +kernel
theorem dX5_init_43 : decode cX5_init 43 = .ok (.putfield 28, 3) := by decide +kernel
theorem dX5_init_46 : decode cX5_init 46 = .ok (.return_, 1) := by decide +kernel
theorem dX6_init_0 : decode cX6_init 0 = .ok (.aload_n 0, 1) := by decide +kernel
theorem dX6_init_1 : decode cX6_init 1 = .ok (.invokespecial 3, 3) := by decide +kernel
theorem dX6_init_4 : decode cX6_init 4 = .ok (.aload_n 0, 1) := by decide +kernel
theorem dX6_init_5 : decode cX6_init 5 = .ok (.iconst 0, 1) := by decide +kernel
theorem dX6_init_6 : decode cX6_init 6 = .ok (.putfield 9, 3) := by decide +kernel
theorem dX6_init_9 : decode cX6_init 9 = .ok (.aload_n 0, 1) := by decide +kernel
theorem dX6_init_10 : decode cX6_init 10 = .ok (.bipush (-4), 2) := by decide +kernel
theorem dX6_init_12 : decode cX6_init 12 = .ok (.putfield 15, 3) := by decide +kernel
theorem dX6_init_15 : decode cX6_init 15 = .ok (.aload_n 0, 1) := by decide +kernel
theorem dX6_init_16 : decode cX6_init 16 = .ok (.bipush 40, 2) := by decide +kernel
theorem dX6_init_18 : decode cX6_init 18 = .ok (.newarray .int, 2) := by decide +kernel
theorem dX6_init_20 : decode cX6_init 20 = .ok (.putfield 18, 3) := by decide +kernel
theorem dX6_init_23 : decode cX6_init 23 = .ok (.return_, 1) := by decide +kernel
theorem dX7_init_0 : decode cX7_init 0 = .ok (.aload_n 0, 1) := by decide +kernel
theorem dX7_init_1 : decode cX7_init 1 = .ok (.invokespecial 3, 3) := by decide +kernel
theorem dX7_init_4 : decode cX7_init 4 = .ok (.aload_n 0, 1) := by decide +kernel
theorem dX7_init_5 : decode cX7_init 5 = .ok (.sipush 160, 3) := by decide +kernel
theorem dX7_init_8 : decode cX7_init 8 = .ok (.newarray .int, 2) := by decide +kernel
theorem dX7_init_10 : decode cX7_init 10 = .ok (.putfield 9, 3) := by decide +kernel
theorem dX7_init_13 : decode cX7_init 13 = .ok (.aload_n 0, 1) := by decide +kernel
theorem dX7_init_14 : decode cX7_init 14 = .ok (.iconst 0, 1) := by decide +kernel
theorem dX7_init_15 : decode cX7_init 15 = .ok (.putfield 15, 3) := by decide +kernel
theorem dX7_init_18 : decode cX7_init 18 = .ok (.aload_n 0, 1) := by decide +kernel
theorem dX7_init_19 : decode cX7_init 19 = .ok (.iconst 0, 1) := by decide +kernel
theorem dX7_init_20 : decode cX7_init 20 = .ok (.putfield 19, 3) := by decide +kernel
theorem dX7_init_23 : decode cX7_init 23 = .ok (.aload_n 0, 1) := by decide +kernel
theorem dX7_init_24 : decode cX7_init 24 = .ok (.iconst 0, 1) := by decide +kernel
theorem dX7_init_25 : decode cX7_init 25 = .ok (.putfield 22, 3) := by decide +kernel
theorem dX7_init_28 : decode cX7_init 28 = .ok (.aload_n 0, 1) := by decide +kernel
theorem dX7_init_29 : decode cX7_init 29 = .ok (.iconst 0, 1) := by decide +kernel
theorem dX7_init_30 : decode cX7_init 30 = .ok (.putfield 25, 3) := by decide +kernel
theorem dX7_init_33 : decode cX7_init 33 = .ok (.aload_n 0, 1) := by decide +kernel
theorem dX7_init_34 : decode cX7_init 34 = .ok (.iconst 0, 1) := by decide +kernel
theorem dX7_init_35 : decode cX7_init 35 = .ok (.putfield 28, 3) := by decide +kernel
theorem dX7_init_38 : decode cX7_init 38 = .ok (.return_, 1) := by decide +kernel
theorem dX8_init_0 : decode cX8_init 0 = .ok (.aload_n 0, 1) := by decide +kernel
theorem dX8_init_1 : decode cX8_init 1 = .ok (.invokespecial 3, 3) := by decide +kernel
theorem dX8_init_4 : decode cX8_init 4 = .ok (.aload_n 0, 1) := by decide +kernel
theorem dX8_init_5 : decode cX8_init 5 = .ok (.new 9, 3) := by decide +kernel
theorem dX8_init_8 : decode cX8_init 8 = .ok (.dup, 1) := by decide +kernel
theorem dX8_init_9 : decode cX8_init 9 = .ok (.invokespecial 11, 3) := by decide +kernel
theorem dX8_init_12 : decode cX8_init 12 = .ok (.putfield 12, 3) := by decide +kernel
theorem dX8_init_15 : decode cX8_init 15 = .ok (.aload_n 0, 1) := by decide +kernel
theorem dX8_init_16 : decode cX8_init 16 = .ok (.bipush 8, 2) := by decide +kernel
theorem dX8_init_18 : decode cX8_init 18 = .ok (.newarray .int, 2) := by decide +kernel
theorem dX8_init_20 : decode cX8_init 20 = .ok (.putfield 18, 3) := by decide +kernel
theorem dX8_init_23 : decode cX8_init 23 = .ok (.aload_n 0, 1) := by decide +kernel
theorem dX8_init_24 : decode cX8_init 24 = .ok (.iconst 0, 1) := by decide +kernel
theorem dX8_init_25 : decode cX8_init 25 = .ok (.putfield 22, 3) := by decide +kernel
theorem dX8_init_28 : decode cX8_init 28 = .ok (.aload_n 0, 1) := by decide +kernel
theorem dX8_init_29 : decode cX8_init 29 = .ok (.iconst 0, 1) := by decide +kernel
theorem dX8_init_30 : decode cX8_init 30 = .ok (.putfield 26, 3) := by decide +kernel
theorem dX8_init_33 : decode cX8_init 33 = .ok (.aload_n 0, 1) := by decide +kernel
theorem dX8_init_34 : decode cX8_init 34 = .ok (.bipush (-4), 2) := by decide +kernel
theorem dX8_init_36 : decode cX8_init 36 = .ok (.putfield 29, 3) := by decide +kernel
theorem dX8_init_39 : decode cX8_init 39 = .ok (.aload_n 0, 1) := by decide +kernel
theorem dX8_init_40 : decode cX8_init 40 = .ok (.iconst 0, 1) := by decide +kernel
theorem dX8_init_41 : decode cX8_init 41 = .ok (.putfield 32, 3) := by decide +kernel
theorem dX8_init_44 : decode cX8_init 44 = .ok (.return_, 1) := by decide +kernel
theorem dX9_init_0 : decode cX9_init 0 = .ok (.aload_n 0, 1) := by decide +kernel
theorem dX9_init_1 : decode cX9_init 1 = .ok (.invokespecial 1, 3) := by decide +kernel
theorem dX9_init_4 : decode cX9_init 4 = .ok (.aload_n 0, 1) := by decide +kernel
theorem dX9_init_5 : decode cX9_init 5 = .ok (.new 7, 3) := by decide +kernel
theorem dX9_init_8 : decode cX9_init 8 = .ok (.dup, 1) := by decide +kernel
theorem dX9_init_9 : decode cX9_init 9 = .ok (.invokespecial 9, 3) := by decide +kernel
theorem dX9_init_12 : decode cX9_init 12 = .ok (.putfield 10, 3) := by decide +kernel
theorem dX9_init_15 : decode cX9_init 15 = .ok (.aload_n 0, 1) := by decide +kernel
theorem dX9_init_16 : decode cX9_init 16 = .ok (.new 16, 3) := by decide +kernel
theorem dX9_init_19 : decode cX9_init 19 = .ok (.dup, 1) := by decide +kernel
theorem dX9_init_20 : decode cX9_init 20 = .ok (.invokespecial 18, 3) := by decide +kernel
theorem dX9_init_23 : decode cX9_init 23 = .ok (.putfield 19, 3) := by decide +kernel
theorem dX9_init_26 : decode cX9_init 26 = .ok (.aload_n 0, 1) := by decide +kernel
theorem dX9_init_27 : decode cX9_init 27 = .ok (.new 23, 3) := by decide +kernel
theorem dX9_init_30 : decode cX9_init 30 = .ok (.dup, 1) := by decide +kernel
theorem dX9_init_31 : decode cX9_init 31 = .ok (.invokespecial 25, 3) := by decide +kernel
theorem dX9_init_34 : decode cX9_init 34 = .ok (.putfield 26, 3) := by decide +kernel
theorem dX9_init_37 : decode cX9_init 37 = .ok (.aload_n 0, 1) := by decide +kernel
theorem dX9_init_38 : decode cX9_init 38 = .ok (.new 30, 3) := by decide +kernel
theorem dX9_init_41 : decode cX9_init 41 = .ok (.dup, 1) := by decide +kernel
theorem dX9_init_42 : decode cX9_init 42 = .ok (.invokespecial 32, 3) := by decide +kernel
theorem dX9_init_45 : decode cX9_init 45 = .ok (.putfield 33, 3) := by decide +kernel
theorem dX9_init_48 : decode cX9_init 48 = .ok (.aload_n 0, 1) := by decide +kernel
theorem dX9_init_49 : decode cX9_init 49 = .ok (.bipush 8, 2) := by decide +kernel
theorem dX9_init_51 : decode cX9_init 51 = .ok (.bipush 7, 2) := by decide +kernel
theorem dX9_init_53 : decode cX9_init 53 = .ok (.multianewarray 37 2, 4) := by decide +kernel
theorem dX9_init_57 : decode cX9_init 57 = .ok (.putfield 39, 3) := by decide +kernel
theorem dX9_init_60 : decode cX9_init 60 = .ok (.aload_n 0, 1) := by decide +kernel
theorem dX9_init_61 : decode cX9_init 61 = .ok (.new 42, 3) := by decide +kernel
theorem dX9_init_64 : decode cX9_init 64 = .ok (.dup, 1) := by decide +kernel
theorem dX9_init_65 : decode cX9_init 65 = .ok (.invokespecial 44, 3) := by decide +kernel
theorem dX9_init_68 : decode cX9_init 68 = .ok (.putfield 45, 3) := by decide +kernel
theorem dX9_init_71 : decode cX9_init 71 = .ok (.aload_n 0, 1) := by decide +kernel
theorem dX9_init_72 : decode cX9_init 72 = .ok (.aload_n 0, 1) := by decide +kernel
theorem dX9_init_73 : decode cX9_init 73 = .ok (.getfield 45, 3) := by decide +kernel
theorem dX9_init_76 : decode cX9_init 76 = .ok (.getfield 49, 3) := by decide +kernel
theorem dX9_init_79 : decode cX9_init 79 = .ok (.putfield 53, 3) := by decide +kernel
theorem dX9_init_82 : decode cX9_init 82 = .ok (.aload_n 0, 1) := by decide +kernel
theorem dX9_init_83 : decode cX9_init 83 = .ok (.iconst 2, 1) := by decide +kernel
theorem dX9_init_84 : decode cX9_init 84 = .ok (.anewarray 54, 3) := by decide +kernel
theorem dX9_init_87 : decode cX9_init 87 = .ok (.putfield 56, 3) := by decide +kernel
theorem dX9_init_90 : decode cX9_init 90 = .ok (.aload_n 0, 1) := by decide +kernel
theorem dX9_init_91 : decode cX9_init 91 = .ok (.iconst 4, 1) := by decide +kernel
theorem dX9_init_92 : decode cX9_init 92 = .ok (.anewarray 60, 3) := by decide +kernel
theorem dX9_init_95 : decode cX9_init 95 = .ok (.putfield 62, 3) := by decide +kernel
theorem dX9_init_98 : decode cX9_init 98 = .ok (.aload_n 0, 1) := by decide +kernel
theorem dX9_init_99 : decode cX9_init 99 = .ok (.iconst 0, 1) := by decide +kernel
theorem dX9_init_100 : decode cX9_init 100 = .ok (.putfield 66, 3) := by decide +kernel
theorem dX9_init_103 : decode cX9_init 103 = .ok (.aload_n 0, 1) := by decide +kernel
theorem dX9_init_104 : decode cX9_init 104 = .ok (.iconst 0, 1) := by decide +kernel
theorem dX9_init_105 : decode cX9_init 105 = .ok (.putfield 70, 3) := by decide +kernel
theorem dX9_init_108 : decode cX9_init 108 = .ok (.iconst 0, 1) := by decide +kernel
theorem dX9_init_109 : decode cX9_init 109 = .ok (.istore_n 1, 1) := by decide +kernel
theorem dX9_init_110 : decode cX9_init 110 = .ok (.iload_n 1, 1) := by decide +kernel
theorem dX9_init_111 : decode cX9_init 111 = .ok (.iconst 2, 1) := by decide +kernel
theorem dX9_init_112 : decode cX9_init 112 = .ok (.if_icmp .ge 22, 3) := by decide +kernel
theorem dX9_init_115 : decode cX9_init 115 = .ok (.aload_n 0, 1) := by decide +kernel
theorem dX9_init_116 : decode cX9_init 116 = .ok (.getfield 56, 3) := by decide +kernel
theorem dX9_init_119 : decode cX9_init 119 = .ok (.iload_n 1, 1) := by decide +kernel
theorem dX9_init_120 : decode cX9_init 120 = .ok (.new 54, 3) := by decide +kernel
theorem dX9_init_123 : decode cX9_init 123 = .ok (.dup, 1) := by decide +kernel
theorem dX9_init_124 : decode cX9_init 124 = .ok (.invokespecial 73, 3) := by decide +kernel
theorem dX9_init_127 : decode cX9_init 127 = .ok (.aastore, 1) := by decide +kernel
theorem dX9_init_128 : decode cX9_init 128 = .ok (.iinc 1 1, 3) := by decide +kernel
theorem dX9_init_131 : decode cX9_init 131 = .ok (.goto (-21), 3) := by decide +kernel
theorem dX9_init_134 : decode cX9_init 134 = .ok (.iconst 0, 1) := by decide +kernel
theorem dX9_init_135 : decode cX9_init 135 = .ok (.istore_n 1, 1) := by decide +kernel
theorem dX9_init_136 : decode cX9_init 136 = .ok (.iload_n 1, 1) := by decide +kernel
theorem dX9_init_137 : decode cX9_init 137 = .ok (.iconst 4, 1) := by decide +kernel
theorem dX9_init_138 : decode cX9_init 138 = .ok (.if_icmp .ge 22, 3) := by decide +kernel
theorem dX9_init_141 : decode cX9_init 141 = .ok (.aload_n 0, 1) := by decide +kernel
theorem dX9_init_142 : decode cX9_init 142 = .ok (.getfield 62, 3) := by decide +kernel
theorem dX9_init_145 : decode cX9_init 145 = .ok (.iload_n 1, 1) := by decide +kernel
theorem dX9_init_146 : decode cX9_init 146 = .ok (.new 60, 3) := by decide +kernel
theorem dX9_init_149 : decode cX9_init 149 = .ok (.dup, 1) := by decide +kernel
theorem dX9_init_150 : decode cX9_init 150 = .ok (.invokespecial 74, 3) := by decide +kernel
theorem dX9_init_153 : decode cX9_init 153 = .ok (.aastore, 1) := by decide +kernel
theorem dX9_init_154 : decode cX9_init 154 = .ok (.iinc 1 1, 3) := by decide +kernel
theorem dX9_init_157 : decode cX9_init 157 = .ok (.goto (-21), 3) := by decide +kernel
theorem dX9_init_160 : decode cX9_init 160 = .ok (.return_, 1) := by decide +kernel
theorem dX10_init_0 : decode cX10_init 0 = .ok (.aload_n 0, 1) := by decide +kernel
theorem dX10_init_1 : decode cX10_init 1 = .ok (.invokespecial 1, 3) := by decide +kernel
theorem dX10_init_4 : decode cX10_init 4 = .ok (.aload_n 0, 1) := by decide +kernel
theorem dX10_init_5 : decode cX10_init 5 = .ok (.sipush 288, 3) := by decide +kernel
theorem dX10_init_8 : decode cX10_init 8 = .ok (.newarray .int, 2) := by decide +kernel
theorem dX10_init_10 : decode cX10_init 10 = .ok (.putfield 7, 3) := by decide +kernel
theorem dX10_init_13 : decode cX10_init 13 = .ok (.aload_n 0, 1) := by decide +kernel
theorem dX10_init_14 : decode cX10_init 14 = .ok (.bipush 96, 2) := by decide +kernel
theorem dX10_init_16 : decode cX10_init 16 = .ok (.newarray .int, 2) := by decide +kernel
theorem dX10_init_18 : decode cX10_init 18 = .ok (.putfield 13, 3) := by decide +kernel
theorem dX10_init_21 : decode cX10_init 21 = .ok (.aload_n 0, 1) := by decide +kernel
theorem dX10_init_22 : decode cX10_init 22 = .ok (.iconst 2, 1) := by decide +kernel
theorem dX10_init_23 : decode cX10_init 23 = .ok (.newarray .boolean, 2) := by decide +kernel
theorem dX10_init_25 : decode cX10_init 25 = .ok (.putfield 16, 3) := by decide +kernel
theorem dX10_init_28 : decode cX10_init 28 = .ok (.aload_n 0, 1) := by decide +kernel
theorem dX10_init_29 : decode cX10_init 29 = .ok (.bipush 96, 2) := by decide +kernel
theorem dX10_init_31 : decode cX10_init 31 = .ok (.newarray .int, 2) := by decide +kernel
theorem dX10_init_33 : decode cX10_init 33 = .ok (.putfield 20, 3) := by decide +kernel
theorem dX10_init_36 : decode cX10_init 36 = .ok (.aload_n 0, 1) := by decide +kernel
theorem dX10_init_37 : decode cX10_init 37 = .ok (.sipush 160, 3) := by decide +kernel
theorem dX10_init_40 : decode cX10_init 40 = .ok (.newarray .int, 2) := by decide +kernel
theorem dX10_init_42 : decode cX10_init 42 = .ok (.putfield 23, 3) := by decide +kernel
theorem dX10_init_45 : decode cX10_init 45 = .ok (.aload_n 0, 1) := by decide +kernel
theorem dX10_init_46 : decode cX10_init 46 = .ok (.bipush 8, 2) := by decide +kernel
theorem dX10_init_48 : decode cX10_init 48 = .ok (.newarray .int, 2) := by decide +kernel
theorem dX10_init_50 : decode cX10_init 50 = .ok (.putfield 26, 3) := by decide +kernel
theorem dX10_init_53 : decode cX10_init 53 = .ok (.aload_n 0, 1) := by decide +kernel
theorem dX10_init_54 : decode cX10_init 54 = .ok (.bipush 56, 2) := by decide +kernel
theorem dX10_init_56 : decode cX10_init 56 = .ok (.newarray .int, 2) := by decide +kernel
theorem dX10_init_58 : decode cX10_init 58 = .ok (.putfield 29, 3) := by decide +kernel
theorem dX10_init_61 : decode cX10_init 61 = .ok (.aload_n 0, 1) := by decide +kernel
theorem dX10_init_62 : decode cX10_init 62 = .ok (.iconst 4, 1) := by decide +kernel
theorem dX10_init_63 : decode cX10_init 63 = .ok (.newarray .int, 2) := by decide +kernel
theorem dX10_init_65 : decode cX10_init 65 = .ok (.putfield 32, 3) := by decide +kernel
theorem dX10_init_68 : decode cX10_init 68 = .ok (.aload_n 0, 1) := by decide +kernel
theorem dX10_init_69 : decode cX10_init 69 = .ok (.iconst 4, 1) := by decide +kernel
theorem dX10_init_70 : decode cX10_init 70 = .ok (.newarray .int, 2) := by decide +kernel
theorem dX10_init_72 : decode cX10_init 72 = .ok (.putfield 35, 3) := by decide +kernel
theorem dX10_init_75 : decode cX10_init 75 = .ok (.aload_n 0, 1) := by decide +kernel
theorem dX10_init_76 : decode cX10_init 76 = .ok (.sipush 160, 3) := by decide +kernel
theorem dX10_init_79 : decode cX10_init 79 = .ok (.newarray .int, 2) := by decide +kernel
theorem dX10_init_81 : decode cX10_init 81 = .ok (.putfield 38, 3) := by decide +kernel
theorem dX10_init_84 : decode cX10_init 84 = .ok (.aload_n 0, 1) := by decide +kernel
theorem dX10_init_85 : decode cX10_init 85 = .ok (.bipush 96, 2) := by decide +kernel
theorem dX10_init_87 : decode cX10_init 87 = .ok (.newarray .int, 2) := by decide +kernel
theorem dX10_init_89 : decode cX10_init 89 = .ok (.putfield 41, 3) := by decide +kernel
theorem dX10_init_92 : decode cX10_init 92 = .ok (.iconst 0, 1) := by decide +kernel
theorem dX10_init_93 : decode cX10_init 93 = .ok (.istore_n 1, 1) := by decide +kernel
theorem dX10_init_94 : decode cX10_init 94 = .ok (.iload_n 1, 1) := by decide +kernel
theorem dX10_init_95 : decode cX10_init 95 = .ok (.iconst 4, 1) := by decide +kernel
theorem dX10_init_96 : decode cX10_init 96 = .ok (.if_icmp .ge 17, 3) := by decide +kernel
theorem dX10_init_99 : decode cX10_init 99 = .ok (.aload_n 0, 1) := by decide +kernel
theorem dX10_init_100 : decode cX10_init 100 = .ok (.getfield 32, 3) := by decide +kernel
theorem dX10_init_103 : decode cX10_init 103 = .ok (.iload_n 1, 1) := by decide +kernel
theorem dX10_init_104 : decode cX10_init 104 = .ok (.bipush (-4), 2) := by decide +kernel
theorem dX10_init_106 : decode cX10_init 106 = .ok (.iastore, 1) := by decide +kernel
theorem dX10_init_107 : decode cX10_init 107 = .ok (.iinc 1 1, 3) := by decide +kernel
theorem dX10_init_110 : decode cX10_init 110 = .ok (.goto (-16), 3) := by decide +kernel
theorem dX10_init_113 : decode cX10_init 113 = .ok (.aload_n 0, 1) := by decide +kernel
theorem dX10_init_114 : decode cX10_init 114 = .ok (.invokevirtual 44, 3) := by decide +kernel
theorem dX10_init_117 : decode cX10_init 117 = .ok (.aload_n 0, 1) := by decide +kernel
theorem dX10_init_118 : decode cX10_init 118 = .ok (.invokevirtual 47, 3) := by decide +kernel
theorem dX10_init_121 : decode cX10_init 121 = .ok (.return_, 1) := by decide +kernel
set_option maxRecDepth 100000 in
set_option maxHeartbeats 4000000 in
theorem K_X0 {ω : WD} {b0 : Nat} {E : Nat → va_E} (hE : ∀ j, 40 ≤ j → j < 40 + 1 + 0 → E j = E0 ω j) : CtB ω b0 yX0_init cX0_init 1 1 0 0 40 0 [.int 0, .int 0] [] E := by
  refine CtB.start (own := RX0) (by decide +kernel) rfl rfl (Nat.le_of_ble_eq_true rfl) (fun ρ C hnm R => ?_)
  have hZ : ∀ j, 40 < j → j < 40 + 1 + 0 → E j = E0 ω j := fun j a b => hE j (by omega) b
  show Bj ω b0 ρ (40 + 1) (upE E 40 (.inr (0, [.int 0, .int 0]))) [] 0 0 0 [(0, .ref (adr ω 40))] []
  refine B_aload C dX0_init_0 0 rfl ?_
  refine B_obj C dX0_init_1 245 84 85 (by decide +kernel) (by decide +kernel) (by decide +kernel) (Nat.le_of_ble_eq_true rfl) (by decide) ?_
  refine B_aload C dX0_init_4 0 rfl ?_
  refine B_bipush (v := (-4)) C dX0_init_5 (by decide) ?_
  refine B_put (N := 2) (T := TX0) (C := RX0) (q := 0) (ty := .int) (fs' := [.int (-4), .int 0]) C (by omega) rfl in_X0 tyX0 tyX0_ok nmX0 (by decide) 246 (by decide +kernel) rfl (Or.inl rfl) (by decide +kernel) rfl rfl (Nat.le_of_ble_eq_true rfl) rfl dX0_init_7 ?_
  refine B_aload C dX0_init_10 0 rfl ?_
  refine B_iconst (v := 0) C dX0_init_11 (by decide) ?_
  refine B_put (N := 2) (T := TX0) (C := RX0) (q := 1) (ty := .int) (fs' := [.int (-4), .int 0]) C (by omega) rfl in_X0 tyX0 tyX0_ok nmX0 (by decide) 247 (by decide +kernel) rfl (Or.inl rfl) (by decide +kernel) rfl rfl (Nat.le_of_ble_eq_true rfl) rfl dX0_init_12 ?_
  rw [upE_done (show E 40 = .inr (0, [.int (-4), .int 0]) from (hE _ (by omega) (by omega)).trans (E0_obj q40 (by decide)))]
  exact R 15 _ dX0_init_15
set_option maxRecDepth 100000 in
set_option maxHeartbeats 4000000 in
theorem K_X2 {ω : WD} {b0 : Nat} {E : Nat → va_E} {x : Nat} (hx : isK 2 x) (hE : ∀ j, x ≤ j → j < x + 1 + 1 → E j = E0 ω j) : CtB ω b0 yX2_init cX2_init 1 1 1 4 x 2 [.int 0, .int 0, .int 0, .int 0, .int 0, .null] [] E := by
  refine CtB.start (own := RX2) (by decide +kernel) rfl rfl (Nat.le_of_ble_eq_true rfl) (fun ρ C hnm R => ?_)
  have hZ : ∀ j, x < j → j < x + 1 + 1 → E j = E0 ω j := fun j a b => hE j (by omega) b
  show Bj ω b0 ρ (x + 1) (upE E x (.inr (2, [.int 0, .int 0, .int 0, .int 0, .int 0, .null]))) [] 0 0 0 [(0, .ref (adr ω x))] []
  refine B_aload C dX2_init_0 0 rfl ?_
  refine B_obj C dX2_init_1 98 84 85 (by decide +kernel) (by decide +kernel) (by decide +kernel) (Nat.le_of_ble_eq_true rfl) (by decide) ?_
  refine B_aload C dX2_init_4 0 rfl ?_
  refine B_iconst (v := 0) C dX2_init_5 (by decide) ?_
  refine B_put (N := 6) (T := TX2) (C := RX2) (q := 0) (ty := .int) (fs' := [.int 0, .int 0, .int 0, .int 0, .int 0, .null]) C (by omega) rfl in_X2 tyX2 tyX2_ok nmX2 (by decide) 99 (by decide +kernel) rfl (Or.inl rfl) (by decide +kernel) rfl rfl (Nat.le_of_ble_eq_true rfl) rfl dX2_init_6 ?_
  refine B_aload C dX2_init_9 0 rfl ?_
  refine B_iconst (v := 1) C dX2_init_10 (by decide) ?_
  refine B_put (N := 6) (T := TX2) (C := RX2) (q := 1) (ty := .int) (fs' := [.int 0, .int 1, .int 0, .int 0, .int 0, .null]) C (by omega) rfl in_X2 tyX2 tyX2_ok nmX2 (by decide) 102 (by decide +kernel) rfl (Or.inl rfl) (by decide +kernel) rfl rfl (Nat.le_of_ble_eq_true rfl) rfl dX2_init_11 ?_
  refine B_aload C dX2_init_14 0 rfl ?_
  refine B_iconst (v := 0) C dX2_init_15 (by decide) ?_
  refine B_put (N := 6) (T := TX2) (C := RX2) (q := 2) (ty := .int) (fs' := [.int 0, .int 1, .int 0, .int 0, .int 0, .null]) C (by omega) rfl in_X2 tyX2 tyX2_ok nmX2 (by decide) 105 (by decide +kernel) rfl (Or.inl rfl) (by decide +kernel) rfl rfl (Nat.le_of_ble_eq_true rfl) rfl dX2_init_16 ?_
  refine B_aload C dX2_init_19 0 rfl ?_
  refine B_iconst (v := 0) C dX2_init_20 (by decide) ?_
  refine B_put (N := 6) (T := TX2) (C := RX2) (q := 3) (ty := .int) (fs' := [.int 0, .int 1, .int 0, .int 0, .int 0, .null]) C (by omega) rfl in_X2 tyX2 tyX2_ok nmX2 (by decide) 108 (by decide +kernel) rfl (Or.inl rfl) (by decide +kernel) rfl rfl (Nat.le_of_ble_eq_true rfl) rfl dX2_init_21 ?_
  refine B_aload C dX2_init_24 0 rfl ?_
  refine B_bipush (v := (-4)) C dX2_init_25 (by decide) ?_
  refine B_put (N := 6) (T := TX2) (C := RX2) (q := 4) (ty := .int) (fs' := [.int 0, .int 1, .int 0, .int 0, .int (-4), .null]) C (by omega) rfl in_X2 tyX2 tyX2_ok nmX2 (by decide) 111 (by decide +kernel) rfl (Or.inl rfl) (by decide +kernel) rfl rfl (Nat.le_of_ble_eq_true rfl) rfl dX2_init_27 ?_
  refine B_aload C dX2_init_30 0 rfl ?_
  refine B_iconst (v := 4) C dX2_init_31 (by decide) ?_
  refine B_newI (N := 4) C dX2_init_32 130 (by decide +kernel) rfl (Nat.le_of_ble_eq_true rfl) (((upE_ne (by omega)).trans (hZ _ (by omega) (by omega))).trans (E0_arr (st_2_5 hx))) (Nat.le_of_ble_eq_true rfl) (Nat.le_of_ble_eq_true rfl) ?_
  show Bj ω b0 ρ (x + 2) (upE E x (.inr (2, [.int 0, .int 1, .int 0, .int 0, .int (-4), .null]))) [] 1 4 34 [(0, .ref (adr ω x))] [.ref (adr ω (x + 1)), .ref (adr ω x)]
  refine B_put (N := 6) (T := TX2) (C := RX2) (q := 5) (ty := .array (.int)) (fs' := [.int 0, .int 1, .int 0, .int 0, .int (-4), .ref (adr ω (x + 1))]) C (by omega) rfl in_X2 tyX2 tyX2_ok nmX2 (by decide) 114 (by decide +kernel) rfl (Or.inr ⟨rfl, hnm, rfl⟩) (by decide +kernel) rfl rfl (Nat.le_of_ble_eq_true rfl) rfl dX2_init_34 ?_
  rw [upE_done (show E x = .inr (2, [.int 0, .int 1, .int 0, .int 0, .int (-4), .ref (adr ω (x + 1))]) from (hE _ (by omega) (by omega)).trans (E0_obj hx (by decide)))]
  exact R 37 _ dX2_init_37
set_option maxRecDepth 100000 in
set_option maxHeartbeats 4000000 in
theorem K_X5 {ω : WD} {b0 : Nat} {E : Nat → va_E} {x : Nat} (hx : isK 5 x) (hE : ∀ j, x ≤ j → j < x + 1 + 4 → E j = E0 ω j) : CtB ω b0 yX5_init cX5_init 1 1 4 28 x 5 [.int 0, .int 0, .null, .null, .null, .null] [] E := by
  refine CtB.start (own := RX5) (by decide +kernel) rfl rfl (Nat.le_of_ble_eq_true rfl) (fun ρ C hnm R => ?_)
  have hZ : ∀ j, x < j → j < x + 1 + 4 → E j = E0 ω j := fun j a b => hE j (by omega) b
  show Bj ω b0 ρ (x + 1) (upE E x (.inr (5, [.int 0, .int 0, .null, .null, .null, .null]))) [] 0 0 0 [(0, .ref (adr ω x))] []
  refine B_aload C dX5_init_0 0 rfl ?_
  refine B_obj C dX5_init_1 173 84 85 (by decide +kernel) (by decide +kernel) (by decide +kernel) (Nat.le_of_ble_eq_true rfl) (by decide) ?_
  refine B_aload C dX5_init_4 0 rfl ?_
  refine B_iconst (v := 0) C dX5_init_5 (by decide) ?_
  refine B_put (N := 6) (T := TX5) (C := RX5) (q := 0) (ty := .int) (fs' := [.int 0, .int 0, .null, .null, .null, .null]) C (by omega) rfl in_X5 tyX5 tyX5_ok nmX5 (by decide) 174 (by decide +kernel) rfl (Or.inl rfl) (by decide +kernel) rfl rfl (Nat.le_of_ble_eq_true rfl) rfl dX5_init_6 ?_
  refine B_aload C dX5_init_9 0 rfl ?_
  refine B_iconst (v := 0) C dX5_init_10 (by decide) ?_
  refine B_put (N := 6) (T := TX5) (C := RX5) (q := 1) (ty := .int) (fs' := [.int 0, .int 0, .null, .null, .null, .null]) C (by omega) rfl in_X5 tyX5 tyX5_ok nmX5 (by decide) 178 (by decide +kernel) rfl (Or.inl rfl) (by decide +kernel) rfl rfl (Nat.le_of_ble_eq_true rfl) rfl dX5_init_11 ?_
  refine B_aload C dX5_init_14 0 rfl ?_
  refine B_bipush (v := 8) C dX5_init_15 (by decide) ?_
  refine B_newI (N := 8) C dX5_init_17 130 (by decide +kernel) rfl (Nat.le_of_ble_eq_true rfl) (((upE_ne (by omega)).trans (hZ _ (by omega) (by omega))).trans (E0_arr (st_5_2 hx))) (Nat.le_of_ble_eq_true rfl) (Nat.le_of_ble_eq_true rfl) ?_
  show Bj ω b0 ρ (x + 2) (upE E x (.inr (5, [.int 0, .int 0, .null, .null, .null, .null]))) [] 1 8 19 [(0, .ref (adr ω x))] [.ref (adr ω (x + 1)), .ref (adr ω x)]
  refine B_put (N := 6) (T := TX5) (C := RX5) (q := 2) (ty := .array (.int)) (fs' := [.int 0, .int 0, .ref (adr ω (x + 1)), .null, .null, .null]) C (by omega) rfl in_X5 tyX5 tyX5_ok nmX5 (by decide) 181 (by decide +kernel) rfl (Or.inr ⟨rfl, hnm, rfl⟩) (by decide +kernel) rfl rfl (Nat.le_of_ble_eq_true rfl) rfl dX5_init_19 ?_
  refine B_aload C dX5_init_22 0 rfl ?_
  refine B_bipush (v := 8) C dX5_init_23 (by decide) ?_
  refine B_newI (N := 8) C dX5_init_25 130 (by decide +kernel) rfl (Nat.le_of_ble_eq_true rfl) (((upE_ne (by omega)).trans (hZ _ (by omega) (by omega))).trans (E0_arr (st_5_3 hx))) (Nat.le_of_ble_eq_true rfl) (Nat.le_of_ble_eq_true rfl) ?_
  show Bj ω b0 ρ (x + 3) (upE E x (.inr (5, [.int 0, .int 0, .ref (adr ω (x + 1)), .null, .null, .null]))) [] 2 16 27 [(0, .ref (adr ω x))] [.ref (adr ω (x + 2)), .ref (adr ω x)]
  refine B_put (N := 6) (T := TX5) (C := RX5) (q := 3) (ty := .array (.int)) (fs' := [.int 0, .int 0, .ref (adr ω (x + 1)), .ref (adr ω (x + 2)), .null, .null]) C (by omega) rfl in_X5 tyX5 tyX5_ok nmX5 (by decide) 185 (by decide +kernel) rfl (Or.inr ⟨rfl, hnm, rfl⟩) (by decide +kernel) rfl rfl (Nat.le_of_ble_eq_true rfl) rfl dX5_init_27 ?_
  refine B_aload C dX5_init_30 0 rfl ?_
  refine B_bipush (v := 6) C dX5_init_31 (by decide) ?_
  refine B_newI (N := 6) C dX5_init_33 130 (by decide +kernel) rfl (Nat.le_of_ble_eq_true rfl) (((upE_ne (by omega)).trans (hZ _ (by omega) (by omega))).trans (E0_arr (st_5_4 hx))) (Nat.le_of_ble_eq_true rfl) (Nat.le_of_ble_eq_true rfl) ?_
  show Bj ω b0 ρ (x + 4) (upE E x (.inr (5, [.int 0, .int 0, .ref (adr ω (x + 1)), .ref (adr ω (x + 2)), .null, .null]))) [] 3 22 35 [(0, .ref (adr ω x))] [.ref (adr ω (x + 3)), .ref (adr ω x)]
  refine B_put (N := 6) (T := TX5) (C := RX5) (q := 4) (ty := .array (.int)) (fs' := [.int 0, .int 0, .ref (adr ω (x + 1)), .ref (adr ω (x + 2)), .ref (adr ω (x + 3)), .null]) C (by omega) rfl in_X5 tyX5 tyX5_ok nmX5 (by decide) 188 (by decide +kernel) rfl (Or.inr ⟨rfl, hnm, rfl⟩) (by decide +kernel) rfl rfl (Nat.le_of_ble_eq_true rfl) rfl dX5_init_35 ?_
  refine B_aload C dX5_init_38 0 rfl ?_
  refine B_bipush (v := 6) C dX5_init_39 (by decide) ?_
  refine B_newI (N := 6) C dX5_init_41 130 (by decide +kernel) rfl (Nat.le_of_ble_eq_true rfl) (((upE_ne (by omega)).trans (hZ _ (by omega) (by omega))).trans (E0_arr (st_5_5 hx))) (Nat.le_of_ble_eq_true rfl) (Nat.le_of_ble_eq_true rfl) ?_
  show Bj ω b0 ρ (x + 5) (upE E x (.inr (5, [.int 0, .int 0, .ref (adr ω (x + 1)), .ref (adr ω (x + 2)), .ref (adr ω (x + 3)), .null]))) [] 4 28 43 [(0, .ref (adr ω x))] [.ref (adr ω (x + 4)), .ref (adr ω x)]
  refine B_put (N := 6) (T := TX5) (C := RX5) (q := 5) (ty := .array (.int)) (fs' := [.int 0, .int 0, .ref (adr ω (x + 1)), .ref (adr ω (x + 2)), .ref (adr ω (x + 3)), .ref (adr ω (x + 4))]) C (by omega) rfl in_X5 tyX5 tyX5_ok nmX5 (by decide) 191 (by decide +kernel) rfl (Or.inr ⟨rfl, hnm, rfl⟩) (by decide +kernel) rfl rfl (Nat.le_of_ble_eq_true rfl) rfl dX5_init_43 ?_
  rw [upE_done (show E x = .inr (5, [.int 0, .int 0, .ref (adr ω (x + 1)), .ref (adr ω (x + 2)), .ref (adr ω (x + 3)), .ref (adr ω (x + 4))]) from (hE _ (by omega) (by omega)).trans (E0_obj hx (by decide)))]
  exact R 46 _ dX5_init_46
set_option maxRecDepth 100000 in
set_option maxHeartbeats 4000000 in
theorem K_X6 {ω : WD} {b0 : Nat} {E : Nat → va_E} {x : Nat} (hx : isK 6 x) (hE : ∀ j, x ≤ j → j < x + 1 + 1 → E j = E0 ω j) : CtB ω b0 yX6_init cX6_init 1 1 1 40 x 6 [.int 0, .int 0, .null] [] E := by
  refine CtB.start (own := RX6) (by decide +kernel) rfl rfl (Nat.le_of_ble_eq_true rfl) (fun ρ C hnm R => ?_)
  have hZ : ∀ j, x < j → j < x + 1 + 1 → E j = E0 ω j := fun j a b => hE j (by omega) b
  show Bj ω b0 ρ (x + 1) (upE E x (.inr (6, [.int 0, .int 0, .null]))) [] 0 0 0 [(0, .ref (adr ω x))] []
  refine B_aload C dX6_init_0 0 rfl ?_
  refine B_obj C dX6_init_1 359 84 85 (by decide +kernel) (by decide +kernel) (by decide +kernel) (Nat.le_of_ble_eq_true rfl) (by decide) ?_
  refine B_aload C dX6_init_4 0 rfl ?_
  refine B_iconst (v := 0) C dX6_init_5 (by decide) ?_
  refine B_put (N := 3) (T := TX6) (C := RX6) (q := 0) (ty := .int) (fs' := [.int 0, .int 0, .null]) C (by omega) rfl in_X6 tyX6 tyX6_ok nmX6 (by decide) 360 (by decide +kernel) rfl (Or.inl rfl) (by decide +kernel) rfl rfl (Nat.le_of_ble_eq_true rfl) rfl dX6_init_6 ?_
  refine B_aload C dX6_init_9 0 rfl ?_
  refine B_bipush (v := (-4)) C dX6_init_10 (by decide) ?_
  refine B_put (N := 3) (T := TX6) (C := RX6) (q := 1) (ty := .int) (fs' := [.int 0, .int (-4), .null]) C (by omega) rfl in_X6 tyX6 tyX6_ok nmX6 (by decide) 361 (by decide +kernel) rfl (Or.inl rfl) (by decide +kernel) rfl rfl (Nat.le_of_ble_eq_true rfl) rfl dX6_init_12 ?_
  refine B_aload C dX6_init_15 0 rfl ?_
  refine B_bipush (v := 40) C dX6_init_16 (by decide) ?_
  refine B_newI (N := 40) C dX6_init_18 130 (by decide +kernel) rfl (Nat.le_of_ble_eq_true rfl) (((upE_ne (by omega)).trans (hZ _ (by omega) (by omega))).trans (E0_arr (st_6_2 hx))) (Nat.le_of_ble_eq_true rfl) (Nat.le_of_ble_eq_true rfl) ?_
  show Bj ω b0 ρ (x + 2) (upE E x (.inr (6, [.int 0, .int (-4), .null]))) [] 1 40 20 [(0, .ref (adr ω x))] [.ref (adr ω (x + 1)), .ref (adr ω x)]
  refine B_put (N := 3) (T := TX6) (C := RX6) (q := 2) (ty := .array (.int)) (fs' := [.int 0, .int (-4), .ref (adr ω (x + 1))]) C (by omega) rfl in_X6 tyX6 tyX6_ok nmX6 (by decide) 363 (by decide +kernel) rfl (Or.inr ⟨rfl, hnm, rfl⟩) (by decide +kernel) rfl rfl (Nat.le_of_ble_eq_true rfl) rfl dX6_init_20 ?_
  rw [upE_done (show E x = .inr (6, [.int 0, .int (-4), .ref (adr ω (x + 1))]) from (hE _ (by omega) (by omega)).trans (E0_obj hx (by decide)))]
  exact R 23 _ dX6_init_23
set_option maxRecDepth 100000 in
set_option maxHeartbeats 4000000 in
theorem K_X7 {ω : WD} {b0 : Nat} {E : Nat → va_E} (hE : ∀ j, 51 ≤ j → j < 51 + 1 + 1 → E j = E0 ω j) : CtB ω b0 yX7_init cX7_init 1 1 1 160 51 7 [.null, .int 0, .int 0, .int 0, .int 0, .int 0] [] E := by
  refine CtB.start (own := RX7) (by decide +kernel) rfl rfl (Nat.le_of_ble_eq_true rfl) (fun ρ C hnm R => ?_)
  have hZ : ∀ j, 51 < j → j < 51 + 1 + 1 → E j = E0 ω j := fun j a b => hE j (by omega) b
  show Bj ω b0 ρ (51 + 1) (upE E 51 (.inr (7, [.null, .int 0, .int 0, .int 0, .int 0, .int 0]))) [] 0 0 0 [(0, .ref (adr ω 51))] []
  refine B_aload C dX7_init_0 0 rfl ?_
  refine B_obj C dX7_init_1 266 84 85 (by decide +kernel) (by decide +kernel) (by decide +kernel) (Nat.le_of_ble_eq_true rfl) (by decide) ?_
  refine B_aload C dX7_init_4 0 rfl ?_
  refine B_sipush (v := 160) C dX7_init_5 (by decide) ?_
  refine B_newI (N := 160) C dX7_init_8 130 (by decide +kernel) rfl (Nat.le_of_ble_eq_true rfl) (((upE_ne (by omega)).trans (hZ _ (by omega) (by omega))).trans (E0_arr q52)) (Nat.le_of_ble_eq_true rfl) (Nat.le_of_ble_eq_true rfl) ?_
  show Bj ω b0 ρ (53) (upE E 51 (.inr (7, [.null, .int 0, .int 0, .int 0, .int 0, .int 0]))) [] 1 160 10 [(0, .ref (adr ω 51))] [.ref (adr ω 52), .ref (adr ω 51)]
  refine B_put (N := 6) (T := TX7) (C := RX7) (q := 0) (ty := .array (.int)) (fs' := [.ref (adr ω 52), .int 0, .int 0, .int 0, .int 0, .int 0]) C (by omega) rfl in_X7 tyX7 tyX7_ok nmX7 (by decide) 267 (by decide +kernel) rfl (Or.inr ⟨rfl, hnm, rfl⟩) (by decide +kernel) rfl rfl (Nat.le_of_ble_eq_true rfl) rfl dX7_init_10 ?_
  refine B_aload C dX7_init_13 0 rfl ?_
  refine B_iconst (v := 0) C dX7_init_14 (by decide) ?_
  refine B_put (N := 6) (T := TX7) (C := RX7) (q := 1) (ty := .int) (fs' := [.ref (adr ω 52), .int 0, .int 0, .int 0, .int 0, .int 0]) C (by omega) rfl in_X7 tyX7 tyX7_ok nmX7 (by decide) 269 (by decide +kernel) rfl (Or.inl rfl) (by decide +kernel) rfl rfl (Nat.le_of_ble_eq_true rfl) rfl dX7_init_15 ?_
  refine B_aload C dX7_init_18 0 rfl ?_
  refine B_iconst (v := 0) C dX7_init_19 (by decide) ?_
  refine B_put (N := 6) (T := TX7) (C := RX7) (q := 2) (ty := .int) (fs' := [.ref (adr ω 52), .int 0, .int 0, .int 0, .int 0, .int 0]) C (by omega) rfl in_X7 tyX7 tyX7_ok nmX7 (by decide) 271 (by decide +kernel) rfl (Or.inl rfl) (by decide +kernel) rfl rfl (Nat.le_of_ble_eq_true rfl) rfl dX7_init_20 ?_
  refine B_aload C dX7_init_23 0 rfl ?_
  refine B_iconst (v := 0) C dX7_init_24 (by decide) ?_
  refine B_put (N := 6) (T := TX7) (C := RX7) (q := 3) (ty := .int) (fs' := [.ref (adr ω 52), .int 0, .int 0, .int 0, .int 0, .int 0]) C (by omega) rfl in_X7 tyX7 tyX7_ok nmX7 (by decide) 273 (by decide +kernel) rfl (Or.inl rfl) (by decide +kernel) rfl rfl (Nat.le_of_ble_eq_true rfl) rfl dX7_init_25 ?_
  refine B_aload C dX7_init_28 0 rfl ?_
  refine B_iconst (v := 0) C dX7_init_29 (by decide) ?_
  refine B_put (N := 6) (T := TX7) (C := RX7) (q := 4) (ty := .int) (fs' := [.ref (adr ω 52), .int 0, .int 0, .int 0, .int 0, .int 0]) C (by omega) rfl in_X7 tyX7 tyX7_ok nmX7 (by decide) 275 (by decide +kernel) rfl (Or.inl rfl) (by decide +kernel) rfl rfl (Nat.le_of_ble_eq_true rfl) rfl dX7_init_30 ?_
  refine B_aload C dX7_init_33 0 rfl ?_
  refine B_iconst (v := 0) C dX7_init_34 (by decide) ?_
  refine B_put (N := 6) (T := TX7) (C := RX7) (q := 5) (ty := .int) (fs' := [.ref (adr ω 52), .int 0, .int 0, .int 0, .int 0, .int 0]) C (by omega) rfl in_X7 tyX7 tyX7_ok nmX7 (by decide) 276 (by decide +kernel) rfl (Or.inl rfl) (by decide +kernel) rfl rfl (Nat.le_of_ble_eq_true rfl) rfl dX7_init_35 ?_
  rw [upE_done (show E 51 = .inr (7, [.ref (adr ω 52), .int 0, .int 0, .int 0, .int 0, .int 0]) from (hE _ (by omega) (by omega)).trans (E0_obj q51 (by decide)))]
  exact R 38 _ dX7_init_38
set_option maxRecDepth 100000 in
set_option maxHeartbeats 4000000 in
theorem K_X1 {ω : WD} {b0 : Nat} {E : Nat → va_E} {x : Nat} (hx : isK 1 x) (hE : ∀ j, x ≤ j → j < x + 1 + 15 → E j = E0 ω j) : CtB ω b0 yX1_init cX1_init 2 2 15 79 x 1 [.int 0, .int 0, .int 0, .null, .null, .null, .null, .null] [] E := by
  refine CtB.start (own := RX1) (by decide +kernel) rfl rfl (Nat.le_of_ble_eq_true rfl) (fun ρ C hnm R => ?_)
  obtain ⟨Z, eZ⟩ : ∃ Z : Nat → Nat → va_E, Z = fun t => upE E (x + 5) (.inl (ω.2.2.2.1 2, 5, .inr (.inr (.inr (.inr (fun i => if i < t then some (adr ω (x + 5 + 1 + 2 * i)) else none)))))) := ⟨_, rfl⟩
  have hZ : ∀ t j, x < j → j < x + 16 → j ≠ x + 5 → Z t j = E0 ω j := fun t j a b c => by rw [eZ]; exact (upE_ne c).trans (hE j (by omega) (by omega))
  have hQ : ∀ t, Z t (x + 5) = .inl (ω.2.2.2.1 2, 5, .inr (.inr (.inr (.inr (fun i => if i < t then some (adr ω (x + 5 + 1 + 2 * i)) else none))))) := fun t => by rw [eZ]; exact upE_eq rfl
  have hQ2 : Z 0 (x + 5) = .inl (ω.2.2.2.1 2, 5, .inr (.inr (.inr (.inr (fun _ => none))))) := by rw [hQ]; simp
  have hX : ∀ t, Z t x = .inr (1, [.int 0, .int 2, .int 0, .ref (adr ω (x + 1)), .ref (adr ω (x + 2)), .ref (adr ω (x + 3)), .ref (adr ω (x + 4)), .ref (adr ω (x + 5))]) := fun t => by rw [eZ]; exact (upE_ne (by omega)).trans ((hE _ (by omega) (by omega)).trans (E0_obj hx (by decide)))
  refine Bj.to (E' := (upE (Z 0) x (.inr (1, [.int 0, .int 0, .int 0, .null, .null, .null, .null, .null])))) (fun j hj => ?_) ?_
  · by_cases z : j = x
    · rw [upE_eq z, upE_eq z]
    · rw [upE_ne z, upE_ne z, eZ]; exact upE_ne (by omega)
  show Bj ω b0 ρ (x + 1) (upE (Z 0) x (.inr (1, [.int 0, .int 0, .int 0, .null, .null, .null, .null, .null]))) [] 0 0 0 [(0, .ref (adr ω x))] []
  refine B_aload C dX1_init_0 0 rfl ?_
  refine B_obj C dX1_init_1 91 84 85 (by decide +kernel) (by decide +kernel) (by decide +kernel) (Nat.le_of_ble_eq_true rfl) (by decide) ?_
  refine B_aload C dX1_init_4 0 rfl ?_
  refine B_iconst (v := 0) C dX1_init_5 (by decide) ?_
  refine B_put (N := 8) (T := TX1) (C := RX1) (q := 0) (ty := .int) (fs' := [.int 0, .int 0, .int 0, .null, .null, .null, .null, .null]) C (by omega) rfl in_X1 tyX1 tyX1_ok nmX1 (by decide) 131 (by decide +kernel) rfl (Or.inl rfl) (by decide +kernel) rfl rfl (Nat.le_of_ble_eq_true rfl) rfl dX1_init_6 ?_
  refine B_aload C dX1_init_9 0 rfl ?_
  refine B_iconst (v := 2) C dX1_init_10 (by decide) ?_
  refine B_put (N := 8) (T := TX1) (C := RX1) (q := 1) (ty := .int) (fs' := [.int 0, .int 2, .int 0, .null, .null, .null, .null, .null]) C (by omega) rfl in_X1 tyX1 tyX1_ok nmX1 (by decide) 134 (by decide +kernel) rfl (Or.inl rfl) (by decide +kernel) rfl rfl (Nat.le_of_ble_eq_true rfl) rfl dX1_init_11 ?_
  refine B_aload C dX1_init_14 0 rfl ?_
  refine B_iconst (v := 0) C dX1_init_15 (by decide) ?_
  refine B_put (N := 8) (T := TX1) (C := RX1) (q := 2) (ty := .int) (fs' := [.int 0, .int 2, .int 0, .null, .null, .null, .null, .null]) C (by omega) rfl in_X1 tyX1 tyX1_ok nmX1 (by decide) 137 (by decide +kernel) rfl (Or.inl rfl) (by decide +kernel) rfl rfl (Nat.le_of_ble_eq_true rfl) rfl dX1_init_16 ?_
  refine B_aload C dX1_init_19 0 rfl ?_
  refine B_bipush (v := 6) C dX1_init_20 (by decide) ?_
  refine B_newI (N := 6) C dX1_init_22 130 (by decide +kernel) rfl (Nat.le_of_ble_eq_true rfl) (((upE_ne (by omega)).trans (hZ 0 _ (by omega) (by omega) (by omega))).trans (E0_arr (st_1_3 hx))) (Nat.le_of_ble_eq_true rfl) (Nat.le_of_ble_eq_true rfl) ?_
  show Bj ω b0 ρ (x + 2) (upE (Z 0) x (.inr (1, [.int 0, .int 2, .int 0, .null, .null, .null, .null, .null]))) [] 1 6 24 [(0, .ref (adr ω x))] [.ref (adr ω (x + 1)), .ref (adr ω x)]
  refine B_put (N := 8) (T := TX1) (C := RX1) (q := 3) (ty := .array (.int)) (fs' := [.int 0, .int 2, .int 0, .ref (adr ω (x + 1)), .null, .null, .null, .null]) C (by omega) rfl in_X1 tyX1 tyX1_ok nmX1 (by decide) 139 (by decide +kernel) rfl (Or.inr ⟨rfl, hnm, rfl⟩) (by decide +kernel) rfl rfl (Nat.le_of_ble_eq_true rfl) rfl dX1_init_24 ?_
  refine B_aload C dX1_init_27 0 rfl ?_
  refine B_bipush (v := 6) C dX1_init_28 (by decide) ?_
  refine B_newI (N := 6) C dX1_init_30 130 (by decide +kernel) rfl (Nat.le_of_ble_eq_true rfl) (((upE_ne (by omega)).trans (hZ 0 _ (by omega) (by omega) (by omega))).trans (E0_arr (st_1_4 hx))) (Nat.le_of_ble_eq_true rfl) (Nat.le_of_ble_eq_true rfl) ?_
  show Bj ω b0 ρ (x + 3) (upE (Z 0) x (.inr (1, [.int 0, .int 2, .int 0, .ref (adr ω (x + 1)), .null, .null, .null, .null]))) [] 2 12 32 [(0, .ref (adr ω x))] [.ref (adr ω (x + 2)), .ref (adr ω x)]
  refine B_put (N := 8) (T := TX1) (C := RX1) (q := 4) (ty := .array (.int)) (fs' := [.int 0, .int 2, .int 0, .ref (adr ω (x + 1)), .ref (adr ω (x + 2)), .null, .null, .null]) C (by omega) rfl in_X1 tyX1 tyX1_ok nmX1 (by decide) 141 (by decide +kernel) rfl (Or.inr ⟨rfl, hnm, rfl⟩) (by decide +kernel) rfl rfl (Nat.le_of_ble_eq_true rfl) rfl dX1_init_32 ?_
  refine B_aload C dX1_init_35 0 rfl ?_
  refine B_bipush (v := 6) C dX1_init_36 (by decide) ?_
  refine B_newI (N := 6) C dX1_init_38 130 (by decide +kernel) rfl (Nat.le_of_ble_eq_true rfl) (((upE_ne (by omega)).trans (hZ 0 _ (by omega) (by omega) (by omega))).trans (E0_arr (st_1_5 hx))) (Nat.le_of_ble_eq_true rfl) (Nat.le_of_ble_eq_true rfl) ?_
  show Bj ω b0 ρ (x + 4) (upE (Z 0) x (.inr (1, [.int 0, .int 2, .int 0, .ref (adr ω (x + 1)), .ref (adr ω (x + 2)), .null, .null, .null]))) [] 3 18 40 [(0, .ref (adr ω x))] [.ref (adr ω (x + 3)), .ref (adr ω x)]
  refine B_put (N := 8) (T := TX1) (C := RX1) (q := 5) (ty := .array (.int)) (fs' := [.int 0, .int 2, .int 0, .ref (adr ω (x + 1)), .ref (adr ω (x + 2)), .ref (adr ω (x + 3)), .null, .null]) C (by omega) rfl in_X1 tyX1 tyX1_ok nmX1 (by decide) 143 (by decide +kernel) rfl (Or.inr ⟨rfl, hnm, rfl⟩) (by decide +kernel) rfl rfl (Nat.le_of_ble_eq_true rfl) rfl dX1_init_40 ?_
  refine B_aload C dX1_init_43 0 rfl ?_
  refine B_bipush (v := 6) C dX1_init_44 (by decide) ?_
  refine B_newI (N := 6) C dX1_init_46 130 (by decide +kernel) rfl (Nat.le_of_ble_eq_true rfl) (((upE_ne (by omega)).trans (hZ 0 _ (by omega) (by omega) (by omega))).trans (E0_arr (st_1_6 hx))) (Nat.le_of_ble_eq_true rfl) (Nat.le_of_ble_eq_true rfl) ?_
  show Bj ω b0 ρ (x + 5) (upE (Z 0) x (.inr (1, [.int 0, .int 2, .int 0, .ref (adr ω (x + 1)), .ref (adr ω (x + 2)), .ref (adr ω (x + 3)), .null, .null]))) [] 4 24 48 [(0, .ref (adr ω x))] [.ref (adr ω (x + 4)), .ref (adr ω x)]
  refine B_put (N := 8) (T := TX1) (C := RX1) (q := 6) (ty := .array (.int)) (fs' := [.int 0, .int 2, .int 0, .ref (adr ω (x + 1)), .ref (adr ω (x + 2)), .ref (adr ω (x + 3)), .ref (adr ω (x + 4)), .null]) C (by omega) rfl in_X1 tyX1 tyX1_ok nmX1 (by decide) 146 (by decide +kernel) rfl (Or.inr ⟨rfl, hnm, rfl⟩) (by decide +kernel) rfl rfl (Nat.le_of_ble_eq_true rfl) rfl dX1_init_48 ?_
  refine B_aload C dX1_init_51 0 rfl ?_
  refine B_iconst (v := 5) C dX1_init_52 (by decide) ?_
  refine B_newQ (C := "StepCalls$Group") (N := 5) (t := 2) C dX1_init_53 92 (by decide +kernel) C.2.2.2.2.2.2.2.2.2.1.1 rfl rfl (Nat.le_of_ble_eq_true rfl) ((upE_ne (by omega)).trans hQ2) (Nat.le_of_ble_eq_true rfl) (Nat.le_of_ble_eq_true rfl) ?_
  show Bj ω b0 ρ (x + 6) (upE (Z 0) x (.inr (1, [.int 0, .int 2, .int 0, .ref (adr ω (x + 1)), .ref (adr ω (x + 2)), .ref (adr ω (x + 3)), .ref (adr ω (x + 4)), .null]))) [] 5 29 56 [(0, .ref (adr ω x))] [.ref (adr ω (x + 5)), .ref (adr ω x)]
  refine B_put (N := 8) (T := TX1) (C := RX1) (q := 7) (ty := .array (.object "StepCalls$Group")) (fs' := [.int 0, .int 2, .int 0, .ref (adr ω (x + 1)), .ref (adr ω (x + 2)), .ref (adr ω (x + 3)), .ref (adr ω (x + 4)), .ref (adr ω (x + 5))]) C (by omega) rfl in_X1 tyX1 tyX1_ok nmX1 (by decide) 148 (by decide +kernel) rfl (Or.inr ⟨rfl, hnm, rfl⟩) (by decide +kernel) rfl rfl (Nat.le_of_ble_eq_true rfl) rfl dX1_init_56 ?_
  refine B_iconst (v := 0) C dX1_init_59 (by decide) ?_
  refine B_istore C dX1_init_60 (by decide) (lv' := [(1, .int 0), (0, .ref (adr ω x))]) rfl ?_
  rw [upE_done (hX 0)]
  have loop : ∀ m t, t + m = 5 → Bj ω b0 ρ (x + 6 + 2 * t) (Z t) [] (5 + 2 * t) (29 + 10 * t) 61 [(1, .int (nI t)), (0, .ref (adr ω x))] [] := by
    intro m
    induction m with
    | zero =>
      intro t ht
      obtain rfl : t = 5 := by omega
      refine B_iload C dX1_init_61 0 rfl ?_
      refine B_iconst (v := 5) C dX1_init_62 (by decide) ?_
      refine B_icmp_ge (tgt := 85) C dX1_init_63 (by decide) (fun _ => ?_) (fun c => absurd (nI_le (a := 5) (Nat.le_refl _) (by decide)) c)
      refine Bj.toC (E' := E) (fun j hj H hv => ?_) (R 85 _ dX1_init_85)
      by_cases z : j = x + 5
      · rw [z, hQ] at hv
        rw [z, hE _ (by omega) (by omega), E0_13 (st_1_7 hx)]
        exact va_refs (fun i hi => if_pos hi) hv
      · rw [eZ] at hv
        simp only [upE_ne z] at hv
        exact hv
    | succ m ih =>
      intro t ht
      refine B_iload C dX1_init_61 0 rfl ?_
      refine B_iconst (v := 5) C dX1_init_62 (by decide) ?_
      refine B_icmp_ge (tgt := 85) C dX1_init_63 (by decide) (fun c => absurd c (nI_ge (b := 5) (by omega) (by decide))) (fun _ => ?_)
      refine B_aload C dX1_init_66 1 rfl ?_
      refine B_get (N := 8) (T := TX1) (C := RX1) (q := 7) C (by omega) (hX t) rfl in_X1 (by decide) 148 (by decide +kernel) rfl rfl dX1_init_67 ?_
      refine B_iload C dX1_init_70 0 rfl ?_
      refine B_new (ci := 2) (fs := [.int 0, .int 0, .int 0, .int 0, .int 0, .null]) (N := 6) (T := TX2) C dX1_init_71 rfl in_X2 tyX2 tyX2_ok 92 94 63 (by decide +kernel) (by decide +kernel) (by decide +kernel) (fun j hj => by rcases (show j = 0 ∨ j = 1 ∨ j = 2 ∨ j = 3 ∨ j = 4 ∨ j = 5 by omega) with rfl | rfl | rfl | rfl | rfl | rfl <;> rfl) (by omega) (by omega) ?_
      refine B_dup C dX1_init_74 rfl ?_
      have hk2 : isK 2 (x + 6 + 2 * t) := by
        have := el_13 (st_1_7 hx) (x := nI t) (vp_in_nI (by omega) (by omega)) (g := x + 6 + 2 * t) (by rw [tnI (by omega)])
        exact this
      refine B_init (As := []) (rest := [.ref (adr ω (x + 6 + 2 * t)), .int (nI t), .ref (adr ω (x + 5))]) C dX1_init_75 95 96 63 97 (by decide +kernel) (by decide +kernel) (by decide +kernel) (by decide +kernel) rfl (by decide +kernel) (Nat.le_of_ble_eq_true rfl) (Nat.le_of_ble_eq_true rfl) (Nat.le_of_ble_eq_true rfl) rfl (by omega) (by omega) (K_X2 hk2 (fun j j1 j2 => hZ t j (by omega) (by omega) (by omega))) ?_
      refine B_aast (t := 2) (C := "StepCalls$Group") (N := 6) (T := TX2) (ci := 2) (i := x + 5) (o := x + 6 + 2 * t) (j := t) C (by omega) (hQ t) rfl (by omega) ((hZ t _ (by omega) (by omega) (by omega)).trans (E0_obj hk2 (by decide))) rfl rfl (by omega) (by omega) dX1_init_78 ?_
      have e1 : upE (Z t) (x + 5) (.inl (ω.2.2.2.1 2, 5, .inr (.inr (.inr (.inr (fun z => if z = t then some (adr ω (x + 6 + 2 * t)) else if z < t then some (adr ω (x + 5 + 1 + 2 * z)) else none)))))) = Z (t + 1) := by
        rw [eZ]
        simp only [upE_up]
        refine congrArg (fun f => upE E (x + 5) (.inl (ω.2.2.2.1 2, 5, .inr (.inr (.inr (.inr f)))))) (funext fun z => ?_)
        by_cases y : z = t
        · rw [if_pos y, if_pos (by omega), y, show x + 5 + 1 + 2 * t = x + 6 + 2 * t by omega]
        · rw [if_neg y]
          by_cases y2 : z < t
          · rw [if_pos y2, if_pos (by omega)]
          · rw [if_neg y2, if_neg (by omega)]
      rw [e1]
      refine B_iinc C dX1_init_79 0 rfl (v := nI (t + 1)) (nI_1 t) (by decide) (lv' := [(1, .int (nI (t + 1))), (0, .ref (adr ω x))]) rfl ?_
      refine B_goto (tgt := 61) C dX1_init_82 (by decide) ?_
      have := ih (t + 1) (by omega)
      rw [show x + 6 + 2 * (t + 1) = x + 6 + 2 * t + 1 + 1 by omega, show 5 + 2 * (t + 1) = 5 + 2 * t + 1 + 1 by omega, show 29 + 10 * (t + 1) = 29 + 10 * t + 6 + 4 by omega] at this
      exact this
  exact loop 5 0 rfl
set_option maxRecDepth 100000 in
set_option maxHeartbeats 4000000 in
theorem K_X3 {ω : WD} {b0 : Nat} {E : Nat → va_E} {x : Nat} (hx : isK 3 x) (hE : ∀ j, x ≤ j → j < x + 1 + 21 → E j = E0 ω j) : CtB ω b0 yX3_init cX3_init 1 3 21 121 x 3 [.int 0, .null, .null] [] E := by
  refine CtB.start (own := RX3) (by decide +kernel) rfl rfl (Nat.le_of_ble_eq_true rfl) (fun ρ C hnm R => ?_)
  have hZ : ∀ j, x < j → j < x + 1 + 21 → E j = E0 ω j := fun j a b => hE j (by omega) b
  show Bj ω b0 ρ (x + 1) (upE E x (.inr (3, [.int 0, .null, .null]))) [] 0 0 0 [(0, .ref (adr ω x))] []
  refine B_aload C dX3_init_0 0 rfl ?_
  refine B_obj C dX3_init_1 337 84 85 (by decide +kernel) (by decide +kernel) (by decide +kernel) (Nat.le_of_ble_eq_true rfl) (by decide) ?_
  refine B_aload C dX3_init_4 0 rfl ?_
  refine B_iconst (v := 0) C dX3_init_5 (by decide) ?_
  refine B_put (N := 3) (T := TX3) (C := RX3) (q := 0) (ty := .boolean) (fs' := [.int 0, .null, .null]) C (by omega) rfl in_X3 tyX3 tyX3_ok nmX3 (by decide) 342 (by decide +kernel) rfl (Or.inl rfl) (by decide +kernel) rfl rfl (Nat.le_of_ble_eq_true rfl) rfl dX3_init_6 ?_
  refine B_aload C dX3_init_9 0 rfl ?_
  refine B_new (ci := 1) (fs := [.int 0, .int 0, .int 0, .null, .null, .null, .null, .null]) (N := 8) (T := TX1) C dX3_init_10 rfl in_X1 tyX1 tyX1_ok 338 87 62 (by decide +kernel) (by decide +kernel) (by decide +kernel) (fun j hj => by rcases (show j = 0 ∨ j = 1 ∨ j = 2 ∨ j = 3 ∨ j = 4 ∨ j = 5 ∨ j = 6 ∨ j = 7 by omega) with rfl | rfl | rfl | rfl | rfl | rfl | rfl | rfl <;> rfl) (Nat.le_of_ble_eq_true rfl) (Nat.le_of_ble_eq_true rfl) ?_
  show Bj ω b0 ρ (x + 1) (upE E x (.inr (3, [.int 0, .null, .null]))) [(1, [.int 0, .int 0, .int 0, .null, .null, .null, .null, .null])] 1 8 13 [(0, .ref (adr ω x))] [.ref (adr ω (x + 1)), .ref (adr ω x)]
  refine B_dup C dX3_init_13 rfl ?_
  refine B_init (As := []) (rest := [.ref (adr ω (x + 1)), .ref (adr ω x)]) C dX3_init_14 339 89 62 90 (by decide +kernel) (by decide +kernel) (by decide +kernel) (by decide +kernel) rfl (by decide +kernel) (Nat.le_of_ble_eq_true rfl) (Nat.le_of_ble_eq_true rfl) (Nat.le_of_ble_eq_true rfl) rfl (Nat.le_of_ble_eq_true rfl) (Nat.le_of_ble_eq_true rfl) (K_X1 (st_3_1 hx) (fun j j1 j2 => (upE_ne (by omega)).trans (hZ j (by omega) (by omega)))) ?_
  show Bj ω b0 ρ (x + 17) (upE E x (.inr (3, [.int 0, .null, .null]))) [] 16 87 17 [(0, .ref (adr ω x))] [.ref (adr ω (x + 1)), .ref (adr ω x)]
  refine B_put (N := 3) (T := TX3) (C := RX3) (q := 1) (ty := .object "StepCalls$Exchange") (fs' := [.int 0, .ref (adr ω (x + 1)), .null]) C (by omega) rfl in_X3 tyX3 tyX3_ok nmX3 (by decide) 344 (by decide +kernel) rfl (Or.inr ⟨rfl, hnm, rfl⟩) (by decide +kernel) rfl rfl (Nat.le_of_ble_eq_true rfl) rfl dX3_init_17 ?_
  refine B_aload C dX3_init_20 0 rfl ?_
  refine B_new (ci := 5) (fs := [.int 0, .int 0, .null, .null, .null, .null]) (N := 6) (T := TX5) C dX3_init_21 rfl in_X5 tyX5 tyX5_ok 340 169 64 (by decide +kernel) (by decide +kernel) (by decide +kernel) (fun j hj => by rcases (show j = 0 ∨ j = 1 ∨ j = 2 ∨ j = 3 ∨ j = 4 ∨ j = 5 by omega) with rfl | rfl | rfl | rfl | rfl | rfl <;> rfl) (Nat.le_of_ble_eq_true rfl) (Nat.le_of_ble_eq_true rfl) ?_
  show Bj ω b0 ρ (x + 17) (upE E x (.inr (3, [.int 0, .ref (adr ω (x + 1)), .null]))) [(5, [.int 0, .int 0, .null, .null, .null, .null])] 17 93 24 [(0, .ref (adr ω x))] [.ref (adr ω (x + 17)), .ref (adr ω x)]
  refine B_dup C dX3_init_24 rfl ?_
  refine B_init (As := []) (rest := [.ref (adr ω (x + 17)), .ref (adr ω x)]) C dX3_init_25 341 171 64 172 (by decide +kernel) (by decide +kernel) (by decide +kernel) (by decide +kernel) rfl (by decide +kernel) (Nat.le_of_ble_eq_true rfl) (Nat.le_of_ble_eq_true rfl) (Nat.le_of_ble_eq_true rfl) rfl (Nat.le_of_ble_eq_true rfl) (Nat.le_of_ble_eq_true rfl) (K_X5 (st_3_2 hx) (fun j j1 j2 => (upE_ne (by omega)).trans (hZ j (by omega) (by omega)))) ?_
  show Bj ω b0 ρ (x + 22) (upE E x (.inr (3, [.int 0, .ref (adr ω (x + 1)), .null]))) [] 21 121 28 [(0, .ref (adr ω x))] [.ref (adr ω (x + 17)), .ref (adr ω x)]
  refine B_put (N := 3) (T := TX3) (C := RX3) (q := 2) (ty := .object "StepCalls$Script") (fs' := [.int 0, .ref (adr ω (x + 1)), .ref (adr ω (x + 17))]) C (by omega) rfl in_X3 tyX3 tyX3_ok nmX3 (by decide) 346 (by decide +kernel) rfl (Or.inr ⟨rfl, hnm, rfl⟩) (by decide +kernel) rfl rfl (Nat.le_of_ble_eq_true rfl) rfl dX3_init_28 ?_
  rw [upE_done (show E x = .inr (3, [.int 0, .ref (adr ω (x + 1)), .ref (adr ω (x + 17))]) from (hE _ (by omega) (by omega)).trans (E0_obj hx (by decide)))]
  exact R 31 _ dX3_init_31
set_option maxRecDepth 100000 in
set_option maxHeartbeats 4000000 in
theorem K_X4 {ω : WD} {b0 : Nat} {E : Nat → va_E} (hE : ∀ j, 50 ≤ j → j < 50 + 1 + 23 → E j = E0 ω j) : CtB ω b0 yX4_init cX4_init 1 3 23 287 50 4 [.null, .null, .null, .int 0, .int 0, .int 0, .int 0, .int 0, .int 0] [] E := by
  refine CtB.start (own := RX4) (by decide +kernel) rfl rfl (Nat.le_of_ble_eq_true rfl) (fun ρ C hnm R => ?_)
  have hZ : ∀ j, 50 < j → j < 50 + 1 + 23 → E j = E0 ω j := fun j a b => hE j (by omega) b
  show Bj ω b0 ρ (50 + 1) (upE E 50 (.inr (4, [.null, .null, .null, .int 0, .int 0, .int 0, .int 0, .int 0, .int 0]))) [] 0 0 0 [(0, .ref (adr ω 50))] []
  refine B_aload C dX4_init_0 0 rfl ?_
  refine B_obj C dX4_init_1 260 84 85 (by decide +kernel) (by decide +kernel) (by decide +kernel) (Nat.le_of_ble_eq_true rfl) (by decide) ?_
  refine B_aload C dX4_init_4 0 rfl ?_
  refine B_new (ci := 7) (fs := [.null, .int 0, .int 0, .int 0, .int 0, .int 0]) (N := 6) (T := TX7) C dX4_init_5 rfl in_X7 tyX7 tyX7_ok 261 262 68 (by decide +kernel) (by decide +kernel) (by decide +kernel) (fun j hj => by rcases (show j = 0 ∨ j = 1 ∨ j = 2 ∨ j = 3 ∨ j = 4 ∨ j = 5 by omega) with rfl | rfl | rfl | rfl | rfl | rfl <;> rfl) (Nat.le_of_ble_eq_true rfl) (Nat.le_of_ble_eq_true rfl) ?_
  show Bj ω b0 ρ (51) (upE E 50 (.inr (4, [.null, .null, .null, .int 0, .int 0, .int 0, .int 0, .int 0, .int 0]))) [(7, [.null, .int 0, .int 0, .int 0, .int 0, .int 0])] 1 6 8 [(0, .ref (adr ω 50))] [.ref (adr ω 51), .ref (adr ω 50)]
  refine B_dup C dX4_init_8 rfl ?_
  refine B_init (As := []) (rest := [.ref (adr ω 51), .ref (adr ω 50)]) C dX4_init_9 263 264 68 265 (by decide +kernel) (by decide +kernel) (by decide +kernel) (by decide +kernel) rfl (by decide +kernel) (Nat.le_of_ble_eq_true rfl) (Nat.le_of_ble_eq_true rfl) (Nat.le_of_ble_eq_true rfl) rfl (Nat.le_of_ble_eq_true rfl) (Nat.le_of_ble_eq_true rfl) (K_X7 (fun j j1 j2 => (upE_ne (by omega)).trans (hZ j (by omega) (by omega)))) ?_
  show Bj ω b0 ρ (53) (upE E 50 (.inr (4, [.null, .null, .null, .int 0, .int 0, .int 0, .int 0, .int 0, .int 0]))) [] 2 166 12 [(0, .ref (adr ω 50))] [.ref (adr ω 51), .ref (adr ω 50)]
  refine B_put (N := 9) (T := TX4) (C := RX4) (q := 0) (ty := .object "StepCalls$Tape") (fs' := [.ref (adr ω 51), .null, .null, .int 0, .int 0, .int 0, .int 0, .int 0, .int 0]) C (by omega) rfl in_X4 tyX4 tyX4_ok nmX4 (by decide) 295 (by decide +kernel) rfl (Or.inr ⟨rfl, hnm, rfl⟩) (by decide +kernel) rfl rfl (Nat.le_of_ble_eq_true rfl) rfl dX4_init_12 ?_
  refine B_aload C dX4_init_15 0 rfl ?_
  refine B_new (ci := 1) (fs := [.int 0, .int 0, .int 0, .null, .null, .null, .null, .null]) (N := 8) (T := TX1) C dX4_init_16 rfl in_X1 tyX1 tyX1_ok 291 87 62 (by decide +kernel) (by decide +kernel) (by decide +kernel) (fun j hj => by rcases (show j = 0 ∨ j = 1 ∨ j = 2 ∨ j = 3 ∨ j = 4 ∨ j = 5 ∨ j = 6 ∨ j = 7 by omega) with rfl | rfl | rfl | rfl | rfl | rfl | rfl | rfl <;> rfl) (Nat.le_of_ble_eq_true rfl) (Nat.le_of_ble_eq_true rfl) ?_
  show Bj ω b0 ρ (53) (upE E 50 (.inr (4, [.ref (adr ω 51), .null, .null, .int 0, .int 0, .int 0, .int 0, .int 0, .int 0]))) [(1, [.int 0, .int 0, .int 0, .null, .null, .null, .null, .null])] 3 174 19 [(0, .ref (adr ω 50))] [.ref (adr ω 53), .ref (adr ω 50)]
  refine B_dup C dX4_init_19 rfl ?_
  refine B_init (As := []) (rest := [.ref (adr ω 53), .ref (adr ω 50)]) C dX4_init_20 292 89 62 90 (by decide +kernel) (by decide +kernel) (by decide +kernel) (by decide +kernel) rfl (by decide +kernel) (Nat.le_of_ble_eq_true rfl) (Nat.le_of_ble_eq_true rfl) (Nat.le_of_ble_eq_true rfl) rfl (Nat.le_of_ble_eq_true rfl) (Nat.le_of_ble_eq_true rfl) (K_X1 q53 (fun j j1 j2 => (upE_ne (by omega)).trans (hZ j (by omega) (by omega)))) ?_
  show Bj ω b0 ρ (69) (upE E 50 (.inr (4, [.ref (adr ω 51), .null, .null, .int 0, .int 0, .int 0, .int 0, .int 0, .int 0]))) [] 18 253 23 [(0, .ref (adr ω 50))] [.ref (adr ω 53), .ref (adr ω 50)]
  refine B_put (N := 9) (T := TX4) (C := RX4) (q := 1) (ty := .object "StepCalls$Exchange") (fs' := [.ref (adr ω 51), .ref (adr ω 53), .null, .int 0, .int 0, .int 0, .int 0, .int 0, .int 0]) C (by omega) rfl in_X4 tyX4 tyX4_ok nmX4 (by decide) 297 (by decide +kernel) rfl (Or.inr ⟨rfl, hnm, rfl⟩) (by decide +kernel) rfl rfl (Nat.le_of_ble_eq_true rfl) rfl dX4_init_23 ?_
  refine B_aload C dX4_init_26 0 rfl ?_
  refine B_new (ci := 5) (fs := [.int 0, .int 0, .null, .null, .null, .null]) (N := 6) (T := TX5) C dX4_init_27 rfl in_X5 tyX5 tyX5_ok 293 169 64 (by decide +kernel) (by decide +kernel) (by decide +kernel) (fun j hj => by rcases (show j = 0 ∨ j = 1 ∨ j = 2 ∨ j = 3 ∨ j = 4 ∨ j = 5 by omega) with rfl | rfl | rfl | rfl | rfl | rfl <;> rfl) (Nat.le_of_ble_eq_true rfl) (Nat.le_of_ble_eq_true rfl) ?_
  show Bj ω b0 ρ (69) (upE E 50 (.inr (4, [.ref (adr ω 51), .ref (adr ω 53), .null, .int 0, .int 0, .int 0, .int 0, .int 0, .int 0]))) [(5, [.int 0, .int 0, .null, .null, .null, .null])] 19 259 30 [(0, .ref (adr ω 50))] [.ref (adr ω 69), .ref (adr ω 50)]
  refine B_dup C dX4_init_30 rfl ?_
  refine B_init (As := []) (rest := [.ref (adr ω 69), .ref (adr ω 50)]) C dX4_init_31 294 171 64 172 (by decide +kernel) (by decide +kernel) (by decide +kernel) (by decide +kernel) rfl (by decide +kernel) (Nat.le_of_ble_eq_true rfl) (Nat.le_of_ble_eq_true rfl) (Nat.le_of_ble_eq_true rfl) rfl (Nat.le_of_ble_eq_true rfl) (Nat.le_of_ble_eq_true rfl) (K_X5 q69 (fun j j1 j2 => (upE_ne (by omega)).trans (hZ j (by omega) (by omega)))) ?_
  show Bj ω b0 ρ (74) (upE E 50 (.inr (4, [.ref (adr ω 51), .ref (adr ω 53), .null, .int 0, .int 0, .int 0, .int 0, .int 0, .int 0]))) [] 23 287 34 [(0, .ref (adr ω 50))] [.ref (adr ω 69), .ref (adr ω 50)]
  refine B_put (N := 9) (T := TX4) (C := RX4) (q := 2) (ty := .object "StepCalls$Script") (fs' := [.ref (adr ω 51), .ref (adr ω 53), .ref (adr ω 69), .int 0, .int 0, .int 0, .int 0, .int 0, .int 0]) C (by omega) rfl in_X4 tyX4 tyX4_ok nmX4 (by decide) 299 (by decide +kernel) rfl (Or.inr ⟨rfl, hnm, rfl⟩) (by decide +kernel) rfl rfl (Nat.le_of_ble_eq_true rfl) rfl dX4_init_34 ?_
  refine B_aload C dX4_init_37 0 rfl ?_
  refine B_iconst (v := 0) C dX4_init_38 (by decide) ?_
  refine B_put (N := 9) (T := TX4) (C := RX4) (q := 3) (ty := .int) (fs' := [.ref (adr ω 51), .ref (adr ω 53), .ref (adr ω 69), .int 0, .int 0, .int 0, .int 0, .int 0, .int 0]) C (by omega) rfl in_X4 tyX4 tyX4_ok nmX4 (by decide) 301 (by decide +kernel) rfl (Or.inl rfl) (by decide +kernel) rfl rfl (Nat.le_of_ble_eq_true rfl) rfl dX4_init_39 ?_
  refine B_aload C dX4_init_42 0 rfl ?_
  refine B_iconst (v := 0) C dX4_init_43 (by decide) ?_
  refine B_put (N := 9) (T := TX4) (C := RX4) (q := 4) (ty := .int) (fs' := [.ref (adr ω 51), .ref (adr ω 53), .ref (adr ω 69), .int 0, .int 0, .int 0, .int 0, .int 0, .int 0]) C (by omega) rfl in_X4 tyX4 tyX4_ok nmX4 (by decide) 303 (by decide +kernel) rfl (Or.inl rfl) (by decide +kernel) rfl rfl (Nat.le_of_ble_eq_true rfl) rfl dX4_init_44 ?_
  refine B_aload C dX4_init_47 0 rfl ?_
  refine B_iconst (v := 0) C dX4_init_48 (by decide) ?_
  refine B_put (N := 9) (T := TX4) (C := RX4) (q := 5) (ty := .int) (fs' := [.ref (adr ω 51), .ref (adr ω 53), .ref (adr ω 69), .int 0, .int 0, .int 0, .int 0, .int 0, .int 0]) C (by omega) rfl in_X4 tyX4 tyX4_ok nmX4 (by decide) 305 (by decide +kernel) rfl (Or.inl rfl) (by decide +kernel) rfl rfl (Nat.le_of_ble_eq_true rfl) rfl dX4_init_49 ?_
  refine B_aload C dX4_init_52 0 rfl ?_
  refine B_iconst (v := 0) C dX4_init_53 (by decide) ?_
  refine B_put (N := 9) (T := TX4) (C := RX4) (q := 6) (ty := .boolean) (fs' := [.ref (adr ω 51), .ref (adr ω 53), .ref (adr ω 69), .int 0, .int 0, .int 0, .int 0, .int 0, .int 0]) C (by omega) rfl in_X4 tyX4 tyX4_ok nmX4 (by decide) 307 (by decide +kernel) rfl (Or.inl rfl) (by decide +kernel) rfl rfl (Nat.le_of_ble_eq_true rfl) rfl dX4_init_54 ?_
  refine B_aload C dX4_init_57 0 rfl ?_
  refine B_iconst (v := 0) C dX4_init_58 (by decide) ?_
  refine B_put (N := 9) (T := TX4) (C := RX4) (q := 7) (ty := .boolean) (fs' := [.ref (adr ω 51), .ref (adr ω 53), .ref (adr ω 69), .int 0, .int 0, .int 0, .int 0, .int 0, .int 0]) C (by omega) rfl in_X4 tyX4 tyX4_ok nmX4 (by decide) 308 (by decide +kernel) rfl (Or.inl rfl) (by decide +kernel) rfl rfl (Nat.le_of_ble_eq_true rfl) rfl dX4_init_59 ?_
  refine B_aload C dX4_init_62 0 rfl ?_
  refine B_iconst (v := 0) C dX4_init_63 (by decide) ?_
  refine B_put (N := 9) (T := TX4) (C := RX4) (q := 8) (ty := .int) (fs' := [.ref (adr ω 51), .ref (adr ω 53), .ref (adr ω 69), .int 0, .int 0, .int 0, .int 0, .int 0, .int 0]) C (by omega) rfl in_X4 tyX4 tyX4_ok nmX4 (by decide) 309 (by decide +kernel) rfl (Or.inl rfl) (by decide +kernel) rfl rfl (Nat.le_of_ble_eq_true rfl) rfl dX4_init_64 ?_
  rw [upE_done (show E 50 = .inr (4, [.ref (adr ω 51), .ref (adr ω 53), .ref (adr ω 69), .int 0, .int 0, .int 0, .int 0, .int 0, .int 0]) from (hE _ (by omega) (by omega)).trans (E0_obj q50 (by decide)))]
  exact R 67 _ dX4_init_67
set_option maxRecDepth 100000 in
set_option maxHeartbeats 4000000 in
theorem K_X8 {ω : WD} {b0 : Nat} {E : Nat → va_E} (hE : ∀ j, 22 ≤ j → j < 22 + 1 + 17 → E j = E0 ω j) : CtB ω b0 yX8_init cX8_init 1 3 17 95 22 8 [.null, .null, .int 0, .int 0, .int 0, .int 0] [] E := by
  refine CtB.start (own := RX8) (by decide +kernel) rfl rfl (Nat.le_of_ble_eq_true rfl) (fun ρ C hnm R => ?_)
  have hZ : ∀ j, 22 < j → j < 22 + 1 + 17 → E j = E0 ω j := fun j a b => hE j (by omega) b
  show Bj ω b0 ρ (22 + 1) (upE E 22 (.inr (8, [.null, .null, .int 0, .int 0, .int 0, .int 0]))) [] 0 0 0 [(0, .ref (adr ω 22))] []
  refine B_aload C dX8_init_0 0 rfl ?_
  refine B_obj C dX8_init_1 212 84 85 (by decide +kernel) (by decide +kernel) (by decide +kernel) (Nat.le_of_ble_eq_true rfl) (by decide) ?_
  refine B_aload C dX8_init_4 0 rfl ?_
  refine B_new (ci := 1) (fs := [.int 0, .int 0, .int 0, .null, .null, .null, .null, .null]) (N := 8) (T := TX1) C dX8_init_5 rfl in_X1 tyX1 tyX1_ok 213 87 62 (by decide +kernel) (by decide +kernel) (by decide +kernel) (fun j hj => by rcases (show j = 0 ∨ j = 1 ∨ j = 2 ∨ j = 3 ∨ j = 4 ∨ j = 5 ∨ j = 6 ∨ j = 7 by omega) with rfl | rfl | rfl | rfl | rfl | rfl | rfl | rfl <;> rfl) (Nat.le_of_ble_eq_true rfl) (Nat.le_of_ble_eq_true rfl) ?_
  show Bj ω b0 ρ (23) (upE E 22 (.inr (8, [.null, .null, .int 0, .int 0, .int 0, .int 0]))) [(1, [.int 0, .int 0, .int 0, .null, .null, .null, .null, .null])] 1 8 8 [(0, .ref (adr ω 22))] [.ref (adr ω 23), .ref (adr ω 22)]
  refine B_dup C dX8_init_8 rfl ?_
  refine B_init (As := []) (rest := [.ref (adr ω 23), .ref (adr ω 22)]) C dX8_init_9 214 89 62 90 (by decide +kernel) (by decide +kernel) (by decide +kernel) (by decide +kernel) rfl (by decide +kernel) (Nat.le_of_ble_eq_true rfl) (Nat.le_of_ble_eq_true rfl) (Nat.le_of_ble_eq_true rfl) rfl (Nat.le_of_ble_eq_true rfl) (Nat.le_of_ble_eq_true rfl) (K_X1 q23 (fun j j1 j2 => (upE_ne (by omega)).trans (hZ j (by omega) (by omega)))) ?_
  show Bj ω b0 ρ (39) (upE E 22 (.inr (8, [.null, .null, .int 0, .int 0, .int 0, .int 0]))) [] 16 87 12 [(0, .ref (adr ω 22))] [.ref (adr ω 23), .ref (adr ω 22)]
  refine B_put (N := 6) (T := TX8) (C := RX8) (q := 0) (ty := .object "StepCalls$Exchange") (fs' := [.ref (adr ω 23), .null, .int 0, .int 0, .int 0, .int 0]) C (by omega) rfl in_X8 tyX8 tyX8_ok nmX8 (by decide) 215 (by decide +kernel) rfl (Or.inr ⟨rfl, hnm, rfl⟩) (by decide +kernel) rfl rfl (Nat.le_of_ble_eq_true rfl) rfl dX8_init_12 ?_
  refine B_aload C dX8_init_15 0 rfl ?_
  refine B_bipush (v := 8) C dX8_init_16 (by decide) ?_
  refine B_newI (N := 8) C dX8_init_18 130 (by decide +kernel) rfl (Nat.le_of_ble_eq_true rfl) (((upE_ne (by omega)).trans (hZ _ (by omega) (by omega))).trans (E0_arr q39)) (Nat.le_of_ble_eq_true rfl) (Nat.le_of_ble_eq_true rfl) ?_
  show Bj ω b0 ρ (40) (upE E 22 (.inr (8, [.ref (adr ω 23), .null, .int 0, .int 0, .int 0, .int 0]))) [] 17 95 20 [(0, .ref (adr ω 22))] [.ref (adr ω 39), .ref (adr ω 22)]
  refine B_put (N := 6) (T := TX8) (C := RX8) (q := 1) (ty := .array (.int)) (fs' := [.ref (adr ω 23), .ref (adr ω 39), .int 0, .int 0, .int 0, .int 0]) C (by omega) rfl in_X8 tyX8 tyX8_ok nmX8 (by decide) 217 (by decide +kernel) rfl (Or.inr ⟨rfl, hnm, rfl⟩) (by decide +kernel) rfl rfl (Nat.le_of_ble_eq_true rfl) rfl dX8_init_20 ?_
  refine B_aload C dX8_init_23 0 rfl ?_
  refine B_iconst (v := 0) C dX8_init_24 (by decide) ?_
  refine B_put (N := 6) (T := TX8) (C := RX8) (q := 2) (ty := .int) (fs' := [.ref (adr ω 23), .ref (adr ω 39), .int 0, .int 0, .int 0, .int 0]) C (by omega) rfl in_X8 tyX8 tyX8_ok nmX8 (by decide) 219 (by decide +kernel) rfl (Or.inl rfl) (by decide +kernel) rfl rfl (Nat.le_of_ble_eq_true rfl) rfl dX8_init_25 ?_
  refine B_aload C dX8_init_28 0 rfl ?_
  refine B_iconst (v := 0) C dX8_init_29 (by decide) ?_
  refine B_put (N := 6) (T := TX8) (C := RX8) (q := 3) (ty := .int) (fs' := [.ref (adr ω 23), .ref (adr ω 39), .int 0, .int 0, .int 0, .int 0]) C (by omega) rfl in_X8 tyX8 tyX8_ok nmX8 (by decide) 221 (by decide +kernel) rfl (Or.inl rfl) (by decide +kernel) rfl rfl (Nat.le_of_ble_eq_true rfl) rfl dX8_init_30 ?_
  refine B_aload C dX8_init_33 0 rfl ?_
  refine B_bipush (v := (-4)) C dX8_init_34 (by decide) ?_
  refine B_put (N := 6) (T := TX8) (C := RX8) (q := 4) (ty := .int) (fs' := [.ref (adr ω 23), .ref (adr ω 39), .int 0, .int 0, .int (-4), .int 0]) C (by omega) rfl in_X8 tyX8 tyX8_ok nmX8 (by decide) 223 (by decide +kernel) rfl (Or.inl rfl) (by decide +kernel) rfl rfl (Nat.le_of_ble_eq_true rfl) rfl dX8_init_36 ?_
  refine B_aload C dX8_init_39 0 rfl ?_
  refine B_iconst (v := 0) C dX8_init_40 (by decide) ?_
  refine B_put (N := 6) (T := TX8) (C := RX8) (q := 5) (ty := .int) (fs' := [.ref (adr ω 23), .ref (adr ω 39), .int 0, .int 0, .int (-4), .int 0]) C (by omega) rfl in_X8 tyX8 tyX8_ok nmX8 (by decide) 225 (by decide +kernel) rfl (Or.inl rfl) (by decide +kernel) rfl rfl (Nat.le_of_ble_eq_true rfl) rfl dX8_init_41 ?_
  rw [upE_done (show E 22 = .inr (8, [.ref (adr ω 23), .ref (adr ω 39), .int 0, .int 0, .int (-4), .int 0]) from (hE _ (by omega) (by omega)).trans (E0_obj q22 (by decide)))]
  exact R 44 _ dX8_init_44
