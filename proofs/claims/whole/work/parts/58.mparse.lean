/-! the reference reads: words, bounds -/
theorem m_tokbyte {M : Mem} {T : TP} {s i : Nat} {j x : Int32} {a : Nat} {post : Int32 → Mem → Prop} {ya no : Mem → Prop} (hT : TapeM M T) (hO : OKT T) (hj : x + j = nI (s + i)) (hi : s + i < T.1) (ha : a < 128) (hy : T.2 (s + i) = a → ya M) (hn : T.2 (s + i) ≠ a → no M) : w_X10_byteAt (x + j) M (fun r4 M3 => (¬ r4 = nI a → no M3) ∧ (r4 = nI a → ya M3)) := by
  have h160 := hO.1
  have hb := hO.2 _ hi
  rw [hj]
  refine m_byteAt hT hO (by omega) (fun _ => ⟨fun q => hn (fun z => q (by rw [z])), fun q => hy (nI_inj (by omega) (by omega) q)⟩) (fun hge => by omega)
/-- the first two letters, and how many -/
theorem m_is {M : Mem} {T : TP} {p n a b : Nat} {post : Int32 → Mem → Prop} (hT : TapeM M T) (hO : OKT T) (hp : p ≤ T.1) (hK : TokM M T p) (hn : 2 ≤ n) (hn9 : n < 100) (ha : a < 128) (hb : b < 128) (yes : tE T p = tS T p + n → T.2 (tS T p) = a → T.2 (tS T p + 1) = b → post 1 M) (no : ¬ (tE T p = tS T p + n ∧ T.2 (tS T p) = a ∧ T.2 (tS T p + 1) = b) → post 0 M) : w_X10_is (nI n) (nI a) (nI b) M post := by
  have h160 := hO.1
  obtain ⟨e1, e2, -⟩ := tE_le hp
  unfold w_X10_is
  rw [hK.2.1, hK.2.2.1, pk_sub e1]
  refine ⟨fun q => no (fun z => q (by rw [z.1, Nat.add_sub_cancel_left])), fun q => ?_⟩
  have hl := nI_inj (by omega) (by omega) q
  have hle : tE T p = tS T p + n := by omega
  refine m_byteAt hT hO (by omega) (fun h0 => ?_) (fun hge => by omega)
  have hb0 := hO.2 _ h0
  refine ⟨fun q => no (fun z => q (by rw [z.2.1])), fun q => ?_⟩
  have z0 : T.2 (tS T p) = a := nI_inj (by omega) (by omega) q
  rw [hK.2.1, nI_1]
  refine m_byteAt hT hO (by omega) (fun h1 => ?_) (fun hge => by omega)
  have hb1 := hO.2 _ h1
  refine ⟨fun q => no (fun z => q (by rw [z.2.2])), fun q => ?_⟩
  exact yes hle z0 (nI_inj (by omega) (by omega) q)
theorem m_ends {M : Mem} {T : TP} {p n a b : Nat} {post : Int32 → Mem → Prop} (hT : TapeM M T) (hO : OKT T) (hp : p ≤ T.1) (hK : TokM M T p) (hn : 4 ≤ n) (hl : tE T p = tS T p + n) (ha : a < 128) (hb : b < 128) (yes : T.2 (tS T p + 2) = a → T.2 (tS T p + 3) = b → post 1 M) (no : ¬ (T.2 (tS T p + 2) = a ∧ T.2 (tS T p + 3) = b) → post 0 M) : w_X10_ends (nI a) (nI b) M post := by
  have h160 := hO.1
  obtain ⟨e1, e2, -⟩ := tE_le hp
  unfold w_X10_ends
  rw [hK.2.1, show nI (tS T p) + 2 = nI (tS T p + 2) from nI_add _ 2]
  refine m_byteAt hT hO (by omega) (fun h0 => ?_) (fun hge => by omega)
  have hb0 := hO.2 _ h0
  refine ⟨fun q => no (fun z => q (by rw [z.1])), fun q => ?_⟩
  have z0 : T.2 (tS T p + 2) = a := nI_inj (by omega) (by omega) q
  rw [hK.2.1, show nI (tS T p) + 3 = nI (tS T p + 3) from nI_add _ 3]
  refine m_byteAt hT hO (by omega) (fun h1 => ?_) (fun hge => by omega)
  have hb1 := hO.2 _ h1
  refine ⟨fun q => no (fun z => q (by rw [z.2])), fun q => ?_⟩
  exact yes z0 (nI_inj (by omega) (by omega) q)
theorem m_goesOn {M : Mem} {T : TP} {p n a b c : Nat} {post : Int32 → Mem → Prop} (hT : TapeM M T) (hO : OKT T) (hp : p ≤ T.1) (hK : TokM M T p) (hn : 6 ≤ n) (hc : c = 0 ∨ 7 ≤ n) (hl : tE T p = tS T p + n) (ha : a < 128) (hb : b < 128) (hc9 : c < 128) (yes : T.2 (tS T p + 4) = a → T.2 (tS T p + 5) = b → (c = 0 ∨ T.2 (tS T p + 6) = c) → post 1 M) (no : ¬ (T.2 (tS T p + 4) = a ∧ T.2 (tS T p + 5) = b ∧ (c = 0 ∨ T.2 (tS T p + 6) = c)) → post 0 M) : w_X10_goesOn (nI a) (nI b) (nI c) M post := by
  have h160 := hO.1
  obtain ⟨e1, e2, -⟩ := tE_le hp
  unfold w_X10_goesOn w_X10_goesOn_J47
  rw [hK.2.1, show nI (tS T p) + 4 = nI (tS T p + 4) from nI_add _ 4]
  refine m_byteAt hT hO (by omega) (fun h0 => ?_) (fun hge => by omega)
  have hb0 := hO.2 _ h0
  refine ⟨fun q => no (fun z => q (by rw [z.1])), fun q => ?_⟩
  have z0 : T.2 (tS T p + 4) = a := nI_inj (by omega) (by omega) q
  rw [hK.2.1, show nI (tS T p) + 5 = nI (tS T p + 5) from nI_add _ 5]
  refine m_byteAt hT hO (by omega) (fun h1 => ?_) (fun hge => by omega)
  have hb1 := hO.2 _ h1
  refine ⟨fun q => no (fun z => q (by rw [z.2.1])), fun q => ?_⟩
  have z1 : T.2 (tS T p + 5) = b := nI_inj (by omega) (by omega) q
  refine ⟨fun q2 => yes z0 z1 (Or.inl (nI_inj (by omega) (by decide) q2)), fun q2 => ?_⟩
  have c0 : c ≠ 0 := fun z => q2 (by rw [z]; rfl)
  rw [hK.2.1, show nI (tS T p) + 6 = nI (tS T p + 6) from nI_add _ 6]
  refine m_byteAt hT hO (by omega) (fun h2 => ?_) (fun hge => by omega)
  have hb2 := hO.2 _ h2
  exact ⟨fun q => no (fun z => q (by rw [z.2.2.resolve_left c0])), fun q => yes z0 z1 (Or.inr (nI_inj (by omega) (by omega) q))⟩
theorem mB_2 {T : TP} {p k : Nat} {a b : Nat} (hw : wordsN.getD k [] = [a, b]) (he : tS T p ≤ tE T p) : mB T p k = true ↔ tE T p = tS T p + 2 ∧ T.2 (tS T p) = a ∧ T.2 (tS T p + 1) = b := by
  unfold mB
  rw [hw]
  simp only [mtL, Bool.and_eq_true, decide_eq_true_eq, List.length_cons, List.length_nil, Nat.add_zero, Nat.zero_add, Nat.reduceAdd, and_true]
  omega
theorem mB_4 {T : TP} {p k : Nat} {a b c d : Nat} (hw : wordsN.getD k [] = [a, b, c, d]) (he : tS T p ≤ tE T p) : mB T p k = true ↔ tE T p = tS T p + 4 ∧ T.2 (tS T p) = a ∧ T.2 (tS T p + 1) = b ∧ T.2 (tS T p + 2) = c ∧ T.2 (tS T p + 3) = d := by
  unfold mB
  rw [hw]
  simp only [mtL, Bool.and_eq_true, decide_eq_true_eq, List.length_cons, List.length_nil, Nat.add_zero, Nat.zero_add, Nat.reduceAdd, and_true]
  omega
theorem mB_6 {T : TP} {p k : Nat} {a b c d e f : Nat} (hw : wordsN.getD k [] = [a, b, c, d, e, f]) (he : tS T p ≤ tE T p) : mB T p k = true ↔ tE T p = tS T p + 6 ∧ T.2 (tS T p) = a ∧ T.2 (tS T p + 1) = b ∧ T.2 (tS T p + 2) = c ∧ T.2 (tS T p + 3) = d ∧ T.2 (tS T p + 4) = e ∧ T.2 (tS T p + 5) = f := by
  unfold mB
  rw [hw]
  simp only [mtL, Bool.and_eq_true, decide_eq_true_eq, List.length_cons, List.length_nil, Nat.add_zero, Nat.zero_add, Nat.reduceAdd, and_true]
  omega
theorem mB_7 {T : TP} {p k : Nat} {a b c d e f g : Nat} (hw : wordsN.getD k [] = [a, b, c, d, e, f, g]) (he : tS T p ≤ tE T p) : mB T p k = true ↔ tE T p = tS T p + 7 ∧ T.2 (tS T p) = a ∧ T.2 (tS T p + 1) = b ∧ T.2 (tS T p + 2) = c ∧ T.2 (tS T p + 3) = d ∧ T.2 (tS T p + 4) = e ∧ T.2 (tS T p + 5) = f ∧ T.2 (tS T p + 6) = g := by
  unfold mB
  rw [hw]
  simp only [mtL, Bool.and_eq_true, decide_eq_true_eq, List.length_cons, List.length_nil, Nat.add_zero, Nat.zero_add, Nat.reduceAdd, and_true]
  omega
def codeI (n : Nat) : Int32 := if n = 7 then -4 else nI n
theorem m_lineNow {M : Mem} {T : TP} {p : Nat} {post : Int32 → Mem → Prop} (hT : TapeM M T) (hO : OKT T) (hp : p ≤ T.1) (hK : TokM M T p) (h : post (codeI (wdN T p)) M) : w_X10_lineNow M post := by
  obtain ⟨he, e2, -⟩ := tE_le hp
  unfold wdN at h
  have w4 : ∀ {k a b c d : Nat} {no yes : Mem → Prop}, wordsN.getD k [] = [a, b, c, d] → a < 128 → b < 128 → c < 128 → d < 128 → (mB T p k = true → yes M) → (¬ mB T p k = true → no M) → w_X10_is 4 (nI a) (nI b) M (fun r M1 => ((r = 0 → no M1) ∧ (¬ r = 0 → w_X10_ends (nI c) (nI d) M1 (fun r M3 => ((r = 0 → no M3) ∧ (¬ r = 0 → yes M3)))))) := fun {k a b c d no yes} hw ha hb hc hd y n => by
    refine m_is (n := 4) hT hO hp hK (by omega) (by omega) ha hb (fun z1 z2 z3 => ⟨fun q => absurd q (by decide), fun _ => ?_⟩) (fun z => ⟨fun _ => n (fun x => z ?_), fun q => absurd rfl q⟩)
    · refine m_ends (n := 4) hT hO hp hK (by omega) z1 hc hd (fun z4 z5 => ⟨fun q => absurd q (by decide), fun _ => y ((mB_4 hw he).mpr ⟨z1, z2, z3, z4, z5⟩)⟩) (fun z => ⟨fun _ => n (fun x => z ?_), fun q => absurd rfl q⟩)
      have := (mB_4 hw he).mp x
      exact ⟨this.2.2.2.1, this.2.2.2.2⟩
    · have := (mB_4 hw he).mp x
      exact ⟨this.1, this.2.1, this.2.2.1⟩
  unfold w_X10_lineNow
  refine w4 (k := 2) (a := 104) (b := 111) (c := 109) (d := 101) rfl (by omega) (by omega) (by omega) (by omega) (fun m => by rw [if_pos m] at h; exact h) (fun m2 => ?_)
  rw [if_neg m2] at h
  unfold w_X10_lineNow_J25
  refine m_is (n := 2) (a := 111) (b := 110) hT hO hp hK (by omega) (by omega) (by omega) (by omega) (fun z1 z2 z3 => ⟨fun q => absurd q (by decide), fun _ => ?_⟩) (fun z => ⟨fun _ => ?_, fun q => absurd rfl q⟩)
  · rw [if_pos ((mB_2 (k := 3) rfl he).mpr ⟨z1, z2, z3⟩)] at h; exact h
  rw [if_neg (fun m => z ((mB_2 (k := 3) rfl he).mp m))] at h
  refine w4 (k := 4) (a := 98) (b := 97) (c := 99) (d := 107) rfl (by omega) (by omega) (by omega) (by omega) (fun m => by rw [if_pos m] at h; exact h) (fun m4 => ?_)
  rw [if_neg m4] at h
  unfold w_X10_lineNow_J64
  have fin : (¬ mB T p 5 = true) → w_X10_lineNow_J102 post M := fun m5 => by
    rw [if_neg m5] at h
    unfold w_X10_lineNow_J102
    refine w4 (k := 0) (a := 108) (b := 105) (c := 110) (d := 101) rfl (by omega) (by omega) (by omega) (by omega) (fun m => by rw [if_pos m] at h; exact h) (fun m0 => ?_)
    rw [if_neg m0] at h
    have fin2 : (¬ mB T p 1 = true) → w_X10_lineNow_J168 post M := fun m1 => by
      rw [if_neg m1] at h
      unfold w_X10_lineNow_J168
      refine w4 (k := 6) (a := 112) (b := 108) (c := 97) (d := 110) (no := fun M => post (-4) M) (yes := fun M => post 6 M) rfl (by omega) (by omega) (by omega) (by omega) (fun m => by rw [if_pos m] at h; exact h) (fun m6 => by rw [if_neg m6] at h; exact h)
    unfold w_X10_lineNow_J127
    refine m_is (n := 7) (a := 102) (b := 105) hT hO hp hK (by omega) (by omega) (by omega) (by omega) (fun z1 z2 z3 => ⟨fun q => absurd q (by decide), fun _ => ?_⟩) (fun z => ⟨fun _ => fin2 (fun m => z ?_), fun q => absurd rfl q⟩)
    · refine m_ends (n := 7) (a := 110) (b := 100) hT hO hp hK (by omega) z1 (by omega) (by omega) (fun z4 z5 => ⟨fun q => absurd q (by decide), fun _ => ?_⟩) (fun z => ⟨fun _ => fin2 (fun m => z ?_), fun q => absurd rfl q⟩)
      · refine m_goesOn (n := 7) (a := 101) (b := 114) (c := 115) hT hO hp hK (by omega) (Or.inr (by omega)) z1 (by omega) (by omega) (by omega) (fun z6 z7 z8 => ⟨fun q => absurd q (by decide), fun _ => ?_⟩) (fun z => ⟨fun _ => fin2 (fun m => z ?_), fun q => absurd rfl q⟩)
        · rw [if_pos ((mB_7 (k := 1) rfl he).mpr ⟨z1, z2, z3, z4, z5, z6, z7, z8.resolve_left (by omega)⟩)] at h; exact h
        · have := (mB_7 (k := 1) rfl he).mp m
          exact ⟨this.2.2.2.2.2.1, this.2.2.2.2.2.2.1, Or.inr this.2.2.2.2.2.2.2⟩
      · have := (mB_7 (k := 1) rfl he).mp m
        exact ⟨this.2.2.2.1, this.2.2.2.2.1⟩
    · have := (mB_7 (k := 1) rfl he).mp m
      exact ⟨this.1, this.2.1, this.2.2.1⟩
  refine m_is (n := 6) (a := 115) (b := 112) hT hO hp hK (by omega) (by omega) (by omega) (by omega) (fun z1 z2 z3 => ⟨fun q => absurd q (by decide), fun _ => ?_⟩) (fun z => ⟨fun _ => fin (fun m => z ?_), fun q => absurd rfl q⟩)
  · refine m_ends (n := 6) (a := 114) (b := 101) hT hO hp hK (by omega) z1 (by omega) (by omega) (fun z4 z5 => ⟨fun q => absurd q (by decide), fun _ => ?_⟩) (fun z => ⟨fun _ => fin (fun m => z ?_), fun q => absurd rfl q⟩)
    · refine m_goesOn (n := 6) (a := 97) (b := 100) (c := 0) hT hO hp hK (by omega) (Or.inl rfl) z1 (by omega) (by omega) (by omega) (fun z6 z7 z8 => ⟨fun q => absurd q (by decide), fun _ => ?_⟩) (fun z => ⟨fun _ => fin (fun m => z ?_), fun q => absurd rfl q⟩)
      · rw [if_pos ((mB_6 (k := 5) rfl he).mpr ⟨z1, z2, z3, z4, z5, z6, z7⟩)] at h; exact h
      · have := (mB_6 (k := 5) rfl he).mp m
        exact ⟨this.2.2.2.2.2.1, this.2.2.2.2.2.2, Or.inl rfl⟩
    · have := (mB_6 (k := 5) rfl he).mp m
      exact ⟨this.2.2.2.1, this.2.2.2.2.1⟩
  · have := (mB_6 (k := 5) rfl he).mp m
    exact ⟨this.1, this.2.1, this.2.2.1⟩
/-- the fault that is noted -/
def FM (M : Mem) (f s : Nat) : Prop := rd M 128 14 = nI f ∧ rd M 128 15 = nI s
theorem FM.ne {M : Mem} {f s : Nat} (h : FM M f s) (h0 : f ≠ 0) (h6 : f ≤ 6) : ¬ rd M 128 14 = 0 := by
  rw [h.1]
  exact nI_ne0 (by omega) (by omega)
/-- the token at p has been read, or is at fault -/
def AtM (M : Mem) (T : TP) (p : Nat) : Prop := (tK T p ≠ 4 ∧ TokM M T p ∧ rd M 128 14 = 0) ∨ (tK T p = 4 ∧ FM M 1 (tS T p))
/-- only the two words of the fault changed -/
def FrT (M M' : Mem) : Prop := ∀ i q, ¬ (i = 128 ∧ (q = 14 ∨ q = 15)) → rd M' i q = rd M i q
theorem m_lookedX {M : Mem} {l1 l2 : Int32} {post : Int32 → Mem → Prop} (h : ¬ rd M 128 14 = 0) (hp : post 0 M) : w_X10_looked l1 l2 M post := by
  unfold w_X10_looked w_X10_looked_J25 w_X10_looked_J49
  exact ⟨fun _ => ⟨fun _ => ⟨fun _ => hp, fun q => absurd q h⟩, fun q => absurd q h⟩, fun q => absurd q h⟩
theorem kF_3 {T : TP} {p k : Nat} : kF T p k ≤ 2 := by
  unfold kF
  split
  · omega
  · split <;> omega
theorem numF_3 {T : TP} {p lo hi : Nat} : numF T p lo hi ≤ 3 := by
  have := kF_3 (T := T) (p := p) (k := 2)
  unfold numF
  split
  · omega
  · split <;> omega
theorem m_looked {M : Mem} {T : TP} {p lo hi : Nat} {post : Int32 → Mem → Prop} (hA : AtM M T p) (hp : p ≤ T.1) (hlo : lo < 100) (hhi : hi < 100) (ok : numF T p lo hi = 0 → TokM M T p → rd M 128 14 = 0 → post (nI (tV T p)) M) (bad : numF T p lo hi ≠ 0 → ∀ M', FM M' (numF T p lo hi) (tS T p) → FrT M M' → post 0 M') : w_X10_looked (nI lo) (nI hi) M post := by
  rcases hA with ⟨n4, hK, h0⟩ | ⟨e4, hF⟩
  · have tk4 := tK_4 (T := T) (p := p)
    unfold w_X10_looked
    rw [hK.1]
    refine ⟨fun q => absurd h0 q, fun _ => ⟨fun q => ?_, fun q => ?_⟩⟩
    · have n2 : tK T p ≠ 2 := fun z => q (by rw [z]; rfl)
      have en : numF T p lo hi = 2 := by unfold numF kF; rw [if_neg n4, if_pos n2]; rfl
      unfold w_X10_looked_J21
      refine m_needsF rfl h0 (fun M' b1 b2 b3 => ?_)
      have hF : FM M' 2 (tS T p) := ⟨b1, by rw [b2]; exact hK.2.1⟩
      have hne := hF.ne (by omega) (by omega)
      unfold w_X10_looked_J25 w_X10_looked_J49
      exact ⟨fun _ => ⟨fun _ => bad (by omega) M' (by rw [en]; exact hF) b3, fun q => absurd q hne⟩, fun q => absurd q hne⟩
    · have e2 : tK T p = 2 := nI_inj (by omega) (by decide) q
      have hv := tV_100 hp e2
      have k0 : kF T p 2 = 0 := by unfold kF; rw [if_neg n4, if_neg (fun z => z e2)]
      unfold w_X10_looked_J21
      refine m_needsT (by decide) ?_
      unfold w_X10_looked_J25 w_X10_looked_J49
      refine ⟨fun q => absurd h0 q, fun _ => ?_⟩
      rw [hK.2.2.2 e2]
      have hh : ((nI hi).toInt64).toInt = ((hi + 1 : Nat) : Int) - 1 := by rw [Int32.toInt_toInt64, nI_toInt (by omega)]; omega
      have hl : ((nI lo).toInt64).toInt = lo := by rw [Int32.toInt_toInt64, nI_toInt (by omega)]
      refine m_inR (l := lo) (n := hi + 1) hl hh (by omega) (fun k z1 z2 z3 => ?_) (fun no => ?_)
      · have ek : tV T p = k := nI_inj (by omega) (by omega) z3
        have en : numF T p lo hi = 0 := by unfold numF; rw [if_neg (by omega), if_neg (by omega)]
        refine m_needsT (by decide) ?_
        rw [hK.2.2.2 e2]
        exact ⟨fun q => absurd h0 q, fun _ => ok en hK h0⟩
      · have en : numF T p lo hi = 3 := by
          unfold numF
          rw [if_neg (by omega), if_pos]
          apply Classical.byContradiction
          intro z
          exact no (tV T p) (by omega) (by omega) rfl
        refine m_needsF rfl h0 (fun M' b1 b2 b3 => ?_)
        have hF : FM M' 3 (tS T p) := ⟨b1, by rw [b2]; exact hK.2.1⟩
        have hne := hF.ne (by omega) (by omega)
        exact ⟨fun _ => bad (by omega) M' (by rw [en]; exact hF) b3, fun q => absurd q hne⟩
  · have en : numF T p lo hi = 1 := by unfold numF kF; rw [if_pos e4]; rfl
    exact m_lookedX (hF.ne (by omega) (by omega)) (bad (by omega) M (by rw [en]; exact hF) (fun _ _ _ => rfl))
theorem numF_99 {T : TP} {p : Nat} (hp : p ≤ T.1) : numF T p 0 99 = kF T p 2 := by
  unfold numF
  by_cases q : kF T p 2 ≠ 0
  · rw [if_pos q]
  · rw [if_neg q]
    have k0 : kF T p 2 = 0 := by omega
    have := tV_100 hp (kF_2 k0)
    rw [if_neg (by omega), k0]
/-- reading on -/
theorem m_takesA {M : Mem} {T : TP} {p : Nat} {post : Mem → Prop} (hT : TapeM M T) (hO : OKT T) (hp : p ≤ T.1) (h10 : rd M 128 10 = nI p) (h0 : rd M 128 14 = 0) (h : ∀ M', AtM M' T p → FrK M M' → post M') : w_X10_takes M post := m_takes hT hO hp h10 h0 (fun e M' a1 a2 a3 => h M' (Or.inl ⟨e, a1, a2⟩) a3) (fun e M' a1 a2 a3 => h M' (Or.inr ⟨e, ⟨a1, a2⟩⟩) a3)
theorem m_takesF {M : Mem} {f s : Nat} {post : Mem → Prop} (hF : FM M f s) (h0 : f ≠ 0) (h6 : f ≤ 6) (h : post M) : w_X10_takes M post := m_takesX hF.1 h0 h6 h
