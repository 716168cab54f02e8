/-! what class and reference hold alike -/
abbrev R129 (M : Mem) : Nat → Int32 := fun k => rd M 129 k
/-- subscribers, calls, groups, the plan, what was seen -/
def CoreP (M : Mem) (e : EX) (c : SC) : Prop := ExC M 1 e ∧ ExM (R129 M) e ∧ ScC M 17 c ∧ ScM (R129 M) c ∧ VE e ∧ VS (eM e) c
def TapeP (M : Mem) : Prop := ∃ n, n ≤ 160 ∧ rd M 51 1 = nI n ∧ rd M 128 9 = nI n ∧ ∀ k, k < n → ∃ b, b < 128 ∧ rd M 52 k = nI b ∧ rd M 133 k = nI b
def FltP (M : Mem) : Prop := rd M 0 9 = rd M 128 14 ∧ rd M 0 10 = rd M 128 26
def ShP (M : Mem) (k : Nat) : Prop := (rd M (120 + 2 * k) 1 = -4 ∧ rd M 136 k = -4) ∨ ∃ ln sz, ln < 3 ∧ sz ≤ 40 ∧ rd M (120 + 2 * k) 0 = nI ln ∧ rd M (120 + 2 * k) 1 = nI sz ∧ rd M 136 k = nI ln ∧ rd M 137 k = nI sz ∧ ∀ i, i < sz → rd M (121 + 2 * k) i = rd M 138 (40 * k + i)
def ImP (M : Mem) (k : Nat) : Prop := (rd M (76 + 22 * k) 0 = 0 ∧ rd M 131 k = 0) ∨ (rd M (76 + 22 * k) 0 = 1 ∧ rd M 131 k = 1 ∧ ∃ e c, ExC M (77 + 22 * k) e ∧ ExM (fun j => rd M 129 (96 * (k + 1) + j)) e ∧ ScC M (93 + 22 * k) c ∧ ScM (fun j => rd M 129 (96 * (k + 1) + j)) c ∧ VE e ∧ VS (eM e) c)
def RestP (M : Mem) : Prop := TapeP M ∧ FltP M ∧ (∀ k, k < 4 → ShP M k) ∧ ∀ k, k < 2 → ImP M k
def INV (M : Mem) : Prop := ∃ e c, CoreP M e c ∧ RestP M
/-- the cells on which all but the core rests -/
def P2 (i k : Nat) : Prop := (i = 0 ∧ (k = 9 ∨ k = 10)) ∨ i = 52 ∨ (i = 51 ∧ k = 1) ∨ (74 ≤ i ∧ i ≤ 127) ∨ (i = 128 ∧ (k = 9 ∨ k = 14 ∨ k = 26)) ∨ (i = 129 ∧ 96 ≤ k) ∨ i = 131 ∨ i = 133 ∨ (136 ≤ i ∧ i ≤ 138)
def Same2 (M M' : Mem) : Prop := ∀ i k, P2 i k → rd M' i k = rd M i k
theorem Same2.trans {M M1 M2 : Mem} (h : Same2 M M1) (h2 : Same2 M1 M2) : Same2 M M2 := fun i k p => (h2 i k p).trans (h i k p)
theorem ExC.at {M M' : Mem} {x : Nat} {e : EX} (h : ExC M x e) (k : ∀ i q, x ≤ i → i < x + 16 → rd M' i q = rd M i q) : ExC M' x e := by
  obtain ⟨h1, h2, h3, h4, h5⟩ := h
  refine ⟨by rw [k _ _ (by omega) (by omega)]; exact h1, by rw [k _ _ (by omega) (by omega)]; exact h2, by rw [k _ _ (by omega) (by omega)]; exact h3, fun a ha => ?_, fun t ht => ?_⟩
  · rw [k _ _ (by omega) (by omega), k _ _ (by omega) (by omega), k _ _ (by omega) (by omega), k _ _ (by omega) (by omega)]
    exact h4 a ha
  · obtain ⟨g1, g2, g3, g4, g5, g6⟩ := h5 t ht
    refine ⟨?_, ?_, ?_, ?_, ?_, fun w hw => ?_⟩ <;> rw [k _ _ (by omega) (by omega)]
    · exact g1
    · exact g2
    · exact g3
    · exact g4
    · exact g5
    · exact g6 w hw
theorem ScC.at {M M' : Mem} {x : Nat} {c : SC} (h : ScC M x c) (k : ∀ i q, x ≤ i → i < x + 5 → rd M' i q = rd M i q) : ScC M' x c := by
  obtain ⟨h1, h2, h3, h4⟩ := h
  refine ⟨by rw [k _ _ (by omega) (by omega)]; exact h1, by rw [k _ _ (by omega) (by omega)]; exact h2, fun i hi => ?_, fun j hj => ?_⟩
  · rw [k _ _ (by omega) (by omega), k _ _ (by omega) (by omega)]; exact h3 i hi
  · rw [k _ _ (by omega) (by omega), k _ _ (by omega) (by omega)]; exact h4 j hj
theorem CoreP.at {M M' : Mem} {e : EX} {c : SC} (h : CoreP M e c) (k1 : ∀ i q, 1 ≤ i → i < 22 → rd M' i q = rd M i q) (k2 : ∀ q, q < 96 → rd M' 129 q = rd M 129 q) : CoreP M' e c := by
  obtain ⟨h1, h2, h3, h4, h5, h6⟩ := h
  exact ⟨h1.at (fun i q a b => k1 i q (by omega) (by omega)), h2.congr h5.m (fun k hk => k2 k (by omega)), h3.at (fun i q a b => k1 i q (by omega) (by omega)), h4.congr ⟨h6.1, h6.2.1⟩ (fun k _ hk => k2 k hk), h5, h6⟩
theorem RestP.at {M M' : Mem} (h : RestP M) (s : Same2 M M') : RestP M' := by
  obtain ⟨⟨n, hn, t1, t2, t3⟩, ⟨f1, f2⟩, hs, hi⟩ := h
  refine ⟨⟨n, hn, ?_, ?_, fun k hk => ?_⟩, ⟨?_, ?_⟩, fun k hk => ?_, fun k hk => ?_⟩
  · rw [s _ _ (by unfold P2; omega)]; exact t1
  · rw [s _ _ (by unfold P2; omega)]; exact t2
  · rw [s 52 k (by unfold P2; omega), s 133 k (by unfold P2; omega)]; exact t3 k hk
  · rw [s _ _ (by unfold P2; omega), s 128 14 (by unfold P2; omega)]; exact f1
  · rw [s _ _ (by unfold P2; omega), s 128 26 (by unfold P2; omega)]; exact f2
  · rcases hs k hk with ⟨a, b⟩ | ⟨l, z, a1, a2, a3, a4, a5, a6, a7⟩
    · exact Or.inl ⟨by rw [s _ _ (by unfold P2; omega)]; exact a, by rw [s _ _ (by unfold P2; omega)]; exact b⟩
    · refine Or.inr ⟨l, z, a1, a2, ?_, ?_, ?_, ?_, fun i hi => ?_⟩
      · rw [s _ _ (by unfold P2; omega)]; exact a3
      · rw [s _ _ (by unfold P2; omega)]; exact a4
      · rw [s _ _ (by unfold P2; omega)]; exact a5
      · rw [s _ _ (by unfold P2; omega)]; exact a6
      · rw [s _ _ (by unfold P2; omega), s 138 _ (by unfold P2; omega)]; exact a7 i hi
  · rcases hi k hk with ⟨a, b⟩ | ⟨a, b, e, c, a1, a2, a3, a4, a5, a6⟩
    · exact Or.inl ⟨by rw [s _ _ (by unfold P2; omega)]; exact a, by rw [s _ _ (by unfold P2; omega)]; exact b⟩
    · refine Or.inr ⟨by rw [s _ _ (by unfold P2; omega)]; exact a, by rw [s _ _ (by unfold P2; omega)]; exact b, e, c, ?_, ?_, ?_, ?_, a5, a6⟩
      · exact a1.at (fun i q _ _ => s _ _ (by unfold P2; omega))
      · exact a2.congr a5.m (fun j _ => s _ _ (by unfold P2; omega))
      · exact a3.at (fun i q _ _ => s _ _ (by unfold P2; omega))
      · exact a4.congr ⟨a6.1, a6.2.1⟩ (fun j _ _ => s _ _ (by unfold P2; omega))
/-- the reference's cells at hand alone changed -/
def PM (i k : Nat) : Prop := i < 128 ∨ i = 129 ∨ i = 131 ∨ i = 133 ∨ (136 ≤ i ∧ i ≤ 138) ∨ (i = 128 ∧ (k = 9 ∨ k = 14 ∨ k = 26))
def FrM (M M' : Mem) : Prop := ∀ i k, PM i k → rd M' i k = rd M i k
theorem FrM.refl {M : Mem} : FrM M M := fun _ _ _ => rfl
theorem FrM.trans {M M1 M2 : Mem} (h : FrM M M1) (h2 : FrM M1 M2) : FrM M M2 := fun i k p => (h2 i k p).trans (h i k p)
theorem FrM.of130 {M M' : Mem} (h : Fr 130 131 M M') : FrM M M' := fun i k p => h.row (by unfold PM at p; omega) k
theorem FrM.wr {M : Mem} {i k : Nat} {v : Int32} (h : ¬ PM i k) : FrM M (wr M i k v) := fun j q p => rd_ne (by
  by_cases z : j = i
  · by_cases z2 : q = k
    · rw [z, z2] at p; exact absurd p h
    · exact Or.inr z2
  · exact Or.inl z)
theorem CoreP.frC {M M' : Mem} {e : EX} {c : SC} (h : CoreP M e c) (f : Fr 22 50 M M') : CoreP M' e c := h.at (fun i q a b => f.row (by omega) q) (fun q _ => f.row (by omega) q)
theorem CoreP.frM {M M' : Mem} {e : EX} {c : SC} (h : CoreP M e c) (f : FrM M M') : CoreP M' e c := h.at (fun i q a b => f i q (by unfold PM; omega)) (fun q _ => f 129 q (by unfold PM; omega))
theorem RestP.frC {M M' : Mem} (h : RestP M) (f : Fr 22 50 M M') : RestP M' := h.at (fun i q p => f.row (by unfold P2 at p; omega) q)
theorem RestP.frM {M M' : Mem} (h : RestP M) (f : FrM M M') : RestP M' := h.at (fun i q p => f i q (by unfold P2 at p; unfold PM; omega))
/-- a call that changes nothing: class and reference answer R -/
theorem query {α : Type} {wc wm : Mem → (α → Mem → Prop) → Prop} {R : EX → SC → α} (hc : ∀ M e c post, CoreP M e c → (∀ M1, Fr 22 50 M M1 → post (R e c) M1) → wc M post) (hm : ∀ M e c post, CoreP M e c → (∀ M1, FrM M M1 → post (R e c) M1) → wm M post) {M : Mem} (hI : INV M) : wc M (fun r M1 => wm M1 (fun r' M2 => r = r' ∧ INV M2)) := by
  obtain ⟨e, c, hC, hR⟩ := hI
  exact hc M e c _ hC (fun M1 h1 => hm M1 e c _ (hC.frC h1) (fun M2 h2 => ⟨rfl, e, c, (hC.frC h1).frM h2, (hR.frC h1).frM h2⟩))
/-- bounds, as the class looks at them -/
theorem c_rng {M : Mem} {v hi : Int32} {n : Nat} {post : Int32 → Mem → Prop} (hh : hi = nI n) (hn31 : n < 2 ^ 31) (hy : ∀ k, k < n → v = nI k → post 1 M) (hn : (∀ k, k < n → v ≠ nI k) → post 0 M) : (v < 0 → post 0 M) ∧ (¬ v < 0 → ((hi ≤ v → post 0 M) ∧ (¬ hi ≤ v → post 1 M))) := by
  subst hh
  refine ⟨fun c => hn fun k hk z => ?_, fun c => ⟨fun c2 => hn fun k hk z => ?_, fun c2 => ?_⟩⟩
  · rw [z] at c; exact nI_pos (by omega) c
  · rw [z] at c2; exact nI_ge hk hn31 c2
  · obtain ⟨j, hj, rfl⟩ := nI_of c
    have : ¬ n ≤ j := fun q => c2 (nI_le q hj)
    exact hy j (by omega) rfl
theorem c_isGroup {M : Mem} {v : Int32} {post : Int32 → Mem → Prop} (hy : ∀ t, t < 5 → v = nI t → post 1 M) (hn : (∀ t, t < 5 → v ≠ nI t) → post 0 M) : w_X9_isGroup v M post := c_rng (n := 5) rfl (by omega) hy hn
theorem c_isAct {M : Mem} {c : SC} {v : Int32} {post : Int32 → Mem → Prop} (hA : rd M 17 0 = nI (sA c)) (h8 : sA c ≤ 8) (hy : ∀ i, i < sA c → v = nI i → post 1 M) (hn : (∀ i, i < sA c → v ≠ nI i) → post 0 M) : w_X9_isAct v M post := c_rng hA (by omega) hy hn
theorem c_isBit {M : Mem} {v : Int32} {post : Int32 → Mem → Prop} (hy : ∀ k, k < 2 → v = nI k → post 1 M) (hn : (∀ k, k < 2 → v ≠ nI k) → post 0 M) : w_X9_isBit v M post := by
  unfold w_X9_isBit w_X9_isBit_J9
  refine ⟨fun c => hy 0 (by omega) c, fun c => ⟨fun c2 => hn fun k hk z => ?_, fun c2 => hy 1 (by omega) c2⟩⟩
  have : k = 0 ∨ k = 1 := by omega
  rcases this with rfl | rfl
  · exact c z
  · exact c2 z
theorem c_isWay {M : Mem} {e : EX} {v w : Int32} {post : Int32 → Mem → Prop} (hM : ExC M 1 e) (hV : VE e) (hy : ∀ t k, t < 5 → k < eZ e t → v = nI t → w = nI k → post 1 M) (hn : (∀ t k, t < 5 → k < eZ e t → v = nI t → w ≠ nI k) → post 0 M) : w_X9_isWay v w M post := by
  unfold w_X9_isWay
  refine c_isGroup (fun t ht hv => ?_) (fun q => ⟨fun _ => hn (fun t k ht _ hv => absurd hv (q t ht)), fun c => absurd rfl c⟩)
  subst hv
  have hz := (hV.2.2.2.2.2.2.2 t ht).2.1
  have no : (∀ k, k < eZ e t → w ≠ nI k) → post 0 M := fun q => hn (fun t' k ht' hk hv => q k (by rw [nI_inj (by omega) (by omega) hv]; exact hk))
  refine ⟨fun c => absurd c (by decide), fun _ => ⟨fun c => no (fun k hk z => nI_pos (n := k) (by omega) (by rw [← z]; exact c)), fun c => ?_⟩⟩
  rw [tnI (by omega)]
  refine ⟨vp_in_nI ht (by omega), ?_⟩
  rintro g3 hg
  rw [show rd M g3 1 = nI (eZ e t) by rw [show g3 = 1 + 6 + 2 * t by omega]; exact (hM.2.2.2.2 t ht).2.1]
  exact (c_rng (v := w) (n := eZ e t) rfl (by omega) (fun k hk z => hy t k ht hk rfl z) no).2 c
theorem c_isNumber {M : Mem} {v : Int32} {post : Int32 → Mem → Prop} (hy : ∀ n, numOK n → v = nI n → post 1 M) (hn : (∀ n, numOK n → v ≠ nI n) → post 0 M) : w_X9_isNumber v M post := by
  unfold w_X9_isNumber
  refine ⟨fun c => hn fun n h z => ?_, fun c => ?_⟩
  · rw [z] at c; exact nI_pos (by have := h.1; omega) c
  · obtain ⟨n, hn31, rfl⟩ := nI_of c
    rw [nI_div hn31, nI_rem hn31]
    refine ⟨fun c2 => hn fun n' h z => ?_, fun c2 => ⟨fun c3 => hn fun n' h z => ?_, fun c3 => ?_⟩⟩
    · have := nI_inj hn31 (by have := h.1; omega) z
      subst this
      have := (nI_ltI (a := 4) (by decide) (by omega)).mp c2
      have := h.1
      omega
    · have := nI_inj hn31 (by have := h.1; omega) z
      subst this
      have := (nI_ltI (a := 4) (by decide) (by omega)).mp c3
      have := h.2
      omega
    · have h1 : ¬ 4 < n / 10 := fun z => c2 (nI_lt z (by omega))
      have h2 : ¬ 4 < n % 10 := fun z => c3 (nI_lt z (by omega))
      exact hy n ⟨by omega, by omega⟩ rfl
theorem c_isDialled {M : Mem} {v : Int32} {post : Int32 → Mem → Prop} (hy : ∀ n, dialOK n → v = nI n → post 1 M) (hn : (∀ n, dialOK n → v ≠ nI n) → post 0 M) : w_X9_isDialled v M post := by
  unfold w_X9_isDialled w_X9_isDialled_J13
  refine ⟨fun c => hy 99 (Or.inl rfl) c, fun c => ?_⟩
  refine c_isNumber (fun n h e => ?_) (fun q => ?_)
  · exact ⟨fun c => absurd c (by decide), fun _ => hy n (Or.inr h) e⟩
  · refine ⟨fun _ => hn fun n h e => ?_, fun c => absurd rfl c⟩
    rcases h with h | h
    · subst h; exact c e
    · exact q n h e
/-- bounds, as the reference looks at them -/
theorem lt64 {x : Int32} {n : Nat} (hx : x = nI n) (hn : n < 2 ^ 31) : ((x - 1).toInt64).toInt = (n : Int) - 1 := by
  subst hx
  rw [Int32.toInt_toInt64]
  rcases Nat.eq_zero_or_pos n with h | h
  · subst h; decide
  · obtain ⟨k, rfl⟩ : ∃ k, n = k + 1 := ⟨n - 1, by omega⟩
    rw [nI_pred, nI_toInt (by omega)]
    omega
theorem m_isGroup {M : Mem} {v : Int32} {post : Int32 → Mem → Prop} (hy : ∀ t, t < 5 → v = nI t → post 1 M) (hn : (∀ t, t < 5 → v ≠ nI t) → post 0 M) : w_X10_isGroup v M post := m_inR (l := 0) (n := 5) rfl rfl (by omega) (fun k _ hk z => ⟨zb_1, hy k hk z⟩) (fun q => ⟨zb_0, hn fun t ht => q t (by omega) ht⟩)
theorem m_isPart {M : Mem} {v : Int32} {post : Int32 → Mem → Prop} (hy : ∀ k, k < 2 → v = nI k → post 1 M) (hn : (∀ k, k < 2 → v ≠ nI k) → post 0 M) : w_X10_isPart v M post := m_inR (l := 0) (n := 2) rfl rfl (by omega) (fun k _ hk z => ⟨zb_1, hy k hk z⟩) (fun q => ⟨zb_0, hn fun t ht => q t (by omega) ht⟩)
theorem m_isOne {M : Mem} {e : EX} {v : Int32} {post : Int32 → Mem → Prop} (hM : rd M 129 24 = nI (eM e)) (hV : VE e) (hy : ∀ a, a < eM e → v = nI a → post 1 M) (hn : (∀ a, a < eM e → v ≠ nI a) → post 0 M) : w_X10_isOne v M post := m_inR (l := 0) (n := eM e) rfl (lt64 hM (by have := hV.m; omega)) (by have := hV.m; omega) (fun k _ hk z => ⟨zb_1, hy k hk z⟩) (fun q => ⟨zb_0, hn fun t ht => q t (by omega) ht⟩)
theorem m_inAct {M : Mem} {c : SC} {v : Int32} {post : Int32 → Mem → Prop} (hA : rd M 129 66 = nI (sA c)) (h8 : sA c ≤ 8) (hy : ∀ i, i < sA c → v = nI i → post 1 M) (hn : (∀ i, i < sA c → v ≠ nI i) → post 0 M) : w_X10_in v.toInt64 0 ((rd M 129 66 - 1).toInt64) M post := m_inR (l := 0) (n := sA c) rfl (lt64 hA (by omega)) (by omega) (fun k _ hk z => hy k hk z) (fun q => hn fun t ht => q t (by omega) ht)
theorem ix129 {a b : Nat} {x y : Int32} (hx : x = nI a) (hy : y = nI b) (h : a + b < 288) : vp_in (x + y) 288 ∧ (x + y).toNatClampNeg = a + b := by
  subst hx; subst hy
  rw [nI_add]
  exact ⟨vp_in_nI h (by omega), tnI (by omega)⟩
theorem m_isWay {M : Mem} {e : EX} {v w : Int32} {post : Int32 → Mem → Prop} (hM : ExM (R129 M) e) (hV : VE e) (hy : ∀ t k, t < 5 → k < eZ e t → v = nI t → w = nI k → post 1 M) (hn : (∀ t k, t < 5 → k < eZ e t → v = nI t → w ≠ nI k) → post 0 M) : w_X10_isWay v w M post := by
  unfold w_X10_isWay
  refine m_isGroup (fun t ht hv => ?_) (fun q => ⟨fun _ => hn (fun t k ht _ hv => absurd hv (q t ht)), fun c => absurd rfl c⟩)
  subst hv
  have hz := (hV.2.2.2.2.2.2.2 t ht).2.1
  refine ⟨fun c => absurd c (by decide), fun _ => ?_⟩
  rw [show (26 : Int32) + 4 * nI t + 1 = nI (26 + 4 * t + 1) by rw [show (4 : Int32) = nI 4 from rfl, show (26 : Int32) = nI 26 from rfl, show (1 : Int32) = nI 1 from rfl, pk_mul, nI_add, nI_add], tnI (by omega)]
  refine ⟨vp_in_nI (by omega) (by omega), ?_⟩
  have hzz : rd M 129 (26 + 4 * t + 1) = nI (eZ e t) := by rw [show 26 + 4 * t + 1 = 27 + 4 * t by omega]; exact (hM.2.2.2 t ht).2.1
  refine m_inR (l := 0) (n := eZ e t) rfl (lt64 hzz (by omega)) (by omega) (fun k _ hk z => ?_) (fun q => ?_)
  · exact ⟨fun c => absurd c (by decide), fun _ => hy t k ht hk rfl z⟩
  · refine ⟨fun _ => hn (fun t' k ht' hk hv => ?_), fun c => absurd rfl c⟩
    have := nI_inj (by omega) (by omega) hv
    subst this
    exact q k (by omega) hk
theorem m_starts {M : Mem} {post : Mem → Prop} (h : ∀ M', (∀ k, k < 96 → rd M' 130 k = rd M 129 k) → Fr 130 131 M M' → post M') : w_X10_starts M post := by
  unfold w_X10_starts
  refine loop_0 (fun n i (s : Mem) => w_X10_starts_L2 post n (nI i) s) (fun i s => (∀ k, k < i → rd s 130 k = rd M 129 k) ∧ Fr 130 131 M s) 96 M ⟨fun k hk => by omega, Fr.refl⟩ ?_ ?_
  · rintro n s ⟨h1, h2⟩
    show w_X10_starts_L2 post (n + 1) _ s
    unfold w_X10_starts_L2
    exact ⟨fun _ => h s h1 h2, fun c => absurd (nI_le (Nat.le_refl 96) (by omega)) c⟩
  · rintro n i s hi ⟨h1, h2⟩ kk
    show w_X10_starts_L2 post (n + 1) _ s
    unfold w_X10_starts_L2
    rw [tnI (by omega)]
    refine ⟨fun c => absurd c (nI_ge hi (by decide)), fun _ => ⟨vp_in_nI (by omega) (by omega), vp_in_nI (by omega) (by omega), ?_⟩⟩
    rintro M1 rfl v2 rfl
    rw [nI_1]
    refine kk _ ⟨fun k hk => ?_, h2.trans (Fr.wr (by omega))⟩
    by_cases q : k = i
    · rw [rd_eq ⟨rfl, q⟩, h2.row (by omega), q]
    · rw [rd_ne (by omega)]; exact h1 k (by omega)
theorem m_settles {M : Mem} {post : Mem → Prop} (h : ∀ M', (∀ k, k < 96 → rd M' 129 k = rd M 130 k) → (∀ k, 96 ≤ k → rd M' 129 k = rd M 129 k) → Fr 129 130 M M' → post M') : w_X10_settles M post := by
  unfold w_X10_settles
  refine loop_0 (fun n i (s : Mem) => w_X10_settles_L2 post n (nI i) s) (fun i s => (∀ k, k < i → rd s 129 k = rd M 130 k) ∧ (∀ k, i ≤ k → rd s 129 k = rd M 129 k) ∧ Fr 129 130 M s) 96 M ⟨fun k hk => by omega, fun _ _ => rfl, Fr.refl⟩ ?_ ?_
  · rintro n s ⟨h1, h2, h3⟩
    show w_X10_settles_L2 post (n + 1) _ s
    unfold w_X10_settles_L2
    exact ⟨fun _ => h s h1 h2 h3, fun c => absurd (nI_le (Nat.le_refl 96) (by omega)) c⟩
  · rintro n i s hi ⟨h1, h2, h3⟩ kk
    show w_X10_settles_L2 post (n + 1) _ s
    unfold w_X10_settles_L2
    rw [tnI (by omega)]
    refine ⟨fun c => absurd c (nI_ge hi (by decide)), fun _ => ⟨vp_in_nI (by omega) (by omega), vp_in_nI (by omega) (by omega), ?_⟩⟩
    rintro M1 rfl v2 rfl
    rw [nI_1]
    refine kk _ ⟨fun k hk => ?_, fun k hk => ?_, h3.trans (Fr.wr (by omega))⟩
    · by_cases q : k = i
      · rw [rd_eq ⟨rfl, q⟩, h3.row (by omega), q]
      · rw [rd_ne (by omega)]; exact h1 k (by omega)
    · rw [rd_ne (by omega)]; exact h2 k (by omega)
theorem m_hasWays {M : Mem} {t n : Nat} {e : EX} {post : Mem → Prop} (hM : ExM (R130 M) e) (hV : VE e) (ht : t < 5) (hn : n ≤ 4) (h : ∀ M', ExM (R130 M') (sizeE e t n) → FrN M M' → post M') : w_X10_hasWays (nI t) (nI n) M post := by
  have hm := hV.m
  obtain ⟨zk, zz, zd, zl, -⟩ := hV.2.2.2.2.2.2.2 t ht
  obtain ⟨h1, h2, h3, h4⟩ := hM
  obtain ⟨g1, g2, g3, g4, g5⟩ := h4 t ht
  have e2 : ∀ M' : Mem, rd M' 130 (26 + 4 * t + 2) = rd M' 130 (28 + 4 * t) := fun M' => by rw [show 26 + 4 * t + 2 = 28 + 4 * t by omega]
  have e3 : ∀ M' : Mem, rd M' 130 (26 + 4 * t + 3) = rd M' 130 (29 + 4 * t) := fun M' => by rw [show 26 + 4 * t + 3 = 29 + 4 * t by omega]
  unfold w_X10_hasWays
  refine m_becomesOfGroup (k := 1) rfl (by omega) ?_
  refine m_ofGroup (k := 2) rfl (by omega) ?_
  rw [rd_ne (by omega), e2, show rd M 130 (28 + 4 * t) = _ from g3, dead16 _ (hV.d16 ht) _ (by omega)]
  refine m_becomesOfGroup (k := 2) rfl (by omega) ?_
  refine m_ofGroup (k := 3) rfl (by omega) ?_
  rw [rd_ne (by omega), rd_ne (by omega), e3, show rd M 130 (29 + 4 * t) = _ from g4]
  have fin : ∀ v : Int32, v = oI (if n < eL e t then 0 else eL e t) → w_X10_hasWays_J49 post (nI t) (nI n) (nI t) 3 v (wr (wr M 130 (26 + 4 * t + 1) (nI n)) 130 (26 + 4 * t + 2) (nI (eD e t % 2 ^ n))) := by
    rintro v rfl
    unfold w_X10_hasWays_J49
    refine m_becomesOfGroup (k := 3) rfl (by omega) ?_
    refine pk_loop (fun k i (s : Mem) => w_X10_hasWays_L54 post (nI t) k (nI i) s) (fun i s => n ≤ i ∧ FrN M s ∧ rd s 130 (27 + 4 * t) = nI n ∧ rd s 130 (28 + 4 * t) = nI (eD e t % 2 ^ n) ∧ rd s 130 (29 + 4 * t) = oI (if n < eL e t then 0 else eL e t) ∧ (∀ k, k < 66 → k ≠ 27 + 4 * t → k ≠ 28 + 4 * t → k ≠ 29 + 4 * t → ¬ (46 + 4 * t ≤ k ∧ k < 50 + 4 * t) → rd s 130 k = rd M 130 k) ∧ ∀ w, w < 4 → rd s 130 (46 + 4 * t + w) = if n ≤ w ∧ w < i then 0 else eU e t w) 4 n _ hn ⟨Nat.le_refl _, ?_, ?_, ?_, ?_, fun k _ k1 k2 k3 k4 => ?_, fun w hw => ?_⟩ ?_ ?_
    · repeat (first | exact FrN.refl | refine FrN.trans ?_ (FrN.wr (by omega)))
    · simp (disch := omega) only [rd_ne, rd_eq]
    · simp (disch := omega) only [rd_ne, rd_eq]
    · simp (disch := omega) only [rd_ne, rd_eq]
    · simp (disch := omega) only [rd_ne, rd_eq]
    · simp (disch := omega) only [rd_ne, rd_eq]
      rw [if_neg (by omega)]
      exact g5 w hw
    · rintro k s ⟨-, k1, k2, k3, k4, k5, k6⟩
      show w_X10_hasWays_L54 post (nI t) (k + 1) _ s
      unfold w_X10_hasWays_L54
      refine ⟨fun _ => ?_, fun c => absurd (nI_le (Nat.le_refl 4) (by omega)) c⟩
      refine h s ⟨?_, ?_, fun a ha => ?_, fun t' ht' => ?_⟩ k1
      · show rd s 130 24 = _; rw [k5 _ (by omega) (by omega) (by omega) (by omega) (by omega)]; exact h1
      · show rd s 130 25 = _; rw [k5 _ (by omega) (by omega) (by omega) (by omega) (by omega)]; exact h2
      · have ha : a < eM e := ha
        show rd s 130 (4 * a) = _ ∧ rd s 130 (4 * a + 1) = _ ∧ rd s 130 (4 * a + 2) = _ ∧ rd s 130 (4 * a + 3) = _
        rw [k5 _ (by omega) (by omega) (by omega) (by omega) (by omega), k5 _ (by omega) (by omega) (by omega) (by omega) (by omega), k5 _ (by omega) (by omega) (by omega) (by omega) (by omega), k5 _ (by omega) (by omega) (by omega) (by omega) (by omega)]
        exact h3 a ha
      · obtain ⟨j1, j2, j3, j4, j5⟩ := h4 t' ht'
        by_cases q : t' = t
        · subst q
          refine ⟨?_, ?_, ?_, ?_, fun w hw => ?_⟩
          · show rd s 130 (26 + 4 * t') = _; rw [k5 _ (by omega) (by omega) (by omega) (by omega) (by omega)]; exact j1
          · show rd s 130 (27 + 4 * t') = nI (up (eZ e) t' n t'); rw [up_eq rfl]; exact k2
          · show rd s 130 (28 + 4 * t') = nI (up (eD e) t' _ t'); rw [up_eq rfl]; exact k3
          · show rd s 130 (29 + 4 * t') = oI (up (eL e) t' _ t'); rw [up_eq rfl]; exact k4
          · show rd s 130 (46 + 4 * t' + w) = if t' = t' ∧ n ≤ w then 0 else eU e t' w
            rw [k6 w hw]
            by_cases q : n ≤ w
            · rw [if_pos ⟨q, hw⟩, if_pos ⟨rfl, q⟩]
            · rw [if_neg (fun z => q z.1), if_neg (fun z => q z.2)]
        · refine ⟨?_, ?_, ?_, ?_, fun w hw => ?_⟩
          · show rd s 130 (26 + 4 * t') = _; rw [k5 _ (by omega) (by omega) (by omega) (by omega) (by omega)]; exact j1
          · show rd s 130 (27 + 4 * t') = nI (up (eZ e) t n t'); rw [up_ne q, k5 _ (by omega) (by omega) (by omega) (by omega) (by omega)]; exact j2
          · show rd s 130 (28 + 4 * t') = nI (up (eD e) t _ t'); rw [up_ne q, k5 _ (by omega) (by omega) (by omega) (by omega) (by omega)]; exact j3
          · show rd s 130 (29 + 4 * t') = oI (up (eL e) t _ t'); rw [up_ne q, k5 _ (by omega) (by omega) (by omega) (by omega) (by omega)]; exact j4
          · show rd s 130 (46 + 4 * t' + w) = if t' = t ∧ n ≤ w then 0 else eU e t' w
            rw [if_neg (fun z => q z.1), k5 _ (by omega) (by omega) (by omega) (by omega) (by omega)]; exact j5 w hw
    · rintro k i s hi ⟨k0, k1, k2, k3, k4, k5, k6⟩ kk
      show w_X10_hasWays_L54 post (nI t) (k + 1) _ s
      unfold w_X10_hasWays_L54
      rw [show (46 : Int32) + 4 * nI t + nI i = nI (46 + 4 * t + i) by rw [show (4 : Int32) = nI 4 from rfl, show (46 : Int32) = nI 46 from rfl, pk_mul, nI_add, nI_add], tnI (by omega)]
      refine ⟨fun c => absurd c (nI_ge hi (by decide)), fun _ => ⟨vp_in_nI (by omega) (by omega), ?_⟩⟩
      rintro M1 rfl v2 rfl
      rw [nI_1]
      refine kk _ ⟨by omega, k1.trans (FrN.wr (by omega)), ?_, ?_, ?_, fun k' z0 z1 z2 z3 z4 => ?_, fun w hw => ?_⟩
      · rw [rd_ne (by omega)]; exact k2
      · rw [rd_ne (by omega)]; exact k3
      · rw [rd_ne (by omega)]; exact k4
      · rw [rd_ne (by omega)]; exact k5 k' z0 z1 z2 z3 z4
      · by_cases q : w = i
        · rw [rd_eq ⟨rfl, by omega⟩, if_pos (by omega)]
        · rw [rd_ne (by omega), k6 w hw]
          by_cases q2 : n ≤ w ∧ w < i
          · rw [if_pos q2, if_pos (by omega)]
          · rw [if_neg q2, if_neg (by omega)]
  have low : ∀ n, n ≤ 4 → oI 0 < nI n := by decide +kernel
  refine ⟨fun c => ?_, fun c => ?_⟩
  · refine m_ofGroup (k := 3) rfl (by omega) ?_
    rw [rd_ne (by omega), rd_ne (by omega), e3, show rd M 130 (29 + 4 * t) = _ from g4]
    refine fin _ ?_
    have : ¬ n < eL e t := fun z => by
      obtain ⟨l, hl'⟩ : ∃ l, eL e t = l + 1 := ⟨eL e t - 1, by omega⟩
      rw [hl', oI_s] at c
      have := (nI_ltI (by omega) (by omega)).mp c
      omega
    rw [if_neg this]
  · refine fin _ ?_
    have hn' : n < eL e t := by
      rcases Nat.eq_zero_or_pos (eL e t) with z | z
      · rw [z] at c; exact absurd (low n hn) c
      · obtain ⟨l, hl'⟩ : ∃ l, eL e t = l + 1 := ⟨eL e t - 1, by omega⟩
        rw [hl', oI_s] at c
        rcases Nat.lt_or_ge l n with z | z
        · exact absurd (nI_lt z (by omega)) c
        · omega
    rw [if_pos hn']
    rfl
