/-! text: class and reference answer alike -/
theorem c_text {M : Mem} {T : TP} {post : Int32 → Mem → Prop} (hT : TapeC M T) (hO : OKT T)
    (ok : ∀ n d, txL T 161 0 d00 0 = (0, 0, n, d) → DOK d → hiW (sW (dC d)) (sA (dC d)) ≤ eM (dE d) → ∀ M', ExC M' 1 (dE d) → ScC M' 17 (dC d) → rd M' 51 1 = 0 → rd M' 0 9 = 0 → rd M' 76 0 = 0 → rd M' 98 0 = 0 → (∀ i q, ((i = 0 ∧ q = 10) ∨ i = 52 ∨ (74 ≤ i ∧ ¬ (q = 0 ∧ (i = 76 ∨ i = 98)))) → rd M' i q = rd M i q) → post (nI n) M')
    (bad : ∀ f pl n d, txL T 161 0 d00 0 = (f, pl, n, d) → f ≠ 0 → ∀ M', rd M' 51 1 = 0 → rd M' 0 9 = nI f → (∀ i q, ((i < 50 ∧ ¬ (i = 0 ∧ q = 9)) ∨ i = 52 ∨ 74 ≤ i) → rd M' i q = rd M i q) → post (-10 - nI pl) M') : w_X9_text M post := by
  unfold w_X9_text
  refine c_readAll hT hO (fun n d e hD hh hn M4 a1 a2 a3 a4 => ?_) (fun f pl n d e hf M4 a => ?_)
  · rintro M6 hM6
    have r6 : ∀ i k, ¬ (i = 51 ∧ k = 1) → rd M6 i k = rd M4 i k := fun i k z => by rw [hM6]; exact rd_ne (by omega)
    have e6 : rd M6 51 1 = 0 := by rw [hM6]; exact rd_eq ⟨rfl, rfl⟩
    clear hM6
    rw [r6 50 4 (by omega), a3]
    rintro M7 hM7
    have r7 : ∀ i k, ¬ (i = 0 ∧ k = 9) → rd M7 i k = rd M6 i k := fun i k z => by rw [hM7]; exact rd_ne (by omega)
    have e7 : rd M7 0 9 = 0 := by rw [hM7]; exact rd_eq ⟨rfl, rfl⟩
    clear hM7
    have o7 : ∀ i k, ¬ (i = 51 ∧ k = 1) → ¬ (i = 0 ∧ k = 9) → rd M7 i k = rd M4 i k := fun i k z1 z2 => by rw [r7 _ _ z2, r6 _ _ z1]
    refine ⟨fun _ => ?_, fun q => absurd q (by decide)⟩
    have hX : ExC M7 53 (dE d) := a1.1.at (fun i q _ _ => o7 _ _ (by omega) (by omega))
    have hS : ScC M7 69 (dC d) := a1.2.1.at (fun i q _ _ => o7 _ _ (by omega) (by omega))
    have hN := hD.2.2.1.2.1
    refine c1_copyFrom (x := 1) (y := 53) hX hD.1 (by omega) (fun M8 b1 b2 => ?_)
    refine c5_copyFrom (x := 17) (y := 69) (hS.fr b2 (by omega)) ⟨hD.2.2.1.1, by omega⟩ (by omega) (fun M9 c1 c2 => ?_)
    have o9 : ∀ i k, ¬ (1 ≤ i ∧ i < 22) → rd M9 i k = rd M7 i k := fun i k z => by rw [c2.row (by omega), b2.row (by omega)]
    have g9 : ExC M9 1 (dE d) := b1.fr c2 (by omega)
    refine loop_0 (fun n i (s : Mem) => w_X9_text_L72 post n (nI i) s) (fun i s => (∀ t, t < i → rd s (76 + 22 * t) 0 = 0) ∧ ∀ j q, ¬ (q = 0 ∧ (j = 76 ∨ j = 98)) → rd s j q = rd M9 j q) 2 M9 ⟨fun t ht => by omega, fun _ _ _ => rfl⟩ ?_ ?_
    · rintro n' s ⟨k1, k2⟩
      show w_X9_text_L72 post (n' + 1) _ s
      unfold w_X9_text_L72
      refine ⟨fun _ => ?_, fun q => absurd (nI_le (a := 2) (Nat.le_refl _) (by decide)) q⟩
      rw [k2 _ _ (by omega), o9 _ _ (by omega), o7 _ _ (by omega) (by omega), a2]
      refine ok n d e hD hh s (g9.at (fun i q _ _ => k2 _ _ (by omega))) (c1.at (fun i q _ _ => k2 _ _ (by omega))) ?_ ?_ (k1 0 (by omega)) (k1 1 (by omega)) (fun i q z => ?_)
      · rw [k2 _ _ (by omega), o9 _ _ (by omega), r7 _ _ (by omega)]; exact e6
      · rw [k2 _ _ (by omega), o9 _ _ (by omega)]; exact e7
      · rw [k2 _ _ (by omega), o9 _ _ (by omega), o7 _ _ (by omega) (by omega)]; exact a4 _ _ (by omega)
    · rintro n' i s hi ⟨k1, k2⟩ kk
      show w_X9_text_L72 post (n' + 1) _ s
      unfold w_X9_text_L72
      rw [tnI (by omega)]
      refine ⟨fun q => absurd q (nI_ge (b := 2) hi (by decide)), fun _ => ⟨vp_in_nI (by omega) (by omega), ?_⟩⟩
      rintro g hg
      obtain rfl : g = 76 + 22 * i := by omega
      rintro M2 rfl v rfl
      rw [nI_1]
      refine kk _ ⟨fun t ht => ?_, fun j q z => ?_⟩
      · by_cases z : t = i
        · rw [z]; exact rd_eq ⟨rfl, rfl⟩
        · rw [rd_ne (by omega)]; exact k1 t (by omega)
      · rw [rd_ne (by omega)]; exact k2 j q z
  · obtain ⟨a1, a2, a3⟩ := a
    rintro M6 hM6
    have r6 : ∀ i k, ¬ (i = 51 ∧ k = 1) → rd M6 i k = rd M4 i k := fun i k z => by rw [hM6]; exact rd_ne (by omega)
    have e6 : rd M6 51 1 = 0 := by rw [hM6]; exact rd_eq ⟨rfl, rfl⟩
    clear hM6
    rw [r6 50 4 (by omega), a1]
    rintro M7 hM7
    have r7 : ∀ i k, ¬ (i = 0 ∧ k = 9) → rd M7 i k = rd M6 i k := fun i k z => by rw [hM7]; exact rd_ne (by omega)
    have e7 : rd M7 0 9 = nI f := by rw [hM7]; exact rd_eq ⟨rfl, rfl⟩
    clear hM7
    refine ⟨fun q => absurd rfl q, fun _ => ?_⟩
    rw [r7 50 5 (by omega), r6 50 5 (by omega), a2]
    refine bad f pl n d e hf M7 ?_ e7 (fun i q z => ?_)
    · rw [r7 _ _ (by omega)]; exact e6
    · rw [r7 _ _ (by omega), r6 _ _ (by omega)]; exact a3 _ _ (by omega)
theorem shAt {M M' : Mem} {k : Nat} (hk : k < 4) (h : ShP M k) (s : ∀ i q, ((120 ≤ i ∧ i ≤ 127) ∨ (136 ≤ i ∧ i ≤ 138)) → rd M' i q = rd M i q) : ShP M' k := by
  rcases h with ⟨a, b⟩ | ⟨l, z, a1, a2, a3, a4, a5, a6, a7⟩
  · exact Or.inl ⟨by rw [s _ _ (by omega)]; exact a, by rw [s _ _ (by omega)]; exact b⟩
  · refine Or.inr ⟨l, z, a1, a2, ?_, ?_, ?_, ?_, fun i hi => ?_⟩
    · rw [s _ _ (by omega)]; exact a3
    · rw [s _ _ (by omega)]; exact a4
    · rw [s _ _ (by omega)]; exact a5
    · rw [s _ _ (by omega)]; exact a6
    · rw [s _ _ (by omega), s 138 _ (by omega)]; exact a7 i hi
theorem imAt {M M' : Mem} {k : Nat} (hk : k < 2) (h : ImP M k) (s : ∀ i q, ((76 ≤ i ∧ i ≤ 119) ∨ i = 131 ∨ (i = 129 ∧ 96 ≤ q)) → rd M' i q = rd M i q) : ImP M' k := by
  rcases h with ⟨a, b⟩ | ⟨a, b, e, c, a1, a2, a3, a4, a5, a6⟩
  · exact Or.inl ⟨by rw [s _ _ (by omega)]; exact a, by rw [s _ _ (by omega)]; exact b⟩
  · refine Or.inr ⟨by rw [s _ _ (by omega)]; exact a, by rw [s _ _ (by omega)]; exact b, e, c, ?_, ?_, ?_, ?_, a5, a6⟩
    · exact a1.at (fun i q _ _ => s _ _ (by omega))
    · exact a2.congr a5.m (fun j _ => s _ _ (by omega))
    · exact a3.at (fun i q _ _ => s _ _ (by omega))
    · exact a4.congr ⟨a6.1, a6.2.1⟩ (fun j _ _ => s _ _ (by omega))
theorem op_text {M : Mem} (hI : INV M) : w_X9_text M (fun r M1 => w_X10_text M1 (fun r' M2 => r = r' ∧ INV M2)) := by
  obtain ⟨e0, c0, hC, ⟨n, hn, t1, t2, t3⟩, ⟨f1, f2⟩, hs, hi⟩ := hI
  have hb : ∀ k, k < n → (rd M 52 k).toNatClampNeg < 128 ∧ rd M 52 k = nI (rd M 52 k).toNatClampNeg ∧ rd M 133 k = nI (rd M 52 k).toNatClampNeg := fun k hk => by
    obtain ⟨b, b1, b2, b3⟩ := t3 k hk
    rw [b2, b3, tnI (by omega)]
    exact ⟨b1, rfl, rfl⟩
  obtain ⟨T, hT⟩ : ∃ T : TP, T = (n, fun k => (rd M 52 k).toNatClampNeg) := ⟨_, rfl⟩
  have hO : OKT T := by rw [hT]; exact ⟨hn, fun k hk => (hb k hk).1⟩
  have hTC : TapeC M T := by rw [hT]; exact ⟨t1, fun k hk => (hb k hk).2.1⟩
  have hTM : TapeM M T := by rw [hT]; exact ⟨t2, fun k hk => (hb k hk).2.2⟩
  clear hT
  refine c_text hTC hO (fun n1 d1 e1 hD hh M1 a1 a2 a3 a4 a5 a6 a7 => ?_) (fun f pl n1 d1 e1 hf M1 a3 a4 a7 => ?_)
  · have hTM1 : TapeM M1 T := hTM.fr (a7 _ _ (by omega)) (fun k => a7 _ _ (by omega))
    refine m_text hTM1 hO (fun n2 d2 e2 _ M2 b1 b2 b3 b4 b5 b6 b7 => ?_) (fun f pl n2 d2 e2 hf _ M2 _ _ _ _ _ => ?_)
    · obtain ⟨rfl, rfl⟩ : n1 = n2 ∧ d1 = d2 := by
        have e := e1.symm.trans e2
        simp only [Prod.mk.injEq, true_and] at e
        exact e
      have hN := hD.2.2.1.2.1
      refine ⟨rfl, dE d1, dC d1, ⟨a1.at (fun i q _ _ => b7 _ _ (by omega)), b3, a2.at (fun i q _ _ => b7 _ _ (by omega)), b4, hD.1, hD.2.2.1.1, by omega, fun i hi => ⟨(hiW_le _).mp hh i hi, (hD.2.2.1.2.2 i hi).2⟩, fun j hj => absurd hj (by omega)⟩, ⟨0, by omega, ?_, b2, fun k hk => absurd hk (Nat.not_lt_zero _)⟩, ⟨?_, ?_⟩, fun k hk => shAt hk (hs k hk) (fun i q z => ?_), fun k hk => Or.inl ?_⟩
      · rw [b7 _ _ (by omega)]; exact a3
      · rw [b7 0 9 (by omega), a4, b1]
      · rw [b7 0 10 (by omega), b7 128 26 (by omega), a7 0 10 (by omega), a7 128 26 (by omega)]; exact f2
      · rw [b7 _ _ (by omega), a7 _ _ (by omega)]
      · rcases (show k = 0 ∨ k = 1 by omega) with rfl | rfl
        · exact ⟨by rw [b7 _ _ (by omega)]; exact a5, b5⟩
        · exact ⟨by rw [b7 _ _ (by omega)]; exact a6, b6⟩
    · have e := e1.symm.trans e2
      simp only [Prod.mk.injEq] at e
      exact absurd e.1.symm hf
  · have hTM1 : TapeM M1 T := hTM.fr (a7 _ _ (by omega)) (fun k => a7 _ _ (by omega))
    refine m_text hTM1 hO (fun n2 d2 e2 _ M2 _ _ _ _ _ _ _ => ?_) (fun f2' pl2 n2 d2 e2 hf2 _ M2 b1 b2 b3 b4 b5 => ?_)
    · have e := e1.symm.trans e2
      simp only [Prod.mk.injEq] at e
      exact absurd e.1 hf
    · obtain ⟨rfl, rfl, -, -⟩ : f = f2' ∧ pl = pl2 ∧ n1 = n2 ∧ d1 = d2 := by
        have e := e1.symm.trans e2
        simp only [Prod.mk.injEq] at e
        exact e
      refine ⟨rfl, e0, c0, hC.at (fun i q _ _ => ?_) (fun q _ => ?_), ⟨0, by omega, ?_, b2, fun k hk => absurd hk (Nat.not_lt_zero _)⟩, ⟨?_, ?_⟩, fun k hk => shAt hk (hs k hk) (fun i q z => ?_), fun k hk => imAt hk (hi k hk) (fun i q z => ?_)⟩
      · rw [b3 _ _ (by omega), a7 _ _ (by omega)]
      · rw [b4, a7 _ _ (by omega)]
      · rw [b3 _ _ (by omega)]; exact a3
      · rw [b3 0 9 (by omega), a4, b1]
      · rw [b3 0 10 (by omega), b3 128 26 (by omega), a7 0 10 (by omega), a7 128 26 (by omega)]; exact f2
      · rw [b3 _ _ (by omega), a7 _ _ (by omega)]
      · by_cases y : i = 131
        · rw [y, b5, a7 _ _ (by omega)]
        · by_cases y2 : i = 129
          · rw [y2, b4, a7 _ _ (by omega)]
          · rw [b3 _ _ (by omega), a7 _ _ (by omega)]
