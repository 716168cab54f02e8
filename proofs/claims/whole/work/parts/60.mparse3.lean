/-! the reference reads the plan -/
theorem hiW_congr {w w' : Nat → Nat} : ∀ n, (∀ i, i < n → w i = w' i) → hiW w n = hiW w' n := by
  intro n
  induction n with
  | zero => intro _; rfl
  | succ n ih =>
    intro h
    simp only [hiW]
    rw [ih (fun i hi => h i (by omega)), h n (by omega)]
theorem hiW_plan {c : SC} {a n : Nat} : hiW (sW (planA c a n)) (sA c + 1) = if hiW (sW c) (sA c) < a + 1 then a + 1 else hiW (sW c) (sA c) := by
  have e : hiW (up (sW c) (sA c) a) (sA c) = hiW (sW c) (sA c) := hiW_congr _ (fun i hi => up_ne (by omega))
  show (if hiW (up (sW c) (sA c) a) (sA c) < up (sW c) (sA c) a (sA c) + 1 then up (sW c) (sA c) a (sA c) + 1 else hiW (up (sW c) (sA c) a) (sA c)) = _
  rw [e, up_eq rfl]
theorem oI_max : ∀ a, a < 6 → ∀ h, h < 7 → (nI a ≤ oI h → oI h = oI (if h < a + 1 then a + 1 else h)) ∧ (¬ nI a ≤ oI h → nI a = oI (if h < a + 1 then a + 1 else h)) := by decide +kernel
theorem m_pl61 {M : Mem} {f st : Nat} {a s1 : Int32} {post K0 : Mem → Prop} (hF : FM M f st) (h0 : f ≠ 0) (h6 : f ≤ 6) (kk : ∀ M', FM M' f st → FrQ M M' → K0 M') : w_X10_readPlan_J61 post K0 a s1 M := by
  unfold w_X10_readPlan_J61
  rintro M1 hM1
  have hF1 : FM M1 f st := by rw [hM1]; exact hF.w128 (by omega)
  have f1 : FrQ M M1 := by rw [hM1]; exact FrQ.w128 (by omega)
  clear hM1
  have hne := hF1.ne h0 h6
  refine m_lookedX hne (m_isDialled (fun _ _ _ => ?_) (fun _ => ?_)) <;> exact m_needsX hne (m_takesF hF1 h0 h6 ⟨fun _ => kk M1 hF1 f1, fun q => absurd q hne⟩)
theorem m_readPlan {M : Mem} {T : TP} {p : Nat} {d : DD} {post : Mem → Prop} (hA : AtM M T (tE T p)) (hR : RdM M (dE d, dC d, dF d, true, dG d)) (hT : TapeM M T) (hO : OKT T) (hp : p ≤ T.1) (hD : DOK d) (hP0 : dP d = false) (h : ∀ M', EndB T M M' (plnO T p d) → post M') : w_X10_readPlan M post := by
  obtain ⟨b0, b1⟩ := tE_N hp
  have eo := show plnO T p d = _ from if_neg (by rw [hP0]; decide)
  have hA0 := hD.2.2.2.2 hP0
  have hD1 : DOK (dE d, dC d, dF d, true, dG d) := ⟨hD.1, hD.2.1, hD.2.2.1, hD.2.2.2.1, fun z => absurd (show true = false from z) (by decide)⟩
  have i67 : ∀ x, (67 : Int32) + 2 * nI x = nI (67 + 2 * x) := fun x => by rw [show (2 : Int32) = nI 2 from rfl, show (67 : Int32) = nI 67 from rfl, pk_mul, nI_add]
  unfold w_X10_readPlan
  refine loop_0 (fun n _ (s : Nat × DD × Mem) => w_X10_readPlan_L0 post n s.2.2) (fun i s => FrQ M s.2.2 ∧ ((∃ f st dd, plL T 9 (tE T p) (dE d, dC d, dF d, true, dG d) = (f, st, dd) ∧ f ≠ 0 ∧ f ≤ 6 ∧ FM s.2.2 f st) ∨ (RdM s.2.2 s.2.1 ∧ DOK s.2.1 ∧ dP s.2.1 = true ∧ sA (dC s.2.1) = i ∧ s.1 ≤ T.1 ∧ AtM s.2.2 T s.1 ∧ plL T 9 (tE T p) (dE d, dC d, dF d, true, dG d) = plL T (9 - i) s.1 s.2.1))) 9 (tE T p, (dE d, dC d, dF d, true, dG d), M) ⟨FrQ.refl, Or.inr ⟨hR, hD1, rfl, hA0, b1, hA, rfl⟩⟩ ?_ ?_
  · rintro n ⟨x, d', s⟩ ⟨k0, k⟩
    change FrQ M s at k0
    show w_X10_readPlan_L0 post (n + 1) s
    unfold w_X10_readPlan_L0
    rcases k with ⟨f, st, dd, e1, e2, e3, e4⟩ | ⟨-, k2, -, k4, -⟩
    · exact ⟨fun _ => h s ⟨k0, Or.inr (by rw [eo, e1]; exact ⟨e2, e3, e4⟩)⟩, fun q => absurd q (e4.ne e2 e3)⟩
    · have := k2.2.2.1.1
      change sA (dC d') = 9 at k4
      change sA (dC d') ≤ 8 at this
      omega
  · rintro n i ⟨x, d', s⟩ hi ⟨k0, k⟩ kk
    change FrQ M s at k0
    show w_X10_readPlan_L0 post (n + 1) s
    unfold w_X10_readPlan_L0
    rcases k with ⟨f, st, dd, e1, e2, e3, e4⟩ | ⟨k1, k2, k3, k4, k5, k6, k7⟩
    · exact ⟨fun _ => h s ⟨k0, Or.inr (by rw [eo, e1]; exact ⟨e2, e3, e4⟩)⟩, fun q => absurd q (e4.ne e2 e3)⟩
    · change RdM s d' at k1
      change DOK d' at k2
      change dP d' = true at k3
      change sA (dC d') = i at k4
      change x ≤ T.1 at k5
      change AtM s T x at k6
      change _ = plL T (9 - i) x d' at k7
      have h8' := k2.2.2.1.1
      obtain ⟨j, hj⟩ : ∃ j, 9 - i = j + 1 := ⟨8 - i, by omega⟩
      rw [hj, plL_s (f := j)] at k7
      obtain ⟨x0, x1⟩ := tE_N k5
      obtain ⟨x2, x3⟩ := tE_N x1
      have tk4 := tK_4 (T := T) (p := x)
      rcases k6 with ⟨n4, hK, h0⟩ | ⟨n4, hF⟩
      · refine ⟨fun q => absurd h0 q, fun _ => ?_⟩
        rw [hK.1]
        refine ⟨fun q => ?_, fun q => ?_⟩
        · have n2 : tK T x ≠ 2 := fun z => q (by rw [z]; rfl)
          have e2 : kF T x 2 = 2 := by unfold kF; rw [if_neg n4, if_pos n2]
          refine h s ⟨k0, Or.inl ⟨x, d', ?_, k5, k2, k1, Or.inl ⟨n4, hK, h0⟩⟩⟩
          rw [eo, k7]
          by_cases z : tK T x = 3
          · have e3 : kF T x 3 = 0 := by unfold kF; rw [if_neg n4, if_neg (fun y => y z)]
            rw [if_pos z]
            unfold signO
            rw [if_neg (fun y => y e3)]
          · have e3 : kF T x 3 = 2 := by unfold kF; rw [if_neg n4, if_pos z]
            rw [if_neg z, if_pos (show kF T x 2 ≠ 0 by omega)]
            unfold signO
            rw [if_pos (show kF T x 3 ≠ 0 by omega), e2, e3]
        · have z2 : tK T x = 2 := nI_inj (by omega) (by decide) q
          have e2 : kF T x 2 = 0 := by unfold kF; rw [if_neg n4, if_neg (fun y => y z2)]
          have n3 : ¬ tK T x = 3 := by omega
          rw [if_neg n3, if_neg (fun y => y e2)] at k7
          have hv := tV_100 k5 z2
          have h66 : rd s 132 66 = nI i := by rw [show rd s 132 66 = _ from k1.2.1.1, k4]
          rw [h66]
          refine ⟨fun q2 => ?_, fun q2 => ?_⟩
          · have h8 : 8 ≤ i := (nI_leI (a := 8) (by decide) (by omega)).mp q2
            rw [if_pos (show 8 ≤ sA (dC d') by omega)] at k7
            unfold w_X10_readPlan_J33
            refine m_needsF rfl h0 (fun M' c1 c2 c3 => ?_)
            have hF : FM M' 5 (tS T x) := ⟨c1, by rw [c2]; exact hK.2.1⟩
            have fin : ∀ M2, FM M2 5 (tS T x) → FrQ M' M2 → w_X10_readPlan_L0 post n M2 := fun M2 d1 d2 => kk (x, d', M2) ⟨k0.trans ((FrT.q c3).trans d2), Or.inl ⟨5, tS T x, d', k7, by omega, by omega, d1⟩⟩
            unfold w_X10_readWorth
            refine m_lookedX (hF.ne (by omega) (by omega)) (m_takesF hF (by omega) (by omega) ⟨fun _ => m_pl61 hF (by omega) (by omega) fin, fun _ => m_pl61 hF (by omega) (by omega) fin⟩)
          · have h8 : i < 8 := by
              rcases Nat.lt_or_ge i 8 with z | z
              · exact z
              · exact absurd (nI_le (a := 8) z (by omega)) q2
            rw [if_neg (show ¬ 8 ≤ sA (dC d') by omega)] at k7
            unfold w_X10_readPlan_J33
            refine m_needsT (by decide) ?_
            unfold w_X10_readWorth
            refine m_looked (lo := 0) (hi := 5) (Or.inl ⟨n4, hK, h0⟩) k5 (by omega) (by omega) (fun e _ _ => ?_) (fun e M' g1 g2 => ?_)
            · obtain ⟨-, -, hv5⟩ := numF_0 e
              rw [if_neg (show ¬ 6 ≤ tV T x by omega)] at k7
              refine m_takesA (p := tE T x) (hT.q k0) hO x1 hK.2.2.1 h0 (fun M2 a1 a2 => ?_)
              have hh6 : hiW (sW (dC d')) (sA (dC d')) ≤ 6 := (hiW_le _).mpr (fun i hi => (k2.2.2.1.2.2 i hi).1)
              have h7 : rd M2 128 7 = oI (hiW (sW (dC d')) (sA (dC d'))) := by rw [a2 _ _ (by omega)]; exact k1.2.2.2.2.2.2
              show (nI (tV T x) ≤ rd M2 128 7 → w_X10_readPlan_J61 post (w_X10_readPlan_L0 post n) (nI (tV T x)) (rd M2 128 7) M2) ∧ (¬ nI (tV T x) ≤ rd M2 128 7 → w_X10_readPlan_J61 post (w_X10_readPlan_L0 post n) (nI (tV T x)) (nI (tV T x)) M2)
              rw [h7]
              have mx := oI_max (tV T x) (by omega) (hiW (sW (dC d')) (sA (dC d'))) (by omega)
              suffices go : w_X10_readPlan_J61 post (w_X10_readPlan_L0 post n) (nI (tV T x)) (oI (if hiW (sW (dC d')) (sA (dC d')) < tV T x + 1 then tV T x + 1 else hiW (sW (dC d')) (sA (dC d')))) M2 from
                ⟨fun z => by rw [mx.1 z]; exact go, fun z => by have g := go; rw [← mx.2 z] at g; exact g⟩
              rw [← hiW_plan (n := tV T (tE T x))]
              unfold w_X10_readPlan_J61
              rintro M3 hM3
              have r3 : ∀ i k, ¬ (i = 128 ∧ k = 7) → rd M3 i k = rd M2 i k := fun i k z => by rw [hM3]; exact rd_ne (by omega)
              have e3 : rd M3 128 7 = oI (hiW (sW (planA (dC d') (tV T x) (tV T (tE T x)))) (sA (dC d') + 1)) := by rw [hM3]; exact rd_eq ⟨rfl, rfl⟩
              clear hM3
              have f3 : FrQ M M3 := (k0.trans a2.q).trans (fun i q z => r3 _ _ (by omega))
              have hA3 : AtM M3 T (tE T x) := a1.at (fun q _ _ => r3 _ _ (by omega))
              refine m_looked (lo := 0) (hi := 99) hA3 x1 (by omega) (by omega) (fun e5 hK5 h05 => ?_) (fun e5 M' g1 g2 => ?_)
              · rw [numF_99 x1] at e5
                rw [if_neg (fun y => y e5)] at k7
                have ek2 := kF_2 e5
                have hv2 := tV_100 x1 ek2
                refine m_isDialled (fun m hm e6 => m_needsT (by decide) ?_) (fun no => m_needsF rfl h05 (fun M' c1 c2 c3 => ?_))
                · obtain rfl : tV T (tE T x) = m := nI_inj (by omega) (hm.elim (fun y => by omega) (fun y => by have := y.1; omega)) e6
                  rw [if_neg (fun z => z (hm.elim Or.inl (fun y => Or.inr ⟨y.1, y.2⟩)))] at k7
                  refine m_takesA (p := tE T (tE T x)) (hT.q f3) hO x3 hK5.2.2.1 h05 (fun M7 b1 b2 => ?_)
                  have f7 : FrQ M M7 := f3.trans b2.q
                  have hD' := k2.add (a := tV T x) (n := tV T (tE T x)) (by omega) (by omega) hm k3
                  have o7 : ∀ q, rd M7 132 q = rd s 132 q := fun q => by rw [b2 _ _ (by omega), r3 _ _ (by omega), a2 _ _ (by omega)]
                  have o8 : ∀ q, q < 10 → q ≠ 7 → rd M7 128 q = rd s 128 q := fun q z1 z2 => by rw [b2 _ _ (by omega), r3 _ _ (by omega), a2 _ _ (by omega)]
                  have h67 : rd M7 132 66 = nI i := by rw [o7]; exact h66
                  rcases b1 with ⟨n4', hK7, h07⟩ | ⟨n4', hF7⟩
                  · refine ⟨fun q => absurd h07 q, fun _ => ?_⟩
                    rw [h67, i67, tnI (by omega)]
                    refine ⟨vp_in_nI (by omega) (by omega), ?_⟩
                    rintro M8 hM8
                    have r8 : ∀ i' k, rd M8 i' k = if i' = 132 ∧ k = 67 + 2 * i then nI (tV T x) else rd M7 i' k := fun i' k => by rw [hM8, rd_wr]
                    clear hM8
                    have e8 : rd M8 132 66 = nI i := by rw [r8, if_neg (by omega)]; exact h67
                    rw [e8, i67, nI_1, tnI (by omega)]
                    refine ⟨vp_in_nI (by omega) (by omega), ?_⟩
                    rintro M9 hM9
                    have r9 : ∀ i' k, rd M9 i' k = if i' = 132 ∧ k = 68 + 2 * i then nI (tV T (tE T x)) else rd M8 i' k := fun i' k => by
                      rw [hM9, rd_wr, show 67 + 2 * i + 1 = 68 + 2 * i by omega]
                    clear hM9
                    have e9 : rd M9 132 66 = nI i := by rw [r9, if_neg (by omega)]; exact e8
                    rw [e9, nI_1]
                    rintro M10 hM10
                    have r10 : ∀ i' k, rd M10 i' k = if i' = 132 ∧ k = 66 then nI (i + 1) else rd M9 i' k := fun i' k => by rw [hM10, rd_wr]
                    clear hM10
                    have o10 : ∀ i' k, ¬ (i' = 132 ∧ (k = 66 ∨ k = 67 + 2 * i ∨ k = 68 + 2 * i)) → rd M10 i' k = rd M7 i' k := fun i' k z => by
                      rw [r10, if_neg (by omega), r9, if_neg (by omega), r8, if_neg (by omega)]
                    have f10 : FrQ M M10 := f7.trans (fun i' q z => o10 _ _ (by omega))
                    obtain ⟨y1, y2, y3, y4, y5, y6, y7⟩ := k1
                    have hm6 := k2.1.m
                    have hN := k2.2.2.1.2.1
                    refine kk (tE T (tE T x), (dE d', planA (dC d') (tV T x) (tV T (tE T x)), dF d', dP d', dG d'), M10) ⟨f10, Or.inr ⟨⟨y1.congr hm6 (fun k hk => ?_), ⟨?_, ?_, fun a ha => ?_, fun a ha => ?_⟩, fun a ha => ?_, ?_, ?_, ?_, ?_⟩, hD', k3, by show sA (dC d') + 1 = i + 1; omega, x3, AtM.at (M := M7) (Or.inl ⟨n4', hK7, h07⟩) (fun q _ _ => o10 _ _ (by omega)), ?_⟩⟩
                    · show rd M10 132 k = rd s 132 k
                      rw [o10 _ _ (by omega), o7]
                    · show rd M10 132 66 = nI (sA (dC d') + 1)
                      rw [r10, if_pos ⟨rfl, rfl⟩, k4]
                    · show rd M10 132 83 = nI (sN (dC d'))
                      rw [o10 _ _ (by omega), o7]; exact y2.2.1
                    · have ha : a < sA (dC d') + 1 := ha
                      show rd M10 132 (67 + 2 * a) = nI (up (sW (dC d')) (sA (dC d')) (tV T x) a) ∧ rd M10 132 (68 + 2 * a) = nI (up (sD (dC d')) (sA (dC d')) (tV T (tE T x)) a)
                      by_cases z : a = sA (dC d')
                      · rw [up_eq z, up_eq z]
                        refine ⟨?_, ?_⟩
                        · rw [r10, if_neg (by omega), r9, if_neg (by omega), r8, if_pos (by omega)]
                        · rw [r10, if_neg (by omega), r9, if_pos (by omega)]
                      · rw [up_ne z, up_ne z, o10 _ _ (by omega), o10 _ _ (by omega), o7, o7]
                        exact y2.2.2.1 a (by omega)
                    · have ha : a < sN (dC d') := ha
                      omega
                    · rw [o10 _ _ (by omega), o10 _ _ (by omega), o10 _ _ (by omega), o7, o7, o7]; exact y3 a ha
                    · rw [o10 _ _ (by omega), o8 _ (by omega) (by omega)]; exact y4
                    · rw [o10 _ _ (by omega), o8 _ (by omega) (by omega)]; exact y5
                    · rw [o10 _ _ (by omega), o8 _ (by omega) (by omega)]; exact y6
                    · rw [o10 _ _ (by omega), b2 _ _ (by omega)]; exact e3
                    · show _ = plL T (9 - (i + 1)) _ _
                      rw [k7, show 9 - (i + 1) = j by omega]
                  · obtain ⟨j', rfl⟩ : ∃ j', j = j' + 1 := ⟨j - 1, by omega⟩
                    have e1 : kF T (tE T (tE T x)) 2 = 1 := by unfold kF; rw [if_pos n4']
                    rw [plL_s (f := j'), if_neg (show ¬ tK T (tE T (tE T x)) = 3 by omega), if_pos (show kF T (tE T (tE T x)) 2 ≠ 0 by omega), e1] at k7
                    exact ⟨fun _ => kk (x, d', M7) ⟨f7, Or.inl ⟨1, tS T (tE T (tE T x)), _, k7, by omega, by omega, hF7⟩⟩, fun q => absurd q (hF7.ne (by omega) (by omega))⟩
                · have hF : FM M' 3 (tS T (tE T x)) := ⟨c1, by rw [c2]; exact hK5.2.1⟩
                  rw [if_pos (fun z => no _ (z.elim Or.inl (fun y => Or.inr ⟨y.1, y.2⟩)) rfl)] at k7
                  refine m_takesF hF (by omega) (by omega) ⟨fun _ => kk (x, d', M') ⟨f3.trans (FrT.q c3), Or.inl ⟨3, _, _, k7, by omega, by omega, hF⟩⟩, fun q => absurd q (hF.ne (by omega) (by omega))⟩
              · rw [numF_99 x1] at e5 g1
                rw [if_pos e5] at k7
                have k3' := kF_3 (T := T) (p := tE T x) (k := 2)
                have hne := g1.ne e5 (by omega)
                have fin : w_X10_readPlan_L0 post n M' := kk (x, d', M') ⟨f3.trans g2.q, Or.inl ⟨_, _, _, k7, e5, by omega, g1⟩⟩
                refine m_isDialled (fun _ _ _ => ?_) (fun _ => ?_) <;> exact m_needsX hne (m_takesF g1 e5 (by omega) ⟨fun _ => fin, fun q => absurd q hne⟩)
            · have h6 : 6 ≤ tV T x := by
                rcases Nat.lt_or_ge (tV T x) 6 with z | z
                · exact absurd (show numF T x 0 5 = 0 by unfold numF; rw [if_neg (fun y => y e2), if_neg (by omega)]) e
                · exact z
              have en : numF T x 0 5 = 3 := by unfold numF; rw [if_neg (fun y => y e2), if_pos (by omega)]
              rw [en] at g1
              rw [if_pos h6] at k7
              have fin : ∀ M2, FM M2 3 (tS T x) → FrQ M' M2 → w_X10_readPlan_L0 post n M2 := fun M2 d1 d2 => kk (x, d', M2) ⟨k0.trans (g2.q.trans d2), Or.inl ⟨3, tS T x, d', k7, by omega, by omega, d1⟩⟩
              exact m_takesF g1 (by omega) (by omega) ⟨fun _ => m_pl61 g1 (by omega) (by omega) fin, fun _ => m_pl61 g1 (by omega) (by omega) fin⟩
      · have e1 : kF T x 2 = 1 := by unfold kF; rw [if_pos n4]
        rw [if_neg (show ¬ tK T x = 3 by omega), if_pos (show kF T x 2 ≠ 0 by omega), e1] at k7
        exact ⟨fun _ => h s ⟨k0, Or.inr (by rw [eo, k7]; exact ⟨by show 1 ≠ 0; omega, by show 1 ≤ 6; omega, hF⟩)⟩, fun q => absurd q (hF.ne (by omega) (by omega))⟩
