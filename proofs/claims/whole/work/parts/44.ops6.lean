/-! drift (the reference), count -/
theorem stepD_1 {p1 : EX} {s0 : Nat} {s1 sv : Int32} {g : Nat} (h1 : s1 * 1103515245 + 12345 = sv) (h2 : gotN sv = g) (q : eS p1 (g % eM p1) ≠ 0) : stepD (p1, s0, s1) = (partE p1 (g % eM p1), s0, sv) := by
  subst h2
  unfold stepD
  show (if eS p1 (gotN (s1 * 1103515245 + 12345) % eM p1) ≠ 0 then _ else _) = _
  rw [h1, if_pos q]
theorem stepD_0 {p1 : EX} {s0 : Nat} {s1 sv : Int32} {g : Nat} (h1 : s1 * 1103515245 + 12345 = sv) (h2 : gotN sv = g) (q : eS p1 (g % eM p1) = 0) : stepD (p1, s0, s1) = ((ringE p1 (g % eM p1) (eN p1 (g / 8 % eM p1))).2, s0 + (if (ringE p1 (g % eM p1) (eN p1 (g / 8 % eM p1))).1 = 0 then 0 else 1), sv) := by
  subst h2
  unfold stepD
  show (if eS p1 (gotN (s1 * 1103515245 + 12345) % eM p1) ≠ 0 then _ else _) = _
  rw [h1, if_neg (fun z => z q)]
theorem drS_s {e : EX} {v : Int32} {n : Nat} : drS e v (n + 1) = stepD (drS e v n) := by rw [drS]
theorem m_driftStep {n k n' i s0 : Nat} {s1 : Int32} {s : Mem} {p1 : EX} {post : Int32 → Mem → Prop} (j2 : ExM (R130 s) p1) (hV1 : VE p1) (h0 : 0 < eM p1) (hi : i < n) (hn : n ≤ 60) (kk : ∀ (s' : Mem) (E : EX) (l : Nat) (sv : Int32), stepD (p1, s0, s1) = (E, l, sv) → ExM (R130 s') E → FrM s s' → w_X10_drift_L47 post (nI n) (nI k) n' sv (nI l) (nI (i + 1)) s') : w_X10_drift_L47 post (nI n) (nI k) (n' + 1) s1 (nI s0) (nI i) s := by
  have hm := hV1.m
  unfold w_X10_drift_L47
  refine ⟨fun q => absurd q (nI_ge hi (by omega)), fun _ => ?_⟩
  rintro sv hsv
  obtain ⟨g1, g2⟩ := got_eq sv
  have hg := fun z => stepD_0 (p1 := p1) (s0 := s0) (g := gotN sv) hsv.symm rfl z
  have hh := fun z => stepD_1 (p1 := p1) (s0 := s0) (g := gotN sv) hsv.symm rfl z
  generalize gotN sv = g at *
  clear hsv
  have ha : g % eM p1 < eM p1 := Nat.mod_lt _ (by omega)
  have hb : g / 8 % eM p1 < eM p1 := Nat.mod_lt _ (by omega)
  have fin : ∀ (s' : Mem) (E : EX) (l : Nat) (w : Int32), w = nI l → stepD (p1, s0, s1) = (E, l, sv) → ExM (R130 s') E → FrM s s' → w_X10_drift_J142 post (w_X10_drift_L47 post (nI n) (nI k) n') (nI n) (nI k) sv w (nI i) s' := fun s' E l w hw b1 b2 b3 => by
    subst hw
    unfold w_X10_drift_J142
    rintro w rfl
    rw [nI_1]
    exact kk s' E l sv b1 b2 b3
  rintro v3 rfl
  rw [show rd s 130 24 = _ from j2.1, g1]
  have hne : ¬ nI (eM p1) = 0 := nI_ne0 (by omega) (by omega)
  refine ⟨hne, ?_⟩
  rintro v4 rfl
  rw [nI_irem (by omega) (by omega) (by omega), show nI g / 8 = nI (g / 8) from pk_div (d := 8) (by omega) (by decide) (by decide)]
  refine m_of (k := 2) rfl (by omega) ?_
  rw [show rd s 130 (4 * (g % eM p1) + 2) = _ from (j2.2.2.1 _ ha).2.2.1]
  have hsa := hV1.2.2.2.2.1 _ ha
  refine ⟨fun q => ?_, fun q => ?_⟩
  · have s0' : eS p1 (g % eM p1) = 0 := nI_inj (by omega) (by decide) q
    have r5 := ring_5 (e := p1) (a := g % eM p1) (n := eN p1 (g / 8 % eM p1))
    rw [show rd s 130 24 = _ from j2.1]
    refine ⟨hne, ?_⟩
    rw [nI_irem (by omega) (by omega) (by omega)]
    refine m_of (k := 0) rfl (by omega) ?_
    rw [show rd s 130 (4 * (g / 8 % eM p1) + 0) = _ from (j2.2.2.1 _ hb).1]
    refine m_dials j2 hV1 ha s0' (hV1.2.2.1 _ hb).1 (fun M' b1 b2 => ?_)
    refine m_isLost (by omega) ?_
    refine m_flag ?_
    rintro v17 hv17
    refine fin M' _ _ _ (hv17.trans ?_) (hg s0') b1 (FrM.of130 b2.1)
    by_cases z : (ringE p1 (g % eM p1) (eN p1 (g / 8 % eM p1))).1 = 0
    · rw [if_pos z, decide_eq_false (fun y => by omega)]; exact nI_add s0 0
    · rw [if_neg z, decide_eq_true ⟨by omega, by omega⟩]; exact nI_add s0 1
  · have s0' : eS p1 (g % eM p1) ≠ 0 := fun z => q (by rw [z]; rfl)
    refine m_hangsUp j2 hV1 ha s0' (fun M' b1 b2 => ?_)
    exact fin M' _ s0 _ rfl (hh s0') b1 (FrM.of130 b2.1)
theorem m_drift {M : Mem} {e : EX} {c : SC} {v : Int32} {n k : Nat} {post : Int32 → Mem → Prop} (hC : CoreP M e c) (h0 : 0 < eM e) (hn : n ≤ 60) (hk : k < 2) (h : ∀ M1, FrM M M1 → post (drR e v n k) M1) : w_X10_starts M (fun (M23 : Mem) => ∃ g47 : Nat, w_X10_drift_L47 post (nI n) (nI k) g47 v 0 0 M23) := by
  have hV := hC.2.2.2.2.1
  have hm := hV.m
  refine m_starts (fun M1 a1 a2 => ?_)
  obtain ⟨hE, -⟩ := hC.st a1
  refine loop_0 (fun n' i (s : Nat × Int32 × Mem) => w_X10_drift_L47 post (nI n) (nI k) n' s.2.1 (nI s.1) (nI i) s.2.2) (fun i s => drS e v i = ((drS e v i).1, s.1, s.2.1) ∧ ExM (R130 s.2.2) (drS e v i).1 ∧ FrM M s.2.2) n (0, v, M1) ⟨rfl, hE, FrM.of130 a2⟩ ?_ ?_
  · rintro n' ⟨s0, s1, s⟩ ⟨j0, j2, j3⟩
    show w_X10_drift_L47 post _ _ (n' + 1) _ _ _ s
    unfold w_X10_drift_L47
    obtain ⟨hV1, hM1, hl1⟩ := drS_V (v := v) hV h0 n
    have h9 := h s j3
    unfold drR at h9
    have e0 : (drS e v n).2.1 = s0 := by rw [j0]
    rw [e0] at h9
    refine ⟨fun _ => ⟨fun q => ?_, fun q => ?_⟩, fun q => absurd (nI_le (Nat.le_refl _) (by omega)) q⟩
    · rw [if_neg (fun z => q (by rw [z]; rfl))] at h9; exact m_callsNow j2 hV1 h9
    · rw [if_pos (nI_inj (by omega) (by decide) q)] at h9; exact h9
  · rintro n' i ⟨s0, s1, s⟩ hi ⟨j0, j2, j3⟩ kk
    obtain ⟨hV1, hM1, hl1⟩ := drS_V (v := v) hV h0 i
    show w_X10_drift_L47 post (nI n) (nI k) (n' + 1) s1 (nI s0) (nI i) s
    refine m_driftStep j2 hV1 (by omega) hi hn (fun s' E l sv b1 b2 b3 => ?_)
    have e1 : drS e v (i + 1) = (E, l, sv) := by rw [drS_s, j0]; exact b1
    refine kk (l, sv, s') ⟨?_, ?_, j3.trans b3⟩
    · rw [e1]
    · rw [e1]; exact b2
theorem op_drift {M : Mem} {u v w : Int32} (hI : INV M) : w_X9_drift u v w M (fun r M1 => w_X10_drift u v w M1 (fun r' M2 => r = r' ∧ INV M2)) := by
  obtain ⟨e, c, hC, hR⟩ := id hI
  have hm := hC.2.2.2.2.1.m
  have bad : (∀ k, 1 ≤ k → k < 61 → v ≠ nI k) → w_X10_drift u v w M (fun r' M2 => -1 = r' ∧ INV M2) := fun no => by
    unfold w_X10_drift
    exact m_inR (l := 1) (n := 61) rfl rfl (by omega) (fun k h1 h2 hv => absurd hv (no k h1 h2)) (fun _ => ⟨fun _ => ⟨rfl, hI⟩, fun q => absurd rfl q⟩)
  unfold w_X9_drift
  refine ⟨fun q => bad (fun k h1 h2 hv => ?_), fun q => ⟨fun q2 => bad (fun k h1 h2 hv => ?_), fun q2 => ?_⟩⟩
  · rw [hv] at q; have := (nI_ltI (b := 1) (by omega) (by decide)).mp q; omega
  · rw [hv] at q2; have := (nI_ltI (a := 60) (by decide) (by omega)).mp q2; omega
  · obtain ⟨n, hn31, rfl⟩ : ∃ n, n < 2 ^ 31 ∧ v = nI n := by
      refine nI_of (fun z => q ?_)
      exact Int32.lt_of_lt_of_le z (by decide)
    have h1 : 1 ≤ n := by
      rcases Nat.lt_or_ge n 1 with z | z
      · exact absurd (nI_lt (b := 1) z (by decide)) q
      · exact z
    have h60 : n ≤ 60 := by
      rcases Nat.lt_or_ge 60 n with z | z
      · exact absurd (nI_lt (a := 60) z (by omega)) q2
      · exact z
    refine c_isBit (fun k hk hw => ?_) (fun no => ?_)
    · subst hw
      refine ⟨fun _ => ?_, fun q => absurd q (by decide)⟩
      rw [show rd M 1 0 = _ from hC.1.1]
      have start : ∀ P : Int32 → Mem → Prop, ∀ M1, CoreP M1 e c → (¬ nI (eM e) = 0 → w_X10_starts M1 (fun (M23 : Mem) => ∃ g47 : Nat, w_X10_drift_L47 P (nI n) (nI k) g47 u 0 0 M23)) → (nI (eM e) = 0 → P (-2) M1) → w_X10_drift u (nI n) (nI k) M1 P := fun P M1 hC1 h1' h2' => by
        unfold w_X10_drift
        refine m_inR (l := 1) (n := 61) rfl rfl (by omega) (fun _ _ _ _ => ⟨fun q => absurd q (by decide), fun _ => ?_⟩) (fun no => absurd rfl (no n (by omega) (by omega)))
        refine m_isPart (fun _ _ _ => ⟨fun _ => ?_, fun q => absurd q (by decide)⟩) (fun no => absurd rfl (no k hk))
        rw [show rd M1 129 24 = _ from hC1.2.1.1]
        exact ⟨h1', h2'⟩
      refine ⟨fun q3 => ?_, fun q3 => ?_⟩
      · have m0 : 0 < eM e := Nat.pos_of_ne_zero (fun z => q3 (by rw [z]; rfl))
        refine c_drift hC m0 h60 hk (fun M1 k1 => ?_)
        refine start _ M1 (hC.frC k1) (fun _ => ?_) (fun z => absurd z q3)
        exact m_drift (hC.frC k1) m0 h60 hk (fun M2 k2 => ⟨rfl, (hI.frC k1).frM k2⟩)
      · exact start _ M hC (fun z => absurd q3 z) (fun _ => ⟨rfl, hI⟩)
    · refine ⟨fun q => absurd rfl q, fun _ => ?_⟩
      unfold w_X10_drift
      refine m_inR (l := 1) (n := 61) rfl rfl (by omega) (fun _ _ _ _ => ⟨fun q => absurd q (by decide), fun _ => ?_⟩) (fun no => absurd rfl (no n (by omega) (by omega)))
      exact m_isPart (fun k hk hw => absurd hw (no k hk)) (fun _ => ⟨fun z => absurd rfl z, fun _ => ⟨rfl, hI⟩⟩)
/-! count -/
def sumN (f : Nat → Nat) : Nat → Nat
  | 0 => 0
  | n + 1 => sumN f n + f n
theorem sumN_le {f : Nat → Nat} {b : Nat} : ∀ n, (∀ i, i < n → f i ≤ b) → sumN f n ≤ n * b := by
  intro n
  induction n with
  | zero => intro _; simp [sumN]
  | succ n ih =>
    intro h
    have := ih (fun i hi => h i (by omega))
    have := h n (by omega)
    simp only [sumN]
    rw [Nat.succ_mul]
    omega
def bcI (l0 : Int32) : Int32 :=
  let v1 := l0 - ((iushr l0 1) &&& 1431655765)
  let v2 := (v1 &&& 858993459) + ((iushr v1 2) &&& 858993459)
  let v3 := (v2 + (iushr v2 4)) &&& 252645135
  let v4 := v3 + (iushr v3 8)
  let v5 := v4 + (iushr v4 16)
  v5 &&& 63
theorem bc_I {x : Int32} {M : Mem} {post : Int32 → Mem → Prop} (h : post (bcI x) M) : w_J6_bitCount_0f7a4 x M post := by
  unfold w_J6_bitCount_0f7a4
  rintro v1 rfl v2 rfl v3 rfl v4 rfl v5 rfl
  exact h
theorem bc256 : ∀ n, n < 256 → bcI (nI n) = nI (cnt (fun w => n.testBit w) 8) := by decide +kernel
theorem bc16 : ∀ n, n < 16 → bcI (nI n) = nI (cnt (fun w => n.testBit w) 4) := by decide +kernel
def deadN (e : EX) (t : Nat) : Nat := cnt (fun w => (eD e t).testBit w) 4
theorem c_allWays {M : Mem} {e : EX} {post : Int32 → Mem → Prop} (hM : ExC M 1 e) (h : post (nI (sumN (eZ e) 5)) M) : w_X1_allWays 1 M post := by
  unfold w_X1_allWays
  refine loop_0 (fun n i (s : Nat) => w_X1_allWays_L4 1 post n (nI s) (nI i) M) (fun i s => s = sumN (eZ e) i) 5 0 rfl ?_ ?_
  · rintro n s rfl
    show w_X1_allWays_L4 1 post (n + 1) _ _ M
    unfold w_X1_allWays_L4
    exact ⟨fun _ => h, fun c => absurd (nI_le (Nat.le_refl 5) (by omega)) c⟩
  · rintro n i s hi rfl kk
    show w_X1_allWays_L4 1 post (n + 1) _ _ M
    unfold w_X1_allWays_L4
    rw [tnI (by omega)]
    refine ⟨fun c => absurd c (nI_ge hi (by decide)), fun _ => ⟨vp_in_nI hi (by omega), ?_⟩⟩
    rintro g hg
    obtain rfl : g = 1 + 6 + 2 * i := by omega
    rw [(hM.2.2.2.2 i hi).2.1]
    rintro v rfl v' rfl
    rw [nI_add, nI_1]
    exact kk _ rfl
theorem c_allDead {M : Mem} {e : EX} {post : Int32 → Mem → Prop} (hM : ExC M 1 e) (hV : VE e) (h : post (nI (sumN (deadN e) 5)) M) : w_X1_allDead 1 M post := by
  unfold w_X1_allDead
  refine loop_0 (fun n i (s : Nat) => w_X1_allDead_L4 1 post n (nI s) (nI i) M) (fun i s => s = sumN (deadN e) i) 5 0 rfl ?_ ?_
  · rintro n s rfl
    show w_X1_allDead_L4 1 post (n + 1) _ _ M
    unfold w_X1_allDead_L4
    exact ⟨fun _ => h, fun c => absurd (nI_le (Nat.le_refl 5) (by omega)) c⟩
  · rintro n i s hi rfl kk
    show w_X1_allDead_L4 1 post (n + 1) _ _ M
    unfold w_X1_allDead_L4
    rw [tnI (by omega)]
    refine ⟨fun c => absurd c (nI_ge hi (by decide)), fun _ => ⟨vp_in_nI hi (by omega), ?_⟩⟩
    rintro g hg
    obtain rfl : g = 1 + 6 + 2 * i := by omega
    rw [(hM.2.2.2.2 i hi).2.2.1]
    refine bc_I ?_
    rw [bc16 _ (hV.d16 hi)]
    rintro v rfl v' rfl
    rw [nI_add, nI_1]
    exact kk _ rfl
def imN (M : Mem) (k : Nat) : Nat := if rd M 131 k = 0 then 0 else 1
theorem im_c {M : Mem} {k : Nat} (h : ImP M k) : (rd M (76 + 22 * k) 0 = 0 ↔ imN M k = 0) ∧ (rd M 131 k = if decide (imN M k = 1) = true then 1 else 0) ∧ imN M k ≤ 1 := by
  unfold imN
  rcases h with ⟨h1, h2⟩ | ⟨h1, h2, -⟩
  · rw [h1, h2]; decide
  · rw [h1, h2]; decide
theorem c_countImages {M : Mem} {post : Int32 → Mem → Prop} (hR : RestP M) (h : post (nI (sumN (imN M) 2)) M) : w_X9_countImages M post := by
  unfold w_X9_countImages
  refine loop_0 (fun n i (s : Nat) => w_X9_countImages_L4 post n (nI s) (nI i) M) (fun i s => s = sumN (imN M) i) 2 0 rfl ?_ ?_
  · rintro n s rfl
    show w_X9_countImages_L4 post (n + 1) _ _ M
    unfold w_X9_countImages_L4
    exact ⟨fun _ => h, fun c => absurd (nI_le (Nat.le_refl 2) (by omega)) c⟩
  · rintro n i s hi rfl kk
    show w_X9_countImages_L4 post (n + 1) _ _ M
    unfold w_X9_countImages_L4
    rw [tnI (by omega)]
    obtain ⟨h1, h2, h3⟩ := im_c (hR.2.2.2 i hi)
    refine ⟨fun c => absurd c (nI_ge hi (by decide)), fun _ => ⟨vp_in_nI hi (by omega), ?_⟩⟩
    rintro g hg
    obtain rfl : g = 76 + 22 * i := by omega
    unfold w_X9_countImages_J24
    refine ⟨fun q => ?_, fun q => ?_⟩
    · rintro v rfl
      rw [nI_1]
      exact kk _ (by simp only [sumN]; rw [h1.mp q]; rfl)
    · rintro v rfl v' rfl
      rw [nI_1, nI_1]
      have : imN M i = 1 := by
        rcases (show imN M i = 0 ∨ imN M i = 1 by omega) with z | z
        · exact absurd (h1.mpr z) q
        · exact z
      exact kk _ (by simp only [sumN]; rw [this])
theorem op_count {M : Mem} {v : Int32} (hI : INV M) : w_X9_count v M (fun r M1 => w_X10_count v M1 (fun r' M2 => r = r' ∧ INV M2)) := by
  obtain ⟨e, c, hC, hR⟩ := id hI
  obtain ⟨hX, hY, hS, hSm, hV, hVS⟩ := id hC
  have md : ∀ r : Int32, ((v = 0 → r = nI (sN c)) ∧ (v = 1 → r = nI (sumN (imN M) 2)) ∧ (v = 2 → r = rd M 128 9) ∧ (v = 3 → (¬ rd M 136 0 = -4 → r = rd M 137 0) ∧ (rd M 136 0 = -4 → r = -4)) ∧ (v = 4 → r = nI (sumN (eZ e) 5)) ∧ (v = 5 → r = nI (sumN (deadN e) 5)) ∧ (v.toInt < 0 ∨ 5 < v.toInt → r = -1)) → w_X10_count v M (fun r' M2 => r = r' ∧ INV M2) := by
    rintro r ⟨r0, r1, r2, r3, r4, r5, r6⟩
    unfold w_X10_count
    refine m_starts (fun M1 a1 a2 => ?_)
    obtain ⟨hE, -⟩ := hC.st a1
    have hI1 := hI.frM (FrM.of130 a2)
    refine loop_0 (fun n i (s : Nat × Nat) => w_X10_count_L11 (fun r' M2 => r = r' ∧ INV M2) v n (nI s.1) (nI s.2) (nI i) M1) (fun i s => s = (sumN (eZ e) i, sumN (deadN e) i)) 5 (0, 0) rfl ?_ ?_
    · rintro n s rfl
      show w_X10_count_L11 _ v (n + 1) _ _ _ M1
      unfold w_X10_count_L11
      have e1 : ∀ i k, i ≠ 130 → rd M1 i k = rd M i k := fun i k hi => a2.row (by omega) k
      rw [e1 129 83 (by omega), e1 131 0 (by omega), e1 128 9 (by omega), e1 137 0 (by omega), e1 136 0 (by omega), show rd M 129 83 = _ from hSm.2.1]
      refine ⟨fun _ => ⟨fun q => ⟨r0 q, hI1⟩, fun q => ?_, fun q => ⟨r2 q, hI1⟩, fun q => ⟨fun q2 => ⟨(r3 q).1 q2, hI1⟩, fun q2 => ⟨(r3 q).2 q2, hI1⟩⟩, fun q => ⟨r4 q, hI1⟩, fun q => ⟨r5 q, hI1⟩, fun q => ⟨r6 q, hI1⟩⟩, fun q => absurd (nI_le (a := 5) (Nat.le_refl _) (by decide)) q⟩
      obtain ⟨-, f1, f2⟩ := im_c (hR.2.2.2 0 (by omega))
      obtain ⟨-, f3, f4⟩ := im_c (hR.2.2.2 1 (by omega))
      rw [f1]
      refine m_flag ?_
      rw [e1 131 1 (by omega), f3]
      refine m_flag ⟨?_, hI1⟩
      rw [r1 q]
      show nI (0 + imN M 0 + imN M 1) = _
      rcases (show imN M 0 = 0 ∨ imN M 0 = 1 by omega) with z | z <;> rcases (show imN M 1 = 0 ∨ imN M 1 = 1 by omega) with z2 | z2 <;> rw [z, z2] <;> rfl
    · rintro n i s hi rfl kk
      show w_X10_count_L11 _ v (n + 1) _ _ _ M1
      unfold w_X10_count_L11
      refine ⟨fun q => absurd q (nI_ge (b := 5) hi (by decide)), fun _ => m_ofGroup (k := 1) rfl (by omega) ?_⟩
      rw [show rd M1 130 (26 + 4 * i + 1) = nI (eZ e i) by rw [show 26 + 4 * i + 1 = 27 + 4 * i by omega]; exact (hE.2.2.2 i hi).2.1]
      rintro v12 rfl
      refine loop_0 (fun n' w (s : Nat) => w_X10_count_L30 (fun r' M2 => r = r' ∧ INV M2) (w_X10_count_L11 (fun r' M2 => r = r' ∧ INV M2) v n) v (nI (sumN (eZ e) i) + nI (eZ e i)) (nI i) n' (nI s) (nI w) M1) (fun w s => s = sumN (deadN e) i + cnt (fun w => (eD e i).testBit w) w) 4 _ rfl ?_ ?_
      · rintro n' s rfl
        show w_X10_count_L30 _ _ _ _ _ (n' + 1) _ _ M1
        unfold w_X10_count_L30
        refine ⟨fun _ => ?_, fun q => absurd (nI_le (a := 4) (Nat.le_refl _) (by decide)) q⟩
        rintro v1 rfl
        rw [nI_1, nI_add]
        exact kk _ rfl
      · rintro n' w s hw rfl kk2
        show w_X10_count_L30 _ _ _ _ _ (n' + 1) _ _ M1
        unfold w_X10_count_L30
        refine ⟨fun q => absurd q (nI_ge (b := 4) hw (by decide)), fun _ => m_ofGroup (k := 2) rfl (by omega) ?_⟩
        rw [show rd M1 130 (26 + 4 * i + 2) = nI (eD e i) by rw [show 26 + 4 * i + 2 = 28 + 4 * i by omega]; exact (hE.2.2.2 i hi).2.2.1, bit16 _ (hV.d16 hi) _ hw, nI_add]
        rintro v4 rfl v5 rfl
        rw [nI_1]
        exact kk2 _ (by simp only [cnt]; omega)
  have ne : ∀ (a b : Nat), a < 6 → b < 6 → a ≠ b → v = nI a → v = nI b → False := fun a b ha hb hab h1 h2 => hab (nI_inj (by omega) (by omega) (h1.symm.trans h2))
  have ou : ∀ a, a < 6 → v = nI a → ¬ (v.toInt < 0 ∨ (5 : Int) < v.toInt) := fun a ha h1 h2 => toInt_out (n := 5) (by omega) h2 a ha h1
  unfold w_X9_count
  refine ⟨fun q => md _ ⟨fun _ => hS.2.1, fun d => (ne 0 1 (by omega) (by omega) (by omega) q d).elim, fun d => (ne 0 2 (by omega) (by omega) (by omega) q d).elim, fun d => (ne 0 3 (by omega) (by omega) (by omega) q d).elim, fun d => (ne 0 4 (by omega) (by omega) (by omega) q d).elim, fun d => (ne 0 5 (by omega) (by omega) (by omega) q d).elim, fun d => absurd d (ou 0 (by omega) q)⟩,
    fun q => c_countImages hR (md _ ⟨fun d => (ne 1 0 (by omega) (by omega) (by omega) q d).elim, fun _ => rfl, fun d => (ne 1 2 (by omega) (by omega) (by omega) q d).elim, fun d => (ne 1 3 (by omega) (by omega) (by omega) q d).elim, fun d => (ne 1 4 (by omega) (by omega) (by omega) q d).elim, fun d => (ne 1 5 (by omega) (by omega) (by omega) q d).elim, fun d => absurd d (ou 1 (by omega) q)⟩),
    fun q => md _ ⟨fun d => (ne 2 0 (by omega) (by omega) (by omega) q d).elim, fun d => (ne 2 1 (by omega) (by omega) (by omega) q d).elim, fun _ => ?_, fun d => (ne 2 3 (by omega) (by omega) (by omega) q d).elim, fun d => (ne 2 4 (by omega) (by omega) (by omega) q d).elim, fun d => (ne 2 5 (by omega) (by omega) (by omega) q d).elim, fun d => absurd d (ou 2 (by omega) q)⟩,
    fun q => ⟨vp_in_nI (n := 0) (by omega) (by omega), fun g hg => md _ ⟨fun d => (ne 3 0 (by omega) (by omega) (by omega) q d).elim, fun d => (ne 3 1 (by omega) (by omega) (by omega) q d).elim, fun d => (ne 3 2 (by omega) (by omega) (by omega) q d).elim, fun _ => ?_, fun d => (ne 3 4 (by omega) (by omega) (by omega) q d).elim, fun d => (ne 3 5 (by omega) (by omega) (by omega) q d).elim, fun d => absurd d (ou 3 (by omega) q)⟩⟩,
    fun q => c_allWays hX (md _ ⟨fun d => (ne 4 0 (by omega) (by omega) (by omega) q d).elim, fun d => (ne 4 1 (by omega) (by omega) (by omega) q d).elim, fun d => (ne 4 2 (by omega) (by omega) (by omega) q d).elim, fun d => (ne 4 3 (by omega) (by omega) (by omega) q d).elim, fun _ => rfl, fun d => (ne 4 5 (by omega) (by omega) (by omega) q d).elim, fun d => absurd d (ou 4 (by omega) q)⟩),
    fun q => c_allDead hX hV (md _ ⟨fun d => (ne 5 0 (by omega) (by omega) (by omega) q d).elim, fun d => (ne 5 1 (by omega) (by omega) (by omega) q d).elim, fun d => (ne 5 2 (by omega) (by omega) (by omega) q d).elim, fun d => (ne 5 3 (by omega) (by omega) (by omega) q d).elim, fun d => (ne 5 4 (by omega) (by omega) (by omega) q d).elim, fun _ => rfl, fun d => absurd d (ou 5 (by omega) q)⟩),
    fun q => md _ ⟨fun d => absurd q (ou 0 (by omega) d), fun d => absurd q (ou 1 (by omega) d), fun d => absurd q (ou 2 (by omega) d), fun d => absurd q (ou 3 (by omega) d), fun d => absurd q (ou 4 (by omega) d), fun d => absurd q (ou 5 (by omega) d), fun _ => rfl⟩⟩
  · obtain ⟨n, hn, t1, t2, -⟩ := hR.1
    rw [t1, t2]
  · obtain rfl : g = 120 := by
      have : (0 : Int32).toNatClampNeg = 0 := by decide
      omega
    rcases hR.2.2.1 0 (by omega) with ⟨a, b⟩ | ⟨l, z, a1, a2, a3, a4, a5, a6, a7⟩
    · refine ⟨fun q2 => absurd b q2, fun _ => a⟩
    · refine ⟨fun _ => ?_, fun q2 => ?_⟩
      · rw [show rd M 120 1 = _ from a4, a6]
      · rw [a5] at q2; exact absurd q2 (nI_ne4 (by omega))
