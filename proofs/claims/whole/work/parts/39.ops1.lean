/-! calls that change nothing -/
theorem toInt_out {v : Int32} {n : Nat} (hn : n < 2 ^ 31) (h : v.toInt < 0 ∨ (n : Int) < v.toInt) (k : Nat) (hk : k < n + 1) : v ≠ nI k := by
  rintro rfl
  rw [nI_toInt (by omega)] at h
  omega
theorem op_fault {M : Mem} (hI : INV M) : w_X9_fault M (fun r M1 => w_X10_fault M1 (fun r' M2 => r = r' ∧ INV M2)) := by
  unfold w_X9_fault w_X10_fault
  obtain ⟨e, c, hC, hR⟩ := hI
  exact ⟨hR.2.1.1, e, c, hC, hR⟩
theorem op_torn {M : Mem} (hI : INV M) : w_X9_torn M (fun r M1 => w_X10_torn M1 (fun r' M2 => r = r' ∧ INV M2)) := by
  unfold w_X9_torn w_X10_torn
  obtain ⟨e, c, hC, hR⟩ := hI
  exact ⟨hR.2.1.2, e, c, hC, hR⟩
theorem op_one {M : Mem} {v w : Int32} (hI : INV M) : w_X9_one v w M (fun r M1 => w_X10_one v w M1 (fun r' M2 => r = r' ∧ INV M2)) := by
  obtain ⟨e, c, hC, hR⟩ := id hI
  obtain ⟨hX, hY, -, -, hV, -⟩ := hC
  have hm := hV.m
  unfold w_X9_one
  refine c_has hX.1 hV (fun a ha hv => ?_) (fun no => ?_)
  · subst hv
    obtain ⟨x1, x2, x3, x4⟩ := hX.2.2.2.1 a ha
    obtain ⟨y1, y2, y3, y4⟩ := hY.2.2.1 a ha
    have va : vp_in (nI a) 6 := vp_in_nI (by omega) (by omega)
    have out : (∀ k, k < 4 → w ≠ nI k) → w_X10_one (nI a) w M (fun r' M2 => -1 = r' ∧ INV M2) := fun q => by
      unfold w_X10_one
      refine m_isOne hY.1 hV (fun _ _ _ => ⟨fun c => absurd c (by decide), fun _ => ?_⟩) (fun no => absurd rfl (no a ha))
      refine m_inR (l := 0) (n := 4) rfl rfl (by omega) (fun k _ hk z => absurd z (q k hk)) (fun _ => ⟨fun _ => ⟨rfl, hI⟩, fun c => absurd rfl c⟩)
    have inn : ∀ (k : Nat) (r : Int32), k < 4 → w = nI k → r = rd M 129 (4 * a + k) → w_X10_one (nI a) w M (fun r' M2 => r = r' ∧ INV M2) := fun k r hk hw hr => by
      subst hw
      unfold w_X10_one
      refine m_isOne hY.1 hV (fun _ _ _ => ⟨fun c => absurd c (by decide), fun _ => ?_⟩) (fun no => absurd rfl (no a ha))
      refine m_inR (l := 0) (n := 4) rfl rfl (by omega) (fun _ _ _ _ => ⟨fun c => absurd c (by decide), fun _ => ?_⟩) (fun q => absurd rfl (q k (by omega) hk))
      obtain ⟨i1, i2⟩ := ix129 (x := 4 * nI a) (y := nI k) (a := 4 * a) (b := k) (pk_mul 4 a) rfl (by omega)
      rw [i2]
      exact ⟨i1, hr, hI⟩
    refine ⟨fun _ => ⟨fun c => ⟨va, ?_⟩, fun c => ⟨va, ?_⟩, fun c => ⟨va, ?_⟩, fun c => ⟨va, ?_⟩, fun c => out (fun k hk => toInt_out (n := 3) (by omega) c k hk)⟩, fun c => absurd c (by decide)⟩
    · rw [tnI (by omega)]
      exact inn 0 _ (by omega) c (by rw [show rd M 2 a = _ from x1, show rd M 129 (4 * a + 0) = _ from y1])
    · rw [tnI (by omega)]
      exact inn 1 _ (by omega) c (by rw [show rd M 3 a = _ from x2, show rd M 129 (4 * a + 1) = _ from y2])
    · rw [tnI (by omega)]
      exact inn 2 _ (by omega) c (by rw [show rd M 4 a = _ from x3, show rd M 129 (4 * a + 2) = _ from y3])
    · rw [tnI (by omega)]
      exact inn 3 _ (by omega) c (by rw [show rd M 5 a = _ from x4, show rd M 129 (4 * a + 3) = _ from y4])
  · refine ⟨fun c => absurd rfl c, fun _ => ?_⟩
    unfold w_X10_one
    exact m_isOne hY.1 hV (fun a ha hv => absurd hv (no a ha)) (fun _ => ⟨fun _ => ⟨rfl, hI⟩, fun c => absurd rfl c⟩)
theorem CoreP.st {M M' : Mem} {e : EX} {c : SC} (h : CoreP M e c) (k : ∀ k, k < 96 → rd M' 130 k = rd M 129 k) : ExM (R130 M') e ∧ ScM (R130 M') c := ⟨h.2.1.congr h.2.2.2.2.1.m (fun q hq => k q (by omega)), h.2.2.2.1.congr ⟨h.2.2.2.2.2.1, h.2.2.2.2.2.2.1⟩ (fun q _ hq => k q hq)⟩
theorem INV.frM {M M' : Mem} (h : INV M) (f : FrM M M') : INV M' := by
  obtain ⟨e, c, hC, hR⟩ := h
  exact ⟨e, c, hC.frM f, hR.frM f⟩
theorem INV.frC {M M' : Mem} (h : INV M) (f : Fr 22 50 M M') : INV M' := by
  obtain ⟨e, c, hC, hR⟩ := h
  exact ⟨e, c, hC.frC f, hR.frC f⟩
theorem op_group {M : Mem} {v w : Int32} (hI : INV M) : w_X9_group v w M (fun r M1 => w_X10_group v w M1 (fun r' M2 => r = r' ∧ INV M2)) := by
  obtain ⟨e, c, hC, hR⟩ := id hI
  obtain ⟨hX, hY, -, -, hV, -⟩ := id hC
  unfold w_X9_group
  refine c_isGroup (fun t ht hv => ?_) (fun no => ?_)
  · subst hv
    obtain ⟨x1, x2, x3, x4, x5, x6⟩ := hX.2.2.2.2 t ht
    have md : ∀ (r : Int32), (∀ M3, ExM (R130 M3) e → INV M3 → ((w = 0 → r = rd M3 130 (26 + 4 * t)) ∧ (w = 1 → r = rd M3 130 (27 + 4 * t)) ∧ (w = 2 → r = rd M3 130 (28 + 4 * t)) ∧ (w = 3 → r = nI (heldE e t)) ∧ (w = 4 → r = rd M3 130 (29 + 4 * t)) ∧ (w = 5 → r = oI (pickE e t)) ∧ ((w.toInt < 0 ∨ 5 < w.toInt) → r = -1))) → w_X10_group (nI t) w M (fun r' M2 => r = r' ∧ INV M2) := fun r hr => by
      unfold w_X10_group
      refine m_isGroup (fun _ _ _ => ⟨fun _ => ?_, fun c => absurd c (by decide)⟩) (fun no => absurd rfl (no t ht))
      refine m_starts (fun M3 h1 h2 => ?_)
      have hI3 := hI.frM (FrM.of130 h2)
      obtain ⟨hE, -⟩ := hC.st h1
      obtain ⟨r0, r1, r2, r3, r4, r5, r6⟩ := hr M3 hE hI3
      refine ⟨fun c => m_ofGroup (k := 0) rfl (by omega) ⟨r0 c, hI3⟩, fun c => m_ofGroup (k := 1) rfl (by omega) ⟨?_, hI3⟩, fun c => m_ofGroup (k := 2) rfl (by omega) ⟨?_, hI3⟩, fun c => m_held hE hV ht ⟨r3 c, hI3⟩, fun c => m_ofGroup (k := 3) rfl (by omega) ⟨?_, hI3⟩, fun c => m_taken hE hV ht ⟨r5 c, hI3⟩, fun c => ⟨r6 c, hI3⟩⟩
      · rw [r1 c, show 26 + 4 * t + 1 = 27 + 4 * t by omega]
      · rw [r2 c, show 26 + 4 * t + 2 = 28 + 4 * t by omega]
      · rw [r4 c, show 26 + 4 * t + 3 = 29 + 4 * t by omega]
    have ne : ∀ (a b : Nat), a < 6 → b < 6 → a ≠ b → w = nI a → w = nI b → False := fun a b ha hb hab h1 h2 => hab (nI_inj (by omega) (by omega) (h1.symm.trans h2))
    have ou : ∀ a, a < 6 → w = nI a → ¬ (w.toInt < 0 ∨ (5 : Int) < w.toInt) := fun a ha h1 h2 => toInt_out (n := 5) (by omega) h2 a ha h1
    refine ⟨fun _ => ⟨vp_in_nI ht (by omega), ?_⟩, fun c => absurd c (by decide)⟩
    rw [tnI (by omega)]
    rintro g3 hg
    rw [show 1 + 6 + 2 * t = g3 by omega] at x1 x2 x3 x4 x5 x6
    refine ⟨fun c => md _ (fun M3 hE _ => ?_), fun c => md _ (fun M3 hE _ => ?_), fun c => md _ (fun M3 hE _ => ?_), fun c => md _ (fun M3 hE _ => ?_), fun c => md _ (fun M3 hE _ => ?_), fun c => c_pick hV ht ⟨x1, x2, x3, x4, x5, x6⟩ (md _ (fun M3 hE _ => ?_)), fun c => md _ (fun M3 hE _ => ?_)⟩
    all_goals obtain ⟨z1, z2, z3, z4, z5⟩ := hE.2.2.2 t ht
    · exact ⟨fun _ => by rw [x1]; exact z1.symm, fun d => (ne 0 1 (by omega) (by omega) (by omega) c d).elim, fun d => (ne 0 2 (by omega) (by omega) (by omega) c d).elim, fun d => (ne 0 3 (by omega) (by omega) (by omega) c d).elim, fun d => (ne 0 4 (by omega) (by omega) (by omega) c d).elim, fun d => (ne 0 5 (by omega) (by omega) (by omega) c d).elim, fun d => absurd d (ou 0 (by omega) c)⟩
    · exact ⟨fun d => (ne 1 0 (by omega) (by omega) (by omega) c d).elim, fun _ => by rw [x2]; exact z2.symm, fun d => (ne 1 2 (by omega) (by omega) (by omega) c d).elim, fun d => (ne 1 3 (by omega) (by omega) (by omega) c d).elim, fun d => (ne 1 4 (by omega) (by omega) (by omega) c d).elim, fun d => (ne 1 5 (by omega) (by omega) (by omega) c d).elim, fun d => absurd d (ou 1 (by omega) c)⟩
    · exact ⟨fun d => (ne 2 0 (by omega) (by omega) (by omega) c d).elim, fun d => (ne 2 1 (by omega) (by omega) (by omega) c d).elim, fun _ => by rw [x3]; exact z3.symm, fun d => (ne 2 3 (by omega) (by omega) (by omega) c d).elim, fun d => (ne 2 4 (by omega) (by omega) (by omega) c d).elim, fun d => (ne 2 5 (by omega) (by omega) (by omega) c d).elim, fun d => absurd d (ou 2 (by omega) c)⟩
    · exact ⟨fun d => (ne 3 0 (by omega) (by omega) (by omega) c d).elim, fun d => (ne 3 1 (by omega) (by omega) (by omega) c d).elim, fun d => (ne 3 2 (by omega) (by omega) (by omega) c d).elim, fun _ => x4, fun d => (ne 3 4 (by omega) (by omega) (by omega) c d).elim, fun d => (ne 3 5 (by omega) (by omega) (by omega) c d).elim, fun d => absurd d (ou 3 (by omega) c)⟩
    · exact ⟨fun d => (ne 4 0 (by omega) (by omega) (by omega) c d).elim, fun d => (ne 4 1 (by omega) (by omega) (by omega) c d).elim, fun d => (ne 4 2 (by omega) (by omega) (by omega) c d).elim, fun d => (ne 4 3 (by omega) (by omega) (by omega) c d).elim, fun _ => by rw [x5]; exact z4.symm, fun d => (ne 4 5 (by omega) (by omega) (by omega) c d).elim, fun d => absurd d (ou 4 (by omega) c)⟩
    · exact ⟨fun d => (ne 5 0 (by omega) (by omega) (by omega) c d).elim, fun d => (ne 5 1 (by omega) (by omega) (by omega) c d).elim, fun d => (ne 5 2 (by omega) (by omega) (by omega) c d).elim, fun d => (ne 5 3 (by omega) (by omega) (by omega) c d).elim, fun d => (ne 5 4 (by omega) (by omega) (by omega) c d).elim, fun _ => rfl, fun d => absurd d (ou 5 (by omega) c)⟩
    · exact ⟨fun d => absurd c (ou 0 (by omega) d), fun d => absurd c (ou 1 (by omega) d), fun d => absurd c (ou 2 (by omega) d), fun d => absurd c (ou 3 (by omega) d), fun d => absurd c (ou 4 (by omega) d), fun d => absurd c (ou 5 (by omega) d), fun _ => rfl⟩
  · refine ⟨fun c => absurd rfl c, fun _ => ?_⟩
    unfold w_X10_group
    exact m_isGroup (fun t ht hv => absurd hv (no t ht)) (fun _ => ⟨fun c => absurd rfl c, fun _ => ⟨rfl, hI⟩⟩)
theorem op_uses {M : Mem} {v w : Int32} (hI : INV M) : w_X9_uses v w M (fun r M1 => w_X10_uses v w M1 (fun r' M2 => r = r' ∧ INV M2)) := by
  obtain ⟨e, c, hC, hR⟩ := id hI
  obtain ⟨hX, hY, -, -, hV, -⟩ := id hC
  unfold w_X9_uses
  refine c_isWay hX hV (fun t k ht hk hv hw => ?_) (fun no => ?_)
  · subst hv
    subst hw
    have hz := (hV.2.2.2.2.2.2.2 t ht).2.1
    refine ⟨fun _ => ⟨vp_in_nI ht (by omega), ?_⟩, fun c => absurd c (by decide)⟩
    rw [tnI (by omega), tnI (by omega)]
    rintro g3 hg
    refine ⟨vp_in_nI (by omega) (by omega), ?_⟩
    unfold w_X10_uses
    refine m_isWay hY hV (fun _ _ _ _ _ _ => ⟨fun c => absurd c (by decide), fun _ => ?_⟩) (fun no => absurd rfl (no t k ht hk rfl))
    obtain ⟨i1, i2⟩ := ix129 (x := 46 + 4 * nI t) (y := nI k) (a := 46 + 4 * t) (b := k) (by rw [show (4 : Int32) = nI 4 from rfl, show (46 : Int32) = nI 46 from rfl, pk_mul, nI_add]) rfl (by omega)
    rw [i2]
    refine ⟨i1, ?_, hI⟩
    rw [show g3 + 1 = (1 + 6 + 2 * t) + 1 by omega, (hX.2.2.2.2 t ht).2.2.2.2.2 k (by omega)]
    exact ((hY.2.2.2 t ht).2.2.2.2 k (by omega)).symm
  · refine ⟨fun c => absurd rfl c, fun _ => ?_⟩
    unfold w_X10_uses
    exact m_isWay hY hV (fun t k ht hk hv hw => absurd hw (no t k ht hk hv)) (fun _ => ⟨fun _ => ⟨rfl, hI⟩, fun c => absurd rfl c⟩)
theorem op_act {M : Mem} {v w : Int32} (hI : INV M) : w_X9_act v w M (fun r M1 => w_X10_act v w M1 (fun r' M2 => r = r' ∧ INV M2)) := by
  obtain ⟨e, c, hC, hR⟩ := id hI
  obtain ⟨-, -, hX, hY, -, hS⟩ := id hC
  have ha := hS.1
  unfold w_X9_act
  refine c_isAct hX.1 ha (fun i hi hv => ?_) (fun no => ?_)
  · subst hv
    obtain ⟨x1, x2⟩ := hX.2.2.1 i hi
    obtain ⟨y1, y2⟩ := hY.2.2.1 i hi
    have vi : vp_in (nI i) 8 := vp_in_nI (by omega) (by omega)
    refine ⟨fun c => absurd c (by decide), fun _ => ?_⟩
    have md : ∀ (k : Nat) (r : Int32), k < 2 → w = nI k → r = rd M 129 (67 + 2 * i + k) → w_X10_act (nI i) w M (fun r' M2 => r = r' ∧ INV M2) := fun k r hk hw hr => by
      subst hw
      unfold w_X10_act
      refine m_inAct hY.1 ha (fun _ _ _ => ⟨fun c => absurd c (by decide), fun _ => ?_⟩) (fun no => absurd rfl (no i hi))
      refine m_isPart (fun _ _ _ => ⟨fun c => absurd c (by decide), fun _ => ?_⟩) (fun no => absurd rfl (no k hk))
      obtain ⟨i1, i2⟩ := ix129 (x := 67 + 2 * nI i) (y := nI k) (a := 67 + 2 * i) (b := k) (by rw [show (2 : Int32) = nI 2 from rfl, show (67 : Int32) = nI 67 from rfl, pk_mul, nI_add]) rfl (by omega)
      rw [i2]
      exact ⟨i1, hr, hI⟩
    refine c_isBit (fun k hk hw => ⟨fun _ => ⟨fun c => ⟨vi, ?_⟩, fun c => ⟨vi, ?_⟩⟩, fun c => absurd c (by decide)⟩) (fun no => ⟨fun c => absurd rfl c, fun _ => ?_⟩)
    · rw [tnI (by omega)]
      have : k = 1 := by
        rcases (show k = 0 ∨ k = 1 by omega) with z | z
        · rw [z] at hw; exact absurd hw c
        · exact z
      refine md k _ hk hw ?_
      rw [show rd M 19 i = _ from x2, this, show 67 + 2 * i + 1 = 68 + 2 * i by omega]
      exact y2.symm
    · rw [tnI (by omega)]
      refine md 0 _ (by omega) c ?_
      rw [show rd M 18 i = _ from x1]
      exact y1.symm
    · unfold w_X10_act
      refine m_inAct hY.1 ha (fun _ _ _ => ⟨fun c => absurd c (by decide), fun _ => ?_⟩) (fun no => absurd rfl (no i hi))
      exact m_isPart (fun k hk hw => absurd hw (no k hk)) (fun _ => ⟨fun _ => ⟨rfl, hI⟩, fun c => absurd rfl c⟩)
  · refine ⟨fun _ => ?_, fun c => absurd rfl c⟩
    unfold w_X10_act
    exact m_inAct hY.1 ha (fun i hi hv => absurd hv (no i hi)) (fun _ => ⟨fun _ => ⟨rfl, hI⟩, fun c => absurd rfl c⟩)
/-- the plan as it is -/
def kT : Nat → Bool := fun _ => true
theorem k255 : ∀ i, i < 8 → (((ishr 255 (nI i)) &&& 1) = 0 ↔ kT i = false) := by decide +kernel
theorem k0m : ∀ i, i < 8 → (((ishr 0 (nI i)) &&& 1) = 1 ↔ kT i = false) := by decide +kernel
theorem c_goes {M : Mem} {e : EX} {c : SC} {post : Mem → Prop} (hM : ExC M 23 e) (hS : ScC M 17 c) (hV : VE e) (hVS : VS (eM e) c) (h : ∀ M', ExC M' 23 (runE c kT e (sA c)) → (∀ i, i < sA c → rd M' 39 i = nI (fateE c kT e i) ∧ fateE c kT e i ≤ 6) → NoteC M' c kT e (sA c) → Fr 22 40 M M' → post M') : w_X8_follow 255 M post := c_follow hM hS hV hVS k255 (fun M' h1 h2 h3 h4 => h M' h1 (fun i hi => ⟨h2 i hi rfl, fate_6⟩) h3 h4)
theorem m_goes {M : Mem} {e : EX} {c : SC} {post : Mem → Prop} (hM : ExM (R130 M) e) (hS : ScM (R130 M) c) (hV : VE e) (hVS : VS (eM e) c) (h : ∀ M', ExM (R130 M') (runE c kT e (sA c)) → ScM (R130 M') c → (∀ i, i < sA c → rd M' 134 i = nI (fateE c kT e i) ∧ fateE c kT e i ≤ 6) → FrM M M' → post M') : w_X10_planGoes 0 M post := m_planGoes hM hS hV hVS k0m (fun M' h1 h2 h3 h4 h5 h6 => h M' h1 h2 (fun i hi => ⟨h3 i hi, fate_6⟩) (fun i k p => by
  by_cases q : i < 130 ∨ 135 ≤ i
  · exact h4.row q k
  · unfold PM at p; exact h5 i k (by omega) (by omega)))
theorem c_asIs {M : Mem} {e : EX} {c : SC} {post : Mem → Prop} (hC : CoreP M e c) (h : ∀ M', ExC M' 23 (runE c kT e (sA c)) → (∀ i, i < sA c → rd M' 39 i = nI (fateE c kT e i) ∧ fateE c kT e i ≤ 6) → NoteC M' c kT e (sA c) → Fr 22 50 M M' → post M') : w_X9_followAsIs M post := by
  unfold w_X9_followAsIs
  refine c1_copyFrom hC.1 hC.2.2.2.2.1 (by omega) (fun M1 h1 h2 => ?_)
  exact c_goes h1 (hC.2.2.1.fr h2 (by omega)) hC.2.2.2.2.1 hC.2.2.2.2.2 (fun M' k1 k2 k3 k4 => h M' k1 k2 k3 ((h2.sub (by omega)).trans (k4.sub (by omega))))
theorem m_asIs {M : Mem} {e : EX} {c : SC} {post : Mem → Prop} (hC : CoreP M e c) (h : ∀ M', ExM (R130 M') (runE c kT e (sA c)) → ScM (R130 M') c → (∀ i, i < sA c → rd M' 134 i = nI (fateE c kT e i) ∧ fateE c kT e i ≤ 6) → FrM M M' → post M') : w_X10_starts M (fun M1 => w_X10_planGoes 0 M1 post) := by
  refine m_starts (fun M1 h1 h2 => ?_)
  obtain ⟨k1, k2⟩ := hC.st h1
  exact m_goes k1 k2 hC.2.2.2.2.1 hC.2.2.2.2.2 (fun M' j1 j2 j3 j4 => h M' j1 j2 j3 ((FrM.of130 h2).trans j4))
theorem op_fate {M : Mem} {v : Int32} (hI : INV M) : w_X9_fate v M (fun r M1 => w_X10_fate v M1 (fun r' M2 => r = r' ∧ INV M2)) := by
  obtain ⟨e, c, hC, hR⟩ := id hI
  have ha := hC.2.2.2.2.2.1
  unfold w_X9_fate
  refine c_isAct hC.2.2.1.1 ha (fun i hi hv => ?_) (fun no => ?_)
  · subst hv
    refine ⟨fun _ => ?_, fun c => absurd c (by decide)⟩
    refine c_asIs hC (fun M1 k1 k2 k3 k4 => ⟨vp_in_nI (by omega) (by omega), ?_⟩)
    rw [tnI (by omega), (k2 i hi).1]
    have hC1 := hC.frC k4
    unfold w_X10_fate
    refine m_inAct hC1.2.2.2.1.1 ha (fun _ _ _ => ⟨fun _ => ?_, fun c => absurd c (by decide)⟩) (fun no => absurd rfl (no i hi))
    refine m_asIs hC1 (fun M2 j1 j2 j3 j4 => ⟨vp_in_nI (by omega) (by omega), ?_⟩)
    rw [tnI (by omega), (j3 i hi).1]
    exact ⟨rfl, (hI.frC k4).frM j4⟩
  · refine ⟨fun c => absurd rfl c, fun _ => ?_⟩
    unfold w_X10_fate
    exact m_inAct hC.2.2.2.1.1 ha (fun i hi hv => absurd hv (no i hi)) (fun _ => ⟨fun c => absurd rfl c, fun _ => ⟨rfl, hI⟩⟩)
theorem op_ahead {M : Mem} {v : Int32} (hI : INV M) : w_X9_ahead v M (fun r M1 => w_X10_ahead v M1 (fun r' M2 => r = r' ∧ INV M2)) := by
  obtain ⟨e, c, hC, hR⟩ := id hI
  have hV := hC.2.2.2.2.1
  have hm := hV.m
  have hrm := (run_V (kp := kT) hV hC.2.2.2.2.2 (sA c) (Nat.le_refl _)).2
  unfold w_X9_ahead
  refine c_has hC.1.1 hV (fun a ha hv => ?_) (fun no => ?_)
  · subst hv
    refine ⟨fun _ => ?_, fun c => absurd c (by decide)⟩
    refine c_asIs hC (fun M1 k1 k2 k3 k4 => ⟨vp_in_nI (by omega) (by omega), ?_⟩)
    rw [tnI (by omega), show rd M1 25 a = _ from (k1.2.2.2.1 a (by rw [hrm]; exact ha)).2.1]
    have hC1 := hC.frC k4
    unfold w_X10_ahead
    refine m_isOne hC1.2.1.1 hV (fun _ _ _ => ⟨fun _ => ?_, fun c => absurd c (by decide)⟩) (fun no => absurd rfl (no a ha))
    refine m_asIs hC1 (fun M2 j1 j2 j3 j4 => ?_)
    refine m_of (k := 1) rfl (by omega) ?_
    rw [show rd M2 130 (4 * a + 1) = _ from (j1.2.2.1 a (by rw [hrm]; exact ha)).2.1]
    exact ⟨rfl, (hI.frC k4).frM j4⟩
  · refine ⟨fun c => absurd rfl c, fun _ => ?_⟩
    unfold w_X10_ahead
    exact m_isOne hC.2.1.1 hV (fun i hi hv => absurd hv (no i hi)) (fun _ => ⟨fun c => absurd rfl c, fun _ => ⟨rfl, hI⟩⟩)
