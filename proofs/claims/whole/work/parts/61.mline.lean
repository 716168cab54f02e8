/-! the reference reads a line -/
theorem FM.nle {M : Mem} {f s : Nat} (h : FM M f s) (h0 : f ≠ 0) (h6 : f ≤ 6) : ¬ rd M 128 14 ≤ 0 := by
  rw [h.1]
  exact nI_nle (by omega) (by omega)
theorem zb_b {b : Bool} : zb (if b = true then 1 else 0) := by
  cases b
  · exact zb_0
  · exact zb_1
section
variable {M : Mem} {f st : Nat} {l1 s1 : Int32} {post : Mem → Prop}
theorem m_rl146F (hz : zb s1) (hF : FM M f st) (h0 : f ≠ 0) (h6 : f ≤ 6) (kk : ∀ M', FM M' f st → FrQ M M' → post M') : w_X10_readLine_J146 post l1 s1 M := by
  unfold w_X10_readLine_J146
  refine ⟨hz, ?_⟩
  rintro M3 rfl
  have hF3 : FM (wr M 128 5 s1) f st := hF.w128 (by omega)
  exact m_takesF hF3 h0 h6 ⟨fun q => absurd q (hF3.nle h0 h6), fun _ => kk _ hF3 (FrQ.w128 (by omega))⟩
theorem m_rl124F (hz : zb s1) (hF : FM M f st) (h0 : f ≠ 0) (h6 : f ≤ 6) (kk : ∀ M', FM M' f st → FrQ M M' → post M') : w_X10_readLine_J124 post l1 s1 M := by
  unfold w_X10_readLine_J124
  refine ⟨hz, ?_⟩
  rintro M3 rfl
  have hF3 : FM (wr M 128 4 s1) f st := hF.w128 (by omega)
  have k3 : ∀ M', FM M' f st → FrQ (wr M 128 4 s1) M' → post M' := fun M' a1 a2 => kk M' a1 (FrQ.trans (FrQ.w128 (by omega)) a2)
  exact ⟨fun _ => m_rl146F zb_1 hF3 h0 h6 k3, fun _ => ⟨fun _ => m_rl146F zb_0 hF3 h0 h6 k3, fun _ => m_rl146F zb_1 hF3 h0 h6 k3⟩⟩
theorem m_rl102G (hF : FM M f st) (h0 : f ≠ 0) (h6 : f ≤ 6) (kk : ∀ M', FM M' f st → FrQ M M' → post M') : ((¬ (rd M 128 4) = 0 → w_X10_readLine_J119 post l1 M) ∧ ((rd M 128 4) = 0 → ((¬ l1 = 5 → w_X10_readLine_J124 post l1 0 M) ∧ (l1 = 5 → w_X10_readLine_J119 post l1 M)))) :=
  ⟨fun _ => m_rl124F zb_1 hF h0 h6 kk, fun _ => ⟨fun _ => m_rl124F zb_0 hF h0 h6 kk, fun _ => m_rl124F zb_1 hF h0 h6 kk⟩⟩
theorem m_rl102F (hF : FM M f st) (h0 : f ≠ 0) (h6 : f ≤ 6) (kk : ∀ M', FM M' f st → FrQ M M' → post M') : w_X10_readLine_J102 post l1 s1 M := m_needsX (hF.ne h0 h6) (m_rl102G hF h0 h6 kk)
theorem m_rl79F (hF : FM M f st) (h0 : f ≠ 0) (h6 : f ≤ 6) (kk : ∀ M', FM M' f st → FrQ M M' → post M') : w_X10_readLine_J79 post l1 s1 M :=
  m_needsX (hF.ne h0 h6) ⟨fun _ => m_rl102F hF h0 h6 kk, fun _ => ⟨fun _ => m_rl102F hF h0 h6 kk, fun _ => m_rl102F hF h0 h6 kk⟩⟩
theorem m_rl57F (hF : FM M f st) (h0 : f ≠ 0) (h6 : f ≤ 6) (kk : ∀ M', FM M' f st → FrQ M M' → post M') : w_X10_readLine_J57 post l1 s1 M :=
  m_needsX (hF.ne h0 h6) ⟨fun _ => m_rl79F hF h0 h6 kk, fun _ => ⟨fun _ => m_rl79F hF h0 h6 kk, fun _ => m_rl79F hF h0 h6 kk⟩⟩
end
def rlK (post : Mem → Prop) (l1 : Int32) (M4 : Mem) : Prop := (((rd M4 128 14) ≤ 0 → w_X10_readLineOf l1 M4 (fun (M5 : Mem) => ((¬ (rd M5 128 14) = 0 → w_X10_readLine_J191 post M5) ∧ ((rd M5 128 14) = 0 → ((¬ (rd M5 128 12) = 3 → w_X10_readLine_J187 post 0 M5) ∧ ((rd M5 128 12) = 3 → w_X10_readLine_J187 post 1 M5)))))) ∧ (¬ (rd M4 128 14) ≤ 0 → post M4))
theorem m_rlT {M : Mem} {T : TP} {p : Nat} {d : DD} {l1 : Int32} {post : Mem → Prop} (hK : TokM M T p) (h0 : rd M 128 14 = 0) (hR : RdM M d) (hT : TapeM M T) (hO : OKT T) (hp : p ≤ T.1) (hD : DOK d) (kk : ∀ M', AtM M' T (tE T p) → RdM M' (dE d, dC d, dF d || decide (l1 = 5), dP d || decide (l1 = 6), dG d) → FrQ M M' → rlK post l1 M') : w_X10_readLine_J102 post l1 1 M := by
  obtain ⟨b0, b1⟩ := tE_N hp
  obtain ⟨y1, y2, y3, y4, y5, y6, y7⟩ := hR
  have go5 : ∀ s1, s1 = (if (dF d || decide (l1 = 5)) = true then (1 : Int32) else 0) → w_X10_readLine_J124 post l1 s1 M := by
    rintro s1 hs
    unfold w_X10_readLine_J124
    refine ⟨by rw [hs]; exact zb_b, ?_⟩
    rintro M6 hM6
    have r6 : ∀ i k, ¬ (i = 128 ∧ k = 4) → rd M6 i k = rd M i k := fun i k z => by rw [hM6]; exact rd_ne (by omega)
    have e6 : rd M6 128 4 = (if (dF d || decide (l1 = 5)) = true then (1 : Int32) else 0) := by rw [hM6, ← hs]; exact rd_eq ⟨rfl, rfl⟩
    clear hM6
    have go6 : ∀ s2, s2 = (if (dP d || decide (l1 = 6)) = true then (1 : Int32) else 0) → w_X10_readLine_J146 post l1 s2 M6 := by
      rintro s2 hs2
      unfold w_X10_readLine_J146
      refine ⟨by rw [hs2]; exact zb_b, ?_⟩
      rintro M3 hM3
      have r3 : ∀ i k, ¬ (i = 128 ∧ k = 5) → rd M3 i k = rd M6 i k := fun i k z => by rw [hM3]; exact rd_ne (by omega)
      have e3 : rd M3 128 5 = (if (dP d || decide (l1 = 6)) = true then (1 : Int32) else 0) := by rw [hM3, ← hs2]; exact rd_eq ⟨rfl, rfl⟩
      clear hM3
      have o3 : ∀ i k, ¬ (i = 128 ∧ (k = 4 ∨ k = 5)) → rd M3 i k = rd M i k := fun i k z => by rw [r3 _ _ (by omega), r6 _ _ (by omega)]
      have f3 : FrQ M M3 := fun i q z => o3 _ _ (by omega)
      have hN := hD.2.2.1.2.1
      have hR3 : RdM M3 (dE d, dC d, dF d || decide (l1 = 5), dP d || decide (l1 = 6), dG d) := by
        refine ⟨y1.congr hD.1.m (fun k _ => o3 _ _ (by omega)), y2.congr ⟨hD.2.2.1.1, by omega⟩ (fun k _ _ => o3 _ _ (by omega)), fun a ha => ?_, ?_, e3, ?_, ?_⟩
        · rw [o3 _ _ (by omega), o3 _ _ (by omega), o3 _ _ (by omega)]; exact y3 a ha
        · rw [r3 _ _ (by omega)]; exact e6
        · rw [o3 _ _ (by omega)]; exact y6
        · rw [o3 _ _ (by omega)]; exact y7
      refine m_takesA (p := tE T p) (hT.q f3) hO b1 (by rw [o3 _ _ (by omega)]; exact hK.2.2.1) (by rw [o3 _ _ (by omega)]; exact h0) (fun M4 a1 a2 => ?_)
      obtain ⟨z1, z2, z3, z4, z5, z6, z7⟩ := hR3
      refine kk M4 a1 ⟨z1.congr hD.1.m (fun k _ => a2 _ _ (by omega)), z2.congr ⟨hD.2.2.1.1, by show sN (dC d) ≤ 6; omega⟩ (fun k _ _ => a2 _ _ (by omega)), fun a ha => ?_, ?_, ?_, ?_, ?_⟩ (f3.trans a2.q)
      · rw [a2 _ _ (by omega), a2 _ _ (by omega), a2 _ _ (by omega)]; exact z3 a ha
      · rw [a2 _ _ (by omega)]; exact z4
      · rw [a2 _ _ (by omega)]; exact z5
      · rw [a2 _ _ (by omega)]; exact z6
      · rw [a2 _ _ (by omega)]; exact z7
    rw [r6 _ _ (by omega), y5]
    refine ⟨fun q => go6 1 (by simp [b2y q]), fun q => ⟨fun q2 => go6 0 (by simp [b2n q, q2]), fun q2 => go6 1 (by simp [q2])⟩⟩
  unfold w_X10_readLine_J102
  refine m_needsT (by decide) ?_
  rw [y4]
  exact ⟨fun q => go5 1 (by simp [b2y q]), fun q => ⟨fun q2 => go5 0 (by simp [b2n q, q2]), fun q2 => go5 1 (by simp [q2])⟩⟩
def LineR (T : TP) (M' : Mem) (o : OUT) : Prop := (o.1 = 0 ∧ RdM M' o.2.2 ∧ AtM M' T o.2.1) ∨ (o.1 ≠ 0 ∧ o.1 ≤ 6 ∧ FM M' o.1 o.2.1)
theorem LineR.f {T : TP} {M' : Mem} {o : OUT} {f s : Nat} {d : DD} (e : o = (f, s, d)) (h0 : f ≠ 0) (h6 : f ≤ 6) (hF : FM M' f s) : LineR T M' o := by
  subst e
  exact Or.inr ⟨h0, h6, hF⟩
theorem m_rlE {T : TP} {M M5 : Mem} {o : OUT} {post : Mem → Prop} (hE : EndB T M M5 o) (hT : TapeM M T) (hO : OKT T) (h : ∀ M', FrQ M M' → LineR T M' o → post M') : ((¬ (rd M5 128 14) = 0 → w_X10_readLine_J191 post M5) ∧ ((rd M5 128 14) = 0 → ((¬ (rd M5 128 12) = 3 → w_X10_readLine_J187 post 0 M5) ∧ ((rd M5 128 12) = 3 → w_X10_readLine_J187 post 1 M5)))) := by
  obtain ⟨f, ⟨q, d', e, hq, hD, hR, hA⟩ | ⟨e1, e2, e3⟩⟩ := hE
  · have tk4 := tK_4 (T := T) (p := q)
    rcases hA with ⟨n4, hK, h0⟩ | ⟨n4, hF⟩
    · refine ⟨fun z => absurd h0 z, fun _ => ?_⟩
      rw [hK.1]
      refine ⟨fun z => ?_, fun z => ?_⟩
      · have n3 : tK T q ≠ 3 := fun y => z (by rw [y]; rfl)
        have ek : kF T q 3 = 2 := by unfold kF; rw [if_neg n4, if_pos n3]
        unfold w_X10_readLine_J187
        refine m_needsF rfl h0 (fun M' c1 c2 c3 => ?_)
        have hF : FM M' 2 (tS T q) := ⟨c1, by rw [c2]; exact hK.2.1⟩
        unfold w_X10_readLine_J191
        refine m_takesF hF (by omega) (by omega) (h M' (f.trans (FrT.q c3)) (LineR.f (d := d') ?_ (by omega) (by omega) hF))
        rw [e]
        unfold signO
        rw [if_pos (show kF T q 3 ≠ 0 by omega), ek]
      · have n3 : tK T q = 3 := nI_inj (by omega) (by decide) z
        have ek : kF T q 3 = 0 := by unfold kF; rw [if_neg n4, if_neg (fun y => y n3)]
        unfold w_X10_readLine_J187
        refine m_needsT (by decide) ?_
        unfold w_X10_readLine_J191
        refine m_takesA (p := tE T q) (hT.q f) hO (tE_N hq).2 hK.2.2.1 h0 (fun M' a1 a2 => h M' (f.trans a2.q) (Or.inl ?_))
        rw [e]
        unfold signO
        rw [if_neg (fun y => y ek)]
        exact ⟨rfl, hR.at hD (fun i q z => a2 _ _ (by omega)), a1⟩
    · have ek : kF T q 3 = 1 := by unfold kF; rw [if_pos n4]
      refine ⟨fun _ => ?_, fun z => absurd z (hF.ne (by omega) (by omega))⟩
      unfold w_X10_readLine_J191
      refine m_takesF hF (by omega) (by omega) (h M5 f (LineR.f (d := d') ?_ (by omega) (by omega) hF))
      rw [e]
      unfold signO
      rw [if_pos (show kF T q 3 ≠ 0 by omega), ek]
  · refine ⟨fun _ => ?_, fun z => absurd z (e3.ne e1 e2)⟩
    unfold w_X10_readLine_J191
    exact m_takesF e3 e1 e2 (h M5 f (Or.inr ⟨e1, e2, e3⟩))
/-- the word's rest -/
theorem m_rlW {M : Mem} {T : TP} {p : Nat} {d : DD} {l1 : Int32} {post : Mem → Prop} (hK : TokM M T p) (h0 : rd M 128 14 = 0) (hR : RdM M d) (hT : TapeM M T) (hO : OKT T) (hp : p ≤ T.1) (hD : DOK d) {o : OUT}
    (w : ∀ M' P, AtM M' T (tE T p) → RdM M' (dE d, dC d, dF d || decide (l1 = 5), dP d || decide (l1 = 6), dG d) → TapeM M' T → (∀ M5, EndB T M' M5 o → P M5) → w_X10_readLineOf l1 M' P) (w4 : tK T (tE T p) = 4 → ∃ d', o = (1, tS T (tE T p), d'))
    (h : ∀ M', FrQ M M' → LineR T M' o → post M') : w_X10_readLine_J102 post l1 1 M := by
  refine m_rlT hK h0 hR hT hO hp hD (fun M' a1 a2 a3 => ⟨fun _ => ?_, fun q => ?_⟩)
  · exact w M' _ a1 a2 (hT.q a3) (fun M5 hE => m_rlE hE (hT.q a3) hO (fun M2 c1 c2 => h M2 (a3.trans c1) c2))
  · rcases a1 with ⟨n4, hK', h0'⟩ | ⟨n4, hF⟩
    · rw [h0'] at q; exact absurd q (by decide)
    · obtain ⟨d', e⟩ := w4 n4
      exact h M' a3 (LineR.f e (by omega) (by omega) hF)
theorem dOr {d : DD} {a b : Bool} (ha : a = false) (hb : b = false) : (dE d, dC d, dF d || a, dP d || b, dG d) = d := by
  subst ha; subst hb
  rw [Bool.or_false, Bool.or_false]
  rfl
theorem m_readLine {M : Mem} {T : TP} {p : Nat} {d : DD} {post : Mem → Prop} (hK : TokM M T p) (h0 : rd M 128 14 = 0) (n4 : tK T p ≠ 4) (hR : RdM M d) (hT : TapeM M T) (hO : OKT T) (hp : p ≤ T.1) (hD : DOK d) (h : ∀ M', FrQ M M' → LineR T M' (lineO T p d) → post M') : w_X10_readLine M post := by
  obtain ⟨b0, b1⟩ := tE_N hp
  have tk4 := tK_4 (T := T) (p := p)
  have w7 := wdN_7 (T := T) (p := p)
  have hm6 := hD.1.m
  have k41 : tK T (tE T p) = 4 → kF T (tE T p) 2 = 1 := fun z => by unfold kF; rw [if_pos z]
  have no : (lineO T p d) = (2, tS T p, d) → w_X10_readLine_J17 post (-4) M := fun eo => by
    unfold w_X10_readLine_J17
    refine ⟨fun _ => ?_, fun q => absurd rfl q⟩
    unfold w_X10_readLine_J30
    refine m_needsF rfl h0 (fun M' c1 c2 c3 => ?_)
    have hF : FM M' 2 (tS T p) := ⟨c1, by rw [c2]; exact hK.2.1⟩
    exact ⟨fun _ => m_rl57F hF (by omega) (by omega) (fun M2 d1 d2 => h M2 (FrQ.trans (FrT.q c3) d2) (LineR.f eo (by omega) (by omega) d1)), fun q => absurd q (by decide)⟩
  unfold w_X10_readLine
  rw [hK.1]
  refine ⟨fun q => ?_, fun q => ?_⟩
  · have n1 : tK T p ≠ 1 := fun y => q (by rw [y]; rfl)
    have ek : kF T p 1 = 2 := by unfold kF; rw [if_neg n4, if_pos n1]
    exact no (by unfold lineO; rw [if_pos (show kF T p 1 ≠ 0 by omega), ek])
  · have n1 : tK T p = 1 := nI_inj (by omega) (by decide) q
    have ek : kF T p 1 = 0 := by unfold kF; rw [if_neg n4, if_neg (fun y => y n1)]
    refine m_lineNow hT hO hp hK ?_
    have hc : wdN T p = 7 ∨ wdN T p = 4 ∨ wdN T p = 5 ∨ wdN T p = 6 ∨ wdN T p < 4 := by omega
    rcases hc with w | w | w | w | w
    · rw [w]
      exact no (by unfold lineO; rw [if_neg (fun y => y ek), if_pos w])
    · have eo : lineO T p d = oneO T p d := by unfold lineO; rw [if_neg (fun y => y ek), if_neg (by omega), if_pos w]
      rw [eo] at h
      rw [w]
      refine ⟨fun z => absurd z (by decide), fun _ => ?_⟩
      unfold w_X10_readLine_J30
      refine m_needsT (by decide) ⟨fun z => absurd rfl z, fun _ => ?_⟩
      rw [show rd M 132 24 = nI (eM (dE d)) from hR.1.1]
      refine ⟨fun z => ?_, fun z => ?_⟩
      · have hz : 6 ≤ eM (dE d) := (nI_leI (a := 6) (by decide) (by omega)).mp z
        have e5 : oneO T p d = (5, tS T p, d) := if_pos hz
        unfold w_X10_readLine_J57
        refine m_needsF rfl h0 (fun M' c1 c2 c3 => ?_)
        have hF : FM M' 5 (tS T p) := ⟨c1, by rw [c2]; exact hK.2.1⟩
        exact ⟨fun _ => m_rl79F hF (by omega) (by omega) (fun M2 d1 d2 => h M2 (FrQ.trans (FrT.q c3) d2) (LineR.f e5 (by omega) (by omega) d1)), fun q => absurd q (by decide)⟩
      · have hz : eM (dE d) < 6 := by
          rcases Nat.lt_or_ge (eM (dE d)) 6 with y | y
          · exact y
          · exact absurd (nI_le (a := 6) y (by omega)) z
        show w_X10_readLine_J57 post (nI 4) 1 M
        unfold w_X10_readLine_J57
        refine m_needsT (by decide) ⟨fun _ => ?_, fun q => absurd q (by decide)⟩
        show w_X10_readLine_J79 post (nI 4) 1 M
        unfold w_X10_readLine_J79
        refine m_needsT (by decide) ⟨fun _ => ?_, fun q => absurd q (by decide)⟩
        show w_X10_readLine_J102 post (nI 4) 1 M
        refine m_rlW hK h0 hR hT hO hp hD (fun M' P a1 a2 a3 a4 => ?_) (fun z => ?_) h
        · rw [dOr (by decide) (by decide)] at a2
          exact ⟨fun _ => m_readOne a1 a2 a3 hO hp hD hz a4, fun q => absurd q (by decide), fun q => absurd q (by decide), fun q => absurd q (by decide)⟩
        · have := k41 z
          unfold oneO
          exact ⟨d, by rw [if_neg (by omega), if_pos (by omega), this]⟩
    · have eo : lineO T p d = finO T p d := by unfold lineO; rw [if_neg (fun y => y ek), if_neg (by omega), if_neg (by omega), if_pos w]
      rw [eo] at h
      rw [w]
      refine ⟨fun z => absurd z (by decide), fun _ => ?_⟩
      unfold w_X10_readLine_J30
      refine m_needsT (by decide) ⟨fun _ => ?_, fun q => absurd q (by decide)⟩
      show w_X10_readLine_J57 post (nI 5) 1 M
      unfold w_X10_readLine_J57
      refine m_needsT (by decide) ⟨fun z => absurd rfl z, fun _ => ?_⟩
      rw [hR.2.2.2.1]
      refine ⟨fun z => ?_, fun z => ?_⟩
      · have e5 : finO T p d = (4, tS T p, d) := if_pos (b2y z)
        unfold w_X10_readLine_J79
        refine m_needsF rfl h0 (fun M' c1 c2 c3 => ?_)
        have hF : FM M' 4 (tS T p) := ⟨c1, by rw [c2]; exact hK.2.1⟩
        exact ⟨fun _ => m_rl102F hF (by omega) (by omega) (fun M2 d1 d2 => h M2 (FrQ.trans (FrT.q c3) d2) (LineR.f e5 (by omega) (by omega) d1)), fun q => absurd q (by decide)⟩
      · have hz := b2n z
        show w_X10_readLine_J79 post (nI 5) 1 M
        unfold w_X10_readLine_J79
        refine m_needsT (by decide) ⟨fun _ => ?_, fun q => absurd q (by decide)⟩
        show w_X10_readLine_J102 post (nI 5) 1 M
        refine m_rlW hK h0 hR hT hO hp hD (fun M' P a1 a2 a3 a4 => ?_) (fun z => ?_) h
        · have e2 : (dE d, dC d, dF d || decide (nI 5 = 5), dP d || decide (nI 5 = 6), dG d) = (dE d, dC d, true, dP d, dG d) := by
            rw [show decide (nI 5 = 5) = true from rfl, show decide (nI 5 = 6) = false from rfl, Bool.or_false, Bool.or_true]
          rw [e2] at a2
          exact ⟨fun q => absurd q (by decide), fun _ => m_readFin a1 a2 a3 hO hp hD hz a4, fun q => absurd q (by decide), fun q => absurd q (by decide)⟩
        · have e1 : numF T (tE T p) 1 6 = 1 := by
            have := k41 z
            unfold numF
            rw [if_pos (by omega), this]
          unfold finO
          exact ⟨d, by rw [if_neg (by rw [hz]; decide), if_pos (show numF T (tE T p) 1 6 ≠ 0 by omega), e1]⟩
    · have eo : lineO T p d = plnO T p d := by unfold lineO; rw [if_neg (fun y => y ek), if_neg (by omega), if_neg (by omega), if_neg (by omega), if_pos w]
      rw [eo] at h
      rw [w]
      refine ⟨fun z => absurd z (by decide), fun _ => ?_⟩
      unfold w_X10_readLine_J30
      refine m_needsT (by decide) ⟨fun _ => ?_, fun q => absurd q (by decide)⟩
      show w_X10_readLine_J57 post (nI 6) 1 M
      unfold w_X10_readLine_J57
      refine m_needsT (by decide) ⟨fun _ => ?_, fun q => absurd q (by decide)⟩
      show w_X10_readLine_J79 post (nI 6) 1 M
      unfold w_X10_readLine_J79
      refine m_needsT (by decide) ⟨fun z => absurd rfl z, fun _ => ?_⟩
      rw [hR.2.2.2.2.1]
      refine ⟨fun z => ?_, fun z => ?_⟩
      · have e5 : plnO T p d = (4, tS T p, d) := if_pos (b2y z)
        unfold w_X10_readLine_J102
        refine m_needsF rfl h0 (fun M' c1 c2 c3 => ?_)
        have hF : FM M' 4 (tS T p) := ⟨c1, by rw [c2]; exact hK.2.1⟩
        exact m_rl102G hF (by omega) (by omega) (fun M2 d1 d2 => h M2 (FrQ.trans (FrT.q c3) d2) (LineR.f e5 (by omega) (by omega) d1))
      · have hz := b2n z
        show w_X10_readLine_J102 post (nI 6) 1 M
        refine m_rlW hK h0 hR hT hO hp hD (fun M' P a1 a2 a3 a4 => ?_) (fun z => ?_) h
        · have e2 : (dE d, dC d, dF d || decide (nI 6 = 5), dP d || decide (nI 6 = 6), dG d) = (dE d, dC d, dF d, true, dG d) := by
            rw [show decide (nI 6 = 5) = false from rfl, show decide (nI 6 = 6) = true from rfl, Bool.or_false, Bool.or_true]
          rw [e2] at a2
          exact ⟨fun q => absurd q (by decide), fun q => absurd q (by decide), fun _ => m_readPlan a1 a2 a3 hO hp hD hz a4, fun q => absurd q (by decide)⟩
        · have e1 := k41 z
          unfold plnO
          exact ⟨_, by rw [if_neg (by rw [hz]; decide), plL_s (f := 8), if_neg (show ¬ tK T (tE T p) = 3 by omega), if_pos (show kF T (tE T p) 2 ≠ 0 by omega), e1]⟩
    · have eo : lineO T p d = grpO T p (wdN T p) d := by unfold lineO; rw [if_neg (fun y => y ek), if_neg (by omega), if_neg (by omega), if_neg (by omega), if_neg (by omega)]
      rw [eo] at h
      have ne : ∀ j, 4 ≤ j → j < 100 → ¬ nI (wdN T p) = nI j := fun j j1 j2 z => by
        have := nI_inj (by omega) (by omega) z
        omega
      have ec : codeI (wdN T p) = nI (wdN T p) := if_neg (by omega)
      rw [ec]
      refine ⟨fun z => absurd z (nI_ne4 (by omega)), fun _ => ?_⟩
      unfold w_X10_readLine_J30
      refine m_needsT (by decide) ⟨fun _ => ?_, fun q => absurd q (ne 4 (by omega) (by omega))⟩
      show w_X10_readLine_J57 post (nI (wdN T p)) 1 M
      unfold w_X10_readLine_J57
      refine m_needsT (by decide) ⟨fun _ => ?_, fun q => absurd q (ne 5 (by omega) (by omega))⟩
      show w_X10_readLine_J79 post (nI (wdN T p)) 1 M
      unfold w_X10_readLine_J79
      refine m_needsT (by decide) ⟨fun _ => ?_, fun q => absurd q (ne 6 (by omega) (by omega))⟩
      show w_X10_readLine_J102 post (nI (wdN T p)) 1 M
      refine m_rlW hK h0 hR hT hO hp hD (fun M' P a1 a2 a3 a4 => ?_) (fun z => ?_) h
      · have ne5 : ¬ nI (wdN T p) = 5 := ne 5 (by omega) (by omega)
        have ne6 : ¬ nI (wdN T p) = 6 := ne 6 (by omega) (by omega)
        rw [dOr (decide_eq_false ne5) (decide_eq_false ne6)] at a2
        exact ⟨fun q => absurd q (ne 4 (by omega) (by omega)), fun q => absurd q (ne 5 (by omega) (by omega)), fun q => absurd q (ne 6 (by omega) (by omega)), fun _ => m_readGrp w a1 a2 a3 hO hp hD a4⟩
      · have e1 : numF T (tE T p) 0 4 = 1 := by
          have := k41 z
          unfold numF
          rw [if_pos (by omega), this]
        unfold grpO
        exact ⟨d, by rw [if_pos (show numF T (tE T p) 0 4 ≠ 0 by omega), e1]⟩
