/-! the reference reads a line's rest -/
abbrev R132 (M : Mem) : Nat → Int32 := fun k => rd M 132 k
def RdM (M : Mem) (d : DD) : Prop := ExM (R132 M) (dE d) ∧ ScM (R132 M) (dC d) ∧ (∀ a, a < 6 → rd M 132 (4 * a + 1) = -4 ∧ rd M 132 (4 * a + 2) = 0 ∧ rd M 132 (4 * a + 3) = -4) ∧ rd M 128 4 = (if dF d = true then 1 else 0) ∧ rd M 128 5 = (if dP d = true then 1 else 0) ∧ rd M 128 6 = nI (dG d) ∧ rd M 128 7 = oI (hiW (sW (dC d)) (sA (dC d)))
theorem RdM.at {M M' : Mem} {d : DD} (h : RdM M d) (hD : DOK d) (s : ∀ i q, (i = 132 ∨ (i = 128 ∧ 4 ≤ q ∧ q ≤ 7)) → rd M' i q = rd M i q) : RdM M' d := by
  obtain ⟨h1, h2, h3, h4, h5, h6, h7⟩ := h
  refine ⟨h1.congr hD.1.m (fun k _ => s _ _ (by omega)), h2.congr ⟨hD.2.2.1.1, by have := hD.2.2.1.2.1; omega⟩ (fun k _ _ => s _ _ (by omega)), fun a ha => ?_, ?_, ?_, ?_, ?_⟩
  · rw [s _ _ (by omega), s _ _ (by omega), s _ _ (by omega)]; exact h3 a ha
  · rw [s _ _ (by omega)]; exact h4
  · rw [s _ _ (by omega)]; exact h5
  · rw [s _ _ (by omega)]; exact h6
  · rw [s _ _ (by omega)]; exact h7
def FrQ (M M' : Mem) : Prop := ∀ i q, (i < 128 ∨ (129 ≤ i ∧ i ≠ 132) ∨ (i = 128 ∧ (q = 9 ∨ q = 26))) → rd M' i q = rd M i q
theorem FrQ.refl {M : Mem} : FrQ M M := fun _ _ _ => rfl
theorem FrQ.trans {M M1 M2 : Mem} (h : FrQ M M1) (h2 : FrQ M1 M2) : FrQ M M2 := fun i q p => (h2 i q p).trans (h i q p)
theorem FrK.q {M M' : Mem} (h : FrK M M') : FrQ M M' := fun i q p => h i q (by omega)
theorem FrT.q {M M' : Mem} (h : FrT M M') : FrQ M M' := fun i q p => h i q (by omega)
theorem FrQ.w132 {M : Mem} {k : Nat} {v : Int32} : FrQ M (wr M 132 k v) := fun i q p => rd_ne (by omega)
theorem FrQ.w128 {M : Mem} {k : Nat} {v : Int32} (h : k ≠ 9 ∧ k ≠ 26) : FrQ M (wr M 128 k v) := fun i q p => rd_ne (by omega)
theorem TapeM.q {M M' : Mem} {T : TP} (h : TapeM M T) (f : FrQ M M') : TapeM M' T := h.fr (f _ _ (by omega)) (fun k => f _ _ (by omega))
theorem FM.w132 {M : Mem} {f s k : Nat} {v : Int32} (h : FM M f s) : FM (wr M 132 k v) f s := ⟨by rw [rd_ne (by omega)]; exact h.1, by rw [rd_ne (by omega)]; exact h.2⟩
theorem FM.w128 {M : Mem} {f s k : Nat} {v : Int32} (h : FM M f s) (hk : k ≠ 14 ∧ k ≠ 15) : FM (wr M 128 k v) f s := ⟨by rw [rd_ne (by omega)]; exact h.1, by rw [rd_ne (by omega)]; exact h.2⟩
theorem AtM.at {M M' : Mem} {T : TP} {p : Nat} (h : AtM M T p) (s : ∀ q, 10 ≤ q → q ≤ 15 → rd M' 128 q = rd M 128 q) : AtM M' T p := by
  rcases h with ⟨h1, ⟨a, b, c, d⟩, h3⟩ | ⟨h1, a, b⟩
  · refine Or.inl ⟨h1, ⟨?_, ?_, ?_, fun z => ?_⟩, ?_⟩
    · rw [s _ (by omega) (by omega)]; exact a
    · rw [s _ (by omega) (by omega)]; exact b
    · rw [s _ (by omega) (by omega)]; exact c
    · rw [s _ (by omega) (by omega)]; exact d z
    · rw [s _ (by omega) (by omega)]; exact h3
  · exact Or.inr ⟨h1, by rw [s _ (by omega) (by omega)]; exact a, by rw [s _ (by omega) (by omega)]; exact b⟩
theorem ExM.fresh {f : Nat → Int32} {e : EX} (hF : FRs e) (h6 : eM e ≤ 6) (h24 : f 24 = nI (eM e)) (h25 : f 25 = nI (eF e)) (hn : ∀ a, a < eM e → f (4 * a) = nI (eN e a)) (hr : ∀ a, a < 6 → f (4 * a + 1) = -4 ∧ f (4 * a + 2) = 0 ∧ f (4 * a + 3) = -4) (hg : ∀ t, t < 5 → f (26 + 4 * t) = nI (eK e t) ∧ f (27 + 4 * t) = nI (eZ e t) ∧ f (28 + 4 * t) = 0 ∧ f (29 + 4 * t) = -4 ∧ ∀ w, w < 4 → f (46 + 4 * t + w) = 0) : ExM f e := by
  refine ⟨h24, h25, fun a ha => ?_, fun t ht => ?_⟩
  · obtain ⟨r1, r2, r3⟩ := hr a (by omega)
    unfold mI hI
    rw [hF.1 a, if_pos rfl, if_pos rfl, r1, r2, r3]
    exact ⟨hn a ha, rfl, rfl, rfl⟩
  · obtain ⟨g1, g2, g3, g4, g5⟩ := hg t ht
    obtain ⟨f1, f2, f3⟩ := hF.2 t
    rw [f1, f2, g3, g4]
    exact ⟨g1, g2, rfl, rfl, fun w hw => by rw [g5 w hw, f3 w]⟩
theorem ExM.grp0 {f : Nat → Int32} {e : EX} (h : ExM f e) (hF : FRs e) : ∀ t, t < 5 → f (26 + 4 * t) = nI (eK e t) ∧ f (27 + 4 * t) = nI (eZ e t) ∧ f (28 + 4 * t) = 0 ∧ f (29 + 4 * t) = -4 ∧ ∀ w, w < 4 → f (46 + 4 * t + w) = 0 := fun t ht => by
  obtain ⟨g1, g2, g3, g4, g5⟩ := h.2.2.2 t ht
  obtain ⟨f1, f2, f3⟩ := hF.2 t
  rw [f1] at g3
  rw [f2] at g4
  exact ⟨g1, g2, g3, g4, fun w hw => by rw [g5 w hw, f3 w]⟩
/-- how a line's rest may end -/
def EndB (T : TP) (M M' : Mem) (o : OUT) : Prop := FrQ M M' ∧ ((∃ q d', o = signO T q d' ∧ q ≤ T.1 ∧ DOK d' ∧ RdM M' d' ∧ AtM M' T q) ∨ (o.1 ≠ 0 ∧ o.1 ≤ 6 ∧ FM M' o.1 o.2.1))
theorem EndB.f {T : TP} {M M' : Mem} {o : OUT} {f s : Nat} {d : DD} (e : o = (f, s, d)) (h0 : f ≠ 0) (h6 : f ≤ 6) (hF : FM M' f s) (fr : FrQ M M') : EndB T M M' o := by
  subst e
  exact ⟨fr, Or.inr ⟨h0, h6, hF⟩⟩
theorem EndB.mono {T : TP} {M0 M M' : Mem} {o : OUT} (f : FrQ M0 M) (h : EndB T M M' o) : EndB T M0 M' o := ⟨f.trans h.1, h.2⟩
theorem i96 {x : Int32} {k : Nat} (hx : x = nI k) (hk : k < 96) : vp_in x 96 ∧ x.toNatClampNeg = k := by
  subst hx
  exact ⟨vp_in_nI hk (by omega), tnI (by omega)⟩
theorem m_subF {M : Mem} {m f s : Nat} {l1 : Int32} {post : Mem → Prop} (h24 : rd M 132 24 = nI m) (hm : m ≤ 6) (hF : FM M f s) (h0 : f ≠ 0) (h6 : f ≤ 6) (h : ∀ M', FM M' f s → FrQ M M' → post M') : ∃ g19, w_X10_readSubscriber_L19 post l1 g19 0 M := by
  have hne := hF.ne h0 h6
  have i4 : ∀ x, (4 : Int32) * nI x + 0 = nI (4 * x) := fun x => by rw [show (4 : Int32) = nI 4 from rfl, show (0 : Int32) = nI 0 from rfl, pk_mul, nI_add]; rfl
  refine loop_0 (fun n i (_ : Unit) => w_X10_readSubscriber_L19 post l1 n (nI i) M) (fun _ _ => True) m () trivial ?_ ?_
  · rintro n - -
    show w_X10_readSubscriber_L19 post l1 (n + 1) _ M
    unfold w_X10_readSubscriber_L19
    rw [h24, i4]
    refine ⟨fun _ => ⟨vp_in_nI (by omega) (by omega), ?_⟩, fun q => absurd (nI_le (Nat.le_refl _) (by omega)) q⟩
    rintro M3 rfl M4 rfl
    have hF' : FM (wr (wr M 132 (nI (4 * m)).toNatClampNeg l1) 132 24 (rd (wr M 132 (nI (4 * m)).toNatClampNeg l1) 132 24 + 1)) f s := hF.w132.w132
    exact m_takesF hF' h0 h6 (h _ hF' (FrQ.w132.trans FrQ.w132))
  · rintro n i - hi - kk
    show w_X10_readSubscriber_L19 post l1 (n + 1) _ M
    unfold w_X10_readSubscriber_L19
    rw [h24, i4, i4]
    unfold w_X10_readSubscriber_J50
    have nx : ∀ s1, w_X10_needs s1 4 M (fun M1 => ∀ v2 : Int32, v2 = (nI i + 1) → w_X10_readSubscriber_L19 post l1 n v2 M1) := fun s1 => m_needsX hne (by
      rintro v2 rfl
      rw [nI_1]
      exact kk () trivial)
    exact ⟨fun q => absurd q (nI_ge hi (by omega)), fun _ => ⟨vp_in_nI (by omega) (by omega), fun _ => nx 0, fun _ => nx 1⟩⟩
theorem m_readOne {M : Mem} {T : TP} {p : Nat} {d : DD} {post : Mem → Prop} (hA : AtM M T (tE T p)) (hR : RdM M d) (hT : TapeM M T) (hO : OKT T) (hp : p ≤ T.1) (hD : DOK d) (h6 : eM (dE d) < 6) (h : ∀ M', EndB T M M' (oneO T p d) → post M') : w_X10_readSubscriber M post := by
  obtain ⟨b0, b1⟩ := tE_N hp
  obtain ⟨b2, b3⟩ := tE_N b1
  have h24 : rd M 132 24 = nI (eM (dE d)) := hR.1.1
  have hn99 := numF_99 b1
  have i4 : ∀ x, (4 : Int32) * nI x + 0 = nI (4 * x) := fun x => by rw [show (4 : Int32) = nI 4 from rfl, show (0 : Int32) = nI 0 from rfl, pk_mul, nI_add]; rfl
  have eo := show oneO T p d = _ from if_neg (by omega)
  unfold w_X10_readSubscriber
  refine m_looked (lo := 0) (hi := 99) hA b1 (by omega) (by omega) (fun e hK h0 => ?_) (fun e M' g1 g2 => ?_)
  · rw [hn99] at e
    rw [if_neg (fun z => z e)] at eo
    have hv := tV_100 b1 (kF_2 e)
    refine m_isNumber (fun n hn e2 => m_needsT (by decide) ?_) (fun no => m_needsF rfl h0 (fun M' c1 c2 c3 => ?_))
    · obtain rfl : tV T (tE T p) = n := nI_inj (by omega) (by have := hn.1; omega) e2
      rw [if_neg (fun z => z ⟨hn.1, hn.2⟩)] at eo
      refine loop_0 (fun n i (s : Mem) => w_X10_readSubscriber_L19 post (nI (tV T (tE T p))) n (nI i) s) (fun i s => FrT M s ∧ ((rd s 128 14 = 0 ∧ ∀ j, j < i → eN (dE d) j ≠ tV T (tE T p)) ∨ (FM s 4 (tS T (tE T p)) ∧ ∃ j, j < eM (dE d) ∧ eN (dE d) j = tV T (tE T p)))) (eM (dE d)) M ⟨fun _ _ _ => rfl, Or.inl ⟨h0, fun j hj => by omega⟩⟩ ?_ ?_
      · rintro n s ⟨k1, k2⟩
        show w_X10_readSubscriber_L19 post _ (n + 1) _ s
        unfold w_X10_readSubscriber_L19
        rw [k1 132 24 (by omega), h24, i4]
        refine ⟨fun _ => ⟨vp_in_nI (by omega) (by omega), ?_⟩, fun q => absurd (nI_le (Nat.le_refl _) (by omega)) q⟩
        rw [tnI (by omega)]
        rintro M3 rfl
        rw [rd_ne (by omega), k1 132 24 (by omega), h24, nI_1]
        rintro M4 hM4
        have r4 : ∀ i k, rd M4 i k = if i = 132 ∧ k = 24 then nI (eM (dE d) + 1) else if i = 132 ∧ k = 4 * eM (dE d) then nI (tV T (tE T p)) else rd s i k := fun i k => by rw [hM4, rd_wr, rd_wr]
        have f4 : FrQ M M4 := by rw [hM4]; exact (k1.q.trans FrQ.w132).trans FrQ.w132
        have g4 : ∀ f s', FM s f s' → FM M4 f s' := fun f s' z => by rw [hM4]; exact z.w132.w132
        clear hM4
        rcases k2 with ⟨k2, k3⟩ | ⟨k2, j, j1, j2⟩
        · have ow : ownE (dE d) (tV T (tE T p)) = 0 := own_none k3
          rw [if_neg (fun z => z ow)] at eo
          obtain ⟨v1, v2⟩ := VE_addE hD.1 hD.2.1 h6 hn ow
          have hD' : DOK (addE (dE d) (tV T (tE T p)), dC d, dF d, dP d, dG d) := ⟨v1, v2, hD.2.2⟩
          have hR4 : RdM M4 (addE (dE d) (tV T (tE T p)), dC d, dF d, dP d, dG d) := by
            obtain ⟨y1, y2, y3, y4, y5, y6, y7⟩ := hR
            have o4 : ∀ k, k ≠ 24 → k ≠ 4 * eM (dE d) → rd M4 132 k = rd M 132 k := fun k z1 z2 => by rw [r4, if_neg (by omega), if_neg (by omega), k1 _ _ (by omega)]
            have o8 : ∀ k, k ≠ 14 → k ≠ 15 → rd M4 128 k = rd M 128 k := fun k z1 z2 => by rw [r4, if_neg (by omega), if_neg (by omega), k1 _ _ (by omega)]
            have rows : ∀ a, a < 6 → rd M4 132 (4 * a + 1) = -4 ∧ rd M4 132 (4 * a + 2) = 0 ∧ rd M4 132 (4 * a + 3) = -4 := fun a ha => by
              rw [o4 _ (by omega) (by omega), o4 _ (by omega) (by omega), o4 _ (by omega) (by omega)]; exact y3 a ha
            refine ⟨ExM.fresh v2 v1.m ?_ ?_ (fun a ha => ?_) rows (fun t ht => ?_), y2.congr ⟨hD.2.2.1.1, by have := hD.2.2.1.2.1; omega⟩ (fun k z1 _ => o4 k (by omega) (by omega)), rows, ?_, ?_, ?_, ?_⟩
            · show rd M4 132 24 = _
              rw [r4, if_pos ⟨rfl, rfl⟩]; rfl
            · show rd M4 132 25 = _
              rw [o4 _ (by omega) (by omega)]; exact y1.2.1
            · have ha : a < eM (dE d) + 1 := ha
              show rd M4 132 (4 * a) = nI (up (eN (dE d)) (eM (dE d)) (tV T (tE T p)) a)
              by_cases z : a = eM (dE d)
              · rw [r4, if_neg (by omega), if_pos (by omega), up_eq z]
              · rw [o4 _ (by omega) (by omega), up_ne z]; exact (y1.2.2.1 a (by omega)).1
            · obtain ⟨x1, x2, x3, x4, x5⟩ := y1.grp0 hD.2.1 t ht
              show rd M4 132 (26 + 4 * t) = _ ∧ rd M4 132 (27 + 4 * t) = _ ∧ rd M4 132 (28 + 4 * t) = _ ∧ rd M4 132 (29 + 4 * t) = _ ∧ ∀ w, w < 4 → rd M4 132 (46 + 4 * t + w) = 0
              rw [o4 _ (by omega) (by omega), o4 _ (by omega) (by omega), o4 _ (by omega) (by omega), o4 _ (by omega) (by omega)]
              exact ⟨x1, x2, x3, x4, fun w hw => by rw [o4 _ (by omega) (by omega)]; exact x5 w hw⟩
            · rw [o8 _ (by omega) (by omega)]; exact y4
            · rw [o8 _ (by omega) (by omega)]; exact y5
            · rw [o8 _ (by omega) (by omega)]; exact y6
            · rw [o8 _ (by omega) (by omega)]; exact y7
          refine m_takesA (p := tE T (tE T p)) (hT.q f4) hO b3 ?_ ?_ (fun M5 a1 a2 => h M5 ⟨f4.trans a2.q, Or.inl ⟨_, _, eo, b3, hD', hR4.at hD' (fun i q z => a2 _ _ (by omega)), a1⟩⟩)
          · rw [r4, if_neg (by omega), if_neg (by omega), k1 _ _ (by omega)]; exact hK.2.2.1
          · rw [r4, if_neg (by omega), if_neg (by omega)]; exact k2
        · have ow : ownE (dE d) (tV T (tE T p)) ≠ 0 := fun z => own_no hD.1 z j j1 j2
          rw [if_pos ow] at eo
          exact m_takesF (g4 _ _ k2) (by omega) (by omega) (h M4 (EndB.f eo (by omega) (by omega) (g4 _ _ k2) f4))
      · rintro n i s hi ⟨k1, k2⟩ kk
        show w_X10_readSubscriber_L19 post _ (n + 1) _ s
        unfold w_X10_readSubscriber_L19
        have hq := (hD.1.2.2.1 i hi).1
        rw [k1 132 24 (by omega), h24, i4 (eM (dE d)), i4 i, tnI (n := 4 * i) (by omega), k1 132 (4 * i) (by omega), show rd M 132 (4 * i) = _ from (hR.1.2.2.1 i hi).1]
        unfold w_X10_readSubscriber_J50
        refine ⟨fun q => absurd q (nI_ge hi (by omega)), fun _ => ⟨vp_in_nI (by omega) (by omega), fun q => ?_, fun q => m_needsT (by decide) ?_⟩⟩
        · have e3 : eN (dE d) i = tV T (tE T p) := nI_inj (by omega) (by omega) q
          rcases k2 with ⟨k2, k3⟩ | ⟨k2, j, j1, j2⟩
          · refine m_needsF rfl k2 (fun M' c1 c2 c3 => ?_)
            rintro v rfl
            rw [nI_1]
            exact kk M' ⟨fun x y w => by rw [c3 _ _ w]; exact k1 _ _ w, Or.inr ⟨⟨c1, by rw [c2, k1 _ _ (by omega)]; exact hK.2.1⟩, i, hi, e3⟩⟩
          · refine m_needsX (k2.ne (by omega) (by omega)) ?_
            rintro v rfl
            rw [nI_1]
            exact kk s ⟨k1, Or.inr ⟨k2, j, j1, j2⟩⟩
        · rintro v rfl
          rw [nI_1]
          refine kk s ⟨k1, ?_⟩
          rcases k2 with ⟨k2, k3⟩ | k2
          · refine Or.inl ⟨k2, fun j hj => ?_⟩
            by_cases z : j = i
            · rw [z]; exact fun y => q (by rw [y])
            · exact k3 j (by omega)
          · exact Or.inr k2
    · have hno : ¬ (tV T (tE T p) ≤ 44 ∧ tV T (tE T p) % 10 ≤ 4) := fun z => no _ z rfl
      rw [if_pos hno] at eo
      have hF : FM M' 3 (tS T (tE T p)) := ⟨c1, by rw [c2]; exact hK.2.1⟩
      refine m_subF (m := eM (dE d)) (by rw [c3 _ _ (by omega)]; exact h24) (by omega) hF (by omega) (by omega) (fun M2 d1 d2 => h M2 (EndB.f eo (by omega) (by omega) d1 (FrQ.trans (FrT.q c3) d2)))
  · rw [hn99] at e g1
    rw [if_pos e] at eo
    have k3 := kF_3 (T := T) (p := tE T p) (k := 2)
    have hne := g1.ne e (by omega)
    have go : ∀ r9, w_X10_needs r9 3 M' (fun (M10 : Mem) => ∃ g19 : Nat, w_X10_readSubscriber_L19 post 0 g19 0 M10) := fun r9 => m_needsX hne (m_subF (m := eM (dE d)) (by rw [g2 _ _ (by omega)]; exact h24) (by omega) g1 e (by omega) (fun M2 d1 d2 => h M2 (EndB.f eo e (by omega) d1 (g2.q.trans d2))))
    exact m_isNumber (fun _ _ _ => go 1) (fun _ => go 0)
theorem m_readFin {M : Mem} {T : TP} {p : Nat} {d : DD} {post : Mem → Prop} (hA : AtM M T (tE T p)) (hR : RdM M (dE d, dC d, true, dP d, dG d)) (hT : TapeM M T) (hO : OKT T) (hp : p ≤ T.1) (hD : DOK d) (hF0 : dF d = false) (h : ∀ M', EndB T M M' (finO T p d) → post M') : w_X10_readWorth 1 6 M (fun (r3 : Int32) (M2 : Mem) => ∀ M4 : Mem, M4 = wr M2 132 25 r3 → post M4) := by
  obtain ⟨b0, b1⟩ := tE_N hp
  obtain ⟨b2, b3⟩ := tE_N b1
  have eo := show finO T p d = _ from if_neg (by rw [hF0]; decide)
  have n3 := numF_3 (T := T) (p := tE T p) (lo := 1) (hi := 6)
  unfold w_X10_readWorth
  refine m_looked (lo := 1) (hi := 6) hA b1 (by omega) (by omega) (fun e hK h0 => ?_) (fun e M' g1 g2 => m_takesF g1 e (by omega) ?_)
  · rw [if_neg (fun z => z e)] at eo
    obtain ⟨n1, n2, n3⟩ := numF_0 e
    have hD' : DOK (finE (dE d) (tV T (tE T p)), dC d, true, dP d, dG d) := ⟨VE_finE hD.1 ⟨n2, n3⟩, hD.2.1, hD.2.2⟩
    have hD1 : DOK (dE d, dC d, true, dP d, dG d) := hD
    refine m_takesA (p := tE T (tE T p)) hT hO b3 hK.2.2.1 h0 (fun M2 a1 a2 => ?_)
    rintro M4 hM4
    have hR2 := hR.at (M' := M2) hD1 (fun i q z => a2 _ _ (by omega))
    have r4 : ∀ i k, ¬ (i = 132 ∧ k = 25) → rd M4 i k = rd M2 i k := fun i k z => by rw [hM4]; exact rd_ne (by omega)
    have e4 : rd M4 132 25 = nI (tV T (tE T p)) := by rw [hM4]; exact rd_eq ⟨rfl, rfl⟩
    clear hM4
    obtain ⟨y1, y2, y3, y4, y5, y6, y7⟩ := hR2
    refine h M4 ⟨a2.q.trans (fun i q z => r4 _ _ (by omega)), Or.inl ⟨_, _, eo, b3, hD', ⟨y1.fin hD.1.m e4 (fun k _ z => r4 _ _ (by omega)), y2.congr (show sA (dC d) ≤ 8 ∧ sN (dC d) ≤ 6 from ⟨hD.2.2.1.1, by have := hD.2.2.1.2.1; omega⟩) (fun k z1 _ => r4 _ _ (by omega)), fun a ha => ?_, ?_, ?_, ?_, ?_⟩, a1.at (fun q _ _ => r4 _ _ (by omega))⟩⟩
    · rw [r4 _ _ (by omega), r4 _ _ (by omega), r4 _ _ (by omega)]; exact y3 a ha
    · rw [r4 _ _ (by omega)]; exact y4
    · rw [r4 _ _ (by omega)]; exact y5
    · rw [r4 _ _ (by omega)]; exact y6
    · rw [r4 _ _ (by omega)]; exact y7
  · rw [if_pos e] at eo
    rintro M4 rfl
    exact h _ (EndB.f eo e (by omega) g1.w132 (g2.q.trans FrQ.w132))
theorem m_readGrp {M : Mem} {T : TP} {p k : Nat} {d : DD} {post : Mem → Prop} (hk : k < 4) (hA : AtM M T (tE T p)) (hR : RdM M d) (hT : TapeM M T) (hO : OKT T) (hp : p ≤ T.1) (hD : DOK d) (h : ∀ M', EndB T M M' (grpO T p k d) → post M') : w_X10_readGroup (nI k) M post := by
  obtain ⟨b0, b1⟩ := tE_N hp
  obtain ⟨b2, b3⟩ := tE_N b1
  obtain ⟨b4, b5⟩ := tE_N b3
  have n3 := numF_3 (T := T) (p := tE T p) (lo := 0) (hi := 4)
  have n3' := numF_3 (T := T) (p := tE T (tE T p)) (lo := 0) (hi := 4)
  have hg := hD.2.2.2.1
  have i26 : ∀ t, (26 : Int32) + 4 * nI t + 0 = nI (26 + 4 * t) := fun t => by rw [show (4 : Int32) = nI 4 from rfl, show (26 : Int32) = nI 26 from rfl, show (0 : Int32) = nI 0 from rfl, pk_mul, nI_add, nI_add]; rfl
  have i27 : ∀ t, (26 : Int32) + 4 * nI t + 1 = nI (27 + 4 * t) := fun t => by rw [show (4 : Int32) = nI 4 from rfl, show (26 : Int32) = nI 26 from rfl, pk_mul, nI_add, nI_1, show 26 + 4 * t + 1 = 27 + 4 * t by omega]
  -- at fault: on to the end
  have flt : ∀ (t f s : Nat) (s1 : Int32) (M1 : Mem), t < 5 → f ≠ 0 → f ≤ 6 → FM M1 f s → (∀ M', FM M' f s → FrQ M1 M' → post M') → w_X10_readGroup_J24 post (nI k) (nI t) s1 M1 := fun t f s s1 M1 ht h0 h6 hF y => by
    unfold w_X10_readGroup_J24
    refine m_needsX (hF.ne h0 h6) ?_
    rintro M2 hM2
    have hF2 : FM M2 f s := by rw [hM2]; exact hF.w128 (by omega)
    have f2 : FrQ M1 M2 := by rw [hM2]; exact FrQ.w128 (by omega)
    clear hM2
    refine m_takesF hF2 h0 h6 ?_
    rw [i26, i27, tnI (by omega), tnI (by omega)]
    refine ⟨vp_in_nI (by omega) (by omega), ?_⟩
    rintro M4 rfl
    unfold w_X10_readWorth
    refine m_lookedX (hF2.w132.ne h0 h6) (m_takesF hF2.w132 h0 h6 ⟨vp_in_nI (by omega) (by omega), ?_⟩)
    rintro M7 rfl
    exact y _ hF2.w132.w132 ((f2.trans FrQ.w132).trans FrQ.w132)
  have eo : grpO T p k d = grpO T p k d := rfl
  unfold w_X10_readGroup
  refine m_looked (lo := 0) (hi := 4) hA b1 (by omega) (by omega) (fun e hK h0 => ?_) (fun e M' g1 g2 => ?_)
  · obtain ⟨m1, -, ht⟩ := numF_0 e
    have eo := show grpO T p k d = _ from if_neg (fun z => z e)
    rw [hR.2.2.2.2.2.1, getb _ _ (by omega), nI_bit (by omega)]
    refine ⟨fun q => ?_, fun q => ?_⟩
    · have q1 := b2y q
      rw [if_pos q1] at eo
      have flt4 : ∀ M1, FM M1 4 (tS T (tE T p)) → FrQ M M1 → w_X10_readGroup_J24 post (nI k) (nI (tV T (tE T p))) 0 M1 := fun M1 hF hQ => flt _ 4 _ 0 M1 (by omega) (by omega) (by omega) hF (fun M' d1 d2 => h M' (EndB.f eo (by omega) (by omega) d1 (hQ.trans d2)))
      -- the fault is noted first
      unfold w_X10_readGroup_J24
      refine m_needsF rfl h0 (fun M' c1 c2 c3 => ?_)
      have hF : FM M' 4 (tS T (tE T p)) := ⟨c1, by rw [c2]; exact hK.2.1⟩
      have := flt4 M' hF (FrT.q c3)
      unfold w_X10_readGroup_J24 w_X10_needs at this
      exact (this.2 rfl).1 (hF.ne (by omega) (by omega))
    · have q0 := b2n q
      rw [if_neg (by rw [q0]; decide)] at eo
      unfold w_X10_readGroup_J24
      refine m_needsT (by decide) ?_
      rw [hR.2.2.2.2.2.1, or256 _ (by omega) _ (by omega)]
      rintro M2 hM2
      have r2 : ∀ i k, ¬ (i = 128 ∧ k = 6) → rd M2 i k = rd M i k := fun i k z => by rw [hM2]; exact rd_ne (by omega)
      have e2 : rd M2 128 6 = nI (dG d ||| 2 ^ tV T (tE T p)) := by rw [hM2]; exact rd_eq ⟨rfl, rfl⟩
      clear hM2
      have f2 : FrQ M M2 := fun i q z => r2 _ _ (by omega)
      refine m_takesA (p := tE T (tE T p)) (hT.q f2) hO b3 (by rw [r2 _ _ (by omega)]; exact hK.2.2.1) (by rw [r2 _ _ (by omega)]; exact h0) (fun M3 a1 a2 => ?_)
      rw [i26, i27, tnI (by omega), tnI (by omega)]
      refine ⟨vp_in_nI (by omega) (by omega), ?_⟩
      rintro M4 hM4
      have r4 : ∀ i q, ¬ (i = 132 ∧ q = 26 + 4 * tV T (tE T p)) → rd M4 i q = rd M3 i q := fun i q z => by rw [hM4]; exact rd_ne (by omega)
      have e4 : rd M4 132 (26 + 4 * tV T (tE T p)) = nI k := by rw [hM4]; exact rd_eq ⟨rfl, rfl⟩
      clear hM4
      have f4 : FrQ M M4 := (f2.trans a2.q).trans (fun i q z => r4 _ _ (by omega))
      unfold w_X10_readWorth
      refine m_looked (lo := 0) (hi := 4) (a1.at (fun q _ _ => r4 _ _ (by omega))) b3 (by omega) (by omega) (fun e5 hK5 h05 => ?_) (fun e5 M' g1 g2 => m_takesF g1 e5 (by omega) ⟨vp_in_nI (by omega) (by omega), ?_⟩)
      · rw [if_neg (fun z => z e5)] at eo
        obtain ⟨w1, -, hn⟩ := numF_0 e5
        refine m_takesA (p := tE T (tE T (tE T p))) (hT.q f4) hO b5 hK5.2.2.1 h05 (fun M5 d1 d2 => ⟨vp_in_nI (by omega) (by omega), ?_⟩)
        rintro M7 hM7
        have r7 : ∀ i q, ¬ (i = 132 ∧ q = 27 + 4 * tV T (tE T p)) → rd M7 i q = rd M5 i q := fun i q z => by rw [hM7]; exact rd_ne (by omega)
        have e7 : rd M7 132 (27 + 4 * tV T (tE T p)) = nI (tV T (tE T (tE T p))) := by rw [hM7]; exact rd_eq ⟨rfl, rfl⟩
        clear hM7
        have f7 : FrQ M M7 := (f4.trans d2.q).trans (fun i q z => r7 _ _ (by omega))
        have o7 : ∀ q, q ≠ 26 + 4 * tV T (tE T p) → q ≠ 27 + 4 * tV T (tE T p) → rd M7 132 q = rd M 132 q := fun q z1 z2 => by rw [r7 _ _ (by omega), d2 _ _ (by omega), r4 _ _ (by omega), a2 _ _ (by omega), r2 _ _ (by omega)]
        have o8 : ∀ q, q < 10 → q ≠ 6 → rd M7 128 q = rd M 128 q := fun q z1 z2 => by rw [r7 _ _ (by omega), d2 _ _ (by omega), r4 _ _ (by omega), a2 _ _ (by omega), r2 _ _ (by omega)]
        have k26 : rd M7 132 (26 + 4 * tV T (tE T p)) = nI k := by rw [r7 _ _ (by omega), d2 _ _ (by omega)]; exact e4
        have hF' : FRs (sizeE (kindE (dE d) (tV T (tE T p)) k) (tV T (tE T p)) (tV T (tE T (tE T p)))) := FR_sizeE hD.2.1
        have hV' : VE (sizeE (kindE (dE d) (tV T (tE T p)) k) (tV T (tE T p)) (tV T (tE T (tE T p)))) := VE_sizeE (VE_kindE hD.1 (by omega)) (by omega) hn (by rw [heldE_kindE, heldE_fr hD.2.1]; exact Nat.two_pow_pos _)
        have hD' : DOK (sizeE (kindE (dE d) (tV T (tE T p)) k) (tV T (tE T p)) (tV T (tE T (tE T p))), dC d, dF d, dP d, dG d ||| 2 ^ tV T (tE T p)) := ⟨hV', hF', hD.2.2.1, Nat.or_lt_two_pow (n := 5) hg (Nat.pow_lt_pow_right (by omega) (by omega)), hD.2.2.2.2⟩
        obtain ⟨y1, y2, y3, y4, y5, y6, y7⟩ := hR
        have hm6 := hD.1.m
        have rows : ∀ a, a < 6 → rd M7 132 (4 * a + 1) = -4 ∧ rd M7 132 (4 * a + 2) = 0 ∧ rd M7 132 (4 * a + 3) = -4 := fun a ha => by
          rw [o7 _ (by omega) (by omega), o7 _ (by omega) (by omega), o7 _ (by omega) (by omega)]; exact y3 a ha
        refine h M7 ⟨f7, Or.inl ⟨_, _, eo, b5, hD', ⟨ExM.fresh hF' hV'.m ?_ ?_ (fun a ha => ?_) rows (fun t ht' => ?_), y2.congr ⟨hD.2.2.1.1, by have := hD.2.2.1.2.1; omega⟩ (fun q z1 _ => o7 _ (by omega) (by omega)), rows, ?_, ?_, ?_, ?_⟩, d1.at (fun q _ _ => r7 _ _ (by omega))⟩⟩
        · show rd M7 132 24 = _
          rw [o7 _ (by omega) (by omega)]; exact y1.1
        · show rd M7 132 25 = _
          rw [o7 _ (by omega) (by omega)]; exact y1.2.1
        · have ha : a < eM (dE d) := ha
          show rd M7 132 (4 * a) = _
          rw [o7 _ (by omega) (by omega)]; exact (y1.2.2.1 a ha).1
        · obtain ⟨x1, x2, x3, x4, x5⟩ := y1.grp0 hD.2.1 t ht'
          show rd M7 132 (26 + 4 * t) = nI (up (eK (dE d)) (tV T (tE T p)) k t) ∧ rd M7 132 (27 + 4 * t) = nI (up (eZ (dE d)) (tV T (tE T p)) (tV T (tE T (tE T p))) t) ∧ rd M7 132 (28 + 4 * t) = _ ∧ rd M7 132 (29 + 4 * t) = _ ∧ ∀ w, w < 4 → rd M7 132 (46 + 4 * t + w) = 0
          rw [o7 (28 + 4 * t) (by omega) (by omega), o7 (29 + 4 * t) (by omega) (by omega)]
          refine ⟨?_, ?_, x3, x4, fun w hw => by rw [o7 _ (by omega) (by omega)]; exact x5 w hw⟩
          · by_cases z : t = tV T (tE T p)
            · rw [up_eq z, z]; exact k26
            · rw [up_ne z, o7 _ (by omega) (by omega)]; exact x1
          · by_cases z : t = tV T (tE T p)
            · rw [up_eq z, z]; exact e7
            · rw [up_ne z, o7 _ (by omega) (by omega)]; exact x2
        · rw [o8 _ (by omega) (by omega)]; exact y4
        · rw [o8 _ (by omega) (by omega)]; exact y5
        · rw [r7 _ _ (by omega), d2 _ _ (by omega), r4 _ _ (by omega), a2 _ _ (by omega)]; exact e2
        · rw [o8 _ (by omega) (by omega)]; exact y7
      · rw [if_pos e5] at eo
        rintro M7 rfl
        exact h _ (EndB.f eo e5 (by omega) g1.w132 ((f4.trans g2.q).trans FrQ.w132))
  · have eo := show grpO T p k d = _ from if_pos e
    have fin : ∀ s1, w_X10_readGroup_J24 post (nI k) 0 s1 M' := fun s1 => flt 0 _ _ s1 M' (by omega) e (by omega) g1 (fun M2 d1 d2 => h M2 (EndB.f eo e (by omega) d1 (g2.q.trans d2)))
    exact ⟨fun _ => fin 0, fun _ => fin 1⟩
