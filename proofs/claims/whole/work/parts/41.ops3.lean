/-! few, grade, leave, more, swap, hunts, deads -/
theorem b2n {b : Bool} (h : (if b = true then (1 : Int32) else 0) = 0) : b = false := by
  cases b with
  | false => rfl
  | true => exact absurd h (by decide)
theorem b2y {b : Bool} (h : ¬ (if b = true then (1 : Int32) else 0) = 0) : b = true := by
  cases b with
  | true => rfl
  | false => exact absurd rfl h
/-- changes at hand -/
theorem c_setFin {M : Mem} {x n : Nat} {e : EX} (hM : ExC M x e) : ExC (wr M x 1 (nI n)) x (finE e n) := by
  obtain ⟨h1, h2, h3, h4, h5⟩ := hM
  refine ⟨by rw [rd_ne (by omega)]; exact h1, by rw [rd_eq ⟨rfl, rfl⟩]; rfl, by rw [rd_ne (by omega)]; exact h3, fun a ha => ?_, fun t ht => ?_⟩
  · rw [rd_ne (by omega), rd_ne (by omega), rd_ne (by omega), rd_ne (by omega)]; exact h4 a ha
  · obtain ⟨g1, g2, g3, g4, g5, g6⟩ := h5 t ht
    refine ⟨?_, ?_, ?_, ?_, ?_, fun w hw => ?_⟩ <;> rw [rd_ne (by omega)]
    · exact g1
    · exact g2
    · exact g3
    · rw [heldE_finE]; exact g4
    · exact g5
    · exact g6 w hw
theorem c_setKind {M : Mem} {x t k : Nat} {e : EX} (hM : ExC M x e) (ht : t < 5) : ExC (wr M (x + 6 + 2 * t) 0 (nI k)) x (kindE e t k) := by
  obtain ⟨g1, g2, g3, g4, g5, g6⟩ := hM.2.2.2.2 t ht
  refine hM.grp (e' := kindE e t k) ⟨?_, ?_, ?_, ?_, ?_, fun w hw => ?_⟩ ht (Fr.wr (by omega)) rfl rfl ⟨rfl, rfl, rfl, rfl⟩ (fun t' q => ⟨up_ne q, rfl, rfl, rfl, fun _ => rfl⟩)
  · rw [rd_eq ⟨rfl, rfl⟩]; show _ = nI (up (eK e) t k t); rw [up_eq rfl]
  · rw [rd_ne (by omega)]; exact g2
  · rw [rd_ne (by omega)]; exact g3
  · rw [rd_ne (by omega), heldE_kindE]; exact g4
  · rw [rd_ne (by omega)]; exact g5
  · rw [rd_ne (by omega)]; exact g6 w hw
theorem c_setDead {M : Mem} {x t d : Nat} {e : EX} (hM : ExC M x e) (ht : t < 5) : ExC (wr M (x + 6 + 2 * t) 2 (nI d)) x (deadE e t d) := by
  obtain ⟨g1, g2, g3, g4, g5, g6⟩ := hM.2.2.2.2 t ht
  refine hM.grp (e' := deadE e t d) ⟨?_, ?_, ?_, ?_, ?_, fun w hw => ?_⟩ ht (Fr.wr (by omega)) rfl rfl ⟨rfl, rfl, rfl, rfl⟩ (fun t' q => ⟨rfl, rfl, up_ne q, rfl, fun _ => rfl⟩)
  · rw [rd_ne (by omega)]; exact g1
  · rw [rd_ne (by omega)]; exact g2
  · rw [rd_eq ⟨rfl, rfl⟩]; show _ = nI (up (eD e) t d t); rw [up_eq rfl]
  · rw [rd_ne (by omega), heldE_deadE]; exact g4
  · rw [rd_ne (by omega)]; exact g5
  · rw [rd_ne (by omega)]; exact g6 w hw
theorem c_setNum {M : Mem} {x a n : Nat} {e : EX} (hM : ExC M x e) : ExC (wr M (x + 1) a (nI n)) x (numE e a n) := by
  obtain ⟨h1, h2, h3, h4, h5⟩ := hM
  refine ⟨by rw [rd_ne (by omega)]; exact h1, by rw [rd_ne (by omega)]; exact h2, by rw [rd_ne (by omega)]; exact h3, fun b hb => ?_, fun t ht => ?_⟩
  · obtain ⟨k1, k2, k3, k4⟩ := h4 b hb
    refine ⟨?_, by rw [rd_ne (by omega)]; exact k2, by rw [rd_ne (by omega)]; exact k3, by rw [rd_ne (by omega)]; exact k4⟩
    show _ = nI (up (eN e) a n b)
    by_cases q : b = a
    · rw [rd_eq ⟨rfl, q⟩, up_eq q]
    · rw [rd_ne (by omega), up_ne q]; exact k1
  · obtain ⟨g1, g2, g3, g4, g5, g6⟩ := h5 t ht
    refine ⟨?_, ?_, ?_, ?_, ?_, fun w hw => ?_⟩ <;> rw [rd_ne (by omega)]
    · exact g1
    · exact g2
    · exact g3
    · rw [heldE_numE]; exact g4
    · exact g5
    · exact g6 w hw
/-- the row of the reference -/
theorem ExM.fin {f g : Nat → Int32} {n : Nat} {e : EX} (h : ExM f e) (hm : eM e ≤ 6) (h1 : g 25 = nI n) (h2 : ∀ k, k < 66 → k ≠ 25 → g k = f k) : ExM g (finE e n) := by
  obtain ⟨k1, k2, k3, k4⟩ := h
  refine ⟨by rw [h2 _ (by omega) (by omega)]; exact k1, h1, fun a ha => ?_, fun t ht => ?_⟩
  · have ha : a < eM e := ha
    rw [h2 _ (by omega) (by omega), h2 _ (by omega) (by omega), h2 _ (by omega) (by omega), h2 _ (by omega) (by omega)]; exact k3 a ha
  · obtain ⟨g1, g2, g3, g4, g5⟩ := k4 t ht
    rw [h2 _ (by omega) (by omega), h2 _ (by omega) (by omega), h2 _ (by omega) (by omega), h2 _ (by omega) (by omega)]
    exact ⟨g1, g2, g3, g4, fun w hw => by rw [h2 _ (by omega) (by omega)]; exact g5 w hw⟩
theorem ExM.kind {f g : Nat → Int32} {t n : Nat} {e : EX} (h : ExM f e) (hm : eM e ≤ 6) (ht : t < 5) (h1 : g (26 + 4 * t) = nI n) (h2 : ∀ k, k < 66 → k ≠ 26 + 4 * t → g k = f k) : ExM g (kindE e t n) := by
  obtain ⟨k1, k2, k3, k4⟩ := h
  refine ⟨by rw [h2 _ (by omega) (by omega)]; exact k1, by rw [h2 _ (by omega) (by omega)]; exact k2, fun a ha => ?_, fun t' ht' => ?_⟩
  · have ha : a < eM e := ha
    rw [h2 _ (by omega) (by omega), h2 _ (by omega) (by omega), h2 _ (by omega) (by omega), h2 _ (by omega) (by omega)]; exact k3 a ha
  · obtain ⟨g1, g2, g3, g4, g5⟩ := k4 t' ht'
    rw [h2 (27 + 4 * t') (by omega) (by omega), h2 (28 + 4 * t') (by omega) (by omega), h2 (29 + 4 * t') (by omega) (by omega)]
    refine ⟨?_, g2, g3, g4, fun w hw => by rw [h2 _ (by omega) (by omega)]; exact g5 w hw⟩
    show _ = nI (up (eK e) t n t')
    by_cases q : t' = t
    · rw [up_eq q, q]; exact h1
    · rw [up_ne q, h2 _ (by omega) (by omega)]; exact g1
theorem ExM.dead {f g : Nat → Int32} {t n : Nat} {e : EX} (h : ExM f e) (hm : eM e ≤ 6) (ht : t < 5) (h1 : g (28 + 4 * t) = nI n) (h2 : ∀ k, k < 66 → k ≠ 28 + 4 * t → g k = f k) : ExM g (deadE e t n) := by
  obtain ⟨k1, k2, k3, k4⟩ := h
  refine ⟨by rw [h2 _ (by omega) (by omega)]; exact k1, by rw [h2 _ (by omega) (by omega)]; exact k2, fun a ha => ?_, fun t' ht' => ?_⟩
  · have ha : a < eM e := ha
    rw [h2 _ (by omega) (by omega), h2 _ (by omega) (by omega), h2 _ (by omega) (by omega), h2 _ (by omega) (by omega)]; exact k3 a ha
  · obtain ⟨g1, g2, g3, g4, g5⟩ := k4 t' ht'
    rw [h2 (26 + 4 * t') (by omega) (by omega), h2 (27 + 4 * t') (by omega) (by omega), h2 (29 + 4 * t') (by omega) (by omega)]
    refine ⟨g1, g2, ?_, g4, fun w hw => by rw [h2 _ (by omega) (by omega)]; exact g5 w hw⟩
    show _ = nI (up (eD e) t n t')
    by_cases q : t' = t
    · rw [up_eq q, q]; exact h1
    · rw [up_ne q, h2 _ (by omega) (by omega)]; exact g3
theorem ExM.num {f g : Nat → Int32} {a n : Nat} {e : EX} (h : ExM f e) (hm : eM e ≤ 6) (ha : a < eM e) (h1 : g (4 * a) = nI n) (h2 : ∀ k, k < 66 → k ≠ 4 * a → g k = f k) : ExM g (numE e a n) := by
  obtain ⟨k1, k2, k3, k4⟩ := h
  refine ⟨by rw [h2 _ (by omega) (by omega)]; exact k1, by rw [h2 _ (by omega) (by omega)]; exact k2, fun b hb => ?_, fun t' ht' => ?_⟩
  · have hb : b < eM e := hb
    obtain ⟨g1, g2, g3, g4⟩ := k3 b hb
    rw [h2 (4 * b + 1) (by omega) (by omega), h2 (4 * b + 2) (by omega) (by omega), h2 (4 * b + 3) (by omega) (by omega)]
    refine ⟨?_, g2, g3, g4⟩
    show _ = nI (up (eN e) a n b)
    by_cases q : b = a
    · rw [up_eq q, q]; exact h1
    · rw [up_ne q, h2 _ (by omega) (by omega)]; exact g1
  · obtain ⟨g1, g2, g3, g4, g5⟩ := k4 t' ht'
    rw [h2 _ (by omega) (by omega), h2 _ (by omega) (by omega), h2 _ (by omega) (by omega), h2 _ (by omega) (by omega)]
    exact ⟨g1, g2, g3, g4, fun w hw => by rw [h2 _ (by omega) (by omega)]; exact g5 w hw⟩
/-- few -/
def fewB (e : EX) (c : SC) (n : Nat) : Bool := decide (1 ≤ n ∧ callsE e ≤ n) && !anyB (fun i => decide (fateE c kT (finE e n) i = 1)) (sA c)
theorem c_few {M : Mem} {e : EX} {c : SC} {post : Int32 → Mem → Prop} (hC : CoreP M e c) (h : ∀ M1, Fr 22 50 M M1 → post (oI (firstN (fewB e c) 7)) M1) : w_X9_few M post := by
  have hV := hC.2.2.2.2.1
  have hc6 := calls_le hV
  unfold w_X9_few
  rintro v hv
  rw [show rd M 1 2 = _ from hC.1.2.2.1] at hv
  obtain ⟨i0, hi0, hv0, hi6⟩ : ∃ i0, (1 ≤ i0 ∧ callsE e ≤ i0 ∧ ∀ j, j < i0 → j < 1 ∨ j < callsE e) ∧ v = nI i0 ∧ i0 ≤ 6 := by
    by_cases q : 1 < callsE e
    · refine ⟨callsE e, ⟨by omega, by omega, fun j hj => Or.inr hj⟩, ?_, hc6⟩
      rw [hv]; exact if_pos (nI_lt (a := 1) q (by omega))
    · refine ⟨1, ⟨by omega, by omega, fun j hj => Or.inl hj⟩, ?_, by omega⟩
      rw [hv]; exact if_neg (nI_nlt (a := 1) (b := callsE e) (by omega) (by decide))
  subst hv0
  refine pk_loop (fun n i (s : Mem) => w_X9_few_L12 post n (nI i) s) (fun i s => (i0 ≤ i) ∧ Fr 22 50 M s ∧ firstN (fewB e c) i = 0) 7 i0 M (by omega) ⟨Nat.le_refl _, Fr.refl, firstN_0 (fun j hj => ?_)⟩ ?_ ?_
  · unfold fewB
    rw [decide_eq_false (fun z => by have := hi0.2.2 j hj; omega)]; rfl
  · rintro n s ⟨-, k1, k2⟩
    show w_X9_few_L12 post (n + 1) _ s
    unfold w_X9_few_L12
    refine ⟨fun _ => ?_, fun q => absurd (nI_lt (a := 6) (b := 7) (by omega) (by decide)) q⟩
    have := h s k1
    rw [k2] at this
    exact this
  · rintro n i s hi ⟨k0, k1, k2⟩ kk
    show w_X9_few_L12 post (n + 1) _ s
    unfold w_X9_few_L12
    have hCs := hC.frC k1
    obtain ⟨hX, -, hSc, -, -, hS⟩ := id hCs
    have go : ∀ s', Fr 22 50 M s' → fewB e c i = false → ∀ v6 : Int32, v6 = nI i + 1 → w_X9_few_L12 post n v6 s' := fun s' j1 j2 => by
      rintro v rfl
      rw [nI_1]
      exact kk s' ⟨by omega, j1, firstN_no k2 j2⟩
    refine ⟨fun q => absurd q (nI_nlt (a := 6) (b := i) (by omega) (by decide)), fun _ => ?_⟩
    refine c1_copyFrom hX hV (by omega) (fun M1 j1 j2 => ?_)
    rintro M2 hM2
    have j3 : ExC M2 23 (finE e i) := by rw [hM2]; exact c_setFin j1
    have f2 : Fr 22 50 s M2 := (j2.sub (by omega)).trans (by rw [hM2]; exact Fr.wr (by omega))
    refine c_goes j3 (hSc.fr f2 (by omega)) (VE_finE hV (f := i) (by omega)) hS (fun M3 l1 l2 l3 l4 => ?_)
    have f3 := k1.trans (f2.trans (l4.sub (by omega)))
    refine c_wantedFinder (f := fateE c kT (finE e i)) ((hC.frC f3).2.2.1) hS l2 ⟨fun q => ?_, fun q => ?_⟩
    · refine go M3 f3 ?_
      unfold fewB; rw [b2y q]; simp
    · have h9 := h M3 f3
      rw [firstN_at k2 (by unfold fewB; rw [b2n q, decide_eq_true ⟨by omega, by omega⟩]; rfl) hi] at h9
      exact h9
theorem m_few {M : Mem} {e : EX} {c : SC} {post : Int32 → Mem → Prop} (hC : CoreP M e c) (h : ∀ M1, FrM M M1 → post (oI (firstN (fewB e c) 7)) M1) : w_X10_few M post := by
  have hV := hC.2.2.2.2.1
  have hS := hC.2.2.2.2.2
  have hc6 := calls_le hV
  have hm := hV.m
  unfold w_X10_few
  refine pk_loop (fun n i (s : Mem) => w_X10_few_L2 post n (nI i) s) (fun i s => 1 ≤ i ∧ FrM M s ∧ firstN (fewB e c) i = 0) 7 1 M (by omega) ⟨Nat.le_refl _, FrM.refl, rfl⟩ ?_ ?_
  · rintro n s ⟨-, k1, k2⟩
    show w_X10_few_L2 post (n + 1) _ s
    unfold w_X10_few_L2
    refine ⟨fun _ => ?_, fun q => absurd (nI_lt (a := 6) (b := 7) (by omega) (by decide)) q⟩
    have := h s k1
    rw [k2] at this
    exact this
  · rintro n i s hi ⟨k0, k1, k2⟩ kk
    show w_X10_few_L2 post (n + 1) _ s
    unfold w_X10_few_L2
    have hCs := hC.frM k1
    have go : ∀ s', FrM M s' → fewB e c i = false → w_X10_few_J45 post (w_X10_few_L2 post n) (nI i) s' := fun s' j1 j2 => by
      unfold w_X10_few_J45
      rintro v rfl
      rw [nI_1]
      exact kk s' ⟨by omega, j1, firstN_no k2 j2⟩
    refine ⟨fun q => absurd q (nI_nlt (a := 6) (b := i) (by omega) (by decide)), fun _ => m_starts (fun M1 j1 j2 => ?_)⟩
    obtain ⟨hE, hSc⟩ := hCs.st j1
    have f1 := k1.trans (FrM.of130 j2)
    refine m_callsNow hE hV ⟨fun q => ?_, fun q => ?_⟩
    · refine go M1 f1 ?_
      have := (nI_ltI (by omega) (by omega)).mp q
      unfold fewB
      rw [decide_eq_false (fun z => by omega)]; rfl
    · have hle : callsE e ≤ i := by
        rcases Nat.lt_or_ge i (callsE e) with z | z
        · exact absurd (nI_lt z (by omega)) q
        · exact z
      rintro M5 hM5
      have j3 : ExM (R130 M5) (finE e i) := hE.fin hm (by rw [hM5]; exact rd_eq ⟨rfl, rfl⟩) (fun k _ hk => by rw [hM5]; exact rd_ne (by omega))
      have j4 : FrN M1 M5 := by rw [hM5]; exact FrN.wr (by omega)
      refine m_goes j3 (hSc.frN ⟨hS.1, hS.2.1⟩ j4) (VE_finE hV (f := i) (by omega)) hS (fun M3 l1 l2 l3 l4 => ?_)
      have f3 := (f1.trans (FrM.of130 j4.1)).trans l4
      refine m_isLostBy (k := 1) (o := 0) (f := fateE c kT (finE e i)) l2 hS (by omega) rfl (by omega) l3 ?_
      have cg : anyB (fun j => decide (fateE c kT (finE e i) j = 1 ∧ (0 = 0 ∨ sD c j / 10 + 1 = 0))) (sA c) = anyB (fun j => decide (fateE c kT (finE e i) j = 1)) (sA c) := anyB_congr (fun j _ => by
        congr 1
        rw [eq_iff_iff]
        constructor
        · rintro ⟨z1, z2⟩; exact z1
        · rintro z1; exact ⟨z1, by omega⟩)
      rw [cg]
      refine ⟨fun q => ?_, fun q => ?_⟩
      · refine go M3 f3 ?_
        unfold fewB; rw [b2y q]; simp
      · have h9 := h M3 f3
        rw [firstN_at k2 (by unfold fewB; rw [b2n q, decide_eq_true ⟨by omega, by omega⟩]; rfl) hi] at h9
        exact h9
theorem op_few {M : Mem} (hI : INV M) : w_X9_few M (fun r M1 => w_X10_few M1 (fun r' M2 => r = r' ∧ INV M2)) := query (R := fun e c => oI (firstN (fewB e c) 7)) (wc := w_X9_few) (wm := w_X10_few) (fun _ _ _ _ hC h => c_few hC h) (fun _ _ _ _ hC h => m_few hC h) hI
/-! what is best -/
abbrev BS : Type := Nat × Nat
def offB (s : BS) (k f : Nat) : BS := if f < s.2 then (k + 1, f) else s
def tellB (s : BS) (w : Nat) : Int32 := if s.1 = 0 then -4 else if w = 0 then oI s.1 else nI s.2
def BOK (s : BS) : Prop := s.1 ≤ 100 ∧ s.2 ≤ 20
theorem BOK.off {s : BS} {k f : Nat} (h : BOK s) (hk : k < 100) : BOK (offB s k f) := by
  unfold offB
  split
  · exact ⟨by show k + 1 ≤ 100; omega, by show f ≤ 20; have := h.2; omega⟩
  · exact h
def BestC (M : Mem) (s : BS) : Prop := rd M 40 0 = oI s.1 ∧ rd M 40 1 = nI s.2 ∧ BOK s
def BestM (M : Mem) (s : BS) : Prop := rd M 128 17 = oI s.1 ∧ rd M 128 18 = nI s.2 ∧ BOK s
theorem c_begin {M : Mem} {b : Nat} {post : Mem → Prop} (hb : b ≤ 20) (h : ∀ M', BestC M' (0, b) → Fr 40 41 M M' → post M') : w_X0_begin (nI b) M post := by
  unfold w_X0_begin
  rintro M1 rfl M2 rfl
  refine h _ ⟨?_, ?_, ⟨Nat.zero_le _, hb⟩⟩ ((Fr.wr (by omega)).trans (Fr.wr (by omega)))
  · rw [rd_ne (by omega), rd_eq ⟨rfl, rfl⟩]; rfl
  · rw [rd_eq ⟨rfl, rfl⟩]
theorem c_offer {M : Mem} {s : BS} {k f : Nat} {post : Mem → Prop} (hs : BestC M s) (hk : k < 100) (hf : f < 2 ^ 31) (h : ∀ M', BestC M' (offB s k f) → Fr 40 41 M M' → post M') : w_X0_offer (nI k) (nI f) M post := by
  obtain ⟨h1, h2, h3⟩ := hs
  have hb := h3.2
  unfold w_X0_offer
  rw [h2]
  refine ⟨fun q => ?_, fun q => ?_⟩
  · have := (nI_leI (by omega) hf).mp q
    have e1 : offB s k f = s := if_neg (by omega)
    exact h M ⟨by rw [e1]; exact h1, by rw [e1]; exact h2, h3.off hk⟩ Fr.refl
  · have hlt : f < s.2 := by
      rcases Nat.lt_or_ge f s.2 with z | z
      · exact z
      · exact absurd (nI_le z hf) q
    have e1 : offB s k f = (k + 1, f) := if_pos hlt
    rintro M1 rfl M2 rfl
    refine h _ ⟨?_, ?_, h3.off hk⟩ ((Fr.wr (by omega)).trans (Fr.wr (by omega)))
    · rw [rd_ne (by omega), rd_eq ⟨rfl, rfl⟩, e1]; rfl
    · rw [rd_eq ⟨rfl, rfl⟩, e1]
theorem c_told {M : Mem} {s : BS} {w : Nat} {post : Int32 → Mem → Prop} (hs : BestC M s) (hw : w < 2) (h : post (tellB s w) M) : w_X0_told (nI w) M post := by
  obtain ⟨h1, h2, h3⟩ := hs
  have hb := h3.1
  unfold w_X0_told
  rw [h1, h2]
  unfold tellB at h
  refine ⟨fun q => ⟨fun q2 => ?_, fun q2 => ?_⟩, fun q => ?_⟩
  · rw [if_neg (fun z => q (by rw [z]; rfl)), if_neg (fun z => q2 (by rw [z]; rfl))] at h; exact h
  · rw [if_neg (fun z => q (by rw [z]; rfl)), if_pos (nI_inj (by omega) (by decide) q2)] at h; exact h
  · rw [if_pos ((oI_4 (by omega)).mp q)] at h; exact h
theorem m_judged {M : Mem} {s : BS} {w : Nat} {post : Int32 → Mem → Prop} (hs : BestM M s) (hw : w < 2) (h : post (tellB s w) M) : w_X10_judged (nI w) M post := by
  obtain ⟨h1, h2, h3⟩ := hs
  have hb := h3.1
  unfold w_X10_judged
  rw [h1, h2]
  unfold tellB at h
  refine ⟨fun q => ⟨fun q2 => ?_, fun q2 => ?_⟩, fun q => ?_⟩
  · rw [if_neg (fun z => q (by rw [z]; rfl)), if_neg (fun z => q2 (by rw [z]; rfl))] at h; exact h
  · rw [if_neg (fun z => q (by rw [z]; rfl)), if_pos (nI_inj (by omega) (by decide) q2)] at h; exact h
  · rw [if_pos ((oI_4 (by omega)).mp q)] at h; exact h
theorem lostN_8 {c : SC} {kp : Nat → Bool} {e : EX} {m : Nat} (h : VS m c) : lostN c kp e ≤ 8 := Nat.le_trans (cnt_le _ _) h.1
theorem m_startsJudging {M : Mem} {e : EX} {c : SC} {post : Mem → Prop} (hC : CoreP M e c) (h : ∀ M', BestM M' (0, lostN c kT e) → FrM M M' → post M') : w_X10_startsJudging M post := by
  have hS := hC.2.2.2.2.2
  have hl := lostN_8 (kp := kT) (e := e) hS
  unfold w_X10_startsJudging
  refine m_asIs hC (fun M1 k1 k2 k3 k4 => ?_)
  rintro M3 rfl
  refine m_lostMany (f := fateE c kT e) (n := sA c) hS.1 (by rw [rd_ne (by omega)]; exact k2.1) (fun i hi => by rw [rd_ne (by omega)]; exact k3 i hi) ?_
  rintro M6 rfl
  refine h _ ⟨?_, rd_eq ⟨rfl, rfl⟩, ⟨Nat.zero_le _, by show lostN c kT e ≤ 20; omega⟩⟩ ((k4.trans (FrM.wr (by unfold PM; omega))).trans (FrM.wr (by unfold PM; omega)))
  rw [rd_ne (by omega), rd_eq ⟨rfl, rfl⟩]; rfl
theorem m_judges {M : Mem} {e : EX} {c : SC} {kp : Nat → Bool} {out : Int32} {k : Nat} {s : BS} {post : Mem → Prop} (hM : ExM (R130 M) e) (hSc : ScM (R130 M) c) (hV : VE e) (hS : VS (eM e) c) (hk : ∀ i, i < 8 → (((ishr out (nI i)) &&& 1) = 1 ↔ kp i = false)) (hs : BestM M s) (hk1 : k < 100) (h : ∀ M', BestM M' (offB s k (lostN c kp e)) → FrM M M' → post M') : w_X10_judges (nI k) out M post := by
  have hl := lostN_8 (kp := kp) (e := e) hS
  obtain ⟨h1, h2, h3⟩ := hs
  have hb := h3.2
  unfold w_X10_judges
  refine m_planGoes hM hSc hV hS hk (fun M1 k1 k2 k3 k4 k5 k6 => ?_)
  have fr : FrM M M1 := fun i k p => by
    by_cases q : i < 130 ∨ 135 ≤ i
    · exact k4.row q k
    · unfold PM at p; exact k5 i k (by omega) (by omega)
  have e17 : rd M1 128 17 = oI s.1 := by rw [k5 _ _ (by omega) (by omega)]; exact h1
  have e18 : rd M1 128 18 = nI s.2 := by rw [k5 _ _ (by omega) (by omega)]; exact h2
  refine m_lostMany (f := fateE c kp e) (n := sA c) hS.1 k2.1 (fun i hi => ⟨k3 i hi, fate_6⟩) ?_
  rw [e17, e18]
  have hl' : cnt (fun i => decide (1 ≤ fateE c kp e i ∧ fateE c kp e i ≤ 5)) (sA c) = lostN c kp e := rfl
  rw [hl']
  unfold w_X10_judges_J27
  refine ⟨fun q => ?_, fun q => ?_⟩
  · have hq := (nI_leI (by omega) (by omega)).mp q
    have e1 : offB s k (lostN c kp e) = s := if_neg (by omega)
    rintro M2 rfl
    rw [rd_ne (by omega), e18]
    refine ⟨fun _ => ?_, fun q2 => absurd q q2⟩
    rintro M3 rfl
    refine h _ ⟨?_, ?_, h3.off hk1⟩ ((fr.trans (FrM.wr (by unfold PM; omega))).trans (FrM.wr (by unfold PM; omega)))
    · rw [rd_ne (by omega), rd_eq ⟨rfl, rfl⟩, e1]
    · rw [rd_eq ⟨rfl, rfl⟩, e1]
  · have hlt : lostN c kp e < s.2 := by
      rcases Nat.lt_or_ge (lostN c kp e) s.2 with z | z
      · exact z
      · exact absurd (nI_le z (by omega)) q
    have e1 : offB s k (lostN c kp e) = (k + 1, lostN c kp e) := if_pos hlt
    rintro M2 rfl
    rw [rd_ne (by omega), e18]
    refine ⟨fun q2 => absurd q2 q, fun _ => ?_⟩
    rintro M3 rfl
    refine h _ ⟨?_, ?_, h3.off hk1⟩ ((fr.trans (FrM.wr (by unfold PM; omega))).trans (FrM.wr (by unfold PM; omega)))
    · rw [rd_ne (by omega), rd_eq ⟨rfl, rfl⟩, e1]; rfl
    · rw [rd_eq ⟨rfl, rfl⟩, e1]
/-- the class's trial of a changed exchange -/
theorem c_tries {M : Mem} {e : EX} {c : SC} {s : BS} {k : Nat} {kp : Nat → Bool} {kept : Int32} {post : Mem → Prop} (hM : ExC M 23 e) (hSc : ScC M 17 c) (hV : VE e) (hS : VS (eM e) c) (hk : ∀ i, i < 8 → (((ishr kept (nI i)) &&& 1) = 0 ↔ kp i = false)) (hs : BestC M s) (hk1 : k < 100) (h : ∀ M', BestC M' (offB s k (lostN c kp e)) → Fr 22 41 M M' → post M') : w_X8_follow kept M (fun M1 => w_X0_offer (nI k) (rd M1 22 3) M1 post) := by
  refine c_follow hM hSc hV hS hk (fun M1 k1 k2 k3 k4 => ?_)
  rw [k3.2.1]
  refine c_offer (s := s) (f := lostN c kp e) ⟨?_, ?_, hs.2.2⟩ hk1 (by have := lostN_8 (kp := kp) (e := e) hS; omega) (fun M2 j1 j2 => h M2 j1 ((k4.sub (by omega)).trans (j2.sub (by omega))))
  · rw [k4.row (by omega)]; exact hs.1
  · rw [k4.row (by omega)]; exact hs.2.1
theorem c_hunted {M : Mem} {e : EX} {c : SC} {t k : Nat} {post : Mem → Prop} (hC : CoreP M e c) (ht : t < 5) (h : ∀ M1, ExC M1 23 (kindE e t k) → Fr 22 39 M M1 → w_X8_follow 255 M1 post) : w_X9_followWithHunt (nI t) (nI k) M post := by
  unfold w_X9_followWithHunt
  refine c1_copyFrom hC.1 hC.2.2.2.2.1 (by omega) (fun M1 j1 j2 => ⟨vp_in_nI ht (by omega), ?_⟩)
  rw [tnI (by omega)]
  rintro g hg
  obtain rfl : g = 23 + 6 + 2 * t := by omega
  rintro M3 rfl
  exact h _ (c_setKind j1 ht) ((j2.sub (by omega)).trans (Fr.wr (by omega)))
theorem c_deadTried {M : Mem} {e : EX} {c : SC} {t k : Nat} {post : Mem → Prop} (hC : CoreP M e c) (ht : t < 5) (h : ∀ M1, ExC M1 23 (deadE e t k) → Fr 22 39 M M1 → w_X8_follow 255 M1 post) : w_X9_followWithDead (nI t) (nI k) M post := by
  unfold w_X9_followWithDead
  refine c1_copyFrom hC.1 hC.2.2.2.2.1 (by omega) (fun M1 j1 j2 => ⟨vp_in_nI ht (by omega), ?_⟩)
  rw [tnI (by omega)]
  rintro g hg
  obtain rfl : g = 23 + 6 + 2 * t := by omega
  rintro M3 rfl
  exact h _ (c_setDead j1 ht) ((j2.sub (by omega)).trans (Fr.wr (by omega)))
theorem w_follow_mono {kept : Int32} {M : Mem} {p q : Mem → Prop} (h : w_X8_follow kept M p) (hpq : ∀ M', p M' → q M') : w_X8_follow kept M (fun M' => p M') := h
/-- grade -/
def gradeB (e : EX) (c : SC) (t : Nat) : Nat → BS
  | 0 => (0, 9)
  | k + 1 => offB (gradeB e c t k) k (lostN c kT (kindE e t k))
theorem BestC.fr {M M' : Mem} {s : BS} {lo hi : Nat} (h : BestC M s) (f : Fr lo hi M M') (hd : 41 ≤ lo ∨ hi ≤ 40) : BestC M' s := ⟨by rw [f.row (by omega)]; exact h.1, by rw [f.row (by omega)]; exact h.2.1, h.2.2⟩
theorem BestM.fr {M M' : Mem} {s : BS} {lo hi : Nat} (h : BestM M s) (f : Fr lo hi M M') (hd : 129 ≤ lo ∨ hi ≤ 128) : BestM M' s := ⟨by rw [f.row (by omega)]; exact h.1, by rw [f.row (by omega)]; exact h.2.1, h.2.2⟩
theorem op_grade {M : Mem} {v w : Int32} (hI : INV M) : w_X9_grade v w M (fun r M1 => w_X10_grade v w M1 (fun r' M2 => r = r' ∧ INV M2)) := by
  obtain ⟨e, c, hC, hR⟩ := id hI
  have hV := hC.2.2.2.2.1
  have hS := hC.2.2.2.2.2
  have hm := hV.m
  unfold w_X9_grade
  refine c_isGroup (fun t ht hv => ?_) (fun no => ?_)
  · subst hv
    refine ⟨fun q => absurd q (by decide), fun _ => c_isBit (fun k hk hw => ?_) (fun no => ?_)⟩
    · subst hw
      refine ⟨fun _ => ?_, fun q => absurd q (by decide)⟩
      refine c_begin (b := 9) (by omega) (fun M1 k1 k2 => ?_)
      refine loop_0 (fun n i (s : Mem) => w_X9_grade_L27 _ (nI t) (nI k) n (nI i) s) (fun i s => Fr 22 50 M s ∧ BestC s (gradeB e c t i)) 4 M1 ⟨k2.sub (by omega), k1⟩ ?_ ?_
      · rintro n s ⟨j1, j2⟩
        show w_X9_grade_L27 _ _ _ (n + 1) _ s
        unfold w_X9_grade_L27
        refine ⟨fun _ => c_told j2 hk ?_, fun q => absurd (nI_lt (a := 3) (b := 4) (by omega) (by decide)) q⟩
        have hCs := hC.frC j1
        unfold w_X10_grade
        refine m_isGroup (fun _ _ _ => ⟨fun q => absurd q (by decide), fun _ => ?_⟩) (fun no => absurd rfl (no t ht))
        refine m_isPart (fun _ _ _ => ⟨fun _ => ?_, fun q => absurd q (by decide)⟩) (fun no => absurd rfl (no k hk))
        refine m_startsJudging hCs (fun M2 l1 l2 => ?_)
        rintro M3 rfl
        refine loop_0 (fun n i (s : Mem) => w_X10_grade_L28 _ (nI t) (nI k) n (nI i) s) (fun i s' => FrM s s' ∧ BestM s' (gradeB e c t i)) 4 _ ⟨l2.trans (FrM.wr (by unfold PM; omega)), ⟨by rw [rd_ne (by omega)]; exact l1.1, rd_eq ⟨rfl, rfl⟩, ⟨Nat.zero_le _, Nat.le_of_ble_eq_true rfl⟩⟩⟩ ?_ ?_
        · rintro n s' ⟨i1, i2⟩
          show w_X10_grade_L28 _ _ _ (n + 1) _ s'
          unfold w_X10_grade_L28
          refine ⟨fun _ => m_judged i2 hk ⟨rfl, ?_⟩, fun q => absurd (nI_le (a := 4) (b := 4) (Nat.le_refl _) (by decide)) q⟩
          exact (hI.frC j1).frM i1
        · rintro n i s' hi ⟨i1, i2⟩ kk
          show w_X10_grade_L28 _ _ _ (n + 1) _ s'
          unfold w_X10_grade_L28
          refine ⟨fun q => absurd q (nI_ge (b := 4) hi (by decide)), fun _ => m_starts (fun M4 a1 a2 => ?_)⟩
          obtain ⟨hE, hSc⟩ := (hCs.frM i1).st a1
          refine m_becomesOfGroup (k := 0) rfl (by omega) ?_
          refine m_judges (e := kindE e t i) (kp := kT) (s := gradeB e c t i) (hE.kind hm ht (rd_eq ⟨rfl, rfl⟩) (fun k' _ hk' => rd_ne (by omega))) (hSc.frN ⟨hS.1, hS.2.1⟩ (FrN.wr (by omega))) (VE_kindE hV (by omega)) hS k0m ((i2.fr a2 (by omega)).fr (lo := 130) (hi := 131) (Fr.wr (by omega)) (by omega)) (by omega) (fun M5 b1 b2 => ?_)
          rintro v6 rfl
          rw [nI_1]
          exact kk _ ⟨((i1.trans (FrM.of130 a2)).trans (FrM.wr (by unfold PM; omega))).trans b2, b1⟩
      · rintro n i s hi ⟨j1, j2⟩ kk
        show w_X9_grade_L27 _ _ _ (n + 1) _ s
        unfold w_X9_grade_L27
        have hCs := hC.frC j1
        refine ⟨fun q => absurd q (nI_nlt (a := 3) (b := i) (by omega) (by decide)), fun _ => ?_⟩
        refine c_hunted hCs ht (fun M2 a1 a2 => ?_)
        refine c_tries (s := gradeB e c t i) a1 (hCs.2.2.1.fr a2 (by omega)) (VE_kindE hV (by omega)) hS k255 (j2.fr a2 (by omega)) (by omega) (fun M3 b1 b2 => ?_)
        rintro v5 rfl
        rw [nI_1]
        exact kk _ ⟨j1.trans ((a2.sub (by omega)).trans (b2.sub (by omega))), b1⟩
    · refine ⟨fun q => absurd rfl q, fun _ => ?_⟩
      unfold w_X10_grade
      refine m_isGroup (fun _ _ _ => ⟨fun q => absurd q (by decide), fun _ => ?_⟩) (fun no => absurd rfl (no t ht))
      exact m_isPart (fun k hk hw => absurd hw (no k hk)) (fun _ => ⟨fun q => absurd rfl q, fun _ => ⟨rfl, hI⟩⟩)
  · refine ⟨fun _ => ?_, fun q => absurd rfl q⟩
    unfold w_X10_grade
    exact m_isGroup (fun t ht hv => absurd hv (no t ht)) (fun _ => ⟨fun _ => ⟨rfl, hI⟩, fun q => absurd rfl q⟩)
