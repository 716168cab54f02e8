/-! the class reads a line -/
def FrO (M M' : Mem) : Prop := FrR M M' ∧ rd M' 50 3 = rd M 50 3 ∧ rd M' 50 4 = rd M 50 4
theorem FrO.trans {M M1 M2 : Mem} (h : FrO M M1) (h2 : FrO M1 M2) : FrO M M2 := ⟨h.1.trans h2.1, h2.2.1.trans h.2.1, h2.2.2.trans h.2.2⟩
theorem FrO.tok {M M' : Mem} {T : TP} (h1 : TapeC M T) (h2 : TapeC M' T) (f : Fr 51 52 M M') : FrO M M' := ⟨FrR.tok h1 h2 f, f.row (by omega) _, f.row (by omega) _⟩
theorem FrO.of {M M' : Mem} {lo hi : Nat} (f : Fr lo hi M M') (h : 53 ≤ lo ∧ hi ≤ 74) : FrO M M' := ⟨FrR.of f (by omega), f.row (by omega) _, f.row (by omega) _⟩
theorem FrO.wr {M : Mem} {k : Nat} {v : Int32} (h : 6 ≤ k) : FrO M (wr M 50 k v) := ⟨fun i q p => rd_ne (by omega), rd_ne (by omega), rd_ne (by omega)⟩
def OkC (T : TP) (M M' : Mem) (p : Nat) (d : DD) : Prop := RdC M' d ∧ rd M' 51 4 = nI p ∧ TapeC M' T ∧ FrO M M'
def BadC (M M' : Mem) (f p : Nat) : Prop := rd M' 50 4 = nI f ∧ rd M' 50 5 = nI p ∧ FrR M M'
def ResC (T : TP) (M : Mem) (o : OUT) (post : Int32 → Mem → Prop) : Prop := (o.1 = 0 → ∀ M', OkC T M M' o.2.1 o.2.2 → post 1 M') ∧ (o.1 ≠ 0 → ∀ M', BadC M M' o.1 o.2.1 → post 0 M')
theorem ResC.mono {T : TP} {M0 M : Mem} {o : OUT} {post : Int32 → Mem → Prop} (h : ResC T M0 o post) (f : FrO M0 M) : ResC T M o post := ⟨fun e M' g => h.1 e M' ⟨g.1, g.2.1, g.2.2.1, f.trans g.2.2.2⟩, fun e M' g => h.2 e M' ⟨g.1, g.2.1, f.1.trans g.2.2⟩⟩
theorem ResC.bad {T : TP} {M M' : Mem} {o : OUT} {f s : Nat} {d : DD} {post : Int32 → Mem → Prop} (h : ResC T M o post) (e : o = (f, s, d)) (hf : f ≠ 0) (b1 : rd M' 50 4 = nI f) (b2 : rd M' 50 5 = nI s) (b3 : FrR M M') : post 0 M' := by
  subst e
  exact h.2 hf M' ⟨b1, b2, b3⟩
theorem ResC.eq {T : TP} {M : Mem} {o o' : OUT} {post : Int32 → Mem → Prop} (h : ResC T M o post) (e : o = o') : ResC T M o' post := by
  subst e
  exact h
theorem tE_N {T : TP} {p : Nat} (hp : p ≤ T.1) : p ≤ tE T p ∧ tE T p ≤ T.1 := by
  have h1 := tS_le hp
  have h2 := tE_le hp
  omega
theorem tE_gt {T : TP} {p : Nat} (hp : p ≤ T.1) (h : tK T p ≠ 0) : p < tE T p := by
  have h1 := tS_le hp
  have h2 := (tE_le hp).2.2 (fun z => h (tK_0.mpr z))
  omega
theorem c_sign {M : Mem} {T : TP} {p : Nat} {d : DD} {post : Int32 → Mem → Prop} (hR : RdC M d) (hT : TapeC M T) (hO : OKT T) (hp : p ≤ T.1) (h4 : rd M 51 4 = nI p) (h : ResC T M (signO T p d) post) : w_X4_takes 3 M (fun (r9 : Int32) (M8 : Mem) => zb r9 ∧ (post r9 M8)) := by
  refine c_takes (k := 3) hT hO hp h4 (by omega) (fun e M' a1 a2 a3 => ⟨zb_1, ?_⟩) (fun e M' b1 b2 b3 => ⟨zb_0, ?_⟩)
  · have eo : signO T p d = (0, tE T p, d) := if_neg (fun z => z e)
    have h' := h.eq eo
    exact h'.1 rfl M' ⟨hR.fr a2 (by omega), a1.2.2.1, a3, FrO.tok hT a3 a2⟩
  · have eo : signO T p d = (kF T p 3, tS T p, d) := if_pos e
    exact h.bad eo e b1 b2 b3
theorem c_addOne {M : Mem} {x n : Nat} {e : EX} {post : Mem → Prop} (hM : ExC M x e) (hF : FRs e) (h6 : eM e < 6) (h : ∀ M', ExC M' x (addE e n) → Fr x (x + 16) M M' → post M') : w_X1_addOne x (nI n) M post := by
  obtain ⟨h1, h2, h3, h4, h5⟩ := hM
  unfold w_X1_addOne
  rw [h1, tnI (by omega)]
  refine ⟨vp_in_nI h6 (by omega), ?_⟩
  rintro M1 rfl
  rw [rd_ne (by omega), h1]
  refine c_release h6 ?_
  rintro M3 hM3
  rw [rd_ne (by omega), rd_ne (by omega), rd_ne (by omega), rd_ne (by omega), h1, nI_1] at hM3
  have r3 : ∀ i k, rd M3 i k = if i = x ∧ k = 0 then nI (eM e + 1) else if i = x + 4 ∧ k = eM e then -4 else if i = x + 3 ∧ k = eM e then 0 else if i = x + 2 ∧ k = eM e then -4 else if i = x + 1 ∧ k = eM e then nI n else rd M i k := fun i k => by
    rw [hM3, rd_wr, rd_wr, rd_wr, rd_wr, rd_wr]
  have f3 : Fr x (x + 16) M M3 := by rw [hM3]; repeat (first | exact Fr.refl | refine Fr.trans ?_ (Fr.wr (by omega)))
  clear hM3
  have z : ∀ a, eS (addE e n) a = 0 := fun a => by
    show up (eS e) (eM e) 0 a = 0
    by_cases q : a = eM e
    · rw [up_eq q]
    · rw [up_ne q]; exact hF.1 a
  have hF' : FRs (addE e n) := ⟨z, hF.2⟩
  refine h M3 ⟨?_, ?_, ?_, fun a ha => ?_, fun t ht => ?_⟩ f3
  · rw [r3, if_pos ⟨rfl, rfl⟩]; rfl
  · rw [r3, if_neg (by omega), if_neg (by omega), if_neg (by omega), if_neg (by omega), if_neg (by omega)]; exact h2
  · rw [r3, if_neg (by omega), if_neg (by omega), if_neg (by omega), if_neg (by omega), if_neg (by omega), h3, callsE_fr hF, callsE_fr hF']
  · have ha : a < eM e + 1 := ha
    unfold mI hI
    rw [z a, if_pos rfl, if_pos rfl]
    show rd M3 (x + 1) a = nI (up (eN e) (eM e) n a) ∧ _
    by_cases q : a = eM e
    · rw [r3 (x + 1), if_neg (by omega), if_neg (by omega), if_neg (by omega), if_neg (by omega), if_pos ⟨rfl, q⟩, r3 (x + 2), if_neg (by omega), if_neg (by omega), if_neg (by omega), if_pos ⟨rfl, q⟩, r3 (x + 3), if_neg (by omega), if_neg (by omega), if_pos ⟨rfl, q⟩, r3 (x + 4), if_neg (by omega), if_pos ⟨rfl, q⟩, up_eq q]
      exact ⟨rfl, rfl, rfl, rfl⟩
    · obtain ⟨g1, g2, g3, g4⟩ := h4 a (by omega)
      have sa := hF.1 a
      unfold mI hI at *
      rw [if_pos sa] at g2 g4
      rw [sa] at g3
      rw [r3 (x + 1), if_neg (by omega), if_neg (by omega), if_neg (by omega), if_neg (by omega), if_neg (by omega), r3 (x + 2), if_neg (by omega), if_neg (by omega), if_neg (by omega), if_neg (by omega), if_neg (by omega), r3 (x + 3), if_neg (by omega), if_neg (by omega), if_neg (by omega), if_neg (by omega), if_neg (by omega), r3 (x + 4), if_neg (by omega), if_neg (by omega), if_neg (by omega), if_neg (by omega), if_neg (by omega), up_ne q]
      exact ⟨g1, g2, g3, g4⟩
  · obtain ⟨g1, g2, g3, g4, g5, g6⟩ := h5 t ht
    have q : ∀ i k, x + 6 ≤ i → rd M3 i k = rd M i k := fun i k hi => by rw [r3, if_neg (by omega), if_neg (by omega), if_neg (by omega), if_neg (by omega), if_neg (by omega)]
    refine ⟨?_, ?_, ?_, ?_, ?_, fun w hw => ?_⟩ <;> rw [q _ _ (by omega)]
    · exact g1
    · exact g2
    · exact g3
    · rw [heldE_fr hF' t]; rw [heldE_fr hF t] at g4; exact g4
    · exact g5
    · exact g6 w hw
theorem c_readOne {M : Mem} {T : TP} {p : Nat} {d : DD} {post : Int32 → Mem → Prop} (hK : TokC M T p) (hR : RdC M d) (hT : TapeC M T) (hO : OKT T) (hp : p ≤ T.1) (hD : DOK d) (h : ResC T M (oneO T p d) post) : w_X4_readOne M post := by
  have hm := hD.1.m
  obtain ⟨b0, b1⟩ := tE_N hp
  obtain ⟨b2, b3⟩ := tE_N b1
  unfold w_X4_readOne
  rw [show rd M 53 0 = _ from hR.1.1]
  refine ⟨fun q => ?_, fun q => ?_⟩
  · have h6 := (nI_ltI (b := 6) (by omega) (by decide)).mp q
    unfold oneO at h
    rw [if_neg (by omega)] at h
    refine c_takes (k := 2) hT hO b1 hK.2.2.1 (by omega) (fun e M1 a1 a2 a3 => ⟨fun _ => ?_, fun q => absurd q (by decide)⟩) (fun e M' c1 c2 c3 => ⟨fun q => absurd rfl q, fun _ => h.bad (if_pos e) e c1 c2 c3⟩)
    rw [if_neg (fun z => z e)] at h
    have ek := kF_2 e
    have hv := tV_100 b1 ek
    have f1 := FrO.tok hT a3 a2
    have hR1 := hR.fr a2 (by omega)
    rw [a1.2.2.2 ek]
    refine c_isNumber (fun n hn e2 => ⟨fun _ => ?_, fun q => absurd q (by decide)⟩) (fun no => ⟨fun q => absurd rfl q, fun _ => ?_⟩)
    · obtain rfl : tV T (tE T p) = n := nI_inj (by omega) (by have := hn.1; omega) e2
      rw [if_neg (fun z => z ⟨hn.1, hn.2⟩)] at h
      have ho : ownE (dE d) (tV T (tE T p)) ≤ 6 := by
        rcases Nat.eq_zero_or_pos (ownE (dE d) (tV T (tE T p))) with z | z
        · omega
        · have := (own_some (e := dE d) (n := tV T (tE T p)) (a := ownE (dE d) (tV T (tE T p)) - 1) (by omega)).1; omega
      rw [a1.2.2.2 ek]
      refine c_owner hR1.1 hD.1 (by omega) ⟨fun q => ?_, fun q => ?_⟩
      · have o0 : ownE (dE d) (tV T (tE T p)) = 0 := (oI_4 (by omega)).mp q
        rw [if_neg (fun z => z o0)] at h
        rw [a1.2.2.2 ek]
        refine c_addOne hR1.1 hD.2.1 h6 (fun M2 d1 d2 => ?_)
        have hT2 : TapeC M2 T := a3.r (FrR.of d2 (by omega))
        refine c_sign (d := (addE (dE d) (tV T (tE T p)), dC d, dF d, dP d, dG d)) ⟨d1, hR1.2.1.fr d2 (by omega), ?_, ?_, ?_⟩ hT2 hO b3 ?_ (h.mono (f1.trans (FrO.of d2 (by omega))))
        · rw [d2.row (by omega)]; exact hR1.2.2.1
        · rw [d2.row (by omega)]; exact hR1.2.2.2.1
        · rw [d2.row (by omega)]; exact hR1.2.2.2.2
        · rw [d2.row (by omega)]; exact a1.2.2.1
      · have o0 : ownE (dE d) (tV T (tE T p)) ≠ 0 := fun z => q (by rw [z]; rfl)
        refine c_wrong (k := 4) a1.2.1 (fun M' c1 c2 c3 => ⟨zb_0, h.bad (if_pos o0) (by omega) c1 c2 (f1.1.trans c3)⟩)
    · refine c_wrong (k := 3) a1.2.1 (fun M' c1 c2 c3 => ⟨zb_0, h.bad (if_pos (fun z => ?_)) (by omega) c1 c2 (f1.1.trans c3)⟩)
      exact no _ z rfl
  · have h6 : 6 ≤ eM (dE d) := by
      rcases Nat.lt_or_ge (eM (dE d)) 6 with z | z
      · exact absurd (nI_lt (b := 6) z (by decide)) q
      · exact z
    refine c_wrong (k := 5) hK.2.1 (fun M' c1 c2 c3 => ⟨zb_0, h.bad (if_pos h6) (by omega) c1 c2 c3⟩)
theorem c_readFinders {M : Mem} {T : TP} {p : Nat} {d : DD} {post : Int32 → Mem → Prop} (hK : TokC M T p) (hR : RdC M d) (hT : TapeC M T) (hO : OKT T) (hp : p ≤ T.1) (h : ResC T M (finO T p d) post) : w_X4_readFinders M post := by
  obtain ⟨b0, b1⟩ := tE_N hp
  obtain ⟨b2, b3⟩ := tE_N b1
  unfold w_X4_readFinders
  rw [hR.2.2.1]
  refine ⟨fun q => ?_, fun q => ?_⟩
  · have q0 := b2n q
    unfold finO at h
    rw [if_neg (by rw [q0]; decide)] at h
    rintro M1 hM1
    have f1 : FrO M M1 := by rw [hM1]; exact FrO.wr (by omega)
    have r1 : ∀ i k, ¬ (i = 50 ∧ k = 6) → rd M1 i k = rd M i k := fun i k p => by rw [hM1]; exact rd_ne (by omega)
    have e6 : rd M1 50 6 = 1 := by rw [hM1]; exact rd_eq ⟨rfl, rfl⟩
    clear hM1
    have hT1 : TapeC M1 T := hT.r f1.1
    refine c_takesN (lo := 1) (hi := 6) hT1 hO b1 (by rw [r1 _ _ (by omega)]; exact hK.2.2.1) (by omega) (by omega) (fun e => tV_100 b1 e) (fun e M2 a1 a5 a2 a3 => ⟨fun _ => ?_, fun q => absurd q (by decide)⟩) (fun e M' c1 c2 c3 => ⟨fun q => absurd rfl q, fun _ => h.bad (if_pos e) e c1 c2 (f1.1.trans c3)⟩)
    rw [if_neg (fun z => z e)] at h
    rw [a5]
    rintro M4 hM4
    have r4 : ∀ i k, ¬ (i = 53 ∧ k = 1) → rd M4 i k = rd M2 i k := fun i k p => by rw [hM4]; exact rd_ne (by omega)
    have f4 : FrO M2 M4 := by rw [hM4]; exact FrO.of (lo := 53) (hi := 54) (Fr.wr (by omega)) (by omega)
    have hX4 : ExC M4 53 (finE (dE d) (tV T (tE T p))) := by
      rw [hM4]
      refine c_setFin ?_
      refine ExC.fr ?_ a2 (by omega)
      exact hR.1.at (fun i q _ _ => r1 _ _ (by omega))
    clear hM4
    have hs : ScC M4 69 (dC d) := hR.2.1.at (fun i q _ _ => by rw [r4 _ _ (by omega), a2.row (by omega), r1 _ _ (by omega)])
    refine c_sign (d := (finE (dE d) (tV T (tE T p)), dC d, true, dP d, dG d)) ⟨hX4, hs, ?_, ?_, ?_⟩ (a3.r f4.1) hO b3 ?_ (h.mono ((f1.trans (FrO.tok hT1 a3 a2)).trans f4))
    · rw [r4 _ _ (by omega), a2.row (by omega), e6]; rfl
    · rw [r4 _ _ (by omega), a2.row (by omega), r1 _ _ (by omega)]; exact hR.2.2.2.1
    · rw [r4 _ _ (by omega), a2.row (by omega), r1 _ _ (by omega)]; exact hR.2.2.2.2
    · rw [r4 _ _ (by omega)]; exact a1.2.2.1
  · have q1 := b2y q
    refine c_wrong (k := 4) hK.2.1 (fun M' c1 c2 c3 => ⟨zb_0, h.bad (if_pos q1) (by omega) c1 c2 c3⟩)
theorem numF_0 {T : TP} {p lo hi : Nat} (h : numF T p lo hi = 0) : tK T p = 2 ∧ lo ≤ tV T p ∧ tV T p ≤ hi := by
  unfold numF at h
  split at h
  · omega
  · rename_i z
    have z : kF T p 2 = 0 := by omega
    split at h
    · omega
    · exact ⟨kF_2 z, by omega, by omega⟩
theorem c_readGroup {M : Mem} {T : TP} {p k : Nat} {d : DD} {post : Int32 → Mem → Prop} (hk : k < 4) (hK : TokC M T p) (hR : RdC M d) (hT : TapeC M T) (hO : OKT T) (hp : p ≤ T.1) (hD : DOK d) (h : ResC T M (grpO T p k d) post) : w_X4_readGroup (nI k) M post := by
  obtain ⟨b0, b1⟩ := tE_N hp
  obtain ⟨b2, b3⟩ := tE_N b1
  obtain ⟨b4, b5⟩ := tE_N b3
  have hg := hD.2.2.2.1
  unfold w_X4_readGroup
  unfold grpO at h
  refine c_takesN (lo := 0) (hi := 4) hT hO b1 hK.2.2.1 (by omega) (by omega) (fun e => tV_100 b1 e) (fun e M1 a1 a5 a2 a3 => ⟨fun _ => ?_, fun q => absurd q (by decide)⟩) (fun e M' c1 c2 c3 => ⟨fun q => absurd rfl q, fun _ => h.bad (if_pos e) e c1 c2 c3⟩)
  rw [if_neg (fun z => z e)] at h
  obtain ⟨ek, -, ht⟩ := numF_0 e
  have f1 := FrO.tok hT a3 a2
  have hR1 := hR.fr a2 (by omega)
  rw [a5]
  rintro v3 rfl
  rw [hR1.2.2.2.2, getb _ _ (by omega), nI_bit (by omega)]
  refine ⟨fun q => ?_, fun q => ?_⟩
  · have q0 := b2n q
    rw [if_neg (by rw [q0]; decide)] at h
    rw [or256 _ (by omega) _ (by omega)]
    rintro M4 hM4
    have r4 : ∀ i k, ¬ (i = 50 ∧ k = 8) → rd M4 i k = rd M1 i k := fun i k p => by rw [hM4]; exact rd_ne (by omega)
    have e8 : rd M4 50 8 = nI (dG d ||| 2 ^ tV T (tE T p)) := by rw [hM4]; exact rd_eq ⟨rfl, rfl⟩
    have f4 : FrO M1 M4 := by rw [hM4]; exact FrO.wr (by omega)
    clear hM4
    have hT4 := a3.r f4.1
    refine c_takesN (lo := 0) (hi := 4) hT4 hO b3 (by rw [r4 _ _ (by omega)]; exact a1.2.2.1) (by omega) (by omega) (fun e => tV_100 b3 e) (fun e2 M5 g1 g5 g2 g3 => ⟨fun _ => ?_, fun q => absurd q (by decide)⟩) (fun e2 M' c1 c2 c3 => ⟨fun q => absurd rfl q, fun _ => h.bad (if_pos e2) e2 c1 c2 ((f1.trans f4).1.trans c3)⟩)
    rw [if_neg (fun z => z e2)] at h
    obtain ⟨ek2, -, ht2⟩ := numF_0 e2
    have f5 := (f1.trans f4).trans (FrO.tok hT4 g3 g2)
    rw [tnI (by omega)]
    have vt : vp_in (nI (tV T (tE T p))) 5 := vp_in_nI (by omega) (by omega)
    refine ⟨vt, ?_⟩
    rintro g hg'
    obtain rfl : g = 53 + 6 + 2 * tV T (tE T p) := by omega
    rintro M8 hM8
    refine ⟨vt, ?_⟩
    rintro g hg'
    obtain rfl : g = 53 + 6 + 2 * tV T (tE T p) := by omega
    have r8 : ∀ i k, ¬ (i = 53 + 6 + 2 * tV T (tE T p) ∧ k = 0) → rd M8 i k = rd M5 i k := fun i k p => by rw [hM8]; exact rd_ne (by omega)
    have x5 : ExC M5 53 (dE d) := by
      refine ExC.fr ?_ g2 (by omega)
      exact hR1.1.at (fun i q _ _ => r4 _ _ (by omega))
    have x8 : ExC M8 53 (kindE (dE d) (tV T (tE T p)) k) := by rw [hM8]; exact c_setKind x5 (by omega)
    have f8 : FrO M5 M8 := by rw [hM8]; exact FrO.of (lo := 53) (hi := 69) (Fr.wr (by omega)) (by omega)
    clear hM8
    rw [r8 51 5 (by omega), g5]
    refine c_resize x8 (VE_kindE hD.1 (by omega)) (by omega) ht2 rfl (fun M10 y1 y2 => ?_)
    have f10 : FrO M8 M10 := FrO.of y2 (by omega)
    have s10 : ScC M10 69 (dC d) := hR.2.1.at (fun i q _ _ => by rw [y2.row (by omega), r8 _ _ (by omega), g2.row (by omega), r4 _ _ (by omega), a2.row (by omega)])
    refine c_sign (d := (sizeE (kindE (dE d) (tV T (tE T p)) k) (tV T (tE T p)) (tV T (tE T (tE T p))), dC d, dF d, dP d, dG d ||| 2 ^ tV T (tE T p))) ⟨y1, s10, ?_, ?_, ?_⟩ ((g3.r f8.1).r f10.1) hO b5 ?_ (h.mono ((f5.trans f8).trans f10))
    · rw [y2.row (by omega), r8 _ _ (by omega), g2.row (by omega), r4 _ _ (by omega)]; exact hR1.2.2.1
    · rw [y2.row (by omega), r8 _ _ (by omega), g2.row (by omega), r4 _ _ (by omega)]; exact hR1.2.2.2.1
    · rw [y2.row (by omega), r8 _ _ (by omega), g2.row (by omega)]; exact e8
    · rw [y2.row (by omega), r8 _ _ (by omega)]; exact g1.2.2.1
  · have q1 := b2y q
    refine c_wrong (k := 4) a1.2.1 (fun M' c1 c2 c3 => ⟨zb_0, h.bad (if_pos q1) (by omega) c1 c2 (f1.1.trans c3)⟩)
theorem c_addAct {M : Mem} {x a n : Nat} {c : SC} {post : Mem → Prop} (hS : ScC M x c) (h8 : sA c < 8) (h : ∀ M', ScC M' x (planA c a n) → Fr x (x + 3) M M' → post M') : w_X5_addAct x (nI a) (nI n) M post := by
  unfold w_X5_addAct
  rw [hS.1, tnI (by omega)]
  refine ⟨vp_in_nI h8 (by omega), ?_⟩
  rintro M1 rfl
  rw [rd_ne (by omega), hS.1, tnI (by omega)]
  refine ⟨vp_in_nI h8 (by omega), ?_⟩
  rintro M2 rfl
  rw [rd_ne (by omega), rd_ne (by omega), hS.1, nI_1]
  rintro M3 hM3
  have r3 : ∀ i k, rd M3 i k = if i = x ∧ k = 0 then nI (sA c + 1) else if i = x + 2 ∧ k = sA c then nI n else if i = x + 1 ∧ k = sA c then nI a else rd M i k := fun i k => by
    rw [hM3, rd_wr, rd_wr, rd_wr]
  have f3 : Fr x (x + 3) M M3 := by rw [hM3]; repeat (first | exact Fr.refl | refine Fr.trans ?_ (Fr.wr (by omega)))
  clear hM3
  refine h M3 ⟨?_, ?_, fun i hi => ?_, fun j hj => ?_⟩ f3
  · rw [r3, if_pos ⟨rfl, rfl⟩]; rfl
  · rw [r3, if_neg (by omega), if_neg (by omega), if_neg (by omega)]; exact hS.2.1
  · have hi : i < sA c + 1 := hi
    show _ = nI (up (sW c) (sA c) a i) ∧ _ = nI (up (sD c) (sA c) n i)
    by_cases z : i = sA c
    · rw [r3, if_neg (by omega), if_neg (by omega), if_pos (by omega), r3, if_neg (by omega), if_pos (by omega), up_eq z, up_eq z]; exact ⟨rfl, rfl⟩
    · rw [r3, if_neg (by omega), if_neg (by omega), if_neg (by omega), r3, if_neg (by omega), if_neg (by omega), if_neg (by omega), up_ne z, up_ne z]; exact hS.2.2.1 i (by omega)
  · rw [r3, if_neg (by omega), if_neg (by omega), if_neg (by omega), r3, if_neg (by omega), if_neg (by omega), if_neg (by omega)]; exact hS.2.2.2 j hj
theorem DOK.add {d : DD} (hD : DOK d) {a n : Nat} (h8 : sA (dC d) < 8) (ha : a < 6) (hn : dialOK n) (hP : dP d = true) : DOK (dE d, planA (dC d) a n, dF d, dP d, dG d) := by
  obtain ⟨h1, h2, ⟨h3, h4, h5⟩, h6, h7⟩ := hD
  refine ⟨h1, h2, ⟨by show sA (dC d) + 1 ≤ 8; omega, h4, fun i hi => ?_⟩, h6, fun z => ?_⟩
  · have hi : i < sA (dC d) + 1 := hi
    show up (sW (dC d)) (sA (dC d)) a i < 6 ∧ dialOK (up (sD (dC d)) (sA (dC d)) n i)
    by_cases z : i = sA (dC d)
    · rw [up_eq z, up_eq z]; exact ⟨ha, hn⟩
    · rw [up_ne z, up_ne z]; exact h5 i (by omega)
  · have z : dP d = false := z
    rw [hP] at z; exact absurd z (by decide)
theorem plL_s {T : TP} {f p : Nat} {d : DD} : plL T (f + 1) p d = if tK T p = 3 then (0, tE T p, d) else
      if kF T p 2 ≠ 0 then (kF T p 2, tS T p, d) else
        if 8 ≤ sA (dC d) then (5, tS T p, d) else
          if 6 ≤ tV T p then (3, tS T p, d) else
            if kF T (tE T p) 2 ≠ 0 then (kF T (tE T p) 2, tS T (tE T p), d) else
              if ¬ (tV T (tE T p) = 99 ∨ (tV T (tE T p) ≤ 44 ∧ tV T (tE T p) % 10 ≤ 4)) then (3, tS T (tE T p), d) else
                plL T f (tE T (tE T p)) (dE d, planA (dC d) (tV T p) (tV T (tE T p)), dF d, dP d, dG d) := rfl
theorem c_readPlan {M : Mem} {T : TP} {p : Nat} {d : DD} {post : Int32 → Mem → Prop} (hK : TokC M T p) (hR : RdC M d) (hT : TapeC M T) (hO : OKT T) (hp : p ≤ T.1) (hD : DOK d) (h : ResC T M (plnO T p d) post) : w_X4_readPlan M post := by
  obtain ⟨b0, b1⟩ := tE_N hp
  unfold w_X4_readPlan
  rw [hR.2.2.2.1]
  refine ⟨fun q => ?_, fun q => ?_⟩
  · have q0 := b2n q
    unfold plnO at h
    rw [if_neg (by rw [q0]; decide)] at h
    have hA0 := hD.2.2.2.2 q0
    rintro M1 hM1
    have f1 : FrO M M1 := by rw [hM1]; exact FrO.wr (by omega)
    have r1 : ∀ i k, ¬ (i = 50 ∧ k = 7) → rd M1 i k = rd M i k := fun i k p => by rw [hM1]; exact rd_ne (by omega)
    have e7 : rd M1 50 7 = 1 := by rw [hM1]; exact rd_eq ⟨rfl, rfl⟩
    clear hM1
    have hR1 : RdC M1 (dE d, dC d, dF d, true, dG d) := by
      refine ⟨hR.1.at (fun i q _ _ => r1 _ _ (by omega)), hR.2.1.at (fun i q _ _ => r1 _ _ (by omega)), ?_, ?_, ?_⟩
      · rw [r1 _ _ (by omega)]; exact hR.2.2.1
      · rw [e7]; rfl
      · rw [r1 _ _ (by omega)]; exact hR.2.2.2.2
    have hD1 : DOK (dE d, dC d, dF d, true, dG d) := ⟨hD.1, hD.2.1, hD.2.2.1, hD.2.2.2.1, fun z => absurd (show true = false from z) (by decide)⟩
    refine loop_0 (fun n i (s : Nat × DD × Mem) => w_X4_readPlan_L20 post n (nI i) s.2.2) (fun i s => RdC s.2.2 s.2.1 ∧ DOK s.2.1 ∧ dP s.2.1 = true ∧ sA (dC s.2.1) = i ∧ s.1 ≤ T.1 ∧ rd s.2.2 51 4 = nI s.1 ∧ TapeC s.2.2 T ∧ FrO M s.2.2 ∧ plL T 9 (tE T p) (dE d, dC d, dF d, true, dG d) = plL T (9 - i) s.1 s.2.1) 9 (tE T p, (dE d, dC d, dF d, true, dG d), M1) ⟨hR1, hD1, rfl, hA0, b1, (by show rd M1 51 4 = nI (tE T p); rw [r1 _ _ (by omega)]; exact hK.2.2.1), hT.r f1.1, f1, rfl⟩ ?_ ?_
    · rintro n ⟨x, d', s⟩ ⟨-, k2, -, k4, -⟩
      have := k2.2.2.1.1
      change sA (dC d') = 9 at k4
      change sA (dC d') ≤ 8 at this
      omega
    · rintro n i ⟨x, d', s⟩ hi ⟨k1, k2, k3, k4, k5, k6, k7, k8, k9⟩ kk
      show w_X4_readPlan_L20 post (n + 1) _ s
      unfold w_X4_readPlan_L20
      change RdC s d' at k1
      change DOK d' at k2
      change dP d' = true at k3
      change sA (dC d') = i at k4
      change x ≤ T.1 at k5
      change rd s 51 4 = nI x at k6
      change TapeC s T at k7
      change FrO M s at k8
      change _ = plL T (9 - i) x d' at k9
      have h8' := k2.2.2.1.1
      obtain ⟨j, hj⟩ : ∃ j, 9 - i = j + 1 := ⟨8 - i, by omega⟩
      rw [hj, plL_s (f := j)] at k9
      have hs := (h.eq k9).mono k8
      obtain ⟨x0, x1⟩ := tE_N k5
      obtain ⟨x2, x3⟩ := tE_N x1
      refine ⟨fun q => absurd q (nI_nlt (a := 8) (b := i) (by omega) (by decide)), fun _ => ?_⟩
      refine c_next k7 hO k5 k6 (fun M3 a1 a2 a3 => ?_)
      have f3 := FrO.tok k7 a2 a3
      have hR3 := k1.fr a3 (by omega)
      have tk4 := tK_4 (T := T) (p := x)
      rw [a1.1]
      refine ⟨fun q => ?_, fun q => ?_⟩
      · have n3 : tK T x ≠ 3 := fun z => q (by rw [z]; rfl)
        rw [if_neg n3] at hs
        refine c_stands (k := 2) a1 (by omega) (fun e => ⟨fun _ => ?_, fun q => absurd q (by decide)⟩) (fun e M' c1 c2 c3 => ⟨fun q => absurd rfl q, fun _ => hs.bad (if_pos e) e c1 c2 (f3.1.trans c3)⟩)
        rw [if_neg (fun z => z e)] at hs
        have ek := kF_2 e
        have hv := tV_100 k5 ek
        rw [hR3.2.1.1, k4]
        refine ⟨fun q2 => ?_, fun q2 => ?_⟩
        · have h8 := (nI_ltI (b := 8) (by omega) (by decide)).mp q2
          rw [if_neg (by omega)] at hs
          rw [a1.2.2.2 ek]
          rintro v6 rfl
          refine ⟨fun q3 => ?_, fun q3 => ?_⟩
          · have h6 := (nI_ltI (b := 6) (by omega) (by decide)).mp q3
            rw [if_neg (by omega)] at hs
            refine c_takes (k := 2) a2 hO x1 a1.2.2.1 (by omega) (fun e2 M7 g1 g2 g3 => ⟨fun _ => ?_, fun q => absurd q (by decide)⟩) (fun e2 M' c1 c2 c3 => ⟨fun q => absurd rfl q, fun _ => hs.bad (if_pos e2) e2 c1 c2 (f3.1.trans c3)⟩)
            rw [if_neg (fun z => z e2)] at hs
            have ek2 := kF_2 e2
            have hv2 := tV_100 x1 ek2
            have f7 := f3.trans (FrO.tok a2 g3 g2)
            have hR7 := hR3.fr g2 (by omega)
            rw [g1.2.2.2 ek2]
            refine c_isDialled (fun m hm e3 => ⟨fun _ => ?_, fun q => absurd q (by decide)⟩) (fun no => ⟨fun q => absurd rfl q, fun _ => ?_⟩)
            · obtain rfl : tV T (tE T x) = m := nI_inj (by omega) (hm.elim (fun y => by omega) (fun y => by have := y.1; omega)) e3
              rw [if_neg (fun z => z (hm.elim Or.inl (fun y => Or.inr ⟨y.1, y.2⟩)))] at hs
              rw [g1.2.2.2 ek2]
              refine c_addAct hR7.2.1 (by omega) (fun M11 y1 y2 => ?_)
              rintro v12 rfl
              rw [nI_1]
              have hD' := k2.add (a := tV T x) (n := tV T (tE T x)) (by omega) h6 hm k3
              refine kk (tE T (tE T x), (dE d', planA (dC d') (tV T x) (tV T (tE T x)), dF d', dP d', dG d'), M11) ⟨⟨hR7.1.fr y2 (by omega), y1, ?_, ?_, ?_⟩, hD', k3, by show sA (dC d') + 1 = i + 1; omega, x3, ?_, g3.r (FrR.of y2 (by omega)), (k8.trans f7).trans (FrO.of y2 (by omega)), ?_⟩
              · rw [y2.row (by omega)]; exact hR7.2.2.1
              · rw [y2.row (by omega)]; exact hR7.2.2.2.1
              · rw [y2.row (by omega)]; exact hR7.2.2.2.2
              · show rd M11 51 4 = nI (tE T (tE T x))
                rw [y2.row (by omega)]; exact g1.2.2.1
              · rw [k9, if_neg n3, if_neg (fun z => z e), if_neg (by omega), if_neg (by omega), if_neg (fun z => z e2), if_neg (fun z => z (hm.elim Or.inl (fun y => Or.inr ⟨y.1, y.2⟩))), show 9 - (i + 1) = j by omega]
            · refine c_wrong (k := 3) g1.2.1 (fun M' c1 c2 c3 => ⟨zb_0, hs.bad (if_pos (fun z => ?_)) (by omega) c1 c2 (f7.1.trans c3)⟩)
              exact no _ (z.elim Or.inl (fun y => Or.inr ⟨y.1, y.2⟩)) rfl
          · have h6 : 6 ≤ tV T x := by
              rcases Nat.lt_or_ge (tV T x) 6 with z | z
              · exact absurd (nI_lt (b := 6) z (by decide)) q3
              · exact z
            refine c_wrong (k := 3) a1.2.1 (fun M' c1 c2 c3 => ⟨zb_0, hs.bad (if_pos h6) (by omega) c1 c2 (f3.1.trans c3)⟩)
        · have h8 : 8 ≤ sA (dC d') := by
            rcases Nat.lt_or_ge i 8 with z | z
            · exact absurd (nI_lt (b := 8) z (by decide)) q2
            · omega
          refine c_wrong (k := 5) a1.2.1 (fun M' c1 c2 c3 => ⟨zb_0, hs.bad (if_pos h8) (by omega) c1 c2 (f3.1.trans c3)⟩)
      · have n3 : tK T x = 3 := nI_inj (by omega) (by decide) q
        have := hs.eq (if_pos n3)
        exact this.1 rfl M3 ⟨hR3, a1.2.2.1, a2, f3⟩
  · have q1 := b2y q
    refine c_wrong (k := 4) hK.2.1 (fun M' c1 c2 c3 => ⟨zb_0, h.bad (if_pos q1) (by omega) c1 c2 c3⟩)
