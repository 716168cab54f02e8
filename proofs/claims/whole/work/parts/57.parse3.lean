/-! words; a line; the whole text: the class -/
theorem c_sp {M : Mem} {T : TP} {s : Nat} {post : Int32 → Mem → Prop} (hT : TapeC M T) (hO : OKT T) (h3 : rd M 51 3 = nI s) : ∀ (L : List Nat) (i : Nat), s + i + L.length ≤ T.1 → (∀ b, b ∈ L → b < 128) → post (if mtL T s L i = true then 1 else 0) M → w_sp post M (L.map nI) (nI i) := by
  intro L
  induction L with
  | nil =>
    intro i _ _ h
    exact h
  | cons b L ih =>
    intro i hi hb h
    have hn := hO.1
    have hlt : s + i < T.1 := by
      have : (b :: L).length = L.length + 1 := rfl
      omega
    have hbb := hO.2 _ hlt
    have hb0 := hb b (by simp)
    show w_sp post M (nI b :: L.map nI) (nI i)
    unfold w_sp
    rw [h3, nI_add, tnI (by omega), hT.2 _ hlt, nI_1]
    have e : mtL T s (b :: L) i = (decide (T.2 (s + i) = b) && mtL T s L (i + 1)) := rfl
    rw [e] at h
    refine ⟨vp_in_nI (by omega) (by omega), fun q => ?_, fun q => ?_⟩
    · rw [decide_eq_false (fun z => q (by rw [z]))] at h
      exact h
    · rw [decide_eq_true (nI_inj (by omega) (by omega) q)] at h
      refine ih (i + 1) ?_ (fun b' hb' => hb b' (by simp [hb'])) h
      have : (b :: L).length = L.length + 1 := rfl
      omega
theorem c_spells {M : Mem} {T : TP} {p k : Nat} {L : List Nat} {post : Int32 → Mem → Prop} (hl : lenS.getD k 0 = L.length) (hb : bytS.getD k [] = L.map nI) (hw : wordsN.getD k [] = L) (h128 : ∀ b, b ∈ L → b < 128) (hT : TapeC M T) (hO : OKT T) (hp : p ≤ T.1) (hK : TokC M T p) (hL : L.length < 100) (h : post (if mB T p k = true then 1 else 0) M) : w_X7_spells k M post := by
  have hn := hO.1
  obtain ⟨e1, e2, -⟩ := tE_le hp
  unfold w_X7_spells
  rw [hl, hb, hK.2.1, hK.2.2.1, pk_sub e1]
  unfold mB at h
  rw [hw] at h
  refine ⟨fun q => ?_, fun q => ?_⟩
  · rw [decide_eq_false (fun z => q (by rw [z]))] at h
    exact h
  · have z := nI_inj (by omega) (by omega) q
    rw [decide_eq_true z] at h
    exact c_sp hT hO hK.2.1 L 0 (by omega) h128 h
theorem mB_1 {T : TP} {p k : Nat} (hk : k < 7) (h : mB T p k = true) : T.2 (tS T p) = (wordsN.getD k []).headD 0 := by
  unfold mB at h
  rw [Bool.and_eq_true] at h
  have h2 := h.2
  rcases (show k = 0 ∨ k = 1 ∨ k = 2 ∨ k = 3 ∨ k = 4 ∨ k = 5 ∨ k = 6 by omega) with z | z | z | z | z | z | z <;> subst z <;> (simp [wordsN, mtL] at h2; simp [wordsN]; exact h2.1)
theorem mB_x {T : TP} {p i j : Nat} (hi : i < 7) (hj : j < 7) (h1 : mB T p i = true) (h2 : mB T p j = true) : i = j := by
  have e := (mB_1 hi h1).symm.trans (mB_1 hj h2)
  have key : ∀ i, i < 7 → ∀ j, j < 7 → (wordsN.getD i []).headD 0 = (wordsN.getD j []).headD 0 → i = j := by decide
  exact key i hi j hj e
def codeN : List Nat := [4, 5, 0, 1, 2, 3, 6]
theorem wd_of {T : TP} {p k : Nat} (hk : k < 7) (h : mB T p k = true) : wdN T p = codeN.getD k 0 := by
  have ex : ∀ j, j < 7 → j ≠ k → ¬ mB T p j = true := fun j hj hne z => hne (mB_x hj hk z h)
  unfold wdN
  rcases (show k = 0 ∨ k = 1 ∨ k = 2 ∨ k = 3 ∨ k = 4 ∨ k = 5 ∨ k = 6 by omega) with z | z | z | z | z | z | z <;> subst z
  · rw [if_neg (ex 2 (by omega) (by omega)), if_neg (ex 3 (by omega) (by omega)), if_neg (ex 4 (by omega) (by omega)), if_neg (ex 5 (by omega) (by omega)), if_pos h]; rfl
  · rw [if_neg (ex 2 (by omega) (by omega)), if_neg (ex 3 (by omega) (by omega)), if_neg (ex 4 (by omega) (by omega)), if_neg (ex 5 (by omega) (by omega)), if_neg (ex 0 (by omega) (by omega)), if_pos h]; rfl
  · rw [if_pos h]; rfl
  · rw [if_neg (ex 2 (by omega) (by omega)), if_pos h]; rfl
  · rw [if_neg (ex 2 (by omega) (by omega)), if_neg (ex 3 (by omega) (by omega)), if_pos h]; rfl
  · rw [if_neg (ex 2 (by omega) (by omega)), if_neg (ex 3 (by omega) (by omega)), if_neg (ex 4 (by omega) (by omega)), if_pos h]; rfl
  · rw [if_neg (ex 2 (by omega) (by omega)), if_neg (ex 3 (by omega) (by omega)), if_neg (ex 4 (by omega) (by omega)), if_neg (ex 5 (by omega) (by omega)), if_neg (ex 0 (by omega) (by omega)), if_neg (ex 1 (by omega) (by omega)), if_pos h]; rfl
theorem wd_7 {T : TP} {p : Nat} (h : ∀ j, j < 7 → mB T p j = false) : wdN T p = 7 := by
  have ex : ∀ j, j < 7 → ¬ mB T p j = true := fun j hj z => by rw [h j hj] at z; exact absurd z (by decide)
  unfold wdN
  rw [if_neg (ex 2 (by omega)), if_neg (ex 3 (by omega)), if_neg (ex 4 (by omega)), if_neg (ex 5 (by omega)), if_neg (ex 0 (by omega)), if_neg (ex 1 (by omega)), if_neg (ex 6 (by omega))]
theorem wdN_7 {T : TP} {p : Nat} : wdN T p ≤ 7 := by
  unfold wdN
  repeat' split
  all_goals omega
theorem ResC.zb {T : TP} {M : Mem} {o : OUT} {post : Int32 → Mem → Prop} (h : ResC T M o post) : ResC T M o (fun r M' => _root_.Jvm.Pilot.CStepCallsLaw_law_r7494_37804d.zb r ∧ post r M') := ⟨fun e M' g => ⟨zb_1, h.1 e M' g⟩, fun e M' g => ⟨zb_0, h.2 e M' g⟩⟩
theorem c_readLine {M : Mem} {T : TP} {p : Nat} {d : DD} {post : Int32 → Mem → Prop} (hK : TokC M T p) (hR : RdC M d) (hT : TapeC M T) (hO : OKT T) (hp : p ≤ T.1) (hD : DOK d) (h : ResC T M (lineO T p d) post) : w_X4_readLine M post := by
  unfold w_X4_readLine
  unfold lineO at h
  refine c_stands (k := 1) hK (by omega) (fun e => ⟨fun _ => ?_, fun q => absurd q (by decide)⟩) (fun e M' c1 c2 c3 => ⟨fun q => absurd rfl q, fun _ => h.bad (if_pos e) e c1 c2 c3⟩)
  rw [if_neg (fun z => z e)] at h
  have h' := h.zb
  refine c_spells (k := 0) (L := [108, 105, 110, 101]) rfl rfl rfl (by decide) hT hO hp hK (by decide) ⟨fun q0 => ?_, fun q0 => ?_⟩
  rotate_left
  · rw [wd_of (by omega) (b2y q0), if_neg (by decide), if_pos (by decide)] at h'
    exact c_readOne hK hR hT hO hp hD h'
  refine c_spells (k := 1) (L := [102, 105, 110, 100, 101, 114, 115]) rfl rfl rfl (by decide) hT hO hp hK (by decide) ⟨fun q1 => ?_, fun q1 => ?_⟩
  rotate_left
  · rw [wd_of (by omega) (b2y q1), if_neg (by decide), if_neg (by decide), if_pos (by decide)] at h'
    exact c_readFinders hK hR hT hO hp h'
  refine c_spells (k := 2) (L := [104, 111, 109, 101]) rfl rfl rfl (by decide) hT hO hp hK (by decide) ⟨fun q2 => ?_, fun q2 => ?_⟩
  rotate_left
  · rw [wd_of (by omega) (b2y q2), if_neg (by decide), if_neg (by decide), if_neg (by decide), if_neg (by decide)] at h'
    exact c_readGroup (k := 0) (by omega) hK hR hT hO hp hD h'
  refine c_spells (k := 3) (L := [111, 110]) rfl rfl rfl (by decide) hT hO hp hK (by decide) ⟨fun q3 => ?_, fun q3 => ?_⟩
  rotate_left
  · rw [wd_of (by omega) (b2y q3), if_neg (by decide), if_neg (by decide), if_neg (by decide), if_neg (by decide)] at h'
    exact c_readGroup (k := 1) (by omega) hK hR hT hO hp hD h'
  refine c_spells (k := 4) (L := [98, 97, 99, 107]) rfl rfl rfl (by decide) hT hO hp hK (by decide) ⟨fun q4 => ?_, fun q4 => ?_⟩
  rotate_left
  · rw [wd_of (by omega) (b2y q4), if_neg (by decide), if_neg (by decide), if_neg (by decide), if_neg (by decide)] at h'
    exact c_readGroup (k := 2) (by omega) hK hR hT hO hp hD h'
  refine c_spells (k := 5) (L := [115, 112, 114, 101, 97, 100]) rfl rfl rfl (by decide) hT hO hp hK (by decide) ⟨fun q5 => ?_, fun q5 => ?_⟩
  rotate_left
  · rw [wd_of (by omega) (b2y q5), if_neg (by decide), if_neg (by decide), if_neg (by decide), if_neg (by decide)] at h'
    exact c_readGroup (k := 3) (by omega) hK hR hT hO hp hD h'
  refine c_spells (k := 6) (L := [112, 108, 97, 110]) rfl rfl rfl (by decide) hT hO hp hK (by decide) ⟨fun q6 => ?_, fun q6 => ?_⟩
  rotate_left
  · rw [wd_of (by omega) (b2y q6), if_neg (by decide), if_neg (by decide), if_neg (by decide), if_pos (by decide)] at h'
    exact c_readPlan hK hR hT hO hp hD h'
  have e7 : wdN T p = 7 := wd_7 (fun j hj => by
    rcases (show j = 0 ∨ j = 1 ∨ j = 2 ∨ j = 3 ∨ j = 4 ∨ j = 5 ∨ j = 6 by omega) with z | z | z | z | z | z | z <;> subst z
    · exact b2n q0
    · exact b2n q1
    · exact b2n q2
    · exact b2n q3
    · exact b2n q4
    · exact b2n q5
    · exact b2n q6)
  refine c_wrong (k := 2) hK.2.1 (fun M' c1 c2 c3 => h'.bad (if_pos e7) (by omega) c1 c2 c3)
/-! what a line leaves is as it should be -/
theorem signO_ok {T : TP} {p : Nat} {d : DD} (hp : p ≤ T.1) (h : (signO T p d).1 = 0) : (signO T p d).2.2 = d ∧ p < (signO T p d).2.1 ∧ (signO T p d).2.1 ≤ T.1 := by
  unfold signO at h ⊢
  by_cases q : kF T p 3 ≠ 0
  · rw [if_pos q] at h; exact absurd h q
  · rw [if_neg q]
    have e : kF T p 3 = 0 := by omega
    exact ⟨rfl, tE_gt hp (by rw [kF_2 e]; omega), (tE_N hp).2⟩
theorem oneO_ok {T : TP} {p : Nat} {d : DD} (hD : DOK d) (hp : p ≤ T.1) (h : (oneO T p d).1 = 0) : DOK (oneO T p d).2.2 ∧ p < (oneO T p d).2.1 ∧ (oneO T p d).2.1 ≤ T.1 := by
  obtain ⟨b0, b1⟩ := tE_N hp
  obtain ⟨b2, b3⟩ := tE_N b1
  unfold oneO at h ⊢
  by_cases q1 : 6 ≤ eM (dE d)
  · rw [if_pos q1] at h; exact absurd h (show (5 : Nat) ≠ 0 by decide)
  rw [if_neg q1] at h ⊢
  by_cases q2 : kF T (tE T p) 2 ≠ 0
  · rw [if_pos q2] at h; exact absurd h q2
  rw [if_neg q2] at h ⊢
  by_cases q3 : ¬ (tV T (tE T p) ≤ 44 ∧ tV T (tE T p) % 10 ≤ 4)
  · rw [if_pos q3] at h; exact absurd h (show (3 : Nat) ≠ 0 by decide)
  rw [if_neg q3] at h ⊢
  by_cases q4 : ownE (dE d) (tV T (tE T p)) ≠ 0
  · rw [if_pos q4] at h; exact absurd h (show (4 : Nat) ≠ 0 by decide)
  rw [if_neg q4] at h ⊢
  obtain ⟨s1, s2, s3⟩ := signO_ok b3 h
  have hn : numOK (tV T (tE T p)) := Classical.byContradiction (fun z => q3 (fun y => z ⟨y.1, y.2⟩))
  obtain ⟨v1, v2⟩ := VE_addE hD.1 hD.2.1 (by omega) hn (by omega)
  rw [s1]
  exact ⟨⟨v1, v2, hD.2.2⟩, by omega, s3⟩
theorem finO_ok {T : TP} {p : Nat} {d : DD} (hD : DOK d) (hp : p ≤ T.1) (h : (finO T p d).1 = 0) : DOK (finO T p d).2.2 ∧ p < (finO T p d).2.1 ∧ (finO T p d).2.1 ≤ T.1 := by
  obtain ⟨b0, b1⟩ := tE_N hp
  obtain ⟨b2, b3⟩ := tE_N b1
  unfold finO at h ⊢
  by_cases q1 : dF d = true
  · rw [if_pos q1] at h; exact absurd h (show (4 : Nat) ≠ 0 by decide)
  rw [if_neg q1] at h ⊢
  by_cases q2 : numF T (tE T p) 1 6 ≠ 0
  · rw [if_pos q2] at h; exact absurd h q2
  rw [if_neg q2] at h ⊢
  obtain ⟨s1, s2, s3⟩ := signO_ok b3 h
  obtain ⟨n1, n2, n3⟩ := numF_0 (Classical.byContradiction (fun z => q2 z))
  rw [s1]
  exact ⟨⟨VE_finE hD.1 ⟨n2, n3⟩, hD.2.1, hD.2.2⟩, by omega, s3⟩
theorem grpO_ok {T : TP} {p k : Nat} {d : DD} (hk : k < 4) (hD : DOK d) (hp : p ≤ T.1) (h : (grpO T p k d).1 = 0) : DOK (grpO T p k d).2.2 ∧ p < (grpO T p k d).2.1 ∧ (grpO T p k d).2.1 ≤ T.1 := by
  obtain ⟨b0, b1⟩ := tE_N hp
  obtain ⟨b2, b3⟩ := tE_N b1
  obtain ⟨b4, b5⟩ := tE_N b3
  unfold grpO at h ⊢
  by_cases q1 : numF T (tE T p) 0 4 ≠ 0
  · rw [if_pos q1] at h; exact absurd h q1
  rw [if_neg q1] at h ⊢
  by_cases q2 : (dG d).testBit (tV T (tE T p)) = true
  · rw [if_pos q2] at h; exact absurd h (show (4 : Nat) ≠ 0 by decide)
  rw [if_neg q2] at h ⊢
  by_cases q3 : numF T (tE T (tE T p)) 0 4 ≠ 0
  · rw [if_pos q3] at h; exact absurd h q3
  rw [if_neg q3] at h ⊢
  obtain ⟨s1, s2, s3⟩ := signO_ok b5 h
  obtain ⟨n1, n2, n3⟩ := numF_0 (Classical.byContradiction (fun z => q1 z))
  obtain ⟨m1, m2, m3⟩ := numF_0 (Classical.byContradiction (fun z => q3 z))
  rw [s1]
  refine ⟨⟨VE_sizeE (VE_kindE hD.1 (by omega)) (by omega) m3 ?_, FR_sizeE hD.2.1, hD.2.2.1, Nat.or_lt_two_pow (n := 5) hD.2.2.2.1 (Nat.pow_lt_pow_right (by omega) (by omega)), hD.2.2.2.2⟩, by omega, s3⟩
  rw [heldE_kindE, heldE_fr hD.2.1]
  exact Nat.two_pow_pos _
theorem plL_ok {T : TP} : ∀ (f p : Nat) (d : DD), DOK d → dP d = true → p ≤ T.1 → (plL T f p d).1 = 0 → DOK (plL T f p d).2.2 ∧ p < (plL T f p d).2.1 ∧ (plL T f p d).2.1 ≤ T.1 := by
  intro f
  induction f with
  | zero =>
    intro p d _ _ _ h
    exact absurd h (show (5 : Nat) ≠ 0 by decide)
  | succ f ih =>
    intro p d hD hP hp h
    obtain ⟨b0, b1⟩ := tE_N hp
    obtain ⟨b2, b3⟩ := tE_N b1
    rw [plL_s] at h ⊢
    by_cases q1 : tK T p = 3
    · rw [if_pos q1]
      exact ⟨hD, tE_gt hp (by omega), b1⟩
    rw [if_neg q1] at h ⊢
    by_cases q2 : kF T p 2 ≠ 0
    · rw [if_pos q2] at h; exact absurd h q2
    rw [if_neg q2] at h ⊢
    by_cases q3 : 8 ≤ sA (dC d)
    · rw [if_pos q3] at h; exact absurd h (show (5 : Nat) ≠ 0 by decide)
    rw [if_neg q3] at h ⊢
    by_cases q4 : 6 ≤ tV T p
    · rw [if_pos q4] at h; exact absurd h (show (3 : Nat) ≠ 0 by decide)
    rw [if_neg q4] at h ⊢
    by_cases q5 : kF T (tE T p) 2 ≠ 0
    · rw [if_pos q5] at h; exact absurd h q5
    rw [if_neg q5] at h ⊢
    by_cases q6 : ¬ (tV T (tE T p) = 99 ∨ (tV T (tE T p) ≤ 44 ∧ tV T (tE T p) % 10 ≤ 4))
    · rw [if_pos q6] at h; exact absurd h (show (3 : Nat) ≠ 0 by decide)
    rw [if_neg q6] at h ⊢
    have hn : dialOK (tV T (tE T p)) := (Classical.byContradiction (fun z => q6 z) : tV T (tE T p) = 99 ∨ (tV T (tE T p) ≤ 44 ∧ tV T (tE T p) % 10 ≤ 4)).elim Or.inl (fun y => Or.inr ⟨y.1, y.2⟩)
    obtain ⟨r1, r2, r3⟩ := ih (tE T (tE T p)) _ (hD.add (a := tV T p) (n := tV T (tE T p)) (by omega) (by omega) hn hP) hP b3 h
    exact ⟨r1, by omega, r3⟩
theorem lineO_ok {T : TP} {p : Nat} {d : DD} (hD : DOK d) (hp : p ≤ T.1) (h : (lineO T p d).1 = 0) : DOK (lineO T p d).2.2 ∧ p < (lineO T p d).2.1 ∧ (lineO T p d).2.1 ≤ T.1 := by
  obtain ⟨b0, b1⟩ := tE_N hp
  have h7 := wdN_7 (T := T) (p := p)
  unfold lineO at h ⊢
  by_cases q1 : kF T p 1 ≠ 0
  · rw [if_pos q1] at h; exact absurd h q1
  rw [if_neg q1] at h ⊢
  by_cases q2 : wdN T p = 7
  · rw [if_pos q2] at h; exact absurd h (show (2 : Nat) ≠ 0 by decide)
  rw [if_neg q2] at h ⊢
  by_cases q3 : wdN T p = 4
  · rw [if_pos q3] at h ⊢; exact oneO_ok hD hp h
  rw [if_neg q3] at h ⊢
  by_cases q4 : wdN T p = 5
  · rw [if_pos q4] at h ⊢; exact finO_ok hD hp h
  rw [if_neg q4] at h ⊢
  by_cases q5 : wdN T p = 6
  · rw [if_pos q5] at h ⊢
    unfold plnO at h ⊢
    by_cases q6 : dP d = true
    · rw [if_pos q6] at h; exact absurd h (show (4 : Nat) ≠ 0 by decide)
    rw [if_neg q6] at h ⊢
    obtain ⟨r1, r2, r3⟩ := plL_ok 9 (tE T p) (dE d, dC d, dF d, true, dG d) ⟨hD.1, hD.2.1, hD.2.2.1, hD.2.2.2.1, fun z => absurd (show true = false from z) (by decide)⟩ rfl b1 h
    exact ⟨r1, by omega, r3⟩
  rw [if_neg q5] at h ⊢
  exact grpO_ok (by omega) hD hp h
theorem hiW_le {w : Nat → Nat} {m : Nat} : ∀ n, hiW w n ≤ m ↔ ∀ i, i < n → w i < m := by
  intro n
  induction n with
  | zero => exact ⟨fun _ i hi => by omega, fun _ => Nat.zero_le _⟩
  | succ n ih =>
    simp only [hiW]
    constructor
    · intro h i hi
      have h2 : hiW w n ≤ m ∧ w n < m := by
        split at h <;> omega
      by_cases q : i = n
      · rw [q]; exact h2.2
      · exact ih.mp h2.1 i (by omega)
    · intro h
      have h1 := ih.mpr (fun i hi => h i (by omega))
      have h2 := h n (by omega)
      split <;> omega
/-! the class: the whole text -/
theorem c_gclear {M : Mem} {g : Nat} {post : Mem → Prop} (h : ∀ M', rd M' g 0 = 0 → rd M' g 1 = 1 → rd M' g 2 = 0 → rd M' g 3 = 0 → rd M' g 4 = -4 → (∀ w, w < 4 → rd M' (g + 1) w = 0) → Fr g (g + 2) M M' → post M') : w_X2_clear g M post := by
  unfold w_X2_clear
  rintro M3 rfl M4 rfl M5 rfl M6 rfl M7 hM7
  have r7 : ∀ i k, rd M7 i k = if i = g ∧ k = 4 then -4 else if i = g ∧ k = 3 then 0 else if i = g ∧ k = 2 then 0 else if i = g ∧ k = 1 then 1 else if i = g ∧ k = 0 then 0 else rd M i k := fun i k => by
    rw [hM7, rd_wr, rd_wr, rd_wr, rd_wr, rd_wr]
  have f7 : Fr g (g + 2) M M7 := by rw [hM7]; repeat (first | exact Fr.refl | refine Fr.trans ?_ (Fr.wr (by omega)))
  clear hM7
  refine loop_0 (fun n i (s : Mem) => w_X2_clear_L28 g post n (nI i) s) (fun i s => (∀ w, w < i → rd s (g + 1) w = 0) ∧ (∀ k, rd s g k = rd M7 g k) ∧ Fr g (g + 2) M s) 4 M7 ⟨fun w hw => by omega, fun _ => rfl, f7⟩ ?_ ?_
  · rintro n s ⟨k1, k2, k3⟩
    show w_X2_clear_L28 g post (n + 1) _ s
    unfold w_X2_clear_L28
    refine ⟨fun _ => h s ?_ ?_ ?_ ?_ ?_ k1 k3, fun q => absurd (nI_le (a := 4) (Nat.le_refl _) (by decide)) q⟩
    · rw [k2, r7, if_neg (by omega), if_neg (by omega), if_neg (by omega), if_neg (by omega), if_pos ⟨rfl, rfl⟩]
    · rw [k2, r7, if_neg (by omega), if_neg (by omega), if_neg (by omega), if_pos ⟨rfl, rfl⟩]
    · rw [k2, r7, if_neg (by omega), if_neg (by omega), if_pos ⟨rfl, rfl⟩]
    · rw [k2, r7, if_neg (by omega), if_pos ⟨rfl, rfl⟩]
    · rw [k2, r7, if_pos ⟨rfl, rfl⟩]
  · rintro n i s hi ⟨k1, k2, k3⟩ kk
    show w_X2_clear_L28 g post (n + 1) _ s
    unfold w_X2_clear_L28
    rw [tnI (by omega)]
    refine ⟨fun q => absurd q (nI_ge (b := 4) hi (by decide)), fun _ => ⟨vp_in_nI hi (by omega), ?_⟩⟩
    rintro M1 rfl v rfl
    rw [nI_1]
    refine kk _ ⟨fun w hw => ?_, fun k => ?_, k3.trans (Fr.wr (by omega))⟩
    · by_cases q : w = i
      · rw [rd_eq ⟨rfl, q⟩]
      · rw [rd_ne (by omega)]; exact k1 w (by omega)
    · rw [rd_ne (by omega)]; exact k2 k
theorem c_xclear {M : Mem} {x : Nat} {post : Mem → Prop} (h : ∀ M', ExC M' x e00 → Fr x (x + 16) M M' → post M') : w_X1_clear x M post := by
  unfold w_X1_clear
  rintro M4 rfl M5 rfl M6 hM6
  have r6 : ∀ i k, rd M6 i k = if i = x ∧ k = 2 then 0 else if i = x ∧ k = 1 then 2 else if i = x ∧ k = 0 then 0 else rd M i k := fun i k => by
    rw [hM6, rd_wr, rd_wr, rd_wr]
  have f6 : Fr x (x + 16) M M6 := by rw [hM6]; repeat (first | exact Fr.refl | refine Fr.trans ?_ (Fr.wr (by omega)))
  clear hM6
  refine loop_0 (fun n i (s : Mem) => w_X1_clear_L17 x post n (nI i) s) (fun i s => (∀ t, t < i → GrC s (x + 6 + 2 * t) e00 t) ∧ (∀ k, rd s x k = rd M6 x k) ∧ Fr x (x + 16) M s) 5 M6 ⟨fun t ht => by omega, fun _ => rfl, f6⟩ ?_ ?_
  · rintro n s ⟨k1, k2, k3⟩
    show w_X1_clear_L17 x post (n + 1) _ s
    unfold w_X1_clear_L17
    refine ⟨fun _ => h s ⟨?_, ?_, ?_, fun a ha => absurd ha (Nat.not_lt_zero _), k1⟩ k3, fun q => absurd (nI_le (a := 5) (Nat.le_refl _) (by decide)) q⟩
    · rw [k2, r6, if_neg (by omega), if_neg (by omega), if_pos ⟨rfl, rfl⟩]; rfl
    · rw [k2, r6, if_neg (by omega), if_pos ⟨rfl, rfl⟩]; rfl
    · rw [k2, r6, if_pos ⟨rfl, rfl⟩]; rfl
  · rintro n i s hi ⟨k1, k2, k3⟩ kk
    show w_X1_clear_L17 x post (n + 1) _ s
    unfold w_X1_clear_L17
    rw [tnI (by omega)]
    refine ⟨fun q => absurd q (nI_ge (b := 5) hi (by decide)), fun _ => ⟨vp_in_nI hi (by omega), ?_⟩⟩
    rintro g hg
    obtain rfl : g = x + 6 + 2 * i := by omega
    refine c_gclear (fun M' g0 g1 g2 g3 g4 g5 g6 => ?_)
    rintro v rfl
    rw [nI_1]
    refine kk _ ⟨fun t ht => ?_, fun k => by rw [g6.row (by omega)]; exact k2 k, k3.trans (g6.sub (by omega))⟩
    by_cases q : t = i
    · subst q
      exact ⟨g0, g1, g2, by rw [g3, heldE_fr FR_00]; rfl, g4, g5⟩
    · exact (k1 t (by omega)).fr g6 (by omega)
theorem c_begin4 {M : Mem} {T : TP} {post : Mem → Prop} (hT : TapeC M T) (h : ∀ M', RdC M' d00 → rd M' 51 4 = 0 → rd M' 50 3 = 0 → rd M' 50 4 = 0 → TapeC M' T → FrR M M' → post M') : w_X4_begin M post := by
  unfold w_X4_begin w_X7_rewind
  rintro M1 rfl M2 rfl M3 hM3
  have r3 : ∀ i k, rd M3 i k = if i = 51 ∧ k = 4 then 0 else if i = 51 ∧ k = 3 then 0 else if i = 51 ∧ k = 2 then 0 else rd M i k := fun i k => by
    rw [hM3, rd_wr, rd_wr, rd_wr]
  clear hM3
  refine c_xclear (fun M4 a1 a2 => ?_)
  unfold w_X5_clear
  rintro M5 rfl M6 hM6
  have r6 : ∀ i k, rd M6 i k = if i = 69 ∧ k = 1 then 0 else if i = 69 ∧ k = 0 then 0 else rd M4 i k := fun i k => by
    rw [hM6, rd_wr, rd_wr]
  clear hM6
  rintro N1 rfl N2 rfl N3 rfl N4 rfl N5 rfl N6 hN6
  have r9 : ∀ i k, rd N6 i k = if i = 50 ∧ k = 8 then 0 else if i = 50 ∧ k = 7 then 0 else if i = 50 ∧ k = 6 then 0 else if i = 50 ∧ k = 5 then 0 else if i = 50 ∧ k = 4 then 0 else if i = 50 ∧ k = 3 then 0 else rd M6 i k := fun i k => by
    rw [hN6, rd_wr, rd_wr, rd_wr, rd_wr, rd_wr, rd_wr]
  clear hN6
  have o9 : ∀ i k, i ≠ 50 → rd N6 i k = rd M6 i k := fun i k hi => by rw [r9, if_neg (by omega), if_neg (by omega), if_neg (by omega), if_neg (by omega), if_neg (by omega), if_neg (by omega)]
  have o6 : ∀ i k, i ≠ 69 → rd M6 i k = rd M4 i k := fun i k hi => by rw [r6, if_neg (by omega), if_neg (by omega)]
  have fR : FrR M N6 := fun i q p => by rw [o9 _ _ (by omega), o6 _ _ (by omega), a2.row (by omega), r3, if_neg (by omega), if_neg (by omega), if_neg (by omega)]
  refine h N6 ⟨a1.at (fun i q _ _ => by rw [o9 _ _ (by omega), o6 _ _ (by omega)]), ⟨?_, ?_, fun i hi => absurd hi (Nat.not_lt_zero _), fun i hi => absurd hi (Nat.not_lt_zero _)⟩, ?_, ?_, ?_⟩ ?_ ?_ ?_ (hT.r fR) fR
  · rw [o9 _ _ (by omega), r6, if_neg (by omega), if_pos ⟨rfl, rfl⟩]; rfl
  · rw [o9 _ _ (by omega), r6, if_pos ⟨rfl, rfl⟩]; rfl
  · rw [r9, if_neg (by omega), if_neg (by omega), if_pos ⟨rfl, rfl⟩]; rfl
  · rw [r9, if_neg (by omega), if_pos ⟨rfl, rfl⟩]; rfl
  · rw [r9, if_pos ⟨rfl, rfl⟩]; rfl
  · rw [o9 _ _ (by omega), o6 _ _ (by omega), a2.row (by omega), r3, if_pos ⟨rfl, rfl⟩]
  · rw [r9, if_neg (by omega), if_neg (by omega), if_neg (by omega), if_neg (by omega), if_neg (by omega), if_pos ⟨rfl, rfl⟩]
  · rw [r9, if_neg (by omega), if_neg (by omega), if_neg (by omega), if_neg (by omega), if_pos ⟨rfl, rfl⟩]
theorem c_hasAll {M : Mem} {T : TP} {p : Nat} {d : DD} {post : Int32 → Mem → Prop} (hK : TokC M T p) (hR : RdC M d) (hD : DOK d) (ok : hiW (sW (dC d)) (sA (dC d)) ≤ eM (dE d) → post 1 M) (bad : ¬ hiW (sW (dC d)) (sA (dC d)) ≤ eM (dE d) → ∀ M', BadC M M' 6 (tS T p) → post 0 M') : w_X4_hasAllOnes M post := by
  have h8 := hD.2.2.1.1
  have hm := hD.1.m
  unfold w_X4_hasAllOnes
  refine loop_0 (fun n i (_ : Unit) => w_X4_hasAllOnes_L2 post n (nI i) M) (fun i _ => ∀ j, j < i → sW (dC d) j < eM (dE d)) (sA (dC d)) () (fun j hj => by omega) ?_ ?_
  · rintro n - k1
    show w_X4_hasAllOnes_L2 post (n + 1) _ M
    unfold w_X4_hasAllOnes_L2
    rw [hR.2.1.1]
    exact ⟨fun _ => ok ((hiW_le _).mpr k1), fun q => absurd (nI_le (Nat.le_refl _) (by omega)) q⟩
  · rintro n i - hi k1 kk
    show w_X4_hasAllOnes_L2 post (n + 1) _ M
    unfold w_X4_hasAllOnes_L2
    have hw := (hD.2.2.1.2.2 i hi).1
    rw [hR.2.1.1, tnI (by omega), show rd M 70 i = _ from (hR.2.1.2.2.1 i hi).1]
    refine ⟨fun q => absurd q (nI_ge hi (by omega)), fun _ => ⟨vp_in_nI (by omega) (by omega), ?_⟩⟩
    refine c_has hR.1.1 hD.1 (fun a ha hv => ⟨fun _ => ?_, fun q => absurd q (by decide)⟩) (fun no => ⟨fun q => absurd rfl q, fun _ => ?_⟩)
    · rintro v3 rfl
      rw [nI_1]
      refine kk () (fun j hj => ?_)
      by_cases q : j = i
      · rw [q]
        have := nI_inj (by omega) (by omega) hv
        omega
      · exact k1 j (by omega)
    · refine c_wrong (k := 6) hK.2.1 (fun M' c1 c2 c3 => ⟨zb_0, bad (fun z => ?_) M' ⟨c1, c2, c3⟩⟩)
      exact no _ ((hiW_le _).mp z i hi) rfl
theorem txL_s {T : TP} {f p n : Nat} {d : DD} : txL T (f + 1) p d n = if tK T p = 0 then (if hiW (sW (dC d)) (sA (dC d)) ≤ eM (dE d) then (0, 0, n, d) else (6, tS T p, n, d)) else
      if (lineO T p d).1 ≠ 0 then ((lineO T p d).1, (lineO T p d).2.1, n, (lineO T p d).2.2) else txL T f (lineO T p d).2.1 (lineO T p d).2.2 (n + 1) := rfl
theorem c_readAll {M : Mem} {T : TP} {post : Int32 → Mem → Prop} (hT : TapeC M T) (hO : OKT T) (ok : ∀ n d, txL T 161 0 d00 0 = (0, 0, n, d) → DOK d → hiW (sW (dC d)) (sA (dC d)) ≤ eM (dE d) → n < 1000 → ∀ M', RdC M' d → rd M' 50 3 = nI n → rd M' 50 4 = 0 → FrR M M' → post 1 M') (bad : ∀ f pl n d, txL T 161 0 d00 0 = (f, pl, n, d) → f ≠ 0 → ∀ M', BadC M M' f pl → post 0 M') : w_X4_readAll M post := by
  have hn := hO.1
  unfold w_X4_readAll
  refine c_begin4 hT (fun M1 a1 a2 a3 a4 a5 a6 => ?_)
  refine loop_0 (fun n i (s : Nat × DD × Mem) => w_X4_readAll_L6 post n (nI i) s.2.2) (fun i s => RdC s.2.2 s.2.1 ∧ DOK s.2.1 ∧ i ≤ s.1 ∧ s.1 ≤ T.1 ∧ rd s.2.2 51 4 = nI s.1 ∧ rd s.2.2 50 3 = nI i ∧ rd s.2.2 50 4 = 0 ∧ TapeC s.2.2 T ∧ FrR M s.2.2 ∧ txL T 161 0 d00 0 = txL T (161 - i) s.1 s.2.1 i) 161 (0, d00, M1) ⟨a1, DOK_00, Nat.le_refl _, Nat.zero_le _, a2, a3, a4, a5, a6, rfl⟩ ?_ ?_
  · rintro n ⟨x, d, s⟩ ⟨-, -, k3, k4, -⟩
    change 161 ≤ x at k3
    change x ≤ T.1 at k4
    omega
  · rintro n i ⟨x, d, s⟩ hi ⟨k1, k2, k3, k4, k5, k6, k7, k8, k9, k10⟩ kk
    show w_X4_readAll_L6 post (n + 1) _ s
    unfold w_X4_readAll_L6
    change RdC s d at k1
    change DOK d at k2
    change i ≤ x at k3
    change x ≤ T.1 at k4
    change rd s 51 4 = nI x at k5
    change rd s 50 3 = nI i at k6
    change rd s 50 4 = 0 at k7
    change TapeC s T at k8
    change FrR M s at k9
    change _ = txL T (161 - i) x d i at k10
    obtain ⟨j, hj⟩ : ∃ j, 161 - i = j + 1 := ⟨160 - i, by omega⟩
    rw [hj, txL_s (f := j)] at k10
    have tk4 := tK_4 (T := T) (p := x)
    refine ⟨fun q => absurd q (nI_nlt (a := 160) (b := i) (by omega) (by decide)), fun _ => ?_⟩
    refine c_next k8 hO k4 k5 (fun M3 b1 b2 b3 => ?_)
    have f3 := FrO.tok k8 b2 b3
    have hR3 := k1.fr b3 (by omega)
    rw [b1.1]
    refine ⟨fun q => ?_, fun q => ?_⟩
    · have n0 : tK T x ≠ 0 := fun z => q (by rw [z]; rfl)
      rw [if_neg n0] at k10
      refine c_readLine b1 hR3 b2 hO k4 k2 ⟨fun e M' g => ⟨fun _ => ?_, fun y => absurd y (by decide)⟩, fun e M' g => ⟨fun y => absurd rfl y, fun _ => ?_⟩⟩
      · rw [if_neg (fun z => z e)] at k10
        obtain ⟨d1, d2, d3⟩ := lineO_ok k2 k4 e
        obtain ⟨g1, g2, g3, g4⟩ := g
        rw [show rd M' 50 3 = nI i by rw [g4.2.1, f3.2.1]; exact k6, nI_1]
        rintro M6 hM6 v7 rfl
        have r6 : ∀ i' k, ¬ (i' = 50 ∧ k = 3) → rd M6 i' k = rd M' i' k := fun i' k p => by rw [hM6]; exact rd_ne (by omega)
        refine kk ((lineO T x d).2.1, (lineO T x d).2.2, M6) ⟨⟨g1.1.at (fun i q _ _ => r6 _ _ (by omega)), g1.2.1.at (fun i q _ _ => r6 _ _ (by omega)), ?_, ?_, ?_⟩, d1, by show i + 1 ≤ (lineO T x d).2.1; omega, d3, ?_, ?_, ?_, ?_, ?_, ?_⟩
        · rw [r6 _ _ (by omega)]; exact g1.2.2.1
        · rw [r6 _ _ (by omega)]; exact g1.2.2.2.1
        · rw [r6 _ _ (by omega)]; exact g1.2.2.2.2
        · show rd M6 51 4 = _
          rw [r6 _ _ (by omega)]; exact g2
        · show rd M6 50 3 = _
          rw [hM6]; exact rd_eq ⟨rfl, rfl⟩
        · show rd M6 50 4 = _
          rw [r6 _ _ (by omega), g4.2.2, f3.2.2]; exact k7
        · exact g3.fr (r6 _ _ (by omega)) (fun k => r6 _ _ (by omega))
        · refine ((k9.trans f3.1).trans g4.1).trans (fun i' q p => r6 _ _ (by omega))
        · rw [k10, show 161 - (i + 1) = j by omega]
      · rw [if_pos e] at k10
        exact bad _ _ _ _ k10 e M' ⟨g.1, g.2.1, (k9.trans f3.1).trans g.2.2⟩
    · have n0 : tK T x = 0 := nI_inj (by omega) (by decide) q
      rw [if_pos n0] at k10
      refine c_hasAll b1 hR3 k2 (fun e => ⟨zb_1, ?_⟩) (fun e M' g => ⟨zb_0, ?_⟩)
      · rw [if_pos e] at k10
        refine ok _ _ k10 k2 e (by omega) M3 hR3 (by rw [f3.2.1]; exact k6) (by rw [f3.2.2]; exact k7) (k9.trans f3.1)
      · rw [if_neg e] at k10
        exact bad _ _ _ _ k10 (by decide) M' ⟨g.1, g.2.1, (k9.trans f3.1).trans g.2.2⟩
