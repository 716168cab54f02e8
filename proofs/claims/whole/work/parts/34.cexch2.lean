/-! the class's exchange: copies, changes of a group, sums -/
theorem Fr.row {lo hi : Nat} {M M' : Mem} (h : Fr lo hi M M') {i : Nat} (hi' : i < lo ∨ hi ≤ i) (k : Nat) : rd M' i k = rd M i k := h.1 i k hi'
theorem c2_copyFrom {M : Mem} {g g' : Nat} {post : Mem → Prop} (hd : g + 2 ≤ g' ∨ g' + 2 ≤ g) (h : ∀ M', (∀ k, k < 5 → rd M' g k = rd M g' k) → (∀ w, w < 4 → rd M' (g + 1) w = rd M (g' + 1) w) → Fr g (g + 2) M M' → post M') : w_X2_copyFrom g g' M post := by
  unfold w_X2_copyFrom
  rintro M3 rfl M4 rfl M5 rfl M6 rfl M7 rfl
  have hF0 : Fr g (g + 2) M (wr (wr (wr (wr (wr M g 0 (rd M g' 0)) g 1 (rd (wr M g 0 (rd M g' 0)) g' 1)) g 2 (rd (wr (wr M g 0 (rd M g' 0)) g 1 (rd (wr M g 0 (rd M g' 0)) g' 1)) g' 2)) g 3 (rd (wr (wr (wr M g 0 (rd M g' 0)) g 1 (rd (wr M g 0 (rd M g' 0)) g' 1)) g 2 (rd (wr (wr M g 0 (rd M g' 0)) g 1 (rd (wr M g 0 (rd M g' 0)) g' 1)) g' 2)) g' 3)) g 4 (rd (wr (wr (wr (wr M g 0 (rd M g' 0)) g 1 (rd (wr M g 0 (rd M g' 0)) g' 1)) g 2 (rd (wr (wr M g 0 (rd M g' 0)) g 1 (rd (wr M g 0 (rd M g' 0)) g' 1)) g' 2)) g 3 (rd (wr (wr (wr M g 0 (rd M g' 0)) g 1 (rd (wr M g 0 (rd M g' 0)) g' 1)) g 2 (rd (wr (wr M g 0 (rd M g' 0)) g 1 (rd (wr M g 0 (rd M g' 0)) g' 1)) g' 2)) g' 3)) g' 4)) := by
    repeat (first | exact Fr.refl | refine Fr.trans ?_ (Fr.wr (by omega)))
  have hk0 : ∀ k, k < 5 → rd (wr (wr (wr (wr (wr M g 0 (rd M g' 0)) g 1 (rd (wr M g 0 (rd M g' 0)) g' 1)) g 2 (rd (wr (wr M g 0 (rd M g' 0)) g 1 (rd (wr M g 0 (rd M g' 0)) g' 1)) g' 2)) g 3 (rd (wr (wr (wr M g 0 (rd M g' 0)) g 1 (rd (wr M g 0 (rd M g' 0)) g' 1)) g 2 (rd (wr (wr M g 0 (rd M g' 0)) g 1 (rd (wr M g 0 (rd M g' 0)) g' 1)) g' 2)) g' 3)) g 4 (rd (wr (wr (wr (wr M g 0 (rd M g' 0)) g 1 (rd (wr M g 0 (rd M g' 0)) g' 1)) g 2 (rd (wr (wr M g 0 (rd M g' 0)) g 1 (rd (wr M g 0 (rd M g' 0)) g' 1)) g' 2)) g 3 (rd (wr (wr (wr M g 0 (rd M g' 0)) g 1 (rd (wr M g 0 (rd M g' 0)) g' 1)) g 2 (rd (wr (wr M g 0 (rd M g' 0)) g 1 (rd (wr M g 0 (rd M g' 0)) g' 1)) g' 2)) g' 3)) g' 4)) g k = rd M g' k := by
    intro k hk
    have : k = 0 ∨ k = 1 ∨ k = 2 ∨ k = 3 ∨ k = 4 := by omega
    rcases this with rfl | rfl | rfl | rfl | rfl <;> simp (disch := omega) only [rd_ne, rd_eq]
  generalize (wr (wr (wr (wr (wr M g 0 (rd M g' 0)) g 1 (rd (wr M g 0 (rd M g' 0)) g' 1)) g 2 (rd (wr (wr M g 0 (rd M g' 0)) g 1 (rd (wr M g 0 (rd M g' 0)) g' 1)) g' 2)) g 3 (rd (wr (wr (wr M g 0 (rd M g' 0)) g 1 (rd (wr M g 0 (rd M g' 0)) g' 1)) g 2 (rd (wr (wr M g 0 (rd M g' 0)) g 1 (rd (wr M g 0 (rd M g' 0)) g' 1)) g' 2)) g' 3)) g 4 (rd (wr (wr (wr (wr M g 0 (rd M g' 0)) g 1 (rd (wr M g 0 (rd M g' 0)) g' 1)) g 2 (rd (wr (wr M g 0 (rd M g' 0)) g 1 (rd (wr M g 0 (rd M g' 0)) g' 1)) g' 2)) g 3 (rd (wr (wr (wr M g 0 (rd M g' 0)) g 1 (rd (wr M g 0 (rd M g' 0)) g' 1)) g 2 (rd (wr (wr M g 0 (rd M g' 0)) g 1 (rd (wr M g 0 (rd M g' 0)) g' 1)) g' 2)) g' 3)) g' 4)) = M0 at hF0 hk0 ⊢
  refine loop_0 (fun n i (s : Mem) => w_X2_copyFrom_L42 g g' post n (nI i) s) (fun i s => (∀ k, k < 5 → rd s g k = rd M g' k) ∧ (∀ w, w < i → rd s (g + 1) w = rd M (g' + 1) w) ∧ Fr g (g + 2) M s) 4 M0 ⟨hk0, fun w hw => by omega, hF0⟩ ?_ ?_
  · rintro n s ⟨h1, h2, h3⟩
    show w_X2_copyFrom_L42 g g' post (n + 1) _ s
    unfold w_X2_copyFrom_L42
    exact ⟨fun _ => h s h1 h2 h3, fun c => absurd (nI_le (Nat.le_refl 4) (by omega)) c⟩
  · rintro n i s hi ⟨h1, h2, h3⟩ kk
    show w_X2_copyFrom_L42 g g' post (n + 1) _ s
    unfold w_X2_copyFrom_L42
    rw [tnI (by omega)]
    refine ⟨fun c => absurd c (nI_ge hi (by decide)), fun _ => ⟨vp_in_nI hi (by omega), vp_in_nI hi (by omega), ?_⟩⟩
    rintro M1 rfl v2 rfl
    rw [nI_1]
    refine kk _ ⟨fun k hk => ?_, fun w hw => ?_, h3.trans (Fr.wr (by omega))⟩
    · simp (disch := omega) only [rd_ne]; exact h1 k hk
    · by_cases q : w = i
      · simp (disch := omega) only [rd_eq]
        rw [h3.row (by omega), q]
      · simp (disch := omega) only [rd_ne]; exact h2 w (by omega)
theorem c1_copyFrom {M : Mem} {x y : Nat} {e : EX} {post : Mem → Prop} (hM : ExC M y e) (hV : VE e) (hd : x + 16 ≤ y ∨ y + 16 ≤ x) (h : ∀ M', ExC M' x e → Fr x (x + 16) M M' → post M') : w_X1_copyFrom x y M post := by
  have hm := hV.m
  obtain ⟨h1, h2, h3, h4, h5⟩ := hM
  unfold w_X1_copyFrom
  rintro M10 rfl M11 rfl M12 rfl
  refine loop_0 (fun n i (s : Mem) => w_X1_copyFrom_L26 x y post n (nI i) s) (fun i s => (rd s x 0 = nI (eM e) ∧ rd s x 1 = nI (eF e) ∧ rd s x 2 = nI (callsE e)) ∧ (∀ a, a < i → rd s (x + 1) a = nI (eN e a) ∧ rd s (x + 2) a = mI e a ∧ rd s (x + 3) a = nI (eS e a) ∧ rd s (x + 4) a = hI e a) ∧ Fr x (x + 16) M s) (eM e) _ ⟨⟨?_, ?_, ?_⟩, fun a ha => by omega, ?_⟩ ?_ ?_
  · simp (disch := omega) only [rd_ne, rd_eq]; exact h1
  · simp (disch := omega) only [rd_ne, rd_eq]; exact h2
  · simp (disch := omega) only [rd_ne, rd_eq]; exact h3
  · repeat (first | exact Fr.refl | refine Fr.trans ?_ (Fr.wr (by omega)))
  · rintro n s ⟨⟨k1, k2, k3⟩, k4, k5⟩
    show w_X1_copyFrom_L26 x y post (n + 1) _ s
    unfold w_X1_copyFrom_L26
    rw [k1]
    refine ⟨fun _ => ?_, fun c => absurd (nI_le (Nat.le_refl _) (by omega)) c⟩
    refine loop_0 (fun n i (s : Mem) => w_X1_copyFrom_L90 x y post n (nI i) s) (fun i s => (rd s x 0 = nI (eM e) ∧ rd s x 1 = nI (eF e) ∧ rd s x 2 = nI (callsE e)) ∧ (∀ a, a < eM e → rd s (x + 1) a = nI (eN e a) ∧ rd s (x + 2) a = mI e a ∧ rd s (x + 3) a = nI (eS e a) ∧ rd s (x + 4) a = hI e a) ∧ (∀ t, t < i → GrC s (x + 6 + 2 * t) e t) ∧ Fr x (x + 16) M s) 5 s ⟨⟨k1, k2, k3⟩, k4, fun t ht => by omega, k5⟩ ?_ ?_
    · rintro n s ⟨⟨k1, k2, k3⟩, k4, k5, k6⟩
      show w_X1_copyFrom_L90 x y post (n + 1) _ s
      unfold w_X1_copyFrom_L90
      exact ⟨fun _ => h s ⟨k1, k2, k3, k4, k5⟩ k6, fun c => absurd (nI_le (Nat.le_refl 5) (by omega)) c⟩
    · rintro n i s hi ⟨⟨k1, k2, k3⟩, k4, k5, k6⟩ kk
      show w_X1_copyFrom_L90 x y post (n + 1) _ s
      unfold w_X1_copyFrom_L90
      rw [tnI (by omega)]
      refine ⟨fun c => absurd c (nI_ge hi (by decide)), fun _ => ⟨vp_in_nI hi (by omega), ?_⟩⟩
      rintro g1 hg1
      refine ⟨vp_in_nI hi (by omega), ?_⟩
      rintro g2 hg2
      refine c2_copyFrom (by omega) (fun M' j1 j2 j3 => ?_)
      rintro v4 rfl
      rw [nI_1]
      have jr : ∀ i' k', i' < x + 6 + 2 * i ∨ x + 6 + 2 * i + 2 ≤ i' → rd M' i' k' = rd s i' k' := fun i' k' q => j3.row (by omega) k'
      refine kk _ ⟨⟨?_, ?_, ?_⟩, fun a ha => ?_, fun t ht => ?_, k6.trans (j3.sub (by omega))⟩
      · rw [jr _ _ (by omega)]; exact k1
      · rw [jr _ _ (by omega)]; exact k2
      · rw [jr _ _ (by omega)]; exact k3
      · rw [jr _ _ (by omega), jr _ _ (by omega), jr _ _ (by omega), jr _ _ (by omega)]; exact k4 a ha
      · by_cases q : t = i
        · have e1 : x + 6 + 2 * t = g1 := by omega
          rw [e1]
          obtain ⟨z1, z2, z3, z4, z5, z6⟩ := h5 t (by omega)
          have e2 : y + 6 + 2 * t = g2 := by omega
          rw [e2] at z1 z2 z3 z4 z5 z6
          have sy : ∀ i' k', y ≤ i' → i' < y + 16 → rd s i' k' = rd M i' k' := fun i' k' a b => k6.row (by omega) k'
          refine ⟨?_, ?_, ?_, ?_, ?_, fun w hw => ?_⟩
          · rw [j1 _ (by omega), sy _ _ (by omega) (by omega)]; exact z1
          · rw [j1 _ (by omega), sy _ _ (by omega) (by omega)]; exact z2
          · rw [j1 _ (by omega), sy _ _ (by omega) (by omega)]; exact z3
          · rw [j1 _ (by omega), sy _ _ (by omega) (by omega)]; exact z4
          · rw [j1 _ (by omega), sy _ _ (by omega) (by omega)]; exact z5
          · rw [j2 _ hw, sy _ _ (by omega) (by omega)]; exact z6 w hw
        · exact (k5 t (by omega)).fr j3 (by omega)
  · rintro n i s hi ⟨⟨k1, k2, k3⟩, k4, k5⟩ kk
    show w_X1_copyFrom_L26 x y post (n + 1) _ s
    unfold w_X1_copyFrom_L26
    rw [k1, tnI (by omega)]
    have v6 : vp_in (nI i) 6 := vp_in_nI (by omega) (by omega)
    refine ⟨fun c => absurd c (nI_ge hi (by omega)), fun _ => ⟨v6, v6, ?_⟩⟩
    rintro M5 rfl
    refine ⟨v6, v6, ?_⟩
    rintro M6 rfl
    refine ⟨v6, v6, ?_⟩
    rintro M7 rfl
    refine ⟨v6, v6, ?_⟩
    rintro M8 rfl v9 rfl
    rw [nI_1]
    have sy : ∀ i' k', y ≤ i' → i' < y + 16 → rd s i' k' = rd M i' k' := fun i' k' a b => k5.row (by omega) k'
    obtain ⟨z1, z2, z3, z4⟩ := h4 i hi
    refine kk _ ⟨⟨?_, ?_, ?_⟩, fun a ha => ?_, ?_⟩
    · simp (disch := omega) only [rd_ne, rd_eq]; exact k1
    · simp (disch := omega) only [rd_ne, rd_eq]; exact k2
    · simp (disch := omega) only [rd_ne, rd_eq]; exact k3
    · by_cases q : a = i
      · simp (disch := omega) only [rd_ne, rd_eq]
        rw [sy _ _ (by omega) (by omega), sy _ _ (by omega) (by omega), sy _ _ (by omega) (by omega), sy _ _ (by omega) (by omega), q]
        exact ⟨z1, z2, z3, z4⟩
      · simp (disch := omega) only [rd_ne, rd_eq]; exact k4 a (by omega)
    · refine k5.trans ?_
      repeat (first | exact Fr.refl | refine Fr.trans ?_ (Fr.wr (by omega)))
/-- changes -/
def sizeE (e : EX) (t n : Nat) : EX := (eM e, eF e, eN e, eS e, eT e, eH e, eK e, up (eZ e) t n, up (eD e) t (eD e t % 2 ^ n), up (eL e) t (if n < eL e t then 0 else eL e t), fun t' w => if t' = t ∧ n ≤ w then 0 else eU e t' w)
def kindE (e : EX) (t k : Nat) : EX := (eM e, eF e, eN e, eS e, eT e, eH e, up (eK e) t k, eZ e, eD e, eL e, eU e)
def deadE (e : EX) (t d : Nat) : EX := (eM e, eF e, eN e, eS e, eT e, eH e, eK e, eZ e, up (eD e) t d, eL e, eU e)
def finE (e : EX) (f : Nat) : EX := (eM e, f, eN e, eS e, eT e, eH e, eK e, eZ e, eD e, eL e, eU e)
def numE (e : EX) (a n : Nat) : EX := (eM e, eF e, up (eN e) a n, eS e, eT e, eH e, eK e, eZ e, eD e, eL e, eU e)
def swapE (e : EX) (a b : Nat) : EX := (eM e, eF e, up (up (eN e) a (eN e b)) b (eN e a), eS e, eT e, eH e, eK e, eZ e, eD e, eL e, eU e)
theorem heldE_sizeE {e : EX} {t n t' : Nat} : heldE (sizeE e t n) t' = heldE e t' := hN_congr _ (fun _ _ => ⟨rfl, fun _ => rfl⟩)
theorem heldE_kindE {e : EX} {t n t' : Nat} : heldE (kindE e t n) t' = heldE e t' := hN_congr _ (fun _ _ => ⟨rfl, fun _ => rfl⟩)
theorem heldE_deadE {e : EX} {t n t' : Nat} : heldE (deadE e t n) t' = heldE e t' := hN_congr _ (fun _ _ => ⟨rfl, fun _ => rfl⟩)
theorem heldE_finE {e : EX} {n t' : Nat} : heldE (finE e n) t' = heldE e t' := hN_congr _ (fun _ _ => ⟨rfl, fun _ => rfl⟩)
theorem heldE_numE {e : EX} {a n t' : Nat} : heldE (numE e a n) t' = heldE e t' := hN_congr _ (fun _ _ => ⟨rfl, fun _ => rfl⟩)
theorem heldE_swapE {e : EX} {a n t' : Nat} : heldE (swapE e a n) t' = heldE e t' := hN_congr _ (fun _ _ => ⟨rfl, fun _ => rfl⟩)
theorem VE_sizeE {e : EX} (hV : VE e) {t n : Nat} (ht : t < 5) (hn : n ≤ 4) (hh : heldE e t < 2 ^ n) : VE (sizeE e t n) := by
  obtain ⟨h1, h2, h3, h4, h5, h6, h7, h8⟩ := hV
  refine ⟨h1, h2, h3, h4, h5, fun a ha hs => ?_, h7, fun t' ht' => ?_⟩
  · obtain ⟨k1, k2, k3, k4, k5, k6⟩ := h6 a ha hs
    refine ⟨k1, k2, k3, k4, k5, ?_⟩
    show eH e a % 10 < up (eZ e) t n (eH e a / 10)
    by_cases q : eH e a / 10 = t
    · rw [up_eq q]
      have key : ∃ c, c < eM e ∧ eS e c = 1 ∧ eH e c = eH e a := by
        have := h5 a ha
        have hs : eS e a ≠ 0 := hs
        by_cases z : eS e a = 1
        · exact ⟨a, ha, z, rfl⟩
        · exact ⟨eT e a, k1, by omega, k4⟩
      obtain ⟨c, c1, c2, c3⟩ := key
      have hb : (heldE e t).testBit (eH e a % 10) = true := (hN_bit _).mpr ⟨c, c1, c2, by rw [c3]; exact q, by rw [c3]⟩
      rcases Nat.lt_or_ge (eH e a % 10) n with z | z
      · exact z
      · have : heldE e t < 2 ^ (eH e a % 10) := Nat.lt_of_lt_of_le hh (Nat.pow_le_pow_right (by omega) z)
        rw [Nat.testBit_lt_two_pow this] at hb
        exact absurd hb (by decide)
    · rw [up_ne q]; exact k6
  · obtain ⟨k1, k2, k3, k4, k5⟩ := h8 t' ht'
    refine ⟨k1, ?_, ?_, ?_, fun w hw hw4 => ?_⟩
    · show up (eZ e) t n t' ≤ 4
      by_cases q : t' = t
      · rw [up_eq q]; exact hn
      · rw [up_ne q]; exact k2
    · show up (eD e) t (eD e t % 2 ^ n) t' < 2 ^ up (eZ e) t n t'
      by_cases q : t' = t
      · rw [up_eq q, up_eq q]; exact Nat.mod_lt _ (Nat.two_pow_pos n)
      · rw [up_ne q, up_ne q]; exact k3
    · show up (eL e) t (if n < eL e t then 0 else eL e t) t' ≤ up (eZ e) t n t'
      by_cases q : t' = t
      · rw [up_eq q, up_eq q]; split <;> omega
      · rw [up_ne q, up_ne q]; exact k4
    · show (if t' = t ∧ n ≤ w then 0 else eU e t' w) = 0
      change up (eZ e) t n t' ≤ w at hw
      by_cases q : t' = t
      · rw [up_eq q] at hw; rw [if_pos ⟨q, hw⟩]
      · rw [up_ne q] at hw; rw [if_neg (fun z => q z.1)]; exact k5 w hw hw4
theorem VE_kindE {e : EX} (hV : VE e) {t k : Nat} (hk : k ≤ 3) : VE (kindE e t k) := by
  obtain ⟨h1, h2, h3, h4, h5, h6, h7, h8⟩ := hV
  refine ⟨h1, h2, h3, h4, h5, h6, h7, fun t' ht' => ⟨?_, (h8 t' ht').2⟩⟩
  show up (eK e) t k t' ≤ 3
  by_cases q : t' = t
  · rw [up_eq q]; exact hk
  · rw [up_ne q]; exact (h8 t' ht').1
theorem VE_deadE {e : EX} (hV : VE e) {t d : Nat} (hd : d < 2 ^ eZ e t) : VE (deadE e t d) := by
  obtain ⟨h1, h2, h3, h4, h5, h6, h7, h8⟩ := hV
  refine ⟨h1, h2, h3, h4, h5, h6, h7, fun t' ht' => ⟨(h8 t' ht').1, (h8 t' ht').2.1, ?_, (h8 t' ht').2.2.2⟩⟩
  show up (eD e) t d t' < 2 ^ eZ e t'
  by_cases q : t' = t
  · rw [up_eq q, q]; exact hd
  · rw [up_ne q]; exact (h8 t' ht').2.2.1
theorem VE_finE {e : EX} (hV : VE e) {f : Nat} (hf : 1 ≤ f ∧ f ≤ 6) : VE (finE e f) := ⟨hV.1, hf, hV.2.2⟩
theorem VE_numE {e : EX} (hV : VE e) {a n : Nat} (hn : n ≤ 44 ∧ n % 10 ≤ 4) (hu : ∀ b, b < eM e → b ≠ a → eN e b ≠ n) : VE (numE e a n) := by
  obtain ⟨h1, h2, h3, h4, h5, h6, h7, h8⟩ := hV
  refine ⟨h1, h2, fun c hc => ?_, fun c d hc hd hcd => ?_, h5, h6, h7, h8⟩
  · show up (eN e) a n c ≤ 44 ∧ up (eN e) a n c % 10 ≤ 4
    by_cases q : c = a
    · rw [up_eq q]; exact hn
    · rw [up_ne q]; exact h3 c hc
  · change up (eN e) a n c = up (eN e) a n d at hcd
    by_cases q : c = a <;> by_cases q2 : d = a
    · rw [q, q2]
    · rw [up_eq q, up_ne q2] at hcd; exact absurd hcd.symm (hu d hd q2)
    · rw [up_ne q, up_eq q2] at hcd; exact absurd hcd (hu c hc q)
    · rw [up_ne q, up_ne q2] at hcd; exact h4 c d hc hd hcd
theorem VE_swapE {e : EX} (hV : VE e) {a b : Nat} (ha : a < eM e) (hb : b < eM e) (hab : a ≠ b) : VE (swapE e a b) := by
  obtain ⟨h1, h2, h3, h4, h5, h6, h7, h8⟩ := hV
  have key : ∀ c, c < eM e → up (up (eN e) a (eN e b)) b (eN e a) c = eN e (if c = b then a else if c = a then b else c) := fun c _ => by
    by_cases q : c = b
    · rw [up_eq q, if_pos q]
    · rw [up_ne q, if_neg q]
      by_cases q2 : c = a
      · rw [up_eq q2, if_pos q2]
      · rw [up_ne q2, if_neg q2]
  have lt : ∀ c, c < eM e → (if c = b then a else if c = a then b else c) < eM e := fun c hc => by split; exact ha; split; exact hb; exact hc
  refine ⟨h1, h2, fun c hc => ?_, fun c d hc hd hcd => ?_, h5, h6, h7, h8⟩
  · show up (up (eN e) a (eN e b)) b (eN e a) c ≤ 44 ∧ up (up (eN e) a (eN e b)) b (eN e a) c % 10 ≤ 4
    rw [key c hc]; exact h3 _ (lt c hc)
  · change up (up (eN e) a (eN e b)) b (eN e a) c = up (up (eN e) a (eN e b)) b (eN e a) d at hcd
    rw [key c hc, key d hd] at hcd
    have := h4 _ _ (lt c hc) (lt d hd) hcd
    split at this <;> split at this <;> (try split at this) <;> (try split at this) <;> omega
theorem ExC.grp {M M' : Mem} {x t : Nat} {e e' : EX} (h : ExC M x e) (hG : GrC M' (x + 6 + 2 * t) e' t) (ht : t < 5) (hF : Fr (x + 6 + 2 * t) (x + 6 + 2 * t + 2) M M') (h1 : eM e' = eM e) (h2 : eF e' = eF e) (h3 : eN e' = eN e ∧ eS e' = eS e ∧ eT e' = eT e ∧ eH e' = eH e) (h4 : ∀ t', t' ≠ t → eK e' t' = eK e t' ∧ eZ e' t' = eZ e t' ∧ eD e' t' = eD e t' ∧ eL e' t' = eL e t' ∧ ∀ w, eU e' t' w = eU e t' w) : ExC M' x e' := by
  obtain ⟨k1, k2, k3, k4, k5⟩ := h
  obtain ⟨n1, n2, n3, n4⟩ := h3
  refine ⟨by rw [hF.row (by omega), h1]; exact k1, by rw [hF.row (by omega), h2]; exact k2, ?_, fun a ha => ?_, fun t' ht' => ?_⟩
  · rw [hF.row (by omega)]; unfold callsE; rw [n2, h1]; exact k3
  · rw [hF.row (by omega), hF.row (by omega), hF.row (by omega), hF.row (by omega)]
    unfold mI hI
    rw [n1, n2, n3, n4]
    exact k4 a (by rw [← h1]; exact ha)
  · by_cases q : t' = t
    · rw [q]; exact hG
    · obtain ⟨g1, g2, g3, g4, g5, g6⟩ := (k5 t' ht').fr hF (by omega)
      obtain ⟨z1, z2, z3, z4, z5⟩ := h4 t' q
      have hh : heldE e' t' = heldE e t' := by unfold heldE; rw [h1]; exact hN_congr _ (fun a _ => ⟨by rw [n2], fun _ => by rw [n4]⟩)
      unfold GrC
      rw [z1, z2, z3, z4, hh]
      exact ⟨g1, g2, g3, g4, g5, fun w hw => by rw [z5]; exact g6 w hw⟩
theorem dead16 : ∀ d, d < 16 → ∀ n, n < 5 → (nI d &&& (ishl 1 (nI n) - 1)) = nI (d % 2 ^ n) := by decide +kernel
theorem VE.d16 {e : EX} (h : VE e) {t : Nat} (ht : t < 5) : eD e t < 16 := by
  obtain ⟨-, hz, hd, -⟩ := h.2.2.2.2.2.2.2 t ht
  have : 2 ^ eZ e t ≤ 2 ^ 4 := Nat.pow_le_pow_right (by omega) hz
  omega
theorem c_resize {M : Mem} {x t n g : Nat} {e : EX} {post : Mem → Prop} (hM : ExC M x e) (hV : VE e) (ht : t < 5) (hn : n ≤ 4) (hg : g = x + 6 + 2 * t) (h : ∀ M', ExC M' x (sizeE e t n) → Fr x (x + 16) M M' → post M') : w_X2_resize g (nI n) M post := by
  subst hg
  obtain ⟨g1, g2, g3, g4, g5, g6⟩ := hM.2.2.2.2 t ht
  have hl := (hV.2.2.2.2.2.2.2 t ht).2.2.2.1
  have hz := (hV.2.2.2.2.2.2.2 t ht).2.1
  have fin : ∀ s : Mem, Fr (x + 6 + 2 * t) (x + 6 + 2 * t + 2) M s → rd s (x + 6 + 2 * t) 0 = nI (eK e t) → rd s (x + 6 + 2 * t) 1 = nI n → rd s (x + 6 + 2 * t) 2 = nI (eD e t % 2 ^ n) → rd s (x + 6 + 2 * t) 3 = nI (heldE e t) → rd s (x + 6 + 2 * t) 4 = oI (if n < eL e t then 0 else eL e t) → (∀ w, w < 4 → rd s (x + 6 + 2 * t + 1) w = if n ≤ w then 0 else eU e t w) → post s := by
    intro s hF k0 k1 k2 k3 k4 k5
    refine h s (hM.grp (e' := sizeE e t n) ⟨k0, ?_, ?_, ?_, ?_, fun w hw => ?_⟩ ht hF rfl rfl ⟨rfl, rfl, rfl, rfl⟩ (fun t' q => ⟨rfl, up_ne q, up_ne q, up_ne q, fun w => if_neg (fun z => q z.1)⟩)) (hF.sub (by omega))
    · rw [k1]; show _ = nI (up (eZ e) t n t); rw [up_eq rfl]
    · rw [k2]; show _ = nI (up (eD e) t _ t); rw [up_eq rfl]
    · rw [heldE_sizeE]; exact k3
    · rw [k4]; show _ = oI (up (eL e) t _ t); rw [up_eq rfl]
    · rw [k5 w hw]
      show _ = if t = t ∧ n ≤ w then 0 else eU e t w
      by_cases q : n ≤ w
      · rw [if_pos q, if_pos ⟨rfl, q⟩]
      · rw [if_neg q, if_neg (fun z => q z.2)]
  unfold w_X2_resize
  rintro M4 rfl M5 rfl
  refine pk_loop (fun k i (s : Mem) => w_X2_resize_L21 (x + 6 + 2 * t) post (nI n) k (nI i) s) (fun i s => (n ≤ i) ∧ Fr (x + 6 + 2 * t) (x + 6 + 2 * t + 2) M s ∧ rd s (x + 6 + 2 * t) 0 = nI (eK e t) ∧ rd s (x + 6 + 2 * t) 1 = nI n ∧ rd s (x + 6 + 2 * t) 2 = nI (eD e t % 2 ^ n) ∧ rd s (x + 6 + 2 * t) 3 = nI (heldE e t) ∧ rd s (x + 6 + 2 * t) 4 = oI (eL e t) ∧ (∀ w, w < 4 → rd s (x + 6 + 2 * t + 1) w = if n ≤ w ∧ w < i then 0 else eU e t w)) 4 n _ hn ⟨Nat.le_refl _, ?_, ?_, ?_, ?_, ?_, ?_, fun w hw => ?_⟩ ?_ ?_
  · repeat (first | exact Fr.refl | refine Fr.trans ?_ (Fr.wr (by omega)))
  · simp (disch := omega) only [rd_ne, rd_eq]; exact g1
  · simp (disch := omega) only [rd_ne, rd_eq]
  · simp (disch := omega) only [rd_ne, rd_eq]; rw [g3, dead16 _ (hV.d16 ht) _ (by omega)]
  · simp (disch := omega) only [rd_ne, rd_eq]; exact g4
  · simp (disch := omega) only [rd_ne, rd_eq]; exact g5
  · simp (disch := omega) only [rd_ne, rd_eq]
    rw [g6 w hw, if_neg (by omega)]
  · rintro k s ⟨-, k0, k1, k2, k3, k4, k5, k6⟩
    show w_X2_resize_L21 _ post _ (k + 1) _ s
    unfold w_X2_resize_L21
    refine ⟨fun _ => ?_, fun c => absurd (nI_le (Nat.le_refl 4) (by omega)) c⟩
    have k6' : ∀ w, w < 4 → rd s (x + 6 + 2 * t + 1) w = if n ≤ w then 0 else eU e t w := fun w hw => by
      rw [k6 w hw]
      by_cases q : n ≤ w
      · rw [if_pos ⟨q, hw⟩, if_pos q]
      · rw [if_neg (fun z => q z.1), if_neg q]
    rw [k5]
    refine ⟨fun c => ?_, fun c => ?_⟩
    · refine fin s k0 k1 k2 k3 k4 ?_ k6'
      rw [k5]
      have : ¬ n < eL e t := fun z => by
        obtain ⟨l, hl'⟩ : ∃ l, eL e t = l + 1 := ⟨eL e t - 1, by omega⟩
        rw [hl', oI_s] at c
        have := (nI_ltI (by omega) (by omega)).mp c
        omega
      rw [if_neg this]
    · rintro M1 rfl
      have hn' : n < eL e t := by
        rcases Nat.eq_zero_or_pos (eL e t) with z | z
        · rw [z] at c
          have h4 : oI 0 < nI n := by
            have : ∀ n, n ≤ 4 → oI 0 < nI n := by decide +kernel
            exact this n hn
          exact absurd h4 c
        · obtain ⟨l, hl'⟩ : ∃ l, eL e t = l + 1 := ⟨eL e t - 1, by omega⟩
          rw [hl', oI_s] at c
          rcases Nat.lt_or_ge l n with z | z
          · exact absurd (nI_lt z (by omega)) c
          · omega
      refine fin _ (k0.trans (Fr.wr (by omega))) ?_ ?_ ?_ ?_ ?_ (fun w hw => ?_)
      · simp (disch := omega) only [rd_ne, rd_eq]; exact k1
      · simp (disch := omega) only [rd_ne, rd_eq]; exact k2
      · simp (disch := omega) only [rd_ne, rd_eq]; exact k3
      · simp (disch := omega) only [rd_ne, rd_eq]; exact k4
      · simp (disch := omega) only [rd_ne, rd_eq]; rw [if_pos hn']; rfl
      · simp (disch := omega) only [rd_ne, rd_eq]; exact k6' w hw
  · rintro k i s hi ⟨hni, k0, k1, k2, k3, k4, k5, k6⟩ kk
    show w_X2_resize_L21 _ post _ (k + 1) _ s
    unfold w_X2_resize_L21
    rw [tnI (by omega)]
    refine ⟨fun c => absurd c (nI_ge hi (by decide)), fun _ => ⟨vp_in_nI hi (by omega), ?_⟩⟩
    rintro M2 rfl v3 rfl
    rw [nI_1]
    refine kk _ ⟨by omega, k0.trans (Fr.wr (by omega)), ?_, ?_, ?_, ?_, ?_, fun w hw => ?_⟩
    · simp (disch := omega) only [rd_ne, rd_eq]; exact k1
    · simp (disch := omega) only [rd_ne, rd_eq]; exact k2
    · simp (disch := omega) only [rd_ne, rd_eq]; exact k3
    · simp (disch := omega) only [rd_ne, rd_eq]; exact k4
    · simp (disch := omega) only [rd_ne, rd_eq]; exact k5
    · by_cases q : w = i
      · simp (disch := omega) only [rd_ne, rd_eq]; rw [if_pos (by omega)]
      · simp (disch := omega) only [rd_ne, rd_eq]
        rw [k6 w hw]
        by_cases q2 : n ≤ w ∧ w < i
        · rw [if_pos q2, if_pos (by omega)]
        · rw [if_neg q2, if_neg (by omega)]
theorem c_isFreeFrom {M : Mem} {g t n : Nat} {e : EX} {post : Int32 → Mem → Prop} (hV : VE e) (ht : t < 5) (hG : rd M g 3 = nI (heldE e t)) (hn : n < 5) (h : post (if heldE e t < 2 ^ n then 1 else 0) M) : w_X2_isFreeFrom g (nI n) M post := by
  unfold w_X2_isFreeFrom
  have h16 := heldE_16 hV ht
  rw [hG, shr16 _ h16 _ hn]
  have hlt : heldE e t / 2 ^ n < 2 ^ 31 := Nat.lt_of_le_of_lt (Nat.div_le_self _ _) (by omega)
  by_cases q : heldE e t < 2 ^ n
  · rw [if_pos q] at h
    exact ⟨fun c => absurd (by rw [Nat.div_eq_of_lt q]; rfl) c, fun _ => h⟩
  · rw [if_neg q] at h
    refine ⟨fun _ => h, fun c => ?_⟩
    have := nI_inj (b := 0) hlt (by decide) c
    have h2 : 0 < heldE e t / 2 ^ n := Nat.div_pos (by omega) (Nat.two_pow_pos n)
    omega
