/-! odds: weights and sums -/
def prodN (f : Nat → Nat) : Nat → Nat
  | 0 => 1
  | n + 1 => prodN f n * f n
theorem prodN_le {f : Nat → Nat} : ∀ n, (∀ i, i < n → f i ≤ 10) → prodN f n ≤ 10 ^ n := by
  intro n
  induction n with
  | zero => intro _; exact Nat.le_refl _
  | succ n ih =>
    intro h
    simp only [prodN]
    rw [Nat.pow_succ]
    exact Nat.mul_le_mul (ih (fun i hi => h i (by omega))) (h n (by omega))
theorem prodN_0 {f : Nat → Nat} {i : Nat} (h : f i = 0) : ∀ n, i < n → prodN f n = 0 := by
  intro n
  induction n with
  | zero => intro h; omega
  | succ n ih =>
    intro hi
    simp only [prodN]
    by_cases q : i = n
    · rw [← q, h, Nat.mul_zero]
    · rw [ih (by omega), Nat.zero_mul]
def wayF (c : SC) (v x i : Nat) : Nat := if sD c i = 99 then (if x.testBit i = true then 0 else 1) else if x.testBit i = true then v else 10 - v
def waysN (c : SC) (v x : Nat) : Nat := prodN (wayF c v x) (sA c)
theorem wayF_le {c : SC} {v x i : Nat} (hv : v ≤ 10) : wayF c v x i ≤ 10 := by
  unfold wayF
  split <;> split <;> omega
theorem waysN_le {c : SC} {v x m : Nat} (hv : v ≤ 10) (hVS : VS m c) : waysN c v x ≤ 100000000 := by
  refine Nat.le_trans (prodN_le _ (fun i _ => wayF_le hv)) ?_
  have := Nat.pow_le_pow_right (n := 10) (by omega) hVS.1
  exact Nat.le_trans this (by decide)
theorem cnt_tail {p : Nat → Bool} {a : Nat} (h : ∀ i, a ≤ i → p i = false) : ∀ k, cnt p (a + k) = cnt p a := by
  intro k
  induction k with
  | zero => rfl
  | succ k ih => show cnt p (a + k) + (if p (a + k) then 1 else 0) = _; rw [ih, h _ (by omega)]; rfl
theorem cnt_t {p : Nat → Bool} {n : Nat} (h : p n = true) : cnt p (n + 1) = cnt p n + 1 := by
  simp only [cnt]
  rw [if_pos h]
theorem cnt_f {p : Nat → Bool} {n : Nat} (h : p n = false) : cnt p (n + 1) = cnt p n := by
  simp only [cnt]
  rw [if_neg (by rw [h]; decide)]
  rfl
theorem cnt_sub {p q : Nat → Bool} : ∀ n, (∀ i, i < n → p i = true → q i = true) → cnt q n = cnt p n + cnt (fun i => q i && !p i) n := by
  intro n
  induction n with
  | zero => intro _; rfl
  | succ n ih =>
    intro h
    have h0 := ih (fun i hi => h i (by omega))
    have h1 := h n (by omega)
    rcases Bool.eq_false_or_eq_true (p n) with hp | hp
    · have hq := h1 hp
      rw [cnt_t hp, cnt_t hq, cnt_f (p := fun i => q i && !p i) (by simp [hp]), h0]
      omega
    · rcases Bool.eq_false_or_eq_true (q n) with hq | hq
      · rw [cnt_f hp, cnt_t hq, cnt_t (p := fun i => q i && !p i) (by simp [hp, hq]), h0]
        omega
      · rw [cnt_f hp, cnt_f hq, cnt_f (p := fun i => q i && !p i) (by simp [hq]), h0]
def popN (m : Nat) : Nat := cnt (fun i => m.testBit i) 8
theorem weight_eq {c : SC} {v m : Nat} (hA : sA c ≤ 8) (hm : subB m (DN c) = true) : (10 - v) ^ popN m * v ^ (popN (DN c) - popN m) = waysN c v (m ^^^ DN c) := by
  have hb := sub_bit.mp hm
  have hD : ∀ i, (DN c).testBit i = (decide (i < sA c) && dB c i) := fun i => bN_bit _
  have hDt : ∀ i, sA c ≤ i → (DN c).testBit i = false := fun i hi => by rw [hD, decide_eq_false (by omega)]; rfl
  have hmt : ∀ i, sA c ≤ i → m.testBit i = false := fun i hi => by
    cases q : m.testBit i with
    | false => rfl
    | true => have := hb i q; rw [hDt i hi] at this; exact absurd this (by decide)
  have e1 : popN m = cnt (fun i => m.testBit i) (sA c) := by
    have := cnt_tail (p := fun i => m.testBit i) (a := sA c) hmt (8 - sA c)
    rw [show sA c + (8 - sA c) = 8 by omega] at this
    exact this
  have e2 : popN (DN c) = cnt (fun i => (DN c).testBit i) (sA c) := by
    have := cnt_tail (p := fun i => (DN c).testBit i) (a := sA c) hDt (8 - sA c)
    rw [show sA c + (8 - sA c) = 8 by omega] at this
    exact this
  have e3 := cnt_sub (p := fun i => m.testBit i) (q := fun i => (DN c).testBit i) (sA c) (fun i _ h => hb i h)
  rw [e1, e2, e3, Nat.add_sub_cancel_left]
  have key : ∀ n, n ≤ sA c → (10 - v) ^ cnt (fun i => m.testBit i) n * v ^ cnt (fun i => (DN c).testBit i && !m.testBit i) n = prodN (wayF c v (m ^^^ DN c)) n := by
    intro n
    induction n with
    | zero => intro _; simp [cnt, prodN]
    | succ n ih =>
      intro hn
      have h0 := ih (by omega)
      have hDn : (DN c).testBit n = dB c n := by rw [hD, decide_eq_true (by omega)]; rfl
      show _ = prodN (wayF c v (m ^^^ DN c)) n * wayF c v (m ^^^ DN c) n
      rw [← h0]
      have hw : wayF c v (m ^^^ DN c) n = if sD c n = 99 then (if (m.testBit n ^^ dB c n) = true then 0 else 1) else if (m.testBit n ^^ dB c n) = true then v else 10 - v := by
        unfold wayF
        rw [Nat.testBit_xor, hDn]
      by_cases d9 : sD c n = 99
      · have dn : dB c n = false := decide_eq_false (fun z => z d9)
        have mn : m.testBit n = false := by
          cases q : m.testBit n with
          | false => rfl
          | true => have := hb n q; rw [hDn, dn] at this; exact absurd this (by decide)
        rw [cnt_f (p := fun i => m.testBit i) mn, cnt_f (p := fun i => (DN c).testBit i && !m.testBit i) (by simp [hDn, dn]), hw, if_pos d9, dn, mn]
        simp
      · have dn : dB c n = true := decide_eq_true d9
        rcases Bool.eq_false_or_eq_true (m.testBit n) with q | q
        · rw [cnt_t (p := fun i => m.testBit i) q, cnt_f (p := fun i => (DN c).testBit i && !m.testBit i) (by simp [q]), hw, if_neg d9, dn, q, Nat.pow_succ, Nat.mul_right_comm]
          rfl
        · rw [cnt_f (p := fun i => m.testBit i) q, cnt_t (p := fun i => (DN c).testBit i && !m.testBit i) (by simp [q, hDn, dn]), hw, if_neg d9, dn, q, Nat.pow_succ, Nat.mul_assoc]
          rfl
  exact key _ (Nat.le_refl _)
theorem sub_xor {m D : Nat} : subB (m ^^^ D) D = subB m D := by
  rw [Bool.eq_iff_iff, sub_bit, sub_bit]
  constructor
  · intro h i hi
    have := h i
    rw [Nat.testBit_xor, hi] at this
    cases q : D.testBit i with
    | true => rfl
    | false => rw [q] at this; exact absurd (this rfl) (by decide)
  · intro h i hi
    rw [Nat.testBit_xor] at hi
    cases q : D.testBit i with
    | true => rfl
    | false =>
      rw [q] at hi
      have := h i (by simpa using hi)
      rw [q] at this; exact absurd this (by decide)
theorem ways_0 {c : SC} {v x : Nat} (hx : x < 2 ^ sA c) (h : subB x (DN c) = false) : waysN c v x = 0 := by
  have : ∃ i, x.testBit i = true ∧ (DN c).testBit i = false := by
    apply Classical.byContradiction
    intro no
    have : subB x (DN c) = true := sub_bit.mpr (fun i hi => by
      cases q : (DN c).testBit i with
      | true => rfl
      | false => exact absurd ⟨i, hi, q⟩ no)
    rw [h] at this; exact absurd this (by decide)
  obtain ⟨i, h1, h2⟩ := this
  have hi : i < sA c := by
    rcases Nat.lt_or_ge i (sA c) with z | z
    · exact z
    · have : x < 2 ^ i := Nat.lt_of_lt_of_le hx (Nat.pow_le_pow_right (by omega) z)
      rw [Nat.testBit_lt_two_pow this] at h1
      exact absurd h1 (by decide)
  refine prodN_0 (i := i) ?_ _ hi
  rw [show (DN c).testBit i = (decide (i < sA c) && dB c i) from bN_bit _, decide_eq_true hi] at h2
  have d9 : sD c i = 99 := by
    by_cases z : sD c i = 99
    · exact z
    · have : dB c i = true := decide_eq_true z
      rw [this] at h2; exact absurd h2 (by decide)
  unfold wayF
  rw [if_pos d9, if_pos h1]
/-- what the class sums, what the reference sums -/
def sumC (c : SC) (v : Nat) (br : Nat → Nat) (m : Nat) : Nat := if subB m (DN c) = true then (10 - v) ^ popN m * v ^ (popN (DN c) - popN m) * br (m ^^^ DN c) else 0
theorem sums_eq {c : SC} {v m : Nat} {br : Nat → Nat} (hVS : VS m c) : sumN (sumC c v br) 256 = sumN (fun x => waysN c v x * br x) (2 ^ sA c) := by
  have hA := hVS.1
  have hD := DN_256 hA
  have hD2 : DN c < 2 ^ sA c := bN_lt _
  have e1 : sumN (sumC c v br) 256 = sumN (fun m => (fun x => if subB x (DN c) = true then waysN c v x * br x else 0) (m ^^^ DN c)) 256 := sumN_congr _ (fun m _ => by
    show sumC c v br m = if subB (m ^^^ DN c) (DN c) = true then waysN c v (m ^^^ DN c) * br (m ^^^ DN c) else 0
    unfold sumC
    rw [sub_xor]
    by_cases q : subB m (DN c) = true
    · rw [if_pos q, if_pos q, weight_eq hA q]
    · rw [if_neg q, if_neg q])
  refine (e1.trans (sum_xor 8 (DN c) hD (fun x => if subB x (DN c) = true then waysN c v x * br x else 0))).trans ?_
  have e8 : 2 ^ 8 = 2 ^ sA c + (2 ^ 8 - 2 ^ sA c) := by
    have := Nat.pow_le_pow_right (n := 2) (by omega) hA
    omega
  rw [e8, sumN_add, sumN_0 (f := fun i => (fun x => if subB x (DN c) = true then waysN c v x * br x else 0) (2 ^ sA c + i)), Nat.add_zero]
  · refine sumN_congr _ (fun x hx => ?_)
    show (if subB x (DN c) = true then waysN c v x * br x else 0) = waysN c v x * br x
    by_cases q : subB x (DN c) = true
    · rw [if_pos q]
    · rw [if_neg q, ways_0 hx (by cases h : subB x (DN c) with | false => rfl | true => exact absurd h q), Nat.zero_mul]
  · intro i hi
    show (if subB (2 ^ sA c + i) (DN c) = true then _ else 0) = 0
    rw [if_neg]
    intro q
    have : (2 ^ sA c + i) &&& DN c = 2 ^ sA c + i := of_decide_eq_true q
    have h2 : (2 ^ sA c + i) &&& DN c ≤ DN c := Nat.and_le_right
    omega
/-- longs -/
theorem lg_0 {a : Nat} (ha : a < 2 ^ 63) : lg_cmp (lN a) 0 = 0 ↔ a = 0 := by
  have e0 : (0 : Int64) = lN 0 := rfl
  unfold lg_cmp
  rw [e0]
  by_cases q : a = 0
  · subst q
    rw [if_neg (fun z => absurd ((pk_lLT (a := 0) (b := 0) (by decide) (by decide)).mp z) (by omega)), if_pos rfl]
    exact ⟨fun _ => rfl, fun _ => rfl⟩
  · rw [if_pos (show lN 0 < lN a from (pk_lLT (by decide) ha).mpr (by omega))]
    exact ⟨fun z => absurd z (by decide), fun z => absurd z q⟩
theorem lg_le0 {a : Nat} (ha : a < 2 ^ 63) : lg_cmp (lN a) 0 ≤ 0 ↔ a = 0 := by
  have e0 : (0 : Int64) = lN 0 := rfl
  unfold lg_cmp
  rw [e0]
  by_cases q : a = 0
  · subst q
    rw [if_neg (fun z => absurd ((pk_lLT (a := 0) (b := 0) (by decide) (by decide)).mp z) (by omega)), if_pos rfl]
    exact ⟨fun _ => rfl, fun _ => by decide⟩
  · rw [if_pos (show lN 0 < lN a from (pk_lLT (by decide) ha).mpr (by omega))]
    exact ⟨fun z => absurd z (by decide), fun z => absurd z q⟩
theorem c_power {M : Mem} {b n : Nat} {post : Int64 → Mem → Prop} (hb : b < 2 ^ 31) (hn : n < 2 ^ 31) (h : post (lN (b ^ n)) M) : w_X9_power (nI b) (nI n) M post := by
  unfold w_X9_power
  refine loop_0 (fun k i (s : Nat) => w_X9_power_L5 post (nI b) (nI n) k (lN s) (nI i) M) (fun i s => s = b ^ i) n 1 rfl ?_ ?_
  · rintro k s rfl
    show w_X9_power_L5 post _ _ (k + 1) _ _ M
    unfold w_X9_power_L5
    exact ⟨fun _ => h, fun q => absurd (nI_le (Nat.le_refl _) (by omega)) q⟩
  · rintro k i s hi rfl kk
    show w_X9_power_L5 post _ _ (k + 1) _ _ M
    unfold w_X9_power_L5
    refine ⟨fun q => absurd q (nI_ge hi (by omega)), fun _ => ?_⟩
    rintro v rfl v2 rfl
    rw [nI_1, nI_l (by omega), lN_mul]
    exact kk _ (by rw [Nat.pow_succ])
theorem c_divisor {M : Mem} {x y : Nat} {post : Int64 → Mem → Prop} (hx : x < 2 ^ 63) (hy : y < 2 ^ 63) (h : post (lN (Nat.gcd x y)) M) : w_X9_divisor (lN x) (lN y) M post := by
  unfold w_X9_divisor
  refine loop_0 (fun k i (s : Nat × Nat) => w_X9_divisor_L9 post k (lN s.1) (lN s.2) (nI i) M) (fun i s => Nat.gcd s.1 s.2 = Nat.gcd x y ∧ s.1 < 2 ^ 63 ∧ s.2 < 2 ^ 63 ∧ (1 ≤ i → s.2 < s.1 ∧ s.1 * s.2 * 2 ^ (i - 1) < 2 ^ 126)) 200 (x, y) ⟨rfl, hx, hy, fun z => by omega⟩ ?_ ?_
  · rintro k ⟨p, q⟩ ⟨h1, h2, h3, h4⟩
    show w_X9_divisor_L9 post (k + 1) (lN p) (lN q) (nI 200) M
    unfold w_X9_divisor_L9
    refine ⟨fun _ => ?_, fun z => absurd (nI_le (a := 200) (Nat.le_refl _) (by decide)) z⟩
    obtain ⟨h5, h6⟩ := h4 (by omega)
    change q < p at h5
    change p * q * 2 ^ (200 - 1) < 2 ^ 126 at h6
    have q0 : q = 0 := by
      rcases Nat.eq_zero_or_pos q with z | z
      · exact z
      · have h7 : 1 ≤ p * q := Nat.mul_pos (by omega) z
        have h8 : 1 * 2 ^ (200 - 1) ≤ p * q * 2 ^ (200 - 1) := Nat.mul_le_mul_right _ h7
        have h9 : (2 : Nat) ^ 126 < 1 * 2 ^ (200 - 1) := by decide
        omega
    subst q0
    change Nat.gcd p 0 = _ at h1
    rw [Nat.gcd_zero_right] at h1
    rw [h1]; exact h
  · rintro k i ⟨p, q⟩ hi ⟨h1, h2, h3, h4⟩ kk
    show w_X9_divisor_L9 post (k + 1) (lN p) (lN q) (nI i) M
    unfold w_X9_divisor_L9
    change p < 2 ^ 63 at h2
    change q < 2 ^ 63 at h3
    change Nat.gcd p q = _ at h1
    rw [lg_0 h3]
    refine ⟨fun z => absurd z (nI_ge (b := 200) hi (by decide)), fun _ => ⟨fun z => ?_, fun z => ⟨?_, ?_⟩⟩⟩
    · subst z
      rw [Nat.gcd_zero_right] at h1
      rw [h1]; exact h
    · exact fun e => z ((pk_lEQ (b := 0) h3 (by decide)).mp e)
    · have hr : lrem (lN p) (lN q) = lN (p % q) := pk_lRem h2 (by omega) h3
      rw [hr]
      rintro v rfl v2 rfl
      rw [nI_1]
      have hm : p % q < q := Nat.mod_lt _ (by omega)
      refine kk (q, p % q) ⟨?_, h3, by show p % q < 2 ^ 63; omega, fun _ => ⟨hm, ?_⟩⟩
      · show Nat.gcd q (p % q) = _
        rw [← h1, Nat.gcd_comm p q, Nat.gcd_rec q p, Nat.gcd_comm]
      · show q * (p % q) * 2 ^ (i + 1 - 1) < 2 ^ 126
        rw [Nat.add_sub_cancel]
        rcases Nat.eq_zero_or_pos i with z0 | z0
        · subst z0
          have : q * (p % q) < 2 ^ 63 * 2 ^ 63 := Nat.mul_lt_mul'' h3 (by omega)
          rw [Nat.pow_zero, Nat.mul_one]
          exact this
        · obtain ⟨h5, h6⟩ := h4 z0
          change q < p at h5
          change p * q * 2 ^ (i - 1) < 2 ^ 126 at h6
          have h7 : 2 * (p % q) ≤ p := by
            have := Nat.div_add_mod p q
            have h8 : 1 ≤ p / q := Nat.div_pos (by omega) (by omega)
            have h9 : q * 1 ≤ q * (p / q) := Nat.mul_le_mul_left _ h8
            omega
          obtain ⟨j, rfl⟩ : ∃ j, i = j + 1 := ⟨i - 1, by omega⟩
          rw [Nat.add_sub_cancel] at h6
          refine Nat.lt_of_le_of_lt ?_ h6
          have h10 : q * (p % q) * 2 ≤ p * q := by
            rw [Nat.mul_assoc, Nat.mul_comm (p % q) 2, Nat.mul_comm p q]
            exact Nat.mul_le_mul_left _ h7
          rw [Nat.pow_succ, ← Nat.mul_assoc, Nat.mul_right_comm]
          exact Nat.mul_le_mul_right _ h10
theorem m_common {M : Mem} {post : Int64 → Mem → Prop} : ∀ y x, x < 2 ^ 63 → y < 2 ^ 63 → post (lN (Nat.gcd x y)) M → ∃ g, w_X10_common_L6 post g (lN x) (lN y) M := by
  intro y
  induction y using Nat.strongRecOn with
  | ind y ih =>
    intro x hx hy h
    rcases Nat.eq_zero_or_pos y with z | z
    · subst z
      refine ⟨1, ?_⟩
      unfold w_X10_common_L6
      rw [Nat.gcd_zero_right] at h
      exact ⟨fun _ => h, fun q => absurd ((lg_0 hy).mpr rfl) q⟩
    · have hm : x % y < y := Nat.mod_lt _ z
      obtain ⟨g, hg⟩ := ih (x % y) hm y hy (by omega) (by
        rw [Nat.gcd_comm x y, Nat.gcd_rec y x, Nat.gcd_comm] at h
        exact h)
      refine ⟨g + 1, ?_⟩
      unfold w_X10_common_L6
      rw [lg_0 hy]
      refine ⟨fun q => by omega, fun _ => ⟨fun e => absurd ((pk_lEQ (b := 0) hy (by decide)).mp e) (by omega), ?_⟩⟩
      have hr : lrem (lN x) (lN y) = lN (x % y) := pk_lRem hx z hy
      rw [hr]
      rintro v rfl
      exact hg
def fracR (s t k : Nat) : Int64 := if k = 0 then lN (s / Nat.gcd s t) else lN (t / Nat.gcd s t)
theorem c_fraction {M : Mem} {s t k : Nat} {post : Int64 → Mem → Prop} (hs : s < 2 ^ 63) (ht : t < 2 ^ 63) (h0 : 0 < t) (hk : k < 2) (h : post (fracR s t k) M) : w_X9_fraction (lN s) (lN t) (nI k) M post := by
  have hg : 0 < Nat.gcd s t := Nat.gcd_pos_of_pos_right _ h0
  have hg2 : Nat.gcd s t < 2 ^ 63 := Nat.lt_of_le_of_lt (Nat.gcd_le_right _ h0) ht
  have hne : ¬ lN (Nat.gcd s t) = 0 := fun e => absurd ((pk_lEQ (b := 0) hg2 (by decide)).mp e) (by omega)
  unfold w_X9_fraction
  refine c_divisor hs ht ?_
  rw [lg_0 hg2]
  unfold fracR at h
  refine ⟨fun _ => ⟨fun q => ⟨hne, ?_⟩, fun q => ⟨hne, ?_⟩⟩, fun q => by omega⟩
  · rw [if_neg (fun z => q (by rw [z]; rfl))] at h
    rw [pk_lDiv ht hg hg2]; exact h
  · rw [if_pos (nI_inj (by omega) (by decide) q)] at h
    rw [pk_lDiv hs hg hg2]; exact h
theorem m_told {M : Mem} {s t k : Nat} {post : Int64 → Mem → Prop} (hs : s < 2 ^ 63) (ht : t < 2 ^ 63) (h0 : 0 < t) (hk : k < 2) (h : post (fracR s t k) M) : w_X10_told (lN s) (lN t) (nI k) M post := by
  have hg : 0 < Nat.gcd s t := Nat.gcd_pos_of_pos_right _ h0
  have hg2 : Nat.gcd s t < 2 ^ 63 := Nat.lt_of_le_of_lt (Nat.gcd_le_right _ h0) ht
  have hne : ¬ lN (Nat.gcd s t) = 0 := fun e => absurd ((pk_lEQ (b := 0) hg2 (by decide)).mp e) (by omega)
  unfold w_X10_told w_X10_common
  refine m_common s t ht hs ?_
  rw [Nat.gcd_comm]
  unfold fracR at h
  refine ⟨fun q => ⟨hne, ?_⟩, fun q => ⟨hne, ?_⟩⟩
  · rw [if_neg (fun z => q (by rw [z]; rfl))] at h
    rw [pk_lDiv ht hg hg2]; exact h
  · rw [if_pos (nI_inj (by omega) (by decide) q)] at h
    rw [pk_lDiv hs hg hg2]; exact h
