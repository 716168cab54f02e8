/-! odds: bits -/
theorem nI_bit {n i : Nat} (hi : i < 32) : (nI n).toBitVec.getLsbD i = n.testBit i := by
  show (BitVec.ofNat 32 n).getLsbD i = _
  rw [BitVec.getLsbD_ofNat]
  simp [hi]
theorem m1_bit {i : Nat} (hi : i < 32) : (-1 : Int32).toBitVec.getLsbD i = true := by
  revert i
  decide
theorem getb (x : Int32) (i : Nat) (hi : i < 8) : ((ishr x (nI i)) &&& 1) = if x.toBitVec.getLsbD i = true then 1 else 0 := by
  have hs : ((nI i &&& 31).toBitVec.smod 32).toNat = i := by revert i; decide
  apply Int32.toBitVec_inj.mp
  unfold ishr
  rw [Int32.toBitVec_and, Int32.toBitVec_shiftRight, BitVec.sshiftRight_eq', hs]
  apply BitVec.eq_of_getLsbD_eq
  intro j hj
  rw [BitVec.getLsbD_and, BitVec.getLsbD_sshiftRight]
  rcases Nat.eq_zero_or_pos j with h0 | h0
  · subst h0
    rw [if_pos (by omega)]
    cases x.toBitVec.getLsbD i <;> simp
  · have e1 : (1 : Int32).toBitVec.getLsbD j = false := by
      show (BitVec.ofNat 32 1).getLsbD j = false
      rw [BitVec.getLsbD_ofNat]
      have : Nat.testBit 1 j = false := by
        rw [show (1 : Nat) = 2 ^ 0 from rfl, Nat.testBit_two_pow]
        simp; omega
      rw [this]; simp
    rw [e1, Bool.and_false]
    cases x.toBitVec.getLsbD i
    · show false = (BitVec.ofNat 32 0).getLsbD j
      simp
    · exact e1.symm
def subB (m D : Nat) : Bool := decide (m &&& D = m)
theorem sub_bit {m D : Nat} : subB m D = true ↔ ∀ i, m.testBit i = true → D.testBit i = true := by
  unfold subB
  rw [decide_eq_true_iff]
  constructor
  · intro h i hi
    rw [← h, Nat.testBit_and, Bool.and_eq_true] at hi
    exact hi.2
  · intro h
    apply Nat.eq_of_testBit_eq
    intro i
    rw [Nat.testBit_and]
    cases q : m.testBit i with
    | false => rfl
    | true => rw [h i q]; rfl
theorem lt_bit {m i : Nat} (hm : m < 256) (h : m.testBit i = true) : i < 8 := by
  rcases Nat.lt_or_ge i 8 with z | z
  · exact z
  · have : m < 2 ^ i := Nat.lt_of_lt_of_le hm (by rw [show (256 : Nat) = 2 ^ 8 by rfl]; exact Nat.pow_le_pow_right (by omega) z)
    rw [Nat.testBit_lt_two_pow this] at h
    exact absurd h (by decide)
theorem sub_I {m D : Nat} (hm : m < 256) : (nI m &&& (nI D ^^^ (-1))) = 0 ↔ subB m D = true := by
  rw [sub_bit]
  constructor
  · intro h i hi
    have hi8 := lt_bit hm hi
    have h2 := congrArg (fun x : Int32 => x.toBitVec.getLsbD i) h
    simp only [Int32.toBitVec_and, Int32.toBitVec_xor, BitVec.getLsbD_and, BitVec.getLsbD_xor] at h2
    rw [nI_bit (by omega), nI_bit (by omega), m1_bit (by omega), hi] at h2
    have h3 : (0 : Int32).toBitVec.getLsbD i = false := by show (BitVec.ofNat 32 0).getLsbD i = false; simp
    rw [h3] at h2
    cases q : D.testBit i with
    | true => rfl
    | false => rw [q] at h2; exact absurd h2 (by decide)
  · intro h
    apply Int32.toBitVec_inj.mp
    apply BitVec.eq_of_getLsbD_eq
    intro i hi
    have h3 : (0 : Int32).toBitVec.getLsbD i = false := by show (BitVec.ofNat 32 0).getLsbD i = false; simp
    rw [Int32.toBitVec_and, Int32.toBitVec_xor, BitVec.getLsbD_and, BitVec.getLsbD_xor, nI_bit hi, nI_bit hi, m1_bit hi, h3]
    cases q : m.testBit i with
    | false => rfl
    | true => rw [h i q]; rfl
theorem kept_I {m D : Nat} : ∀ i, i < 8 → (((ishr (nI m ||| (nI D ^^^ (-1))) (nI i)) &&& 1) = 0 ↔ (m.testBit i || !D.testBit i) = false) := by
  intro i hi
  rw [getb _ i hi, Int32.toBitVec_or, Int32.toBitVec_xor, BitVec.getLsbD_or, BitVec.getLsbD_xor, nI_bit (by omega), nI_bit (by omega), m1_bit (by omega)]
  cases m.testBit i <;> cases D.testBit i <;> decide
theorem out_I {x : Nat} : ∀ i, i < 8 → (((ishr (nI x) (nI i)) &&& 1) = 1 ↔ (!x.testBit i) = false) := by
  intro i hi
  rw [getb _ i hi, nI_bit (by omega)]
  cases x.testBit i <;> decide
/-- bits as numbers -/
def bN (p : Nat → Bool) : Nat → Nat
  | 0 => 0
  | n + 1 => if p n = true then bN p n ||| 2 ^ n else bN p n
theorem bN_lt {p : Nat → Bool} : ∀ n, bN p n < 2 ^ n := by
  intro n
  induction n with
  | zero => exact Nat.one_pos
  | succ n ih =>
    have h2 : bN p n < 2 ^ (n + 1) := Nat.lt_of_lt_of_le ih (Nat.pow_le_pow_right (by omega) (by omega))
    simp only [bN]
    split
    · exact Nat.or_lt_two_pow h2 (Nat.pow_lt_pow_right (by omega) (by omega))
    · exact h2
theorem bN_bit {p : Nat → Bool} {i : Nat} : ∀ n, (bN p n).testBit i = (decide (i < n) && p i) := by
  intro n
  induction n with
  | zero => simp [bN]
  | succ n ih =>
    simp only [bN]
    by_cases q : p n = true
    · rw [if_pos q, Nat.testBit_or, ih, Nat.testBit_two_pow]
      by_cases z : i = n
      · subst z; simp [q]
      · by_cases z2 : i < n
        · simp [z2, show i < n + 1 by omega, show n ≠ i by omega]
        · simp [z2, show ¬ i < n + 1 by omega, show n ≠ i by omega]
    · rw [if_neg q, ih]
      by_cases z : i = n
      · subst z; simp [q]
      · by_cases z2 : i < n
        · simp [z2, show i < n + 1 by omega]
        · simp [z2, show ¬ i < n + 1 by omega]
theorem or256 : ∀ a, a < 256 → ∀ w, w < 8 → (nI a ||| ishl 1 (nI w)) = nI (a ||| 2 ^ w) := by decide +kernel
def dB (c : SC) (i : Nat) : Bool := decide (sD c i ≠ 99)
def DN (c : SC) : Nat := bN (dB c) (sA c)
theorem DN_256 {c : SC} (h : sA c ≤ 8) : DN c < 256 := Nat.lt_of_lt_of_le (bN_lt _) (by rw [show (256 : Nat) = 2 ^ 8 by rfl]; exact Nat.pow_le_pow_right (by omega) h)
theorem c_dials {M : Mem} {c : SC} {m : Nat} {post : Int32 → Mem → Prop} (hS : ScC M 17 c) (hVS : VS m c) (h : post (nI (DN c)) M) : w_X5_dials 17 M post := by
  have ha := hVS.1
  unfold w_X5_dials
  refine loop_0 (fun n i (s : Nat) => w_X5_dials_L4 17 post n (nI s) (nI i) M) (fun i s => s = bN (dB c) i) (sA c) 0 rfl ?_ ?_
  · rintro n s rfl
    show w_X5_dials_L4 17 post (n + 1) _ _ M
    unfold w_X5_dials_L4
    rw [hS.1]
    exact ⟨fun _ => h, fun q => absurd (nI_le (Nat.le_refl _) (by omega)) q⟩
  · rintro n i s hi rfl kk
    show w_X5_dials_L4 17 post (n + 1) _ _ M
    unfold w_X5_dials_L4
    have hdl := hVS.dl hi
    rw [hS.1, tnI (by omega), show rd M (17 + 2) i = _ from (hS.2.2.1 i hi).2]
    refine ⟨fun q => absurd q (nI_ge hi (by omega)), fun _ => ⟨vp_in_nI (by omega) (by omega), fun q => ?_, fun q => ?_⟩⟩
    · have d9 : sD c i = 99 := nI_inj (by omega) (by decide) q
      unfold w_X5_dials_J29
      rintro v rfl
      rw [nI_1]
      exact kk _ (by simp only [bN]; rw [if_neg (by unfold dB; simp [d9])])
    · have d9 : sD c i ≠ 99 := fun z => q (by rw [z]; rfl)
      have hb : bN (dB c) i < 256 := Nat.lt_of_lt_of_le (bN_lt _) (by rw [show (256 : Nat) = 2 ^ 8 by rfl]; exact Nat.pow_le_pow_right (by omega) (by omega))
      rintro v rfl
      unfold w_X5_dials_J29
      rintro v rfl
      rw [nI_1, or256 _ hb _ (by omega)]
      exact kk _ (by simp only [bN]; rw [if_pos (by unfold dB; simp [d9])])
/-! sums over sets -/
theorem sumN_add {f : Nat → Nat} {a : Nat} : ∀ b, sumN f (a + b) = sumN f a + sumN (fun i => f (a + i)) b := by
  intro b
  induction b with
  | zero => rfl
  | succ b ih =>
    show sumN f (a + b) + f (a + b) = _
    rw [ih]
    simp only [sumN]
    omega
theorem sumN_congr {f g : Nat → Nat} : ∀ n, (∀ i, i < n → f i = g i) → sumN f n = sumN g n := by
  intro n
  induction n with
  | zero => intro _; rfl
  | succ n ih => intro h; simp only [sumN]; rw [ih (fun i hi => h i (by omega)), h n (by omega)]
theorem sumN_0 {f : Nat → Nat} : ∀ n, (∀ i, i < n → f i = 0) → sumN f n = 0 := by
  intro n
  induction n with
  | zero => intro _; rfl
  | succ n ih => intro h; simp only [sumN]; rw [ih (fun i hi => h i (by omega)), h n (by omega)]
theorem xor_hi {n m D : Nat} (hm : m < 2 ^ n) (hD : D < 2 ^ n) : (2 ^ n + m) ^^^ D = 2 ^ n + (m ^^^ D) := by
  have hx : m ^^^ D < 2 ^ n := Nat.xor_lt_two_pow hm hD
  apply Nat.eq_of_testBit_eq
  intro i
  rw [Nat.testBit_xor]
  rcases Nat.lt_trichotomy i n with z | z | z
  · rw [Nat.testBit_two_pow_add_gt z, Nat.testBit_two_pow_add_gt z, Nat.testBit_xor]
  · subst z
    rw [Nat.testBit_two_pow_add_eq, Nat.testBit_two_pow_add_eq, Nat.testBit_xor, Nat.testBit_lt_two_pow hm, Nat.testBit_lt_two_pow hD]
    rfl
  · have h1 : 2 ^ n + m < 2 ^ i := Nat.lt_of_lt_of_le (show 2 ^ n + m < 2 ^ (n + 1) by rw [Nat.pow_succ]; omega) (Nat.pow_le_pow_right (by omega) z)
    have h2 : 2 ^ n + (m ^^^ D) < 2 ^ i := Nat.lt_of_lt_of_le (show 2 ^ n + (m ^^^ D) < 2 ^ (n + 1) by rw [Nat.pow_succ]; omega) (Nat.pow_le_pow_right (by omega) z)
    have h3 : D < 2 ^ i := Nat.lt_of_lt_of_le hD (Nat.pow_le_pow_right (by omega) (by omega))
    rw [Nat.testBit_lt_two_pow h1, Nat.testBit_lt_two_pow h2, Nat.testBit_lt_two_pow h3]
    rfl
theorem xor_hi2 {n m D : Nat} (hm : m < 2 ^ n) (hD : D < 2 ^ n) : (2 ^ n + m) ^^^ (2 ^ n + D) = m ^^^ D := by
  have h1 := xor_hi hD hm
  rw [Nat.xor_comm, Nat.xor_comm D] at h1
  have h2 : (2 ^ n + m) ^^^ (2 ^ n + D) = ((2 ^ n + m) ^^^ m) ^^^ (m ^^^ (2 ^ n + D)) := by
    rw [Nat.xor_assoc, ← Nat.xor_assoc m m, Nat.xor_self, Nat.zero_xor]
  rw [h2, h1, xor_hi hm hm, Nat.xor_self, Nat.add_zero, Nat.xor_comm, Nat.add_comm]
  have h3 := xor_hi (n := n) (m := m ^^^ D) (D := 0) (Nat.xor_lt_two_pow hm hD) (Nat.two_pow_pos n)
  have h4 := xor_hi (n := n) (m := 0) (D := m ^^^ D) (Nat.two_pow_pos n) (Nat.xor_lt_two_pow hm hD)
  rw [Nat.add_zero, Nat.zero_xor] at h4
  rw [Nat.add_comm, ← h4, Nat.xor_comm (2 ^ n), Nat.xor_assoc, Nat.xor_self, Nat.xor_zero]
theorem sum_xor : ∀ n D, D < 2 ^ n → ∀ f : Nat → Nat, sumN (fun m => f (m ^^^ D)) (2 ^ n) = sumN f (2 ^ n) := by
  intro n
  induction n with
  | zero =>
    intro D hD f
    obtain rfl : D = 0 := by simpa using hD
    show 0 + f (0 ^^^ 0) = 0 + f 0
    rw [Nat.xor_self]
  | succ n ih =>
    intro D hD f
    have e2 : 2 ^ (n + 1) = 2 ^ n + 2 ^ n := by rw [Nat.pow_succ]; omega
    rw [e2, sumN_add, sumN_add]
    rcases Nat.lt_or_ge D (2 ^ n) with z | z
    · rw [ih D z f]
      congr 1
      have : sumN (fun i => f ((2 ^ n + i) ^^^ D)) (2 ^ n) = sumN (fun i => f (2 ^ n + (i ^^^ D))) (2 ^ n) := sumN_congr _ (fun i hi => by rw [xor_hi hi z])
      rw [this]
      exact ih D z (fun i => f (2 ^ n + i))
    · obtain ⟨E, rfl⟩ : ∃ E, D = 2 ^ n + E := ⟨D - 2 ^ n, by omega⟩
      have hE : E < 2 ^ n := by omega
      have h1 : sumN (fun m => f (m ^^^ (2 ^ n + E))) (2 ^ n) = sumN (fun i => f (2 ^ n + (i ^^^ E))) (2 ^ n) := sumN_congr _ (fun i hi => by rw [Nat.xor_comm, xor_hi hE hi, Nat.xor_comm])
      have h2 : sumN (fun i => f ((2 ^ n + i) ^^^ (2 ^ n + E))) (2 ^ n) = sumN (fun i => f (i ^^^ E)) (2 ^ n) := sumN_congr _ (fun i hi => by rw [xor_hi2 hi hE])
      rw [h1, h2, ih E hE (fun i => f (2 ^ n + i)), ih E hE f]
      omega
