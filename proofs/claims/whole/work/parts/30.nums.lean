/-! numbers: small naturals as ints -/
theorem lit_nI (n : Nat) : (no_index (OfNat.ofNat n) : Int32) = nI n := rfl
theorem nI_ne4 {k : Nat} (h : k < 2 ^ 31) : ¬ nI k = -4 := by
  intro e
  have h1 := congrArg Int32.toInt e
  rw [nI_toInt h] at h1
  have h4 : (-4 : Int32).toInt = -4 := by decide
  omega
/-- a number, or NONE -/
def oI (o : Nat) : Int32 := if o = 0 then -4 else nI (o - 1)
theorem oI_0 : oI 0 = -4 := rfl
theorem oI_s (k : Nat) : oI (k + 1) = nI k := rfl
theorem oI_4 {o : Nat} (h : o < 2 ^ 31) : oI o = -4 ↔ o = 0 := by
  constructor
  · intro e
    rcases Nat.eq_zero_or_pos o with h0 | h0
    · exact h0
    · obtain ⟨k, rfl⟩ : ∃ k, o = k + 1 := ⟨o - 1, by omega⟩
      exact absurd e (nI_ne4 (by omega))
  · rintro rfl
    rfl
theorem tnI {n : Nat} (h : n < 2 ^ 31) : (nI n).toNatClampNeg = n := nI_clamp h
theorem nI_inj {a b : Nat} (ha : a < 2 ^ 31) (hb : b < 2 ^ 31) (h : nI a = nI b) : a = b := (nI_eq ha hb).mp h
theorem nI_div {a : Nat} (ha : a < 2 ^ 31) : nI a / 10 = nI (a / 10) := pk_div (d := 10) ha (by decide) (by decide)
theorem nI_rem {a : Nat} (ha : a < 2 ^ 31) : irem (nI a) 10 = nI (a % 10) := pk_rem (d := 10) ha (by decide) (by decide)
/-- memory -/
theorem rd_ne {M : Mem} {i k j q : Nat} {v : Int32} (h : j ≠ i ∨ q ≠ k) : rd (wr M i k v) j q = rd M j q := by
  rw [rd_wr, if_neg (by rintro ⟨rfl, rfl⟩; rcases h with h | h <;> exact h rfl)]
theorem rd_eq {M : Mem} {i k j q : Nat} {v : Int32} (h : j = i ∧ q = k) : rd (wr M i k v) j q = v := by rw [rd_wr, if_pos h]
/-- nothing but the cells from lo on, below hi, changed -/
def Fr (lo hi : Nat) (M M' : Mem) : Prop := (∀ i k, i < lo ∨ hi ≤ i → rd M' i k = rd M i k) ∧ ∀ k, rl M' k = rl M k
theorem Fr.refl {lo hi : Nat} {M : Mem} : Fr lo hi M M := ⟨fun _ _ _ => rfl, fun _ => rfl⟩
theorem Fr.trans {lo hi : Nat} {M M1 M2 : Mem} (h : Fr lo hi M M1) (h2 : Fr lo hi M1 M2) : Fr lo hi M M2 := ⟨fun i k q => (h2.1 i k q).trans (h.1 i k q), fun k => (h2.2 k).trans (h.2 k)⟩
theorem Fr.wr {lo hi i k : Nat} {M : Mem} {v : Int32} (h : lo ≤ i ∧ i < hi) : Fr lo hi M (wr M i k v) := ⟨fun j q hj => rd_ne (by omega), fun _ => rfl⟩
theorem Fr.sub {lo hi lo' hi' : Nat} {M M' : Mem} (h : Fr lo hi M M') (hl : lo' ≤ lo ∧ hi ≤ hi') : Fr lo' hi' M M' := ⟨fun i k q => h.1 i k (by omega), h.2⟩
/-- how many below n -/
def cnt (p : Nat → Bool) : Nat → Nat
  | 0 => 0
  | n + 1 => cnt p n + (if p n then 1 else 0)
theorem cnt_le (p : Nat → Bool) (n : Nat) : cnt p n ≤ n := by
  induction n with
  | zero => exact Nat.le_refl _
  | succ n ih => simp only [cnt]; split <;> omega
theorem cnt_congr {p q : Nat → Bool} {n : Nat} (h : ∀ i, i < n → p i = q i) : cnt p n = cnt q n := by
  induction n with
  | zero => rfl
  | succ n ih => simp only [cnt]; rw [ih (fun i hi => h i (by omega)), h n (by omega)]
theorem cnt_set {p q : Nat → Bool} {n a : Nat} (ha : a < n) (h : ∀ i, i < n → i ≠ a → p i = q i) (hp : p a = false) (hq : q a = true) : cnt q n = cnt p n + 1 := by
  induction n with
  | zero => omega
  | succ n ih =>
    simp only [cnt]
    by_cases e : a = n
    · subst e
      rw [cnt_congr (p := q) (q := p) (fun i hi => (h i (by omega) (by omega)).symm), hp, hq]
      simp
    · rw [ih (by omega) (fun i hi => h i (by omega)), h n (by omega) (fun z => e z.symm)]
      omega
/-- the mathematical exchange: how many ones, finders; numbers, sides (0 none, 1 caller, 2 called), mates, ways held; hunts, sizes, dead sets, latest (0 none, else one more), uses -/
abbrev EX : Type := Nat × Nat × (Nat → Nat) × (Nat → Nat) × (Nat → Nat) × (Nat → Nat) × (Nat → Nat) × (Nat → Nat) × (Nat → Nat) × (Nat → Nat) × (Nat → Nat → Int32)
def eM (e : EX) : Nat := e.1
def eF (e : EX) : Nat := e.2.1
def eN (e : EX) : Nat → Nat := e.2.2.1
def eS (e : EX) : Nat → Nat := e.2.2.2.1
def eT (e : EX) : Nat → Nat := e.2.2.2.2.1
def eH (e : EX) : Nat → Nat := e.2.2.2.2.2.1
def eK (e : EX) : Nat → Nat := e.2.2.2.2.2.2.1
def eZ (e : EX) : Nat → Nat := e.2.2.2.2.2.2.2.1
def eD (e : EX) : Nat → Nat := e.2.2.2.2.2.2.2.2.1
def eL (e : EX) : Nat → Nat := e.2.2.2.2.2.2.2.2.2.1
def eU (e : EX) : Nat → Nat → Int32 := e.2.2.2.2.2.2.2.2.2.2
def up (f : Nat → Nat) (a v : Nat) : Nat → Nat := fun b => if b = a then v else f b
theorem up_eq {f : Nat → Nat} {a v b : Nat} (h : b = a) : up f a v b = v := if_pos h
theorem up_ne {f : Nat → Nat} {a v b : Nat} (h : b ≠ a) : up f a v b = f b := if_neg h
def mI (e : EX) (a : Nat) : Int32 := if eS e a = 0 then -4 else nI (eT e a)
def hI (e : EX) (a : Nat) : Int32 := if eS e a = 0 then -4 else nI (eH e a)
def callsE (e : EX) : Nat := cnt (fun a => decide (eS e a = 1)) (eM e)
/-- the ways of a group that the calls of the first n hold -/
def hN (e : EX) (t : Nat) : Nat → Nat
  | 0 => 0
  | a + 1 => hN e t a ||| (if eS e a = 1 ∧ eH e a / 10 = t then 2 ^ (eH e a % 10) else 0)
def heldE (e : EX) (t : Nat) : Nat := hN e t (eM e)
theorem hN_bit {e : EX} {t w : Nat} : ∀ n, (hN e t n).testBit w = true ↔ ∃ a, a < n ∧ eS e a = 1 ∧ eH e a / 10 = t ∧ eH e a % 10 = w := by
  intro n
  induction n with
  | zero => simp [hN]
  | succ n ih =>
    simp only [hN, Nat.testBit_or, Bool.or_eq_true, ih]
    constructor
    · rintro (⟨a, h1, h2⟩ | h)
      · exact ⟨a, by omega, h2⟩
      · split at h
        · rename_i hc
          rw [Nat.testBit_two_pow] at h
          exact ⟨n, by omega, hc.1, hc.2, by simpa using h⟩
        · simp at h
    · rintro ⟨a, h1, h2, h3, h4⟩
      by_cases ha : a = n
      · subst ha
        right
        rw [if_pos ⟨h2, h3⟩, Nat.testBit_two_pow]
        simpa using h4
      · exact Or.inl ⟨a, by omega, h2, h3, h4⟩
/-- which exchanges can be -/
def VE (e : EX) : Prop := eM e ≤ 6 ∧ (1 ≤ eF e ∧ eF e ≤ 6) ∧ (∀ a, a < eM e → eN e a ≤ 44 ∧ eN e a % 10 ≤ 4) ∧ (∀ a b, a < eM e → b < eM e → eN e a = eN e b → a = b) ∧
  (∀ a, a < eM e → eS e a ≤ 2) ∧ (∀ a, a < eM e → eS e a ≠ 0 → eT e a < eM e ∧ eT e (eT e a) = a ∧ eS e (eT e a) + eS e a = 3 ∧ eH e (eT e a) = eH e a ∧ eH e a / 10 < 5 ∧ eH e a % 10 < eZ e (eH e a / 10)) ∧
  (∀ a b, a < eM e → b < eM e → eS e a = 1 → eS e b = 1 → eH e a = eH e b → a = b) ∧
  (∀ t, t < 5 → eK e t ≤ 3 ∧ eZ e t ≤ 4 ∧ eD e t < 2 ^ eZ e t ∧ eL e t ≤ eZ e t ∧ ∀ w, eZ e t ≤ w → w < 4 → eU e t w = 0)
theorem heldE_lt {e : EX} (h : VE e) {t : Nat} (ht : t < 5) : heldE e t < 2 ^ eZ e t := by
  apply Nat.lt_pow_two_of_testBit
  intro i hi
  cases hb : (heldE e t).testBit i with
  | false => rfl
  | true =>
    obtain ⟨a, h1, h2, h3, h4⟩ := (hN_bit _).mp hb
    have := (h.2.2.2.2.2.1 a h1 (by omega)).2.2.2.2.2
    rw [h3, h4] at this
    omega
theorem heldE_16 {e : EX} (h : VE e) {t : Nat} (ht : t < 5) : heldE e t < 16 := by
  have h1 := heldE_lt h ht
  have h2 := (h.2.2.2.2.2.2.2 t ht).2.1
  have : 2 ^ eZ e t ≤ 2 ^ 4 := Nat.pow_le_pow_right (by omega) h2
  omega
/-- the class's cells at g hold the group t of e -/
def GrC (M : Mem) (g : Nat) (e : EX) (t : Nat) : Prop := rd M g 0 = nI (eK e t) ∧ rd M g 1 = nI (eZ e t) ∧ rd M g 2 = nI (eD e t) ∧ rd M g 3 = nI (heldE e t) ∧ rd M g 4 = oI (eL e t) ∧ ∀ w, w < 4 → rd M (g + 1) w = eU e t w
/-- the class's cells from x on hold the exchange e -/
def ExC (M : Mem) (x : Nat) (e : EX) : Prop := rd M x 0 = nI (eM e) ∧ rd M x 1 = nI (eF e) ∧ rd M x 2 = nI (callsE e) ∧
  (∀ a, a < eM e → rd M (x + 1) a = nI (eN e a) ∧ rd M (x + 2) a = mI e a ∧ rd M (x + 3) a = nI (eS e a) ∧ rd M (x + 4) a = hI e a) ∧
  ∀ t, t < 5 → GrC M (x + 6 + 2 * t) e t
/-- a row of the reference holds the exchange e -/
def ExM (f : Nat → Int32) (e : EX) : Prop := f 24 = nI (eM e) ∧ f 25 = nI (eF e) ∧
  (∀ a, a < eM e → f (4 * a) = nI (eN e a) ∧ f (4 * a + 1) = mI e a ∧ f (4 * a + 2) = nI (eS e a) ∧ f (4 * a + 3) = hI e a) ∧
  ∀ t, t < 5 → f (26 + 4 * t) = nI (eK e t) ∧ f (27 + 4 * t) = nI (eZ e t) ∧ f (28 + 4 * t) = nI (eD e t) ∧ f (29 + 4 * t) = oI (eL e t) ∧ ∀ w, w < 4 → f (46 + 4 * t + w) = eU e t w
/-- the i-th way that a hunt looks at; the way that would be taken (0 none, else one more) -/
def turnE (e : EX) (t i : Nat) : Nat := if eK e t = 0 then i else if eK e t = 2 then eZ e t - 1 - i else if eL e t + i < eZ e t then eL e t + i else eL e t + i - eZ e t
def freeE (e : EX) (t w : Nat) : Bool := !(heldE e t).testBit w
def pkC (e : EX) (t : Nat) : Nat → Nat
  | 0 => 0
  | i + 1 => if freeE e t (turnE e t i) = true ∧ (pkC e t i = 0 ∨ (eK e t = 3 ∧ eU e t (turnE e t i) < eU e t (pkC e t i - 1))) then turnE e t i + 1 else pkC e t i
def pickE (e : EX) (t : Nat) : Nat := pkC e t (eZ e t)
theorem turnE_lt {e : EX} (h : VE e) {t i : Nat} (ht : t < 5) (hi : i < eZ e t) : turnE e t i < eZ e t := by
  have h1 := (h.2.2.2.2.2.2.2 t ht).2.2.2.1
  unfold turnE
  split
  · exact hi
  · split
    · omega
    · split <;> omega
theorem pkC_le {e : EX} (h : VE e) {t : Nat} (ht : t < 5) : ∀ i, i ≤ eZ e t → pkC e t i ≤ eZ e t := by
  intro i
  induction i with
  | zero => intro _; exact Nat.zero_le _
  | succ i ih =>
    intro hi
    have := turnE_lt h ht (i := i) (by omega)
    have := ih (by omega)
    simp only [pkC]
    split <;> omega
theorem pickE_le {e : EX} (h : VE e) {t : Nat} (ht : t < 5) : pickE e t ≤ eZ e t := pkC_le h ht _ (Nat.le_refl _)
theorem pkC_free {e : EX} {t : Nat} : ∀ i w, pkC e t i = w + 1 → freeE e t w = true := by
  intro i
  induction i with
  | zero => intro w h; simp [pkC] at h
  | succ i ih =>
    intro w h
    simp only [pkC] at h
    split at h
    · rename_i hc
      have : turnE e t i = w := by omega
      rw [← this]; exact hc.1
    · exact ih w h
/-- who has a number (0 nobody, else one more) -/
def ownN (e : EX) (n : Nat) : Nat → Nat
  | 0 => 0
  | a + 1 => if eN e a = n then a + 1 else ownN e n a
def ownE (e : EX) (n : Nat) : Nat := ownN e n (eM e)
def takeE (e : EX) (t w : Nat) : EX := (eM e, eF e, eN e, eS e, eT e, eH e, eK e, eZ e, eD e, up (eL e) t (w + 1), fun t' w' => if t' = t ∧ w' = w then eU e t w + 1 else eU e t' w')
def joinE (e : EX) (a b h : Nat) : EX := (eM e, eF e, eN e, up (up (eS e) a 1) b 2, up (up (eT e) a b) b a, up (up (eH e) a h) b h, eK e, eZ e, eD e, eL e, eU e)
def partE (e : EX) (a : Nat) : EX := (eM e, eF e, eN e, up (up (eS e) a 0) (eT e a) 0, eT e, eH e, eK e, eZ e, eD e, eL e, eU e)
def ringE (e : EX) (a n : Nat) : Nat × EX :=
  if eF e ≤ callsE e then (1, e) else if pickE e (n / 10) = 0 then (2, e) else
    if (eD e (n / 10)).testBit (pickE e (n / 10) - 1) = true then (3, takeE e (n / 10) (pickE e (n / 10) - 1)) else
      if ownE e n = 0 then (4, takeE e (n / 10) (pickE e (n / 10) - 1)) else
        if ownE e n - 1 = a ∨ eS e (ownE e n - 1) ≠ 0 then (5, takeE e (n / 10) (pickE e (n / 10) - 1)) else
          (0, joinE (takeE e (n / 10) (pickE e (n / 10) - 1)) a (ownE e n - 1) (10 * (n / 10) + (pickE e (n / 10) - 1)))
