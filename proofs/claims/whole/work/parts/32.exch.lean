/-! what taking a way, joining, parting do to an exchange -/
theorem hN_congr {e e' : EX} {t : Nat} (n : Nat) (h : ∀ a, a < n → eS e a = eS e' a ∧ (eS e a = 1 → eH e a = eH e' a)) : hN e t n = hN e' t n := by
  induction n with
  | zero => rfl
  | succ n ih =>
    simp only [hN]
    rw [ih (fun a ha => h a (by omega))]
    obtain ⟨h1, h2⟩ := h n (by omega)
    by_cases hs : eS e n = 1
    · rw [h2 hs, h1]
    · rw [if_neg (fun z => hs z.1), if_neg (fun z => hs (by rw [h1]; exact z.1))]
theorem heldE_take {e : EX} {t w t' : Nat} : heldE (takeE e t w) t' = heldE e t' := hN_congr _ (fun _ _ => ⟨rfl, fun _ => rfl⟩)
theorem callsE_take {e : EX} {t w : Nat} : callsE (takeE e t w) = callsE e := rfl
theorem VE_take {e : EX} {t w : Nat} (hV : VE e) (ht : t < 5) (hw : w < eZ e t) : VE (takeE e t w) := by
  obtain ⟨h1, h2, h3, h4, h5, h6, h7, h8⟩ := hV
  refine ⟨h1, h2, h3, h4, h5, h6, h7, fun t' ht' => ?_⟩
  obtain ⟨k1, k2, k3, k4, k5⟩ := h8 t' ht'
  refine ⟨k1, k2, k3, ?_, fun w' hw' hw4 => ?_⟩
  · show up (eL e) t (w + 1) t' ≤ eZ e t'
    by_cases q : t' = t
    · rw [up_eq q, q]; omega
    · rw [up_ne q]; exact k4
  · show (if t' = t ∧ w' = w then _ else eU e t' w') = 0
    rw [if_neg]
    · exact k5 w' hw' hw4
    · rintro ⟨q, q2⟩
      have hw'' : eZ e t' ≤ w' := hw'
      rw [q] at hw''
      omega
theorem callsE_join {e : EX} {a b h : Nat} (ha : a < eM e) (hab : a ≠ b) (sa : eS e a = 0) (sb : eS e b = 0) : callsE (joinE e a b h) = callsE e + 1 := by
  unfold callsE
  show cnt (fun c => decide (up (up (eS e) a 1) b 2 c = 1)) (eM e) = _
  refine cnt_set (a := a) ha (fun i _ hi => ?_) (by simp [sa]) (by simp [up, hab])
  by_cases q : i = b
  · subst q; simp [up, sb]
  · simp [up, q, hi]
theorem heldE_join {e : EX} {a b t w : Nat} (hV : VE e) (ha : a < eM e) (hab : a ≠ b) (sa : eS e a = 0) (sb : eS e b = 0) (hw : w < 10) (t' : Nat) : heldE (joinE e a b (10 * t + w)) t' = if t' = t then heldE e t' ||| 2 ^ w else heldE e t' := by
  have key : ∀ v, (heldE (joinE e a b (10 * t + w)) t').testBit v = true ↔ ((heldE e t').testBit v = true ∨ (t' = t ∧ v = w)) := by
    intro v
    unfold heldE
    rw [hN_bit, hN_bit]
    constructor
    · rintro ⟨c, h1, h2, h3, h4⟩
      change up (up (eS e) a 1) b 2 c = 1 at h2
      change up (up (eH e) a (10 * t + w)) b (10 * t + w) c / 10 = t' at h3
      change up (up (eH e) a (10 * t + w)) b (10 * t + w) c % 10 = v at h4
      by_cases q : c = a
      · subst q
        rw [up_ne hab, up_eq rfl] at h3 h4
        right; omega
      · have qb : c ≠ b := fun z => by rw [up_eq z] at h2; omega
        rw [up_ne qb, up_ne q] at h2 h3 h4
        exact Or.inl ⟨c, h1, h2, h3, h4⟩
    · rintro (⟨c, h1, h2, h3, h4⟩ | ⟨h1, h2⟩)
      · have qa : c ≠ a := fun z => by rw [z, sa] at h2; omega
        have qb : c ≠ b := fun z => by rw [z, sb] at h2; omega
        refine ⟨c, h1, ?_, ?_, ?_⟩
        · show up (up (eS e) a 1) b 2 c = 1
          rw [up_ne qb, up_ne qa]; exact h2
        · show up (up (eH e) a (10 * t + w)) b (10 * t + w) c / 10 = t'
          rw [up_ne qb, up_ne qa]; exact h3
        · show up (up (eH e) a (10 * t + w)) b (10 * t + w) c % 10 = v
          rw [up_ne qb, up_ne qa]; exact h4
      · refine ⟨a, ha, ?_, ?_, ?_⟩
        · show up (up (eS e) a 1) b 2 a = 1
          rw [up_ne hab, up_eq rfl]
        · show up (up (eH e) a (10 * t + w)) b (10 * t + w) a / 10 = t'
          rw [up_ne hab, up_eq rfl]; omega
        · show up (up (eH e) a (10 * t + w)) b (10 * t + w) a % 10 = v
          rw [up_ne hab, up_eq rfl]; omega
  apply Nat.eq_of_testBit_eq
  intro v
  rw [Bool.eq_iff_iff, key]
  by_cases q : t' = t
  · rw [if_pos q, Nat.testBit_or, Bool.or_eq_true, Nat.testBit_two_pow]
    exact ⟨fun h => h.elim Or.inl (fun h => Or.inr (decide_eq_true h.2.symm)), fun h => h.elim Or.inl (fun h => Or.inr ⟨q, (of_decide_eq_true h).symm⟩)⟩
  · rw [if_neg q]
    simp [q]
theorem VE_join {e : EX} {a b t w : Nat} (hV : VE e) (ha : a < eM e) (hb : b < eM e) (hab : a ≠ b) (sa : eS e a = 0) (sb : eS e b = 0) (ht : t < 5) (hw : w < eZ e t) (hf : (heldE e t).testBit w = false) : VE (joinE e a b (10 * t + w)) := by
  obtain ⟨h1, h2, h3, h4, h5, h6, h7, h8⟩ := hV
  have hz := (h8 t ht).2.1
  have nob : ∀ c, c < eM e → eS e c ≠ 0 → c ≠ a ∧ c ≠ b ∧ eT e c ≠ a ∧ eT e c ≠ b := by
    intro c hc hs
    obtain ⟨k1, k2, k3, -⟩ := h6 c hc hs
    refine ⟨fun z => hs (by rw [z]; exact sa), fun z => hs (by rw [z]; exact sb), fun z => ?_, fun z => ?_⟩
    · rw [z, sa] at k3; have := h5 c hc; omega
    · rw [z, sb] at k3; have := h5 c hc; omega
  refine ⟨h1, h2, h3, h4, fun c hc => ?_, fun c hc hs => ?_, fun c d hc hd sc sd hh => ?_, h8⟩
  · show up (up (eS e) a 1) b 2 c ≤ 2
    by_cases qb : c = b
    · rw [up_eq qb]; omega
    · rw [up_ne qb]
      by_cases qa : c = a
      · rw [up_eq qa]; omega
      · rw [up_ne qa]; exact h5 c hc
  · show up (up (eT e) a b) b a c < eM e ∧ up (up (eT e) a b) b a (up (up (eT e) a b) b a c) = c ∧ up (up (eS e) a 1) b 2 (up (up (eT e) a b) b a c) + up (up (eS e) a 1) b 2 c = 3 ∧ up (up (eH e) a _) b _ (up (up (eT e) a b) b a c) = up (up (eH e) a _) b _ c ∧ up (up (eH e) a _) b _ c / 10 < 5 ∧ up (up (eH e) a _) b _ c % 10 < eZ e (up (up (eH e) a _) b _ c / 10)
    have hba : b ≠ a := fun z => hab z.symm
    by_cases qb : c = b
    · subst qb
      simp only [up, hab, hba, if_true, if_false, if_pos]
      refine ⟨ha, by simp [hba], by simp [hba], by simp, by omega, ?_⟩
      rw [show (10 * t + w) / 10 = t by omega, show (10 * t + w) % 10 = w by omega]; exact hw
    · by_cases qa : c = a
      · subst qa
        simp only [up, hab, hba, if_true, if_false, if_pos]
        refine ⟨hb, by simp [hab], by simp [hab], by simp, by omega, ?_⟩
        rw [show (10 * t + w) / 10 = t by omega, show (10 * t + w) % 10 = w by omega]; exact hw
      · change up (up (eS e) a 1) b 2 c ≠ 0 at hs
        rw [up_ne qb, up_ne qa] at hs
        obtain ⟨-, -, n3, n4⟩ := nob c hc hs
        rw [up_ne qb, up_ne qa, up_ne n4, up_ne n3, up_ne n4, up_ne n3, up_ne qb, up_ne qa, up_ne n4, up_ne n3, up_ne qb, up_ne qa]
        exact h6 c hc hs
  · change up (up (eS e) a 1) b 2 c = 1 at sc
    change up (up (eS e) a 1) b 2 d = 1 at sd
    change up (up (eH e) a (10 * t + w)) b (10 * t + w) c = up (up (eH e) a (10 * t + w)) b (10 * t + w) d at hh
    have cb : c ≠ b := fun z => by rw [up_eq z] at sc; omega
    have db : d ≠ b := fun z => by rw [up_eq z] at sd; omega
    rw [up_ne cb] at sc hh
    rw [up_ne db] at sd hh
    have nohold : ∀ c, c < eM e → eS e c = 1 → eH e c ≠ 10 * t + w := fun c hc sc z => by
      have : (heldE e t).testBit w = true := (hN_bit _).mpr ⟨c, hc, sc, by omega, by omega⟩
      rw [hf] at this; exact absurd this (by decide)
    by_cases ca : c = a <;> by_cases da : d = a
    · rw [ca, da]
    · rw [up_eq ca, up_ne da] at hh
      rw [up_ne da] at sd
      exact absurd hh.symm (nohold d hd sd)
    · rw [up_ne ca, up_eq da] at hh
      rw [up_ne ca] at sc
      exact absurd hh (nohold c hc sc)
    · rw [up_ne ca, up_ne da] at hh
      rw [up_ne ca] at sc
      rw [up_ne da] at sd
      exact h7 c d hc hd sc sd hh
/-- parting: the caller of the two -/
theorem part_who {e : EX} (hV : VE e) {a : Nat} (ha : a < eM e) (sa : eS e a ≠ 0) : ∃ c d, c < eM e ∧ d < eM e ∧ c ≠ d ∧ eS e c = 1 ∧ eS e d = 2 ∧ eT e c = d ∧ eT e d = c ∧ eH e c = eH e a ∧ ((c = a ∧ d = eT e a) ∨ (d = a ∧ c = eT e a)) := by
  obtain ⟨k1, k2, k3, k4, -⟩ := hV.2.2.2.2.2.1 a ha sa
  have := hV.2.2.2.2.1 a ha
  by_cases q : eS e a = 1
  · exact ⟨a, eT e a, ha, k1, fun z => by rw [← z] at k3; omega, q, by omega, rfl, k2, rfl, Or.inl ⟨rfl, rfl⟩⟩
  · exact ⟨eT e a, a, k1, ha, fun z => by rw [z] at k3; omega, by omega, by omega, k2, rfl, k4, Or.inr ⟨rfl, rfl⟩⟩
theorem part_S {e : EX} {a c d : Nat} (h : (c = a ∧ d = eT e a) ∨ (d = a ∧ c = eT e a)) (i : Nat) : eS (partE e a) i = if i = c ∨ i = d then 0 else eS e i := by
  show up (up (eS e) a 0) (eT e a) 0 i = _
  rcases h with ⟨rfl, rfl⟩ | ⟨rfl, rfl⟩
  · by_cases q : i = eT e c
    · rw [up_eq q, if_pos (Or.inr q)]
    · rw [up_ne q]
      by_cases q2 : i = c
      · rw [up_eq q2, if_pos (Or.inl q2)]
      · rw [up_ne q2, if_neg (fun z => z.elim q2 q)]
  · by_cases q : i = eT e d
    · rw [up_eq q, if_pos (Or.inl q)]
    · rw [up_ne q]
      by_cases q2 : i = d
      · rw [up_eq q2, if_pos (Or.inr q2)]
      · rw [up_ne q2, if_neg (fun z => z.elim q q2)]
theorem callsE_part {e : EX} (hV : VE e) {a : Nat} (ha : a < eM e) (sa : eS e a ≠ 0) : callsE (partE e a) + 1 = callsE e := by
  obtain ⟨c, d, hc, hd, hcd, sc, sd, -, -, -, hw⟩ := part_who hV ha sa
  unfold callsE
  refine (cnt_set (a := c) hc (fun i _ hi => ?_) ?_ ?_).symm
  · rw [part_S hw]
    by_cases q : i = d
    · rw [if_pos (Or.inr q), q, sd]; rfl
    · rw [if_neg (fun z => z.elim hi q)]
  · rw [part_S hw, if_pos (Or.inl rfl)]; rfl
  · simp [sc]
theorem heldE_part_bit {e : EX} (hV : VE e) {a : Nat} (ha : a < eM e) (sa : eS e a ≠ 0) (t v : Nat) : (heldE (partE e a) t).testBit v = true ↔ ((heldE e t).testBit v = true ∧ ¬ (eH e a / 10 = t ∧ eH e a % 10 = v)) := by
  obtain ⟨c, d, hc, hd, hcd, sc, sd, -, -, hh, hw⟩ := part_who hV ha sa
  unfold heldE
  rw [hN_bit, hN_bit]
  constructor
  · rintro ⟨i, h1, h2, h3, h4⟩
    rw [part_S hw] at h2
    split at h2
    · omega
    · rename_i q
      refine ⟨⟨i, h1, h2, h3, h4⟩, fun z => ?_⟩
      have hi : eH e i = eH e c := by
        have e1 : eH (partE e a) i = eH e i := rfl
        rw [e1] at h3 h4
        rw [hh]; omega
      exact q (Or.inl (hV.2.2.2.2.2.2.1 i c h1 hc h2 sc hi))
  · rintro ⟨⟨i, h1, h2, h3, h4⟩, hn⟩
    refine ⟨i, h1, ?_, h3, h4⟩
    rw [part_S hw, if_neg]
    · exact h2
    · rintro (q | q)
      · rw [q, hh] at h3 h4; exact hn ⟨h3, h4⟩
      · rw [q, sd] at h2; omega
theorem VE_part {e : EX} (hV : VE e) {a : Nat} (ha : a < eM e) (sa : eS e a ≠ 0) : VE (partE e a) := by
  obtain ⟨c, d, hc, hd, hcd, sc, sd, tc, td, hh, hw⟩ := part_who hV ha sa
  obtain ⟨h1, h2, h3, h4, h5, h6, h7, h8⟩ := hV
  have hS := part_S hw
  refine ⟨h1, h2, h3, h4, fun i hi => ?_, fun i hi hs => ?_, fun i j hi hj si sj hij => ?_, h8⟩
  · rw [hS]; split
    · omega
    · exact h5 i hi
  · rw [hS] at hs
    split at hs
    · exact absurd rfl hs
    · rename_i q
      obtain ⟨k1, k2, k3, k4⟩ := h6 i hi hs
      refine ⟨k1, k2, ?_, k4⟩
      show eS (partE e a) (eT e i) + eS (partE e a) i = 3
      rw [hS i, if_neg q, hS, if_neg]
      · exact k3
      · rintro (z | z)
        · exact q (Or.inr (by rw [← k2, z, tc]))
        · exact q (Or.inl (by rw [← k2, z, td]))
  · rw [hS] at si sj
    split at si
    · omega
    · split at sj
      · omega
      · exact h7 i j hi hj si sj hij
/-- who has a number -/
theorem own_of {e : EX} (hV : VE e) {n a : Nat} (ha : a < eM e) (hn : eN e a = n) : ownE e n = a + 1 := by
  have key : ∀ k, a < k → k ≤ eM e → ownN e n k = a + 1 := by
    intro k
    induction k with
    | zero => intro h; omega
    | succ k ih =>
      intro h1 h2
      simp only [ownN]
      by_cases q : eN e k = n
      · rw [if_pos q, hV.2.2.2.1 a k ha (by omega) (by rw [hn, q])]
      · rw [if_neg q]
        have : a ≠ k := fun z => q (by rw [← z]; exact hn)
        exact ih (by omega) (by omega)
  exact key _ ha (Nat.le_refl _)
theorem own_none {e : EX} {n : Nat} (h : ∀ a, a < eM e → eN e a ≠ n) : ownE e n = 0 := by
  have key : ∀ k, k ≤ eM e → ownN e n k = 0 := by
    intro k
    induction k with
    | zero => intro _; rfl
    | succ k ih => intro h2; simp only [ownN]; rw [if_neg (h k (by omega))]; exact ih (by omega)
  exact key _ (Nat.le_refl _)
theorem own_some {e : EX} {n a : Nat} (h : ownE e n = a + 1) : a < eM e ∧ eN e a = n := by
  have key : ∀ k, ownN e n k = a + 1 → a < k ∧ eN e a = n := by
    intro k
    induction k with
    | zero => intro h; simp [ownN] at h
    | succ k ih =>
      intro h
      simp only [ownN] at h
      split at h
      · rename_i q
        have : k = a := by omega
        subst this
        exact ⟨by omega, q⟩
      · exact ⟨by have := (ih h).1; omega, (ih h).2⟩
  exact key _ h
theorem VE_ring {e : EX} {a n : Nat} (hV : VE e) (ha : a < eM e) (sa : eS e a = 0) (hn : n ≤ 44) : VE (ringE e a n).2 := by
  have ht : n / 10 < 5 := by omega
  have hp := pickE_le hV ht
  unfold ringE
  split
  · exact hV
  · split
    · exact hV
    · rename_i q1 q2
      have hT := VE_take (w := pickE e (n / 10) - 1) hV ht (by omega)
      split
      · exact hT
      · split
        · exact hT
        · split
          · exact hT
          · rename_i q3 q4 q5
            obtain ⟨b, hb⟩ : ∃ b, ownE e n = b + 1 := ⟨ownE e n - 1, by omega⟩
            rw [hb] at q5 ⊢
            have hfr := pkC_free (e := e) (t := n / 10) (eZ e (n / 10)) (pickE e (n / 10) - 1) (by show pickE e (n / 10) = _; omega)
            refine VE_join hT ha (own_some hb).1 (fun z => q5 (Or.inl (by omega))) sa ?_ ht (by show _ < eZ e (n / 10); omega) ?_
            · show eS e b = 0
              by_cases z : eS e b = 0
              · exact z
              · exact absurd (Or.inr z) q5
            · rw [heldE_take]
              unfold freeE at hfr
              simpa using hfr
