/-! the reference's exchange at hand: row 130 -/
abbrev R130 (M : Mem) : Nat → Int32 := fun k => rd M 130 k
theorem ExM.congr {f g : Nat → Int32} {e : EX} (h : ExM f e) (hm : eM e ≤ 6) (hk : ∀ k, k < 66 → g k = f k) : ExM g e := by
  obtain ⟨h1, h2, h3, h4⟩ := h
  refine ⟨by rw [hk _ (by omega)]; exact h1, by rw [hk _ (by omega)]; exact h2, fun a ha => ?_, fun t ht => ?_⟩
  · rw [hk _ (by omega), hk _ (by omega), hk _ (by omega), hk _ (by omega)]; exact h3 a ha
  · obtain ⟨k1, k2, k3, k4, k5⟩ := h4 t ht
    refine ⟨?_, ?_, ?_, ?_, fun w hw => ?_⟩ <;> rw [hk _ (by omega)]
    · exact k1
    · exact k2
    · exact k3
    · exact k4
    · exact k5 w hw
theorem ScM.congr {f g : Nat → Int32} {c : SC} (h : ScM f c) (hm : sA c ≤ 8 ∧ sN c ≤ 6) (hk : ∀ k, 66 ≤ k → k < 96 → g k = f k) : ScM g c := by
  obtain ⟨h1, h2, h3, h4⟩ := h
  refine ⟨by rw [hk _ (by omega) (by omega)]; exact h1, by rw [hk _ (by omega) (by omega)]; exact h2, fun i hi => ?_, fun j hj => ?_⟩
  · rw [hk _ (by omega) (by omega), hk _ (by omega) (by omega)]; exact h3 i hi
  · rw [hk _ (by omega) (by omega), hk _ (by omega) (by omega)]; exact h4 j hj
/-- the row at hand alone changed, below the plan -/
def FrN (M M' : Mem) : Prop := Fr 130 131 M M' ∧ ∀ k, 66 ≤ k → rd M' 130 k = rd M 130 k
theorem FrN.refl {M : Mem} : FrN M M := ⟨Fr.refl, fun _ _ => rfl⟩
theorem FrN.trans {M M1 M2 : Mem} (h : FrN M M1) (h2 : FrN M1 M2) : FrN M M2 := ⟨h.1.trans h2.1, fun k hk => (h2.2 k hk).trans (h.2 k hk)⟩
theorem FrN.wr {M : Mem} {k : Nat} {v : Int32} (h : k < 66) : FrN M (wr M 130 k v) := ⟨Fr.wr (by omega), fun q hq => rd_ne (by omega)⟩
theorem m_of {M : Mem} {a k : Nat} {q : Int32} {post : Int32 → Mem → Prop} (hq : q = nI k) (ha : 4 * a + k < 96) (h : post (rd M 130 (4 * a + k)) M) : w_X10_of (nI a) q M post := by
  subst hq
  unfold w_X10_of
  rw [show (4 : Int32) * nI a + nI k = nI (4 * a + k) by rw [show (4 : Int32) = nI 4 from rfl, pk_mul, nI_add], tnI (by omega)]
  exact ⟨vp_in_nI ha (by omega), h⟩
theorem m_becomesOf {M : Mem} {a k : Nat} {q v : Int32} {post : Mem → Prop} (hq : q = nI k) (ha : 4 * a + k < 96) (h : post (wr M 130 (4 * a + k) v)) : w_X10_becomesOf (nI a) q v M post := by
  subst hq
  unfold w_X10_becomesOf
  rw [show (4 : Int32) * nI a + nI k = nI (4 * a + k) by rw [show (4 : Int32) = nI 4 from rfl, pk_mul, nI_add], tnI (by omega)]
  refine ⟨vp_in_nI ha (by omega), ?_⟩
  rintro M1 rfl
  exact h
theorem m_ofGroup {M : Mem} {t k : Nat} {q : Int32} {post : Int32 → Mem → Prop} (hq : q = nI k) (ha : 26 + 4 * t + k < 96) (h : post (rd M 130 (26 + 4 * t + k)) M) : w_X10_ofGroup (nI t) q M post := by
  subst hq
  unfold w_X10_ofGroup
  rw [show (26 : Int32) + 4 * nI t + nI k = nI (26 + 4 * t + k) by rw [show (4 : Int32) = nI 4 from rfl, show (26 : Int32) = nI 26 from rfl, pk_mul, nI_add, nI_add], tnI (by omega)]
  exact ⟨vp_in_nI ha (by omega), h⟩
theorem m_becomesOfGroup {M : Mem} {t k : Nat} {q v : Int32} {post : Mem → Prop} (hq : q = nI k) (ha : 26 + 4 * t + k < 96) (h : post (wr M 130 (26 + 4 * t + k) v)) : w_X10_becomesOfGroup (nI t) q v M post := by
  subst hq
  unfold w_X10_becomesOfGroup
  rw [show (26 : Int32) + 4 * nI t + nI k = nI (26 + 4 * t + k) by rw [show (4 : Int32) = nI 4 from rfl, show (26 : Int32) = nI 26 from rfl, pk_mul, nI_add, nI_add], tnI (by omega)]
  refine ⟨vp_in_nI ha (by omega), ?_⟩
  rintro M1 rfl
  exact h
theorem m_usesOf {M : Mem} {t w : Nat} {post : Int32 → Mem → Prop} (ha : 46 + 4 * t + w < 96) (h : post (rd M 130 (46 + 4 * t + w)) M) : w_X10_usesOf (nI t) (nI w) M post := by
  unfold w_X10_usesOf
  rw [show (46 : Int32) + 4 * nI t + nI w = nI (46 + 4 * t + w) by rw [show (4 : Int32) = nI 4 from rfl, show (46 : Int32) = nI 46 from rfl, pk_mul, nI_add, nI_add], tnI (by omega)]
  exact ⟨vp_in_nI ha (by omega), h⟩
theorem m_callsNow {M : Mem} {e : EX} {post : Int32 → Mem → Prop} (hM : ExM (R130 M) e) (hV : VE e) (h : post (nI (callsE e)) M) : w_X10_callsNow M post := by
  have hm := hV.m
  unfold w_X10_callsNow
  refine loop_0 (fun n i (s : Nat) => w_X10_callsNow_L4 post n (nI s) (nI i) M) (fun i s => s = cnt (fun a => decide (eS e a = 1)) i) (eM e) 0 rfl ?_ ?_
  · rintro n s rfl
    show w_X10_callsNow_L4 post (n + 1) _ _ M
    unfold w_X10_callsNow_L4
    rw [show rd M 130 24 = _ from hM.1]
    exact ⟨fun _ => h, fun c => absurd (nI_le (Nat.le_refl _) (by omega)) c⟩
  · rintro n i s hi rfl kk
    show w_X10_callsNow_L4 post (n + 1) _ _ M
    unfold w_X10_callsNow_L4
    have hs := hV.2.2.2.2.1 i hi
    rw [show rd M 130 24 = _ from hM.1]
    refine ⟨fun c => absurd c (nI_ge hi (by omega)), fun _ => ?_⟩
    refine m_of (k := 2) rfl (by omega) ?_
    rw [show rd M 130 (4 * i + 2) = _ from (hM.2.2.1 i hi).2.2.1]
    refine ⟨fun c => ?_, fun c => ?_⟩
    · have q : decide (eS e i = 1) = false := decide_eq_false (fun z => c (by rw [z]; rfl))
      refine ⟨fun _ => ?_, fun c => absurd rfl c⟩
      rintro v3 rfl v4 rfl
      have := kk (cnt (fun a => decide (eS e a = 1)) i) (by simp only [cnt, q]; rfl)
      rw [nI_1, show nI (cnt (fun a => decide (eS e a = 1)) i) + 0 = nI (cnt (fun a => decide (eS e a = 1)) i) from nI_add _ 0]
      exact this
    · have q : decide (eS e i = 1) = true := decide_eq_true (nI_inj (by omega) (by decide) c)
      refine ⟨fun c => absurd c (by decide), fun _ => ?_⟩
      rintro v3 rfl v4 rfl
      have := kk (cnt (fun a => decide (eS e a = 1)) i + 1) (by simp only [cnt, q]; rfl)
      rw [nI_1, nI_1]
      exact this
theorem or16' : ∀ a, a < 16 → ∀ b, b < 16 → (nI a ||| nI b) = nI (a ||| b) := by decide +kernel
theorem hN_16 {e : EX} (hV : VE e) {t : Nat} (ht : t < 5) (n : Nat) (hn : n ≤ eM e) : hN e t n < 16 := by
  rw [show (16 : Nat) = 2 ^ 4 by decide]
  apply Nat.lt_pow_two_of_testBit
  intro i hi
  cases hb : (hN e t n).testBit i with
  | false => rfl
  | true =>
    obtain ⟨a, h1, h2, h3, h4⟩ := (hN_bit _).mp hb
    have k := (hV.2.2.2.2.2.1 a (by omega) (by omega)).2.2.2.2
    have := (hV.2.2.2.2.2.2.2 _ k.1).2.1
    omega
theorem m_held {M : Mem} {e : EX} {t : Nat} {post : Int32 → Mem → Prop} (hM : ExM (R130 M) e) (hV : VE e) (ht : t < 5) (h : post (nI (heldE e t)) M) : w_X10_held (nI t) M post := by
  have hm := hV.m
  unfold w_X10_held
  refine loop_0 (fun n i (s : Nat) => w_X10_held_L4 post (nI t) n (nI s) (nI i) M) (fun i s => s = hN e t i) (eM e) 0 rfl ?_ ?_
  · rintro n s rfl
    show w_X10_held_L4 post (nI t) (n + 1) _ _ M
    unfold w_X10_held_L4
    rw [show rd M 130 24 = _ from hM.1]
    exact ⟨fun _ => h, fun c => absurd (nI_le (Nat.le_refl _) (by omega)) c⟩
  · rintro n i s hi rfl kk
    show w_X10_held_L4 post (nI t) (n + 1) _ _ M
    unfold w_X10_held_L4
    have hs := hV.2.2.2.2.1 i hi
    have h16 := hN_16 hV ht i (by omega)
    rw [show rd M 130 24 = _ from hM.1]
    refine ⟨fun c => absurd c (nI_ge hi (by omega)), fun _ => ?_⟩
    refine m_of (k := 3) rfl (by omega) ?_
    refine m_of (k := 2) rfl (by omega) ?_
    rw [show rd M 130 (4 * i + 2) = _ from (hM.2.2.1 i hi).2.2.1, show rd M 130 (4 * i + 3) = _ from (hM.2.2.1 i hi).2.2.2]
    have skip : ¬ (eS e i = 1 ∧ eH e i / 10 = t) → w_X10_held_J53 post (w_X10_held_L4 post (nI t) n) (nI t) (nI i) (nI (hN e t i)) M := fun q => by
      unfold w_X10_held_J53 w_X10_held_J54
      rintro v1 rfl v2 rfl
      have := kk (hN e t i) (by simp only [hN]; rw [if_neg q, Nat.or_zero])
      rw [nI_1, show nI (hN e t i) ||| 0 = nI (hN e t i) by rw [show (0 : Int32) = nI 0 from rfl, or16' _ h16 _ (by omega), Nat.or_zero]]
      exact this
    refine ⟨fun c => skip (fun z => c (by rw [z.1]; rfl)), fun c => ?_⟩
    have s1 : eS e i = 1 := nI_inj (by omega) (by decide) c
    obtain ⟨-, -, -, -, k5, k6⟩ := hV.2.2.2.2.2.1 i hi (by omega)
    have hz := (hV.2.2.2.2.2.2.2 _ k5).2.1
    unfold hI
    rw [if_neg (by omega), nI_div (by omega), nI_rem (by omega)]
    refine ⟨fun c2 => skip (fun z => c2 (by rw [z.2])), fun c2 => ?_⟩
    have s2 : eH e i / 10 = t := nI_inj (by omega) (by omega) c2
    unfold w_X10_held_J54
    rintro v1 rfl v2 rfl
    have := kk (hN e t i ||| 2 ^ (eH e i % 10)) (by simp only [hN]; rw [if_pos ⟨s1, s2⟩])
    rw [nI_1, or16 _ h16 _ (by omega)]
    exact this
/-- the reference's hunt -/
def fromE (e : EX) (t : Nat) : Nat := if eK e t = 1 ∨ eK e t = 3 then eL e t else 0
def pkM (e : EX) (t : Nat) : Nat → Nat
  | 0 => 0
  | k + 1 => if freeE e t ((fromE e t + k) % eZ e t) = true ∧ (pkM e t k = 0 ∨ eK e t = 2 ∨ (eK e t = 3 ∧ eU e t ((fromE e t + k) % eZ e t) < eU e t (pkM e t k - 1))) then (fromE e t + k) % eZ e t + 1 else pkM e t k
theorem pkM_le {e : EX} {t : Nat} : ∀ k, k ≤ eZ e t → pkM e t k ≤ eZ e t := by
  intro k
  induction k with
  | zero => intro _; exact Nat.zero_le _
  | succ k ih =>
    intro h
    have := ih (by omega)
    have : (fromE e t + k) % eZ e t < eZ e t := Nat.mod_lt _ (by omega)
    simp only [pkM]
    split <;> omega
theorem pkM_eq {e : EX} (hV : VE e) {t : Nat} (ht : t < 5) : pkM e t (eZ e t) = pickE e t := by
  obtain ⟨hk, hz, -, hl, -⟩ := hV.2.2.2.2.2.2.2 t ht
  by_cases k2 : eK e t = 2
  · have f0 : fromE e t = 0 := by unfold fromE; rw [if_neg (by omega)]
    have step : ∀ k, k < eZ e t → pkM e t (k + 1) = if freeE e t k = true then k + 1 else pkM e t k := fun k hk => by
      simp only [pkM]
      rw [f0, Nat.zero_add, Nat.mod_eq_of_lt hk]
      by_cases q : freeE e t k = true
      · rw [if_pos ⟨q, Or.inr (Or.inl k2)⟩, if_pos q]
      · rw [if_neg (fun z => q z.1), if_neg q]
    have key : ∀ i, i ≤ eZ e t → pkM e t (eZ e t) = if pkC e t i ≠ 0 then pkC e t i else pkM e t (eZ e t - i) := by
      intro i
      induction i with
      | zero => intro _; rw [if_neg (by simp [pkC])]; rfl
      | succ i ih =>
        intro hi
        have h0 := ih (by omega)
        have ht : turnE e t i = eZ e t - 1 - i := by unfold turnE; rw [if_neg (by omega), if_pos k2]
        have hp : pkC e t (i + 1) = if freeE e t (turnE e t i) = true ∧ (pkC e t i = 0 ∨ (eK e t = 3 ∧ eU e t (turnE e t i) < eU e t (pkC e t i - 1))) then turnE e t i + 1 else pkC e t i := rfl
        by_cases q : pkC e t i = 0
        · rw [if_neg (by omega), show eZ e t - i = (eZ e t - 1 - i) + 1 by omega, step _ (by omega)] at h0
          by_cases q2 : freeE e t (eZ e t - 1 - i) = true
          · rw [if_pos q2] at h0
            rw [if_pos ⟨by rw [ht]; exact q2, Or.inl q⟩, ht] at hp
            rw [hp, if_pos (by omega)]
            exact h0
          · rw [if_neg q2] at h0
            rw [if_neg (fun z => q2 (by rw [← ht]; exact z.1))] at hp
            rw [hp, if_neg (by omega), h0]
            congr 1
            omega
        · rw [if_pos (by omega)] at h0
          rw [if_neg (fun z => z.2.elim q (fun y => by omega))] at hp
          rw [hp, if_pos (by omega)]
          exact h0
    have := key (eZ e t) (Nat.le_refl _)
    rw [this]
    unfold pickE
    split
    · rfl
    · rename_i q
      rw [Nat.sub_self]
      simp only [pkM]
      omega
  · have key : ∀ k, k ≤ eZ e t → pkM e t k = pkC e t k := by
      intro k
      induction k with
      | zero => intro _; rfl
      | succ k ih =>
        intro h
        have e1 : (fromE e t + k) % eZ e t = turnE e t k := by
          unfold fromE turnE
          by_cases k0 : eK e t = 0
          · rw [if_neg (by omega), if_pos k0, Nat.zero_add, Nat.mod_eq_of_lt (by omega)]
          · rw [if_pos (by omega), if_neg k0, if_neg k2]
            by_cases q : eL e t + k < eZ e t
            · rw [if_pos q, Nat.mod_eq_of_lt q]
            · rw [if_neg q, Nat.mod_eq_sub_mod (by omega), Nat.mod_eq_of_lt (by omega)]
        simp only [pkM, pkC]
        rw [e1, ih (by omega)]
        by_cases q : freeE e t (turnE e t k) = true ∧ (pkC e t k = 0 ∨ (eK e t = 3 ∧ eU e t (turnE e t k) < eU e t (pkC e t k - 1)))
        · rw [if_pos q, if_pos ⟨q.1, q.2.elim Or.inl (fun z => Or.inr (Or.inr z))⟩]
        · rw [if_neg q, if_neg]
          rintro ⟨z1, z2 | z2 | z2⟩
          · exact q ⟨z1, Or.inl z2⟩
          · exact k2 z2
          · exact q ⟨z1, Or.inr z2⟩
    exact key _ (Nat.le_refl _)
theorem nI_irem {a d : Nat} (ha : a < 2 ^ 31) (h0 : 0 < d) (hd : d < 2 ^ 31) : irem (nI a) (nI d) = nI (a % d) := pk_rem ha h0 hd
theorem m_taken {M : Mem} {e : EX} {t : Nat} {post : Int32 → Mem → Prop} (hM : ExM (R130 M) e) (hV : VE e) (ht : t < 5) (h : post (oI (pickE e t)) M) : w_X10_taken (nI t) M post := by
  obtain ⟨hk, hz, -, hl, -⟩ := hV.2.2.2.2.2.2.2 t ht
  obtain ⟨g1, g2, g3, g4, g5⟩ := hM.2.2.2 t ht
  rw [← pkM_eq hV ht] at h
  have main : w_X10_taken_J60 post (nI t) (nI (eZ e t)) (nI (heldE e t)) (nI (eK e t)) (nI (fromE e t)) M := by
    have hfr : fromE e t ≤ 4 := by unfold fromE; split <;> omega
    unfold w_X10_taken_J60
    refine loop_0 (fun n i (s : Nat) => w_X10_taken_L69 post (nI t) (nI (eZ e t)) (nI (heldE e t)) (nI (eK e t)) (nI (fromE e t)) n (oI s) (nI i) M) (fun i s => s = pkM e t i) (eZ e t) 0 rfl ?_ ?_
    · rintro n s rfl
      show w_X10_taken_L69 post _ _ _ _ _ (n + 1) _ _ M
      unfold w_X10_taken_L69
      exact ⟨fun _ => h, fun c => absurd (nI_le (Nat.le_refl _) (by omega)) c⟩
    · rintro n i s hi rfl kk
      show w_X10_taken_L69 post _ _ _ _ _ (n + 1) _ _ M
      unfold w_X10_taken_L69
      refine ⟨fun c => absurd c (nI_ge hi (by omega)), fun _ => ⟨nI_ne0 (by omega) (by omega), ?_⟩⟩
      rw [nI_add, nI_irem (by omega) (by omega) (by omega)]
      rintro v6 rfl
      have hw : (fromE e t + i) % eZ e t < eZ e t := Nat.mod_lt _ (by omega)
      have hp := pkM_le (e := e) (t := t) i (by omega)
      rw [bit16 _ (heldE_16 hV ht) _ (by omega)]
      have next : ∀ s, s = pkM e t (i + 1) → ∀ v1, v1 = nI i + 1 → w_X10_taken_L69 post (nI t) (nI (eZ e t)) (nI (heldE e t)) (nI (eK e t)) (nI (fromE e t)) n (oI s) v1 M := fun s hs v1 hv => by
        have := kk s hs
        rw [hv, nI_1]
        exact this
      have fin1 : pkM e t (i + 1) = pkM e t i → w_X10_taken_J158 post (w_X10_taken_L69 post (nI t) (nI (eZ e t)) (nI (heldE e t)) (nI (eK e t)) (nI (fromE e t)) n) (nI t) (nI (eZ e t)) (nI (heldE e t)) (nI (eK e t)) (nI (fromE e t)) (oI (pkM e t i)) (nI i) M := fun q => by
        unfold w_X10_taken_J158 w_X10_taken_J160
        exact next _ q.symm
      have fin2 : pkM e t (i + 1) = (fromE e t + i) % eZ e t + 1 → w_X10_taken_J160 post (w_X10_taken_L69 post (nI t) (nI (eZ e t)) (nI (heldE e t)) (nI (eK e t)) (nI (fromE e t)) n) (nI t) (nI (eZ e t)) (nI (heldE e t)) (nI (eK e t)) (nI (fromE e t)) (nI i) (nI ((fromE e t + i) % eZ e t)) M := fun q => by
        unfold w_X10_taken_J160
        exact next ((fromE e t + i) % eZ e t + 1) q.symm
      have j98 : ∀ z : Int32, (z = 0 ↔ ¬ freeE e t ((fromE e t + i) % eZ e t) = true) → w_X10_taken_J98 post (w_X10_taken_L69 post (nI t) (nI (eZ e t)) (nI (heldE e t)) (nI (eK e t)) (nI (fromE e t)) n) (nI t) (nI (eZ e t)) (nI (heldE e t)) (nI (eK e t)) (nI (fromE e t)) (oI (pkM e t i)) (nI i) (nI ((fromE e t + i) % eZ e t)) z M := by
        intro z hz'
        have yes : (pkM e t i = 0 ∨ eK e t = 2 ∨ (eK e t = 3 ∧ eU e t ((fromE e t + i) % eZ e t) < eU e t (pkM e t i - 1))) → w_X10_taken_J136 post (w_X10_taken_L69 post (nI t) (nI (eZ e t)) (nI (heldE e t)) (nI (eK e t)) (nI (fromE e t)) n) (nI t) (nI (eZ e t)) (nI (heldE e t)) (nI (eK e t)) (nI (fromE e t)) (oI (pkM e t i)) (nI i) (nI ((fromE e t + i) % eZ e t)) z M := fun q => by
          unfold w_X10_taken_J136 w_X10_taken_J141
          refine ⟨fun c => fin1 ?_, fun c => ⟨fun c2 => absurd c2 (by decide), fun _ => fin2 ?_⟩⟩
          · simp only [pkM]; rw [if_neg (fun y => hz'.mp c y.1)]
          · have hf : freeE e t ((fromE e t + i) % eZ e t) = true := by
              by_cases y : freeE e t ((fromE e t + i) % eZ e t) = true
              · exact y
              · exact absurd (hz'.mpr y) c
            simp only [pkM]; rw [if_pos ⟨hf, q⟩]
        have no : ¬ (pkM e t i = 0 ∨ eK e t = 2 ∨ (eK e t = 3 ∧ eU e t ((fromE e t + i) % eZ e t) < eU e t (pkM e t i - 1))) → w_X10_taken_J140 post (w_X10_taken_L69 post (nI t) (nI (eZ e t)) (nI (heldE e t)) (nI (eK e t)) (nI (fromE e t)) n) (nI t) (nI (eZ e t)) (nI (heldE e t)) (nI (eK e t)) (nI (fromE e t)) (oI (pkM e t i)) (nI i) (nI ((fromE e t + i) % eZ e t)) z M := fun q => by
          have e1 : pkM e t (i + 1) = pkM e t i := by simp only [pkM]; rw [if_neg (fun y => q y.2)]
          unfold w_X10_taken_J140 w_X10_taken_J141
          exact ⟨fun _ => fin1 e1, fun _ => ⟨fun _ => fin1 e1, fun c => absurd rfl c⟩⟩
        unfold w_X10_taken_J98
        refine ⟨fun c => yes (Or.inl ((oI_4 (by omega)).mp c)), fun c => ⟨fun c2 => yes (Or.inr (Or.inl (nI_inj (by omega) (by decide) c2))), fun c2 => ⟨fun c3 => no ?_, fun c3 => ?_⟩⟩⟩
        · rintro (y | y | y)
          · exact c (by rw [y]; rfl)
          · exact c2 (by rw [y]; rfl)
          · exact c3 (by rw [y.1]; rfl)
        · have p0 : pkM e t i ≠ 0 := fun y => c (by rw [y]; rfl)
          have n2 : eK e t ≠ 2 := fun y => c2 (by rw [y]; rfl)
          have k3 : eK e t = 3 := nI_inj (by omega) (by decide) c3
          obtain ⟨q, hq⟩ : ∃ q, pkM e t i = q + 1 := ⟨pkM e t i - 1, by omega⟩
          refine m_usesOf (by omega) ?_
          have e0 : oI (pkM e t i) = nI q := by rw [hq, oI_s]
          have u1 : rd M 130 (46 + 4 * t + (fromE e t + i) % eZ e t) = eU e t ((fromE e t + i) % eZ e t) := g5 _ (by omega)
          have u2 : rd M 130 (46 + 4 * t + q) = eU e t q := g5 _ (by omega)
          have um : w_X10_usesOf (nI t) (oI (pkM e t i)) M (fun r5 M4 => (r5 ≤ rd M 130 (46 + 4 * t + (fromE e t + i) % eZ e t) → w_X10_taken_J140 post (w_X10_taken_L69 post (nI t) (nI (eZ e t)) (nI (heldE e t)) (nI (eK e t)) (nI (fromE e t)) n) (nI t) (nI (eZ e t)) (nI (heldE e t)) (nI (eK e t)) (nI (fromE e t)) (oI (pkM e t i)) (nI i) (nI ((fromE e t + i) % eZ e t)) z M4) ∧ (¬ r5 ≤ rd M 130 (46 + 4 * t + (fromE e t + i) % eZ e t) → w_X10_taken_J136 post (w_X10_taken_L69 post (nI t) (nI (eZ e t)) (nI (heldE e t)) (nI (eK e t)) (nI (fromE e t)) n) (nI t) (nI (eZ e t)) (nI (heldE e t)) (nI (eK e t)) (nI (fromE e t)) (oI (pkM e t i)) (nI i) (nI ((fromE e t + i) % eZ e t)) z M4)) := by
            rw [e0]
            refine m_usesOf (by omega) ?_
            rw [← e0, u1, u2]
            refine ⟨fun c4 => no ?_, fun c4 => yes (Or.inr (Or.inr ⟨k3, ?_⟩))⟩
            · rintro (y | y | y)
              · exact p0 y
              · exact n2 y
              · rw [hq] at y; exact absurd y.2 (Int32.not_lt.mpr c4)
            · rw [hq]; exact Int32.not_le.mp c4
          exact um
      cases hb : (heldE e t).testBit ((fromE e t + i) % eZ e t) with
      | true => exact ⟨fun _ => j98 0 ⟨fun _ => by unfold freeE; rw [hb]; decide, fun _ => rfl⟩, fun c => absurd c (by decide)⟩
      | false => exact ⟨fun c => absurd rfl c, fun _ => j98 1 ⟨fun c => absurd c (by decide), fun c => absurd (by unfold freeE; rw [hb]; rfl) c⟩⟩
  unfold w_X10_taken
  refine m_ofGroup (k := 1) rfl (by omega) ?_
  rw [show rd M 130 (26 + 4 * t + 1) = nI (eZ e t) by rw [show 26 + 4 * t + 1 = 27 + 4 * t by omega]; exact g2]
  refine m_held hM hV ht ?_
  refine m_ofGroup (k := 0) rfl (by omega) ?_
  rw [show rd M 130 (26 + 4 * t + 0) = nI (eK e t) from g1]
  have j33 : (eK e t = 1 ∨ eK e t = 3) → w_X10_taken_J33 post (nI t) (nI (eZ e t)) (nI (heldE e t)) (nI (eK e t)) M := fun q => by
    unfold w_X10_taken_J33
    have e3 : rd M 130 (26 + 4 * t + 3) = oI (eL e t) := by rw [show 26 + 4 * t + 3 = 29 + 4 * t by omega]; exact g4
    have ef : fromE e t = eL e t := by unfold fromE; rw [if_pos q]
    refine m_ofGroup (k := 3) rfl (by omega) ?_
    rw [e3]
    refine ⟨fun c => ?_, fun c => ?_⟩
    · refine m_ofGroup (k := 3) rfl (by omega) ?_
      rw [e3]
      have l0 : eL e t ≠ 0 := fun y => c (by rw [y]; rfl)
      obtain ⟨l, hl'⟩ : ∃ l, eL e t = l + 1 := ⟨eL e t - 1, by omega⟩
      rw [hl', oI_s, nI_1, ← hl', ← ef]
      exact main
    · have l0 := (oI_4 (by omega)).mp c
      rw [ef, l0] at main
      exact main
  refine ⟨fun c => j33 (Or.inl (nI_inj (by omega) (by decide) c)), fun c => ⟨fun c2 => ?_, fun c2 => j33 (Or.inr (nI_inj (by omega) (by decide) c2))⟩⟩
  have ef : fromE e t = 0 := by
    unfold fromE
    rw [if_neg]
    rintro (y | y)
    · exact c (by rw [y]; rfl)
    · exact c2 (by rw [y]; rfl)
  rw [ef] at main
  exact main
theorem m_whoHas {M : Mem} {e : EX} {v : Int32} {post : Int32 → Mem → Prop} (hM : ExM (R130 M) e) (hV : VE e) (h : ∀ o, (∀ a, a < eM e → (nI (eN e a) = v ↔ o = a + 1)) → o ≤ eM e → post (oI o) M) : w_X10_whoHas v M post := by
  have hm := hV.m
  unfold w_X10_whoHas
  refine loop_0 (fun n i (s : Nat) => w_X10_whoHas_L5 post v n (oI s) (nI i) M) (fun i s => (∀ a, a < i → (nI (eN e a) = v ↔ s = a + 1)) ∧ s ≤ i) (eM e) 0 ⟨fun a ha => by omega, Nat.le_refl _⟩ ?_ ?_
  · rintro n s ⟨h1, h2⟩
    show w_X10_whoHas_L5 post v (n + 1) _ _ M
    unfold w_X10_whoHas_L5
    rw [show rd M 130 24 = _ from hM.1]
    exact ⟨fun _ => h s h1 h2, fun c => absurd (nI_le (Nat.le_refl _) (by omega)) c⟩
  · rintro n i s hi ⟨h1, h2⟩ kk
    show w_X10_whoHas_L5 post v (n + 1) _ _ M
    unfold w_X10_whoHas_L5
    rw [show rd M 130 24 = _ from hM.1]
    have hn := (hV.2.2.1 i hi).1
    refine ⟨fun c => absurd c (nI_ge hi (by omega)), fun _ => ?_⟩
    refine m_of (k := 0) rfl (by omega) ?_
    rw [show rd M 130 (4 * i + 0) = _ from (hM.2.2.1 i hi).1]
    refine ⟨fun c => ?_, fun c => ?_⟩
    · rintro v1 rfl
      rw [nI_1]
      refine kk s ⟨fun a ha => ?_, by omega⟩
      by_cases q : a = i
      · rw [q]; exact ⟨fun z => absurd z c, fun z => by omega⟩
      · exact h1 a (by omega)
    · rintro v1 rfl
      rw [nI_1, show nI i = oI (i + 1) from rfl]
      refine kk (i + 1) ⟨fun a ha => ?_, by omega⟩
      by_cases q : a = i
      · rw [q]; exact ⟨fun _ => rfl, fun _ => c⟩
      · refine ⟨fun z => ?_, fun z => by omega⟩
        have := (hV.2.2.1 a (by omega)).1
        exact absurd (hV.2.2.2.1 a i (by omega) hi (nI_inj (by omega) (by omega) (z.trans c.symm))) q
theorem m_owner {M : Mem} {e : EX} {n : Nat} {post : Int32 → Mem → Prop} (hM : ExM (R130 M) e) (hV : VE e) (hn : n < 2 ^ 31) (h : post (oI (ownE e n)) M) : w_X10_whoHas (nI n) M post := by
  refine m_whoHas hM hV (fun o ho hle => ?_)
  have : o = ownE e n := by
    have hm := hV.m
    rcases Nat.eq_zero_or_pos o with z | z
    · rw [z, own_none (fun a ha q => ?_)]
      have := (ho a ha).mp (by rw [q])
      omega
    · obtain ⟨a, rfl⟩ : ∃ a, o = a + 1 := ⟨o - 1, by omega⟩
      have h1 := (ho a (by omega)).mpr rfl
      have := (hV.2.2.1 a (by omega)).1
      exact (own_of hV (by omega) (nI_inj (by omega) hn h1)).symm
  rw [this]
  exact h
