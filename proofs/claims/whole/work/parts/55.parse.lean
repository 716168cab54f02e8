/-! what a text tells -/
abbrev DD : Type := EX × SC × Bool × Bool × Nat
def dE (d : DD) : EX := d.1
def dC (d : DD) : SC := d.2.1
def dF (d : DD) : Bool := d.2.2.1
def dP (d : DD) : Bool := d.2.2.2.1
def dG (d : DD) : Nat := d.2.2.2.2
def e00 : EX := (0, 2, fun _ => 0, fun _ => 0, fun _ => 0, fun _ => 0, fun _ => 0, fun _ => 1, fun _ => 0, fun _ => 0, fun _ _ => 0)
def c00 : SC := (0, fun _ => 0, fun _ => 0, 0, fun _ => 0, fun _ => 0)
def d00 : DD := (e00, c00, false, false, 0)
def addE (e : EX) (n : Nat) : EX := (eM e + 1, eF e, up (eN e) (eM e) n, up (eS e) (eM e) 0, eT e, eH e, eK e, eZ e, eD e, eL e, eU e)
def FRs (e : EX) : Prop := (∀ a, eS e a = 0) ∧ ∀ t, eD e t = 0 ∧ eL e t = 0 ∧ ∀ w, eU e t w = 0
def DOK (d : DD) : Prop := VE (dE d) ∧ FRs (dE d) ∧ (sA (dC d) ≤ 8 ∧ sN (dC d) = 0 ∧ ∀ i, i < sA (dC d) → sW (dC d) i < 6 ∧ dialOK (sD (dC d) i)) ∧ dG d < 32 ∧ (dP d = false → sA (dC d) = 0)
theorem heldE_fr {e : EX} (h : FRs e) (t : Nat) : heldE e t = 0 := by
  apply Nat.eq_of_testBit_eq
  intro i
  cases q : (heldE e t).testBit i with
  | false => simp
  | true =>
    obtain ⟨a, _, h2, _⟩ := (hN_bit _).mp q
    rw [h.1 a] at h2
    exact absurd h2 (by decide)
theorem callsE_fr {e : EX} (h : FRs e) : callsE e = 0 := by
  unfold callsE
  have : ∀ n, cnt (fun a => decide (eS e a = 1)) n = 0 := fun n => by
    induction n with
    | zero => rfl
    | succ n ih => rw [cnt_f (p := fun a => decide (eS e a = 1)) (by simp [h.1 n])]; exact ih
  exact this _
theorem VE_00 : VE e00 := ⟨by decide, by decide, fun a ha => absurd ha (Nat.not_lt_zero _), fun a b ha => absurd ha (Nat.not_lt_zero _), fun a ha => absurd ha (Nat.not_lt_zero _), fun a ha => absurd ha (Nat.not_lt_zero _), fun a b ha => absurd ha (Nat.not_lt_zero _), fun t _ => ⟨Nat.zero_le _, by show 1 ≤ 4; omega, by show 0 < 2 ^ 1; omega, Nat.zero_le _, fun _ _ _ => rfl⟩⟩
theorem FR_00 : FRs e00 := ⟨fun _ => rfl, fun _ => ⟨rfl, rfl, fun _ => rfl⟩⟩
theorem DOK_00 : DOK d00 := ⟨VE_00, FR_00, ⟨Nat.zero_le _, rfl, fun i hi => absurd hi (Nat.not_lt_zero _)⟩, by decide, fun _ => rfl⟩
theorem VE_addE {e : EX} {n : Nat} (hV : VE e) (hF : FRs e) (h6 : eM e < 6) (hn : numOK n) (ho : ownE e n = 0) : VE (addE e n) ∧ FRs (addE e n) := by
  have hno := own_no hV ho
  obtain ⟨h1, h2, h3, h4, h5, hh6, h7, h8⟩ := hV
  have z : ∀ a, eS (addE e n) a = 0 := fun a => by
    show up (eS e) (eM e) 0 a = 0
    by_cases q : a = eM e
    · rw [up_eq q]
    · rw [up_ne q]; exact hF.1 a
  refine ⟨⟨by show eM e + 1 ≤ 6; omega, h2, fun a ha => ?_, fun a b ha hb hab => ?_, fun a _ => by rw [z a]; omega, fun a _ hs => absurd (z a) hs, fun a b _ _ sa => absurd (sa.symm.trans (z a)) (by decide), h8⟩, z, hF.2⟩
  · have ha : a < eM e + 1 := ha
    show up (eN e) (eM e) n a ≤ 44 ∧ up (eN e) (eM e) n a % 10 ≤ 4
    by_cases q : a = eM e
    · rw [up_eq q]; exact hn
    · rw [up_ne q]; exact h3 a (by omega)
  · have ha : a < eM e + 1 := ha
    have hb : b < eM e + 1 := hb
    change up (eN e) (eM e) n a = up (eN e) (eM e) n b at hab
    by_cases q : a = eM e <;> by_cases q2 : b = eM e
    · rw [q, q2]
    · rw [up_eq q, up_ne q2] at hab; exact absurd hab.symm (hno b (by omega))
    · rw [up_ne q, up_eq q2] at hab; exact absurd hab (hno a (by omega))
    · rw [up_ne q, up_ne q2] at hab; exact h4 a b (by omega) (by omega) hab
theorem FR_finE {e : EX} {n : Nat} (h : FRs e) : FRs (finE e n) := h
theorem FR_kindE {e : EX} {t n : Nat} (h : FRs e) : FRs (kindE e t n) := h
theorem FR_sizeE {e : EX} {t n : Nat} (h : FRs e) : FRs (sizeE e t n) := by
  refine ⟨h.1, fun t' => ⟨?_, ?_, fun w => ?_⟩⟩
  · show up (eD e) t (eD e t % 2 ^ n) t' = 0
    by_cases q : t' = t
    · rw [up_eq q, (h.2 t).1, Nat.zero_mod]
    · rw [up_ne q]; exact (h.2 t').1
  · show up (eL e) t (if n < eL e t then 0 else eL e t) t' = 0
    by_cases q : t' = t
    · rw [up_eq q, (h.2 t).2.1]; split <;> rfl
    · rw [up_ne q]; exact (h.2 t').2.1
  · show (if t' = t ∧ n ≤ w then 0 else eU e t' w) = 0
    split
    · rfl
    · exact (h.2 t').2.2 w
/-- faults of tokens -/
def kF (T : TP) (p k : Nat) : Nat := if tK T p = 4 then 1 else if tK T p ≠ k then 2 else 0
def numF (T : TP) (p lo hi : Nat) : Nat := if kF T p 2 ≠ 0 then kF T p 2 else if tV T p < lo ∨ hi < tV T p then 3 else 0
def wordsN : List (List Nat) := [[108, 105, 110, 101], [102, 105, 110, 100, 101, 114, 115], [104, 111, 109, 101], [111, 110], [98, 97, 99, 107], [115, 112, 114, 101, 97, 100], [112, 108, 97, 110]]
def mtL (T : TP) (s : Nat) : List Nat → Nat → Bool
  | [], _ => true
  | b :: bs, i => decide (T.2 (s + i) = b) && mtL T s bs (i + 1)
def mB (T : TP) (p k : Nat) : Bool := decide (tE T p - tS T p = (wordsN.getD k []).length) && mtL T (tS T p) (wordsN.getD k []) 0
def wdN (T : TP) (p : Nat) : Nat := if mB T p 2 = true then 0 else if mB T p 3 = true then 1 else if mB T p 4 = true then 2 else if mB T p 5 = true then 3 else if mB T p 0 = true then 4 else if mB T p 1 = true then 5 else if mB T p 6 = true then 6 else 7
/-- what comes of a line: the fault (0 none), its place or where the text goes on, what is told -/
abbrev OUT : Type := Nat × Nat × DD
def signO (T : TP) (p : Nat) (d : DD) : OUT := if kF T p 3 ≠ 0 then (kF T p 3, tS T p, d) else (0, tE T p, d)
def oneO (T : TP) (p : Nat) (d : DD) : OUT :=
  if 6 ≤ eM (dE d) then (5, tS T p, d) else
    if kF T (tE T p) 2 ≠ 0 then (kF T (tE T p) 2, tS T (tE T p), d) else
      if ¬ (tV T (tE T p) ≤ 44 ∧ tV T (tE T p) % 10 ≤ 4) then (3, tS T (tE T p), d) else
        if ownE (dE d) (tV T (tE T p)) ≠ 0 then (4, tS T (tE T p), d) else
          signO T (tE T (tE T p)) (addE (dE d) (tV T (tE T p)), dC d, dF d, dP d, dG d)
def finO (T : TP) (p : Nat) (d : DD) : OUT :=
  if dF d = true then (4, tS T p, d) else
    if numF T (tE T p) 1 6 ≠ 0 then (numF T (tE T p) 1 6, tS T (tE T p), d) else
      signO T (tE T (tE T p)) (finE (dE d) (tV T (tE T p)), dC d, true, dP d, dG d)
def grpO (T : TP) (p k : Nat) (d : DD) : OUT :=
  if numF T (tE T p) 0 4 ≠ 0 then (numF T (tE T p) 0 4, tS T (tE T p), d) else
    if (dG d).testBit (tV T (tE T p)) = true then (4, tS T (tE T p), d) else
      if numF T (tE T (tE T p)) 0 4 ≠ 0 then (numF T (tE T (tE T p)) 0 4, tS T (tE T (tE T p)), d) else
        signO T (tE T (tE T (tE T p))) (sizeE (kindE (dE d) (tV T (tE T p)) k) (tV T (tE T p)) (tV T (tE T (tE T p))), dC d, dF d, dP d, dG d ||| 2 ^ tV T (tE T p))
def plL (T : TP) : Nat → Nat → DD → OUT
  | 0, p, d => (5, tS T p, d)
  | f + 1, p, d =>
    if tK T p = 3 then (0, tE T p, d) else
      if kF T p 2 ≠ 0 then (kF T p 2, tS T p, d) else
        if 8 ≤ sA (dC d) then (5, tS T p, d) else
          if 6 ≤ tV T p then (3, tS T p, d) else
            if kF T (tE T p) 2 ≠ 0 then (kF T (tE T p) 2, tS T (tE T p), d) else
              if ¬ (tV T (tE T p) = 99 ∨ (tV T (tE T p) ≤ 44 ∧ tV T (tE T p) % 10 ≤ 4)) then (3, tS T (tE T p), d) else
                plL T f (tE T (tE T p)) (dE d, planA (dC d) (tV T p) (tV T (tE T p)), dF d, dP d, dG d)
def plnO (T : TP) (p : Nat) (d : DD) : OUT := if dP d = true then (4, tS T p, d) else plL T 9 (tE T p) (dE d, dC d, dF d, true, dG d)
def lineO (T : TP) (p : Nat) (d : DD) : OUT :=
  if kF T p 1 ≠ 0 then (kF T p 1, tS T p, d) else
    if wdN T p = 7 then (2, tS T p, d) else
      if wdN T p = 4 then oneO T p d else if wdN T p = 5 then finO T p d else if wdN T p = 6 then plnO T p d else grpO T p (wdN T p) d
def hiW (w : Nat → Nat) : Nat → Nat
  | 0 => 0
  | n + 1 => if hiW w n < w n + 1 then w n + 1 else hiW w n
def txL (T : TP) : Nat → Nat → DD → Nat → Nat × Nat × Nat × DD
  | 0, p, d, n => (2, tS T p, n, d)
  | f + 1, p, d, n =>
    if tK T p = 0 then (if hiW (sW (dC d)) (sA (dC d)) ≤ eM (dE d) then (0, 0, n, d) else (6, tS T p, n, d)) else
      if (lineO T p d).1 ≠ 0 then ((lineO T p d).1, (lineO T p d).2.1, n, (lineO T p d).2.2) else txL T f (lineO T p d).2.1 (lineO T p d).2.2 (n + 1)
/-! the class's reader -/
def RdC (M : Mem) (d : DD) : Prop := ExC M 53 (dE d) ∧ ScC M 69 (dC d) ∧ rd M 50 6 = (if dF d = true then 1 else 0) ∧ rd M 50 7 = (if dP d = true then 1 else 0) ∧ rd M 50 8 = nI (dG d)
/-- the memory's part that the reader does not touch -/
def FrR (M M' : Mem) : Prop := ∀ i q, (i < 50 ∨ 74 ≤ i ∨ i = 52 ∨ (i = 51 ∧ q = 1)) → rd M' i q = rd M i q
theorem FrR.refl {M : Mem} : FrR M M := fun _ _ _ => rfl
theorem FrR.trans {M M1 M2 : Mem} (h : FrR M M1) (h2 : FrR M1 M2) : FrR M M2 := fun i q p => (h2 i q p).trans (h i q p)
theorem FrR.of {M M' : Mem} {lo hi : Nat} (f : Fr lo hi M M') (h : 53 ≤ lo ∧ hi ≤ 74) : FrR M M' := fun i q p => f.row (by omega) q
theorem FrR.tok {M M' : Mem} {T : TP} (h1 : TapeC M T) (h2 : TapeC M' T) (f : Fr 51 52 M M') : FrR M M' := fun i q p => by
  by_cases z : i = 51
  · have : q = 1 := by omega
    rw [z, this, h1.1, h2.1]
  · exact f.row (by omega) q
theorem TapeC.r {M M' : Mem} {T : TP} (h : TapeC M T) (f : FrR M M') : TapeC M' T := h.fr (f _ _ (by omega)) (fun k => f _ _ (by omega))
theorem RdC.fr {M M' : Mem} {d : DD} {lo hi : Nat} (h : RdC M d) (f : Fr lo hi M M') (hd : hi ≤ 50 ∨ 74 ≤ lo ∨ (51 ≤ lo ∧ hi ≤ 53)) : RdC M' d := by
  obtain ⟨h1, h2, h3, h4, h5⟩ := h
  exact ⟨h1.fr f (by omega), h2.fr f (by omega), by rw [f.row (by omega)]; exact h3, by rw [f.row (by omega)]; exact h4, by rw [f.row (by omega)]; exact h5⟩
theorem RdC.at {M M' : Mem} {d : DD} (h : RdC M d) (s : ∀ i q, ((i = 50 ∨ 53 ≤ i) ∧ i < 74 ∧ ¬ (i = 50 ∧ (q = 4 ∨ q = 5))) → rd M' i q = rd M i q) : RdC M' d := by
  obtain ⟨h1, h2, h3, h4, h5⟩ := h
  exact ⟨h1.at (fun i q _ _ => s _ _ (by omega)), h2.at (fun i q _ _ => s _ _ (by omega)), by rw [s _ _ (by omega)]; exact h3, by rw [s _ _ (by omega)]; exact h4, by rw [s _ _ (by omega)]; exact h5⟩
theorem c_wrong {M : Mem} {k : Nat} {T : TP} {p : Nat} {post : Int32 → Mem → Prop} (h3 : rd M 51 3 = nI (tS T p)) (h : ∀ M', rd M' 50 4 = nI k → rd M' 50 5 = nI (tS T p) → FrR M M' → post 0 M') : w_X4_wrong (nI k) M post := by
  unfold w_X4_wrong
  rintro M1 rfl M2 hM2
  rw [rd_ne (by omega), h3] at hM2
  subst hM2
  refine h _ ?_ (rd_eq ⟨rfl, rfl⟩) (fun i q p => ?_)
  · rw [rd_ne (by omega), rd_eq ⟨rfl, rfl⟩]
  · rw [rd_ne (by omega), rd_ne (by omega)]
theorem c_stands {M : Mem} {T : TP} {p k : Nat} {post : Int32 → Mem → Prop} (hT : TokC M T p) (hk : k < 4) (ok : kF T p k = 0 → post 1 M) (bad : kF T p k ≠ 0 → ∀ M', rd M' 50 4 = nI (kF T p k) → rd M' 50 5 = nI (tS T p) → FrR M M' → post 0 M') : w_X4_stands (nI k) M post := by
  have h4 := tK_4 (T := T) (p := p)
  obtain ⟨t2, t3, t4, t5⟩ := hT
  unfold w_X4_stands
  rw [t2]
  refine ⟨fun q => ?_, fun q => ?_⟩
  · have q4 : tK T p ≠ 4 := fun z => q (by rw [z]; rfl)
    refine ⟨fun q2 => ?_, fun q2 => ?_⟩
    · have e : kF T p k = 0 := by unfold kF; rw [if_neg q4, if_neg (fun z => z (nI_inj (by omega) (by omega) q2))]
      exact ok e
    · have e : kF T p k = 2 := by unfold kF; rw [if_neg q4, if_pos (fun z => q2 (by rw [z]))]
      refine c_wrong (k := 2) t3 (fun M' b1 b2 b3 => ⟨fun _ => bad (by omega) M' (by rw [e]; exact b1) b2 b3, fun z => absurd rfl z⟩)
  · have q4 : tK T p = 4 := nI_inj (by omega) (by decide) q
    have e : kF T p k = 1 := by unfold kF; rw [if_pos q4]
    refine c_wrong (k := 1) t3 (fun M' b1 b2 b3 => ⟨zb_0, bad (by omega) M' (by rw [e]; exact b1) b2 b3⟩)
theorem c_takes {M : Mem} {T : TP} {p k : Nat} {post : Int32 → Mem → Prop} (hT : TapeC M T) (hO : OKT T) (hp : p ≤ T.1) (h4 : rd M 51 4 = nI p) (hk : k < 4) (ok : kF T p k = 0 → ∀ M', TokC M' T p → Fr 51 52 M M' → TapeC M' T → post 1 M') (bad : kF T p k ≠ 0 → ∀ M', rd M' 50 4 = nI (kF T p k) → rd M' 50 5 = nI (tS T p) → FrR M M' → post 0 M') : w_X4_takes (nI k) M post := by
  unfold w_X4_takes
  refine c_next hT hO hp h4 (fun M1 a1 a2 a3 => ?_)
  exact c_stands a1 hk (fun e => ⟨zb_1, ok e M1 a1 a3 a2⟩) (fun e M' b1 b2 b3 => ⟨zb_0, bad e M' b1 b2 ((FrR.tok hT a2 a3).trans b3)⟩)
theorem kF_2 {T : TP} {p k : Nat} (h : kF T p k = 0) : tK T p = k := by
  unfold kF at h
  split at h
  · omega
  · split at h
    · omega
    · rename_i z; exact Classical.byContradiction (fun y => z y)
theorem c_takesN {M : Mem} {T : TP} {p lo hi : Nat} {post : Int32 → Mem → Prop} (hT : TapeC M T) (hO : OKT T) (hp : p ≤ T.1) (h4 : rd M 51 4 = nI p) (hlo : lo < 100) (hhi : hi < 100) (hv : tK T p = 2 → tV T p < 100) (ok : numF T p lo hi = 0 → ∀ M', TokC M' T p → rd M' 51 5 = nI (tV T p) → Fr 51 52 M M' → TapeC M' T → post 1 M') (bad : numF T p lo hi ≠ 0 → ∀ M', rd M' 50 4 = nI (numF T p lo hi) → rd M' 50 5 = nI (tS T p) → FrR M M' → post 0 M') : w_X4_takesNumber (nI lo) (nI hi) M post := by
  unfold w_X4_takesNumber
  refine c_next hT hO hp h4 (fun M1 a1 a2 a3 => ?_)
  have f1 := FrR.tok hT a2 a3
  refine c_stands (k := 2) a1 (by omega) (fun e => ⟨fun _ => ?_, fun q => absurd q (by decide)⟩) (fun e M' b1 b2 b3 => ⟨fun q => absurd rfl q, fun _ => ?_⟩)
  · have hk := kF_2 e
    have hv' := hv hk
    have e5 := a1.2.2.2 hk
    rw [e5]
    unfold w_X4_takesNumber_J39 w_X4_takesNumber_J47
    have no : (tV T p < lo ∨ hi < tV T p) → w_X4_wrong 3 M1 (fun (r2 : Int32) (M1 : Mem) => ((r2 = 0 → post 0 M1) ∧ (¬ r2 = 0 → post 1 M1))) := fun z => by
      have en : numF T p lo hi = 3 := by unfold numF; rw [if_neg (by omega), if_pos z]
      refine c_wrong (k := 3) a1.2.1 (fun M' b1 b2 b3 => ⟨fun _ => bad (by omega) M' (by rw [en]; exact b1) b2 (f1.trans b3), fun y => absurd rfl y⟩)
    refine ⟨fun q => no (Or.inl ((nI_ltI (by omega) (by omega)).mp q)), fun q => ⟨fun q2 => ?_, fun q2 => no (Or.inr ?_)⟩⟩
    · have en : numF T p lo hi = 0 := by
        unfold numF
        rw [if_neg (by omega), if_neg]
        rintro (z | z)
        · exact q (nI_lt z (by omega))
        · have := (nI_leI (by omega) (by omega)).mp q2; omega
      exact ok en M1 a1 e5 a3 a2
    · rcases Nat.lt_or_ge hi (tV T p) with z | z
      · exact z
      · exact absurd (nI_le z (by omega)) q2
  · have en : numF T p lo hi = kF T p 2 := by unfold numF; rw [if_pos e]
    exact bad (by omega) M' (by rw [en]; exact b1) b2 (f1.trans b3)
theorem tV_100 {T : TP} {p : Nat} (hp : p ≤ T.1) (h : tK T p = 2) : tV T p < 100 := by
  have hq : tQ T p = 2 := by
    unfold tK at h
    split at h
    · omega
    · exact h
  have d1 := dig (T := T) (i := tS T p) hq
  have hE : tE T p = tR T 2 (tS T p + 1) := by unfold tE; rw [if_neg (by omega), if_pos (Or.inr hq), hq]
  unfold tV
  split
  · omega
  · rename_i z
    obtain ⟨e1, e2, e3⟩ := tE_le hp
    have e4 := e3 (by omega)
    have d2 := dig (tR_all (T := T) (k := 2) (T.1 - (tS T p + 1)) (tS T p + 1) rfl (by omega) (tS T p + 1) (Nat.le_refl _) (by omega))
    omega
