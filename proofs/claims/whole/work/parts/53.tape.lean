/-! the tape and its tokens -/
abbrev TP : Type := Nat × (Nat → Nat)
def OKT (T : TP) : Prop := T.1 ≤ 160 ∧ ∀ k, k < T.1 → T.2 k < 128
def kdT (T : TP) (i : Nat) : Nat := if T.1 ≤ i then 0 else if 97 ≤ T.2 i ∧ T.2 i ≤ 122 then 1 else if 48 ≤ T.2 i ∧ T.2 i ≤ 57 then 2 else if T.2 i = 59 then 3 else 4
theorem kdT_4 {T : TP} {i : Nat} : kdT T i ≤ 4 := by
  unfold kdT
  split
  · omega
  · split
    · omega
    · split
      · omega
      · split <;> omega
theorem kdT_0 {T : TP} {i : Nat} : kdT T i = 0 ↔ T.1 ≤ i := by
  unfold kdT
  split
  · rename_i h
    exact ⟨fun _ => h, fun _ => rfl⟩
  · rename_i h
    refine ⟨fun z => ?_, fun z => absurd z h⟩
    split at z
    · omega
    · split at z
      · omega
      · split at z <;> omega
def skr (T : TP) : Nat → Nat
  | 0 => T.1
  | d + 1 => if T.2 (T.1 - (d + 1)) = 32 then skr T d else T.1 - (d + 1)
def tS (T : TP) (p : Nat) : Nat := skr T (T.1 - p)
theorem tS_end {T : TP} : tS T T.1 = T.1 := by unfold tS; rw [Nat.sub_self]; rfl
theorem tS_sp {T : TP} {p : Nat} (h : p < T.1) (hb : T.2 p = 32) : tS T p = tS T (p + 1) := by
  unfold tS
  obtain ⟨d, hd⟩ : ∃ d, T.1 - p = d + 1 := ⟨T.1 - p - 1, by omega⟩
  rw [hd, show T.1 - (p + 1) = d by omega]
  simp only [skr]
  rw [if_pos (by rw [show T.1 - (d + 1) = p by omega]; exact hb)]
theorem tS_no {T : TP} {p : Nat} (h : p < T.1) (hb : T.2 p ≠ 32) : tS T p = p := by
  unfold tS
  obtain ⟨d, hd⟩ : ∃ d, T.1 - p = d + 1 := ⟨T.1 - p - 1, by omega⟩
  rw [hd]
  simp only [skr]
  rw [if_neg (by rw [show T.1 - (d + 1) = p by omega]; exact hb)]
  omega
theorem skr_le {T : TP} : ∀ d, d ≤ T.1 → T.1 - d ≤ skr T d ∧ skr T d ≤ T.1 := by
  intro d
  induction d with
  | zero => intro _; exact ⟨Nat.sub_le _ _, Nat.le_refl _⟩
  | succ d ih =>
    intro h
    have := ih (by omega)
    simp only [skr]
    split <;> omega
theorem tS_le {T : TP} {p : Nat} (h : p ≤ T.1) : p ≤ tS T p ∧ tS T p ≤ T.1 := by
  have := skr_le (T := T) (T.1 - p) (by omega)
  unfold tS
  omega
def rnr (T : TP) (k : Nat) : Nat → Nat
  | 0 => T.1
  | d + 1 => if kdT T (T.1 - (d + 1)) = k then rnr T k d else T.1 - (d + 1)
def tR (T : TP) (k p : Nat) : Nat := rnr T k (T.1 - p)
theorem tR_end {T : TP} {k : Nat} : tR T k T.1 = T.1 := by unfold tR; rw [Nat.sub_self]; rfl
theorem tR_on {T : TP} {k p : Nat} (h : p < T.1) (hb : kdT T p = k) : tR T k p = tR T k (p + 1) := by
  unfold tR
  obtain ⟨d, hd⟩ : ∃ d, T.1 - p = d + 1 := ⟨T.1 - p - 1, by omega⟩
  rw [hd, show T.1 - (p + 1) = d by omega]
  simp only [rnr]
  rw [if_pos (by rw [show T.1 - (d + 1) = p by omega]; exact hb)]
theorem tR_no {T : TP} {k p : Nat} (h : p < T.1) (hb : kdT T p ≠ k) : tR T k p = p := by
  unfold tR
  obtain ⟨d, hd⟩ : ∃ d, T.1 - p = d + 1 := ⟨T.1 - p - 1, by omega⟩
  rw [hd]
  simp only [rnr]
  rw [if_neg (by rw [show T.1 - (d + 1) = p by omega]; exact hb)]
  omega
theorem rnr_le {T : TP} {k : Nat} : ∀ d, d ≤ T.1 → T.1 - d ≤ rnr T k d ∧ rnr T k d ≤ T.1 := by
  intro d
  induction d with
  | zero => intro _; exact ⟨Nat.sub_le _ _, Nat.le_refl _⟩
  | succ d ih =>
    intro h
    have := ih (by omega)
    simp only [rnr]
    split <;> omega
theorem tR_le {T : TP} {k p : Nat} (h : p ≤ T.1) : p ≤ tR T k p ∧ tR T k p ≤ T.1 := by
  have := rnr_le (T := T) (k := k) (T.1 - p) (by omega)
  unfold tR
  omega
def tQ (T : TP) (p : Nat) : Nat := kdT T (tS T p)
def tE (T : TP) (p : Nat) : Nat := if tQ T p = 0 then tS T p else if tQ T p = 1 ∨ tQ T p = 2 then tR T (tQ T p) (tS T p + 1) else tS T p + 1
def tK (T : TP) (p : Nat) : Nat := if tQ T p = 2 ∧ tS T p + 2 < tE T p then 4 else tQ T p
def tV (T : TP) (p : Nat) : Nat := if tE T p = tS T p + 1 then T.2 (tS T p) - 48 else 10 * (T.2 (tS T p) - 48) + (T.2 (tS T p + 1) - 48)
theorem tE_le {T : TP} {p : Nat} (h : p ≤ T.1) : tS T p ≤ tE T p ∧ tE T p ≤ T.1 ∧ (tQ T p ≠ 0 → tS T p < tE T p) := by
  obtain ⟨h1, h2⟩ := tS_le h
  unfold tE
  by_cases q : tQ T p = 0
  · rw [if_pos q]
    exact ⟨Nat.le_refl _, h2, fun z => absurd q z⟩
  · have hlt : tS T p < T.1 := by
      rcases Nat.lt_or_ge (tS T p) T.1 with z | z
      · exact z
      · exact absurd (kdT_0.mpr z) q
    rw [if_neg q]
    split
    · have := tR_le (T := T) (k := tQ T p) (p := tS T p + 1) (by omega)
      exact ⟨by omega, this.2, fun _ => by omega⟩
    · exact ⟨by omega, by omega, fun _ => by omega⟩
theorem tK_4 {T : TP} {p : Nat} : tK T p ≤ 4 := by
  unfold tK
  split
  · omega
  · exact kdT_4
theorem tK_0 {T : TP} {p : Nat} : tK T p = 0 ↔ tQ T p = 0 := by
  unfold tK
  split
  · rename_i h; omega
  · rfl
/-- the class's tape -/
def TapeC (M : Mem) (T : TP) : Prop := rd M 51 1 = nI T.1 ∧ ∀ k, k < T.1 → rd M 52 k = nI (T.2 k)
def TokC (M : Mem) (T : TP) (p : Nat) : Prop := rd M 51 2 = nI (tK T p) ∧ rd M 51 3 = nI (tS T p) ∧ rd M 51 4 = nI (tE T p) ∧ (tK T p = 2 → rd M 51 5 = nI (tV T p))
def TapeM (M : Mem) (T : TP) : Prop := rd M 128 9 = nI T.1 ∧ ∀ k, k < T.1 → rd M 133 k = nI (T.2 k)
theorem c_kindAt {M : Mem} {T : TP} {i : Nat} {post : Int32 → Mem → Prop} (hT : TapeC M T) (hO : OKT T) (hi : i ≤ T.1) (h : post (nI (kdT T i)) M) : w_X7_kindAt (nI i) M post := by
  have hn := hO.1
  unfold w_X7_kindAt
  rw [hT.1, tnI (by omega)]
  refine ⟨fun q => ?_, fun q => ?_⟩
  · have hlt := (nI_ltI (by omega) (by omega)).mp q
    have hb := hO.2 i hlt
    have hk : kdT T i = if 97 ≤ T.2 i ∧ T.2 i ≤ 122 then 1 else if 48 ≤ T.2 i ∧ T.2 i ≤ 57 then 2 else if T.2 i = 59 then 3 else 4 := if_neg (by omega)
    refine ⟨vp_in_nI (by omega) (by omega), ?_⟩
    rw [hT.2 i hlt]
    rintro v rfl
    have j45 : ¬ (97 ≤ T.2 i ∧ T.2 i ≤ 122) → ¬ (48 ≤ T.2 i ∧ T.2 i ≤ 57) → w_X7_kindAt_J45 post (nI (T.2 i)) M := fun z1 z2 => by
      rw [if_neg z1, if_neg z2] at hk
      unfold w_X7_kindAt_J45
      refine ⟨fun z => ?_, fun z => ?_⟩
      · rw [if_neg (fun y => z (by rw [y]; rfl))] at hk
        rw [hk] at h; exact h
      · rw [if_pos (nI_inj (by omega) (by decide) z)] at hk
        rw [hk] at h; exact h
    have j31 : ¬ (97 ≤ T.2 i ∧ T.2 i ≤ 122) → w_X7_kindAt_J31 post (nI (T.2 i)) M := fun z1 => by
      unfold w_X7_kindAt_J31
      refine ⟨fun z => j45 z1 ?_, fun z => ⟨fun z2 => j45 z1 ?_, fun z2 => ?_⟩⟩
      · have := (nI_ltI (b := 48) (by omega) (by decide)).mp z; omega
      · have := (nI_ltI (a := 57) (by decide) (by omega)).mp z2; omega
      · have y1 : ¬ T.2 i < 48 := fun y => z (nI_lt (b := 48) y (by decide))
        have y2 : ¬ 57 < T.2 i := fun y => z2 (nI_lt (a := 57) y (by omega))
        rw [if_neg z1, if_pos (by omega)] at hk
        rw [hk] at h; exact h
    refine ⟨fun z => j31 ?_, fun z => ⟨fun z2 => j31 ?_, fun z2 => ?_⟩⟩
    · have := (nI_ltI (b := 97) (by omega) (by decide)).mp z; omega
    · have := (nI_ltI (a := 122) (by decide) (by omega)).mp z2; omega
    · have y1 : ¬ T.2 i < 97 := fun y => z (nI_lt (b := 97) y (by decide))
      have y2 : ¬ 122 < T.2 i := fun y => z2 (nI_lt (a := 122) y (by omega))
      rw [if_pos (by omega)] at hk
      rw [hk] at h; exact h
  · have hge : T.1 ≤ i := by
      rcases Nat.lt_or_ge i T.1 with z | z
      · exact absurd (nI_lt z (by omega)) q
      · exact z
    rw [kdT_0.mpr hge] at h
    exact h
theorem TapeC.fr {M M' : Mem} {T : TP} (h : TapeC M T) (h1 : rd M' 51 1 = rd M 51 1) (h2 : ∀ k, rd M' 52 k = rd M 52 k) : TapeC M' T := ⟨by rw [h1]; exact h.1, fun k hk => by rw [h2]; exact h.2 k hk⟩
/-- digits -/
theorem dig {T : TP} {i : Nat} (h : kdT T i = 2) : i < T.1 ∧ 48 ≤ T.2 i ∧ T.2 i ≤ 57 := by
  unfold kdT at h
  split at h
  · omega
  · split at h
    · omega
    · split at h
      · rename_i z _ y; exact ⟨by omega, y.1, y.2⟩
      · split at h <;> omega
theorem tR_all {T : TP} {k : Nat} : ∀ d p, T.1 - p = d → p ≤ T.1 → ∀ i, p ≤ i → i < tR T k p → kdT T i = k := by
  intro d
  induction d with
  | zero =>
    intro p hd hp i h1 h2
    have : p = T.1 := by omega
    subst this
    rw [tR_end] at h2; omega
  | succ d ih =>
    intro p hd hp i h1 h2
    by_cases q : kdT T p = k
    · rw [tR_on (by omega) q] at h2
      by_cases z : i = p
      · rw [z]; exact q
      · exact ih (p + 1) (by omega) (by omega) i (by omega) h2
    · rw [tR_no (by omega) q] at h2; omega
theorem c_measure {M : Mem} {T : TP} {s e : Nat} {post : Mem → Prop} (hT : TapeC M T) (hO : OKT T) (h3 : rd M 51 3 = nI s) (h4 : rd M 51 4 = nI e) (hse : s < e) (heN : e ≤ T.1) (hd : ∀ i, s ≤ i → i < e → 48 ≤ T.2 i ∧ T.2 i ≤ 57)
    (small : e ≤ s + 2 → ∀ M', rd M' 51 5 = nI (if e = s + 1 then T.2 s - 48 else 10 * (T.2 s - 48) + (T.2 (s + 1) - 48)) → (∀ i q, ¬ (i = 51 ∧ q = 5) → rd M' i q = rd M i q) → Fr 51 52 M M' → post M') (big : s + 2 < e → post (wr M 51 2 4)) : w_X7_measure M post := by
  have hn := hO.1
  unfold w_X7_measure
  rw [h3, h4, pk_sub (by omega)]
  refine ⟨fun q => ?_, fun q => ?_⟩
  · have h2 := (nI_leI (b := 2) (by omega) (by decide)).mp q
    rintro M3 hM3 v4 hv4
    have r3 : ∀ i q, rd M3 i q = if i = 51 ∧ q = 5 then 0 else rd M i q := fun i q => by rw [hM3, rd_wr]
    have f3 : Fr 51 52 M M3 := by rw [hM3]; exact Fr.wr (by omega)
    clear hM3
    rw [r3, if_neg (by omega), h3] at hv4
    subst hv4
    obtain ⟨a1, a2⟩ := hd s (Nat.le_refl _) hse
    have step : ∀ (M : Mem) (i v : Nat) (n : Nat) (K : Mem → Prop), TapeC M T → i < e → (48 ≤ T.2 i ∧ T.2 i ≤ 57) → rd M 51 4 = nI e → rd M 51 5 = nI v → v < 1000 → (∀ M', rd M' 51 5 = nI (10 * v + (T.2 i - 48)) → (∀ i q, ¬ (i = 51 ∧ q = 5) → rd M' i q = rd M i q) → Fr 51 52 M M' → w_X7_measure_L29 K n (nI (i + 1)) M') → w_X7_measure_L29 K (n + 1) (nI i) M := fun M i v n K g1 g2 g3 g4 g5 g6 kk => by
      unfold w_X7_measure_L29
      rw [g4, tnI (by omega), g5, g1.2 i (by omega)]
      refine ⟨fun z => absurd z (nI_ge g2 (by omega)), fun _ => ⟨vp_in_nI (by omega) (by omega), ?_⟩⟩
      rw [show (10 : Int32) * nI v = nI (10 * v) from pk_mul 10 v, nI_add, show nI (10 * v + T.2 i) - 48 = nI (10 * v + T.2 i - 48) from pk_sub (b := 48) (by omega), show 10 * v + T.2 i - 48 = 10 * v + (T.2 i - 48) by omega]
      rintro M1 rfl v2 rfl
      rw [nI_1]
      exact kk _ (rd_eq ⟨rfl, rfl⟩) (fun i q hq => rd_ne (by omega)) (Fr.wr (by omega))
    have done : ∀ (M : Mem) (n : Nat) (K : Mem → Prop), rd M 51 4 = nI e → K M → w_X7_measure_L29 K (n + 1) (nI e) M := fun M n K g h => by
      unfold w_X7_measure_L29
      rw [g]
      exact ⟨fun _ => h, fun z => absurd (nI_le (Nat.le_refl _) (by omega)) z⟩
    have hT3 : TapeC M3 T := hT.fr (by rw [r3, if_neg (by omega)]) (fun k => by rw [r3, if_neg (by omega)])
    refine ⟨1 + 1 + 1, ?_⟩
    refine step M3 s 0 (1 + 1) post hT3 hse ⟨a1, a2⟩ (by rw [r3, if_neg (by omega)]; exact h4) (by rw [r3, if_pos ⟨rfl, rfl⟩]; rfl) (by omega) (fun M4 b1 b2 b3 => ?_)
    have e4 : rd M4 51 4 = nI e := by rw [b2 _ _ (by omega), r3, if_neg (by omega)]; exact h4
    have f4 : ∀ i q, ¬ (i = 51 ∧ q = 5) → rd M4 i q = rd M i q := fun i q hq => by rw [b2 _ _ hq, r3, if_neg hq]
    by_cases z : e = s + 1
    · rw [← z]
      refine done M4 1 post e4 (small (by omega) M4 ?_ f4 (f3.trans b3))
      rw [b1, if_pos z, Nat.mul_zero, Nat.zero_add]
    · have ee : e = s + 2 := by omega
      obtain ⟨c1, c2⟩ := hd (s + 1) (by omega) (by omega)
      refine step M4 (s + 1) (10 * 0 + (T.2 s - 48)) 1 post (hT3.fr (b2 _ _ (by omega)) (fun k => b2 _ _ (by omega))) (by omega) ⟨c1, c2⟩ e4 b1 (by omega) (fun M5 d1 d2 d3 => ?_)
      rw [show s + 1 + 1 = e by omega]
      refine done M5 0 post (by rw [d2 _ _ (by omega)]; exact e4) (small (by omega) M5 ?_ (fun i q hq => by rw [d2 _ _ hq, f4 _ _ hq]) ((f3.trans b3).trans d3))
      rw [d1, if_neg z, Nat.mul_zero, Nat.zero_add]
  · have hgt : s + 2 < e := by
      rcases Nat.lt_or_ge (s + 2) e with z | z
      · exact z
      · exact absurd (nI_le (b := 2) (show e - s ≤ 2 by omega) (by decide)) q
    rintro M5 rfl
    exact big hgt
theorem c_next {M : Mem} {T : TP} {p : Nat} {post : Mem → Prop} (hT : TapeC M T) (hO : OKT T) (hp : p ≤ T.1) (h4 : rd M 51 4 = nI p) (h : ∀ M', TokC M' T p → TapeC M' T → Fr 51 52 M M' → post M') : w_X7_next M post := by
  have hn := hO.1
  obtain ⟨s1, s2⟩ := tS_le hp
  obtain ⟨e1, e2, e3⟩ := tE_le hp
  have hq4 := kdT_4 (T := T) (i := tS T p)
  unfold w_X7_next
  rintro M10 hM10
  rw [h4] at hM10
  have g3 : rd M10 51 3 = nI p := by rw [hM10]; exact rd_eq ⟨rfl, rfl⟩
  have gT : TapeC M10 T := by rw [hM10]; exact hT.fr (rd_ne (by omega)) (fun k => rd_ne (by omega))
  have gF : Fr 51 52 M M10 := by rw [hM10]; exact Fr.wr (by omega)
  clear hM10
  -- the end: what comes after the kind is known and the end is found
  have j137 : ∀ s : Mem, rd s 51 2 = nI (tQ T p) → rd s 51 3 = nI (tS T p) → rd s 51 4 = nI (tE T p) → TapeC s T → Fr 51 52 M s → w_X7_next_J137 post s := fun s k2 k3 k4 kT kF => by
    unfold w_X7_next_J137
    rw [k2]
    refine ⟨fun q => ?_, fun q => ?_⟩
    · have q2 : tQ T p ≠ 2 := fun z => q (by rw [z]; rfl)
      have ek : tK T p = tQ T p := if_neg (fun z => q2 z.1)
      exact h s ⟨by rw [ek]; exact k2, k3, k4, fun z => absurd (ek ▸ z) q2⟩ kT kF
    · have q2 : tQ T p = 2 := nI_inj (by unfold tQ; omega) (by decide) q
      have hlt := e3 (by omega)
      have eE : tE T p = tR T 2 (tS T p + 1) := by unfold tE; rw [if_neg (by omega), if_pos (Or.inr q2), q2]
      refine c_measure kT hO k3 k4 hlt e2 (fun i h1 h2 => ?_) (fun z M' b1 b2 b3 => ?_) (fun z => ?_)
      · by_cases y : i = tS T p
        · rw [y]; exact (dig q2).2
        · exact (dig (tR_all (T.1 - (tS T p + 1)) (tS T p + 1) rfl (by omega) i (by omega) (by rw [← eE]; exact h2))).2
      · have ek : tK T p = 2 := by unfold tK; rw [if_neg (by omega)]; exact q2
        refine h M' ⟨?_, ?_, ?_, fun _ => b1⟩ (kT.fr (b2 _ _ (by omega)) (fun k => b2 _ _ (by omega))) (kF.trans b3)
        · rw [b2 _ _ (by omega), k2, ek, q2]
        · rw [b2 _ _ (by omega)]; exact k3
        · rw [b2 _ _ (by omega)]; exact k4
      · have ek : tK T p = 4 := if_pos ⟨q2, z⟩
        refine h _ ⟨?_, ?_, ?_, fun y => by omega⟩ (kT.fr (rd_ne (by omega)) (fun k => rd_ne (by omega))) (kF.trans (Fr.wr (by omega)))
        · rw [rd_eq ⟨rfl, rfl⟩, ek]; rfl
        · rw [rd_ne (by omega)]; exact k3
        · rw [rd_ne (by omega)]; exact k4
  -- the run of a word or number
  have l98 : ∀ s : Mem, (tQ T p = 1 ∨ tQ T p = 2) → rd s 51 2 = nI (tQ T p) → rd s 51 3 = nI (tS T p) → rd s 51 4 = nI (tS T p + 1) → TapeC s T → Fr 51 52 M s → ∃ g98, w_X7_next_L98 post g98 s := fun s hk k2 k3 k4 kT kF => by
    have hlt : tS T p < T.1 := by
      rcases Nat.lt_or_ge (tS T p) T.1 with z | z
      · exact z
      · have : tQ T p = 0 := kdT_0.mpr z
        omega
    have eE : tE T p = tR T (tQ T p) (tS T p + 1) := by unfold tE; rw [if_neg (by omega), if_pos hk]
    refine loop_0 (fun n i (s : Mem) => w_X7_next_L98 post n s) (fun i s => rd s 51 2 = nI (tQ T p) ∧ rd s 51 3 = nI (tS T p) ∧ rd s 51 4 = nI (tS T p + 1 + i) ∧ tS T p + 1 + i ≤ T.1 ∧ tE T p = tR T (tQ T p) (tS T p + 1 + i) ∧ TapeC s T ∧ Fr 51 52 M s) 161 s ⟨k2, k3, k4, by omega, eE, kT, kF⟩ ?_ ?_
    · rintro n s ⟨-, -, -, k5, -⟩
      omega
    · rintro n i s hi ⟨k2, k3, k4, k5, k6, kT, kF⟩ kk
      show w_X7_next_L98 post (n + 1) s
      unfold w_X7_next_L98
      rw [kT.1, k4]
      refine ⟨fun q => ?_, fun q => ?_⟩
      · have := (nI_leI (by omega) (by omega)).mp q
        have ee : tS T p + 1 + i = T.1 := by omega
        rw [ee, tR_end] at k6
        exact j137 s k2 k3 (by rw [k4, k6, ee]) kT kF
      · have hlt2 : tS T p + 1 + i < T.1 := by
          rcases Nat.lt_or_ge (tS T p + 1 + i) T.1 with z | z
          · exact z
          · exact absurd (nI_le z (by omega)) q
        refine c_kindAt kT hO (by omega) ?_
        rw [k2]
        have hk4 := kdT_4 (T := T) (i := tS T p + 1 + i)
        refine ⟨fun z => ?_, fun z => ?_⟩
        · rw [tR_no hlt2 (fun y => z (by rw [y]))] at k6
          exact j137 s k2 k3 (by rw [k4, k6]) kT kF
        · rw [tR_on hlt2 (nI_inj (by omega) (by unfold tQ; omega) z)] at k6
          rintro M4 rfl
          rw [k4, nI_1]
          refine kk _ ⟨?_, ?_, ?_, by omega, k6, kT.fr (rd_ne (by omega)) (fun k => rd_ne (by omega)), kF.trans (Fr.wr (by omega))⟩
          · rw [rd_ne (by omega)]; exact k2
          · rw [rd_ne (by omega)]; exact k3
          · rw [rd_eq ⟨rfl, rfl⟩]; rfl
  have j46 : ∀ s : Mem, rd s 51 3 = nI (tS T p) → TapeC s T → Fr 51 52 M s → w_X7_next_J46 post s := fun s k3 kT kF => by
    unfold w_X7_next_J46
    rw [k3]
    refine c_kindAt kT hO s2 ?_
    rintro M8 hM8
    have g2 : rd M8 51 2 = nI (tQ T p) := by rw [hM8]; exact rd_eq ⟨rfl, rfl⟩
    have g3 : rd M8 51 3 = nI (tS T p) := by rw [hM8, rd_ne (by omega)]; exact k3
    have gT : TapeC M8 T := by rw [hM8]; exact kT.fr (rd_ne (by omega)) (fun k => rd_ne (by omega))
    have gF : Fr 51 52 M M8 := by rw [hM8]; exact kF.trans (Fr.wr (by omega))
    clear hM8
    rw [g2, g3, nI_1]
    unfold w_X7_next_J79
    have j79 : ∀ v : Nat, v = (if tQ T p = 0 then tS T p else tS T p + 1) → ∀ M5, M5 = wr M8 51 4 (nI v) → ((rd M5 51 2 = 1 → ∃ g98 : Nat, w_X7_next_L98 post g98 M5) ∧ (¬ rd M5 51 2 = 1 → ((¬ rd M5 51 2 = 2 → w_X7_next_J137 post M5) ∧ (rd M5 51 2 = 2 → ∃ g98 : Nat, w_X7_next_L98 post g98 M5)))) := fun v hv M5 hM5 => by
      have a2 : rd M5 51 2 = nI (tQ T p) := by rw [hM5, rd_ne (by omega)]; exact g2
      have a3 : rd M5 51 3 = nI (tS T p) := by rw [hM5, rd_ne (by omega)]; exact g3
      have a4 : rd M5 51 4 = nI v := by rw [hM5]; exact rd_eq ⟨rfl, rfl⟩
      have aT : TapeC M5 T := by rw [hM5]; exact gT.fr (rd_ne (by omega)) (fun k => rd_ne (by omega))
      have aF : Fr 51 52 M M5 := by rw [hM5]; exact gF.trans (Fr.wr (by omega))
      have tq : tQ T p < 2 ^ 31 := by unfold tQ; omega
      rw [a2]
      refine ⟨fun q => ?_, fun q => ⟨fun q2 => ?_, fun q2 => ?_⟩⟩
      · have z : tQ T p = 1 := nI_inj tq (by decide) q
        exact l98 M5 (Or.inl z) a2 a3 (by rw [a4, hv, if_neg (by omega)]) aT aF
      · have z1 : tQ T p ≠ 1 := fun z => q (by rw [z]; rfl)
        have z2 : tQ T p ≠ 2 := fun z => q2 (by rw [z]; rfl)
        refine j137 M5 a2 a3 ?_ aT aF
        rw [a4, hv]
        unfold tE
        by_cases z : tQ T p = 0
        · rw [if_pos z, if_pos z]
        · rw [if_neg z, if_neg z, if_neg (by omega)]
      · have z : tQ T p = 2 := nI_inj tq (by decide) q2
        exact l98 M5 (Or.inr z) a2 a3 (by rw [a4, hv, if_neg (by omega)]) aT aF
    refine ⟨fun q => j79 (tS T p + 1) ?_, fun q => j79 (tS T p) ?_⟩
    · rw [if_neg (fun z => q (by rw [z]; rfl))]
    · rw [if_pos (nI_inj (b := 0) (by unfold tQ; omega) (by decide) q)]
  refine loop_0 (fun n i (s : Mem) => w_X7_next_L8 post n s) (fun i s => rd s 51 3 = nI (p + i) ∧ p + i ≤ T.1 ∧ tS T p = tS T (p + i) ∧ TapeC s T ∧ Fr 51 52 M s) 161 M10 ⟨g3, hp, rfl, gT, gF⟩ ?_ ?_
  · rintro n s ⟨-, k5, -⟩
    omega
  · rintro n i s hi ⟨k3, k5, k6, kT, kF⟩ kk
    show w_X7_next_L8 post (n + 1) s
    unfold w_X7_next_L8
    rw [kT.1, k3, tnI (by omega)]
    refine ⟨fun q => ?_, fun q => ?_⟩
    · have := (nI_leI (by omega) (by omega)).mp q
      have ee : p + i = T.1 := by omega
      rw [ee, tS_end] at k6
      exact j46 s (by rw [k3, k6, ee]) kT kF
    · have hlt2 : p + i < T.1 := by
        rcases Nat.lt_or_ge (p + i) T.1 with z | z
        · exact z
        · exact absurd (nI_le z (by omega)) q
      have hb := hO.2 _ hlt2
      rw [kT.2 _ hlt2]
      refine ⟨vp_in_nI (by omega) (by omega), fun z => ?_, fun z => ?_⟩
      · rw [tS_no hlt2 (fun y => z (by rw [y]; rfl))] at k6
        exact j46 s (by rw [k3, k6]) kT kF
      · rw [tS_sp hlt2 (nI_inj (by omega) (by decide) z)] at k6
        rintro M9 rfl
        rw [nI_1]
        refine kk _ ⟨?_, by omega, k6, kT.fr (rd_ne (by omega)) (fun k => rd_ne (by omega)), kF.trans (Fr.wr (by omega))⟩
        rw [rd_eq ⟨rfl, rfl⟩]; rfl
