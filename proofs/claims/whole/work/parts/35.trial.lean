/-! plans: what is dialled one behind another -/
/-- acts: how many, who, what is dialled; seen: how many, which act, its fate -/
abbrev SC : Type := Nat × (Nat → Nat) × (Nat → Nat) × Nat × (Nat → Nat) × (Nat → Nat)
def sA (c : SC) : Nat := c.1
def sW (c : SC) : Nat → Nat := c.2.1
def sD (c : SC) : Nat → Nat := c.2.2.1
def sN (c : SC) : Nat := c.2.2.2.1
def sI (c : SC) : Nat → Nat := c.2.2.2.2.1
def sF (c : SC) : Nat → Nat := c.2.2.2.2.2
def ScC (M : Mem) (x : Nat) (c : SC) : Prop := rd M x 0 = nI (sA c) ∧ rd M x 1 = nI (sN c) ∧ (∀ i, i < sA c → rd M (x + 1) i = nI (sW c i) ∧ rd M (x + 2) i = nI (sD c i)) ∧ ∀ j, j < sN c → rd M (x + 3) j = nI (sI c j) ∧ rd M (x + 4) j = nI (sF c j)
def ScM (f : Nat → Int32) (c : SC) : Prop := f 66 = nI (sA c) ∧ f 83 = nI (sN c) ∧ (∀ i, i < sA c → f (67 + 2 * i) = nI (sW c i) ∧ f (68 + 2 * i) = nI (sD c i)) ∧ ∀ j, j < sN c → f (84 + 2 * j) = nI (sI c j) ∧ f (85 + 2 * j) = nI (sF c j)
def numOK (n : Nat) : Prop := n ≤ 44 ∧ n % 10 ≤ 4
def VS (m : Nat) (c : SC) : Prop := sA c ≤ 8 ∧ sN c ≤ 6 ∧ (∀ i, i < sA c → sW c i < m ∧ (sD c i = 99 ∨ numOK (sD c i))) ∧ ∀ j, j < sN c → sI c j ≤ 7 ∧ sF c j ≤ 6
theorem VS.dl {m : Nat} {c : SC} (h : VS m c) {i : Nat} (hi : i < sA c) : sD c i ≤ 99 := by
  rcases (h.2.2.1 i hi).2 with q | q
  · omega
  · have := q.1; omega
theorem ScC.fr {M M' : Mem} {x lo hi : Nat} {c : SC} (h : ScC M x c) (hf : Fr lo hi M M') (hd : x + 5 ≤ lo ∨ hi ≤ x) : ScC M' x c := by
  obtain ⟨h1, h2, h3, h4⟩ := h
  refine ⟨by rw [hf.row (by omega)]; exact h1, by rw [hf.row (by omega)]; exact h2, fun i hi => ?_, fun j hj => ?_⟩
  · rw [hf.row (by omega), hf.row (by omega)]; exact h3 i hi
  · rw [hf.row (by omega), hf.row (by omega)]; exact h4 j hj
def anyB (p : Nat → Bool) : Nat → Bool
  | 0 => false
  | n + 1 => anyB p n || p n
theorem anyB_t {p : Nat → Bool} {n i : Nat} (hi : i < n) (h : p i = true) : anyB p n = true := by
  induction n with
  | zero => omega
  | succ n ih =>
    simp only [anyB, Bool.or_eq_true]
    by_cases q : i = n
    · right; rw [← q]; exact h
    · left; exact ih (by omega)
theorem anyB_f {p : Nat → Bool} {n : Nat} (h : ∀ i, i < n → p i = false) : anyB p n = false := by
  induction n with
  | zero => rfl
  | succ n ih => simp only [anyB]; rw [ih (fun i hi => h i (by omega)), h n (by omega)]; rfl
def firstN (p : Nat → Bool) : Nat → Nat
  | 0 => 0
  | n + 1 => if firstN p n ≠ 0 then firstN p n else if p n = true then n + 1 else 0
theorem firstN_le (p : Nat → Bool) (n : Nat) : firstN p n ≤ n := by
  induction n with
  | zero => exact Nat.le_refl _
  | succ n ih => simp only [firstN]; split <;> (try split) <;> omega
/-- an act; a plan of which some acts are kept -/
def actE (e : EX) (a n : Nat) : Nat × EX := if (eS e a = 0 ↔ n = 99) then (6, e) else if eS e a = 0 then ringE e a n else (0, partE e a)
def runE (c : SC) (kp : Nat → Bool) (e : EX) : Nat → EX
  | 0 => e
  | i + 1 => if kp i = true then (actE (runE c kp e i) (sW c i) (sD c i)).2 else runE c kp e i
def fateE (c : SC) (kp : Nat → Bool) (e : EX) (i : Nat) : Nat := if kp i = true then (actE (runE c kp e i) (sW c i) (sD c i)).1 else 6
theorem ring_M {e : EX} {a n : Nat} : eM (ringE e a n).2 = eM e := by
  unfold ringE
  split
  · rfl
  · split
    · rfl
    · split
      · rfl
      · split
        · rfl
        · split <;> rfl
theorem ring_5 {e : EX} {a n : Nat} : (ringE e a n).1 ≤ 5 := by
  unfold ringE
  split
  · exact Nat.le_of_ble_eq_true rfl
  · split
    · exact Nat.le_of_ble_eq_true rfl
    · split
      · exact Nat.le_of_ble_eq_true rfl
      · split
        · exact Nat.le_of_ble_eq_true rfl
        · split <;> exact Nat.le_of_ble_eq_true rfl
theorem act_M {e : EX} {a n : Nat} : eM (actE e a n).2 = eM e := by
  unfold actE
  split
  · rfl
  · split
    · exact ring_M
    · rfl
theorem act_6 {e : EX} {a n : Nat} : (actE e a n).1 ≤ 6 := by
  unfold actE
  split
  · exact Nat.le_refl _
  · split
    · exact Nat.le_trans ring_5 (by decide)
    · exact Nat.zero_le _
theorem VE_act {e : EX} {a n : Nat} (hV : VE e) (ha : a < eM e) (hn : n = 99 ∨ numOK n) : VE (actE e a n).2 := by
  unfold actE
  split
  · exact hV
  · rename_i q
    split
    · rename_i s
      have : n ≠ 99 := fun z => q ⟨fun _ => z, fun _ => s⟩
      exact VE_ring hV ha s (hn.resolve_left this).1
    · rename_i s
      exact VE_part hV ha s
theorem run_V {c : SC} {kp : Nat → Bool} {e : EX} (hV : VE e) (hS : VS (eM e) c) : ∀ i, i ≤ sA c → VE (runE c kp e i) ∧ eM (runE c kp e i) = eM e := by
  intro i
  induction i with
  | zero => intro _; exact ⟨hV, rfl⟩
  | succ i ih =>
    intro hi
    obtain ⟨h1, h2⟩ := ih (by omega)
    obtain ⟨k1, k2⟩ := hS.2.2.1 i (by omega)
    simp only [runE]
    split
    · exact ⟨VE_act h1 (by rw [h2]; exact k1) k2, by rw [act_M, h2]⟩
    · exact ⟨h1, h2⟩
theorem fate_6 {c : SC} {kp : Nat → Bool} {e : EX} {i : Nat} : fateE c kp e i ≤ 6 := by
  unfold fateE
  split
  · exact act_6
  · exact Nat.le_refl _
def lostB (c : SC) (kp : Nat → Bool) (e : EX) (i : Nat) : Bool := decide (1 ≤ fateE c kp e i ∧ fateE c kp e i ≤ 5)
def lostN (c : SC) (kp : Nat → Bool) (e : EX) : Nat := cnt (lostB c kp e) (sA c)
def connB (c : SC) (kp : Nat → Bool) (e : EX) (i : Nat) : Bool := decide (fateE c kp e i = 0 ∧ sD c i ≠ 99)
def passB (c : SC) (kp : Nat → Bool) (e : EX) (i : Nat) : Bool := decide (kp i = true ∧ fateE c kp e i = 6)
theorem c_fateOf {M : Mem} {a n : Nat} {e : EX} {post : Int32 → Mem → Prop} (hM : ExC M 23 e) (hV : VE e) (ha : a < eM e) (hn : n = 99 ∨ numOK n) (h : ∀ M', ExC M' 23 (actE e a n).2 → Fr 23 39 M M' → post (nI (actE e a n).1) M') : w_X8_fateOf (nI a) (nI n) M post := by
  have hm := hV.m
  have hs := hV.2.2.2.2.1 a ha
  unfold w_X8_fateOf
  rw [tnI (by omega), show rd M 26 a = nI (eS e a) from (hM.2.2.2.1 a ha).2.2.1]
  have n99 : n ≤ 99 := hn.elim (fun q => by omega) (fun q => by have := q.1; omega)
  unfold actE at h
  refine ⟨vp_in_nI (by omega) (by omega), fun c => ?_, fun c => ?_⟩
  · have s0 : eS e a ≠ 0 := fun z => c (by rw [z]; rfl)
    unfold w_X8_fateOf_J17
    refine ⟨fun c2 => ?_, fun c2 => ?_⟩
    · have n0 : n ≠ 99 := fun z => c2 (by rw [z]; rfl)
      rw [if_pos ⟨fun z => absurd z s0, fun z => absurd z n0⟩] at h
      exact ⟨fun c3 => absurd rfl c3, fun _ => h M hM Fr.refl⟩
    · have n0 : n = 99 := nI_inj (by omega) (by decide) c2
      rw [if_neg (fun z => s0 (z.mpr n0)), if_neg s0] at h
      refine ⟨fun _ => ⟨fun _ => ?_, fun c3 => absurd rfl c3⟩, fun c3 => absurd c3 (by decide)⟩
      exact c_part hM hV ha s0 (fun M' h1 h2 => h M' h1 h2)
  · have s0 : eS e a = 0 := nI_inj (by omega) (by decide) c
    unfold w_X8_fateOf_J17
    refine ⟨fun c2 => ?_, fun c2 => ?_⟩
    · have n0 : n ≠ 99 := fun z => c2 (by rw [z]; rfl)
      rw [if_neg (fun z => n0 (z.mp s0)), if_pos s0] at h
      refine ⟨fun _ => ⟨fun c3 => absurd c3 (by decide), fun _ => ?_⟩, fun c3 => absurd c3 (by decide)⟩
      exact c_ring hM hV ha s0 (hn.resolve_left n0).1 (fun M' h1 h2 => h M' h1 h2)
    · have n0 : n = 99 := nI_inj (by omega) (by decide) c2
      rw [if_pos ⟨fun _ => n0, fun _ => s0⟩] at h
      exact ⟨fun c3 => absurd rfl c3, fun _ => h M hM Fr.refl⟩
/-- what is noted of the plan so far -/
def NoteC (M : Mem) (c : SC) (kp : Nat → Bool) (e : EX) (i : Nat) : Prop := rd M 22 2 = nI (cnt (connB c kp e) i) ∧ rd M 22 3 = nI (cnt (lostB c kp e) i) ∧ rd M 22 4 = oI (firstN (lostB c kp e) i) ∧ rd M 22 5 = nI (cnt (passB c kp e) i)
theorem c_note {M : Mem} {c : SC} {kp : Nat → Bool} {e : EX} {i : Nat} {z : Int32} {post : Mem → Prop} (hi : i < 8) (hf : rd M 39 i = nI (fateE c kp e i)) (hk : kp i = true) (hz : z = 0 ↔ sD c i ≠ 99) (hN : NoteC M c kp e i) (h : ∀ M', NoteC M' c kp e (i + 1) → Fr 22 23 M M' → post M') : w_X8_note (nI i) z M post := by
  obtain ⟨n1, n2, n3, n4⟩ := hN
  have f6 := fate_6 (c := c) (kp := kp) (e := e) (i := i)
  have l1 := cnt_le (connB c kp e) i
  have l2 := cnt_le (lostB c kp e) i
  have l3 := firstN_le (lostB c kp e) i
  have l4 := cnt_le (passB c kp e) i
  unfold w_X8_note
  rw [tnI (by omega), hf]
  refine ⟨vp_in_nI hi (by omega), ?_⟩
  rintro v1 rfl
  refine ⟨fun c1 => ?_, fun c1 => ?_⟩
  · have q6 : fateE c kp e i ≠ 6 := fun y => c1 (by rw [y]; rfl)
    have p0 : passB c kp e i = false := decide_eq_false (fun y => q6 y.2)
    refine ⟨fun c2 => ?_, fun c2 => ?_⟩
    · have q0 : fateE c kp e i = 0 := nI_inj (by omega) (by decide) c2
      have b0 : lostB c kp e i = false := decide_eq_false (fun y => by omega)
      refine ⟨fun c3 => ?_, fun c3 => ?_⟩
      · have d9 : sD c i = 99 := by
          by_cases y : sD c i = 99
          · exact y
          · exact absurd (hz.mpr y) c3
        have k0 : connB c kp e i = false := decide_eq_false (fun y => y.2 d9)
        refine h M ⟨?_, ?_, ?_, ?_⟩ Fr.refl
        · simp only [cnt, k0]; exact n1
        · simp only [cnt, b0]; exact n2
        · simp only [firstN, b0]; rw [n3]; congr 1; split
          · rfl
          · simp; omega
        · simp only [cnt, p0]; exact n4
      · have d9 := hz.mp c3
        have k0 : connB c kp e i = true := decide_eq_true ⟨q0, d9⟩
        rintro M2 rfl
        refine h _ ⟨?_, ?_, ?_, ?_⟩ (Fr.wr (by omega))
        · simp (disch := omega) only [rd_ne, rd_eq, cnt, k0]; rw [n1, nI_1]; rfl
        · simp (disch := omega) only [rd_ne, rd_eq, cnt, b0]; exact n2
        · simp (disch := omega) only [rd_ne, rd_eq, firstN, b0]; rw [n3]; congr 1; split
          · rfl
          · simp; omega
        · simp (disch := omega) only [rd_ne, rd_eq, cnt, p0]; exact n4
    · have q0 : fateE c kp e i ≠ 0 := fun y => c2 (by rw [y]; rfl)
      have b0 : lostB c kp e i = true := decide_eq_true ⟨by omega, by omega⟩
      have k0 : connB c kp e i = false := decide_eq_false (fun y => q0 y.1)
      rintro M3 rfl
      simp (disch := omega) only [rd_ne, rd_eq]
      rw [n3]
      refine ⟨fun c3 => ?_, fun c3 => ?_⟩
      · have g0 : firstN (lostB c kp e) i ≠ 0 := fun y => c3 (by rw [y]; rfl)
        refine h _ ⟨?_, ?_, ?_, ?_⟩ (Fr.wr (by omega))
        · simp (disch := omega) only [rd_ne, rd_eq, cnt, k0]; exact n1
        · simp (disch := omega) only [rd_ne, rd_eq, cnt, b0]; rw [n2, nI_1]; rfl
        · simp (disch := omega) only [rd_ne, rd_eq, firstN, b0]; rw [n3, if_pos g0]
        · simp (disch := omega) only [rd_ne, rd_eq, cnt, p0]; exact n4
      · have g0 : firstN (lostB c kp e) i = 0 := (oI_4 (by omega)).mp c3
        rintro M4 rfl
        refine h _ ⟨?_, ?_, ?_, ?_⟩ ((Fr.wr (by omega)).trans (Fr.wr (by omega)))
        · simp (disch := omega) only [rd_ne, rd_eq, cnt, k0]; exact n1
        · simp (disch := omega) only [rd_ne, rd_eq, cnt, b0]; rw [n2, nI_1]; rfl
        · simp (disch := omega) only [rd_ne, rd_eq, firstN, b0]; rw [g0]; simp [oI_s]
        · simp (disch := omega) only [rd_ne, rd_eq, cnt, p0]; exact n4
  · have q6 : fateE c kp e i = 6 := nI_inj (by omega) (by decide) c1
    have p0 : passB c kp e i = true := decide_eq_true ⟨hk, q6⟩
    have b0 : lostB c kp e i = false := decide_eq_false (fun y => by omega)
    have k0 : connB c kp e i = false := decide_eq_false (fun y => by omega)
    rintro M5 rfl
    refine h _ ⟨?_, ?_, ?_, ?_⟩ (Fr.wr (by omega))
    · simp (disch := omega) only [rd_ne, rd_eq, cnt, k0]; exact n1
    · simp (disch := omega) only [rd_ne, rd_eq, cnt, b0]; exact n2
    · simp (disch := omega) only [rd_ne, rd_eq, firstN, b0]; rw [n3]; congr 1; split
      · rfl
      · simp; omega
    · simp (disch := omega) only [rd_ne, rd_eq, cnt, p0]; rw [n4, nI_1]; rfl
theorem skip_note {c : SC} {kp : Nat → Bool} {e : EX} {i : Nat} {M : Mem} (hk : kp i = false) (h : NoteC M c kp e i) : NoteC M c kp e (i + 1) := by
  have f0 : fateE c kp e i = 6 := by unfold fateE; rw [hk]; rfl
  have b0 : lostB c kp e i = false := decide_eq_false (fun y => by omega)
  have k0 : connB c kp e i = false := decide_eq_false (fun y => by omega)
  have p0 : passB c kp e i = false := decide_eq_false (fun y => by rw [hk] at y; exact absurd y.1 (by decide))
  obtain ⟨n1, n2, n3, n4⟩ := h
  refine ⟨?_, ?_, ?_, ?_⟩
  · simp only [cnt, k0]; exact n1
  · simp only [cnt, b0]; exact n2
  · simp only [firstN, b0]; rw [n3]; congr 1; split
    · rfl
    · simp; omega
  · simp only [cnt, p0]; exact n4
theorem c_follow {M : Mem} {c : SC} {kp : Nat → Bool} {e : EX} {kept : Int32} {post : Mem → Prop} (hM : ExC M 23 e) (hS : ScC M 17 c) (hV : VE e) (hVS : VS (eM e) c) (hk : ∀ i, i < 8 → (((ishr kept (nI i)) &&& 1) = 0 ↔ kp i = false)) (h : ∀ M', ExC M' 23 (runE c kp e (sA c)) → (∀ i, i < sA c → kp i = true → rd M' 39 i = nI (fateE c kp e i)) → NoteC M' c kp e (sA c) → Fr 22 40 M M' → post M') : w_X8_follow kept M post := by
  have ha := hVS.1
  have hm := hV.m
  unfold w_X8_follow
  rintro M6 rfl M7 rfl M8 rfl M9 rfl
  refine loop_0 (fun n i (s : Mem) => w_X8_follow_L23 post kept n (nI i) s) (fun i s => ExC s 23 (runE c kp e i) ∧ (∀ j, j < i → kp j = true → rd s 39 j = nI (fateE c kp e j)) ∧ NoteC s c kp e i ∧ Fr 22 40 M s) (sA c) _ ⟨?_, fun j hj => by omega, ⟨?_, ?_, ?_, ?_⟩, ?_⟩ ?_ ?_
  · refine hM.fr (lo := 22) (hi := 23) ?_ (by omega)
    repeat (first | exact Fr.refl | refine Fr.trans ?_ (Fr.wr (by omega)))
  · simp (disch := omega) only [rd_ne, rd_eq]; rfl
  · simp (disch := omega) only [rd_ne, rd_eq]; rfl
  · simp (disch := omega) only [rd_ne, rd_eq]; rfl
  · simp (disch := omega) only [rd_ne, rd_eq]; rfl
  · repeat (first | exact Fr.refl | refine Fr.trans ?_ (Fr.wr (by omega)))
  · rintro n s ⟨k1, k2, k3, k4⟩
    show w_X8_follow_L23 post kept (n + 1) _ s
    unfold w_X8_follow_L23
    rw [(hS.fr k4 (by omega)).1]
    exact ⟨fun _ => h s k1 k2 k3 k4, fun c => absurd (nI_le (Nat.le_refl _) (by omega)) c⟩
  · rintro n i s hi ⟨k1, k2, k3, k4⟩ kk
    show w_X8_follow_L23 post kept (n + 1) _ s
    unfold w_X8_follow_L23
    have hSs := hS.fr k4 (by omega)
    obtain ⟨w1, w2⟩ := hSs.2.2.1 i hi
    obtain ⟨hVr, hMr⟩ := run_V (kp := kp) hV hVS i (by omega)
    obtain ⟨s1, s2⟩ := hVS.2.2.1 i hi
    have hdl := hVS.dl hi
    rw [hSs.1, tnI (by omega), show rd s 18 i = _ from w1, show rd s 19 i = _ from w2]
    have vi : vp_in (nI i) 8 := vp_in_nI (by omega) (by omega)
    refine ⟨fun c => absurd c (nI_ge hi (by omega)), fun _ => ⟨fun c1 => ?_, fun c1 => ?_⟩⟩
    · have kf := (hk i (by omega)).mp c1
      rintro v1 rfl
      rw [nI_1]
      refine kk s ⟨?_, fun j hj hkj => ?_, skip_note kf k3, k4⟩
      · simp only [runE]; rw [kf]; exact k1
      · by_cases q : j = i
        · rw [q, kf] at hkj; exact absurd hkj (by decide)
        · exact k2 j (by omega) hkj
    · have kt : kp i = true := by
        cases q : kp i with
        | true => rfl
        | false => exact absurd ((hk i (by omega)).mpr q) c1
      refine ⟨vi, vi, ?_⟩
      refine c_fateOf k1 hVr (by rw [hMr]; exact s1) s2 (fun M' j1 j2 => ?_)
      refine ⟨vi, ?_⟩
      rintro M5 rfl
      have hfi : (actE (runE c kp e i) (sW c i) (sD c i)).1 = fateE c kp e i := by unfold fateE; rw [if_pos kt]
      rw [hfi]
      have hr : ∀ i' k', i' < 23 ∨ 39 ≤ i' → rd M' i' k' = rd s i' k' := fun i' k' q => j2.row q k'
      refine ⟨vi, ?_⟩
      have e19 : rd (wr M' 39 i (nI (fateE c kp e i))) 19 i = nI (sD c i) := by
        simp (disch := omega) only [rd_ne, rd_eq]
        rw [hr _ _ (by omega)]; exact w2
      rw [e19]
      have hN : NoteC (wr M' 39 i (nI (fateE c kp e i))) c kp e i := by
        obtain ⟨n1, n2, n3, n4⟩ := k3
        refine ⟨?_, ?_, ?_, ?_⟩ <;> (simp (disch := omega) only [rd_ne, rd_eq]; rw [hr _ _ (by omega)])
        · exact n1
        · exact n2
        · exact n3
        · exact n4
      have fin : ∀ z : Int32, (z = 0 ↔ sD c i ≠ 99) → w_X8_follow_J79 post (w_X8_follow_L23 post kept n) kept (nI i) (nI i) z (wr M' 39 i (nI (fateE c kp e i))) := by
        intro z hz
        unfold w_X8_follow_J79
        refine c_note (by omega) (by simp (disch := omega) only [rd_eq]) kt hz hN (fun M2 hn2 hf2 => ?_)
        rintro v1 rfl
        rw [nI_1]
        have h2 : ∀ i' k', i' < 22 ∨ 23 ≤ i' → rd M2 i' k' = rd (wr M' 39 i (nI (fateE c kp e i))) i' k' := fun i' k' q => hf2.row q k'
        refine kk M2 ⟨?_, fun j hj hkj => ?_, hn2, ?_⟩
        · simp only [runE]
          rw [if_pos kt]
          exact (j1.fr (lo := 39) (hi := 40) (Fr.wr (by omega)) (by omega)).fr hf2 (by omega)
        · rw [h2 _ _ (by omega)]
          by_cases q : j = i
          · subst q; simp (disch := omega) only [rd_eq]
          · simp (disch := omega) only [rd_ne]
            rw [hr _ _ (by omega)]; exact k2 j (by omega) hkj
        · exact k4.trans (((j2.sub (by omega)).trans (Fr.wr (by omega))).trans (hf2.sub (by omega)))
      refine ⟨fun c2 => fin 0 ⟨fun _ y => c2 (by rw [y]; rfl), fun _ => rfl⟩, fun c2 => fin 1 ⟨fun y => absurd y (by decide), fun y => absurd (nI_inj (by omega) (by decide) c2) y⟩⟩
theorem c_wantedWayOf {M : Mem} {c : SC} {t m : Nat} {f : Nat → Nat} {post : Int32 → Mem → Prop} (hS : ScC M 17 c) (hVS : VS m c) (ht : t < 2 ^ 31) (hf : ∀ i, i < sA c → rd M 39 i = nI (f i) ∧ f i ≤ 6) (h : post (if anyB (fun i => decide (f i = 2 ∧ sD c i / 10 = t)) (sA c) = true then 1 else 0) M) : w_X8_wantedWayOf (nI t) M post := by
  have ha := hVS.1
  unfold w_X8_wantedWayOf
  refine loop_0 (fun n i (_ : Unit) => w_X8_wantedWayOf_L2 post (nI t) n (nI i) M) (fun i _ => ∀ j, j < i → ¬ (f j = 2 ∧ sD c j / 10 = t)) (sA c) () (fun j hj => by omega) ?_ ?_
  · intro n _ hI
    show w_X8_wantedWayOf_L2 post (nI t) (n + 1) _ M
    unfold w_X8_wantedWayOf_L2
    rw [hS.1]
    rw [anyB_f (fun i hi => decide_eq_false (hI i hi))] at h
    exact ⟨fun _ => h, fun c => absurd (nI_le (Nat.le_refl _) (by omega)) c⟩
  · intro n i _ hi hI kk
    show w_X8_wantedWayOf_L2 post (nI t) (n + 1) _ M
    unfold w_X8_wantedWayOf_L2
    obtain ⟨f1, f2⟩ := hf i hi
    have hdl := hVS.dl hi
    have vi : vp_in (nI i) 8 := vp_in_nI (by omega) (by omega)
    rw [hS.1, tnI (by omega), f1, show rd M 19 i = _ from (hS.2.2.1 i hi).2, nI_div (by omega)]
    have next : ¬ (f i = 2 ∧ sD c i / 10 = t) → w_X8_wantedWayOf_J35 post (w_X8_wantedWayOf_L2 post (nI t) n) (nI t) (nI i) M := fun q => by
      rintro v1 rfl
      rw [nI_1]
      refine kk () (fun j hj => ?_)
      by_cases y : j = i
      · rw [y]; exact q
      · exact hI j (by omega)
    refine ⟨fun c => absurd c (nI_ge hi (by omega)), fun _ => ⟨vi, fun c1 => next (fun y => c1 (by rw [y.1]; rfl)), fun c1 => ?_⟩⟩
    refine ⟨vi, fun c2 => next (fun y => c2 (by rw [y.2])), fun c2 => ?_⟩
    have q1 : f i = 2 := nI_inj (by omega) (by decide) c1
    have q2 : sD c i / 10 = t := nI_inj (by omega) ht c2
    rw [anyB_t hi (decide_eq_true ⟨q1, q2⟩)] at h
    exact h
theorem c_wantedFinder {M : Mem} {c : SC} {m : Nat} {f : Nat → Nat} {post : Int32 → Mem → Prop} (hS : ScC M 17 c) (hVS : VS m c) (hf : ∀ i, i < sA c → rd M 39 i = nI (f i) ∧ f i ≤ 6) (h : post (if anyB (fun i => decide (f i = 1)) (sA c) = true then 1 else 0) M) : w_X8_wantedFinder M post := by
  have ha := hVS.1
  unfold w_X8_wantedFinder
  refine loop_0 (fun n i (_ : Unit) => w_X8_wantedFinder_L2 post n (nI i) M) (fun i _ => ∀ j, j < i → ¬ (f j = 1)) (sA c) () (fun j hj => by omega) ?_ ?_
  · intro n _ hI
    show w_X8_wantedFinder_L2 post (n + 1) _ M
    unfold w_X8_wantedFinder_L2
    rw [hS.1]
    rw [anyB_f (fun i hi => decide_eq_false (hI i hi))] at h
    exact ⟨fun _ => h, fun c => absurd (nI_le (Nat.le_refl _) (by omega)) c⟩
  · intro n i _ hi hI kk
    show w_X8_wantedFinder_L2 post (n + 1) _ M
    unfold w_X8_wantedFinder_L2
    obtain ⟨f1, f2⟩ := hf i hi
    have vi : vp_in (nI i) 8 := vp_in_nI (by omega) (by omega)
    rw [hS.1, tnI (by omega), f1]
    refine ⟨fun c => absurd c (nI_ge hi (by omega)), fun _ => ⟨vi, fun c1 => ?_, fun c1 => ?_⟩⟩
    · rintro v1 rfl
      rw [nI_1]
      refine kk () (fun j hj => ?_)
      by_cases y : j = i
      · rw [y]; intro z; exact c1 (by rw [z]; rfl)
      · exact hI j (by omega)
    · have q1 : f i = 1 := nI_inj (by omega) (by decide) c1
      rw [anyB_t hi (decide_eq_true q1)] at h
      exact h
/-- all is as seen -/
def seenB (c : SC) (f : Nat → Nat) : Bool := !anyB (fun j => !decide (sI c j < sA c ∧ f (sI c j) = sF c j)) (sN c)
theorem c_isAsSeen {M : Mem} {c : SC} {m : Nat} {f : Nat → Nat} {post : Int32 → Mem → Prop} (hS : ScC M 17 c) (hVS : VS m c) (hf : ∀ i, i < sA c → rd M 39 i = nI (f i) ∧ f i ≤ 6) (h : post (if seenB c f = true then 1 else 0) M) : w_X8_isAsSeen M post := by
  obtain ⟨ha, hn, -, hs⟩ := hVS
  unfold w_X8_isAsSeen
  refine loop_0 (fun n i (_ : Unit) => w_X8_isAsSeen_L2 post n (nI i) M) (fun i _ => ∀ j, j < i → (sI c j < sA c ∧ f (sI c j) = sF c j)) (sN c) () (fun j hj => by omega) ?_ ?_
  · intro n _ hI
    show w_X8_isAsSeen_L2 post (n + 1) _ M
    unfold w_X8_isAsSeen_L2
    rw [hS.2.1]
    have : seenB c f = true := by
      unfold seenB
      rw [anyB_f (fun i hi => by rw [decide_eq_true (hI i hi)]; rfl)]
      rfl
    rw [this] at h
    exact ⟨fun _ => h, fun c => absurd (nI_le (Nat.le_refl _) (by omega)) c⟩
  · intro n i _ hi hI kk
    show w_X8_isAsSeen_L2 post (n + 1) _ M
    unfold w_X8_isAsSeen_L2
    have vi : vp_in (nI i) 6 := vp_in_nI (by omega) (by omega)
    obtain ⟨k1, k2⟩ := hS.2.2.2 i hi
    obtain ⟨j1, j2⟩ := hs i hi
    have bad : ¬ (sI c i < sA c ∧ f (sI c i) = sF c i) → post 0 M := fun q => by
      have : seenB c f = false := by
        unfold seenB
        rw [anyB_t hi (by rw [decide_eq_false q]; rfl)]
        rfl
      rw [this] at h
      exact h
    rw [hS.2.1, hS.1, tnI (by omega), show rd M 20 i = _ from k1, show rd M 21 i = _ from k2]
    refine ⟨fun c => absurd c (nI_ge hi (by omega)), fun _ => ⟨vi, ?_⟩⟩
    rintro v1 rfl
    refine ⟨fun c1 => bad (fun q => nI_ge q.1 (by omega) c1), fun c1 => ?_⟩
    have q1 : sI c i < sA c := by
      rcases Nat.lt_or_ge (sI c i) (sA c) with q | q
      · exact q
      · exact absurd (nI_le q (by omega)) c1
    obtain ⟨f1, f2⟩ := hf _ q1
    rw [tnI (by omega), f1]
    refine ⟨vp_in_nI (by omega) (by omega), vi, fun c2 => ?_, fun c2 => bad (fun q => c2 (by rw [q.2]))⟩
    have q2 : f (sI c i) = sF c i := nI_inj (by omega) (by omega) c2
    rintro v2 rfl
    rw [nI_1]
    refine kk () (fun j hj => ?_)
    by_cases y : j = i
    · rw [y]; exact ⟨q1, q2⟩
    · exact hI j (by omega)
