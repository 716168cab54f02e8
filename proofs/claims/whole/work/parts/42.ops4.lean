/-! leave, more, swap, hunts, deads -/
def notE (i : Nat) : Nat → Bool := fun j => decide (j ≠ i)
theorem kNot : ∀ i, i < 8 → ∀ j, j < 8 → (((ishr (255 &&& ((ishl 1 (nI i)) ^^^ (-1))) (nI j)) &&& 1) = 0 ↔ notE i j = false) := by decide +kernel
theorem mNot : ∀ i, i < 8 → ∀ j, j < 8 → (((ishr (ishl 1 (nI i)) (nI j)) &&& 1) = 1 ↔ notE i j = false) := by decide +kernel
/-- leave -/
def leaveB (e : EX) (c : SC) : Nat → BS
  | 0 => (0, lostN c kT e)
  | i + 1 => offB (leaveB e c i) i (lostN c (notE i) e)
theorem c_leave {M : Mem} {e : EX} {c : SC} {k : Nat} {post : Int32 → Mem → Prop} (hk : k < 2) (hC : CoreP M e c) (hB : BestC M (0, lostN c kT e)) (h : ∀ M1, Fr 22 50 M M1 → post (tellB (leaveB e c (sA c)) k) M1) : ∃ g29 : Nat, w_X9_leave_L29 post (nI k) g29 0 M := by
  have hV := hC.2.2.2.2.1
  have hS := hC.2.2.2.2.2
  have ha := hS.1
  refine loop_0 (fun n i (s : Mem) => w_X9_leave_L29 post (nI k) n (nI i) s) (fun i s => Fr 22 50 M s ∧ BestC s (leaveB e c i)) (sA c) M ⟨Fr.refl, hB⟩ ?_ ?_
  · rintro n s ⟨j1, j2⟩
    show w_X9_leave_L29 post _ (n + 1) _ s
    unfold w_X9_leave_L29
    rw [(hC.frC j1).2.2.1.1]
    exact ⟨fun _ => c_told j2 hk (h s j1), fun q => absurd (nI_le (Nat.le_refl _) (by omega)) q⟩
  · rintro n i s hi ⟨j1, j2⟩ kk
    show w_X9_leave_L29 post _ (n + 1) _ s
    unfold w_X9_leave_L29
    have hCs := hC.frC j1
    rw [hCs.2.2.1.1]
    refine ⟨fun q => absurd q (nI_ge hi (by omega)), fun _ => ?_⟩
    refine c1_copyFrom hCs.1 hV (by omega) (fun M2 a1 a2 => ?_)
    refine c_tries (s := leaveB e c i) a1 (hCs.2.2.1.fr a2 (by omega)) hV hS (kNot i (by omega)) (j2.fr a2 (by omega)) (by omega) (fun M3 b1 b2 => ?_)
    rintro v5 rfl
    rw [nI_1]
    exact kk _ ⟨j1.trans ((a2.sub (by omega)).trans (b2.sub (by omega))), b1⟩
theorem m_leave {M : Mem} {e : EX} {c : SC} {k : Nat} {post : Int32 → Mem → Prop} (hk : k < 2) (hC : CoreP M e c) (hB : BestM M (0, lostN c kT e)) (h : ∀ M1, FrM M M1 → post (tellB (leaveB e c (sA c)) k) M1) : ∃ g15 : Nat, w_X10_leave_L15 post (nI k) g15 0 M := by
  have hV := hC.2.2.2.2.1
  have hS := hC.2.2.2.2.2
  have ha := hS.1
  refine loop_0 (fun n i (s : Mem) => w_X10_leave_L15 post (nI k) n (nI i) s) (fun i s => FrM M s ∧ BestM s (leaveB e c i)) (sA c) M ⟨FrM.refl, hB⟩ ?_ ?_
  · rintro n s ⟨j1, j2⟩
    show w_X10_leave_L15 post _ (n + 1) _ s
    unfold w_X10_leave_L15
    rw [show rd s 129 66 = _ from (hC.frM j1).2.2.2.1.1]
    exact ⟨fun _ => m_judged j2 hk (h s j1), fun q => absurd (nI_le (Nat.le_refl _) (by omega)) q⟩
  · rintro n i s hi ⟨j1, j2⟩ kk
    show w_X10_leave_L15 post _ (n + 1) _ s
    unfold w_X10_leave_L15
    have hCs := hC.frM j1
    rw [show rd s 129 66 = _ from hCs.2.2.2.1.1]
    refine ⟨fun q => absurd q (nI_ge hi (by omega)), fun _ => m_starts (fun M4 a1 a2 => ?_)⟩
    obtain ⟨hE, hSc⟩ := hCs.st a1
    refine m_judges (kp := notE i) (s := leaveB e c i) hE hSc hV hS (mNot i (by omega)) (j2.fr a2 (by omega)) (by omega) (fun M5 b1 b2 => ?_)
    rintro v6 rfl
    rw [nI_1]
    exact kk _ ⟨(j1.trans (FrM.of130 a2)).trans b2, b1⟩
theorem op_leave {M : Mem} {w : Int32} (hI : INV M) : w_X9_leave w M (fun r M1 => w_X10_leave w M1 (fun r' M2 => r = r' ∧ INV M2)) := by
  obtain ⟨e, c, hC, hR⟩ := id hI
  have hS := hC.2.2.2.2.2
  unfold w_X9_leave
  refine c_isBit (fun k hk hw => ⟨fun _ => ?_, fun q => absurd q (by decide)⟩) (fun no => ⟨fun q => absurd rfl q, fun _ => ?_⟩)
  · subst hw
    refine c_asIs hC (fun M1 k1 k2 k3 k4 => ?_)
    rw [k3.2.1]
    refine c_begin (b := lostN c kT e) (by have := lostN_8 (kp := kT) (e := e) hS; omega) (fun M2 j1 j2 => ?_)
    have f2 : Fr 22 50 M M2 := k4.trans (j2.sub (by omega))
    refine c_leave hk (hC.frC f2) j1 (fun M3 l1 => ?_)
    have f3 := f2.trans l1
    unfold w_X10_leave
    refine m_isPart (fun _ _ _ => ⟨fun _ => ?_, fun q => absurd q (by decide)⟩) (fun no => absurd rfl (no k hk))
    refine m_startsJudging (hC.frC f3) (fun M4 a1 a2 => ?_)
    exact m_leave hk ((hC.frC f3).frM a2) a1 (fun M5 b1 => ⟨rfl, ((hI.frC f3).frM a2).frM b1⟩)
  · unfold w_X10_leave
    exact m_isPart (fun k hk hw => absurd hw (no k hk)) (fun _ => ⟨fun z => absurd rfl z, fun _ => ⟨rfl, hI⟩⟩)
/-- more -/
def moreB (e : EX) (c : SC) : Nat → BS
  | 0 => (0, lostN c kT e)
  | t + 1 => if eZ e t < 4 then offB (moreB e c t) t (lostN c kT (sizeE e t (eZ e t + 1))) else moreB e c t
theorem heldE_more {e : EX} (hV : VE e) {t : Nat} (ht : t < 5) : heldE e t < 2 ^ (eZ e t + 1) := by
  have := heldE_lt hV ht
  have := Nat.pow_le_pow_right (n := 2) (by omega) (Nat.le_succ (eZ e t))
  omega
theorem c_more {M : Mem} {e : EX} {c : SC} {k : Nat} {post : Int32 → Mem → Prop} (hk : k < 2) (hC : CoreP M e c) (hB : BestC M (0, lostN c kT e)) (h : ∀ M1, Fr 22 50 M M1 → post (tellB (moreB e c 5) k) M1) : ∃ g29 : Nat, w_X9_more_L29 post (nI k) g29 0 M := by
  have hV := hC.2.2.2.2.1
  have hS := hC.2.2.2.2.2
  refine loop_0 (fun n i (s : Mem) => w_X9_more_L29 post (nI k) n (nI i) s) (fun i s => Fr 22 50 M s ∧ BestC s (moreB e c i)) 5 M ⟨Fr.refl, hB⟩ ?_ ?_
  · rintro n s ⟨j1, j2⟩
    show w_X9_more_L29 post _ (n + 1) _ s
    unfold w_X9_more_L29
    exact ⟨fun _ => c_told j2 hk (h s j1), fun q => absurd (nI_le (a := 5) (Nat.le_refl _) (by decide)) q⟩
  · rintro n i s hi ⟨j1, j2⟩ kk
    show w_X9_more_L29 post _ (n + 1) _ s
    unfold w_X9_more_L29
    have hCs := hC.frC j1
    have hz := (hV.2.2.2.2.2.2.2 i hi).2.1
    refine ⟨fun q => absurd q (nI_ge (b := 5) hi (by decide)), fun _ => ⟨vp_in_nI hi (by omega), ?_⟩⟩
    rw [tnI (by omega)]
    rintro g hg
    obtain rfl : g = 1 + 6 + 2 * i := by omega
    rintro v hv
    rw [(hCs.1.2.2.2.2 i hi).2.1] at hv
    subst hv
    refine ⟨fun q => ?_, fun q => ?_⟩
    · have := (nI_leI (a := 4) (by decide) (by omega)).mp q
      have e1 : moreB e c (i + 1) = moreB e c i := by simp only [moreB]; rw [if_neg (by omega)]
      unfold w_X9_more_J113
      rintro v rfl
      rw [nI_1]
      exact kk _ ⟨j1, by rw [e1]; exact j2⟩
    · have hlt : eZ e i < 4 := by
        rcases Nat.lt_or_ge (eZ e i) 4 with z | z
        · exact z
        · exact absurd (nI_le (a := 4) z (by omega)) q
      have e1 : moreB e c (i + 1) = offB (moreB e c i) i (lostN c kT (sizeE e i (eZ e i + 1))) := by simp only [moreB]; rw [if_pos hlt]
      refine c1_copyFrom hCs.1 hV (by omega) (fun M2 a1 a2 => ⟨vp_in_nI hi (by omega), ?_⟩)
      rintro g hg
      obtain rfl : g = 23 + 6 + 2 * i := by omega
      rw [nI_1]
      refine c_resize a1 hV hi (by omega) rfl (fun M3 b1 b2 => ?_)
      have f3 : Fr 22 39 s M3 := (a2.sub (by omega)).trans (b2.sub (by omega))
      refine c_tries (s := moreB e c i) b1 (hCs.2.2.1.fr f3 (by omega)) (VE_sizeE hV hi (by omega) (heldE_more hV hi)) hS k255 (j2.fr f3 (by omega)) (by omega) (fun M4 l1 l2 => ?_)
      unfold w_X9_more_J113
      rintro v5 rfl
      rw [nI_1]
      exact kk _ ⟨j1.trans ((f3.sub (by omega)).trans (l2.sub (by omega))), by rw [e1]; exact l1⟩
theorem m_more {M : Mem} {e : EX} {c : SC} {k : Nat} {post : Int32 → Mem → Prop} (hk : k < 2) (hC : CoreP M e c) (hB : BestM M (0, lostN c kT e)) (h : ∀ M1, FrM M M1 → post (tellB (moreB e c 5) k) M1) : ∃ g15 : Nat, w_X10_more_L15 post (nI k) g15 0 M := by
  have hV := hC.2.2.2.2.1
  have hS := hC.2.2.2.2.2
  refine loop_0 (fun n i (s : Mem) => w_X10_more_L15 post (nI k) n (nI i) s) (fun i s => FrM M s ∧ BestM s (moreB e c i)) 5 M ⟨FrM.refl, hB⟩ ?_ ?_
  · rintro n s ⟨j1, j2⟩
    show w_X10_more_L15 post _ (n + 1) _ s
    unfold w_X10_more_L15
    exact ⟨fun _ => m_judged j2 hk (h s j1), fun q => absurd (nI_le (a := 5) (Nat.le_refl _) (by decide)) q⟩
  · rintro n i s hi ⟨j1, j2⟩ kk
    show w_X10_more_L15 post _ (n + 1) _ s
    unfold w_X10_more_L15
    have hCs := hC.frM j1
    have hz := (hV.2.2.2.2.2.2.2 i hi).2.1
    refine ⟨fun q => absurd q (nI_ge (b := 5) hi (by decide)), fun _ => m_starts (fun M4 a1 a2 => ?_)⟩
    obtain ⟨hE, hSc⟩ := hCs.st a1
    have hz4 : rd M4 130 (26 + 4 * i + 1) = nI (eZ e i) := by rw [show 26 + 4 * i + 1 = 27 + 4 * i by omega]; exact (hE.2.2.2 i hi).2.1
    refine m_ofGroup (k := 1) rfl (by omega) ?_
    rw [hz4]
    refine ⟨fun q => ?_, fun q => ?_⟩
    · have := (nI_leI (a := 4) (by decide) (by omega)).mp q
      have e1 : moreB e c (i + 1) = moreB e c i := by simp only [moreB]; rw [if_neg (by omega)]
      unfold w_X10_more_J53
      rintro v rfl
      rw [nI_1]
      exact kk _ ⟨j1.trans (FrM.of130 a2), by rw [e1]; exact j2.fr a2 (by omega)⟩
    · have hlt : eZ e i < 4 := by
        rcases Nat.lt_or_ge (eZ e i) 4 with z | z
        · exact z
        · exact absurd (nI_le (a := 4) z (by omega)) q
      have e1 : moreB e c (i + 1) = offB (moreB e c i) i (lostN c kT (sizeE e i (eZ e i + 1))) := by simp only [moreB]; rw [if_pos hlt]
      refine m_ofGroup (k := 1) rfl (by omega) ?_
      rw [hz4, nI_1]
      refine m_hasWays hE hV hi (by omega) (fun M5 b1 b2 => ?_)
      refine m_judges (kp := kT) (s := moreB e c i) b1 (hSc.frN ⟨hS.1, hS.2.1⟩ b2) (VE_sizeE hV hi (by omega) (heldE_more hV hi)) hS k0m ((j2.fr a2 (by omega)).fr b2.1 (by omega)) (by omega) (fun M6 l1 l2 => ?_)
      unfold w_X10_more_J53
      rintro v6 rfl
      rw [nI_1]
      exact kk _ ⟨((j1.trans (FrM.of130 a2)).trans (FrM.of130 b2.1)).trans l2, by rw [e1]; exact l1⟩
theorem op_more {M : Mem} {w : Int32} (hI : INV M) : w_X9_more w M (fun r M1 => w_X10_more w M1 (fun r' M2 => r = r' ∧ INV M2)) := by
  obtain ⟨e, c, hC, hR⟩ := id hI
  have hS := hC.2.2.2.2.2
  unfold w_X9_more
  refine c_isBit (fun k hk hw => ⟨fun _ => ?_, fun q => absurd q (by decide)⟩) (fun no => ⟨fun q => absurd rfl q, fun _ => ?_⟩)
  · subst hw
    refine c_asIs hC (fun M1 k1 k2 k3 k4 => ?_)
    rw [k3.2.1]
    refine c_begin (b := lostN c kT e) (by have := lostN_8 (kp := kT) (e := e) hS; omega) (fun M2 j1 j2 => ?_)
    have f2 : Fr 22 50 M M2 := k4.trans (j2.sub (by omega))
    refine c_more hk (hC.frC f2) j1 (fun M3 l1 => ?_)
    have f3 := f2.trans l1
    unfold w_X10_more
    refine m_isPart (fun _ _ _ => ⟨fun _ => ?_, fun q => absurd q (by decide)⟩) (fun no => absurd rfl (no k hk))
    refine m_startsJudging (hC.frC f3) (fun M4 a1 a2 => ?_)
    exact m_more hk ((hC.frC f3).frM a2) a1 (fun M5 b1 => ⟨rfl, ((hI.frC f3).frM a2).frM b1⟩)
  · unfold w_X10_more
    exact m_isPart (fun k hk hw => absurd hw (no k hk)) (fun _ => ⟨fun z => absurd rfl z, fun _ => ⟨rfl, hI⟩⟩)
/-- swap -/
theorem c_setSwap {M : Mem} {x a b : Nat} {e : EX} {v w : Int32} (hM : ExC M x e) (hv : v = nI (eN e b)) (hw : w = nI (eN e a)) : ExC (wr (wr M (x + 1) a v) (x + 1) b w) x (swapE e a b) := by
  subst hv
  subst hw
  have h1 := c_setNum (a := a) (n := eN e b) hM
  have h2 := c_setNum (a := b) (n := eN e a) h1
  exact h2
theorem ExM.swap {f g : Nat → Int32} {a b : Nat} {e : EX} (h : ExM f e) (hm : eM e ≤ 6) (ha : a < eM e) (hb : b < eM e) (hab : a ≠ b) (h1 : g (4 * a) = nI (eN e b)) (h2 : g (4 * b) = nI (eN e a)) (h3 : ∀ k, k < 66 → k ≠ 4 * a → k ≠ 4 * b → g k = f k) : ExM g (swapE e a b) := by
  have j1 : ExM (fun k => if k = 4 * a then nI (eN e b) else f k) (numE e a (eN e b)) := h.num hm ha (if_pos rfl) (fun k _ hk => if_neg hk)
  exact j1.num (e := numE e a (eN e b)) (a := b) (n := eN e a) hm hb h2 (fun k hk hk2 => by
    show g k = if k = 4 * a then nI (eN e b) else f k
    by_cases q : k = 4 * a
    · rw [if_pos q, q]; exact h1
    · rw [if_neg q]; exact h3 k hk q hk2)
def swapI (e : EX) (c : SC) (a : Nat) (s : BS) : Nat → BS
  | 0 => s
  | b + 1 => if a < b ∧ eS e a = 0 ∧ eS e b = 0 then offB (swapI e c a s b) (10 * a + b) (lostN c kT (swapE e a b)) else swapI e c a s b
def swapO (e : EX) (c : SC) : Nat → BS
  | 0 => (0, lostN c kT e)
  | a + 1 => swapI e c a (swapO e c a) (eM e)
theorem swapI_0 {e : EX} {c : SC} {a : Nat} {s : BS} : ∀ b, b ≤ a + 1 → swapI e c a s b = s := by
  intro b
  induction b with
  | zero => intro _; rfl
  | succ b ih => intro h; simp only [swapI]; rw [if_neg (by omega), ih (by omega)]
theorem c_swap {M : Mem} {e : EX} {c : SC} {k : Nat} {post : Int32 → Mem → Prop} (hk : k < 2) (hC : CoreP M e c) (hB : BestC M (0, lostN c kT e)) (h : ∀ M1, Fr 22 50 M M1 → post (tellB (swapO e c (eM e)) k) M1) : ∃ g29 : Nat, w_X9_swap_L29 post (nI k) g29 0 M := by
  have hV := hC.2.2.2.2.1
  have hS := hC.2.2.2.2.2
  have hm := hV.m
  refine loop_0 (fun n i (s : Mem) => w_X9_swap_L29 post (nI k) n (nI i) s) (fun i s => Fr 22 50 M s ∧ BestC s (swapO e c i)) (eM e) M ⟨Fr.refl, hB⟩ ?_ ?_
  · rintro n s ⟨j1, j2⟩
    show w_X9_swap_L29 post _ (n + 1) _ s
    unfold w_X9_swap_L29
    rw [show rd s 1 0 = _ from (hC.frC j1).1.1]
    exact ⟨fun _ => c_told j2 hk (h s j1), fun q => absurd (nI_le (Nat.le_refl _) (by omega)) q⟩
  · rintro n a s ha ⟨j1, j2⟩ kk
    show w_X9_swap_L29 post _ (n + 1) _ s
    unfold w_X9_swap_L29
    rw [show rd s 1 0 = _ from (hC.frC j1).1.1]
    refine ⟨fun q => absurd q (nI_ge ha (by omega)), fun _ => ?_⟩
    rintro v rfl
    rw [nI_1]
    refine pk_loop (fun n' i (s : Mem) => w_X9_swap_L44 post (w_X9_swap_L29 post (nI k) n) (nI k) (nI a) n' (nI i) s) (fun i s => a + 1 ≤ i ∧ Fr 22 50 M s ∧ BestC s (swapI e c a (swapO e c a) i)) (eM e) (a + 1) s (by omega) ⟨Nat.le_refl _, j1, by rw [swapI_0 _ (Nat.le_refl _)]; exact j2⟩ ?_ ?_
    · rintro n' s ⟨-, j1, j2⟩
      show w_X9_swap_L44 post _ _ _ (n' + 1) _ s
      unfold w_X9_swap_L44
      rw [show rd s 1 0 = _ from (hC.frC j1).1.1]
      refine ⟨fun _ => ?_, fun q => absurd (nI_le (Nat.le_refl _) (by omega)) q⟩
      rintro v rfl
      rw [nI_1]
      exact kk s ⟨j1, j2⟩
    · rintro n' b s hb ⟨hab, j1, j2⟩ kk2
      have hab : a < b := hab
      show w_X9_swap_L44 post _ _ _ (n' + 1) _ s
      unfold w_X9_swap_L44
      have hCs := hC.frC j1
      rw [show rd s 1 0 = _ from hCs.1.1, tnI (by omega), tnI (by omega), show rd s 4 a = _ from (hCs.1.2.2.2.1 a ha).2.2.1, show rd s 4 b = _ from (hCs.1.2.2.2.1 b hb).2.2.1]
      have ra := hV.2.2.2.2.1 a ha
      have rb := hV.2.2.2.2.1 b hb
      have skip : ¬ (a < b ∧ eS e a = 0 ∧ eS e b = 0) → w_X9_swap_J105 post (w_X9_swap_L29 post (nI k) n) (w_X9_swap_L44 post (w_X9_swap_L29 post (nI k) n) (nI k) (nI a) n') (nI k) (nI a) (nI b) s := fun z => by
        unfold w_X9_swap_J105
        rintro v rfl
        rw [nI_1]
        exact kk2 s ⟨by omega, j1, by simp only [swapI]; rw [if_neg z]; exact j2⟩
      refine ⟨fun q => absurd q (nI_ge hb (by omega)), fun _ => ⟨vp_in_nI (by omega) (by omega), fun q => skip (fun z => q (by rw [z.2.1]; rfl)), fun q => ⟨vp_in_nI (by omega) (by omega), fun q2 => skip (fun z => q2 (by rw [z.2.2]; rfl)), fun q2 => ?_⟩⟩⟩
      have sa := nI_inj (b := 0) (by omega) (by decide) q
      have sb := nI_inj (b := 0) (by omega) (by decide) q2
      unfold w_X9_followWithSwap
      refine c1_copyFrom hCs.1 hV (by omega) (fun M2 a1 a2 => ⟨vp_in_nI (by omega) (by omega), vp_in_nI (by omega) (by omega), ?_⟩)
      rw [tnI (by omega), tnI (by omega)]
      rintro M3 hM3
      refine ⟨vp_in_nI (by omega) (by omega), vp_in_nI (by omega) (by omega), ?_⟩
      rintro M4 hM4
      have e2a : rd M2 2 b = nI (eN e b) := by rw [a2.row (by omega)]; exact (hCs.1.2.2.2.1 b hb).1
      have e2b : rd M3 2 a = nI (eN e a) := by rw [hM3, rd_ne (by omega), a2.row (by omega)]; exact (hCs.1.2.2.2.1 a ha).1
      have hE : ExC M4 23 (swapE e a b) := by
        rw [hM4, e2b, hM3, e2a]
        exact c_setSwap a1 rfl rfl
      have f4 : Fr 22 39 s M4 := by
        rw [hM4, hM3]
        exact (a2.sub (by omega)).trans ((Fr.wr (by omega)).trans (Fr.wr (by omega)))
      have e10 : (10 : Int32) * nI a + nI b = nI (10 * a + b) := by rw [show (10 : Int32) = nI 10 from rfl, pk_mul, nI_add]
      rw [e10]
      refine c_tries (s := swapI e c a (swapO e c a) b) hE (hCs.2.2.1.fr f4 (by omega)) (VE_swapE hV ha hb (by omega)) hS k255 (j2.fr f4 (by omega)) (by omega) (fun M5 l1 l2 => ?_)
      unfold w_X9_swap_J105
      rintro v rfl
      rw [nI_1]
      refine kk2 _ ⟨by omega, j1.trans ((f4.sub (by omega)).trans (l2.sub (by omega))), ?_⟩
      simp only [swapI]
      rw [if_pos ⟨hab, sa, sb⟩]
      exact l1
theorem m_swap {M : Mem} {e : EX} {c : SC} {k : Nat} {post : Int32 → Mem → Prop} (hk : k < 2) (hC : CoreP M e c) (hB : BestM M (0, lostN c kT e)) (h : ∀ M1, FrM M M1 → post (tellB (swapO e c (eM e)) k) M1) : ∃ g15 : Nat, w_X10_swap_L15 post (nI k) g15 0 M := by
  have hV := hC.2.2.2.2.1
  have hS := hC.2.2.2.2.2
  have hm := hV.m
  refine loop_0 (fun n i (s : Mem) => w_X10_swap_L15 post (nI k) n (nI i) s) (fun i s => FrM M s ∧ BestM s (swapO e c i)) (eM e) M ⟨FrM.refl, hB⟩ ?_ ?_
  · rintro n s ⟨j1, j2⟩
    show w_X10_swap_L15 post _ (n + 1) _ s
    unfold w_X10_swap_L15
    rw [show rd s 129 24 = _ from (hC.frM j1).2.1.1]
    exact ⟨fun _ => m_judged j2 hk (h s j1), fun q => absurd (nI_le (Nat.le_refl _) (by omega)) q⟩
  · rintro n a s ha ⟨j1, j2⟩ kk
    show w_X10_swap_L15 post _ (n + 1) _ s
    unfold w_X10_swap_L15
    rw [show rd s 129 24 = _ from (hC.frM j1).2.1.1]
    refine ⟨fun q => absurd q (nI_ge ha (by omega)), fun _ => ?_⟩
    rintro v rfl
    rw [nI_1]
    refine pk_loop (fun n' i (s : Mem) => w_X10_swap_L30 post (w_X10_swap_L15 post (nI k) n) (nI k) (nI a) n' (nI i) s) (fun i s => a + 1 ≤ i ∧ FrM M s ∧ BestM s (swapI e c a (swapO e c a) i)) (eM e) (a + 1) s (by omega) ⟨Nat.le_refl _, j1, by rw [swapI_0 _ (Nat.le_refl _)]; exact j2⟩ ?_ ?_
    · rintro n' s ⟨-, j1, j2⟩
      show w_X10_swap_L30 post _ _ _ (n' + 1) _ s
      unfold w_X10_swap_L30
      rw [show rd s 129 24 = _ from (hC.frM j1).2.1.1]
      refine ⟨fun _ => ?_, fun q => absurd (nI_le (Nat.le_refl _) (by omega)) q⟩
      rintro v rfl
      rw [nI_1]
      exact kk s ⟨j1, j2⟩
    · rintro n' b s hb ⟨hab, j1, j2⟩ kk2
      have hab : a < b := hab
      show w_X10_swap_L30 post _ _ _ (n' + 1) _ s
      unfold w_X10_swap_L30
      have hCs := hC.frM j1
      have hY := hCs.2.1
      have i2 : ∀ x k, (4 : Int32) * nI x + nI k = nI (4 * x + k) := fun x k => by rw [show (4 : Int32) = nI 4 from rfl, pk_mul, nI_add]
      rw [show rd s 129 24 = _ from hY.1, show (4 : Int32) * nI a + 2 = nI (4 * a + 2) from i2 a 2, show (4 : Int32) * nI b + 2 = nI (4 * b + 2) from i2 b 2, tnI (by omega), tnI (by omega), show rd s 129 (4 * a + 2) = _ from (hY.2.2.1 a ha).2.2.1, show rd s 129 (4 * b + 2) = _ from (hY.2.2.1 b hb).2.2.1]
      have ra := hV.2.2.2.2.1 a ha
      have rb := hV.2.2.2.2.1 b hb
      have skip : ¬ (a < b ∧ eS e a = 0 ∧ eS e b = 0) → w_X10_swap_J114 post (w_X10_swap_L15 post (nI k) n) (w_X10_swap_L30 post (w_X10_swap_L15 post (nI k) n) (nI k) (nI a) n') (nI k) (nI a) (nI b) s := fun z => by
        unfold w_X10_swap_J114
        rintro v rfl
        rw [nI_1]
        exact kk2 s ⟨by omega, j1, by simp only [swapI]; rw [if_neg z]; exact j2⟩
      refine ⟨fun q => absurd q (nI_ge hb (by omega)), fun _ => ⟨vp_in_nI (by omega) (by omega), fun q => skip (fun z => q (by rw [z.2.1]; rfl)), fun q => ⟨vp_in_nI (by omega) (by omega), fun q2 => skip (fun z => q2 (by rw [z.2.2]; rfl)), fun q2 => ?_⟩⟩⟩
      have sa := nI_inj (b := 0) (by omega) (by decide) q
      have sb := nI_inj (b := 0) (by omega) (by decide) q2
      refine m_starts (fun M4 a1 a2 => ?_)
      obtain ⟨hE, hSc⟩ := hCs.st a1
      rw [show (4 : Int32) * nI b + 0 = nI (4 * b + 0) from i2 b 0, show (4 : Int32) * nI a + 0 = nI (4 * a + 0) from i2 a 0, tnI (by omega), tnI (by omega)]
      refine ⟨vp_in_nI (by omega) (by omega), ?_⟩
      refine m_becomesOf (k := 0) rfl (by omega) ?_
      refine ⟨vp_in_nI (by omega) (by omega), ?_⟩
      refine m_becomesOf (k := 0) rfl (by omega) ?_
      have v1 : rd M4 129 (4 * b + 0) = nI (eN e b) := by rw [a2.row (by omega)]; exact (hY.2.2.1 b hb).1
      have v2 : rd (wr M4 130 (4 * a + 0) (nI (eN e b))) 129 (4 * a + 0) = nI (eN e a) := by rw [rd_ne (by omega), a2.row (by omega)]; exact (hY.2.2.1 a ha).1
      rw [v1, v2]
      have hF : FrN M4 (wr (wr M4 130 (4 * a + 0) (nI (eN e b))) 130 (4 * b + 0) (nI (eN e a))) := (FrN.wr (by omega)).trans (FrN.wr (by omega))
      have hE2 : ExM (R130 (wr (wr M4 130 (4 * a + 0) (nI (eN e b))) 130 (4 * b + 0) (nI (eN e a)))) (swapE e a b) := hE.swap hm ha hb (by omega) (by
        show rd _ 130 (4 * a) = _
        rw [rd_ne (by omega), rd_eq ⟨rfl, by omega⟩]) (by
        show rd _ 130 (4 * b) = _
        rw [rd_eq ⟨rfl, by omega⟩]) (fun k _ h1 h2 => by
        show rd _ 130 k = _
        rw [rd_ne (by omega), rd_ne (by omega)])
      have e10 : (10 : Int32) * nI a + nI b = nI (10 * a + b) := by rw [show (10 : Int32) = nI 10 from rfl, pk_mul, nI_add]
      rw [e10]
      refine m_judges (kp := kT) (s := swapI e c a (swapO e c a) b) hE2 (hSc.frN ⟨hS.1, hS.2.1⟩ hF) (VE_swapE hV ha hb (by omega)) hS k0m ((j2.fr a2 (by omega)).fr hF.1 (by omega)) (by omega) (fun M6 l1 l2 => ?_)
      unfold w_X10_swap_J114
      rintro v rfl
      rw [nI_1]
      refine kk2 _ ⟨by omega, ((j1.trans (FrM.of130 a2)).trans (FrM.of130 hF.1)).trans l2, ?_⟩
      simp only [swapI]
      rw [if_pos ⟨hab, sa, sb⟩]
      exact l1
theorem op_swap {M : Mem} {w : Int32} (hI : INV M) : w_X9_swap w M (fun r M1 => w_X10_swap w M1 (fun r' M2 => r = r' ∧ INV M2)) := by
  obtain ⟨e, c, hC, hR⟩ := id hI
  have hS := hC.2.2.2.2.2
  unfold w_X9_swap
  refine c_isBit (fun k hk hw => ⟨fun _ => ?_, fun q => absurd q (by decide)⟩) (fun no => ⟨fun q => absurd rfl q, fun _ => ?_⟩)
  · subst hw
    refine c_asIs hC (fun M1 k1 k2 k3 k4 => ?_)
    rw [k3.2.1]
    refine c_begin (b := lostN c kT e) (by have := lostN_8 (kp := kT) (e := e) hS; omega) (fun M2 j1 j2 => ?_)
    have f2 : Fr 22 50 M M2 := k4.trans (j2.sub (by omega))
    refine c_swap hk (hC.frC f2) j1 (fun M3 l1 => ?_)
    have f3 := f2.trans l1
    unfold w_X10_swap
    refine m_isPart (fun _ _ _ => ⟨fun _ => ?_, fun q => absurd q (by decide)⟩) (fun no => absurd rfl (no k hk))
    refine m_startsJudging (hC.frC f3) (fun M4 a1 a2 => ?_)
    exact m_swap hk ((hC.frC f3).frM a2) a1 (fun M5 b1 => ⟨rfl, ((hI.frC f3).frM a2).frM b1⟩)
  · unfold w_X10_swap
    exact m_isPart (fun k hk hw => absurd hw (no k hk)) (fun _ => ⟨fun z => absurd rfl z, fun _ => ⟨rfl, hI⟩⟩)
/-! which hunt, which dead it was -/
theorem m_isSo {M : Mem} {e e' : EX} {c : SC} {t q : Nat} {ql v : Int32} {post : Int32 → Mem → Prop} (hC : CoreP M e c) (ht : t < 5) (hql : ql = nI q) (hq : q < 4) (hV : VE e') (hm : eM e' = eM e) (hE : ∀ M1, ExM (R130 M1) e → ExM (R130 (wr M1 130 (26 + 4 * t + q) v)) e') (h : ∀ M1, (∀ i, i < sA c → rd M1 134 i = nI (fateE c kT e' i) ∧ fateE c kT e' i ≤ 6) → FrM M M1 → (∀ k, rd M1 135 k = rd M 135 k) → post (if seenB c (fateE c kT e') = true then 1 else 0) M1) : w_X10_isSoWith (nI t) ql v M post := by
  have hS := hC.2.2.2.2.2
  have hS' : VS (eM e') c := by rw [hm]; exact hS
  have h6 := hS.2.1
  have ha := hS.1
  unfold w_X10_isSoWith
  refine m_starts (fun M1 a1 a2 => ?_)
  obtain ⟨hE1, hSc⟩ := hC.st a1
  refine m_becomesOfGroup (k := q) hql (by omega) ?_
  refine m_planGoes (hE M1 hE1) (hSc.frN ⟨hS.1, hS.2.1⟩ (FrN.wr (by omega))) hV hS' k0m (fun M2 k1 k2 k3' k4' k5 _ => ?_)
  have k3 : ∀ i, i < sA c → rd M2 134 i = nI (fateE c kT e' i) ∧ fateE c kT e' i ≤ 6 := fun i hi => ⟨k3' i hi, fate_6⟩
  have k4 : FrM (wr M1 130 (26 + 4 * t + q) v) M2 := fun i k p => by
    by_cases q : i < 130 ∨ 135 ≤ i
    · exact k4'.row q k
    · unfold PM at p; exact k5 i k (by omega) (by omega)
  have f135 : ∀ k, rd M2 135 k = rd M 135 k := fun k => by rw [k4'.row (by omega), rd_ne (by omega), a2.row (by omega)]
  have f2 : FrM M M2 := ((FrM.of130 a2).trans (FrM.wr (by unfold PM; omega))).trans k4
  have hC2 := hC.frM f2
  have hY := hC2.2.2.2.1
  refine loop_0 (fun n i (s : Bool) => w_X10_isSoWith_L22 post n (if s = true then 1 else 0) (nI i) M2) (fun i s => s = !anyB (fun j => !decide (sI c j < sA c ∧ fateE c kT e' (sI c j) = sF c j)) i) (sN c) true rfl ?_ ?_
  · rintro n s rfl
    show w_X10_isSoWith_L22 post (n + 1) _ _ M2
    unfold w_X10_isSoWith_L22
    rw [show rd M2 129 83 = _ from hY.2.1]
    refine ⟨fun _ => ⟨?_, h M2 k3 f2 f135⟩, fun z => absurd (nI_le (Nat.le_refl _) (by omega)) z⟩
    split
    · exact zb_1
    · exact zb_0
  · rintro n i s hi rfl kk
    show w_X10_isSoWith_L22 post (n + 1) _ _ M2
    unfold w_X10_isSoWith_L22
    obtain ⟨y1, y2⟩ := hY.2.2.2 i hi
    obtain ⟨s1, s2⟩ := hS.2.2.2 i hi
    rw [show rd M2 129 83 = _ from hY.2.1, show (84 : Int32) + 2 * nI i = nI (84 + 2 * i) by rw [show (2 : Int32) = nI 2 from rfl, show (84 : Int32) = nI 84 from rfl, pk_mul, nI_add], nI_1, tnI (by omega), tnI (by omega), show rd M2 129 (84 + 2 * i) = _ from y1, show rd M2 129 (84 + 2 * i + 1) = nI (sF c i) by rw [show 84 + 2 * i + 1 = 85 + 2 * i by omega]; exact y2, show rd M2 129 66 = _ from hY.1]
    have fin : ∀ b : Bool, b = (!anyB (fun j => !decide (sI c j < sA c ∧ fateE c kT e' (sI c j) = sF c j)) (i + 1)) → w_X10_isSoWith_J94 post (w_X10_isSoWith_L22 post n) (nI i) (if b = true then 1 else 0) M2 := fun b hb => by
      unfold w_X10_isSoWith_J94
      rintro v rfl
      rw [nI_1]
      exact kk b hb
    refine ⟨fun z => absurd z (nI_ge hi (by omega)), fun _ => ⟨vp_in_nI (by omega) (by omega), ?_⟩⟩
    rintro v2 rfl
    rw [tnI (by omega)]
    unfold w_X10_isSoWith_J93
    refine ⟨fun z => fin false ?_, fun z => ⟨fun z2 => fin false ?_, fun z2 => ?_⟩⟩
    · have := b2n z
      simp only [anyB, Bool.not_or]; rw [this]; rfl
    · have := (nI_leI (by omega) (by omega)).mp z2
      simp only [anyB, Bool.not_or]
      rw [decide_eq_false (fun y => by omega)]; simp
    · have hlt : sI c i < sA c := by
        rcases Nat.lt_or_ge (sI c i) (sA c) with y | y
        · exact y
        · exact absurd (nI_le y (by omega)) z2
      obtain ⟨f1, f3⟩ := k3 _ hlt
      rw [f1]
      refine ⟨vp_in_nI (by omega) (by omega), vp_in_nI (by omega) (by omega), fun z3 => fin false ?_, fun z3 => fin true ?_⟩
      · simp only [anyB, Bool.not_or]
        rw [decide_eq_false (fun y => z3 (by rw [y.2]))]; simp
      · have := b2y z
        simp only [anyB, Bool.not_or]
        rw [this, decide_eq_true ⟨hlt, nI_inj (by omega) (by omega) z3⟩]; rfl
def huntB (e : EX) (c : SC) (t k : Nat) : Bool := seenB c (fateE c kT (kindE e t k))
def deadB (e : EX) (c : SC) (t d : Nat) : Bool := seenB c (fateE c kT (deadE e t d))
theorem c_hunts {M : Mem} {e : EX} {c : SC} {t : Nat} {post : Int32 → Mem → Prop} (hC : CoreP M e c) (ht : t < 5) (h : ∀ M1, Fr 22 50 M M1 → post (bitsF (huntB e c t) 4) M1) : ∃ g13 : Nat, w_X9_hunts_L13 post (nI t) g13 0 0 M := by
  have hV := hC.2.2.2.2.1
  have hS := hC.2.2.2.2.2
  refine loop_0 (fun n i (s : Mem) => w_X9_hunts_L13 post (nI t) n (bitsF (huntB e c t) i) (nI i) s) (fun i s => Fr 22 50 M s) 4 M Fr.refl ?_ ?_
  · rintro n s j1
    show w_X9_hunts_L13 post _ (n + 1) _ _ s
    unfold w_X9_hunts_L13
    exact ⟨fun _ => h s j1, fun q => absurd (nI_lt (a := 3) (b := 4) (by omega) (by decide)) q⟩
  · rintro n i s hi j1 kk
    show w_X9_hunts_L13 post _ (n + 1) _ _ s
    unfold w_X9_hunts_L13
    have hCs := hC.frC j1
    refine ⟨fun q => absurd q (nI_nlt (a := 3) (b := i) (by omega) (by decide)), fun _ => ?_⟩
    refine c_hunted hCs ht (fun M2 a1 a2 => ?_)
    refine c_goes a1 (hCs.2.2.1.fr a2 (by omega)) (VE_kindE hV (by omega)) hS (fun M3 l1 l2 l3 l4 => ?_)
    have f3 : Fr 22 50 M M3 := j1.trans ((a2.sub (by omega)).trans (l4.sub (by omega)))
    refine c_isAsSeen (f := fateE c kT (kindE e t i)) ((hC.frC f3).2.2.1) hS l2 ⟨fun q => ?_, fun q => ?_⟩
    · unfold w_X9_hunts_J44
      rintro v rfl
      rw [nI_1, ← bits_f (p := huntB e c t) (b2n q)]
      exact kk _ f3
    · rintro v rfl
      unfold w_X9_hunts_J44
      rintro v rfl
      rw [nI_1, ← bits_t (p := huntB e c t) (b2y q)]
      exact kk _ f3
theorem m_hunts {M : Mem} {e : EX} {c : SC} {t : Nat} {post : Int32 → Mem → Prop} (hC : CoreP M e c) (ht : t < 5) (h : ∀ M1, FrM M M1 → post (bitsF (huntB e c t) 4) M1) : ∃ g13 : Nat, w_X10_hunts_L13 post (nI t) g13 0 0 M := by
  have hV := hC.2.2.2.2.1
  have hm := hV.m
  refine loop_0 (fun n i (s : Mem) => w_X10_hunts_L13 post (nI t) n (bitsF (huntB e c t) i) (nI i) s) (fun i s => FrM M s) 4 M FrM.refl ?_ ?_
  · rintro n s j1
    show w_X10_hunts_L13 post _ (n + 1) _ _ s
    unfold w_X10_hunts_L13
    exact ⟨fun _ => h s j1, fun q => absurd (nI_le (a := 4) (Nat.le_refl _) (by decide)) q⟩
  · rintro n i s hi j1 kk
    show w_X10_hunts_L13 post _ (n + 1) _ _ s
    unfold w_X10_hunts_L13
    refine ⟨fun q => absurd q (nI_ge (b := 4) hi (by decide)), fun _ => ?_⟩
    refine m_isSo (hC.frM j1) ht (q := 0) rfl (by omega) (VE_kindE hV (k := i) (by omega)) rfl (fun M1 hE => hE.kind hm ht (rd_eq ⟨rfl, rfl⟩) (fun k' _ hk' => rd_ne (by omega))) (fun M2 _ l2 _ => ?_)
    refine m_flag ?_
    rintro v rfl v6 rfl
    rw [nI_1, show (if seenB c (fateE c kT (kindE e t i)) = true then (1 : Int32) else 0) = if huntB e c t i = true then 1 else 0 from rfl, bits_step (by omega)]
    exact kk _ (j1.trans l2)
theorem op_hunts {M : Mem} {v : Int32} (hI : INV M) : w_X9_hunts v M (fun r M1 => w_X10_hunts v M1 (fun r' M2 => r = r' ∧ INV M2)) := by
  obtain ⟨e, c, hC, hR⟩ := id hI
  unfold w_X9_hunts
  refine c_isGroup (fun t ht hv => ?_) (fun no => ?_)
  · subst hv
    refine ⟨fun _ => ?_, fun q => absurd q (by decide)⟩
    refine c_hunts hC ht (fun M1 k1 => ?_)
    unfold w_X10_hunts
    refine m_isGroup (fun _ _ _ => ⟨fun _ => ?_, fun q => absurd q (by decide)⟩) (fun no => absurd rfl (no t ht))
    exact m_hunts (hC.frC k1) ht (fun M2 k2 => ⟨rfl, (hI.frC k1).frM k2⟩)
  · refine ⟨fun q => absurd rfl q, fun _ => ?_⟩
    unfold w_X10_hunts
    exact m_isGroup (fun t ht hv => absurd hv (no t ht)) (fun _ => ⟨fun q => absurd rfl q, fun _ => ⟨rfl, hI⟩⟩)
theorem shl1 : ∀ n, n < 5 → ishl 1 (nI n) = nI (2 ^ n) := by decide +kernel
theorem pow16 {z : Nat} (h : z ≤ 4) : 2 ^ z ≤ 16 := Nat.le_trans (Nat.pow_le_pow_right (by omega) h) (by decide)
theorem c_deads {M : Mem} {e : EX} {c : SC} {t : Nat} {post : Int32 → Mem → Prop} (hC : CoreP M e c) (ht : t < 5) (h : ∀ M1, Fr 22 50 M M1 → post (bitsF (deadB e c t) (2 ^ eZ e t)) M1) : ∃ g29 : Nat, w_X9_deads_L29 post (nI t) (nI (2 ^ eZ e t)) g29 0 0 M := by
  have hV := hC.2.2.2.2.1
  have hS := hC.2.2.2.2.2
  have hz := (hV.2.2.2.2.2.2.2 t ht).2.1
  have hp := pow16 hz
  refine loop_0 (fun n i (s : Mem) => w_X9_deads_L29 post (nI t) (nI (2 ^ eZ e t)) n (bitsF (deadB e c t) i) (nI i) s) (fun i s => Fr 22 50 M s) (2 ^ eZ e t) M Fr.refl ?_ ?_
  · rintro n s j1
    show w_X9_deads_L29 post _ _ (n + 1) _ _ s
    unfold w_X9_deads_L29
    exact ⟨fun _ => h s j1, fun q => absurd (nI_le (Nat.le_refl _) (by omega)) q⟩
  · rintro n i s hi j1 kk
    show w_X9_deads_L29 post _ _ (n + 1) _ _ s
    unfold w_X9_deads_L29
    have hCs := hC.frC j1
    refine ⟨fun q => absurd q (nI_ge hi (by omega)), fun _ => ?_⟩
    refine c_deadTried hCs ht (fun M2 a1 a2 => ?_)
    refine c_goes a1 (hCs.2.2.1.fr a2 (by omega)) (VE_deadE hV hi) hS (fun M3 l1 l2 l3 l4 => ?_)
    have f3 : Fr 22 50 M M3 := j1.trans ((a2.sub (by omega)).trans (l4.sub (by omega)))
    refine c_isAsSeen (f := fateE c kT (deadE e t i)) ((hC.frC f3).2.2.1) hS l2 ⟨fun q => ?_, fun q => ?_⟩
    · unfold w_X9_deads_J63
      rintro v rfl
      rw [nI_1, ← bits_f (p := deadB e c t) (b2n q)]
      exact kk _ f3
    · rintro v rfl
      unfold w_X9_deads_J63
      rintro v rfl
      rw [nI_1, ← bits_t (p := deadB e c t) (b2y q)]
      exact kk _ f3
theorem m_setsOf {M : Mem} {e : EX} {c : SC} {t : Nat} {post : Int32 → Mem → Prop} (hC : CoreP M e c) (ht : t < 5) (h : post (nI (2 ^ eZ e t)) M) : w_X10_setsOf (nI t) M post := by
  have hz := (hC.2.2.2.2.1.2.2.2.2.2.2.2 t ht).2.1
  unfold w_X10_setsOf
  rw [show (26 : Int32) + 4 * nI t + 1 = nI (27 + 4 * t) by rw [show (4 : Int32) = nI 4 from rfl, show (26 : Int32) = nI 26 from rfl, pk_mul, nI_add, nI_1, show 26 + 4 * t + 1 = 27 + 4 * t by omega], tnI (by omega), show rd M 129 (27 + 4 * t) = _ from (hC.2.1.2.2.2 t ht).2.1, shl1 _ (by omega)]
  exact ⟨vp_in_nI (by omega) (by omega), h⟩
theorem m_deads {M : Mem} {e : EX} {c : SC} {t : Nat} {post : Int32 → Mem → Prop} (hC : CoreP M e c) (ht : t < 5) (h : ∀ M1, FrM M M1 → post (bitsF (deadB e c t) (2 ^ eZ e t)) M1) : ∃ g13 : Nat, w_X10_deads_L13 post (nI t) g13 0 0 M := by
  have hV := hC.2.2.2.2.1
  have hm := hV.m
  have hz := (hV.2.2.2.2.2.2.2 t ht).2.1
  have hp := pow16 hz
  refine loop_0 (fun n i (s : Mem) => w_X10_deads_L13 post (nI t) n (bitsF (deadB e c t) i) (nI i) s) (fun i s => FrM M s) (2 ^ eZ e t) M FrM.refl ?_ ?_
  · rintro n s j1
    show w_X10_deads_L13 post _ (n + 1) _ _ s
    unfold w_X10_deads_L13
    exact m_setsOf (hC.frM j1) ht ⟨fun _ => h s j1, fun q => absurd (nI_le (Nat.le_refl _) (by omega)) q⟩
  · rintro n i s hi j1 kk
    show w_X10_deads_L13 post _ (n + 1) _ _ s
    unfold w_X10_deads_L13
    refine m_setsOf (hC.frM j1) ht ⟨fun q => absurd q (nI_ge hi (by omega)), fun _ => ?_⟩
    refine m_isSo (hC.frM j1) ht (q := 2) rfl (by omega) (VE_deadE hV hi) rfl (fun M1 hE => hE.dead hm ht (rd_eq ⟨rfl, by omega⟩) (fun k' _ hk' => rd_ne (by omega))) (fun M2 _ l2 _ => ?_)
    refine m_flag ?_
    rintro v rfl v6 rfl
    rw [nI_1, show (if seenB c (fateE c kT (deadE e t i)) = true then (1 : Int32) else 0) = if deadB e c t i = true then 1 else 0 from rfl, bits_step (by omega)]
    exact kk _ (j1.trans l2)
theorem op_deads {M : Mem} {v : Int32} (hI : INV M) : w_X9_deads v M (fun r M1 => w_X10_deads v M1 (fun r' M2 => r = r' ∧ INV M2)) := by
  obtain ⟨e, c, hC, hR⟩ := id hI
  unfold w_X9_deads
  refine c_isGroup (fun t ht hv => ?_) (fun no => ?_)
  · subst hv
    have hz := (hC.2.2.2.2.1.2.2.2.2.2.2.2 t ht).2.1
    refine ⟨fun _ => ⟨vp_in_nI ht (by omega), ?_⟩, fun q => absurd q (by decide)⟩
    rw [tnI (by omega)]
    rintro g hg
    obtain rfl : g = 1 + 6 + 2 * t := by omega
    rintro v hv
    rw [(hC.1.2.2.2.2 t ht).2.1, shl1 _ (by omega)] at hv
    subst hv
    refine c_deads hC ht (fun M1 k1 => ?_)
    unfold w_X10_deads
    refine m_isGroup (fun _ _ _ => ⟨fun _ => ?_, fun q => absurd q (by decide)⟩) (fun no => absurd rfl (no t ht))
    exact m_deads (hC.frC k1) ht (fun M2 k2 => ⟨rfl, (hI.frC k1).frM k2⟩)
  · refine ⟨fun q => absurd rfl q, fun _ => ?_⟩
    unfold w_X10_deads
    exact m_isGroup (fun t ht hv => absurd hv (no t ht)) (fun _ => ⟨fun q => absurd rfl q, fun _ => ⟨rfl, hI⟩⟩)
