/-! rule, runs, need, few -/
/-- what is asked, of n figures -/
def selR (v : Int32) (f : Nat → Int32) : Nat → Int32
  | 0 => -1
  | k + 1 => if v = nI k then f k else selR v f k
theorem selR_at {v : Int32} {f : Nat → Int32} {n k : Nat} (hn : n < 2 ^ 31) (hk : k < n) (hv : v = nI k) : selR v f n = f k := by
  induction n with
  | zero => omega
  | succ n ih =>
    simp only [selR]
    by_cases q : k = n
    · rw [if_pos (by rw [hv, q]), q]
    · rw [if_neg (fun z => q (nI_inj (by omega) (by omega) (hv.symm.trans z))), ih (by omega) (by omega)]
theorem selR_out {v : Int32} {f : Nat → Int32} {n : Nat} (h : ∀ k, k < n → v ≠ nI k) : selR v f n = -1 := by
  induction n with
  | zero => rfl
  | succ n ih => simp only [selR]; rw [if_neg (h n (by omega)), ih (fun k hk => h k (by omega))]
/-- bits -/
def bitsF (p : Nat → Bool) : Nat → Int32
  | 0 => 0
  | n + 1 => if p n = true then bitsF p n ||| ishl 1 (nI n) else bitsF p n
theorem ishl0 : ∀ n, n < 32 → ishl 0 (nI n) = 0 := by decide +kernel
theorem bits_step {p : Nat → Bool} {n : Nat} (hn : n < 32) : bitsF p n ||| ishl (if p n = true then 1 else 0) (nI n) = bitsF p (n + 1) := by
  simp only [bitsF]
  by_cases q : p n = true
  · rw [if_pos q, if_pos q]
  · rw [if_neg q, if_neg q, ishl0 n hn, Int32.or_zero]
theorem bits_t {p : Nat → Bool} {n : Nat} (q : p n = true) : bitsF p (n + 1) = bitsF p n ||| ishl 1 (nI n) := if_pos q
theorem bits_f {p : Nat → Bool} {n : Nat} (q : p n = false) : bitsF p (n + 1) = bitsF p n := if_neg (by rw [q]; decide)
theorem c_inCalls {M : Mem} {e : EX} {post : Int32 → Mem → Prop} (hM : ExC M 1 e) (hV : VE e) (h : post (bitsF (fun a => decide (eS e a ≠ 0)) (eM e)) M) : w_X1_inCalls 1 M post := by
  have hm := hV.m
  unfold w_X1_inCalls
  refine loop_0 (fun n i (s : Int32) => w_X1_inCalls_L4 1 post n s (nI i) M) (fun i s => s = bitsF (fun a => decide (eS e a ≠ 0)) i) (eM e) 0 rfl ?_ ?_
  · rintro n s rfl
    show w_X1_inCalls_L4 1 post (n + 1) _ _ M
    unfold w_X1_inCalls_L4
    rw [hM.1]
    exact ⟨fun _ => h, fun c => absurd (nI_le (Nat.le_refl _) (by omega)) c⟩
  · rintro n i s hi rfl kk
    show w_X1_inCalls_L4 1 post (n + 1) _ _ M
    unfold w_X1_inCalls_L4
    rw [hM.1, tnI (by omega), show rd M (1 + 3) i = _ from (hM.2.2.2.1 i hi).2.2.1]
    have hs := hV.2.2.2.2.1 i hi
    refine ⟨fun c => absurd c (nI_ge hi (by omega)), fun _ => ⟨vp_in_nI (by omega) (by omega), fun c => ?_, fun c => ?_⟩⟩
    · have s0 : eS e i = 0 := nI_inj (by omega) (by decide) c
      unfold w_X1_inCalls_J27
      rintro v rfl
      rw [nI_1]
      exact kk _ (bits_f (by simp [s0])).symm
    · have s0 : eS e i ≠ 0 := fun z => c (by rw [z]; rfl)
      rintro v rfl
      unfold w_X1_inCalls_J27
      rintro v rfl
      rw [nI_1]
      exact kk _ (bits_t (by simp [s0])).symm
/-- sums that wrap -/
def sumF (f : Nat → Int32) (s : Int32) : Nat → Int32
  | 0 => s
  | n + 1 => sumF f s n + f n
def usesS (e : EX) : Nat → Int32
  | 0 => 0
  | t + 1 => sumF (eU e t) (usesS e t) 4
theorem sumF_z {f : Nat → Int32} {s : Int32} {z : Nat} (h : ∀ w, z ≤ w → w < 4 → f w = 0) : ∀ k, z + k ≤ 4 → sumF f s (z + k) = sumF f s z := by
  intro k
  induction k with
  | zero => intro _; rfl
  | succ k ih =>
    intro hk
    show sumF f s (z + k) + f (z + k) = _
    rw [ih (by omega), h _ (by omega) (by omega), Int32.add_zero]
theorem c_allUses {M : Mem} {e : EX} {post : Int32 → Mem → Prop} (hM : ExC M 1 e) (hV : VE e) (h : post (usesS e 5) M) : w_X1_allUses 1 M post := by
  unfold w_X1_allUses
  refine loop_0 (fun n i (s : Int32) => w_X1_allUses_L4 1 post n s (nI i) M) (fun i s => s = usesS e i) 5 0 rfl ?_ ?_
  · rintro n s rfl
    show w_X1_allUses_L4 1 post (n + 1) _ _ M
    unfold w_X1_allUses_L4
    exact ⟨fun _ => h, fun c => absurd (nI_le (Nat.le_refl 5) (by omega)) c⟩
  · rintro n i s hi rfl kk
    show w_X1_allUses_L4 1 post (n + 1) _ _ M
    unfold w_X1_allUses_L4
    refine ⟨fun c => absurd c (nI_ge hi (by decide)), fun _ => ?_⟩
    obtain ⟨g1, g2, g3, g4, g5, g6⟩ := hM.2.2.2.2 i hi
    obtain ⟨-, hz, -, -, hu⟩ := hV.2.2.2.2.2.2.2 i hi
    refine loop_0 (fun k w (s : Int32) => w_X1_allUses_L11 1 post (w_X1_allUses_L4 1 post n) (nI i) k s (nI w) M) (fun w s => s = sumF (eU e i) (usesS e i) w) (eZ e i) _ rfl ?_ ?_
    · rintro k s rfl
      show w_X1_allUses_L11 1 post _ _ (k + 1) _ _ M
      unfold w_X1_allUses_L11
      rw [tnI (by omega)]
      refine ⟨vp_in_nI hi (by omega), ?_⟩
      rintro g hg
      obtain rfl : g = 1 + 6 + 2 * i := by omega
      rw [g2]
      refine ⟨fun _ => ?_, fun c => absurd (nI_le (Nat.le_refl _) (by omega)) c⟩
      rintro v rfl
      rw [nI_1]
      refine kk _ ?_
      have := sumF_z (f := eU e i) (s := usesS e i) hu (4 - eZ e i) (by omega)
      rw [← this, show eZ e i + (4 - eZ e i) = 4 by omega]
      rfl
    · rintro k w s hw rfl kk2
      show w_X1_allUses_L11 1 post _ _ (k + 1) _ _ M
      unfold w_X1_allUses_L11
      rw [tnI (by omega), tnI (by omega)]
      refine ⟨vp_in_nI hi (by omega), ?_⟩
      rintro g hg
      obtain rfl : g = 1 + 6 + 2 * i := by omega
      rw [g2]
      refine ⟨fun c => absurd c (nI_ge hw (by omega)), fun _ => ⟨vp_in_nI hi (by omega), ?_⟩⟩
      rintro g hg
      obtain rfl : g = 1 + 6 + 2 * i := by omega
      refine ⟨vp_in_nI (by omega) (by omega), ?_⟩
      rintro v rfl v' rfl
      rw [nI_1, g6 w (by omega)]
      exact kk2 _ rfl
theorem m_allUses {M : Mem} {e : EX} {post : Int32 → Mem → Prop} (hM : ExM (R130 M) e) (h : post (usesS e 5) M) : w_X10_allUses M post := by
  unfold w_X10_allUses
  refine loop_0 (fun n i (s : Int32) => w_X10_allUses_L4 post n s (nI i) M) (fun i s => s = sumF (fun k => rd M 130 (46 + k)) 0 i) 20 0 rfl ?_ ?_
  · rintro n s rfl
    show w_X10_allUses_L4 post (n + 1) _ _ M
    unfold w_X10_allUses_L4
    refine ⟨fun _ => ?_, fun c => absurd (nI_le (Nat.le_refl 20) (by omega)) c⟩
    have key : ∀ t, t ≤ 5 → sumF (fun k => rd M 130 (46 + k)) 0 (4 * t) = usesS e t := by
      intro t
      induction t with
      | zero => intro _; rfl
      | succ t ih =>
        intro ht
        have u := (hM.2.2.2 t (by omega)).2.2.2.2
        show (((sumF _ 0 (4 * t) + rd M 130 (46 + 4 * t)) + rd M 130 (46 + 4 * t + 1)) + rd M 130 (46 + 4 * t + 2)) + rd M 130 (46 + 4 * t + 3) = (((usesS e t + eU e t 0) + eU e t 1) + eU e t 2) + eU e t 3
        rw [ih (by omega), show rd M 130 (46 + 4 * t) = _ from u 0 (by omega), show rd M 130 (46 + 4 * t + 1) = _ from u 1 (by omega), show rd M 130 (46 + 4 * t + 2) = _ from u 2 (by omega), show rd M 130 (46 + 4 * t + 3) = _ from u 3 (by omega)]
    rw [show (20 : Nat) = 4 * 5 by rfl, key 5 (by omega)]
    exact h
  · rintro n i s hi rfl kk
    show w_X10_allUses_L4 post (n + 1) _ _ M
    unfold w_X10_allUses_L4
    rw [show (46 : Int32) + nI i = nI (46 + i) from nI_add 46 i, tnI (by omega)]
    refine ⟨fun c => absurd c (nI_ge hi (by decide)), fun _ => ⟨vp_in_nI (by omega) (by omega), ?_⟩⟩
    rintro v rfl v' rfl
    rw [nI_1]
    exact kk _ rfl
/-- rule -/
def ruleR (v : Int32) (e : EX) (c : SC) : Int32 := selR v (fun k => if k = 0 then nI (eM e) else if k = 1 then nI (eF e) else if k = 2 then nI (callsE e) else if k = 3 then nI (sA c) else if k = 4 then usesS e 5 else bitsF (fun a => decide (eS e a ≠ 0)) (eM e)) 6
theorem ruleR_out {v : Int32} {e : EX} {c : SC} (h : v.toInt < 0 ∨ 5 < v.toInt) : ruleR v e c = -1 := selR_out (fun k hk => toInt_out (n := 5) (by omega) h k hk)
theorem op_rule {M : Mem} {v : Int32} (hI : INV M) : w_X9_rule v M (fun r M1 => w_X10_rule v M1 (fun r' M2 => r = r' ∧ INV M2)) := by
  refine query (R := ruleR v) (wc := w_X9_rule v) (wm := w_X10_rule v) (fun M e c post hC h => ?_) (fun M e c post hC h => ?_) hI
  · obtain ⟨hX, -, hS, -, hV, -⟩ := hC
    have h0 := h M Fr.refl
    have at' : ∀ k, k < 6 → v = nI k → ruleR v e c = _ := fun k hk hv => selR_at (by omega) hk hv
    unfold w_X9_rule
    refine ⟨fun q => ?_, fun q => ?_, fun q => ?_, fun q => ?_, fun q => c_allUses hX hV ?_, fun q => c_inCalls hX hV ?_, fun q => ?_⟩
    · rw [hX.1]; rw [at' 0 (by omega) q] at h0; exact h0
    · rw [hX.2.1]; rw [at' 1 (by omega) q] at h0; exact h0
    · rw [hX.2.2.1]; rw [at' 2 (by omega) q] at h0; exact h0
    · rw [hS.1]; rw [at' 3 (by omega) q] at h0; exact h0
    · rw [at' 4 (by omega) q] at h0; exact h0
    · rw [at' 5 (by omega) q] at h0; exact h0
    · rw [ruleR_out q] at h0; exact h0
  · have hV := hC.2.2.2.2.1
    have hm := hV.m
    unfold w_X10_rule
    refine m_starts (fun M1 h1 h2 => ?_)
    obtain ⟨hE, hSc⟩ := hC.st h1
    have hY : ExM (R129 M1) e := hC.2.1.congr hm (fun k hk => h2.row (by omega) k)
    have hA : rd M1 129 66 = nI (sA c) := by rw [h2.row (by omega)]; exact hC.2.2.2.1.1
    have h0 := h M1 (FrM.of130 h2)
    refine loop_0 (fun n i (s : Int32) => w_X10_rule_L8 post v n s (nI i) M1) (fun i s => s = bitsF (fun a => decide (eS e a ≠ 0)) i) (eM e) 0 rfl ?_ ?_
    · rintro n s rfl
      show w_X10_rule_L8 post v (n + 1) _ _ M1
      unfold w_X10_rule_L8
      have at' : ∀ k, k < 6 → v = nI k → ruleR v e c = _ := fun k hk hv => selR_at (by omega) hk hv
      rw [show rd M1 129 24 = _ from hY.1]
      refine ⟨fun _ => ⟨fun q => ?_, fun q => ?_, fun q => m_callsNow hE hV ?_, fun q => ?_, fun q => m_allUses hE ?_, fun q => ?_, fun q => ?_⟩, fun q => absurd (nI_le (Nat.le_refl _) (by omega)) q⟩
      · rw [at' 0 (by omega) q] at h0; exact h0
      · rw [show rd M1 129 25 = _ from hY.2.1]; rw [at' 1 (by omega) q] at h0; exact h0
      · rw [at' 2 (by omega) q] at h0; exact h0
      · rw [hA]; rw [at' 3 (by omega) q] at h0; exact h0
      · rw [at' 4 (by omega) q] at h0; exact h0
      · rw [at' 5 (by omega) q] at h0; exact h0
      · rw [ruleR_out q] at h0; exact h0
    · rintro n i s hi rfl kk
      show w_X10_rule_L8 post v (n + 1) _ _ M1
      unfold w_X10_rule_L8
      rw [show rd M1 129 24 = _ from hY.1]
      have hs := hV.2.2.2.2.1 i hi
      refine ⟨fun q => absurd q (nI_ge hi (by omega)), fun _ => m_of (k := 2) rfl (by omega) ?_⟩
      rw [show rd M1 130 (4 * i + 2) = _ from (hE.2.2.1 i hi).2.2.1]
      have fin : ∀ b : Bool, b = decide (eS e i ≠ 0) → w_X10_rule_J34 post (w_X10_rule_L8 post v n) v (nI i) (bitsF (fun a => decide (eS e a ≠ 0)) i) (if b = true then 1 else 0) M1 := fun b hb => by
        unfold w_X10_rule_J34
        refine m_flag ?_
        rintro v3 rfl v4 rfl
        rw [nI_1, hb]
        exact kk _ (bits_step (by omega))
      refine ⟨fun q => ?_, fun q => ?_⟩
      · exact fin false (by rw [nI_inj (by omega) (by decide) q]; rfl)
      · exact fin true (decide_eq_true (p := eS e i ≠ 0) (fun z => q (by rw [z]; rfl))).symm
/-! what a plan comes to -/
theorem m_isLost {M : Mem} {f : Nat} {post : Int32 → Mem → Prop} (hf : f ≤ 6) (h : post (if decide (1 ≤ f ∧ f ≤ 5) = true then 1 else 0) M) : w_X10_isLost (nI f) M post := by
  unfold w_X10_isLost
  refine m_inR (l := 1) (n := 6) rfl rfl (by omega) (fun j h1 h2 e => ?_) (fun q => ?_)
  · have e1 : f = j := nI_inj (by omega) (by omega) e
    rw [show decide (1 ≤ f ∧ f ≤ 5) = true from decide_eq_true ⟨by omega, by omega⟩] at h
    exact ⟨zb_1, h⟩
  · rw [show decide (1 ≤ f ∧ f ≤ 5) = false from decide_eq_false (fun z => q f z.1 (by omega) rfl)] at h
    exact ⟨zb_0, h⟩
def runsR (v : Int32) (e : EX) (c : SC) : Int32 := selR v (fun k => if k = 0 then nI (cnt (connB c kT e) (sA c)) else if k = 1 then nI (cnt (lostB c kT e) (sA c)) else if k = 2 then oI (firstN (lostB c kT e) (sA c)) else if k = 3 then nI (callsE (runE c kT e (sA c))) else nI (cnt (passB c kT e) (sA c))) 5
theorem op_runs {M : Mem} {v : Int32} (hI : INV M) : w_X9_runs v M (fun r M1 => w_X10_runs v M1 (fun r' M2 => r = r' ∧ INV M2)) := by
  refine query (R := runsR v) (wc := w_X9_runs v) (wm := w_X10_runs v) (fun M e c post hC h => ?_) (fun M e c post hC h => ?_) hI
  · have at' : ∀ k, k < 5 → v = nI k → runsR v e c = _ := fun k hk hv => selR_at (by omega) hk hv
    unfold w_X9_runs
    refine ⟨fun q => ?_, fun q => ⟨fun q2 => ?_, fun q2 => ?_⟩⟩
    · have : runsR v e c = -1 := selR_out (fun k hk z => by rw [z] at q; exact nI_pos (by omega) q)
      rw [this] at h; exact h M Fr.refl
    · refine c_asIs hC (fun M1 k1 k2 k3 k4 => ?_)
      have h0 := h M1 k4
      obtain ⟨n1, n2, n3, n4⟩ := k3
      rw [n1, n2, n3, n4, show rd M1 23 2 = _ from k1.2.2.1]
      refine ⟨fun q => ?_, fun q => ?_, fun q => ?_, fun q => ?_, fun q3 => ?_⟩
      · rw [at' 0 (by omega) q] at h0; exact h0
      · rw [at' 1 (by omega) q] at h0; exact h0
      · rw [at' 2 (by omega) q] at h0; exact h0
      · rw [at' 3 (by omega) q] at h0; exact h0
      · obtain ⟨j, hj, rfl⟩ := nI_of q
        have j4 : ¬ 4 < j := fun z => by
          have := (nI_leI (b := 4) hj (by decide)).mp q2
          omega
        have : j = 4 := by
          rcases Nat.lt_or_ge j 4 with z | z
          · exact absurd rfl (toInt_out (n := 3) (by omega) q3 j (by omega))
          · omega
        rw [at' 4 (by omega) (by rw [this])] at h0; exact h0
    · have : runsR v e c = -1 := selR_out (fun k hk z => by rw [z] at q2; exact q2 ((nI_leI (b := 4) (by omega) (by decide)).mpr (by omega)))
      rw [this] at h; exact h M Fr.refl
  · have hV := hC.2.2.2.2.1
    have hS := hC.2.2.2.2.2
    have ha := hS.1
    unfold w_X10_runs
    refine m_inR (l := 0) (n := 5) rfl rfl (by omega) (fun j _ hj hv => ?_) (fun q => ?_)
    · refine ⟨fun _ => ?_, fun q => absurd q (by decide)⟩
      subst hv
      refine m_asIs hC (fun M1 k1 k2 k3 k4 => ?_)
      have hVr := (run_V (kp := kT) hV hS (sA c) (Nat.le_refl _)).1
      have h0 := h M1 k4
      have at' : runsR (nI j) e c = _ := selR_at (by omega) hj rfl
      rw [at'] at h0
      refine loop_0 (fun n i (s : Int32 × Int32 × Int32) => w_X10_runs_L34 post (nI j) n s.1 s.2.1 s.2.2 (nI i) M1) (fun i s => s = (nI (cnt (connB c kT e) i), oI (firstN (lostB c kT e) i), nI (cnt (passB c kT e) i))) (sA c) (0, -4, 0) rfl ?_ ?_
      · rintro n s rfl
        show w_X10_runs_L34 post (nI j) (n + 1) _ _ _ _ M1
        unfold w_X10_runs_L34
        rw [show rd M1 130 66 = _ from k2.1]
        refine ⟨fun _ => ⟨fun q => ?_, fun q => m_lostMany ha k2.1 k3 ?_, fun q => ?_, fun q => m_callsNow k1 hVr ?_, fun q => ?_⟩, fun q => absurd (nI_le (Nat.le_refl _) (by omega)) q⟩
        · obtain rfl : j = 0 := nI_inj (by omega) (by decide) q
          exact h0
        · obtain rfl : j = 1 := nI_inj (by omega) (by decide) q
          exact h0
        · obtain rfl : j = 2 := nI_inj (by omega) (by decide) q
          exact h0
        · obtain rfl : j = 3 := nI_inj (by omega) (by decide) q
          exact h0
        · have : j = 4 := by
            rcases Nat.lt_or_ge j 4 with z | z
            · exact absurd rfl (toInt_out (n := 3) (by omega) q j (by omega))
            · omega
          subst this
          exact h0
      · rintro n i s hi rfl kk
        show w_X10_runs_L34 post (nI j) (n + 1) _ _ _ _ M1
        unfold w_X10_runs_L34
        obtain ⟨f1, f2⟩ := k3 i hi
        have hd := (k2.2.2.1 i hi).2
        have hdl := hS.dl hi
        have vi : vp_in (nI i) 8 := vp_in_nI (by omega) (by omega)
        rw [show rd M1 130 66 = _ from k2.1, tnI (by omega), f1, show (67 : Int32) + 2 * nI i + 1 = nI (68 + 2 * i) by rw [show (2 : Int32) = nI 2 from rfl, show (67 : Int32) = nI 67 from rfl, pk_mul, nI_add, nI_1, show 67 + 2 * i + 1 = 68 + 2 * i by omega], tnI (by omega), show rd M1 130 (68 + 2 * i) = _ from hd]
        have fl := firstN_le (lostB c kT e) i
        have j131 : ∀ (fv : Int32) (b : Bool), fv = oI (firstN (lostB c kT e) (i + 1)) → b = decide (fateE c kT e i = 6) → w_X10_runs_J131 post (w_X10_runs_L34 post (nI j) n) (nI j) (nI (cnt (connB c kT e) (i + 1))) fv (nI i) (nI (cnt (passB c kT e) i)) (if b = true then 1 else 0) M1 := by
          rintro fv b hfv hb
          unfold w_X10_runs_J131
          refine m_flag ?_
          rintro v3 hv3 v4 rfl
          rw [nI_1]
          have e3 : v3 = nI (cnt (passB c kT e) (i + 1)) := by
            have hp : passB c kT e i = b := by rw [hb]; unfold passB; simp [kT]
            simp only [cnt]; rw [hp, hv3]
            cases b
            · exact nI_add _ 0
            · exact nI_add _ 1
          exact kk (nI (cnt (connB c kT e) (i + 1)), fv, v3) (by rw [hfv, e3])
        have j111 : ∀ fv : Int32, fv = oI (firstN (lostB c kT e) (i + 1)) → w_X10_runs_J111 post (w_X10_runs_L34 post (nI j) n) (nI j) (nI (cnt (connB c kT e) (i + 1))) (nI (cnt (passB c kT e) i)) (nI i) fv M1 := fun fv hfv => by
          unfold w_X10_runs_J111
          rw [tnI (by omega), f1]
          exact ⟨vi, fun q => j131 _ false hfv (decide_eq_false (fun z => q (by rw [z]; rfl))).symm, fun q => j131 _ true hfv (decide_eq_true (nI_inj (by omega) (by decide) q)).symm⟩
        have j81 : ∀ b : Bool, b = connB c kT e i → w_X10_runs_J81 post (w_X10_runs_L34 post (nI j) n) (nI j) (oI (firstN (lostB c kT e) i)) (nI (cnt (passB c kT e) i)) (nI i) (nI (cnt (connB c kT e) i)) (if b = true then 1 else 0) M1 := fun b hb => by
          unfold w_X10_runs_J81
          refine m_flag ?_
          rintro v7 hv7
          have e7 : v7 = nI (cnt (connB c kT e) (i + 1)) := by
            simp only [cnt]; rw [← hb, hv7]
            cases b
            · exact nI_add _ 0
            · exact nI_add _ 1
          subst e7
          rw [tnI (by omega), f1]
          unfold w_X10_runs_J110
          refine ⟨fun q => ?_, fun q => ⟨vi, m_isLost f2 ⟨fun q2 => ?_, fun q2 => ?_⟩⟩⟩
          · refine j111 _ ?_
            simp only [firstN]; rw [if_pos (fun z => q (by rw [z]; rfl))]
          · refine j111 _ ?_
            have z0 := (oI_4 (by omega)).mp q
            have : ¬ lostB c kT e i = true := fun z => by
              unfold lostB at z; rw [z] at q2; exact absurd q2 (by decide)
            simp only [firstN]; rw [if_neg (by omega), if_neg this, z0]
          · refine j111 _ ?_
            have z0 := (oI_4 (by omega)).mp q
            have : lostB c kT e i = true := by
              by_cases z : lostB c kT e i = true
              · exact z
              · unfold lostB at z; rw [if_neg z] at q2; exact absurd rfl q2
            simp only [firstN]; rw [if_neg (by omega), if_pos this, oI_s]
        refine ⟨fun q => absurd q (nI_ge hi (by omega)), fun _ => ⟨vi, fun q => ?_, fun q => ⟨vp_in_nI (by omega) (by omega), fun q2 => ?_, fun q2 => ?_⟩⟩⟩
        · unfold w_X10_runs_J80
          exact j81 false (decide_eq_false (fun z => q (by rw [z.1]; rfl))).symm
        · unfold w_X10_runs_J80
          exact j81 false (decide_eq_false (fun z => z.2 (nI_inj (by omega) (by decide) q2))).symm
        · exact j81 true (decide_eq_true ⟨nI_inj (by omega) (by decide) q, fun z => q2 (by rw [z]; rfl)⟩).symm
    · have : runsR v e c = -1 := selR_out (fun k hk => q k (by omega) hk)
      rw [this] at h
      exact ⟨fun q => absurd rfl q, fun _ => h M FrM.refl⟩
/-! the first that will do -/
theorem firstN_stay {p : Nat → Bool} {n k : Nat} (h : firstN p n = k + 1) : ∀ m, firstN p (n + m) = k + 1 := by
  intro m
  induction m with
  | zero => exact h
  | succ m ih => show (if firstN p (n + m) ≠ 0 then firstN p (n + m) else _) = _; rw [ih, if_pos (by omega)]
theorem firstN_at {p : Nat → Bool} {n m : Nat} (h : firstN p n = 0) (hp : p n = true) (hn : n < m) : oI (firstN p m) = nI n := by
  have h1 : firstN p (n + 1) = n + 1 := by simp only [firstN]; rw [if_neg (by omega), if_pos hp]
  have := firstN_stay h1 (m - (n + 1))
  rw [show n + 1 + (m - (n + 1)) = m by omega] at this
  rw [this, oI_s]
theorem firstN_no {p : Nat → Bool} {n : Nat} (h : firstN p n = 0) (hp : p n = false) : firstN p (n + 1) = 0 := by
  simp only [firstN]; rw [if_neg (by omega), if_neg (by rw [hp]; decide)]
theorem firstN_0 {p : Nat → Bool} {n : Nat} (h : ∀ i, i < n → p i = false) : firstN p n = 0 := by
  induction n with
  | zero => rfl
  | succ n ih => exact firstN_no (ih (fun i hi => h i (by omega))) (h n (by omega))
theorem m_isLostBy {M : Mem} {c : SC} {m o k : Nat} {f : Nat → Nat} {l2 : Int32} {post : Int32 → Mem → Prop} (hS : ScM (R130 M) c) (hVS : VS m c) (ho : o < 10) (hl2 : l2 = oI o) (hk : k < 10) (hf : ∀ i, i < sA c → rd M 134 i = nI (f i) ∧ f i ≤ 6) (h : post (if anyB (fun i => decide (f i = k ∧ (o = 0 ∨ sD c i / 10 + 1 = o))) (sA c) = true then 1 else 0) M) : w_X10_isLostBy (nI k) l2 M post := by
  have ha := hVS.1
  subst hl2
  unfold w_X10_isLostBy
  refine loop_0 (fun n i (s : Bool) => w_X10_isLostBy_L5 post (nI k) (oI o) n (if s = true then 1 else 0) (nI i) M) (fun i s => s = anyB (fun i => decide (f i = k ∧ (o = 0 ∨ sD c i / 10 + 1 = o))) i) (sA c) false rfl ?_ ?_
  · rintro n s rfl
    show w_X10_isLostBy_L5 post (nI k) (oI o) (n + 1) _ _ M
    unfold w_X10_isLostBy_L5
    rw [show rd M 130 66 = _ from hS.1]
    refine ⟨fun _ => ⟨?_, h⟩, fun q => absurd (nI_le (Nat.le_refl _) (by omega)) q⟩
    split
    · exact zb_1
    · exact zb_0
  · rintro n i s hi rfl kk
    show w_X10_isLostBy_L5 post (nI k) (oI o) (n + 1) _ _ M
    unfold w_X10_isLostBy_L5
    obtain ⟨f1, f2⟩ := hf i hi
    have hdl := hVS.dl hi
    have hd := (hS.2.2.1 i hi).2
    rw [show rd M 130 66 = _ from hS.1, tnI (by omega), f1, show (67 : Int32) + 2 * nI i + 1 = nI (68 + 2 * i) by rw [show (2 : Int32) = nI 2 from rfl, show (67 : Int32) = nI 67 from rfl, pk_mul, nI_add, nI_1, show 67 + 2 * i + 1 = 68 + 2 * i by omega], tnI (by omega), show rd M 130 (68 + 2 * i) = _ from hd, nI_div (by omega)]
    have fin : ∀ b : Bool, b = anyB (fun i => decide (f i = k ∧ (o = 0 ∨ sD c i / 10 + 1 = o))) (i + 1) → w_X10_isLostBy_J64 post (w_X10_isLostBy_L5 post (nI k) (oI o) n) (nI k) (oI o) (nI i) (if b = true then 1 else 0) M := fun b hb => by
      unfold w_X10_isLostBy_J64
      rintro v rfl
      rw [nI_1]
      exact kk b hb
    refine ⟨fun q => absurd q (nI_ge hi (by omega)), fun _ => ⟨fun q => ?_, fun q => ⟨vp_in_nI (by omega) (by omega), fun q2 => ?_, fun q2 => ⟨fun q3 => ?_, fun q3 => ⟨vp_in_nI (by omega) (by omega), fun q4 => ?_, fun q4 => ?_⟩⟩⟩⟩⟩
    · refine fin true ?_
      have : anyB (fun i => decide (f i = k ∧ (o = 0 ∨ sD c i / 10 + 1 = o))) i = true := by
        by_cases z : anyB (fun i => decide (f i = k ∧ (o = 0 ∨ sD c i / 10 + 1 = o))) i = true
        · exact z
        · rw [if_neg z] at q; exact absurd rfl q
      simp only [anyB]; rw [this]; rfl
    · refine fin false ?_
      have : anyB (fun i => decide (f i = k ∧ (o = 0 ∨ sD c i / 10 + 1 = o))) i = false := by
        cases z : anyB (fun i => decide (f i = k ∧ (o = 0 ∨ sD c i / 10 + 1 = o))) i with
        | false => rfl
        | true => rw [z] at q; exact absurd q (by decide)
      simp only [anyB]; rw [this, decide_eq_false (fun z => q2 (by rw [z.1]))]; rfl
    · refine fin true ?_
      simp only [anyB]; rw [decide_eq_true ⟨nI_inj (by omega) (by omega) q2, Or.inl ((oI_4 (by omega)).mp q3)⟩]; simp
    · refine fin false ?_
      have : anyB (fun i => decide (f i = k ∧ (o = 0 ∨ sD c i / 10 + 1 = o))) i = false := by
        cases z : anyB (fun i => decide (f i = k ∧ (o = 0 ∨ sD c i / 10 + 1 = o))) i with
        | false => rfl
        | true => rw [z] at q; exact absurd q (by decide)
      simp only [anyB]; rw [this, decide_eq_false (fun z => ?_)]; rfl
      rcases z.2 with y | y
      · exact q3 (by rw [y]; rfl)
      · exact q4 (by rw [← y, oI_s])
    · refine fin true ?_
      have o0 : o ≠ 0 := fun z => q3 (by rw [z]; rfl)
      obtain ⟨t, rfl⟩ : ∃ t, o = t + 1 := ⟨o - 1, by omega⟩
      rw [oI_s] at q4
      have := nI_inj (by omega) (by omega) q4
      simp only [anyB]; rw [decide_eq_true ⟨nI_inj (by omega) (by omega) q2, Or.inr (by rw [this])⟩]; simp
def needB (t : Nat) (e : EX) (c : SC) (n : Nat) : Bool := decide (heldE e t < 2 ^ n) && !anyB (fun i => decide (fateE c kT (sizeE e t n) i = 2 ∧ sD c i / 10 = t)) (sA c)
theorem c_need {M : Mem} {e : EX} {c : SC} {t : Nat} {post : Int32 → Mem → Prop} (hC : CoreP M e c) (ht : t < 5) (h : ∀ M1, Fr 22 50 M M1 → post (oI (firstN (needB t e c) 5)) M1) : ∃ g11 : Nat, w_X9_need_L11 post (nI t) g11 0 M := by
  have hV := hC.2.2.2.2.1
  refine loop_0 (fun n i (s : Mem) => w_X9_need_L11 post (nI t) n (nI i) s) (fun i s => Fr 22 50 M s ∧ firstN (needB t e c) i = 0) 5 M ⟨Fr.refl, rfl⟩ ?_ ?_
  · rintro n s ⟨k1, k2⟩
    show w_X9_need_L11 post _ (n + 1) _ s
    unfold w_X9_need_L11
    refine ⟨fun _ => ?_, fun q => absurd (nI_lt (a := 4) (b := 5) (by omega) (by decide)) q⟩
    have := h s k1
    rw [k2] at this
    exact this
  · rintro n i s hi ⟨k1, k2⟩ kk
    show w_X9_need_L11 post _ (n + 1) _ s
    unfold w_X9_need_L11
    have hCs := hC.frC k1
    obtain ⟨hX, -, hSc, -, -, hS⟩ := id hCs
    rw [tnI (by omega)]
    have go : ∀ s', Fr 22 50 M s' → needB t e c i = false → w_X9_need_J93 post (w_X9_need_L11 post (nI t) n) (nI t) (nI i) s' := fun s' j1 j2 => by
      unfold w_X9_need_J93
      rintro v rfl
      rw [nI_1]
      exact kk s' ⟨j1, firstN_no k2 j2⟩
    refine ⟨fun q => absurd q (nI_nlt (a := 4) (b := i) (by omega) (by decide)), fun _ => ⟨vp_in_nI ht (by omega), ?_⟩⟩
    rintro g hg
    obtain rfl : g = 1 + 6 + 2 * t := by omega
    refine c_isFreeFrom hV ht (hX.2.2.2.2 t ht).2.2.2.1 hi ⟨fun q => ?_, fun q => ?_⟩
    · refine go s k1 ?_
      have : ¬ heldE e t < 2 ^ i := fun z => by rw [if_pos z] at q; exact absurd q (by decide)
      unfold needB; rw [decide_eq_false this]; rfl
    · have hh : heldE e t < 2 ^ i := by
        by_cases z : heldE e t < 2 ^ i
        · exact z
        · rw [if_neg z] at q; exact absurd rfl q
      have hV1 := VE_sizeE hV ht (n := i) (by omega) hh
      refine c1_copyFrom hX hV (by omega) (fun M1 j1 j2 => ⟨vp_in_nI ht (by omega), ?_⟩)
      rintro g hg
      obtain rfl : g = 23 + 6 + 2 * t := by omega
      refine c_resize j1 hV ht (by omega) rfl (fun M2 j3 j4 => ?_)
      have f2 : Fr 22 50 s M2 := (j2.sub (by omega)).trans (j4.sub (by omega))
      refine c_goes j3 (hSc.fr f2 (by omega)) hV1 hS (fun M3 l1 l2 l3 l4 => ?_)
      have f3 := k1.trans (f2.trans (l4.sub (by omega)))
      refine c_wantedWayOf (f := fateE c kT (sizeE e t i)) ((hC.frC f3).2.2.1) hS (by omega) l2 ⟨fun q => ?_, fun q => ?_⟩
      · refine go M3 f3 ?_
        have : anyB (fun j => decide (fateE c kT (sizeE e t i) j = 2 ∧ sD c j / 10 = t)) (sA c) = true := by
          by_cases z : anyB (fun j => decide (fateE c kT (sizeE e t i) j = 2 ∧ sD c j / 10 = t)) (sA c) = true
          · exact z
          · rw [if_neg z] at q; exact absurd rfl q
        unfold needB; rw [this]; simp
      · have : anyB (fun j => decide (fateE c kT (sizeE e t i) j = 2 ∧ sD c j / 10 = t)) (sA c) = false := by
          cases z : anyB (fun j => decide (fateE c kT (sizeE e t i) j = 2 ∧ sD c j / 10 = t)) (sA c) with
          | false => rfl
          | true => rw [z] at q; exact absurd q (by decide)
        have h9 := h M3 f3
        rw [firstN_at k2 (by unfold needB; rw [this, decide_eq_true hh]; rfl) hi] at h9
        exact h9
theorem anyB_congr {p q : Nat → Bool} {n : Nat} (h : ∀ i, i < n → p i = q i) : anyB p n = anyB q n := by
  induction n with
  | zero => rfl
  | succ n ih => simp only [anyB]; rw [ih (fun i hi => h i (by omega)), h n (by omega)]
theorem m_need {M : Mem} {e : EX} {c : SC} {t : Nat} {post : Int32 → Mem → Prop} (hC : CoreP M e c) (ht : t < 5) (h : ∀ M1, FrM M M1 → post (oI (firstN (needB t e c) 5)) M1) : ∃ g11 : Nat, w_X10_need_L11 post (nI t) g11 0 M := by
  have hV := hC.2.2.2.2.1
  have hS := hC.2.2.2.2.2
  refine loop_0 (fun n i (s : Mem) => w_X10_need_L11 post (nI t) n (nI i) s) (fun i s => FrM M s ∧ firstN (needB t e c) i = 0) 5 M ⟨FrM.refl, rfl⟩ ?_ ?_
  · rintro n s ⟨k1, k2⟩
    show w_X10_need_L11 post _ (n + 1) _ s
    unfold w_X10_need_L11
    refine ⟨fun _ => ?_, fun q => absurd (nI_lt (a := 4) (b := 5) (by omega) (by decide)) q⟩
    have := h s k1
    rw [k2] at this
    exact this
  · rintro n i s hi ⟨k1, k2⟩ kk
    show w_X10_need_L11 post _ (n + 1) _ s
    unfold w_X10_need_L11
    have hCs := hC.frM k1
    have go : ∀ s', FrM M s' → needB t e c i = false → w_X10_need_J52 post (w_X10_need_L11 post (nI t) n) (nI t) (nI i) s' := fun s' j1 j2 => by
      unfold w_X10_need_J52
      rintro v rfl
      rw [nI_1]
      exact kk s' ⟨j1, firstN_no k2 j2⟩
    refine ⟨fun q => absurd q (nI_nlt (a := 4) (b := i) (by omega) (by decide)), fun _ => m_starts (fun M1 j1 j2 => ?_)⟩
    obtain ⟨hE, hSc⟩ := hCs.st j1
    have f1 := k1.trans (FrM.of130 j2)
    refine m_held hE hV ht ?_
    have h16 := heldE_16 hV ht
    rw [shr16 _ h16 _ hi]
    have hlt : heldE e t / 2 ^ i < 2 ^ 31 := Nat.lt_of_le_of_lt (Nat.div_le_self _ _) (by omega)
    refine ⟨fun q => ?_, fun q => ?_⟩
    · refine go M1 f1 ?_
      have : ¬ heldE e t < 2 ^ i := fun z => q (by rw [Nat.div_eq_of_lt z]; rfl)
      unfold needB; rw [decide_eq_false this]; rfl
    · have hh : heldE e t < 2 ^ i := by
        have z := nI_inj (b := 0) hlt (by decide) q
        rcases Nat.lt_or_ge (heldE e t) (2 ^ i) with y | y
        · exact y
        · have : 0 < heldE e t / 2 ^ i := Nat.div_pos y (Nat.two_pow_pos i)
          omega
      have hV1 := VE_sizeE hV ht (n := i) (by omega) hh
      refine m_hasWays hE hV ht (by omega) (fun M2 j3 j4 => ?_)
      refine m_goes j3 (hSc.frN ⟨hS.1, hS.2.1⟩ j4) hV1 hS (fun M3 l1 l2 l3 l4 => ?_)
      have f3 := (f1.trans (FrM.of130 j4.1)).trans l4
      refine m_isLostBy (k := 2) (o := t + 1) (f := fateE c kT (sizeE e t i)) l2 hS (by omega) rfl (by omega) l3 ?_
      have cg : anyB (fun j => decide (fateE c kT (sizeE e t i) j = 2 ∧ (t + 1 = 0 ∨ sD c j / 10 + 1 = t + 1))) (sA c) = anyB (fun j => decide (fateE c kT (sizeE e t i) j = 2 ∧ sD c j / 10 = t)) (sA c) := anyB_congr (fun j _ => by
        congr 1
        rw [eq_iff_iff]
        constructor
        · rintro ⟨z1, z2⟩; exact ⟨z1, by omega⟩
        · rintro ⟨z1, z2⟩; exact ⟨z1, by omega⟩)
      rw [cg]
      refine ⟨fun q => ?_, fun q => ?_⟩
      · refine go M3 f3 ?_
        have : anyB (fun j => decide (fateE c kT (sizeE e t i) j = 2 ∧ sD c j / 10 = t)) (sA c) = true := by
          by_cases z : anyB (fun j => decide (fateE c kT (sizeE e t i) j = 2 ∧ sD c j / 10 = t)) (sA c) = true
          · exact z
          · rw [if_neg z] at q; exact absurd rfl q
        unfold needB; rw [this]; simp
      · have : anyB (fun j => decide (fateE c kT (sizeE e t i) j = 2 ∧ sD c j / 10 = t)) (sA c) = false := by
          cases z : anyB (fun j => decide (fateE c kT (sizeE e t i) j = 2 ∧ sD c j / 10 = t)) (sA c) with
          | false => rfl
          | true => rw [z] at q; exact absurd q (by decide)
        have h9 := h M3 f3
        rw [firstN_at k2 (by unfold needB; rw [this, decide_eq_true hh]; rfl) hi] at h9
        exact h9
theorem op_need {M : Mem} {v : Int32} (hI : INV M) : w_X9_need v M (fun r M1 => w_X10_need v M1 (fun r' M2 => r = r' ∧ INV M2)) := by
  obtain ⟨e, c, hC, hR⟩ := id hI
  unfold w_X9_need
  refine c_isGroup (fun t ht hv => ?_) (fun no => ?_)
  · subst hv
    refine ⟨fun _ => ?_, fun q => absurd q (by decide)⟩
    refine c_need hC ht (fun M1 k1 => ?_)
    unfold w_X10_need
    refine m_isGroup (fun _ _ _ => ⟨fun _ => ?_, fun q => absurd q (by decide)⟩) (fun no => absurd rfl (no t ht))
    exact m_need (hC.frC k1) ht (fun M2 k2 => ⟨rfl, (hI.frC k1).frM k2⟩)
  · refine ⟨fun q => absurd rfl q, fun _ => ?_⟩
    unfold w_X10_need
    exact m_isGroup (fun t ht hv => absurd hv (no t ht)) (fun _ => ⟨fun q => absurd rfl q, fun _ => ⟨rfl, hI⟩⟩)
