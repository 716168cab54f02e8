/-! ask, drift, count -/
def talN (e : EX) (c : SC) (t D i f : Nat) : Nat := cnt (fun d => deadB e c t d && decide (fateE c kT (deadE e t d) i = f)) D
def maxF (g : Nat → Nat) : Nat → Nat
  | 0 => 0
  | n + 1 => if maxF g n < g n then g n else maxF g n
theorem maxF_le {g : Nat → Nat} {b : Nat} (h : ∀ i, g i ≤ b) : ∀ n, maxF g n ≤ b := by
  intro n
  induction n with
  | zero => exact Nat.zero_le _
  | succ n ih => simp only [maxF]; split; exact h n; exact ih
def askB (e : EX) (c : SC) (t : Nat) : Nat → BS
  | 0 => (0, cnt (deadB e c t) (2 ^ eZ e t))
  | i + 1 => offB (askB e c t i) i (maxF (talN e c t (2 ^ eZ e t) i) 7)
theorem tal_t {e : EX} {c : SC} {t D i f : Nat} (h : deadB e c t D = true) : talN e c t (D + 1) i f = talN e c t D i f + if fateE c kT (deadE e t D) i = f then 1 else 0 := by
  unfold talN
  simp only [cnt, h, Bool.true_and]
  by_cases q : fateE c kT (deadE e t D) i = f
  · rw [decide_eq_true q, if_pos rfl, if_pos q]
  · rw [decide_eq_false q, if_neg (by decide), if_neg q]
theorem tal_f {e : EX} {c : SC} {t D i f : Nat} (h : deadB e c t D = false) : talN e c t (D + 1) i f = talN e c t D i f := by
  unfold talN
  simp only [cnt, h, Bool.false_and]
  rfl
theorem tal_le {e : EX} {c : SC} {t D i f : Nat} : talN e c t D i f ≤ D := cnt_le _ _
def TalC (M : Mem) (e : EX) (c : SC) (t D : Nat) : Prop := ∀ i, i < sA c → ∀ f, f < 7 → rd M (42 + i) f = nI (talN e c t D i f)
def TalM (M : Mem) (e : EX) (c : SC) (t D : Nat) : Prop := ∀ i, i < sA c → ∀ f, f < 7 → rd M 135 (7 * i + f) = nI (talN e c t D i f)
theorem c_clearTally {M : Mem} {post : Mem → Prop} (h : ∀ M', (∀ i, i < 8 → ∀ f, f < 7 → rd M' (42 + i) f = 0) → Fr 42 50 M M' → post M') : w_X9_clearTally M post := by
  unfold w_X9_clearTally
  refine loop_0 (fun n i (s : Mem) => w_X9_clearTally_L2 post n (nI i) s) (fun i s => (∀ j, j < i → ∀ f, f < 7 → rd s (42 + j) f = 0) ∧ Fr 42 50 M s) 8 M ⟨fun j hj => by omega, Fr.refl⟩ ?_ ?_
  · rintro n s ⟨h1, h2⟩
    show w_X9_clearTally_L2 post (n + 1) _ s
    unfold w_X9_clearTally_L2
    exact ⟨fun _ => h s h1 h2, fun q => absurd (nI_le (a := 8) (Nat.le_refl _) (by decide)) q⟩
  · rintro n i s hi ⟨h1, h2⟩ kk
    show w_X9_clearTally_L2 post (n + 1) _ s
    unfold w_X9_clearTally_L2
    refine ⟨fun q => absurd q (nI_ge (b := 8) hi (by decide)), fun _ => ?_⟩
    refine loop_0 (fun n' f (s : Mem) => w_X9_clearTally_L10 post (w_X9_clearTally_L2 post n) (nI i) n' (nI f) s) (fun f s => (∀ j, j < i → ∀ f, f < 7 → rd s (42 + j) f = 0) ∧ (∀ g, g < f → rd s (42 + i) g = 0) ∧ Fr 42 50 M s) 7 s ⟨h1, fun g hg => by omega, h2⟩ ?_ ?_
    · rintro n' s ⟨h1, h3, h2⟩
      show w_X9_clearTally_L10 post _ _ (n' + 1) _ s
      unfold w_X9_clearTally_L10
      refine ⟨fun _ => ?_, fun q => absurd (nI_lt (a := 6) (b := 7) (by omega) (by decide)) q⟩
      rintro v rfl
      rw [nI_1]
      refine kk s ⟨fun j hj f hf => ?_, h2⟩
      by_cases q : j = i
      · rw [q]; exact h3 f hf
      · exact h1 j (by omega) f hf
    · rintro n' f s hf ⟨h1, h3, h2⟩ kk2
      show w_X9_clearTally_L10 post _ _ (n' + 1) _ s
      unfold w_X9_clearTally_L10
      rw [tnI (by omega), tnI (by omega)]
      refine ⟨fun q => absurd q (nI_nlt (a := 6) (b := f) (by omega) (by decide)), fun _ => ⟨vp_in_nI hi (by omega), ?_⟩⟩
      rintro g rfl
      refine ⟨vp_in_nI hf (by omega), ?_⟩
      rintro M3 rfl v rfl
      rw [nI_1]
      refine kk2 _ ⟨fun j hj f' hf' => ?_, fun g hg => ?_, h2.trans (Fr.wr (by omega))⟩
      · rw [rd_ne (by omega)]; exact h1 j hj f' hf'
      · by_cases q : g = f
        · rw [rd_eq ⟨by omega, q⟩]
        · rw [rd_ne (by omega)]; exact h3 g (by omega)
theorem c_tallyFates {M : Mem} {e : EX} {c : SC} {t D m : Nat} {post : Mem → Prop} (hS : ScC M 17 c) (hVS : VS m c) (hf : ∀ i, i < sA c → rd M 39 i = nI (fateE c kT (deadE e t D) i)) (hd : deadB e c t D = true) (hT : TalC M e c t D) (h : ∀ M', TalC M' e c t (D + 1) → Fr 42 50 M M' → post M') : w_X9_tallyFates M post := by
  have ha := hVS.1
  unfold w_X9_tallyFates
  refine loop_0 (fun n i (s : Mem) => w_X9_tallyFates_L2 post n (nI i) s) (fun i s => (∀ j, j < sA c → ∀ f, f < 7 → rd s (42 + j) f = nI (if j < i then talN e c t (D + 1) j f else talN e c t D j f)) ∧ Fr 42 50 M s) (sA c) M ⟨fun j hj f hf => by rw [if_neg (by omega)]; exact hT j hj f hf, Fr.refl⟩ ?_ ?_
  · rintro n s ⟨h1, h2⟩
    show w_X9_tallyFates_L2 post (n + 1) _ s
    unfold w_X9_tallyFates_L2
    rw [(hS.fr h2 (by omega)).1]
    refine ⟨fun _ => h s (fun i hi f hf => ?_) h2, fun q => absurd (nI_le (Nat.le_refl _) (by omega)) q⟩
    rw [h1 i hi f hf, if_pos hi]
  · rintro n i s hi ⟨h1, h2⟩ kk
    show w_X9_tallyFates_L2 post (n + 1) _ s
    unfold w_X9_tallyFates_L2
    have f6 := fate_6 (c := c) (kp := kT) (e := deadE e t D) (i := i)
    rw [(hS.fr h2 (by omega)).1, tnI (by omega), h2.row (by omega), hf i hi, tnI (by omega)]
    have vi : vp_in (nI i) 8 := vp_in_nI (by omega) (by omega)
    have vf : vp_in (nI (fateE c kT (deadE e t D) i)) 7 := vp_in_nI (by omega) (by omega)
    refine ⟨fun q => absurd q (nI_ge hi (by omega)), fun _ => ⟨vi, ?_⟩⟩
    rintro g rfl
    refine ⟨vi, vf, vf, ?_⟩
    rintro M2 rfl v rfl
    rw [nI_1]
    refine kk _ ⟨fun j hj f hf => ?_, h2.trans (Fr.wr (by omega))⟩
    by_cases q : j = i
    · subst q
      rw [if_pos (by omega), tal_t hd]
      by_cases q2 : f = fateE c kT (deadE e t D) j
      · rw [rd_eq ⟨rfl, q2⟩, if_pos q2.symm, h1 j hj _ (by omega), if_neg (by omega), nI_1, q2]
      · rw [rd_ne (by omega), if_neg (fun z => q2 z.symm), h1 j hj f hf, if_neg (by omega)]
        rfl
    · rw [rd_ne (by omega), h1 j hj f hf]
      by_cases q2 : j < i
      · rw [if_pos q2, if_pos (by omega)]
      · rw [if_neg q2, if_neg (by omega)]
theorem c_most {M : Mem} {i : Nat} {g : Nat → Nat} {post : Int32 → Mem → Prop} (hi : i < 8) (hg : ∀ f, f < 7 → rd M (42 + i) f = nI (g f)) (hb : ∀ f, g f ≤ 16) (h : post (nI (maxF g 7)) M) : w_X9_mostTallied (nI i) M post := by
  unfold w_X9_mostTallied
  refine loop_0 (fun n f (s : Nat) => w_X9_mostTallied_L4 post (nI i) n (nI s) (nI f) M) (fun f s => s = maxF g f) 7 0 rfl ?_ ?_
  · rintro n s rfl
    show w_X9_mostTallied_L4 post _ (n + 1) _ _ M
    unfold w_X9_mostTallied_L4
    exact ⟨fun _ => h, fun q => absurd (nI_lt (a := 6) (b := 7) (by omega) (by decide)) q⟩
  · rintro n f s hf rfl kk
    show w_X9_mostTallied_L4 post _ (n + 1) _ _ M
    unfold w_X9_mostTallied_L4
    rw [tnI (by omega), tnI (by omega)]
    have hb1 := hb f
    have hb2 := maxF_le hb f
    refine ⟨fun q => absurd q (nI_nlt (a := 6) (b := f) (by omega) (by decide)), fun _ => ⟨vp_in_nI hi (by omega), ?_⟩⟩
    rintro g' rfl
    refine ⟨vp_in_nI hf (by omega), ?_⟩
    rw [hg f hf]
    rintro v hv v3 rfl
    rw [nI_1]
    have : v = nI (maxF g (f + 1)) := by
      rw [hv]; simp only [maxF]
      by_cases q : maxF g f < g f
      · rw [if_pos q, if_pos (nI_lt q (by omega))]
      · rw [if_neg q, if_neg (nI_nlt (by omega) (by omega))]
    rw [this]
    exact kk _ rfl
theorem c_ask {M : Mem} {e : EX} {c : SC} {t k : Nat} {post : Int32 → Mem → Prop} (hC : CoreP M e c) (ht : t < 5) (hk : k < 2) (h : ∀ M1, Fr 22 50 M M1 → post (tellB (askB e c t (sA c)) k) M1) : w_X9_clearTally M (fun M18 => vp_in (nI t) 5 ∧ (∀ g19 : Nat, g19 = 6 + 1 + 2 * (nI t).toNatClampNeg → ∀ v20 : Int32, v20 = (ishl 1 (rd M18 g19 1)) → ∃ g41 : Nat, w_X9_ask_L41 post (nI t) (nI k) v20 g41 0 0 M18)) := by
  have hV := hC.2.2.2.2.1
  have hS := hC.2.2.2.2.2
  have ha := hS.1
  have hz := (hV.2.2.2.2.2.2.2 t ht).2.1
  have hp := pow16 hz
  refine c_clearTally (fun M0 h1 h2 => ⟨vp_in_nI ht (by omega), ?_⟩)
  rw [tnI (by omega)]
  rintro g hg
  obtain rfl : g = 1 + 6 + 2 * t := by omega
  rintro v hv
  have f0 : Fr 22 50 M M0 := h2.sub (by omega)
  rw [((hC.frC f0).1.2.2.2.2 t ht).2.1, shl1 _ (by omega)] at hv
  subst hv
  refine loop_0 (fun n d (s : Nat × Mem) => w_X9_ask_L41 post (nI t) (nI k) (nI (2 ^ eZ e t)) n (nI s.1) (nI d) s.2) (fun d s => s.1 = cnt (deadB e c t) d ∧ Fr 22 50 M s.2 ∧ TalC s.2 e c t d) (2 ^ eZ e t) (0, M0) ⟨rfl, f0, fun i hi f hf => h1 i (by omega) f hf⟩ ?_ ?_
  · rintro n ⟨s0, s⟩ ⟨j0, j1, j2⟩
    change s0 = _ at j0
    change Fr 22 50 M s at j1
    change TalC s e c t _ at j2
    subst j0
    show w_X9_ask_L41 post _ _ _ (n + 1) _ _ s
    unfold w_X9_ask_L41
    refine ⟨fun _ => ?_, fun q => absurd (nI_le (Nat.le_refl _) (by omega)) q⟩
    have hcn := cnt_le (deadB e c t) (2 ^ eZ e t)
    refine c_begin (by omega) (fun M1 a1 a2 => ?_)
    refine loop_0 (fun n i (s : Mem) => w_X9_ask_L93 post (nI k) n (nI i) s) (fun i s' => Fr 40 41 s s' ∧ BestC s' (askB e c t i)) (sA c) M1 ⟨a2, a1⟩ ?_ ?_
    · rintro n s' ⟨i1, i2⟩
      show w_X9_ask_L93 post _ (n + 1) _ s'
      unfold w_X9_ask_L93
      have fs : Fr 22 50 M s' := j1.trans (i1.sub (by omega))
      rw [(hC.frC fs).2.2.1.1]
      exact ⟨fun _ => c_told i2 hk (h s' fs), fun q => absurd (nI_le (Nat.le_refl _) (by omega)) q⟩
    · rintro n i s' hi ⟨i1, i2⟩ kk
      show w_X9_ask_L93 post _ (n + 1) _ s'
      unfold w_X9_ask_L93
      have fs : Fr 22 50 M s' := j1.trans (i1.sub (by omega))
      rw [(hC.frC fs).2.2.1.1]
      refine ⟨fun q => absurd q (nI_ge hi (by omega)), fun _ => ?_⟩
      have hb : ∀ f, talN e c t (2 ^ eZ e t) i f ≤ 16 := fun f => Nat.le_trans tal_le hp
      refine c_most (g := talN e c t (2 ^ eZ e t) i) (by omega) (fun f hf => by rw [i1.row (by omega)]; exact j2 i hi f hf) hb ?_
      refine c_offer i2 (by omega) (by have := maxF_le hb 7; omega) (fun M2 b1 b2 => ?_)
      rintro v rfl
      rw [nI_1]
      exact kk _ ⟨i1.trans b2, b1⟩
  · rintro n d ⟨s0, s⟩ hd ⟨j0, j1, j2⟩ kk
    change s0 = _ at j0
    change Fr 22 50 M s at j1
    change TalC s e c t d at j2
    subst j0
    show w_X9_ask_L41 post _ _ _ (n + 1) _ _ s
    unfold w_X9_ask_L41
    have hCs := hC.frC j1
    refine ⟨fun q => absurd q (nI_ge hd (by omega)), fun _ => ?_⟩
    refine c_deadTried hCs ht (fun M2 a1 a2 => ?_)
    refine c_goes a1 (hCs.2.2.1.fr a2 (by omega)) (VE_deadE hV hd) hS (fun M3 l1 l2 l3 l4 => ?_)
    have f13 : Fr 22 40 s M3 := (a2.sub (by omega)).trans (l4.sub (by omega))
    have f3 : Fr 22 50 M M3 := j1.trans (f13.sub (by omega))
    have hT3 : TalC M3 e c t d := fun i hi f hf => by rw [f13.row (by omega)]; exact j2 i hi f hf
    refine c_isAsSeen (f := fateE c kT (deadE e t d)) ((hC.frC f3).2.2.1) hS l2 ⟨fun q => ?_, fun q => ?_⟩
    · have hb := b2n q
      unfold w_X9_ask_J76
      rintro v rfl
      rw [nI_1]
      refine kk (cnt (deadB e c t) d, M3) ⟨?_, f3, fun i hi f hf => ?_⟩
      · show cnt (deadB e c t) d = cnt (deadB e c t) (d + 1)
        simp only [cnt]; rw [show deadB e c t d = false from hb]; rfl
      · show rd M3 (42 + i) f = _
        rw [tal_f hb]; exact hT3 i hi f hf
    · have hb := b2y q
      rintro v rfl
      rw [nI_1]
      refine c_tallyFates ((hC.frC f3).2.2.1) hS (fun i hi => (l2 i hi).1) hb hT3 (fun M4 b1 b2 => ?_)
      unfold w_X9_ask_J76
      rintro v rfl
      rw [nI_1]
      refine kk (cnt (deadB e c t) d + 1, M4) ⟨?_, f3.trans (b2.sub (by omega)), b1⟩
      show _ = cnt (deadB e c t) (d + 1)
      simp only [cnt]; rw [show deadB e c t d = true from hb]; rfl
theorem m_ask {M : Mem} {e : EX} {c : SC} {t k : Nat} {post : Int32 → Mem → Prop} (hC : CoreP M e c) (ht : t < 5) (hk : k < 2) (h : ∀ M1, FrM M M1 → post (tellB (askB e c t (sA c)) k) M1) : ∃ g25 : Nat, w_X10_ask_L25 post (nI t) (nI k) 0 (-4) g25 0 M := by
  have hV := hC.2.2.2.2.1
  have hS := hC.2.2.2.2.2
  have ha := hS.1
  have hm := hV.m
  have hz := (hV.2.2.2.2.2.2.2 t ht).2.1
  have hp := pow16 hz
  refine loop_0 (fun n i (s : Mem) => w_X10_ask_L25 post (nI t) (nI k) 0 (-4) n (nI i) s) (fun i s => FrM M s ∧ ∀ j, j < i → rd s 135 j = 0) 56 M ⟨FrM.refl, fun j hj => by omega⟩ ?_ ?_
  · rintro n s ⟨j1, j2⟩
    show w_X10_ask_L25 post _ _ _ _ (n + 1) _ s
    unfold w_X10_ask_L25
    refine ⟨fun _ => ?_, fun q => absurd (nI_le (a := 56) (Nat.le_refl _) (by decide)) q⟩
    refine loop_0 (fun n d (s : Nat × Mem) => w_X10_ask_L49 post (nI t) (nI k) (-4) n (nI s.1) (nI d) s.2) (fun d s => s.1 = cnt (deadB e c t) d ∧ FrM M s.2 ∧ TalM s.2 e c t d) (2 ^ eZ e t) (0, s) ⟨rfl, j1, fun i hi f hf => j2 _ (by omega)⟩ ?_ ?_
    · rintro n ⟨s0, s⟩ ⟨j0, j1, j2⟩
      change s0 = _ at j0
      change FrM M s at j1
      change TalM s e c t _ at j2
      subst j0
      show w_X10_ask_L49 post _ _ _ (n + 1) _ _ s
      unfold w_X10_ask_L49
      have hCs := hC.frM j1
      refine m_setsOf hCs ht ⟨fun _ => ?_, fun q => absurd (nI_le (Nat.le_refl _) (by omega)) q⟩
      have hcn := cnt_le (deadB e c t) (2 ^ eZ e t)
      refine loop_0 (fun n i (s' : BS) => w_X10_ask_L125 post (nI k) n (nI s'.2) (oI s'.1) (nI i) s) (fun i s' => s' = askB e c t i ∧ BOK s') (sA c) (0, cnt (deadB e c t) (2 ^ eZ e t)) ⟨rfl, ⟨Nat.zero_le _, by show cnt (deadB e c t) (2 ^ eZ e t) ≤ 20; omega⟩⟩ ?_ ?_
      · rintro n s' ⟨i1, i2⟩
        show w_X10_ask_L125 post _ (n + 1) _ _ _ s
        unfold w_X10_ask_L125
        rw [show rd s 129 66 = _ from hCs.2.2.2.1.1]
        have h9 := h s j1
        rw [← i1] at h9
        have b1 := i2.1
        unfold tellB at h9
        refine ⟨fun _ => ⟨fun q => ⟨fun q2 => ?_, fun q2 => ?_⟩, fun q => ?_⟩, fun q => absurd (nI_le (Nat.le_refl _) (by omega)) q⟩
        · rw [if_neg (fun z => q (by rw [z]; rfl)), if_neg (fun z => q2 (by rw [z]; rfl))] at h9; exact h9
        · rw [if_neg (fun z => q (by rw [z]; rfl)), if_pos (nI_inj (by omega) (by decide) q2)] at h9; exact h9
        · rw [if_pos ((oI_4 (by omega)).mp q)] at h9; exact h9
      · rintro n i s' hi ⟨i1, i2⟩ kk
        show w_X10_ask_L125 post _ (n + 1) _ _ _ s
        unfold w_X10_ask_L125
        rw [show rd s 129 66 = _ from hCs.2.2.2.1.1]
        refine ⟨fun q => absurd q (nI_ge hi (by omega)), fun _ => ?_⟩
        have hb : ∀ f, talN e c t (2 ^ eZ e t) i f ≤ 16 := fun f => Nat.le_trans tal_le hp
        refine loop_0 (fun n' f (w : Nat) => w_X10_ask_L143 post (w_X10_ask_L125 post (nI k) n) (nI k) (nI s'.2) (oI s'.1) (nI i) n' (nI w) (nI f) s) (fun f w => w = maxF (talN e c t (2 ^ eZ e t) i) f) 7 0 rfl ?_ ?_
        · rintro n' w rfl
          show w_X10_ask_L143 post _ _ _ _ _ (n' + 1) _ _ s
          unfold w_X10_ask_L143
          have hb2 := maxF_le hb 7
          have b2 := i2.2
          refine ⟨fun _ => ?_, fun q => absurd (nI_le (a := 7) (Nat.le_refl _) (by decide)) q⟩
          unfold w_X10_ask_J207 w_X10_ask_J221
          refine ⟨fun q => ⟨fun _ => ?_, fun q2 => absurd q q2⟩, fun q => ⟨fun q2 => absurd q2 q, fun _ => ?_⟩⟩
          · have := (nI_leI (by omega) (by omega)).mp q
            have e1 : askB e c t (i + 1) = s' := by simp only [askB]; rw [← i1]; exact if_neg (by omega)
            rintro v rfl
            rw [nI_1]
            exact kk s' ⟨e1.symm, i2⟩
          · have hlt : maxF (talN e c t (2 ^ eZ e t) i) 7 < s'.2 := by
              rcases Nat.lt_or_ge (maxF (talN e c t (2 ^ eZ e t) i) 7) s'.2 with z | z
              · exact z
              · exact absurd (nI_le z (by omega)) q
            have e1 : askB e c t (i + 1) = (i + 1, maxF (talN e c t (2 ^ eZ e t) i) 7) := by simp only [askB]; rw [← i1]; exact if_pos hlt
            rintro v rfl
            rw [nI_1]
            exact kk (i + 1, maxF (talN e c t (2 ^ eZ e t) i) 7) ⟨e1.symm, ⟨by show i + 1 ≤ 100; omega, by show maxF _ 7 ≤ 20; omega⟩⟩
        · rintro n' f w hf rfl kk2
          show w_X10_ask_L143 post _ _ _ _ _ (n' + 1) _ _ s
          unfold w_X10_ask_L143
          rw [show (7 : Int32) * nI i + nI f = nI (7 * i + f) by rw [show (7 : Int32) = nI 7 from rfl, pk_mul, nI_add], tnI (by omega), j2 i hi f hf]
          have hb1 := hb f
          have hb2 := maxF_le hb f
          have vi : vp_in (nI (7 * i + f)) 56 := vp_in_nI (by omega) (by omega)
          unfold w_X10_ask_J186
          refine ⟨fun q => absurd q (nI_ge (b := 7) hf (by decide)), fun _ => ⟨vi, fun q => ?_, fun q => ⟨vi, ?_⟩⟩⟩
          · have := (nI_leI (by omega) (by omega)).mp q
            rintro v rfl
            rw [nI_1]
            exact kk2 _ (by simp only [maxF]; rw [if_neg (by omega)])
          · have hlt : maxF (talN e c t (2 ^ eZ e t) i) f < talN e c t (2 ^ eZ e t) i f := by
              rcases Nat.lt_or_ge (maxF (talN e c t (2 ^ eZ e t) i) f) (talN e c t (2 ^ eZ e t) i f) with z | z
              · exact z
              · exact absurd (nI_le z (by omega)) q
            rintro v rfl
            rw [nI_1]
            exact kk2 _ (by simp only [maxF]; rw [if_pos hlt])
    · rintro n d ⟨s0, s⟩ hd ⟨j0, j1, j2⟩ kk
      change s0 = _ at j0
      change FrM M s at j1
      change TalM s e c t d at j2
      subst j0
      show w_X10_ask_L49 post _ _ _ (n + 1) _ _ s
      unfold w_X10_ask_L49
      have hCs := hC.frM j1
      refine m_setsOf hCs ht ⟨fun q => absurd q (nI_ge hd (by omega)), fun _ => ?_⟩
      refine m_isSo hCs ht (q := 2) rfl (by omega) (VE_deadE hV hd) rfl (fun M1 hE => hE.dead hm ht (rd_eq ⟨rfl, by omega⟩) (fun k' _ hk' => rd_ne (by omega))) (fun M2 l1 l2 l5 => ?_)
      have hT2 : TalM M2 e c t d := fun i hi f hf => by rw [l5]; exact j2 i hi f hf
      have f2 := j1.trans l2
      refine ⟨fun q => ?_, fun q => ?_⟩
      · have hb := b2n q
        unfold w_X10_ask_J116
        rintro v rfl
        rw [nI_1]
        refine kk (cnt (deadB e c t) d, M2) ⟨?_, f2, fun i hi f hf => ?_⟩
        · show cnt (deadB e c t) d = cnt (deadB e c t) (d + 1)
          simp only [cnt]; rw [show deadB e c t d = false from hb]; rfl
        · show rd M2 135 (7 * i + f) = _
          rw [tal_f hb]; exact hT2 i hi f hf
      · have hb := b2y q
        rintro v rfl
        rw [nI_1]
        refine loop_0 (fun n' i (s' : Mem) => w_X10_ask_L76 post (w_X10_ask_L49 post (nI t) (nI k) (-4) n) (nI t) (nI k) (nI (cnt (deadB e c t) d + 1)) (-4) (nI d) n' (nI i) s') (fun i s' => (∀ j, j < sA c → ∀ f, f < 7 → rd s' 135 (7 * j + f) = nI (if j < i then talN e c t (d + 1) j f else talN e c t d j f)) ∧ Fr 135 136 M2 s') (sA c) M2 ⟨fun j hj f hf => by rw [if_neg (by omega)]; exact hT2 j hj f hf, Fr.refl⟩ ?_ ?_
        · rintro n' s' ⟨h1, h2⟩
          show w_X10_ask_L76 post _ _ _ _ _ _ (n' + 1) _ s'
          unfold w_X10_ask_L76
          have f3 : FrM M2 s' := fun i k p => h2.row (by unfold PM at p; omega) k
          rw [show rd s' 129 66 = _ from (hC.frM (f2.trans f3)).2.2.2.1.1]
          refine ⟨fun _ => ?_, fun q => absurd (nI_le (Nat.le_refl _) (by omega)) q⟩
          unfold w_X10_ask_J116
          rintro v rfl
          rw [nI_1]
          refine kk (cnt (deadB e c t) d + 1, s') ⟨?_, f2.trans f3, fun i hi f hf => ?_⟩
          · show _ = cnt (deadB e c t) (d + 1)
            simp only [cnt]; rw [show deadB e c t d = true from hb]; rfl
          · show rd s' 135 (7 * i + f) = _
            rw [h1 i hi f hf, if_pos hi]
        · rintro n' i s' hi ⟨h1, h2⟩ kk2
          show w_X10_ask_L76 post _ _ _ _ _ _ (n' + 1) _ s'
          unfold w_X10_ask_L76
          have f3 : FrM M2 s' := fun i k p => h2.row (by unfold PM at p; omega) k
          have f6 := fate_6 (c := c) (kp := kT) (e := deadE e t d) (i := i)
          rw [show rd s' 129 66 = _ from (hC.frM (f2.trans f3)).2.2.2.1.1, tnI (by omega), h2.row (by omega), (l1 i hi).1, show (7 : Int32) * nI i + nI (fateE c kT (deadE e t d) i) = nI (7 * i + fateE c kT (deadE e t d) i) by rw [show (7 : Int32) = nI 7 from rfl, pk_mul, nI_add], tnI (by omega)]
          have vi : vp_in (nI (7 * i + fateE c kT (deadE e t d) i)) 56 := vp_in_nI (by omega) (by omega)
          refine ⟨fun q => absurd q (nI_ge hi (by omega)), fun _ => ⟨vp_in_nI (by omega) (by omega), vi, vi, ?_⟩⟩
          rintro M2' rfl v rfl
          rw [nI_1]
          refine kk2 _ ⟨fun j hj f hf => ?_, h2.trans (Fr.wr (by omega))⟩
          by_cases q : j = i
          · subst q
            rw [if_pos (by omega), tal_t hb]
            by_cases q2 : f = fateE c kT (deadE e t d) j
            · rw [rd_eq ⟨rfl, by omega⟩, if_pos q2.symm, h1 j hj _ (by omega), if_neg (by omega), nI_1, q2]
            · rw [rd_ne (by omega), if_neg (fun z => q2 z.symm), h1 j hj f hf, if_neg (by omega)]
              rfl
          · rw [rd_ne (by omega), h1 j hj f hf]
            by_cases q2 : j < i
            · rw [if_pos q2, if_pos (by omega)]
            · rw [if_neg q2, if_neg (by omega)]
  · rintro n i s hi ⟨j1, j2⟩ kk
    show w_X10_ask_L25 post _ _ _ _ (n + 1) _ s
    unfold w_X10_ask_L25
    rw [tnI (by omega)]
    refine ⟨fun q => absurd q (nI_ge (b := 56) hi (by decide)), fun _ => ⟨vp_in_nI hi (by omega), ?_⟩⟩
    rintro M1 rfl v rfl
    rw [nI_1]
    refine kk _ ⟨j1.trans (FrM.wr (by unfold PM; omega)), fun j hj => ?_⟩
    by_cases q : j = i
    · rw [rd_eq ⟨rfl, q⟩]
    · rw [rd_ne (by omega)]; exact j2 j (by omega)
theorem op_ask {M : Mem} {v w : Int32} (hI : INV M) : w_X9_ask v w M (fun r M1 => w_X10_ask v w M1 (fun r' M2 => r = r' ∧ INV M2)) := by
  obtain ⟨e, c, hC, hR⟩ := id hI
  unfold w_X9_ask
  refine c_isGroup (fun t ht hv => ?_) (fun no => ?_)
  · subst hv
    refine ⟨fun q => absurd q (by decide), fun _ => c_isBit (fun k hk hw => ?_) (fun no => ?_)⟩
    · subst hw
      refine ⟨fun _ => c_ask hC ht hk (fun M1 k1 => ?_), fun q => absurd q (by decide)⟩
      unfold w_X10_ask
      refine m_isGroup (fun _ _ _ => ⟨fun q => absurd q (by decide), fun _ => ?_⟩) (fun no => absurd rfl (no t ht))
      refine m_isPart (fun _ _ _ => ⟨fun _ => ?_, fun q => absurd q (by decide)⟩) (fun no => absurd rfl (no k hk))
      exact m_ask (hC.frC k1) ht hk (fun M2 k2 => ⟨rfl, (hI.frC k1).frM k2⟩)
    · refine ⟨fun q => absurd rfl q, fun _ => ?_⟩
      unfold w_X10_ask
      refine m_isGroup (fun _ _ _ => ⟨fun q => absurd q (by decide), fun _ => ?_⟩) (fun no => absurd rfl (no t ht))
      exact m_isPart (fun k hk hw => absurd hw (no k hk)) (fun _ => ⟨fun q => absurd rfl q, fun _ => ⟨rfl, hI⟩⟩)
  · refine ⟨fun _ => ?_, fun q => absurd rfl q⟩
    unfold w_X10_ask
    exact m_isGroup (fun t ht hv => absurd hv (no t ht)) (fun _ => ⟨fun _ => ⟨rfl, hI⟩, fun q => absurd rfl q⟩)
/-! drift -/
def gotN (v : Int32) : Nat := ((ishr v 16) &&& 32767).toNatClampNeg
theorem got_eq (v : Int32) : ((ishr v 16) &&& 32767) = nI (gotN v) ∧ gotN v < 32768 := by
  obtain ⟨j, hj, h⟩ := pk_andE (ishr v 16) (m := 32767) 15 (by decide)
  have e : gotN v = j := by unfold gotN; rw [h, tnI (by omega)]
  rw [e]
  exact ⟨h, hj⟩
abbrev DS : Type := EX × Nat × Int32
def stepD (p : DS) : DS :=
  if eS p.1 (gotN (p.2.2 * 1103515245 + 12345) % eM p.1) ≠ 0 then (partE p.1 (gotN (p.2.2 * 1103515245 + 12345) % eM p.1), p.2.1, p.2.2 * 1103515245 + 12345)
  else ((ringE p.1 (gotN (p.2.2 * 1103515245 + 12345) % eM p.1) (eN p.1 (gotN (p.2.2 * 1103515245 + 12345) / 8 % eM p.1))).2, p.2.1 + (if (ringE p.1 (gotN (p.2.2 * 1103515245 + 12345) % eM p.1) (eN p.1 (gotN (p.2.2 * 1103515245 + 12345) / 8 % eM p.1))).1 = 0 then 0 else 1), p.2.2 * 1103515245 + 12345)
def drS (e : EX) (v : Int32) : Nat → DS
  | 0 => (e, 0, v)
  | n + 1 => stepD (drS e v n)
theorem stepD_V {p : DS} (hV : VE p.1) (h0 : 0 < eM p.1) : VE (stepD p).1 ∧ eM (stepD p).1 = eM p.1 ∧ (stepD p).2.1 ≤ p.2.1 + 1 := by
  have ha : gotN (p.2.2 * 1103515245 + 12345) % eM p.1 < eM p.1 := Nat.mod_lt _ h0
  have hb : gotN (p.2.2 * 1103515245 + 12345) / 8 % eM p.1 < eM p.1 := Nat.mod_lt _ h0
  unfold stepD
  split
  · rename_i q
    exact ⟨VE_part hV ha q, rfl, Nat.le_succ _⟩
  · rename_i q
    refine ⟨VE_ring hV ha (by omega) (hV.2.2.1 _ hb).1, ring_M, ?_⟩
    show p.2.1 + _ ≤ _
    split <;> omega
theorem drS_V {e : EX} {v : Int32} (hV : VE e) (h0 : 0 < eM e) : ∀ n, VE (drS e v n).1 ∧ eM (drS e v n).1 = eM e ∧ (drS e v n).2.1 ≤ n := by
  intro n
  induction n with
  | zero => exact ⟨hV, rfl, Nat.le_refl _⟩
  | succ n ih =>
    obtain ⟨h1, h2, h3⟩ := ih
    obtain ⟨k1, k2, k3⟩ := stepD_V h1 (by omega)
    exact ⟨k1, k2.trans h2, by show (stepD (drS e v n)).2.1 ≤ n + 1; omega⟩
def drR (e : EX) (v : Int32) (n k : Nat) : Int32 := if k = 0 then nI (drS e v n).2.1 else nI (callsE (drS e v n).1)
theorem c_drift {M : Mem} {e : EX} {c : SC} {v : Int32} {n k : Nat} {post : Int32 → Mem → Prop} (hC : CoreP M e c) (h0 : 0 < eM e) (hn : n ≤ 60) (hk : k < 2) (h : ∀ M1, Fr 22 50 M M1 → post (drR e v n k) M1) : w_X1_copyFrom 23 1 M (fun (M12 : Mem) => ∃ g60 : Nat, w_X9_drift_L60 post (nI n) (nI k) g60 0 v 0 M12) := by
  have hV := hC.2.2.2.2.1
  have hm := hV.m
  refine c1_copyFrom hC.1 hV (by omega) (fun M1 a1 a2 => ?_)
  refine loop_0 (fun n' i (s : Nat × Int32 × Mem) => w_X9_drift_L60 post (nI n) (nI k) n' (nI s.1) s.2.1 (nI i) s.2.2) (fun i s => s.1 = (drS e v i).2.1 ∧ s.2.1 = (drS e v i).2.2 ∧ ExC s.2.2 23 (drS e v i).1 ∧ Fr 22 50 M s.2.2) n (0, v, M1) ⟨rfl, rfl, a1, a2.sub (by omega)⟩ ?_ ?_
  · rintro n' ⟨s0, s1, s⟩ ⟨j0, j1, j2, j3⟩
    change s0 = _ at j0
    change ExC s 23 _ at j2
    change Fr 22 50 M s at j3
    show w_X9_drift_L60 post _ _ (n' + 1) _ _ _ s
    unfold w_X9_drift_L60
    have h9 := h s j3
    unfold drR at h9
    rw [show rd s 23 2 = _ from j2.2.2.1, j0]
    refine ⟨fun _ => ⟨fun q => ?_, fun q => ?_⟩, fun q => absurd (nI_le (Nat.le_refl _) (by omega)) q⟩
    · rw [if_neg (fun z => q (by rw [z]; rfl))] at h9; exact h9
    · rw [if_pos (nI_inj (by omega) (by decide) q)] at h9; exact h9
  · rintro n' i ⟨s0, s1, s⟩ hi ⟨j0, j1, j2, j3⟩ kk
    change s0 = _ at j0
    change s1 = _ at j1
    change ExC s 23 _ at j2
    change Fr 22 50 M s at j3
    show w_X9_drift_L60 post _ _ (n' + 1) _ _ _ s
    unfold w_X9_drift_L60
    obtain ⟨hV1, hM1, hl1⟩ := drS_V (v := v) hV h0 i
    have hstep : drS e v (i + 1) = stepD (drS e v i) := rfl
    generalize hp : drS e v i = p at *
    obtain ⟨p1, p2, p3⟩ := p
    change s0 = p2 at j0
    change s1 = p3 at j1
    change ExC s 23 p1 at j2
    change VE p1 at hV1
    change eM p1 = eM e at hM1
    change p2 ≤ i at hl1
    subst j0
    subst j1
    have hCs := hC.frC j3
    obtain ⟨g1, g2⟩ := got_eq (s1 * 1103515245 + 12345)
    generalize hgv : gotN (s1 * 1103515245 + 12345) = g at *
    have ha : g % eM p1 < eM p1 := Nat.mod_lt _ (by omega)
    have hb : g / 8 % eM p1 < eM p1 := Nat.mod_lt _ (by omega)
    have fin : ∀ (s' : Mem) (l : Nat), drS e v (i + 1) = ((drS e v (i + 1)).1, l, s1 * 1103515245 + 12345) → ExC s' 23 (drS e v (i + 1)).1 → Fr 22 50 M s' → w_X9_drift_J155 post (w_X9_drift_L60 post (nI n) (nI k) n') (nI n) (nI k) (nI l) (s1 * 1103515245 + 12345) (nI i) s' := fun s' l b1 b2 b3 => by
      unfold w_X9_drift_J155
      rintro w rfl
      rw [nI_1]
      exact kk (l, s1 * 1103515245 + 12345, s') ⟨by rw [b1], by rw [b1], b2, b3⟩
    refine ⟨fun q => absurd q (nI_ge hi (by omega)), fun _ => ?_⟩
    rintro v2 rfl v3 rfl
    rw [show rd s 1 0 = _ from hCs.1.1, g1, ← hM1]
    have hne : ¬ nI (eM p1) = 0 := nI_ne0 (by omega) (by omega)
    refine ⟨hne, ?_⟩
    rintro v4 rfl
    rw [nI_irem (by omega) (by omega) (by omega), show nI g / 8 = nI (g / 8) from pk_div (d := 8) (by omega) (by decide) (by decide), nI_irem (by omega) (by omega) (by omega), tnI (by omega), tnI (by omega), show rd s 26 (g % eM p1) = _ from (j2.2.2.2.1 _ ha).2.2.1, show rd s 24 (g / 8 % eM p1) = _ from (j2.2.2.2.1 _ hb).1]
    have hsa := hV1.2.2.2.2.1 _ ha
    refine ⟨vp_in_nI (by omega) (by omega), fun q => ⟨hne, vp_in_nI (by omega) (by omega), ?_⟩, fun q => ?_⟩
    · have s0' : eS p1 (g % eM p1) = 0 := nI_inj (by omega) (by decide) q
      have r5 := ring_5 (e := p1) (a := g % eM p1) (n := eN p1 (g / 8 % eM p1))
      have e1 : drS e v (i + 1) = ((ringE p1 (g % eM p1) (eN p1 (g / 8 % eM p1))).2, s0 + (if (ringE p1 (g % eM p1) (eN p1 (g / 8 % eM p1))).1 = 0 then 0 else 1), s1 * 1103515245 + 12345) := by
        rw [hstep]
        unfold stepD
        simp only [hgv]
        rw [if_neg (by omega)]
      refine c_ring j2 hV1 ha s0' (hV1.2.2.1 _ hb).1 (fun M' b1 b2 => ?_)
      have f3 := j3.trans (b2.sub (by omega))
      refine ⟨fun q2 => fin M' s0 ?_ (by rw [e1]; exact b1) f3, fun q2 => ?_⟩
      · rw [e1, if_pos (nI_inj (by omega) (by decide) q2)]; rfl
      · rintro v7 rfl
        rw [nI_1]
        refine fin M' (s0 + 1) ?_ (by rw [e1]; exact b1) f3
        rw [e1, if_neg (fun z => q2 (by rw [z]; rfl))]
    · have s0' : eS p1 (g % eM p1) ≠ 0 := fun z => q (by rw [z]; rfl)
      have e1 : drS e v (i + 1) = (partE p1 (g % eM p1), s0, s1 * 1103515245 + 12345) := by
        rw [hstep]
        unfold stepD
        simp only [hgv]
        rw [if_pos s0']
      refine c_part j2 hV1 ha s0' (fun M' b1 b2 => ?_)
      exact fin M' s0 (by rw [e1]) (by rw [e1]; exact b1) (j3.trans (b2.sub (by omega)))
