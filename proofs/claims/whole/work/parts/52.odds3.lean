/-! luck, mean -/
def outK (x : Nat) : Nat → Bool := fun i => !x.testBit i
def mateB (ab : Option (Nat × Nat)) (e : EX) (c : SC) (x : Nat) : Nat :=
  match ab with
  | none => 0
  | some (a, b) => if mI (runE c (outK x) e (sA c)) a = nI b then 1 else 0
def brB (ab : Option (Nat × Nat)) (e : EX) (c : SC) (x : Nat) : Nat :=
  match ab with
  | none => lostN c (outK x) e
  | some (a, b) => if mI (runE c (outK x) e (sA c)) a = nI b then 1 else 0
theorem mateB_s {a b x : Nat} {e : EX} {c : SC} : mateB (some (a, b)) e c x = if mI (runE c (outK x) e (sA c)) a = nI b then 1 else 0 := rfl
theorem brB_s {a b x : Nat} {e : EX} {c : SC} : brB (some (a, b)) e c x = if mI (runE c (outK x) e (sA c)) a = nI b then 1 else 0 := rfl
theorem brB_8 {ab : Option (Nat × Nat)} {e : EX} {c : SC} {x m : Nat} (h : VS m c) : brB ab e c x ≤ 8 := by
  unfold brB
  split
  · exact lostN_8 h
  · split <;> omega
def abOK (ab : Option (Nat × Nat)) (e : EX) (l2 l3 : Int32) : Prop := (ab = none ∧ l2 = -4) ∨ ∃ a b, ab = some (a, b) ∧ a < eM e ∧ l2 = nI a ∧ l3 = nI b
theorem popN_8 (m : Nat) : popN m ≤ 8 := cnt_le _ _
theorem c_weighed {M : Mem} {e : EX} {c : SC} {v : Nat} {ab : Option (Nat × Nat)} {l2 l3 : Int32} {post : Int64 → Mem → Prop} (hC : CoreP M e c) (hv : v ≤ 10) (hab : abOK ab e l2 l3) (h : ∀ M1, Fr 22 50 M M1 → post (lN (sumN (sumC c v (brB ab e c)) 256)) M1) : w_X9_weighed (nI v) l2 l3 M post := by
  have hV := hC.2.2.2.2.1
  have hVS := hC.2.2.2.2.2
  have hm6 := hV.m
  have hA := hVS.1
  have hD := DN_256 hA
  have hq8 := popN_8 (DN c)
  unfold w_X9_weighed
  refine c_dials hC.2.2.1 hVS ?_
  refine bc_I ?_
  rw [bc256 _ hD, show cnt (fun w => (DN c).testBit w) 8 = popN (DN c) from rfl]
  refine loop_0 (fun k m (s : Nat × Mem) => w_X9_weighed_L22 post (nI v) l2 l3 (nI (DN c)) (nI (popN (DN c))) k (lN s.1) (nI m) s.2) (fun m s => s.1 = sumN (sumC c v (brB ab e c)) m ∧ Fr 22 50 M s.2) 256 (0, M) ⟨rfl, Fr.refl⟩ ?_ ?_
  · rintro k ⟨s0, s⟩ ⟨h1, h2⟩
    change s0 = _ at h1
    change Fr 22 50 M s at h2
    subst h1
    show w_X9_weighed_L22 post _ _ _ _ _ (k + 1) _ _ s
    unfold w_X9_weighed_L22
    exact ⟨fun _ => h s h2, fun q => absurd (nI_lt (a := 255) (b := 256) (by omega) (by decide)) q⟩
  · rintro k m ⟨s0, s⟩ hm ⟨h1, h2⟩ kk
    change s0 = _ at h1
    change Fr 22 50 M s at h2
    subst h1
    show w_X9_weighed_L22 post _ _ _ _ _ (k + 1) _ _ s
    unfold w_X9_weighed_L22
    have go : ∀ (s' : Mem) (t : Nat), t = sumN (sumC c v (brB ab e c)) (m + 1) → Fr 22 50 M s' → w_X9_weighed_J122 post (w_X9_weighed_L22 post (nI v) l2 l3 (nI (DN c)) (nI (popN (DN c))) k) (nI v) l2 l3 (nI (DN c)) (nI (popN (DN c))) (lN t) (nI m) s' := fun s' t ht hf => by
      unfold w_X9_weighed_J122
      rintro w rfl
      rw [nI_1]
      exact kk (t, s') ⟨ht, hf⟩
    have hs : sumN (sumC c v (brB ab e c)) (m + 1) = sumN (sumC c v (brB ab e c)) m + sumC c v (brB ab e c) m := rfl
    rw [sub_I hm]
    refine ⟨fun q => absurd q (nI_nlt (a := 255) (b := m) (by omega) (by decide)), fun _ => ⟨fun q => go s _ ?_ h2, fun q => ?_⟩⟩
    · rw [hs]
      unfold sumC
      rw [if_neg q, Nat.add_zero]
    · have hp8 := popN_8 m
      have hple : popN m ≤ popN (DN c) := by
        have := cnt_sub (p := fun i => m.testBit i) (q := fun i => (DN c).testBit i) 8 (fun i _ z => sub_bit.mp q i z)
        unfold popN
        omega
      have hsum : sumC c v (brB ab e c) m = (10 - v) ^ popN m * v ^ (popN (DN c) - popN m) * brB ab e c (m ^^^ DN c) := if_pos q
      have hw := weight_eq (v := v) hA q
      have hwl := waysN_le (x := m ^^^ DN c) hv hVS
      refine bc_I ?_
      rw [bc256 _ hm, show cnt (fun w => m.testBit w) 8 = popN m from rfl, show (10 : Int32) - nI v = nI (10 - v) from pk_sub (a := 10) hv, pk_sub hple]
      refine c_power (by omega) (by omega) ?_
      refine c_power (by omega) (by omega) ?_
      rw [lN_mul]
      rw [hw] at hsum ⊢
      rintro v8 rfl
      rw [lg_0 (by omega)]
      refine ⟨fun z => go s _ ?_ h2, fun z => ?_⟩
      · rw [hs, hsum, z, Nat.zero_mul, Nat.add_zero]
      · have hCs := hC.frC h2
        refine c1_copyFrom hCs.1 hV (by omega) (fun M2 a1 a2 => ?_)
        have hkp : ∀ i, i < 8 → (((ishr (nI m ||| (nI (DN c) ^^^ (-1))) (nI i)) &&& 1) = 0 ↔ outK (m ^^^ DN c) i = false) := fun i hi => by
          rw [kept_I i hi]
          unfold outK
          rw [Nat.testBit_xor]
          have := sub_bit.mp q i
          cases x1 : m.testBit i <;> cases x2 : (DN c).testBit i
          · simp
          · simp
          · rw [x1, x2] at this; exact absurd (this rfl) (by decide)
          · simp
        refine c_follow a1 (hCs.2.2.1.fr a2 (by omega)) hV hVS hkp (fun M3 b1 b2 b3 b4 => ?_)
        have f3 : Fr 22 50 M M3 := h2.trans ((a2.sub (by omega)).trans (b4.sub (by omega)))
        have fin : ∀ r : Int32, r = nI (brB ab e c (m ^^^ DN c)) → ∀ v13 : Int64, v13 = (lN (sumN (sumC c v (brB ab e c)) m)) + ((lN (waysN c v (m ^^^ DN c))) * ((r).toInt64)) → w_X9_weighed_J122 post (w_X9_weighed_L22 post (nI v) l2 l3 (nI (DN c)) (nI (popN (DN c))) k) (nI v) l2 l3 (nI (DN c)) (nI (popN (DN c))) v13 (nI m) M3 := fun r hr v13 hv13 => by
          have hb8 := brB_8 (ab := ab) (e := e) (x := m ^^^ DN c) hVS
          rw [hv13, hr, nI_l (by omega), lN_mul, lN_add]
          exact go M3 _ (by rw [hs, hsum]) f3
        unfold w_X9_broughtBy
        rcases hab with ⟨y1, y2⟩ | ⟨a, b, y1, y2, y3, y4⟩
        · subst y1
          refine ⟨fun z => absurd y2 z, fun _ => ?_⟩
          refine fin _ ?_
          exact b3.2.1
        · subst y1
          subst y3
          subst y4
          have hrm := (run_V (kp := outK (m ^^^ DN c)) hV hVS (sA c) (Nat.le_refl _)).2
          rw [tnI (by omega), show rd M3 25 a = _ from (b1.2.2.2.1 a (by rw [hrm]; exact y2)).2.1]
          refine ⟨fun _ => ⟨vp_in_nI (by omega) (by omega), fun z => fin _ ?_, fun z => fin _ ?_⟩, fun z => absurd z (nI_ne4 (by omega))⟩
          · rw [brB_s, if_neg z]; rfl
          · rw [brB_s, if_pos z]; rfl
theorem pow_pop {c : SC} (hA : sA c ≤ 8) : prodN (fun i => if sD c i = 99 then 1 else 10) (sA c) = 10 ^ popN (DN c) := by
  have hD : ∀ i, (DN c).testBit i = (decide (i < sA c) && dB c i) := fun i => bN_bit _
  have hDt : ∀ i, sA c ≤ i → (DN c).testBit i = false := fun i hi => by rw [hD, decide_eq_false (by omega)]; rfl
  have e2 : popN (DN c) = cnt (fun i => (DN c).testBit i) (sA c) := by
    have := cnt_tail (p := fun i => (DN c).testBit i) (a := sA c) hDt (8 - sA c)
    rw [show sA c + (8 - sA c) = 8 by omega] at this
    exact this
  rw [e2]
  have key : ∀ n, n ≤ sA c → prodN (fun i => if sD c i = 99 then 1 else 10) n = 10 ^ cnt (fun i => (DN c).testBit i) n := by
    intro n
    induction n with
    | zero => intro _; rfl
    | succ n ih =>
      intro hn
      have hDn : (DN c).testBit n = dB c n := by rw [hD, decide_eq_true (by omega)]; rfl
      show prodN _ n * (if sD c n = 99 then 1 else 10) = _
      rw [ih (by omega)]
      by_cases d9 : sD c n = 99
      · have dn : dB c n = false := decide_eq_false (fun z => z d9)
        rw [cnt_f (p := fun i => (DN c).testBit i) (by rw [hDn, dn]), if_pos d9, Nat.mul_one]
      · have dn : dB c n = true := decide_eq_true d9
        rw [cnt_t (p := fun i => (DN c).testBit i) (by rw [hDn, dn]), if_neg d9, Nat.pow_succ]
  exact key _ (Nat.le_refl _)
theorem shl1' : ∀ n, n < 9 → ishl 1 (nI n) = nI (2 ^ n) := by decide +kernel
theorem FrM.wl {M : Mem} {k : Nat} {v : Int64} : FrM M (wl M k v) := fun _ _ _ => rfl
theorem m_findOdds {M : Mem} {e : EX} {c : SC} {v : Nat} {ab : Option (Nat × Nat)} {l2 l3 : Int32} {post : Mem → Prop} (hC : CoreP M e c) (hv : v ≤ 10) (hab : abOK ab e l2 l3)
    (h : ∀ M1, FrM M M1 → rl M1 19 = lN (sumN (fun x => waysN c v x * mateB ab e c x) (2 ^ sA c)) → rl M1 20 = lN (sumN (fun x => waysN c v x * brB none e c x) (2 ^ sA c)) → rl M1 21 = lN (10 ^ popN (DN c)) → post M1) : w_X10_findOdds (nI v) l2 l3 M post := by
  have hV := hC.2.2.2.2.1
  have hVS := hC.2.2.2.2.2
  have hm6 := hV.m
  have hA := hVS.1
  have i67 : ∀ i, (67 : Int32) + 2 * nI i + 1 = nI (68 + 2 * i) := fun i => by rw [show (2 : Int32) = nI 2 from rfl, show (67 : Int32) = nI 67 from rfl, pk_mul, nI_add, nI_1, show 67 + 2 * i + 1 = 68 + 2 * i by omega]
  unfold w_X10_findOdds
  rintro M14 rfl M15 rfl M16 hM16
  have g19 : rl M16 19 = lN 0 := by rw [hM16]; rfl
  have g20 : rl M16 20 = lN 0 := by rw [hM16]; rfl
  have g21 : rl M16 21 = lN 1 := by rw [hM16]; rfl
  have gf : FrM M M16 := by rw [hM16]; exact (FrM.wl.trans FrM.wl).trans FrM.wl
  clear hM16
  refine loop_0 (fun n i (s : Mem) => w_X10_findOdds_L18 post (nI v) l2 l3 n (nI i) s) (fun i s => FrM M s ∧ rl s 19 = lN 0 ∧ rl s 20 = lN 0 ∧ rl s 21 = lN (prodN (fun i => if sD c i = 99 then 1 else 10) i)) (sA c) M16 ⟨gf, g19, g20, g21⟩ ?_ ?_
  · rintro n s ⟨k1, k2, k3, k4⟩
    show w_X10_findOdds_L18 post _ _ _ (n + 1) _ s
    unfold w_X10_findOdds_L18
    rw [show rd s 129 66 = _ from (hC.frM k1).2.2.2.1.1]
    refine ⟨fun _ => ?_, fun q => absurd (nI_le (Nat.le_refl _) (by omega)) q⟩
    rw [pow_pop hA] at k4
    have hp256 : 2 ^ sA c ≤ 256 := by
      have := Nat.pow_le_pow_right (n := 2) (by omega) hA
      exact this
    refine loop_0 (fun n x (s : Mem) => w_X10_findOdds_L74 post (nI v) l2 l3 n (nI x) s) (fun x s => FrM M s ∧ rl s 19 = lN (sumN (fun x => waysN c v x * mateB ab e c x) x) ∧ rl s 20 = lN (sumN (fun x => waysN c v x * brB none e c x) x) ∧ rl s 21 = lN (10 ^ popN (DN c))) (2 ^ sA c) s ⟨k1, k2, k3, k4⟩ ?_ ?_
    · rintro n s ⟨k1, k2, k3, k4⟩
      show w_X10_findOdds_L74 post _ _ _ (n + 1) _ s
      unfold w_X10_findOdds_L74
      rw [show rd s 129 66 = _ from (hC.frM k1).2.2.2.1.1, shl1' _ (by omega)]
      exact ⟨fun _ => h s k1 k2 k3 k4, fun q => absurd (nI_le (Nat.le_refl _) (by omega)) q⟩
    · rintro n x s hx ⟨k1, k2, k3, k4⟩ kk
      show w_X10_findOdds_L74 post _ _ _ (n + 1) _ s
      unfold w_X10_findOdds_L74
      have hCs := hC.frM k1
      rw [show rd s 129 66 = _ from hCs.2.2.2.1.1, shl1' _ (by omega)]
      refine ⟨fun q => absurd q (nI_ge hx (by omega)), fun _ => ?_⟩
      have go : ∀ s' : Mem, FrM M s' → rl s' 19 = lN (sumN (fun x => waysN c v x * mateB ab e c x) (x + 1)) → rl s' 20 = lN (sumN (fun x => waysN c v x * brB none e c x) (x + 1)) → rl s' 21 = lN (10 ^ popN (DN c)) → w_X10_findOdds_J247 post (w_X10_findOdds_L74 post (nI v) l2 l3 n) (nI v) l2 l3 (nI x) s' := fun s' z1 z2 z3 z4 => by
        unfold w_X10_findOdds_J247
        rintro w rfl
        rw [nI_1]
        exact kk s' ⟨z1, z2, z3, z4⟩
      refine loop_0 (fun n' i (w : Nat) => w_X10_findOdds_L94 post (w_X10_findOdds_L74 post (nI v) l2 l3 n) (nI v) l2 l3 (nI x) n' (lN w) (nI i) s) (fun i w => w = prodN (wayF c v x) i) (sA c) 1 rfl ?_ ?_
      · rintro n' w rfl
        show w_X10_findOdds_L94 post _ _ _ _ _ (n' + 1) _ _ s
        unfold w_X10_findOdds_L94
        rw [show rd s 129 66 = _ from hCs.2.2.2.1.1]
        have hwl := waysN_le (x := x) hv hVS
        have hwn : prodN (wayF c v x) (sA c) = waysN c v x := rfl
        rw [hwn, lg_le0 (by omega)]
        refine ⟨fun _ => ⟨fun q => go s k1 ?_ ?_ k4, fun q => ?_⟩, fun q => absurd (nI_le (Nat.le_refl _) (by omega)) q⟩
        · rw [k2]; simp only [sumN]; rw [q, Nat.zero_mul, Nat.add_zero]
        · rw [k3]; simp only [sumN]; rw [q, Nat.zero_mul, Nat.add_zero]
        · refine m_starts (fun M1 a1 a2 => ?_)
          obtain ⟨hE, hSc⟩ := hCs.st a1
          refine m_planGoes hE hSc hV hVS (kp := outK x) out_I (fun M2 b1 b2 b3 b4 b5 b6 => ?_)
          have fr : FrM M1 M2 := fun i k p => by
            by_cases q : i < 130 ∨ 135 ≤ i
            · exact b4.row q k
            · unfold PM at p; exact b5 i k (by omega) (by omega)
          have f2 : FrM M M2 := (k1.trans (FrM.of130 a2)).trans fr
          have r19 : rl M2 19 = rl s 19 := (b4.2 _).trans (a2.2 _)
          have r20 : rl M2 20 = rl s 20 := (b4.2 _).trans (a2.2 _)
          have r21 : rl M2 21 = rl s 21 := (b4.2 _).trans (a2.2 _)
          have hb8 := brB_8 (ab := none) (e := e) (x := x) hVS
          have hrm := (run_V (kp := outK x) hV hVS (sA c) (Nat.le_refl _)).2
          have fin : ∀ s2 : Int64, s2 = lN (waysN c v x * mateB ab e c x) → w_X10_findOdds_J226 post (w_X10_findOdds_L74 post (nI v) l2 l3 n) (nI v) l2 l3 (nI x) (lN (waysN c v x)) (rl M2 19) s2 M2 := fun s2 hs2 => by
            subst hs2
            unfold w_X10_findOdds_J226
            rintro M6 hM6
            refine m_lostMany (f := fateE c (outK x) e) (n := sA c) hA (by rw [hM6]; exact b2.1) (fun i hi => ⟨by rw [hM6]; exact b3 i hi, fate_6⟩) ?_
            rintro M9 hM9
            refine go M9 ?_ ?_ ?_ ?_
            · rw [hM9, hM6]; exact (f2.trans FrM.wl).trans FrM.wl
            · rw [hM9, hM6]
              show rl M2 19 + lN (waysN c v x * mateB ab e c x) = _
              rw [r19, k2, lN_add]; rfl
            · rw [hM9]
              show rl M6 20 + lN (waysN c v x) * (nI (lostN c (outK x) e)).toInt64 = _
              rw [hM6]
              show rl M2 20 + lN (waysN c v x) * (nI (lostN c (outK x) e)).toInt64 = _
              rw [r20, k3, nI_l (by have : lostN c (outK x) e ≤ 8 := hb8; omega), lN_mul, lN_add]; rfl
            · rw [hM9, hM6]
              show rl M2 21 = _
              rw [r21]; exact k4
          rcases hab with ⟨y1, y2⟩ | ⟨a, b, y1, y2, y3, y4⟩
          · subst y1
            refine ⟨fun _ => ?_, fun z => absurd y2 z⟩
            unfold w_X10_findOdds_J225
            exact fin 0 rfl
          · subst y1
            subst y3
            subst y4
            refine ⟨fun z => absurd z (nI_ne4 (by omega)), fun _ => m_of (k := 1) rfl (by omega) ?_⟩
            rw [show rd M2 130 (4 * a + 1) = _ from (b1.2.2.1 a (by rw [hrm]; exact y2)).2.1]
            refine ⟨fun z => ?_, fun z => fin _ ?_⟩
            · unfold w_X10_findOdds_J225
              refine fin 0 ?_
              rw [mateB_s, if_neg z]; rfl
            · rw [mateB_s, if_pos z, Nat.mul_one]
      · rintro n' i w hi rfl kk2
        show w_X10_findOdds_L94 post _ _ _ _ _ (n' + 1) _ _ s
        unfold w_X10_findOdds_L94
        rw [show rd s 129 66 = _ from hCs.2.2.2.1.1]
        have hd := (hCs.2.2.2.1.2.2.1 i hi).2
        have hdl := hVS.dl hi
        have fac : ∀ (g : Nat) (s1 : Int64), s1 = lN g → g = wayF c v x i → w_X10_findOdds_J173 post (w_X10_findOdds_L74 post (nI v) l2 l3 n) (w_X10_findOdds_L94 post (w_X10_findOdds_L74 post (nI v) l2 l3 n) (nI v) l2 l3 (nI x) n') (nI v) l2 l3 (nI x) (nI i) (lN (prodN (wayF c v x) i)) s1 s := fun g s1 hs1 hg => by
          subst hs1
          unfold w_X10_findOdds_J173
          rintro v3 rfl v4 rfl
          rw [nI_1, lN_mul, hg]
          exact kk2 _ rfl
        have j122 : ∀ b : Bool, b = x.testBit i → w_X10_findOdds_J122 post (w_X10_findOdds_L74 post (nI v) l2 l3 n) (w_X10_findOdds_L94 post (w_X10_findOdds_L74 post (nI v) l2 l3 n) (nI v) l2 l3 (nI x) n') (nI v) l2 l3 (nI x) (lN (prodN (wayF c v x) i)) (nI i) (if b = true then 1 else 0) s := fun b hb => by
          unfold w_X10_findOdds_J122
          rw [i67, tnI (by omega), show rd s 129 (68 + 2 * i) = _ from hd]
          refine ⟨vp_in_nI (by omega) (by omega), fun q => ⟨fun q2 => fac (10 - v) _ ?_ ?_, fun q2 => fac v _ (nI_l (by omega)) ?_⟩, fun q => ⟨fun q2 => fac 1 _ rfl ?_, fun q2 => fac 0 _ rfl ?_⟩⟩
          · rw [show (10 : Int32) - nI v = nI (10 - v) from pk_sub (a := 10) hv, nI_l (by omega)]
          · unfold wayF
            rw [if_neg (fun z => q (by rw [z]; rfl)), ← hb, b2n q2]; rfl
          · unfold wayF
            rw [if_neg (fun z => q (by rw [z]; rfl)), ← hb, b2y q2]; rfl
          · unfold wayF
            rw [if_pos (nI_inj (by omega) (by decide) q), ← hb, b2n q2]; rfl
          · unfold wayF
            rw [if_pos (nI_inj (by omega) (by decide) q), ← hb, b2y q2]; rfl
        have hbit := out_I (x := x) i (by omega)
        refine ⟨fun q => absurd q (nI_ge hi (by omega)), fun _ => ⟨fun q => j122 false ?_, fun q => j122 true ?_⟩⟩
        · cases z : x.testBit i with
          | false => rfl
          | true => exact absurd (hbit.mpr (by rw [z]; rfl)) q
        · have := hbit.mp q
          cases z : x.testBit i with
          | true => rfl
          | false => rw [z] at this; exact absurd this (by decide)
  · rintro n i s hi ⟨k1, k2, k3, k4⟩ kk
    show w_X10_findOdds_L18 post _ _ _ (n + 1) _ s
    unfold w_X10_findOdds_L18
    have hCs := hC.frM k1
    have hd := (hCs.2.2.2.1.2.2.1 i hi).2
    have hdl := hVS.dl hi
    rw [show rd s 129 66 = _ from hCs.2.2.2.1.1, i67, tnI (by omega), show rd s 129 (68 + 2 * i) = _ from hd, k4]
    have go : ∀ (g : Nat) (s2 : Int64), s2 = lN g → g = (if sD c i = 99 then 1 else 10) → w_X10_findOdds_J61 post (w_X10_findOdds_L18 post (nI v) l2 l3 n) (nI v) l2 l3 (nI i) (lN (prodN (fun i => if sD c i = 99 then 1 else 10) i)) s2 s := fun g s2 hs2 hg => by
      subst hs2
      unfold w_X10_findOdds_J61
      rintro M1 rfl v2 rfl
      rw [nI_1, lN_mul, hg]
      exact kk _ ⟨k1.trans FrM.wl, k2, k3, rfl⟩
    refine ⟨fun q => absurd q (nI_ge hi (by omega)), fun _ => ⟨vp_in_nI (by omega) (by omega), fun q => go 10 _ rfl ?_, fun q => go 1 _ rfl ?_⟩⟩
    · rw [if_neg (fun z => q (by rw [z]; rfl))]
    · rw [if_pos (nI_inj (by omega) (by decide) q)]
theorem c_isOdds {M : Mem} {v : Int32} {post : Int32 → Mem → Prop} (hy : ∀ k, k ≤ 10 → v = nI k → post 1 M) (hn : (∀ k, k ≤ 10 → v ≠ nI k) → post 0 M) : w_X9_isOdds v M post := by
  unfold w_X9_isOdds
  refine ⟨fun q => hn (fun k hk => bnd_lo q (by omega)), fun q => ⟨fun q2 => hn (fun k hk hv => ?_), fun q2 => ?_⟩⟩
  · rw [hv] at q2; exact nI_nlt (a := 10) (by omega) (by decide) q2
  · obtain ⟨j, hj, rfl⟩ := nI_of q
    have : ¬ 10 < j := fun z => q2 (nI_lt (a := 10) z hj)
    exact hy j (by omega) rfl
theorem sum_le63 {c : SC} {v m : Nat} {br : Nat → Nat} (hv : v ≤ 10) (hVS : VS m c) (hb : ∀ x, br x ≤ 8) : sumN (fun x => waysN c v x * br x) (2 ^ sA c) < 2 ^ 63 := by
  have h1 := sumN_le (f := fun x => waysN c v x * br x) (b := 100000000 * 8) (2 ^ sA c) (fun x _ => Nat.mul_le_mul (waysN_le hv hVS) (hb x))
  have h2 : 2 ^ sA c ≤ 2 ^ 8 := Nat.pow_le_pow_right (by omega) hVS.1
  have h3 : 2 ^ sA c * (100000000 * 8) ≤ 2 ^ 8 * (100000000 * 8) := Nat.mul_le_mul_right _ h2
  have h4 : 2 ^ 8 * (100000000 * 8) < 2 ^ 63 := by decide
  omega
theorem pow_le63 {n : Nat} (h : n ≤ 8) : 0 < 10 ^ n ∧ 10 ^ n < 2 ^ 63 := by
  have h1 : 10 ^ n ≤ 10 ^ 8 := Nat.pow_le_pow_right (by omega) h
  have h2 : 10 ^ 8 < 2 ^ 63 := by decide
  exact ⟨Nat.pow_pos (by omega), by omega⟩
/-- what class and reference do from the odds on -/
theorem c_odds {M : Mem} {e : EX} {c : SC} {v k : Nat} {ab : Option (Nat × Nat)} {l2 l3 : Int32} {post : Int64 → Mem → Prop} (hC : CoreP M e c) (hv : v ≤ 10) (hk : k < 2) (hab : abOK ab e l2 l3) (h : ∀ M1, Fr 22 50 M M1 → post (fracR (sumN (fun x => waysN c v x * brB ab e c x) (2 ^ sA c)) (10 ^ popN (DN c)) k) M1) : w_X9_weighed (nI v) l2 l3 M (fun r6 M5 => w_X5_dials 17 M5 (fun r8 M7 => w_J6_bitCount_0f7a4 r8 M7 (fun r10 M9 => w_X9_power 10 r10 M9 (fun r12 M11 => w_X9_fraction r6 r12 (nI k) M11 post)))) := by
  have hVS := hC.2.2.2.2.2
  refine c_weighed hC hv hab (fun M1 k1 => ?_)
  refine c_dials (hC.frC k1).2.2.1 hVS ?_
  refine bc_I ?_
  rw [bc256 _ (DN_256 hVS.1), show cnt (fun w => (DN c).testBit w) 8 = popN (DN c) from rfl, sums_eq hVS]
  have hp := popN_8 (DN c)
  refine c_power (b := 10) (by omega) (by omega) ?_
  obtain ⟨p1, p2⟩ := pow_le63 hp
  exact c_fraction (sum_le63 hv hVS (fun x => brB_8 hVS)) p2 p1 hk (h M1 k1)
theorem op_luck {M : Mem} {u v w z : Int32} (hI : INV M) : w_X9_luck u v w z M (fun r M1 => w_X10_luck u v w z M1 (fun r' M2 => r = r' ∧ INV M2)) := by
  obtain ⟨e, c, hC, hR⟩ := id hI
  have hV := hC.2.2.2.2.1
  have hVS := hC.2.2.2.2.2
  have hm := hV.m
  have hX := hC.1
  have hY := hC.2.1
  -- the reference, from its bounds on
  have ref : ∀ (M1 : Mem) (P : Int64 → Mem → Prop), CoreP M1 e c → ((¬ ∃ o a b k, o ≤ 10 ∧ a < eM e ∧ b < eM e ∧ a ≠ b ∧ k < 2 ∧ u = nI o ∧ v = nI a ∧ w = nI b ∧ z = nI k) → P (-1) M1) → ((∃ o a b k, o ≤ 10 ∧ a < eM e ∧ b < eM e ∧ a ≠ b ∧ k < 2 ∧ u = nI o ∧ v = nI a ∧ w = nI b ∧ z = nI k) → w_X10_findOdds u v w M1 (fun M9 => w_X10_told (rl M9 19) (rl M9 21) z M9 P)) → w_X10_luck u v w z M1 P := fun M1 P hC1 h1 h2 => by
    unfold w_X10_luck
    have injn : ∀ a b, a ≤ 10 → b ≤ 10 → nI a = nI b → a = b := fun a b ha hb h => nI_inj (by omega) (by omega) h
    refine m_inR (l := 0) (n := 11) rfl rfl (by omega) (fun o _ ho hu => ⟨fun q => absurd q (by decide), fun _ => ?_⟩) (fun no => ⟨fun _ => h1 ?_, fun q => absurd rfl q⟩)
    · refine m_isOne hC1.2.1.1 hV (fun a ha hva => ⟨fun q => absurd q (by decide), fun _ => ?_⟩) (fun no => ⟨fun _ => h1 ?_, fun q => absurd rfl q⟩)
      · refine m_isOne hC1.2.1.1 hV (fun b hb hwb => ⟨fun q => absurd q (by decide), fun _ => ⟨fun q => h1 ?_, fun q => ?_⟩⟩) (fun no => ⟨fun _ => h1 ?_, fun q => absurd rfl q⟩)
        · rintro ⟨o', a', b', k', g1, g2, g3, g4, g5, g6, g7, g8, g9⟩
          exact g4 (injn _ _ (by omega) (by omega) (g7.symm.trans (q.trans g8)))
        · refine m_isPart (fun k hk hzk => ⟨fun _ => h2 ⟨o, a, b, k, by omega, ha, hb, fun y => q (by rw [hva, hwb, y]), hk, hu, hva, hwb, hzk⟩, fun q => absurd q (by decide)⟩) (fun no => ⟨fun q => absurd rfl q, fun _ => h1 ?_⟩)
          rintro ⟨o', a', b', k', g1, g2, g3, g4, g5, g6, g7, g8, g9⟩
          exact no k' g5 g9
        · rintro ⟨o', a', b', k', g1, g2, g3, g4, g5, g6, g7, g8, g9⟩
          exact no b' g3 g8
      · rintro ⟨o', a', b', k', g1, g2, g3, g4, g5, g6, g7, g8, g9⟩
        exact no a' g2 g7
    · rintro ⟨o', a', b', k', g1, g2, g3, g4, g5, g6, g7, g8, g9⟩
      exact no o' (by omega) (by omega) g6
  have bad : (¬ ∃ o a b k, o ≤ 10 ∧ a < eM e ∧ b < eM e ∧ a ≠ b ∧ k < 2 ∧ u = nI o ∧ v = nI a ∧ w = nI b ∧ z = nI k) → w_X10_luck u v w z M (fun r' M2 => -1 = r' ∧ INV M2) := fun no => ref M _ hC (fun _ => ⟨rfl, hI⟩) (fun y => absurd y no)
  have injn : ∀ a b, a ≤ 10 → b ≤ 10 → nI a = nI b → a = b := fun a b ha hb h => nI_inj (by omega) (by omega) h
  unfold w_X9_luck
  refine c_isOdds (fun o ho hu => ⟨fun q => absurd q (by decide), fun _ => ?_⟩) (fun no => ⟨fun _ => bad ?_, fun q => absurd rfl q⟩)
  · refine c_has hX.1 hV (fun a ha hva => ⟨fun q => absurd q (by decide), fun _ => ?_⟩) (fun no => ⟨fun _ => bad ?_, fun q => absurd rfl q⟩)
    · refine c_has hX.1 hV (fun b hb hwb => ⟨fun q => absurd q (by decide), fun _ => ⟨fun q => bad ?_, fun q => ?_⟩⟩) (fun no => ⟨fun _ => bad ?_, fun q => absurd rfl q⟩)
      · rintro ⟨o', a', b', k', g1, g2, g3, g4, g5, g6, g7, g8, g9⟩
        exact g4 (injn _ _ (by omega) (by omega) (g7.symm.trans (q.trans g8)))
      · refine c_isBit (fun k hk hzk => ⟨fun _ => ?_, fun q => absurd q (by decide)⟩) (fun no => ⟨fun q => absurd rfl q, fun _ => bad ?_⟩)
        · have hex : ∃ o a b k, o ≤ 10 ∧ a < eM e ∧ b < eM e ∧ a ≠ b ∧ k < 2 ∧ u = nI o ∧ v = nI a ∧ w = nI b ∧ z = nI k := ⟨o, a, b, k, ho, ha, hb, fun y => q (by rw [hva, hwb, y]), hk, hu, hva, hwb, hzk⟩
          have hab : abOK (some (a, b)) e v w := Or.inr ⟨a, b, rfl, ha, hva, hwb⟩
          rw [hzk, hu]
          rw [hzk, hu] at ref hex
          refine c_odds hC ho hk hab (fun M1 k1 => ?_)
          refine ref M1 _ (hC.frC k1) (fun y => absurd hex y) (fun _ => ?_)
          refine m_findOdds (hC.frC k1) ho hab (fun M2 j1 j2 j3 j4 => ?_)
          rw [j2, j4]
          have hp := popN_8 (DN c)
          obtain ⟨p1, p2⟩ := pow_le63 hp
          refine m_told (sum_le63 ho hVS (fun x => ?_)) p2 p1 hk ⟨rfl, (hI.frC k1).frM j1⟩
          exact brB_8 (ab := some (a, b)) hVS
        · rintro ⟨o', a', b', k', g1, g2, g3, g4, g5, g6, g7, g8, g9⟩
          exact no k' g5 g9
      · rintro ⟨o', a', b', k', g1, g2, g3, g4, g5, g6, g7, g8, g9⟩
        exact no b' g3 g8
    · rintro ⟨o', a', b', k', g1, g2, g3, g4, g5, g6, g7, g8, g9⟩
      exact no a' g2 g7
  · rintro ⟨o', a', b', k', g1, g2, g3, g4, g5, g6, g7, g8, g9⟩
    exact no o' g1 g6
theorem op_mean {M : Mem} {u z : Int32} (hI : INV M) : w_X9_mean u z M (fun r M1 => w_X10_mean u z M1 (fun r' M2 => r = r' ∧ INV M2)) := by
  obtain ⟨e, c, hC, hR⟩ := id hI
  have hV := hC.2.2.2.2.1
  have hVS := hC.2.2.2.2.2
  have bad : (∀ k, k ≤ 10 → u ≠ nI k) → w_X10_mean u z M (fun r' M2 => -1 = r' ∧ INV M2) := fun no => by
    unfold w_X10_mean
    exact m_inR (l := 0) (n := 11) rfl rfl (by omega) (fun k _ hk hv => absurd hv (no k (by omega))) (fun _ => ⟨fun _ => ⟨rfl, hI⟩, fun q => absurd rfl q⟩)
  unfold w_X9_mean
  refine c_isOdds (fun o ho hu => ⟨fun q => absurd q (by decide), fun _ => ?_⟩) (fun no => ⟨fun _ => bad no, fun q => absurd rfl q⟩)
  subst hu
  have pre : ∀ (M1 : Mem) (P : Int64 → Mem → Prop), _ → w_X10_mean (nI o) z M1 P := fun M1 P h => by
    unfold w_X10_mean
    exact m_inR (l := 0) (n := 11) rfl rfl (by omega) (fun _ _ _ _ => ⟨fun q => absurd q (by decide), fun _ => h⟩) (fun no => absurd rfl (no o (by omega) (by omega)))
  refine c_isBit (fun k hk hzk => ⟨fun _ => ?_, fun q => absurd q (by decide)⟩) (fun no => ⟨fun q => absurd rfl q, fun _ => ?_⟩)
  · subst hzk
    have hab : ∀ l3, abOK none e (-4) l3 := fun l3 => Or.inl ⟨rfl, rfl⟩
    refine c_odds hC ho hk (hab _) (fun M1 k1 => pre _ _ ?_)
    refine m_isPart (fun _ _ _ => ⟨fun _ => ?_, fun q => absurd q (by decide)⟩) (fun no => absurd rfl (no k hk))
    refine m_findOdds (hC.frC k1) ho (hab _) (fun M2 j1 j2 j3 j4 => ?_)
    rw [j3, j4]
    have hp := popN_8 (DN c)
    obtain ⟨p1, p2⟩ := pow_le63 hp
    exact m_told (sum_le63 ho hVS (fun x => brB_8 hVS)) p2 p1 hk ⟨rfl, (hI.frC k1).frM j1⟩
  · exact pre _ _ (m_isPart (fun k hk hw => absurd hw (no k hk)) (fun _ => ⟨fun q => absurd rfl q, fun _ => ⟨rfl, hI⟩⟩))
