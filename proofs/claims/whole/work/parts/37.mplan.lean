/-! the reference: bounds, connecting, plans -/
theorem m_inR {M : Mem} {v : Int32} {lo hi : Int64} {l n : Nat} {post : Int32 → Mem → Prop} (hl : lo.toInt = l) (hh : hi.toInt = (n : Int) - 1) (hn31 : n < 2 ^ 31) (hy : ∀ k, l ≤ k → k < n → v = nI k → post 1 M) (hn : (∀ k, l ≤ k → k < n → v ≠ nI k) → post 0 M) : w_X10_in v.toInt64 lo hi M post := by
  have hv : v.toInt64.toInt = v.toInt := Int32.toInt_toInt64 v
  unfold w_X10_in
  rw [lg_cmp_lt, lg_cmp_gt]
  refine ⟨fun c => hn fun k h1 h2 z => ?_, fun c => ⟨fun c2 => hn fun k h1 h2 z => ?_, fun c2 => ?_⟩⟩
  · have := Int64.lt_iff_toInt_lt.mp c
    rw [hv, hl, z, nI_toInt (by omega)] at this
    omega
  · have := Int64.lt_iff_toInt_lt.mp c2
    rw [hv, hh, z, nI_toInt (by omega)] at this
    omega
  · have g1 : ¬ v.toInt < l := fun z => c (Int64.lt_iff_toInt_lt.mpr (by rw [hv, hl]; exact z))
    have g2 : ¬ (n : Int) - 1 < v.toInt := fun z => c2 (Int64.lt_iff_toInt_lt.mpr (by rw [hv, hh]; exact z))
    refine hy v.toInt.toNat (by omega) (by omega) ?_
    apply Int32.toInt_inj.mp
    rw [nI_toInt (by omega)]
    omega
theorem m_flag {M : Mem} {b : Bool} {post : Int32 → Mem → Prop} (h : post (if b = true then 1 else 0) M) : w_X10_flag (if b = true then 1 else 0) M post := by
  unfold w_X10_flag
  cases b with
  | true => exact ⟨fun c => absurd c (by decide), fun _ => h⟩
  | false => exact ⟨fun _ => h, fun c => absurd rfl c⟩
theorem m_isNumber {M : Mem} {v : Int32} {post : Int32 → Mem → Prop} (hy : ∀ n, numOK n → v = nI n → post 1 M) (hn : (∀ n, numOK n → v ≠ nI n) → post 0 M) : w_X10_isNumber v M post := by
  unfold w_X10_isNumber
  by_cases h0 : v < 0
  · have no : post 0 M := hn fun n h z => by
      rw [z] at h0
      exact nI_pos (by have := h.1; omega) h0
    refine m_inR (l := 0) (n := 5) rfl rfl (by omega) (fun k _ hk e => ?_) (fun _ => ?_)
    · refine ⟨fun c => absurd c (by decide), fun _ => ?_⟩
      refine m_inR (l := 0) (n := 5) rfl rfl (by omega) (fun k _ hk e => ?_) (fun _ => ?_)
      · exact ⟨fun c => absurd c (by decide), fun _ => ⟨fun _ => no, fun c => absurd h0 c⟩⟩
      · exact ⟨fun _ => no, fun c => absurd rfl c⟩
    · exact ⟨fun _ => no, fun c => absurd rfl c⟩
  · obtain ⟨n, hn31, rfl⟩ := nI_of h0
    rw [nI_div hn31, nI_rem hn31]
    refine m_inR (l := 0) (n := 5) rfl rfl (by omega) (fun k _ hk e => ?_) (fun q => ?_)
    · have e1 : n / 10 = k := nI_inj (by omega) (by omega) e
      refine ⟨fun c => absurd c (by decide), fun _ => ?_⟩
      refine m_inR (l := 0) (n := 5) rfl rfl (by omega) (fun k' _ hk' e' => ?_) (fun q => ?_)
      · have e2 : n % 10 = k' := nI_inj (by omega) (by omega) e'
        exact ⟨fun c => absurd c (by decide), fun _ => ⟨fun c => absurd c h0, fun _ => hy n ⟨by omega, by omega⟩ rfl⟩⟩
      · refine ⟨fun _ => hn fun n' h z => ?_, fun c => absurd rfl c⟩
        have := nI_inj hn31 (by have := h.1; omega) z
        subst this
        exact q (n % 10) (by omega) (by have := h.2; omega) rfl
    · refine ⟨fun _ => hn fun n' h z => ?_, fun c => absurd rfl c⟩
      have := nI_inj hn31 (by have := h.1; omega) z
      subst this
      exact q (n / 10) (by omega) (by have := h.1; omega) rfl
def dialOK (n : Nat) : Prop := n = 99 ∨ numOK n
theorem m_isDialled {M : Mem} {v : Int32} {post : Int32 → Mem → Prop} (hy : ∀ n, dialOK n → v = nI n → post 1 M) (hn : (∀ n, dialOK n → v ≠ nI n) → post 0 M) : w_X10_isDialled v M post := by
  unfold w_X10_isDialled w_X10_isDialled_J13
  refine ⟨fun c => hy 99 (Or.inl rfl) c, fun c => ?_⟩
  refine m_isNumber (fun n h e => ?_) (fun q => ?_)
  · exact ⟨fun c => absurd c (by decide), fun _ => hy n (Or.inr h) e⟩
  · refine ⟨fun _ => hn fun n h e => ?_, fun c => absurd rfl c⟩
    rcases h with h | h
    · subst h; exact c e
    · exact q n h e
/-- connecting, hanging up -/
theorem m_connects {M : Mem} {a b t w : Nat} {e : EX} {post : Mem → Prop} (hM : ExM (R130 M) e) (hV : VE e) (ha : a < eM e) (hb : b < eM e) (hab : a ≠ b) (h : ∀ M', ExM (R130 M') (joinE e a b (10 * t + w)) → FrN M M' → post M') : w_X10_connects (nI a) (nI b) (nI (10 * t + w)) M post := by
  have hm := hV.m
  unfold w_X10_connects
  refine m_becomesOf (k := 1) rfl (by omega) ?_
  refine m_becomesOf (k := 2) rfl (by omega) ?_
  refine m_becomesOf (k := 3) rfl (by omega) ?_
  refine m_becomesOf (k := 1) rfl (by omega) ?_
  refine m_becomesOf (k := 2) rfl (by omega) ?_
  refine m_becomesOf (k := 3) rfl (by omega) ?_
  obtain ⟨h1, h2, h3, h4⟩ := hM
  refine h _ ⟨?_, ?_, fun c hc => ?_, fun t' ht' => ?_⟩ ?_
  · show rd _ 130 24 = _; simp (disch := omega) only [rd_ne, rd_eq]; exact h1
  · show rd _ 130 25 = _; simp (disch := omega) only [rd_ne, rd_eq]; exact h2
  · have hc : c < eM e := hc
    obtain ⟨k1, k2, k3, k4⟩ := h3 c hc
    show rd _ 130 (4 * c) = _ ∧ rd _ 130 (4 * c + 1) = _ ∧ rd _ 130 (4 * c + 2) = _ ∧ rd _ 130 (4 * c + 3) = _
    by_cases qb : c = b
    · subst qb
      simp (disch := omega) only [rd_ne, rd_eq]
      have es : eS (joinE e a c (10 * t + w)) c = 2 := by show up (up (eS e) a 1) c 2 c = 2; rw [up_eq rfl]
      refine ⟨k1, ?_, ?_, ?_⟩
      · unfold mI
        rw [if_neg (by omega)]
        show _ = nI (up (up (eT e) a c) c a c)
        rw [up_eq rfl]
      · rw [es]; rfl
      · unfold hI
        rw [if_neg (by omega)]
        show _ = nI (up (up (eH e) a _) c _ c)
        rw [up_eq rfl]
    · by_cases qa : c = a
      · subst qa
        simp (disch := omega) only [rd_ne, rd_eq]
        have es : eS (joinE e c b (10 * t + w)) c = 1 := by show up (up (eS e) c 1) b 2 c = 1; rw [up_ne qb, up_eq rfl]
        refine ⟨k1, ?_, ?_, ?_⟩
        · unfold mI
          rw [if_neg (by omega)]
          show _ = nI (up (up (eT e) c b) b c c)
          rw [up_ne qb, up_eq rfl]
        · rw [es]; rfl
        · unfold hI
          rw [if_neg (by omega)]
          show _ = nI (up (up (eH e) c _) b _ c)
          rw [up_ne qb, up_eq rfl]
      · simp (disch := omega) only [rd_ne, rd_eq]
        have e1 : eS (joinE e a b (10 * t + w)) c = eS e c := by show up (up (eS e) a 1) b 2 c = _; rw [up_ne qb, up_ne qa]
        have e2 : eT (joinE e a b (10 * t + w)) c = eT e c := by show up (up (eT e) a b) b a c = _; rw [up_ne qb, up_ne qa]
        have e3 : eH (joinE e a b (10 * t + w)) c = eH e c := by show up (up (eH e) a _) b _ c = _; rw [up_ne qb, up_ne qa]
        unfold mI hI at *
        rw [e1, e2, e3]
        exact ⟨k1, k2, k3, k4⟩
  · obtain ⟨g1, g2, g3, g4, g5⟩ := h4 t' ht'
    refine ⟨?_, ?_, ?_, ?_, fun w' hw' => ?_⟩
    · show rd _ 130 (26 + 4 * t') = _; simp (disch := omega) only [rd_ne, rd_eq]; exact g1
    · show rd _ 130 (27 + 4 * t') = _; simp (disch := omega) only [rd_ne, rd_eq]; exact g2
    · show rd _ 130 (28 + 4 * t') = _; simp (disch := omega) only [rd_ne, rd_eq]; exact g3
    · show rd _ 130 (29 + 4 * t') = _; simp (disch := omega) only [rd_ne, rd_eq]; exact g4
    · show rd _ 130 (46 + 4 * t' + w') = _; simp (disch := omega) only [rd_ne, rd_eq]; exact g5 w' hw'
  · repeat (first | exact FrN.refl | refine FrN.trans ?_ (FrN.wr (by omega)))
theorem m_leaves {M : Mem} {a : Nat} {post : Mem → Prop} (ha : a < 6) (h : post (wr (wr (wr M 130 (4 * a + 1) (-4)) 130 (4 * a + 2) 0) 130 (4 * a + 3) (-4))) : w_X10_leaves (nI a) M post := by
  unfold w_X10_leaves
  refine m_becomesOf (k := 1) rfl (by omega) ?_
  refine m_becomesOf (k := 2) rfl (by omega) ?_
  refine m_becomesOf (k := 3) rfl (by omega) ?_
  exact h
theorem m_hangsUp {M : Mem} {a : Nat} {e : EX} {post : Mem → Prop} (hM : ExM (R130 M) e) (hV : VE e) (ha : a < eM e) (sa : eS e a ≠ 0) (h : ∀ M', ExM (R130 M') (partE e a) → FrN M M' → post M') : w_X10_hangsUp (nI a) M post := by
  have hm := hV.m
  obtain ⟨k1, k2, k3, k4, k5, k6⟩ := hV.2.2.2.2.2.1 a ha sa
  have hS := part_S (e := e) (a := a) (c := a) (d := eT e a) (Or.inl ⟨rfl, rfl⟩)
  obtain ⟨h1, h2, h3, h4⟩ := hM
  unfold w_X10_hangsUp
  refine m_of (k := 1) rfl (by omega) ?_
  rw [show rd M 130 (4 * a + 1) = _ from (h3 a ha).2.1]
  unfold mI
  rw [if_neg sa]
  refine m_leaves (by omega) ?_
  refine m_leaves (by omega) ?_
  have hne : eT e a ≠ a := fun z => by rw [z] at k3; omega
  generalize hb : eT e a = b at *
  refine h _ ⟨?_, ?_, fun c hc => ?_, fun t' ht' => ?_⟩ ?_
  · show rd _ 130 24 = _; simp (disch := omega) only [rd_ne, rd_eq]; exact h1
  · show rd _ 130 25 = _; simp (disch := omega) only [rd_ne, rd_eq]; exact h2
  · have hc : c < eM e := hc
    obtain ⟨j1, j2, j3, j4⟩ := h3 c hc
    show rd _ 130 (4 * c) = _ ∧ rd _ 130 (4 * c + 1) = _ ∧ rd _ 130 (4 * c + 2) = _ ∧ rd _ 130 (4 * c + 3) = _
    by_cases q : c = a ∨ c = b
    · have e1 : eS (partE e a) c = 0 := by rw [hS, if_pos q]
      unfold mI hI
      rw [if_pos e1, if_pos e1, e1]
      by_cases qb : c = b
      · simp (disch := omega) only [rd_ne, rd_eq]
        exact ⟨j1, trivial, rfl, trivial⟩
      · have qa : c = a := q.resolve_right qb
        simp (disch := omega) only [rd_ne, rd_eq]
        exact ⟨j1, trivial, rfl, trivial⟩
    · have e1 : eS (partE e a) c = eS e c := by rw [hS, if_neg q]
      have qa : c ≠ a := fun z => q (Or.inl z)
      have qb : c ≠ b := fun z => q (Or.inr z)
      simp (disch := omega) only [rd_ne, rd_eq]
      unfold mI hI at *
      rw [e1]
      exact ⟨j1, j2, j3, j4⟩
  · obtain ⟨g1, g2, g3, g4, g5⟩ := h4 t' ht'
    refine ⟨?_, ?_, ?_, ?_, fun w' hw' => ?_⟩
    · show rd _ 130 (26 + 4 * t') = _; simp (disch := omega) only [rd_ne, rd_eq]; exact g1
    · show rd _ 130 (27 + 4 * t') = _; simp (disch := omega) only [rd_ne, rd_eq]; exact g2
    · show rd _ 130 (28 + 4 * t') = _; simp (disch := omega) only [rd_ne, rd_eq]; exact g3
    · show rd _ 130 (29 + 4 * t') = _; simp (disch := omega) only [rd_ne, rd_eq]; exact g4
    · show rd _ 130 (46 + 4 * t' + w') = _; simp (disch := omega) only [rd_ne, rd_eq]; exact g5 w' hw'
  · repeat (first | exact FrN.refl | refine FrN.trans ?_ (FrN.wr (by omega)))
theorem m_dials {M : Mem} {a n : Nat} {e : EX} {post : Int32 → Mem → Prop} (hM : ExM (R130 M) e) (hV : VE e) (ha : a < eM e) (sa : eS e a = 0) (hn : n ≤ 44) (h : ∀ M', ExM (R130 M') (ringE e a n).2 → FrN M M' → post (nI (ringE e a n).1) M') : w_X10_dials (nI a) (nI n) M post := by
  have hm := hV.m
  have ht : n / 10 < 5 := by omega
  have hc := calls_le hV
  obtain ⟨zk, zz, zd, zl, -⟩ := hV.2.2.2.2.2.2.2 _ ht
  have hp := pickE_le hV ht
  obtain ⟨h1, h2, h3, h4⟩ := id hM
  unfold w_X10_dials
  rintro v1 rfl
  rw [nI_div (by omega)]
  refine m_callsNow hM hV ?_
  rw [show rd M 130 25 = _ from h2]
  unfold ringE at h
  refine ⟨fun c => ?_, fun c => ?_⟩
  · have q1 : ¬ eF e ≤ callsE e := fun z => nI_nlt z (by omega) c
    rw [if_neg q1] at h
    refine m_taken hM hV ht ?_
    refine ⟨fun c2 => ?_, fun c2 => ?_⟩
    · have q2 : ¬ pickE e (n / 10) = 0 := fun z => c2 (by rw [z]; rfl)
      rw [if_neg q2] at h
      obtain ⟨w, hw⟩ : ∃ w, pickE e (n / 10) = w + 1 := ⟨pickE e (n / 10) - 1, by omega⟩
      rw [hw] at h ⊢
      rw [oI_s]
      rw [show w + 1 - 1 = w by omega] at h
      refine m_becomesOfGroup (k := 3) rfl (by omega) ?_
      rw [show (46 : Int32) + 4 * nI (n / 10) + nI w = nI (46 + 4 * (n / 10) + w) by rw [show (4 : Int32) = nI 4 from rfl, show (46 : Int32) = nI 46 from rfl, pk_mul, nI_add, nI_add], tnI (by omega)]
      refine ⟨vp_in_nI (by omega) (by omega), vp_in_nI (by omega) (by omega), ?_⟩
      rintro M7 rfl
      have hV1 := VE_take (w := w) hV ht (by omega)
      generalize hM1e : wr (wr M 130 (26 + 4 * (n / 10) + 3) (nI w)) 130 (46 + 4 * (n / 10) + w) (rd (wr M 130 (26 + 4 * (n / 10) + 3) (nI w)) 130 (46 + 4 * (n / 10) + w) + 1) = M1
      have hM1 : ExM (R130 M1) (takeE e (n / 10) w) := by
        subst hM1e
        refine ⟨?_, ?_, fun c hc => ?_, fun t' ht' => ?_⟩
        · show rd _ 130 24 = _; simp (disch := omega) only [rd_ne, rd_eq]; exact h1
        · show rd _ 130 25 = _; simp (disch := omega) only [rd_ne, rd_eq]; exact h2
        · have hc : c < eM e := hc
          show rd _ 130 (4 * c) = _ ∧ rd _ 130 (4 * c + 1) = _ ∧ rd _ 130 (4 * c + 2) = _ ∧ rd _ 130 (4 * c + 3) = _
          simp (disch := omega) only [rd_ne, rd_eq]; exact h3 c hc
        · obtain ⟨g1, g2, g3, g4, g5⟩ := h4 t' ht'
          refine ⟨?_, ?_, ?_, ?_, fun w' hw' => ?_⟩
          · show rd _ 130 (26 + 4 * t') = _; simp (disch := omega) only [rd_ne, rd_eq]; exact g1
          · show rd _ 130 (27 + 4 * t') = _; simp (disch := omega) only [rd_ne, rd_eq]; exact g2
          · show rd _ 130 (28 + 4 * t') = _; simp (disch := omega) only [rd_ne, rd_eq]; exact g3
          · show rd _ 130 (29 + 4 * t') = oI (up (eL e) (n / 10) (w + 1) t')
            by_cases q : t' = n / 10
            · simp (disch := omega) only [rd_ne, rd_eq]
              rw [up_eq q, oI_s]
            · simp (disch := omega) only [rd_ne, rd_eq]
              rw [up_ne q]; exact g4
          · show rd _ 130 (46 + 4 * t' + w') = if t' = n / 10 ∧ w' = w then _ else _
            by_cases q : t' = n / 10 ∧ w' = w
            · rw [if_pos q]
              simp (disch := omega) only [rd_ne, rd_eq]
              have := g5 w (by omega)
              rw [show 46 + 4 * (n / 10) + w = 46 + 4 * t' + w by omega, ← q.1]
              rw [show rd M 130 (46 + 4 * t' + w) = _ from this]
            · rw [if_neg q]
              simp (disch := omega) only [rd_ne, rd_eq]; exact g5 w' hw'
      have hF1 : FrN M M1 := by
        subst hM1e
        repeat (first | exact FrN.refl | refine FrN.trans ?_ (FrN.wr (by omega)))
      refine m_ofGroup (k := 2) rfl (by omega) ?_
      rw [show rd M1 130 (26 + 4 * (n / 10) + 2) = nI (eD e (n / 10)) by rw [show 26 + 4 * (n / 10) + 2 = 28 + 4 * (n / 10) by omega]; exact (hM1.2.2.2 _ ht).2.2.1, bit16 _ (hV.d16 ht) _ (by omega)]
      refine ⟨fun c3 => ?_, fun c3 => ?_⟩
      · have q3 : ¬ (eD e (n / 10)).testBit w = true := fun z => by rw [if_pos z] at c3; exact absurd rfl c3
        rw [if_neg q3] at h
        refine m_owner hM1 hV1 (by omega) ?_
        have hown : ownE (takeE e (n / 10) w) n = ownE e n := by
          have : ∀ k, ownN (takeE e (n / 10) w) n k = ownN e n k := fun k => by
            induction k with
            | zero => rfl
            | succ k ih => simp only [ownN]; rw [ih]; rfl
          exact this _
        rw [hown]
        refine ⟨fun c4 => ?_, fun c4 => ?_⟩
        · have q4 : ¬ ownE e n = 0 := fun z => c4 (by rw [z]; rfl)
          rw [if_neg q4] at h
          obtain ⟨b, hb⟩ : ∃ b, ownE e n = b + 1 := ⟨ownE e n - 1, by omega⟩
          have hbm := (own_some hb).1
          rw [hb] at h ⊢
          rw [oI_s]
          rw [show b + 1 - 1 = b by omega] at h
          refine ⟨fun c5 => ?_, fun c5 => ?_⟩
          · have q5 : b = a := nI_inj (by omega) (by omega) c5
            rw [if_pos (Or.inl q5)] at h
            exact h _ hM1 hF1
          · have q5 : ¬ b = a := fun z => c5 (by rw [z])
            refine m_of (k := 2) rfl (by omega) ?_
            rw [show rd M1 130 (4 * b + 2) = nI (eS e b) from (hM1.2.2.1 b hbm).2.2.1]
            have hs := hV.2.2.2.2.1 b hbm
            refine ⟨fun c6 => ?_, fun c6 => ?_⟩
            · have q6 : eS e b = 0 := nI_inj (by omega) (by decide) c6
              rw [if_neg (fun z => z.elim q5 (fun y => y q6))] at h
              rw [show (10 : Int32) * nI (n / 10) + nI w = nI (10 * (n / 10) + w) by rw [show (10 : Int32) = nI 10 from rfl, pk_mul, nI_add]]
              exact m_connects hM1 hV1 ha hbm (fun z => q5 z.symm) (fun M2 hM2 hF2 => h M2 hM2 (hF1.trans hF2))
            · have q6 : eS e b ≠ 0 := fun z => c6 (by rw [z]; rfl)
              rw [if_pos (Or.inr q6)] at h
              exact h _ hM1 hF1
        · have q4 : ownE e n = 0 := (oI_4 (by
            rcases Nat.eq_zero_or_pos (ownE e n) with z | z
            · omega
            · have := (own_some (e := e) (n := n) (a := ownE e n - 1) (by omega)).1; omega)).mp c4
          rw [if_pos q4] at h
          exact h _ hM1 hF1
      · have q3 : (eD e (n / 10)).testBit w = true := by
          by_cases z : (eD e (n / 10)).testBit w = true
          · exact z
          · rw [if_neg z] at c3; exact absurd c3 (by decide)
        rw [if_pos q3] at h
        exact h _ hM1 hF1
    · have q2 : pickE e (n / 10) = 0 := (oI_4 (by omega)).mp c2
      rw [if_pos q2] at h
      exact h _ hM FrN.refl
  · have q1 : eF e ≤ callsE e := by
      rcases Nat.lt_or_ge (callsE e) (eF e) with z | z
      · exact absurd (nI_lt z (by have := hV.2.1.2; omega)) c
      · exact z
    rw [if_pos q1] at h
    exact h _ hM FrN.refl
theorem m_acts {M : Mem} {a n : Nat} {e : EX} {post : Int32 → Mem → Prop} (hM : ExM (R130 M) e) (hV : VE e) (ha : a < eM e) (hn : n = 99 ∨ numOK n) (h : ∀ M', ExM (R130 M') (actE e a n).2 → FrN M M' → post (nI (actE e a n).1) M') : w_X10_acts (nI a) (nI n) M post := by
  have hm := hV.m
  have hs := hV.2.2.2.2.1 a ha
  have n99 : n ≤ 99 := hn.elim (fun q => by omega) (fun q => by have := q.1; omega)
  unfold w_X10_acts
  refine m_of (k := 2) rfl (by omega) ?_
  rw [show rd M 130 (4 * a + 2) = nI (eS e a) from (hM.2.2.1 a ha).2.2.1]
  unfold actE at h
  refine ⟨fun c => ?_, fun c => ?_⟩
  · have s0 : eS e a = 0 := nI_inj (by omega) (by decide) c
    unfold w_X10_acts_J14
    refine ⟨fun c2 => ?_, fun c2 => ?_⟩
    · have n0 : n ≠ 99 := fun z => c2 (by rw [z]; rfl)
      rw [if_neg (fun z => n0 (z.mp s0)), if_pos s0] at h
      refine ⟨fun _ => ⟨fun _ => m_dials hM hV ha s0 (hn.resolve_left n0).1 (fun M' h1 h2 => h M' h1 h2), fun c3 => absurd c3 c2⟩, fun c3 => absurd rfl c3⟩
    · have n0 : n = 99 := nI_inj (by omega) (by decide) c2
      rw [if_pos ⟨fun _ => n0, fun _ => s0⟩] at h
      exact ⟨fun c3 => absurd c3 (by decide), fun _ => h M hM FrN.refl⟩
  · have s0 : eS e a ≠ 0 := fun z => c (by rw [z]; rfl)
    unfold w_X10_acts_J14
    refine ⟨fun c2 => ?_, fun c2 => ?_⟩
    · have n0 : n ≠ 99 := fun z => c2 (by rw [z]; rfl)
      rw [if_pos ⟨fun z => absurd z s0, fun z => absurd z n0⟩] at h
      exact ⟨fun c3 => absurd c3 (by decide), fun _ => h M hM FrN.refl⟩
    · have n0 : n = 99 := nI_inj (by omega) (by decide) c2
      rw [if_neg (fun z => s0 (z.mpr n0)), if_neg s0] at h
      exact ⟨fun _ => ⟨fun c3 => absurd c2 c3, fun _ => m_hangsUp hM hV ha s0 (fun M' h1 h2 => h M' h1 h2)⟩, fun c3 => absurd rfl c3⟩
/-- the plan goes: the row at hand and the fates (134) -/
theorem ScM.frN {M M' : Mem} {c : SC} (h : ScM (R130 M) c) (hm : sA c ≤ 8 ∧ sN c ≤ 6) (hf : FrN M M') : ScM (R130 M') c := h.congr hm (fun k h1 _ => hf.2 k h1)
theorem m_planGoes {M : Mem} {c : SC} {kp : Nat → Bool} {e : EX} {out : Int32} {post : Mem → Prop} (hM : ExM (R130 M) e) (hS : ScM (R130 M) c) (hV : VE e) (hVS : VS (eM e) c) (hk : ∀ i, i < 8 → (((ishr out (nI i)) &&& 1) = 1 ↔ kp i = false)) (h : ∀ M', ExM (R130 M') (runE c kp e (sA c)) → ScM (R130 M') c → (∀ i, i < sA c → rd M' 134 i = nI (fateE c kp e i)) → Fr 130 135 M M' → (∀ i k, i < 134 → i ≠ 130 → rd M' i k = rd M i k) → (∀ k, 66 ≤ k → rd M' 130 k = rd M 130 k) → post M') : w_X10_planGoes out M post := by
  have ha := hVS.1
  have hn6 := hVS.2.1
  unfold w_X10_planGoes
  refine loop_0 (fun n i (s : Mem) => w_X10_planGoes_L2 post out n (nI i) s) (fun i s => ExM (R130 s) (runE c kp e i) ∧ ScM (R130 s) c ∧ (∀ j, j < i → rd s 134 j = nI (fateE c kp e j)) ∧ Fr 130 135 M s ∧ (∀ i k, i < 134 → i ≠ 130 → rd s i k = rd M i k) ∧ ∀ k, 66 ≤ k → rd s 130 k = rd M 130 k) (sA c) M ⟨hM, hS, fun j hj => by omega, Fr.refl, fun _ _ _ _ => rfl, fun _ _ => rfl⟩ ?_ ?_
  · rintro n s ⟨k1, k2, k3, k4, k5, k6⟩
    show w_X10_planGoes_L2 post out (n + 1) _ s
    unfold w_X10_planGoes_L2
    rw [show rd s 130 66 = _ from k2.1]
    exact ⟨fun _ => h s k1 k2 k3 k4 k5 k6, fun c => absurd (nI_le (Nat.le_refl _) (by omega)) c⟩
  · rintro n i s hi ⟨k1, k2, k3, k4, k5, k6⟩ kk
    show w_X10_planGoes_L2 post out (n + 1) _ s
    unfold w_X10_planGoes_L2
    obtain ⟨w1, w2⟩ := k2.2.2.1 i hi
    obtain ⟨hVr, hMr⟩ := run_V (kp := kp) hV hVS i (by omega)
    obtain ⟨s1, s2⟩ := hVS.2.2.1 i hi
    rw [show rd s 130 66 = _ from k2.1]
    have fin : ∀ (s' : Mem) (v : Int32), FrN s s' → ExM (R130 s') (runE c kp e (i + 1)) → v = nI (fateE c kp e i) → w_X10_planGoes_J60 post (w_X10_planGoes_L2 post out n) out (nI i) (nI i) v s' := by
      intro s' v hF hE hv
      unfold w_X10_planGoes_J60
      rw [tnI (by omega)]
      refine ⟨vp_in_nI (by omega) (by omega), ?_⟩
      rintro M1 rfl v2 rfl
      rw [nI_1]
      have r : ∀ q k, rd (wr s' 134 i v) q k = if q = 134 ∧ k = i then v else rd s' q k := fun q k => rd_wr
      refine kk _ ⟨?_, ?_, fun j hj => ?_, ?_, fun q k hq hq2 => ?_, fun k hk => ?_⟩
      · exact hE.congr (by rw [(run_V hV hVS (i + 1) (by omega)).2]; exact hV.m) (fun k _ => by show rd _ 130 k = _; rw [rd_ne (by omega)])
      · exact (k2.frN ⟨ha, hn6⟩ hF).congr ⟨ha, hn6⟩ (fun k _ _ => by show rd _ 130 k = _; rw [rd_ne (by omega)])
      · by_cases q : j = i
        · rw [rd_eq ⟨rfl, q⟩, q, hv]
        · rw [rd_ne (by omega), hF.1.row (by omega)]; exact k3 j (by omega)
      · exact k4.trans ((hF.1.sub (by omega)).trans (Fr.wr (by omega)))
      · rw [rd_ne (by omega), hF.1.row (by omega)]; exact k5 q k hq hq2
      · rw [rd_ne (by omega), hF.2 k hk]; exact k6 k hk
    refine ⟨fun c => absurd c (nI_ge hi (by omega)), fun _ => ⟨fun c1 => ?_, fun c1 => ?_⟩⟩
    · have kt : kp i = true := by
        cases q : kp i with
        | true => rfl
        | false => exact absurd ((hk i (by omega)).mpr q) c1
      rw [show (67 : Int32) + 2 * nI i = nI (67 + 2 * i) by rw [show (2 : Int32) = nI 2 from rfl, show (67 : Int32) = nI 67 from rfl, pk_mul, nI_add], nI_1, tnI (by omega), tnI (by omega)]
      refine ⟨vp_in_nI (by omega) (by omega), vp_in_nI (by omega) (by omega), ?_⟩
      rw [show rd s 130 (67 + 2 * i) = _ from w1, show rd s 130 (67 + 2 * i + 1) = nI (sD c i) by rw [show 67 + 2 * i + 1 = 68 + 2 * i by omega]; exact w2]
      refine m_acts k1 hVr (by rw [hMr]; exact s1) s2 (fun s' j1 j2 => fin s' _ j2 ?_ ?_)
      · simp only [runE]; rw [if_pos kt]; exact j1
      · unfold fateE; rw [if_pos kt]
    · have kf := (hk i (by omega)).mp c1
      refine fin s _ FrN.refl ?_ ?_
      · simp only [runE]; rw [kf]; exact k1
      · unfold fateE; rw [kf]; rfl
theorem m_lostMany {M : Mem} {f : Nat → Nat} {n : Nat} {post : Int32 → Mem → Prop} (hn : n ≤ 8) (hA : rd M 130 66 = nI n) (hf : ∀ i, i < n → rd M 134 i = nI (f i) ∧ f i ≤ 6) (h : post (nI (cnt (fun i => decide (1 ≤ f i ∧ f i ≤ 5)) n)) M) : w_X10_lostMany M post := by
  unfold w_X10_lostMany
  refine loop_0 (fun k i (s : Nat) => w_X10_lostMany_L4 post k (nI s) (nI i) M) (fun i s => s = cnt (fun i => decide (1 ≤ f i ∧ f i ≤ 5)) i) n 0 rfl ?_ ?_
  · rintro k s rfl
    show w_X10_lostMany_L4 post (k + 1) _ _ M
    unfold w_X10_lostMany_L4
    rw [hA]
    exact ⟨fun _ => h, fun c => absurd (nI_le (Nat.le_refl _) (by omega)) c⟩
  · rintro k i s hi rfl kk
    show w_X10_lostMany_L4 post (k + 1) _ _ M
    unfold w_X10_lostMany_L4
    obtain ⟨f1, f2⟩ := hf i hi
    rw [hA, tnI (by omega), f1]
    refine ⟨fun c => absurd c (nI_ge hi (by omega)), fun _ => ⟨vp_in_nI (by omega) (by omega), ?_⟩⟩
    unfold w_X10_isLost
    refine m_inR (l := 1) (n := 6) rfl rfl (by omega) (fun j h1 h2 e => ?_) (fun q => ?_)
    · have e1 : f i = j := nI_inj (by omega) (by omega) e
      have b : decide (1 ≤ f i ∧ f i ≤ 5) = true := decide_eq_true ⟨by omega, by omega⟩
      refine ⟨zb_1, ?_⟩
      refine m_flag (b := true) ?_
      rintro v5 rfl v6 rfl
      have := kk _ (show cnt (fun i => decide (1 ≤ f i ∧ f i ≤ 5)) i + 1 = cnt (fun i => decide (1 ≤ f i ∧ f i ≤ 5)) (i + 1) by simp only [cnt, b]; rfl)
      rw [nI_1]
      show w_X10_lostMany_L4 post k (nI _ + 1) _ M
      rw [nI_1]
      exact this
    · have b : decide (1 ≤ f i ∧ f i ≤ 5) = false := decide_eq_false (fun z => q (f i) z.1 (by omega) rfl)
      refine ⟨zb_0, ?_⟩
      refine m_flag (b := false) ?_
      rintro v5 rfl v6 rfl
      have := kk _ (show cnt (fun i => decide (1 ≤ f i ∧ f i ≤ 5)) i = cnt (fun i => decide (1 ≤ f i ∧ f i ≤ 5)) (i + 1) by simp only [cnt, b]; rfl)
      rw [nI_1]
      show w_X10_lostMany_L4 post k (nI _ + 0) _ M
      rw [show nI (cnt (fun i => decide (1 ≤ f i ∧ f i ≤ 5)) i) + 0 = nI (cnt (fun i => decide (1 ≤ f i ∧ f i ≤ 5)) i) from nI_add _ 0]
      exact this
