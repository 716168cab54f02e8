/-! the class's exchange: each method does what the mathematical one does -/
theorem VE.m {e : EX} (h : VE e) : eM e ≤ 6 := h.1
theorem calls_le {e : EX} (h : VE e) : callsE e ≤ 6 := Nat.le_trans (cnt_le _ _) h.1
theorem or16 : ∀ a, a < 16 → ∀ w, w < 4 → (nI a ||| ishl 1 (nI w)) = nI (a ||| 2 ^ w) := by decide +kernel
theorem an16 : ∀ a, a < 16 → ∀ w, w < 4 → (nI a &&& ((ishl 1 (nI w)) ^^^ (-1))) = nI (a &&& (15 ^^^ 2 ^ w)) := by decide +kernel
theorem an16_bit : ∀ a, a < 16 → ∀ w, w < 4 → ∀ v, v < 4 → ((a &&& (15 ^^^ 2 ^ w)).testBit v = true ↔ (a.testBit v = true ∧ ¬ w = v)) := by decide +kernel
theorem an16_lt : ∀ a, a < 16 → ∀ w, w < 4 → (a &&& (15 ^^^ 2 ^ w)) < 16 := by decide +kernel
theorem shr16 : ∀ a, a < 16 → ∀ n, n < 5 → ishr (nI a) (nI n) = nI (a / 2 ^ n) := by decide +kernel
theorem bits4 {a b : Nat} (ha : a < 16) (hb : b < 16) (h : ∀ v, v < 4 → (a.testBit v = true ↔ b.testBit v = true)) : a = b := by
  apply Nat.eq_of_testBit_eq
  intro v
  by_cases hv : v < 4
  · rw [Bool.eq_iff_iff]; exact h v hv
  · have h1 : a < 2 ^ v := Nat.lt_of_lt_of_le ha (by rw [show (16 : Nat) = 2 ^ 4 by decide]; exact Nat.pow_le_pow_right (by omega) (by omega))
    have h2 : b < 2 ^ v := Nat.lt_of_lt_of_le hb (by rw [show (16 : Nat) = 2 ^ 4 by decide]; exact Nat.pow_le_pow_right (by omega) (by omega))
    rw [Nat.testBit_lt_two_pow h1, Nat.testBit_lt_two_pow h2]
theorem ExC.fr {M M' : Mem} {x lo hi : Nat} {e : EX} (h : ExC M x e) (hf : Fr lo hi M M') (hd : x + 16 ≤ lo ∨ hi ≤ x) : ExC M' x e := by
  obtain ⟨h1, h2, h3, h4, h5⟩ := h
  have k : ∀ i q, x ≤ i → i < x + 16 → rd M' i q = rd M i q := fun i q a b => hf.1 i q (by omega)
  refine ⟨by rw [k _ _ (by omega) (by omega)]; exact h1, by rw [k _ _ (by omega) (by omega)]; exact h2, by rw [k _ _ (by omega) (by omega)]; exact h3, fun a ha => ?_, fun t ht => ?_⟩
  · rw [k _ _ (by omega) (by omega), k _ _ (by omega) (by omega), k _ _ (by omega) (by omega), k _ _ (by omega) (by omega)]
    exact h4 a ha
  · obtain ⟨g1, g2, g3, g4, g5, g6⟩ := h5 t ht
    refine ⟨?_, ?_, ?_, ?_, ?_, fun w hw => ?_⟩ <;> rw [k _ _ (by omega) (by omega)]
    · exact g1
    · exact g2
    · exact g3
    · exact g4
    · exact g5
    · exact g6 w hw
theorem GrC.fr {M M' : Mem} {g lo hi t : Nat} {e : EX} (h : GrC M g e t) (hf : Fr lo hi M M') (hd : g + 2 ≤ lo ∨ hi ≤ g) : GrC M' g e t := by
  obtain ⟨g1, g2, g3, g4, g5, g6⟩ := h
  have k : ∀ i q, g ≤ i → i < g + 2 → rd M' i q = rd M i q := fun i q a b => hf.1 i q (by omega)
  refine ⟨?_, ?_, ?_, ?_, ?_, fun w hw => ?_⟩ <;> rw [k _ _ (by omega) (by omega)]
  · exact g1
  · exact g2
  · exact g3
  · exact g4
  · exact g5
  · exact g6 w hw
theorem c_has {M : Mem} {x : Nat} {e : EX} {v : Int32} {post : Int32 → Mem → Prop} (h1 : rd M x 0 = nI (eM e)) (hV : VE e) (hy : ∀ a, a < eM e → v = nI a → post 1 M) (hn : (∀ a, a < eM e → v ≠ nI a) → post 0 M) : w_X1_has x v M post := by
  unfold w_X1_has
  have hm := hV.m
  rw [h1]
  refine ⟨fun c => hn fun a ha z => ?_, fun c => ⟨fun c2 => hn fun a ha z => ?_, fun c2 => ?_⟩⟩
  · rw [z] at c; exact nI_pos (by omega) c
  · rw [z] at c2; exact nI_ge ha (by omega) c2
  · obtain ⟨j, hj, rfl⟩ := nI_of c
    have : ¬ eM e ≤ j := fun q => c2 (nI_le q hj)
    exact hy j (by omega) rfl
theorem c_owner {M : Mem} {x n : Nat} {e : EX} {post : Int32 → Mem → Prop} (hM : ExC M x e) (hV : VE e) (hn : n < 2 ^ 31) (h : post (oI (ownE e n)) M) : w_X1_owner x (nI n) M post := by
  have hm := hV.m
  unfold w_X1_owner
  refine loop_0 (fun k i (_ : Unit) => w_X1_owner_L2 x post (nI n) k (nI i) M) (fun i _ => ∀ a, a < i → eN e a ≠ n) (eM e) () (fun a ha => by omega) ?_ ?_
  · intro k _ hi
    show w_X1_owner_L2 x post (nI n) (k + 1) _ M
    unfold w_X1_owner_L2
    rw [hM.1]
    rw [own_none hi] at h
    exact ⟨fun _ => h, fun c => absurd (nI_le (Nat.le_refl _) (by omega)) c⟩
  · intro k i _ hi hI kk
    show w_X1_owner_L2 x post (nI n) (k + 1) _ M
    unfold w_X1_owner_L2
    rw [hM.1]
    refine ⟨fun c => absurd c (nI_ge hi (by omega)), fun _ => ⟨vp_in_nI (by omega) (by omega), ?_⟩⟩
    have hq := (hV.2.2.1 i hi).1
    rw [tnI (by omega), (hM.2.2.2.1 i hi).1]
    refine ⟨fun c => ?_, fun c => ?_⟩
    · rintro v rfl
      rw [nI_1]
      refine kk () (fun a ha => ?_)
      by_cases q : a = i
      · rw [q]; intro z; exact c (by rw [z])
      · exact hI a (by omega)
    · rw [own_of hV hi (nI_inj (by omega) hn c)] at h
      exact h
theorem c_release {M : Mem} {x a : Nat} {post : Mem → Prop} (ha : a < 6) (h : post (wr (wr (wr M (x + 2) a (-4)) (x + 3) a 0) (x + 4) a (-4))) : w_X1_release x (nI a) M post := by
  unfold w_X1_release
  rw [tnI (by omega)]
  refine ⟨vp_in_nI ha (by omega), ?_⟩
  rintro M1 rfl
  refine ⟨vp_in_nI ha (by omega), ?_⟩
  rintro M2 rfl
  refine ⟨vp_in_nI ha (by omega), ?_⟩
  rintro M3 rfl
  exact h
theorem c_join {M : Mem} {x a b t w : Nat} {e : EX} {post : Mem → Prop} (hM : ExC M x e) (hV : VE e) (ha : a < eM e) (hb : b < eM e) (hab : a ≠ b) (sa : eS e a = 0) (sb : eS e b = 0) (ht : t < 5) (hw : w < eZ e t) (h : ∀ M', ExC M' x (joinE e a b (10 * t + w)) → Fr x (x + 16) M M' → post M') : w_X1_join x (nI a) (nI b) (nI (10 * t + w)) M post := by
  have hm := hV.m
  have hz := (hV.2.2.2.2.2.2.2 t ht).2.1
  unfold w_X1_join
  rw [nI_div (by omega), nI_rem (by omega), show (10 * t + w) / 10 = t by omega, show (10 * t + w) % 10 = w by omega, tnI (by omega), tnI (by omega), tnI (by omega)]
  refine ⟨vp_in_nI (by omega) (by omega), ?_⟩
  rintro M1 rfl
  refine ⟨vp_in_nI (by omega) (by omega), ?_⟩
  rintro M2 rfl
  refine ⟨vp_in_nI (by omega) (by omega), ?_⟩
  rintro M3 rfl
  refine ⟨vp_in_nI (by omega) (by omega), ?_⟩
  rintro M4 rfl
  refine ⟨vp_in_nI (by omega) (by omega), ?_⟩
  rintro M5 rfl
  refine ⟨vp_in_nI (by omega) (by omega), ?_⟩
  rintro M6 rfl
  refine ⟨vp_in_nI (by omega) (by omega), ?_⟩
  rintro g7 rfl
  rintro M8 rfl
  rintro M9 rfl
  obtain ⟨h1, h2, h3, h4, h5⟩ := hM
  refine h _ ⟨?_, ?_, ?_, fun c hc => ?_, fun t' ht' => ?_⟩ ?_
  · simp (disch := omega) only [rd_ne, rd_eq]; exact h1
  · simp (disch := omega) only [rd_ne, rd_eq]; exact h2
  · simp (disch := omega) only [rd_ne, rd_eq]
    rw [h3, callsE_join ha hab sa sb, nI_1]
  · obtain ⟨k1, k2, k3, k4⟩ := h4 c hc
    by_cases qb : c = b
    · simp (disch := omega) only [rd_ne, rd_eq]
      refine ⟨k1, ?_, ?_, ?_⟩
      · unfold mI
        rw [if_neg (by show up (up (eS e) a 1) b 2 c ≠ 0; rw [up_eq qb]; omega)]
        show _ = nI (up (up (eT e) a b) b a c)
        rw [up_eq qb]
      · show _ = nI (up (up (eS e) a 1) b 2 c)
        rw [up_eq qb]; rfl
      · unfold hI
        rw [if_neg (by show up (up (eS e) a 1) b 2 c ≠ 0; rw [up_eq qb]; omega)]
        show _ = nI (up (up (eH e) a _) b _ c)
        rw [up_eq qb]
    · by_cases qa : c = a
      · simp (disch := omega) only [rd_ne, rd_eq]
        refine ⟨k1, ?_, ?_, ?_⟩
        · unfold mI
          rw [if_neg (by show up (up (eS e) a 1) b 2 c ≠ 0; rw [up_ne qb, up_eq qa]; omega)]
          show _ = nI (up (up (eT e) a b) b a c)
          rw [up_ne qb, up_eq qa]
        · show _ = nI (up (up (eS e) a 1) b 2 c)
          rw [up_ne qb, up_eq qa]; rfl
        · unfold hI
          rw [if_neg (by show up (up (eS e) a 1) b 2 c ≠ 0; rw [up_ne qb, up_eq qa]; omega)]
          show _ = nI (up (up (eH e) a _) b _ c)
          rw [up_ne qb, up_eq qa]
      · simp (disch := omega) only [rd_ne, rd_eq]
        have e1 : eS (joinE e a b (10 * t + w)) c = eS e c := by show up (up (eS e) a 1) b 2 c = _; rw [up_ne qb, up_ne qa]
        have e2 : eT (joinE e a b (10 * t + w)) c = eT e c := by show up (up (eT e) a b) b a c = _; rw [up_ne qb, up_ne qa]
        have e3 : eH (joinE e a b (10 * t + w)) c = eH e c := by show up (up (eH e) a _) b _ c = _; rw [up_ne qb, up_ne qa]
        unfold mI hI at *
        rw [e1, e2, e3]
        exact ⟨k1, k2, k3, k4⟩
  · obtain ⟨g1, g2, g3, g4, g5, g6⟩ := h5 t' ht'
    by_cases q : t' = t
    · subst q
      refine ⟨?_, ?_, ?_, ?_, ?_, fun w' hw' => ?_⟩
      · simp (disch := omega) only [rd_ne, rd_eq]; exact g1
      · simp (disch := omega) only [rd_ne, rd_eq]; exact g2
      · simp (disch := omega) only [rd_ne, rd_eq]; exact g3
      · simp (disch := omega) only [rd_ne, rd_eq]
        rw [show x + 5 + 1 + 2 * t' = x + 6 + 2 * t' by omega, g4, or16 _ (heldE_16 hV ht) _ (by omega), heldE_join hV ha hab sa sb (by omega), if_pos rfl]
      · simp (disch := omega) only [rd_ne, rd_eq]; exact g5
      · simp (disch := omega) only [rd_ne, rd_eq]; exact g6 w' hw'
    · refine ⟨?_, ?_, ?_, ?_, ?_, fun w' hw' => ?_⟩
      · simp (disch := omega) only [rd_ne, rd_eq]; exact g1
      · simp (disch := omega) only [rd_ne, rd_eq]; exact g2
      · simp (disch := omega) only [rd_ne, rd_eq]; exact g3
      · simp (disch := omega) only [rd_ne, rd_eq]
        rw [g4, heldE_join hV ha hab sa sb (by omega), if_neg q]
      · simp (disch := omega) only [rd_ne, rd_eq]; exact g5
      · simp (disch := omega) only [rd_ne, rd_eq]; exact g6 w' hw'
  · repeat (first | exact Fr.refl | refine Fr.trans ?_ (Fr.wr (by omega)))
theorem c_part {M : Mem} {x a : Nat} {e : EX} {post : Int32 → Mem → Prop} (hM : ExC M x e) (hV : VE e) (ha : a < eM e) (sa : eS e a ≠ 0) (h : ∀ M', ExC M' x (partE e a) → Fr x (x + 16) M M' → post (nI (eT e a)) M') : w_X1_part x (nI a) M post := by
  have hm := hV.m
  obtain ⟨k1, k2, k3, k4, k5, k6⟩ := hV.2.2.2.2.2.1 a ha sa
  have hz := (hV.2.2.2.2.2.2.2 _ k5).2.1
  obtain ⟨h1, h2, h3, h4, h5⟩ := hM
  have hhold : eH e a < 50 := by omega
  unfold w_X1_part
  rw [tnI (by omega), (h4 a ha).2.1, (h4 a ha).2.2.2]
  unfold mI hI
  rw [if_neg sa, if_neg sa]
  refine ⟨vp_in_nI (by omega) (by omega), ?_⟩
  rintro v1 rfl
  refine ⟨vp_in_nI (by omega) (by omega), ?_⟩
  rintro v2 rfl
  rw [nI_div (by omega), nI_rem (by omega), tnI (by omega)]
  refine ⟨vp_in_nI (by omega) (by omega), ?_⟩
  rintro g3 rfl
  rintro M4 rfl
  refine c_release (by omega) ?_
  refine c_release (by omega) ?_
  rintro M7 rfl
  have hne : eT e a ≠ a := fun z => by rw [z] at k3; omega
  have hS := part_S (e := e) (a := a) (c := a) (d := eT e a) (Or.inl ⟨rfl, rfl⟩)
  generalize hb : eT e a = b at *
  refine h _ ⟨?_, ?_, ?_, fun c hc => ?_, fun t' ht' => ?_⟩ ?_
  · simp (disch := omega) only [rd_ne, rd_eq]; exact h1
  · simp (disch := omega) only [rd_ne, rd_eq]; exact h2
  · simp (disch := omega) only [rd_ne, rd_eq]
    rw [h3, ← callsE_part hV ha sa]
    exact nI_pred _
  · obtain ⟨j1, j2, j3, j4⟩ := h4 c hc
    by_cases q : c = a ∨ c = b
    · have e1 : eS (partE e a) c = 0 := by rw [hS, if_pos q]
      unfold mI hI
      rw [if_pos e1, if_pos e1, e1]
      by_cases qb : c = b
      · simp (disch := omega) only [rd_ne, rd_eq]
        exact ⟨j1, trivial, rfl, trivial⟩
      · have qa : c = a := q.resolve_right qb
        simp (disch := omega) only [rd_ne, rd_eq]
        exact ⟨j1, trivial, rfl, trivial⟩
    · have e1 : eS (partE e a) c = eS e c := by rw [hS, if_neg q]
      have qa : c ≠ a := fun z => q (Or.inl z)
      have qb : c ≠ b := fun z => q (Or.inr z)
      simp (disch := omega) only [rd_ne, rd_eq]
      unfold mI hI at *
      rw [e1]
      exact ⟨j1, j2, j3, j4⟩
  · obtain ⟨g1, g2, g3, g4, g5, g6⟩ := h5 t' ht'
    by_cases q : t' = eH e a / 10
    · refine ⟨?_, ?_, ?_, ?_, ?_, fun w' hw' => ?_⟩
      · simp (disch := omega) only [rd_ne, rd_eq]; exact g1
      · simp (disch := omega) only [rd_ne, rd_eq]; exact g2
      · simp (disch := omega) only [rd_ne, rd_eq]; exact g3
      · simp (disch := omega) only [rd_ne, rd_eq]
        rw [show x + 5 + 1 + 2 * (eH e a / 10) = x + 6 + 2 * t' by omega, g4, an16 _ (heldE_16 hV ht') _ (by omega)]
        congr 1
        refine bits4 (an16_lt _ (heldE_16 hV ht') _ (by omega)) (heldE_16 (VE_part hV ha sa) ht') (fun v hv => ?_)
        rw [an16_bit _ (heldE_16 hV ht') _ (by omega) _ hv, heldE_part_bit hV ha sa]
        constructor
        · rintro ⟨z1, z2⟩; exact ⟨z1, fun z => z2 z.2⟩
        · rintro ⟨z1, z2⟩; exact ⟨z1, fun z => z2 ⟨q.symm, z⟩⟩
      · simp (disch := omega) only [rd_ne, rd_eq]; exact g5
      · simp (disch := omega) only [rd_ne, rd_eq]; exact g6 w' hw'
    · refine ⟨?_, ?_, ?_, ?_, ?_, fun w' hw' => ?_⟩
      · simp (disch := omega) only [rd_ne, rd_eq]; exact g1
      · simp (disch := omega) only [rd_ne, rd_eq]; exact g2
      · simp (disch := omega) only [rd_ne, rd_eq]; exact g3
      · simp (disch := omega) only [rd_ne, rd_eq]
        rw [g4]
        congr 1
        refine bits4 (heldE_16 hV ht') (heldE_16 (VE_part hV ha sa) ht') (fun v hv => ?_)
        rw [heldE_part_bit hV ha sa]
        constructor
        · intro z; exact ⟨z, fun y => q y.1.symm⟩
        · exact fun z => z.1
      · simp (disch := omega) only [rd_ne, rd_eq]; exact g5
      · simp (disch := omega) only [rd_ne, rd_eq]; exact g6 w' hw'
  · repeat (first | exact Fr.refl | refine Fr.trans ?_ (Fr.wr (by omega)))
theorem c_ring {M : Mem} {x a n : Nat} {e : EX} {post : Int32 → Mem → Prop} (hM : ExC M x e) (hV : VE e) (ha : a < eM e) (sa : eS e a = 0) (hn : n ≤ 44) (h : ∀ M', ExC M' x (ringE e a n).2 → Fr x (x + 16) M M' → post (nI (ringE e a n).1) M') : w_X1_ring x (nI a) (nI n) M post := by
  have hm := hV.m
  have ht : n / 10 < 5 := by omega
  have hc := calls_le hV
  obtain ⟨zk, zz, zd, zl, -⟩ := hV.2.2.2.2.2.2.2 _ ht
  have hp := pickE_le hV ht
  obtain ⟨h1, h2, h3, h4, h5⟩ := id hM
  unfold w_X1_ring
  rw [h3, h2]
  unfold ringE at h
  refine ⟨fun c => ?_, fun c => ?_⟩
  · have q1 : ¬ eF e ≤ callsE e := fun z => nI_nlt z (by omega) c
    rw [if_neg q1] at h
    rintro v1 rfl
    rw [nI_div (by omega), tnI (by omega)]
    refine ⟨vp_in_nI ht (by omega), ?_⟩
    rintro g2 hg
    have hg : g2 = x + 6 + 2 * (n / 10) := by omega
    subst hg
    refine c_pick hV ht (h5 _ ht) ?_
    refine ⟨fun c2 => ?_, fun c2 => ?_⟩
    · have q2 : ¬ pickE e (n / 10) = 0 := fun z => c2 (by rw [z]; rfl)
      rw [if_neg q2] at h
      obtain ⟨w, hw⟩ : ∃ w, pickE e (n / 10) = w + 1 := ⟨pickE e (n / 10) - 1, by omega⟩
      have hfr := pkC_free (e := e) (t := n / 10) (eZ e (n / 10)) w hw
      rw [hw] at h ⊢
      rw [oI_s]
      rw [show w + 1 - 1 = w by omega] at h
      rintro M5 rfl
      rw [tnI (by omega)]
      refine ⟨vp_in_nI (by omega) (by omega), vp_in_nI (by omega) (by omega), ?_⟩
      rintro M6 rfl
      have hV1 := VE_take (w := w) hV ht (by omega)
      have hM1 : ExC (wr (wr M (x + 6 + 2 * (n / 10)) 4 (nI w)) (x + 6 + 2 * (n / 10) + 1) w (rd (wr M (x + 6 + 2 * (n / 10)) 4 (nI w)) (x + 6 + 2 * (n / 10) + 1) w + 1)) x (takeE e (n / 10) w) := by
        refine ⟨?_, ?_, ?_, fun c hc => ?_, fun t' ht' => ?_⟩
        · simp (disch := omega) only [rd_ne, rd_eq]; exact h1
        · simp (disch := omega) only [rd_ne, rd_eq]; exact h2
        · simp (disch := omega) only [rd_ne, rd_eq]; exact h3
        · simp (disch := omega) only [rd_ne, rd_eq]; exact h4 c hc
        · obtain ⟨g1, g2, g3, g4, g5, g6⟩ := h5 t' ht'
          by_cases q : t' = n / 10
          · refine ⟨?_, ?_, ?_, ?_, ?_, fun w' hw' => ?_⟩
            · simp (disch := omega) only [rd_ne, rd_eq]; exact g1
            · simp (disch := omega) only [rd_ne, rd_eq]; exact g2
            · simp (disch := omega) only [rd_ne, rd_eq]; exact g3
            · simp (disch := omega) only [rd_ne, rd_eq]; rw [heldE_take]; exact g4
            · simp (disch := omega) only [rd_ne, rd_eq]
              show _ = oI (up (eL e) (n / 10) (w + 1) t')
              rw [up_eq q, oI_s]
            · show _ = if t' = n / 10 ∧ w' = w then _ else _
              by_cases q2 : w' = w
              · rw [if_pos ⟨q, q2⟩]
                simp (disch := omega) only [rd_ne, rd_eq]
                rw [show x + 6 + 2 * (n / 10) + 1 = x + 6 + 2 * t' + 1 by omega, g6 w (by omega), q]
              · rw [if_neg (fun z => q2 z.2)]
                simp (disch := omega) only [rd_ne, rd_eq]; exact g6 w' hw'
          · refine ⟨?_, ?_, ?_, ?_, ?_, fun w' hw' => ?_⟩
            · simp (disch := omega) only [rd_ne, rd_eq]; exact g1
            · simp (disch := omega) only [rd_ne, rd_eq]; exact g2
            · simp (disch := omega) only [rd_ne, rd_eq]; exact g3
            · simp (disch := omega) only [rd_ne, rd_eq]; rw [heldE_take]; exact g4
            · simp (disch := omega) only [rd_ne, rd_eq]
              show _ = oI (up (eL e) (n / 10) (w + 1) t')
              rw [up_ne q]; exact g5
            · show _ = if t' = n / 10 ∧ w' = w then _ else _
              rw [if_neg (fun z => q z.1)]
              simp (disch := omega) only [rd_ne, rd_eq]; exact g6 w' hw'
      have hF1 : Fr x (x + 16) M (wr (wr M (x + 6 + 2 * (n / 10)) 4 (nI w)) (x + 6 + 2 * (n / 10) + 1) w (rd (wr M (x + 6 + 2 * (n / 10)) 4 (nI w)) (x + 6 + 2 * (n / 10) + 1) w + 1)) := by
        repeat (first | exact Fr.refl | refine Fr.trans ?_ (Fr.wr (by omega)))
      generalize (wr (wr M (x + 6 + 2 * (n / 10)) 4 (nI w)) (x + 6 + 2 * (n / 10) + 1) w (rd (wr M (x + 6 + 2 * (n / 10)) 4 (nI w)) (x + 6 + 2 * (n / 10) + 1) w + 1)) = M1 at hM1 hF1 ⊢
      have hd16 : eD e (n / 10) < 16 := by
        have : 2 ^ eZ e (n / 10) ≤ 2 ^ 4 := Nat.pow_le_pow_right (by omega) zz
        omega
      refine c_isDead (t := n / 10) (e := takeE e (n / 10) w) hd16 (hM1.2.2.2.2 _ ht).2.2.1 (by omega) ?_
      refine ⟨fun c3 => ?_, fun c3 => ?_⟩
      · have q3 : ¬ (eD e (n / 10)).testBit w = true := fun z => by
          rw [if_pos (show (eD (takeE e (n / 10) w) (n / 10)).testBit w = true from z)] at c3; exact absurd c3 (by decide)
        rw [if_neg q3] at h
        refine c_owner hM1 hV1 (by omega) ?_
        have hown : ownE (takeE e (n / 10) w) n = ownE e n := by
          have : ∀ k, ownN (takeE e (n / 10) w) n k = ownN e n k := fun k => by
            induction k with
            | zero => rfl
            | succ k ih => simp only [ownN]; rw [ih]; rfl
          exact this _
        rw [hown]
        refine ⟨fun c4 => ?_, fun c4 => ?_⟩
        · have q4 : ¬ ownE e n = 0 := fun z => c4 (by rw [z]; rfl)
          rw [if_neg q4] at h
          obtain ⟨b, hb⟩ : ∃ b, ownE e n = b + 1 := ⟨ownE e n - 1, by omega⟩
          have hbm := (own_some hb).1
          rw [hb] at h ⊢
          rw [oI_s]
          rw [show b + 1 - 1 = b by omega] at h
          refine ⟨fun c5 => ?_, fun c5 => ?_⟩
          · have q5 : b = a := nI_inj (by omega) (by omega) c5
            rw [if_pos (Or.inl q5)] at h
            exact h _ hM1 hF1
          · have q5 : ¬ b = a := fun z => c5 (by rw [z])
            rw [tnI (by omega), (hM1.2.2.2.1 b hbm).2.2.1]
            refine ⟨vp_in_nI (by omega) (by omega), fun c6 => ?_, fun c6 => ?_⟩
            · have hs := hV.2.2.2.2.1 b hbm
              have q6 : eS e b = 0 := nI_inj (by show eS e b < _; omega) (by omega) c6
              rw [if_neg (fun z => z.elim q5 (fun y => y q6))] at h
              rw [show (10 : Int32) * nI (n / 10) + nI w = nI (10 * (n / 10) + w) by rw [show (10 : Int32) = nI 10 from rfl, pk_mul, nI_add]]
              refine c_join hM1 hV1 ha hbm (fun z => q5 z.symm) sa q6 ht (by show w < eZ e (n / 10); omega) (fun M2 hM2 hF2 => h M2 hM2 (hF1.trans hF2))
            · have q6 : eS e b ≠ 0 := fun z => c6 (by show nI (eS e b) = 0; rw [z]; rfl)
              rw [if_pos (Or.inr q6)] at h
              exact h _ hM1 hF1
        · have q4 : ownE e n = 0 := (oI_4 (by
            rcases Nat.eq_zero_or_pos (ownE e n) with z | z
            · omega
            · have := (own_some (e := e) (n := n) (a := ownE e n - 1) (by omega)).1; omega)).mp c4
          rw [if_pos q4] at h
          exact h _ hM1 hF1
      · have q3 : (eD e (n / 10)).testBit w = true := by
          by_cases z : (eD e (n / 10)).testBit w = true
          · exact z
          · rw [if_neg (show ¬ (eD (takeE e (n / 10) w) (n / 10)).testBit w = true from z)] at c3; exact absurd rfl c3
        rw [if_pos q3] at h
        exact h _ hM1 hF1
    · have q2 : pickE e (n / 10) = 0 := (oI_4 (by omega)).mp c2
      rw [if_pos q2] at h
      exact h _ hM Fr.refl
  · have q1 : eF e ≤ callsE e := by
      rcases Nat.lt_or_ge (callsE e) (eF e) with z | z
      · exact absurd (nI_lt z (by have := hV.2.1.2; omega)) c
      · exact z
    rw [if_pos q1] at h
    exact h _ hM Fr.refl
