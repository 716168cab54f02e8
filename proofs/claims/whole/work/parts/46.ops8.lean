/-! calls that change the exchange -/
theorem op_plan {M : Mem} {v w : Int32} (hI : INV M) : w_X9_plan v w M (fun r M1 => w_X10_plan v w M1 (fun r' M2 => r = r' ∧ INV M2)) := by
  obtain ⟨e, c, hC, hR⟩ := id hI
  obtain ⟨hX, hY, hS, hSm, hV, hVS⟩ := id hC
  have h6 := hVS.2.1
  have h8 := hVS.1
  have hm := hV.m
  unfold w_X9_plan
  refine c_has hX.1 hV (fun a ha hv => ?_) (fun no => ⟨fun _ => ?_, fun q => absurd rfl q⟩)
  · subst hv
    have pre : ∀ (M1 : Mem) (P : Int32 → Mem → Prop), rd M1 129 24 = nI (eM e) → _ → w_X10_plan (nI a) w M1 P := fun M1 P h1 h => by
      unfold w_X10_plan
      exact m_isOne h1 hV (fun _ _ _ => ⟨fun q => absurd q (by decide), fun _ => h⟩) (fun no => absurd rfl (no a ha))
    refine ⟨fun q => absurd q (by decide), fun _ => c_isDialled (fun n hn hw => ⟨fun _ => ?_, fun q => absurd q (by decide)⟩) (fun no => ⟨fun q => absurd rfl q, fun _ => ?_⟩)⟩
    · subst hw
      rw [hS.1]
      refine ⟨fun q3 => ?_, fun q3 => ?_⟩
      · have hlt := (nI_ltI (b := 8) (by omega) (by decide)).mp q3
        unfold w_X5_addAct
        rw [hS.1, tnI (by omega)]
        refine ⟨vp_in_nI hlt (by omega), ?_⟩
        rintro M1 rfl
        rw [rd_ne (by omega), hS.1, tnI (by omega)]
        refine ⟨vp_in_nI hlt (by omega), ?_⟩
        rintro M2 rfl
        rw [rd_ne (by omega), rd_ne (by omega), hS.1, nI_1]
        rintro M3 hM3
        have r3 : ∀ x y, rd M3 x y = if x = 17 ∧ y = 0 then nI (sA c + 1) else if x = 19 ∧ y = sA c then nI n else if x = 18 ∧ y = sA c then nI a else rd M x y := fun x y => by
          rw [hM3, rd_wr, rd_wr, rd_wr]
        have f3 : Fr 1 50 M M3 := by rw [hM3]; repeat (first | exact Fr.refl | refine Fr.trans ?_ (Fr.wr (by omega)))
        have s3 : Fr 17 22 M M3 := by rw [hM3]; repeat (first | exact Fr.refl | refine Fr.trans ?_ (Fr.wr (by omega)))
        clear hM3
        rw [r3 17 0, if_pos ⟨rfl, rfl⟩]
        have e66 : rd M3 129 66 = nI (sA c) := by rw [s3.row (by omega)]; exact hSm.1
        refine pre _ _ (by rw [s3.row (by omega)]; exact hY.1) (m_isDialled (fun _ _ _ => ⟨fun _ => ?_, fun q => absurd q (by decide)⟩) (fun no => absurd rfl (no n hn)))
        rw [e66]
        refine ⟨fun _ => ?_, fun z => absurd (nI_inj (b := 8) (by omega) (by decide) z) (by omega)⟩
        rw [show (67 : Int32) + 2 * nI (sA c) = nI (67 + 2 * sA c) by rw [show (2 : Int32) = nI 2 from rfl, show (67 : Int32) = nI 67 from rfl, pk_mul, nI_add]]
        rintro v5 rfl
        rw [nI_1, tnI (by omega), tnI (by omega)]
        refine ⟨vp_in_nI (by omega) (by omega), ?_⟩
        rintro M6 rfl
        refine ⟨vp_in_nI (by omega) (by omega), ?_⟩
        rintro M7 rfl
        rw [rd_ne (by omega), rd_ne (by omega), e66, nI_1]
        rintro M8 hM8
        have r8 : ∀ x y, rd M8 x y = if x = 129 ∧ y = 66 then nI (sA c + 1) else if x = 129 ∧ y = 67 + 2 * sA c + 1 then nI n else if x = 129 ∧ y = 67 + 2 * sA c then nI a else rd M3 x y := fun x y => by
          rw [hM8, rd_wr, rd_wr, rd_wr]
        have f8 : FrS M3 M8 := by rw [hM8]; exact ((FrS.wr (by omega)).trans (FrS.wr (by omega))).trans (FrS.wr (by omega))
        clear hM8
        rw [r8 129 66, if_pos ⟨rfl, rfl⟩]
        refine ⟨rfl, hI.upd (c := planA c a n) f3 f8 (hX.fr s3 (by omega)) ⟨?_, ?_, fun i hi => ?_, fun j hj => ?_⟩ (hY.congr hV.m (fun k hk => ?_)) ⟨?_, ?_, fun i hi => ?_, fun j hj => ?_⟩ hV ⟨by show sA c + 1 ≤ 8; omega, hVS.2.1, fun i hi => ?_, hVS.2.2.2⟩⟩
        · rw [r3, if_pos ⟨rfl, rfl⟩]; rfl
        · rw [r3, if_neg (by omega), if_neg (by omega), if_neg (by omega)]; exact hS.2.1
        · have hi : i < sA c + 1 := hi
          show _ = nI (up (sW c) (sA c) a i) ∧ _ = nI (up (sD c) (sA c) n i)
          by_cases z : i = sA c
          · rw [r3, if_neg (by omega), if_neg (by omega), if_pos (by omega), r3, if_neg (by omega), if_pos (by omega), up_eq z, up_eq z]; exact ⟨rfl, rfl⟩
          · rw [r3, if_neg (by omega), if_neg (by omega), if_neg (by omega), r3, if_neg (by omega), if_neg (by omega), if_neg (by omega), up_ne z, up_ne z]; exact hS.2.2.1 i (by omega)
        · rw [r3, if_neg (by omega), if_neg (by omega), if_neg (by omega), r3, if_neg (by omega), if_neg (by omega), if_neg (by omega)]; exact hS.2.2.2 j hj
        · show rd M8 129 k = rd M 129 k
          rw [r8, if_neg (by omega), if_neg (by omega), if_neg (by omega), s3.row (by omega)]
        · show rd M8 129 66 = _
          rw [r8, if_pos ⟨rfl, rfl⟩]; rfl
        · show rd M8 129 83 = _
          rw [r8, if_neg (by omega), if_neg (by omega), if_neg (by omega), s3.row (by omega)]; exact hSm.2.1
        · have hi : i < sA c + 1 := hi
          show rd M8 129 (67 + 2 * i) = nI (up (sW c) (sA c) a i) ∧ rd M8 129 (68 + 2 * i) = nI (up (sD c) (sA c) n i)
          by_cases z : i = sA c
          · rw [r8, if_neg (by omega), if_neg (by omega), if_pos (by omega), r8, if_neg (by omega), if_pos (by omega), up_eq z, up_eq z]; exact ⟨rfl, rfl⟩
          · rw [r8, if_neg (by omega), if_neg (by omega), if_neg (by omega), r8, if_neg (by omega), if_neg (by omega), if_neg (by omega), s3.row (by omega), s3.row (by omega), up_ne z, up_ne z]; exact hSm.2.2.1 i (by omega)
        · have hj : j < sN c := hj
          show rd M8 129 (84 + 2 * j) = _ ∧ rd M8 129 (85 + 2 * j) = _
          rw [r8, if_neg (by omega), if_neg (by omega), if_neg (by omega), s3.row (by omega), r8, if_neg (by omega), if_neg (by omega), if_neg (by omega), s3.row (by omega)]; exact hSm.2.2.2 j hj
        · have hi : i < sA c + 1 := hi
          show up (sW c) (sA c) a i < eM e ∧ (up (sD c) (sA c) n i = 99 ∨ numOK (up (sD c) (sA c) n i))
          by_cases z : i = sA c
          · rw [up_eq z, up_eq z]; exact ⟨ha, hn⟩
          · rw [up_ne z, up_ne z]; exact hVS.2.2.1 i (by omega)
      · have hge : sA c = 8 := by
          rcases Nat.lt_or_ge (sA c) 8 with z | z
          · exact absurd (nI_lt (b := 8) z (by decide)) q3
          · omega
        refine pre _ _ hY.1 (m_isDialled (fun _ _ _ => ⟨fun _ => ?_, fun q => absurd q (by decide)⟩) (fun no => absurd rfl (no n hn)))
        rw [show rd M 129 66 = _ from hSm.1, hge]
        exact ⟨fun z => absurd rfl z, fun _ => ⟨rfl, hI⟩⟩
    · exact pre _ _ hY.1 (m_isDialled (fun n hn hw => absurd hw (no n hn)) (fun _ => ⟨fun q => absurd rfl q, fun _ => ⟨rfl, hI⟩⟩))
  · unfold w_X10_plan
    exact m_isOne hY.1 hV (fun a ha hv => absurd hv (no a ha)) (fun _ => ⟨fun _ => ⟨rfl, hI⟩, fun q => absurd rfl q⟩)
theorem op_finders {M : Mem} {v : Int32} (hI : INV M) : w_X9_finders v M (fun r M1 => w_X10_finders v M1 (fun r' M2 => r = r' ∧ INV M2)) := by
  obtain ⟨e, c, hC, hR⟩ := id hI
  obtain ⟨hX, hY, hS, hSm, hV, hVS⟩ := id hC
  have hm := hV.m
  have hc6 := calls_le hV
  have bad : (∀ k, 1 ≤ k → k < 7 → v ≠ nI k) → w_X10_finders v M (fun r' M2 => -1 = r' ∧ INV M2) := fun no => by
    unfold w_X10_finders
    exact m_inR (l := 1) (n := 7) rfl rfl (by omega) (fun k h1 h2 hv => absurd hv (no k h1 h2)) (fun _ => ⟨fun q => absurd rfl q, fun _ => ⟨rfl, hI⟩⟩)
  unfold w_X9_finders
  refine ⟨fun q => bad (fun k h1 h2 hv => ?_), fun q => ⟨fun q2 => ?_, fun q2 => bad (fun k h1 h2 => bnd_hi' (n := 6) q2 h2 (by decide))⟩⟩
  · rw [hv] at q; have := (nI_ltI (b := 1) (by omega) (by decide)).mp q; omega
  obtain ⟨n, hn7, rfl⟩ := bnd_in' (n := 6) (by decide) (fun z => q (Int32.lt_of_lt_of_le z (by decide))) q2
  have h1 : 1 ≤ n := by
    rcases Nat.lt_or_ge n 1 with z | z
    · exact absurd (nI_lt (b := 1) z (by decide)) q
    · exact z
  rw [hX.2.2.1, hX.2.1]
  have pre : ∀ (M1 : Mem) (P : Int32 → Mem → Prop), _ → w_X10_finders (nI n) M1 P := fun M1 P h => by
    unfold w_X10_finders
    exact m_inR (l := 1) (n := 7) rfl rfl (by omega) (fun _ _ _ _ => ⟨fun _ => h, fun q => absurd q (by decide)⟩) (fun no => absurd rfl (no n h1 (by omega)))
  refine ⟨fun q3 => ?_, fun q3 => ?_⟩
  · rintro v1 rfl M2 hM2
    have f2 : Fr 1 2 M M2 := by rw [hM2]; exact Fr.wr (by omega)
    have hX2 : ExC M2 1 (finE e n) := by rw [hM2]; exact c_setFin hX
    have hP2 := hC.ref.fr f2 (by omega)
    refine pre _ _ (m_starts (fun M3 a1 a2 => ?_))
    have hP3 := hP2.fr a2 (by omega)
    refine m_callsNow (hP2.st a1).1 hV ⟨fun _ => ?_, fun z => absurd q3 z⟩
    refine m_becomes (k := 25) rfl (by omega) ?_
    refine ⟨by rw [show rd M3 129 25 = _ from hP3.1.2.1], hI.upd (e := finE e n) (c := c) (f2.sub (by omega)) (((FrM.of130 a2).s).trans (FrS.wr (by omega))) hX2 (hS.fr f2 (by omega)) (hP3.1.fin hm (rd_eq ⟨rfl, rfl⟩) (fun k _ hk => rd_ne (by omega))) (hP3.2.1.congr ⟨hVS.1, hVS.2.1⟩ (fun k hk _ => rd_ne (by omega))) (VE_finE hV (by omega)) hVS⟩
  · refine pre _ _ (m_starts (fun M3 a1 a2 => ?_))
    refine m_callsNow (hC.ref.st a1).1 hV ⟨fun z => absurd z q3, fun _ => ⟨rfl, hI.frM (FrM.of130 a2)⟩⟩
theorem op_hunt {M : Mem} {v w : Int32} (hI : INV M) : w_X9_hunt v w M (fun r M1 => w_X10_hunt v w M1 (fun r' M2 => r = r' ∧ INV M2)) := by
  obtain ⟨e, c, hC, hR⟩ := id hI
  obtain ⟨hX, hY, hS, hSm, hV, hVS⟩ := id hC
  have hm := hV.m
  unfold w_X9_hunt
  refine c_isGroup (fun t ht hv => ?_) (fun no => ⟨fun _ => ?_, fun q => absurd rfl q⟩)
  · subst hv
    have pre : ∀ (M1 : Mem) (P : Int32 → Mem → Prop), _ → w_X10_hunt (nI t) w M1 P := fun M1 P h => by
      unfold w_X10_hunt
      exact m_isGroup (fun _ _ _ => ⟨fun q => absurd q (by decide), fun _ => h⟩) (fun no => absurd rfl (no t ht))
    have bad : (∀ k, k < 4 → w ≠ nI k) → w_X10_hunt (nI t) w M (fun r' M2 => -1 = r' ∧ INV M2) := fun no => pre _ _ (m_inR (l := 0) (n := 4) rfl rfl (by omega) (fun k _ hk hv => absurd hv (no k hk)) (fun _ => ⟨fun _ => ⟨rfl, hI⟩, fun q => absurd rfl q⟩))
    refine ⟨fun q => absurd q (by decide), fun _ => ⟨fun q => bad (fun k hk => bnd_lo q (by omega)), fun q => ⟨fun q2 => ?_, fun q2 => bad (fun k hk => bnd_hi' (n := 3) q2 hk (by decide))⟩⟩⟩
    obtain ⟨k, hk, rfl⟩ := bnd_in' (n := 3) (by decide) q q2
    rw [tnI (by omega)]
    refine ⟨vp_in_nI ht (by omega), ?_⟩
    rintro g hg
    obtain rfl : g = 1 + 6 + 2 * t := by omega
    rintro v4 rfl
    refine ⟨vp_in_nI ht (by omega), ?_⟩
    rintro g hg
    obtain rfl : g = 1 + 6 + 2 * t := by omega
    rintro M6 hM6
    have f6 : Fr (1 + 6 + 2 * t) (1 + 6 + 2 * t + 1) M M6 := by rw [hM6]; exact Fr.wr (by omega)
    have hX6 : ExC M6 1 (kindE e t k) := by rw [hM6]; exact c_setKind hX ht
    have hP := hC.ref.fr f6 (by omega)
    refine pre _ _ (m_inR (l := 0) (n := 4) rfl rfl (by omega) (fun _ _ _ _ => ⟨fun q => absurd q (by decide), fun _ => ?_⟩) (fun no => absurd rfl (no k (by omega) (by omega))))
    refine m_becomes (k := 26 + 4 * t) (by rw [show (4 : Int32) = nI 4 from rfl, show (26 : Int32) = nI 26 from rfl, show (0 : Int32) = nI 0 from rfl, pk_mul, nI_add, nI_add]; rfl) (by omega) ?_
    refine ⟨?_, hI.upd (e := kindE e t k) (c := c) (f6.sub (by omega)) (FrS.wr (by omega)) hX6 (hS.fr f6 (by omega)) (hP.1.kind hm ht (rd_eq ⟨rfl, rfl⟩) (fun k _ hk => rd_ne (by omega))) (hP.2.1.congr ⟨hVS.1, hVS.2.1⟩ (fun k hk _ => rd_ne (by omega))) (VE_kindE hV (by omega)) hVS⟩
    rw [(hX.2.2.2.2 t ht).1, show rd M6 129 (26 + 4 * t) = _ from (hP.1.2.2.2 t ht).1]
  · unfold w_X10_hunt
    exact m_isGroup (fun t ht hv => absurd hv (no t ht)) (fun _ => ⟨fun _ => ⟨rfl, hI⟩, fun q => absurd rfl q⟩)
/-- the row at hand goes back -/
def FrD (M M' : Mem) : Prop := Fr 129 131 M M' ∧ ∀ k, 96 ≤ k → rd M' 129 k = rd M 129 k
theorem FrD.s {M M' : Mem} (h : FrD M M') : FrS M M' := fun i k p => by
  by_cases q : i = 129
  · subst q; exact h.2 k (by unfold PS at p; omega)
  · exact h.1.row (by unfold PS at p; omega) k
theorem m_back {M M1 M2 : Mem} {e : EX} {c : SC} {post : Mem → Prop} (a2 : Fr 130 131 M M1) (b2 : FrN M1 M2) (hE : ExM (R130 M2) e) (hS : ScM (R130 M1) c) (hV : VE e) (hVS : VS (eM e) c) (h : ∀ M', RefP M' e c → FrD M M' → post M') : w_X10_settles M2 post := by
  refine m_settles (fun M' k1 k2 k3 => h M' ⟨hE.congr hV.m (fun k hk => k1 k (by omega)), (hS.frN ⟨hVS.1, hVS.2.1⟩ b2).congr ⟨hVS.1, hVS.2.1⟩ (fun k _ hk => k1 k hk), hV, hVS⟩ ⟨(a2.sub (by omega)).trans ((b2.1.sub (by omega)).trans (k3.sub (by omega))), fun k hk => ?_⟩)
  rw [k2 k hk, b2.1.row (by omega), a2.row (by omega)]
theorem op_ways {M : Mem} {v w : Int32} (hI : INV M) : w_X9_ways v w M (fun r M1 => w_X10_ways v w M1 (fun r' M2 => r = r' ∧ INV M2)) := by
  obtain ⟨e, c, hC, hR⟩ := id hI
  obtain ⟨hX, hY, hS, hSm, hV, hVS⟩ := id hC
  have hm := hV.m
  unfold w_X9_ways
  refine c_isGroup (fun t ht hv => ?_) (fun no => ⟨fun _ => ?_, fun q => absurd rfl q⟩)
  · subst hv
    have pre : ∀ (M1 : Mem) (P : Int32 → Mem → Prop), _ → w_X10_ways (nI t) w M1 P := fun M1 P h => by
      unfold w_X10_ways
      exact m_isGroup (fun _ _ _ => ⟨fun q => absurd q (by decide), fun _ => h⟩) (fun no => absurd rfl (no t ht))
    have bad : (∀ k, k < 5 → w ≠ nI k) → w_X10_ways (nI t) w M (fun r' M2 => -1 = r' ∧ INV M2) := fun no => pre _ _ (m_inR (l := 0) (n := 5) rfl rfl (by omega) (fun k _ hk hv => absurd hv (no k hk)) (fun _ => ⟨fun q => absurd rfl q, fun _ => ⟨rfl, hI⟩⟩))
    refine ⟨fun q => absurd q (by decide), fun _ => ⟨fun q => bad (fun k hk => bnd_lo q (by omega)), fun q => ⟨fun q2 => ?_, fun q2 => bad (fun k hk => bnd_hi' (n := 4) q2 hk (by decide))⟩⟩⟩
    obtain ⟨k, hk, rfl⟩ := bnd_in' (n := 4) (by decide) q q2
    rw [tnI (by omega)]
    refine ⟨vp_in_nI ht (by omega), ?_⟩
    rintro g hg
    obtain rfl : g = 1 + 6 + 2 * t := by omega
    have h16 := heldE_16 hV ht
    have hlt : heldE e t / 2 ^ k < 2 ^ 31 := Nat.lt_of_le_of_lt (Nat.div_le_self _ _) (by omega)
    have ref : ∀ (M1 : Mem) (P : Int32 → Mem → Prop), RefP M1 e c → (heldE e t < 2 ^ k → ∀ M', RefP M' (sizeE e t k) c → FrD M1 M' → P (nI (eZ e t)) M') → (¬ heldE e t < 2 ^ k → ∀ M', Fr 130 131 M1 M' → P (-2) M') → w_X10_ways (nI t) (nI k) M1 P := fun M1 P hP y1 y2 => by
      refine pre _ _ (m_inR (l := 0) (n := 5) rfl rfl (by omega) (fun _ _ _ _ => ⟨fun _ => ?_, fun q => absurd q (by decide)⟩) (fun no => absurd rfl (no k (by omega) (by omega))))
      refine m_starts (fun M2 a1 a2 => ?_)
      obtain ⟨hE, hSc⟩ := hP.st a1
      refine m_ofGroup (k := 1) rfl (by omega) ?_
      rw [show rd M2 130 (26 + 4 * t + 1) = nI (eZ e t) by rw [show 26 + 4 * t + 1 = 27 + 4 * t by omega]; exact (hE.2.2.2 t ht).2.1]
      refine m_held hE hV ht ?_
      rw [shr16 _ h16 _ (by omega)]
      refine ⟨fun z => ?_, fun z => ?_⟩
      · have hh : heldE e t < 2 ^ k := by
          have z := nI_inj (b := 0) hlt (by decide) z
          rcases Nat.lt_or_ge (heldE e t) (2 ^ k) with y | y
          · exact y
          · have : 0 < heldE e t / 2 ^ k := Nat.div_pos y (Nat.two_pow_pos k)
            omega
        have hV1 := VE_sizeE hV ht (n := k) (by omega) hh
        refine m_hasWays hE hV ht (by omega) (fun M3 b1 b2 => ?_)
        exact m_back a2 b2 b1 hSc hV1 hVS (fun M' c1 c2 => y1 hh M' c1 c2)
      · exact y2 (fun y => z (by rw [Nat.div_eq_of_lt y]; rfl)) M2 a2
    refine c_isFreeFrom hV ht (hX.2.2.2.2 t ht).2.2.2.1 (by omega) ⟨fun z => ?_, fun z => ?_⟩
    · have hh : heldE e t < 2 ^ k := by
        by_cases y : heldE e t < 2 ^ k
        · exact y
        · rw [if_neg y] at z; exact absurd rfl z
      rw [(hX.2.2.2.2 t ht).2.1]
      rintro v6 rfl
      refine c_resize hX hV ht (by omega) rfl (fun M1 b1 b2 => ?_)
      refine ref M1 _ (hC.ref.fr b2 (by omega)) (fun _ M' c1 c2 => ?_) (fun y => absurd hh y)
      exact ⟨rfl, hI.upd (e := sizeE e t k) (c := c) (b2.sub (by omega)) c2.s b1 (hS.fr b2 (by omega)) c1.1 c1.2.1 c1.2.2.1 c1.2.2.2⟩
    · have hh : ¬ heldE e t < 2 ^ k := fun y => by rw [if_pos y] at z; exact absurd z (by decide)
      exact ref M _ hC.ref (fun y => absurd y hh) (fun _ M' c1 => ⟨rfl, hI.frM (FrM.of130 c1)⟩)
  · unfold w_X10_ways
    exact m_isGroup (fun t ht hv => absurd hv (no t ht)) (fun _ => ⟨fun _ => ⟨rfl, hI⟩, fun q => absurd rfl q⟩)
theorem op_dead {M : Mem} {v w z : Int32} (hI : INV M) : w_X9_dead v w z M (fun r M1 => w_X10_dead v w z M1 (fun r' M2 => r = r' ∧ INV M2)) := by
  obtain ⟨e, c, hC, hR⟩ := id hI
  obtain ⟨hX, hY, hS, hSm, hV, hVS⟩ := id hC
  have hm := hV.m
  unfold w_X9_dead
  refine c_isWay hX hV (fun t k ht hk hv hw => ?_) (fun no => ⟨fun q => absurd rfl q, fun _ => ?_⟩)
  · subst hv
    subst hw
    obtain ⟨-, hz, hd2, -⟩ := hV.2.2.2.2.2.2.2 t ht
    have hd := hV.d16 ht
    rw [tnI (by omega)]
    refine ⟨fun _ => ⟨vp_in_nI ht (by omega), ?_⟩, fun q => absurd q (by decide)⟩
    rintro g hg
    obtain rfl : g = 1 + 6 + 2 * t := by omega
    have fin : ∀ (r : Int32) (d : Nat), d < 2 ^ eZ e t → r = nI (if (eD e t).testBit k = true then 1 else 0) → (z = 0 → nI d = nI (eD e t) &&& ((ishl 1 (nI k)) ^^^ (-1))) → (¬ z = 0 → nI d = nI (eD e t) ||| (ishl 1 (nI k))) → ∀ M1, M1 = wr M (1 + 6 + 2 * t) 2 (nI d) → w_X10_dead (nI t) (nI k) z M1 (fun r' M2 => r = r' ∧ INV M2) := fun r d hdd hr y1 y2 M1 hM1 => by
      have f1 : Fr (1 + 6 + 2 * t) (1 + 6 + 2 * t + 1) M M1 := by rw [hM1]; exact Fr.wr (by omega)
      have hX1 : ExC M1 1 (deadE e t d) := by rw [hM1]; exact c_setDead hX ht
      have hP := hC.ref.fr f1 (by omega)
      have e28 : rd M1 129 (28 + 4 * t) = nI (eD e t) := (hP.1.2.2.2 t ht).2.2.1
      unfold w_X10_dead
      refine m_isWay hP.1 hV (fun _ _ _ _ _ _ => ⟨fun _ => ?_, fun q => absurd q (by decide)⟩) (fun no => absurd rfl (no t k ht hk rfl))
      rintro v5 hv5
      obtain rfl : v5 = nI (28 + 4 * t) := by rw [hv5, show (4 : Int32) = nI 4 from rfl, show (26 : Int32) = nI 26 from rfl, show (2 : Int32) = nI 2 from rfl, pk_mul, nI_add, nI_add, show 26 + 4 * t + 2 = 28 + 4 * t by omega]
      rw [tnI (by omega), e28]
      have vi : vp_in (nI (28 + 4 * t)) 288 := vp_in_nI (by omega) (by omega)
      have done : ∀ s2, s2 = nI d → w_X10_dead_J55 (fun r' M2 => r = r' ∧ INV M2) (nI k) (nI (28 + 4 * t)) s2 M1 := fun s2 hs2 => by
        subst hs2
        unfold w_X10_dead_J55
        refine m_becomes (k := 28 + 4 * t) rfl (by omega) ?_
        rw [e28, bit16 _ hd _ (by omega)]
        exact ⟨hr, hI.upd (e := deadE e t d) (c := c) (f1.sub (by omega)) (FrS.wr (by omega)) hX1 (hS.fr f1 (by omega)) (hP.1.dead hm ht (rd_eq ⟨rfl, rfl⟩) (fun k _ hk => rd_ne (by omega))) (hP.2.1.congr ⟨hVS.1, hVS.2.1⟩ (fun k hk _ => rd_ne (by omega))) (VE_deadE hV hdd) hVS⟩
      exact ⟨fun q => ⟨vi, done _ (y1 q).symm⟩, fun q => ⟨vi, done _ (y2 q).symm⟩⟩
    have c36 : ∀ r, r = nI (if (eD e t).testBit k = true then 1 else 0) → w_X9_dead_J36 (fun r M1 => w_X10_dead (nI t) (nI k) z M1 (fun r' M2 => r = r' ∧ INV M2)) (nI k) z (1 + 6 + 2 * t) r M := fun r hr => by
      unfold w_X9_dead_J36
      rw [(hX.2.2.2.2 t ht).2.2.1]
      refine ⟨fun q => ?_, fun q => ?_⟩
      · rw [an16 _ hd _ (by omega)]
        rintro M1 hM1
        exact fin r _ (Nat.lt_of_le_of_lt Nat.and_le_left hd2) hr (fun _ => (an16 _ hd _ (by omega)).symm) (fun y => absurd q y) M1 hM1
      · rw [or16 _ hd _ (by omega)]
        rintro M1 hM1
        exact fin r _ (Nat.or_lt_two_pow hd2 (Nat.pow_lt_pow_right (by omega) hk)) hr (fun y => absurd y q) (fun _ => (or16 _ hd _ (by omega)).symm) M1 hM1
    refine c_isDead hd (hX.2.2.2.2 t ht).2.2.1 (by omega) ⟨fun q => c36 _ ?_, fun q => c36 _ ?_⟩
    · rw [b2n q]; rfl
    · rw [b2y q]; rfl
  · unfold w_X10_dead
    exact m_isWay hY hV (fun t k ht hk hv hw => absurd hw (no t k ht hk hv)) (fun _ => ⟨fun q => absurd rfl q, fun _ => ⟨rfl, hI⟩⟩)
