/-! images -/
theorem c5_copyFrom {M : Mem} {x y : Nat} {c : SC} {post : Mem → Prop} (hS : ScC M y c) (hm : sA c ≤ 8 ∧ sN c ≤ 6) (hd : x + 5 ≤ y ∨ y + 5 ≤ x) (h : ∀ M', ScC M' x c → Fr x (x + 5) M M' → post M') : w_X5_copyFrom x y M post := by
  obtain ⟨m1, m2⟩ := hm
  obtain ⟨h1, h2, h3, h4⟩ := hS
  unfold w_X5_copyFrom
  rintro M7 rfl
  rw [rd_ne (by omega), h1, h2]
  rintro M8 hM8
  have g1 : rd M8 x 0 = nI (sA c) := by rw [hM8, rd_ne (by omega), rd_eq ⟨rfl, rfl⟩]
  have g2 : rd M8 x 1 = nI (sN c) := by rw [hM8, rd_eq ⟨rfl, rfl⟩]
  have f8 : Fr x (x + 5) M M8 := by rw [hM8]; exact (Fr.wr (by omega)).trans (Fr.wr (by omega))
  clear hM8
  refine loop_0 (fun n i (s : Mem) => w_X5_copyFrom_L18 x y post n (nI i) s) (fun i s => (rd s x 0 = nI (sA c) ∧ rd s x 1 = nI (sN c)) ∧ (∀ j, j < i → rd s (x + 1) j = nI (sW c j) ∧ rd s (x + 2) j = nI (sD c j)) ∧ Fr x (x + 5) M s) (sA c) M8 ⟨⟨g1, g2⟩, fun j hj => by omega, f8⟩ ?_ ?_
  · rintro n s ⟨⟨k1, k2⟩, k3, k4⟩
    show w_X5_copyFrom_L18 x y post (n + 1) _ s
    unfold w_X5_copyFrom_L18
    rw [k1]
    refine ⟨fun _ => ?_, fun q => absurd (nI_le (Nat.le_refl _) (by omega)) q⟩
    refine loop_0 (fun n i (s : Mem) => w_X5_copyFrom_L58 x y post n (nI i) s) (fun i s => (rd s x 0 = nI (sA c) ∧ rd s x 1 = nI (sN c)) ∧ (∀ j, j < sA c → rd s (x + 1) j = nI (sW c j) ∧ rd s (x + 2) j = nI (sD c j)) ∧ (∀ j, j < i → rd s (x + 3) j = nI (sI c j) ∧ rd s (x + 4) j = nI (sF c j)) ∧ Fr x (x + 5) M s) (sN c) s ⟨⟨k1, k2⟩, k3, fun j hj => by omega, k4⟩ ?_ ?_
    · rintro n s ⟨⟨k1, k2⟩, k3, k5, k4⟩
      show w_X5_copyFrom_L58 x y post (n + 1) _ s
      unfold w_X5_copyFrom_L58
      rw [k2]
      exact ⟨fun _ => h s ⟨k1, k2, k3, k5⟩ k4, fun q => absurd (nI_le (Nat.le_refl _) (by omega)) q⟩
    · rintro n i s hi ⟨⟨k1, k2⟩, k3, k5, k4⟩ kk
      show w_X5_copyFrom_L58 x y post (n + 1) _ s
      unfold w_X5_copyFrom_L58
      rw [k2, tnI (by omega)]
      have v6 : vp_in (nI i) 6 := vp_in_nI (by omega) (by omega)
      refine ⟨fun q => absurd q (nI_ge hi (by omega)), fun _ => ⟨v6, v6, ?_⟩⟩
      rintro M1 rfl
      refine ⟨v6, v6, ?_⟩
      rintro M2 rfl v rfl
      rw [nI_1, rd_ne (by omega), k4.row (by omega), k4.row (by omega), (h4 i hi).1, (h4 i hi).2]
      refine kk _ ⟨⟨?_, ?_⟩, fun j hj => ?_, fun j hj => ?_, k4.trans ((Fr.wr (by omega)).trans (Fr.wr (by omega)))⟩
      · rw [rd_ne (by omega), rd_ne (by omega)]; exact k1
      · rw [rd_ne (by omega), rd_ne (by omega)]; exact k2
      · rw [rd_ne (by omega), rd_ne (by omega), rd_ne (by omega), rd_ne (by omega)]; exact k3 j hj
      · by_cases q : j = i
        · rw [rd_ne (by omega), rd_eq ⟨rfl, q⟩, rd_eq ⟨rfl, q⟩, q]; exact ⟨rfl, rfl⟩
        · rw [rd_ne (by omega), rd_ne (by omega), rd_ne (by omega), rd_ne (by omega)]; exact k5 j (by omega)
  · rintro n i s hi ⟨⟨k1, k2⟩, k3, k4⟩ kk
    show w_X5_copyFrom_L18 x y post (n + 1) _ s
    unfold w_X5_copyFrom_L18
    rw [k1, tnI (by omega)]
    have v8 : vp_in (nI i) 8 := vp_in_nI (by omega) (by omega)
    refine ⟨fun q => absurd q (nI_ge hi (by omega)), fun _ => ⟨v8, v8, ?_⟩⟩
    rintro M1 rfl
    refine ⟨v8, v8, ?_⟩
    rintro M2 rfl v rfl
    rw [nI_1, rd_ne (by omega), k4.row (by omega), k4.row (by omega), (h3 i hi).1, (h3 i hi).2]
    refine kk _ ⟨⟨?_, ?_⟩, fun j hj => ?_, k4.trans ((Fr.wr (by omega)).trans (Fr.wr (by omega)))⟩
    · rw [rd_ne (by omega), rd_ne (by omega)]; exact k1
    · rw [rd_ne (by omega), rd_ne (by omega)]; exact k2
    · by_cases q : j = i
      · rw [rd_ne (by omega), rd_eq ⟨rfl, q⟩, rd_eq ⟨rfl, q⟩, q]; exact ⟨rfl, rfl⟩
      · rw [rd_ne (by omega), rd_ne (by omega), rd_ne (by omega), rd_ne (by omega)]; exact k3 j (by omega)
theorem m_copies {M : Mem} {a b : Nat} {u v : Int32} {post : Mem → Prop} (hu : u = nI a) (hv : v = nI b) (ha : a + 96 ≤ 288) (hb : b + 96 ≤ 288) (hd : a + 96 ≤ b ∨ b + 96 ≤ a) (h : ∀ M', (∀ j, j < 96 → rd M' 129 (a + j) = rd M 129 (b + j)) → (∀ i q, ¬ (i = 129 ∧ a ≤ q ∧ q < a + 96) → rd M' i q = rd M i q) → post M') : w_X10_copies u v M post := by
  subst hu
  subst hv
  unfold w_X10_copies
  refine loop_0 (fun n i (s : Mem) => w_X10_copies_L2 post (nI a) (nI b) n (nI i) s) (fun i s => (∀ j, j < i → rd s 129 (a + j) = rd M 129 (b + j)) ∧ (∀ i q, ¬ (i = 129 ∧ a ≤ q ∧ q < a + 96) → rd s i q = rd M i q)) 96 M ⟨fun j hj => by omega, fun _ _ _ => rfl⟩ ?_ ?_
  · rintro n s ⟨k1, k2⟩
    show w_X10_copies_L2 post _ _ (n + 1) _ s
    unfold w_X10_copies_L2
    exact ⟨fun _ => h s k1 k2, fun q => absurd (nI_le (a := 96) (Nat.le_refl _) (by decide)) q⟩
  · rintro n i s hi ⟨k1, k2⟩ kk
    show w_X10_copies_L2 post _ _ (n + 1) _ s
    unfold w_X10_copies_L2
    rw [nI_add, nI_add, tnI (by omega), tnI (by omega)]
    refine ⟨fun q => absurd q (nI_ge (b := 96) hi (by decide)), fun _ => ⟨vp_in_nI (by omega) (by omega), vp_in_nI (by omega) (by omega), ?_⟩⟩
    rintro M1 rfl v rfl
    rw [nI_1]
    refine kk _ ⟨fun j hj => ?_, fun i' q hq => ?_⟩
    · by_cases z : j = i
      · rw [rd_eq ⟨rfl, by omega⟩, k2 _ _ (by omega), z]
      · rw [rd_ne (by omega)]; exact k1 j (by omega)
    · rw [rd_ne (by omega)]; exact k2 i' q hq
theorem INV.img {M M' : Mem} {k : Nat} (h : INV M) (hk : k < 2) (hK : ImP M' k) (s : ∀ i q, ¬ (76 + 22 * k ≤ i ∧ i < 98 + 22 * k) → ¬ (i = 131 ∧ q = k) → ¬ (i = 129 ∧ 96 * (k + 1) ≤ q ∧ q < 96 * (k + 2)) → (i < 22 ∨ P2 i q ∨ (i = 129 ∧ q < 96)) → rd M' i q = rd M i q) : INV M' := by
  obtain ⟨e, c, hC, hR⟩ := h
  refine ⟨e, c, hC.at (fun i q a b => s _ _ (by omega) (by omega) (by omega) (by omega)) (fun q _ => s _ _ (by omega) (by omega) (by omega) (by omega)), ?_, ⟨?_, ?_⟩, fun j hj => (hR.2.2.1 j hj).at (fun i q p => s _ _ (by omega) (by omega) (by omega) (by unfold P2; omega)), fun j hj => ?_⟩
  · obtain ⟨n, hn, t1, t2, t3⟩ := hR.1
    refine ⟨n, hn, ?_, ?_, fun k hk => ?_⟩
    · rw [s _ _ (by omega) (by omega) (by omega) (by unfold P2; omega)]; exact t1
    · rw [s _ _ (by omega) (by omega) (by omega) (by unfold P2; omega)]; exact t2
    · rw [s 52 k (by omega) (by omega) (by omega) (by unfold P2; omega), s 133 k (by omega) (by omega) (by omega) (by unfold P2; omega)]; exact t3 k hk
  · rw [s _ _ (by omega) (by omega) (by omega) (by unfold P2; omega), s 128 14 (by omega) (by omega) (by omega) (by unfold P2; omega)]; exact hR.2.1.1
  · rw [s _ _ (by omega) (by omega) (by omega) (by unfold P2; omega), s 128 26 (by omega) (by omega) (by omega) (by unfold P2; omega)]; exact hR.2.1.2
  · by_cases z : j = k
    · rw [z]; exact hK
    · exact (hR.2.2.2 j hj).at (fun i q p => s _ _ (by omega) (by omega) (by omega) (by unfold P2; omega))
theorem op_keep {M : Mem} {v : Int32} (hI : INV M) : w_X9_keep v M (fun r M1 => w_X10_keep v M1 (fun r' M2 => r = r' ∧ INV M2)) := by
  obtain ⟨e, c, hC, hR⟩ := id hI
  obtain ⟨hX, hY, hS, hSm, hV, hVS⟩ := id hC
  have bad : (∀ k, k < 2 → v ≠ nI k) → w_X10_keep v M (fun r' M2 => -1 = r' ∧ INV M2) := fun no => by
    unfold w_X10_keep
    exact m_inR (l := 0) (n := 2) rfl rfl (by omega) (fun k _ hk hv => absurd hv (no k hk)) (fun _ => ⟨fun q => absurd rfl q, fun _ => ⟨rfl, hI⟩⟩)
  unfold w_X9_keep
  refine ⟨fun q => bad (fun k hk => bnd_lo q (by omega)), fun q => ⟨fun q2 => ?_, fun q2 => bad (fun k hk hv => q2 (by rw [hv]; exact nI_lt (b := 2) hk (by decide)))⟩⟩
  obtain ⟨k, hk, rfl⟩ := bnd_in (n := 2) q (fun z => absurd q2 (Int32.not_lt.mpr z))
  rw [tnI (by omega)]
  refine ⟨vp_in_nI hk (by omega), ?_⟩
  rintro g hg
  obtain rfl : g = 76 + 22 * k := by omega
  obtain ⟨i1, i2, i3⟩ := im_c (hR.2.2.2 k hk)
  have main : ∀ r, r = (if decide (imN M k = 1) = true then (1 : Int32) else 0) → w_X9_keep_J30 (fun r M1 => w_X10_keep (nI k) M1 (fun r' M2 => r = r' ∧ INV M2)) (76 + 22 * k) r M := fun r hr => by
    unfold w_X9_keep_J30
    rintro M1 hM1
    have f1 : Fr (76 + 22 * k) (98 + 22 * k) M M1 := by rw [hM1]; exact Fr.wr (by omega)
    have g1 : rd M1 (76 + 22 * k) 0 = 1 := by rw [hM1, rd_eq ⟨rfl, rfl⟩]
    clear hM1
    refine c1_copyFrom (hX.fr f1 (by omega)) hV (by omega) (fun M2 a1 a2 => ?_)
    have f2 := f1.trans (a2.sub (by omega))
    refine c5_copyFrom (hS.fr f2 (by omega)) ⟨hVS.1, hVS.2.1⟩ (by omega) (fun M3 b1 b2 => ?_)
    have f3 := f2.trans (b2.sub (by omega))
    have a1' : ExC M3 (77 + 22 * k) e := by rw [show 77 + 22 * k = 76 + 22 * k + 1 by omega]; exact a1.fr b2 (by omega)
    have b1' : ScC M3 (93 + 22 * k) c := by rw [show 93 + 22 * k = 76 + 22 * k + 17 by omega]; exact b1
    have g3 : rd M3 (76 + 22 * k) 0 = 1 := by rw [b2.row (by omega), a2.row (by omega)]; exact g1
    have hP := hC.ref.fr f3 (by omega)
    unfold w_X10_keep
    refine m_inR (l := 0) (n := 2) rfl rfl (by omega) (fun _ _ _ _ => ⟨fun _ => ⟨vp_in_nI hk (by omega), ?_⟩, fun q => absurd q (by decide)⟩) (fun no => absurd rfl (no k (by omega) hk))
    rw [tnI (by omega), f3.row (by omega), i2]
    refine m_flag ⟨vp_in_nI hk (by omega), ?_⟩
    rintro M5 hM5
    have r5 : ∀ i q, rd M5 i q = if i = 131 ∧ q = k then 1 else rd M3 i q := fun i q => by rw [hM5, rd_wr]
    clear hM5
    refine m_copies (a := 96 * (k + 1)) (b := 0) (by rw [nI_1, show (96 : Int32) = nI 96 from rfl, pk_mul]) rfl (by omega) (by omega) (by omega) (fun M6 c1 c2 => ⟨hr, hI.img hk ?_ (fun i q y1 y2 y3 _ => ?_)⟩)
    · have cell : ∀ j, j < 96 → rd M6 129 (96 * (k + 1) + j) = rd M 129 j := fun j hj => by
        rw [c1 j hj, r5, if_neg (by omega), f3.row (by omega), Nat.zero_add]
      refine Or.inr ⟨?_, ?_, e, c, ?_, hY.congr hV.m (fun j hj => cell j (by omega)), ?_, hSm.congr ⟨hVS.1, hVS.2.1⟩ (fun j _ hj => cell j hj), hV, hVS⟩
      · rw [c2 _ _ (by omega), r5, if_neg (by omega)]; exact g3
      · rw [c2 _ _ (by omega), r5, if_pos ⟨rfl, rfl⟩]
      · exact a1'.at (fun i q _ _ => by rw [c2 _ _ (by omega), r5, if_neg (by omega)])
      · exact b1'.at (fun i q _ _ => by rw [c2 _ _ (by omega), r5, if_neg (by omega)])
    · rw [c2 _ _ (by omega), r5, if_neg (by omega), f3.row (by omega)]
  refine ⟨fun q => main 0 ?_, fun q => main 1 ?_⟩
  · rw [i1.mp q]; rfl
  · have : imN M k = 1 := by
      rcases (show imN M k = 0 ∨ imN M k = 1 by omega) with z | z
      · exact absurd (i1.mpr z) q
      · exact z
    rw [this]; rfl
theorem op_back {M : Mem} {v : Int32} (hI : INV M) : w_X9_back v M (fun r M1 => w_X10_back v M1 (fun r' M2 => r = r' ∧ INV M2)) := by
  obtain ⟨e0, c0, hC, hR⟩ := id hI
  have bad : (∀ k, k < 2 → v ≠ nI k) → w_X10_back v M (fun r' M2 => -1 = r' ∧ INV M2) := fun no => by
    unfold w_X10_back
    exact m_inR (l := 0) (n := 2) rfl rfl (by omega) (fun k _ hk hv => absurd hv (no k hk)) (fun _ => ⟨fun q => absurd rfl q, fun _ => ⟨rfl, hI⟩⟩)
  unfold w_X9_back
  refine ⟨fun q => bad (fun k hk => bnd_lo q (by omega)), fun q => ⟨fun q2 => ?_, fun q2 => bad (fun k hk hv => q2 (by rw [hv]; exact nI_lt (b := 2) hk (by decide)))⟩⟩
  obtain ⟨k, hk, rfl⟩ := bnd_in (n := 2) q (fun z => absurd q2 (Int32.not_lt.mpr z))
  rw [tnI (by omega)]
  refine ⟨vp_in_nI hk (by omega), ?_⟩
  rintro g hg
  obtain rfl : g = 76 + 22 * k := by omega
  have pre : ∀ (M1 : Mem) (P : Int32 → Mem → Prop), _ → w_X10_back (nI k) M1 P := fun M1 P h => by
    unfold w_X10_back
    exact m_inR (l := 0) (n := 2) rfl rfl (by omega) (fun _ _ _ _ => ⟨fun _ => ⟨vp_in_nI hk (by omega), h⟩, fun q => absurd q (by decide)⟩) (fun no => absurd rfl (no k (by omega) hk))
  rcases hR.2.2.2 k hk with ⟨z1, z2⟩ | ⟨z1, z2, e, c, y1, y2, y3, y4, y5, y6⟩
  · rw [z1]
    refine ⟨fun q => absurd rfl q, fun _ => pre _ _ ?_⟩
    rw [tnI (by omega), z2]
    exact ⟨fun q => absurd rfl q, fun _ => ⟨rfl, hI⟩⟩
  · rw [z1]
    refine ⟨fun _ => ?_, fun q => absurd q (by decide)⟩
    refine c1_copyFrom (x := 1) (y := 76 + 22 * k + 1) (by rw [show 76 + 22 * k + 1 = 77 + 22 * k by omega]; exact y1) y5 (by omega) (fun M2 a1 a2 => ?_)
    refine c5_copyFrom (x := 17) (y := 76 + 22 * k + 17) (c := c) (by rw [show 76 + 22 * k + 17 = 93 + 22 * k by omega]; exact y3.fr a2 (by omega)) ⟨y6.1, y6.2.1⟩ (by omega) (fun M3 b1 b2 => ?_)
    have f3 : Fr 1 22 M M3 := (a2.sub (by omega)).trans (b2.sub (by omega))
    have a1' : ExC M3 1 e := a1.fr b2 (by omega)
    refine pre _ _ ?_
    rw [tnI (by omega), f3.row (by omega), z2]
    refine ⟨fun _ => ?_, fun q => absurd q (by decide)⟩
    refine m_copies (a := 0) (b := 96 * (k + 1)) rfl (by rw [nI_1, show (96 : Int32) = nI 96 from rfl, pk_mul]) (by omega) (by omega) (by omega) (fun M4 c1 c2 => ?_)
    have cell : ∀ j, j < 96 → rd M4 129 j = rd M 129 (96 * (k + 1) + j) := fun j hj => by
      have := c1 j hj
      rw [Nat.zero_add] at this
      rw [this, f3.row (by omega)]
    have hP : RefP M4 e c := ⟨y2.congr y5.m (fun j hj => cell j (by omega)), y4.congr ⟨y6.1, y6.2.1⟩ (fun j _ hj => cell j hj), y5, y6⟩
    refine m_starts (fun M5 d1 d2 => ?_)
    have hP5 := hP.fr d2 (by omega)
    refine m_callsNow (hP.st d1).1 y5 ?_
    refine ⟨a1'.2.2.1, hI.upd (f3.sub (by omega)) (FrS.trans (fun i q p => c2 i q ?_) (FrM.of130 d2).s) a1' b1 hP5.1 hP5.2.1 y5 y6⟩
    unfold PS at p; omega
/-! sheets -/
theorem c_isSheet {M : Mem} {v : Int32} {post : Int32 → Mem → Prop} (hy : ∀ k, k < 4 → v = nI k → post 1 M) (hn : (∀ k, k < 4 → v ≠ nI k) → post 0 M) : w_X9_isSheet v M post := c_rng (n := 4) rfl (by omega) hy hn
theorem c_isLane {M : Mem} {v : Int32} {post : Int32 → Mem → Prop} (hy : ∀ k, k < 3 → v = nI k → post 1 M) (hn : (∀ k, k < 3 → v ≠ nI k) → post 0 M) : w_X9_isLane v M post := by
  unfold w_X9_isLane
  refine ⟨fun q => hn (fun k hk => bnd_lo q (by omega)), fun q => ⟨fun q2 => hn (fun k hk hv => ?_), fun q2 => ?_⟩⟩
  · rw [hv] at q2; exact nI_nlt (a := 2) (by omega) (by decide) q2
  · obtain ⟨j, hj, rfl⟩ := nI_of q
    have : ¬ 2 < j := fun z => q2 (nI_lt (a := 2) z hj)
    exact hy j (by omega) rfl
theorem m_isSheet {M : Mem} {v w : Int32} {post : Int32 → Mem → Prop} (hy : ∀ k l, k < 4 → l < 3 → v = nI k → w = nI l → post 1 M) (hn : (∀ k l, k < 4 → l < 3 → v = nI k → w ≠ nI l) → post 0 M) : w_X10_isSheet v w M post := by
  unfold w_X10_isSheet
  refine m_inR (l := 0) (n := 4) rfl rfl (by omega) (fun k _ hk hv => ⟨fun q => absurd q (by decide), fun _ => ?_⟩) (fun no => ⟨fun _ => hn (fun k l hk _ hv => absurd hv (no k (by omega) hk)), fun q => absurd rfl q⟩)
  refine m_inR (l := 0) (n := 3) rfl rfl (by omega) (fun l _ hl hw => ⟨fun q => absurd q (by decide), fun _ => hy k l hk hl hv hw⟩) (fun no => ⟨fun _ => hn (fun k l _ hl _ => no l (by omega) hl), fun q => absurd rfl q⟩)
theorem lg_lt {x y : Int64} : lg_cmp x y < 0 ↔ x < y := by
  unfold lg_cmp
  by_cases h : x > y
  · rw [if_pos h]
    refine ⟨fun q => absurd q (by decide), fun q => ?_⟩
    exact absurd (Int64.lt_trans q h) (Int64.lt_irrefl)
  · rw [if_neg h]
    by_cases h2 : x = y
    · rw [if_pos h2, h2]
      exact ⟨fun q => absurd q (by decide), fun q => absurd q (Int64.lt_irrefl)⟩
    · rw [if_neg h2]
      refine ⟨fun _ => ?_, fun _ => by decide⟩
      rw [Int64.lt_iff_toInt_lt]
      have h' : ¬ y.toInt < x.toInt := fun z => h (Int64.lt_iff_toInt_lt.mpr z)
      have : x.toInt ≠ y.toInt := fun z => h2 (Int64.toInt_inj.mp z)
      omega
theorem lg_ge {x y : Int64} : 0 ≤ lg_cmp x y ↔ ¬ x < y := by
  rw [← lg_lt]
  exact Int32.not_lt.symm
theorem lt_I {x y : Int64} : x < y ↔ x.toInt < y.toInt := Int64.lt_iff_toInt_lt
theorem c_has6 {M : Mem} {x z : Nat} {v : Int64} {post : Int32 → Mem → Prop} (hz : rd M x 1 = nI z) (hz31 : z < 2 ^ 31) (hy : 0 ≤ v.toInt → v.toInt < z → post 1 M) (hn : ¬ (0 ≤ v.toInt ∧ v.toInt < z) → post 0 M) : w_X6_has x v M post := by
  have e0 : (0 : Int64).toInt = 0 := rfl
  have ez : ((nI z).toInt64).toInt = z := by rw [Int32.toInt_toInt64, nI_toInt hz31]
  unfold w_X6_has
  rw [hz, lg_lt, lg_ge, lt_I, lt_I, e0, ez]
  refine ⟨fun q => hn (by omega), fun q => ⟨fun q2 => hn (by omega), fun q2 => ?_⟩⟩
  exact hy (by omega) (by omega)
theorem INV.sh {M M' : Mem} {k : Nat} (h : INV M) (hk : k < 4) (hK : ShP M' k) (s : ∀ i q, ¬ (i = 120 + 2 * k ∨ i = 121 + 2 * k) → ¬ (i = 136 ∧ q = k) → ¬ (i = 137 ∧ q = k) → ¬ (i = 138 ∧ 40 * k ≤ q ∧ q < 40 * k + 40) → rd M' i q = rd M i q) : INV M' := by
  obtain ⟨e, c, hC, hR⟩ := h
  refine ⟨e, c, hC.at (fun i q a b => s _ _ (by omega) (by omega) (by omega) (by omega)) (fun q _ => s _ _ (by omega) (by omega) (by omega) (by omega)), ?_, ⟨?_, ?_⟩, fun j hj => ?_, fun j hj => (hR.2.2.2 j hj).at (fun i q p => s _ _ (by omega) (by omega) (by omega) (by omega))⟩
  · obtain ⟨n, hn, t1, t2, t3⟩ := hR.1
    refine ⟨n, hn, ?_, ?_, fun k hk => ?_⟩
    · rw [s _ _ (by omega) (by omega) (by omega) (by omega)]; exact t1
    · rw [s _ _ (by omega) (by omega) (by omega) (by omega)]; exact t2
    · rw [s 52 k (by omega) (by omega) (by omega) (by omega), s 133 k (by omega) (by omega) (by omega) (by omega)]; exact t3 k hk
  · rw [s _ _ (by omega) (by omega) (by omega) (by omega), s 128 14 (by omega) (by omega) (by omega) (by omega)]; exact hR.2.1.1
  · rw [s _ _ (by omega) (by omega) (by omega) (by omega), s 128 26 (by omega) (by omega) (by omega) (by omega)]; exact hR.2.1.2
  · by_cases z : j = k
    · rw [z]; exact hK
    · exact (hR.2.2.1 j hj).at (fun i q p => s _ _ (by omega) (by omega) (by omega) (by omega))
theorem op_sheet {M : Mem} {v w u : Int32} (hI : INV M) : w_X9_sheet v w u M (fun r M1 => w_X10_sheet v w u M1 (fun r' M2 => r = r' ∧ INV M2)) := by
  have bad : (∀ k l, k < 4 → l < 3 → v = nI k → w ≠ nI l) → w_X10_sheet v w u M (fun r' M2 => -1 = r' ∧ INV M2) := fun no => by
    unfold w_X10_sheet
    exact m_isSheet (fun k l hk hl hv hw => absurd hw (no k l hk hl hv)) (fun _ => ⟨fun _ => ⟨rfl, hI⟩, fun q => absurd rfl q⟩)
  unfold w_X9_sheet
  refine c_isSheet (fun k hk hv => ⟨fun q => absurd q (by decide), fun _ => ?_⟩) (fun no => ⟨fun _ => bad (fun k l hk _ hv => absurd hv (no k hk)), fun q => absurd rfl q⟩)
  refine c_isLane (fun l hl hw => ⟨fun q => absurd q (by decide), fun _ => ?_⟩) (fun no => ⟨fun _ => bad (fun k l _ hl _ => no l hl), fun q => absurd rfl q⟩)
  subst hv
  subst hw
  have pre : ∀ (M1 : Mem) (P : Int32 → Mem → Prop), _ → w_X10_sheet (nI k) (nI l) u M1 P := fun M1 P h => by
    unfold w_X10_sheet
    exact m_isSheet (fun _ _ _ _ _ _ => ⟨fun q => absurd q (by decide), fun _ => h⟩) (fun no => absurd rfl (no k l hk hl rfl))
  refine ⟨fun q => ⟨fun q2 => ⟨vp_in_nI hk (by omega), ?_⟩, fun q2 => pre _ _ ⟨fun _ => ⟨fun z => absurd z q2, fun _ => ⟨rfl, hI⟩⟩, fun z => absurd q z⟩⟩, fun q => pre _ _ ⟨fun z => absurd z q, fun _ => ⟨rfl, hI⟩⟩⟩
  obtain ⟨n, hn, rfl⟩ := bnd_in' (n := 40) (by decide) (Int32.not_lt.mpr q2) q
  rw [tnI (by omega)]
  rintro g hg
  obtain rfl : g = 120 + 2 * k := by omega
  unfold w_X6_renew
  rintro M1 rfl M2 hM2
  have r2 : ∀ i q, rd M2 i q = if i = 120 + 2 * k ∧ q = 1 then nI n else if i = 120 + 2 * k ∧ q = 0 then nI l else rd M i q := fun i q => by rw [hM2, rd_wr, rd_wr]
  clear hM2
  refine loop_0 (fun n' i (s : Mem) => w_X6_renew_L12 (120 + 2 * k) _ (nI n) n' (nI i) s) (fun i s => (∀ j, j < i → rd s (121 + 2 * k) j = 0) ∧ rd s (120 + 2 * k) 0 = nI l ∧ rd s (120 + 2 * k) 1 = nI n ∧ ∀ i q, ¬ (i = 120 + 2 * k ∨ i = 121 + 2 * k) → rd s i q = rd M i q) n M2 ⟨fun j hj => by omega, ?_, ?_, fun i q hi => ?_⟩ ?_ ?_
  · rw [r2, if_neg (by omega), if_pos ⟨rfl, rfl⟩]
  · rw [r2, if_pos ⟨rfl, rfl⟩]
  · rw [r2, if_neg (by omega), if_neg (by omega)]
  · rintro n' s ⟨k1, k2, k3, k4⟩
    show w_X6_renew_L12 _ _ _ (n' + 1) _ s
    unfold w_X6_renew_L12
    refine ⟨fun _ => ?_, fun q => absurd (nI_le (Nat.le_refl _) (by omega)) q⟩
    refine pre _ _ ⟨fun _ => ⟨fun _ => ⟨vp_in_nI hk (by omega), ?_⟩, fun z => absurd q2 z⟩, fun z => absurd q z⟩
    rw [tnI (by omega)]
    rintro M5 rfl
    refine ⟨vp_in_nI hk (by omega), ?_⟩
    rintro M6 hM6
    have r6 : ∀ i q, rd M6 i q = if i = 137 ∧ q = k then nI n else if i = 136 ∧ q = k then nI l else rd s i q := fun i q => by rw [hM6, rd_wr, rd_wr]
    clear hM6
    refine loop_0 (fun n' i (s' : Mem) => w_X10_sheet_L40 _ (nI k) n' (nI i) s') (fun i s' => (∀ j, j < i → rd s' 138 (40 * k + j) = 0) ∧ ∀ i q, ¬ (i = 138 ∧ 40 * k ≤ q ∧ q < 40 * k + 40) → rd s' i q = rd M6 i q) 40 M6 ⟨fun j hj => by omega, fun i q hi => rfl⟩ ?_ ?_
    · rintro n' s' ⟨i1, i2⟩
      show w_X10_sheet_L40 _ _ (n' + 1) _ s'
      unfold w_X10_sheet_L40
      refine ⟨fun _ => ⟨rfl, hI.sh hk (Or.inr ⟨l, n, hl, by omega, ?_, ?_, ?_, ?_, fun i hi => ?_⟩) (fun i q h1 h2 h3 h4 => ?_)⟩, fun q => absurd (nI_le (a := 40) (Nat.le_refl _) (by decide)) q⟩
      · rw [i2 _ _ (by omega), r6, if_neg (by omega), if_neg (by omega)]; exact k2
      · rw [i2 _ _ (by omega), r6, if_neg (by omega), if_neg (by omega)]; exact k3
      · rw [i2 _ _ (by omega), r6, if_neg (by omega), if_pos ⟨rfl, rfl⟩]
      · rw [i2 _ _ (by omega), r6, if_pos ⟨rfl, rfl⟩]
      · rw [i1 i (by omega), i2 _ _ (by omega), r6, if_neg (by omega), if_neg (by omega)]; exact k1 i hi
      · rw [i2 _ _ h4, r6, if_neg h3, if_neg h2]; exact k4 i q h1
    · rintro n' i s' hi ⟨i1, i2⟩ kk
      show w_X10_sheet_L40 _ _ (n' + 1) _ s'
      unfold w_X10_sheet_L40
      rw [show (40 : Int32) * nI k + nI i = nI (40 * k + i) by rw [show (40 : Int32) = nI 40 from rfl, pk_mul, nI_add], tnI (by omega)]
      refine ⟨fun q => absurd q (nI_ge (b := 40) hi (by decide)), fun _ => ⟨vp_in_nI (by omega) (by omega), ?_⟩⟩
      rintro M1 rfl v rfl
      rw [nI_1]
      refine kk _ ⟨fun j hj => ?_, fun i' q hq => ?_⟩
      · by_cases z : j = i
        · rw [rd_eq ⟨rfl, by omega⟩]
        · rw [rd_ne (by omega)]; exact i1 j (by omega)
      · rw [rd_ne (by omega)]; exact i2 i' q hq
  · rintro n' i s hi ⟨k1, k2, k3, k4⟩ kk
    show w_X6_renew_L12 _ _ _ (n' + 1) _ s
    unfold w_X6_renew_L12
    rw [tnI (by omega)]
    refine ⟨fun q => absurd q (nI_ge hi (by omega)), fun _ => ⟨vp_in_nI (by omega) (by omega), ?_⟩⟩
    rintro M1 rfl v rfl
    rw [nI_1]
    refine kk _ ⟨fun j hj => ?_, ?_, ?_, fun i' q hq => ?_⟩
    · by_cases z : j = i
      · rw [rd_eq ⟨by omega, z⟩]
      · rw [rd_ne (by omega)]; exact k1 j (by omega)
    · rw [rd_ne (by omega)]; exact k2
    · rw [rd_ne (by omega)]; exact k3
    · rw [rd_ne (by omega)]; exact k4 i' q hq
theorem op_lay {M : Mem} {v w u : Int32} (hI : INV M) : w_X9_lay v w u M (fun r M1 => w_X10_lay v w u M1 (fun r' M2 => r = r' ∧ INV M2)) := by
  obtain ⟨e0, c0, hC, hR⟩ := id hI
  unfold w_X9_lay
  refine c_isSheet (fun k hk hv => ⟨fun _ => ⟨by rw [hv]; exact vp_in_nI hk (by omega), ?_⟩, fun q => absurd q (by decide)⟩) (fun no => ⟨fun q => absurd rfl q, fun _ => ?_⟩)
  · subst hv
    have vk : vp_in (nI k) 4 := vp_in_nI hk (by omega)
    rw [tnI (by omega)]
    rintro g hg
    obtain rfl : g = 120 + 2 * k := by omega
    have pre : ∀ (M1 : Mem) (P : Int32 → Mem → Prop), _ → w_X10_lay (nI k) w u M1 P := fun M1 P h => by
      unfold w_X10_lay
      exact m_isSheet (fun _ _ _ _ _ _ => ⟨fun _ => ⟨vk, h⟩, fun q => absurd q (by decide)⟩) (fun no => absurd rfl (no k 0 hk (by omega) rfl))
    rcases hR.2.2.1 k hk with ⟨a, b⟩ | ⟨l, z, a1, a2, a3, a4, a5, a6, a7⟩
    · rw [a]
      refine ⟨fun q => absurd rfl q, fun _ => pre _ _ ?_⟩
      rw [tnI (by omega), b]
      exact ⟨fun q => absurd rfl q, fun _ => ⟨rfl, hI⟩⟩
    · rw [a4]
      have n4 : ¬ nI z = -4 := nI_ne4 (by omega)
      have l4 : ¬ nI l = -4 := nI_ne4 (by omega)
      have ww : (w.toInt64).toInt = w.toInt := Int32.toInt_toInt64 _
      refine ⟨fun _ => ?_, fun q => absurd q n4⟩
      refine c_has6 a4 (by omega) (fun h1 h2 => ⟨fun _ => ?_, fun q => absurd q (by decide)⟩) (fun no => ⟨fun q => absurd rfl q, fun _ => pre _ _ ?_⟩)
      · obtain ⟨i, hi, rfl⟩ : ∃ i, i < z ∧ w = nI i := by
          refine ⟨w.toInt.toNat, by omega, ?_⟩
          apply Int32.toInt_inj.mp
          rw [nI_toInt (by omega)]
          omega
        have fin : ∀ r : Int32, ∀ M8, M8 = wr M (121 + 2 * k) i r → (∀ P : Int32 → Mem → Prop, P 1 (wr M8 138 (40 * k + i) r) → w_X10_lay (nI k) (nI i) u M8 P) → w_X10_lay (nI k) (nI i) u M8 (fun r' M2 => (1 : Int32) = r' ∧ INV M2) := fun r M8 hM8 h => by
          refine h _ ⟨rfl, ?_⟩
          subst hM8
          refine hI.sh hk (Or.inr ⟨l, z, a1, a2, ?_, ?_, ?_, ?_, fun j hj => ?_⟩) (fun i' q h1 h2 h3 h4 => ?_)
          · rw [rd_ne (by omega), rd_ne (by omega)]; exact a3
          · rw [rd_ne (by omega), rd_ne (by omega)]; exact a4
          · rw [rd_ne (by omega), rd_ne (by omega)]; exact a5
          · rw [rd_ne (by omega), rd_ne (by omega)]; exact a6
          · by_cases y : j = i
            · rw [rd_ne (by omega), rd_eq ⟨rfl, y⟩, rd_eq ⟨rfl, by omega⟩]
            · rw [rd_ne (by omega), rd_ne (by omega), rd_ne (by omega), rd_ne (by omega)]; exact a7 j hj
          · rw [rd_ne (by omega), rd_ne (by omega)]
        have ref : ∀ (r : Int32) (M8 : Mem) (P : Int32 → Mem → Prop), M8 = wr M (121 + 2 * k) i r → P 1 (wr M8 138 (40 * k + i) (if l = 0 then u.toInt8.toInt32 else if l = 1 then u.toInt16.toInt32 else u)) → w_X10_lay (nI k) (nI i) u M8 P := fun r M8 P hM8 h => by
          have e5 : rd M8 136 k = nI l := by rw [hM8, rd_ne (by omega)]; exact a5
          have e6 : rd M8 137 k = nI z := by rw [hM8, rd_ne (by omega)]; exact a6
          refine pre _ _ ?_
          rw [tnI (by omega), e5, show (40 : Int32) * nI k + nI i = nI (40 * k + i) by rw [show (40 : Int32) = nI 40 from rfl, pk_mul, nI_add], tnI (by omega)]
          have vi : vp_in (nI (40 * k + i)) 160 := vp_in_nI (by omega) (by omega)
          refine ⟨fun _ => ⟨vk, ?_⟩, fun q => absurd q l4⟩
          refine m_inR (l := 0) (n := z) rfl (lt64 e6 (by omega)) (by omega) (fun _ _ _ _ => ⟨fun _ => ⟨vk, ?_⟩, fun q => absurd q (by decide)⟩) (fun no => absurd rfl (no i (by omega) hi))
          rw [e5]
          refine ⟨fun y => ⟨vk, fun y2 => ⟨vi, ?_⟩, fun y2 => ⟨vi, ?_⟩⟩, fun y => ⟨vi, ?_⟩⟩
          · rintro M5 rfl
            rw [if_neg (fun x => y (by rw [x]; rfl)), if_neg (fun x => y2 (by rw [x]; rfl))] at h
            exact h
          · rintro M5 rfl
            rw [if_neg (fun x => y (by rw [x]; rfl)), if_pos (nI_inj (by omega) (by decide) y2)] at h
            exact h
          · rintro M5 rfl
            rw [if_pos (nI_inj (by omega) (by decide) y)] at h
            exact h
        unfold w_X6_narrowed
        rw [a3, tnI (by omega), show 120 + 2 * k + 1 = 121 + 2 * k by omega]
        have v40 : vp_in (nI i) 40 := vp_in_nI (by omega) (by omega)
        refine ⟨fun y => ⟨fun y2 => ⟨v40, ?_⟩, fun y2 => ⟨v40, ?_⟩⟩, fun y => ⟨v40, ?_⟩⟩
        · rintro M8 hM8
          refine fin _ M8 hM8 (fun P h => ref _ M8 P hM8 ?_)
          rw [if_neg (fun x => y (by rw [x]; rfl)), if_neg (fun x => y2 (by rw [x]; rfl))]
          exact h
        · rintro M8 hM8
          refine fin _ M8 hM8 (fun P h => ref _ M8 P hM8 ?_)
          rw [if_neg (fun x => y (by rw [x]; rfl)), if_pos (nI_inj (by omega) (by decide) y2)]
          exact h
        · rintro M8 hM8
          refine fin _ M8 hM8 (fun P h => ref _ M8 P hM8 ?_)
          rw [if_pos (nI_inj (by omega) (by decide) y)]
          exact h
      · rw [tnI (by omega), a5]
        refine ⟨fun _ => ⟨vk, ?_⟩, fun q => absurd q l4⟩
        refine m_inR (l := 0) (n := z) rfl (lt64 a6 (by omega)) (by omega) (fun i _ hi hw => ?_) (fun _ => ⟨fun q => absurd rfl q, fun _ => ⟨rfl, hI⟩⟩)
        rw [hw, nI_toInt (by omega)] at ww
        exact absurd ⟨by rw [hw]; omega, by rw [hw]; omega⟩ no
  · unfold w_X10_lay
    exact m_isSheet (fun k l hk hl hv hw => absurd hv (no k hk)) (fun _ => ⟨fun q => absurd rfl q, fun _ => ⟨rfl, hI⟩⟩)
