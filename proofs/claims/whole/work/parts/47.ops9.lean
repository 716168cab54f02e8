/-! number, dial, hang -/
theorem own_no {e : EX} {n : Nat} (hV : VE e) (h : ownE e n = 0) : ∀ b, b < eM e → eN e b ≠ n := fun b hb z => by
  have := own_of hV hb z
  omega
theorem own_ne {e : EX} {n a : Nat} (hV : VE e) (h : ownE e n = a + 1) : ∀ b, b < eM e → b ≠ a → eN e b ≠ n := fun b hb hba z => by
  have := own_of hV hb z
  omega
theorem op_number {M : Mem} {v w : Int32} (hI : INV M) : w_X9_number v w M (fun r M1 => w_X10_number v w M1 (fun r' M2 => r = r' ∧ INV M2)) := by
  obtain ⟨e, c, hC, hR⟩ := id hI
  obtain ⟨hX, hY, hS, hSm, hV, hVS⟩ := id hC
  have hm := hV.m
  have bad : ((∀ k, k < eM e → v ≠ nI k) ∨ (∀ n, numOK n → w ≠ nI n)) → w_X10_number v w M (fun r' M2 => -1 = r' ∧ INV M2) := fun no => by
    unfold w_X10_number
    refine m_starts (fun M1 a1 a2 => ?_)
    have hP := hC.ref.fr a2 (by omega)
    have hI1 := hI.frM (FrM.of130 a2)
    refine m_whoHas (hC.ref.st a1).1 hV (fun o _ _ => ?_)
    refine m_isOne hP.1.1 hV (fun a ha hv => ⟨fun q => absurd q (by decide), fun _ => ?_⟩) (fun _ => ⟨fun _ => ⟨rfl, hI1⟩, fun q => absurd rfl q⟩)
    rcases no with no | no
    · exact absurd hv (no a ha)
    · exact m_isNumber (fun n hn hw => absurd hw (no n hn)) (fun _ => ⟨fun _ => ⟨rfl, hI1⟩, fun q => absurd rfl q⟩)
  unfold w_X9_number
  refine c_has hX.1 hV (fun a ha hv => ⟨fun q => absurd q (by decide), fun _ => ?_⟩) (fun no => ⟨fun _ => bad (Or.inl no), fun q => absurd rfl q⟩)
  refine c_isNumber (fun n hn hw => ⟨fun _ => ?_, fun q => absurd q (by decide)⟩) (fun no => ⟨fun q => absurd rfl q, fun _ => bad (Or.inr no)⟩)
  subst hv
  subst hw
  have hn44 := hn.1
  have ho7 : ownE e n ≤ 6 := by
    rcases Nat.eq_zero_or_pos (ownE e n) with z | z
    · omega
    · have := (own_some (e := e) (n := n) (a := ownE e n - 1) (by omega)).1; omega
  refine c_owner hX hV (by omega) ?_
  have ref : ∀ (M1 : Mem) (P : Int32 → Mem → Prop), RefP M1 e c → (∀ M2, Fr 130 131 M1 M2 → RefP M2 e c → (oI (ownE e n) = -4 → w_X10_number_J38 P (nI a) (nI n) M2) ∧ (¬ oI (ownE e n) = -4 → (oI (ownE e n) = nI a → w_X10_number_J38 P (nI a) (nI n) M2) ∧ (¬ oI (ownE e n) = nI a → P (-1) M2))) → w_X10_number (nI a) (nI n) M1 P := fun M1 P hP h => by
    unfold w_X10_number
    refine m_starts (fun M2 a1 a2 => ?_)
    have hP2 := hP.fr a2 (by omega)
    refine m_owner (hP.st a1).1 hV (by omega) ?_
    refine m_isOne hP2.1.1 hV (fun _ _ _ => ⟨fun q => absurd q (by decide), fun _ => ?_⟩) (fun no => absurd rfl (no a ha))
    exact m_isNumber (fun _ _ _ => ⟨fun q => absurd q (by decide), fun _ => h M2 a2 hP2⟩) (fun no => absurd rfl (no n hn))
  have va : vp_in (nI a) 6 := vp_in_nI (by omega) (by omega)
  have sa := hV.2.2.2.2.1 a ha
  have rj : ∀ (M2 : Mem) (P : Int32 → Mem → Prop), RefP M2 e c → (eS e a = 0 → P (nI (eN e a)) (wr M2 129 (4 * a) (nI n))) → (eS e a ≠ 0 → P (-2) M2) → w_X10_number_J38 P (nI a) (nI n) M2 := fun M2 P hP y1 y2 => by
    unfold w_X10_number_J38
    rw [show (4 : Int32) * nI a + 2 = nI (4 * a + 2) by rw [show (4 : Int32) = nI 4 from rfl, show (2 : Int32) = nI 2 from rfl, pk_mul, nI_add], tnI (by omega), show rd M2 129 (4 * a + 2) = _ from (hP.1.2.2.1 a ha).2.2.1]
    refine ⟨vp_in_nI (by omega) (by omega), fun q => ?_, fun q => y2 (fun z => q (by rw [z]; rfl))⟩
    refine m_becomes (k := 4 * a) (by rw [show (4 : Int32) = nI 4 from rfl, show (0 : Int32) = nI 0 from rfl, pk_mul, nI_add]; rfl) (by omega) ?_
    rw [show rd M2 129 (4 * a) = _ from (hP.1.2.2.1 a ha).1]
    exact y1 (nI_inj (by omega) (by decide) q)
  have cj : (ownE e n = 0 ∨ ownE e n = a + 1) → w_X9_number_J42 (fun r M1 => w_X10_number (nI a) (nI n) M1 (fun r' M2 => r = r' ∧ INV M2)) (nI a) (nI n) M := fun own => by
    have go : ∀ (M2 : Mem) (P : Int32 → Mem → Prop), w_X10_number_J38 P (nI a) (nI n) M2 → ((oI (ownE e n) = -4 → w_X10_number_J38 P (nI a) (nI n) M2) ∧ (¬ oI (ownE e n) = -4 → (oI (ownE e n) = nI a → w_X10_number_J38 P (nI a) (nI n) M2) ∧ (¬ oI (ownE e n) = nI a → P (-1) M2))) := fun M2 P h => ⟨fun _ => h, fun q => ⟨fun _ => h, fun q2 => by
      rcases own with z | z
      · exact absurd (by rw [z]; rfl) q
      · exact absurd (by rw [z, oI_s]) q2⟩⟩
    unfold w_X9_number_J42
    rw [tnI (by omega), show rd M 4 a = _ from (hX.2.2.2.1 a ha).2.2.1, show rd M 2 a = _ from (hX.2.2.2.1 a ha).1]
    refine ⟨va, fun q => ⟨va, ?_⟩, fun q => ?_⟩
    · have s0 : eS e a = 0 := nI_inj (by omega) (by decide) q
      rintro v1 rfl
      refine ⟨va, ?_⟩
      rintro M2 hM2
      have f2 : Fr 2 3 M M2 := by rw [hM2]; exact Fr.wr (by omega)
      have hX2 : ExC M2 1 (numE e a n) := by rw [hM2]; exact c_setNum hX
      have hVn : VE (numE e a n) := VE_numE hV hn (fun b hb hba => by
        rcases own with z | z
        · exact own_no hV z b hb
        · exact own_ne hV z b hb hba)
      refine ref M2 _ (hC.ref.fr f2 (by omega)) (fun M3 a2 hP3 => go M3 _ (rj M3 _ hP3 (fun _ => ⟨rfl, ?_⟩) (fun z => absurd s0 z)))
      exact hI.upd (e := numE e a n) (c := c) (f2.sub (by omega)) (((FrM.of130 a2).s).trans (FrS.wr (by omega))) hX2 (hS.fr f2 (by omega)) (hP3.1.num hm ha (rd_eq ⟨rfl, rfl⟩) (fun k _ hk => rd_ne (by omega))) (hP3.2.1.congr ⟨hVS.1, hVS.2.1⟩ (fun k hk _ => rd_ne (by omega))) hVn hVS
    · have s0 : eS e a ≠ 0 := fun z => q (by rw [z]; rfl)
      exact ref M _ hC.ref (fun M3 a2 hP3 => go M3 _ (rj M3 _ hP3 (fun z => absurd z s0) (fun _ => ⟨rfl, hI.frM (FrM.of130 a2)⟩)))
  refine ⟨fun q => cj (Or.inl ((oI_4 (by omega)).mp q)), fun q => ⟨fun q2 => cj (Or.inr ?_), fun q2 => ?_⟩⟩
  · have o0 : ownE e n ≠ 0 := fun z => q (by rw [z]; rfl)
    obtain ⟨b, hb⟩ : ∃ b, ownE e n = b + 1 := ⟨ownE e n - 1, by omega⟩
    rw [hb, oI_s] at q2
    rw [hb, nI_inj (by omega) (by omega) q2]
  · exact ref M _ hC.ref (fun M3 a2 hP3 => ⟨fun z => absurd z q, fun _ => ⟨fun z => absurd z q2, fun _ => ⟨rfl, hI.frM (FrM.of130 a2)⟩⟩⟩)
/-- dialling, hanging up in an exchange that is given -/
theorem c_dialIn {M : Mem} {x : Nat} {e : EX} {v w : Int32} {post : Int32 → Mem → Prop} (hM : ExC M x e) (hV : VE e) (good : ∀ a n, a < eM e → numOK n → v = nI a → w = nI n → eS e a = 0 → ∀ M', ExC M' x (ringE e a n).2 → Fr x (x + 16) M M' → post (nI (ringE e a n).1) M') (busy : ∀ a n, a < eM e → numOK n → v = nI a → w = nI n → eS e a ≠ 0 → post (-2) M) (bad : (∀ a n, a < eM e → numOK n → v = nI a → w ≠ nI n) → post (-1) M) : w_X9_dialIn x v w M post := by
  have hm := hV.m
  unfold w_X9_dialIn
  refine c_has hM.1 hV (fun a ha hv => ⟨fun q => absurd q (by decide), fun _ => ?_⟩) (fun no => ⟨fun _ => bad (fun a n ha _ hv => absurd hv (no a ha)), fun q => absurd rfl q⟩)
  refine c_isNumber (fun n hn hw => ⟨fun _ => ?_, fun q => absurd q (by decide)⟩) (fun no => ⟨fun q => absurd rfl q, fun _ => bad (fun a n _ hn _ => no n hn)⟩)
  subst hv
  subst hw
  have sa := hV.2.2.2.2.1 a ha
  rw [tnI (by omega), show rd M (x + 3) a = _ from (hM.2.2.2.1 a ha).2.2.1]
  refine ⟨vp_in_nI (by omega) (by omega), fun q => ?_, fun q => ?_⟩
  · have s0 : eS e a = 0 := nI_inj (by omega) (by decide) q
    exact c_ring hM hV ha s0 hn.1 (fun M' h1 h2 => good a n ha hn rfl rfl s0 M' h1 h2)
  · exact busy a n ha hn rfl rfl (fun z => q (by rw [z]; rfl))
theorem c_hangIn {M : Mem} {x : Nat} {e : EX} {v : Int32} {post : Int32 → Mem → Prop} (hM : ExC M x e) (hV : VE e) (good : ∀ a, a < eM e → v = nI a → eS e a ≠ 0 → ∀ M', ExC M' x (partE e a) → Fr x (x + 16) M M' → post (nI (eT e a)) M') (idle : ∀ a, a < eM e → v = nI a → eS e a = 0 → post (-2) M) (bad : (∀ a, a < eM e → v ≠ nI a) → post (-1) M) : w_X9_hangIn x v M post := by
  have hm := hV.m
  unfold w_X9_hangIn
  refine c_has hM.1 hV (fun a ha hv => ⟨fun _ => ?_, fun q => absurd q (by decide)⟩) (fun no => ⟨fun q => absurd rfl q, fun _ => bad no⟩)
  subst hv
  have sa := hV.2.2.2.2.1 a ha
  rw [tnI (by omega), show rd M (x + 3) a = _ from (hM.2.2.2.1 a ha).2.2.1]
  refine ⟨vp_in_nI (by omega) (by omega), fun q => ?_, fun q => idle a ha rfl (nI_inj (by omega) (by decide) q)⟩
  have s0 : eS e a ≠ 0 := fun z => q (by rw [z]; rfl)
  exact c_part hM hV ha s0 (fun M' h1 h2 => good a ha rfl s0 M' h1 h2)
theorem m_dial {M : Mem} {e : EX} {c : SC} {v w : Int32} {post : Int32 → Mem → Prop} (hP : RefP M e c) (good : ∀ a n, a < eM e → numOK n → v = nI a → w = nI n → eS e a = 0 → ∀ M', RefP M' (ringE e a n).2 c → FrD M M' → post (nI (ringE e a n).1) M') (busy : ∀ a n, a < eM e → numOK n → v = nI a → w = nI n → eS e a ≠ 0 → ∀ M', Fr 130 131 M M' → post (-2) M') (bad : (∀ a n, a < eM e → numOK n → v = nI a → w ≠ nI n) → post (-1) M) : w_X10_dial v w M post := by
  have hV := hP.2.2.1
  have hVS := hP.2.2.2
  have hm := hV.m
  unfold w_X10_dial
  refine m_isOne hP.1.1 hV (fun a ha hv => ⟨fun q => absurd q (by decide), fun _ => ?_⟩) (fun no => ⟨fun _ => bad (fun a n ha _ hv => absurd hv (no a ha)), fun q => absurd rfl q⟩)
  refine m_isNumber (fun n hn hw => ⟨fun _ => ?_, fun q => absurd q (by decide)⟩) (fun no => ⟨fun q => absurd rfl q, fun _ => bad (fun a n _ hn _ => no n hn)⟩)
  subst hv
  subst hw
  have sa := hV.2.2.2.2.1 a ha
  refine m_starts (fun M1 a1 a2 => ?_)
  obtain ⟨hE, hSc⟩ := hP.st a1
  refine m_of (k := 2) rfl (by omega) ?_
  rw [show rd M1 130 (4 * a + 2) = _ from (hE.2.2.1 a ha).2.2.1]
  refine ⟨fun q => ?_, fun q => busy a n ha hn rfl rfl (fun z => q (by rw [z]; rfl)) M1 a2⟩
  have s0 : eS e a = 0 := nI_inj (by omega) (by decide) q
  refine m_dials hE hV ha s0 hn.1 (fun M2 b1 b2 => ?_)
  exact m_back a2 b2 b1 hSc (VE_ring hV ha s0 hn.1) (by rw [ring_M]; exact hVS) (fun M' c1 c2 => good a n ha hn rfl rfl s0 M' c1 c2)
theorem m_hang {M : Mem} {e : EX} {c : SC} {v : Int32} {post : Int32 → Mem → Prop} (hP : RefP M e c) (good : ∀ a, a < eM e → v = nI a → eS e a ≠ 0 → ∀ M', RefP M' (partE e a) c → FrD M M' → post (nI (eT e a)) M') (idle : ∀ a, a < eM e → v = nI a → eS e a = 0 → ∀ M', Fr 130 131 M M' → post (-2) M') (bad : (∀ a, a < eM e → v ≠ nI a) → post (-1) M) : w_X10_hang v M post := by
  have hV := hP.2.2.1
  have hVS := hP.2.2.2
  have hm := hV.m
  unfold w_X10_hang
  refine m_isOne hP.1.1 hV (fun a ha hv => ⟨fun _ => ?_, fun q => absurd q (by decide)⟩) (fun no => ⟨fun q => absurd rfl q, fun _ => bad no⟩)
  subst hv
  refine m_starts (fun M1 a1 a2 => ?_)
  obtain ⟨hE, hSc⟩ := hP.st a1
  refine m_of (k := 1) rfl (by omega) ?_
  rw [show rd M1 130 (4 * a + 1) = _ from (hE.2.2.1 a ha).2.1]
  unfold mI
  by_cases s0 : eS e a = 0
  · rw [if_pos s0]
    exact ⟨fun q => absurd rfl q, fun _ => idle a ha rfl s0 M1 a2⟩
  · rw [if_neg s0]
    have hT := (hV.2.2.2.2.2.1 a ha s0).1
    refine ⟨fun _ => ?_, fun q => absurd q (nI_ne4 (by omega))⟩
    refine m_hangsUp hE hV ha s0 (fun M2 b1 b2 => ?_)
    exact m_back a2 b2 b1 hSc (VE_part hV ha s0) hVS (fun M' c1 c2 => good a ha rfl s0 M' c1 c2)
theorem op_dial {M : Mem} {v w : Int32} (hI : INV M) : w_X9_dial v w M (fun r M1 => w_X10_dial v w M1 (fun r' M2 => r = r' ∧ INV M2)) := by
  obtain ⟨e, c, hC, hR⟩ := id hI
  obtain ⟨hX, hY, hS, hSm, hV, hVS⟩ := id hC
  have hm := hV.m
  have inj : ∀ a b, a < eM e → b < eM e → nI a = nI b → a = b := fun a b ha hb h => nI_inj (by omega) (by omega) h
  have injn : ∀ a b, numOK a → numOK b → nI a = nI b → a = b := fun a b ha hb h => nI_inj (by have := ha.1; omega) (by have := hb.1; omega) h
  unfold w_X9_dial
  refine c_dialIn hX hV (fun a n ha hn hv hw s0 M1 k1 k2 => ?_) (fun a n ha hn hv hw s0 => ?_) (fun no => ?_)
  · refine m_dial (hC.ref.fr k2 (by omega)) (fun a' n' ha' hn' hv' hw' _ M2 j1 j2 => ?_) (fun a' n' ha' hn' hv' hw' s0' M2 _ => ?_) (fun no => absurd hw (no a n ha hn hv))
    · obtain rfl := inj a a' ha ha' (hv.symm.trans hv')
      obtain rfl := injn n n' hn hn' (hw.symm.trans hw')
      exact ⟨rfl, hI.upd (k2.sub (by omega)) j2.s k1 (hS.fr k2 (by omega)) j1.1 j1.2.1 j1.2.2.1 j1.2.2.2⟩
    · obtain rfl := inj a a' ha ha' (hv.symm.trans hv')
      exact absurd s0 s0'
  · refine m_dial hC.ref (fun a' n' ha' hn' hv' hw' s0' M2 j1 j2 => ?_) (fun a' n' ha' hn' hv' hw' s0' M2 j1 => ⟨rfl, hI.frM (FrM.of130 j1)⟩) (fun no => absurd hw (no a n ha hn hv))
    obtain rfl := inj a a' ha ha' (hv.symm.trans hv')
    exact absurd s0' s0
  · exact m_dial hC.ref (fun a' n' ha' hn' hv' hw' _ _ _ _ => absurd hw' (no a' n' ha' hn' hv')) (fun a' n' ha' hn' hv' hw' _ _ _ => absurd hw' (no a' n' ha' hn' hv')) (fun _ => ⟨rfl, hI⟩)
theorem op_hang {M : Mem} {v : Int32} (hI : INV M) : w_X9_hang v M (fun r M1 => w_X10_hang v M1 (fun r' M2 => r = r' ∧ INV M2)) := by
  obtain ⟨e, c, hC, hR⟩ := id hI
  obtain ⟨hX, hY, hS, hSm, hV, hVS⟩ := id hC
  have hm := hV.m
  have inj : ∀ a b, a < eM e → b < eM e → nI a = nI b → a = b := fun a b ha hb h => nI_inj (by omega) (by omega) h
  unfold w_X9_hang
  refine c_hangIn hX hV (fun a ha hv s0 M1 k1 k2 => ?_) (fun a ha hv s0 => ?_) (fun no => ?_)
  · refine m_hang (hC.ref.fr k2 (by omega)) (fun a' ha' hv' _ M2 j1 j2 => ?_) (fun a' ha' hv' s0' M2 _ => ?_) (fun no => absurd hv (no a ha))
    · obtain rfl := inj a a' ha ha' (hv.symm.trans hv')
      exact ⟨rfl, hI.upd (k2.sub (by omega)) j2.s k1 (hS.fr k2 (by omega)) j1.1 j1.2.1 j1.2.2.1 j1.2.2.2⟩
    · obtain rfl := inj a a' ha ha' (hv.symm.trans hv')
      exact absurd s0' s0
  · refine m_hang hC.ref (fun a' ha' hv' s0' M2 j1 j2 => ?_) (fun a' ha' hv' s0' M2 j1 => ⟨rfl, hI.frM (FrM.of130 j1)⟩) (fun no => absurd hv (no a ha))
    obtain rfl := inj a a' ha ha' (hv.symm.trans hv')
    exact absurd s0 s0'
  · exact m_hang hC.ref (fun a' ha' hv' _ _ _ _ => absurd hv' (no a' ha')) (fun a' ha' hv' _ _ _ => absurd hv' (no a' ha')) (fun _ => ⟨rfl, hI⟩)
