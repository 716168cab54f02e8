/-! the reference's constructor; the worlds agree when all is made -/
theorem gA_b0 {ω : WD} {b0 sz : Nat} (hadr : ∀ i, adr ω i = b0 + i) (h1 : b0 ≤ sz) (h2 : sz ≤ b0 + 140) : gA ω sz = fun q => b0 ≤ q := funext fun q => propext ⟨fun h => by
  rcases h with ⟨i, _, h⟩ | h
  · rw [h, hadr]; omega
  · exact Nat.le_trans h1 h, fun h => by
  by_cases z : q < b0 + 140
  · exact Or.inl ⟨q - b0, by omega, by rw [hadr]; have h : b0 ≤ q := h; omega⟩
  · exact Or.inr (by omega)⟩
theorem Bj_G {ω : WD} {b0 : Nat} {ρ : FR} {cs ss pc : Nat} {lv : List (Nat × Value)} {st : List Value} (hadr : ∀ i, adr ω i = b0 + i) (hcs : ρ.2.2.2.1 = (cs, ss)) (h1 : b0 ≤ ρ.2.1.1.heap.size) (h2 : ρ.2.1.1.heap.size ≤ b0 + 140) (k : G ω ρ M0 pc lv st) : Bj ω b0 ρ 140 (E0 ω) [] cs ss pc lv st := fun ls H locs h hP _ hz hS => by
  have := k ls H locs h (fun k q hk => by
    obtain ⟨g1, rfl⟩ := cells_at hk
    exact hP k g1) (by rw [gA_b0 hadr h1 h2]; exact hS)
  rw [hcs] at this
  exact this
theorem CtM_start {ω : WD} {b0 : Nat} (h : ∀ ρ : FR, Kx ω b0 ρ cX10_init RX10 1 2 11 970 → Cx ω ρ cX10_init RX10 1 2 → ρ.2.2.1.1.name = "<init>" → ρ.2.2.2.1 = (11, 970) → ρ.2.1.1.heap.size = b0 + 129 → (∀ (pc : Nat) (M : Mem) (lv : List (Nat × Value)), decode cX10_init pc = .ok (.return_, 1) → INV M → G ω ρ M pc lv []) → Bj ω b0 ρ 129 (upE (E0 ω) 128 (.inr (10, [.null, .null, .null, .null, .int 0, .int 0, .int 0, .int 0, .null, .int 0, .int 0, .int 0, .int 0, .int 0, .int 0, .int 0, .null, .int 0, .int 0, .long 0, .long 0, .long 0, .null, .null, .null, .null, .int 0, .null]))) [] 0 0 0 [(0, .ref (adr ω 128))] []) : Met ω.1 yX10_init (.code yX10_init cX10_init 2 none :: TB) { frames := 1, cells := 11, slots := 970, locals := 36 * 1 } (va_Pc [.ref (adr ω 128)] (fun U => PreB ω b0 128 (E0 ω) [(10, [.null, .null, .null, .null, .int 0, .int 0, .int 0, .int 0, .null, .int 0, .int 0, .int 0, .int 0, .int 0, .int 0, .int 0, .null, .int 0, .int 0, .long 0, .long 0, .long 0, .null, .null, .null, .null, .int 0, .null])] U ∧ XW ω U)) (va_Qv (fun M : Mem => INV M) (BM ω) (fun q => b0 ≤ q)) 11 970 (fun q => b0 ≤ q) := by
  refine Met.ofW (cc := cX10_init) (maxL := 2) (ret := none) (by decide +kernel) rfl ?_
  intro p e s m as below meth c s₁ B hml hv
  obtain ⟨rfl, ⟨hP, hp, hz, hK, hA, hO⟩, hXW⟩ := hv
  have hts0 : ∀ w ∈ (Cond.code yX10_init cX10_init 2 none :: TB), w.before [Value.ref (adr ω 128)].toArray s = true := atoms_spec (ws := .code yX10_init cX10_init 2 none :: TB) B.pre
  have hfc : s.vm.findClass RX10 = some m.cls := findClass_of_methodNamed B.named
  have hin : meth.name = "<init>" := (name_of_methodNamed B.named B.method).1
  have hlocks := B.notSynchronized
  have hr := B.returns
  have hx := B.exec
  have hb := B.bytes
  have hz : s.heap.size = b0 + 128 + 1 := hz
  have hI : inj ω := fun i j _ _ e => by rw [hA, hA] at e; omega
  have hg := gA_b0 (sz := s.heap.size) hA (by omega) (by omega)
  have hTB : ∀ w ∈ TB, w.before [Value.ref (adr ω 128)].toArray s = true := fun w hw => hts0 w (List.mem_cons_of_mem _ hw)
  have kk := h ((p, e, { frames := 1, cells := 11, slots := 970, locals := 36 * 1 }), (s, m, [Value.ref (adr ω 128)].toArray, below), (meth, c, 2), (11, 970), MQ below (va_Qv (fun M : Mem => INV M) (BM ω) (fun q => b0 ≤ q)) [Value.ref (adr ω 128)].toArray s 11 970 (fun q => b0 ≤ q))
    ⟨hx, hb, hml, hfc, hTB, hK, hA, ⟨Nat.le_refl _, Nat.le_refl _⟩, by show b0 ≤ s.heap.size; omega, hO, rfl, Nat.le_refl _, Nat.le_refl _⟩
    ⟨hx, hb, hml, hfc, hTB, hK, hI, ⟨Nat.le_refl _, Nat.le_refl _⟩, ⟨Nat.le_refl _, Nat.le_refl _⟩, hXW, rfl⟩ hin rfl hz ?_
  · have hl := lv_entry [.ref (adr ω 128)] (n := 2) (Nat.le_of_ble_eq_true rfl)
    rw [lg_entry_eq]
    refine kk _ s.heap [] hl (fun i hi => ?_) (fun p hp => by cases hp) (by rw [hz]; rfl) va_S.rf
    by_cases z : i = 128
    · rw [z, upE_eq rfl]; exact hp _ (List.mem_singleton.mpr rfl)
    · rw [upE_ne z]; exact hP i (by omega)
  · intro pc M' lv hd hi ls H locs hl hP hS
    have hS : va_S (gA ω s.heap.size) s.heap H locs := hS
    rw [hg] at hS
    exact W.vret hx hb hr (fun t ht hW => ⟨⟨M', rfl, hi, by unfold BM; rw [ht]; exact hP⟩, hS.F ht⟩) hS.2.2 hd hlocks
theorem rd_0 {i k : Nat} : rd M0 i k = ini (kd i) k := rfl
theorem kd_gr : ∀ t, t < 5 → kd (7 + 2 * t) = 2 := by decide +kernel
theorem kd_grw : ∀ t, t < 5 → kd (8 + 2 * t) = 11 := by decide +kernel
theorem kd_sh : ∀ t, t < 4 → kd (120 + 2 * t) = 6 := by decide +kernel
theorem kd_im : ∀ t, t < 2 → kd (76 + 22 * t) = 3 := by decide +kernel
/-- what stands when both are made -/
theorem INV_0 {M M1 M2 : Mem} (hL : ∀ k, k < 4 → rd M 136 k = -4) (h0 : ∀ i q, i ≠ 136 → rd M i q = rd M0 i q) (hR : RdM M1 d00) (f1 : FrDr M M1) (k1 : ∀ k, k < 96 → rd M2 129 k = rd M1 132 k) (k2 : rd M2 131 0 = 0) (k3 : rd M2 131 1 = 0) (k4 : ∀ i q, ¬ (i = 129 ∧ q < 96) → ¬ (i = 131 ∧ q < 2) → rd M2 i q = rd M1 i q) : INV M2 := by
  have c0 : ∀ i q, i < 128 → rd M2 i q = ini (kd i) q := fun i q hi => by rw [k4 _ _ (by omega) (by omega), f1 _ _ (by omega) (by omega), h0 _ _ (by omega)]; rfl
  have m0 : ∀ q, ¬ (4 ≤ q ∧ q ≤ 7) → rd M2 128 q = 0 := fun q hq => by
    rw [k4 _ _ (by omega) (by omega), f1 _ _ (by omega) (by omega), h0 _ _ (by omega)]
    exact congrFun (ini_11 (c := 10) (by omega)) q
  have hC : ExC M2 1 e00 := by
    refine ⟨c0 1 0 (by omega), c0 1 1 (by omega), c0 1 2 (by omega), fun a ha => absurd ha (Nat.not_lt_zero _), fun t ht => ?_⟩
    have e1 := kd_gr t ht
    have e2 := kd_grw t ht
    have r1 : ∀ q, rd M2 (1 + 6 + 2 * t) q = ini 2 q := fun q => by rw [show 1 + 6 + 2 * t = 7 + 2 * t by omega, c0 _ _ (by omega), e1]
    refine ⟨?_, ?_, ?_, ?_, ?_, fun w hw => ?_⟩
    · rw [r1]; rfl
    · rw [r1]; rfl
    · rw [r1]; rfl
    · rw [r1, heldE_fr FR_00]; rfl
    · rw [r1]; rfl
    · rw [show 1 + 6 + 2 * t + 1 = 8 + 2 * t by omega, c0 _ _ (by omega), e2]; exact congrFun (ini_11 (c := 11) (by omega)) w
  refine ⟨e00, c00, ⟨hC, hR.1.congr (by decide) (fun k hk => k1 k (by omega)), ⟨c0 17 0 (by omega), c0 17 1 (by omega), fun a ha => absurd ha (Nat.not_lt_zero _), fun a ha => absurd ha (Nat.not_lt_zero _)⟩, hR.2.1.congr ⟨by decide, by decide⟩ (fun k _ hk => k1 k hk), VE_00, ⟨by decide, by decide, fun a ha => absurd ha (Nat.not_lt_zero _), fun a ha => absurd ha (Nat.not_lt_zero _)⟩⟩, ⟨0, by omega, c0 51 1 (by omega), m0 9 (by omega), fun k hk => absurd hk (Nat.not_lt_zero _)⟩, ⟨?_, ?_⟩, fun k hk => Or.inl ⟨?_, ?_⟩, fun k hk => Or.inl ⟨?_, ?_⟩⟩
  · rw [m0 14 (by omega)]; exact c0 0 9 (by omega)
  · rw [m0 26 (by omega)]; exact c0 0 10 (by omega)
  · rw [c0 _ _ (by omega), kd_sh k hk]; rfl
  · rw [k4 _ _ (by omega) (by omega), f1 _ _ (by omega) (by omega)]; exact hL k hk
  · rw [c0 _ _ (by omega), kd_im k hk]; rfl
  · rcases (show k = 0 ∨ k = 1 by omega) with rfl | rfl
    · exact k2
    · exact k3
set_option maxRecDepth 100000 in
set_option maxHeartbeats 4000000 in
theorem K_X10 {ω : WD} {b0 : Nat} : Met ω.1 yX10_init (.code yX10_init cX10_init 2 none :: TB) { frames := 1, cells := 11, slots := 970, locals := 36 * 1 } (va_Pc [.ref (adr ω 128)] (fun U => PreB ω b0 128 (E0 ω) [(10, [.null, .null, .null, .null, .int 0, .int 0, .int 0, .int 0, .null, .int 0, .int 0, .int 0, .int 0, .int 0, .int 0, .int 0, .null, .int 0, .int 0, .long 0, .long 0, .long 0, .null, .null, .null, .null, .int 0, .null])] U ∧ XW ω U)) (va_Qv (fun M : Mem => INV M) (BM ω) (fun q => b0 ≤ q)) 11 970 (fun q => b0 ≤ q) := by
  refine CtM_start (fun ρ C CG hnm hcs hsz R => ?_)
  have hZ : ∀ j, 128 < j → j < 140 → E0 ω j = E0 ω j := fun j _ _ => rfl
  refine B_aload C dX10_init_0 0 rfl ?_
  refine B_obj C dX10_init_1 967 84 85 (by decide +kernel) (by decide +kernel) (by decide +kernel) (Nat.le_of_ble_eq_true rfl) (by decide) ?_
  refine B_aload C dX10_init_4 0 rfl ?_
  refine B_sipush (v := 288) C dX10_init_5 (by decide) ?_
  refine B_newI (N := 288) C dX10_init_8 130 (by decide +kernel) rfl (Nat.le_of_ble_eq_true rfl) (((upE_ne (by omega)).trans (hZ _ (by omega) (by omega))).trans (E0_arr q129)) (Nat.le_of_ble_eq_true rfl) (Nat.le_of_ble_eq_true rfl) ?_
  show Bj ω b0 ρ (130) (upE (E0 ω) 128 (.inr (10, [.null, .null, .null, .null, .int 0, .int 0, .int 0, .int 0, .null, .int 0, .int 0, .int 0, .int 0, .int 0, .int 0, .int 0, .null, .int 0, .int 0, .long 0, .long 0, .long 0, .null, .null, .null, .null, .int 0, .null]))) [] 1 288 10 [(0, .ref (adr ω 128))] [.ref (adr ω 129), .ref (adr ω 128)]
  refine B_put (N := 28) (T := TX10) (C := RX10) (q := 0) (ty := .array (.int)) (fs' := [.ref (adr ω 129), .null, .null, .null, .int 0, .int 0, .int 0, .int 0, .null, .int 0, .int 0, .int 0, .int 0, .int 0, .int 0, .int 0, .null, .int 0, .int 0, .long 0, .long 0, .long 0, .null, .null, .null, .null, .int 0, .null]) C (by omega) rfl in_X10 tyX10 tyX10_ok nmX10 (by decide) 976 (by decide +kernel) rfl (Or.inr ⟨rfl, hnm, rfl⟩) (by decide +kernel) rfl rfl (Nat.le_of_ble_eq_true rfl) rfl dX10_init_10 ?_
  refine B_aload C dX10_init_13 0 rfl ?_
  refine B_bipush (v := 96) C dX10_init_14 (by decide) ?_
  refine B_newI (N := 96) C dX10_init_16 130 (by decide +kernel) rfl (Nat.le_of_ble_eq_true rfl) (((upE_ne (by omega)).trans (hZ _ (by omega) (by omega))).trans (E0_arr q130)) (Nat.le_of_ble_eq_true rfl) (Nat.le_of_ble_eq_true rfl) ?_
  show Bj ω b0 ρ (131) (upE (E0 ω) 128 (.inr (10, [.ref (adr ω 129), .null, .null, .null, .int 0, .int 0, .int 0, .int 0, .null, .int 0, .int 0, .int 0, .int 0, .int 0, .int 0, .int 0, .null, .int 0, .int 0, .long 0, .long 0, .long 0, .null, .null, .null, .null, .int 0, .null]))) [] 2 384 18 [(0, .ref (adr ω 128))] [.ref (adr ω 130), .ref (adr ω 128)]
  refine B_put (N := 28) (T := TX10) (C := RX10) (q := 1) (ty := .array (.int)) (fs' := [.ref (adr ω 129), .ref (adr ω 130), .null, .null, .int 0, .int 0, .int 0, .int 0, .null, .int 0, .int 0, .int 0, .int 0, .int 0, .int 0, .int 0, .null, .int 0, .int 0, .long 0, .long 0, .long 0, .null, .null, .null, .null, .int 0, .null]) C (by omega) rfl in_X10 tyX10 tyX10_ok nmX10 (by decide) 977 (by decide +kernel) rfl (Or.inr ⟨rfl, hnm, rfl⟩) (by decide +kernel) rfl rfl (Nat.le_of_ble_eq_true rfl) rfl dX10_init_18 ?_
  refine B_aload C dX10_init_21 0 rfl ?_
  refine B_iconst (v := 2) C dX10_init_22 (by decide) ?_
  refine B_newZ (N := 2) C dX10_init_23 1061 (by decide +kernel) rfl (Nat.le_of_ble_eq_true rfl) (((upE_ne (by omega)).trans (hZ _ (by omega) (by omega))).trans (E0_zrr q131)) (Nat.le_of_ble_eq_true rfl) (Nat.le_of_ble_eq_true rfl) ?_
  show Bj ω b0 ρ (132) (upE (E0 ω) 128 (.inr (10, [.ref (adr ω 129), .ref (adr ω 130), .null, .null, .int 0, .int 0, .int 0, .int 0, .null, .int 0, .int 0, .int 0, .int 0, .int 0, .int 0, .int 0, .null, .int 0, .int 0, .long 0, .long 0, .long 0, .null, .null, .null, .null, .int 0, .null]))) [] 3 386 25 [(0, .ref (adr ω 128))] [.ref (adr ω 131), .ref (adr ω 128)]
  refine B_put (N := 28) (T := TX10) (C := RX10) (q := 2) (ty := .array (.boolean)) (fs' := [.ref (adr ω 129), .ref (adr ω 130), .ref (adr ω 131), .null, .int 0, .int 0, .int 0, .int 0, .null, .int 0, .int 0, .int 0, .int 0, .int 0, .int 0, .int 0, .null, .int 0, .int 0, .long 0, .long 0, .long 0, .null, .null, .null, .null, .int 0, .null]) C (by omega) rfl in_X10 tyX10 tyX10_ok nmX10 (by decide) 978 (by decide +kernel) rfl (Or.inr ⟨rfl, hnm, rfl⟩) (by decide +kernel) rfl rfl (Nat.le_of_ble_eq_true rfl) rfl dX10_init_25 ?_
  refine B_aload C dX10_init_28 0 rfl ?_
  refine B_bipush (v := 96) C dX10_init_29 (by decide) ?_
  refine B_newI (N := 96) C dX10_init_31 130 (by decide +kernel) rfl (Nat.le_of_ble_eq_true rfl) (((upE_ne (by omega)).trans (hZ _ (by omega) (by omega))).trans (E0_arr q132)) (Nat.le_of_ble_eq_true rfl) (Nat.le_of_ble_eq_true rfl) ?_
  show Bj ω b0 ρ (133) (upE (E0 ω) 128 (.inr (10, [.ref (adr ω 129), .ref (adr ω 130), .ref (adr ω 131), .null, .int 0, .int 0, .int 0, .int 0, .null, .int 0, .int 0, .int 0, .int 0, .int 0, .int 0, .int 0, .null, .int 0, .int 0, .long 0, .long 0, .long 0, .null, .null, .null, .null, .int 0, .null]))) [] 4 482 33 [(0, .ref (adr ω 128))] [.ref (adr ω 132), .ref (adr ω 128)]
  refine B_put (N := 28) (T := TX10) (C := RX10) (q := 3) (ty := .array (.int)) (fs' := [.ref (adr ω 129), .ref (adr ω 130), .ref (adr ω 131), .ref (adr ω 132), .int 0, .int 0, .int 0, .int 0, .null, .int 0, .int 0, .int 0, .int 0, .int 0, .int 0, .int 0, .null, .int 0, .int 0, .long 0, .long 0, .long 0, .null, .null, .null, .null, .int 0, .null]) C (by omega) rfl in_X10 tyX10 tyX10_ok nmX10 (by decide) 979 (by decide +kernel) rfl (Or.inr ⟨rfl, hnm, rfl⟩) (by decide +kernel) rfl rfl (Nat.le_of_ble_eq_true rfl) rfl dX10_init_33 ?_
  refine B_aload C dX10_init_36 0 rfl ?_
  refine B_sipush (v := 160) C dX10_init_37 (by decide) ?_
  refine B_newI (N := 160) C dX10_init_40 130 (by decide +kernel) rfl (Nat.le_of_ble_eq_true rfl) (((upE_ne (by omega)).trans (hZ _ (by omega) (by omega))).trans (E0_arr q133)) (Nat.le_of_ble_eq_true rfl) (Nat.le_of_ble_eq_true rfl) ?_
  show Bj ω b0 ρ (134) (upE (E0 ω) 128 (.inr (10, [.ref (adr ω 129), .ref (adr ω 130), .ref (adr ω 131), .ref (adr ω 132), .int 0, .int 0, .int 0, .int 0, .null, .int 0, .int 0, .int 0, .int 0, .int 0, .int 0, .int 0, .null, .int 0, .int 0, .long 0, .long 0, .long 0, .null, .null, .null, .null, .int 0, .null]))) [] 5 642 42 [(0, .ref (adr ω 128))] [.ref (adr ω 133), .ref (adr ω 128)]
  refine B_put (N := 28) (T := TX10) (C := RX10) (q := 8) (ty := .array (.int)) (fs' := [.ref (adr ω 129), .ref (adr ω 130), .ref (adr ω 131), .ref (adr ω 132), .int 0, .int 0, .int 0, .int 0, .ref (adr ω 133), .int 0, .int 0, .int 0, .int 0, .int 0, .int 0, .int 0, .null, .int 0, .int 0, .long 0, .long 0, .long 0, .null, .null, .null, .null, .int 0, .null]) C (by omega) rfl in_X10 tyX10 tyX10_ok nmX10 (by decide) 984 (by decide +kernel) rfl (Or.inr ⟨rfl, hnm, rfl⟩) (by decide +kernel) rfl rfl (Nat.le_of_ble_eq_true rfl) rfl dX10_init_42 ?_
  refine B_aload C dX10_init_45 0 rfl ?_
  refine B_bipush (v := 8) C dX10_init_46 (by decide) ?_
  refine B_newI (N := 8) C dX10_init_48 130 (by decide +kernel) rfl (Nat.le_of_ble_eq_true rfl) (((upE_ne (by omega)).trans (hZ _ (by omega) (by omega))).trans (E0_arr q134)) (Nat.le_of_ble_eq_true rfl) (Nat.le_of_ble_eq_true rfl) ?_
  show Bj ω b0 ρ (135) (upE (E0 ω) 128 (.inr (10, [.ref (adr ω 129), .ref (adr ω 130), .ref (adr ω 131), .ref (adr ω 132), .int 0, .int 0, .int 0, .int 0, .ref (adr ω 133), .int 0, .int 0, .int 0, .int 0, .int 0, .int 0, .int 0, .null, .int 0, .int 0, .long 0, .long 0, .long 0, .null, .null, .null, .null, .int 0, .null]))) [] 6 650 50 [(0, .ref (adr ω 128))] [.ref (adr ω 134), .ref (adr ω 128)]
  refine B_put (N := 28) (T := TX10) (C := RX10) (q := 16) (ty := .array (.int)) (fs' := [.ref (adr ω 129), .ref (adr ω 130), .ref (adr ω 131), .ref (adr ω 132), .int 0, .int 0, .int 0, .int 0, .ref (adr ω 133), .int 0, .int 0, .int 0, .int 0, .int 0, .int 0, .int 0, .ref (adr ω 134), .int 0, .int 0, .long 0, .long 0, .long 0, .null, .null, .null, .null, .int 0, .null]) C (by omega) rfl in_X10 tyX10 tyX10_ok nmX10 (by decide) 992 (by decide +kernel) rfl (Or.inr ⟨rfl, hnm, rfl⟩) (by decide +kernel) rfl rfl (Nat.le_of_ble_eq_true rfl) rfl dX10_init_50 ?_
  refine B_aload C dX10_init_53 0 rfl ?_
  refine B_bipush (v := 56) C dX10_init_54 (by decide) ?_
  refine B_newI (N := 56) C dX10_init_56 130 (by decide +kernel) rfl (Nat.le_of_ble_eq_true rfl) (((upE_ne (by omega)).trans (hZ _ (by omega) (by omega))).trans (E0_arr q135)) (Nat.le_of_ble_eq_true rfl) (Nat.le_of_ble_eq_true rfl) ?_
  show Bj ω b0 ρ (136) (upE (E0 ω) 128 (.inr (10, [.ref (adr ω 129), .ref (adr ω 130), .ref (adr ω 131), .ref (adr ω 132), .int 0, .int 0, .int 0, .int 0, .ref (adr ω 133), .int 0, .int 0, .int 0, .int 0, .int 0, .int 0, .int 0, .ref (adr ω 134), .int 0, .int 0, .long 0, .long 0, .long 0, .null, .null, .null, .null, .int 0, .null]))) [] 7 706 58 [(0, .ref (adr ω 128))] [.ref (adr ω 135), .ref (adr ω 128)]
  refine B_put (N := 28) (T := TX10) (C := RX10) (q := 22) (ty := .array (.int)) (fs' := [.ref (adr ω 129), .ref (adr ω 130), .ref (adr ω 131), .ref (adr ω 132), .int 0, .int 0, .int 0, .int 0, .ref (adr ω 133), .int 0, .int 0, .int 0, .int 0, .int 0, .int 0, .int 0, .ref (adr ω 134), .int 0, .int 0, .long 0, .long 0, .long 0, .ref (adr ω 135), .null, .null, .null, .int 0, .null]) C (by omega) rfl in_X10 tyX10 tyX10_ok nmX10 (by decide) 998 (by decide +kernel) rfl (Or.inr ⟨rfl, hnm, rfl⟩) (by decide +kernel) rfl rfl (Nat.le_of_ble_eq_true rfl) rfl dX10_init_58 ?_
  refine B_aload C dX10_init_61 0 rfl ?_
  refine B_iconst (v := 4) C dX10_init_62 (by decide) ?_
  refine B_newI (N := 4) C dX10_init_63 130 (by decide +kernel) rfl (Nat.le_of_ble_eq_true rfl) (((upE_ne (by omega)).trans (hZ _ (by omega) (by omega))).trans (E0_arr q136)) (Nat.le_of_ble_eq_true rfl) (Nat.le_of_ble_eq_true rfl) ?_
  show Bj ω b0 ρ (137) (upE (E0 ω) 128 (.inr (10, [.ref (adr ω 129), .ref (adr ω 130), .ref (adr ω 131), .ref (adr ω 132), .int 0, .int 0, .int 0, .int 0, .ref (adr ω 133), .int 0, .int 0, .int 0, .int 0, .int 0, .int 0, .int 0, .ref (adr ω 134), .int 0, .int 0, .long 0, .long 0, .long 0, .ref (adr ω 135), .null, .null, .null, .int 0, .null]))) [] 8 710 65 [(0, .ref (adr ω 128))] [.ref (adr ω 136), .ref (adr ω 128)]
  refine B_put (N := 28) (T := TX10) (C := RX10) (q := 23) (ty := .array (.int)) (fs' := [.ref (adr ω 129), .ref (adr ω 130), .ref (adr ω 131), .ref (adr ω 132), .int 0, .int 0, .int 0, .int 0, .ref (adr ω 133), .int 0, .int 0, .int 0, .int 0, .int 0, .int 0, .int 0, .ref (adr ω 134), .int 0, .int 0, .long 0, .long 0, .long 0, .ref (adr ω 135), .ref (adr ω 136), .null, .null, .int 0, .null]) C (by omega) rfl in_X10 tyX10 tyX10_ok nmX10 (by decide) 999 (by decide +kernel) rfl (Or.inr ⟨rfl, hnm, rfl⟩) (by decide +kernel) rfl rfl (Nat.le_of_ble_eq_true rfl) rfl dX10_init_65 ?_
  refine B_aload C dX10_init_68 0 rfl ?_
  refine B_iconst (v := 4) C dX10_init_69 (by decide) ?_
  refine B_newI (N := 4) C dX10_init_70 130 (by decide +kernel) rfl (Nat.le_of_ble_eq_true rfl) (((upE_ne (by omega)).trans (hZ _ (by omega) (by omega))).trans (E0_arr q137)) (Nat.le_of_ble_eq_true rfl) (Nat.le_of_ble_eq_true rfl) ?_
  show Bj ω b0 ρ (138) (upE (E0 ω) 128 (.inr (10, [.ref (adr ω 129), .ref (adr ω 130), .ref (adr ω 131), .ref (adr ω 132), .int 0, .int 0, .int 0, .int 0, .ref (adr ω 133), .int 0, .int 0, .int 0, .int 0, .int 0, .int 0, .int 0, .ref (adr ω 134), .int 0, .int 0, .long 0, .long 0, .long 0, .ref (adr ω 135), .ref (adr ω 136), .null, .null, .int 0, .null]))) [] 9 714 72 [(0, .ref (adr ω 128))] [.ref (adr ω 137), .ref (adr ω 128)]
  refine B_put (N := 28) (T := TX10) (C := RX10) (q := 24) (ty := .array (.int)) (fs' := [.ref (adr ω 129), .ref (adr ω 130), .ref (adr ω 131), .ref (adr ω 132), .int 0, .int 0, .int 0, .int 0, .ref (adr ω 133), .int 0, .int 0, .int 0, .int 0, .int 0, .int 0, .int 0, .ref (adr ω 134), .int 0, .int 0, .long 0, .long 0, .long 0, .ref (adr ω 135), .ref (adr ω 136), .ref (adr ω 137), .null, .int 0, .null]) C (by omega) rfl in_X10 tyX10 tyX10_ok nmX10 (by decide) 1000 (by decide +kernel) rfl (Or.inr ⟨rfl, hnm, rfl⟩) (by decide +kernel) rfl rfl (Nat.le_of_ble_eq_true rfl) rfl dX10_init_72 ?_
  refine B_aload C dX10_init_75 0 rfl ?_
  refine B_sipush (v := 160) C dX10_init_76 (by decide) ?_
  refine B_newI (N := 160) C dX10_init_79 130 (by decide +kernel) rfl (Nat.le_of_ble_eq_true rfl) (((upE_ne (by omega)).trans (hZ _ (by omega) (by omega))).trans (E0_arr q138)) (Nat.le_of_ble_eq_true rfl) (Nat.le_of_ble_eq_true rfl) ?_
  show Bj ω b0 ρ (139) (upE (E0 ω) 128 (.inr (10, [.ref (adr ω 129), .ref (adr ω 130), .ref (adr ω 131), .ref (adr ω 132), .int 0, .int 0, .int 0, .int 0, .ref (adr ω 133), .int 0, .int 0, .int 0, .int 0, .int 0, .int 0, .int 0, .ref (adr ω 134), .int 0, .int 0, .long 0, .long 0, .long 0, .ref (adr ω 135), .ref (adr ω 136), .ref (adr ω 137), .null, .int 0, .null]))) [] 10 874 81 [(0, .ref (adr ω 128))] [.ref (adr ω 138), .ref (adr ω 128)]
  refine B_put (N := 28) (T := TX10) (C := RX10) (q := 25) (ty := .array (.int)) (fs' := [.ref (adr ω 129), .ref (adr ω 130), .ref (adr ω 131), .ref (adr ω 132), .int 0, .int 0, .int 0, .int 0, .ref (adr ω 133), .int 0, .int 0, .int 0, .int 0, .int 0, .int 0, .int 0, .ref (adr ω 134), .int 0, .int 0, .long 0, .long 0, .long 0, .ref (adr ω 135), .ref (adr ω 136), .ref (adr ω 137), .ref (adr ω 138), .int 0, .null]) C (by omega) rfl in_X10 tyX10 tyX10_ok nmX10 (by decide) 1001 (by decide +kernel) rfl (Or.inr ⟨rfl, hnm, rfl⟩) (by decide +kernel) rfl rfl (Nat.le_of_ble_eq_true rfl) rfl dX10_init_81 ?_
  refine B_aload C dX10_init_84 0 rfl ?_
  refine B_bipush (v := 96) C dX10_init_85 (by decide) ?_
  refine B_newI (N := 96) C dX10_init_87 130 (by decide +kernel) rfl (Nat.le_of_ble_eq_true rfl) (((upE_ne (by omega)).trans (hZ _ (by omega) (by omega))).trans (E0_arr q139)) (Nat.le_of_ble_eq_true rfl) (Nat.le_of_ble_eq_true rfl) ?_
  show Bj ω b0 ρ (140) (upE (E0 ω) 128 (.inr (10, [.ref (adr ω 129), .ref (adr ω 130), .ref (adr ω 131), .ref (adr ω 132), .int 0, .int 0, .int 0, .int 0, .ref (adr ω 133), .int 0, .int 0, .int 0, .int 0, .int 0, .int 0, .int 0, .ref (adr ω 134), .int 0, .int 0, .long 0, .long 0, .long 0, .ref (adr ω 135), .ref (adr ω 136), .ref (adr ω 137), .ref (adr ω 138), .int 0, .null]))) [] 11 970 89 [(0, .ref (adr ω 128))] [.ref (adr ω 139), .ref (adr ω 128)]
  refine B_put (N := 28) (T := TX10) (C := RX10) (q := 27) (ty := .array (.int)) (fs' := [.ref (adr ω 129), .ref (adr ω 130), .ref (adr ω 131), .ref (adr ω 132), .int 0, .int 0, .int 0, .int 0, .ref (adr ω 133), .int 0, .int 0, .int 0, .int 0, .int 0, .int 0, .int 0, .ref (adr ω 134), .int 0, .int 0, .long 0, .long 0, .long 0, .ref (adr ω 135), .ref (adr ω 136), .ref (adr ω 137), .ref (adr ω 138), .int 0, .ref (adr ω 139)]) C (by omega) rfl in_X10 tyX10 tyX10_ok nmX10 (by decide) 1003 (by decide +kernel) rfl (Or.inr ⟨rfl, hnm, rfl⟩) (by decide +kernel) rfl rfl (Nat.le_of_ble_eq_true rfl) rfl dX10_init_89 ?_
  refine B_iconst (v := 0) C dX10_init_92 (by decide) ?_
  refine B_istore C dX10_init_93 (by decide) (lv' := [(1, .int 0), (0, .ref (adr ω 128))]) rfl ?_
  rw [upE_done (show E0 ω 128 = .inr (10, [.ref (adr ω 129), .ref (adr ω 130), .ref (adr ω 131), .ref (adr ω 132), .int 0, .int 0, .int 0, .int 0, .ref (adr ω 133), .int 0, .int 0, .int 0, .int 0, .int 0, .int 0, .int 0, .ref (adr ω 134), .int 0, .int 0, .long 0, .long 0, .long 0, .ref (adr ω 135), .ref (adr ω 136), .ref (adr ω 137), .ref (adr ω 138), .int 0, .ref (adr ω 139)]) from E0_obj q128 (by decide))]
  refine Bj_G C.2.2.2.2.2.2.1 hcs (by omega) (by omega) ?_
  have fin : ∀ M, (∀ k, k < 4 → rd M 136 k = -4) → (∀ i q, i ≠ 136 → rd M i q = rd M0 i q) → G ω ρ M 113 [(1, .int 4), (0, .ref (adr ω 128))] [] := fun M h1 h2 => by
    refine G_aload_n CG dX10_init_113 1 rfl ?_
    refine G_callV (As := []) (rest := []) CG dX10_init_114 lk_X10_44 (Nat.le_of_ble_eq_true rfl) (Nat.le_of_ble_eq_true rfl) q128 (by decide) rfl (Nat.le_of_ble_eq_true rfl) rfl (S_X10_firstDraft (m_firstDraft (post := fun M1 => RdM M1 d00 ∧ FrDr M M1) (fun M1 a1 a2 => ⟨a1, a2⟩))) (fun M1 h3 => ?_)
    refine G_aload_n CG dX10_init_117 1 rfl ?_
    refine G_callV (As := []) (rest := []) CG dX10_init_118 lk_X10_47 (Nat.le_of_ble_eq_true rfl) (Nat.le_of_ble_eq_true rfl) q128 (by decide) rfl (Nat.le_of_ble_eq_true rfl) rfl (S_X10_keepDraft (m_keepDraft (post := fun M2 => INV M2) (fun M2 b1 b2 b3 b4 => INV_0 h1 h2 h3.1 h3.2 b1 b2 b3 b4))) (fun M2 h4 => ?_)
    exact R 121 M2 _ dX10_init_121 h4
  have loop : ∀ m t M, t + m = 4 → (∀ k, k < t → rd M 136 k = -4) → (∀ i q, i ≠ 136 → rd M i q = rd M0 i q) → G ω ρ M 94 [(1, .int (nI t)), (0, .ref (adr ω 128))] [] := by
    intro m
    induction m with
    | zero =>
      intro t M ht h1 h2
      obtain rfl : t = 4 := by omega
      refine G_iload_n CG dX10_init_94 0 rfl ?_
      refine G_iconst (v := 4) CG dX10_init_95 (by decide) ?_
      exact G_icmp_ge (tgt := 113) CG dX10_init_96 (by decide) (fun _ => fin M h1 h2) (fun c => absurd (nI_le (a := 4) (Nat.le_refl _) (by decide)) c)
    | succ m ih =>
      intro t M ht h1 h2
      refine G_iload_n CG dX10_init_94 0 rfl ?_
      refine G_iconst (v := 4) CG dX10_init_95 (by decide) ?_
      refine G_icmp_ge (tgt := 113) CG dX10_init_96 (by decide) (fun c => absurd c (nI_ge (b := 4) (by omega) (by decide))) (fun _ => ?_)
      refine G_aload_n CG dX10_init_99 1 rfl ?_
      refine gf_X10_32 CG dX10_init_100 ?_
      refine G_iload_n CG dX10_init_103 0 rfl ?_
      refine G_bipush (v := -4) CG dX10_init_104 (by decide) ?_
      refine G_iast CG q136 (vp_in_nI (by omega) (by omega)) (tnI (by omega)) dX10_init_106 ?_
      refine G_iinc CG dX10_init_107 0 rfl (v := nI (t + 1)) (nI_1 t) (by decide) (lv' := [(1, .int (nI (t + 1))), (0, .ref (adr ω 128))]) rfl ?_
      refine G_goto (tgt := 94) CG dX10_init_110 (by decide) ?_
      refine ih (t + 1) _ (by omega) (fun k hk => ?_) (fun i q hi => by rw [rd_ne (by omega)]; exact h2 i q hi)
      by_cases z : k = t
      · rw [rd_eq ⟨rfl, z⟩]
      · rw [rd_ne (by omega)]; exact h1 k (by omega)
  exact loop 4 0 M0 rfl (fun k hk => absurd hk (Nat.not_lt_zero _)) (fun _ _ _ => rfl)
