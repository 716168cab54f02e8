/-! calls that change: the tape, what was seen, the plan -/
theorem bnd_lo {v : Int32} (h : v < 0) {k : Nat} (hk : k < 2 ^ 31) : v ≠ nI k := by
  rintro rfl
  exact nI_pos hk h
theorem bnd_hi {v : Int32} {n k : Nat} (h : nI n ≤ v) (hk : k < n) (hn : n < 2 ^ 31) : v ≠ nI k := by
  rintro rfl
  exact nI_ge hk hn h
theorem bnd_hi' {v : Int32} {n k : Nat} (h : ¬ v ≤ nI n) (hk : k < n + 1) (hn : n < 2 ^ 31) : v ≠ nI k := by
  rintro rfl
  exact h (nI_le (by omega) hn)
theorem bnd_in {v : Int32} {n : Nat} (h0 : ¬ v < 0) (h : ¬ nI n ≤ v) : ∃ k, k < n ∧ v = nI k := by
  obtain ⟨j, hj, rfl⟩ := nI_of h0
  rcases Nat.lt_or_ge j n with z | z
  · exact ⟨j, z, rfl⟩
  · exact absurd (nI_le z hj) h
theorem bnd_in' {v : Int32} {n : Nat} (hn : n < 2 ^ 31) (h0 : ¬ v < 0) (h : v ≤ nI n) : ∃ k, k < n + 1 ∧ v = nI k := by
  obtain ⟨j, hj, rfl⟩ := nI_of h0
  exact ⟨j, by have := (nI_leI hj hn).mp h; omega, rfl⟩
theorem i64 {x : Int32} {n : Nat} (hx : x = nI n) (hn : n < 2 ^ 31) : (x.toInt64).toInt = ((n + 1 : Nat) : Int) - 1 := by
  subst hx
  rw [Int32.toInt_toInt64, nI_toInt hn]
  omega
theorem ShP.at {M M' : Mem} {k : Nat} (h : ShP M k) (s : ∀ i q, i = 120 + 2 * k ∨ i = 121 + 2 * k ∨ (i = 136 ∧ q = k) ∨ (i = 137 ∧ q = k) ∨ (i = 138 ∧ 40 * k ≤ q ∧ q < 40 * k + 40) → rd M' i q = rd M i q) : ShP M' k := by
  rcases h with ⟨a, b⟩ | ⟨l, z, a1, a2, a3, a4, a5, a6, a7⟩
  · exact Or.inl ⟨by rw [s _ _ (by omega)]; exact a, by rw [s _ _ (by omega)]; exact b⟩
  · refine Or.inr ⟨l, z, a1, a2, ?_, ?_, ?_, ?_, fun i hi => ?_⟩
    · rw [s _ _ (by omega)]; exact a3
    · rw [s _ _ (by omega)]; exact a4
    · rw [s _ _ (by omega)]; exact a5
    · rw [s _ _ (by omega)]; exact a6
    · rw [s _ _ (by omega), s 138 _ (by omega)]; exact a7 i hi
theorem ImP.at {M M' : Mem} {k : Nat} (h : ImP M k) (s : ∀ i q, (76 + 22 * k ≤ i ∧ i < 98 + 22 * k) ∨ (i = 131 ∧ q = k) ∨ (i = 129 ∧ 96 * (k + 1) ≤ q ∧ q < 96 * (k + 2)) → rd M' i q = rd M i q) : ImP M' k := by
  rcases h with ⟨a, b⟩ | ⟨a, b, e, c, a1, a2, a3, a4, a5, a6⟩
  · exact Or.inl ⟨by rw [s _ _ (by omega)]; exact a, by rw [s _ _ (by omega)]; exact b⟩
  · refine Or.inr ⟨by rw [s _ _ (by omega)]; exact a, by rw [s _ _ (by omega)]; exact b, e, c, ?_, ?_, ?_, ?_, a5, a6⟩
    · exact a1.at (fun i q _ _ => s _ _ (by omega))
    · exact a2.congr a5.m (fun j _ => s _ _ (by omega))
    · exact a3.at (fun i q _ _ => s _ _ (by omega))
    · exact a4.congr ⟨a6.1, a6.2.1⟩ (fun j _ _ => s _ _ (by omega))
/-- the tape -/
theorem INV.tape {M M' : Mem} (h : INV M) (hT : TapeP M') (s : ∀ i q, i ≠ 52 → i ≠ 133 → ¬ (i = 51 ∧ q = 1) → ¬ (i = 128 ∧ q = 9) → rd M' i q = rd M i q) : INV M' := by
  obtain ⟨e, c, hC, hR⟩ := h
  refine ⟨e, c, hC.at (fun i q a b => s _ _ (by omega) (by omega) (by omega) (by omega)) (fun q _ => s _ _ (by omega) (by omega) (by omega) (by omega)), hT, ⟨?_, ?_⟩, fun k hk => (hR.2.2.1 k hk).at (fun i q p => s _ _ (by omega) (by omega) (by omega) (by omega)), fun k hk => (hR.2.2.2 k hk).at (fun i q p => s _ _ (by omega) (by omega) (by omega) (by omega))⟩
  · rw [s _ _ (by omega) (by omega) (by omega) (by omega), s 128 14 (by omega) (by omega) (by omega) (by omega)]; exact hR.2.1.1
  · rw [s _ _ (by omega) (by omega) (by omega) (by omega), s 128 26 (by omega) (by omega) (by omega) (by omega)]; exact hR.2.1.2
theorem op_feed {M : Mem} {v : Int32} (hI : INV M) : w_X9_feed v M (fun r M1 => w_X10_feed v M1 (fun r' M2 => r = r' ∧ INV M2)) := by
  obtain ⟨n, hn, t1, t2, t3⟩ : TapeP M := by obtain ⟨e, c, hC, hR⟩ := hI; exact hR.1
  have bad : (∀ k, k < 128 → v ≠ nI k) → w_X10_feed v M (fun r' M2 => -1 = r' ∧ INV M2) := fun no => by
    unfold w_X10_feed
    exact m_inR (l := 0) (n := 128) rfl rfl (by omega) (fun k _ hk hv => absurd hv (no k hk)) (fun _ => ⟨fun q => absurd rfl q, fun _ => ⟨rfl, hI⟩⟩)
  unfold w_X9_feed
  refine ⟨fun q => bad (fun k hk => bnd_lo q (by omega)), fun q => ⟨fun q2 => ?_, fun q2 => bad (fun k hk => bnd_hi' (n := 127) q2 hk (by decide))⟩⟩
  obtain ⟨b, hb, rfl⟩ := bnd_in' (n := 127) (by decide) q q2
  rw [t1]
  refine ⟨fun q3 => ?_, fun q3 => ?_⟩
  · have hlt := (nI_ltI (b := 160) (by omega) (by decide)).mp q3
    refine ⟨vp_in_nI hlt (by omega), ?_⟩
    rw [tnI (by omega)]
    rintro M1 rfl M2 rfl
    unfold w_X10_feed
    refine m_inR (l := 0) (n := 128) rfl rfl (by omega) (fun _ _ _ _ => ⟨fun _ => ?_, fun q => absurd q (by decide)⟩) (fun no => absurd rfl (no b (by omega) (by omega)))
    have e9 : rd (wr (wr M 52 n (nI b)) 51 1 (rd (wr M 52 n (nI b)) 51 1 + 1)) 128 9 = nI n := by rw [rd_ne (by omega), rd_ne (by omega)]; exact t2
    have e1 : rd (wr (wr M 52 n (nI b)) 51 1 (rd (wr M 52 n (nI b)) 51 1 + 1)) 51 1 = nI (n + 1) := by rw [rd_eq ⟨rfl, rfl⟩, rd_ne (by omega), t1, nI_1]
    have eM1 : ∀ i q, i ≠ 52 → ¬ (i = 51 ∧ q = 1) → rd (wr (wr M 52 n (nI b)) 51 1 (rd (wr M 52 n (nI b)) 51 1 + 1)) i q = rd M i q := fun i q h1 h2 => by rw [rd_ne (by omega), rd_ne (by omega)]
    have e51 : ∀ q, rd (wr (wr M 52 n (nI b)) 51 1 (rd (wr M 52 n (nI b)) 51 1 + 1)) 52 q = if q = n then nI b else rd M 52 q := fun q => by
      rw [rd_ne (by omega)]
      by_cases z : q = n
      · rw [rd_eq ⟨rfl, z⟩, if_pos z]
      · rw [rd_ne (by omega), if_neg z]
    generalize wr (wr M 52 n (nI b)) 51 1 (rd (wr M 52 n (nI b)) 51 1 + 1) = M2 at *
    rw [e9, e1]
    refine ⟨fun _ => ⟨vp_in_nI hlt (by omega), ?_⟩, fun z => absurd (nI_inj (b := 160) (by omega) (by decide) z) (by omega)⟩
    rw [tnI (by omega)]
    rintro M3 rfl
    rw [rd_ne (by omega), e9, nI_1]
    rintro M4 rfl
    rw [rd_eq ⟨rfl, rfl⟩]
    refine ⟨rfl, hI.tape ⟨n + 1, by omega, ?_, rd_eq ⟨rfl, rfl⟩, fun k hk => ?_⟩ (fun i q h1 h2 h3 h4 => ?_)⟩
    · rw [rd_ne (by omega), rd_ne (by omega)]; exact e1
    · by_cases z : k = n
      · refine ⟨b, by omega, ?_, ?_⟩
        · rw [rd_ne (by omega), rd_ne (by omega), e51, if_pos z]
        · rw [rd_ne (by omega), rd_eq ⟨rfl, z⟩]
      · obtain ⟨b', hb', u1, u2⟩ := t3 k (by omega)
        refine ⟨b', hb', ?_, ?_⟩
        · rw [rd_ne (by omega), rd_ne (by omega), e51, if_neg z]; exact u1
        · rw [rd_ne (by omega), rd_ne (by omega), eM1 _ _ (by omega) (by omega)]; exact u2
    · rw [rd_ne (by omega), rd_ne (by omega), eM1 _ _ h1 h3]
  · have hge : n = 160 := by
      rcases Nat.lt_or_ge n 160 with z | z
      · exact absurd (nI_lt (b := 160) z (by decide)) q3
      · omega
    unfold w_X10_feed
    refine m_inR (l := 0) (n := 128) rfl rfl (by omega) (fun _ _ _ _ => ⟨fun _ => ?_, fun q => absurd q (by decide)⟩) (fun no => absurd rfl (no b (by omega) (by omega)))
    rw [t2, hge]
    exact ⟨fun z => absurd rfl z, fun _ => ⟨rfl, hI⟩⟩
theorem op_end {M : Mem} {v : Int32} (hI : INV M) : w_X9_end v M (fun r M1 => w_X10_end v M1 (fun r' M2 => r = r' ∧ INV M2)) := by
  obtain ⟨n, hn, t1, t2, t3⟩ : TapeP M := by obtain ⟨e, c, hC, hR⟩ := hI; exact hR.1
  have bad : (∀ k, k < n + 1 → v ≠ nI k) → w_X10_end v M (fun r' M2 => -1 = r' ∧ INV M2) := fun no => by
    unfold w_X10_end
    exact m_inR (l := 0) (n := n + 1) rfl (i64 t2 (by omega)) (by omega) (fun k _ hk hv => absurd hv (no k hk)) (fun _ => ⟨fun q => absurd rfl q, fun _ => ⟨rfl, hI⟩⟩)
  unfold w_X9_end
  rw [t1]
  refine ⟨fun q => bad (fun k hk => bnd_lo q (by omega)), fun q => ⟨fun q2 => ?_, fun q2 => bad (fun k hk => bnd_hi' q2 hk (by omega))⟩⟩
  obtain ⟨b, hb, rfl⟩ := bnd_in' (by omega) q q2
  rintro v1 rfl M2 rfl
  unfold w_X10_end
  have e9 : rd (wr M 51 1 (nI b)) 128 9 = nI n := by rw [rd_ne (by omega)]; exact t2
  refine m_inR (l := 0) (n := n + 1) rfl (i64 e9 (by omega)) (by omega) (fun _ _ _ _ => ⟨fun _ => ?_, fun q => absurd q (by decide)⟩) (fun no => absurd rfl (no b (by omega) (by omega)))
  rw [e9]
  rintro v3 rfl M4 rfl
  refine ⟨rfl, hI.tape ⟨b, by omega, ?_, rd_eq ⟨rfl, rfl⟩, fun k hk => ?_⟩ (fun i q h1 h2 h3 h4 => ?_)⟩
  · rw [rd_ne (by omega), rd_eq ⟨rfl, rfl⟩]
  · obtain ⟨b', hb', u1, u2⟩ := t3 k (by omega)
    exact ⟨b', hb', by rw [rd_ne (by omega), rd_ne (by omega)]; exact u1, by rw [rd_ne (by omega), rd_ne (by omega)]; exact u2⟩
  · rw [rd_ne (by omega), rd_ne (by omega)]
/-! what the two hold changes alike -/
def RefP (M : Mem) (e : EX) (c : SC) : Prop := ExM (R129 M) e ∧ ScM (R129 M) c ∧ VE e ∧ VS (eM e) c
theorem CoreP.ref {M : Mem} {e : EX} {c : SC} (h : CoreP M e c) : RefP M e c := ⟨h.2.1, h.2.2.2.1, h.2.2.2.2.1, h.2.2.2.2.2⟩
theorem RefP.fr {M M' : Mem} {e : EX} {c : SC} {lo hi : Nat} (h : RefP M e c) (f : Fr lo hi M M') (hd : hi ≤ 129 ∨ 130 ≤ lo) : RefP M' e c := ⟨h.1.congr h.2.2.1.m (fun k _ => f.row (by omega) k), h.2.1.congr ⟨h.2.2.2.1, h.2.2.2.2.1⟩ (fun k _ _ => f.row (by omega) k), h.2.2⟩
theorem RefP.st {M M' : Mem} {e : EX} {c : SC} (h : RefP M e c) (k : ∀ k, k < 96 → rd M' 130 k = rd M 129 k) : ExM (R130 M') e ∧ ScM (R130 M') c := ⟨h.1.congr h.2.2.1.m (fun q hq => k q (by omega)), h.2.1.congr ⟨h.2.2.2.1, h.2.2.2.2.1⟩ (fun q _ hq => k q hq)⟩
/-- the reference's rows at hand and the first of its states changed -/
def PS (i k : Nat) : Prop := i < 128 ∨ (i = 129 ∧ 96 ≤ k) ∨ i = 131 ∨ i = 133 ∨ (136 ≤ i ∧ i ≤ 138) ∨ (i = 128 ∧ (k = 9 ∨ k = 14 ∨ k = 26))
def FrS (M M' : Mem) : Prop := ∀ i k, PS i k → rd M' i k = rd M i k
theorem FrS.refl {M : Mem} : FrS M M := fun _ _ _ => rfl
theorem FrS.trans {M M1 M2 : Mem} (h : FrS M M1) (h2 : FrS M1 M2) : FrS M M2 := fun i k p => (h2 i k p).trans (h i k p)
theorem FrM.s {M M' : Mem} (h : FrM M M') : FrS M M' := fun i k p => h i k (by unfold PS at p; unfold PM; omega)
theorem FrS.wr {M : Mem} {k : Nat} {v : Int32} (h : k < 96) : FrS M (wr M 129 k v) := fun i q p => rd_ne (by unfold PS at p; omega)
theorem FrN.s {M M' : Mem} (h : FrN M M') : FrS M M' := (FrM.of130 h.1).s
theorem INV.upd {M M1 M2 : Mem} {e : EX} {c : SC} (hI : INV M) (f1 : Fr 1 50 M M1) (f2 : FrS M1 M2) (h1 : ExC M1 1 e) (h2 : ScC M1 17 c) (h3 : ExM (R129 M2) e) (h4 : ScM (R129 M2) c) (h5 : VE e) (h6 : VS (eM e) c) : INV M2 := by
  obtain ⟨e0, c0, hC, hR⟩ := hI
  refine ⟨e, c, ⟨h1.at (fun i q _ _ => f2 i q (by unfold PS; omega)), h3, h2.at (fun i q _ _ => f2 i q (by unfold PS; omega)), h4, h5, h6⟩, hR.at (fun i k p => ?_)⟩
  rw [f2 i k (by unfold P2 at p; unfold PS; omega), f1.row (by unfold P2 at p; omega)]
theorem m_becomes {M : Mem} {k : Nat} {q v : Int32} {post : Int32 → Mem → Prop} (hq : q = nI k) (hk : k < 288) (h : post (rd M 129 k) (wr M 129 k v)) : w_X10_becomes q v M post := by
  subst hq
  unfold w_X10_becomes
  rw [tnI (by omega)]
  refine ⟨vp_in_nI hk (by omega), ?_⟩
  rintro v1 rfl
  refine ⟨vp_in_nI hk (by omega), ?_⟩
  rintro M2 rfl
  exact h
/-- forget, cut, see, plan -/
def keepS (c : SC) (n : Nat) : SC := (sA c, sW c, sD c, n, sI c, sF c)
def keepA (c : SC) (n : Nat) : SC := (n, sW c, sD c, sN c, sI c, sF c)
def seeS (c : SC) (i f : Nat) : SC := (sA c, sW c, sD c, sN c + 1, up (sI c) (sN c) i, up (sF c) (sN c) f)
def planA (c : SC) (a n : Nat) : SC := (sA c + 1, up (sW c) (sA c) a, up (sD c) (sA c) n, sN c, sI c, sF c)
theorem op_forget {M : Mem} {v : Int32} (hI : INV M) : w_X9_forget v M (fun r M1 => w_X10_forget v M1 (fun r' M2 => r = r' ∧ INV M2)) := by
  obtain ⟨e, c, hC, hR⟩ := id hI
  obtain ⟨hX, hY, hS, hSm, hV, hVS⟩ := id hC
  have h6 := hVS.2.1
  have bad : (∀ k, k < sN c + 1 → v ≠ nI k) → w_X10_forget v M (fun r' M2 => -1 = r' ∧ INV M2) := fun no => by
    unfold w_X10_forget
    exact m_inR (l := 0) (n := sN c + 1) rfl (i64 (show rd M 129 83 = _ from hSm.2.1) (by omega)) (by omega) (fun k _ hk hv => absurd hv (no k hk)) (fun _ => ⟨fun _ => ⟨rfl, hI⟩, fun q => absurd rfl q⟩)
  unfold w_X9_forget
  rw [hS.2.1]
  refine ⟨fun q => bad (fun k hk => bnd_lo q (by omega)), fun q => ⟨fun q2 => ?_, fun q2 => bad (fun k hk => bnd_hi' q2 hk (by omega))⟩⟩
  obtain ⟨b, hb, rfl⟩ := bnd_in' (by omega) q q2
  rintro v1 rfl M2 rfl
  unfold w_X10_forget
  have e9 : rd (wr M 17 1 (nI b)) 129 83 = nI (sN c) := by rw [rd_ne (by omega)]; exact hSm.2.1
  refine m_inR (l := 0) (n := sN c + 1) rfl (i64 e9 (by omega)) (by omega) (fun _ _ _ _ => ⟨fun q => absurd q (by decide), fun _ => ?_⟩) (fun no => absurd rfl (no b (by omega) (by omega)))
  refine m_becomes (k := 83) rfl (by omega) ?_
  rw [e9]
  refine ⟨rfl, hI.upd (c := keepS c b) (Fr.wr (i := 17) (by omega)) (FrS.wr (by omega)) (hX.fr (lo := 17) (hi := 18) (Fr.wr (by omega)) (by omega)) ⟨?_, ?_, fun i hi => ?_, fun j hj => ?_⟩ (hY.congr hV.m (fun k hk => ?_)) ⟨?_, ?_, fun i hi => ?_, fun j hj => ?_⟩ hV ⟨hVS.1, by show b ≤ 6; omega, hVS.2.2.1, fun j hj => hVS.2.2.2 j (by have : j < b := hj; omega)⟩⟩
  · rw [rd_ne (by omega)]; exact hS.1
  · rw [rd_eq ⟨rfl, rfl⟩]; rfl
  · rw [rd_ne (by omega), rd_ne (by omega)]; exact hS.2.2.1 i hi
  · have hj : j < b := hj
    rw [rd_ne (by omega), rd_ne (by omega)]; exact hS.2.2.2 j (by omega)
  · show rd _ 129 k = rd M 129 k
    rw [rd_ne (by omega), rd_ne (by omega)]
  · show rd _ 129 66 = _
    rw [rd_ne (by omega), rd_ne (by omega)]; exact hSm.1
  · show rd _ 129 83 = _
    rw [rd_eq ⟨rfl, rfl⟩]; rfl
  · have hi : i < sA c := hi
    show rd _ 129 (67 + 2 * i) = _ ∧ rd _ 129 (68 + 2 * i) = _
    have := hVS.1
    rw [rd_ne (by omega), rd_ne (by omega), rd_ne (by omega), rd_ne (by omega)]; exact hSm.2.2.1 i hi
  · have hj : j < b := hj
    show rd _ 129 (84 + 2 * j) = _ ∧ rd _ 129 (85 + 2 * j) = _
    rw [rd_ne (by omega), rd_ne (by omega), rd_ne (by omega), rd_ne (by omega)]; exact hSm.2.2.2 j (by omega)
theorem op_cut {M : Mem} {v : Int32} (hI : INV M) : w_X9_cut v M (fun r M1 => w_X10_cut v M1 (fun r' M2 => r = r' ∧ INV M2)) := by
  obtain ⟨e, c, hC, hR⟩ := id hI
  obtain ⟨hX, hY, hS, hSm, hV, hVS⟩ := id hC
  have h8 := hVS.1
  have h6 := hVS.2.1
  have bad : (∀ k, k < sA c + 1 → v ≠ nI k) → w_X10_cut v M (fun r' M2 => -1 = r' ∧ INV M2) := fun no => by
    unfold w_X10_cut
    exact m_inR (l := 0) (n := sA c + 1) rfl (i64 (show rd M 129 66 = _ from hSm.1) (by omega)) (by omega) (fun k _ hk hv => absurd hv (no k hk)) (fun _ => ⟨fun _ => ⟨rfl, hI⟩, fun q => absurd rfl q⟩)
  unfold w_X9_cut
  rw [hS.1]
  refine ⟨fun q => bad (fun k hk => bnd_lo q (by omega)), fun q => ⟨fun q2 => ?_, fun q2 => bad (fun k hk => bnd_hi' q2 hk (by omega))⟩⟩
  obtain ⟨b, hb, rfl⟩ := bnd_in' (by omega) q q2
  rintro v1 rfl M2 rfl
  unfold w_X10_cut
  have e9 : rd (wr M 17 0 (nI b)) 129 66 = nI (sA c) := by rw [rd_ne (by omega)]; exact hSm.1
  refine m_inR (l := 0) (n := sA c + 1) rfl (i64 e9 (by omega)) (by omega) (fun _ _ _ _ => ⟨fun q => absurd q (by decide), fun _ => ?_⟩) (fun no => absurd rfl (no b (by omega) (by omega)))
  refine m_becomes (k := 66) rfl (by omega) ?_
  rw [e9]
  refine ⟨rfl, hI.upd (c := keepA c b) (Fr.wr (i := 17) (by omega)) (FrS.wr (by omega)) (hX.fr (lo := 17) (hi := 18) (Fr.wr (by omega)) (by omega)) ⟨?_, ?_, fun i hi => ?_, fun j hj => ?_⟩ (hY.congr hV.m (fun k hk => ?_)) ⟨?_, ?_, fun i hi => ?_, fun j hj => ?_⟩ hV ⟨by show b ≤ 8; omega, hVS.2.1, fun i hi => hVS.2.2.1 i (by have : i < b := hi; omega), hVS.2.2.2⟩⟩
  · rw [rd_eq ⟨rfl, rfl⟩]; rfl
  · rw [rd_ne (by omega)]; exact hS.2.1
  · have hi : i < b := hi
    rw [rd_ne (by omega), rd_ne (by omega)]; exact hS.2.2.1 i (by omega)
  · rw [rd_ne (by omega), rd_ne (by omega)]; exact hS.2.2.2 j hj
  · show rd _ 129 k = rd M 129 k
    rw [rd_ne (by omega), rd_ne (by omega)]
  · show rd _ 129 66 = _
    rw [rd_eq ⟨rfl, rfl⟩]; rfl
  · show rd _ 129 83 = _
    rw [rd_ne (by omega), rd_ne (by omega)]; exact hSm.2.1
  · have hi : i < b := hi
    show rd _ 129 (67 + 2 * i) = _ ∧ rd _ 129 (68 + 2 * i) = _
    rw [rd_ne (by omega), rd_ne (by omega), rd_ne (by omega), rd_ne (by omega)]; exact hSm.2.2.1 i (by omega)
  · have hj : j < sN c := hj
    show rd _ 129 (84 + 2 * j) = _ ∧ rd _ 129 (85 + 2 * j) = _
    rw [rd_ne (by omega), rd_ne (by omega), rd_ne (by omega), rd_ne (by omega)]; exact hSm.2.2.2 j hj
theorem op_see {M : Mem} {v w : Int32} (hI : INV M) : w_X9_see v w M (fun r M1 => w_X10_see v w M1 (fun r' M2 => r = r' ∧ INV M2)) := by
  obtain ⟨e, c, hC, hR⟩ := id hI
  obtain ⟨hX, hY, hS, hSm, hV, hVS⟩ := id hC
  have h6 := hVS.2.1
  have h8 := hVS.1
  have bad1 : (∀ k, k < 8 → v ≠ nI k) → w_X10_see v w M (fun r' M2 => -1 = r' ∧ INV M2) := fun no => by
    unfold w_X10_see
    exact m_inR (l := 0) (n := 8) rfl rfl (by omega) (fun k _ hk hv => absurd hv (no k hk)) (fun _ => ⟨fun _ => ⟨rfl, hI⟩, fun q => absurd rfl q⟩)
  unfold w_X9_see
  refine ⟨fun q => bad1 (fun k hk => bnd_lo q (by omega)), fun q => ⟨fun q2 => bad1 (fun k hk => bnd_hi (n := 8) q2 hk (by omega)), fun q2 => ?_⟩⟩
  obtain ⟨i, hi, rfl⟩ := bnd_in (n := 8) q q2
  have pre : ∀ (M1 : Mem) (P : Int32 → Mem → Prop), _ → w_X10_see (nI i) w M1 P := fun M1 P h => by
    unfold w_X10_see
    exact m_inR (l := 0) (n := 8) rfl rfl (by omega) (fun _ _ _ _ => ⟨fun q => absurd q (by decide), fun _ => h⟩) (fun no => absurd rfl (no i (by omega) hi))
  have bad2 : (∀ k, k < 7 → w ≠ nI k) → w_X10_see (nI i) w M (fun r' M2 => -1 = r' ∧ INV M2) := fun no => by
    exact pre _ _ (m_inR (l := 0) (n := 7) rfl rfl (by omega) (fun k _ hk hv => absurd hv (no k hk)) (fun _ => ⟨fun q => absurd rfl q, fun _ => ⟨rfl, hI⟩⟩))
  refine ⟨fun q => bad2 (fun k hk => bnd_lo q (by omega)), fun q => ⟨fun q2 => ?_, fun q2 => bad2 (fun k hk => bnd_hi' (n := 6) q2 hk (by decide))⟩⟩
  obtain ⟨f, hf, rfl⟩ := bnd_in' (n := 6) (by decide) q q2
  rw [hS.2.1]
  refine ⟨fun q3 => ?_, fun q3 => ?_⟩
  · have hlt := (nI_ltI (b := 6) (by omega) (by decide)).mp q3
    refine ⟨vp_in_nI hlt (by omega), ?_⟩
    rw [tnI (by omega)]
    rintro M1 rfl
    rw [rd_ne (by omega), hS.2.1, tnI (by omega)]
    refine ⟨vp_in_nI hlt (by omega), ?_⟩
    rintro M2 rfl
    rw [rd_ne (by omega), rd_ne (by omega), hS.2.1, nI_1]
    rintro M3 hM3
    have r3 : ∀ a b, rd M3 a b = if a = 17 ∧ b = 1 then nI (sN c + 1) else if a = 21 ∧ b = sN c then nI f else if a = 20 ∧ b = sN c then nI i else rd M a b := fun a b => by
      rw [hM3, rd_wr, rd_wr, rd_wr]
    have f3 : Fr 1 50 M M3 := by rw [hM3]; repeat (first | exact Fr.refl | refine Fr.trans ?_ (Fr.wr (by omega)))
    have s3 : Fr 17 22 M M3 := by rw [hM3]; repeat (first | exact Fr.refl | refine Fr.trans ?_ (Fr.wr (by omega)))
    clear hM3
    rw [r3 17 1, if_pos ⟨rfl, rfl⟩]
    have e83 : rd M3 129 83 = nI (sN c) := by rw [s3.row (by omega)]; exact hSm.2.1
    refine pre _ _ (m_inR (l := 0) (n := 7) rfl rfl (by omega) (fun _ _ _ _ => ⟨fun _ => ?_, fun q => absurd q (by decide)⟩) (fun no => absurd rfl (no f (by omega) (by omega))))
    rw [e83]
    refine ⟨fun _ => ?_, fun z => absurd (nI_inj (b := 6) (by omega) (by decide) z) (by omega)⟩
    rw [show (84 : Int32) + 2 * nI (sN c) = nI (84 + 2 * sN c) by rw [show (2 : Int32) = nI 2 from rfl, show (84 : Int32) = nI 84 from rfl, pk_mul, nI_add]]
    rintro v5 rfl
    rw [nI_1, tnI (by omega), tnI (by omega)]
    refine ⟨vp_in_nI (by omega) (by omega), ?_⟩
    rintro M6 rfl
    refine ⟨vp_in_nI (by omega) (by omega), ?_⟩
    rintro M7 rfl
    rw [rd_ne (by omega), rd_ne (by omega), e83, nI_1]
    rintro M8 hM8
    have r8 : ∀ a b, rd M8 a b = if a = 129 ∧ b = 83 then nI (sN c + 1) else if a = 129 ∧ b = 84 + 2 * sN c + 1 then nI f else if a = 129 ∧ b = 84 + 2 * sN c then nI i else rd M3 a b := fun a b => by
      rw [hM8, rd_wr, rd_wr, rd_wr]
    have f8 : FrS M3 M8 := by rw [hM8]; exact ((FrS.wr (by omega)).trans (FrS.wr (by omega))).trans (FrS.wr (by omega))
    clear hM8
    rw [r8 129 83, if_pos ⟨rfl, rfl⟩]
    refine ⟨rfl, hI.upd (c := seeS c i f) f3 f8 (hX.fr s3 (by omega)) ⟨?_, ?_, fun a ha => ?_, fun j hj => ?_⟩ (hY.congr hV.m (fun k hk => ?_)) ⟨?_, ?_, fun a ha => ?_, fun j hj => ?_⟩ hV ⟨hVS.1, by show sN c + 1 ≤ 6; omega, hVS.2.2.1, fun j hj => ?_⟩⟩
    · rw [r3, if_neg (by omega), if_neg (by omega), if_neg (by omega)]; exact hS.1
    · rw [r3, if_pos ⟨rfl, rfl⟩]; rfl
    · rw [r3, if_neg (by omega), if_neg (by omega), if_neg (by omega), r3, if_neg (by omega), if_neg (by omega), if_neg (by omega)]; exact hS.2.2.1 a ha
    · have hj : j < sN c + 1 := hj
      show _ = nI (up (sI c) (sN c) i j) ∧ _ = nI (up (sF c) (sN c) f j)
      by_cases z : j = sN c
      · rw [r3, if_neg (by omega), if_neg (by omega), if_pos (by omega), r3, if_neg (by omega), if_pos (by omega), up_eq z, up_eq z]; exact ⟨rfl, rfl⟩
      · rw [r3, if_neg (by omega), if_neg (by omega), if_neg (by omega), r3, if_neg (by omega), if_neg (by omega), if_neg (by omega), up_ne z, up_ne z]; exact hS.2.2.2 j (by omega)
    · show rd M8 129 k = rd M 129 k
      rw [r8, if_neg (by omega), if_neg (by omega), if_neg (by omega), s3.row (by omega)]
    · show rd M8 129 66 = _
      rw [r8, if_neg (by omega), if_neg (by omega), if_neg (by omega), s3.row (by omega)]; exact hSm.1
    · show rd M8 129 83 = _
      rw [r8, if_pos ⟨rfl, rfl⟩]; rfl
    · have ha : a < sA c := ha
      show rd M8 129 (67 + 2 * a) = _ ∧ rd M8 129 (68 + 2 * a) = _
      rw [r8, if_neg (by omega), if_neg (by omega), if_neg (by omega), s3.row (by omega), r8, if_neg (by omega), if_neg (by omega), if_neg (by omega), s3.row (by omega)]; exact hSm.2.2.1 a ha
    · have hj : j < sN c + 1 := hj
      show rd M8 129 (84 + 2 * j) = nI (up (sI c) (sN c) i j) ∧ rd M8 129 (85 + 2 * j) = nI (up (sF c) (sN c) f j)
      by_cases z : j = sN c
      · rw [r8, if_neg (by omega), if_neg (by omega), if_pos (by omega), r8, if_neg (by omega), if_pos (by omega), up_eq z, up_eq z]; exact ⟨rfl, rfl⟩
      · rw [r8, if_neg (by omega), if_neg (by omega), if_neg (by omega), r8, if_neg (by omega), if_neg (by omega), if_neg (by omega), s3.row (by omega), s3.row (by omega), up_ne z, up_ne z]; exact hSm.2.2.2 j (by omega)
    · have hj : j < sN c + 1 := hj
      show up (sI c) (sN c) i j ≤ 7 ∧ up (sF c) (sN c) f j ≤ 6
      by_cases z : j = sN c
      · rw [up_eq z, up_eq z]; omega
      · rw [up_ne z, up_ne z]; exact hVS.2.2.2 j (by omega)
  · have hge : sN c = 6 := by
      rcases Nat.lt_or_ge (sN c) 6 with z | z
      · exact absurd (nI_lt (b := 6) z (by decide)) q3
      · omega
    refine pre _ _ (m_inR (l := 0) (n := 7) rfl rfl (by omega) (fun _ _ _ _ => ⟨fun _ => ?_, fun q => absurd q (by decide)⟩) (fun no => absurd rfl (no f (by omega) (by omega))))
    rw [show rd M 129 83 = _ from hSm.2.1, hge]
    exact ⟨fun z => absurd rfl z, fun _ => ⟨rfl, hI⟩⟩
