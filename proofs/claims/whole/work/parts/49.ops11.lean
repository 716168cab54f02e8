/-! dials read from a sheet -/
def stepF (E : EX) (v w : Int32) : Option EX :=
  if w = 99 then (if v = nI v.toNatClampNeg ∧ v.toNatClampNeg < eM E ∧ eS E v.toNatClampNeg ≠ 0 then some (partE E v.toNatClampNeg) else none)
  else if v = nI v.toNatClampNeg ∧ v.toNatClampNeg < eM E ∧ (w = nI w.toNatClampNeg ∧ w.toNatClampNeg ≤ 44 ∧ w.toNatClampNeg % 10 ≤ 4) ∧ eS E v.toNatClampNeg = 0 then some (ringE E v.toNatClampNeg w.toNatClampNeg).2 else none
theorem stepF_h {E : EX} {v w : Int32} {a : Nat} (h6 : eM E ≤ 6) (hw : w = 99) (hv : v = nI a) (ha : a < eM E) (s : eS E a ≠ 0) : stepF E v w = some (partE E a) := by
  have e : v.toNatClampNeg = a := by rw [hv]; exact tnI (by omega)
  unfold stepF
  rw [if_pos hw, e, if_pos ⟨hv, ha, s⟩]
theorem stepF_hn {E : EX} {v w : Int32} (h6 : eM E ≤ 6) (hw : w = 99) (h : ∀ a, a < eM E → v = nI a → eS E a = 0) : stepF E v w = none := by
  unfold stepF
  rw [if_pos hw, if_neg]
  rintro ⟨z1, z2, z3⟩
  exact z3 (h _ z2 z1)
theorem stepF_d {E : EX} {v w : Int32} {a n : Nat} (h6 : eM E ≤ 6) (hw : w ≠ 99) (hv : v = nI a) (ha : a < eM E) (hwn : w = nI n) (hn : numOK n) (s : eS E a = 0) : stepF E v w = some (ringE E a n).2 := by
  have e : v.toNatClampNeg = a := by rw [hv]; exact tnI (by omega)
  have e2 : w.toNatClampNeg = n := by rw [hwn]; exact tnI (by have := hn.1; omega)
  unfold stepF
  rw [if_neg hw, e, e2, if_pos ⟨hv, ha, ⟨hwn, hn.1, hn.2⟩, s⟩]
theorem stepF_dn {E : EX} {v w : Int32} (h6 : eM E ≤ 6) (hw : w ≠ 99) (h : ∀ a n, a < eM E → numOK n → v = nI a → w = nI n → eS E a ≠ 0) : stepF E v w = none := by
  unfold stepF
  rw [if_neg hw, if_neg]
  rintro ⟨z1, z2, ⟨z3, z4, z5⟩, z6⟩
  exact h _ _ z2 ⟨z4, z5⟩ z1 z3 z6
theorem stepF_V {E E' : EX} {v w : Int32} (hV : VE E) (h : stepF E v w = some E') : VE E' ∧ eM E' = eM E := by
  unfold stepF at h
  split at h
  · split at h
    · rename_i z
      cases h
      exact ⟨VE_part hV z.2.1 z.2.2, rfl⟩
    · exact absurd h (by simp)
  · split at h
    · rename_i z
      cases h
      exact ⟨VE_ring hV z.2.1 z.2.2.2 z.2.2.1.2.1, ring_M⟩
    · exact absurd h (by simp)
theorem c_refused {M : Mem} {E : EX} {v w : Int32} {post : Int32 → Mem → Prop} (hM : ExC M 23 E) (hV : VE E) (yes : ∀ E', stepF E v w = some E' → ∀ M', ExC M' 23 E' → Fr 23 39 M M' → post 0 M') (no : stepF E v w = none → post 1 M) : w_X9_isRefused v w M post := by
  have h6 := hV.m
  unfold w_X9_isRefused w_X9_isRefused_J32
  refine ⟨fun hw => c_dialIn hM hV (fun a n ha hn hv hwn s0 M' h1 h2 => ⟨fun _ => ?_, fun q => absurd (nI_pos' (by have := ring_5 (e := E) (a := a) (n := n); omega)) q⟩) (fun a n ha hn hv hwn s0 => ⟨fun q => absurd q (by decide), fun _ => no ?_⟩) (fun bad => ⟨fun q => absurd q (by decide), fun _ => no ?_⟩), fun hw => c_hangIn hM hV (fun a ha hv s0 M' h1 h2 => ⟨fun _ => ?_, fun q => absurd (nI_pos' (by have := (hV.2.2.2.2.2.1 a ha s0).1; omega)) q⟩) (fun a ha hv s0 => ⟨fun q => absurd q (by decide), fun _ => no ?_⟩) (fun bad => ⟨fun q => absurd q (by decide), fun _ => no ?_⟩)⟩
  · exact yes _ (stepF_d h6 hw hv ha hwn hn s0) M' h1 h2
  · refine stepF_dn h6 hw (fun a' n' ha' hn' hv' hw' => ?_)
    obtain rfl : a = a' := nI_inj (by omega) (by omega) (hv.symm.trans hv')
    exact s0
  · exact stepF_dn h6 hw (fun a' n' ha' hn' hv' hw' => absurd hw' (bad a' n' ha' hn' hv'))
  · exact yes _ (stepF_h h6 hw hv ha s0) M' h1 h2
  · refine stepF_hn h6 hw (fun a' ha' hv' => ?_)
    obtain rfl : a = a' := nI_inj (by omega) (by omega) (hv.symm.trans hv')
    exact s0
  · exact stepF_hn h6 hw (fun a' ha' hv' => absurd hv' (bad a' ha'))
theorem FrD.refl {M : Mem} : FrD M M := ⟨Fr.refl, fun _ _ => rfl⟩
theorem FrD.trans {M M1 M2 : Mem} (h : FrD M M1) (h2 : FrD M1 M2) : FrD M M2 := ⟨h.1.trans h2.1, fun k hk => (h2.2 k hk).trans (h.2 k hk)⟩
theorem FrD.of130 {M M1 : Mem} (h : Fr 130 131 M M1) : FrD M M1 := ⟨h.sub (by omega), fun k _ => h.row (by omega) k⟩
theorem m_refused {M : Mem} {E : EX} {c : SC} {v w : Int32} {P : Int32 → Mem → Prop} (hP : RefP M E c) (yes : ∀ E' r, stepF E v w = some E' → 0 ≤ r → ∀ M', RefP M' E' c → FrD M M' → P r M') (no : ∀ r, stepF E v w = none → ¬ 0 ≤ r → ∀ M', FrD M M' → P r M') : (¬ w = 99 → w_X10_dial v w M P) ∧ (w = 99 → w_X10_hang v M P) := by
  have hV := hP.2.2.1
  have h6 := hV.m
  refine ⟨fun hw => m_dial hP (fun a n ha hn hv hwn s0 M' h1 h2 => yes _ _ (stepF_d h6 hw hv ha hwn hn s0) (nI_pos' (by have := ring_5 (e := E) (a := a) (n := n); omega)) M' h1 h2) (fun a n ha hn hv hwn s0 M' h1 => no _ ?_ (by decide) M' (FrD.of130 h1)) (fun bad => no _ ?_ (by decide) M FrD.refl), fun hw => m_hang hP (fun a ha hv s0 M' h1 h2 => yes _ _ (stepF_h h6 hw hv ha s0) (nI_pos' (by have := (hV.2.2.2.2.2.1 a ha s0).1; omega)) M' h1 h2) (fun a ha hv s0 M' h1 => no _ ?_ (by decide) M' (FrD.of130 h1)) (fun bad => no _ ?_ (by decide) M FrD.refl)⟩
  · refine stepF_dn h6 hw (fun a' n' ha' hn' hv' hw' => ?_)
    obtain rfl : a = a' := nI_inj (by omega) (by omega) (hv.symm.trans hv')
    exact s0
  · exact stepF_dn h6 hw (fun a' n' ha' hn' hv' hw' => absurd hw' (bad a' n' ha' hn' hv'))
  · refine stepF_hn h6 hw (fun a' ha' hv' => ?_)
    obtain rfl : a = a' := nI_inj (by omega) (by omega) (hv.symm.trans hv')
    exact s0
  · exact stepF_hn h6 hw (fun a' ha' hv' => absurd hv' (bad a' ha'))
/-- how many came, what stands then, why no more: 0 more could come, 2 index, 5 refused -/
abbrev RS : Type := Nat × EX × Nat
def rNext (cell : Nat → Int32) (z : Nat) (f : Int) (s : RS) : RS :=
  if s.2.2 ≠ 0 then s else
    if 0 ≤ f + 2 * (s.1 : Int) ∧ f + 2 * (s.1 : Int) + 1 < z then
      match stepF s.2.1 (cell (f + 2 * (s.1 : Int)).toNat) (cell ((f + 2 * (s.1 : Int)).toNat + 1)) with
      | some E => (s.1 + 1, E, 0)
      | none => (s.1, s.2.1, 5)
    else (s.1, s.2.1, 2)
def rF (cell : Nat → Int32) (z : Nat) (f : Int) (e : EX) : Nat → RS
  | 0 => (0, e, 0)
  | j + 1 => rNext cell z f (rF cell z f e j)
theorem rF_stay {cell : Nat → Int32} {z : Nat} {f : Int} {e : EX} {j : Nat} (h : (rF cell z f e j).2.2 ≠ 0) : ∀ k, rF cell z f e (j + k) = rF cell z f e j := by
  intro k
  induction k with
  | zero => rfl
  | succ k ih =>
    show rNext cell z f (rF cell z f e (j + k)) = _
    rw [ih]
    unfold rNext
    rw [if_pos h]
theorem rF_at {cell : Nat → Int32} {z : Nat} {f : Int} {e : EX} {j n : Nat} {s : RS} (h : rF cell z f e j = s) (hs : s.2.2 ≠ 0) (hj : j ≤ n) : rF cell z f e n = s := by
  have := rF_stay (cell := cell) (z := z) (f := f) (e := e) (j := j) (by rw [h]; exact hs) (n - j)
  rw [show j + (n - j) = n by omega] at this
  rw [this, h]
theorem rN_i {cell : Nat → Int32} {z : Nat} {f : Int} {i : Nat} {E : EX} (h : ¬ (0 ≤ f + 2 * (i : Int) ∧ f + 2 * (i : Int) + 1 < z)) : rNext cell z f (i, E, 0) = (i, E, 2) := by
  unfold rNext
  rw [if_neg (by simp)]
  exact if_neg h
theorem rN_n {cell : Nat → Int32} {z p : Nat} {f : Int} {i : Nat} {E : EX} (hp : f + 2 * (i : Int) = p) (hz : p + 1 < z) (h : stepF E (cell p) (cell (p + 1)) = none) : rNext cell z f (i, E, 0) = (i, E, 5) := by
  have e : (f + 2 * (i : Int)).toNat = p := by omega
  unfold rNext
  rw [if_neg (by simp), if_pos (by show 0 ≤ f + 2 * (i : Int) ∧ f + 2 * (i : Int) + 1 < z; omega)]
  show (match stepF E (cell (f + 2 * (i : Int)).toNat) (cell ((f + 2 * (i : Int)).toNat + 1)) with | some E => _ | none => _) = _
  rw [e, h]
theorem rN_s {cell : Nat → Int32} {z p : Nat} {f : Int} {i : Nat} {E E' : EX} (hp : f + 2 * (i : Int) = p) (hz : p + 1 < z) (h : stepF E (cell p) (cell (p + 1)) = some E') : rNext cell z f (i, E, 0) = (i + 1, E', 0) := by
  have e : (f + 2 * (i : Int)).toNat = p := by omega
  unfold rNext
  rw [if_neg (by simp), if_pos (by show 0 ≤ f + 2 * (i : Int) ∧ f + 2 * (i : Int) + 1 < z; omega)]
  show (match stepF E (cell (f + 2 * (i : Int)).toNat) (cell ((f + 2 * (i : Int)).toNat + 1)) with | some E => _ | none => _) = _
  rw [e, h]
/-- places as longs and ints -/
theorem pos64 {f : Int32} {i : Nat} (hi : i < 1000) : (f.toInt64 + 2 * (nI i).toInt64).toInt = f.toInt + 2 * (i : Int) := by
  have h1 := Int32.toInt_lt f
  have h2 := Int32.le_toInt f
  have e2 : (2 : Int64).toInt = 2 := rfl
  rw [Int64.toInt_add, Int64.toInt_mul, Int32.toInt_toInt64, Int32.toInt_toInt64, nI_toInt (by omega), e2]
  rw [show (2 * (i : Int)).bmod (2 ^ 64) = 2 * (i : Int) from Int.bmod_eq_of_le (by omega) (by omega)]
  exact Int.bmod_eq_of_le (by omega) (by omega)
theorem pos64' {f : Int32} {i : Nat} (hi : i < 1000) : (f.toInt64 + 2 * (nI i).toInt64 + 1).toInt = f.toInt + 2 * (i : Int) + 1 := by
  have h1 := Int32.toInt_lt f
  have h2 := Int32.le_toInt f
  rw [Int64.toInt_add, pos64 hi, show (1 : Int64).toInt = 1 from rfl]
  exact Int.bmod_eq_of_le (by omega) (by omega)
theorem pos32 {v : Int64} {p : Nat} (hp : p < 1000) (h : v.toInt = p) : v.toInt32 = nI p := by
  apply Int32.toInt_inj.mp
  rw [Int64.toInt_toInt32, h, nI_toInt (by omega)]
  exact Int.bmod_eq_of_le (by omega) (by omega)
theorem posM {f : Int32} {i k : Nat} (hi : i < 1000) (hk : k < 1000) : (f.toInt64 + (2 * nI i).toInt64 + (nI k).toInt64).toInt = f.toInt + 2 * (i : Int) + k := by
  have h1 := Int32.toInt_lt f
  have h2 := Int32.le_toInt f
  rw [Int64.toInt_add, Int64.toInt_add, Int32.toInt_toInt64, Int32.toInt_toInt64, Int32.toInt_toInt64, show (2 : Int32) * nI i = nI (2 * i) by rw [show (2 : Int32) = nI 2 from rfl, pk_mul], nI_toInt (by omega), nI_toInt (by omega)]
  rw [show (f.toInt + ((2 * i : Nat) : Int)).bmod (2 ^ 64) = f.toInt + ((2 * i : Nat) : Int) from Int.bmod_eq_of_le (by omega) (by omega)]
  rw [Int.bmod_eq_of_le (by omega) (by omega)]
  omega
theorem posI {f : Int32} {i p : Nat} (hi : i < 1000) (hp : p < 1000) (h : f.toInt + 2 * (i : Int) = p) : f + 2 * nI i = nI p := by
  apply Int32.toInt_inj.mp
  rw [Int32.toInt_add, show (2 : Int32) * nI i = nI (2 * i) by rw [show (2 : Int32) = nI 2 from rfl, pk_mul], nI_toInt (by omega), nI_toInt (by omega), show f.toInt + ((2 * i : Nat) : Int) = p by omega]
  exact Int.bmod_eq_of_le (by omega) (by omega)
theorem INV.upd2 {M M2 : Mem} {e : EX} {c : SC} (hI : INV M) (h1 : ExC M2 1 e) (h2 : ScC M2 17 c) (hP : RefP M2 e c) (hf : rd M2 0 10 = rd M2 128 26) (s : ∀ i q, P2 i q → ¬ (i = 0 ∧ q = 10) → ¬ (i = 128 ∧ q = 26) → rd M2 i q = rd M i q) : INV M2 := by
  obtain ⟨e0, c0, hC, hR⟩ := hI
  refine ⟨e, c, ⟨h1, hP.1, h2, hP.2.1, hP.2.2.1, hP.2.2.2⟩, ?_, ⟨?_, hf⟩, fun j hj => (hR.2.2.1 j hj).at (fun i q p => s _ _ (by unfold P2; omega) (by omega) (by omega)), fun j hj => (hR.2.2.2 j hj).at (fun i q p => s _ _ (by unfold P2; omega) (by omega) (by omega))⟩
  · obtain ⟨n, hn, t1, t2, t3⟩ := hR.1
    refine ⟨n, hn, ?_, ?_, fun k hk => ?_⟩
    · rw [s _ _ (by unfold P2; omega) (by omega) (by omega)]; exact t1
    · rw [s _ _ (by unfold P2; omega) (by omega) (by omega)]; exact t2
    · rw [s 52 k (by unfold P2; omega) (by omega) (by omega), s 133 k (by unfold P2; omega) (by omega) (by omega)]; exact t3 k hk
  · rw [s _ _ (by unfold P2; omega) (by omega) (by omega), s 128 14 (by unfold P2; omega) (by omega) (by omega)]; exact hR.2.1.1
/-- the class reads -/
theorem c_read {M : Mem} {e : EX} {c : SC} {k z n : Nat} {f : Int32} {post : Int32 → Mem → Prop} (hC : CoreP M e c) (hk : k < 4) (hn : n ≤ 20) (hz : z ≤ 40) (a4 : rd M (120 + 2 * k) 1 = nI z)
    (done : ∀ i E r, rF (fun j => rd M (121 + 2 * k) j) z f.toInt e n = (i, E, r) → r = 0 ∨ r = 2 → ∀ M', ExC M' 1 E → VE E → eM E = eM e → Fr 1 50 M (wr M' 0 10 (rd M 0 10)) → (∀ x q, 17 ≤ x → x < 22 → rd M' x q = rd M x q) → rd M' 0 10 = nI r → post (nI i) M')
    (ref : ∀ i E, rF (fun j => rd M (121 + 2 * k) j) z f.toInt e n = (i, E, 5) → ∀ M', Fr 22 50 M M' → post ((-20) - nI i) M') : w_X9_read_J51 post f (nI n) (120 + 2 * k) 0 M := by
  have hV := hC.2.2.2.2.1
  have hm := hV.m
  unfold w_X9_read_J51
  refine c1_copyFrom hC.1 hV (by omega) (fun M1 a1 a2 => ?_)
  have fin : ∀ (i : Nat) (E : EX) (r : Nat), rF (fun j => rd M (121 + 2 * k) j) z f.toInt e n = (i, E, r) → (r = 0 ∨ r = 2) → ∀ s, ExC s 23 E → VE E → eM E = eM e → Fr 22 50 M s → w_X9_read_J161 post (nI r) (nI i) s := fun i E r h1 h2 s h3 h4 h5 h6 => by
    unfold w_X9_read_J161
    refine c1_copyFrom h3 h4 (by omega) (fun M2 b1 b2 => ?_)
    rintro M3 hM3
    have b1' : ExC M3 1 E := by rw [hM3]; exact b1.fr (lo := 0) (hi := 1) (Fr.wr (by omega)) (by omega)
    refine done i E r h1 h2 M3 b1' h4 h5 ⟨fun x q hx => ?_, fun _ => ?_⟩ (fun x q y1 y2 => by rw [hM3, rd_ne (by omega), b2.row (by omega), h6.row (by omega)]) (by rw [hM3, rd_eq ⟨rfl, rfl⟩])
    · rw [hM3]
      by_cases y : x = 0 ∧ q = 10
      · rw [rd_eq y, y.1, y.2]
      · rw [rd_ne (by omega), rd_ne (by omega), b2.row (by omega), h6.row (by omega)]
    · rw [hM3]; exact (b2.2 _).trans (h6.2 _)
  refine loop_0 (fun n' j (s : Nat × Nat × Mem) => w_X9_read_L70 post f (nI n) (120 + 2 * k) n' (nI s.1) (nI s.2.1) s.2.2) (fun j s => (s.1 = 0 ∨ s.1 = 2) ∧ s.2.1 ≤ j ∧ (s.1 = 0 → s.2.1 = j) ∧ (∃ E, rF (fun j => rd M (121 + 2 * k) j) z f.toInt e j = (s.2.1, E, s.1) ∧ ExC s.2.2 23 E ∧ VE E ∧ eM E = eM e) ∧ Fr 22 50 M s.2.2) n (0, 0, M1) ⟨Or.inl rfl, Nat.le_refl _, fun _ => rfl, ⟨e, rfl, a1, hV, rfl⟩, a2.sub (by omega)⟩ ?_ ?_
  · rintro n' ⟨r, i, s⟩ ⟨h0, h1, h2, ⟨E, h3, h4, h5, h6⟩, h7⟩
    show w_X9_read_L70 post f (nI n) (120 + 2 * k) (n' + 1) (nI r) (nI i) s
    unfold w_X9_read_L70
    change r = 0 ∨ r = 2 at h0
    change r = 0 → i = n at h2
    change ExC s 23 E at h4
    change Fr 22 50 M s at h7
    have hf := fin i E r h3 h0 s h4 h5 h6 h7
    refine ⟨fun _ => hf, fun q => ⟨fun _ => hf, fun q2 => ?_⟩⟩
    have : r = 0 := nI_inj (by omega) (by decide) q2
    exact absurd (nI_le (by rw [h2 this]; exact Nat.le_refl _) (by have := h1; change i ≤ n at this; omega)) q
  · rintro n' j ⟨r, i, s⟩ hj ⟨h0, h1, h2, ⟨E, h3, h4, h5, h6⟩, h7⟩ kk
    show w_X9_read_L70 post f (nI n) (120 + 2 * k) (n' + 1) (nI r) (nI i) s
    unfold w_X9_read_L70
    change r = 0 ∨ r = 2 at h0
    change i ≤ j at h1
    change r = 0 → i = j at h2
    change ExC s 23 E at h4
    change Fr 22 50 M s at h7
    change rF _ z f.toInt e j = (i, E, r) at h3
    refine ⟨fun q => ?_, fun q => ⟨fun q2 => ?_, fun q2 => ?_⟩⟩
    · have := (nI_leI (by omega) (by omega)).mp q; omega
    · have r2 : r = 2 := by
        rcases h0 with y | y
        · rw [y] at q2; exact absurd rfl q2
        · exact y
      exact fin i E r (rF_at h3 (by show r ≠ 0; omega) (by omega)) h0 s h4 h5 h6 h7
    · have r0 : r = 0 := nI_inj (by omega) (by decide) q2
      subst r0
      obtain rfl : i = j := h2 rfl
      have a4' : rd s (120 + 2 * k) 1 = nI z := by rw [h7.row (by omega)]; exact a4
      have hE6 : eM E ≤ 6 := h5.m
      have fault : ¬ (0 ≤ f.toInt + 2 * (i : Int) ∧ f.toInt + 2 * (i : Int) + 1 < z) → w_X9_read_J116 post (w_X9_read_L70 post f (nI n) (120 + 2 * k) n') f (nI n) (120 + 2 * k) (nI i) s := fun y => by
        unfold w_X9_read_J116 w_X9_read_J158
        refine kk (2, i, s) ⟨Or.inr rfl, Nat.le_succ _, fun y => absurd (show (2 : Nat) = 0 from y) (by decide), ⟨E, ?_, h4, h5, h6⟩, h7⟩
        show rNext _ z f.toInt (rF _ z f.toInt e i) = _
        rw [h3]; exact rN_i y
      rintro v3 rfl
      refine c_has6 a4' (by omega) (fun y1 y2 => ⟨fun y => absurd y (by decide), fun _ => ?_⟩) (fun no => ⟨fun _ => fault ?_, fun y => absurd rfl y⟩)
      · rw [pos64 (by omega)] at y1 y2
        refine c_has6 a4' (by omega) (fun y3 y4 => ⟨fun _ => ?_, fun y => absurd y (by decide)⟩) (fun no => ⟨fun y => absurd rfl y, fun _ => fault ?_⟩)
        · rw [pos64' (by omega)] at y3 y4
          obtain ⟨p, hp⟩ : ∃ p : Nat, f.toInt + 2 * (i : Int) = p := ⟨(f.toInt + 2 * (i : Int)).toNat, by omega⟩
          rw [pos32 (p := p) (by omega) (by rw [pos64 (by omega)]; exact hp), nI_1, tnI (by omega), tnI (by omega)]
          refine ⟨vp_in_nI (by omega) (by omega), vp_in_nI (by omega) (by omega), ?_⟩
          rw [show 120 + 2 * k + 1 = 121 + 2 * k by omega, h7.row (by omega), h7.row (by omega)]
          refine c_refused h4 h5 (fun E' hE' M' d1 d2 => ⟨fun _ => ?_, fun y => absurd rfl y⟩) (fun hE' => ⟨fun y => absurd y (by decide), fun _ => ?_⟩)
          · rintro v10 rfl
            unfold w_X9_read_J158
            rw [nI_1]
            obtain ⟨g1, g2⟩ := stepF_V h5 hE'
            refine kk (0, i + 1, M') ⟨Or.inl rfl, Nat.le_refl _, fun _ => rfl, ⟨E', ?_, d1, g1, g2.trans h6⟩, h7.trans (d2.sub (by omega))⟩
            show rNext _ z f.toInt (rF _ z f.toInt e i) = _
            rw [h3]; exact rN_s hp (by omega) hE'
          · refine ref i E (rF_at (j := i + 1) (s := (i, E, 5)) ?_ (show (5 : Nat) ≠ 0 by decide) (by omega)) s h7
            show rNext _ z f.toInt (rF _ z f.toInt e i) = _
            rw [h3]; exact rN_n hp (by omega) hE'
        · rw [pos64' (by omega)] at no
          omega
      · rw [pos64 (by omega)] at no
        omega
/-- the reference reads -/
theorem m_read {M : Mem} {e : EX} {c : SC} {k l z n : Nat} {f : Int32} {post : Int32 → Mem → Prop} (hP : RefP M e c) (hk : k < 4) (hl : l < 3) (hn : n ≤ 20) (hz : z ≤ 40) (a5 : rd M 136 k = nI l) (a6 : rd M 137 k = nI z)
    (done : ∀ i E r, rF (fun j => rd M 138 (40 * k + j)) z f.toInt e n = (i, E, r) → r = 0 ∨ r = 2 → ∀ M', RefP M' E c → FrS M (wr M' 128 26 (rd M 128 26)) → rd M' 128 26 = nI r → post (nI i) M')
    (ref : ∀ i E, rF (fun j => rd M 138 (40 * k + j)) z f.toInt e n = (i, E, 5) → ∀ M', RefP M' e c → FrS M M' → post ((-20) - nI i) M') : ∃ g26 : Nat, w_X10_read_L26 post (nI k) (nI l) f (nI n) g26 0 M := by
  have hV := hP.2.2.1
  have hm := hV.m
  have vk : vp_in (nI k) 4 := vp_in_nI hk (by omega)
  have l4 : ¬ nI l = -4 := nI_ne4 (by omega)
  refine loop_0 (fun n' i (s : Mem) => w_X10_read_L26 post (nI k) (nI l) f (nI n) n' (nI i) s) (fun i s => (∀ j, j < i → rd s 139 j = rd M 129 j) ∧ Fr 139 140 M s) 96 M ⟨fun j hj => by omega, Fr.refl⟩ ?_ ?_
  · rintro n' M1 ⟨b1, b2⟩
    show w_X10_read_L26 post _ _ _ _ (n' + 1) _ M1
    unfold w_X10_read_L26
    refine ⟨fun _ => ?_, fun q => absurd (nI_le (a := 96) (Nat.le_refl _) (by decide)) q⟩
    have fin : ∀ (i : Nat) (E : EX) (r : Nat), rF (fun j => rd M 138 (40 * k + j)) z f.toInt e n = (i, E, r) → (r = 0 ∨ r = 2) → ∀ s, RefP s E c → FrD M1 s → ∀ M12, M12 = wr s 128 26 (nI r) → post (nI i) M12 := fun i E r h1 h2 s h3 h4 M12 h5 => by
      subst h5
      refine done i E r h1 h2 _ (h3.fr (lo := 128) (hi := 129) (Fr.wr (by omega)) (by omega)) (fun x q p => ?_) (rd_eq ⟨rfl, rfl⟩)
      by_cases y : x = 128 ∧ q = 26
      · rw [rd_eq y, y.1, y.2]
      · rw [rd_ne (by omega), rd_ne (by omega), h4.s x q p, b2.row (by unfold PS at p; omega)]
    refine loop_0 (fun n' j (s : Nat × Nat × Mem) => w_X10_read_L62 post (nI k) (nI l) f (nI n) n' (nI s.1) (nI s.2.1) (nI j) s.2.2) (fun j s => (s.1 = 0 ∨ s.1 = 2) ∧ s.2.1 ≤ j ∧ (s.1 = 0 → s.2.1 = j) ∧ (∃ E, rF (fun j => rd M 138 (40 * k + j)) z f.toInt e j = (s.2.1, E, s.1) ∧ RefP s.2.2 E c) ∧ FrD M1 s.2.2) n (0, 0, M1) ⟨Or.inl rfl, Nat.le_refl _, fun _ => rfl, ⟨e, rfl, hP.fr b2 (by omega)⟩, FrD.refl⟩ ?_ ?_
    · rintro n' ⟨r, i, s⟩ ⟨h0, h1, h2, ⟨E, h3, h4⟩, h7⟩
      show w_X10_read_L62 post (nI k) (nI l) f (nI n) (n' + 1) (nI r) (nI i) (nI n) s
      unfold w_X10_read_L62
      change r = 0 ∨ r = 2 at h0
      change RefP s E c at h4
      change FrD M1 s at h7
      exact ⟨fun _ => fin i E r h3 h0 s h4 h7, fun q => absurd (nI_le (Nat.le_refl _) (by omega)) q⟩
    · rintro n' j ⟨r, i, s⟩ hj ⟨h0, h1, h2, ⟨E, h3, h4⟩, h7⟩ kk
      show w_X10_read_L62 post (nI k) (nI l) f (nI n) (n' + 1) (nI r) (nI i) (nI j) s
      unfold w_X10_read_L62
      change r = 0 ∨ r = 2 at h0
      change i ≤ j at h1
      change r = 0 → i = j at h2
      change RefP s E c at h4
      change FrD M1 s at h7
      change rF _ z f.toInt e j = (i, E, r) at h3
      refine ⟨fun q => absurd q (nI_ge hj (by omega)), fun _ => ⟨fun q2 => ?_, fun q2 => ?_⟩⟩
      · have r2 : r = 2 := by
          rcases h0 with y | y
          · rw [y] at q2; exact absurd rfl q2
          · exact y
        exact fin i E r (rF_at h3 (by show r ≠ 0; omega) (by omega)) h0 s h4 h7
      · have r0 : r = 0 := nI_inj (by omega) (by decide) q2
        subst r0
        obtain rfl : i = j := h2 rfl
        have e136 : rd s 136 k = nI l := by rw [h7.1.row (by omega), b2.row (by omega)]; exact a5
        have e137 : rd s 137 k = nI z := by rw [h7.1.row (by omega), b2.row (by omega)]; exact a6
        have e138 : ∀ q, rd s 138 q = rd M 138 q := fun q => by rw [h7.1.row (by omega), b2.row (by omega)]
        have hE6 : eM E ≤ 6 := h4.2.2.1.m
        -- the place goes wrong
        have fault : ¬ (0 ≤ f.toInt + 2 * (i : Int) ∧ f.toInt + 2 * (i : Int) + 1 < z) → w_X10_read_J164 post (w_X10_read_L62 post (nI k) (nI l) f (nI n) n') (nI k) (nI l) f (nI n) 2 (nI i) (nI i) s := fun y => by
          unfold w_X10_read_J164 w_X10_read_J276
          refine ⟨fun _ => ?_, fun q => absurd q (by decide)⟩
          rintro v4 rfl
          rw [nI_1]
          refine kk (2, i, s) ⟨Or.inr rfl, Nat.le_succ _, fun y => absurd (show (2 : Nat) = 0 from y) (by decide), ⟨E, ?_, h4⟩, h7⟩
          show rNext _ z f.toInt (rF _ z f.toInt e i) = _
          rw [h3]; exact rN_i y
        have good : 0 ≤ f.toInt + 2 * (i : Int) → f.toInt + 2 * (i : Int) + 1 < z → w_X10_read_J164 post (w_X10_read_L62 post (nI k) (nI l) f (nI n) n') (nI k) (nI l) f (nI n) 0 (nI i) (nI i) s := fun y1 y2 => by
          obtain ⟨p, hp⟩ : ∃ p : Nat, f.toInt + 2 * (i : Int) = p := ⟨(f.toInt + 2 * (i : Int)).toNat, by omega⟩
          have e6 : (40 : Int32) * nI k + f + 2 * nI i = nI (40 * k + p) := by
            rw [Int32.add_assoc, posI (by omega) (by omega) hp, show (40 : Int32) = nI 40 from rfl, pk_mul, nI_add]
          unfold w_X10_read_J164
          refine ⟨fun q => absurd rfl q, fun _ => ?_⟩
          rintro v6 hv6
          rw [e6] at hv6
          subst hv6
          rw [nI_1, tnI (by omega), tnI (by omega), e138, e138]
          have va : vp_in (nI (40 * k + p)) 160 := vp_in_nI (by omega) (by omega)
          have vb : vp_in (nI (40 * k + p + 1)) 160 := vp_in_nI (by omega) (by omega)
          have both := m_refused (P := fun r8 M7 => w_X10_read_J230 post (w_X10_read_L62 post (nI k) (nI l) f (nI n) n') (nI k) (nI l) f (nI n) 0 (nI i) (nI i) r8 M7) (v := rd M 138 (40 * k + p)) (w := rd M 138 (40 * k + p + 1)) h4 (fun E' r hE' hr M' d1 d2 => ?_) (fun r hE' hr M' d2 => ?_)
          · exact ⟨vb, fun q => ⟨va, vb, both.1 q⟩, fun q => ⟨va, both.2 q⟩⟩
          · unfold w_X10_read_J230 w_X10_read_J276
            refine ⟨fun _ => ?_, fun q => absurd hr q⟩
            rintro v5 rfl v4 rfl
            rw [nI_1]
            refine kk (0, i + 1, M') ⟨Or.inl rfl, Nat.le_refl _, fun _ => rfl, ⟨E', ?_, d1⟩, h7.trans d2⟩
            show rNext _ z f.toInt (rF _ z f.toInt e i) = _
            rw [h3]; exact rN_s hp (by omega) hE'
          · unfold w_X10_read_J230
            refine ⟨fun q => absurd q hr, fun _ => ?_⟩
            have f9 := h7.trans d2
            have hrf : rF (fun j => rd M 138 (40 * k + j)) z f.toInt e n = (i, E, 5) := rF_at (j := i + 1) (s := (i, E, 5)) (by
              show rNext _ z f.toInt (rF _ z f.toInt e i) = _
              rw [h3]; exact rN_n hp (by omega) hE') (show (5 : Nat) ≠ 0 by decide) (by omega)
            refine loop_0 (fun n' j (s : Mem) => w_X10_read_L240 post (nI i) n' (nI j) s) (fun j s => (∀ q, q < j → rd s 129 q = rd M 129 q) ∧ FrD M1 s) 96 M' ⟨fun q hq => by omega, f9⟩ ?_ ?_
            · rintro n' s ⟨c1, c2⟩
              show w_X10_read_L240 post _ (n' + 1) _ s
              unfold w_X10_read_L240
              refine ⟨fun _ => ref i E hrf s ⟨hP.1.congr hm (fun q _ => c1 q (by omega)), hP.2.1.congr ⟨hP.2.2.2.1, hP.2.2.2.2.1⟩ (fun q _ hq => c1 q hq), hP.2.2⟩ (fun x q p => ?_), fun q => absurd (nI_le (a := 96) (Nat.le_refl _) (by decide)) q⟩
              rw [c2.s x q p, b2.row (by unfold PS at p; omega)]
            · rintro n' j s hj ⟨c1, c2⟩ kk2
              show w_X10_read_L240 post _ (n' + 1) _ s
              unfold w_X10_read_L240
              rw [tnI (by omega)]
              refine ⟨fun q => absurd q (nI_ge (b := 96) hj (by decide)), fun _ => ⟨vp_in_nI hj (by omega), vp_in_nI (by omega) (by omega), ?_⟩⟩
              rintro M2 rfl v rfl
              rw [nI_1]
              refine kk2 _ ⟨fun q hq => ?_, c2.trans ⟨Fr.wr (by omega), fun q hq => rd_ne (by omega)⟩⟩
              by_cases y : q = j
              · rw [rd_eq ⟨rfl, y⟩, c2.1.row (by omega), b1 j hj, y]
              · rw [rd_ne (by omega)]; exact c1 q (by omega)
        refine ⟨1 + 1 + 1, ?_⟩
        -- a look at one of the two places
        have look : ∀ (g q : Nat), q < 2 → (¬ (0 ≤ f.toInt + 2 * (i : Int) + q ∧ f.toInt + 2 * (i : Int) + q < z) → w_X10_read_J151 post (w_X10_read_L62 post (nI k) (nI l) f (nI n) n') (w_X10_read_L77 post (w_X10_read_L62 post (nI k) (nI l) f (nI n) n') (nI k) (nI l) f (nI n) (nI i) (nI i) g) (nI k) (nI l) f (nI n) (nI i) (nI i) (nI q) s) → (0 ≤ f.toInt + 2 * (i : Int) + q → f.toInt + 2 * (i : Int) + q < z → w_X10_read_J156 post (w_X10_read_L62 post (nI k) (nI l) f (nI n) n') (w_X10_read_L77 post (w_X10_read_L62 post (nI k) (nI l) f (nI n) n') (nI k) (nI l) f (nI n) (nI i) (nI i) g) (nI k) (nI l) f (nI n) (nI i) (nI i) (nI q) 0 s) → w_X10_read_L77 post (w_X10_read_L62 post (nI k) (nI l) f (nI n) n') (nI k) (nI l) f (nI n) (nI i) (nI i) (g + 1) 0 (nI q) s := fun g q hq y1 y2 => by
          unfold w_X10_read_L77
          refine ⟨fun x => absurd x (nI_ge (b := 2) hq (by decide)), fun _ => ⟨fun x => absurd rfl x, fun _ => ?_⟩⟩
          rintro v11 hv11
          have ev : v11.toInt = f.toInt + 2 * (i : Int) + q := by rw [hv11]; exact posM (by omega) (by omega)
          have e0 : (0 : Int64).toInt = 0 := rfl
          have ez : ((nI z).toInt64).toInt = z := by rw [Int32.toInt_toInt64, nI_toInt (by omega)]
          rw [tnI (by omega), e136, e137, lg_lt, lg_lt, lt_I, lt_I, e0, ez, ev]
          refine ⟨vk, fun _ => ⟨vk, fun _ => ⟨fun x => y1 (by omega), fun x => ⟨vk, fun x2 => y2 (by omega) x2, fun x2 => y1 (by omega)⟩⟩, fun x => absurd rfl x⟩, fun x => absurd x l4⟩
        have exit2 : ∀ (g q : Nat), (q < 3) → w_X10_read_J164 post (w_X10_read_L62 post (nI k) (nI l) f (nI n) n') (nI k) (nI l) f (nI n) 2 (nI i) (nI i) s → w_X10_read_L77 post (w_X10_read_L62 post (nI k) (nI l) f (nI n) n') (nI k) (nI l) f (nI n) (nI i) (nI i) (g + 1) 2 (nI q) s := fun g q hq h => by
          unfold w_X10_read_L77
          exact ⟨fun _ => h, fun _ => ⟨fun _ => h, fun x => absurd x (by decide)⟩⟩
        refine look (1 + 1) 0 (by omega) (fun y => ?_) (fun y1 y2 => ?_)
        · unfold w_X10_read_J151 w_X10_read_J156
          rintro v1 rfl
          rw [nI_1]
          exact exit2 1 1 (by omega) (fault (by omega))
        · unfold w_X10_read_J156
          rintro v1 rfl
          rw [nI_1]
          refine look 1 1 (by omega) (fun y => ?_) (fun y3 y4 => ?_)
          · unfold w_X10_read_J151 w_X10_read_J156
            rintro v1 rfl
            rw [nI_1]
            exact exit2 0 2 (by omega) (fault (by omega))
          · unfold w_X10_read_J156
            rintro v1 rfl
            rw [nI_1]
            unfold w_X10_read_L77
            have hg := good (by omega) (by omega)
            exact ⟨fun _ => hg, fun x => absurd (nI_le (a := 2) (b := 2) (Nat.le_refl _) (by decide)) x⟩
  · rintro n' i s hi ⟨b1, b2⟩ kk
    show w_X10_read_L26 post _ _ _ _ (n' + 1) _ s
    unfold w_X10_read_L26
    rw [tnI (by omega)]
    refine ⟨fun q => absurd q (nI_ge (b := 96) hi (by decide)), fun _ => ⟨vp_in_nI (by omega) (by omega), vp_in_nI hi (by omega), ?_⟩⟩
    rintro M1 rfl v rfl
    rw [nI_1]
    refine kk _ ⟨fun j hj => ?_, b2.trans (Fr.wr (by omega))⟩
    by_cases q : j = i
    · rw [rd_eq ⟨rfl, q⟩, b2.row (by omega), q]
    · rw [rd_ne (by omega)]; exact b1 j (by omega)
theorem c_readX {M : Mem} {e : EX} {c : SC} {n r g : Nat} {f : Int32} {post : Int32 → Mem → Prop} (hC : CoreP M e c) (hn : n ≤ 20) (hr : r ≤ 3) (h0 : n = 0 ∨ r ≠ 0)
    (done : ∀ M', ExC M' 1 e → Fr 1 50 M (wr M' 0 10 (rd M 0 10)) → (∀ x q, 17 ≤ x → x < 22 → rd M' x q = rd M x q) → rd M' 0 10 = nI r → post 0 M') : w_X9_read_J51 post f (nI n) g (nI r) M := by
  have hV := hC.2.2.2.2.1
  unfold w_X9_read_J51
  refine c1_copyFrom hC.1 hV (by omega) (fun M1 a1 a2 => ?_)
  have fin : w_X9_read_J161 post (nI r) 0 M1 := by
    unfold w_X9_read_J161
    refine c1_copyFrom a1 hV (by omega) (fun M2 b1 b2 => ?_)
    rintro M3 hM3
    have b1' : ExC M3 1 e := by rw [hM3]; exact b1.fr (lo := 0) (hi := 1) (Fr.wr (by omega)) (by omega)
    refine done M3 b1' ⟨fun x q hx => ?_, fun _ => ?_⟩ (fun x q y1 y2 => by rw [hM3, rd_ne (by omega), b2.row (by omega), a2.row (by omega)]) (by rw [hM3, rd_eq ⟨rfl, rfl⟩])
    · rw [hM3]
      by_cases y : x = 0 ∧ q = 10
      · rw [rd_eq y, y.1, y.2]
      · rw [rd_ne (by omega), rd_ne (by omega), b2.row (by omega), a2.row (by omega)]
    · rw [hM3]; exact (b2.2 _).trans (a2.2 _)
  refine ⟨1, ?_⟩
  unfold w_X9_read_L70
  refine ⟨fun _ => fin, fun q => ⟨fun _ => fin, fun q2 => ?_⟩⟩
  rcases h0 with y | y
  · exact absurd (nI_le (a := n) (b := 0) (by omega) (by decide)) q
  · exact absurd (nI_inj (b := 0) (by omega) (by decide) q2) y
theorem m_readX {M : Mem} {e : EX} {c : SC} {k l n r : Nat} {f : Int32} {post : Int32 → Mem → Prop} (hP : RefP M e c) (hk : k < 4) (hl : l < 3) (hn : n ≤ 20) (h0 : (n = 0 ∧ r = 0) ∨ (1 ≤ n ∧ ((rd M 136 k = -4 ∧ r = 1) ∨ (∃ l', l' < 3 ∧ l' ≠ l ∧ rd M 136 k = nI l' ∧ r = 3))))
    (done : ∀ M', RefP M' e c → FrS M (wr M' 128 26 (rd M 128 26)) → rd M' 128 26 = nI r → post 0 M') : ∃ g26 : Nat, w_X10_read_L26 post (nI k) (nI l) f (nI n) g26 0 M := by
  have hV := hP.2.2.1
  have vk : vp_in (nI k) 4 := vp_in_nI hk (by omega)
  refine loop_0 (fun n' i (s : Mem) => w_X10_read_L26 post (nI k) (nI l) f (nI n) n' (nI i) s) (fun i s => Fr 139 140 M s) 96 M Fr.refl ?_ ?_
  · rintro n' s b2
    show w_X10_read_L26 post _ _ _ _ (n' + 1) _ s
    unfold w_X10_read_L26
    refine ⟨fun _ => ?_, fun q => absurd (nI_le (a := 96) (Nat.le_refl _) (by decide)) q⟩
    have fin : ∀ M12, M12 = wr s 128 26 (nI r) → post 0 M12 := fun M12 h5 => by
      subst h5
      refine done _ ((hP.fr b2 (by omega)).fr (lo := 128) (hi := 129) (Fr.wr (by omega)) (by omega)) (fun x q p => ?_) (rd_eq ⟨rfl, rfl⟩)
      by_cases y : x = 128 ∧ q = 26
      · rw [rd_eq y, y.1, y.2]
      · rw [rd_ne (by omega), rd_ne (by omega), b2.row (by unfold PS at p; omega)]
    rcases h0 with ⟨y1, y2⟩ | ⟨y1, y2⟩
    · refine ⟨1, ?_⟩
      subst y1
      subst y2
      unfold w_X10_read_L62
      exact ⟨fun _ => fin, fun q => absurd (nI_le (a := 0) (b := 0) (Nat.le_refl _) (by decide)) q⟩
    · refine ⟨1 + 1, ?_⟩
      have r0 : ¬ nI r = 0 := by rcases y2 with ⟨_, y⟩ | ⟨_, _, _, _, y⟩ <;> rw [y] <;> decide
      have end' : w_X10_read_J164 post (w_X10_read_L62 post (nI k) (nI l) f (nI n) 1) (nI k) (nI l) f (nI n) (nI r) 0 0 s := by
        unfold w_X10_read_J164 w_X10_read_J276
        refine ⟨fun _ => ?_, fun q => absurd q r0⟩
        rintro v4 rfl
        unfold w_X10_read_L62
        exact ⟨fun _ => fin, fun _ => ⟨fun _ => fin, fun q => absurd q r0⟩⟩
      unfold w_X10_read_L62
      refine ⟨fun q => absurd q (nI_ge (a := 0) (b := n) (by omega) (by omega)), fun _ => ⟨fun q => absurd rfl q, fun _ => ⟨1 + 1, ?_⟩⟩⟩
      unfold w_X10_read_L77
      refine ⟨fun q => absurd q (by decide), fun _ => ⟨fun q => absurd rfl q, fun _ => ?_⟩⟩
      rintro v11 -
      rw [tnI (by omega), b2.row (by omega)]
      have nx : w_X10_read_J156 post (w_X10_read_L62 post (nI k) (nI l) f (nI n) 1) (w_X10_read_L77 post (w_X10_read_L62 post (nI k) (nI l) f (nI n) 1) (nI k) (nI l) f (nI n) 0 0 1) (nI k) (nI l) f (nI n) 0 0 0 (nI r) s := by
        unfold w_X10_read_J156
        rintro v1 rfl
        unfold w_X10_read_L77
        exact ⟨fun _ => end', fun _ => ⟨fun _ => end', fun q => absurd q r0⟩⟩
      rcases y2 with ⟨z1, z2⟩ | ⟨l', z1, z2, z3, z4⟩
      · subst z2
        rw [z1]
        exact ⟨vk, fun q => absurd rfl q, fun _ => nx⟩
      · subst z4
        rw [z3]
        exact ⟨vk, fun _ => ⟨vk, fun q => absurd (nI_inj (by omega) (by omega) q) z2, fun _ => nx⟩, fun q => absurd q (nI_ne4 (by omega))⟩
  · rintro n' i s hi b2 kk
    show w_X10_read_L26 post _ _ _ _ (n' + 1) _ s
    unfold w_X10_read_L26
    rw [tnI (by omega)]
    refine ⟨fun q => absurd q (nI_ge (b := 96) hi (by decide)), fun _ => ⟨vp_in_nI (by omega) (by omega), vp_in_nI hi (by omega), ?_⟩⟩
    rintro M1 rfl v rfl
    rw [nI_1]
    exact kk _ (b2.trans (Fr.wr (by omega)))
theorem rF_congr {c1 c2 : Nat → Int32} {z : Nat} {f : Int} {e : EX} (h : ∀ j, j < z → c1 j = c2 j) : ∀ n, rF c1 z f e n = rF c2 z f e n := by
  intro n
  induction n with
  | zero => rfl
  | succ n ih =>
    show rNext c1 z f _ = rNext c2 z f _
    rw [ih]
    generalize rF c2 z f e n = s
    unfold rNext
    by_cases q : s.2.2 ≠ 0
    · rw [if_pos q, if_pos q]
    · rw [if_neg q, if_neg q]
      by_cases q2 : 0 ≤ f + 2 * (s.1 : Int) ∧ f + 2 * (s.1 : Int) + 1 < z
      · rw [if_pos q2, if_pos q2, h _ (by omega), h _ (by omega)]
      · rw [if_neg q2, if_neg q2]
theorem op_read {M : Mem} {v w f u : Int32} (hI : INV M) : w_X9_read v w f u M (fun r M1 => w_X10_read v w f u M1 (fun r' M2 => r = r' ∧ INV M2)) := by
  obtain ⟨e, c, hC, hR⟩ := id hI
  have hV := hC.2.2.2.2.1
  have hVS := hC.2.2.2.2.2
  have bad : (∀ k l, k < 4 → l < 3 → v = nI k → w ≠ nI l) → w_X10_read v w f u M (fun r' M2 => -1 = r' ∧ INV M2) := fun no => by
    unfold w_X10_read
    exact m_isSheet (fun k l hk hl hv hw => absurd hw (no k l hk hl hv)) (fun _ => ⟨fun _ => ⟨rfl, hI⟩, fun q => absurd rfl q⟩)
  unfold w_X9_read
  refine c_isSheet (fun k hk hv => ⟨fun q => absurd q (by decide), fun _ => ?_⟩) (fun no => ⟨fun _ => bad (fun k l hk _ hv => absurd hv (no k hk)), fun q => absurd rfl q⟩)
  refine c_isLane (fun l hl hw => ⟨fun q => absurd q (by decide), fun _ => ?_⟩) (fun no => ⟨fun _ => bad (fun k l _ hl _ => no l hl), fun q => absurd rfl q⟩)
  subst hv
  subst hw
  have pre : ∀ (M1 : Mem) (P : Int32 → Mem → Prop), _ → w_X10_read (nI k) (nI l) f u M1 P := fun M1 P h => by
    unfold w_X10_read
    exact m_isSheet (fun _ _ _ _ _ _ => ⟨fun q => absurd q (by decide), fun _ => h⟩) (fun no => absurd rfl (no k l hk hl rfl))
  have bad2 : (∀ n, n < 21 → u ≠ nI n) → w_X10_read (nI k) (nI l) f u M (fun r' M2 => -1 = r' ∧ INV M2) := fun no => pre _ _ (m_inR (l := 0) (n := 21) rfl rfl (by omega) (fun n _ hn hv => absurd hv (no n hn)) (fun _ => ⟨fun q => absurd rfl q, fun _ => ⟨rfl, hI⟩⟩))
  refine ⟨fun q => bad2 (fun n hn => bnd_lo q (by omega)), fun q => ⟨fun q2 => ⟨vp_in_nI hk (by omega), ?_⟩, fun q2 => bad2 (fun n hn => bnd_hi' (n := 20) q2 hn (by decide))⟩⟩
  obtain ⟨n, hn, rfl⟩ := bnd_in' (n := 20) (by decide) q q2
  rw [tnI (by omega)]
  rintro g hg
  obtain rfl : g = 120 + 2 * k := by omega
  have pre2 : ∀ (M1 : Mem) (P : Int32 → Mem → Prop), _ → w_X10_read (nI k) (nI l) f (nI n) M1 P := fun M1 P h => pre M1 P (m_inR (l := 0) (n := 21) rfl rfl (by omega) (fun _ _ _ _ => ⟨fun _ => h, fun q => absurd q (by decide)⟩) (fun no => absurd rfl (no n (by omega) (by omega))))
  -- the end of both
  have close : ∀ (E : EX) (M1 M2 : Mem), ExC M1 1 E → Fr 1 50 M (wr M1 0 10 (rd M 0 10)) → (∀ x q, 17 ≤ x → x < 22 → rd M1 x q = rd M x q) → RefP M2 E c → FrS M1 (wr M2 128 26 (rd M1 128 26)) → rd M1 0 10 = rd M2 128 26 → INV M2 := fun E M1 M2 h1 h2 h3 h4 h5 h6 => by
    have k2 : ∀ x q, PS x q → ¬ (x = 128 ∧ q = 26) → rd M2 x q = rd M1 x q := fun x q p y => by
      have := h5 x q p
      rw [rd_ne (by omega)] at this
      exact this
    have k1 : ∀ x q, x < 1 ∨ 50 ≤ x → ¬ (x = 0 ∧ q = 10) → rd M1 x q = rd M x q := fun x q p y => by
      have := h2.row p q
      rw [rd_ne (by omega)] at this
      exact this
    refine hI.upd2 (h1.at (fun i q _ _ => k2 i q (by unfold PS; omega) (by omega))) ((hC.2.2.1.at (fun i q _ _ => h3 i q (by omega) (by omega))).at (fun i q _ _ => k2 i q (by unfold PS; omega) (by omega))) h4 ?_ (fun i q p y1 y2 => ?_)
    · rw [k2 0 10 (by unfold PS; omega) (by omega)]; exact h6
    · rw [k2 i q (by unfold P2 at p; unfold PS; omega) y2, k1 i q (by unfold P2 at p; omega) y1]
  have ref1 : ∀ M1, Fr 1 50 M (wr M1 0 10 (rd M 0 10)) → RefP M1 e c ∧ ∀ x q, 130 ≤ x → rd M1 x q = rd M x q := fun M1 h2 => by
    have k1 : ∀ x q, 50 ≤ x → rd M1 x q = rd M x q := fun x q p => by
      have := h2.row (i := x) (by omega) q
      rw [rd_ne (by omega)] at this
      exact this
    exact ⟨⟨hC.2.1.congr hV.m (fun j _ => k1 _ _ (by omega)), hC.2.2.2.1.congr ⟨hVS.1, hVS.2.1⟩ (fun j _ _ => k1 _ _ (by omega)), hV, hVS⟩, fun x q p => k1 x q (by omega)⟩
  -- no reading at all
  have none' : ∀ r, r ≤ 3 → ((n = 0 ∧ r = 0) ∨ (1 ≤ n ∧ ((rd M 136 k = -4 ∧ r = 1) ∨ (∃ l', l' < 3 ∧ l' ≠ l ∧ rd M 136 k = nI l' ∧ r = 3)))) → w_X9_read_J51 (fun r M1 => w_X10_read (nI k) (nI l) f (nI n) M1 (fun r' M2 => r = r' ∧ INV M2)) f (nI n) (120 + 2 * k) (nI r) M := fun r hr3 hr => by
    refine c_readX hC (by omega) hr3 (by omega) (fun M1 h1 h2 h3 h4 => pre2 _ _ ?_)
    obtain ⟨j1, j2⟩ := ref1 M1 h2
    refine m_readX (r := r) j1 hk hl (by omega) (by rw [j2 _ _ (by omega)]; exact hr) (fun M2 i1 i2 i3 => ⟨rfl, close e M1 M2 h1 h2 h3 i1 i2 (h4.trans i3.symm)⟩)
  have n0 : n = 0 → w_X9_read_J51 (fun r M1 => w_X10_read (nI k) (nI l) f (nI n) M1 (fun r' M2 => r = r' ∧ INV M2)) f (nI n) (120 + 2 * k) 0 M := fun y => none' 0 (by omega) (Or.inl ⟨y, rfl⟩)
  refine ⟨fun y => ?_, fun y => n0 (nI_inj (by omega) (by decide) y)⟩
  have n1 : 1 ≤ n := Nat.pos_of_ne_zero (fun z => y (by rw [z]; rfl))
  unfold w_X6_faultAs
  rcases hR.2.2.1 k hk with ⟨a, b⟩ | ⟨l', z, a1, a2, a3, a4, a5, a6, a7⟩
  · rw [a]
    exact ⟨fun x => absurd rfl x, fun _ => none' 1 (by omega) (Or.inr ⟨n1, Or.inl ⟨b, rfl⟩⟩)⟩
  · rw [a4, a3]
    refine ⟨fun _ => ⟨fun x => none' 3 (by omega) (Or.inr ⟨n1, Or.inr ⟨l', a1, fun w => x (by rw [w]), a5, rfl⟩⟩), fun x => ?_⟩, fun x => absurd x (nI_ne4 (by omega))⟩
    obtain rfl : l' = l := nI_inj (by omega) (by omega) x
    have rfE : ∀ M1 : Mem, (∀ x q, 130 ≤ x → rd M1 x q = rd M x q) → rF (fun j => rd M1 138 (40 * k + j)) z f.toInt e n = rF (fun j => rd M (121 + 2 * k) j) z f.toInt e n := fun M1 h => rF_congr (fun j hj => by
      show rd M1 138 (40 * k + j) = rd M (121 + 2 * k) j
      rw [h _ _ (by omega)]; exact (a7 j hj).symm) n
    refine c_read hC hk (by omega) a2 a4 (fun i E r h0 hr M1 h1 hVE hme h2 h3 h4 => pre2 _ _ ?_) (fun i E h0 M1 h1 => pre2 _ _ ?_)
    · obtain ⟨j1, j2⟩ := ref1 M1 h2
      refine m_read j1 hk hl (by omega) a2 (by rw [j2 _ _ (by omega)]; exact a5) (by rw [j2 _ _ (by omega)]; exact a6) (fun i' E' r' g0 hr' M2 i1 i2 i3 => ?_) (fun i' E' g0 M2 i1 i2 => ?_)
      · rw [rfE M1 j2, h0] at g0
        cases g0
        exact ⟨rfl, close E M1 M2 h1 h2 h3 i1 i2 (h4.trans i3.symm)⟩
      · rw [rfE M1 j2, h0] at g0
        cases g0
        omega
    · have j1 := hC.ref.fr h1 (by omega)
      have j2 : ∀ x q, 130 ≤ x → rd M1 x q = rd M x q := fun x q p => h1.row (by omega) q
      refine m_read j1 hk hl (by omega) a2 (by rw [j2 _ _ (by omega)]; exact a5) (by rw [j2 _ _ (by omega)]; exact a6) (fun i' E' r' g0 hr' M2 i1 i2 i3 => ?_) (fun i' E' g0 M2 i1 i2 => ?_)
      · rw [rfE M1 j2, h0] at g0
        cases g0
        omega
      · rw [rfE M1 j2, h0] at g0
        cases g0
        refine ⟨rfl, hI.upd (h1.sub (by omega)) i2 (hC.1.fr h1 (by omega)) (hC.2.2.1.fr h1 (by omega)) i1.1 i1.2.1 hV hVS⟩
