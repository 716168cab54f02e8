/-! the reference's tokens -/
def FrK (M M' : Mem) : Prop := ∀ i q, ¬ (i = 128 ∧ 10 ≤ q ∧ q ≤ 15) → rd M' i q = rd M i q
theorem FrK.refl {M : Mem} : FrK M M := fun _ _ _ => rfl
theorem FrK.trans {M M1 M2 : Mem} (h : FrK M M1) (h2 : FrK M1 M2) : FrK M M2 := fun i q p => (h2 i q p).trans (h i q p)
theorem FrK.wr {M : Mem} {k : Nat} {v : Int32} (h : 10 ≤ k ∧ k ≤ 15) : FrK M (wr M 128 k v) := fun i q p => rd_ne (by omega)
def TokM (M : Mem) (T : TP) (p : Nat) : Prop := rd M 128 12 = nI (tK T p) ∧ rd M 128 11 = nI (tS T p) ∧ rd M 128 10 = nI (tE T p) ∧ (tK T p = 2 → rd M 128 13 = nI (tV T p))
theorem TapeM.fr {M M' : Mem} {T : TP} (h : TapeM M T) (h1 : rd M' 128 9 = rd M 128 9) (h2 : ∀ k, rd M' 133 k = rd M 133 k) : TapeM M' T := ⟨by rw [h1]; exact h.1, fun k hk => by rw [h2]; exact h.2 k hk⟩
theorem TapeM.k {M M' : Mem} {T : TP} (h : TapeM M T) (f : FrK M M') : TapeM M' T := h.fr (f _ _ (by omega)) (fun k => f _ _ (by omega))
theorem m_byteAt {M : Mem} {T : TP} {i : Nat} {post : Int32 → Mem → Prop} (hT : TapeM M T) (hO : OKT T) (hi : i < 2 ^ 31) (y : i < T.1 → post (nI (T.2 i)) M) (n : T.1 ≤ i → post (-1) M) : w_X10_byteAt (nI i) M post := by
  have hn := hO.1
  unfold w_X10_byteAt
  rw [hT.1, tnI hi]
  refine ⟨fun q => n ((nI_leI (by omega) hi).mp q), fun q => ?_⟩
  have hlt : i < T.1 := by
    rcases Nat.lt_or_ge i T.1 with z | z
    · exact z
    · exact absurd (nI_le z hi) q
  rw [hT.2 i hlt]
  exact ⟨vp_in_nI (by omega) (by omega), y hlt⟩
theorem m_needsT {M : Mem} {l1 l2 : Int32} {post : Mem → Prop} (h1 : ¬ l1 = 0) (h : post M) : w_X10_needs l1 l2 M post := ⟨fun _ => h, fun q => absurd q h1⟩
theorem m_needsX {M : Mem} {l1 l2 : Int32} {post : Mem → Prop} (h1 : ¬ rd M 128 14 = 0) (h : post M) : w_X10_needs l1 l2 M post := ⟨fun _ => h, fun _ => ⟨fun _ => h, fun q => absurd q h1⟩⟩
theorem m_needsF {M : Mem} {l1 l2 : Int32} {post : Mem → Prop} (h1 : l1 = 0) (h0 : rd M 128 14 = 0) (h : ∀ M', rd M' 128 14 = l2 → rd M' 128 15 = rd M 128 11 → (∀ i q, ¬ (i = 128 ∧ (q = 14 ∨ q = 15)) → rd M' i q = rd M i q) → post M') : w_X10_needs l1 l2 M post := by
  unfold w_X10_needs
  refine ⟨fun q => absurd h1 q, fun _ => ⟨fun q => absurd h0 q, fun _ => ?_⟩⟩
  rintro M1 rfl M2 rfl
  refine h _ ?_ ?_ (fun i q p => ?_)
  · rw [rd_ne (by omega), rd_eq ⟨rfl, rfl⟩]
  · rw [rd_eq ⟨rfl, rfl⟩, rd_ne (by omega)]
  · rw [rd_ne (by omega), rd_ne (by omega)]
def valI (T : TP) (s i : Nat) : Nat := if i = 0 then 0 else if i = 1 then T.2 s - 48 else 10 * (T.2 s - 48) + (T.2 (s + 1) - 48)
theorem kdT_1 {T : TP} {i : Nat} : kdT T i = 1 ↔ i < T.1 ∧ 97 ≤ T.2 i ∧ T.2 i ≤ 122 := by
  unfold kdT
  split
  · omega
  · split
    · omega
    · split
      · omega
      · split <;> omega
theorem kdT_2 {T : TP} {i : Nat} : kdT T i = 2 ↔ i < T.1 ∧ 48 ≤ T.2 i ∧ T.2 i ≤ 57 := by
  unfold kdT
  split
  · omega
  · split
    · omega
    · split
      · omega
      · split <;> omega
theorem kdT_3 {T : TP} {i : Nat} : kdT T i = 3 ↔ i < T.1 ∧ T.2 i = 59 := by
  unfold kdT
  split
  · omega
  · split
    · omega
    · split
      · omega
      · split <;> omega
theorem m_takesX {M : Mem} {post : Mem → Prop} {f : Nat} (h1 : rd M 128 14 = nI f) (h0 : f ≠ 0) (hf : f ≤ 6) (h : post M) : w_X10_takes M post := by
  unfold w_X10_takes
  rw [h1]
  exact ⟨fun q => absurd q (nI_nle (by omega) (by omega)), fun _ => h⟩
theorem m_takes {M : Mem} {T : TP} {p : Nat} {post : Mem → Prop} (hT : TapeM M T) (hO : OKT T) (hp : p ≤ T.1) (h10 : rd M 128 10 = nI p) (h0 : rd M 128 14 = 0)
    (good : tK T p ≠ 4 → ∀ M', TokM M' T p → rd M' 128 14 = 0 → FrK M M' → post M') (bad : tK T p = 4 → ∀ M', rd M' 128 14 = 1 → rd M' 128 15 = nI (tS T p) → FrK M M' → post M') : w_X10_takes M post := by
  have hn := hO.1
  obtain ⟨s1, s2⟩ := tS_le hp
  obtain ⟨e1, e2, e3⟩ := tE_le hp
  have hq4 := kdT_4 (T := T) (i := tS T p)
  unfold w_X10_takes
  rw [h0]
  refine ⟨fun _ => ?_, fun q => absurd (by decide) q⟩
  -- a letter: how far the word goes
  have word : tQ T p = 1 → ∀ s : Mem, rd s 128 12 = 1 → rd s 128 11 = nI (tS T p) → rd s 128 10 = nI (tS T p) → rd s 128 14 = 0 → FrK M s → ∃ g82, w_X10_takes_L82 post g82 s := fun hk s k12 k11 k10 k14 kF => by
    have hk' : kdT T (tS T p) = 1 := hk
    have hlt := (kdT_1.mp hk').1
    have eE : tE T p = tR T 1 (tS T p) := by unfold tE; rw [if_neg (by omega), if_pos (Or.inl hk), hk, tR_on hlt hk']
    have eK : tK T p = 1 := by unfold tK; rw [if_neg (by omega)]; exact hk
    refine loop_0 (fun n i (s : Mem) => w_X10_takes_L82 post n s) (fun i s => rd s 128 12 = 1 ∧ rd s 128 11 = nI (tS T p) ∧ rd s 128 10 = nI (tS T p + i) ∧ tS T p + i ≤ T.1 ∧ tE T p = tR T 1 (tS T p + i) ∧ rd s 128 14 = 0 ∧ FrK M s) 161 s ⟨k12, k11, k10, by omega, eE, k14, kF⟩ ?_ ?_
    · rintro n s ⟨-, -, -, k5, -⟩
      omega
    · rintro n i s hi ⟨k12, k11, k10, k5, k6, k14, kF⟩ kk
      show w_X10_takes_L82 post (n + 1) s
      unfold w_X10_takes_L82
      rw [k10]
      have stop : kdT T (tS T p + i) ≠ 1 → post s := fun z => by
        have e : tE T p = tS T p + i := by
          rcases Nat.lt_or_ge (tS T p + i) T.1 with y | y
          · rw [k6, tR_no y z]
          · have : tS T p + i = T.1 := by omega
            rw [k6, this, tR_end]
        exact good (by omega) s ⟨by rw [k12, eK]; rfl, k11, by rw [k10, e], fun y => by omega⟩ k14 kF
      refine m_byteAt (hT.k kF) hO (by omega) (fun hlt2 => ?_) (fun hge => ?_)
      · refine m_inR (l := 97) (n := 123) rfl rfl (by omega) (fun k z1 z2 z3 => ⟨fun q => absurd q (by decide), fun _ => ?_⟩) (fun no => ⟨fun _ => stop ?_, fun q => absurd rfl q⟩)
        · have hb := hO.2 _ hlt2
          have : T.2 (tS T p + i) = k := nI_inj (by omega) (by omega) z3
          have kd1 : kdT T (tS T p + i) = 1 := kdT_1.mpr ⟨hlt2, by omega, by omega⟩
          rw [tR_on hlt2 kd1] at k6
          rintro M5 hM5
          rw [k10, nI_1] at hM5
          subst hM5
          refine kk _ ⟨?_, ?_, ?_, by omega, k6, ?_, kF.trans (FrK.wr (by omega))⟩
          · rw [rd_ne (by omega)]; exact k12
          · rw [rd_ne (by omega)]; exact k11
          · rw [rd_eq ⟨rfl, rfl⟩]; rfl
          · rw [rd_ne (by omega)]; exact k14
        · intro z
          obtain ⟨z1, z2, z3⟩ := kdT_1.mp z
          exact no _ z2 (by omega) rfl
      · refine m_inR (v := -1) (l := 97) (n := 123) rfl rfl (by omega) (fun k z1 z2 z3 => ?_) (fun no => ⟨fun _ => stop ?_, fun q => absurd rfl q⟩)
        · have := congrArg Int32.toInt z3
          rw [nI_toInt (by omega)] at this
          have h4 : (-1 : Int32).toInt = -1 := by decide
          omega
        · intro z
          have := (kdT_1.mp z).1
          omega
  -- a figure: how far the number goes, its value
  have numb : tQ T p = 2 → ∀ s : Mem, rd s 128 12 = 2 → rd s 128 11 = nI (tS T p) → rd s 128 10 = nI (tS T p) → rd s 128 13 = 0 → rd s 128 14 = 0 → FrK M s → ∃ g140, w_X10_takes_L140 post g140 s := fun hk s k12 k11 k10 k13 k14 kF => by
    have hk' : kdT T (tS T p) = 2 := hk
    obtain ⟨hlt, dg1, dg2⟩ := kdT_2.mp hk'
    have eE : tE T p = tR T 2 (tS T p) := by unfold tE; rw [if_neg (by omega), if_pos (Or.inr hk), hk, tR_on hlt hk']
    have hgt := e3 (by omega)
    refine loop_0 (fun n i (s : Mem) => w_X10_takes_L140 post n s) (fun i s => rd s 128 12 = 2 ∧ rd s 128 11 = nI (tS T p) ∧ rd s 128 10 = nI (tS T p + i) ∧ tS T p + i ≤ T.1 ∧ tE T p = tR T 2 (tS T p + i) ∧ rd s 128 13 = nI (valI T (tS T p) i) ∧ rd s 128 14 = 0 ∧ FrK M s) 161 s ⟨k12, k11, k10, by omega, eE, k13, k14, kF⟩ ?_ ?_
    · rintro n s ⟨-, -, -, k5, -⟩
      omega
    · rintro n i s hi ⟨k12, k11, k10, k5, k6, k13, k14, kF⟩ kk
      show w_X10_takes_L140 post (n + 1) s
      unfold w_X10_takes_L140
      rw [k10]
      have stop : kdT T (tS T p + i) ≠ 2 → (2 < nI (tS T p + i) - nI (tS T p) → w_X10_takes_J236 post 0 s) ∧ (¬ 2 < nI (tS T p + i) - nI (tS T p) → w_X10_takes_J236 post 1 s) := fun z => by
        have e : tE T p = tS T p + i := by
          rcases Nat.lt_or_ge (tS T p + i) T.1 with y | y
          · rw [k6, tR_no y z]
          · have : tS T p + i = T.1 := by omega
            rw [k6, this, tR_end]
        rw [pk_sub (by omega), Nat.add_sub_cancel_left]
        unfold w_X10_takes_J236
        refine ⟨fun q => ?_, fun q => m_needsT (by decide) ?_⟩
        · have h2 := (nI_ltI (a := 2) (by decide) (by omega)).mp q
          have eK : tK T p = 4 := if_pos ⟨hk, by omega⟩
          refine m_needsF rfl k14 (fun M' b1 b2 b3 => bad eK M' b1 (by rw [b2]; exact k11) (kF.trans (fun x y w => b3 x y (by omega))))
        · have h2 : ¬ 2 < i := fun y => q (nI_lt (a := 2) y (by omega))
          have eK : tK T p = 2 := by unfold tK; rw [if_neg (by omega)]; exact hk
          refine good (by omega) s ⟨by rw [k12, eK]; rfl, k11, by rw [k10, e], fun _ => ?_⟩ k14 kF
          rw [k13]
          unfold valI tV
          rw [if_neg (by omega)]
          by_cases y : i = 1
          · rw [if_pos y, if_pos (by omega)]
          · rw [if_neg y, if_neg (by omega)]
      refine m_byteAt (hT.k kF) hO (by omega) (fun hlt2 => ?_) (fun hge => ?_)
      · have hb := hO.2 _ hlt2
        have ha := hO.2 _ hlt
        refine m_inR (l := 48) (n := 58) rfl rfl (by omega) (fun k z1 z2 z3 => ⟨fun q => absurd q (by decide), fun _ => ?_⟩) (fun no => ⟨fun _ => ?_, fun q => absurd rfl q⟩)
        · have hbk : T.2 (tS T p + i) = k := nI_inj (by omega) (by omega) z3
          have kd2 : kdT T (tS T p + i) = 2 := kdT_2.mpr ⟨hlt2, by omega, by omega⟩
          rw [tR_on hlt2 kd2] at k6
          have go : ∀ v : Int32, v = nI (valI T (tS T p) (i + 1)) → w_X10_takes_J201 post (w_X10_takes_L140 post n) v s := fun v hv => by
            unfold w_X10_takes_J201
            rintro M6 rfl M7 hM7
            rw [rd_ne (by omega), k10, nI_1] at hM7
            subst hM7
            refine kk _ ⟨?_, ?_, ?_, by omega, k6, ?_, ?_, kF.trans ((FrK.wr (by omega)).trans (FrK.wr (by omega)))⟩
            · rw [rd_ne (by omega), rd_ne (by omega)]; exact k12
            · rw [rd_ne (by omega), rd_ne (by omega)]; exact k11
            · rw [rd_eq ⟨rfl, rfl⟩]; rfl
            · rw [rd_ne (by omega), rd_eq ⟨rfl, rfl⟩]; exact hv
            · rw [rd_ne (by omega), rd_ne (by omega)]; exact k14
          rw [k10, k11, pk_sub (by omega), Nat.add_sub_cancel_left]
          refine ⟨fun q => go _ ?_, fun q => ?_⟩
          · have h2 := (nI_leI (a := 2) (by decide) (by omega)).mp q
            rw [k13]
            unfold valI
            rw [if_neg (by omega), if_neg (by omega), if_neg (by omega), if_neg (by omega)]
          · have h2 : i < 2 := by
              rcases Nat.lt_or_ge i 2 with z | z
              · exact z
              · exact absurd (nI_le (a := 2) z (by omega)) q
            refine m_byteAt (hT.k kF) hO (by omega) (fun _ => go _ ?_) (fun hge => by omega)
            rw [k13]
            have hv : valI T (tS T p) i < 100 := by
              unfold valI
              by_cases y : i = 0
              · rw [if_pos y]; omega
              · rw [if_neg y, if_pos (by omega)]; omega
            rw [show (10 : Int32) * nI (valI T (tS T p) i) = nI (10 * valI T (tS T p) i) from pk_mul 10 _, nI_add, show nI (10 * valI T (tS T p) i + T.2 (tS T p + i)) - 48 = nI (10 * valI T (tS T p) i + T.2 (tS T p + i) - 48) from pk_sub (b := 48) (by omega)]
            congr 1
            rcases (show i = 0 ∨ i = 1 by omega) with y | y
            · subst y
              unfold valI
              rw [if_pos rfl, if_neg (by omega), if_pos rfl]
              simp
            · subst y
              unfold valI
              rw [if_neg (by omega), if_pos rfl, if_neg (by omega), if_neg (by omega)]
              omega
        · have := stop (fun z => by
            obtain ⟨z1, z2, z3⟩ := kdT_2.mp z
            exact no _ z2 (by omega) rfl)
          rw [k10, k11]
          exact this
      · refine m_inR (v := -1) (l := 48) (n := 58) rfl rfl (by omega) (fun k z1 z2 z3 => ?_) (fun no => ⟨fun _ => ?_, fun q => absurd rfl q⟩)
        · have := congrArg Int32.toInt z3
          rw [nI_toInt (by omega)] at this
          have h4 : (-1 : Int32).toInt = -1 := by decide
          omega
        · have := stop (fun z => by
            have := (kdT_2.mp z).1
            omega)
          rw [k10, k11]
          exact this
  -- behind the spaces
  have tok : ∀ s : Mem, rd s 128 10 = nI (tS T p) → rd s 128 14 = 0 → FrK M s → (∀ M19 : Mem, M19 = wr s 128 11 (rd s 128 10) → w_X10_byteAt (rd M19 128 10) M19 (fun (r21 : Int32) (M20 : Mem) => ((0 ≤ r21 → w_X10_in ((r21).toInt64) 97 122 M20 (fun (r23 : Int32) (M22 : Mem) => ((r23 = 0 → w_X10_in ((r21).toInt64) 48 57 M22 (fun (r25 : Int32) (M24 : Mem) => ((r25 = 0 → ∀ M26 : Mem, M26 = wr M24 128 12 3 → ((¬ r21 = 59 → w_X10_takes_J260 post 0 M26) ∧ (r21 = 59 → w_X10_takes_J260 post 1 M26))) ∧ (¬ r25 = 0 → ∀ M27 : Mem, M27 = wr M24 128 12 2 → ∀ M28 : Mem, M28 = wr M27 128 13 0 → ∃ g140 : Nat, w_X10_takes_L140 post g140 M28)))) ∧ (¬ r23 = 0 → ∀ M29 : Mem, M29 = wr M22 128 12 1 → ∃ g82 : Nat, w_X10_takes_L82 post g82 M29)))) ∧ (¬ 0 ≤ r21 → ∀ M30 : Mem, M30 = wr M20 128 12 0 → post M30)))) := fun s k10 k14 kF => by
    rintro M19 hM19
    rw [k10] at hM19
    have g11 : rd M19 128 11 = nI (tS T p) := by rw [hM19]; exact rd_eq ⟨rfl, rfl⟩
    have g10 : rd M19 128 10 = nI (tS T p) := by rw [hM19, rd_ne (by omega)]; exact k10
    have g14 : rd M19 128 14 = 0 := by rw [hM19, rd_ne (by omega)]; exact k14
    have gF : FrK M M19 := by rw [hM19]; exact kF.trans (FrK.wr (by omega))
    clear hM19
    rw [g10]
    refine m_byteAt (hT.k gF) hO (by omega) (fun hlt => ?_) (fun hge => ?_)
    · have hb := hO.2 _ hlt
      refine ⟨fun _ => ?_, fun q => absurd (nI_pos' (by omega)) q⟩
      refine m_inR (l := 97) (n := 123) rfl rfl (by omega) (fun k z1 z2 z3 => ⟨fun q => absurd q (by decide), fun _ => ?_⟩) (fun no => ⟨fun _ => ?_, fun q => absurd rfl q⟩)
      · have hbk : T.2 (tS T p) = k := nI_inj (by omega) (by omega) z3
        rintro M29 rfl
        refine word (kdT_1.mpr ⟨hlt, by omega, by omega⟩) _ (rd_eq ⟨rfl, rfl⟩) ?_ ?_ ?_ (gF.trans (FrK.wr (by omega)))
        · rw [rd_ne (by omega)]; exact g11
        · rw [rd_ne (by omega)]; exact g10
        · rw [rd_ne (by omega)]; exact g14
      · refine m_inR (l := 48) (n := 58) rfl rfl (by omega) (fun k z1 z2 z3 => ⟨fun q => absurd q (by decide), fun _ => ?_⟩) (fun no2 => ⟨fun _ => ?_, fun q => absurd rfl q⟩)
        · have hbk : T.2 (tS T p) = k := nI_inj (by omega) (by omega) z3
          rintro M27 rfl M28 rfl
          refine numb (kdT_2.mpr ⟨hlt, by omega, by omega⟩) _ ?_ ?_ ?_ (rd_eq ⟨rfl, rfl⟩) ?_ (gF.trans ((FrK.wr (by omega)).trans (FrK.wr (by omega))))
          · rw [rd_ne (by omega), rd_eq ⟨rfl, rfl⟩]
          · rw [rd_ne (by omega), rd_ne (by omega)]; exact g11
          · rw [rd_ne (by omega), rd_ne (by omega)]; exact g10
          · rw [rd_ne (by omega), rd_ne (by omega)]; exact g14
        · have n1 : ¬ (97 ≤ T.2 (tS T p) ∧ T.2 (tS T p) ≤ 122) := fun z => no _ z.1 (by omega) rfl
          have n2 : ¬ (48 ≤ T.2 (tS T p) ∧ T.2 (tS T p) ≤ 57) := fun z => no2 _ z.1 (by omega) rfl
          rintro M26 hM26
          have a11 : rd M26 128 11 = nI (tS T p) := by rw [hM26, rd_ne (by omega)]; exact g11
          have a10 : rd M26 128 10 = nI (tS T p) := by rw [hM26, rd_ne (by omega)]; exact g10
          have a14 : rd M26 128 14 = 0 := by rw [hM26, rd_ne (by omega)]; exact g14
          have a12 : rd M26 128 12 = 3 := by rw [hM26]; exact rd_eq ⟨rfl, rfl⟩
          have aF : FrK M M26 := by rw [hM26]; exact gF.trans (FrK.wr (by omega))
          clear hM26
          unfold w_X10_takes_J260
          refine ⟨fun q => ?_, fun q => m_needsT (by decide) ?_⟩
          · have n3 : T.2 (tS T p) ≠ 59 := fun z => q (by rw [z]; rfl)
            have eQ : tQ T p = 4 := by
              show kdT T (tS T p) = 4
              unfold kdT
              rw [if_neg (by omega), if_neg n1, if_neg n2, if_neg n3]
            have eK : tK T p = 4 := by unfold tK; rw [if_neg (by omega)]; exact eQ
            refine m_needsF rfl a14 (fun M' b1 b2 b3 => ?_)
            rintro M16 rfl
            refine bad eK _ ?_ ?_ ((aF.trans (fun x y w => b3 x y (by omega))).trans (FrK.wr (by omega)))
            · rw [rd_ne (by omega)]; exact b1
            · rw [rd_ne (by omega), b2]; exact a11
          · have n3 : T.2 (tS T p) = 59 := nI_inj (by omega) (by decide) q
            have eQ : tQ T p = 3 := kdT_3.mpr ⟨hlt, n3⟩
            have eK : tK T p = 3 := by unfold tK; rw [if_neg (by omega)]; exact eQ
            have eE : tE T p = tS T p + 1 := by unfold tE; rw [if_neg (by omega), if_neg (by omega)]
            rintro M16 hM16
            rw [a10, nI_1] at hM16
            subst hM16
            refine good (by omega) _ ⟨?_, ?_, ?_, fun y => by omega⟩ ?_ (aF.trans (FrK.wr (by omega)))
            · rw [rd_ne (by omega), a12, eK]; rfl
            · rw [rd_ne (by omega)]; exact a11
            · rw [rd_eq ⟨rfl, rfl⟩, eE]
            · rw [rd_ne (by omega)]; exact a14
    · have eQ : tQ T p = 0 := kdT_0.mpr hge
      have eK : tK T p = 0 := tK_0.mpr eQ
      have eE : tE T p = tS T p := if_pos eQ
      refine ⟨fun q => absurd q (by decide), fun _ => ?_⟩
      rintro M30 rfl
      refine good (by omega) _ ⟨?_, ?_, ?_, fun y => by omega⟩ ?_ (gF.trans (FrK.wr (by omega)))
      · rw [rd_eq ⟨rfl, rfl⟩, eK]; rfl
      · rw [rd_ne (by omega)]; exact g11
      · rw [rd_ne (by omega), eE]; exact g10
      · rw [rd_ne (by omega)]; exact g14
  refine loop_0 (fun n i (s : Mem) => w_X10_takes_L8 post n s) (fun i s => rd s 128 10 = nI (p + i) ∧ p + i ≤ T.1 ∧ tS T p = tS T (p + i) ∧ rd s 128 14 = 0 ∧ FrK M s) 161 M ⟨h10, hp, rfl, h0, FrK.refl⟩ ?_ ?_
  · rintro n s ⟨-, k5, -⟩
    omega
  · rintro n i s hi ⟨k10, k5, k6, k14, kF⟩ kk
    show w_X10_takes_L8 post (n + 1) s
    unfold w_X10_takes_L8
    rw [k10]
    refine m_byteAt (hT.k kF) hO (by omega) (fun hlt => ⟨fun q => ?_, fun q => ?_⟩) (fun hge => ⟨fun q => ?_, fun q => absurd q (by decide)⟩)
    · rw [tS_no hlt (fun y => q (by rw [y]; rfl))] at k6
      have := tok s (by rw [k10, k6]) k14 kF
      exact this
    · have hb := hO.2 _ hlt
      rw [tS_sp hlt (nI_inj (by omega) (by decide) q)] at k6
      rintro M31 hM31
      rw [k10, nI_1] at hM31
      subst hM31
      refine kk _ ⟨?_, by omega, k6, ?_, kF.trans (FrK.wr (by omega))⟩
      · rw [rd_eq ⟨rfl, rfl⟩]; rfl
      · rw [rd_ne (by omega)]; exact k14
    · have ee : p + i = T.1 := by omega
      rw [ee, tS_end] at k6
      have := tok s (by rw [k10, k6, ee]) k14 kF
      exact this
