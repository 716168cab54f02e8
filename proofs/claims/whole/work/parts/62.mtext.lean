/-! the reference: drafts; the whole text -/
def D0 (k : Nat) : Int32 := if k < 24 ∧ (k % 4 = 1 ∨ k % 4 = 3) then -4 else if 26 ≤ k ∧ k < 46 ∧ k % 4 = 3 then 1 else if 26 ≤ k ∧ k < 46 ∧ k % 4 = 1 then -4 else 0
def FrDr (M M' : Mem) : Prop := ∀ i q, ¬ i = 132 → ¬ (i = 128 ∧ 4 ≤ q ∧ q ≤ 7) → rd M' i q = rd M i q
theorem m_firstDraft {M : Mem} {post : Mem → Prop} (h : ∀ M', RdM M' d00 → FrDr M M' → post M') : w_X10_firstDraft M post := by
  have i4 : ∀ x, (4 : Int32) * nI x = nI (4 * x) := fun x => by rw [show (4 : Int32) = nI 4 from rfl, pk_mul]
  have i3 : ∀ x, nI x + (3 : Int32) = nI (x + 3) := fun x => by rw [show (3 : Int32) = nI 3 from rfl, nI_add]
  have i26 : ∀ x, (26 : Int32) + nI x = nI (26 + x) := fun x => by rw [show (26 : Int32) = nI 26 from rfl, nI_add]
  unfold w_X10_firstDraft
  refine loop_0 (fun n i (s : Mem) => w_X10_firstDraft_L2 post n (nI i) s) (fun i s => (∀ k, k < i → rd s 132 k = 0) ∧ ∀ j q, j ≠ 132 → rd s j q = rd M j q) 96 M ⟨fun k hk => by omega, fun _ _ _ => rfl⟩ ?_ ?_
  · rintro n s0 ⟨k1, k2⟩
    show w_X10_firstDraft_L2 post (n + 1) _ s0
    unfold w_X10_firstDraft_L2
    refine ⟨fun _ => ?_, fun q => absurd (nI_le (a := 96) (Nat.le_refl _) (by decide)) q⟩
    refine loop_0 (fun n i (s : Mem) => w_X10_firstDraft_L23 post n (nI i) s) (fun i s => (∀ k, k < 96 → rd s 132 k = if k < 4 * i ∧ (k % 4 = 1 ∨ k % 4 = 3) then -4 else 0) ∧ ∀ j q, j ≠ 132 → rd s j q = rd M j q) 6 s0 ⟨fun k hk => by rw [if_neg (by omega)]; exact k1 k hk, k2⟩ ?_ ?_
    · rintro n s1 ⟨k3, k4⟩
      show w_X10_firstDraft_L23 post (n + 1) _ s1
      unfold w_X10_firstDraft_L23
      refine ⟨fun _ => ?_, fun q => absurd (nI_le (a := 6) (Nat.le_refl _) (by decide)) q⟩
      refine loop_0 (fun n i (s : Mem) => w_X10_firstDraft_L61 post n (nI i) s) (fun i s => (∀ k, k < 96 → rd s 132 k = if k < 24 ∧ (k % 4 = 1 ∨ k % 4 = 3) then -4 else if 26 ≤ k ∧ k < 26 + 4 * i ∧ k % 4 = 3 then 1 else if 26 ≤ k ∧ k < 26 + 4 * i ∧ k % 4 = 1 then -4 else 0) ∧ ∀ j q, j ≠ 132 → rd s j q = rd M j q) 5 s1 ⟨fun k hk => ?_, k4⟩ ?_ ?_
      · rw [k3 k hk]
        by_cases z : k < 24 ∧ (k % 4 = 1 ∨ k % 4 = 3)
        · rw [if_pos (by omega), if_pos z]
        · rw [if_neg (by omega), if_neg z, if_neg (by omega), if_neg (by omega)]
      · rintro n s2 ⟨k5, k6⟩
        show w_X10_firstDraft_L61 post (n + 1) _ s2
        unfold w_X10_firstDraft_L61
        refine ⟨fun _ => ?_, fun q => absurd (nI_le (a := 5) (Nat.le_refl _) (by decide)) q⟩
        rintro M1 rfl M2 rfl M3 rfl M4 rfl M5 hM5
        have r5 : ∀ i k, rd M5 i k = if i = 128 ∧ k = 7 then -4 else if i = 128 ∧ k = 6 then 0 else if i = 128 ∧ k = 5 then 0 else if i = 128 ∧ k = 4 then 0 else if i = 132 ∧ k = 25 then 2 else rd s2 i k := fun i k => by
          rw [hM5, rd_wr, rd_wr, rd_wr, rd_wr, rd_wr]
        clear hM5
        have d5 : ∀ k, k < 96 → k ≠ 25 → rd M5 132 k = D0 k := fun k hk h25 => by
          rw [r5, if_neg (by omega), if_neg (by omega), if_neg (by omega), if_neg (by omega), if_neg (by omega)]
          exact k5 k hk
        have rows : ∀ a, a < 6 → rd M5 132 (4 * a + 1) = -4 ∧ rd M5 132 (4 * a + 2) = 0 ∧ rd M5 132 (4 * a + 3) = -4 := fun a ha => by
          rw [d5 _ (by omega) (by omega), d5 _ (by omega) (by omega), d5 _ (by omega) (by omega)]
          unfold D0
          refine ⟨if_pos (by omega), ?_, if_pos (by omega)⟩
          rw [if_neg (by omega), if_neg (by omega), if_neg (by omega)]
        refine h M5 ⟨ExM.fresh FR_00 (by decide) ?_ ?_ (fun a ha => absurd ha (Nat.not_lt_zero _)) rows (fun t ht => ?_), ⟨?_, ?_, fun a ha => absurd ha (Nat.not_lt_zero _), fun a ha => absurd ha (Nat.not_lt_zero _)⟩, rows, ?_, ?_, ?_, ?_⟩ (fun i q z1 z2 => ?_)
        · show rd M5 132 24 = nI 0
          rw [d5 _ (by omega) (by omega)]; rfl
        · show rd M5 132 25 = nI 2
          rw [r5, if_neg (by omega), if_neg (by omega), if_neg (by omega), if_neg (by omega), if_pos ⟨rfl, rfl⟩]; rfl
        · show rd M5 132 (26 + 4 * t) = nI 0 ∧ rd M5 132 (27 + 4 * t) = nI 1 ∧ rd M5 132 (28 + 4 * t) = 0 ∧ rd M5 132 (29 + 4 * t) = -4 ∧ ∀ w, w < 4 → rd M5 132 (46 + 4 * t + w) = 0
          rw [d5 _ (by omega) (by omega), d5 _ (by omega) (by omega), d5 _ (by omega) (by omega), d5 _ (by omega) (by omega)]
          unfold D0
          refine ⟨?_, ?_, ?_, ?_, fun w hw => ?_⟩
          · rw [if_neg (by omega), if_neg (by omega), if_neg (by omega)]; rfl
          · rw [if_neg (by omega), if_pos (by omega)]; rfl
          · rw [if_neg (by omega), if_neg (by omega), if_neg (by omega)]
          · rw [if_neg (by omega), if_neg (by omega), if_pos (by omega)]
          · rw [d5 _ (by omega) (by omega)]
            unfold D0
            rw [if_neg (by omega), if_neg (by omega), if_neg (by omega)]
        · show rd M5 132 66 = nI 0
          rw [d5 _ (by omega) (by omega)]; rfl
        · show rd M5 132 83 = nI 0
          rw [d5 _ (by omega) (by omega)]; rfl
        · rw [r5, if_neg (by omega), if_neg (by omega), if_neg (by omega), if_pos ⟨rfl, rfl⟩]; rfl
        · rw [r5, if_neg (by omega), if_neg (by omega), if_pos ⟨rfl, rfl⟩]; rfl
        · rw [r5, if_neg (by omega), if_pos ⟨rfl, rfl⟩]; rfl
        · rw [r5, if_pos ⟨rfl, rfl⟩]; rfl
        · rw [r5, if_neg (by omega), if_neg (by omega), if_neg (by omega), if_neg (by omega), if_neg (by omega)]; exact k6 _ _ z1
      · rintro n i s2 hi ⟨k5, k6⟩ kk
        show w_X10_firstDraft_L61 post (n + 1) _ s2
        unfold w_X10_firstDraft_L61
        rw [i4, i26, nI_1, i3, tnI (by omega), tnI (by omega)]
        refine ⟨fun q => absurd q (nI_ge (b := 5) hi (by decide)), fun _ => ⟨vp_in_nI (by omega) (by omega), ?_⟩⟩
        rintro M6 rfl
        refine ⟨vp_in_nI (by omega) (by omega), ?_⟩
        rintro M7 hM7
        have r7 : ∀ j k, rd M7 j k = if j = 132 ∧ k = 26 + 4 * i + 3 then -4 else if j = 132 ∧ k = 26 + 4 * i + 1 then 1 else rd s2 j k := fun j k => by rw [hM7, rd_wr, rd_wr]
        clear hM7
        rintro v rfl
        rw [nI_1]
        refine kk M7 ⟨fun k hk => ?_, fun j q z => ?_⟩
        · rw [r7]
          by_cases z : k = 26 + 4 * i + 3
          · rw [if_pos ⟨rfl, z⟩, if_neg (by omega), if_neg (by omega), if_pos (by omega)]
          · rw [if_neg (by omega)]
            by_cases z2 : k = 26 + 4 * i + 1
            · rw [if_pos ⟨rfl, z2⟩, if_neg (by omega), if_pos (by omega)]
            · rw [if_neg (by omega), k5 k hk]
              by_cases y1 : k < 24 ∧ (k % 4 = 1 ∨ k % 4 = 3)
              · rw [if_pos y1, if_pos y1]
              · rw [if_neg y1, if_neg y1]
                by_cases y2 : 26 ≤ k ∧ k < 26 + 4 * i ∧ k % 4 = 3
                · rw [if_pos y2, if_pos (by omega)]
                · rw [if_neg y2, if_neg (show ¬ (26 ≤ k ∧ k < 26 + 4 * (i + 1) ∧ k % 4 = 3) by omega)]
                  by_cases y3 : 26 ≤ k ∧ k < 26 + 4 * i ∧ k % 4 = 1
                  · rw [if_pos y3, if_pos (by omega)]
                  · rw [if_neg y3, if_neg (by omega)]
        · rw [r7, if_neg (by omega), if_neg (by omega)]; exact k6 j q z
    · rintro n i s1 hi ⟨k3, k4⟩ kk
      show w_X10_firstDraft_L23 post (n + 1) _ s1
      unfold w_X10_firstDraft_L23
      rw [i4, nI_1, i3, tnI (by omega), tnI (by omega)]
      refine ⟨fun q => absurd q (nI_ge (b := 6) hi (by decide)), fun _ => ⟨vp_in_nI (by omega) (by omega), ?_⟩⟩
      rintro M6 rfl
      refine ⟨vp_in_nI (by omega) (by omega), ?_⟩
      rintro M7 hM7
      have r7 : ∀ j k, rd M7 j k = if j = 132 ∧ k = 4 * i + 3 then -4 else if j = 132 ∧ k = 4 * i + 1 then -4 else rd s1 j k := fun j k => by rw [hM7, rd_wr, rd_wr]
      clear hM7
      rintro v rfl
      rw [nI_1]
      refine kk M7 ⟨fun k hk => ?_, fun j q z => ?_⟩
      · rw [r7]
        by_cases z : k = 4 * i + 3
        · rw [if_pos ⟨rfl, z⟩, if_pos (by omega)]
        · rw [if_neg (by omega)]
          by_cases z2 : k = 4 * i + 1
          · rw [if_pos ⟨rfl, z2⟩, if_pos (by omega)]
          · rw [if_neg (by omega), k3 k hk]
            by_cases y1 : k < 4 * i ∧ (k % 4 = 1 ∨ k % 4 = 3)
            · rw [if_pos y1, if_pos (by omega)]
            · rw [if_neg y1, if_neg (by omega)]
      · rw [r7, if_neg (by omega), if_neg (by omega)]; exact k4 j q z
  · rintro n i s0 hi ⟨k1, k2⟩ kk
    show w_X10_firstDraft_L2 post (n + 1) _ s0
    unfold w_X10_firstDraft_L2
    rw [tnI (by omega)]
    refine ⟨fun q => absurd q (nI_ge (b := 96) hi (by decide)), fun _ => ⟨vp_in_nI (by omega) (by omega), ?_⟩⟩
    rintro M7 rfl v rfl
    rw [nI_1]
    refine kk _ ⟨fun k hk => ?_, fun j q z => ?_⟩
    · by_cases z : k = i
      · rw [rd_eq ⟨rfl, z⟩]
      · rw [rd_ne (by omega)]; exact k1 k (by omega)
    · rw [rd_ne (by omega)]; exact k2 j q z
theorem m_keepDraft {M : Mem} {post : Mem → Prop} (h : ∀ M', (∀ k, k < 96 → rd M' 129 k = rd M 132 k) → rd M' 131 0 = 0 → rd M' 131 1 = 0 → (∀ i q, ¬ (i = 129 ∧ q < 96) → ¬ (i = 131 ∧ q < 2) → rd M' i q = rd M i q) → post M') : w_X10_keepDraft M post := by
  unfold w_X10_keepDraft
  refine loop_0 (fun n i (s : Mem) => w_X10_keepDraft_L2 post n (nI i) s) (fun i s => (∀ k, k < i → rd s 129 k = rd M 132 k) ∧ ∀ j q, ¬ (j = 129 ∧ q < 96) → rd s j q = rd M j q) 96 M ⟨fun k hk => by omega, fun _ _ _ => rfl⟩ ?_ ?_
  · rintro n s ⟨k1, k2⟩
    show w_X10_keepDraft_L2 post (n + 1) _ s
    unfold w_X10_keepDraft_L2
    refine ⟨fun _ => ?_, fun q => absurd (nI_le (a := 96) (Nat.le_refl _) (by decide)) q⟩
    rintro M1 rfl M2 rfl
    refine h _ (fun k hk => ?_) ?_ ?_ (fun i q z1 z2 => ?_)
    · rw [rd_ne (by omega), rd_ne (by omega)]; exact k1 k hk
    · rw [rd_ne (by omega), rd_eq ⟨rfl, rfl⟩]
    · rw [rd_eq ⟨rfl, rfl⟩]
    · rw [rd_ne (by omega), rd_ne (by omega)]; exact k2 _ _ z1
  · rintro n i s hi ⟨k1, k2⟩ kk
    show w_X10_keepDraft_L2 post (n + 1) _ s
    unfold w_X10_keepDraft_L2
    rw [tnI (by omega)]
    refine ⟨fun q => absurd q (nI_ge (b := 96) hi (by decide)), fun _ => ⟨vp_in_nI (by omega) (by omega), vp_in_nI (by omega) (by omega), ?_⟩⟩
    rintro M7 rfl v rfl
    rw [nI_1]
    refine kk _ ⟨fun k hk => ?_, fun j q z => ?_⟩
    · by_cases z : k = i
      · rw [rd_eq ⟨rfl, z⟩, z]; exact k2 132 i (by omega)
      · rw [rd_ne (by omega)]; exact k1 k (by omega)
    · rw [rd_ne (by omega)]; exact k2 j q z
/-- what the reference's text changes: nothing of these -/
def FrX (M M' : Mem) : Prop := ∀ i q, (i < 128 ∨ i = 133 ∨ 136 ≤ i ∨ (i = 129 ∧ 96 ≤ q) ∨ (i = 128 ∧ q = 26)) → rd M' i q = rd M i q
theorem oI_le : ∀ a, a < 7 → ∀ h, h < 8 → (nI a ≤ oI h ↔ ¬ h ≤ a) := by decide +kernel
theorem lineO_6 {T : TP} {p : Nat} {d : DD} {M' : Mem} (h : LineR T M' (lineO T p d)) : (lineO T p d).1 ≠ 0 → (lineO T p d).1 ≤ 6 := fun h0 => h.elim (fun x => absurd x.1 h0) (fun x => x.2.1)
theorem m_text {M : Mem} {T : TP} {post : Int32 → Mem → Prop} (hT : TapeM M T) (hO : OKT T)
    (ok : ∀ n d, txL T 161 0 d00 0 = (0, 0, n, d) → DOK d → ∀ M', rd M' 128 14 = 0 → rd M' 128 9 = 0 → ExM (R129 M') (dE d) → ScM (R129 M') (dC d) → rd M' 131 0 = 0 → rd M' 131 1 = 0 → FrX M M' → post (nI n) M')
    (bad : ∀ f pl n d, txL T 161 0 d00 0 = (f, pl, n, d) → f ≠ 0 → f ≤ 6 → ∀ M', rd M' 128 14 = nI f → rd M' 128 9 = 0 → FrX M M' → (∀ q, rd M' 129 q = rd M 129 q) → (∀ q, rd M' 131 q = rd M 131 q) → post (-10 - nI pl) M') : w_X10_text M post := by
  have hn := hO.1
  unfold w_X10_text
  rintro M6 rfl M7 hM7
  have r7 : ∀ i k, rd M7 i k = if i = 128 ∧ k = 10 then 0 else if i = 128 ∧ k = 14 then 0 else rd M i k := fun i k => by rw [hM7, rd_wr, rd_wr]
  clear hM7
  have f7 : FrQ M M7 := fun i q z => by rw [r7, if_neg (by omega), if_neg (by omega)]
  refine m_firstDraft (fun M8 a1 a2 => ?_)
  have f8 : FrQ M M8 := f7.trans (fun i q z => a2 _ _ (by omega) (by omega))
  refine m_takesA (p := 0) (hT.q f8) hO (Nat.zero_le _) (by rw [a2 _ _ (by omega) (by omega), r7, if_pos ⟨rfl, rfl⟩]; rfl) (by rw [a2 _ _ (by omega) (by omega), r7, if_neg (by omega), if_pos ⟨rfl, rfl⟩]) (fun M9 b1 b2 => ?_)
  -- a fault: the end
  have flt : ∀ (f pl n : Nat) (d : DD) (l1 : Int32) (s : Mem), txL T 161 0 d00 0 = (f, pl, n, d) → f ≠ 0 → f ≤ 6 → FM s f pl → FrQ M s → w_X10_text_J76 post l1 s := fun f pl n d l1 s e h0 h6 hF fr => by
    unfold w_X10_text_J76
    rintro M1 hM1
    have r1 : ∀ i k, ¬ (i = 128 ∧ k = 9) → rd M1 i k = rd s i k := fun i k z => by rw [hM1]; exact rd_ne (by omega)
    have e9 : rd M1 128 9 = 0 := by rw [hM1]; exact rd_eq ⟨rfl, rfl⟩
    clear hM1
    have hF1 : FM M1 f pl := ⟨by rw [r1 _ _ (by omega)]; exact hF.1, by rw [r1 _ _ (by omega)]; exact hF.2⟩
    refine ⟨fun q => absurd q (hF1.nle h0 h6), fun _ => ?_⟩
    rw [hF1.2]
    exact bad f pl n d e h0 h6 M1 hF1.1 e9 (fun i q z => by rw [r1 _ _ (by omega), fr _ _ (by omega)]) (fun q => by rw [r1 _ _ (by omega), fr _ _ (by omega)]) (fun q => by rw [r1 _ _ (by omega), fr _ _ (by omega)])
  refine loop_0 (fun n i (s : Nat × DD × Mem) => w_X10_text_L20 post n (nI i) s.2.2) (fun i s => FrQ M s.2.2 ∧ ((∃ f pl n dd, txL T 161 0 d00 0 = (f, pl, n, dd) ∧ f ≠ 0 ∧ f ≤ 6 ∧ FM s.2.2 f pl) ∨ (RdM s.2.2 s.2.1 ∧ DOK s.2.1 ∧ i ≤ s.1 ∧ s.1 ≤ T.1 ∧ AtM s.2.2 T s.1 ∧ txL T 161 0 d00 0 = txL T (161 - i) s.1 s.2.1 i))) 161 (0, d00, M9) ⟨f8.trans b2.q, Or.inr ⟨a1.at DOK_00 (fun i q z => b2 _ _ (by omega)), DOK_00, Nat.le_refl _, Nat.zero_le _, b1, rfl⟩⟩ ?_ ?_
  · rintro n ⟨x, d, s⟩ ⟨k0, k⟩
    show w_X10_text_L20 post (n + 1) _ s
    unfold w_X10_text_L20
    rcases k with ⟨f, pl, n', dd, e1, e2, e3, e4⟩ | ⟨-, -, k3, k4, -⟩
    · have hne := e4.ne e2 e3
      refine ⟨fun _ => ?_, fun q => absurd q hne⟩
      unfold w_X10_text_J44
      exact ⟨fun _ => flt f pl n' dd _ s e1 e2 e3 e4 k0, fun q => absurd q hne⟩
    · change 161 ≤ x at k3
      change x ≤ T.1 at k4
      omega
  · rintro n i ⟨x, d, s⟩ hi ⟨k0, k⟩ kk
    change FrQ M s at k0
    show w_X10_text_L20 post (n + 1) _ s
    unfold w_X10_text_L20
    rcases k with ⟨f, pl, n', dd, e1, e2, e3, e4⟩ | ⟨k1, k2, k3, k4, k5, k6⟩
    · have hne := e4.ne e2 e3
      refine ⟨fun _ => ?_, fun q => absurd q hne⟩
      unfold w_X10_text_J44
      exact ⟨fun _ => flt f pl n' dd _ s e1 e2 e3 e4 k0, fun q => absurd q hne⟩
    · change RdM s d at k1
      change DOK d at k2
      change i ≤ x at k3
      change x ≤ T.1 at k4
      change AtM s T x at k5
      change _ = txL T (161 - i) x d i at k6
      obtain ⟨j, hj⟩ : ∃ j, 161 - i = j + 1 := ⟨160 - i, by omega⟩
      rw [hj, txL_s (f := j)] at k6
      have tk4 := tK_4 (T := T) (p := x)
      have hm6 := k2.1.m
      rcases k5 with ⟨n4, hK, h0⟩ | ⟨n4, hF⟩
      · refine ⟨fun q => absurd h0 q, fun _ => ?_⟩
        rw [hK.1]
        refine ⟨fun q => ?_, fun q => ?_⟩
        · have n0 : tK T x = 0 := nI_inj (by omega) (by decide) q
          rw [if_pos n0] at k6
          unfold w_X10_text_J44
          refine ⟨fun q => absurd h0 q, fun _ => ?_⟩
          have hh6 : hiW (sW (dC d)) (sA (dC d)) ≤ 6 := (hiW_le _).mpr (fun i hi => (k2.2.2.1.2.2 i hi).1)
          have cmp := oI_le (eM (dE d)) (by omega) (hiW (sW (dC d)) (sA (dC d))) (by omega)
          rw [show rd s 132 24 = nI (eM (dE d)) from k1.1.1, k1.2.2.2.2.2.2, cmp]
          unfold w_X10_text_J71
          refine ⟨fun z => ?_, fun z => ?_⟩
          · rw [if_neg z] at k6
            refine m_needsF rfl h0 (fun M' c1 c2 c3 => ?_)
            have hF : FM M' 6 (tS T x) := ⟨c1, by rw [c2]; exact hK.2.1⟩
            exact flt 6 _ _ _ _ M' k6 (by omega) (by omega) hF (k0.trans (FrT.q c3))
          · have z' : hiW (sW (dC d)) (sA (dC d)) ≤ eM (dE d) := Classical.byContradiction z
            rw [if_pos z'] at k6
            refine m_needsT (by decide) ?_
            unfold w_X10_text_J76
            rintro M1 hM1
            have r1 : ∀ i k, ¬ (i = 128 ∧ k = 9) → rd M1 i k = rd s i k := fun i k z => by rw [hM1]; exact rd_ne (by omega)
            have e9 : rd M1 128 9 = 0 := by rw [hM1]; exact rd_eq ⟨rfl, rfl⟩
            clear hM1
            rw [r1 128 14 (by omega), h0]
            refine ⟨fun _ => m_keepDraft (fun M2 d1 d2 d3 d4 => ?_), fun y => absurd (show (0 : Int32) ≤ 0 by decide) y⟩
            have hN := k2.2.2.1.2.1
            refine ok i d k6 k2 M2 ?_ ?_ (k1.1.congr hm6 (fun k hk => ?_)) (k1.2.1.congr ⟨k2.2.2.1.1, by omega⟩ (fun k _ hk => ?_)) d2 d3 (fun i q y => ?_)
            · rw [d4 _ _ (by omega) (by omega), r1 _ _ (by omega)]; exact h0
            · rw [d4 _ _ (by omega) (by omega)]; exact e9
            · show rd M2 129 k = rd s 132 k
              rw [d1 k (by omega), r1 _ _ (by omega)]
            · show rd M2 129 k = rd s 132 k
              rw [d1 k (by omega), r1 _ _ (by omega)]
            · rw [d4 _ _ (by omega) (by omega), r1 _ _ (by omega), k0 _ _ (by omega)]
        · have n0 : tK T x ≠ 0 := fun y => q (by rw [y]; rfl)
          rw [if_neg n0] at k6
          refine m_readLine hK h0 n4 k1 (hT.q k0) hO k4 k2 (fun M4 c1 c2 => ?_)
          rintro v5 rfl
          rw [nI_1]
          rcases c2 with ⟨e1, e2, e3⟩ | ⟨e1, e2, e3⟩
          · obtain ⟨d1, d2, d3⟩ := lineO_ok k2 k4 e1
            rw [if_neg (fun z => z e1)] at k6
            refine kk ((lineO T x d).2.1, (lineO T x d).2.2, M4) ⟨k0.trans c1, Or.inr ⟨e2, d1, by show i + 1 ≤ (lineO T x d).2.1; omega, d3, e3, ?_⟩⟩
            rw [k6, show 161 - (i + 1) = j by omega]
          · rw [if_pos e1] at k6
            exact kk (x, d, M4) ⟨k0.trans c1, Or.inl ⟨_, _, _, _, k6, e1, e2, e3⟩⟩
      · have e1 : kF T x 1 = 1 := by unfold kF; rw [if_pos n4]
        have el : lineO T x d = (1, tS T x, d) := by unfold lineO; rw [if_pos (show kF T x 1 ≠ 0 by omega), e1]
        rw [if_neg (show ¬ tK T x = 0 by omega), el, if_pos (show 1 ≠ 0 by omega)] at k6
        have hne := hF.ne (by omega) (by omega)
        refine ⟨fun _ => ?_, fun q => absurd q hne⟩
        unfold w_X10_text_J44
        exact ⟨fun _ => flt _ _ _ _ _ s k6 (by omega) (by omega) hF k0, fun q => absurd q hne⟩
