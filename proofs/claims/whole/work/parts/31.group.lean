/-! the class's groups -/
theorem bit16 : ∀ h, h < 16 → ∀ w, w < 4 → ((ishr (nI h) (nI w)) &&& 1) = nI (if h.testBit w then 1 else 0) := by decide +kernel
theorem c_isFree {M : Mem} {g t w : Nat} {e : EX} {post : Int32 → Mem → Prop} (hV : VE e) (ht : t < 5) (hG : GrC M g e t) (hw : w < 4) (h : post (if freeE e t w = true then 1 else 0) M) : w_X2_isFree g (nI w) M post := by
  unfold w_X2_isFree
  rw [hG.2.2.2.1, bit16 _ (heldE_16 hV ht) _ hw]
  unfold freeE at h
  cases hb : (heldE e t).testBit w with
  | true => exact ⟨fun _ => by simpa [hb] using h, fun c => absurd c (by decide)⟩
  | false => exact ⟨fun c => absurd rfl c, fun _ => by simpa [hb] using h⟩
theorem c_isDead {M : Mem} {g t w : Nat} {e : EX} {post : Int32 → Mem → Prop} (hd : eD e t < 16) (hG : rd M g 2 = nI (eD e t)) (hw : w < 4) (h : post (if (eD e t).testBit w = true then 1 else 0) M) : w_X2_isDead g (nI w) M post := by
  unfold w_X2_isDead
  rw [hG, bit16 _ hd _ hw]
  cases hb : (eD e t).testBit w with
  | true => exact ⟨fun c => absurd c (by decide), fun _ => by simpa [hb] using h⟩
  | false => exact ⟨fun _ => by simpa [hb] using h, fun c => absurd rfl c⟩
theorem c_inTurn {M : Mem} {g t i : Nat} {e : EX} {post : Int32 → Mem → Prop} (hV : VE e) (ht : t < 5) (hG : GrC M g e t) (hi : i < eZ e t) (h : post (nI (turnE e t i)) M) : w_X2_inTurn g (nI i) M post := by
  obtain ⟨h0, h1, -, -, h4, -⟩ := hG
  obtain ⟨hk, hz, -, hl, -⟩ := hV.2.2.2.2.2.2.2 t ht
  unfold w_X2_inTurn
  rw [h0, h4]
  refine ⟨fun c => ⟨fun c2 => ⟨fun c3 => ?_, fun c3 => ?_⟩, fun c2 => ?_⟩, fun c => ?_⟩
  · have k0 : eK e t ≠ 0 := fun z => c (by rw [z]; rfl)
    have k2 : eK e t ≠ 2 := fun z => c2 (by rw [z]; rfl)
    have l0 : eL e t ≠ 0 := fun z => c3 (by rw [z]; rfl)
    obtain ⟨l, hl'⟩ : ∃ l, eL e t = l + 1 := ⟨eL e t - 1, by omega⟩
    have e1 : turnE e t i = if l + 1 + i < eZ e t then l + 1 + i else l + 1 + i - eZ e t := by
      unfold turnE
      rw [if_neg k0, if_neg k2, hl']
    rw [hl', oI_s, nI_1, nI_add]
    unfold w_X2_inTurn_J47
    rw [h1]
    refine ⟨fun c4 => ?_, fun c4 => ?_⟩
    · have := (nI_leI (by omega) (by omega)).mp c4
      rw [pk_sub this]
      rw [e1, if_neg (by omega)] at h
      exact h
    · have : ¬ eZ e t ≤ l + 1 + i := fun q => c4 ((nI_leI (by omega) (by omega)).mpr q)
      rw [e1, if_pos (by omega)] at h
      exact h
  · have k0 : eK e t ≠ 0 := fun z => c (by rw [z]; rfl)
    have k2 : eK e t ≠ 2 := fun z => c2 (by rw [z]; rfl)
    have l0 : eL e t = 0 := (oI_4 (by omega)).mp c3
    have e1 : turnE e t i = i := by
      unfold turnE
      rw [if_neg k0, if_neg k2, l0, if_pos (by omega)]
      omega
    rw [e1] at h
    unfold w_X2_inTurn_J47
    rw [h1]
    exact ⟨fun c4 => absurd ((nI_leI (by omega) (by omega)).mp c4) (by omega), fun _ => h⟩
  · have k2 : eK e t = 2 := nI_inj (by omega) (by omega) c2
    have e1 : turnE e t i = eZ e t - 1 - i := by
      unfold turnE
      rw [if_neg (by omega), if_pos k2]
    rw [e1] at h
    rw [h1, show nI (eZ e t) - 1 = nI (eZ e t - 1) from pk_sub (a := eZ e t) (b := 1) (by omega), pk_sub (by omega)]
    exact h
  · have k0 : eK e t = 0 := nI_inj (by omega) (by omega) c
    have e1 : turnE e t i = i := by
      unfold turnE
      rw [if_pos k0]
    rw [e1] at h
    exact h
theorem c_pick {M : Mem} {g t : Nat} {e : EX} {post : Int32 → Mem → Prop} (hV : VE e) (ht : t < 5) (hG : GrC M g e t) (h : post (oI (pickE e t)) M) : w_X2_pick g M post := by
  obtain ⟨hk, hz, -, hl, -⟩ := hV.2.2.2.2.2.2.2 t ht
  unfold w_X2_pick
  refine loop_0 (fun n i (s : Nat) => w_X2_pick_L5 g post n (oI s) (nI i) M) (fun i s => s = pkC e t i) (eZ e t) 0 rfl ?_ ?_
  · rintro n s rfl
    show w_X2_pick_L5 g post (n + 1) _ _ M
    unfold w_X2_pick_L5
    rw [hG.2.1]
    exact ⟨fun _ => h, fun c => absurd (nI_le (Nat.le_refl _) (by omega)) c⟩
  · rintro n i s hi rfl kk
    show w_X2_pick_L5 g post (n + 1) _ _ M
    unfold w_X2_pick_L5
    rw [hG.2.1]
    refine ⟨fun c => absurd c (nI_ge hi (by omega)), fun _ => ?_⟩
    have hw := turnE_lt hV ht hi
    have hp := pkC_le hV ht i (by omega)
    have next : ∀ s, s = pkC e t (i + 1) → w_X2_pick_L5 g post n (oI s) (nI i + 1) M := fun s hs => by
      have := kk s hs
      rw [nI_1]
      exact this
    refine c_inTurn hV ht hG hi ?_
    refine c_isFree hV ht hG (by omega) ?_
    refine ⟨fun c => ?_, fun c => ?_⟩
    · have hf : ¬ freeE e t (turnE e t i) = true := fun z => by rw [if_pos z] at c; exact absurd c (by decide)
      rintro v rfl
      exact next _ (by rw [pkC, if_neg (fun z => hf z.1)])
    · have hf : freeE e t (turnE e t i) = true := by
        by_cases z : freeE e t (turnE e t i) = true
        · exact z
        · rw [if_neg z] at c; exact absurd rfl c
      refine ⟨fun c2 => ?_, fun c2 => ?_⟩
      · have p0 := (oI_4 (by omega)).mp c2
        rintro v rfl
        exact next (turnE e t i + 1) (by rw [pkC, if_pos ⟨hf, Or.inl p0⟩])
      · have p0 : pkC e t i ≠ 0 := fun z => c2 (by rw [z]; rfl)
        obtain ⟨q, hq⟩ : ∃ q, pkC e t i = q + 1 := ⟨pkC e t i - 1, by omega⟩
        rw [hG.1]
        refine ⟨fun c3 => ?_, fun c3 => ?_⟩
        · have k3 : eK e t ≠ 3 := fun z => c3 (by rw [z]; rfl)
          rintro v rfl
          exact next _ (by rw [pkC, if_neg (fun z => z.2.elim p0 (fun y => k3 y.1))])
        · have k3 : eK e t = 3 := nI_inj (by omega) (by omega) c3
          rw [hq, oI_s]
          refine ⟨vp_in_nI (by omega) (by omega), vp_in_nI (by omega) (by omega), ?_⟩
          rw [tnI (by omega), tnI (by omega), hG.2.2.2.2.2 _ (by omega), hG.2.2.2.2.2 _ (by omega)]
          refine ⟨fun c4 => ?_, fun c4 => ?_⟩
          · rintro v rfl
            have := next (q + 1) (by rw [pkC, if_neg, hq]; rintro ⟨-, z | z⟩; · exact p0 z
                                     · rw [hq] at z; exact absurd z.2 (Int32.not_lt.mpr c4))
            exact this
          · rintro v rfl
            exact next (turnE e t i + 1) (by rw [pkC, if_pos ⟨hf, Or.inr ⟨k3, by rw [hq]; exact Int32.not_le.mp c4⟩⟩])
