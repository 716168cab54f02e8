/-! the constructor of the class -/
set_option maxRecDepth 100000 in
set_option maxHeartbeats 4000000 in
theorem K_X9 {ω : WD} {b0 : Nat} {E : Nat → va_E} (hE : ∀ j, 0 ≤ j → j < 0 + 1 + 127 → E j = E0 ω j) : CtB ω b0 yX9_init cX9_init 2 4 127 1010 0 9 [.null, .null, .null, .null, .null, .null, .null, .null, .null, .int 0, .int 0] [] E := by
  refine CtB.start (own := RX9) (by decide +kernel) rfl rfl (Nat.le_of_ble_eq_true rfl) (fun ρ C hnm R => ?_)
  obtain ⟨Z, eZ⟩ : ∃ Z : Nat → Nat → Nat → va_E, Z = fun t u => upE (upE E 74 (.inl (ω.2.2.2.1 3, 2, .inr (.inr (.inr (.inr (fun i => if i < t then some (adr ω (74 + 2 + 22 * i)) else none))))))) 75 (.inl (ω.2.2.2.1 4, 4, .inr (.inr (.inr (.inr (fun i => if i < u then some (adr ω (75 + 45 + 2 * i)) else none)))))) := ⟨_, rfl⟩
  have hW : ∀ t u j, 0 < j → j < 128 → j ≠ 74 → j ≠ 75 → Z t u j = E0 ω j := fun t u j a b c d => by rw [eZ]; exact (upE_ne d).trans ((upE_ne c).trans (hE j (by omega) (by omega)))
  have hZ := hW 0 0
  have hI : ∀ t u, Z t u 74 = .inl (ω.2.2.2.1 3, 2, .inr (.inr (.inr (.inr (fun i => if i < t then some (adr ω (74 + 2 + 22 * i)) else none))))) := fun t u => by rw [eZ]; exact (upE_ne (by omega)).trans (upE_eq rfl)
  have hS : ∀ t u, Z t u 75 = .inl (ω.2.2.2.1 4, 4, .inr (.inr (.inr (.inr (fun i => if i < u then some (adr ω (75 + 45 + 2 * i)) else none))))) := fun t u => by rw [eZ]; exact upE_eq rfl
  have hQ3 : Z 0 0 74 = .inl (ω.2.2.2.1 3, 2, .inr (.inr (.inr (.inr (fun _ => none))))) := by rw [hI]; simp
  have hQ4 : Z 0 0 75 = .inl (ω.2.2.2.1 4, 4, .inr (.inr (.inr (.inr (fun _ => none))))) := by rw [hS]; simp
  have hX : ∀ t u, Z t u 0 = .inr (9, [.ref (adr ω 1), .ref (adr ω 17), .ref (adr ω 22), .ref (adr ω 40), .ref (adr ω 41), .ref (adr ω 50), .ref (adr ω 51), .ref (adr ω 74), .ref (adr ω 75), .int 0, .int 0]) := fun t u => by rw [eZ]; exact (upE_ne (by omega)).trans ((upE_ne (by omega)).trans ((hE _ (by omega) (by omega)).trans (E0_obj q0 (by decide))))
  refine Bj.to (E' := (upE (Z 0 0) 0 (.inr (9, [.null, .null, .null, .null, .null, .null, .null, .null, .null, .int 0, .int 0])))) (fun j hj => ?_) ?_
  · obtain rfl : j = 0 := by omega
    rw [upE_eq rfl, upE_eq rfl]
  show Bj ω b0 ρ (0 + 1) (upE (Z 0 0) 0 (.inr (9, [.null, .null, .null, .null, .null, .null, .null, .null, .null, .int 0, .int 0]))) [] 0 0 0 [(0, .ref (adr ω 0))] []
  refine B_aload C dX9_init_0 0 rfl ?_
  refine B_obj C dX9_init_1 83 84 85 (by decide +kernel) (by decide +kernel) (by decide +kernel) (Nat.le_of_ble_eq_true rfl) (by decide) ?_
  refine B_aload C dX9_init_4 0 rfl ?_
  refine B_new (ci := 1) (fs := [.int 0, .int 0, .int 0, .null, .null, .null, .null, .null]) (N := 8) (T := TX1) C dX9_init_5 rfl in_X1 tyX1 tyX1_ok 86 87 62 (by decide +kernel) (by decide +kernel) (by decide +kernel) (fun j hj => by rcases (show j = 0 ∨ j = 1 ∨ j = 2 ∨ j = 3 ∨ j = 4 ∨ j = 5 ∨ j = 6 ∨ j = 7 by omega) with rfl | rfl | rfl | rfl | rfl | rfl | rfl | rfl <;> rfl) (Nat.le_of_ble_eq_true rfl) (Nat.le_of_ble_eq_true rfl) ?_
  show Bj ω b0 ρ (1) (upE (Z 0 0) 0 (.inr (9, [.null, .null, .null, .null, .null, .null, .null, .null, .null, .int 0, .int 0]))) [(1, [.int 0, .int 0, .int 0, .null, .null, .null, .null, .null])] 1 8 8 [(0, .ref (adr ω 0))] [.ref (adr ω 1), .ref (adr ω 0)]
  refine B_dup C dX9_init_8 rfl ?_
  refine B_init (As := []) (rest := [.ref (adr ω 1), .ref (adr ω 0)]) C dX9_init_9 88 89 62 90 (by decide +kernel) (by decide +kernel) (by decide +kernel) (by decide +kernel) rfl (by decide +kernel) (Nat.le_of_ble_eq_true rfl) (Nat.le_of_ble_eq_true rfl) (Nat.le_of_ble_eq_true rfl) rfl (Nat.le_of_ble_eq_true rfl) (Nat.le_of_ble_eq_true rfl) (K_X1 q1 (fun j j1 j2 => (upE_ne (by omega)).trans (hZ j (by omega) (by omega) (by omega) (by omega)))) ?_
  show Bj ω b0 ρ (17) (upE (Z 0 0) 0 (.inr (9, [.null, .null, .null, .null, .null, .null, .null, .null, .null, .int 0, .int 0]))) [] 16 87 12 [(0, .ref (adr ω 0))] [.ref (adr ω 1), .ref (adr ω 0)]
  refine B_put (N := 11) (T := TX9) (C := RX9) (q := 0) (ty := .object "StepCalls$Exchange") (fs' := [.ref (adr ω 1), .null, .null, .null, .null, .null, .null, .null, .null, .int 0, .int 0]) C (by omega) rfl in_X9 tyX9 tyX9_ok nmX9 (by decide) 372 (by decide +kernel) rfl (Or.inr ⟨rfl, hnm, rfl⟩) (by decide +kernel) rfl rfl (Nat.le_of_ble_eq_true rfl) rfl dX9_init_12 ?_
  refine B_aload C dX9_init_15 0 rfl ?_
  refine B_new (ci := 5) (fs := [.int 0, .int 0, .null, .null, .null, .null]) (N := 6) (T := TX5) C dX9_init_16 rfl in_X5 tyX5 tyX5_ok 168 169 64 (by decide +kernel) (by decide +kernel) (by decide +kernel) (fun j hj => by rcases (show j = 0 ∨ j = 1 ∨ j = 2 ∨ j = 3 ∨ j = 4 ∨ j = 5 by omega) with rfl | rfl | rfl | rfl | rfl | rfl <;> rfl) (Nat.le_of_ble_eq_true rfl) (Nat.le_of_ble_eq_true rfl) ?_
  show Bj ω b0 ρ (17) (upE (Z 0 0) 0 (.inr (9, [.ref (adr ω 1), .null, .null, .null, .null, .null, .null, .null, .null, .int 0, .int 0]))) [(5, [.int 0, .int 0, .null, .null, .null, .null])] 17 93 19 [(0, .ref (adr ω 0))] [.ref (adr ω 17), .ref (adr ω 0)]
  refine B_dup C dX9_init_19 rfl ?_
  refine B_init (As := []) (rest := [.ref (adr ω 17), .ref (adr ω 0)]) C dX9_init_20 170 171 64 172 (by decide +kernel) (by decide +kernel) (by decide +kernel) (by decide +kernel) rfl (by decide +kernel) (Nat.le_of_ble_eq_true rfl) (Nat.le_of_ble_eq_true rfl) (Nat.le_of_ble_eq_true rfl) rfl (Nat.le_of_ble_eq_true rfl) (Nat.le_of_ble_eq_true rfl) (K_X5 q17 (fun j j1 j2 => (upE_ne (by omega)).trans (hZ j (by omega) (by omega) (by omega) (by omega)))) ?_
  show Bj ω b0 ρ (22) (upE (Z 0 0) 0 (.inr (9, [.ref (adr ω 1), .null, .null, .null, .null, .null, .null, .null, .null, .int 0, .int 0]))) [] 21 121 23 [(0, .ref (adr ω 0))] [.ref (adr ω 17), .ref (adr ω 0)]
  refine B_put (N := 11) (T := TX9) (C := RX9) (q := 1) (ty := .object "StepCalls$Script") (fs' := [.ref (adr ω 1), .ref (adr ω 17), .null, .null, .null, .null, .null, .null, .null, .int 0, .int 0]) C (by omega) rfl in_X9 tyX9 tyX9_ok nmX9 (by decide) 373 (by decide +kernel) rfl (Or.inr ⟨rfl, hnm, rfl⟩) (by decide +kernel) rfl rfl (Nat.le_of_ble_eq_true rfl) rfl dX9_init_23 ?_
  refine B_aload C dX9_init_26 0 rfl ?_
  refine B_new (ci := 8) (fs := [.null, .null, .int 0, .int 0, .int 0, .int 0]) (N := 6) (T := TX8) C dX9_init_27 rfl in_X8 tyX8 tyX8_ok 207 208 65 (by decide +kernel) (by decide +kernel) (by decide +kernel) (fun j hj => by rcases (show j = 0 ∨ j = 1 ∨ j = 2 ∨ j = 3 ∨ j = 4 ∨ j = 5 by omega) with rfl | rfl | rfl | rfl | rfl | rfl <;> rfl) (Nat.le_of_ble_eq_true rfl) (Nat.le_of_ble_eq_true rfl) ?_
  show Bj ω b0 ρ (22) (upE (Z 0 0) 0 (.inr (9, [.ref (adr ω 1), .ref (adr ω 17), .null, .null, .null, .null, .null, .null, .null, .int 0, .int 0]))) [(8, [.null, .null, .int 0, .int 0, .int 0, .int 0])] 22 127 30 [(0, .ref (adr ω 0))] [.ref (adr ω 22), .ref (adr ω 0)]
  refine B_dup C dX9_init_30 rfl ?_
  refine B_init (As := []) (rest := [.ref (adr ω 22), .ref (adr ω 0)]) C dX9_init_31 209 210 65 211 (by decide +kernel) (by decide +kernel) (by decide +kernel) (by decide +kernel) rfl (by decide +kernel) (Nat.le_of_ble_eq_true rfl) (Nat.le_of_ble_eq_true rfl) (Nat.le_of_ble_eq_true rfl) rfl (Nat.le_of_ble_eq_true rfl) (Nat.le_of_ble_eq_true rfl) (K_X8 (fun j j1 j2 => (upE_ne (by omega)).trans (hZ j (by omega) (by omega) (by omega) (by omega)))) ?_
  show Bj ω b0 ρ (40) (upE (Z 0 0) 0 (.inr (9, [.ref (adr ω 1), .ref (adr ω 17), .null, .null, .null, .null, .null, .null, .null, .int 0, .int 0]))) [] 39 222 34 [(0, .ref (adr ω 0))] [.ref (adr ω 22), .ref (adr ω 0)]
  refine B_put (N := 11) (T := TX9) (C := RX9) (q := 2) (ty := .object "StepCalls$Trial") (fs' := [.ref (adr ω 1), .ref (adr ω 17), .ref (adr ω 22), .null, .null, .null, .null, .null, .null, .int 0, .int 0]) C (by omega) rfl in_X9 tyX9 tyX9_ok nmX9 (by decide) 374 (by decide +kernel) rfl (Or.inr ⟨rfl, hnm, rfl⟩) (by decide +kernel) rfl rfl (Nat.le_of_ble_eq_true rfl) rfl dX9_init_34 ?_
  refine B_aload C dX9_init_37 0 rfl ?_
  refine B_new (ci := 0) (fs := [.int 0, .int 0]) (N := 2) (T := TX0) C dX9_init_38 rfl in_X0 tyX0 tyX0_ok 240 241 66 (by decide +kernel) (by decide +kernel) (by decide +kernel) (fun j hj => by rcases (show j = 0 ∨ j = 1 by omega) with rfl | rfl <;> rfl) (Nat.le_of_ble_eq_true rfl) (Nat.le_of_ble_eq_true rfl) ?_
  show Bj ω b0 ρ (40) (upE (Z 0 0) 0 (.inr (9, [.ref (adr ω 1), .ref (adr ω 17), .ref (adr ω 22), .null, .null, .null, .null, .null, .null, .int 0, .int 0]))) [(0, [.int 0, .int 0])] 40 224 41 [(0, .ref (adr ω 0))] [.ref (adr ω 40), .ref (adr ω 0)]
  refine B_dup C dX9_init_41 rfl ?_
  refine B_init (As := []) (rest := [.ref (adr ω 40), .ref (adr ω 0)]) C dX9_init_42 242 243 66 244 (by decide +kernel) (by decide +kernel) (by decide +kernel) (by decide +kernel) rfl (by decide +kernel) (Nat.le_of_ble_eq_true rfl) (Nat.le_of_ble_eq_true rfl) (Nat.le_of_ble_eq_true rfl) rfl (Nat.le_of_ble_eq_true rfl) (Nat.le_of_ble_eq_true rfl) (K_X0 (fun j j1 j2 => (upE_ne (by omega)).trans (hZ j (by omega) (by omega) (by omega) (by omega)))) ?_
  show Bj ω b0 ρ (41) (upE (Z 0 0) 0 (.inr (9, [.ref (adr ω 1), .ref (adr ω 17), .ref (adr ω 22), .null, .null, .null, .null, .null, .null, .int 0, .int 0]))) [] 40 224 45 [(0, .ref (adr ω 0))] [.ref (adr ω 40), .ref (adr ω 0)]
  refine B_put (N := 11) (T := TX9) (C := RX9) (q := 3) (ty := .object "StepCalls$Best") (fs' := [.ref (adr ω 1), .ref (adr ω 17), .ref (adr ω 22), .ref (adr ω 40), .null, .null, .null, .null, .null, .int 0, .int 0]) C (by omega) rfl in_X9 tyX9 tyX9_ok nmX9 (by decide) 375 (by decide +kernel) rfl (Or.inr ⟨rfl, hnm, rfl⟩) (by decide +kernel) rfl rfl (Nat.le_of_ble_eq_true rfl) rfl dX9_init_45 ?_
  refine B_aload C dX9_init_48 0 rfl ?_
  refine B_bipush (v := 8) C dX9_init_49 (by decide) ?_
  refine B_bipush (v := 7) C dX9_init_51 (by decide) ?_
  refine B_mna (N := 8) (K' := 7) C dX9_init_53 253 130 (by decide +kernel) (by decide +kernel) rfl rfl (Nat.le_of_ble_eq_true rfl) (Nat.le_of_ble_eq_true rfl) (((upE_ne (by omega)).trans (hZ _ (by omega) (by omega) (by omega) (by omega))).trans (E0_16 q41)) (fun j hj => ((upE_ne (by omega)).trans (hZ _ (by omega) (by omega) (by omega) (by omega))).trans (E0_arr (row16 hj))) (Nat.le_of_ble_eq_true rfl) (Nat.le_of_ble_eq_true rfl) ?_
  show Bj ω b0 ρ (50) (upE (Z 0 0) 0 (.inr (9, [.ref (adr ω 1), .ref (adr ω 17), .ref (adr ω 22), .ref (adr ω 40), .null, .null, .null, .null, .null, .int 0, .int 0]))) [] 49 288 57 [(0, .ref (adr ω 0))] [.ref (adr ω 41), .ref (adr ω 0)]
  refine B_put (N := 11) (T := TX9) (C := RX9) (q := 4) (ty := .array (.array (.int))) (fs' := [.ref (adr ω 1), .ref (adr ω 17), .ref (adr ω 22), .ref (adr ω 40), .ref (adr ω 41), .null, .null, .null, .null, .int 0, .int 0]) C (by omega) rfl in_X9 tyX9 tyX9_ok nmX9 (by decide) 376 (by decide +kernel) rfl (Or.inr ⟨rfl, hnm, rfl⟩) (by decide +kernel) rfl rfl (Nat.le_of_ble_eq_true rfl) rfl dX9_init_57 ?_
  refine B_aload C dX9_init_60 0 rfl ?_
  refine B_new (ci := 4) (fs := [.null, .null, .null, .int 0, .int 0, .int 0, .int 0, .int 0, .int 0]) (N := 9) (T := TX4) C dX9_init_61 rfl in_X4 tyX4 tyX4_ok 255 256 67 (by decide +kernel) (by decide +kernel) (by decide +kernel) (fun j hj => by rcases (show j = 0 ∨ j = 1 ∨ j = 2 ∨ j = 3 ∨ j = 4 ∨ j = 5 ∨ j = 6 ∨ j = 7 ∨ j = 8 by omega) with rfl | rfl | rfl | rfl | rfl | rfl | rfl | rfl | rfl <;> rfl) (Nat.le_of_ble_eq_true rfl) (Nat.le_of_ble_eq_true rfl) ?_
  show Bj ω b0 ρ (50) (upE (Z 0 0) 0 (.inr (9, [.ref (adr ω 1), .ref (adr ω 17), .ref (adr ω 22), .ref (adr ω 40), .ref (adr ω 41), .null, .null, .null, .null, .int 0, .int 0]))) [(4, [.null, .null, .null, .int 0, .int 0, .int 0, .int 0, .int 0, .int 0])] 50 297 64 [(0, .ref (adr ω 0))] [.ref (adr ω 50), .ref (adr ω 0)]
  refine B_dup C dX9_init_64 rfl ?_
  refine B_init (As := []) (rest := [.ref (adr ω 50), .ref (adr ω 0)]) C dX9_init_65 257 258 67 259 (by decide +kernel) (by decide +kernel) (by decide +kernel) (by decide +kernel) rfl (by decide +kernel) (Nat.le_of_ble_eq_true rfl) (Nat.le_of_ble_eq_true rfl) (Nat.le_of_ble_eq_true rfl) rfl (Nat.le_of_ble_eq_true rfl) (Nat.le_of_ble_eq_true rfl) (K_X4 (fun j j1 j2 => (upE_ne (by omega)).trans (hZ j (by omega) (by omega) (by omega) (by omega)))) ?_
  show Bj ω b0 ρ (74) (upE (Z 0 0) 0 (.inr (9, [.ref (adr ω 1), .ref (adr ω 17), .ref (adr ω 22), .ref (adr ω 40), .ref (adr ω 41), .null, .null, .null, .null, .int 0, .int 0]))) [] 73 584 68 [(0, .ref (adr ω 0))] [.ref (adr ω 50), .ref (adr ω 0)]
  refine B_put (N := 11) (T := TX9) (C := RX9) (q := 5) (ty := .object "StepCalls$Reader") (fs' := [.ref (adr ω 1), .ref (adr ω 17), .ref (adr ω 22), .ref (adr ω 40), .ref (adr ω 41), .ref (adr ω 50), .null, .null, .null, .int 0, .int 0]) C (by omega) rfl in_X9 tyX9 tyX9_ok nmX9 (by decide) 377 (by decide +kernel) rfl (Or.inr ⟨rfl, hnm, rfl⟩) (by decide +kernel) rfl rfl (Nat.le_of_ble_eq_true rfl) rfl dX9_init_68 ?_
  refine B_aload C dX9_init_71 0 rfl ?_
  refine B_aload C dX9_init_72 0 rfl ?_
  refine B_get (N := 11) (T := TX9) (C := RX9) (q := 5) C (by omega) (upE_eq rfl) rfl in_X9 (by decide) 377 (by decide +kernel) rfl rfl dX9_init_73 ?_
  refine B_get (N := 9) (T := TX4) (C := RX4) (q := 0) (i := 50) (v := .ref (adr ω 51)) C (by omega) (((upE_ne (by omega)).trans (hZ _ (by omega) (by omega) (by omega) (by omega))).trans (E0_obj q50 (by decide))) rfl in_X4 (by decide) 296 (by decide +kernel) rfl rfl dX9_init_76 ?_
  refine B_put (N := 11) (T := TX9) (C := RX9) (q := 6) (ty := .object "StepCalls$Tape") (fs' := [.ref (adr ω 1), .ref (adr ω 17), .ref (adr ω 22), .ref (adr ω 40), .ref (adr ω 41), .ref (adr ω 50), .ref (adr ω 51), .null, .null, .int 0, .int 0]) C (by omega) rfl in_X9 tyX9 tyX9_ok nmX9 (by decide) 378 (by decide +kernel) rfl (Or.inr ⟨rfl, hnm, rfl⟩) (by decide +kernel) rfl rfl (Nat.le_of_ble_eq_true rfl) rfl dX9_init_79 ?_
  refine B_aload C dX9_init_82 0 rfl ?_
  refine B_iconst (v := 2) C dX9_init_83 (by decide) ?_
  refine B_newQ (C := "StepCalls$Image") (N := 2) (t := 3) C dX9_init_84 329 (by decide +kernel) C.2.2.2.2.2.2.2.2.2.1.2.1 rfl rfl (Nat.le_of_ble_eq_true rfl) ((upE_ne (by omega)).trans hQ3) (Nat.le_of_ble_eq_true rfl) (Nat.le_of_ble_eq_true rfl) ?_
  show Bj ω b0 ρ (75) (upE (Z 0 0) 0 (.inr (9, [.ref (adr ω 1), .ref (adr ω 17), .ref (adr ω 22), .ref (adr ω 40), .ref (adr ω 41), .ref (adr ω 50), .ref (adr ω 51), .null, .null, .int 0, .int 0]))) [] 74 586 87 [(0, .ref (adr ω 0))] [.ref (adr ω 74), .ref (adr ω 0)]
  refine B_put (N := 11) (T := TX9) (C := RX9) (q := 7) (ty := .array (.object "StepCalls$Image")) (fs' := [.ref (adr ω 1), .ref (adr ω 17), .ref (adr ω 22), .ref (adr ω 40), .ref (adr ω 41), .ref (adr ω 50), .ref (adr ω 51), .ref (adr ω 74), .null, .int 0, .int 0]) C (by omega) rfl in_X9 tyX9 tyX9_ok nmX9 (by decide) 379 (by decide +kernel) rfl (Or.inr ⟨rfl, hnm, rfl⟩) (by decide +kernel) rfl rfl (Nat.le_of_ble_eq_true rfl) rfl dX9_init_87 ?_
  refine B_aload C dX9_init_90 0 rfl ?_
  refine B_iconst (v := 4) C dX9_init_91 (by decide) ?_
  refine B_newQ (C := "StepCalls$Sheet") (N := 4) (t := 4) C dX9_init_92 331 (by decide +kernel) C.2.2.2.2.2.2.2.2.2.1.2.2.1 rfl rfl (Nat.le_of_ble_eq_true rfl) ((upE_ne (by omega)).trans hQ4) (Nat.le_of_ble_eq_true rfl) (Nat.le_of_ble_eq_true rfl) ?_
  show Bj ω b0 ρ (76) (upE (Z 0 0) 0 (.inr (9, [.ref (adr ω 1), .ref (adr ω 17), .ref (adr ω 22), .ref (adr ω 40), .ref (adr ω 41), .ref (adr ω 50), .ref (adr ω 51), .ref (adr ω 74), .null, .int 0, .int 0]))) [] 75 590 95 [(0, .ref (adr ω 0))] [.ref (adr ω 75), .ref (adr ω 0)]
  refine B_put (N := 11) (T := TX9) (C := RX9) (q := 8) (ty := .array (.object "StepCalls$Sheet")) (fs' := [.ref (adr ω 1), .ref (adr ω 17), .ref (adr ω 22), .ref (adr ω 40), .ref (adr ω 41), .ref (adr ω 50), .ref (adr ω 51), .ref (adr ω 74), .ref (adr ω 75), .int 0, .int 0]) C (by omega) rfl in_X9 tyX9 tyX9_ok nmX9 (by decide) 380 (by decide +kernel) rfl (Or.inr ⟨rfl, hnm, rfl⟩) (by decide +kernel) rfl rfl (Nat.le_of_ble_eq_true rfl) rfl dX9_init_95 ?_
  refine B_aload C dX9_init_98 0 rfl ?_
  refine B_iconst (v := 0) C dX9_init_99 (by decide) ?_
  refine B_put (N := 11) (T := TX9) (C := RX9) (q := 9) (ty := .int) (fs' := [.ref (adr ω 1), .ref (adr ω 17), .ref (adr ω 22), .ref (adr ω 40), .ref (adr ω 41), .ref (adr ω 50), .ref (adr ω 51), .ref (adr ω 74), .ref (adr ω 75), .int 0, .int 0]) C (by omega) rfl in_X9 tyX9 tyX9_ok nmX9 (by decide) 381 (by decide +kernel) rfl (Or.inl rfl) (by decide +kernel) rfl rfl (Nat.le_of_ble_eq_true rfl) rfl dX9_init_100 ?_
  refine B_aload C dX9_init_103 0 rfl ?_
  refine B_iconst (v := 0) C dX9_init_104 (by decide) ?_
  refine B_put (N := 11) (T := TX9) (C := RX9) (q := 10) (ty := .int) (fs' := [.ref (adr ω 1), .ref (adr ω 17), .ref (adr ω 22), .ref (adr ω 40), .ref (adr ω 41), .ref (adr ω 50), .ref (adr ω 51), .ref (adr ω 74), .ref (adr ω 75), .int 0, .int 0]) C (by omega) rfl in_X9 tyX9 tyX9_ok nmX9 (by decide) 382 (by decide +kernel) rfl (Or.inl rfl) (by decide +kernel) rfl rfl (Nat.le_of_ble_eq_true rfl) rfl dX9_init_105 ?_
  refine B_iconst (v := 0) C dX9_init_108 (by decide) ?_
  refine B_istore C dX9_init_109 (by decide) (lv' := [(1, .int 0), (0, .ref (adr ω 0))]) rfl ?_
  rw [upE_done (hX 0 0)]
  have loop2 : ∀ m u, u + m = 4 → Bj ω b0 ρ (120 + 2 * u) (Z 2 u) [] (119 + 2 * u) (838 + 43 * u) 136 [(1, .int (nI u)), (0, .ref (adr ω 0))] [] := by
    intro m
    induction m with
    | zero =>
      intro u hu
      obtain rfl : u = 4 := by omega
      refine B_iload C dX9_init_136 0 rfl ?_
      refine B_iconst (v := 4) C dX9_init_137 (by decide) ?_
      refine B_icmp_ge (tgt := 160) C dX9_init_138 (by decide) (fun _ => ?_) (fun c => absurd (nI_le (a := 4) (Nat.le_refl _) (by decide)) c)
      refine Bj.toC (E' := E) (fun j hj H hv => ?_) (R 160 _ dX9_init_160)
      by_cases z : j = 74
      · rw [z, hI] at hv
        rw [z, hE _ (by omega) (by omega), E0_14 q74]
        exact va_refs (fun i hi => if_pos hi) hv
      · by_cases z2 : j = 75
        · rw [z2, hS] at hv
          rw [z2, hE _ (by omega) (by omega), E0_15 q75]
          exact va_refs (fun i hi => if_pos hi) hv
        · rw [eZ] at hv
          simp only [upE_ne z, upE_ne z2] at hv
          exact hv
    | succ m ih =>
      intro u hu
      refine B_iload C dX9_init_136 0 rfl ?_
      refine B_iconst (v := 4) C dX9_init_137 (by decide) ?_
      refine B_icmp_ge (tgt := 160) C dX9_init_138 (by decide) (fun c => absurd c (nI_ge (b := 4) (by omega) (by decide))) (fun _ => ?_)
      refine B_aload C dX9_init_141 1 rfl ?_
      refine B_get (N := 11) (T := TX9) (C := RX9) (q := 8) C (by omega) (hX 2 u) rfl in_X9 (by decide) 380 (by decide +kernel) rfl rfl dX9_init_142 ?_
      refine B_iload C dX9_init_145 0 rfl ?_
      refine B_new (ci := 6) (fs := [.int 0, .int 0, .null]) (N := 3) (T := TX6) C dX9_init_146 rfl in_X6 tyX6 tyX6_ok 331 355 70 (by decide +kernel) (by decide +kernel) (by decide +kernel) (fun j hj => by rcases (show j = 0 ∨ j = 1 ∨ j = 2 by omega) with rfl | rfl | rfl <;> rfl) (by omega) (by omega) ?_
      refine B_dup C dX9_init_149 rfl ?_
      have hk6 : isK 6 (120 + 2 * u) := el_15 q75 (x := nI u) (vp_in_nI (by omega) (by omega)) (g := 120 + 2 * u) (by rw [tnI (by omega)])
      refine B_init (As := []) (rest := [.ref (adr ω (120 + 2 * u)), .int (nI u), .ref (adr ω 75)]) C dX9_init_150 356 357 70 358 (by decide +kernel) (by decide +kernel) (by decide +kernel) (by decide +kernel) rfl (by decide +kernel) (Nat.le_of_ble_eq_true rfl) (Nat.le_of_ble_eq_true rfl) (Nat.le_of_ble_eq_true rfl) rfl (by omega) (by omega) (K_X6 hk6 (fun j j1 j2 => hW 2 u j (by omega) (by omega) (by omega) (by omega))) ?_
      refine B_aast (t := 4) (C := "StepCalls$Sheet") (N := 3) (T := TX6) (ci := 6) (i := 75) (o := 120 + 2 * u) (j := u) C (by omega) (hS 2 u) rfl (by omega) ((hW 2 u _ (by omega) (by omega) (by omega) (by omega)).trans (E0_obj hk6 (by decide))) rfl rfl (by omega) (by omega) dX9_init_153 ?_
      have e1 : upE (Z 2 u) 75 (.inl (ω.2.2.2.1 4, 4, .inr (.inr (.inr (.inr (fun z => if z = u then some (adr ω (120 + 2 * u)) else if z < u then some (adr ω (75 + 45 + 2 * z)) else none)))))) = Z 2 (u + 1) := by
        rw [eZ]
        simp only [upE_up]
        refine congrArg (fun f => upE _ 75 (.inl (ω.2.2.2.1 4, 4, .inr (.inr (.inr (.inr f)))))) (funext fun z => ?_)
        by_cases y : z = u
        · rw [if_pos y, if_pos (by omega), y]
        · rw [if_neg y]
          by_cases y2 : z < u
          · rw [if_pos y2, if_pos (by omega)]
          · rw [if_neg y2, if_neg (by omega)]
      rw [e1]
      refine B_iinc C dX9_init_154 0 rfl (v := nI (u + 1)) (nI_1 u) (by decide) (lv' := [(1, .int (nI (u + 1))), (0, .ref (adr ω 0))]) rfl ?_
      refine B_goto (tgt := 136) C dX9_init_157 (by decide) ?_
      have := ih (u + 1) (by omega)
      rw [show 120 + 2 * (u + 1) = 120 + 2 * u + 1 + 1 by omega, show 119 + 2 * (u + 1) = 119 + 2 * u + 1 + 1 by omega, show 838 + 43 * (u + 1) = 838 + 43 * u + 3 + 40 by omega] at this
      exact this
  have loop1 : ∀ m t, t + m = 2 → Bj ω b0 ρ (76 + 22 * t) (Z t 0) [] (75 + 22 * t) (590 + 124 * t) 110 [(1, .int (nI t)), (0, .ref (adr ω 0))] [] := by
    intro m
    induction m with
    | zero =>
      intro t ht
      obtain rfl : t = 2 := by omega
      refine B_iload C dX9_init_110 0 rfl ?_
      refine B_iconst (v := 2) C dX9_init_111 (by decide) ?_
      refine B_icmp_ge (tgt := 134) C dX9_init_112 (by decide) (fun _ => ?_) (fun c => absurd (nI_le (a := 2) (Nat.le_refl _) (by decide)) c)
      refine B_iconst (v := 0) C dX9_init_134 (by decide) ?_
      refine B_istore C dX9_init_135 (by decide) (lv' := [(1, .int 0), (0, .ref (adr ω 0))]) rfl ?_
      exact loop2 4 0 rfl
    | succ m ih =>
      intro t ht
      refine B_iload C dX9_init_110 0 rfl ?_
      refine B_iconst (v := 2) C dX9_init_111 (by decide) ?_
      refine B_icmp_ge (tgt := 134) C dX9_init_112 (by decide) (fun c => absurd c (nI_ge (b := 2) (by omega) (by decide))) (fun _ => ?_)
      refine B_aload C dX9_init_115 1 rfl ?_
      refine B_get (N := 11) (T := TX9) (C := RX9) (q := 7) C (by omega) (hX t 0) rfl in_X9 (by decide) 379 (by decide +kernel) rfl rfl dX9_init_116 ?_
      refine B_iload C dX9_init_119 0 rfl ?_
      refine B_new (ci := 3) (fs := [.int 0, .null, .null]) (N := 3) (T := TX3) C dX9_init_120 rfl in_X3 tyX3 tyX3_ok 329 333 69 (by decide +kernel) (by decide +kernel) (by decide +kernel) (fun j hj => by rcases (show j = 0 ∨ j = 1 ∨ j = 2 by omega) with rfl | rfl | rfl <;> rfl) (by omega) (by omega) ?_
      refine B_dup C dX9_init_123 rfl ?_
      have hk3 : isK 3 (76 + 22 * t) := el_14 q74 (x := nI t) (vp_in_nI (by omega) (by omega)) (g := 76 + 22 * t) (by rw [tnI (by omega)])
      refine B_init (As := []) (rest := [.ref (adr ω (76 + 22 * t)), .int (nI t), .ref (adr ω 74)]) C dX9_init_124 334 335 69 336 (by decide +kernel) (by decide +kernel) (by decide +kernel) (by decide +kernel) rfl (by decide +kernel) (Nat.le_of_ble_eq_true rfl) (Nat.le_of_ble_eq_true rfl) (Nat.le_of_ble_eq_true rfl) rfl (by omega) (by omega) (K_X3 hk3 (fun j j1 j2 => hW t 0 j (by omega) (by omega) (by omega) (by omega))) ?_
      refine B_aast (t := 3) (C := "StepCalls$Image") (N := 3) (T := TX3) (ci := 3) (i := 74) (o := 76 + 22 * t) (j := t) C (by omega) (hI t 0) rfl (by omega) ((hW t 0 _ (by omega) (by omega) (by omega) (by omega)).trans (E0_obj hk3 (by decide))) rfl rfl (by omega) (by omega) dX9_init_127 ?_
      have e1 : upE (Z t 0) 74 (.inl (ω.2.2.2.1 3, 2, .inr (.inr (.inr (.inr (fun z => if z = t then some (adr ω (76 + 22 * t)) else if z < t then some (adr ω (74 + 2 + 22 * z)) else none)))))) = Z (t + 1) 0 := by
        rw [eZ]
        funext j
        by_cases y : j = 74
        · rw [upE_eq y]
          show _ = upE _ 75 _ j
          rw [upE_ne (by omega), upE_eq y]
          refine congrArg (fun f => (.inl (ω.2.2.2.1 3, 2, .inr (.inr (.inr (.inr f)))) : va_E)) (funext fun z => ?_)
          by_cases y : z = t
          · rw [if_pos y, if_pos (by omega), y]
          · rw [if_neg y]
            by_cases y2 : z < t
            · rw [if_pos y2, if_pos (by omega)]
            · rw [if_neg y2, if_neg (by omega)]
        · rw [upE_ne y]
          show upE _ 75 _ j = upE _ 75 _ j
          by_cases y2 : j = 75
          · rw [upE_eq y2, upE_eq y2]
          · rw [upE_ne y2, upE_ne y2, upE_ne y, upE_ne y]
      rw [e1]
      refine B_iinc C dX9_init_128 0 rfl (v := nI (t + 1)) (nI_1 t) (by decide) (lv' := [(1, .int (nI (t + 1))), (0, .ref (adr ω 0))]) rfl ?_
      refine B_goto (tgt := 110) C dX9_init_131 (by decide) ?_
      have := ih (t + 1) (by omega)
      rw [show 76 + 22 * (t + 1) = 76 + 22 * t + 1 + 21 by omega, show 75 + 22 * (t + 1) = 75 + 22 * t + 1 + 21 by omega, show 590 + 124 * (t + 1) = 590 + 124 * t + 3 + 121 by omega] at this
      exact this
  exact loop1 2 0 rfl
