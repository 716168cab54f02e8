/-! THE CLAIM OUT OF ONE WALK OF THE LAW'S BODY. Your part is whole_start (and what it stands on); all else here is the same for every law, but numbers. -/
def R_law : String := "StepCallsLaw"
def lw_P (b : Addr) (xs : List Int32) (args : Array Value) (s : State) : Prop := args = #[.ref b] ∧ s.IntsAt b xs ∧ xs.length ≤ 320 ∧ (Jvm.Cond.and given_1 narrow_1).before args s = true
def lw_Q (_ : Array Value) (s : State) (o : Outcome) (t : State) : Prop := o = .returned (some (.int 1)) ∧ Framed s o t [] 600000 7302250
def lw_Z (below : List Frame) (a : Array Value) (s : State) : State → Prop := fun t => ∃ o, t.status = .running ∧ Ended t below o ∧ lw_Q a s o t
/-- the law's own end, with 1 on the stack, nothing written that was there before, its room as the claim has it -/
theorem lw_ret {p : Program} {l : Launch} {e : Env} {s : State} {m : MethodId} {below : List Frame} {meth : Method} {c : Code} {b : Nat} (hx : p.tables.exec = Jvm.exec) (hb : c.code = code) (hr : meth.sig.returnType = ret) (hlocks : meth.locks = false) {pc : Nat} {H : Heap} {ls : Array Slot} (hdg : decode code pc = .ok (.ireturn, 1)) : W p l e room_1 s m #[Value.ref b] below meth c H [] 600000 7302250 (lw_Z below #[Value.ref b] s) (F0 m pc ls [.int 1]) := by
  intro T hT X
  obtain ⟨fs, hret, hrun, hended, hW, hframe⟩ := X.leave (v := some (.int 1)) (hlocks := hlocks) (fun h => by rw [hr] at h; cases h)
  have hmeth' : T.vm.method? m = some meth := X.method'
  refine ⟨T.setFrames fs, ?_, .returned (some (.int 1)), hrun, hended, rfl, ⟨_, rfl⟩, hW, hframe⟩
  jvm_step X.here [X.here.top, hx, hb, hdg, hmeth', hr, ret, narrow_b1]
  (try refine ⟨rfl, ?_⟩); (try refine ⟨rfl, ?_⟩)
  first | (intro acts; rw [hret _ acts rfl rfl rfl]) | rw [hret _ _ rfl rfl rfl]
  exact Steps.refl _
/-- what holds at the law's entry: the machine, the code, the tables' words (any of lw_tbl by 'hts w (by decide +kernel)'), the script of L ints xs at the cell b, what the Statement gives of the start (any of its parts by flat_of_before) -/
def lw_At (p : Program) (s : State) (m : MethodId) (meth : Method) (c : Code) (b L : Nat) (xs : Nat → Int32) : Prop :=
  p.tables.exec = Jvm.exec ∧ c.code = code ∧ meth.sig.returnType = ret ∧ c.maxLocals = 4 ∧ s.vm.findClass R_law = some m.cls ∧ (∀ w ∈ lw_tbl, w.before #[Value.ref b] s = true) ∧ va_X b L xs s s.heap ∧ b < s.heap.size ∧ meth.locks = false ∧ (Jvm.Cond.and given_1 narrow_1).before #[Value.ref b] s = true
theorem kn_all {s : State} {b : Nat} (hTB : ∀ w ∈ TB, w.before #[Value.ref b] s = true) : ∀ (k : Nat) (q : vw_C), vwCl[k]? = some q → ∃ (cC : ClassId) (iS : Nat → Nat), u_Kn s q.1 q.2.1 q.2.2 cC iS := by
  intro k q h
  have hk : k < 11 := (List.getElem?_eq_some_iff.mp h).1
  rcases (show k = 0 ∨ k = 1 ∨ k = 2 ∨ k = 3 ∨ k = 4 ∨ k = 5 ∨ k = 6 ∨ k = 7 ∨ k = 8 ∨ k = 9 ∨ k = 10 by omega) with rfl | rfl | rfl | rfl | rfl | rfl | rfl | rfl | rfl | rfl | rfl
  · cases h; exact u_known (C := RX0) (T := TX0) (N := 2) (n := 2) hTB in_X0 (hTB _ (tb_of 241 ⟨by decide +kernel, rfl⟩))
  · cases h; exact u_known (C := RX1) (T := TX1) (N := 8) (n := 8) hTB in_X1 (hTB _ (tb_of 87 ⟨by decide +kernel, rfl⟩))
  · cases h; exact u_known (C := RX2) (T := TX2) (N := 6) (n := 6) hTB in_X2 (hTB _ (tb_of 94 ⟨by decide +kernel, rfl⟩))
  · cases h; exact u_known (C := RX3) (T := TX3) (N := 3) (n := 3) hTB in_X3 (hTB _ (tb_of 333 ⟨by decide +kernel, rfl⟩))
  · cases h; exact u_known (C := RX4) (T := TX4) (N := 9) (n := 9) hTB in_X4 (hTB _ (tb_of 256 ⟨by decide +kernel, rfl⟩))
  · cases h; exact u_known (C := RX5) (T := TX5) (N := 6) (n := 6) hTB in_X5 (hTB _ (tb_of 169 ⟨by decide +kernel, rfl⟩))
  · cases h; exact u_known (C := RX6) (T := TX6) (N := 3) (n := 3) hTB in_X6 (hTB _ (tb_of 355 ⟨by decide +kernel, rfl⟩))
  · cases h; exact u_known (C := RX7) (T := TX7) (N := 6) (n := 6) hTB in_X7 (hTB _ (tb_of 262 ⟨by decide +kernel, rfl⟩))
  · cases h; exact u_known (C := RX8) (T := TX8) (N := 6) (n := 6) hTB in_X8 (hTB _ (tb_of 208 ⟨by decide +kernel, rfl⟩))
  · cases h; exact u_known (C := RX9) (T := TX9) (N := 11) (n := 11) hTB in_X9 (hTB _ (tb_of 79 ⟨by decide +kernel, rfl⟩))
  · cases h; exact u_known (C := RX10) (T := TX10) (N := 28) (n := 28) hTB in_X10 (hTB _ (tb_of 963 ⟨by decide +kernel, rfl⟩))
theorem arr_all {s : State} {b : Nat} (hts : ∀ w ∈ lw_tbl, w.before #[Value.ref b] s = true) : ∃ ar : Nat → ClassId, ∀ (k : Nat) (q : ClassId × FieldType), [(ar 0, FieldType.int), (ar 1, .boolean), (ar 2, .object "StepCalls$Group"), (ar 3, .object "StepCalls$Image"), (ar 4, .object "StepCalls$Sheet"), (ar 5, .array .int)][k]? = some q → ArrOfT s q.1 q.2 ∧ va_RA s q.1 q.2 := by
  obtain ⟨a0, k0, c0, h0, h0', h0''⟩ := Cond.arrayClass_spec (hts (.arrayClass .int) (List.mem_of_getElem? (i := 130) (by decide +kernel)))
  obtain ⟨a1, k1, c1, h1, h1', h1''⟩ := Cond.arrayClass_spec (hts (.arrayClass .boolean) (List.mem_of_getElem? (i := 1061) (by decide +kernel)))
  obtain ⟨c2, a2, k2, g2, -, h2', h2'', h2⟩ := Cond.arrayOver_spec (hts (.arrayOver (.object "StepCalls$Group")) (List.mem_of_getElem? (i := 93) (by decide +kernel)))
  obtain ⟨c3, a3, k3, g3, -, h3', h3'', h3⟩ := Cond.arrayOver_spec (hts (.arrayOver (.object "StepCalls$Image")) (List.mem_of_getElem? (i := 330) (by decide +kernel)))
  obtain ⟨c4, a4, k4, g4, -, h4', h4'', h4⟩ := Cond.arrayOver_spec (hts (.arrayOver (.object "StepCalls$Sheet")) (List.mem_of_getElem? (i := 332) (by decide +kernel)))
  obtain ⟨c5, a5, k5, g5, -, h5', h5'', h5⟩ := arrayOverA_spec (hts (.arrayOver (.array .int)) (List.mem_of_getElem? (i := 254) (by decide +kernel)))
  refine ⟨fun k => if k = 0 then a0 else if k = 1 then a1 else if k = 2 then a2 else if k = 3 then a3 else if k = 4 then a4 else a5, fun k q h => ?_⟩
  have hk : k < 6 := (List.getElem?_eq_some_iff.mp h).1
  rcases (show k = 0 ∨ k = 1 ∨ k = 2 ∨ k = 3 ∨ k = 4 ∨ k = 5 by omega) with rfl | rfl | rfl | rfl | rfl | rfl
  · cases h; exact ⟨fun n z => ⟨fun k h => (by cases h), k0, h0', c0, h0''⟩, h0⟩
  · cases h; exact ⟨fun n z => ⟨fun k h => (by cases h), k1, h1', c1, h1''⟩, h1⟩
  · cases h; exact ⟨fun n z => ⟨fun k h => (by cases h), k2, h2', c2, h2''⟩, k2, c2, h2', h2'', g2, h2⟩
  · cases h; exact ⟨fun n z => ⟨fun k h => (by cases h), k3, h3', c3, h3''⟩, k3, c3, h3', h3'', g3, h3⟩
  · cases h; exact ⟨fun n z => ⟨fun k h => (by cases h), k4, h4', c4, h4''⟩, k4, c4, h4', h4'', g4, h4⟩
  · cases h; exact ⟨fun n z => ⟨fun k h => (by cases h), k5, h5', c5, h5''⟩, h5⟩
abbrev tmS (i : Nat) : Term := .string "StepCalls$Reader" (sxI.getD i 0)
theorem txt_all {s : State} {b : Nat} {A : Nat → Prop} (hgv : (Jvm.Cond.and given_1 narrow_1).before #[Value.ref b] s = true) (hA : ∀ a : Nat, a < s.heap.size → ¬ A a) : ∃ adK adV : Nat → Nat, vk_S 7 lenS bytS adK adV A s s.heap ∧ ∀ i : Nat, i < 7 → (tmS i).eval #[Value.ref b] s none [] s = some (.ref (adK i)) := by
  have hs := flat_of_before _ hgv
  refine vk_Sof (tm := tmS) ?_ (fun i hi => hs _ ?_) (fun i hi => hs _ ?_) (fun i hi => hs _ ?_) (fun i hi => hs _ ?_) (fun i hi j hj => hs _ ?_) (fun i j hi hj hij => ?_) hA
  · exact (by decide +kernel : ∀ i : Nat, i < 7 → lenS.getD i 0 < 2 ^ 31)
  · exact (by decide +kernel : ∀ i : Nat, i < 7 → Cond.exactly (tmS i) "java/lang/String" ∈ flatC (Jvm.Cond.and given_1 narrow_1)) i hi
  · exact (by decide +kernel : ∀ i : Nat, i < 7 → Cond.eq (.field (tmS i) "java/lang/String" "coder" "B") (.int 0) ∈ flatC (Jvm.Cond.and given_1 narrow_1)) i hi
  · exact (by decide +kernel : ∀ i : Nat, i < 7 → Cond.arrayOf (.field (tmS i) "java/lang/String" "value" "[B") .byte ∈ flatC (Jvm.Cond.and given_1 narrow_1)) i hi
  · exact (by decide +kernel : ∀ i : Nat, i < 7 → Cond.eq (.length (.field (tmS i) "java/lang/String" "value" "[B")) (.int (Int32.ofNat (lenS.getD i 0))) ∈ flatC (Jvm.Cond.and given_1 narrow_1)) i hi
  · exact (by decide +kernel : ∀ i : Nat, i < 7 → ∀ j : Nat, j < lenS.getD i 0 → Cond.eq (.elem (.field (tmS i) "java/lang/String" "value" "[B") (.int (Int32.ofNat j))) (.int ((bytS.getD i []).getD j 0)) ∈ flatC (Jvm.Cond.and given_1 narrow_1)) i hi j hj
  · rcases (by decide +kernel : ∀ i : Nat, i < 7 → ∀ j : Nat, j < 7 → i ≠ j → (Cond.not (Cond.eq (tmS i) (tmS j)) ∈ flatC (Jvm.Cond.and given_1 narrow_1) ∨ Cond.not (Cond.eq (tmS j) (tmS i)) ∈ flatC (Jvm.Cond.and given_1 narrow_1))) i hi j hj hij with h | h
    · exact Or.inl (hs _ h)
    · exact Or.inr (hs _ h)
set_option maxHeartbeats 4000000 in
set_option maxRecDepth 100000 in
/-- THE LAW, from its entry -/
theorem whole_start {p : Program} {e : Env} {s : State} {m : MethodId} {below : List Frame} {meth : Method} {c : Code} (l : Launch) (hflags : l.flags = flags0) {b L : Nat} {xs : Nat → Int32} (hL : L ≤ 320) (C0 : lw_At p s m meth c b L xs) : W p l e room_1 s m #[Value.ref b] below meth c s.heap [] 0 0 (lw_Z below #[Value.ref b] s) (entryFrame m ([Value.ref b] : List Value).toArray 4) := by
  obtain ⟨hx, hb, hr, hml, hown, hts, hX, hbl, hlocks, hgv⟩ := id C0
  have hTB : ∀ w ∈ TB, w.before #[Value.ref b] s = true := tb_big (ws := []) hts
  have hs := flat_of_before _ hgv
  obtain ⟨dC, hdC⟩ : ∃ dC : Nat → ClassId, ∀ k, ∃ iS : Nat → Nat, ∀ q, vwCl[k]? = some q → u_Kn s q.1 q.2.1 q.2.2 (dC k) iS := by
    refine Classical.axiomOfChoice (r := fun (k : Nat) (cC : ClassId) => ∃ iS : Nat → Nat, ∀ q : vw_C, vwCl[k]? = some q → u_Kn s q.1 q.2.1 q.2.2 cC iS) (fun k => ?_)
    cases hq : vwCl[k]? with
    | none => exact ⟨0, fun _ => 0, fun q h => by cases h⟩
    | some q =>
      obtain ⟨cC, iS, hk⟩ := kn_all hTB k q hq
      exact ⟨cC, iS, fun q' h => by cases h; exact hk⟩
  obtain ⟨dI, hdI⟩ := Classical.axiomOfChoice hdC
  obtain ⟨ar, har⟩ := arr_all hts
  obtain ⟨b0, hb0⟩ : ∃ b0, b0 = s.heap.size := ⟨_, rfl⟩
  have hA0 : ∀ a : Nat, a < s.heap.size → ¬ gA (l, fun i => b0 + i, (dC, dI), ar, fun _ => 0, fun _ => 0) s.heap.size a := fun a ha h => by
    rcases h with ⟨i, _, h⟩ | h
    · have h : a = b0 + i := h
      omega
    · omega
  obtain ⟨adK, adV, hvS, hvE⟩ := txt_all (A := gA (l, fun i => b0 + i, (dC, dI), ar, fun _ => 0, fun _ => 0) s.heap.size) hgv hA0
  obtain ⟨ω, hω⟩ : ∃ ω : WD, ω = (l, fun i => b0 + i, (dC, dI), ar, adK, adV) := ⟨_, rfl⟩
  have hl1 : ω.1 = l := by rw [hω]
  have hadr : ∀ i, adr ω i = b0 + i := fun i => by rw [hω]; rfl
  have hgA : gA ω s.heap.size = gA (l, fun i => b0 + i, (dC, dI), ar, fun _ => 0, fun _ => 0) s.heap.size := by rw [hω]; rfl
  have hK : va_K ω.2.2.1 vwCl (tysOf ω) s := by
    rw [hω]
    exact ⟨fun k q hq => hdI k q hq, har⟩
  have hXW : XW ω s := by
    refine ⟨va_Nw.of rfl (hts _ (List.mem_of_getElem? (i := 535) (by decide +kernel))), va_Nw.of rfl (hts _ (List.mem_of_getElem? (i := 576) (by decide +kernel))), fun j hj => ?_, ?_⟩
    · rw [hω]
      rcases (show j = 0 ∨ j = 1 ∨ j = 2 ∨ j = 3 ∨ j = 4 ∨ j = 5 ∨ j = 6 by omega) with rfl | rfl | rfl | rfl | rfl | rfl | rfl
      · exact vk_R.of (hts _ (List.mem_of_getElem? (i := 474) (by decide +kernel))) (hvE 0 (by omega))
      · exact vk_R.of (hts _ (List.mem_of_getElem? (i := 550) (by decide +kernel))) (hvE 1 (by omega))
      · exact vk_R.of (hts _ (List.mem_of_getElem? (i := 559) (by decide +kernel))) (hvE 2 (by omega))
      · exact vk_R.of (hts _ (List.mem_of_getElem? (i := 568) (by decide +kernel))) (hvE 3 (by omega))
      · exact vk_R.of (hts _ (List.mem_of_getElem? (i := 569) (by decide +kernel))) (hvE 4 (by omega))
      · exact vk_R.of (hts _ (List.mem_of_getElem? (i := 570) (by decide +kernel))) (hvE 5 (by omega))
      · exact vk_R.of (hts _ (List.mem_of_getElem? (i := 571) (by decide +kernel))) (hvE 6 (by omega))
    · unfold XA
      rw [hgA, hω]
      exact ⟨hvS, va_Zof (hts _ (List.mem_of_getElem? (i := 488) (by decide +kernel))) (hts _ (List.mem_of_getElem? (i := 72) (by decide +kernel))) (va_eqt (hs _ (by decide +kernel))) hA0, va_Zqof (hts _ (List.mem_of_getElem? (i := 504) (by decide +kernel))) (hts _ (List.mem_of_getElem? (i := 74) (by decide +kernel))) (hs _ (by decide +kernel)) hA0⟩
  have hO : AOs s := ⟨va_AO.of (hts _ (List.mem_of_getElem? (i := 93) (by decide +kernel))), va_AO.of (hts _ (List.mem_of_getElem? (i := 330) (by decide +kernel))), va_AO.of (hts _ (List.mem_of_getElem? (i := 332) (by decide +kernel))), (hts (.arrayOver (.array .int)) (List.mem_of_getElem? (i := 254) (by decide +kernel)))⟩
  have hinj : inj ω := fun i j _ _ e => by rw [hadr, hadr] at e; omega
  have hg := gA_b0 (ω := ω) (sz := s.heap.size) hadr (by omega) (by omega)
  clear hω hvS hvE hA0 hgA har hdI hdC
  subst hl1
  obtain ⟨ρ, hρ⟩ : ∃ ρ : FR, ρ = ((p, e, room_1), (s, m, #[Value.ref b], below), (meth, c, 4), (600000, 7302250), lw_Z below #[Value.ref b] s) := ⟨_, rfl⟩
  have KX : Kx ω b0 ρ cL_law RL 11 4 600000 7302250 := by
    rw [hρ]
    exact ⟨hx, hb, hml, hown, hTB, hK, hadr, ⟨Nat.le_of_ble_eq_true rfl, Nat.le_of_ble_eq_true rfl⟩, Nat.le_of_eq hb0, hO, rfl, Nat.le_refl _, Nat.le_refl _⟩
  have CX : LwC ω ρ b L xs := by
    rw [hρ]
    refine ⟨⟨hx, hb, hml, hown, hTB, hK, hinj, ⟨Nat.le_of_ble_eq_true rfl, Nat.le_of_ble_eq_true rfl⟩, ⟨Nat.le_refl _, Nat.le_refl _⟩, hXW, rfl⟩, hX, hbl, ?_, hL⟩
    show ¬ gA ω s.heap.size b
    rw [hg]
    show ¬ b0 ≤ b
    omega
  have hend : ∀ (M : Mem) (lv : List (Nat × Value)), G ω ρ M 1437 lv [.int 1] := fun M lv => by
    rw [hρ]
    intro ls H locs _ _ hS
    have hS : va_S (gA ω s.heap.size) s.heap H locs := hS
    rw [hg] at hS
    exact va_forget (fun q hq => by rw [← hb0]; exact hS.2.2 q hq) (lw_ret hx hb hr hlocks dL_law_1437)
  have main : Bj ω b0 ρ 0 (E0 ω) [] 0 0 0 [(0, .ref b)] [] := by
    refine B_new (ci := 9) (fs := [.null, .null, .null, .null, .null, .null, .null, .null, .null, .int 0, .int 0]) (N := 11) (T := TX9) KX dL_law_0 rfl in_X9 tyX9 tyX9_ok 78 79 61 (by decide +kernel) (by decide +kernel) (by decide +kernel) (fun j hj => by rcases (show j = 0 ∨ j = 1 ∨ j = 2 ∨ j = 3 ∨ j = 4 ∨ j = 5 ∨ j = 6 ∨ j = 7 ∨ j = 8 ∨ j = 9 ∨ j = 10 by omega) with rfl | rfl | rfl | rfl | rfl | rfl | rfl | rfl | rfl | rfl | rfl <;> rfl) (Nat.le_of_ble_eq_true rfl) (Nat.le_of_ble_eq_true rfl) ?_
    refine B_dup KX dL_law_3 rfl ?_
    refine B_init (As := []) (rest := [.ref (adr ω 0)]) KX dL_law_4 80 81 61 82 (by decide +kernel) (by decide +kernel) (by decide +kernel) (by decide +kernel) rfl (by decide +kernel) (Nat.le_of_ble_eq_true rfl) (Nat.le_of_ble_eq_true rfl) (Nat.le_of_ble_eq_true rfl) rfl (Nat.le_of_ble_eq_true rfl) (Nat.le_of_ble_eq_true rfl) (K_X9 (fun j _ _ => rfl)) ?_
    refine B_astore KX dL_law_7 (by decide) (lv' := [(1, .ref (adr ω 0)), (0, .ref b)]) rfl ?_
    show Bj ω b0 ρ 128 (E0 ω) [] 128 1021 8 [(1, .ref (adr ω 0)), (0, .ref b)] []
    refine B_new (ci := 10) (fs := [.null, .null, .null, .null, .int 0, .int 0, .int 0, .int 0, .null, .int 0, .int 0, .int 0, .int 0, .int 0, .int 0, .int 0, .null, .int 0, .int 0, .long 0, .long 0, .long 0, .null, .null, .null, .null, .int 0, .null]) (N := 28) (T := TX10) KX dL_law_8 rfl in_X10 tyX10 tyX10_ok 962 963 71 (by decide +kernel) (by decide +kernel) (by decide +kernel) (fun j hj => by rcases (show j = 0 ∨ j = 1 ∨ j = 2 ∨ j = 3 ∨ j = 4 ∨ j = 5 ∨ j = 6 ∨ j = 7 ∨ j = 8 ∨ j = 9 ∨ j = 10 ∨ j = 11 ∨ j = 12 ∨ j = 13 ∨ j = 14 ∨ j = 15 ∨ j = 16 ∨ j = 17 ∨ j = 18 ∨ j = 19 ∨ j = 20 ∨ j = 21 ∨ j = 22 ∨ j = 23 ∨ j = 24 ∨ j = 25 ∨ j = 26 ∨ j = 27 by omega) with rfl | rfl | rfl | rfl | rfl | rfl | rfl | rfl | rfl | rfl | rfl | rfl | rfl | rfl | rfl | rfl | rfl | rfl | rfl | rfl | rfl | rfl | rfl | rfl | rfl | rfl | rfl | rfl <;> rfl) (Nat.le_of_ble_eq_true rfl) (Nat.le_of_ble_eq_true rfl) ?_
    refine B_dup KX dL_law_11 rfl ?_
    rw [hρ]
    intro ls H locs h hP hp hz hS
    have hG : GoodIn TB (Cond.code yX10_init cX10_init 2 none :: TB) := fun w hw => by
      rcases List.mem_cons.mp hw with rfl | hw
      · exact ⟨tb_of 966 ⟨by decide +kernel, rfl⟩, tb_good (tb_of 966 ⟨by decide +kernel, rfl⟩)⟩
      · exact ⟨hw, tb_good hw⟩
    have hS0 : va_S (gA ω s.heap.size) s.heap H locs := by rw [hg]; exact hS
    refine va_callv (va_runI (As := []) (rest := [.ref (adr ω 128)]) (b := adr ω 128) ⟨hx, hb, hml, hown, hTB⟩ (K_X10 (ω := ω) (b0 := b0)) (cwI 0 hTB hG rfl rfl rfl (hTB _ (tb_of 71 ⟨by decide +kernel, rfl⟩)) (hTB _ (tb_of 964 ⟨by decide +kernel, rfl⟩)) (hTB _ (tb_of 965 ⟨by decide +kernel, rfl⟩)) rfl (by decide +kernel) ⟨Nat.le_of_ble_eq_true rfl, Nat.le_of_ble_eq_true rfl⟩) ⟨fun a U g mk q => ?_, fun U hU hW => ?_⟩ rfl rfl h.1 rfl (lv_room (Nat.le_of_ble_eq_true rfl)) dL_law_12 ⟨Nat.le_of_ble_eq_true rfl, Nat.le_of_ble_eq_true rfl⟩) hS (fun q _ hq => hq) (fun q hq => hq) (fun M t H1 locs1 ht _ hI hB _ _ hS1 => ?_)
    · obtain ⟨q0, ⟨q2, q3, q3', q4, q5, q6⟩, q7⟩ := q
      exact ⟨q0, ⟨q2, q3, q3', va_K.moved (u := U) (U := U.calling g mk a) (Vm.Alike.refl U.vm) q4, q5, AOs.moved (u := U) (U := U.calling g mk a) (Vm.Alike.refl U.vm) q6⟩, q7.calling⟩
    · exact ⟨rfl, ⟨by rw [hU]; exact hP, by rw [hU]; exact hp, by rw [hU]; exact hz, va_K.moved hW.alike hK, hadr, hO.moved hW.alike⟩, hXW.warm hW hU hS0⟩
    · refine W.widen (k := 600000) (n := 7302250) (Nat.le_of_ble_eq_true rfl) (Nat.le_of_ble_eq_true rfl) ?_
      have g : G ω ρ M 15 [(1, .ref (adr ω 0)), (0, .ref b)] [.ref (adr ω 128)] := by
        refine G_astore_n CX.1 dL_law_15 (by decide) (lv' := [(2, .ref (adr ω 128)), (1, .ref (adr ω 0)), (0, .ref b)]) rfl ?_
        refine G_iconst (v := 0) CX.1 dL_law_16 (by decide) ?_
        refine G_istore_n CX.1 dL_law_17 (by decide) (lv' := [(3, .int 0), (2, .ref (adr ω 128)), (1, .ref (adr ω 0)), (0, .ref b)]) rfl ?_
        exact law_loop CX hend (L + 5) 0 M (by omega) (by omega) hI
      rw [hρ] at g
      exact g ls H1 locs1 h (by have hB : va_P ω.2.2.1 vwCl (cellsOf ω M) t.heap := hB; rw [ht] at hB; exact hB) (by show va_S (gA ω s.heap.size) s.heap H1 locs1; rw [hg]; exact hS1)
  have hl := lv_entry ([.ref b]) (n := 4) (Nat.le_of_ble_eq_true rfl)
  rw [lg_entry_eq]
  rw [hρ] at main
  exact main _ s.heap [] hl (fun i hi => absurd hi (Nat.not_lt_zero _)) (fun p hp => by cases hp) (by rw [← hb0]; rfl) va_S.rf
