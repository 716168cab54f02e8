abbrev Mem : Type := (Nat → Nat → Int32) × (Nat → Int64)
def rd (M : Mem) (i k : Nat) : Int32 := M.1 i k
def rl (M : Mem) (k : Nat) : Int64 := M.2 k
def wr (M : Mem) (i k : Nat) (v : Int32) : Mem := (fun j => if j = i then upd (M.1 j) k v else M.1 j, M.2)
def wl (M : Mem) (k : Nat) (v : Int64) : Mem := (M.1, fun q => if q = k then v else M.2 q)
theorem rd_wr {M : Mem} {i k j q : Nat} {v : Int32} : rd (wr M i k v) j q = if j = i ∧ q = k then v else rd M j q := by
  show (if j = i then upd (M.1 j) k v else M.1 j) q = _
  by_cases h : j = i
  · by_cases h2 : q = k
    · simp [h, h2, upd]
    · simp [h, h2, upd, rd]
  · simp [h, rd]
theorem rl_wr {M : Mem} {i k q : Nat} {v : Int32} : rl (wr M i k v) q = rl M q := rfl
theorem rd_wl {M : Mem} {k i q : Nat} {v : Int64} : rd (wl M k v) i q = rd M i q := rfl
theorem rl_wl {M : Mem} {k q : Nat} {v : Int64} : rl (wl M k v) q = if q = k then v else rl M q := rfl
/-- what each cell is: the place of its class, or 11 on for arrays; how long an array is -/
def kds : List Nat := [9, 1, 11, 11, 11, 11, 13, 2, 11, 2, 11, 2, 11, 2, 11, 2, 11, 5, 11, 11, 11, 11, 8, 1, 11, 11, 11, 11, 13, 2, 11, 2, 11, 2, 11, 2, 11, 2, 11, 11, 0, 16, 11, 11, 11, 11, 11, 11, 11, 11, 4, 7, 11, 1, 11, 11, 11, 11, 13, 2, 11, 2, 11, 2, 11, 2, 11, 2, 11, 5, 11, 11, 11, 11, 14, 15, 3, 1, 11, 11, 11, 11, 13, 2, 11, 2, 11, 2, 11, 2, 11, 2, 11, 5, 11, 11, 11, 11, 3, 1, 11, 11, 11, 11, 13, 2, 11, 2, 11, 2, 11, 2, 11, 2, 11, 5, 11, 11, 11, 11, 6, 11, 6, 11, 6, 11, 6, 11, 10, 11, 11, 12, 11, 11, 11, 11, 11, 11, 11, 11]
def lns : List Nat := [0, 0, 6, 6, 6, 6, 0, 0, 4, 0, 4, 0, 4, 0, 4, 0, 4, 0, 8, 8, 6, 6, 0, 0, 6, 6, 6, 6, 0, 0, 4, 0, 4, 0, 4, 0, 4, 0, 4, 8, 0, 0, 7, 7, 7, 7, 7, 7, 7, 7, 0, 0, 160, 0, 6, 6, 6, 6, 0, 0, 4, 0, 4, 0, 4, 0, 4, 0, 4, 0, 8, 8, 6, 6, 0, 0, 0, 0, 6, 6, 6, 6, 0, 0, 4, 0, 4, 0, 4, 0, 4, 0, 4, 0, 8, 8, 6, 6, 0, 0, 6, 6, 6, 6, 0, 0, 4, 0, 4, 0, 4, 0, 4, 0, 4, 0, 8, 8, 6, 6, 0, 40, 0, 40, 0, 40, 0, 40, 0, 288, 96, 2, 96, 160, 8, 56, 4, 4, 160, 96]
def kd (i : Nat) : Nat := kds.getD i 99
def ln (i : Nat) : Nat := lns.getD i 0
def isK (c i : Nat) : Prop := i < 140 ∧ kd i = c
def isA (n i : Nat) : Prop := i < 140 ∧ kd i = 11 ∧ ln i = n
def isZ (n i : Nat) : Prop := i < 140 ∧ kd i = 12 ∧ ln i = n
/-- what the worlds of one run share: the launch, where the cells lie, the classes' numbers, the arrays' classes, the texts' places -/
abbrev WD : Type := Launch × (Nat → Nat) × va_G × (Nat → ClassId) × (Nat → Nat) × (Nat → Nat)
/-- a frame that runs, and what it comes to -/
abbrev FR : Type := (Program × Env × Room) × (State × MethodId × Array Value × List Frame) × (Method × Code × Nat) × (Nat × Nat) × (State → Prop)
def adr (ω : WD) (i : Nat) : Nat := ω.2.1 i
abbrev fsX (c : Nat) (ω : WD) (f : Nat → Int32) (g : Nat → Int64) (i : Nat) : List Value := match c with
  | 0 => [.int (f 0), .int (f 1)]
  | 1 => [.int (f 0), .int (f 1), .int (f 2), .ref (adr ω (i+1)), .ref (adr ω (i+2)), .ref (adr ω (i+3)), .ref (adr ω (i+4)), .ref (adr ω (i+5))]
  | 2 => [.int (f 0), .int (f 1), .int (f 2), .int (f 3), .int (f 4), .ref (adr ω (i+1))]
  | 3 => [.int (f 0), .ref (adr ω (i+1)), .ref (adr ω (i+17))]
  | 4 => [.ref (adr ω (i+1)), .ref (adr ω (i+3)), .ref (adr ω (i+19)), .int (f 3), .int (f 4), .int (f 5), .int (f 6), .int (f 7), .int (f 8)]
  | 5 => [.int (f 0), .int (f 1), .ref (adr ω (i+1)), .ref (adr ω (i+2)), .ref (adr ω (i+3)), .ref (adr ω (i+4))]
  | 6 => [.int (f 0), .int (f 1), .ref (adr ω (i+1))]
  | 7 => [.ref (adr ω (i+1)), .int (f 1), .int (f 2), .int (f 3), .int (f 4), .int (f 5)]
  | 8 => [.ref (adr ω (i+1)), .ref (adr ω (i+17)), .int (f 2), .int (f 3), .int (f 4), .int (f 5)]
  | 9 => [.ref (adr ω (i+1)), .ref (adr ω (i+17)), .ref (adr ω (i+22)), .ref (adr ω (i+40)), .ref (adr ω (i+41)), .ref (adr ω (i+50)), .ref (adr ω (i+51)), .ref (adr ω (i+74)), .ref (adr ω (i+75)), .int (f 9), .int (f 10)]
  | _ => [.ref (adr ω (i+1)), .ref (adr ω (i+2)), .ref (adr ω (i+3)), .ref (adr ω (i+4)), .int (f 4), .int (f 5), .int (f 6), .int (f 7), .ref (adr ω (i+5)), .int (f 9), .int (f 10), .int (f 11), .int (f 12), .int (f 13), .int (f 14), .int (f 15), .ref (adr ω (i+6)), .int (f 17), .int (f 18), .long (g 19), .long (g 20), .long (g 21), .ref (adr ω (i+7)), .ref (adr ω (i+8)), .ref (adr ω (i+9)), .ref (adr ω (i+10)), .int (f 26), .ref (adr ω (i+11))]
def contX (ω : WD) (f : Nat → Int32) (g : Nat → Int64) (i : Nat) : va_E :=
  if kd i < 11 then .inr (kd i, fsX (kd i) ω f g i) else if kd i = 11 then .inl (ω.2.2.2.1 0, ln i, .inl f) else if kd i = 12 then .inl (ω.2.2.2.1 1, ln i, .inl f)
  else if kd i = 13 then .inl (ω.2.2.2.1 2, 5, .inr (.inr (.inr (.inr (fun t => some (adr ω (i + 1 + 2 * t)))))))
  else if kd i = 14 then .inl (ω.2.2.2.1 3, 2, .inr (.inr (.inr (.inr (fun t => some (adr ω (i + 2 + 22 * t)))))))
  else if kd i = 15 then .inl (ω.2.2.2.1 4, 4, .inr (.inr (.inr (.inr (fun t => some (adr ω (i + 45 + 2 * t)))))))
  else .inl (ω.2.2.2.1 5, 8, .inr (.inr (.inr (.inr (fun t => some (adr ω (i + 1 + t)))))))
def cont (ω : WD) (M : Mem) (i : Nat) : va_E := contX ω (M.1 i) M.2 i
def cellsOf (ω : WD) (M : Mem) : va_W := (List.range 140).map fun i => (adr ω i, cont ω M i)
abbrev tysOf (ω : WD) : List (ClassId × FieldType) := [(ω.2.2.2.1 0, .int), (ω.2.2.2.1 1, .boolean), (ω.2.2.2.1 2, .object "StepCalls$Group"), (ω.2.2.2.1 3, .object "StepCalls$Image"), (ω.2.2.2.1 4, .object "StepCalls$Sheet"), (ω.2.2.2.1 5, .array .int)]
def inj (ω : WD) : Prop := ∀ i j, i < 140 → j < 140 → adr ω i = adr ω j → i = j
def gA (ω : WD) (sz : Nat) : Nat → Prop := fun q => (∃ i, i < 140 ∧ q = adr ω i) ∨ sz ≤ q
theorem cells_get {ω : WD} {M : Mem} {i : Nat} (h : i < 140) : (cellsOf ω M)[i]? = some (adr ω i, cont ω M i) := by
  unfold cellsOf
  rw [List.getElem?_map, List.getElem?_range h]
  rfl
theorem cells_at {ω : WD} {M : Mem} {k : Nat} {q : Nat × va_E} (h : (cellsOf ω M)[k]? = some q) : k < 140 ∧ q = (adr ω k, cont ω M k) := by
  have hk : k < 140 := by
    have := (List.getElem?_eq_some_iff.mp h).1
    simpa [cellsOf] using this
  rw [cells_get hk] at h
  exact ⟨hk, (Option.some.inj h).symm⟩
theorem cells_D {ω : WD} {M : Mem} {sz : Nat} (h : inj ω) : va_D (gA ω sz) (cellsOf ω M) := by
  refine ⟨fun i j p q hi hj e => ?_, fun k q hk => ?_⟩
  · obtain ⟨h1, rfl⟩ := cells_at hi
    obtain ⟨h2, rfl⟩ := cells_at hj
    exact h i j h1 h2 e
  · obtain ⟨h1, rfl⟩ := cells_at hk
    exact Or.inl ⟨k, h1, rfl⟩
theorem cells_set {ω : WD} {M M' : Mem} {i : Nat} {e : va_E} (h1 : cont ω M' i = e) (h2 : ∀ j, j < 140 → j ≠ i → cont ω M' j = cont ω M j) : (cellsOf ω M).set i (adr ω i, e) = cellsOf ω M' := by
  apply List.ext_getElem?
  intro k
  by_cases hk : k < 140
  · rw [cells_get hk, List.getElem?_set]
    by_cases e1 : i = k
    · subst e1
      rw [if_pos rfl, if_pos (by simpa [cellsOf] using hk), h1]
    · rw [if_neg e1, cells_get hk, h2 k hk (fun e => e1 e.symm)]
  · rw [List.getElem?_eq_none (by simpa [cellsOf] using hk), List.getElem?_eq_none (by simpa [cellsOf] using hk)]
theorem cont_ne {ω : WD} {M : Mem} {i k j : Nat} {v : Int32} (h : j ≠ i) : cont ω (wr M i k v) j = cont ω M j := by
  unfold cont
  show contX ω (if j = i then upd (M.1 j) k v else M.1 j) M.2 j = _
  rw [if_neg h]
theorem cont_eq {ω : WD} {M : Mem} {i k : Nat} {v : Int32} : cont ω (wr M i k v) i = contX ω (upd (M.1 i) k v) M.2 i := by
  unfold cont
  show contX ω (if i = i then upd (M.1 i) k v else M.1 i) M.2 i = _
  rw [if_pos rfl]
theorem cont_obj {ω : WD} {M : Mem} {c i : Nat} (h : isK c i) (hc : c < 11) : cont ω M i = .inr (c, fsX c ω (M.1 i) M.2 i) := by
  unfold cont contX
  rw [h.2, if_pos hc]
theorem contX_obj {ω : WD} {f : Nat → Int32} {g : Nat → Int64} {c i : Nat} (h : isK c i) (hc : c < 11) : contX ω f g i = .inr (c, fsX c ω f g i) := by
  unfold contX
  rw [h.2, if_pos hc]
theorem contX_arr {ω : WD} {f : Nat → Int32} {g : Nat → Int64} {n i : Nat} (h : isA n i) : contX ω f g i = .inl (ω.2.2.2.1 0, n, .inl f) := by
  unfold contX
  rw [h.2.1, h.2.2]
  rfl
theorem contX_zrr {ω : WD} {f : Nat → Int32} {g : Nat → Int64} {n i : Nat} (h : isZ n i) : contX ω f g i = .inl (ω.2.2.2.1 1, n, .inl f) := by
  unfold contX
  rw [h.2.1, h.2.2]
  rfl
theorem one_model : ∀ j, j < 140 → kd j = 10 → j = 128 := by decide +kernel
theorem cont_L {ω : WD} {f : Nat → Int32} {g g' : Nat → Int64} {j : Nat} (h : j < 140) (h2 : j ≠ 128) : contX ω f g' j = contX ω f g j := by
  have hk : kd j ≠ 10 := fun e => h2 (one_model j h e)
  unfold contX
  by_cases hc : kd j < 11
  · rw [if_pos hc, if_pos hc]
    have : kd j = 0 ∨ kd j = 1 ∨ kd j = 2 ∨ kd j = 3 ∨ kd j = 4 ∨ kd j = 5 ∨ kd j = 6 ∨ kd j = 7 ∨ kd j = 8 ∨ kd j = 9 := by omega
    rcases this with e | e | e | e | e | e | e | e | e | e <;> (rw [e]; first | done | rfl)
  · rw [if_neg hc, if_neg hc]
/-- what else a contract takes of its state: the links between nest mates; the texts; two statics -/
def lenS : List Nat := [4, 7, 4, 2, 4, 6, 4]
def bytS : List (List Int32) := [[108, 105, 110, 101], [102, 105, 110, 100, 101, 114, 115], [104, 111, 109, 101], [111, 110], [98, 97, 99, 107], [115, 112, 114, 101, 97, 100], [112, 108, 97, 110]]
def sxI : List Nat := [86, 95, 100, 105, 107, 109, 111]
def sxT : List String := ["line", "finders", "home", "on", "back", "spread", "plan"]
def XA (ω : WD) (A : Nat → Prop) (U : State) (H : Heap) : Prop := vk_S 7 lenS bytS ω.2.2.2.2.1 ω.2.2.2.2.2 A U H ∧ va_Z "java/lang/String" "COMPACT_STRINGS" "Z" (.int 1) A U H ∧ va_Zq "jdk/internal/util/Preconditions" "SIOOBE_FORMATTER" "Ljava/util/function/BiFunction;" A U H
def XW (ω : WD) (U : State) : Prop := va_Nw (.methodLinkNest RX4 122 yX9_isNumber "StepCalls") U ∧ va_Nw (.methodLinkNest RX4 154 yX9_isDialled "StepCalls") U ∧ (∀ j, j < 7 → vk_R "StepCalls$Reader" (sxI.getD j 0) (sxT.getD j "") (ω.2.2.2.2.1 j) U) ∧ XA ω (gA ω U.heap.size) U U.heap
theorem gA_in {ω : WD} {a b q : Nat} (h : b ≤ a) (hq : gA ω a q) : gA ω b q := hq.elim Or.inl (fun k => Or.inr (Nat.le_trans h k))
theorem XA.moved {ω : WD} {A : Nat → Prop} {u U : State} {H : Heap} (hvm : u.vm.Alike U.vm) (h : XA ω A u H) : XA ω A U H := ⟨h.1.moved hvm, h.2.1.moved hvm, h.2.2.moved hvm⟩
theorem XA.kept {ω : WD} {A : Nat → Prop} {U : State} {H H1 : Heap} (h : XA ω A U H) (hq : ∀ a : Nat, a < H.size → ¬ A a → H1[a]? = H[a]?) : XA ω A U H1 := ⟨h.1.kept hq, h.2.1.kept hq, h.2.2.kept hq⟩
theorem XA.narrow {ω : WD} {A B : Nat → Prop} {U : State} {H : Heap} (h : XA ω A U H) (hAB : ∀ q, B q → A q) : XA ω B U H := ⟨h.1.narrow hAB, h.2.1.narrow hAB, h.2.2.narrow hAB⟩
theorem XW.calling {ω : WD} {U : State} {g : JFrame} {mk : MethodId} {a : Array Value} (h : XW ω U) : XW ω (U.calling g mk a) := ⟨va_Nw.same rfl rfl h.1, va_Nw.same rfl rfl h.2.1, fun j hj => vk_R.same rfl (h.2.2.1 j hj), h.2.2.2.moved (u := U) (U := U.calling g mk a) (Vm.Alike.refl U.vm)⟩
theorem XW.warm {ω : WD} {s U : State} {H : Heap} {locs : List Loc} (hW : s.WarmedH U.vm) (hU : U.heap = H) (hS : va_S (gA ω s.heap.size) s.heap H locs) (h : XW ω s) : XW ω U := ⟨va_Nw.warmM hW h.1, va_Nw.warmM hW h.2.1, fun j hj => vk_R.warm hW (h.2.2.1 j hj), by rw [hU]; exact ((h.2.2.2.moved hW.alike).kept hS.2.1).narrow (fun q hq => gA_in hS.1 hq)⟩
/-- THE JUDGEMENT: the frame, at pc with these locals and this stack, the memory M, comes to what it is to come to -/
def G (ω : WD) (ρ : FR) (M : Mem) (pc : Nat) (lv : List (Nat × Value)) (st : List Value) : Prop :=
  ∀ (ls : Array Slot) (H : Heap) (locs : List Loc), lv_has ls ρ.2.2.1.2.2 lv → va_P ω.2.2.1 vwCl (cellsOf ω M) H → va_S (gA ω ρ.2.1.1.heap.size) ρ.2.1.1.heap H locs →
    W ρ.1.1 ω.1 ρ.1.2.1 ρ.1.2.2 ρ.2.1.1 ρ.2.1.2.1 ρ.2.1.2.2.1 ρ.2.1.2.2.2 ρ.2.2.1.1 ρ.2.2.1.2.1 H locs ρ.2.2.2.1.1 ρ.2.2.2.1.2 ρ.2.2.2.2 (F0 ρ.2.1.2.1 pc ls st)
/-- what is known of the frame: its code, its class, its depth, how many locals -/
def Cx (ω : WD) (ρ : FR) (cc : ByteArray) (own : String) (d n : Nat) : Prop :=
  ρ.1.1.tables.exec = Jvm.exec ∧ ρ.2.2.1.2.1.code = cc ∧ ρ.2.2.1.2.1.maxLocals = n ∧ ρ.2.1.1.vm.findClass own = some ρ.2.1.2.1.cls ∧ (∀ w ∈ TB, w.before ρ.2.1.2.2.1 ρ.2.1.1 = true) ∧ va_K ω.2.2.1 vwCl (tysOf ω) ρ.2.1.1 ∧ inj ω ∧ (d ≤ ρ.1.2.2.frames ∧ 36 * d ≤ ρ.1.2.2.locals) ∧ (ρ.2.2.2.1.1 ≤ ρ.1.2.2.cells ∧ ρ.2.2.2.1.2 ≤ ρ.1.2.2.slots) ∧ XW ω ρ.2.1.1 ∧ ρ.2.2.1.2.2 = n
def lset (lv : List (Nat × Value)) (i : Nat) (v : Value) : List (Nat × Value) := (i, v) :: lv.filter (fun q => !(q.1 == i) && !(q.1 + 1 == i && q.2.category == 2))
def lsetL (lv : List (Nat × Value)) (i : Nat) (v : Value) : List (Nat × Value) := (i, v) :: lv.filter (fun q => !(q.1 == i) && (!(q.1 == i + 1) && !(q.1 + 1 == i && q.2.category == 2)))
section GR
variable {ω : WD} {ρ : FR} {M : Mem} {cc : ByteArray} {own : String} {d n pc : Nat} {lv : List (Nat × Value)} {rest : List Value}
/-- fewer locals, in another order -/
theorem G_sub {lv' : List (Nat × Value)} {st : List Value} (ks : List Nat) (hl : lv_pick lv ks = lv') (k : G ω ρ M pc lv' st) : G ω ρ M pc lv st := fun ls H locs h hP hS => k ls H locs (lv_sub h ks hl) hP hS
theorem G_iadd {x y : Int32} (K : Cx ω ρ cc own d n) (hd : decode cc pc = .ok (.iadd, 1)) (k : G ω ρ M (pc + 1) lv (.int (x + y) :: rest)) : G ω ρ M pc lv (.int y :: .int x :: rest) := fun ls H locs h hP hS => lv_iadd K.1 K.2.1 hd (k ls H locs h hP hS)
theorem G_isub {x y : Int32} (K : Cx ω ρ cc own d n) (hd : decode cc pc = .ok (.isub, 1)) (k : G ω ρ M (pc + 1) lv (.int (x - y) :: rest)) : G ω ρ M pc lv (.int y :: .int x :: rest) := fun ls H locs h hP hS => lv_isub K.1 K.2.1 hd (k ls H locs h hP hS)
theorem G_imul {x y : Int32} (K : Cx ω ρ cc own d n) (hd : decode cc pc = .ok (.imul, 1)) (k : G ω ρ M (pc + 1) lv (.int (x * y) :: rest)) : G ω ρ M pc lv (.int y :: .int x :: rest) := fun ls H locs h hP hS => lv_imul K.1 K.2.1 hd (k ls H locs h hP hS)
theorem G_iand {x y : Int32} (K : Cx ω ρ cc own d n) (hd : decode cc pc = .ok (.iand, 1)) (k : G ω ρ M (pc + 1) lv (.int (x &&& y) :: rest)) : G ω ρ M pc lv (.int y :: .int x :: rest) := fun ls H locs h hP hS => lv_iand K.1 K.2.1 hd (k ls H locs h hP hS)
theorem G_ior {x y : Int32} (K : Cx ω ρ cc own d n) (hd : decode cc pc = .ok (.ior, 1)) (k : G ω ρ M (pc + 1) lv (.int (x ||| y) :: rest)) : G ω ρ M pc lv (.int y :: .int x :: rest) := fun ls H locs h hP hS => lv_ior K.1 K.2.1 hd (k ls H locs h hP hS)
theorem G_ixor {x y : Int32} (K : Cx ω ρ cc own d n) (hd : decode cc pc = .ok (.ixor, 1)) (k : G ω ρ M (pc + 1) lv (.int (x ^^^ y) :: rest)) : G ω ρ M pc lv (.int y :: .int x :: rest) := fun ls H locs h hP hS => lv_ixor K.1 K.2.1 hd (k ls H locs h hP hS)
theorem G_ishl {x y : Int32} (K : Cx ω ρ cc own d n) (hd : decode cc pc = .ok (.ishl, 1)) (k : G ω ρ M (pc + 1) lv (.int (x <<< (y &&& 31)) :: rest)) : G ω ρ M pc lv (.int y :: .int x :: rest) := fun ls H locs h hP hS => lv_ishl K.1 K.2.1 hd (k ls H locs h hP hS)
theorem G_ishr {x y : Int32} (K : Cx ω ρ cc own d n) (hd : decode cc pc = .ok (.ishr, 1)) (k : G ω ρ M (pc + 1) lv (.int (x >>> (y &&& 31)) :: rest)) : G ω ρ M pc lv (.int y :: .int x :: rest) := fun ls H locs h hP hS => lv_ishr K.1 K.2.1 hd (k ls H locs h hP hS)
theorem G_ladd {x y : Int64} (K : Cx ω ρ cc own d n) (hd : decode cc pc = .ok (.ladd, 1)) (k : G ω ρ M (pc + 1) lv (.long (x + y) :: rest)) : G ω ρ M pc lv (.long y :: .long x :: rest) := fun ls H locs h hP hS => lv_ladd K.1 K.2.1 hd (k ls H locs h hP hS)
theorem G_lsub {x y : Int64} (K : Cx ω ρ cc own d n) (hd : decode cc pc = .ok (.lsub, 1)) (k : G ω ρ M (pc + 1) lv (.long (x - y) :: rest)) : G ω ρ M pc lv (.long y :: .long x :: rest) := fun ls H locs h hP hS => lv_lsub K.1 K.2.1 hd (k ls H locs h hP hS)
theorem G_lmul {x y : Int64} (K : Cx ω ρ cc own d n) (hd : decode cc pc = .ok (.lmul, 1)) (k : G ω ρ M (pc + 1) lv (.long (x * y) :: rest)) : G ω ρ M pc lv (.long y :: .long x :: rest) := fun ls H locs h hP hS => lv_lmul K.1 K.2.1 hd (k ls H locs h hP hS)
theorem G_iushr {x y : Int32} (K : Cx ω ρ cc own d n) (hd : decode cc pc = .ok (.iushr, 1)) (k : G ω ρ M (pc + 1) lv (.int ((x.toUInt32 >>> (y.toUInt32 &&& Int32.toUInt32 31)).toInt32) :: rest)) : G ω ρ M pc lv (.int y :: .int x :: rest) := fun ls H locs h hP hS => lv_iushr K.1 K.2.1 hd rfl (k ls H locs h hP hS)
theorem G_idiv {x y : Int32} (K : Cx ω ρ cc own d n) (hd : decode cc pc = .ok (.idiv, 1)) (hz : ¬ y = 0) (k : G ω ρ M (pc + 1) lv (.int (x / y) :: rest)) : G ω ρ M pc lv (.int y :: .int x :: rest) := fun ls H locs h hP hS => lv_idiv K.1 K.2.1 hd hz (k ls H locs h hP hS)
theorem G_irem {x y : Int32} (K : Cx ω ρ cc own d n) (hd : decode cc pc = .ok (.irem, 1)) (hz : ¬ y = 0) (k : G ω ρ M (pc + 1) lv (.int (x - x / y * y) :: rest)) : G ω ρ M pc lv (.int y :: .int x :: rest) := fun ls H locs h hP hS => lv_irem K.1 K.2.1 hd hz (k ls H locs h hP hS)
theorem G_ldiv {x y : Int64} (K : Cx ω ρ cc own d n) (hd : decode cc pc = .ok (.ldiv, 1)) (hz : ¬ y = 0) (k : G ω ρ M (pc + 1) lv (.long (x / y) :: rest)) : G ω ρ M pc lv (.long y :: .long x :: rest) := fun ls H locs h hP hS => lv_ldiv K.1 K.2.1 hd hz (k ls H locs h hP hS)
theorem G_lrem {x y : Int64} (K : Cx ω ρ cc own d n) (hd : decode cc pc = .ok (.lrem, 1)) (hz : ¬ y = 0) (k : G ω ρ M (pc + 1) lv (.long (x - x / y * y) :: rest)) : G ω ρ M pc lv (.long y :: .long x :: rest) := fun ls H locs h hP hS => lv_lrem K.1 K.2.1 hd hz (k ls H locs h hP hS)
theorem G_i2l {x : Int32} (K : Cx ω ρ cc own d n) (hd : decode cc pc = .ok (.i2l, 1)) (k : G ω ρ M (pc + 1) lv (.long x.toInt64 :: rest)) : G ω ρ M pc lv (.int x :: rest) := fun ls H locs h hP hS => lv_i2l K.1 K.2.1 hd rfl (k ls H locs h hP hS)
theorem G_l2i {x : Int64} (K : Cx ω ρ cc own d n) (hd : decode cc pc = .ok (.l2i, 1)) (k : G ω ρ M (pc + 1) lv (.int x.toInt32 :: rest)) : G ω ρ M pc lv (.long x :: rest) := fun ls H locs h hP hS => lv_l2i K.1 K.2.1 hd rfl (k ls H locs h hP hS)
theorem G_i2b {x : Int32} (K : Cx ω ρ cc own d n) (hd : decode cc pc = .ok (.i2b, 1)) (k : G ω ρ M (pc + 1) lv (.int x.toInt8.toInt32 :: rest)) : G ω ρ M pc lv (.int x :: rest) := fun ls H locs h hP hS => lv_i2b K.1 K.2.1 hd rfl (k ls H locs h hP hS)
theorem G_i2s {x : Int32} (K : Cx ω ρ cc own d n) (hd : decode cc pc = .ok (.i2s, 1)) (k : G ω ρ M (pc + 1) lv (.int x.toInt16.toInt32 :: rest)) : G ω ρ M pc lv (.int x :: rest) := fun ls H locs h hP hS => lv_i2s K.1 K.2.1 hd rfl (k ls H locs h hP hS)
theorem G_i2c {x : Int32} (K : Cx ω ρ cc own d n) (hd : decode cc pc = .ok (.i2c, 1)) (k : G ω ρ M (pc + 1) lv (.int (x.toUInt32 % 65536).toInt32 :: rest)) : G ω ρ M pc lv (.int x :: rest) := fun ls H locs h hP hS => lv_i2c K.1 K.2.1 hd rfl (k ls H locs h hP hS)
theorem G_iconst {a : Int} {v : Int32} (K : Cx ω ρ cc own d n) (hd : decode cc pc = .ok (.iconst a, 1)) (hv : Int32.ofInt a = v) (k : G ω ρ M (pc + 1) lv (.int v :: rest)) : G ω ρ M pc lv rest := fun ls H locs h hP hS => lv_iconst K.1 K.2.1 hd hv (k ls H locs h hP hS)
theorem G_bipush {a : Int} {v : Int32} (K : Cx ω ρ cc own d n) (hd : decode cc pc = .ok (.bipush a, 2)) (hv : (Int8.ofInt a).toInt32 = v) (k : G ω ρ M (pc + 2) lv (.int v :: rest)) : G ω ρ M pc lv rest := fun ls H locs h hP hS => lv_bipush K.1 K.2.1 hd hv (k ls H locs h hP hS)
theorem G_sipush {a : Int} {v : Int32} (K : Cx ω ρ cc own d n) (hd : decode cc pc = .ok (.sipush a, 3)) (hv : (Int16.ofInt a).toInt32 = v) (k : G ω ρ M (pc + 3) lv (.int v :: rest)) : G ω ρ M pc lv rest := fun ls H locs h hP hS => lv_sipush K.1 K.2.1 hd hv (k ls H locs h hP hS)
theorem G_lconst {a : Fin 2} {v : Int64} (K : Cx ω ρ cc own d n) (hd : decode cc pc = .ok (.lconst a, 1)) (hv : Int64.ofNat (a : Nat) = v) (k : G ω ρ M (pc + 1) lv (.long v :: rest)) : G ω ρ M pc lv rest := fun ls H locs h hP hS => lv_lconst K.1 K.2.1 hd hv (k ls H locs h hP hS)
theorem G_ldc2 {idx : Nat} {v : Int64} (K : Cx ω ρ cc own d n) (hd : decode cc pc = .ok (.ldc2_w idx, 3)) (hw : Cond.constantLong own idx v ∈ TB) (k : G ω ρ M (pc + 3) lv (.long v :: rest)) : G ω ρ M pc lv rest := fun ls H locs h hP hS => lv_ldc2 K.1 K.2.1 K.2.2.2.1 (K.2.2.2.2.1 _ hw) hd (k ls H locs h hP hS)
theorem G_dup {va : Value} (K : Cx ω ρ cc own d n) (hd : decode cc pc = .ok (.dup, 1)) (hc : va.category = 1) (k : G ω ρ M (pc + 1) lv (va :: va :: rest)) : G ω ρ M pc lv (va :: rest) := fun ls H locs h hP hS => lv_dup K.1 K.2.1 hd hc (k ls H locs h hP hS)
theorem G_dup2 {va vb : Value} (K : Cx ω ρ cc own d n) (hd : decode cc pc = .ok (.dup2, 1)) (hc : va.category = 1) (hc2 : vb.category = 1) (k : G ω ρ M (pc + 1) lv (va :: vb :: va :: vb :: rest)) : G ω ρ M pc lv (va :: vb :: rest) := fun ls H locs h hP hS => lv_dup2_11 K.1 K.2.1 hd hc hc2 (k ls H locs h hP hS)
theorem G_pop {va : Value} (K : Cx ω ρ cc own d n) (hd : decode cc pc = .ok (.pop, 1)) (hc : va.category = 1) (k : G ω ρ M (pc + 1) lv rest) : G ω ρ M pc lv (va :: rest) := fun ls H locs h hP hS => lv_pop K.1 K.2.1 hd hc (k ls H locs h hP hS)
theorem G_lcmp {x y : Int64} (K : Cx ω ρ cc own d n) (hd : decode cc pc = .ok (.lcmp, 1)) (k : G ω ρ M (pc + 1) lv (.int (lg_cmp x y) :: rest)) : G ω ρ M pc lv (.long y :: .long x :: rest) := fun ls H locs h hP hS => W.lcmp K.1 K.2.1 hd (k ls H locs h hP hS)
theorem G_iload {a : Nat} {x : Int32} (K : Cx ω ρ cc own d n) (hd : decode cc pc = .ok (.iload a, 2)) (j : Nat) (hj : lv[j]? = some (a, .int x)) (k : G ω ρ M (pc + 2) lv (.int x :: rest)) : G ω ρ M pc lv rest := fun ls H locs h hP hS => lv_iload K.1 K.2.1 hd (lv_at h j hj) (k ls H locs h hP hS)
theorem G_iload_n {a : Fin 4} {x : Int32} (K : Cx ω ρ cc own d n) (hd : decode cc pc = .ok (.iload_n a, 1)) (j : Nat) (hj : lv[j]? = some ((a : Nat), .int x)) (k : G ω ρ M (pc + 1) lv (.int x :: rest)) : G ω ρ M pc lv rest := fun ls H locs h hP hS => lv_iload_n K.1 K.2.1 hd rfl (lv_at h j hj) (k ls H locs h hP hS)
theorem G_lload {a : Nat} {x : Int64} (K : Cx ω ρ cc own d n) (hd : decode cc pc = .ok (.lload a, 2)) (j : Nat) (hj : lv[j]? = some (a, .long x)) (k : G ω ρ M (pc + 2) lv (.long x :: rest)) : G ω ρ M pc lv rest := fun ls H locs h hP hS => lv_lload K.1 K.2.1 hd (lv_at h j hj) (k ls H locs h hP hS)
theorem G_lload_n {a : Fin 4} {x : Int64} (K : Cx ω ρ cc own d n) (hd : decode cc pc = .ok (.lload_n a, 1)) (j : Nat) (hj : lv[j]? = some ((a : Nat), .long x)) (k : G ω ρ M (pc + 1) lv (.long x :: rest)) : G ω ρ M pc lv rest := fun ls H locs h hP hS => lv_lload_n K.1 K.2.1 hd rfl (lv_at h j hj) (k ls H locs h hP hS)
theorem G_aload {a : Nat} {x : Nat} (K : Cx ω ρ cc own d n) (hd : decode cc pc = .ok (.aload a, 2)) (j : Nat) (hj : lv[j]? = some (a, .ref x)) (k : G ω ρ M (pc + 2) lv (.ref x :: rest)) : G ω ρ M pc lv rest := fun ls H locs h hP hS => lv_aload K.1 K.2.1 hd (lv_at h j hj) (k ls H locs h hP hS)
theorem G_aload_n {a : Fin 4} {x : Nat} (K : Cx ω ρ cc own d n) (hd : decode cc pc = .ok (.aload_n a, 1)) (j : Nat) (hj : lv[j]? = some ((a : Nat), .ref x)) (k : G ω ρ M (pc + 1) lv (.ref x :: rest)) : G ω ρ M pc lv rest := fun ls H locs h hP hS => lv_aload_n K.1 K.2.1 hd rfl (lv_at h j hj) (k ls H locs h hP hS)
theorem G_istore {a : Nat} {x : Int32} {lv' : List (Nat × Value)} (K : Cx ω ρ cc own d n) (hd : decode cc pc = .ok (.istore a, 2)) (ha : a < n) (hl : lset lv a (.int x) = lv') (k : G ω ρ M (pc + 2) lv' rest) : G ω ρ M pc lv (.int x :: rest) := fun ls H locs h hP hS => lv_istore K.1 K.2.1 hd h (K.2.2.2.2.2.2.2.2.2.2 ▸ ha) hl (fun ls2 h2 => k ls2 H locs h2 hP hS)
theorem G_istore_n {a : Fin 4} {x : Int32} {lv' : List (Nat × Value)} (K : Cx ω ρ cc own d n) (hd : decode cc pc = .ok (.istore_n a, 1)) (ha : (a : Nat) < n) (hl : lset lv (a : Nat) (.int x) = lv') (k : G ω ρ M (pc + 1) lv' rest) : G ω ρ M pc lv (.int x :: rest) := fun ls H locs h hP hS => lv_istore_n K.1 K.2.1 hd rfl h (K.2.2.2.2.2.2.2.2.2.2 ▸ ha) hl (fun ls2 h2 => k ls2 H locs h2 hP hS)
theorem G_lstore {a : Nat} {x : Int64} {lv' : List (Nat × Value)} (K : Cx ω ρ cc own d n) (hd : decode cc pc = .ok (.lstore a, 2)) (ha : a + 1 < n) (hl : lsetL lv a (.long x) = lv') (k : G ω ρ M (pc + 2) lv' rest) : G ω ρ M pc lv (.long x :: rest) := fun ls H locs h hP hS => lv_lstore K.1 K.2.1 hd h (K.2.2.2.2.2.2.2.2.2.2 ▸ ha) hl (fun ls2 h2 => k ls2 H locs h2 hP hS)
theorem G_lstore_n {a : Fin 4} {x : Int64} {lv' : List (Nat × Value)} (K : Cx ω ρ cc own d n) (hd : decode cc pc = .ok (.lstore_n a, 1)) (ha : (a : Nat) + 1 < n) (hl : lsetL lv (a : Nat) (.long x) = lv') (k : G ω ρ M (pc + 1) lv' rest) : G ω ρ M pc lv (.long x :: rest) := fun ls H locs h hP hS => lv_lstore_n K.1 K.2.1 hd rfl h (K.2.2.2.2.2.2.2.2.2.2 ▸ ha) hl (fun ls2 h2 => k ls2 H locs h2 hP hS)
theorem G_astore {a : Nat} {x : Nat} {lv' : List (Nat × Value)} (K : Cx ω ρ cc own d n) (hd : decode cc pc = .ok (.astore a, 2)) (ha : a < n) (hl : lset lv a (.ref x) = lv') (k : G ω ρ M (pc + 2) lv' rest) : G ω ρ M pc lv (.ref x :: rest) := fun ls H locs h hP hS => lv_astore K.1 K.2.1 hd h (K.2.2.2.2.2.2.2.2.2.2 ▸ ha) hl (fun ls2 h2 => k ls2 H locs h2 hP hS)
theorem G_astore_n {a : Fin 4} {x : Nat} {lv' : List (Nat × Value)} (K : Cx ω ρ cc own d n) (hd : decode cc pc = .ok (.astore_n a, 1)) (ha : (a : Nat) < n) (hl : lset lv (a : Nat) (.ref x) = lv') (k : G ω ρ M (pc + 1) lv' rest) : G ω ρ M pc lv (.ref x :: rest) := fun ls H locs h hP hS => lv_astore_n K.1 K.2.1 hd rfl h (K.2.2.2.2.2.2.2.2.2.2 ▸ ha) hl (fun ls2 h2 => k ls2 H locs h2 hP hS)
theorem G_iinc {a : Nat} {z : Int} {x v : Int32} {lv' : List (Nat × Value)} (K : Cx ω ρ cc own d n) (hd : decode cc pc = .ok (.iinc a z, 3)) (j : Nat) (hj : lv[j]? = some (a, .int x)) (hv : x + Int32.ofInt z = v) (ha : a < n) (hl : lset lv a (.int v) = lv') (k : G ω ρ M (pc + 3) lv' rest) : G ω ρ M pc lv rest := fun ls H locs h hP hS => lv_iinc K.1 K.2.1 hd h hj hv (K.2.2.2.2.2.2.2.2.2.2 ▸ ha) hl (fun ls2 h2 => k ls2 H locs h2 hP hS)
theorem G_icmp_ge {x y : Int32} {off : Int} {tgt : Nat} (K : Cx ω ρ cc own d n) (hd : decode cc pc = .ok (.if_icmp .ge off, 3)) (ht : (pc : Int) + off = (tgt : Int)) (kt : y ≤ x → G ω ρ M tgt lv rest) (kf : ¬ y ≤ x → G ω ρ M (pc + 3) lv rest) : G ω ρ M pc lv (.int y :: .int x :: rest) := fun ls H locs h hP hS => lv_icmp_ge K.1 K.2.1 hd ht (fun c => kt c ls H locs h hP hS) (fun c => kf c ls H locs h hP hS)
theorem G_icmp_eq {x y : Int32} {off : Int} {tgt : Nat} (K : Cx ω ρ cc own d n) (hd : decode cc pc = .ok (.if_icmp .eq off, 3)) (ht : (pc : Int) + off = (tgt : Int)) (kt : x = y → G ω ρ M tgt lv rest) (kf : ¬ x = y → G ω ρ M (pc + 3) lv rest) : G ω ρ M pc lv (.int y :: .int x :: rest) := fun ls H locs h hP hS => lv_icmp_eq K.1 K.2.1 hd ht (fun c => kt c ls H locs h hP hS) (fun c => kf c ls H locs h hP hS)
theorem G_icmp_ne {x y : Int32} {off : Int} {tgt : Nat} (K : Cx ω ρ cc own d n) (hd : decode cc pc = .ok (.if_icmp .ne off, 3)) (ht : (pc : Int) + off = (tgt : Int)) (kt : ¬ x = y → G ω ρ M tgt lv rest) (kf : x = y → G ω ρ M (pc + 3) lv rest) : G ω ρ M pc lv (.int y :: .int x :: rest) := fun ls H locs h hP hS => lv_icmp_ne K.1 K.2.1 hd ht (fun c => kt c ls H locs h hP hS) (fun c => kf c ls H locs h hP hS)
theorem G_icmp_lt {x y : Int32} {off : Int} {tgt : Nat} (K : Cx ω ρ cc own d n) (hd : decode cc pc = .ok (.if_icmp .lt off, 3)) (ht : (pc : Int) + off = (tgt : Int)) (kt : x < y → G ω ρ M tgt lv rest) (kf : ¬ x < y → G ω ρ M (pc + 3) lv rest) : G ω ρ M pc lv (.int y :: .int x :: rest) := fun ls H locs h hP hS => lv_icmp_lt K.1 K.2.1 hd ht (fun c => kt c ls H locs h hP hS) (fun c => kf c ls H locs h hP hS)
theorem G_icmp_gt {x y : Int32} {off : Int} {tgt : Nat} (K : Cx ω ρ cc own d n) (hd : decode cc pc = .ok (.if_icmp .gt off, 3)) (ht : (pc : Int) + off = (tgt : Int)) (kt : y < x → G ω ρ M tgt lv rest) (kf : ¬ y < x → G ω ρ M (pc + 3) lv rest) : G ω ρ M pc lv (.int y :: .int x :: rest) := fun ls H locs h hP hS => lv_icmp_gt K.1 K.2.1 hd ht (fun c => kt c ls H locs h hP hS) (fun c => kf c ls H locs h hP hS)
theorem G_icmp_le {x y : Int32} {off : Int} {tgt : Nat} (K : Cx ω ρ cc own d n) (hd : decode cc pc = .ok (.if_icmp .le off, 3)) (ht : (pc : Int) + off = (tgt : Int)) (kt : x ≤ y → G ω ρ M tgt lv rest) (kf : ¬ x ≤ y → G ω ρ M (pc + 3) lv rest) : G ω ρ M pc lv (.int y :: .int x :: rest) := fun ls H locs h hP hS => lv_icmp_le K.1 K.2.1 hd ht (fun c => kt c ls H locs h hP hS) (fun c => kf c ls H locs h hP hS)
theorem G_if_eq {x : Int32} {off : Int} {tgt : Nat} (K : Cx ω ρ cc own d n) (hd : decode cc pc = .ok (.ifCond .eq off, 3)) (ht : (pc : Int) + off = (tgt : Int)) (kt : x = 0 → G ω ρ M tgt lv rest) (kf : ¬ x = 0 → G ω ρ M (pc + 3) lv rest) : G ω ρ M pc lv (.int x :: rest) := fun ls H locs h hP hS => lv_if_eq K.1 K.2.1 hd ht (fun c => kt c ls H locs h hP hS) (fun c => kf c ls H locs h hP hS)
theorem G_if_ne {x : Int32} {off : Int} {tgt : Nat} (K : Cx ω ρ cc own d n) (hd : decode cc pc = .ok (.ifCond .ne off, 3)) (ht : (pc : Int) + off = (tgt : Int)) (kt : ¬ x = 0 → G ω ρ M tgt lv rest) (kf : x = 0 → G ω ρ M (pc + 3) lv rest) : G ω ρ M pc lv (.int x :: rest) := fun ls H locs h hP hS => lv_if_ne K.1 K.2.1 hd ht (fun c => kt c ls H locs h hP hS) (fun c => kf c ls H locs h hP hS)
theorem G_if_lt {x : Int32} {off : Int} {tgt : Nat} (K : Cx ω ρ cc own d n) (hd : decode cc pc = .ok (.ifCond .lt off, 3)) (ht : (pc : Int) + off = (tgt : Int)) (kt : x < 0 → G ω ρ M tgt lv rest) (kf : ¬ x < 0 → G ω ρ M (pc + 3) lv rest) : G ω ρ M pc lv (.int x :: rest) := fun ls H locs h hP hS => lv_if_lt K.1 K.2.1 hd ht (fun c => kt c ls H locs h hP hS) (fun c => kf c ls H locs h hP hS)
theorem G_if_ge {x : Int32} {off : Int} {tgt : Nat} (K : Cx ω ρ cc own d n) (hd : decode cc pc = .ok (.ifCond .ge off, 3)) (ht : (pc : Int) + off = (tgt : Int)) (kt : 0 ≤ x → G ω ρ M tgt lv rest) (kf : ¬ 0 ≤ x → G ω ρ M (pc + 3) lv rest) : G ω ρ M pc lv (.int x :: rest) := fun ls H locs h hP hS => lv_if_ge K.1 K.2.1 hd ht (fun c => kt c ls H locs h hP hS) (fun c => kf c ls H locs h hP hS)
theorem G_if_gt {x : Int32} {off : Int} {tgt : Nat} (K : Cx ω ρ cc own d n) (hd : decode cc pc = .ok (.ifCond .gt off, 3)) (ht : (pc : Int) + off = (tgt : Int)) (kt : 0 < x → G ω ρ M tgt lv rest) (kf : ¬ 0 < x → G ω ρ M (pc + 3) lv rest) : G ω ρ M pc lv (.int x :: rest) := fun ls H locs h hP hS => lv_if_gt K.1 K.2.1 hd ht (fun c => kt c ls H locs h hP hS) (fun c => kf c ls H locs h hP hS)
theorem G_if_le {x : Int32} {off : Int} {tgt : Nat} (K : Cx ω ρ cc own d n) (hd : decode cc pc = .ok (.ifCond .le off, 3)) (ht : (pc : Int) + off = (tgt : Int)) (kt : x ≤ 0 → G ω ρ M tgt lv rest) (kf : ¬ x ≤ 0 → G ω ρ M (pc + 3) lv rest) : G ω ρ M pc lv (.int x :: rest) := fun ls H locs h hP hS => lv_if_le K.1 K.2.1 hd ht (fun c => kt c ls H locs h hP hS) (fun c => kf c ls H locs h hP hS)
theorem G_goto {off : Int} {tgt : Nat} (K : Cx ω ρ cc own d n) (hd : decode cc pc = .ok (.goto off, 3)) (ht : (pc : Int) + off = (tgt : Int)) (k : G ω ρ M tgt lv rest) : G ω ρ M pc lv rest := fun ls H locs h hP hS => lv_goto K.1 K.2.1 hd ht (k ls H locs h hP hS)
theorem G_tableIn {dflt lo hi : Int} {offs : Array Int} {len : Nat} {x : Int32} {off : Int} {tgt : Nat} (K : Cx ω ρ cc own d n) (hd : decode cc pc = .ok (.tableswitch dflt lo hi offs, len)) (h1 : ¬ x.toInt < lo) (h2 : ¬ hi < x.toInt) (ho : offs[(x.toInt - lo).toNat]? = some off) (ht : (pc : Int) + off = (tgt : Int)) (k : G ω ρ M tgt lv rest) : G ω ρ M pc lv (.int x :: rest) := fun ls H locs h hP hS => lv_tableIn K.1 K.2.1 hd h1 h2 ho ht (k ls H locs h hP hS)
theorem G_tableOut {dflt lo hi : Int} {offs : Array Int} {len : Nat} {x : Int32} {tgt : Nat} (K : Cx ω ρ cc own d n) (hd : decode cc pc = .ok (.tableswitch dflt lo hi offs, len)) (hx : x.toInt < lo ∨ hi < x.toInt) (ht : (pc : Int) + dflt = (tgt : Int)) (k : G ω ρ M tgt lv rest) : G ω ρ M pc lv (.int x :: rest) := fun ls H locs h hP hS => lv_tableOut K.1 K.2.1 hd hx ht (k ls H locs h hP hS)
theorem sw_toInt {x : Int32} {a : Int} (h : x.toInt = a) : x = Int32.ofInt a := by rw [← h]; exact (Int32.ofInt_toInt x).symm
/-- fields -/
theorem G_get {C : String} {T : u_T} {N ci i q idx : Nat} {v : Value} (K : Cx ω ρ cc own d n) (hk : isK ci i) (hc : ci < 11) (hci : vwCl[ci]? = some (C, T, N)) (hin : ∀ w ∈ u_ws C T N, w ∈ TB) (hq : q < N) (hl : Cond.fieldLink own idx C (T q).2.1 (T q).2.2.1 ∈ TB) (hsame : (T q).1 = C) (hv : (fsX ci ω (M.1 i) M.2 i)[q]? = some v) (hd : decode cc pc = .ok (.getfield idx, 3)) (k : G ω ρ M (pc + 3) lv (v :: rest)) : G ω ρ M pc lv (.ref (adr ω i) :: rest) := fun ls H locs h hP hS =>
  va_get K.1 K.2.1 K.2.2.2.2.1 hin K.2.2.2.1 K.2.2.2.2.2.1 hP i ((cells_get hk.1).trans (by rw [cont_obj hk hc])) hci q hq (K.2.2.2.2.1 _ hl) (fun x hx => by rw [hsame] at hx; exact hx) hv hd (k ls H locs h hP hS)
theorem G_put {C : String} {T : u_T} {N ci i q idx : Nat} {v : Int32} {ty : FieldType} (K : Cx ω ρ cc own d n) (hk : isK ci i) (hc : ci < 11) (hci : vwCl[ci]? = some (C, T, N)) (hin : ∀ w ∈ u_ws C T N, w ∈ TB) (ty0 : Nat → FieldType) (hty : ∀ k, k < N → parseFieldDescriptor (T k).2.2.1 = some (ty0 k)) (hnm : ∀ a, a < N → ∀ b, b < N → a ≠ b → (T a).2.1 ≠ (T b).2.1) (hq : q < N) (hl : Cond.fieldLink own idx C (T q).2.1 (T q).2.2.1 ∈ TB) (hsame : (T q).1 = C) (hfin : (T q).2.2.2 = false) (hdsc : parseFieldDescriptor (T q).2.2.1 = some ty) (hn : narrow ty (.int v) = .int v) (hfit : fits ty (.int v) = true) (hlen : ∀ f g, q < (fsX ci ω f g i).length) (hs : ∀ f : Nat → Int32, (fsX ci ω f M.2 i).set q (.int v) = fsX ci ω (upd f q v) M.2 i) (hd : decode cc pc = .ok (.putfield idx, 3)) (k : G ω ρ (wr M i q v) (pc + 3) lv rest) : G ω ρ M pc lv (.int v :: .ref (adr ω i) :: rest) := fun ls H locs h hP hS => by
  have he : (cellsOf ω M)[i]? = some (adr ω i, .inr (ci, fsX ci ω (M.1 i) M.2 i)) := (cells_get hk.1).trans (by rw [cont_obj hk hc])
  refine va_put (ty := ty) (v := .int v) K.1 K.2.1 K.2.2.2.2.1 hin ty0 hty hnm K.2.2.2.1 K.2.2.2.2.2.1 hP (cells_D K.2.2.2.2.2.2.1) hS i he hci q hq (K.2.2.2.2.1 _ hl) (fun x hx => by rw [hsame] at hx; exact hx) hfin hdsc hn hfit (hlen _ _) hd (fun H1 locs1 hP1 _ hS1 => ?_)
  refine k ls H1 locs1 h ?_ hS1
  rw [hs, cells_set (M' := wr M i q v) (by rw [cont_eq, contX_obj hk hc]) (fun j _ hj => cont_ne hj)] at hP1
  exact hP1
theorem G_putL {C : String} {T : u_T} {N q idx : Nat} {v : Int64} (K : Cx ω ρ cc own d n) (hci : vwCl[10]? = some (C, T, N)) (hin : ∀ w ∈ u_ws C T N, w ∈ TB) (ty0 : Nat → FieldType) (hty : ∀ k, k < N → parseFieldDescriptor (T k).2.2.1 = some (ty0 k)) (hnm : ∀ a, a < N → ∀ b, b < N → a ≠ b → (T a).2.1 ≠ (T b).2.1) (hq : q < N) (hl : Cond.fieldLink own idx C (T q).2.1 (T q).2.2.1 ∈ TB) (hsame : (T q).1 = C) (hfin : (T q).2.2.2 = false) (hdsc : parseFieldDescriptor (T q).2.2.1 = some .long) (hlen : ∀ f g, q < (fsX 10 ω f g 128).length) (hs : ∀ g : Nat → Int64, (fsX 10 ω (M.1 128) g 128).set q (.long v) = fsX 10 ω (M.1 128) (fun z => if z = q then v else g z) 128) (hd : decode cc pc = .ok (.putfield idx, 3)) (k : G ω ρ (wl M q v) (pc + 3) lv rest) : G ω ρ M pc lv (.long v :: .ref (adr ω 128) :: rest) := fun ls H locs h hP hS => by
  have hk : isK 10 128 := ⟨by decide, rfl⟩
  have he : (cellsOf ω M)[128]? = some (adr ω 128, .inr (10, fsX 10 ω (M.1 128) M.2 128)) := (cells_get hk.1).trans (by rw [cont_obj hk (by decide)])
  refine va_put (ty := .long) (v := .long v) K.1 K.2.1 K.2.2.2.2.1 hin ty0 hty hnm K.2.2.2.1 K.2.2.2.2.2.1 hP (cells_D K.2.2.2.2.2.2.1) hS 128 he hci q hq (K.2.2.2.2.1 _ hl) (fun x hx => by rw [hsame] at hx; exact hx) hfin hdsc rfl rfl (hlen _ _) hd (fun H1 locs1 hP1 _ hS1 => ?_)
  refine k ls H1 locs1 h ?_ hS1
  rw [hs, cells_set (M := M) (M' := wl M q v) (e := .inr (10, fsX 10 ω (M.1 128) (fun z => if z = q then v else M.2 z) 128)) (contX_obj hk (by decide)) (fun j h1 hj => cont_L h1 hj)] at hP1
  exact hP1
/-- arrays -/
theorem G_iald {i N kk : Nat} {x : Int32} (K : Cx ω ρ cc own d n) (hk : isA N i) (hx : vp_in x N) (he : x.toNatClampNeg = kk) (hd : decode cc pc = .ok (.iaload, 1)) (k : G ω ρ M (pc + 1) lv (.int (rd M i kk) :: rest)) : G ω ρ M pc lv (.int x :: .ref (adr ω i) :: rest) := fun ls H locs h hP hS =>
  va_iald K.1 K.2.1 K.2.2.2.2.2.1 hP i 0 ((cells_get hk.1).trans (by unfold cont; rw [contX_arr hk])) rfl hx hd (by have := k ls H locs h hP hS; rw [← he] at this; exact this)
theorem G_iast {i N kk : Nat} {x v : Int32} (K : Cx ω ρ cc own d n) (hk : isA N i) (hx : vp_in x N) (he : x.toNatClampNeg = kk) (hd : decode cc pc = .ok (.iastore, 1)) (k : G ω ρ (wr M i kk v) (pc + 1) lv rest) : G ω ρ M pc lv (.int v :: .int x :: .ref (adr ω i) :: rest) := fun ls H locs h hP hS => by
  subst he
  refine va_iast K.1 K.2.1 K.2.2.2.2.2.1 hP (cells_D K.2.2.2.2.2.2.1) hS i 0 ((cells_get hk.1).trans (by unfold cont; rw [contX_arr hk])) rfl hx hd (fun H1 locs1 hP1 _ hS1 => ?_)
  refine k ls H1 locs1 h ?_ hS1
  rw [cells_set (M' := wr M i x.toNatClampNeg v) (by rw [cont_eq, contX_arr hk]) (fun j _ hj => cont_ne hj)] at hP1
  exact hP1
theorem G_zald {i N kk : Nat} {x : Int32} (K : Cx ω ρ cc own d n) (hk : isZ N i) (hx : vp_in x N) (he : x.toNatClampNeg = kk) (hd : decode cc pc = .ok (.baload, 1)) (k : G ω ρ M (pc + 1) lv (.int (rd M i kk) :: rest)) : G ω ρ M pc lv (.int x :: .ref (adr ω i) :: rest) := fun ls H locs h hP hS =>
  va_zald K.1 K.2.1 K.2.2.2.2.2.1 hP i 1 ((cells_get hk.1).trans (by unfold cont; rw [contX_zrr hk])) rfl hx hd (by have := k ls H locs h hP hS; rw [← he] at this; exact this)
theorem G_zast {i N kk : Nat} {x v : Int32} (K : Cx ω ρ cc own d n) (hk : isZ N i) (hx : vp_in x N) (he : x.toNatClampNeg = kk) (hn : vp_nar .boolean v = v) (hd : decode cc pc = .ok (.bastore, 1)) (k : G ω ρ (wr M i kk v) (pc + 1) lv rest) : G ω ρ M pc lv (.int v :: .int x :: .ref (adr ω i) :: rest) := fun ls H locs h hP hS => by
  subst he
  refine va_zast K.1 K.2.1 K.2.2.2.2.2.1 hP (cells_D K.2.2.2.2.2.2.1) hS i 1 ((cells_get hk.1).trans (by unfold cont; rw [contX_zrr hk])) rfl hx hd (fun H1 locs1 hP1 _ hS1 => ?_)
  rw [hn] at hP1
  refine k ls H1 locs1 h ?_ hS1
  rw [cells_set (M' := wr M i x.toNatClampNeg v) (by rw [cont_eq, contX_zrr hk]) (fun j _ hj => cont_ne hj)] at hP1
  exact hP1
theorem G_aldGroup {i : Nat} {x : Int32} (K : Cx ω ρ cc own d n) (hk : isK 13 i) (hx : vp_in x 5) (hd : decode cc pc = .ok (.aaload, 1)) (k : G ω ρ M (pc + 1) lv (.ref (adr ω (i + 1 + 2 * x.toNatClampNeg)) :: rest)) : G ω ρ M pc lv (.int x :: .ref (adr ω i) :: rest) := fun ls H locs h hP hS =>
  va_aldq K.1 K.2.1 K.2.2.2.2.2.1 hP i 2 (f := fun t => some (adr ω (i + 1 + 2 * t))) ((cells_get hk.1).trans (by unfold cont contX; rw [hk.2]; rfl)) rfl hx hd (k ls H locs h hP hS)
theorem G_aldImage {i : Nat} {x : Int32} (K : Cx ω ρ cc own d n) (hk : isK 14 i) (hx : vp_in x 2) (hd : decode cc pc = .ok (.aaload, 1)) (k : G ω ρ M (pc + 1) lv (.ref (adr ω (i + 2 + 22 * x.toNatClampNeg)) :: rest)) : G ω ρ M pc lv (.int x :: .ref (adr ω i) :: rest) := fun ls H locs h hP hS =>
  va_aldq K.1 K.2.1 K.2.2.2.2.2.1 hP i 3 (f := fun t => some (adr ω (i + 2 + 22 * t))) ((cells_get hk.1).trans (by unfold cont contX; rw [hk.2]; rfl)) rfl hx hd (k ls H locs h hP hS)
theorem G_aldSheet {i : Nat} {x : Int32} (K : Cx ω ρ cc own d n) (hk : isK 15 i) (hx : vp_in x 4) (hd : decode cc pc = .ok (.aaload, 1)) (k : G ω ρ M (pc + 1) lv (.ref (adr ω (i + 45 + 2 * x.toNatClampNeg)) :: rest)) : G ω ρ M pc lv (.int x :: .ref (adr ω i) :: rest) := fun ls H locs h hP hS =>
  va_aldq K.1 K.2.1 K.2.2.2.2.2.1 hP i 4 (f := fun t => some (adr ω (i + 45 + 2 * t))) ((cells_get hk.1).trans (by unfold cont contX; rw [hk.2]; rfl)) rfl hx hd (k ls H locs h hP hS)
theorem G_aldRow {i : Nat} {x : Int32} (K : Cx ω ρ cc own d n) (hk : isK 16 i) (hx : vp_in x 8) (hd : decode cc pc = .ok (.aaload, 1)) (k : G ω ρ M (pc + 1) lv (.ref (adr ω (i + 1 + x.toNatClampNeg)) :: rest)) : G ω ρ M pc lv (.int x :: .ref (adr ω i) :: rest) := fun ls H locs h hP hS => by
  have ha : (cellsOf ω M)[i]? = some (adr ω i, .inl (ω.2.2.2.1 5, 8, .inr (.inr (.inr (.inr (fun t => some (adr ω (i + 1 + t)))))))) := (cells_get hk.1).trans (by unfold cont contX; rw [hk.2]; rfl)
  have hlt : x.toNatClampNeg < 8 := Nat.not_le.mp fun q => hx (Or.inr q)
  exact W.aald (v := .ref (adr ω (i + 1 + x.toNatClampNeg))) (ty := .array .int) K.1 K.2.1 (hP i _ ha) ((K.2.2.2.2.2.1.2 5 (ω.2.2.2.1 5, .array .int) rfl).1 8 (fun j => va_rf (some (adr ω (i + 1 + j))))) rfl (fun q => by cases q) (by show ¬ (x < 0 ∨ (arrV _ _ _).slots.size ≤ _); rw [arrV_size]; exact hx) (by show (arrV _ _ _).slots[_]? = _; rw [arrV_read _ _ hlt]; rfl) rfl rfl hd (k ls H locs h hP hS)
theorem G_aname {st : List Value} {a b : Nat} (e : a = b) (k : G ω ρ M pc lv (.ref (adr ω b) :: st)) : G ω ρ M pc lv (.ref (adr ω a) :: st) := by rw [e]; exact k
end GR
