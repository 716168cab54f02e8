/-! new int[N][M]: a row of rows -/
def mRow (cR : ClassId) (M : Nat) : Cell := arrV cR M (fun _ => .int 0)
def mTo (h0 i : Nat) (j : Nat) : Value := if j < i then .ref (h0 + 1 + j) else .null
def mOut (cA : ClassId) (N h0 i : Nat) : Cell := arrV cA N (mTo h0 i)
theorem mOut_s {cA : ClassId} {N h0 i : Nat} : (mOut cA N h0 i).setSlot i (.ref (h0 + 1 + i)) = mOut cA N h0 (i + 1) := by
  unfold mOut
  rw [arrV_store]
  refine congrArg (arrV cA N) (funext fun j => ?_)
  unfold updV mTo
  by_cases z : j = i
  · rw [if_pos z, if_pos (by omega), z]
  · rw [if_neg z]
    by_cases y : j < i
    · rw [if_pos y, if_pos (by omega)]
    · rw [if_neg y, if_neg (by omega)]
/-- the state behind i rows -/
def mS (T : State) (cA cR : ClassId) (N M : Nat) : Nat → State
  | 0 => T.pushCell (mOut cA N T.heap.size 0)
  | i + 1 => ((mS T cA cR N M i).pushCell (mRow cR M)).setCell T.heap.size (mOut cA N T.heap.size (i + 1))
theorem mS_heap {T : State} {cA cR : ClassId} {N M : Nat} : ∀ i, (mS T cA cR N M i).heap.size = T.heap.size + 1 + i ∧ (mS T cA cR N M i).vm = T.vm ∧ (mS T cA cR N M i).heap[T.heap.size]? = some (mOut cA N T.heap.size i) ∧ (∀ q, q < T.heap.size → (mS T cA cR N M i).heap[q]? = T.heap[q]?) ∧ (∀ j, j < i → (mS T cA cR N M i).heap[T.heap.size + 1 + j]? = some (mRow cR M)) ∧ (mS T cA cR N M i).slotsUsed = T.slotsUsed + N + i * M := by
  intro i
  induction i with
  | zero =>
    refine ⟨by simp [mS], rfl, by simp [mS], fun q hq => State.heap_pushCell_of_lt _ _ hq, fun j hj => absurd hj (Nat.not_lt_zero _), ?_⟩
    have : (mOut cA N T.heap.size 0).slots.size = N := arrV_size _ _ _
    simp [mS, this]
  | succ i ih =>
    obtain ⟨a1, a2, a3, a4, a5, a6⟩ := ih
    have hR : (mRow cR M).slots.size = M := arrV_size _ _ _
    have hO : ∀ z, (mOut cA N T.heap.size z).slots.size = N := fun z => arrV_size _ _ _
    have lt0 : T.heap.size < (mS T cA cR N M i).heap.size := by omega
    have c0 : ((mS T cA cR N M i).pushCell (mRow cR M)).heap[T.heap.size]? = some (mOut cA N T.heap.size i) := by
      rw [State.heap_pushCell_of_lt (h := lt0)]; exact a3
    refine ⟨?_, ?_, State.heap_setCell_self c0, fun q hq => ?_, fun j hj => ?_, ?_⟩
    · simp [mS, State.setCell, a1]; omega
    · simp [mS, a2]
    · show (((mS T cA cR N M i).pushCell (mRow cR M)).setCell T.heap.size _).heap[q]? = _
      have ltq : q < (mS T cA cR N M i).heap.size := by omega
      rw [State.heap_setCell_other (Nat.ne_of_gt hq), State.heap_pushCell_of_lt (h := ltq)]
      exact a4 q hq
    · show (((mS T cA cR N M i).pushCell (mRow cR M)).setCell T.heap.size _).heap[T.heap.size + 1 + j]? = _
      rw [State.heap_setCell_other (show T.heap.size ≠ T.heap.size + 1 + j by omega)]
      by_cases z : j = i
      · rw [z, ← a1]; exact State.heap_pushCell_size _ _
      · have ltj : T.heap.size + 1 + j < (mS T cA cR N M i).heap.size := by omega
        rw [State.heap_pushCell_of_lt (h := ltj)]; exact a5 j (by omega)
    · simp [mS, a6, hR, Nat.succ_mul]; omega
theorem mS_top {T : State} {f : JFrame} {cA cR : ClassId} {N M : Nat} : ∀ i, mS (T.setTop f) cA cR N M i = (mS T cA cR N M i).setTop f := by
  intro i
  induction i with
  | zero => rfl
  | succ i ih => simp only [mS, ih, State.heap_setTop, State.pushCell_setTop, State.setCell_setTop]
section
variable {p : Program} {l : Launch} {e : Env} {R : Room} {s : State} {m : MethodId} {args : Array Value} {below : List Frame} {meth : Method} {c : Code} {locs : List Loc} {cells slots : Nat}
theorem mS_stand {T : State} {cA cR : ClassId} {N M : Nat} (X : Stand p l e R s m args below meth c T locs cells slots) : ∀ i, ∃ L : List Loc, (∀ q ∈ L, q.base = T.heap.size) ∧ Stand p l e R s m args below meth c (mS T cA cR N M i) (locs ++ L) (cells + 1 + i) (slots + N + i * M) := by
  intro i
  induction i with
  | zero =>
    have h := X.pushed (mOut cA N T.heap.size 0)
    rw [show (mOut cA N T.heap.size 0).slots.size = N from arrV_size _ _ _] at h
    exact ⟨[], (fun q hq => by cases hq), by simpa [mS] using h⟩
  | succ i ih =>
    obtain ⟨L, hL, Xi⟩ := ih
    obtain ⟨a1, a2, a3, a4, a5, a6⟩ := mS_heap (T := T) (cA := cA) (cR := cR) (N := N) (M := M) i
    have lt0 : T.heap.size < (mS T cA cR N M i).heap.size := by omega
    have c0 : ((mS T cA cR N M i).pushCell (mRow cR M)).heap[T.heap.size]? = some (mOut cA N T.heap.size i) := by
      rw [State.heap_pushCell_of_lt (h := lt0)]; exact a3
    have h := (Xi.pushed (mRow cR M)).stored c0 i (.ref (T.heap.size + 1 + i))
    rw [mOut_s, show (mRow cR M).slots.size = M from arrV_size _ _ _, List.append_assoc] at h
    refine ⟨L ++ [⟨T.heap.size, i⟩], fun q hq => ?_, ?_⟩
    · rcases List.mem_append.mp hq with z | z
      · exact hL q z
      · rw [List.mem_singleton.mp z]
    · rw [show slots + N + (i + 1) * M = slots + N + i * M + M by rw [Nat.succ_mul]; omega]
      exact h
end
section
variable {E : CtlPost} {e : Env} {d : Bool} {acts : List Action} {s : State}
/-- what the model's own words do: n rows of k ints -/
theorem mk_rows {cA cR cI : ClassId} {kA kR : Class} {n k : Int32} (hkA : s.vm.classes[cA]? = some kA) (hA : kA.kind = .array cR (.array .int)) (hkR : s.vm.classes[cR]? = some kR) (hR : kR.kind = .array cI .int) (hn : ¬ n < 0) (hk : ¬ k < 0)
    (l1 : ¬ n.toNatClampNeg > e.platform.arrayLengthLimit) (g1 : ¬ n.toNatClampNeg * componentBytes (.array .int) > e.platform.maxHeapBytes) (l2 : ¬ k.toNatClampNeg > e.platform.arrayLengthLimit) (g2 : ¬ k.toNatClampNeg * componentBytes .int > e.platform.maxHeapBytes)
    (hc : s.heap.size + 1 + n.toNatClampNeg ≤ e.platform.maxCells) (hs : s.slotsUsed + n.toNatClampNeg + n.toNatClampNeg * k.toNatClampNeg ≤ e.platform.maxSlots)
    {Q : Addr → Pre} (hq : ∀ d' acts', Q s.heap.size d' acts' (mS s cA cR n.toNatClampNeg k.toNatClampNeg n.toNatClampNeg)) : wp (Jvm.Op.multianewarray.make cA [n, k]) Q E e d acts s := by
  have h0 : s.slotsUsed + n.toNatClampNeg ≤ e.platform.maxSlots := by have := Nat.zero_le (n.toNatClampNeg * k.toNatClampNeg); omega
  have hfind : ([k].find? (· < 0)) = none := by simp [hk]
  rw [Jvm.Op.multianewarray.make]
  simp only [wp_bind', Jvm.W.ite, hn, if_false, wp_pure', Jvm.W.theClass, hkA, hA, Option.some.injEq, exists_eq_left']
  refine Jvm.W.newArray_of hkA hA l1 g1 (by omega) h0 rfl (fun acts1 => ?_)
  simp only [hfind]
  rw [ite_self, wp_bind', Std.Legacy.Range.forIn_eq_forIn_range']
  have hsz : ([:n.toNatClampNeg] : Std.Legacy.Range).size = n.toNatClampNeg := by simp [Std.Legacy.Range.size]
  rw [hsz, show ({ cls := cA, slots := Array.replicate n.toNatClampNeg .null } : Cell) = mOut cA n.toNatClampNeg s.heap.size 0 from (arrV_new cA n.toNatClampNeg .null).trans (congrArg (arrV cA n.toNatClampNeg) (funext fun j => (if_neg (Nat.not_lt_zero j)).symm))]
  show wp (forIn (List.range' 0 n.toNatClampNeg 1) PUnit.unit _) _ E e d _ _
  refine wp_forIn_inv (fun todo s' => ∃ i, i ≤ n.toNatClampNeg ∧ todo = List.range' i (n.toNatClampNeg - i) ∧ s' = mS s cA cR n.toNatClampNeg k.toNatClampNeg i) _ _ ⟨0, Nat.zero_le _, rfl, rfl⟩ ?_ ?_
  · rintro x todo s' d' acts' Q' ⟨i, hi, hl, rfl⟩ next
    have hlt : i < n.toNatClampNeg := by
      rcases Nat.lt_or_ge i n.toNatClampNeg with y | y
      · exact y
      · rw [show n.toNatClampNeg - i = 0 by omega] at hl; simp at hl
    rw [show n.toNatClampNeg - i = (n.toNatClampNeg - (i + 1)) + 1 by omega, List.range'_succ] at hl
    obtain ⟨rfl, rfl⟩ := List.cons.inj hl
    obtain ⟨a1, a2, a3, a4, a5, a6⟩ := mS_heap (T := s) (cA := cA) (cR := cR) (N := n.toNatClampNeg) (M := k.toNatClampNeg) x
    have hm : x * k.toNatClampNeg + k.toNatClampNeg ≤ n.toNatClampNeg * k.toNatClampNeg := by
      have := Nat.mul_le_mul_right k.toNatClampNeg (show x + 1 ≤ n.toNatClampNeg from hlt)
      rw [Nat.succ_mul] at this; exact this
    have lt0 : s.heap.size < (mS s cA cR n.toNatClampNeg k.toNatClampNeg x).heap.size := by omega
    simp only [wp_bind']
    rw [Jvm.Op.multianewarray.make]
    simp only [wp_bind', Jvm.W.ite, hk, if_false, wp_pure', Jvm.W.theClass, a2, hkR, hR, Option.some.injEq, exists_eq_left']
    refine Jvm.W.newArray_of (by rw [a2]; exact hkR) hR l2 g2 (by omega) (by omega) rfl (fun acts2 => ?_)
    rw [show ({ cls := cR, slots := Array.replicate k.toNatClampNeg (defaultValue .int) } : Cell) = mRow cR k.toNatClampNeg from arrV_new cR k.toNatClampNeg (.int 0)]
    simp only [wp_bind', Jvm.W.writeLoc, wp_pure']
    refine ⟨mOut cA n.toNatClampNeg s.heap.size x, by rw [State.heap_pushCell_of_lt (h := lt0)]; exact a3, by simp [mOut, arrV], by unfold mOut; rw [arrV_size]; exact hlt, ?_, next _ _ _ ⟨x + 1, hlt, rfl, ?_⟩⟩
    · simp [State.fitsSlot, State.slotType?, mOut, arrV, a2, hkA, hA, fits]
    · rw [a1, mOut_s]; rfl
  · rintro s' d' acts' ⟨i, hi, hl, rfl⟩
    have hiN : i = n.toNatClampNeg := by
      rcases Nat.lt_or_ge i n.toNatClampNeg with y | y
      · rw [show n.toNatClampNeg - i = (n.toNatClampNeg - (i + 1)) + 1 by omega, List.range'_succ] at hl; cases hl
      · omega
    rw [hiN]
    simp only [wp_pure']
    exact hq _ _
end
section
variable {p : Program} {l : Launch} {e : Env} {R : Room} {s : State} {m : MethodId} {args : Array Value} {below : List Frame} {meth : Method} {c : Code} {H : Heap} {locs : List Loc} {cells slots : Nat} {Q : State → Prop}
theorem W_rows {cc : ByteArray} (hexec : p.tables.exec = Jvm.exec) (hb : c.code = cc) {own : String} {index : Nat} (hown : s.vm.findClass own = some m.cls) (hclink : (Cond.classLink own index "[[I").before args s = true) (hover : (Cond.arrayOver (.array .int)).before args s = true) (harr : (Cond.arrayClass .int).before args s = true)
    {g : JFrame} (hg : g.method = m) (hdg : decode cc g.pc = .ok (.multianewarray index 2, 4)) {n k : Int32} {rest : List Value} (hstack : g.stack = .int k :: .int n :: rest) (hn : ¬ n < 0) (hk : ¬ k < 0) (hn9 : n.toNatClampNeg ≤ 1000) (hk9 : k.toNatClampNeg ≤ 1000) (hcells : cells + (1 + n.toNatClampNeg) ≤ R.cells) (hslots : slots + (n.toNatClampNeg + n.toNatClampNeg * k.toNatClampNeg) ≤ R.slots)
    (kk : ∀ (cA cR : ClassId) (H1 : Heap) (L : List Loc), s.vm.findClass "[[I" = some cA → s.vm.findClass "[I" = some cR → H1.size = H.size + 1 + n.toNatClampNeg → H1[H.size]? = some (mOut cA n.toNatClampNeg H.size n.toNatClampNeg) → (∀ q, q < H.size → H1[q]? = H[q]?) → (∀ j, j < n.toNatClampNeg → H1[H.size + 1 + j]? = some (mRow cR k.toNatClampNeg)) → (∀ q ∈ L, q.base = H.size) →
      W p l e R s m args below meth c H1 (locs ++ L) (cells + 1 + n.toNatClampNeg) (slots + n.toNatClampNeg + n.toNatClampNeg * k.toNatClampNeg) Q { g with pc := g.pc + 4, stack := .ref H.size :: rest }) : W p l e R s m args below meth c H locs cells slots Q g := by
  intro T hT X
  subst hT; subst hb; subst hg
  have hpl : e.platform.magicAccessors = ({} : Platform).magicAccessors := by rw [X.admits.platform]
  obtain ⟨cR, cA, kA, hcR, -, hkA, hkindA, hnameA⟩ := arrayOverA_spec hover
  obtain ⟨cR', kR, cI, hcR', hkR, hkindR⟩ := Cond.arrayClass_spec harr
  obtain rfl : cR' = cR := Option.some.inj (hcR'.symm.trans hcR)
  obtain ⟨c0, hfc0, hcl⟩ := Cond.classLink_spec hown hclink e.platform hpl
  have hc0 : c0 = cA := Option.some.inj (hfc0.symm.trans hnameA)
  subst hc0
  obtain ⟨hg₁, hwarm₁, hready₁⟩ := State.classEntry (e := e) X.warmed hcl
  generalize T.vm.noted g.method.cls index (.cls c0) = vm₁ at hg₁ hwarm₁ hready₁
  have hal : s.vm.Alike vm₁ := hwarm₁.alike
  obtain ⟨kA₁, hkA₁, heA⟩ := hal.2.2 _ _ hkA
  obtain ⟨kR₁, hkR₁, heR⟩ := hal.2.2 _ _ hkR
  have hkindA₁ : kA₁.kind = .array cR' (.array .int) := by rw [heA]; exact hkindA
  have hkindR₁ : kR₁.kind = .array cI .int := by rw [heR]; exact hkindR
  have X₁ := X.noted hwarm₁
  obtain ⟨hr1, hr2⟩ := X.roomAbove hcells hslots
  obtain ⟨L, hL, XF⟩ := mS_stand (cA := c0) (cR := cR') (N := n.toNatClampNeg) (M := k.toNatClampNeg) X₁ n.toNatClampNeg
  obtain ⟨a1, a2, a3, a4, a5, a6⟩ := mS_heap (T := T.setVm vm₁) (cA := c0) (cR := cR') (N := n.toNatClampNeg) (M := k.toNatClampNeg) n.toNatClampNeg
  obtain ⟨t, r1, r2⟩ := kk c0 cR' _ L hfc0 hcR a1 a3 a4 a5 hL _ rfl XF
  refine ⟨t, ?_, r2⟩
  have l1 : ¬ n.toNatClampNeg > e.platform.arrayLengthLimit := by rw [Launch.admits_arrayLengthLimit X.admits]; omega
  have g1 : ¬ n.toNatClampNeg * componentBytes (.array .int) > e.platform.maxHeapBytes := by
    rw [Launch.admits_maxHeapBytes X.admits]; show ¬ n.toNatClampNeg * 4 > 536870912; omega
  have l2 : ¬ k.toNatClampNeg > e.platform.arrayLengthLimit := by rw [Launch.admits_arrayLengthLimit X.admits]; omega
  have g2 : ¬ k.toNatClampNeg * componentBytes .int > e.platform.maxHeapBytes := by
    rw [Launch.admits_maxHeapBytes X.admits]; show ¬ k.toNatClampNeg * 4 > 536870912; omega
  jvm_step X.here [hexec, hdg]
  simp only [Jvm.Op.multianewarray.sem, wp_bind', Jvm.W.resolveClassAt_links (State.method?_setTop g X.here.top) hg₁]
  rw [Jvm.W.popN, if_neg (by decide)]
  refine ⟨g, State.topJava?_setTop' (s := T.setVm vm₁) g X.here.top, [.int n, .int k], rest, rfl, hstack, ?_⟩
  simp only [List.mapM_cons, List.mapM_nil, wp_bind', wp_pure']
  refine mk_rows (kA := kA₁) (kR := kR₁) (cI := cI) hkA₁ hkindA₁ hkR₁ hkindR₁ hn hk l1 g1 l2 g2 (by show T.heap.size + 1 + _ ≤ _; omega) (by show T.slotsUsed + _ + _ ≤ _; omega) (fun d' acts' => ?_)
  have eS : ((T.setTop g).setVm vm₁).setTop { g with stack := rest } = (T.setVm vm₁).setTop { g with stack := rest } := by
    show ((T.setVm vm₁).setTop g).setTop _ = _
    rw [State.setTop_setTop]
  rw [eS, mS_top]
  simp only [wp_bind', Jvm.W.mark, Jvm.W.pushRef, State.topJava?_setTop' _ XF.here.top, Option.some.injEq, exists_eq_left', State.setTop_setTop, State.heap_setTop]
  intro acts
  simp [jvm, XF.here.top]
  exact r1
end
