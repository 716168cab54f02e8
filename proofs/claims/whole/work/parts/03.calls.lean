/-- the room of a method of height d; its start: the memory is M -/
def rmD (d : Nat) : Room := { frames := d, cells := 0, slots := 0, locals := 36 * d }
def PreM (ω : WD) (M : Mem) (U : State) : Prop := va_P ω.2.2.1 vwCl (cellsOf ω M) U.heap ∧ va_K ω.2.2.1 vwCl (tysOf ω) U ∧ inj ω ∧ XW ω U
def BM (ω : WD) (M : Mem) (t : State) : Prop := va_P ω.2.2.1 vwCl (cellsOf ω M) t.heap
abbrev PcM (ω : WD) (args : List Value) (M : Mem) (sz : Nat) : Array Value → State → Prop := va_Pc args (fun U => U.heap.size = sz ∧ PreM ω M U)
/-- CONTRACTS: from the memory M, with these arguments, the method returns; its answer and the memory then satisfy post; nothing is made, no other cell changes -/
def MtI (ω : WD) (y : MethodName) (cc : ByteArray) (n : Nat) (ret : Option FieldType) (d : Nat) (args : List Value) (M : Mem) (post : Int32 → Mem → Prop) : Prop := ∀ sz : Nat, Met ω.1 y (.code y cc n ret :: TB) (rmD d) (PcM ω args M sz) (va_Qi post (BM ω) (gA ω sz)) 0 0 (gA ω sz)
def MtL (ω : WD) (y : MethodName) (cc : ByteArray) (n : Nat) (ret : Option FieldType) (d : Nat) (args : List Value) (M : Mem) (post : Int64 → Mem → Prop) : Prop := ∀ sz : Nat, Met ω.1 y (.code y cc n ret :: TB) (rmD d) (PcM ω args M sz) (va_Ql post (BM ω) (gA ω sz)) 0 0 (gA ω sz)
def MtV (ω : WD) (y : MethodName) (cc : ByteArray) (n : Nat) (ret : Option FieldType) (d : Nat) (args : List Value) (M : Mem) (post : Mem → Prop) : Prop := ∀ sz : Nat, Met ω.1 y (.code y cc n ret :: TB) (rmD d) (PcM ω args M sz) (va_Qv post (BM ω) (gA ω sz)) 0 0 (gA ω sz)
/-- how a frame may leave -/
def RtI (ω : WD) (ρ : FR) (cc : ByteArray) (ty : FieldType) (post : Int32 → Mem → Prop) : Prop := ∀ (pc : Nat) (M : Mem) (lv : List (Nat × Value)) (v : Int32), decode cc pc = .ok (.ireturn, 1) → narrow ty (.int v) = .int v → post v M → G ω ρ M pc lv [.int v]
def RtL (ω : WD) (ρ : FR) (cc : ByteArray) (post : Int64 → Mem → Prop) : Prop := ∀ (pc : Nat) (M : Mem) (lv : List (Nat × Value)) (v : Int64), decode cc pc = .ok (.lreturn, 1) → post v M → G ω ρ M pc lv [.long v]
def RtV (ω : WD) (ρ : FR) (cc : ByteArray) (post : Mem → Prop) : Prop := ∀ (pc : Nat) (M : Mem) (lv : List (Nat × Value)), decode cc pc = .ok (.return_, 1) → post M → G ω ρ M pc lv []

theorem MtI.start {ω : WD} {y : MethodName} {cc : ByteArray} {n : Nat} {ret : Option FieldType} {d : Nat} {args : List Value} {M : Mem} {post : Int32 → Mem → Prop} {own : String} {ty : FieldType} (hret : ret = some ty) (hy : plainName y.cls = true) (hown : y.cls = own) (hn : (lg_sl args).length ≤ n) (h : ∀ ρ : FR, Cx ω ρ cc own d n → RtI ω ρ cc ty post → G ω ρ M 0 (lv_args 0 args) []) : MtI ω y cc n ret d args M post := by
  intro sz
  refine Met.ofW (cc := cc) (maxL := n) (ret := ret) hy rfl ?_
  intro p e s m as below meth c s₁ B hml hv
  obtain ⟨rfl, hsz, hP, hK, hI, hX⟩ := hv
  have hts0 : ∀ w ∈ (Cond.code y cc n ret :: TB), w.before args.toArray s = true := atoms_spec (ws := .code y cc n ret :: TB) B.pre
  have hfc : s.vm.findClass own = some m.cls := by rw [← hown]; exact findClass_of_methodNamed B.named
  have hlocks := B.notSynchronized
  have hr := B.returns
  have hx := B.exec
  have hb := B.bytes
  subst hsz
  have k := h ((p, e, rmD d), (s, m, args.toArray, below), (meth, c, n), (0, 0), MQ below (va_Qi post (BM ω) (gA ω s.heap.size)) args.toArray s 0 0 (gA ω s.heap.size)) ⟨hx, hb, hml, hfc, fun w hw => hts0 w (List.mem_cons_of_mem _ hw), hK, hI, ⟨Nat.le_refl _, Nat.le_refl _⟩, ⟨Nat.zero_le _, Nat.zero_le _⟩, hX, rfl⟩ ?_
  · have hl := lv_entry args (n := n) hn
    rw [lg_entry_eq]
    exact k _ s.heap [] hl hP va_S.rf
  · intro pc M' lv v hd hnr hpost ls H locs h hP hS
    exact W.zret hx hb (hr.trans hret) hnr (fun t ht hW => ⟨⟨v, M', rfl, hpost, by unfold BM; rw [ht]; exact hP⟩, hS.F ht⟩) hS.2.2 hd hlocks
theorem MtL.start {ω : WD} {y : MethodName} {cc : ByteArray} {n : Nat} {ret : Option FieldType} {d : Nat} {args : List Value} {M : Mem} {post : Int64 → Mem → Prop} {own : String} (hret : ret = some .long) (hy : plainName y.cls = true) (hown : y.cls = own) (hn : (lg_sl args).length ≤ n) (h : ∀ ρ : FR, Cx ω ρ cc own d n → RtL ω ρ cc post → G ω ρ M 0 (lv_args 0 args) []) : MtL ω y cc n ret d args M post := by
  intro sz
  refine Met.ofW (cc := cc) (maxL := n) (ret := ret) hy rfl ?_
  intro p e s m as below meth c s₁ B hml hv
  obtain ⟨rfl, hsz, hP, hK, hI, hX⟩ := hv
  have hts0 : ∀ w ∈ (Cond.code y cc n ret :: TB), w.before args.toArray s = true := atoms_spec (ws := .code y cc n ret :: TB) B.pre
  have hfc : s.vm.findClass own = some m.cls := by rw [← hown]; exact findClass_of_methodNamed B.named
  have hlocks := B.notSynchronized
  have hr := B.returns
  have hx := B.exec
  have hb := B.bytes
  subst hsz
  have k := h ((p, e, rmD d), (s, m, args.toArray, below), (meth, c, n), (0, 0), MQ below (va_Ql post (BM ω) (gA ω s.heap.size)) args.toArray s 0 0 (gA ω s.heap.size)) ⟨hx, hb, hml, hfc, fun w hw => hts0 w (List.mem_cons_of_mem _ hw), hK, hI, ⟨Nat.le_refl _, Nat.le_refl _⟩, ⟨Nat.zero_le _, Nat.zero_le _⟩, hX, rfl⟩ ?_
  · have hl := lv_entry args (n := n) hn
    rw [lg_entry_eq]
    exact k _ s.heap [] hl hP va_S.rf
  · intro pc M' lv v hd hpost ls H locs h hP hS
    exact W.lret hx hb (hr.trans hret) (fun t ht hW => ⟨⟨v, M', rfl, hpost, by unfold BM; rw [ht]; exact hP⟩, hS.F ht⟩) hS.2.2 hd hlocks
theorem MtV.start {ω : WD} {y : MethodName} {cc : ByteArray} {n : Nat} {ret : Option FieldType} {d : Nat} {args : List Value} {M : Mem} {post : Mem → Prop} {own : String} (hret : ret = none) (hy : plainName y.cls = true) (hown : y.cls = own) (hn : (lg_sl args).length ≤ n) (h : ∀ ρ : FR, Cx ω ρ cc own d n → RtV ω ρ cc post → G ω ρ M 0 (lv_args 0 args) []) : MtV ω y cc n ret d args M post := by
  intro sz
  refine Met.ofW (cc := cc) (maxL := n) (ret := ret) hy rfl ?_
  intro p e s m as below meth c s₁ B hml hv
  obtain ⟨rfl, hsz, hP, hK, hI, hX⟩ := hv
  have hts0 : ∀ w ∈ (Cond.code y cc n ret :: TB), w.before args.toArray s = true := atoms_spec (ws := .code y cc n ret :: TB) B.pre
  have hfc : s.vm.findClass own = some m.cls := by rw [← hown]; exact findClass_of_methodNamed B.named
  have hlocks := B.notSynchronized
  have hr := B.returns
  have hx := B.exec
  have hb := B.bytes
  subst hsz
  have k := h ((p, e, rmD d), (s, m, args.toArray, below), (meth, c, n), (0, 0), MQ below (va_Qv post (BM ω) (gA ω s.heap.size)) args.toArray s 0 0 (gA ω s.heap.size)) ⟨hx, hb, hml, hfc, fun w hw => hts0 w (List.mem_cons_of_mem _ hw), hK, hI, ⟨Nat.le_refl _, Nat.le_refl _⟩, ⟨Nat.zero_le _, Nat.zero_le _⟩, hX, rfl⟩ ?_
  · have hl := lv_entry args (n := n) hn
    rw [lg_entry_eq]
    exact k _ s.heap [] hl hP va_S.rf
  · intro pc M' lv hd hpost ls H locs h hP hS
    exact W.vret hx hb (hr.trans hret) (fun t ht hW => ⟨⟨M', rfl, hpost, by unfold BM; rw [ht]; exact hP⟩, hS.F ht⟩) hS.2.2 hd hlocks

/-- what a call's instruction needs of the tables -/
def LkV (own : String) (idx : Nat) (C : String) (y : MethodName) (cc : ByteArray) (n : Nat) (ret : Option FieldType) (k : Nat) : Prop := (∀ w ∈ wsV own idx C y [Cond.code y cc n ret], w ∈ TB) ∧ (y.cls = C ∧ y.cls ≠ "java/lang/invoke/MethodHandle" ∧ y.cls ≠ "java/lang/invoke/VarHandle" ∧ (parseMethodDescriptor y.desc).map (fun d => d.parameters.length) = some k)
def LkS (own : String) (idx : Nat) (y : MethodName) (cc : ByteArray) (n : Nat) (ret : Option FieldType) (k : Nat) : Prop := (∀ w ∈ [Cond.methodLink own idx y, .static y, .initialized y.cls, .code y cc n ret], w ∈ TB) ∧ (y.cls ≠ "java/lang/invoke/MethodHandle" ∧ y.cls ≠ "java/lang/invoke/VarHandle" ∧ (parseMethodDescriptor y.desc).map (fun d => d.parameters.length) = some k)
theorem LkV.of {own : String} {idx : Nat} {C : String} {y : MethodName} {cc : ByteArray} {n : Nat} {ret : Option FieldType} {k : Nat} (a b c' d e : Nat) (h1 : lw_tbl[a]? = some (.methodLink own idx y)) (h2 : lw_tbl[b]? = some (.instanceMethod y)) (h3 : lw_tbl[c']? = some (.selects C y y)) (h4 : lw_tbl[d]? = some (.initialized C)) (h5 : lw_tbl[e]? = some (.code y cc n ret)) (h : y.cls = C ∧ y.cls ≠ "java/lang/invoke/MethodHandle" ∧ y.cls ≠ "java/lang/invoke/VarHandle" ∧ (parseMethodDescriptor y.desc).map (fun d => d.parameters.length) = some k) : LkV own idx C y cc n ret k := by
  refine ⟨fun w hw => ?_, h⟩
  simp only [wsV, List.cons_append, List.nil_append, List.mem_cons, List.not_mem_nil, or_false] at hw
  rcases hw with rfl | rfl | rfl | rfl | rfl
  · exact tb_of a ⟨h1, rfl⟩
  · exact tb_of b ⟨h2, rfl⟩
  · exact tb_of c' ⟨h3, rfl⟩
  · exact tb_of d ⟨h4, rfl⟩
  · exact tb_of e ⟨h5, rfl⟩
theorem LkS.of {own : String} {idx : Nat} {y : MethodName} {cc : ByteArray} {n : Nat} {ret : Option FieldType} {k : Nat} (a b d e : Nat) (h1 : lw_tbl[a]? = some (.methodLink own idx y)) (h2 : lw_tbl[b]? = some (.static y)) (h4 : lw_tbl[d]? = some (.initialized y.cls)) (h5 : lw_tbl[e]? = some (.code y cc n ret)) (h : y.cls ≠ "java/lang/invoke/MethodHandle" ∧ y.cls ≠ "java/lang/invoke/VarHandle" ∧ (parseMethodDescriptor y.desc).map (fun d => d.parameters.length) = some k) : LkS own idx y cc n ret k := by
  refine ⟨fun w hw => ?_, h⟩
  simp only [List.mem_cons, List.not_mem_nil, or_false] at hw
  rcases hw with rfl | rfl | rfl | rfl
  · exact tb_of a ⟨h1, rfl⟩
  · exact tb_of b ⟨h2, rfl⟩
  · exact tb_of d ⟨h4, rfl⟩
  · exact tb_of e ⟨h5, rfl⟩
theorem lk_good {l1 : List Cond} {w0 : Cond} (h : ∀ w ∈ l1 ++ [w0], w ∈ TB) : GoodIn TB (l1 ++ (w0 :: TB)) := by
  intro w hw
  rcases List.mem_append.mp hw with h1 | h1
  · exact ⟨h w (List.mem_append_left _ h1), tb_good (h w (List.mem_append_left _ h1))⟩
  · rcases List.mem_cons.mp h1 with rfl | h2
    · exact ⟨h _ (List.mem_append_right _ (List.mem_singleton.mpr rfl)), tb_good (h _ (List.mem_append_right _ (List.mem_singleton.mpr rfl)))⟩
    · exact ⟨h2, tb_good h2⟩
theorem blindM {ω : WD} {args : List Value} {M : Mem} {sz : Nat} : FrameBlind (PcM ω args M sz) := fun a U g mk q => by
  obtain ⟨q0, q1, qP, qK, qI, qX⟩ := q
  exact ⟨q0, q1, qP, va_K.moved (u := U) (U := U.calling g mk a) (Vm.Alike.refl U.vm) qK, qI, qX.calling⟩
section GC
variable {ω : WD} {ρ : FR} {M : Mem} {cc : ByteArray} {own : String} {d n pc idx n' d' i ci N : Nat} {lv : List (Nat × Value)} {As rest st : List Value} {C : String} {T : u_T} {y : MethodName} {bytes : ByteArray} {ret : Option FieldType}
theorem preM_of (K : Cx ω ρ cc own d n) {H : Heap} {locs : List Loc} (hP : va_P ω.2.2.1 vwCl (cellsOf ω M) H) (hS : va_S (gA ω ρ.2.1.1.heap.size) ρ.2.1.1.heap H locs) (U : State) (hU : U.heap = H) (hW : ρ.2.1.1.WarmedH U.vm) (args : List Value) : PcM ω args M H.size args.toArray U := by
  obtain ⟨-, -, -, -, -, hK, hI, -, -, hX, -⟩ := K
  exact ⟨rfl, by rw [hU], ⟨by rw [hU]; exact hP, va_K.moved hW.alike hK, hI, hX.warm hW hU hS⟩⟩
theorem room_of (K : Cx ω ρ cc own d n) (h1 : d' + 1 ≤ d) (h2 : n' ≤ 17) : (rmD d').frames + 1 ≤ ρ.1.2.2.frames ∧ 8 + (n' + 11) + (rmD d').locals ≤ ρ.1.2.2.locals := by
  obtain ⟨-, -, -, -, -, -, -, ⟨h3, h4⟩, -, -, -⟩ := K
  refine ⟨Nat.le_trans h1 h3, ?_⟩
  show 8 + (n' + 11) + 36 * d' ≤ _
  omega
theorem runV (K : Cx ω ρ cc own d n) (hd : decode cc pc = .ok (.invokevirtual idx, 3)) (Lk : LkV own idx C y bytes n' ret As.length) (h1 : d' + 1 ≤ d) (h2 : n' ≤ 17) (hk : isK ci i) (hc : ci < 11) (hci : vwCl[ci]? = some (C, T, N)) (hcat : (rest.map fun v => v.category).sum ≤ 8) (hst : st = As.reverse ++ .ref (adr ω i) :: rest) {ls : Array Slot} {H : Heap} {locs : List Loc} (h : lv_has ls ρ.2.2.1.2.2 lv) (hP : va_P ω.2.2.1 vwCl (cellsOf ω M) H) (hS : va_S (gA ω ρ.2.1.1.heap.size) ρ.2.1.1.heap H locs) {Qc : Array Value → State → Outcome → State → Prop} (hm : Met ω.1 y (.code y bytes n' ret :: TB) (rmD d') (PcM ω (.ref (adr ω i) :: As) M H.size) Qc 0 0 (gA ω H.size)) :
    va_Run ρ.1.1 ω.1 ρ.1.2.1 ρ.1.2.2 ρ.2.1.1 ρ.2.1.2.1 ρ.2.1.2.2.1 ρ.2.1.2.2.2 ρ.2.2.1.1 ρ.2.2.1.2.1 H locs ρ.2.2.2.1.1 ρ.2.2.2.1.2 0 0 (F0 ρ.2.1.2.1 pc ls st) rest (Qc (Value.ref (adr ω i) :: As).toArray) (gA ω H.size) :=
  va_runV (Ts := TB) ⟨K.1, K.2.1, K.2.2.1, K.2.2.2.1, K.2.2.2.2.1⟩ hm (cwV (ws := .code y bytes n' ret :: TB) As.length K.2.2.2.2.1 (lk_good Lk.1) rfl rfl rfl Lk.2 (room_of K h1 h2))
    ⟨blindM, va_recv K.2.2.2.2.2.1 hP hci ((cells_get hk.1).trans (by rw [cont_obj hk hc])), fun U hU hW => preM_of K hP hS U hU hW _⟩ rfl rfl (h.1.trans K.2.2.2.2.2.2.2.2.2.2) hst (lv_room hcat) hd ⟨K.2.2.2.2.2.2.2.2.1.1, K.2.2.2.2.2.2.2.2.1.2⟩
theorem runS (K : Cx ω ρ cc own d n) (hd : decode cc pc = .ok (.invokestatic idx, 3)) (Lk : LkS own idx y bytes n' ret As.length) (h1 : d' + 1 ≤ d) (h2 : n' ≤ 17) (hcat : (rest.map fun v => v.category).sum ≤ 8) (hst : st = As.reverse ++ rest) {ls : Array Slot} {H : Heap} {locs : List Loc} (h : lv_has ls ρ.2.2.1.2.2 lv) (hP : va_P ω.2.2.1 vwCl (cellsOf ω M) H) (hS : va_S (gA ω ρ.2.1.1.heap.size) ρ.2.1.1.heap H locs) {Qc : Array Value → State → Outcome → State → Prop} (hm : Met ω.1 y (.code y bytes n' ret :: TB) (rmD d') (PcM ω As M H.size) Qc 0 0 (gA ω H.size)) :
    va_Run ρ.1.1 ω.1 ρ.1.2.1 ρ.1.2.2 ρ.2.1.1 ρ.2.1.2.1 ρ.2.1.2.2.1 ρ.2.1.2.2.2 ρ.2.2.1.1 ρ.2.2.1.2.1 H locs ρ.2.2.2.1.1 ρ.2.2.2.1.2 0 0 (F0 ρ.2.1.2.1 pc ls st) rest (Qc As.toArray) (gA ω H.size) :=
  va_runS (Ts := TB) ⟨K.1, K.2.1, K.2.2.1, K.2.2.2.1, K.2.2.2.2.1⟩ hm ⟨callB_of (ws := .code y bytes n' ret :: TB) As.length K.2.2.2.2.1 (fun w hw => (List.mem_cons.mp hw).elim (fun e => by rw [e]; exact ⟨Lk.1 _ (by simp), tb_good (Lk.1 _ (by simp))⟩) (fun h => ⟨h, tb_good h⟩)) rfl rfl rfl (K.2.2.2.2.1 _ (Lk.1 _ (by simp))) (K.2.2.2.2.1 _ (Lk.1 _ (by simp))) Lk.2 (room_of K h1 h2), K.2.2.2.2.1 _ (Lk.1 _ (by simp))⟩
    ⟨blindM, fun U hU hW => preM_of K hP hS U hU hW _⟩ rfl rfl (h.1.trans K.2.2.2.2.2.2.2.2.2.2) hst (lv_room hcat) hd ⟨K.2.2.2.2.2.2.2.2.1.1, K.2.2.2.2.2.2.2.2.1.2⟩

theorem G_callI {post : Int32 → Mem → Prop} (K : Cx ω ρ cc own d n) (hd : decode cc pc = .ok (.invokevirtual idx, 3)) (Lk : LkV own idx C y bytes n' ret As.length) (h1 : d' + 1 ≤ d) (h2 : n' ≤ 17) (hk : isK ci i) (hc : ci < 11) (hci : vwCl[ci]? = some (C, T, N)) (hcat : (rest.map fun v => v.category).sum ≤ 8) (hst : st = As.reverse ++ .ref (adr ω i) :: rest) (hm : MtI ω y bytes n' ret d' (.ref (adr ω i) :: As) M post) (k : ∀ (r : Int32) (M' : Mem), post r M' → G ω ρ M' (pc + 3) lv (.int r :: rest)) : G ω ρ M pc lv st := fun ls H locs h hP hS =>
  va_calli (runV K hd Lk h1 h2 hk hc hci hcat hst h hP hS (hm H.size)) hS (fun q _ hq => gA_in hS.1 hq) (fun q hq => gA_in hS.1 hq) (fun r u t H1 locs1 ht _ hp hB _ _ hS1 => k r u hp ls H1 locs1 h (by rw [← ht]; exact hB) hS1)
theorem G_scallI {post : Int32 → Mem → Prop} (K : Cx ω ρ cc own d n) (hd : decode cc pc = .ok (.invokestatic idx, 3)) (Lk : LkS own idx y bytes n' ret As.length) (h1 : d' + 1 ≤ d) (h2 : n' ≤ 17) (hcat : (rest.map fun v => v.category).sum ≤ 8) (hst : st = As.reverse ++ rest) (hm : MtI ω y bytes n' ret d' As M post) (k : ∀ (r : Int32) (M' : Mem), post r M' → G ω ρ M' (pc + 3) lv (.int r :: rest)) : G ω ρ M pc lv st := fun ls H locs h hP hS =>
  va_calli (runS K hd Lk h1 h2 hcat hst h hP hS (hm H.size)) hS (fun q _ hq => gA_in hS.1 hq) (fun q hq => gA_in hS.1 hq) (fun r u t H1 locs1 ht _ hp hB _ _ hS1 => k r u hp ls H1 locs1 h (by rw [← ht]; exact hB) hS1)
theorem G_callL {post : Int64 → Mem → Prop} (K : Cx ω ρ cc own d n) (hd : decode cc pc = .ok (.invokevirtual idx, 3)) (Lk : LkV own idx C y bytes n' ret As.length) (h1 : d' + 1 ≤ d) (h2 : n' ≤ 17) (hk : isK ci i) (hc : ci < 11) (hci : vwCl[ci]? = some (C, T, N)) (hcat : (rest.map fun v => v.category).sum ≤ 8) (hst : st = As.reverse ++ .ref (adr ω i) :: rest) (hm : MtL ω y bytes n' ret d' (.ref (adr ω i) :: As) M post) (k : ∀ (r : Int64) (M' : Mem), post r M' → G ω ρ M' (pc + 3) lv (.long r :: rest)) : G ω ρ M pc lv st := fun ls H locs h hP hS =>
  va_calll (runV K hd Lk h1 h2 hk hc hci hcat hst h hP hS (hm H.size)) hS (fun q _ hq => gA_in hS.1 hq) (fun q hq => gA_in hS.1 hq) (fun r u t H1 locs1 ht _ hp hB _ _ hS1 => k r u hp ls H1 locs1 h (by rw [← ht]; exact hB) hS1)
theorem G_scallL {post : Int64 → Mem → Prop} (K : Cx ω ρ cc own d n) (hd : decode cc pc = .ok (.invokestatic idx, 3)) (Lk : LkS own idx y bytes n' ret As.length) (h1 : d' + 1 ≤ d) (h2 : n' ≤ 17) (hcat : (rest.map fun v => v.category).sum ≤ 8) (hst : st = As.reverse ++ rest) (hm : MtL ω y bytes n' ret d' As M post) (k : ∀ (r : Int64) (M' : Mem), post r M' → G ω ρ M' (pc + 3) lv (.long r :: rest)) : G ω ρ M pc lv st := fun ls H locs h hP hS =>
  va_calll (runS K hd Lk h1 h2 hcat hst h hP hS (hm H.size)) hS (fun q _ hq => gA_in hS.1 hq) (fun q hq => gA_in hS.1 hq) (fun r u t H1 locs1 ht _ hp hB _ _ hS1 => k r u hp ls H1 locs1 h (by rw [← ht]; exact hB) hS1)
theorem G_callV {post : Mem → Prop} (K : Cx ω ρ cc own d n) (hd : decode cc pc = .ok (.invokevirtual idx, 3)) (Lk : LkV own idx C y bytes n' ret As.length) (h1 : d' + 1 ≤ d) (h2 : n' ≤ 17) (hk : isK ci i) (hc : ci < 11) (hci : vwCl[ci]? = some (C, T, N)) (hcat : (rest.map fun v => v.category).sum ≤ 8) (hst : st = As.reverse ++ .ref (adr ω i) :: rest) (hm : MtV ω y bytes n' ret d' (.ref (adr ω i) :: As) M post) (k : ∀ M' : Mem, post M' → G ω ρ M' (pc + 3) lv rest) : G ω ρ M pc lv st := fun ls H locs h hP hS =>
  va_callv (runV K hd Lk h1 h2 hk hc hci hcat hst h hP hS (hm H.size)) hS (fun q _ hq => gA_in hS.1 hq) (fun q hq => gA_in hS.1 hq) (fun u t H1 locs1 ht _ hp hB _ _ hS1 => k u hp ls H1 locs1 h (by rw [← ht]; exact hB) hS1)
theorem G_scallV {post : Mem → Prop} (K : Cx ω ρ cc own d n) (hd : decode cc pc = .ok (.invokestatic idx, 3)) (Lk : LkS own idx y bytes n' ret As.length) (h1 : d' + 1 ≤ d) (h2 : n' ≤ 17) (hcat : (rest.map fun v => v.category).sum ≤ 8) (hst : st = As.reverse ++ rest) (hm : MtV ω y bytes n' ret d' As M post) (k : ∀ M' : Mem, post M' → G ω ρ M' (pc + 3) lv rest) : G ω ρ M pc lv st := fun ls H locs h hP hS =>
  va_callv (runS K hd Lk h1 h2 hcat hst h hP hS (hm H.size)) hS (fun q _ hq => gA_in hS.1 hq) (fun q hq => gA_in hS.1 hq) (fun u t H1 locs1 ht _ hp hB _ _ hS1 => k u hp ls H1 locs1 h (by rw [← ht]; exact hB) hS1)
end GC
