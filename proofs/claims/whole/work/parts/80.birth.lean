/-! objects are made: the worlds of constructors -/
def PW (ω : WD) (n : Nat) (E : Nat → va_E) (H : Heap) : Prop := ∀ i, i < n → va_at ω.2.2.1 vwCl (adr ω i, E i) H
def upE (E : Nat → va_E) (i : Nat) (e : va_E) : Nat → va_E := fun j => if j = i then e else E j
theorem upE_eq {E : Nat → va_E} {i j : Nat} {e : va_E} (h : j = i) : upE E i e j = e := if_pos h
theorem upE_ne {E : Nat → va_E} {i j : Nat} {e : va_E} (h : j ≠ i) : upE E i e j = E j := if_neg h
theorem PW.kept {ω : WD} {n : Nat} {E : Nat → va_E} {H H1 : Heap} (h : PW ω n E H) (o : ∀ q, q < H.size → H1[q]? = H[q]?) : PW ω n E H1 := fun i hi => (h i hi).kept (o _ (h i hi).lt)
theorem PW.push {ω : WD} {n : Nat} {E : Nat → va_E} {H H1 : Heap} (h : PW ω n E H) (e1 : va_at ω.2.2.1 vwCl (adr ω n, E n) H1) (o : ∀ q, q < H.size → H1[q]? = H[q]?) : PW ω (n + 1) E H1 := fun i hi => by
  by_cases z : i = n
  · rw [z]; exact e1
  · exact h.kept o i (by omega)
/-- may there be arrays of these -/
def AOs (U : State) : Prop := va_AO "StepCalls$Group" U ∧ va_AO "StepCalls$Image" U ∧ va_AO "StepCalls$Sheet" U ∧ (Cond.arrayOver (.array .int)).before #[] U = true
theorem aoa_moved {u U : State} (hvm : u.vm.Alike U.vm) (h : (Cond.arrayOver (.array .int)).before #[] u = true) : (Cond.arrayOver (.array .int)).before #[] U = true := by
  obtain ⟨comp, c, k, h1, h2, h3, h4, h5⟩ := arrayOverA_spec h
  obtain ⟨k', hk', he⟩ := hvm.2.2 _ _ h3
  have hi : (U.vm.classes.findIdx? fun (x : Class) => match x.kind with | .array component _ => component == comp | _ => false) = some c := by
    rw [hvm.findIdx?_eq _ (fun _ => rfl)]; exact h2
  have hkind : k'.kind = .array comp (.array .int) := by rw [he]; exact h4
  have f1 : U.vm.findClass (FieldType.array .int).toString = some comp := by rw [hvm.findClass]; exact h1
  have f2 : U.vm.findClass ("[" ++ (FieldType.array .int).toString) = some c := by rw [hvm.findClass]; exact h5
  unfold Cond.before Cond.holds
  simp only [Cond.value]
  rw [f1, Option.bind_some]
  refine (congrArg (fun o : Option Nat => (o.bind (fun c => (U.vm.classes[c]?).map fun (k : Class) => match k.kind with | .array _ ty => decide (ty = FieldType.array .int) && decide (U.vm.findClass ("[" ++ (FieldType.array .int).toString) = some c) | _ => false) == some true)) hi).trans ?_
  simp [hk', hkind, f2]
theorem AOs.moved {u U : State} (hvm : u.vm.Alike U.vm) (h : AOs u) : AOs U := ⟨h.1.moved hvm, h.2.1.moved hvm, h.2.2.1.moved hvm, aoa_moved hvm h.2.2.2⟩
/-- THE JUDGEMENT where objects are made: n cells stand, with the contents E; then perhaps one whose constructor is still to run -/
def Bj (ω : WD) (b0 : Nat) (ρ : FR) (n : Nat) (E : Nat → va_E) (pd : List (Nat × List Value)) (cs ss pc : Nat) (lv : List (Nat × Value)) (st : List Value) : Prop :=
  ∀ (ls : Array Slot) (H : Heap) (locs : List Loc), lv_has ls ρ.2.2.1.2.2 lv → PW ω n E H → (∀ p ∈ pd, va_at ω.2.2.1 vwCl (adr ω n, .inr p) H) → H.size = b0 + n + pd.length → va_S (fun q => b0 ≤ q) ρ.2.1.1.heap H locs →
    W ρ.1.1 ω.1 ρ.1.2.1 ρ.1.2.2 ρ.2.1.1 ρ.2.1.2.1 ρ.2.1.2.2.1 ρ.2.1.2.2.2 ρ.2.2.1.1 ρ.2.2.1.2.1 H locs cs ss ρ.2.2.2.2 (F0 ρ.2.1.2.1 pc ls st)
def Kx (ω : WD) (b0 : Nat) (ρ : FR) (cc : ByteArray) (own : String) (d nL kc ks : Nat) : Prop :=
  ρ.1.1.tables.exec = Jvm.exec ∧ ρ.2.2.1.2.1.code = cc ∧ ρ.2.2.1.2.1.maxLocals = nL ∧ ρ.2.1.1.vm.findClass own = some ρ.2.1.2.1.cls ∧ (∀ w ∈ TB, w.before ρ.2.1.2.2.1 ρ.2.1.1 = true) ∧ va_K ω.2.2.1 vwCl (tysOf ω) ρ.2.1.1 ∧ (∀ i, adr ω i = b0 + i) ∧ (d ≤ ρ.1.2.2.frames ∧ 36 * d ≤ ρ.1.2.2.locals) ∧ b0 ≤ ρ.2.1.1.heap.size ∧ AOs ρ.2.1.1 ∧ ρ.2.2.1.2.2 = nL ∧ kc ≤ ρ.1.2.2.cells ∧ ks ≤ ρ.1.2.2.slots
/-- what a constructor begins with -/
def PreB (ω : WD) (b0 n : Nat) (E : Nat → va_E) (pd : List (Nat × List Value)) (U : State) : Prop := PW ω n E U.heap ∧ (∀ p ∈ pd, va_at ω.2.2.1 vwCl (adr ω n, .inr p) U.heap) ∧ U.heap.size = b0 + n + pd.length ∧ va_K ω.2.2.1 vwCl (tysOf ω) U ∧ (∀ i, adr ω i = b0 + i) ∧ AOs U
/-- A CONSTRUCTOR'S CONTRACT: the object at x has been made; behind it k cells more stand, with the contents E -/
def CtB (ω : WD) (b0 : Nat) (y : MethodName) (cc : ByteArray) (nL d k ms x ci : Nat) (fs : List Value) (As : List Value) (E : Nat → va_E) : Prop := Met ω.1 y (.code y cc nL none :: TB) { frames := d, cells := k, slots := ms, locals := 36 * d } (va_Pc (.ref (adr ω x) :: As) (PreB ω b0 x E [(ci, fs)])) (va_Qv (fun _ : Unit => True) (fun _ t => PW ω (x + 1 + k) E t.heap ∧ t.heap.size = b0 + (x + 1 + k)) (fun q => b0 ≤ q)) k ms (fun q => b0 ≤ q)
theorem CtB.start {ω : WD} {b0 : Nat} {y : MethodName} {cc : ByteArray} {nL d k ms x ci : Nat} {fs As : List Value} {E : Nat → va_E} {own : String} (hy : plainName y.cls = true) (hown : y.cls = own) (hnm : y.name = "<init>") (hn : (lg_sl (.ref (adr ω x) :: As)).length ≤ nL)
    (h : ∀ ρ : FR, Kx ω b0 ρ cc own d nL k ms → ρ.2.2.1.1.name = "<init>" → (∀ (pc : Nat) (lv : List (Nat × Value)), decode cc pc = .ok (.return_, 1) → Bj ω b0 ρ (x + 1 + k) E [] k ms pc lv []) → Bj ω b0 ρ (x + 1) (upE E x (.inr (ci, fs))) [] 0 0 0 (lv_args 0 (.ref (adr ω x) :: As)) []) : CtB ω b0 y cc nL d k ms x ci fs As E := by
  refine Met.ofW (cc := cc) (maxL := nL) (ret := none) hy rfl ?_
  intro p e s m as below meth c s₁ B hml hv
  obtain ⟨rfl, hP, hp, hz, hK, hA, hO⟩ := hv
  have hts0 : ∀ w ∈ (Cond.code y cc nL none :: TB), w.before (Value.ref (adr ω x) :: As).toArray s = true := atoms_spec (ws := .code y cc nL none :: TB) B.pre
  have hfc : s.vm.findClass own = some m.cls := by rw [← hown]; exact findClass_of_methodNamed B.named
  have hin : meth.name = "<init>" := by rw [← hnm]; exact (name_of_methodNamed B.named B.method).1
  have hlocks := B.notSynchronized
  have hr := B.returns
  have hx := B.exec
  have hb := B.bytes
  have kk := h ((p, e, { frames := d, cells := k, slots := ms, locals := 36 * d }), (s, m, (Value.ref (adr ω x) :: As).toArray, below), (meth, c, nL), (0, 0), MQ below (va_Qv (fun _ : Unit => True) (fun _ t => PW ω (x + 1 + k) E t.heap ∧ t.heap.size = b0 + (x + 1 + k)) (fun q => b0 ≤ q)) (Value.ref (adr ω x) :: As).toArray s k ms (fun q => b0 ≤ q))
    ⟨hx, hb, hml, hfc, fun w hw => hts0 w (List.mem_cons_of_mem _ hw), hK, hA, ⟨Nat.le_refl _, Nat.le_refl _⟩, by show b0 ≤ s.heap.size; rw [hz]; omega, hO, rfl, Nat.le_refl _, Nat.le_refl _⟩ hin ?_
  · have hl := lv_entry (.ref (adr ω x) :: As) (n := nL) hn
    rw [lg_entry_eq]
    refine kk _ s.heap [] hl (fun i hi => ?_) (fun p hp => by cases hp) (by rw [hz]; rfl) va_S.rf
    by_cases z : i = x
    · rw [z, upE_eq rfl]; exact hp _ (List.mem_singleton.mpr rfl)
    · rw [upE_ne z]; exact hP i (by omega)
  · intro pc lv hd ls H locs hl hPW _ hsz hS
    exact W.vret hx hb hr (fun t ht hW => ⟨⟨(), rfl, trivial, by rw [ht]; exact hPW, by rw [ht]; exact hsz⟩, hS.F ht⟩) hS.2.2 hd hlocks
section BR
variable {ω : WD} {b0 : Nat} {ρ : FR} {n : Nat} {E : Nat → va_E} {pd : List (Nat × List Value)} {cs ss pc idx : Nat} {cc : ByteArray} {own : String} {d nL kc ks : Nat} {lv : List (Nat × Value)} {rest st : List Value}
theorem Bj.to {E' : Nat → va_E} (he : ∀ j, j < n → E' j = E j) (k : Bj ω b0 ρ n E' pd cs ss pc lv st) : Bj ω b0 ρ n E pd cs ss pc lv st := fun ls H locs h hP hp hz hS => k ls H locs h (fun i hi => by rw [he i hi]; exact hP i hi) hp hz hS
theorem Bj.toC {E' : Nat → va_E} (he : ∀ j, j < n → ∀ H, va_at ω.2.2.1 vwCl (adr ω j, E j) H → va_at ω.2.2.1 vwCl (adr ω j, E' j) H) (k : Bj ω b0 ρ n E' pd cs ss pc lv st) : Bj ω b0 ρ n E pd cs ss pc lv st := fun ls H locs h hP hp hz hS => k ls H locs h (fun i hi => he i hi H (hP i hi)) hp hz hS
theorem B_wide {cs' ss' : Nat} (h1 : cs ≤ cs') (h2 : ss ≤ ss') (k : Bj ω b0 ρ n E pd cs' ss' pc lv st) : Bj ω b0 ρ n E pd cs ss pc lv st := fun ls H locs h hP hp hz hS => W.widen h1 h2 (k ls H locs h hP hp hz hS)
theorem B_sub {lv' : List (Nat × Value)} (is : List Nat) (hl : lv_pick lv is = lv') (k : Bj ω b0 ρ n E pd cs ss pc lv' st) : Bj ω b0 ρ n E pd cs ss pc lv st := fun ls H locs h hP hp hz hS => k ls H locs (lv_sub h is hl) hP hp hz hS
theorem B_aload {a : Fin 4} {x : Nat} (K : Kx ω b0 ρ cc own d nL kc ks) (hd : decode cc pc = .ok (.aload_n a, 1)) (j : Nat) (hj : lv[j]? = some ((a : Nat), .ref x)) (k : Bj ω b0 ρ n E pd cs ss (pc + 1) lv (.ref x :: rest)) : Bj ω b0 ρ n E pd cs ss pc lv rest := fun ls H locs h hP hp hz hS => lv_aload_n K.1 K.2.1 hd rfl (lv_at h j hj) (k ls H locs h hP hp hz hS)
theorem B_iload {a : Fin 4} {x : Int32} (K : Kx ω b0 ρ cc own d nL kc ks) (hd : decode cc pc = .ok (.iload_n a, 1)) (j : Nat) (hj : lv[j]? = some ((a : Nat), .int x)) (k : Bj ω b0 ρ n E pd cs ss (pc + 1) lv (.int x :: rest)) : Bj ω b0 ρ n E pd cs ss pc lv rest := fun ls H locs h hP hp hz hS => lv_iload_n K.1 K.2.1 hd rfl (lv_at h j hj) (k ls H locs h hP hp hz hS)
theorem B_dup {va : Value} (K : Kx ω b0 ρ cc own d nL kc ks) (hd : decode cc pc = .ok (.dup, 1)) (hc : va.category = 1) (k : Bj ω b0 ρ n E pd cs ss (pc + 1) lv (va :: va :: rest)) : Bj ω b0 ρ n E pd cs ss pc lv (va :: rest) := fun ls H locs h hP hp hz hS => lv_dup K.1 K.2.1 hd hc (k ls H locs h hP hp hz hS)
theorem B_iconst {a : Int} {v : Int32} (K : Kx ω b0 ρ cc own d nL kc ks) (hd : decode cc pc = .ok (.iconst a, 1)) (hv : Int32.ofInt a = v) (k : Bj ω b0 ρ n E pd cs ss (pc + 1) lv (.int v :: rest)) : Bj ω b0 ρ n E pd cs ss pc lv rest := fun ls H locs h hP hp hz hS => lv_iconst K.1 K.2.1 hd hv (k ls H locs h hP hp hz hS)
theorem B_bipush {a : Int} {v : Int32} (K : Kx ω b0 ρ cc own d nL kc ks) (hd : decode cc pc = .ok (.bipush a, 2)) (hv : (Int8.ofInt a).toInt32 = v) (k : Bj ω b0 ρ n E pd cs ss (pc + 2) lv (.int v :: rest)) : Bj ω b0 ρ n E pd cs ss pc lv rest := fun ls H locs h hP hp hz hS => lv_bipush K.1 K.2.1 hd hv (k ls H locs h hP hp hz hS)
theorem B_sipush {a : Int} {v : Int32} (K : Kx ω b0 ρ cc own d nL kc ks) (hd : decode cc pc = .ok (.sipush a, 3)) (hv : (Int16.ofInt a).toInt32 = v) (k : Bj ω b0 ρ n E pd cs ss (pc + 3) lv (.int v :: rest)) : Bj ω b0 ρ n E pd cs ss pc lv rest := fun ls H locs h hP hp hz hS => lv_sipush K.1 K.2.1 hd hv (k ls H locs h hP hp hz hS)
theorem B_istore {a : Fin 4} {x : Int32} {lv' : List (Nat × Value)} (K : Kx ω b0 ρ cc own d nL kc ks) (hd : decode cc pc = .ok (.istore_n a, 1)) (ha : (a : Nat) < nL) (hl : lset lv (a : Nat) (.int x) = lv') (k : Bj ω b0 ρ n E pd cs ss (pc + 1) lv' rest) : Bj ω b0 ρ n E pd cs ss pc lv (.int x :: rest) := fun ls H locs h hP hp hz hS => lv_istore_n K.1 K.2.1 hd rfl h (K.2.2.2.2.2.2.2.2.2.2.1 ▸ ha) hl (fun ls2 h2 => k ls2 H locs h2 hP hp hz hS)
theorem B_astore {a : Fin 4} {x : Nat} {lv' : List (Nat × Value)} (K : Kx ω b0 ρ cc own d nL kc ks) (hd : decode cc pc = .ok (.astore_n a, 1)) (ha : (a : Nat) < nL) (hl : lset lv (a : Nat) (.ref x) = lv') (k : Bj ω b0 ρ n E pd cs ss (pc + 1) lv' rest) : Bj ω b0 ρ n E pd cs ss pc lv (.ref x :: rest) := fun ls H locs h hP hp hz hS => lv_astore_n K.1 K.2.1 hd rfl h (K.2.2.2.2.2.2.2.2.2.2.1 ▸ ha) hl (fun ls2 h2 => k ls2 H locs h2 hP hp hz hS)
theorem B_iinc {a : Nat} {z : Int} {x v : Int32} {lv' : List (Nat × Value)} (K : Kx ω b0 ρ cc own d nL kc ks) (hd : decode cc pc = .ok (.iinc a z, 3)) (j : Nat) (hj : lv[j]? = some (a, .int x)) (hv : x + Int32.ofInt z = v) (ha : a < nL) (hl : lset lv a (.int v) = lv') (k : Bj ω b0 ρ n E pd cs ss (pc + 3) lv' rest) : Bj ω b0 ρ n E pd cs ss pc lv rest := fun ls H locs h hP hp hz hS => lv_iinc K.1 K.2.1 hd h hj hv (K.2.2.2.2.2.2.2.2.2.2.1 ▸ ha) hl (fun ls2 h2 => k ls2 H locs h2 hP hp hz hS)
theorem B_icmp_ge {x y : Int32} {off : Int} {tgt : Nat} (K : Kx ω b0 ρ cc own d nL kc ks) (hd : decode cc pc = .ok (.if_icmp .ge off, 3)) (ht : (pc : Int) + off = (tgt : Int)) (kt : y ≤ x → Bj ω b0 ρ n E pd cs ss tgt lv rest) (kf : ¬ y ≤ x → Bj ω b0 ρ n E pd cs ss (pc + 3) lv rest) : Bj ω b0 ρ n E pd cs ss pc lv (.int y :: .int x :: rest) := fun ls H locs h hP hp hz hS => lv_icmp_ge K.1 K.2.1 hd ht (fun c => kt c ls H locs h hP hp hz hS) (fun c => kf c ls H locs h hP hp hz hS)
theorem B_goto {off : Int} {tgt : Nat} (K : Kx ω b0 ρ cc own d nL kc ks) (hd : decode cc pc = .ok (.goto off, 3)) (ht : (pc : Int) + off = (tgt : Int)) (k : Bj ω b0 ρ n E pd cs ss tgt lv rest) : Bj ω b0 ρ n E pd cs ss pc lv rest := fun ls H locs h hP hp hz hS => lv_goto K.1 K.2.1 hd ht (k ls H locs h hP hp hz hS)
/-- Object's own constructor -/
theorem B_obj {x : Nat} (K : Kx ω b0 ρ cc own d nL kc ks) (hd : decode cc pc = .ok (.invokespecial idx, 3)) (a b e : Nat) (h1 : lw_tbl[a]? = some (.methodLink own idx Lib.objectInit)) (h2 : lw_tbl[b]? = some (.instanceMethod Lib.objectInit)) (h3 : lw_tbl[e]? = some (.code Lib.objectInit ⟨#[0xb1]⟩ 1 none)) (h4 : 1 ≤ d) (hcat : (rest.map fun v => v.category).sum ≤ 8) (k : Bj ω b0 ρ n E pd cs ss (pc + 3) lv rest) : Bj ω b0 ρ n E pd cs ss pc lv (.ref x :: rest) := fun ls H locs h hP hp hz hS => by
  have hr := K.2.2.2.2.2.2.2.1
  refine W.objInit K.1 K.2.1 K.2.2.2.1 (K.2.2.2.2.1 _ (tb_of a ⟨h1, rfl⟩)) (K.2.2.2.2.1 _ (tb_of b ⟨h2, rfl⟩)) (K.2.2.2.2.1 _ (tb_of e ⟨h3, rfl⟩)) rfl (h.1.trans (K.2.2.2.2.2.2.2.2.2.2.1.trans K.2.2.1.symm)) rfl hd (by omega) ?_ (k ls H locs h hP hp hz hS)
  show 2 * 0 + (rest.map fun v => v.category).sum + 12 ≤ _
  omega
theorem adrH (K : Kx ω b0 ρ cc own d nL kc ks) {H : Heap} (hz : H.size = b0 + n + ([] : List (Nat × List Value)).length) : adr ω n = H.size := by
  rw [K.2.2.2.2.2.2.1 n, hz]
  rfl
theorem bS {H H1 : Heap} {locs : List Loc} (hS : va_S (fun q => b0 ≤ q) ρ.2.1.1.heap H locs) (z : H.size ≤ H1.size) (o : ∀ q, q < H.size → H1[q]? = H[q]?) : va_S (fun q => b0 ≤ q) ρ.2.1.1.heap H1 locs := ⟨Nat.le_trans hS.1 z, fun q h1 h2 => (o q (Nat.lt_of_lt_of_le h1 hS.1)).trans (hS.2.1 q h1 h2), hS.2.2⟩
/-- new int[N] -/
theorem B_newI {N : Nat} {v : Int32} (K : Kx ω b0 ρ cc own d nL kc ks) (hd : decode cc pc = .ok (.newarray .int, 2)) (a : Nat) (ha : lw_tbl[a]? = some (.arrayClass .int)) (hv : v = nI N) (hN : N ≤ 1000) (hE : E n = .inl (ω.2.2.2.1 0, N, .inl (fun _ => 0))) (hc : cs + 1 ≤ kc) (hs : ss + N ≤ ks) (k : Bj ω b0 ρ (n + 1) E [] (cs + 1) (ss + N) (pc + 2) lv (.ref (adr ω n) :: rest)) : Bj ω b0 ρ n E [] cs ss pc lv (.int v :: rest) := fun ls H locs h hP _ hz hS => by
  have hA := adrH K hz
  obtain ⟨hx, hb, -, -, hts, hK, -, -, -, -, -, hk1, hk2⟩ := K
  refine va_newaK (atype := .int) (N := N) hx hb (hts _ (tb_of a ⟨ha, rfl⟩)) rfl hd rfl (by rw [hv]; exact nI_pos (by omega)) (by rw [hv]; exact nI_clamp (by omega)) (by show N * 4 ≤ _; omega) (by omega) (by omega) (h := H.size) rfl (fun H1 cA e1 z1 o1 hAr hNm => ?_)
  have hcA : cA = ω.2.2.2.1 0 := Option.some.inj (hNm.symm.trans (hK.2 0 _ rfl).2)
  rw [← hA]
  refine k ls H1 locs h (hP.push ?_ o1) (fun p hp => by cases hp) (by rw [z1, hz]; rfl) (bS hS (by omega) o1)
  rw [hE, hA]
  show H1[H.size]? = some (vp_cell _ _)
  rw [e1, hcA]
  rfl
/-- new boolean[N] -/
theorem B_newZ {N : Nat} {v : Int32} (K : Kx ω b0 ρ cc own d nL kc ks) (hd : decode cc pc = .ok (.newarray .boolean, 2)) (a : Nat) (ha : lw_tbl[a]? = some (.arrayClass .boolean)) (hv : v = nI N) (hN : N ≤ 1000) (hE : E n = .inl (ω.2.2.2.1 1, N, .inl (fun _ => 0))) (hc : cs + 1 ≤ kc) (hs : ss + N ≤ ks) (k : Bj ω b0 ρ (n + 1) E [] (cs + 1) (ss + N) (pc + 2) lv (.ref (adr ω n) :: rest)) : Bj ω b0 ρ n E [] cs ss pc lv (.int v :: rest) := fun ls H locs h hP _ hz hS => by
  have hA := adrH K hz
  obtain ⟨hx, hb, -, -, hts, hK, -, -, -, -, -, hk1, hk2⟩ := K
  refine va_newaK (atype := .boolean) (N := N) hx hb (hts _ (tb_of a ⟨ha, rfl⟩)) rfl hd rfl (by rw [hv]; exact nI_pos (by omega)) (by rw [hv]; exact nI_clamp (by omega)) (by show N * 1 ≤ _; omega) (by omega) (by omega) (h := H.size) rfl (fun H1 cA e1 z1 o1 hAr hNm => ?_)
  have hcA : cA = ω.2.2.2.1 1 := Option.some.inj (hNm.symm.trans (hK.2 1 _ rfl).2)
  rw [← hA]
  refine k ls H1 locs h (hP.push ?_ o1) (fun p hp => by cases hp) (by rw [z1, hz]; rfl) (bS hS (by omega) o1)
  rw [hE, hA]
  show H1[H.size]? = some (vp_cell _ _)
  rw [e1, hcA]
  rfl
/-- new C[N] -/
theorem B_newQ {C : String} {N t : Nat} {v : Int32} (K : Kx ω b0 ρ cc own d nL kc ks) (hd : decode cc pc = .ok (.anewarray idx, 3)) (a : Nat) (ha : lw_tbl[a]? = some (.classLink own idx C)) (hao : va_AO C ρ.2.1.1) (ht : (tysOf ω)[t]? = some (ω.2.2.2.1 t, .object C)) (hv : v = nI N) (hN : N ≤ 1000) (hE : E n = .inl (ω.2.2.2.1 t, N, .inr (.inr (.inr (.inr (fun _ => none)))))) (hc : cs + 1 ≤ kc) (hs : ss + N ≤ ks) (k : Bj ω b0 ρ (n + 1) E [] (cs + 1) (ss + N) (pc + 3) lv (.ref (adr ω n) :: rest)) : Bj ω b0 ρ n E [] cs ss pc lv (.int v :: rest) := fun ls H locs h hP _ hz hS => by
  have hA := adrH K hz
  obtain ⟨hx, hb, -, hown, hts, hK, -, -, -, -, -, hk1, hk2⟩ := K
  have hvN : v.toNatClampNeg = N := by rw [hv]; exact nI_clamp (by omega)
  refine W.anew hx hb hown (hts _ (tb_of a ⟨ha, rfl⟩)) (va_AO.use hao) rfl hd rfl (by rw [hv]; exact nI_pos (by omega)) (by omega) (by omega) (by omega) (fun cA kA comp f1 f2 f3 f4 => ?_)
  obtain ⟨kA', comp', -, -, -, g4⟩ := (hK.2 t _ ht).2
  have hcA : cA = ω.2.2.2.1 t := Option.some.inj (f1.symm.trans g4)
  rw [hvN]
  generalize hH1 : H.push ({ cls := cA, slots := Array.replicate N .null, vm := .none } : Cell) = H1
  have z1 : H1.size = H.size + 1 := by rw [← hH1, Array.size_push]
  have e1 : H1[H.size]? = some (arrV cA N (fun _ => .null)) := by rw [← hH1, Array.getElem?_push_size, ← arrV_new]
  have o1 : ∀ q : Nat, q < H.size → H1[q]? = H[q]? := fun q hq => by rw [← hH1, Array.getElem?_push, if_neg (Nat.ne_of_lt hq)]
  rw [← hA]
  refine k ls H1 locs h (hP.push ?_ o1) (fun p hp => by cases hp) (by rw [z1, hz]; rfl) (bS hS (by omega) o1)
  rw [hE, hA]
  show H1[H.size]? = some (vp_cell _ _)
  rw [e1, hcA]
  rfl
/-- new C: its constructor is still to run -/
theorem B_new {C : String} {T : u_T} {N ci : Nat} {fs : List Value} (K : Kx ω b0 ρ cc own d nL kc ks) (hd : decode cc pc = .ok (.new idx, 3)) (hci : vwCl[ci]? = some (C, T, N)) (hin : ∀ w ∈ u_ws C T N, w ∈ TB) (ty : Nat → FieldType) (hty : ∀ k, k < N → parseFieldDescriptor (T k).2.2.1 = some (ty k)) (a b c' : Nat) (h1 : lw_tbl[a]? = some (.classLink own idx C)) (h2 : lw_tbl[b]? = some (.instantiable C N)) (h3 : lw_tbl[c']? = some (.initialized C)) (hfs : ∀ j, j < N → defaultValue (ty j) = vp_V fs j) (hc : cs + 1 ≤ kc) (hs : ss + N ≤ ks) (k : Bj ω b0 ρ n E [(ci, fs)] (cs + 1) (ss + N) (pc + 3) lv (.ref (adr ω n) :: rest)) : Bj ω b0 ρ n E [] cs ss pc lv rest := fun ls H locs h hP _ hz hS => by
  have hA := adrH K hz
  obtain ⟨hx, hb, -, hown, hts, hK, -, -, -, -, -, hk1, hk2⟩ := K
  have hKn := hK.1 ci _ hci
  refine W.newcK hx hb hown (hts _ (tb_of a ⟨h1, rfl⟩)) (hts _ (tb_of b ⟨h2, rfl⟩)) (hts _ (tb_of c' ⟨h3, rfl⟩)) rfl hd (by omega) (by omega) hKn.2.1 (h := H.size) rfl (fun H1 kC hkC e1 z1 o1 => ?_)
  rw [← hA]
  refine k ls H1 locs h (hP.kept o1) (fun p hp => ?_) (by rw [z1, hz]; rfl) (bS hS (by omega) o1)
  obtain rfl := List.mem_singleton.mp hp
  rw [hA]
  exact ⟨_, hci, (u_born ty hts hin hKn hkC e1 hty).to hfs⟩
/-- its constructor runs -/
theorem B_init {y : MethodName} {bytes : ByteArray} {n' d' k' ms ci : Nat} {fs As : List Value} (K : Kx ω b0 ρ cc own d nL kc ks) (hd : decode cc pc = .ok (.invokespecial idx, 3)) (a b c' e : Nat) (h1 : lw_tbl[a]? = some (.methodLink own idx y)) (h2 : lw_tbl[b]? = some (.instanceMethod y)) (h3 : lw_tbl[c']? = some (.initialized y.cls)) (h4 : lw_tbl[e]? = some (.code y bytes n' none)) (hy : y.name = "<init>") (hy2 : y.cls ≠ "java/lang/invoke/MethodHandle" ∧ y.cls ≠ "java/lang/invoke/VarHandle" ∧ (parseMethodDescriptor y.desc).map (fun d => d.parameters.length) = some As.length) (hd1 : d' + 1 ≤ d) (hn' : n' ≤ 17) (hcat : (rest.map fun v => v.category).sum ≤ 8) (hst : st = As.reverse ++ .ref (adr ω n) :: rest) (hc : cs + k' ≤ kc) (hs : ss + ms ≤ ks) (hm : CtB ω b0 y bytes n' d' k' ms n ci fs As E) (k : Bj ω b0 ρ (n + 1 + k') E [] (cs + k') (ss + ms) (pc + 3) lv rest) : Bj ω b0 ρ n E [(ci, fs)] cs ss pc lv st := fun ls H locs h hP hp hz hS => by
  obtain ⟨hx, hb, hml, hown, hts, hK, hadr, ⟨hr1, hr2⟩, hb0, hO, hnl, hk1, hk2⟩ := K
  have hG : GoodIn TB (Cond.code y bytes n' none :: TB) := fun w hw => by
    rcases List.mem_cons.mp hw with rfl | hw
    · exact ⟨tb_of e ⟨h4, rfl⟩, tb_good (tb_of e ⟨h4, rfl⟩)⟩
    · exact ⟨hw, tb_good hw⟩
  refine va_callv (va_runI (As := As) (rest := rest) (b := adr ω n) ⟨hx, hb, hml, hown, hts⟩ hm (cwI As.length hts hG rfl rfl rfl (hts _ (tb_of c' ⟨h3, rfl⟩)) (hts _ (tb_of a ⟨h1, rfl⟩)) (hts _ (tb_of b ⟨h2, rfl⟩)) hy hy2 ⟨by show d' + 1 ≤ _; omega, by show 8 + (n' + 11) + 36 * d' ≤ _; omega⟩)
    ⟨fun a U g mk q => ?_, fun U hU hW => ?_⟩ rfl rfl (h.1.trans hnl) hst (lv_room hcat) hd ⟨by omega, by omega⟩) hS (fun q _ hq => hq) (fun q hq => hq) (fun u t H1 locs1 ht _ _ hB _ _ hS1 => ?_)
  · obtain ⟨q0, q1, q2, q3, q4, q5, q6⟩ := q
    exact ⟨q0, q1, q2, q3, va_K.moved (u := U) (U := U.calling g mk a) (Vm.Alike.refl U.vm) q4, q5, AOs.moved (u := U) (U := U.calling g mk a) (Vm.Alike.refl U.vm) q6⟩
  · exact ⟨rfl, by rw [hU]; exact hP, by rw [hU]; exact hp, by rw [hU]; exact hz, va_K.moved hW.alike hK, hadr, hO.moved hW.alike⟩
  · exact k ls H1 locs1 h (by rw [← ht]; exact hB.1) (fun p hp => by cases hp) (by rw [← ht]; exact hB.2) hS1
/-- a field of the object that is made -/
theorem B_put {C : String} {T : u_T} {N ci x q : Nat} {v : Value} {ty : FieldType} {fs fs' : List Value} (K : Kx ω b0 ρ cc own d nL kc ks) (hx0 : x < n) (hci : vwCl[ci]? = some (C, T, N)) (hin : ∀ w ∈ u_ws C T N, w ∈ TB) (ty0 : Nat → FieldType) (hty : ∀ k, k < N → parseFieldDescriptor (T k).2.2.1 = some (ty0 k)) (hnm : ∀ a, a < N → ∀ b, b < N → a ≠ b → (T a).2.1 ≠ (T b).2.1) (hq : q < N) (a : Nat) (ha : lw_tbl[a]? = some (.fieldLink own idx C (T q).2.1 (T q).2.2.1)) (hsame : (T q).1 = C) (hfin : (T q).2.2.2 = false ∨ ((T q).2.2.2 = true ∧ ρ.2.2.1.1.name = "<init>" ∧ (T q).1 = own)) (hdsc : parseFieldDescriptor (T q).2.2.1 = some ty) (hn : narrow ty v = v) (hfit : fits ty v = true) (hlen : q < fs.length) (hfs : fs.set q v = fs') (hd : decode cc pc = .ok (.putfield idx, 3)) (k : Bj ω b0 ρ n (upE E x (.inr (ci, fs'))) pd cs ss (pc + 3) lv rest) : Bj ω b0 ρ n (upE E x (.inr (ci, fs))) pd cs ss pc lv (v :: .ref (adr ω x) :: rest) := fun ls H locs h hP hp hz hS => by
  obtain ⟨hx, hb, hml, hown, hts, hK, hadr, ⟨hr1, hr2⟩, hb0, hO, hnl, hk1, hk2⟩ := K
  have hl : (Cond.fieldLink own idx C (T q).2.1 (T q).2.2.1).before ρ.2.1.2.2.1 ρ.2.1.1 = true := hts _ (tb_of a ⟨ha, rfl⟩)
  have hap := va_apart (own := own) hts hin ty0 hty hnm hK hci
  have hPx := hP x hx0
  rw [upE_eq rfl] at hPx
  obtain ⟨r, g1, cell, q1, q2, q3, q4⟩ := hPx
  obtain rfl : r = (C, T, N) := Option.some.inj (g1.symm.trans hci)
  obtain ⟨hSl, hfc, kC, hkC, hkind⟩ := hK.1 ci _ hci
  obtain ⟨cf, kf, fi, f, hi, hsl⟩ := hSl q hq
  have hlays := u_lays hts hin hq
  have hst := (u_facts hfc hkC hlays hi).1
  have hi' : ρ.2.1.1.fieldFound? C (T q).2.1 (T q).2.2.1 = some (cf, kf, fi, f) := by rw [← hsame]; exact hi
  have fin : ∀ H' : Heap, H'[adr ω x]? = some (cell.setSlot f.slot v) → H'.size = H.size → (∀ z, z ≠ adr ω x → H'[z]? = H[z]?) → W ρ.1.1 ω.1 ρ.1.2.1 ρ.1.2.2 ρ.2.1.1 ρ.2.1.2.1 ρ.2.1.2.2.1 ρ.2.1.2.2.2 ρ.2.2.1.1 ρ.2.2.1.2.1 H' (locs ++ [⟨adr ω x, f.slot⟩]) cs ss ρ.2.2.2.2 { F0 ρ.2.1.2.1 pc ls (v :: .ref (adr ω x) :: rest) with pc := pc + 3, stack := rest } := fun H' e1 e2 e3 => by
    rw [hsl] at e1
    refine k ls H' _ h (fun i hi2 => ?_) (fun p hp2 => (hp p hp2).kept (e3 _ ?_)) (by rw [e2]; exact hz) (hS.put e2 e3 (by rw [hadr]; exact Nat.le_add_right _ _))
    · by_cases z : i = x
      · rw [z, upE_eq rfl, ← hfs]
        exact ⟨_, hci, t_OB.to (V := updV (vp_V fs) q v) ⟨_, e1, q2, q3, t_set q4 hap hq v⟩ (fun j _ => vp_updV_set hlen v j)⟩
      · rw [upE_ne z]
        have hPi := hP i hi2
        rw [upE_ne z] at hPi
        exact hPi.kept (e3 _ (by show adr ω i ≠ _; rw [hadr, hadr]; omega))
    · show adr ω n ≠ _
      rw [hadr, hadr]; omega
  rcases hfin with hfin | ⟨hfin, hin2, hdecl⟩
  · have hlay := hts _ (hin _ (u_in_lay hq))
    unfold u_lay at hlay
    rw [if_neg (by rw [hfin]; decide)] at hlay
    have h6 := u_store hfc hkC hkind hlay hi hdsc hn hfit
    exact W.putK hx hb (f := f) ⟨hown, hl, ⟨_, _, _, hi'⟩, hst⟩ (by rw [q2]; exact h6) q1 q3 (by rw [hsl]; exact k2_hasslot (q4 q hq)) rfl rfl hd fin
  · have hlay := hts _ (hin _ (u_in_lay hq))
    unfold u_lay at hlay
    rw [if_pos hfin] at hlay
    have hcf : ρ.2.1.2.1.cls = cf := by
      obtain ⟨_, _, c', _, _, _, -, -, hf', -, -, -, hown2, -⟩ := Cond.laysFinal_spec hlay
      have e1 : c' = cf := by have := hi.symm.trans hf'; simp at this; exact this.1.symm
      rw [hdecl] at hown2
      rw [← e1]; exact Option.some.inj (hown.symm.trans hown2)
    have h6 := u_fits hfc hkC hkind hlays hi hdsc hn hfit
    exact W.putFinK hx hb hown hl hi' hst hcf hin2 (by rw [q2]; exact h6) q1 q3 (by rw [hsl]; exact k2_hasslot (q4 q hq)) rfl rfl hd fin
/-- a field is read -/
theorem B_get {C : String} {T : u_T} {N ci i q : Nat} {v : Value} {fs : List Value} (K : Kx ω b0 ρ cc own d nL kc ks) (hi : i < n) (hE : E i = .inr (ci, fs)) (hci : vwCl[ci]? = some (C, T, N)) (hin : ∀ w ∈ u_ws C T N, w ∈ TB) (hq : q < N) (a : Nat) (ha : lw_tbl[a]? = some (.fieldLink own idx C (T q).2.1 (T q).2.2.1)) (hsame : (T q).1 = C) (hv : fs[q]? = some v) (hd : decode cc pc = .ok (.getfield idx, 3)) (k : Bj ω b0 ρ n E pd cs ss (pc + 3) lv (v :: rest)) : Bj ω b0 ρ n E pd cs ss pc lv (.ref (adr ω i) :: rest) := fun ls H locs h hP hp hz hS =>
  va_get (ws := [(adr ω i, .inr (ci, fs))]) K.1 K.2.1 K.2.2.2.2.1 hin K.2.2.2.1 K.2.2.2.2.2.1 (fun j r hj => by
    have hj1 : j < 1 := (List.getElem?_eq_some_iff.mp hj).1
    rw [show j = 0 by omega] at hj
    cases hj
    have := hP i hi
    rw [hE] at this
    exact this) 0 rfl hci q hq (K.2.2.2.2.1 _ (tb_of a ⟨ha, rfl⟩)) (fun x hx => by rw [hsame] at hx; exact hx) hv hd (k ls H locs h hP hp hz hS)
/-- an object goes into a row -/
theorem B_aast {C : String} {T : u_T} {N ci i o t len j : Nat} {fs : List Value} {f : Nat → Option Nat} {x : Int32} (K : Kx ω b0 ρ cc own d nL kc ks) (hi : i < n) (hE : E i = .inl (ω.2.2.2.1 t, len, .inr (.inr (.inr (.inr f))))) (ht : (tysOf ω)[t]? = some (ω.2.2.2.1 t, .object C)) (ho : o < n) (hEo : E o = .inr (ci, fs)) (hci : vwCl[ci]? = some (C, T, N)) (hx0 : x = nI j) (hj : j < len) (hlen : len < 1000) (hd : decode cc pc = .ok (.aastore, 1)) (k : Bj ω b0 ρ n (upE E i (.inl (ω.2.2.2.1 t, len, .inr (.inr (.inr (.inr (fun z => if z = j then some (adr ω o) else f z))))))) pd cs ss (pc + 1) lv rest) : Bj ω b0 ρ n E pd cs ss pc lv (.ref (adr ω o) :: .int x :: .ref (adr ω i) :: rest) := fun ls H locs h hP hp hz hS => by
  obtain ⟨hx, hb, hml, hown, hts, hK, hadr, ⟨hr1, hr2⟩, hb0, hO, hnl, hk1, hk2⟩ := K
  have hxj : x.toNatClampNeg = j := by rw [hx0]; exact nI_clamp (by omega)
  have h0 : ¬ x < 0 := by rw [hx0]; exact nI_pos (by omega)
  have hPi := hP i hi
  rw [hE] at hPi
  have hPo := hP o ho
  rw [hEo] at hPo
  obtain ⟨r', hr', cellV, g1, g2, g3, -⟩ := hPo
  have hcls := (hK.1 ci _ hci).2
  obtain ⟨kA, comp, k1, k2, k3, -⟩ := (hK.2 t _ ht).2
  have hcomp : comp = ω.2.2.1.1 ci := Option.some.inj (k3.symm.trans hcls.1)
  subst hcomp
  obtain ⟨kC, hkC, -⟩ := hcls.2
  refine W.aast (v := adr ω o) hx hb hPi (fun q h => by cases h) (fun h => by cases h) k1 k2 rfl hkC ⟨h0, by show _ < (arrV _ _ _).slots.size; rw [arrV_size, hxj]; exact hj⟩ g1 (fun q h => by rw [g3] at h; cases h) (by rw [g2]; exact hkC) (by rw [g2]; exact va_assign hcls) rfl rfl hd (fun H1 e z oq => ?_)
  refine k ls H1 _ h (fun i2 hi2 => ?_) (fun p hp2 => (hp p hp2).kept (oq _ ?_)) (by rw [z]; exact hz) (hS.put z oq (by rw [hadr]; exact Nat.le_add_right _ _))
  · by_cases y : i2 = i
    · rw [y, upE_eq rfl]
      show H1[adr ω i]? = some (vp_cell _ _)
      rw [e, vp_cell_q, vp_cell_q, arrV_store, hxj]
      congr 2
      funext q
      by_cases hq : q = j
      · subst hq
        simp [updV, va_rf]
      · simp [updV, hq]
    · rw [upE_ne y]
      exact (hP i2 hi2).kept (oq _ (by show adr ω i2 ≠ _; rw [hadr, hadr]; omega))
  · show adr ω n ≠ _
    rw [hadr, hadr]; omega
end BR
