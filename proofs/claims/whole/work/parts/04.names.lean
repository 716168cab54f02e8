
theorem vp_lit {x : Int32} {n : Nat} (h : decide (¬ (x < 0 ∨ n ≤ x.toNatClampNeg)) = true) : vp_in x n := (of_decide_eq_true h : ¬ (x < 0 ∨ n ≤ x.toNatClampNeg))
def zb (v : Int32) : Prop := narrow .boolean (.int v) = .int v ∧ fits .boolean (.int v) = true
theorem zb_0 : zb 0 := ⟨rfl, rfl⟩
theorem zb_1 : zb 1 := ⟨rfl, rfl⟩
def ishl (x y : Int32) : Int32 := x <<< (y &&& 31)
def ishr (x y : Int32) : Int32 := x >>> (y &&& 31)
def iushr (x y : Int32) : Int32 := (x.toUInt32 >>> (y.toUInt32 &&& Int32.toUInt32 31)).toInt32
def irem (x y : Int32) : Int32 := x - x / y * y
def lrem (x y : Int64) : Int64 := x - x / y * y
section GN
variable {ω : WD} {ρ : FR} {M : Mem} {cc : ByteArray} {own : String} {d n pc idx n' d' : Nat} {lv : List (Nat × Value)} {As rest st : List Value} {y : MethodName} {bytes : ByteArray} {ret : Option FieldType}
theorem G_iname {x : Int32} (k : ∀ y : Int32, y = x → G ω ρ M pc lv (.int y :: rest)) : G ω ρ M pc lv (.int x :: rest) := k x rfl
theorem G_lname {x : Int64} (k : ∀ y : Int64, y = x → G ω ρ M pc lv (.long y :: rest)) : G ω ρ M pc lv (.long x :: rest) := k x rfl
theorem G_rname {a : Nat} (k : ∀ y : Nat, y = a → G ω ρ M pc lv (.ref (adr ω y) :: rest)) : G ω ρ M pc lv (.ref (adr ω a) :: rest) := k a rfl
theorem G_mname (k : ∀ M1 : Mem, M1 = M → G ω ρ M1 pc lv st) : G ω ρ M pc lv st := k M rfl
theorem G_ldcw {v : Int32} (K : Cx ω ρ cc own d n) (hd : decode cc pc = .ok (.ldc_w idx, 3)) (hw : Cond.constant own idx v ∈ TB) (k : G ω ρ M (pc + 3) lv (.int v :: rest)) : G ω ρ M pc lv rest := fun ls H locs h hP hS => lv_ldcw K.1 K.2.1 K.2.2.2.1 (K.2.2.2.2.1 _ hw) hd (k ls H locs h hP hS)
theorem G_max {x y : Int32} (K : Cx ω ρ cc own d n) (hd : decode cc pc = .ok (.invokestatic idx, 3)) (a b c' e : Nat) (h1 : lw_tbl[a]? = some (.methodLink own idx Lib.Math.max.name)) (h2 : lw_tbl[b]? = some (.static Lib.Math.max.name)) (h3 : lw_tbl[c']? = some (.initialized "java/lang/Math")) (h4 : lw_tbl[e]? = some (.code Lib.Math.max.name Lib.Math.max.code 2 (some .int))) (hd1 : 1 ≤ d) (hcat : (rest.map fun v => v.category).sum ≤ 8) (k : G ω ρ M (pc + 3) lv (.int (if x < y then y else x) :: rest)) : G ω ρ M pc lv (.int y :: .int x :: rest) := fun ls H locs h hP hS => by
  have hr := K.2.2.2.2.2.2.2.1
  exact va_mmax K.1 K.2.1 (K.2.2.1.trans (K.2.2.2.2.2.2.2.2.2.2.symm.trans h.1.symm)) K.2.2.2.1 (K.2.2.2.2.1 _ (tb_of a ⟨h1, rfl⟩)) (K.2.2.2.2.1 _ (tb_of b ⟨h2, rfl⟩)) (K.2.2.2.2.1 _ (tb_of c' ⟨h3, rfl⟩)) (K.2.2.2.2.1 _ (tb_of e ⟨h4, rfl⟩)) (Nat.le_trans hd1 hr.1) (by omega) K.2.2.2.2.2.2.2.2.1.1 K.2.2.2.2.2.2.2.2.1.2 hd (k ls H locs h hP hS)
theorem G_nscallI {host : String} {kn : Nat} {post : Int32 → Mem → Prop} (K : Cx ω ρ cc own d n) (hd : decode cc pc = .ok (.invokestatic idx, 3)) (hl : va_Nw (.methodLinkNest own idx y host) ρ.2.1.1) (a b e : Nat) (h1 : lw_tbl[a]? = some (.static y)) (h2 : lw_tbl[b]? = some (.initialized y.cls)) (h3 : lw_tbl[e]? = some (.code y bytes n' ret)) (h4 : y.cls ≠ "java/lang/invoke/MethodHandle" ∧ y.cls ≠ "java/lang/invoke/VarHandle" ∧ (parseMethodDescriptor y.desc).map (fun d => d.parameters.length) = some kn) (hst : st = As.reverse ++ rest) (h5 : d' + 1 ≤ d) (h6 : n' ≤ 17) (hcat : (rest.map fun v => v.category).sum ≤ 8) (hkn : As.length = kn) (hm : MtI ω y bytes n' ret d' As M post) (k : ∀ (r : Int32) (M' : Mem), post r M' → G ω ρ M' (pc + 3) lv (.int r :: rest)) : G ω ρ M pc lv st := fun ls H locs h hP hS => by
  have hG : GoodIn TB (Cond.code y bytes n' ret :: TB) := fun w hw => by
    rcases List.mem_cons.mp hw with rfl | hw
    · exact ⟨tb_of e ⟨h3, rfl⟩, tb_good (tb_of e ⟨h3, rfl⟩)⟩
    · exact ⟨hw, tb_good hw⟩
  have hini : (Cond.initialized y.cls).before ρ.2.1.2.2.1 ρ.2.1.1 = true := K.2.2.2.2.1 _ (tb_of b ⟨h2, rfl⟩)
  have hsta : (Cond.static y).before ρ.2.1.2.2.1 ρ.2.1.1 = true := K.2.2.2.2.1 _ (tb_of a ⟨h1, rfl⟩)
  exact va_calli (va_runSN (Ts := TB) (host := host) ⟨K.1, K.2.1, K.2.2.1, K.2.2.2.1, K.2.2.2.2.1⟩ (hm H.size) ⟨va_cnB (ws := .code y bytes n' ret :: TB) kn K.2.2.2.2.1 hG rfl rfl rfl hl hini h4 (room_of K h5 h6), hsta, trivial⟩
    ⟨blindM, fun U hU hW => preM_of K hP hS U hU hW _⟩ rfl hkn (h.1.trans K.2.2.2.2.2.2.2.2.2.2) hst (lv_room hcat) hd ⟨K.2.2.2.2.2.2.2.2.1.1, K.2.2.2.2.2.2.2.2.1.2⟩) hS (fun q _ hq => gA_in hS.1 hq) (fun q hq => gA_in hS.1 hq) (fun r u t H1 locs1 ht _ hp hB _ _ hS1 => k r u hp ls H1 locs1 h (by rw [← ht]; exact hB) hS1)
end GN
theorem q0 : isK 9 0 := ⟨by decide, rfl⟩
theorem q1 : isK 1 1 := ⟨by decide, rfl⟩
theorem q2 : isA 6 2 := ⟨by decide, rfl, rfl⟩
theorem q3 : isA 6 3 := ⟨by decide, rfl, rfl⟩
theorem q4 : isA 6 4 := ⟨by decide, rfl, rfl⟩
theorem q5 : isA 6 5 := ⟨by decide, rfl, rfl⟩
theorem q6 : isK 13 6 := ⟨by decide, rfl⟩
theorem q7 : isK 2 7 := ⟨by decide, rfl⟩
theorem q8 : isA 4 8 := ⟨by decide, rfl, rfl⟩
theorem q9 : isK 2 9 := ⟨by decide, rfl⟩
theorem q10 : isA 4 10 := ⟨by decide, rfl, rfl⟩
theorem q11 : isK 2 11 := ⟨by decide, rfl⟩
theorem q12 : isA 4 12 := ⟨by decide, rfl, rfl⟩
theorem q13 : isK 2 13 := ⟨by decide, rfl⟩
theorem q14 : isA 4 14 := ⟨by decide, rfl, rfl⟩
theorem q15 : isK 2 15 := ⟨by decide, rfl⟩
theorem q16 : isA 4 16 := ⟨by decide, rfl, rfl⟩
theorem q17 : isK 5 17 := ⟨by decide, rfl⟩
theorem q18 : isA 8 18 := ⟨by decide, rfl, rfl⟩
theorem q19 : isA 8 19 := ⟨by decide, rfl, rfl⟩
theorem q20 : isA 6 20 := ⟨by decide, rfl, rfl⟩
theorem q21 : isA 6 21 := ⟨by decide, rfl, rfl⟩
theorem q22 : isK 8 22 := ⟨by decide, rfl⟩
theorem q23 : isK 1 23 := ⟨by decide, rfl⟩
theorem q24 : isA 6 24 := ⟨by decide, rfl, rfl⟩
theorem q25 : isA 6 25 := ⟨by decide, rfl, rfl⟩
theorem q26 : isA 6 26 := ⟨by decide, rfl, rfl⟩
theorem q27 : isA 6 27 := ⟨by decide, rfl, rfl⟩
theorem q28 : isK 13 28 := ⟨by decide, rfl⟩
theorem q29 : isK 2 29 := ⟨by decide, rfl⟩
theorem q30 : isA 4 30 := ⟨by decide, rfl, rfl⟩
theorem q31 : isK 2 31 := ⟨by decide, rfl⟩
theorem q32 : isA 4 32 := ⟨by decide, rfl, rfl⟩
theorem q33 : isK 2 33 := ⟨by decide, rfl⟩
theorem q34 : isA 4 34 := ⟨by decide, rfl, rfl⟩
theorem q35 : isK 2 35 := ⟨by decide, rfl⟩
theorem q36 : isA 4 36 := ⟨by decide, rfl, rfl⟩
theorem q37 : isK 2 37 := ⟨by decide, rfl⟩
theorem q38 : isA 4 38 := ⟨by decide, rfl, rfl⟩
theorem q39 : isA 8 39 := ⟨by decide, rfl, rfl⟩
theorem q40 : isK 0 40 := ⟨by decide, rfl⟩
theorem q41 : isK 16 41 := ⟨by decide, rfl⟩
theorem q42 : isA 7 42 := ⟨by decide, rfl, rfl⟩
theorem q43 : isA 7 43 := ⟨by decide, rfl, rfl⟩
theorem q44 : isA 7 44 := ⟨by decide, rfl, rfl⟩
theorem q45 : isA 7 45 := ⟨by decide, rfl, rfl⟩
theorem q46 : isA 7 46 := ⟨by decide, rfl, rfl⟩
theorem q47 : isA 7 47 := ⟨by decide, rfl, rfl⟩
theorem q48 : isA 7 48 := ⟨by decide, rfl, rfl⟩
theorem q49 : isA 7 49 := ⟨by decide, rfl, rfl⟩
theorem q50 : isK 4 50 := ⟨by decide, rfl⟩
theorem q51 : isK 7 51 := ⟨by decide, rfl⟩
theorem q52 : isA 160 52 := ⟨by decide, rfl, rfl⟩
theorem q53 : isK 1 53 := ⟨by decide, rfl⟩
theorem q54 : isA 6 54 := ⟨by decide, rfl, rfl⟩
theorem q55 : isA 6 55 := ⟨by decide, rfl, rfl⟩
theorem q56 : isA 6 56 := ⟨by decide, rfl, rfl⟩
theorem q57 : isA 6 57 := ⟨by decide, rfl, rfl⟩
theorem q58 : isK 13 58 := ⟨by decide, rfl⟩
theorem q59 : isK 2 59 := ⟨by decide, rfl⟩
theorem q60 : isA 4 60 := ⟨by decide, rfl, rfl⟩
theorem q61 : isK 2 61 := ⟨by decide, rfl⟩
theorem q62 : isA 4 62 := ⟨by decide, rfl, rfl⟩
theorem q63 : isK 2 63 := ⟨by decide, rfl⟩
theorem q64 : isA 4 64 := ⟨by decide, rfl, rfl⟩
theorem q65 : isK 2 65 := ⟨by decide, rfl⟩
theorem q66 : isA 4 66 := ⟨by decide, rfl, rfl⟩
theorem q67 : isK 2 67 := ⟨by decide, rfl⟩
theorem q68 : isA 4 68 := ⟨by decide, rfl, rfl⟩
theorem q69 : isK 5 69 := ⟨by decide, rfl⟩
theorem q70 : isA 8 70 := ⟨by decide, rfl, rfl⟩
theorem q71 : isA 8 71 := ⟨by decide, rfl, rfl⟩
theorem q72 : isA 6 72 := ⟨by decide, rfl, rfl⟩
theorem q73 : isA 6 73 := ⟨by decide, rfl, rfl⟩
theorem q74 : isK 14 74 := ⟨by decide, rfl⟩
theorem q75 : isK 15 75 := ⟨by decide, rfl⟩
theorem q76 : isK 3 76 := ⟨by decide, rfl⟩
theorem q77 : isK 1 77 := ⟨by decide, rfl⟩
theorem q78 : isA 6 78 := ⟨by decide, rfl, rfl⟩
theorem q79 : isA 6 79 := ⟨by decide, rfl, rfl⟩
theorem q80 : isA 6 80 := ⟨by decide, rfl, rfl⟩
theorem q81 : isA 6 81 := ⟨by decide, rfl, rfl⟩
theorem q82 : isK 13 82 := ⟨by decide, rfl⟩
theorem q83 : isK 2 83 := ⟨by decide, rfl⟩
theorem q84 : isA 4 84 := ⟨by decide, rfl, rfl⟩
theorem q85 : isK 2 85 := ⟨by decide, rfl⟩
theorem q86 : isA 4 86 := ⟨by decide, rfl, rfl⟩
theorem q87 : isK 2 87 := ⟨by decide, rfl⟩
theorem q88 : isA 4 88 := ⟨by decide, rfl, rfl⟩
theorem q89 : isK 2 89 := ⟨by decide, rfl⟩
theorem q90 : isA 4 90 := ⟨by decide, rfl, rfl⟩
theorem q91 : isK 2 91 := ⟨by decide, rfl⟩
theorem q92 : isA 4 92 := ⟨by decide, rfl, rfl⟩
theorem q93 : isK 5 93 := ⟨by decide, rfl⟩
theorem q94 : isA 8 94 := ⟨by decide, rfl, rfl⟩
theorem q95 : isA 8 95 := ⟨by decide, rfl, rfl⟩
theorem q96 : isA 6 96 := ⟨by decide, rfl, rfl⟩
theorem q97 : isA 6 97 := ⟨by decide, rfl, rfl⟩
theorem q98 : isK 3 98 := ⟨by decide, rfl⟩
theorem q99 : isK 1 99 := ⟨by decide, rfl⟩
theorem q100 : isA 6 100 := ⟨by decide, rfl, rfl⟩
theorem q101 : isA 6 101 := ⟨by decide, rfl, rfl⟩
theorem q102 : isA 6 102 := ⟨by decide, rfl, rfl⟩
theorem q103 : isA 6 103 := ⟨by decide, rfl, rfl⟩
theorem q104 : isK 13 104 := ⟨by decide, rfl⟩
theorem q105 : isK 2 105 := ⟨by decide, rfl⟩
theorem q106 : isA 4 106 := ⟨by decide, rfl, rfl⟩
theorem q107 : isK 2 107 := ⟨by decide, rfl⟩
theorem q108 : isA 4 108 := ⟨by decide, rfl, rfl⟩
theorem q109 : isK 2 109 := ⟨by decide, rfl⟩
theorem q110 : isA 4 110 := ⟨by decide, rfl, rfl⟩
theorem q111 : isK 2 111 := ⟨by decide, rfl⟩
theorem q112 : isA 4 112 := ⟨by decide, rfl, rfl⟩
theorem q113 : isK 2 113 := ⟨by decide, rfl⟩
theorem q114 : isA 4 114 := ⟨by decide, rfl, rfl⟩
theorem q115 : isK 5 115 := ⟨by decide, rfl⟩
theorem q116 : isA 8 116 := ⟨by decide, rfl, rfl⟩
theorem q117 : isA 8 117 := ⟨by decide, rfl, rfl⟩
theorem q118 : isA 6 118 := ⟨by decide, rfl, rfl⟩
theorem q119 : isA 6 119 := ⟨by decide, rfl, rfl⟩
theorem q120 : isK 6 120 := ⟨by decide, rfl⟩
theorem q121 : isA 40 121 := ⟨by decide, rfl, rfl⟩
theorem q122 : isK 6 122 := ⟨by decide, rfl⟩
theorem q123 : isA 40 123 := ⟨by decide, rfl, rfl⟩
theorem q124 : isK 6 124 := ⟨by decide, rfl⟩
theorem q125 : isA 40 125 := ⟨by decide, rfl, rfl⟩
theorem q126 : isK 6 126 := ⟨by decide, rfl⟩
theorem q127 : isA 40 127 := ⟨by decide, rfl, rfl⟩
theorem q128 : isK 10 128 := ⟨by decide, rfl⟩
theorem q129 : isA 288 129 := ⟨by decide, rfl, rfl⟩
theorem q130 : isA 96 130 := ⟨by decide, rfl, rfl⟩
theorem q131 : isZ 2 131 := ⟨by decide, rfl, rfl⟩
theorem q132 : isA 96 132 := ⟨by decide, rfl, rfl⟩
theorem q133 : isA 160 133 := ⟨by decide, rfl, rfl⟩
theorem q134 : isA 8 134 := ⟨by decide, rfl, rfl⟩
theorem q135 : isA 56 135 := ⟨by decide, rfl, rfl⟩
theorem q136 : isA 4 136 := ⟨by decide, rfl, rfl⟩
theorem q137 : isA 4 137 := ⟨by decide, rfl, rfl⟩
theorem q138 : isA 160 138 := ⟨by decide, rfl, rfl⟩
theorem q139 : isA 96 139 := ⟨by decide, rfl, rfl⟩
theorem st_1_3 {i : Nat} (h : isK 1 i) : isA 6 (i + 1) := (by decide +kernel : ∀ i, i < 140 → kd i = 1 → (i + 1 < 140 ∧ kd (i + 1) = 11 ∧ ln (i + 1) = 6)) i h.1 h.2
theorem st_1_4 {i : Nat} (h : isK 1 i) : isA 6 (i + 2) := (by decide +kernel : ∀ i, i < 140 → kd i = 1 → (i + 2 < 140 ∧ kd (i + 2) = 11 ∧ ln (i + 2) = 6)) i h.1 h.2
theorem st_1_5 {i : Nat} (h : isK 1 i) : isA 6 (i + 3) := (by decide +kernel : ∀ i, i < 140 → kd i = 1 → (i + 3 < 140 ∧ kd (i + 3) = 11 ∧ ln (i + 3) = 6)) i h.1 h.2
theorem st_1_6 {i : Nat} (h : isK 1 i) : isA 6 (i + 4) := (by decide +kernel : ∀ i, i < 140 → kd i = 1 → (i + 4 < 140 ∧ kd (i + 4) = 11 ∧ ln (i + 4) = 6)) i h.1 h.2
theorem st_1_7 {i : Nat} (h : isK 1 i) : isK 13 (i + 5) := (by decide +kernel : ∀ i, i < 140 → kd i = 1 → (i + 5 < 140 ∧ kd (i + 5) = 13)) i h.1 h.2
theorem st_2_5 {i : Nat} (h : isK 2 i) : isA 4 (i + 1) := (by decide +kernel : ∀ i, i < 140 → kd i = 2 → (i + 1 < 140 ∧ kd (i + 1) = 11 ∧ ln (i + 1) = 4)) i h.1 h.2
theorem st_3_1 {i : Nat} (h : isK 3 i) : isK 1 (i + 1) := (by decide +kernel : ∀ i, i < 140 → kd i = 3 → (i + 1 < 140 ∧ kd (i + 1) = 1)) i h.1 h.2
theorem st_3_2 {i : Nat} (h : isK 3 i) : isK 5 (i + 17) := (by decide +kernel : ∀ i, i < 140 → kd i = 3 → (i + 17 < 140 ∧ kd (i + 17) = 5)) i h.1 h.2
theorem st_5_2 {i : Nat} (h : isK 5 i) : isA 8 (i + 1) := (by decide +kernel : ∀ i, i < 140 → kd i = 5 → (i + 1 < 140 ∧ kd (i + 1) = 11 ∧ ln (i + 1) = 8)) i h.1 h.2
theorem st_5_3 {i : Nat} (h : isK 5 i) : isA 8 (i + 2) := (by decide +kernel : ∀ i, i < 140 → kd i = 5 → (i + 2 < 140 ∧ kd (i + 2) = 11 ∧ ln (i + 2) = 8)) i h.1 h.2
theorem st_5_4 {i : Nat} (h : isK 5 i) : isA 6 (i + 3) := (by decide +kernel : ∀ i, i < 140 → kd i = 5 → (i + 3 < 140 ∧ kd (i + 3) = 11 ∧ ln (i + 3) = 6)) i h.1 h.2
theorem st_5_5 {i : Nat} (h : isK 5 i) : isA 6 (i + 4) := (by decide +kernel : ∀ i, i < 140 → kd i = 5 → (i + 4 < 140 ∧ kd (i + 4) = 11 ∧ ln (i + 4) = 6)) i h.1 h.2
theorem st_6_2 {i : Nat} (h : isK 6 i) : isA 40 (i + 1) := (by decide +kernel : ∀ i, i < 140 → kd i = 6 → (i + 1 < 140 ∧ kd (i + 1) = 11 ∧ ln (i + 1) = 40)) i h.1 h.2
theorem el_13 {i g : Nat} {x : Int32} (h : isK 13 i) (hx : vp_in x 5) (e : g = i + 1 + 2 * x.toNatClampNeg) : isK 2 g := by
  subst e
  have hlt : x.toNatClampNeg < 5 := Nat.not_le.mp fun q => hx (Or.inr q)
  exact (by decide +kernel : ∀ i, i < 140 → kd i = 13 → ∀ t, t < 5 → (i + 1 + 2 * t < 140 ∧ kd (i + 1 + 2 * t) = 2)) i h.1 h.2 _ hlt
theorem el_14 {i g : Nat} {x : Int32} (h : isK 14 i) (hx : vp_in x 2) (e : g = i + 2 + 22 * x.toNatClampNeg) : isK 3 g := by
  subst e
  have hlt : x.toNatClampNeg < 2 := Nat.not_le.mp fun q => hx (Or.inr q)
  exact (by decide +kernel : ∀ i, i < 140 → kd i = 14 → ∀ t, t < 2 → (i + 2 + 22 * t < 140 ∧ kd (i + 2 + 22 * t) = 3)) i h.1 h.2 _ hlt
theorem el_15 {i g : Nat} {x : Int32} (h : isK 15 i) (hx : vp_in x 4) (e : g = i + 45 + 2 * x.toNatClampNeg) : isK 6 g := by
  subst e
  have hlt : x.toNatClampNeg < 4 := Nat.not_le.mp fun q => hx (Or.inr q)
  exact (by decide +kernel : ∀ i, i < 140 → kd i = 15 → ∀ t, t < 4 → (i + 45 + 2 * t < 140 ∧ kd (i + 45 + 2 * t) = 6)) i h.1 h.2 _ hlt
theorem el_16 {i g : Nat} {x : Int32} (h : isK 16 i) (hx : vp_in x 8) (e : g = i + 1 + x.toNatClampNeg) : isA 7 g := by
  subst e
  have hlt : x.toNatClampNeg < 8 := Nat.not_le.mp fun q => hx (Or.inr q)
  exact (by decide +kernel : ∀ i, i < 140 → kd i = 16 → ∀ t, t < 8 → (i + 1 + t < 140 ∧ kd (i + 1 + t) = 11 ∧ ln (i + 1 + t) = 7)) i h.1 h.2 _ hlt
theorem in_X0 : ∀ w ∈ u_ws RX0 TX0 2, w ∈ TB := by
  intro w hw
  have h : (u_ws RX0 TX0 2).all (fun w => decide (w ∈ lw_tbl) && goodWord w) = true := by decide +kernel
  have h1 := List.all_eq_true.mp h w hw
  simp only [Bool.and_eq_true, decide_eq_true_eq] at h1
  exact List.mem_filter.mpr h1
theorem in_X1 : ∀ w ∈ u_ws RX1 TX1 8, w ∈ TB := by
  intro w hw
  have h : (u_ws RX1 TX1 8).all (fun w => decide (w ∈ lw_tbl) && goodWord w) = true := by decide +kernel
  have h1 := List.all_eq_true.mp h w hw
  simp only [Bool.and_eq_true, decide_eq_true_eq] at h1
  exact List.mem_filter.mpr h1
theorem in_X2 : ∀ w ∈ u_ws RX2 TX2 6, w ∈ TB := by
  intro w hw
  have h : (u_ws RX2 TX2 6).all (fun w => decide (w ∈ lw_tbl) && goodWord w) = true := by decide +kernel
  have h1 := List.all_eq_true.mp h w hw
  simp only [Bool.and_eq_true, decide_eq_true_eq] at h1
  exact List.mem_filter.mpr h1
theorem in_X3 : ∀ w ∈ u_ws RX3 TX3 3, w ∈ TB := by
  intro w hw
  have h : (u_ws RX3 TX3 3).all (fun w => decide (w ∈ lw_tbl) && goodWord w) = true := by decide +kernel
  have h1 := List.all_eq_true.mp h w hw
  simp only [Bool.and_eq_true, decide_eq_true_eq] at h1
  exact List.mem_filter.mpr h1
theorem in_X4 : ∀ w ∈ u_ws RX4 TX4 9, w ∈ TB := by
  intro w hw
  have h : (u_ws RX4 TX4 9).all (fun w => decide (w ∈ lw_tbl) && goodWord w) = true := by decide +kernel
  have h1 := List.all_eq_true.mp h w hw
  simp only [Bool.and_eq_true, decide_eq_true_eq] at h1
  exact List.mem_filter.mpr h1
theorem in_X5 : ∀ w ∈ u_ws RX5 TX5 6, w ∈ TB := by
  intro w hw
  have h : (u_ws RX5 TX5 6).all (fun w => decide (w ∈ lw_tbl) && goodWord w) = true := by decide +kernel
  have h1 := List.all_eq_true.mp h w hw
  simp only [Bool.and_eq_true, decide_eq_true_eq] at h1
  exact List.mem_filter.mpr h1
theorem in_X6 : ∀ w ∈ u_ws RX6 TX6 3, w ∈ TB := by
  intro w hw
  have h : (u_ws RX6 TX6 3).all (fun w => decide (w ∈ lw_tbl) && goodWord w) = true := by decide +kernel
  have h1 := List.all_eq_true.mp h w hw
  simp only [Bool.and_eq_true, decide_eq_true_eq] at h1
  exact List.mem_filter.mpr h1
theorem in_X7 : ∀ w ∈ u_ws RX7 TX7 6, w ∈ TB := by
  intro w hw
  have h : (u_ws RX7 TX7 6).all (fun w => decide (w ∈ lw_tbl) && goodWord w) = true := by decide +kernel
  have h1 := List.all_eq_true.mp h w hw
  simp only [Bool.and_eq_true, decide_eq_true_eq] at h1
  exact List.mem_filter.mpr h1
theorem in_X8 : ∀ w ∈ u_ws RX8 TX8 6, w ∈ TB := by
  intro w hw
  have h : (u_ws RX8 TX8 6).all (fun w => decide (w ∈ lw_tbl) && goodWord w) = true := by decide +kernel
  have h1 := List.all_eq_true.mp h w hw
  simp only [Bool.and_eq_true, decide_eq_true_eq] at h1
  exact List.mem_filter.mpr h1
theorem in_X9 : ∀ w ∈ u_ws RX9 TX9 11, w ∈ TB := by
  intro w hw
  have h : (u_ws RX9 TX9 11).all (fun w => decide (w ∈ lw_tbl) && goodWord w) = true := by decide +kernel
  have h1 := List.all_eq_true.mp h w hw
  simp only [Bool.and_eq_true, decide_eq_true_eq] at h1
  exact List.mem_filter.mpr h1
theorem in_X10 : ∀ w ∈ u_ws RX10 TX10 28, w ∈ TB := by
  intro w hw
  have h : (u_ws RX10 TX10 28).all (fun w => decide (w ∈ lw_tbl) && goodWord w) = true := by decide +kernel
  have h1 := List.all_eq_true.mp h w hw
  simp only [Bool.and_eq_true, decide_eq_true_eq] at h1
  exact List.mem_filter.mpr h1
