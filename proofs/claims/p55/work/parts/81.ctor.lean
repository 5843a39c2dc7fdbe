theorem kO_i : Cond.instanceMethod objectInit ∈ gw := gw1 22 rfl rfl
theorem kO_c : Cond.code objectInit ⟨#[0xb1]⟩ 1 none ∈ gw := gw1 23 rfl rfl
theorem kA_i : Cond.arrayClass .int ∈ gw := gw1 78 rfl rfl
theorem kN_X0 : Cond.instantiable RX0 4 ∈ gw ∧ Cond.initialized RX0 ∈ gw := ⟨gw1 194 rfl rfl, gw1 8 rfl rfl⟩
theorem kN_X1 : Cond.instantiable RX1 6 ∈ gw ∧ Cond.initialized RX1 ∈ gw := ⟨gw1 119 rfl rfl, gw1 5 rfl rfl⟩
theorem kN_X2 : Cond.instantiable RX2 6 ∈ gw ∧ Cond.initialized RX2 ∈ gw := ⟨gw1 27 rfl rfl, gw1 2 rfl rfl⟩
theorem kN_X3 : Cond.instantiable RX3 7 ∈ gw ∧ Cond.initialized RX3 ∈ gw := ⟨gw1 213 rfl rfl, gw1 9 rfl rfl⟩
theorem kN_X4 : Cond.instantiable RX4 7 ∈ gw ∧ Cond.initialized RX4 ∈ gw := ⟨gw1 34 rfl rfl, gw1 3 rfl rfl⟩
theorem kN_X5 : Cond.instantiable RX5 3 ∈ gw ∧ Cond.initialized RX5 ∈ gw := ⟨gw2 2 rfl rfl, gw1 10 rfl rfl⟩
theorem kN_X6 : Cond.instantiable RX6 4 ∈ gw ∧ Cond.initialized RX6 ∈ gw := ⟨gw1 175 rfl rfl, gw1 7 rfl rfl⟩
theorem kN_X7 : Cond.instantiable RX7 2 ∈ gw ∧ Cond.initialized RX7 ∈ gw := ⟨gw1 106 rfl rfl, gw1 4 rfl rfl⟩
theorem kN_X8 : Cond.instantiable RX8 2 ∈ gw ∧ Cond.initialized RX8 ∈ gw := ⟨gw2 21 rfl rfl, gw1 12 rfl rfl⟩
theorem kN_X9 : Cond.instantiable RX9 2 ∈ gw ∧ Cond.initialized RX9 ∈ gw := ⟨gw3 56 rfl rfl, gw1 13 rfl rfl⟩
theorem kN_X10 : Cond.instantiable RX10 6 ∈ gw ∧ Cond.initialized RX10 ∈ gw := ⟨gw1 144 rfl rfl, gw1 6 rfl rfl⟩
theorem kN_X11 : Cond.instantiable RX11 18 ∈ gw ∧ Cond.initialized RX11 ∈ gw := ⟨gw1 17 rfl rfl, gw1 1 rfl rfl⟩
/-! the constructors' judgement: the world is a list -/
abbrev Yq : Type := Program × Launch × Env × Room × State × MethodId × Array Value × List Frame × Method × Code × Nat × Pl × (Nat → Prop) × (State → Prop)
def YG : Yq → Nat → List (Nat × Value) → List Value → va_W → Nat → Nat → Prop
  | (p, l, e, R, s, m, args, below, meth, c, nL, P, A, Q), pc, lv, st, w, cs, ss => ∀ (H : Heap) (locs : List Loc) (ls : Array Slot), lv_has ls nL lv → va_P P.1 vwCl w H → va_D A w → va_S A s.heap H locs → W p l e R s m args below meth c H locs cs ss Q (F0 m pc ls st)
def Yx : Yq → ByteArray → String → Room → Nat → Pl → Prop
  | (p, l, e, R, s, m, args, below, meth, c, nL, P, A, Q), cc, own, R0, nL0, P0 => (p.tables.exec = Jvm.exec ∧ c.code = cc ∧ c.maxLocals = nL ∧ s.vm.findClass own = some m.cls ∧ (∀ w ∈ gw, w.before args s = true)) ∧ va_K P.1 vwCl (tysP P) s ∧ (∀ q, s.heap.size ≤ q → A q) ∧ meth.locks = false ∧ R = R0 ∧ nL = nL0 ∧ P = P0 ∧ (∀ w ∈ nw, w.before args s = true) ∧ (va_AO RX8 s ∧ va_AO RX4 s) ∧ (own ≠ RL → meth.name = "<init>")
theorem y_ic {X : Yq} {cc : ByteArray} {own : String} {R0 : Room} {nL : Nat} {P0 : Pl} (cx : Yx X cc own R0 nL P0) {pc pc2 : Nat} {lv : List (Nat × Value)} {st : List Value} {w : va_W} {cs ss : Nat} {q : Int} (hd : decode cc pc = .ok (.iconst q, 1)) (hp : pc + 1 = pc2) (k : YG X pc2 lv (.int (iI q) :: st) w cs ss) : YG X pc lv st w cs ss := by
  obtain ⟨p, l, e, R, s, m, args, below, meth, c, nL2, P, A, Q⟩ := X
  obtain ⟨⟨hx, hb, hml, hown, hts⟩, hK, hA, hlk, hR, hnL, hPP, hnw, hao, hnm2⟩ := cx
  subst hR
  subst hPP
  subst hnL
  subst hp
  intro H locs ls hl hP hD hS
  exact lv_iconst hx hb hd rfl (k H locs ls hl hP hD hS)
theorem y_bi {X : Yq} {cc : ByteArray} {own : String} {R0 : Room} {nL : Nat} {P0 : Pl} (cx : Yx X cc own R0 nL P0) {pc pc2 : Nat} {lv : List (Nat × Value)} {st : List Value} {w : va_W} {cs ss : Nat} {q : Int} (h0 : -128 ≤ q ∧ q ≤ 127) (hd : decode cc pc = .ok (.bipush q, 2)) (hp : pc + 2 = pc2) (k : YG X pc2 lv (.int (iI q) :: st) w cs ss) : YG X pc lv st w cs ss := by
  obtain ⟨p, l, e, R, s, m, args, below, meth, c, nL2, P, A, Q⟩ := X
  obtain ⟨⟨hx, hb, hml, hown, hts⟩, hK, hA, hlk, hR, hnL, hPP, hnw, hao, hnm2⟩ := cx
  subst hR
  subst hPP
  subst hnL
  subst hp
  intro H locs ls hl hP hD hS
  exact lv_bipush hx hb hd (iI_bi h0.1 h0.2) (k H locs ls hl hP hD hS)
theorem y_si {X : Yq} {cc : ByteArray} {own : String} {R0 : Room} {nL : Nat} {P0 : Pl} (cx : Yx X cc own R0 nL P0) {pc pc2 : Nat} {lv : List (Nat × Value)} {st : List Value} {w : va_W} {cs ss : Nat} {q : Int} (h0 : -32768 ≤ q ∧ q ≤ 32767) (hd : decode cc pc = .ok (.sipush q, 3)) (hp : pc + 3 = pc2) (k : YG X pc2 lv (.int (iI q) :: st) w cs ss) : YG X pc lv st w cs ss := by
  obtain ⟨p, l, e, R, s, m, args, below, meth, c, nL2, P, A, Q⟩ := X
  obtain ⟨⟨hx, hb, hml, hown, hts⟩, hK, hA, hlk, hR, hnL, hPP, hnw, hao, hnm2⟩ := cx
  subst hR
  subst hPP
  subst hnL
  subst hp
  intro H locs ls hl hP hD hS
  exact lv_sipush hx hb hd (iI_si h0.1 h0.2) (k H locs ls hl hP hD hS)
theorem y_ldc {X : Yq} {cc : ByteArray} {own : String} {R0 : Room} {nL : Nat} {P0 : Pl} (cx : Yx X cc own R0 nL P0) {pc pc2 : Nat} {lv : List (Nat × Value)} {st : List Value} {w : va_W} {cs ss : Nat} {i : Nat} {z : Int} (hw : Cond.constant own i (iI z) ∈ gw) (hd : decode cc pc = .ok (.ldc i, 2)) (hp : pc + 2 = pc2) (k : YG X pc2 lv (.int (iI z) :: st) w cs ss) : YG X pc lv st w cs ss := by
  obtain ⟨p, l, e, R, s, m, args, below, meth, c, nL2, P, A, Q⟩ := X
  obtain ⟨⟨hx, hb, hml, hown, hts⟩, hK, hA, hlk, hR, hnL, hPP, hnw, hao, hnm2⟩ := cx
  subst hR
  subst hPP
  subst hnL
  subst hp
  intro H locs ls hl hP hD hS
  exact lv_ldc hx hb hown (hts _ hw) hd (k H locs ls hl hP hD hS)
theorem y_lc {X : Yq} {cc : ByteArray} {own : String} {R0 : Room} {nL : Nat} {P0 : Pl} (cx : Yx X cc own R0 nL P0) {pc pc2 : Nat} {lv : List (Nat × Value)} {st : List Value} {w : va_W} {cs ss : Nat} {q : Fin 2} (z : Int) (hz : Int64.ofNat (q : Nat) = lI z) (hd : decode cc pc = .ok (.lconst q, 1)) (hp : pc + 1 = pc2) (k : YG X pc2 lv (.long (lI z) :: st) w cs ss) : YG X pc lv st w cs ss := by
  obtain ⟨p, l, e, R, s, m, args, below, meth, c, nL2, P, A, Q⟩ := X
  obtain ⟨⟨hx, hb, hml, hown, hts⟩, hK, hA, hlk, hR, hnL, hPP, hnw, hao, hnm2⟩ := cx
  subst hR
  subst hPP
  subst hnL
  subst hp
  intro H locs ls hl hP hD hS
  exact lv_lconst hx hb hd hz (k H locs ls hl hP hD hS)
theorem y_il {X : Yq} {cc : ByteArray} {own : String} {R0 : Room} {nL : Nat} {P0 : Pl} (cx : Yx X cc own R0 nL P0) {pc pc2 : Nat} {lv : List (Nat × Value)} {st : List Value} {w : va_W} {cs ss : Nat} {q : Fin 4} {x : Int32} (j : Nat) (hj : lv[j]? = some ((q : Nat), .int x)) (hd : decode cc pc = .ok (.iload_n q, 1)) (hp : pc + 1 = pc2) (k : YG X pc2 lv (.int x :: st) w cs ss) : YG X pc lv st w cs ss := by
  obtain ⟨p, l, e, R, s, m, args, below, meth, c, nL2, P, A, Q⟩ := X
  obtain ⟨⟨hx, hb, hml, hown, hts⟩, hK, hA, hlk, hR, hnL, hPP, hnw, hao, hnm2⟩ := cx
  subst hR
  subst hPP
  subst hnL
  subst hp
  intro H locs ls hl hP hD hS
  exact lv_iload_n hx hb hd rfl (lv_at hl j hj) (k H locs ls hl hP hD hS)
theorem y_al {X : Yq} {cc : ByteArray} {own : String} {R0 : Room} {nL : Nat} {P0 : Pl} (cx : Yx X cc own R0 nL P0) {pc pc2 : Nat} {lv : List (Nat × Value)} {st : List Value} {w : va_W} {cs ss : Nat} {q : Fin 4} {x : Nat} (j : Nat) (hj : lv[j]? = some ((q : Nat), .ref x)) (hd : decode cc pc = .ok (.aload_n q, 1)) (hp : pc + 1 = pc2) (k : YG X pc2 lv (.ref x :: st) w cs ss) : YG X pc lv st w cs ss := by
  obtain ⟨p, l, e, R, s, m, args, below, meth, c, nL2, P, A, Q⟩ := X
  obtain ⟨⟨hx, hb, hml, hown, hts⟩, hK, hA, hlk, hR, hnL, hPP, hnw, hao, hnm2⟩ := cx
  subst hR
  subst hPP
  subst hnL
  subst hp
  intro H locs ls hl hP hD hS
  exact lv_aload_n hx hb hd rfl (lv_at hl j hj) (k H locs ls hl hP hD hS)
theorem y_dup {X : Yq} {cc : ByteArray} {own : String} {R0 : Room} {nL : Nat} {P0 : Pl} (cx : Yx X cc own R0 nL P0) {pc pc2 : Nat} {lv : List (Nat × Value)} {st : List Value} {w : va_W} {cs ss : Nat} {v : Value} (hv : v.category = 1) (hd : decode cc pc = .ok (.dup, 1)) (hp : pc + 1 = pc2) (k : YG X pc2 lv (v :: v :: st) w cs ss) : YG X pc lv (v :: st) w cs ss := by
  obtain ⟨p, l, e, R, s, m, args, below, meth, c, nL2, P, A, Q⟩ := X
  obtain ⟨⟨hx, hb, hml, hown, hts⟩, hK, hA, hlk, hR, hnL, hPP, hnw, hao, hnm2⟩ := cx
  subst hR
  subst hPP
  subst hnL
  subst hp
  intro H locs ls hl hP hD hS
  exact lv_dup hx hb hd hv (k H locs ls hl hP hD hS)
theorem y_null {X : Yq} {cc : ByteArray} {own : String} {R0 : Room} {nL : Nat} {P0 : Pl} (cx : Yx X cc own R0 nL P0) {pc pc2 : Nat} {lv : List (Nat × Value)} {st : List Value} {w : va_W} {cs ss : Nat}  (hd : decode cc pc = .ok (.aconst_null, 1)) (hp : pc + 1 = pc2) (k : YG X pc2 lv (.null :: st) w cs ss) : YG X pc lv st w cs ss := by
  obtain ⟨p, l, e, R, s, m, args, below, meth, c, nL2, P, A, Q⟩ := X
  obtain ⟨⟨hx, hb, hml, hown, hts⟩, hK, hA, hlk, hR, hnL, hPP, hnw, hao, hnm2⟩ := cx
  subst hR
  subst hPP
  subst hnL
  subst hp
  intro H locs ls hl hP hD hS
  exact lv_null hx hb hd (k H locs ls hl hP hD hS)
theorem y_is {X : Yq} {cc : ByteArray} {own : String} {R0 : Room} {nL : Nat} {P0 : Pl} (cx : Yx X cc own R0 nL P0) {pc pc2 : Nat} {lv : List (Nat × Value)} {st : List Value} {w : va_W} {cs ss : Nat} {q : Fin 4} {x : Int32} {lv2 : List (Nat × Value)} (hl2 : (((q : Nat), Value.int x) :: lv.filter (fun r => !(r.1 == (q : Nat)) && !(r.1 + 1 == (q : Nat) && r.2.category == 2))) = lv2) (hi : (q : Nat) < nL) (hd : decode cc pc = .ok (.istore_n q, 1)) (hp : pc + 1 = pc2) (k : YG X pc2 lv2 st w cs ss) : YG X pc lv (.int x :: st) w cs ss := by
  obtain ⟨p, l, e, R, s, m, args, below, meth, c, nL2, P, A, Q⟩ := X
  obtain ⟨⟨hx, hb, hml, hown, hts⟩, hK, hA, hlk, hR, hnL, hPP, hnw, hao, hnm2⟩ := cx
  subst hR
  subst hPP
  subst hnL
  subst hp
  intro H locs ls hl hP hD hS
  exact lv_istore_n hx hb hd rfl hl hi hl2 (fun ls2 h2 => k H locs ls2 h2 hP hD hS)
theorem y_inc {X : Yq} {cc : ByteArray} {own : String} {R0 : Room} {nL : Nat} {P0 : Pl} (cx : Yx X cc own R0 nL P0) {pc pc2 : Nat} {lv : List (Nat × Value)} {st : List Value} {w : va_W} {cs ss : Nat} {i : Nat} {q : Int} {x v : Int32} (j : Nat) (hj : lv[j]? = some (i, .int x)) (hv : x + Int32.ofInt q = v) {lv2 : List (Nat × Value)} (hl2 : ((i, Value.int v) :: lv.filter (fun r => !(r.1 == i) && !(r.1 + 1 == i && r.2.category == 2))) = lv2) (hi : i < nL) (hd : decode cc pc = .ok (.iinc i q, 3)) (hp : pc + 3 = pc2) (k : YG X pc2 lv2 st w cs ss) : YG X pc lv st w cs ss := by
  obtain ⟨p, l, e, R, s, m, args, below, meth, c, nL2, P, A, Q⟩ := X
  obtain ⟨⟨hx, hb, hml, hown, hts⟩, hK, hA, hlk, hR, hnL, hPP, hnw, hao, hnm2⟩ := cx
  subst hR
  subst hPP
  subst hnL
  subst hp
  intro H locs ls hl hP hD hS
  exact lv_iinc hx hb hd hl hj hv hi hl2 (fun ls2 h2 => k H locs ls2 h2 hP hD hS)
theorem y_geT {X : Yq} {cc : ByteArray} {own : String} {R0 : Room} {nL : Nat} {P0 : Pl} (cx : Yx X cc own R0 nL P0) {pc : Nat} {lv : List (Nat × Value)} {st : List Value} {w : va_W} {cs ss : Nat} {x y : Int32} {off : Int} {tgt : Nat} (hd : decode cc pc = .ok (.if_icmp .ge off, 3)) (ht : (pc : Int) + off = (tgt : Int)) (h : y ≤ x) (k : YG X tgt lv st w cs ss) : YG X pc lv (.int y :: .int x :: st) w cs ss := by
  obtain ⟨p, l, e, R, s, m, args, below, meth, c, nL2, P, A, Q⟩ := X
  obtain ⟨⟨hx, hb, hml, hown, hts⟩, hK, hA, hlk, hR, hnL, hPP, hnw, hao, hnm2⟩ := cx
  subst hR
  subst hPP
  subst hnL
  intro H locs ls hl hP hD hS
  exact lv_icmp_ge hx hb hd ht (fun _ => k H locs ls hl hP hD hS) (fun q => absurd h q)
theorem y_geF {X : Yq} {cc : ByteArray} {own : String} {R0 : Room} {nL : Nat} {P0 : Pl} (cx : Yx X cc own R0 nL P0) {pc pc2 : Nat} {lv : List (Nat × Value)} {st : List Value} {w : va_W} {cs ss : Nat} {x y : Int32} {off : Int} {tgt : Nat} (hd : decode cc pc = .ok (.if_icmp .ge off, 3)) (ht : (pc : Int) + off = (tgt : Int)) (h : ¬ y ≤ x) (hp : pc + 3 = pc2) (k : YG X pc2 lv st w cs ss) : YG X pc lv (.int y :: .int x :: st) w cs ss := by
  obtain ⟨p, l, e, R, s, m, args, below, meth, c, nL2, P, A, Q⟩ := X
  obtain ⟨⟨hx, hb, hml, hown, hts⟩, hK, hA, hlk, hR, hnL, hPP, hnw, hao, hnm2⟩ := cx
  subst hR
  subst hPP
  subst hnL
  subst hp
  intro H locs ls hl hP hD hS
  exact lv_icmp_ge hx hb hd ht (fun q => absurd q h) (fun _ => k H locs ls hl hP hD hS)
theorem y_go {X : Yq} {cc : ByteArray} {own : String} {R0 : Room} {nL : Nat} {P0 : Pl} (cx : Yx X cc own R0 nL P0) {pc : Nat} {lv : List (Nat × Value)} {st : List Value} {w : va_W} {cs ss : Nat} {off : Int} {tgt : Nat} (hd : decode cc pc = .ok (.goto off, 3)) (ht : (pc : Int) + off = (tgt : Int)) (k : YG X tgt lv st w cs ss) : YG X pc lv st w cs ss := by
  obtain ⟨p, l, e, R, s, m, args, below, meth, c, nL2, P, A, Q⟩ := X
  obtain ⟨⟨hx, hb, hml, hown, hts⟩, hK, hA, hlk, hR, hnL, hPP, hnw, hao, hnm2⟩ := cx
  subst hR
  subst hPP
  subst hnL
  intro H locs ls hl hP hD hS
  exact lv_goto hx hb hd ht (k H locs ls hl hP hD hS)
theorem y_obj {X : Yq} {cc : ByteArray} {own : String} {R0 : Room} {nL : Nat} {P0 : Pl} (cx : Yx X cc own R0 nL P0) {pc pc2 : Nat} {lv : List (Nat × Value)} {st : List Value} {w : va_W} {cs ss : Nat} {a idx : Nat} (hlink : Cond.methodLink own idx objectInit ∈ gw) (hr : 1 ≤ R0.frames ∧ (st.map fun v => v.category).sum + 12 ≤ R0.locals) (hd : decode cc pc = .ok (.invokespecial idx, 3)) (hp : pc + 3 = pc2) (k : YG X pc2 lv st w cs ss) : YG X pc lv (.ref a :: st) w cs ss := by
  obtain ⟨p, l, e, R, s, m, args, below, meth, c, nL2, P, A, Q⟩ := X
  obtain ⟨⟨hx, hb, hml, hown, hts⟩, hK, hA, hlk, hR, hnL, hPP, hnw, hao, hnm2⟩ := cx
  subst hR
  subst hPP
  subst hnL
  subst hp
  intro H locs ls hl hP hD hS
  exact W.objInit hx hb hown (hts _ hlink) (hts _ kO_i) (hts _ kO_c) (g := F0 m pc ls (.ref a :: st)) rfl (by rw [hml]; exact hl.1) rfl hd hr.1 (by show 2 * 0 + _ + 12 ≤ _; rw [Nat.mul_zero, Nat.zero_add]; exact hr.2) (k H locs ls hl hP hD hS)
theorem y_max {X : Yq} {cc : ByteArray} {own : String} {R0 : Room} {nL : Nat} {P0 : Pl} (cx : Yx X cc own R0 nL P0) {pc pc2 : Nat} {lv : List (Nat × Value)} {st : List Value} {w : va_W} {cs ss : Nat} {x y z : Int32} {idx : Nat} (hz : (if x < y then y else x) = z) (hlink : Cond.methodLink own idx Lib.Math.max.name ∈ gw) (hr : 1 ≤ R0.frames ∧ (st.map fun v => v.category).sum + 13 ≤ R0.locals) (hcs : cs ≤ R0.cells ∧ ss ≤ R0.slots) (hd : decode cc pc = .ok (.invokestatic idx, 3)) (hp : pc + 3 = pc2) (k : YG X pc2 lv (.int z :: st) w cs ss) : YG X pc lv (.int y :: .int x :: st) w cs ss := by
  obtain ⟨p, l, e, R, s, m, args, below, meth, c, nL2, P, A, Q⟩ := X
  obtain ⟨⟨hx, hb, hml, hown, hts⟩, hK, hA, hlk, hR, hnL, hPP, hnw, hao, hnm2⟩ := cx
  subst hR
  subst hPP
  subst hnL
  subst hp
  intro H locs ls hl hP hD hS
  exact va_mmax hx hb (by rw [hml]; exact hl.1.symm) hown (hts _ hlink) (hts _ wJ_max.1) (hts _ wJ_max.2.1) (hts _ wJ_max.2.2) hr.1 hr.2 hcs.1 hcs.2 hd (by rw [hz]; exact k H locs ls hl hP hD hS)
theorem y_newi {X : Yq} {cc : ByteArray} {own : String} {R0 : Room} {nL : Nat} {P0 : Pl} (cx : Yx X cc own R0 nL P0) {pc pc2 : Nat} {lv : List (Nat × Value)} {st : List Value} {w : va_W} {cs ss : Nat} {z : Int32} {N : Nat} (hn : ¬ z < 0) (hN : z.toNatClampNeg = N) (hby : N * componentBytes .int ≤ 536870912) (hcs : cs + 1 ≤ R0.cells ∧ ss + N ≤ R0.slots) (hd : decode cc pc = .ok (.newarray .int, 2)) (hp : pc + 2 = pc2) (k : ∀ q : Nat, YG X pc2 lv (.ref q :: st) (w ++ [(q, .inl (P0.2.2 0, N, .inl (fun _ => iI 0)))]) (cs + 1) (ss + N)) : YG X pc lv (.int z :: st) w cs ss := by
  obtain ⟨p, l, e, R, s, m, args, below, meth, c, nL2, P, A, Q⟩ := X
  obtain ⟨⟨hx, hb, hml, hown, hts⟩, hK, hA, hlk, hR, hnL, hPP, hnw, hao, hnm2⟩ := cx
  subst hR
  subst hPP
  subst hnL
  subst hp
  intro H locs ls hl hP hD hS
  refine va_newa hx hb (atype := .int) (hts _ kA_i) rfl hK hP hD hS hA (a0 := (N, .inl (fun _ => iI 0))) (fun cA => rfl) hn hN hby hcs.1 hcs.2 hd (fun q cA H1 hK1 hP1 hD1 hS1 => ?_)
  have e1 := (hK1.2 4 _ (show (tysP P ++ [(cA, FieldType.int)])[4]? = some (cA, .int) from rfl)).2
  have e2 := (hK1.2 0 _ (show (tysP P ++ [(cA, FieldType.int)])[0]? = some (P.2.2 0, .int) from rfl)).2
  have e : cA = P.2.2 0 := Option.some.inj (e1.symm.trans e2)
  subst e
  exact k q H1 locs ls hl hP1 hD1 hS1
theorem y_anewR {X : Yq} {cc : ByteArray} {own : String} {R0 : Room} {nL : Nat} {P0 : Pl} (cx : Yx X cc own R0 nL P0) {pc pc2 : Nat} {lv : List (Nat × Value)} {st : List Value} {w : va_W} {cs ss : Nat} {z : Int32} {N idx : Nat} (hlink : Cond.classLink own idx RX8 ∈ gw) (hn : ¬ z < 0) (hN : z.toNatClampNeg = N) (hby : N * 4 ≤ 536870912) (hcs : cs + 1 ≤ R0.cells ∧ ss + N ≤ R0.slots) (hd : decode cc pc = .ok (.anewarray idx, 3)) (hp : pc + 3 = pc2) (k : ∀ q : Nat, YG X pc2 lv (.ref q :: st) (w ++ [(q, .inl (P0.2.2 2, N, .inr (.inr (.inr (.inr (fun _ => none))))))]) (cs + 1) (ss + N)) : YG X pc lv (.int z :: st) w cs ss := by
  obtain ⟨p, l, e, R, s, m, args, below, meth, c, nL2, P, A, Q⟩ := X
  obtain ⟨⟨hx, hb, hml, hown, hts⟩, hK, hA, hlk, hR, hnL, hPP, hnw, hao, hnm2⟩ := cx
  subst hR
  subst hPP
  subst hnL
  subst hp
  intro H locs ls hl hP hD hS
  refine va_newq hx hb hown (hts _ hlink) hao.1 hK hP hD hS hA hn hN hby hcs.1 hcs.2 hd (fun q cA H1 hK1 hP1 hD1 hS1 => ?_)
  have e1 := (hK1.2 4 _ (show (tysP P ++ [(cA, FieldType.object RX8)])[4]? = some (cA, .object RX8) from rfl)).2
  have e2 := (hK1.2 2 _ (show (tysP P ++ [(cA, FieldType.object RX8)])[2]? = some (P.2.2 2, .object RX8) from rfl)).2
  obtain ⟨_, _, _, _, _, f1⟩ := e1
  obtain ⟨_, _, _, _, _, f2⟩ := e2
  have e : cA = P.2.2 2 := Option.some.inj (f1.symm.trans f2)
  subst e
  exact k q H1 locs ls hl hP1 hD1 hS1
theorem y_anewN {X : Yq} {cc : ByteArray} {own : String} {R0 : Room} {nL : Nat} {P0 : Pl} (cx : Yx X cc own R0 nL P0) {pc pc2 : Nat} {lv : List (Nat × Value)} {st : List Value} {w : va_W} {cs ss : Nat} {z : Int32} {N idx : Nat} (hlink : Cond.classLink own idx RX4 ∈ gw) (hn : ¬ z < 0) (hN : z.toNatClampNeg = N) (hby : N * 4 ≤ 536870912) (hcs : cs + 1 ≤ R0.cells ∧ ss + N ≤ R0.slots) (hd : decode cc pc = .ok (.anewarray idx, 3)) (hp : pc + 3 = pc2) (k : ∀ q : Nat, YG X pc2 lv (.ref q :: st) (w ++ [(q, .inl (P0.2.2 3, N, .inr (.inr (.inr (.inr (fun _ => none))))))]) (cs + 1) (ss + N)) : YG X pc lv (.int z :: st) w cs ss := by
  obtain ⟨p, l, e, R, s, m, args, below, meth, c, nL2, P, A, Q⟩ := X
  obtain ⟨⟨hx, hb, hml, hown, hts⟩, hK, hA, hlk, hR, hnL, hPP, hnw, hao, hnm2⟩ := cx
  subst hR
  subst hPP
  subst hnL
  subst hp
  intro H locs ls hl hP hD hS
  refine va_newq hx hb hown (hts _ hlink) hao.2 hK hP hD hS hA hn hN hby hcs.1 hcs.2 hd (fun q cA H1 hK1 hP1 hD1 hS1 => ?_)
  have e1 := (hK1.2 4 _ (show (tysP P ++ [(cA, FieldType.object RX4)])[4]? = some (cA, .object RX4) from rfl)).2
  have e2 := (hK1.2 3 _ (show (tysP P ++ [(cA, FieldType.object RX4)])[3]? = some (P.2.2 3, .object RX4) from rfl)).2
  obtain ⟨_, _, _, _, _, f1⟩ := e1
  obtain ⟨_, _, _, _, _, f2⟩ := e2
  have e : cA = P.2.2 3 := Option.some.inj (f1.symm.trans f2)
  subst e
  exact k q H1 locs ls hl hP1 hD1 hS1
theorem y_new {X : Yq} {cc : ByteArray} {own : String} {R0 : Room} {nL : Nat} {P0 : Pl} (cx : Yx X cc own R0 nL P0) {pc pc2 : Nat} {lv : List (Nat × Value)} {st : List Value} {w : va_W} {cs ss : Nat} {ci idx N : Nat} {C : String} {T : u_T} (hc : vwCl[ci]? = some (C, T, N)) (hin : ∀ w ∈ u_ws C T N, w ∈ gw) {ty0 : Nat → FieldType} (hty : ∀ k, k < N → parseFieldDescriptor (T k).2.2.1 = some (ty0 k)) (hlink : Cond.classLink own idx C ∈ gw) (hi : Cond.instantiable C N ∈ gw ∧ Cond.initialized C ∈ gw) {fs : List Value} (hfs : ∀ j, j < N → defaultValue (ty0 j) = vp_V fs j) (hcs : cs + 1 ≤ R0.cells ∧ ss + N ≤ R0.slots) (hd : decode cc pc = .ok (.new idx, 3)) (hp : pc + 3 = pc2) (k : ∀ q : Nat, YG X pc2 lv (.ref q :: st) (w ++ [(q, .inr (ci, fs))]) (cs + 1) (ss + N)) : YG X pc lv st w cs ss := by
  obtain ⟨p, l, e, R, s, m, args, below, meth, c, nL2, P, A, Q⟩ := X
  obtain ⟨⟨hx, hb, hml, hown, hts⟩, hK, hA, hlk, hR, hnL, hPP, hnw, hao, hnm2⟩ := cx
  subst hR
  subst hPP
  subst hnL
  subst hp
  intro H locs ls hl hP hD hS
  exact va_new hx hb hts hin ty0 hty hown (hts _ hlink) (hts _ hi.1) (hts _ hi.2) hK hP hD hS hA hc hfs hcs.1 hcs.2 hd (fun q H1 hP1 hD1 hS1 => k q H1 locs ls hl hP1 hD1 hS1)
theorem y_put {X : Yq} {cc : ByteArray} {own : String} {R0 : Room} {nL : Nat} {P0 : Pl} (cx : Yx X cc own R0 nL P0) {pc pc2 : Nat} {lv : List (Nat × Value)} {st : List Value} {w : va_W} {cs ss : Nat} {a ci j idx N : Nat} {C : String} {T : u_T} {fs : List Value} {v : Value} {w2 : va_W} (q0 : Nat) (he : w[q0]? = some (a, .inr (ci, fs))) (hc : vwCl[ci]? = some (C, T, N)) (hin : ∀ w ∈ u_ws C T N, w ∈ gw) {ty0 : Nat → FieldType} (hty : ∀ k, k < N → parseFieldDescriptor (T k).2.2.1 = some (ty0 k)) (hnm : ∀ a, a < N → ∀ b, b < N → a ≠ b → (T a).2.1 ≠ (T b).2.1) (hjN : j < N) (hlink : Cond.fieldLink own idx own (T j).2.1 (T j).2.2.1 ∈ gw) (href : (T j).1 = own) (hne : own ≠ RL) {ty : FieldType} (hty1 : ty0 j = ty) (hnar : narrow ty v = v) (hfit : fits ty v = true) (hj : j < fs.length) (hset : w.set q0 (a, .inr (ci, fs.set j v)) = w2) (hd : decode cc pc = .ok (.putfield idx, 3)) (hp : pc + 3 = pc2) (k : YG X pc2 lv st w2 cs ss) : YG X pc lv (v :: .ref a :: st) w cs ss := by
  obtain ⟨p, l, e, R, s, m, args, below, meth, c, nL2, P, A, Q⟩ := X
  obtain ⟨⟨hx, hb, hml, hown, hts⟩, hK, hA, hlk, hR, hnL, hPP, hnw, hao, hnm2⟩ := cx
  subst hR
  subst hPP
  subst hnL
  subst hp
  intro H locs ls hl hP hD hS
  subst hset
  by_cases hfin : (T j).2.2.2 = true
  · exact va_putF hx hb hts hin ty0 hty hnm hown hK hP hD hS q0 he hc j hjN (hts _ hlink) (fun x h => href ▸ h) hfin (hnm2 hne) href (by rw [hty j hjN, hty1]) hnar hfit hj hd (fun H1 locs1 hP1 hD1 hS1 => k H1 locs1 ls hl hP1 hD1 hS1)
  · exact va_put hx hb hts hin ty0 hty hnm hown hK hP hD hS q0 he hc j hjN (hts _ hlink) (fun x h => href ▸ h) (by simpa using hfin) (by rw [hty j hjN, hty1]) hnar hfit hj hd (fun H1 locs1 hP1 hD1 hS1 => k H1 locs1 ls hl hP1 hD1 hS1)
theorem y_get {X : Yq} {cc : ByteArray} {own : String} {R0 : Room} {nL : Nat} {P0 : Pl} (cx : Yx X cc own R0 nL P0) {pc pc2 : Nat} {lv : List (Nat × Value)} {st : List Value} {w : va_W} {cs ss : Nat} {a ci j idx N : Nat} {C : String} {T : u_T} {fs : List Value} {v : Value} (q0 : Nat) (he : w[q0]? = some (a, .inr (ci, fs))) (hc : vwCl[ci]? = some (C, T, N)) (hin : ∀ w ∈ u_ws C T N, w ∈ gw) (hjN : j < N) (hlink : Cond.fieldLink own idx own (T j).2.1 (T j).2.2.1 ∈ gw) (href : (T j).1 = own) (hv : fs[j]? = some v) (hd : decode cc pc = .ok (.getfield idx, 3)) (hp : pc + 3 = pc2) (k : YG X pc2 lv (v :: st) w cs ss) : YG X pc lv (.ref a :: st) w cs ss := by
  obtain ⟨p, l, e, R, s, m, args, below, meth, c, nL2, P, A, Q⟩ := X
  obtain ⟨⟨hx, hb, hml, hown, hts⟩, hK, hA, hlk, hR, hnL, hPP, hnw, hao, hnm2⟩ := cx
  subst hR
  subst hPP
  subst hnL
  subst hp
  intro H locs ls hl hP hD hS
  exact va_get hx hb hts hin hown hK hP q0 he hc j hjN (hts _ hlink) (fun x h => href ▸ h) hv hd (k H locs ls hl hP hD hS)
theorem y_ias {X : Yq} {cc : ByteArray} {own : String} {R0 : Room} {nL : Nat} {P0 : Pl} (cx : Yx X cc own R0 nL P0) {pc pc2 : Nat} {lv : List (Nat × Value)} {st : List Value} {w : va_W} {cs ss : Nat} {a N : Nat} {f : Nat → Int32} {i x : Int32} {i2 : Nat} {w2 : va_W} (q0 : Nat) (ha : w[q0]? = some (a, .inl (P0.2.2 0, N, .inl f))) (hin : vp_in i N) (hi2 : i.toNatClampNeg = i2) (hset : w.set q0 (a, .inl (P0.2.2 0, N, .inl (upd f i2 x))) = w2) (hd : decode cc pc = .ok (.iastore, 1)) (hp : pc + 1 = pc2) (k : YG X pc2 lv st w2 cs ss) : YG X pc lv (.int x :: .int i :: .ref a :: st) w cs ss := by
  obtain ⟨p, l, e, R, s, m, args, below, meth, c, nL2, P, A, Q⟩ := X
  obtain ⟨⟨hx, hb, hml, hown, hts⟩, hK, hA, hlk, hR, hnL, hPP, hnw, hao, hnm2⟩ := cx
  subst hR
  subst hPP
  subst hnL
  subst hp
  intro H locs ls hl hP hD hS
  subst hset
  subst hi2
  exact va_iast hx hb hK hP hD hS q0 0 ha rfl hin hd (fun H1 locs1 hP1 hD1 hS1 => k H1 locs1 ls hl hP1 hD1 hS1)
theorem y_astR {X : Yq} {cc : ByteArray} {own : String} {R0 : Room} {nL : Nat} {P0 : Pl} (cx : Yx X cc own R0 nL P0) {pc pc2 : Nat} {lv : List (Nat × Value)} {st : List Value} {w : va_W} {cs ss : Nat} {a N v : Nat} {vs : List Value} {f : Nat → Option Nat} {i : Int32} {i2 : Nat} {w2 : va_W} (q0 : Nat) (ha : w[q0]? = some (a, .inl (P0.2.2 2, N, .inr (.inr (.inr (.inr f)))))) (hv : ((v, .inr (8, vs)) : Nat × va_E) ∈ w) (hin : vp_in i N) (hi2 : i.toNatClampNeg = i2) (hset : w.set q0 (a, .inl (P0.2.2 2, N, .inr (.inr (.inr (.inr (va_up f i2 (some v))))))) = w2) (hd : decode cc pc = .ok (.aastore, 1)) (hp : pc + 1 = pc2) (k : YG X pc2 lv st w2 cs ss) : YG X pc lv (.ref v :: .int i :: .ref a :: st) w cs ss := by
  obtain ⟨p, l, e, R, s, m, args, below, meth, c, nL2, P, A, Q⟩ := X
  obtain ⟨⟨hx, hb, hml, hown, hts⟩, hK, hA, hlk, hR, hnL, hPP, hnw, hao, hnm2⟩ := cx
  subst hR
  subst hPP
  subst hnL
  subst hp
  intro H locs ls hl hP hD hS
  subst hset
  subst hi2
  obtain ⟨qk, hqk⟩ := List.getElem?_of_mem hv
  exact va_astq hx hb hK hP hD hS q0 2 qk 8 ha rfl hqk rfl hin hd (fun H1 locs1 hP1 hD1 hS1 => k H1 locs1 ls hl hP1 hD1 hS1)
theorem y_astN {X : Yq} {cc : ByteArray} {own : String} {R0 : Room} {nL : Nat} {P0 : Pl} (cx : Yx X cc own R0 nL P0) {pc pc2 : Nat} {lv : List (Nat × Value)} {st : List Value} {w : va_W} {cs ss : Nat} {a N v : Nat} {vs : List Value} {f : Nat → Option Nat} {i : Int32} {i2 : Nat} {w2 : va_W} (q0 : Nat) (ha : w[q0]? = some (a, .inl (P0.2.2 3, N, .inr (.inr (.inr (.inr f)))))) (hv : ((v, .inr (4, vs)) : Nat × va_E) ∈ w) (hin : vp_in i N) (hi2 : i.toNatClampNeg = i2) (hset : w.set q0 (a, .inl (P0.2.2 3, N, .inr (.inr (.inr (.inr (va_up f i2 (some v))))))) = w2) (hd : decode cc pc = .ok (.aastore, 1)) (hp : pc + 1 = pc2) (k : YG X pc2 lv st w2 cs ss) : YG X pc lv (.ref v :: .int i :: .ref a :: st) w cs ss := by
  obtain ⟨p, l, e, R, s, m, args, below, meth, c, nL2, P, A, Q⟩ := X
  obtain ⟨⟨hx, hb, hml, hown, hts⟩, hK, hA, hlk, hR, hnL, hPP, hnw, hao, hnm2⟩ := cx
  subst hR
  subst hPP
  subst hnL
  subst hp
  intro H locs ls hl hP hD hS
  subst hset
  subst hi2
  obtain ⟨qk, hqk⟩ := List.getElem?_of_mem hv
  exact va_astq hx hb hK hP hD hS q0 3 qk 4 ha rfl hqk rfl hin hd (fun H1 locs1 hP1 hD1 hS1 => k H1 locs1 ls hl hP1 hD1 hS1)
/-- what a constructor is called with: its object as it is born, the tables -/
def CPN (P : Pl) (h0 ci : Nat) (d : List Value) (sz : Nat) : State → Prop := fun U => U.heap.size = sz ∧ va_P P.1 vwCl [(h0, .inr (ci, d))] U.heap ∧ va_K P.1 vwCl (tysP P) U ∧ (va_AO RX8 U ∧ va_AO RX4 U) ∧ NwU U
/-- a constructor's contract: the cells that it leaves, at addresses u -/
def CN (y : MethodName) (b : ByteArray) (mL : Nat) (rm : Room) (mc ms ci : Nat) (d As : List Value) (w1 : Pl → Nat → (Nat → Nat) → va_W) : Prop := ∀ (l : Launch) (P : Pl) (h0 sz : Nat), Met l y (.code y b mL none :: gw) rm (va_Pc (.ref h0 :: As) (CPN P h0 ci d sz)) (va_Qv (fun _ : Nat → Nat => True) (fun u t => va_P P.1 vwCl (w1 P h0 u) t.heap ∧ va_D (va_A [(h0, .inr (ci, d))] sz) (w1 P h0 u)) (va_A [(h0, .inr (ci, d))] sz)) mc ms (va_A [(h0, .inr (ci, d))] sz)
/-- what the method's end wants -/
def Yq0 : Yq → Nat → Nat → Nat → List Value → Nat → (Pl → Nat → (Nat → Nat) → va_W) → Prop
  | (p, l, e, R, s, m, args, below, meth, c, nL, P, A, Q), h0, mc, ms, d, ci, w1 => Q = MQ below (va_Qv (fun _ : Nat → Nat => True) (fun u t => va_P P.1 vwCl (w1 P h0 u) t.heap ∧ va_D (va_A [(h0, .inr (ci, d))] s.heap.size) (w1 P h0 u)) (va_A [(h0, .inr (ci, d))] s.heap.size)) args s mc ms A ∧ A = va_A [(h0, .inr (ci, d))] s.heap.size ∧ meth.sig.returnType = none
theorem cpn_blind {P : Pl} {h0 ci sz : Nat} {d As : List Value} : FrameBlind (va_Pc As (CPN P h0 ci d sz)) := fun a U g mk q => ⟨q.1, q.2.1, q.2.2.1, va_K.moved (u := U) (U := U.calling g mk a) (Vm.Alike.refl U.vm) q.2.2.2.1, ⟨va_AO.moved (u := U) (U := U.calling g mk a) (Vm.Alike.refl U.vm) q.2.2.2.2.1.1, va_AO.moved (u := U) (U := U.calling g mk a) (Vm.Alike.refl U.vm) q.2.2.2.2.1.2⟩, NwU_same (u := U) (U := U.calling g mk a) rfl q.2.2.2.2.2⟩
theorem CN.of {y : MethodName} {b : ByteArray} {mL mc ms ci : Nat} {rm : Room} {d As : List Value} {w1 : Pl → Nat → (Nat → Nat) → va_W} (hy : plainName y.cls = true) (hlen : ∀ h0 : Nat, (lg_sl (.ref h0 :: As)).length ≤ mL)
    (k : ∀ (X : Yq) (P : Pl) (h0 : Nat), Yx X b y.cls rm mL P → Yq0 X h0 mc ms d ci w1 → y.name = "<init>" → YG X 0 (lv_args 0 (.ref h0 :: As)) [] [(h0, .inr (ci, d))] 0 0) (hn : y.name = "<init>") : CN y b mL rm mc ms ci d As w1 := by
  intro l P h0 sz
  refine Met.ofW (cc := b) (maxL := mL) (ret := none) hy rfl ?_
  intro p e s m args below meth c s₁ B hml hv
  obtain ⟨rfl, hsz, hP, hK, hao, hNw⟩ := hv
  have hts := atoms_spec (ws := Cond.code y b mL none :: gw) B.pre
  have hown : s.vm.findClass y.cls = some m.cls := findClass_of_methodNamed B.named
  have hin : meth.name = "<init>" := ((name_of_methodNamed B.named B.method).1).trans hn
  subst hsz
  rw [lg_entry_eq]
  have hl := lv_entry (.ref h0 :: As) (n := mL) (hlen h0)
  have hD : va_D (va_A [(h0, .inr (ci, d))] s.heap.size) [(h0, .inr (ci, d))] := by
    refine ⟨fun i j x y hi hj _ => ?_, fun i q hi => va_A.in hi⟩
    have a1 := (List.getElem?_eq_some_iff.mp hi).1
    have a2 := (List.getElem?_eq_some_iff.mp hj).1
    simp only [List.length_singleton] at a1 a2
    omega
  exact k (p, l, e, rm, s, m, (Value.ref h0 :: As).toArray, below, meth, c, mL, P, va_A [(h0, .inr (ci, d))] s.heap.size, _) P h0 ⟨⟨B.exec, B.bytes, hml, hown, fun w hw => hts w (List.mem_cons_of_mem _ hw)⟩, hK, fun q h => Or.inr h, B.notSynchronized, rfl, rfl, rfl, NwU_use hNw, hao, fun _ => hin⟩ ⟨rfl, rfl, B.returns⟩ hn s.heap [] _ hl hP hD va_S.rf
theorem y_ret {X : Yq} {cc : ByteArray} {own : String} {R0 : Room} {nL : Nat} {P0 : Pl} (cx : Yx X cc own R0 nL P0) {pc h0 mc ms ci : Nat} {lv : List (Nat × Value)} {w : va_W} {d : List Value} {w1 : Pl → Nat → (Nat → Nat) → va_W} (qx : Yq0 X h0 mc ms d ci w1) (u : Nat → Nat) (hd : decode cc pc = .ok (.return_, 1)) (h : ∀ (H : Heap) (A : Nat → Prop), va_P P0.1 vwCl w H → va_D A w → va_P P0.1 vwCl (w1 P0 h0 u) H ∧ va_D A (w1 P0 h0 u)) : YG X pc lv [] w mc ms := by
  obtain ⟨p, l, e, R, s, m, args, below, meth, c, nL2, P, A, Q⟩ := X
  obtain ⟨⟨hx, hb, hml, hown, hts⟩, hK, hA, hlk, hR, hnL, hPP, hnw, hao, hnm2⟩ := cx
  subst hPP
  obtain ⟨rfl, rfl, hrt⟩ := qx
  intro H locs ls hl hP hD hS
  obtain ⟨h1, h2⟩ := h H _ hP hD
  exact W.vret hx hb hrt (fun t ht hW => ⟨⟨u, rfl, trivial, by rw [ht]; exact h1, h2⟩, hS.F ht⟩) hS.2.2 hd hlk
/-- behind a constructor's call, which had its object alone -/
theorem y_join {A0 : Nat → Prop} {D : va_G} {cl : List vw_C} {w w1 : va_W} {q : Nat} {e : va_E} {H H1 : Heap} (hP : va_P D cl (w ++ [(q, e)]) H) (hD : va_D A0 (w ++ [(q, e)])) (hk : ∀ a : Nat, a < H.size → ¬ va_A [(q, e)] H.size a → H1[a]? = H[a]?) (hF : ∀ a, va_A [(q, e)] H.size a → A0 a) (hP1 : va_P D cl w1 H1) (hD1 : va_D (va_A [(q, e)] H.size) w1) : va_P D cl (w ++ w1) H1 ∧ va_D A0 (w ++ w1) := by
  have hq : (w ++ [(q, e)])[w.length]? = some (q, e) := by rw [List.getElem?_append_right (Nat.le_refl _), Nat.sub_self]; rfl
  have hin : ∀ (k : Nat) (x : Nat × va_E), w[k]? = some x → (w ++ [(q, e)])[k]? = some x ∧ k < w.length := fun k x hx => by
    have hl := (List.getElem?_eq_some_iff.mp hx).1
    exact ⟨by rw [List.getElem?_append_left hl]; exact hx, hl⟩
  have apart : ∀ (k : Nat) (x : Nat × va_E), w[k]? = some x → x.1 < H.size ∧ ¬ va_A [(q, e)] H.size x.1 := by
    intro k x hx
    obtain ⟨h1, h2⟩ := hin k x hx
    have hl := (hP k x h1).lt
    refine ⟨hl, fun h => ?_⟩
    rcases h with ⟨k2, e2, h⟩ | h
    · have h3 : k2 < 1 := (List.getElem?_eq_some_iff.mp h).1
      rw [show k2 = 0 by omega] at h
      have h4 : (q, e) = (x.1, e2) := Option.some.inj h
      have := hD.1 k w.length x (q, e) h1 hq (congrArg Prod.fst h4).symm
      omega
    · omega
  have hDw : va_D A0 w := ⟨fun i j x y hx hy hxy => hD.1 i j x y (hin i x hx).1 (hin j y hy).1 hxy, fun k x hx => hD.2 k x (hin k x hx).1⟩
  refine ⟨va_P.app (fun k x hx => ?_) hP1, va_D.app hDw (hD1.weaken (fun k x _ h => hF x.1 h)) (fun i j x y hx hy hxy => ?_)⟩
  · obtain ⟨g1, g2⟩ := apart k x hx
    exact (hP k x (hin k x hx).1).kept (hk x.1 g1 g2)
  · exact (apart i x hx).2 (by rw [hxy]; exact hD1.2 j y hy)
theorem y_free {A0 : Nat → Prop} {w : va_W} {q : Nat} {e : va_E} {H0 H : Heap} {locs : List Loc} (hD : va_D A0 (w ++ [(q, e)])) (hS : va_S A0 H0 H locs) (hA : ∀ a, H0.size ≤ a → A0 a) : ∀ a, va_A [(q, e)] H.size a → A0 a := by
  intro a h
  rcases h with ⟨k2, e2, h⟩ | h
  · have h3 : k2 < 1 := (List.getElem?_eq_some_iff.mp h).1
    rw [show k2 = 0 by omega] at h
    have h4 : (q, e) = (a, e2) := Option.some.inj h
    have := hD.2 w.length (q, e) (by rw [List.getElem?_append_right (Nat.le_refl _), Nat.sub_self]; rfl)
    rw [show a = q from (congrArg Prod.fst h4).symm]
    exact this
  · exact hA a (Nat.le_trans hS.1 h)
theorem y_one {D : va_G} {cl : List vw_C} {w : va_W} {q : Nat} {e : va_E} {H : Heap} (hP : va_P D cl (w ++ [(q, e)]) H) : va_P D cl [(q, e)] H := fun k x hx => by
  have h3 : k < 1 := (List.getElem?_eq_some_iff.mp hx).1
  rw [show k = 0 by omega] at hx
  have h4 : (q, e) = x := Option.some.inj hx
  subst h4
  exact hP w.length (q, e) (by rw [List.getElem?_append_right (Nat.le_refl _), Nat.sub_self]; rfl)
/-- what a constructor's call needs of the tables -/
def wC (y : MethodName) (b : ByteArray) (mL : Nat) (cnt : Nat) : Prop := wM y b mL none cnt ∧ Cond.instanceMethod y ∈ gw ∧ y.name = "<init>"
theorem y_call {X : Yq} {cc : ByteArray} {own : String} {R0 : Room} {nL : Nat} {P0 : Pl} (cx : Yx X cc own R0 nL P0) {pc pc2 : Nat} {lv : List (Nat × Value)} {st : List Value} {w : va_W} {cs ss : Nat} {y : MethodName} {b : ByteArray} {mL cnt idx mc ms ci q : Nat} {rm : Room} {d As st0 : List Value} {w1 : Pl → Nat → (Nat → Nat) → va_W} (hC : CN y b mL rm mc ms ci d As w1) (hw : wC y b mL cnt) (hl0 : Cond.methodLink own idx y ∈ gw) (hrm : rm.cells = mc ∧ rm.slots = ms ∧ rm.frames + 1 ≤ R0.frames ∧ 8 + (mL + 11) + rm.locals ≤ R0.locals) (hcat : (st.map fun v => v.category).sum ≤ 8) (hcnt : As.length = cnt) (hst : st0 = As.reverse ++ .ref q :: st) (hcs : cs + mc ≤ R0.cells ∧ ss + ms ≤ R0.slots) (hd : decode cc pc = .ok (.invokespecial idx, 3)) (hp : pc + 3 = pc2) (k : ∀ u : Nat → Nat, YG X pc2 lv st (w ++ w1 P0 q u) (cs + mc) (ss + ms)) : YG X pc lv st0 (w ++ [(q, .inr (ci, d))]) cs ss := by
  obtain ⟨p, l, e, R, s, m, args, below, meth, c, nL2, P, A, Q⟩ := X
  obtain ⟨⟨hx, hb, hml, hown, hts⟩, hK, hA, hlk, hR, hnL, hPP, hnw, hao, hnm2⟩ := cx
  subst hR
  subst hPP
  subst hnL
  subst hp
  intro H locs ls hl hP hD hS
  subst hst
  have hgd : ∀ w ∈ Cond.code y b mL none :: gw, w ∈ gw := fun w h => by
    rcases List.mem_cons.mp h with rfl | h
    · exact hw.1.1.2
    · exact h
  have hF := y_free hD hS hA
  exact va_callv (va_runI (As := As) (rest := st) ⟨hx, hb, hml, hown, hts⟩ (hC l P q H.size) (cwI cnt hts (gw_good (ws := Cond.code y b mL none :: gw) hgd) rfl hrm.1 hrm.2.1 (hts _ hw.1.1.1) (hts _ hl0) (hts _ hw.2.1) hw.2.2 hw.1.2 hrm.2.2) ⟨cpn_blind, fun U hU hW => ⟨rfl, by rw [hU], by rw [hU]; exact y_one hP, va_K.moved hW.alike hK, ⟨va_AO.moved hW.alike hao.1, va_AO.moved hW.alike hao.2⟩, NwU_warm hW (NwU_of hnw)⟩⟩ rfl hcnt hl.1 rfl (lv_room hcat) hd hcs) hS (fun a _ h => hF a h) hF (fun u t H1 locs1 ht hvm _ hB hz1 hk1 hS1 => by
    obtain ⟨hP1, hD1⟩ := hB
    rw [ht] at hP1
    obtain ⟨hP2, hD2⟩ := y_join hP hD hk1 hF hP1 hD1
    exact k u H1 locs1 ls hl hP2 hD2 hS1)
theorem y_callN {X : Yq} {cc : ByteArray} {own : String} {R0 : Room} {nL : Nat} {P0 : Pl} (cx : Yx X cc own R0 nL P0) {pc pc2 : Nat} {lv : List (Nat × Value)} {st : List Value} {w : va_W} {cs ss : Nat} {y : MethodName} {b : ByteArray} {mL cnt idx mc ms ci q : Nat} {rm : Room} {d As st0 : List Value} {w1 : Pl → Nat → (Nat → Nat) → va_W} (hC : CN y b mL rm mc ms ci d As w1) (hw : wC y b mL cnt) {host : String} (hl0 : Cond.methodLinkNest own idx y host ∈ nw) (hrm : rm.cells = mc ∧ rm.slots = ms ∧ rm.frames + 1 ≤ R0.frames ∧ 8 + (mL + 11) + rm.locals ≤ R0.locals) (hcat : (st.map fun v => v.category).sum ≤ 8) (hcnt : As.length = cnt) (hst : st0 = As.reverse ++ .ref q :: st) (hcs : cs + mc ≤ R0.cells ∧ ss + ms ≤ R0.slots) (hd : decode cc pc = .ok (.invokespecial idx, 3)) (hp : pc + 3 = pc2) (k : ∀ u : Nat → Nat, YG X pc2 lv st (w ++ w1 P0 q u) (cs + mc) (ss + ms)) : YG X pc lv st0 (w ++ [(q, .inr (ci, d))]) cs ss := by
  obtain ⟨p, l, e, R, s, m, args, below, meth, c, nL2, P, A, Q⟩ := X
  obtain ⟨⟨hx, hb, hml, hown, hts⟩, hK, hA, hlk, hR, hnL, hPP, hnw, hao, hnm2⟩ := cx
  subst hR
  subst hPP
  subst hnL
  subst hp
  intro H locs ls hl hP hD hS
  subst hst
  have hgd : ∀ w ∈ Cond.code y b mL none :: gw, w ∈ gw := fun w h => by
    rcases List.mem_cons.mp h with rfl | h
    · exact hw.1.1.2
    · exact h
  have hF := y_free hD hS hA
  exact va_callv (va_runIN (As := As) (rest := st) (host := host) ⟨hx, hb, hml, hown, hts⟩ (hC l P q H.size) (⟨va_cnB cnt hts (gw_good (ws := Cond.code y b mL none :: gw) hgd) rfl hrm.1 hrm.2.1 (va_Nw.of rfl (hnw _ hl0)) (hts _ hw.1.1.1) hw.1.2 hrm.2.2, hw.2.2, hts _ hw.2.1⟩) ⟨cpn_blind, fun U hU hW => ⟨rfl, by rw [hU], by rw [hU]; exact y_one hP, va_K.moved hW.alike hK, ⟨va_AO.moved hW.alike hao.1, va_AO.moved hW.alike hao.2⟩, NwU_warm hW (NwU_of hnw)⟩⟩ rfl hcnt hl.1 rfl (lv_room hcat) hd hcs) hS (fun a _ h => hF a h) hF (fun u t H1 locs1 ht hvm _ hB hz1 hk1 hS1 => by
    obtain ⟨hP1, hD1⟩ := hB
    rw [ht] at hP1
    obtain ⟨hP2, hD2⟩ := y_join hP hD hk1 hF hP1 hD1
    exact k u H1 locs1 ls hl hP2 hD2 hS1)
