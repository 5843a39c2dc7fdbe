/-! the law's own methods: the judgement YG, with locals in order, the script, arrays of the law -/
/-- the script's number at j -/
def Zx (xs : Nat → Int32) (j : Int) : Int := (xs j.toNat).toInt
theorem Zx_ir (xs : Nat → Int32) (j : Int) : ir (Zx xs j) := ir_toInt _
def Sy : Yq → Nat → Nat → (Nat → Int32) → Prop
  | (p, l, e, R, s, m, args, below, meth, c, nL, P, A, Q), b, L, xs => va_X b L xs s s.heap ∧ b < s.heap.size ∧ ¬ A b ∧ L ≤ 260
/-- an int array of the law -/
abbrev ar (P : Pl) (a N : Nat) (V : Nat → Int) : Nat × va_E := (a, .inl (P.2.2 0, N, .inl (fun j => iI (V j))))
/-- an array with another number at a place -/
def uM (V : Nat → Int) (i : Nat) (v : Int) : Nat → Int := fun j => if j = i then v else V j
theorem uM_at (V : Nat → Int) (i : Nat) (v : Int) : uM V i v i = v := by simp [uM]
theorem uM_ne (V : Nat → Int) {i j : Nat} (v : Int) (h : j ≠ i) : uM V i v j = V j := by simp [uM, h]
theorem wR_get {P : Pl} {n : Nat} {M : Mm} {R : va_W} {j : Nat} {x : Nat × va_E} (h : R[j]? = some x) : (wld P n M ++ R)[n + j]? = some x := by
  have l1 : (wld P n M).length = n := by unfold wld; simp
  rw [List.getElem?_append_right (by omega), l1, show n + j - n = j by omega]
  exact h
theorem wR_set {P : Pl} {n : Nat} {M : Mm} {R : va_W} {j : Nat} {x : Nat × va_E} : (wld P n M ++ R).set (n + j) x = wld P n M ++ R.set j x := by
  have l1 : (wld P n M).length = n := by unfold wld; simp
  rw [List.set_append_right _ _ (by omega), l1, show n + j - n = j by omega]
theorem lset1_raw {lv : List (Nat × Value)} {i : Nat} {v : Value} : ∀ q ∈ lset1 lv i v, q ∈ (i, v) :: lv.filter (fun q => !(q.1 == i) && !(q.1 + 1 == i && q.2.category == 2)) := by
  intro r hr
  unfold lset1 at hr
  rcases List.mem_append.mp hr with hr | hr
  · obtain ⟨h1, h2⟩ := List.mem_filter.mp hr
    refine List.mem_cons_of_mem _ (List.mem_filter.mpr ⟨h1, ?_⟩)
    simp only [Bool.and_eq_true, Nat.ble_eq] at h2
    have hne : ¬ r.1 = i := by omega
    simp only [Bool.and_eq_true, Bool.not_eq_true', beq_eq_false_iff_ne, ne_eq]
    refine ⟨hne, ?_⟩
    have h3 := h2.2
    simp only [Bool.not_eq_true', Bool.and_eq_false_iff] at h3
    rcases h3 with h3 | h3
    · simp only [Bool.and_eq_false_iff]
      refine Or.inl ?_
      rw [beq_eq_false_iff_ne]
      intro e
      rw [e] at h3
      simp at h3
    · simp only [Bool.and_eq_false_iff]
      refine Or.inr ?_
      rw [beq_eq_false_iff_ne]
      intro e
      rw [e] at h3
      simp at h3
  · rcases List.mem_cons.mp hr with rfl | hr
    · exact List.mem_cons_self
    · obtain ⟨h1, h2⟩ := List.mem_filter.mp hr
      refine List.mem_cons_of_mem _ (List.mem_filter.mpr ⟨h1, ?_⟩)
      rw [Nat.ble_eq] at h2
      have hne : ¬ r.1 = i := by omega
      have hne2 : ¬ r.1 + 1 = i := by omega
      simp [hne, hne2]
theorem lset2_raw {lv : List (Nat × Value)} {i : Nat} {v : Value} : ∀ q ∈ lset2 lv i v, q ∈ (i, v) :: lv.filter (fun q => !(q.1 == i) && (!(q.1 == i + 1) && !(q.1 + 1 == i && q.2.category == 2))) := by
  intro r hr
  unfold lset2 at hr
  rcases List.mem_append.mp hr with hr | hr
  · obtain ⟨h1, h2⟩ := List.mem_filter.mp hr
    refine List.mem_cons_of_mem _ (List.mem_filter.mpr ⟨h1, ?_⟩)
    simp only [Bool.and_eq_true, Nat.ble_eq] at h2
    have hne : ¬ r.1 = i := by omega
    have hne3 : ¬ r.1 = i + 1 := by omega
    simp only [Bool.and_eq_true, Bool.not_eq_true', beq_eq_false_iff_ne, ne_eq]
    refine ⟨hne, hne3, ?_⟩
    have h3 := h2.2
    simp only [Bool.not_eq_true', Bool.and_eq_false_iff] at h3
    rcases h3 with h3 | h3
    · simp only [Bool.and_eq_false_iff]
      refine Or.inl ?_
      rw [beq_eq_false_iff_ne]
      intro e
      rw [e] at h3
      simp at h3
    · simp only [Bool.and_eq_false_iff]
      refine Or.inr ?_
      rw [beq_eq_false_iff_ne]
      intro e
      rw [e] at h3
      simp at h3
  · rcases List.mem_cons.mp hr with rfl | hr
    · exact List.mem_cons_self
    · obtain ⟨h1, h2⟩ := List.mem_filter.mp hr
      refine List.mem_cons_of_mem _ (List.mem_filter.mpr ⟨h1, ?_⟩)
      rw [Nat.ble_eq] at h2
      have hne : ¬ r.1 = i := by omega
      have hne3 : ¬ r.1 = i + 1 := by omega
      have hne2 : ¬ r.1 + 1 = i := by omega
      simp [hne, hne2, hne3]
theorem l_sub {X : Yq} {pc : Nat} {lv lv2 : List (Nat × Value)} {st : List Value} {w : va_W} {cs ss : Nat} (ks : List Nat) (h : lv_pick lv ks = lv2) (k : YG X pc lv2 st w cs ss) : YG X pc lv st w cs ss := by
  obtain ⟨p, l, e, R, s, m, args, below, meth, c, nL2, P, A, Q⟩ := X
  intro H locs ls hl hP hD hS
  refine k H locs ls ⟨hl.1, hl.2.1, fun r hr => hl.2.2 _ ?_⟩ hP hD hS
  rw [← h] at hr
  obtain ⟨k, -, hk⟩ := List.mem_filterMap.mp hr
  exact List.mem_of_getElem? hk
theorem l_W {X : Yq} {pc : Nat} {lv : List (Nat × Value)} {st : List Value} {w w2 : va_W} {cs ss : Nat} (e : w = w2) (k : YG X pc lv st w2 cs ss) : YG X pc lv st w cs ss := e ▸ k
theorem l_rwi {X : Yq} {pc : Nat} {lv : List (Nat × Value)} {st : List Value} {w : va_W} {cs ss : Nat} {x y : Int32} (e : x = y) (k : YG X pc lv (.int y :: st) w cs ss) : YG X pc lv (.int x :: st) w cs ss := e ▸ k
theorem l_rwl {X : Yq} {pc : Nat} {lv : List (Nat × Value)} {st : List Value} {w : va_W} {cs ss : Nat} {x y : Int64} (e : x = y) (k : YG X pc lv (.long y :: st) w cs ss) : YG X pc lv (.long x :: st) w cs ss := e ▸ k
theorem l_nm {X : Yq} {pc : Nat} {lv : List (Nat × Value)} {st : List Value} {w : va_W} {cs ss : Nat} {a : Int} (k : ∀ z : Int, z = a → YG X pc lv (.int (iI z) :: st) w cs ss) : YG X pc lv (.int (iI a) :: st) w cs ss := k a rfl
/-- the worlds' order does not matter -/
theorem l_swp {X : Yq} {pc : Nat} {lv : List (Nat × Value)} {st : List Value} {a b c : va_W} {cs ss : Nat} (k : YG X pc lv st (b ++ (a ++ c)) cs ss) : YG X pc lv st (a ++ (b ++ c)) cs ss := by
  obtain ⟨p, l, e, R, s, m, args, below, meth, c2, nL2, P, A, Q⟩ := X
  intro H locs ls hl hP hD hS
  have e1 : ∀ (i : Nat) (x : Nat × va_E), (b ++ (a ++ c))[i]? = some x → ∃ j, (a ++ (b ++ c))[j]? = some x ∧ (i < b.length → j = a.length + i) ∧ (b.length ≤ i → i < b.length + a.length → j = i - b.length) ∧ (b.length + a.length ≤ i → j = i) := by
    intro i x hx
    by_cases h1 : i < b.length
    · rw [List.getElem?_append_left h1] at hx
      exact ⟨a.length + i, by rw [List.getElem?_append_right (by omega), show a.length + i - a.length = i by omega, List.getElem?_append_left h1]; exact hx, fun _ => rfl, fun q => by omega, fun q => by omega⟩
    · rw [List.getElem?_append_right (by omega)] at hx
      by_cases h2 : i - b.length < a.length
      · rw [List.getElem?_append_left h2] at hx
        exact ⟨i - b.length, by rw [List.getElem?_append_left h2]; exact hx, fun q => by omega, fun _ _ => rfl, fun q => by omega⟩
      · rw [List.getElem?_append_right (by omega)] at hx
        exact ⟨i, by rw [List.getElem?_append_right (by omega), List.getElem?_append_right (by omega), show i - a.length - b.length = i - b.length - a.length by omega]; exact hx, fun q => by omega, fun _ q => by omega, fun _ => rfl⟩
  refine k H locs ls hl (fun i x hx => ?_) ⟨fun i j x y hx hy hxy => ?_, fun i x hx => ?_⟩ hS
  · obtain ⟨j, hj, -⟩ := e1 i x hx
    exact hP j x hj
  · obtain ⟨i2, h1, p1, p2, p3⟩ := e1 i x hx
    obtain ⟨j2, h2, q1, q2, q3⟩ := e1 j y hy
    have := hD.1 i2 j2 x y h1 h2 hxy
    omega
  · obtain ⟨j, hj, -⟩ := e1 i x hx
    exact hD.2 j x hj
theorem l_iconst {X : Yq} {cc : ByteArray} {own : String} {R0 : Room} {nL : Nat} {P0 : Pl} (cx : Yx X cc own R0 nL P0) {pc pc2 : Nat} {lv : List (Nat × Value)} {st : List Value} {w : va_W} {cs ss : Nat} {q : Int} (hd : decode cc pc = .ok (.iconst q, 1)) (hp : pc + 1 = pc2) (k : YG X pc2 lv (.int (iI q) :: st) w cs ss) : YG X pc lv st w cs ss := by
  obtain ⟨p, l, e, R, s, m, args, below, meth, c, nL2, P, A, Q⟩ := X
  obtain ⟨⟨hx, hb, hml, hown, hts⟩, hK, hA, hlk, hR, hnL, hPP, hnw, hao, hnm2⟩ := cx
  subst hR
  subst hPP
  subst hnL
  subst hp
  intro H locs ls hl hP hD hS
  exact lv_iconst hx hb hd rfl (k H locs ls hl hP hD hS)
theorem l_bipush {X : Yq} {cc : ByteArray} {own : String} {R0 : Room} {nL : Nat} {P0 : Pl} (cx : Yx X cc own R0 nL P0) {pc pc2 : Nat} {lv : List (Nat × Value)} {st : List Value} {w : va_W} {cs ss : Nat} {q : Int} (h0 : -128 ≤ q ∧ q ≤ 127) (hd : decode cc pc = .ok (.bipush q, 2)) (hp : pc + 2 = pc2) (k : YG X pc2 lv (.int (iI q) :: st) w cs ss) : YG X pc lv st w cs ss := by
  obtain ⟨p, l, e, R, s, m, args, below, meth, c, nL2, P, A, Q⟩ := X
  obtain ⟨⟨hx, hb, hml, hown, hts⟩, hK, hA, hlk, hR, hnL, hPP, hnw, hao, hnm2⟩ := cx
  subst hR
  subst hPP
  subst hnL
  subst hp
  intro H locs ls hl hP hD hS
  exact lv_bipush hx hb hd (iI_bi h0.1 h0.2) (k H locs ls hl hP hD hS)
theorem l_sipush {X : Yq} {cc : ByteArray} {own : String} {R0 : Room} {nL : Nat} {P0 : Pl} (cx : Yx X cc own R0 nL P0) {pc pc2 : Nat} {lv : List (Nat × Value)} {st : List Value} {w : va_W} {cs ss : Nat} {q : Int} (h0 : -32768 ≤ q ∧ q ≤ 32767) (hd : decode cc pc = .ok (.sipush q, 3)) (hp : pc + 3 = pc2) (k : YG X pc2 lv (.int (iI q) :: st) w cs ss) : YG X pc lv st w cs ss := by
  obtain ⟨p, l, e, R, s, m, args, below, meth, c, nL2, P, A, Q⟩ := X
  obtain ⟨⟨hx, hb, hml, hown, hts⟩, hK, hA, hlk, hR, hnL, hPP, hnw, hao, hnm2⟩ := cx
  subst hR
  subst hPP
  subst hnL
  subst hp
  intro H locs ls hl hP hD hS
  exact lv_sipush hx hb hd (iI_si h0.1 h0.2) (k H locs ls hl hP hD hS)
theorem l_ldc {X : Yq} {cc : ByteArray} {own : String} {R0 : Room} {nL : Nat} {P0 : Pl} (cx : Yx X cc own R0 nL P0) {pc pc2 : Nat} {lv : List (Nat × Value)} {st : List Value} {w : va_W} {cs ss : Nat} {i : Nat} {z : Int} (hw : Cond.constant own i (iI z) ∈ gw) (hd : decode cc pc = .ok (.ldc i, 2)) (hp : pc + 2 = pc2) (k : YG X pc2 lv (.int (iI z) :: st) w cs ss) : YG X pc lv st w cs ss := by
  obtain ⟨p, l, e, R, s, m, args, below, meth, c, nL2, P, A, Q⟩ := X
  obtain ⟨⟨hx, hb, hml, hown, hts⟩, hK, hA, hlk, hR, hnL, hPP, hnw, hao, hnm2⟩ := cx
  subst hR
  subst hPP
  subst hnL
  subst hp
  intro H locs ls hl hP hD hS
  exact lv_ldc hx hb hown (hts _ hw) hd (k H locs ls hl hP hD hS)
theorem l_lconst {X : Yq} {cc : ByteArray} {own : String} {R0 : Room} {nL : Nat} {P0 : Pl} (cx : Yx X cc own R0 nL P0) {pc pc2 : Nat} {lv : List (Nat × Value)} {st : List Value} {w : va_W} {cs ss : Nat} {q : Fin 2} (z : Int) (hz : Int64.ofNat (q : Nat) = lI z) (hd : decode cc pc = .ok (.lconst q, 1)) (hp : pc + 1 = pc2) (k : YG X pc2 lv (.long (lI z) :: st) w cs ss) : YG X pc lv st w cs ss := by
  obtain ⟨p, l, e, R, s, m, args, below, meth, c, nL2, P, A, Q⟩ := X
  obtain ⟨⟨hx, hb, hml, hown, hts⟩, hK, hA, hlk, hR, hnL, hPP, hnw, hao, hnm2⟩ := cx
  subst hR
  subst hPP
  subst hnL
  subst hp
  intro H locs ls hl hP hD hS
  exact lv_lconst hx hb hd hz (k H locs ls hl hP hD hS)
theorem l_iload_n {X : Yq} {cc : ByteArray} {own : String} {R0 : Room} {nL : Nat} {P0 : Pl} (cx : Yx X cc own R0 nL P0) {pc pc2 : Nat} {lv : List (Nat × Value)} {st : List Value} {w : va_W} {cs ss : Nat} {q : Fin 4} {x : Int32} (j : Nat) (hj : lv[j]? = some ((q : Nat), .int x)) (hd : decode cc pc = .ok (.iload_n q, 1)) (hp : pc + 1 = pc2) (k : YG X pc2 lv (.int x :: st) w cs ss) : YG X pc lv st w cs ss := by
  obtain ⟨p, l, e, R, s, m, args, below, meth, c, nL2, P, A, Q⟩ := X
  obtain ⟨⟨hx, hb, hml, hown, hts⟩, hK, hA, hlk, hR, hnL, hPP, hnw, hao, hnm2⟩ := cx
  subst hR
  subst hPP
  subst hnL
  subst hp
  intro H locs ls hl hP hD hS
  exact lv_iload_n hx hb hd rfl (lv_at hl j hj) (k H locs ls hl hP hD hS)
theorem l_iload {X : Yq} {cc : ByteArray} {own : String} {R0 : Room} {nL : Nat} {P0 : Pl} (cx : Yx X cc own R0 nL P0) {pc pc2 : Nat} {lv : List (Nat × Value)} {st : List Value} {w : va_W} {cs ss : Nat} {i : Nat} {x : Int32} (j : Nat) (hj : lv[j]? = some (i, .int x)) (hd : decode cc pc = .ok (.iload i, 2)) (hp : pc + 2 = pc2) (k : YG X pc2 lv (.int x :: st) w cs ss) : YG X pc lv st w cs ss := by
  obtain ⟨p, l, e, R, s, m, args, below, meth, c, nL2, P, A, Q⟩ := X
  obtain ⟨⟨hx, hb, hml, hown, hts⟩, hK, hA, hlk, hR, hnL, hPP, hnw, hao, hnm2⟩ := cx
  subst hR
  subst hPP
  subst hnL
  subst hp
  intro H locs ls hl hP hD hS
  exact lv_iload hx hb hd (lv_at hl j hj) (k H locs ls hl hP hD hS)
theorem l_lload_n {X : Yq} {cc : ByteArray} {own : String} {R0 : Room} {nL : Nat} {P0 : Pl} (cx : Yx X cc own R0 nL P0) {pc pc2 : Nat} {lv : List (Nat × Value)} {st : List Value} {w : va_W} {cs ss : Nat} {q : Fin 4} {x : Int64} (j : Nat) (hj : lv[j]? = some ((q : Nat), .long x)) (hd : decode cc pc = .ok (.lload_n q, 1)) (hp : pc + 1 = pc2) (k : YG X pc2 lv (.long x :: st) w cs ss) : YG X pc lv st w cs ss := by
  obtain ⟨p, l, e, R, s, m, args, below, meth, c, nL2, P, A, Q⟩ := X
  obtain ⟨⟨hx, hb, hml, hown, hts⟩, hK, hA, hlk, hR, hnL, hPP, hnw, hao, hnm2⟩ := cx
  subst hR
  subst hPP
  subst hnL
  subst hp
  intro H locs ls hl hP hD hS
  exact lv_lload_n hx hb hd rfl (lv_at hl j hj) (k H locs ls hl hP hD hS)
theorem l_lload {X : Yq} {cc : ByteArray} {own : String} {R0 : Room} {nL : Nat} {P0 : Pl} (cx : Yx X cc own R0 nL P0) {pc pc2 : Nat} {lv : List (Nat × Value)} {st : List Value} {w : va_W} {cs ss : Nat} {i : Nat} {x : Int64} (j : Nat) (hj : lv[j]? = some (i, .long x)) (hd : decode cc pc = .ok (.lload i, 2)) (hp : pc + 2 = pc2) (k : YG X pc2 lv (.long x :: st) w cs ss) : YG X pc lv st w cs ss := by
  obtain ⟨p, l, e, R, s, m, args, below, meth, c, nL2, P, A, Q⟩ := X
  obtain ⟨⟨hx, hb, hml, hown, hts⟩, hK, hA, hlk, hR, hnL, hPP, hnw, hao, hnm2⟩ := cx
  subst hR
  subst hPP
  subst hnL
  subst hp
  intro H locs ls hl hP hD hS
  exact lv_lload hx hb hd (lv_at hl j hj) (k H locs ls hl hP hD hS)
theorem l_aload_n {X : Yq} {cc : ByteArray} {own : String} {R0 : Room} {nL : Nat} {P0 : Pl} (cx : Yx X cc own R0 nL P0) {pc pc2 : Nat} {lv : List (Nat × Value)} {st : List Value} {w : va_W} {cs ss : Nat} {q : Fin 4} {x : Nat} (j : Nat) (hj : lv[j]? = some ((q : Nat), .ref x)) (hd : decode cc pc = .ok (.aload_n q, 1)) (hp : pc + 1 = pc2) (k : YG X pc2 lv (.ref x :: st) w cs ss) : YG X pc lv st w cs ss := by
  obtain ⟨p, l, e, R, s, m, args, below, meth, c, nL2, P, A, Q⟩ := X
  obtain ⟨⟨hx, hb, hml, hown, hts⟩, hK, hA, hlk, hR, hnL, hPP, hnw, hao, hnm2⟩ := cx
  subst hR
  subst hPP
  subst hnL
  subst hp
  intro H locs ls hl hP hD hS
  exact lv_aload_n hx hb hd rfl (lv_at hl j hj) (k H locs ls hl hP hD hS)
theorem l_aload {X : Yq} {cc : ByteArray} {own : String} {R0 : Room} {nL : Nat} {P0 : Pl} (cx : Yx X cc own R0 nL P0) {pc pc2 : Nat} {lv : List (Nat × Value)} {st : List Value} {w : va_W} {cs ss : Nat} {i : Nat} {x : Nat} (j : Nat) (hj : lv[j]? = some (i, .ref x)) (hd : decode cc pc = .ok (.aload i, 2)) (hp : pc + 2 = pc2) (k : YG X pc2 lv (.ref x :: st) w cs ss) : YG X pc lv st w cs ss := by
  obtain ⟨p, l, e, R, s, m, args, below, meth, c, nL2, P, A, Q⟩ := X
  obtain ⟨⟨hx, hb, hml, hown, hts⟩, hK, hA, hlk, hR, hnL, hPP, hnw, hao, hnm2⟩ := cx
  subst hR
  subst hPP
  subst hnL
  subst hp
  intro H locs ls hl hP hD hS
  exact lv_aload hx hb hd (lv_at hl j hj) (k H locs ls hl hP hD hS)
theorem l_istore_n {X : Yq} {cc : ByteArray} {own : String} {R0 : Room} {nL : Nat} {P0 : Pl} (cx : Yx X cc own R0 nL P0) {pc pc2 : Nat} {lv : List (Nat × Value)} {st : List Value} {w : va_W} {cs ss : Nat} {q : Fin 4} {x : Int32} {lv2 : List (Nat × Value)} (hl2 : lset1 lv (q : Nat) (.int x) = lv2) (hi : (q : Nat) < nL) (hd : decode cc pc = .ok (.istore_n q, 1)) (hp : pc + 1 = pc2) (k : YG X pc2 lv2 st w cs ss) : YG X pc lv (.int x :: st) w cs ss := by
  obtain ⟨p, l, e, R, s, m, args, below, meth, c, nL2, P, A, Q⟩ := X
  obtain ⟨⟨hx, hb, hml, hown, hts⟩, hK, hA, hlk, hR, hnL, hPP, hnw, hao, hnm2⟩ := cx
  subst hR
  subst hPP
  subst hnL
  subst hp
  subst hl2
  intro H locs ls hl hP hD hS
  exact lv_istore_n hx hb hd rfl hl hi rfl (fun ls2 hl2 => k H locs ls2 (lset_mem hl2 lset1_raw) hP hD hS)
theorem l_istore {X : Yq} {cc : ByteArray} {own : String} {R0 : Room} {nL : Nat} {P0 : Pl} (cx : Yx X cc own R0 nL P0) {pc pc2 : Nat} {lv : List (Nat × Value)} {st : List Value} {w : va_W} {cs ss : Nat} {i : Nat} {x : Int32} {lv2 : List (Nat × Value)} (hl2 : lset1 lv i (.int x) = lv2) (hi : i < nL) (hd : decode cc pc = .ok (.istore i, 2)) (hp : pc + 2 = pc2) (k : YG X pc2 lv2 st w cs ss) : YG X pc lv (.int x :: st) w cs ss := by
  obtain ⟨p, l, e, R, s, m, args, below, meth, c, nL2, P, A, Q⟩ := X
  obtain ⟨⟨hx, hb, hml, hown, hts⟩, hK, hA, hlk, hR, hnL, hPP, hnw, hao, hnm2⟩ := cx
  subst hR
  subst hPP
  subst hnL
  subst hp
  subst hl2
  intro H locs ls hl hP hD hS
  exact lv_istore hx hb hd hl hi rfl (fun ls2 hl2 => k H locs ls2 (lset_mem hl2 lset1_raw) hP hD hS)
theorem l_astore_n {X : Yq} {cc : ByteArray} {own : String} {R0 : Room} {nL : Nat} {P0 : Pl} (cx : Yx X cc own R0 nL P0) {pc pc2 : Nat} {lv : List (Nat × Value)} {st : List Value} {w : va_W} {cs ss : Nat} {q : Fin 4} {x : Nat} {lv2 : List (Nat × Value)} (hl2 : lset1 lv (q : Nat) (.ref x) = lv2) (hi : (q : Nat) < nL) (hd : decode cc pc = .ok (.astore_n q, 1)) (hp : pc + 1 = pc2) (k : YG X pc2 lv2 st w cs ss) : YG X pc lv (.ref x :: st) w cs ss := by
  obtain ⟨p, l, e, R, s, m, args, below, meth, c, nL2, P, A, Q⟩ := X
  obtain ⟨⟨hx, hb, hml, hown, hts⟩, hK, hA, hlk, hR, hnL, hPP, hnw, hao, hnm2⟩ := cx
  subst hR
  subst hPP
  subst hnL
  subst hp
  subst hl2
  intro H locs ls hl hP hD hS
  exact lv_astore_n hx hb hd rfl hl hi rfl (fun ls2 hl2 => k H locs ls2 (lset_mem hl2 lset1_raw) hP hD hS)
theorem l_astore {X : Yq} {cc : ByteArray} {own : String} {R0 : Room} {nL : Nat} {P0 : Pl} (cx : Yx X cc own R0 nL P0) {pc pc2 : Nat} {lv : List (Nat × Value)} {st : List Value} {w : va_W} {cs ss : Nat} {i : Nat} {x : Nat} {lv2 : List (Nat × Value)} (hl2 : lset1 lv i (.ref x) = lv2) (hi : i < nL) (hd : decode cc pc = .ok (.astore i, 2)) (hp : pc + 2 = pc2) (k : YG X pc2 lv2 st w cs ss) : YG X pc lv (.ref x :: st) w cs ss := by
  obtain ⟨p, l, e, R, s, m, args, below, meth, c, nL2, P, A, Q⟩ := X
  obtain ⟨⟨hx, hb, hml, hown, hts⟩, hK, hA, hlk, hR, hnL, hPP, hnw, hao, hnm2⟩ := cx
  subst hR
  subst hPP
  subst hnL
  subst hp
  subst hl2
  intro H locs ls hl hP hD hS
  exact lv_astore hx hb hd hl hi rfl (fun ls2 hl2 => k H locs ls2 (lset_mem hl2 lset1_raw) hP hD hS)
theorem l_lstore {X : Yq} {cc : ByteArray} {own : String} {R0 : Room} {nL : Nat} {P0 : Pl} (cx : Yx X cc own R0 nL P0) {pc pc2 : Nat} {lv : List (Nat × Value)} {st : List Value} {w : va_W} {cs ss : Nat} {i : Nat} {x : Int64} {lv2 : List (Nat × Value)} (hl2 : lset2 lv i (.long x) = lv2) (hi : i + 1 < nL) (hd : decode cc pc = .ok (.lstore i, 2)) (hp : pc + 2 = pc2) (k : YG X pc2 lv2 st w cs ss) : YG X pc lv (.long x :: st) w cs ss := by
  obtain ⟨p, l, e, R, s, m, args, below, meth, c, nL2, P, A, Q⟩ := X
  obtain ⟨⟨hx, hb, hml, hown, hts⟩, hK, hA, hlk, hR, hnL, hPP, hnw, hao, hnm2⟩ := cx
  subst hR
  subst hPP
  subst hnL
  subst hp
  subst hl2
  intro H locs ls hl hP hD hS
  exact lv_lstore hx hb hd hl hi rfl (fun ls2 hl2 => k H locs ls2 (lset_mem hl2 lset2_raw) hP hD hS)
theorem l_iinc {X : Yq} {cc : ByteArray} {own : String} {R0 : Room} {nL : Nat} {P0 : Pl} (cx : Yx X cc own R0 nL P0) {pc pc2 : Nat} {lv : List (Nat × Value)} {st : List Value} {w : va_W} {cs ss : Nat} {i : Nat} {q z : Int} (j : Nat) (hj : lv[j]? = some (i, .int (iI z))) {lv2 : List (Nat × Value)} (hl2 : lset1 lv i (.int (iI (z + q))) = lv2) (hi : i < nL) (hd : decode cc pc = .ok (.iinc i q, 3)) (hp : pc + 3 = pc2) (k : YG X pc2 lv2 st w cs ss) : YG X pc lv st w cs ss := by
  obtain ⟨p, l, e, R, s, m, args, below, meth, c, nL2, P, A, Q⟩ := X
  obtain ⟨⟨hx, hb, hml, hown, hts⟩, hK, hA, hlk, hR, hnL, hPP, hnw, hao, hnm2⟩ := cx
  subst hR
  subst hPP
  subst hnL
  subst hp
  subst hl2
  intro H locs ls hl hP hD hS
  exact lv_iinc hx hb hd hl (k := j) (x := iI z) hj (iI_add z q) hi rfl (fun ls2 hl2 => k H locs ls2 (lset_mem hl2 lset1_raw) hP hD hS)
theorem l_iadd {X : Yq} {cc : ByteArray} {own : String} {R0 : Room} {nL : Nat} {P0 : Pl} (cx : Yx X cc own R0 nL P0) {pc pc2 : Nat} {lv : List (Nat × Value)} {st : List Value} {w : va_W} {cs ss : Nat} {a b : Int} (hd : decode cc pc = .ok (.iadd, 1)) (hp : pc + 1 = pc2) (k : YG X pc2 lv (.int (iI (a + b)) :: st) w cs ss) : YG X pc lv (.int (iI b) :: .int (iI a) :: st) w cs ss := by
  obtain ⟨p, l, e, R, s, m, args, below, meth, c, nL2, P, A, Q⟩ := X
  obtain ⟨⟨hx, hb, hml, hown, hts⟩, hK, hA, hlk, hR, hnL, hPP, hnw, hao, hnm2⟩ := cx
  subst hR
  subst hPP
  subst hnL
  subst hp
  intro H locs ls hl hP hD hS
  exact lv_iadd hx hb hd (by rw [iI_add]; exact (k H locs ls hl hP hD hS))
theorem l_isub {X : Yq} {cc : ByteArray} {own : String} {R0 : Room} {nL : Nat} {P0 : Pl} (cx : Yx X cc own R0 nL P0) {pc pc2 : Nat} {lv : List (Nat × Value)} {st : List Value} {w : va_W} {cs ss : Nat} {a b : Int} (hd : decode cc pc = .ok (.isub, 1)) (hp : pc + 1 = pc2) (k : YG X pc2 lv (.int (iI (a - b)) :: st) w cs ss) : YG X pc lv (.int (iI b) :: .int (iI a) :: st) w cs ss := by
  obtain ⟨p, l, e, R, s, m, args, below, meth, c, nL2, P, A, Q⟩ := X
  obtain ⟨⟨hx, hb, hml, hown, hts⟩, hK, hA, hlk, hR, hnL, hPP, hnw, hao, hnm2⟩ := cx
  subst hR
  subst hPP
  subst hnL
  subst hp
  intro H locs ls hl hP hD hS
  exact lv_isub hx hb hd (by rw [iI_sub]; exact (k H locs ls hl hP hD hS))
theorem l_imul {X : Yq} {cc : ByteArray} {own : String} {R0 : Room} {nL : Nat} {P0 : Pl} (cx : Yx X cc own R0 nL P0) {pc pc2 : Nat} {lv : List (Nat × Value)} {st : List Value} {w : va_W} {cs ss : Nat} {a b : Int} (hd : decode cc pc = .ok (.imul, 1)) (hp : pc + 1 = pc2) (k : YG X pc2 lv (.int (iI (a * b)) :: st) w cs ss) : YG X pc lv (.int (iI b) :: .int (iI a) :: st) w cs ss := by
  obtain ⟨p, l, e, R, s, m, args, below, meth, c, nL2, P, A, Q⟩ := X
  obtain ⟨⟨hx, hb, hml, hown, hts⟩, hK, hA, hlk, hR, hnL, hPP, hnw, hao, hnm2⟩ := cx
  subst hR
  subst hPP
  subst hnL
  subst hp
  intro H locs ls hl hP hD hS
  exact lv_imul hx hb hd (by rw [iI_mul]; exact (k H locs ls hl hP hD hS))
theorem l_lmul {X : Yq} {cc : ByteArray} {own : String} {R0 : Room} {nL : Nat} {P0 : Pl} (cx : Yx X cc own R0 nL P0) {pc pc2 : Nat} {lv : List (Nat × Value)} {st : List Value} {w : va_W} {cs ss : Nat} {a b : Int} (hd : decode cc pc = .ok (.lmul, 1)) (hp : pc + 1 = pc2) (k : YG X pc2 lv (.long (lI (a * b)) :: st) w cs ss) : YG X pc lv (.long (lI b) :: .long (lI a) :: st) w cs ss := by
  obtain ⟨p, l, e, R, s, m, args, below, meth, c, nL2, P, A, Q⟩ := X
  obtain ⟨⟨hx, hb, hml, hown, hts⟩, hK, hA, hlk, hR, hnL, hPP, hnw, hao, hnm2⟩ := cx
  subst hR
  subst hPP
  subst hnL
  subst hp
  intro H locs ls hl hP hD hS
  exact lv_lmul hx hb hd (by rw [lI_mul]; exact (k H locs ls hl hP hD hS))
theorem l_idiv {X : Yq} {cc : ByteArray} {own : String} {R0 : Room} {nL : Nat} {P0 : Pl} (cx : Yx X cc own R0 nL P0) {pc pc2 : Nat} {lv : List (Nat × Value)} {st : List Value} {w : va_W} {cs ss : Nat} {a b : Int} (h0 : ir a ∧ ir b ∧ b ≠ 0 ∧ (a ≠ -2147483648 ∨ b ≠ -1)) (hd : decode cc pc = .ok (.idiv, 1)) (hp : pc + 1 = pc2) (k : YG X pc2 lv (.int (iI (a.tdiv b)) :: st) w cs ss) : YG X pc lv (.int (iI b) :: .int (iI a) :: st) w cs ss := by
  obtain ⟨p, l, e, R, s, m, args, below, meth, c, nL2, P, A, Q⟩ := X
  obtain ⟨⟨hx, hb, hml, hown, hts⟩, hK, hA, hlk, hR, hnL, hPP, hnw, hao, hnm2⟩ := cx
  subst hR
  subst hPP
  subst hnL
  subst hp
  intro H locs ls hl hP hD hS
  exact lv_idiv hx hb hd (fun q => h0.2.2.1 ((iI_eq0 h0.2.1).mp q)) (by rw [iI_div h0.1 h0.2.1 h0.2.2.2]; exact (k H locs ls hl hP hD hS))
theorem l_irem {X : Yq} {cc : ByteArray} {own : String} {R0 : Room} {nL : Nat} {P0 : Pl} (cx : Yx X cc own R0 nL P0) {pc pc2 : Nat} {lv : List (Nat × Value)} {st : List Value} {w : va_W} {cs ss : Nat} {a b : Int} (h0 : ir a ∧ ir b ∧ b ≠ 0 ∧ (a ≠ -2147483648 ∨ b ≠ -1)) (hd : decode cc pc = .ok (.irem, 1)) (hp : pc + 1 = pc2) (k : YG X pc2 lv (.int (iI (a - a.tdiv b * b)) :: st) w cs ss) : YG X pc lv (.int (iI b) :: .int (iI a) :: st) w cs ss := by
  obtain ⟨p, l, e, R, s, m, args, below, meth, c, nL2, P, A, Q⟩ := X
  obtain ⟨⟨hx, hb, hml, hown, hts⟩, hK, hA, hlk, hR, hnL, hPP, hnw, hao, hnm2⟩ := cx
  subst hR
  subst hPP
  subst hnL
  subst hp
  intro H locs ls hl hP hD hS
  exact lv_irem hx hb hd (fun q => h0.2.2.1 ((iI_eq0 h0.2.1).mp q)) (by rw [iI_div h0.1 h0.2.1 h0.2.2.2, iI_mul, iI_sub]; exact (k H locs ls hl hP hD hS))
theorem l_iand {X : Yq} {cc : ByteArray} {own : String} {R0 : Room} {nL : Nat} {P0 : Pl} (cx : Yx X cc own R0 nL P0) {pc pc2 : Nat} {lv : List (Nat × Value)} {st : List Value} {w : va_W} {cs ss : Nat} {x y : Int32} (hd : decode cc pc = .ok (.iand, 1)) (hp : pc + 1 = pc2) (k : YG X pc2 lv (.int (x &&& y) :: st) w cs ss) : YG X pc lv (.int y :: .int x :: st) w cs ss := by
  obtain ⟨p, l, e, R, s, m, args, below, meth, c, nL2, P, A, Q⟩ := X
  obtain ⟨⟨hx, hb, hml, hown, hts⟩, hK, hA, hlk, hR, hnL, hPP, hnw, hao, hnm2⟩ := cx
  subst hR
  subst hPP
  subst hnL
  subst hp
  intro H locs ls hl hP hD hS
  exact lv_iand hx hb hd (k H locs ls hl hP hD hS)
theorem l_ior {X : Yq} {cc : ByteArray} {own : String} {R0 : Room} {nL : Nat} {P0 : Pl} (cx : Yx X cc own R0 nL P0) {pc pc2 : Nat} {lv : List (Nat × Value)} {st : List Value} {w : va_W} {cs ss : Nat} {x y : Int32} (hd : decode cc pc = .ok (.ior, 1)) (hp : pc + 1 = pc2) (k : YG X pc2 lv (.int (x ||| y) :: st) w cs ss) : YG X pc lv (.int y :: .int x :: st) w cs ss := by
  obtain ⟨p, l, e, R, s, m, args, below, meth, c, nL2, P, A, Q⟩ := X
  obtain ⟨⟨hx, hb, hml, hown, hts⟩, hK, hA, hlk, hR, hnL, hPP, hnw, hao, hnm2⟩ := cx
  subst hR
  subst hPP
  subst hnL
  subst hp
  intro H locs ls hl hP hD hS
  exact lv_ior hx hb hd (k H locs ls hl hP hD hS)
theorem l_ixor {X : Yq} {cc : ByteArray} {own : String} {R0 : Room} {nL : Nat} {P0 : Pl} (cx : Yx X cc own R0 nL P0) {pc pc2 : Nat} {lv : List (Nat × Value)} {st : List Value} {w : va_W} {cs ss : Nat} {x y : Int32} (hd : decode cc pc = .ok (.ixor, 1)) (hp : pc + 1 = pc2) (k : YG X pc2 lv (.int (x ^^^ y) :: st) w cs ss) : YG X pc lv (.int y :: .int x :: st) w cs ss := by
  obtain ⟨p, l, e, R, s, m, args, below, meth, c, nL2, P, A, Q⟩ := X
  obtain ⟨⟨hx, hb, hml, hown, hts⟩, hK, hA, hlk, hR, hnL, hPP, hnw, hao, hnm2⟩ := cx
  subst hR
  subst hPP
  subst hnL
  subst hp
  intro H locs ls hl hP hD hS
  exact lv_ixor hx hb hd (k H locs ls hl hP hD hS)
theorem l_ishl {X : Yq} {cc : ByteArray} {own : String} {R0 : Room} {nL : Nat} {P0 : Pl} (cx : Yx X cc own R0 nL P0) {pc pc2 : Nat} {lv : List (Nat × Value)} {st : List Value} {w : va_W} {cs ss : Nat} {x y : Int32} (hd : decode cc pc = .ok (.ishl, 1)) (hp : pc + 1 = pc2) (k : YG X pc2 lv (.int (x <<< (y &&& 31)) :: st) w cs ss) : YG X pc lv (.int y :: .int x :: st) w cs ss := by
  obtain ⟨p, l, e, R, s, m, args, below, meth, c, nL2, P, A, Q⟩ := X
  obtain ⟨⟨hx, hb, hml, hown, hts⟩, hK, hA, hlk, hR, hnL, hPP, hnw, hao, hnm2⟩ := cx
  subst hR
  subst hPP
  subst hnL
  subst hp
  intro H locs ls hl hP hD hS
  exact lv_ishl hx hb hd (k H locs ls hl hP hD hS)
theorem l_ishr {X : Yq} {cc : ByteArray} {own : String} {R0 : Room} {nL : Nat} {P0 : Pl} (cx : Yx X cc own R0 nL P0) {pc pc2 : Nat} {lv : List (Nat × Value)} {st : List Value} {w : va_W} {cs ss : Nat} {x y : Int32} (hd : decode cc pc = .ok (.ishr, 1)) (hp : pc + 1 = pc2) (k : YG X pc2 lv (.int (x >>> (y &&& 31)) :: st) w cs ss) : YG X pc lv (.int y :: .int x :: st) w cs ss := by
  obtain ⟨p, l, e, R, s, m, args, below, meth, c, nL2, P, A, Q⟩ := X
  obtain ⟨⟨hx, hb, hml, hown, hts⟩, hK, hA, hlk, hR, hnL, hPP, hnw, hao, hnm2⟩ := cx
  subst hR
  subst hPP
  subst hnL
  subst hp
  intro H locs ls hl hP hD hS
  exact lv_ishr hx hb hd (k H locs ls hl hP hD hS)
theorem l_lcmp {X : Yq} {cc : ByteArray} {own : String} {R0 : Room} {nL : Nat} {P0 : Pl} (cx : Yx X cc own R0 nL P0) {pc pc2 : Nat} {lv : List (Nat × Value)} {st : List Value} {w : va_W} {cs ss : Nat} {a b : Int} (h0 : lr a ∧ lr b) (hd : decode cc pc = .ok (.lcmp, 1)) (hp : pc + 1 = pc2) (k : YG X pc2 lv (.int (iI (if b < a then 1 else if a = b then 0 else -1)) :: st) w cs ss) : YG X pc lv (.long (lI b) :: .long (lI a) :: st) w cs ss := by
  obtain ⟨p, l, e, R, s, m, args, below, meth, c, nL2, P, A, Q⟩ := X
  obtain ⟨⟨hx, hb, hml, hown, hts⟩, hK, hA, hlk, hR, hnL, hPP, hnw, hao, hnm2⟩ := cx
  subst hR
  subst hPP
  subst hnL
  subst hp
  intro H locs ls hl hP hD hS
  have e : lg_cmp (lI a) (lI b) = iI (if b < a then 1 else if a = b then 0 else -1) := by
    unfold lg_cmp
    simp only [gt_iff_lt, lI_lt h0.2 h0.1, lI_eq h0.1 h0.2]
    by_cases h1 : b < a
    · rw [if_pos h1, if_pos h1]; rfl
    · by_cases h2 : a = b
      · rw [if_neg h1, if_pos h2, if_neg h1, if_pos h2]; rfl
      · rw [if_neg h1, if_neg h2, if_neg h1, if_neg h2]; rfl
  exact W.lcmp hx hb hd (by rw [e]; exact (k H locs ls hl hP hD hS))
theorem l_lcmpE {X : Yq} {cc : ByteArray} {own : String} {R0 : Room} {nL : Nat} {P0 : Pl} (cx : Yx X cc own R0 nL P0) {pc pc2 : Nat} {lv : List (Nat × Value)} {st : List Value} {w : va_W} {cs ss : Nat} {x y : Int64} (h0 : x = y) (hd : decode cc pc = .ok (.lcmp, 1)) (hp : pc + 1 = pc2) (k : YG X pc2 lv (.int (iI 0) :: st) w cs ss) : YG X pc lv (.long y :: .long x :: st) w cs ss := by
  obtain ⟨p, l, e, R, s, m, args, below, meth, c, nL2, P, A, Q⟩ := X
  obtain ⟨⟨hx, hb, hml, hown, hts⟩, hK, hA, hlk, hR, hnL, hPP, hnw, hao, hnm2⟩ := cx
  subst hR
  subst hPP
  subst hnL
  subst hp
  intro H locs ls hl hP hD hS
  subst h0
  have e : lg_cmp x x = iI 0 := by
    unfold lg_cmp
    rw [if_neg (fun q => absurd q Int64.lt_irrefl), if_pos rfl]
    rfl
  exact W.lcmp hx hb hd (by rw [e]; exact (k H locs ls hl hP hD hS))
theorem l_dup {X : Yq} {cc : ByteArray} {own : String} {R0 : Room} {nL : Nat} {P0 : Pl} (cx : Yx X cc own R0 nL P0) {pc pc2 : Nat} {lv : List (Nat × Value)} {st : List Value} {w : va_W} {cs ss : Nat} {v : Value} (hv : v.category = 1) (hd : decode cc pc = .ok (.dup, 1)) (hp : pc + 1 = pc2) (k : YG X pc2 lv (v :: v :: st) w cs ss) : YG X pc lv (v :: st) w cs ss := by
  obtain ⟨p, l, e, R, s, m, args, below, meth, c, nL2, P, A, Q⟩ := X
  obtain ⟨⟨hx, hb, hml, hown, hts⟩, hK, hA, hlk, hR, hnL, hPP, hnw, hao, hnm2⟩ := cx
  subst hR
  subst hPP
  subst hnL
  subst hp
  intro H locs ls hl hP hD hS
  exact lv_dup hx hb hd hv (k H locs ls hl hP hD hS)
theorem l_if_eq {X : Yq} {cc : ByteArray} {own : String} {R0 : Room} {nL : Nat} {P0 : Pl} (cx : Yx X cc own R0 nL P0) {pc pc2 : Nat} {lv : List (Nat × Value)} {st : List Value} {w : va_W} {cs ss : Nat} {a off : Int} {tgt : Nat} (h0 : ir a) (hd : decode cc pc = .ok (.ifCond .eq off, 3)) (ht : (pc : Int) + off = (tgt : Int)) (hp : pc + 3 = pc2) (kt : a = 0 → YG X tgt lv st w cs ss) (kf : ¬ a = 0 → YG X pc2 lv st w cs ss) : YG X pc lv (.int (iI a) :: st) w cs ss := by
  obtain ⟨p, l, e, R, s, m, args, below, meth, c, nL2, P, A, Q⟩ := X
  obtain ⟨⟨hx, hb, hml, hown, hts⟩, hK, hA, hlk, hR, hnL, hPP, hnw, hao, hnm2⟩ := cx
  subst hR
  subst hPP
  subst hnL
  subst hp
  intro H locs ls hl hP hD hS
  exact lv_if_eq hx hb hd ht (fun q => kt ((iI_eq0 h0).mp q) H locs ls hl hP hD hS) (fun q => kf (fun z => q ((iI_eq0 h0).mpr z)) H locs ls hl hP hD hS)
theorem l_if_ne {X : Yq} {cc : ByteArray} {own : String} {R0 : Room} {nL : Nat} {P0 : Pl} (cx : Yx X cc own R0 nL P0) {pc pc2 : Nat} {lv : List (Nat × Value)} {st : List Value} {w : va_W} {cs ss : Nat} {a off : Int} {tgt : Nat} (h0 : ir a) (hd : decode cc pc = .ok (.ifCond .ne off, 3)) (ht : (pc : Int) + off = (tgt : Int)) (hp : pc + 3 = pc2) (kt : ¬ a = 0 → YG X tgt lv st w cs ss) (kf : a = 0 → YG X pc2 lv st w cs ss) : YG X pc lv (.int (iI a) :: st) w cs ss := by
  obtain ⟨p, l, e, R, s, m, args, below, meth, c, nL2, P, A, Q⟩ := X
  obtain ⟨⟨hx, hb, hml, hown, hts⟩, hK, hA, hlk, hR, hnL, hPP, hnw, hao, hnm2⟩ := cx
  subst hR
  subst hPP
  subst hnL
  subst hp
  intro H locs ls hl hP hD hS
  exact lv_if_ne hx hb hd ht (fun q => kt (fun z => q ((iI_eq0 h0).mpr z)) H locs ls hl hP hD hS) (fun q => kf ((iI_eq0 h0).mp q) H locs ls hl hP hD hS)
theorem l_if_lt {X : Yq} {cc : ByteArray} {own : String} {R0 : Room} {nL : Nat} {P0 : Pl} (cx : Yx X cc own R0 nL P0) {pc pc2 : Nat} {lv : List (Nat × Value)} {st : List Value} {w : va_W} {cs ss : Nat} {a off : Int} {tgt : Nat} (h0 : ir a) (hd : decode cc pc = .ok (.ifCond .lt off, 3)) (ht : (pc : Int) + off = (tgt : Int)) (hp : pc + 3 = pc2) (kt : a < 0 → YG X tgt lv st w cs ss) (kf : ¬ a < 0 → YG X pc2 lv st w cs ss) : YG X pc lv (.int (iI a) :: st) w cs ss := by
  obtain ⟨p, l, e, R, s, m, args, below, meth, c, nL2, P, A, Q⟩ := X
  obtain ⟨⟨hx, hb, hml, hown, hts⟩, hK, hA, hlk, hR, hnL, hPP, hnw, hao, hnm2⟩ := cx
  subst hR
  subst hPP
  subst hnL
  subst hp
  intro H locs ls hl hP hD hS
  exact lv_if_lt hx hb hd ht (fun q => kt ((iI_lt0 h0).mp q) H locs ls hl hP hD hS) (fun q => kf (fun z => q ((iI_lt0 h0).mpr z)) H locs ls hl hP hD hS)
theorem l_if_ge {X : Yq} {cc : ByteArray} {own : String} {R0 : Room} {nL : Nat} {P0 : Pl} (cx : Yx X cc own R0 nL P0) {pc pc2 : Nat} {lv : List (Nat × Value)} {st : List Value} {w : va_W} {cs ss : Nat} {a off : Int} {tgt : Nat} (h0 : ir a) (hd : decode cc pc = .ok (.ifCond .ge off, 3)) (ht : (pc : Int) + off = (tgt : Int)) (hp : pc + 3 = pc2) (kt : 0 ≤ a → YG X tgt lv st w cs ss) (kf : ¬ 0 ≤ a → YG X pc2 lv st w cs ss) : YG X pc lv (.int (iI a) :: st) w cs ss := by
  obtain ⟨p, l, e, R, s, m, args, below, meth, c, nL2, P, A, Q⟩ := X
  obtain ⟨⟨hx, hb, hml, hown, hts⟩, hK, hA, hlk, hR, hnL, hPP, hnw, hao, hnm2⟩ := cx
  subst hR
  subst hPP
  subst hnL
  subst hp
  intro H locs ls hl hP hD hS
  exact lv_if_ge hx hb hd ht (fun q => kt ((iI_ge0 h0).mp q) H locs ls hl hP hD hS) (fun q => kf (fun z => q ((iI_ge0 h0).mpr z)) H locs ls hl hP hD hS)
theorem l_if_gt {X : Yq} {cc : ByteArray} {own : String} {R0 : Room} {nL : Nat} {P0 : Pl} (cx : Yx X cc own R0 nL P0) {pc pc2 : Nat} {lv : List (Nat × Value)} {st : List Value} {w : va_W} {cs ss : Nat} {a off : Int} {tgt : Nat} (h0 : ir a) (hd : decode cc pc = .ok (.ifCond .gt off, 3)) (ht : (pc : Int) + off = (tgt : Int)) (hp : pc + 3 = pc2) (kt : 0 < a → YG X tgt lv st w cs ss) (kf : ¬ 0 < a → YG X pc2 lv st w cs ss) : YG X pc lv (.int (iI a) :: st) w cs ss := by
  obtain ⟨p, l, e, R, s, m, args, below, meth, c, nL2, P, A, Q⟩ := X
  obtain ⟨⟨hx, hb, hml, hown, hts⟩, hK, hA, hlk, hR, hnL, hPP, hnw, hao, hnm2⟩ := cx
  subst hR
  subst hPP
  subst hnL
  subst hp
  intro H locs ls hl hP hD hS
  exact lv_if_gt hx hb hd ht (fun q => kt ((iI_gt0 h0).mp q) H locs ls hl hP hD hS) (fun q => kf (fun z => q ((iI_gt0 h0).mpr z)) H locs ls hl hP hD hS)
theorem l_if_le {X : Yq} {cc : ByteArray} {own : String} {R0 : Room} {nL : Nat} {P0 : Pl} (cx : Yx X cc own R0 nL P0) {pc pc2 : Nat} {lv : List (Nat × Value)} {st : List Value} {w : va_W} {cs ss : Nat} {a off : Int} {tgt : Nat} (h0 : ir a) (hd : decode cc pc = .ok (.ifCond .le off, 3)) (ht : (pc : Int) + off = (tgt : Int)) (hp : pc + 3 = pc2) (kt : a ≤ 0 → YG X tgt lv st w cs ss) (kf : ¬ a ≤ 0 → YG X pc2 lv st w cs ss) : YG X pc lv (.int (iI a) :: st) w cs ss := by
  obtain ⟨p, l, e, R, s, m, args, below, meth, c, nL2, P, A, Q⟩ := X
  obtain ⟨⟨hx, hb, hml, hown, hts⟩, hK, hA, hlk, hR, hnL, hPP, hnw, hao, hnm2⟩ := cx
  subst hR
  subst hPP
  subst hnL
  subst hp
  intro H locs ls hl hP hD hS
  exact lv_if_le hx hb hd ht (fun q => kt ((iI_le0 h0).mp q) H locs ls hl hP hD hS) (fun q => kf (fun z => q ((iI_le0 h0).mpr z)) H locs ls hl hP hD hS)
theorem l_ifb_eq {X : Yq} {cc : ByteArray} {own : String} {R0 : Room} {nL : Nat} {P0 : Pl} (cx : Yx X cc own R0 nL P0) {pc pc2 : Nat} {lv : List (Nat × Value)} {st : List Value} {w : va_W} {cs ss : Nat} {φ : Prop} [Decidable φ] {off : Int} {tgt : Nat} (hd : decode cc pc = .ok (.ifCond .eq off, 3)) (ht : (pc : Int) + off = (tgt : Int)) (hp : pc + 3 = pc2) (kt : ¬ φ → YG X tgt lv st w cs ss) (kf : φ → YG X pc2 lv st w cs ss) : YG X pc lv (.int (iI (b2 φ)) :: st) w cs ss := by
  obtain ⟨p, l, e, R, s, m, args, below, meth, c, nL2, P, A, Q⟩ := X
  obtain ⟨⟨hx, hb, hml, hown, hts⟩, hK, hA, hlk, hR, hnL, hPP, hnw, hao, hnm2⟩ := cx
  subst hR
  subst hPP
  subst hnL
  subst hp
  intro H locs ls hl hP hD hS
  exact lv_if_eq hx hb hd ht (fun q => kt (b2_0.mp q) H locs ls hl hP hD hS) (fun q => kf (Classical.not_not.mp fun z => q (b2_0.mpr z)) H locs ls hl hP hD hS)
theorem l_ifb_ne {X : Yq} {cc : ByteArray} {own : String} {R0 : Room} {nL : Nat} {P0 : Pl} (cx : Yx X cc own R0 nL P0) {pc pc2 : Nat} {lv : List (Nat × Value)} {st : List Value} {w : va_W} {cs ss : Nat} {φ : Prop} [Decidable φ] {off : Int} {tgt : Nat} (hd : decode cc pc = .ok (.ifCond .ne off, 3)) (ht : (pc : Int) + off = (tgt : Int)) (hp : pc + 3 = pc2) (kt : φ → YG X tgt lv st w cs ss) (kf : ¬ φ → YG X pc2 lv st w cs ss) : YG X pc lv (.int (iI (b2 φ)) :: st) w cs ss := by
  obtain ⟨p, l, e, R, s, m, args, below, meth, c, nL2, P, A, Q⟩ := X
  obtain ⟨⟨hx, hb, hml, hown, hts⟩, hK, hA, hlk, hR, hnL, hPP, hnw, hao, hnm2⟩ := cx
  subst hR
  subst hPP
  subst hnL
  subst hp
  intro H locs ls hl hP hD hS
  exact lv_if_ne hx hb hd ht (fun q => kt (Classical.not_not.mp fun z => q (b2_0.mpr z)) H locs ls hl hP hD hS) (fun q => kf (b2_0.mp q) H locs ls hl hP hD hS)
theorem l_icmp_eq {X : Yq} {cc : ByteArray} {own : String} {R0 : Room} {nL : Nat} {P0 : Pl} (cx : Yx X cc own R0 nL P0) {pc pc2 : Nat} {lv : List (Nat × Value)} {st : List Value} {w : va_W} {cs ss : Nat} {a b off : Int} {tgt : Nat} (h0 : ir a ∧ ir b) (hd : decode cc pc = .ok (.if_icmp .eq off, 3)) (ht : (pc : Int) + off = (tgt : Int)) (hp : pc + 3 = pc2) (kt : a = b → YG X tgt lv st w cs ss) (kf : ¬ a = b → YG X pc2 lv st w cs ss) : YG X pc lv (.int (iI b) :: .int (iI a) :: st) w cs ss := by
  obtain ⟨p, l, e, R, s, m, args, below, meth, c, nL2, P, A, Q⟩ := X
  obtain ⟨⟨hx, hb, hml, hown, hts⟩, hK, hA, hlk, hR, hnL, hPP, hnw, hao, hnm2⟩ := cx
  subst hR
  subst hPP
  subst hnL
  subst hp
  intro H locs ls hl hP hD hS
  exact lv_icmp_eq hx hb hd ht (fun q => kt ((iI_eq h0.1 h0.2).mp q) H locs ls hl hP hD hS) (fun q => kf (fun z => q ((iI_eq h0.1 h0.2).mpr z)) H locs ls hl hP hD hS)
theorem l_icmp_ne {X : Yq} {cc : ByteArray} {own : String} {R0 : Room} {nL : Nat} {P0 : Pl} (cx : Yx X cc own R0 nL P0) {pc pc2 : Nat} {lv : List (Nat × Value)} {st : List Value} {w : va_W} {cs ss : Nat} {a b off : Int} {tgt : Nat} (h0 : ir a ∧ ir b) (hd : decode cc pc = .ok (.if_icmp .ne off, 3)) (ht : (pc : Int) + off = (tgt : Int)) (hp : pc + 3 = pc2) (kt : ¬ a = b → YG X tgt lv st w cs ss) (kf : a = b → YG X pc2 lv st w cs ss) : YG X pc lv (.int (iI b) :: .int (iI a) :: st) w cs ss := by
  obtain ⟨p, l, e, R, s, m, args, below, meth, c, nL2, P, A, Q⟩ := X
  obtain ⟨⟨hx, hb, hml, hown, hts⟩, hK, hA, hlk, hR, hnL, hPP, hnw, hao, hnm2⟩ := cx
  subst hR
  subst hPP
  subst hnL
  subst hp
  intro H locs ls hl hP hD hS
  exact lv_icmp_ne hx hb hd ht (fun q => kt (fun z => q ((iI_eq h0.1 h0.2).mpr z)) H locs ls hl hP hD hS) (fun q => kf ((iI_eq h0.1 h0.2).mp q) H locs ls hl hP hD hS)
theorem l_icmp_lt {X : Yq} {cc : ByteArray} {own : String} {R0 : Room} {nL : Nat} {P0 : Pl} (cx : Yx X cc own R0 nL P0) {pc pc2 : Nat} {lv : List (Nat × Value)} {st : List Value} {w : va_W} {cs ss : Nat} {a b off : Int} {tgt : Nat} (h0 : ir a ∧ ir b) (hd : decode cc pc = .ok (.if_icmp .lt off, 3)) (ht : (pc : Int) + off = (tgt : Int)) (hp : pc + 3 = pc2) (kt : a < b → YG X tgt lv st w cs ss) (kf : ¬ a < b → YG X pc2 lv st w cs ss) : YG X pc lv (.int (iI b) :: .int (iI a) :: st) w cs ss := by
  obtain ⟨p, l, e, R, s, m, args, below, meth, c, nL2, P, A, Q⟩ := X
  obtain ⟨⟨hx, hb, hml, hown, hts⟩, hK, hA, hlk, hR, hnL, hPP, hnw, hao, hnm2⟩ := cx
  subst hR
  subst hPP
  subst hnL
  subst hp
  intro H locs ls hl hP hD hS
  exact lv_icmp_lt hx hb hd ht (fun q => kt ((iI_lt h0.1 h0.2).mp q) H locs ls hl hP hD hS) (fun q => kf (fun z => q ((iI_lt h0.1 h0.2).mpr z)) H locs ls hl hP hD hS)
theorem l_icmp_ge {X : Yq} {cc : ByteArray} {own : String} {R0 : Room} {nL : Nat} {P0 : Pl} (cx : Yx X cc own R0 nL P0) {pc pc2 : Nat} {lv : List (Nat × Value)} {st : List Value} {w : va_W} {cs ss : Nat} {a b off : Int} {tgt : Nat} (h0 : ir a ∧ ir b) (hd : decode cc pc = .ok (.if_icmp .ge off, 3)) (ht : (pc : Int) + off = (tgt : Int)) (hp : pc + 3 = pc2) (kt : b ≤ a → YG X tgt lv st w cs ss) (kf : ¬ b ≤ a → YG X pc2 lv st w cs ss) : YG X pc lv (.int (iI b) :: .int (iI a) :: st) w cs ss := by
  obtain ⟨p, l, e, R, s, m, args, below, meth, c, nL2, P, A, Q⟩ := X
  obtain ⟨⟨hx, hb, hml, hown, hts⟩, hK, hA, hlk, hR, hnL, hPP, hnw, hao, hnm2⟩ := cx
  subst hR
  subst hPP
  subst hnL
  subst hp
  intro H locs ls hl hP hD hS
  exact lv_icmp_ge hx hb hd ht (fun q => kt ((iI_le h0.2 h0.1).mp q) H locs ls hl hP hD hS) (fun q => kf (fun z => q ((iI_le h0.2 h0.1).mpr z)) H locs ls hl hP hD hS)
theorem l_icmp_gt {X : Yq} {cc : ByteArray} {own : String} {R0 : Room} {nL : Nat} {P0 : Pl} (cx : Yx X cc own R0 nL P0) {pc pc2 : Nat} {lv : List (Nat × Value)} {st : List Value} {w : va_W} {cs ss : Nat} {a b off : Int} {tgt : Nat} (h0 : ir a ∧ ir b) (hd : decode cc pc = .ok (.if_icmp .gt off, 3)) (ht : (pc : Int) + off = (tgt : Int)) (hp : pc + 3 = pc2) (kt : b < a → YG X tgt lv st w cs ss) (kf : ¬ b < a → YG X pc2 lv st w cs ss) : YG X pc lv (.int (iI b) :: .int (iI a) :: st) w cs ss := by
  obtain ⟨p, l, e, R, s, m, args, below, meth, c, nL2, P, A, Q⟩ := X
  obtain ⟨⟨hx, hb, hml, hown, hts⟩, hK, hA, hlk, hR, hnL, hPP, hnw, hao, hnm2⟩ := cx
  subst hR
  subst hPP
  subst hnL
  subst hp
  intro H locs ls hl hP hD hS
  exact lv_icmp_gt hx hb hd ht (fun q => kt ((iI_lt h0.2 h0.1).mp q) H locs ls hl hP hD hS) (fun q => kf (fun z => q ((iI_lt h0.2 h0.1).mpr z)) H locs ls hl hP hD hS)
theorem l_icmp_le {X : Yq} {cc : ByteArray} {own : String} {R0 : Room} {nL : Nat} {P0 : Pl} (cx : Yx X cc own R0 nL P0) {pc pc2 : Nat} {lv : List (Nat × Value)} {st : List Value} {w : va_W} {cs ss : Nat} {a b off : Int} {tgt : Nat} (h0 : ir a ∧ ir b) (hd : decode cc pc = .ok (.if_icmp .le off, 3)) (ht : (pc : Int) + off = (tgt : Int)) (hp : pc + 3 = pc2) (kt : a ≤ b → YG X tgt lv st w cs ss) (kf : ¬ a ≤ b → YG X pc2 lv st w cs ss) : YG X pc lv (.int (iI b) :: .int (iI a) :: st) w cs ss := by
  obtain ⟨p, l, e, R, s, m, args, below, meth, c, nL2, P, A, Q⟩ := X
  obtain ⟨⟨hx, hb, hml, hown, hts⟩, hK, hA, hlk, hR, hnL, hPP, hnw, hao, hnm2⟩ := cx
  subst hR
  subst hPP
  subst hnL
  subst hp
  intro H locs ls hl hP hD hS
  exact lv_icmp_le hx hb hd ht (fun q => kt ((iI_le h0.1 h0.2).mp q) H locs ls hl hP hD hS) (fun q => kf (fun z => q ((iI_le h0.1 h0.2).mpr z)) H locs ls hl hP hD hS)
theorem l_goto {X : Yq} {cc : ByteArray} {own : String} {R0 : Room} {nL : Nat} {P0 : Pl} (cx : Yx X cc own R0 nL P0) {pc : Nat} {lv : List (Nat × Value)} {st : List Value} {w : va_W} {cs ss : Nat} {off : Int} {tgt : Nat} (hd : decode cc pc = .ok (.goto off, 3)) (ht : (pc : Int) + off = (tgt : Int)) (k : YG X tgt lv st w cs ss) : YG X pc lv st w cs ss := by
  obtain ⟨p, l, e, R, s, m, args, below, meth, c, nL2, P, A, Q⟩ := X
  obtain ⟨⟨hx, hb, hml, hown, hts⟩, hK, hA, hlk, hR, hnL, hPP, hnw, hao, hnm2⟩ := cx
  subst hR
  subst hPP
  subst hnL
  intro H locs ls hl hP hD hS
  exact lv_goto hx hb hd ht (k H locs ls hl hP hD hS)
theorem l_iaload {X : Yq} {cc : ByteArray} {own : String} {R0 : Room} {nL : Nat} {P0 : Pl} (cx : Yx X cc own R0 nL P0) {pc pc2 : Nat} {lv : List (Nat × Value)} {st : List Value} {w : va_W} {cs ss : Nat} {a N : Nat} {V : Nat → Int} (q0 : Nat) (ha : w[q0]? = some (ar P0 a N V)) {z : Int} (h0 : 0 ≤ z) (h1 : z < (N : Int)) (hN : N ≤ 2147483647) (hd : decode cc pc = .ok (.iaload, 1)) (hp : pc + 1 = pc2) (k : YG X pc2 lv (.int (iI (V z.toNat)) :: st) w cs ss) : YG X pc lv (.int (iI z) :: .ref a :: st) w cs ss := by
  obtain ⟨p, l, e, R, s, m, args, below, meth, c, nL2, P, A, Q⟩ := X
  obtain ⟨⟨hx, hb, hml, hown, hts⟩, hK, hA, hlk, hR, hnL, hPP, hnw, hao, hnm2⟩ := cx
  subst hR
  subst hPP
  subst hnL
  subst hp
  intro H locs ls hl hP hD hS
  exact va_iald hx hb hK hP q0 0 ha rfl (iI_in h0 h1 hN) hd (by rw [iI_clamp (show ir z from ⟨by omega, by omega⟩)]; exact (k H locs ls hl hP hD hS))
theorem l_iastore {X : Yq} {cc : ByteArray} {own : String} {R0 : Room} {nL : Nat} {P0 : Pl} (cx : Yx X cc own R0 nL P0) {pc pc2 : Nat} {lv : List (Nat × Value)} {st : List Value} {w : va_W} {cs ss : Nat} {a N : Nat} {V : Nat → Int} (q0 : Nat) (ha : w[q0]? = some (ar P0 a N V)) {z v : Int} (h0 : 0 ≤ z) (h1 : z < (N : Int)) (hN : N ≤ 2147483647) (hd : decode cc pc = .ok (.iastore, 1)) (hp : pc + 1 = pc2) (k : YG X pc2 lv st (w.set q0 (ar P0 a N (uM V z.toNat v))) cs ss) : YG X pc lv (.int (iI v) :: .int (iI z) :: .ref a :: st) w cs ss := by
  obtain ⟨p, l, e, R, s, m, args, below, meth, c, nL2, P, A, Q⟩ := X
  obtain ⟨⟨hx, hb, hml, hown, hts⟩, hK, hA, hlk, hR, hnL, hPP, hnw, hao, hnm2⟩ := cx
  subst hR
  subst hPP
  subst hnL
  subst hp
  intro H locs ls hl hP hD hS
  refine va_iast hx hb hK hP hD hS q0 0 ha rfl (iI_in h0 h1 hN) hd (fun H1 locs1 hP1 hD1 hS1 => ?_)
  have e : (upd (fun j => iI (V j)) (iI z).toNatClampNeg (iI v)) = fun j => iI (uM V z.toNat v j) := by
    rw [iI_clamp (show ir z from ⟨by omega, by omega⟩)]
    funext j
    unfold upd uM
    by_cases hj : j = z.toNat
    · simp [hj]
    · simp [hj]
  rw [e] at hP1 hD1
  exact k H1 locs1 ls hl hP1 hD1 hS1
theorem l_newi {X : Yq} {cc : ByteArray} {own : String} {R0 : Room} {nL : Nat} {P0 : Pl} (cx : Yx X cc own R0 nL P0) {pc pc2 : Nat} {lv : List (Nat × Value)} {st : List Value} {w : va_W} {cs ss : Nat} {z : Int} {N : Nat} (hz : (N : Int) = z) (hN : N ≤ 1000) (hcs : cs + 1 ≤ R0.cells ∧ ss + N ≤ R0.slots) (hd : decode cc pc = .ok (.newarray .int, 2)) (hp : pc + 2 = pc2) (k : ∀ q : Nat, YG X pc2 lv (.ref q :: st) (w ++ [ar P0 q N (fun _ => 0)]) (cs + 1) (ss + N)) : YG X pc lv (.int (iI z) :: st) w cs ss := by
  obtain ⟨p, l, e, R, s, m, args, below, meth, c, nL2, P, A, Q⟩ := X
  obtain ⟨⟨hx, hb, hml, hown, hts⟩, hK, hA, hlk, hR, hnL, hPP, hnw, hao, hnm2⟩ := cx
  subst hR
  subst hPP
  subst hnL
  subst hp
  intro H locs ls hl hP hD hS
  subst hz
  have hr : ir (N : Int) := ⟨by omega, by omega⟩
  refine va_newa hx hb (atype := .int) (hts _ kA_i) rfl hK hP hD hS hA (a0 := (N, .inl (fun _ => iI 0))) (fun cA => rfl) (fun q => by have := (iI_lt0 hr).mp q; omega) (by rw [iI_clamp hr]; exact Int.toNat_natCast N) (by show N * 4 ≤ 536870912; omega) hcs.1 hcs.2 hd (fun q cA H1 hK1 hP1 hD1 hS1 => ?_)
  have e1 := (hK1.2 4 _ (show (tysP P ++ [(cA, FieldType.int)])[4]? = some (cA, .int) from rfl)).2
  have e2 := (hK1.2 0 _ (show (tysP P ++ [(cA, FieldType.int)])[0]? = some (P.2.2 0, .int) from rfl)).2
  have e : cA = P.2.2 0 := Option.some.inj (e1.symm.trans e2)
  subst e
  exact k q H1 locs ls hl hP1 hD1 hS1
theorem l_sld {X : Yq} {cc : ByteArray} {own : String} {R0 : Room} {nL : Nat} {P0 : Pl} (cx : Yx X cc own R0 nL P0) {pc pc2 : Nat} {lv : List (Nat × Value)} {st : List Value} {w : va_W} {cs ss : Nat} {b L : Nat} {xs : Nat → Int32} (sx : Sy X b L xs) {j : Int} (h0 : 0 ≤ j) (h1 : j < (L : Int)) (hd : decode cc pc = .ok (.iaload, 1)) (hp : pc + 1 = pc2) (k : YG X pc2 lv (.int (iI (Zx xs j)) :: st) w cs ss) : YG X pc lv (.int (iI j) :: .ref b :: st) w cs ss := by
  obtain ⟨p, l, e, R, s, m, args, below, meth, c, nL2, P, A, Q⟩ := X
  obtain ⟨⟨hx, hb, hml, hown, hts⟩, hK, hA, hlk, hR, hnL, hPP, hnw, hao, hnm2⟩ := cx
  subst hR
  subst hPP
  subst hnL
  subst hp
  intro H locs ls hl hP hD hS
  obtain ⟨q1, q2, q3, q4⟩ := sx
  refine va_sld hx hb q1 q2 q3 hS (iI_in h0 h1 (by omega)) hd ?_
  rw [iI_clamp (show ir j from ⟨by omega, by omega⟩)]
  have := k H locs ls hl hP hD hS
  unfold Zx at this
  rw [iI_of] at this
  exact this
theorem l_slen {X : Yq} {cc : ByteArray} {own : String} {R0 : Room} {nL : Nat} {P0 : Pl} (cx : Yx X cc own R0 nL P0) {pc pc2 : Nat} {lv : List (Nat × Value)} {st : List Value} {w : va_W} {cs ss : Nat} {b L : Nat} {xs : Nat → Int32} (sx : Sy X b L xs) (hd : decode cc pc = .ok (.arraylength, 1)) (hp : pc + 1 = pc2) (k : YG X pc2 lv (.int (iI (L : Int)) :: st) w cs ss) : YG X pc lv (.ref b :: st) w cs ss := by
  obtain ⟨p, l, e, R, s, m, args, below, meth, c, nL2, P, A, Q⟩ := X
  obtain ⟨⟨hx, hb, hml, hown, hts⟩, hK, hA, hlk, hR, hnL, hPP, hnw, hao, hnm2⟩ := cx
  subst hR
  subst hPP
  subst hnL
  subst hp
  intro H locs ls hl hP hD hS
  obtain ⟨q1, q2, q3, q4⟩ := sx
  exact va_slen hx hb q1 q2 q3 hS hd (k H locs ls hl hP hD hS)
/-! contracts of the law's own methods -/
def CPW (P : Pl) (w : va_W) (sz b L : Nat) (xs : Nat → Int32) : State → Prop := fun U => U.heap.size = sz ∧ va_P P.1 vwCl w U.heap ∧ va_K P.1 vwCl (tysP P) U ∧ (va_AO RX8 U ∧ va_AO RX4 U) ∧ NwU U ∧ Sg P (va_A w sz) U ∧ va_X b L xs U U.heap ∧ b < sz ∧ ¬ va_A w sz b ∧ L ≤ 260
def QW (P : Pl) (w : va_W) (sz : Nat) (post : Option Value → va_W → Prop) : Array Value → State → Outcome → State → Prop := fun _ st oc t => (∃ (r : Option Value) (w2 : va_W), oc = .returned r ∧ post r w2 ∧ va_P P.1 vwCl w2 t.heap ∧ va_D (va_A w sz) w2) ∧ va_F (va_A w sz) st t
def CLW (P : Pl) (b L : Nat) (xs : Nat → Int32) (y : MethodName) (bb : ByteArray) (mL : Nat) (rt : Option FieldType) (rm : Room) (mc ms : Nat) (As : List Value) (w : va_W) (post : Option Value → va_W → Prop) : Prop := ∀ (l : Launch) (sz : Nat), va_D (va_A w sz) w → Met l y (.code y bb mL rt :: gw) rm (va_Pc As (CPW P w sz b L xs)) (QW P w sz post) mc ms (va_A w sz)
def Yr : Yq → va_W → Nat → Nat → (Option Value → va_W → Prop) → Option FieldType → Prop
  | (p, l, e, R, s, m, args, below, meth, c, nL, P, A, Q), w, mc, ms, post, rt => Q = MQ below (QW P w s.heap.size post) args s mc ms A ∧ A = va_A w s.heap.size ∧ meth.sig.returnType = rt
theorem cpw_blind {P : Pl} {w : va_W} {sz b L : Nat} {xs : Nat → Int32} {As : List Value} : FrameBlind (va_Pc As (CPW P w sz b L xs)) := fun a U g mk q => ⟨q.1, q.2.1, q.2.2.1, va_K.moved (u := U) (U := U.calling g mk a) (Vm.Alike.refl U.vm) q.2.2.2.1, ⟨va_AO.moved (u := U) (U := U.calling g mk a) (Vm.Alike.refl U.vm) q.2.2.2.2.1.1, va_AO.moved (u := U) (U := U.calling g mk a) (Vm.Alike.refl U.vm) q.2.2.2.2.1.2⟩, NwU_same (u := U) (U := U.calling g mk a) rfl q.2.2.2.2.2.1, Sg_to (u := U) (U := U.calling g mk a) (Vm.Alike.refl U.vm) (fun _ _ _ => rfl) (fun _ h => h) q.2.2.2.2.2.2.1, va_X.moved (u := U) (U := U.calling g mk a) (Vm.Alike.refl U.vm) q.2.2.2.2.2.2.2.1, q.2.2.2.2.2.2.2.2⟩
theorem CLW.of {P : Pl} {b L : Nat} {xs : Nat → Int32} {y : MethodName} {bb : ByteArray} {mL : Nat} {rt : Option FieldType} {rm : Room} {mc ms : Nat} {As : List Value} {w : va_W} {post : Option Value → va_W → Prop} {lv0 : List (Nat × Value)} (hy : plainName y.cls = true) (hcl : y.cls = RL) (hlv : lv_args 0 As = lv0) (hlen : (lg_sl As).length ≤ mL)
    (k : ∀ X : Yq, Yx X bb RL rm mL P → Ys X P → Sy X b L xs → Yr X w mc ms post rt → YG X 0 lv0 [] w 0 0) : CLW P b L xs y bb mL rt rm mc ms As w post := by
  intro l sz hD
  refine Met.ofW (cc := bb) (maxL := mL) (ret := rt) hy rfl ?_
  intro p e s m args below meth c s₁ B hml hv
  obtain ⟨rfl, hsz, hP, hK, hao, hNw, hSg, hX, hbl, hbA, hL⟩ := hv
  have hts := atoms_spec (ws := Cond.code y bb mL rt :: gw) B.pre
  have hown : s.vm.findClass y.cls = some m.cls := findClass_of_methodNamed B.named
  rw [hcl] at hown
  subst hsz
  rw [lg_entry_eq]
  have hl := lv_entry As (n := mL) hlen
  rw [hlv] at hl
  exact k (p, l, e, rm, s, m, As.toArray, below, meth, c, mL, P, va_A w s.heap.size, MQ below (QW P w s.heap.size post) As.toArray s mc ms (va_A w s.heap.size)) ⟨⟨B.exec, B.bytes, hml, hown, fun w hw => hts w (List.mem_cons_of_mem _ hw)⟩, hK, fun q h => Or.inr h, B.notSynchronized, rfl, rfl, rfl, NwU_use hNw, hao, fun q => absurd rfl q⟩ ⟨hSg, rfl, rfl⟩ ⟨hX, hbl, hbA, hL⟩ ⟨rfl, rfl, B.returns⟩ s.heap [] _ hl hP hD va_S.rf
theorem CLW.to {P : Pl} {b L : Nat} {xs : Nat → Int32} {y : MethodName} {bb : ByteArray} {mL : Nat} {rt : Option FieldType} {rm : Room} {mc ms : Nat} {As : List Value} {w : va_W} {post post2 : Option Value → va_W → Prop} (h : CLW P b L xs y bb mL rt rm mc ms As w post) (hp : ∀ r w2, post r w2 → post2 r w2) : CLW P b L xs y bb mL rt rm mc ms As w post2 := by
  intro l sz hD
  intro p e ha hc hk s m args below hf hn hpre hkk
  obtain ⟨k, o, h1, h2, h3, ⟨⟨r, w2, q1, q2, q3⟩, q4⟩, q5⟩ := h l sz hD p e ha hc hk s m args below hf hn hpre hkk
  exact ⟨k, o, h1, h2, h3, ⟨⟨r, w2, q1, hp r w2 q2, q3⟩, q4⟩, q5⟩
theorem vaA_sub {w : va_W} {A : Nat → Prop} {H0 H : Heap} {locs : List Loc} (hD : va_D A w) (hA : ∀ q, H0.size ≤ q → A q) (hS : va_S A H0 H locs) : ∀ q, va_A w H.size q → A q := by
  intro q h
  rcases h with ⟨k, e, h⟩ | h
  · exact hD.2 k (q, e) h
  · exact hA q (Nat.le_trans hS.1 h)
theorem l_callS {X : Yq} {cc : ByteArray} {own : String} {R0 : Room} {nL : Nat} {P0 : Pl} (cx : Yx X cc own R0 nL P0) {pc pc2 : Nat} {lv : List (Nat × Value)} {st : List Value} {w : va_W} {cs ss : Nat} {P1 : Pl} (ys : Ys X P1) {b L : Nat} {xs : Nat → Int32} (sx : Sy X b L xs) {y : MethodName} {bb : ByteArray} {mL cnt idx mc ms : Nat} {rt : Option FieldType} {rm : Room} {post : Option Value → va_W → Prop} {As st0 : List Value} (hC : CLW P1 b L xs y bb mL rt rm mc ms As w post) (hw : wM y bb mL rt cnt) (hv : Cond.static y ∈ gw) (hl0 : Cond.methodLink own idx y ∈ gw) (hrm : rm.cells = mc ∧ rm.slots = ms ∧ rm.frames + 1 ≤ R0.frames ∧ 8 + (mL + 11) + rm.locals ≤ R0.locals) (hcat : (st.map fun v => v.category).sum ≤ 8) (hcs : cs + mc ≤ R0.cells ∧ ss + ms ≤ R0.slots) (hcnt : As.length = cnt) (hst : st0 = As.reverse ++ st) (hd : decode cc pc = .ok (.invokestatic idx, 3)) (hp : pc + 3 = pc2) (k : ∀ (r : Option Value) (w2 : va_W), post r w2 → YG X pc2 lv (r.toList ++ st) w2 (cs + mc) (ss + ms)) : YG X pc lv st0 w cs ss := by
  obtain ⟨p, l, e, R, s, m, args, below, meth, c, nL2, P, A, Q⟩ := X
  obtain ⟨⟨hx, hb, hml, hown, hts⟩, hK, hA, hlk, hR, hnL, hPP, hnw, hao, hnm2⟩ := cx
  obtain ⟨hSg, e1, e2⟩ := ys
  obtain ⟨hX, hbl, hbA, hL⟩ := sx
  subst hR
  subst hPP
  subst hnL
  subst hp
  subst hst
  intro H locs ls hl hP hD hS
  have hAA := vaA_sub hD hA hS
  have hDw : va_D (va_A w H.size) w := ⟨hD.1, fun k q hk => va_A.in hk⟩
  rw [← e1] at hP
  have hK1 : va_K P1.1 vwCl (tysP P1) s := by
    have : tysP P1 = tysP P := by unfold tysP; rw [e2]
    rw [this, e1]
    exact hK
  have hr : va_Run p l e R s m args below meth c H locs cs ss mc ms (F0 m pc ls (As.reverse ++ st)) st (QW P1 w H.size post As.toArray) (va_A w H.size) :=
    va_runS (As := As) ⟨hx, hb, hml, hown, hts⟩ (hC l H.size hDw) (va_cwS cnt hts (gw_good (ws := va_wsS own idx y (Cond.code y bb mL rt :: gw)) (fun w hw2 => by
      simp only [va_wsS, List.cons_append, List.nil_append, List.mem_cons] at hw2
      rcases hw2 with rfl | rfl | rfl | rfl | hw2
      · exact hl0
      · exact hv
      · exact hw.1.1
      · exact hw.1.2
      · exact hw2)) rfl hrm.1 hrm.2.1 hw.2 hrm.2.2) ⟨cpw_blind, fun U hU hW => ⟨rfl, by rw [hU], by rw [hU]; exact hP, va_K.moved hW.alike hK1, ⟨va_AO.moved hW.alike hao.1, va_AO.moved hW.alike hao.2⟩, NwU_warm hW (NwU_of hnw), Sg_to hW.alike (fun a h1 h2 => by rw [hU]; exact hS.2.1 a h1 h2) hAA hSg, (va_X.moved hW.alike hX).kept (by rw [hU]; exact hS.2.1 b hbl hbA), Nat.lt_of_lt_of_le hbl hS.1, fun q => hbA (hAA _ q), hL⟩⟩ rfl hcnt hl.1 rfl (lv_room hcat) hd hcs
  intro T hT X
  obtain ⟨v, st₀, t, T', L, h0, X', hL, q1, q2, ⟨⟨r, w2, hv2, hp2, hb2, hd2⟩, hz, hk⟩, st1⟩ := hr T hT X
  cases hv2
  rw [h0] at hz hk
  rw [e1] at hb2
  obtain ⟨t2, a1, b1⟩ := k v w2 hp2 T'.heap (locs ++ L) ls hl (by rw [q1]; exact hb2) (hd2.weaken (fun k x _ h => hAA x.1 h))
    ⟨Nat.le_trans hS.1 (by rw [q1]; exact hz), fun q h1 h2 => by rw [q1, hk q (Nat.lt_of_lt_of_le h1 hS.1) (fun z => h2 (hAA q z))]; exact hS.2.1 q h1 h2, fun q hq => by
      rcases List.mem_append.mp hq with h | h
      · exact hS.2.2 q h
      · exact hAA _ (hL q h)⟩ T' rfl X'
  exact ⟨t2, st1 t2 a1, b1⟩
theorem l_iret {X : Yq} {cc : ByteArray} {own : String} {R0 : Room} {nL : Nat} {P0 : Pl} (cx : Yx X cc own R0 nL P0) {pc mc ms : Nat} {lv : List (Nat × Value)} {w0 w : va_W} {post : Option Value → va_W → Prop} {z : Int} (qx : Yr X w0 mc ms post (some .int)) (hd : decode cc pc = .ok (.ireturn, 1)) (h : post (some (.int (iI z))) w) : YG X pc lv [.int (iI z)] w mc ms := by
  obtain ⟨p, l, e, R, s, m, args, below, meth, c, nL2, P, A, Q⟩ := X
  obtain ⟨⟨hx, hb, hml, hown, hts⟩, hK, hA, hlk, hR, hnL, hPP, hnw, hao, hnm2⟩ := cx
  subst hR
  subst hPP
  subst hnL
  obtain ⟨rfl, rfl, hrt⟩ := qx
  intro H locs ls hl hP hD hS
  exact W.iret hx hb hrt (fun t ht hW => ⟨⟨_, w, rfl, h, by rw [ht]; exact hP, hD⟩, hS.F ht⟩) hS.2.2 hd hlk
theorem l_zret {X : Yq} {cc : ByteArray} {own : String} {R0 : Room} {nL : Nat} {P0 : Pl} (cx : Yx X cc own R0 nL P0) {pc mc ms : Nat} {lv : List (Nat × Value)} {w0 w : va_W} {post : Option Value → va_W → Prop} {z : Int} (hz : z = 0 ∨ z = 1) (qx : Yr X w0 mc ms post (some .boolean)) (hd : decode cc pc = .ok (.ireturn, 1)) (h : post (some (.int (iI z))) w) : YG X pc lv [.int (iI z)] w mc ms := by
  obtain ⟨p, l, e, R, s, m, args, below, meth, c, nL2, P, A, Q⟩ := X
  obtain ⟨⟨hx, hb, hml, hown, hts⟩, hK, hA, hlk, hR, hnL, hPP, hnw, hao, hnm2⟩ := cx
  subst hR
  subst hPP
  subst hnL
  obtain ⟨rfl, rfl, hrt⟩ := qx
  intro H locs ls hl hP hD hS
  exact W.zret hx hb hrt (by rcases hz with rfl | rfl <;> rfl) (fun t ht hW => ⟨⟨_, w, rfl, h, by rw [ht]; exact hP, hD⟩, hS.F ht⟩) hS.2.2 hd hlk
theorem l_vret {X : Yq} {cc : ByteArray} {own : String} {R0 : Room} {nL : Nat} {P0 : Pl} (cx : Yx X cc own R0 nL P0) {pc mc ms : Nat} {lv : List (Nat × Value)} {w0 w : va_W} {post : Option Value → va_W → Prop}  (qx : Yr X w0 mc ms post none) (hd : decode cc pc = .ok (.return_, 1)) (h : post none w) : YG X pc lv [] w mc ms := by
  obtain ⟨p, l, e, R, s, m, args, below, meth, c, nL2, P, A, Q⟩ := X
  obtain ⟨⟨hx, hb, hml, hown, hts⟩, hK, hA, hlk, hR, hnL, hPP, hnw, hao, hnm2⟩ := cx
  subst hR
  subst hPP
  subst hnL
  obtain ⟨rfl, rfl, hrt⟩ := qx
  intro H locs ls hl hP hD hS
  exact W.vret hx hb hrt (fun t ht hW => ⟨⟨_, w, rfl, h, by rw [ht]; exact hP, hD⟩, hS.F ht⟩) hS.2.2 hd hlk
