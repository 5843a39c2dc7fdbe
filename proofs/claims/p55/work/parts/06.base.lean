theorem g_sub {X : Cq} {pc : Nat} {lv lv2 : List (Nat × Value)} {st : List Value} {M : Mm} (ks : List Nat) (h : lv_pick lv ks = lv2) (k : G X pc lv2 st M) : G X pc lv st M := by
  obtain ⟨p, l, e, R, s, m, args, below, meth, c, nL2, P, n2, A, cells, slots, Q⟩ := X
  intro H locs ls hl hP hS
  refine k H locs ls ?_ hP hS
  refine ⟨hl.1, hl.2.1, fun q hq => ?_⟩
  obtain ⟨r, hr, rfl⟩ := List.mem_map.mp hq
  refine hl.2.2 _ (List.mem_map.mpr ⟨r, ?_, rfl⟩)
  rw [← h] at hr
  obtain ⟨k, -, hk⟩ := List.mem_filterMap.mp hr
  exact List.mem_of_getElem? hk
theorem g_rwa {X : Cq} {pc : Nat} {lv : List (Nat × Value)} {st : List Value} {M : Mm} {x y : Nat} (e : x = y) (k : G X pc lv (.ref y :: st) M) : G X pc lv (.ref x :: st) M := e ▸ k
theorem g_M {X : Cq} {pc : Nat} {lv : List (Nat × Value)} {st : List Value} {M M2 : Mm} (e : M = M2) (k : G X pc lv st M2) : G X pc lv st M := e ▸ k
abbrev NN (n : Nat) : Prop := 77 ≤ n ∧ n ≤ 79
theorem lt_lit {n k : Nat} (hn : NN n) (h : k + 1 ≤ 77) : k < n := Nat.lt_of_lt_of_le h hn.1
abbrev rI (z : Int) (M0 : Mm) : Option Value → Mm → Prop := fun r M2 => r = some (.int (iI z)) ∧ M0 = M2
abbrev rL (z : Int) (M0 : Mm) : Option Value → Mm → Prop := fun r M2 => r = some (.long (lI z)) ∧ M0 = M2
abbrev rA (v : Value) (M0 : Mm) : Option Value → Mm → Prop := fun r M2 => r = some v ∧ M0 = M2
abbrev rV (M0 : Mm) : Option Value → Mm → Prop := fun r M2 => r = none ∧ M0 = M2
abbrev pI (R : Int → Mm → Prop) : Option Value → Mm → Prop := fun r M2 => ∃ z : Int, r = some (.int (iI z)) ∧ R z M2
abbrev pL (R : Int → Mm → Prop) : Option Value → Mm → Prop := fun r M2 => ∃ z : Int, r = some (.long (lI z)) ∧ R z M2
abbrev pV (R : Mm → Prop) : Option Value → Mm → Prop := fun r M2 => r = none ∧ R M2
theorem b2_01 (p : Prop) [Decidable p] : b2 p = 0 ∨ b2 p = 1 := by unfold b2; by_cases h : p <;> simp [h]
theorem ir_b2 {p : Prop} [Decidable p] : ir (b2 p) := by rcases b2_01 p with h | h <;> rw [h] <;> exact ⟨by decide, by decide⟩
theorem rb_t {p : Prop} [Decidable p] (h : p) : some (Value.int (iI 1)) = some (Value.int (iI (b2 p))) := by unfold b2; rw [if_pos h]
theorem rb_f {p : Prop} [Decidable p] (h : ¬ p) : some (Value.int (iI 0)) = some (Value.int (iI (b2 p))) := by unfold b2; rw [if_neg h]
theorem rb_i {p q : Prop} [Decidable p] [Decidable q] (h : p ↔ q) : some (Value.int (iI (b2 p))) = some (Value.int (iI (b2 q))) := by
  unfold b2
  by_cases hp : p
  · rw [if_pos hp, if_pos (h.mp hp)]
  · rw [if_neg hp, if_neg (fun x => hp (h.mpr x))]
theorem b2_iff {p q : Prop} [Decidable p] [Decidable q] (h : p ↔ q) : iI (b2 p) = iI (b2 q) := by
  unfold b2
  by_cases hp : p
  · rw [if_pos hp, if_pos (h.mp hp)]
  · rw [if_neg hp, if_neg (fun x => hp (h.mpr x))]
/-! kinds of cells -/
abbrev isRowO (o : Nat) : Prop := 3 ≤ o ∧ o ≤ 21 ∧ o % 2 = 1
def capO (o : Nat) : Nat := if o < 15 then 60 else 120
theorem capO_le (o : Nat) : capO o ≤ 2147483647 := by unfold capO; split <;> omega
theorem capO_60 {o : Nat} (h : o < 15) : capO o = 60 := by unfold capO; rw [if_pos h]
theorem capO_120 {o : Nat} (h : ¬ o < 15) : capO o = 120 := by unfold capO; rw [if_neg h]
theorem capO_b (o : Nat) : 60 ≤ capO o ∧ capO o ≤ 120 := by unfold capO; split <;> omega
theorem shp_L {n k : Nat} {x : Sh} (hk : k ≠ 0) (h : shL.getD k (.inl (0, 0, 0, 0)) = x) : shp n k = x := by unfold shp; rw [if_neg hk]; exact h
theorem sh_row {n o : Nat} (ho : isRowO o) : shp n o = .inr (8, [(2, o + 1), (0, 0)]) := by
  have key : ∀ j, j < 10 → shL.getD (3 + 2 * j) (.inl (0, 0, 0, 0)) = .inr (8, [(2, 3 + 2 * j + 1), (0, 0)]) := by decide +kernel
  refine shp_L (by omega) ?_
  have := key ((o - 3) / 2) (by omega)
  rwa [show 3 + 2 * ((o - 3) / 2) = o by omega] at this
theorem sh_cells {n o : Nat} (ho : isRowO o) : shp n (o + 1) = .inl (0, capO o, 0, 0) := by
  have key : ∀ j, j < 10 → shL.getD (3 + 2 * j + 1) (.inl (0, 0, 0, 0)) = .inl (0, capO (3 + 2 * j), 0, 0) := by decide +kernel
  refine shp_L (by omega) ?_
  have := key ((o - 3) / 2) (by omega)
  rwa [show 3 + 2 * ((o - 3) / 2) = o by omega] at this
theorem kn_row {n o : Nat} (hn : NN n) (ho : isRowO o) : o < n := by omega
theorem kn_row1 {n o : Nat} (hn : NN n) (ho : isRowO o) : o + 1 < n := by omega
abbrev isLaneO (o : Nat) : Prop := o = 23 ∨ o = 35
theorem sh_lane {n o : Nat} (ho : isLaneO o) : shp n o = .inr (2, [(2, o + 1), (2, o + 2), (2, o + 3), (0, 0), (0, 0), (0, 0)]) := by
  rcases ho with rfl | rfl <;> rfl
theorem sh_places {n o : Nat} (ho : isLaneO o) : shp n (o + 1) = .inl (0, 8, 0, 0) := by
  rcases ho with rfl | rfl <;> rfl
theorem sh_list {n o : Nat} (ho : isLaneO o) : shp n (o + 2) = .inl (3, 8, o + 4, 1) := by
  rcases ho with rfl | rfl <;> rfl
abbrev isNeedO (o : Nat) : Prop := (26 ≤ o ∧ o ≤ 34) ∨ (38 ≤ o ∧ o ≤ 46)
theorem sh_need {n o : Nat} (ho : isNeedO o) : shp n o = .inr (4, [(0, 0), (0, 0), (0, 0), (0, 0), (0, 0), (0, 0), (0, 0)]) := by
  have key : ∀ j, j < 9 → shL.getD (26 + j) (.inl (0, 0, 0, 0)) = .inr (4, [(0, 0), (0, 0), (0, 0), (0, 0), (0, 0), (0, 0), (0, 0)]) := by decide +kernel
  have key2 : ∀ j, j < 9 → shL.getD (38 + j) (.inl (0, 0, 0, 0)) = .inr (4, [(0, 0), (0, 0), (0, 0), (0, 0), (0, 0), (0, 0), (0, 0)]) := by decide +kernel
  refine shp_L (by omega) ?_
  rcases ho with ho | ho
  · have := key (o - 26) (by omega)
    rwa [show 26 + (o - 26) = o by omega] at this
  · have := key2 (o - 38) (by omega)
    rwa [show 38 + (o - 38) = o by omega] at this
abbrev isPairsO (o : Nat) : Prop := o = 70 ∨ o = 73
theorem sh_pairs {n o : Nat} (ho : isPairsO o) : shp n o = .inr (5, [(2, o + 1), (2, o + 2), (0, 0)]) := by
  rcases ho with rfl | rfl <;> rfl
theorem sh_p1 {n o : Nat} (ho : isPairsO o) : shp n (o + 1) = .inl (0, 12, 0, 0) := by
  rcases ho with rfl | rfl <;> rfl
theorem sh_p2 {n o : Nat} (ho : isPairsO o) : shp n (o + 2) = .inl (0, 12, 0, 0) := by
  rcases ho with rfl | rfl <;> rfl
/-- sums of the first places of a row -/
def smZ (f : Nat → Int) : Nat → Int
  | 0 => 0
  | k + 1 => smZ f k + f k
/-- a number as an int keeps it -/
def wr (z : Int) : Int := (iI z).toInt
theorem ir_wr (z : Int) : ir (wr z) := ir_toInt _
theorem wr_of {z : Int} (h : ir z) : wr z = z := iI_toInt h
theorem iI_wr (z : Int) : iI (wr z) = iI z := iI_of _
