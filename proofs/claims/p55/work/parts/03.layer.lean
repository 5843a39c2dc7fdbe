/-! numbers: all ints by a whole number -/
def iI (z : Int) : Int32 := Int32.ofInt z
def lI (z : Int) : Int64 := Int64.ofInt z
abbrev ir (z : Int) : Prop := -2147483648 ≤ z ∧ z < 2147483648
theorem iI_toInt {z : Int} (h : ir z) : (iI z).toInt = z := Int32.toInt_ofInt_of_le (by have := h.1; omega) (by have := h.2; omega)
theorem iI_of (x : Int32) : iI x.toInt = x := Int32.ofInt_toInt x
theorem ir_toInt (x : Int32) : ir x.toInt := ⟨by have := Int32.le_toInt x; omega, by have := Int32.toInt_lt x; omega⟩
theorem iI_add (a b : Int) : iI a + iI b = iI (a + b) := (Int32.ofInt_add a b).symm
theorem iI_sub (a b : Int) : iI a - iI b = iI (a - b) := (Int32.ofInt_sub a b).symm
theorem iI_mul (a b : Int) : iI a * iI b = iI (a * b) := (Int32.ofInt_mul a b).symm
theorem iI_neg (a : Int) : -iI a = iI (-a) := (Int32.ofInt_neg a).symm
theorem iI_clamp {z : Int} (h : ir z) : (iI z).toNatClampNeg = z.toNat := Int32.toNatClampNeg_ofInt_of_le (by have := h.1; omega) (by have := h.2; omega)
theorem iI_eq {a b : Int} (ha : ir a) (hb : ir b) : iI a = iI b ↔ a = b := by
  rw [← Int32.toInt_inj, iI_toInt ha, iI_toInt hb]
theorem iI_lt {a b : Int} (ha : ir a) (hb : ir b) : iI a < iI b ↔ a < b := by
  rw [Int32.lt_iff_toInt_lt, iI_toInt ha, iI_toInt hb]
theorem iI_le {a b : Int} (ha : ir a) (hb : ir b) : iI a ≤ iI b ↔ a ≤ b := by
  rw [Int32.le_iff_toInt_le, iI_toInt ha, iI_toInt hb]
theorem ir0 : ir 0 := ⟨by decide, by decide⟩
theorem iI_0 : (0 : Int32) = iI 0 := rfl
theorem iI_eq0 {a : Int} (ha : ir a) : iI a = 0 ↔ a = 0 := by rw [iI_0]; exact iI_eq ha ir0
theorem iI_lt0 {a : Int} (ha : ir a) : iI a < 0 ↔ a < 0 := by rw [iI_0]; exact iI_lt ha ir0
theorem iI_ge0 {a : Int} (ha : ir a) : 0 ≤ iI a ↔ 0 ≤ a := by rw [iI_0]; exact iI_le ir0 ha
theorem iI_gt0 {a : Int} (ha : ir a) : 0 < iI a ↔ 0 < a := by rw [iI_0]; exact iI_lt ir0 ha
theorem iI_le0 {a : Int} (ha : ir a) : iI a ≤ 0 ↔ a ≤ 0 := by rw [iI_0]; exact iI_le ha ir0
theorem iI_in {z : Int} {n : Nat} (h0 : 0 ≤ z) (h1 : z < n) (hn : n ≤ 2147483647) : vp_in (iI z) n := by
  have hr : ir z := ⟨by omega, by omega⟩
  rw [vp_in_iff, iI_toInt hr]
  exact ⟨h0, h1⟩
theorem iI_div {a b : Int} (ha : ir a) (hb : ir b) (h : a ≠ -2147483648 ∨ b ≠ -1) : iI a / iI b = iI (a.tdiv b) := by
  rw [← Int32.toInt_inj]
  have e : (iI a / iI b).toInt = a.tdiv b := by
    rcases h with h | h
    · rw [Int32.toInt_div_of_ne_left _ _ (fun q => h ?_), iI_toInt ha, iI_toInt hb]
      have := congrArg Int32.toInt q
      rw [iI_toInt ha] at this
      exact this
    · rw [Int32.toInt_div_of_ne_right _ _ (fun q => h ?_), iI_toInt ha, iI_toInt hb]
      have := congrArg Int32.toInt q
      rw [iI_toInt hb] at this
      exact this
  rw [e]
  have hr : ir (a.tdiv b) := by rw [← e]; exact ir_toInt _
  rw [iI_toInt hr]
theorem lI_add (a b : Int) : lI a + lI b = lI (a + b) := (Int64.ofInt_add a b).symm
theorem lI_sub (a b : Int) : lI a - lI b = lI (a - b) := (Int64.ofInt_sub a b).symm
theorem lI_mul (a b : Int) : lI a * lI b = lI (a * b) := (Int64.ofInt_mul a b).symm
abbrev lr (z : Int) : Prop := -9223372036854775808 ≤ z ∧ z < 9223372036854775808
theorem lI_toInt {z : Int} (h : lr z) : (lI z).toInt = z := Int64.toInt_ofInt_of_le (by have := h.1; omega) (by have := h.2; omega)
theorem lI_eq {a b : Int} (ha : lr a) (hb : lr b) : lI a = lI b ↔ a = b := by
  rw [← Int64.toInt_inj, lI_toInt ha, lI_toInt hb]
theorem lI_lt {a b : Int} (ha : lr a) (hb : lr b) : lI a < lI b ↔ a < b := by
  rw [Int64.lt_iff_toInt_lt, lI_toInt ha, lI_toInt hb]
theorem lI_div {a b : Int} (ha : lr a) (hb : lr b) (h : a ≠ -9223372036854775808) : lI a / lI b = lI (a.tdiv b) := by
  rw [← Int64.toInt_inj]
  have e : (lI a / lI b).toInt = a.tdiv b := by
    rw [Int64.toInt_div_of_ne_left _ _ (fun q => h ?_), lI_toInt ha, lI_toInt hb]
    have := congrArg Int64.toInt q
    rw [lI_toInt ha] at this
    exact this
  rw [e]
  have hr : lr (a.tdiv b) := by
    rw [← e]
    exact ⟨by have := Int64.le_toInt (lI a / lI b); omega, by have := Int64.toInt_lt (lI a / lI b); omega⟩
  rw [lI_toInt hr]
theorem iI_l {z : Int} (h : ir z) : (iI z).toInt64 = lI z := by
  rw [← Int64.toInt_inj, Int32.toInt_toInt64, iI_toInt h, lI_toInt ⟨by have := h.1; omega, by have := h.2; omega⟩]
theorem lI_i (z : Int) : (lI z).toInt32 = iI z := Int64.toInt32_ofInt
theorem iI_bi {n : Int} (h0 : -128 ≤ n) (h1 : n ≤ 127) : (Int8.ofInt n).toInt32 = iI n := Int8.toInt32_ofInt h0 h1
theorem iI_si {n : Int} (h0 : -32768 ≤ n) (h1 : n ≤ 32767) : (Int16.ofInt n).toInt32 = iI n := Int16.toInt32_ofInt h0 h1
/-- the links among nest mates: each holds at a call's start, they are carried along -/
def nw : List Cond := [Cond.methodLinkNest RX2 21 yX4_init "CoatBetween",
  Cond.fieldLinkNest RX7 75 "CoatBetween$Need" "kind" "I" "CoatBetween",
  Cond.fieldLinkNest RX1 46 "CoatBetween$Need" "house" "I" "CoatBetween",
  Cond.fieldLinkNest RX7 80 "CoatBetween$Need" "house" "I" "CoatBetween",
  Cond.fieldLinkNest RX0 112 "CoatBetween$Need" "house" "I" "CoatBetween",
  Cond.fieldLinkNest RX1 55 "CoatBetween$Need" "from" "I" "CoatBetween",
  Cond.fieldLinkNest RX7 83 "CoatBetween$Need" "from" "I" "CoatBetween",
  Cond.fieldLinkNest RX7 86 "CoatBetween$Need" "to" "I" "CoatBetween",
  Cond.fieldLinkNest RX0 107 "CoatBetween$Need" "to" "I" "CoatBetween",
  Cond.fieldLinkNest RX1 62 "CoatBetween$Need" "length" "I" "CoatBetween",
  Cond.fieldLinkNest RX7 89 "CoatBetween$Need" "length" "I" "CoatBetween",
  Cond.fieldLinkNest RX0 110 "CoatBetween$Need" "length" "I" "CoatBetween",
  Cond.fieldLinkNest RX1 65 "CoatBetween$Need" "worth" "I" "CoatBetween",
  Cond.fieldLinkNest RX7 91 "CoatBetween$Need" "worth" "I" "CoatBetween",
  Cond.fieldLinkNest RX0 102 "CoatBetween$Need" "worth" "I" "CoatBetween",
  Cond.fieldLinkNest RX7 94 "CoatBetween$Need" "chance" "I" "CoatBetween",
  Cond.fieldLinkNest RX2 72 "CoatBetween$Need" "chance" "I" "CoatBetween",
  Cond.fieldLinkNest RX11 204 "CoatBetween$Need" "chance" "I" "CoatBetween",
  Cond.fieldLinkNest RX7 40 "CoatBetween$Lane" "houses" "I" "CoatBetween",
  Cond.fieldLinkNest RX11 167 "CoatBetween$Lane" "houses" "I" "CoatBetween",
  Cond.fieldLinkNest RX1 31 "CoatBetween$Lane" "needs" "I" "CoatBetween",
  Cond.fieldLinkNest RX7 57 "CoatBetween$Lane" "needs" "I" "CoatBetween",
  Cond.fieldLinkNest RX0 68 "CoatBetween$Lane" "needs" "I" "CoatBetween",
  Cond.fieldLinkNest RX11 396 "CoatBetween$Lane" "needs" "I" "CoatBetween",
  Cond.fieldLinkNest RX11 197 "CoatBetween$Lane" "startHouse" "I" "CoatBetween",
  Cond.methodLinkNest RX11 30 yX7_init "CoatBetween",
  Cond.methodLinkNest RX11 37 yX1_init "CoatBetween",
  Cond.fieldLinkNest RX0 75 "CoatBetween$Way" "jobs" "LCoatBetween$Jobs;" "CoatBetween",
  Cond.fieldLinkNest RX11 218 "CoatBetween$Way" "size" "I" "CoatBetween",
  Cond.fieldLinkNest RX0 79 "CoatBetween$Way" "place" "I" "CoatBetween",
  Cond.fieldLinkNest RX11 444 "CoatBetween$Way" "place" "I" "CoatBetween",
  Cond.fieldLinkNest RX0 82 "CoatBetween$Way" "free" "I" "CoatBetween",
  Cond.fieldLinkNest RX11 215 "CoatBetween$Way" "free" "I" "CoatBetween",
  Cond.methodLinkNest RX11 69 yX3_init "CoatBetween",
  Cond.fieldLinkNest RX11 354 "CoatBetween$Ledger" "deals" "I" "CoatBetween",
  Cond.fieldLinkNest RX11 370 "CoatBetween$Pairs" "size" "I" "CoatBetween",
  Cond.methodLinkNest RX1 78 yX11_watchesApart "CoatBetween",
  Cond.methodLinkNest RX2 59 yX11_bit "CoatBetween",
  Cond.methodLinkNest RX6 29 yX11_isIn "CoatBetween",
  Cond.methodLinkNest RX6 33 yX11_bit "CoatBetween",
  Cond.methodLinkNest RX1 74 yX11_isIn "CoatBetween",
  Cond.methodLinkNest RX9 20 yX11_isIn "CoatBetween",
  Cond.methodLinkNest RX9 32 yX11_bit "CoatBetween",
  Cond.fieldLinkNest RX0 44 "CoatBetween" "RULE_LETTERS" "[C" "CoatBetween",
  Cond.methodLinkNest RX10 52 yX11_bit "CoatBetween",
  Cond.methodLinkNest RX0 71 yX11_isIn "CoatBetween",
  Cond.methodLinkNest RX0 118 yX11_watchesApart "CoatBetween",
  Cond.methodLinkNest RX6 77 yX11_watchesApart "CoatBetween",
  Cond.fieldLinkNest RX7 97 "CoatBetween" "NEED_LETTERS" "[C" "CoatBetween",
  Cond.methodLinkNest RX2 68 yX11_isIn "CoatBetween",
  Cond.methodLinkNest RX2 52 yX11_watchesApart "CoatBetween"]
def isNest : Cond → Bool
  | .fieldLinkNest .. => true
  | .methodLinkNest .. => true
  | _ => false
theorem nw_nest {w : Cond} (h : w ∈ nw) : (∃ a i b n d q, w = .fieldLinkNest a i b n d q) ∨ ∃ a i x q, w = .methodLinkNest a i x q := by
  have h1 : isNest w = true := List.all_eq_true.mp (show nw.all isNest = true from rfl) w h
  cases w <;> first | exact Or.inl ⟨_, _, _, _, _, _, rfl⟩ | exact Or.inr ⟨_, _, _, _, rfl⟩ | (cases h1; done)
def NwU (U : State) : Prop := ∀ w ∈ nw, va_Nw w U
theorem NwU_warm {s U : State} (hW : s.WarmedH U.vm) (h : NwU s) : NwU U := by
  intro w hw
  have hz := h w hw
  rcases nw_nest hw with ⟨a, i, b, n, d, q, rfl⟩ | ⟨a, i, x, q, rfl⟩
  · exact va_Nw.warmF hW hz
  · exact va_Nw.warmM hW hz
theorem NwU_same {u U : State} (hv : u.vm = U.vm) (h : NwU u) : NwU U := by
  intro w hw
  have hz := h w hw
  rcases nw_nest hw with ⟨a, i, b, n, d, q, rfl⟩ | ⟨a, i, x, q, rfl⟩
  · exact va_Nw.same rfl hv hz
  · exact va_Nw.same rfl hv hz
theorem NwU_use {s : State} {args : Array Value} (h : NwU s) : ∀ w ∈ nw, w.before args s = true := by
  intro w hw
  have hz := h w hw
  rcases nw_nest hw with ⟨a, i, b, n, d, q, rfl⟩ | ⟨a, i, x, q, rfl⟩
  · exact va_Nw.use rfl hz
  · exact va_Nw.use rfl hz
theorem NwU_of {s : State} {args : Array Value} (h : ∀ w ∈ nw, w.before args s = true) : NwU s := by
  intro w hw
  have hz := h w hw
  rcases nw_nest hw with ⟨a, i, b, n, d, q, rfl⟩ | ⟨a, i, x, q, rfl⟩
  · exact va_Nw.of rfl hz
  · exact va_Nw.of rfl hz
/-! the state of the system: cells by numbers of their own, at addresses that are a placement's; what each holds, by whole numbers -/
abbrev Mm : Type := Nat → Nat → Int
abbrev Pl : Type := va_G × (Nat → Nat) × (Nat → ClassId)
abbrev Sh : Type := (Nat × Nat × Nat × Nat) ⊕ (Nat × List (Nat × Nat))
def cz (P : Pl) : Value → Value
  | .ref k => .ref (P.2.1 k)
  | v => v
def shL : List Sh := [.inl (0, 0, 0, 0), .inl (2, 6, 3, 2),
  .inl (2, 4, 15, 2),
  .inr (8, [(2, 4), (0, 0)]),
  .inl (0, 60, 0, 0),
  .inr (8, [(2, 6), (0, 0)]),
  .inl (0, 60, 0, 0),
  .inr (8, [(2, 8), (0, 0)]),
  .inl (0, 60, 0, 0),
  .inr (8, [(2, 10), (0, 0)]),
  .inl (0, 60, 0, 0),
  .inr (8, [(2, 12), (0, 0)]),
  .inl (0, 60, 0, 0),
  .inr (8, [(2, 14), (0, 0)]),
  .inl (0, 60, 0, 0),
  .inr (8, [(2, 16), (0, 0)]),
  .inl (0, 120, 0, 0),
  .inr (8, [(2, 18), (0, 0)]),
  .inl (0, 120, 0, 0),
  .inr (8, [(2, 20), (0, 0)]),
  .inl (0, 120, 0, 0),
  .inr (8, [(2, 22), (0, 0)]),
  .inl (0, 120, 0, 0),
  .inr (2, [(2, 24), (2, 25), (2, 26), (0, 0), (0, 0), (0, 0)]),
  .inl (0, 8, 0, 0),
  .inl (3, 8, 27, 1),
  .inr (4, [(0, 0), (0, 0), (0, 0), (0, 0), (0, 0), (0, 0), (0, 0)]),
  .inr (4, [(0, 0), (0, 0), (0, 0), (0, 0), (0, 0), (0, 0), (0, 0)]),
  .inr (4, [(0, 0), (0, 0), (0, 0), (0, 0), (0, 0), (0, 0), (0, 0)]),
  .inr (4, [(0, 0), (0, 0), (0, 0), (0, 0), (0, 0), (0, 0), (0, 0)]),
  .inr (4, [(0, 0), (0, 0), (0, 0), (0, 0), (0, 0), (0, 0), (0, 0)]),
  .inr (4, [(0, 0), (0, 0), (0, 0), (0, 0), (0, 0), (0, 0), (0, 0)]),
  .inr (4, [(0, 0), (0, 0), (0, 0), (0, 0), (0, 0), (0, 0), (0, 0)]),
  .inr (4, [(0, 0), (0, 0), (0, 0), (0, 0), (0, 0), (0, 0), (0, 0)]),
  .inr (4, [(0, 0), (0, 0), (0, 0), (0, 0), (0, 0), (0, 0), (0, 0)]),
  .inr (2, [(2, 36), (2, 37), (2, 38), (0, 0), (0, 0), (0, 0)]),
  .inl (0, 8, 0, 0),
  .inl (3, 8, 39, 1),
  .inr (4, [(0, 0), (0, 0), (0, 0), (0, 0), (0, 0), (0, 0), (0, 0)]),
  .inr (4, [(0, 0), (0, 0), (0, 0), (0, 0), (0, 0), (0, 0), (0, 0)]),
  .inr (4, [(0, 0), (0, 0), (0, 0), (0, 0), (0, 0), (0, 0), (0, 0)]),
  .inr (4, [(0, 0), (0, 0), (0, 0), (0, 0), (0, 0), (0, 0), (0, 0)]),
  .inr (4, [(0, 0), (0, 0), (0, 0), (0, 0), (0, 0), (0, 0), (0, 0)]),
  .inr (4, [(0, 0), (0, 0), (0, 0), (0, 0), (0, 0), (0, 0), (0, 0)]),
  .inr (4, [(0, 0), (0, 0), (0, 0), (0, 0), (0, 0), (0, 0), (0, 0)]),
  .inr (4, [(0, 0), (0, 0), (0, 0), (0, 0), (0, 0), (0, 0), (0, 0)]),
  .inr (4, [(0, 0), (0, 0), (0, 0), (0, 0), (0, 0), (0, 0), (0, 0)]),
  .inr (7, [(0, 0), (0, 0)]),
  .inr (1, [(2, 49), (2, 50), (2, 51), (2, 52), (2, 53), (0, 0)]),
  .inl (0, 8, 0, 0),
  .inl (0, 8, 0, 0),
  .inl (0, 8, 0, 0),
  .inl (0, 8, 0, 0),
  .inl (0, 8, 0, 0),
  .inr (10, [(2, 48), (2, 55), (2, 56), (0, 0), (0, 0), (0, 0)]),
  .inl (0, 8, 0, 0),
  .inl (0, 8, 0, 0),
  .inr (6, [(2, 48), (2, 58), (2, 59), (2, 60)]),
  .inl (0, 2304, 0, 0),
  .inl (0, 256, 0, 0),
  .inl (0, 256, 0, 0),
  .inr (0, [(2, 23), (2, 54), (2, 62), (0, 0)]),
  .inl (0, 4, 0, 0),
  .inr (3, [(2, 64), (2, 65), (2, 66), (2, 67), (2, 68), (2, 69), (0, 0)]),
  .inl (0, 8, 0, 0),
  .inl (0, 64, 0, 0),
  .inl (0, 16, 0, 0),
  .inl (0, 16, 0, 0),
  .inl (0, 16, 0, 0),
  .inl (0, 16, 0, 0),
  .inr (5, [(2, 71), (2, 72), (0, 0)]),
  .inl (0, 12, 0, 0),
  .inl (0, 12, 0, 0),
  .inr (5, [(2, 74), (2, 75), (0, 0)]),
  .inl (0, 12, 0, 0),
  .inl (0, 12, 0, 0),
  .inl (0, 6, 0, 0),
  .inr (9, [(2, 48), (2, 78)]),
  .inl (0, 59392, 0, 0)]
def obj0 (n : Nat) : List (Nat × Nat) := [(2, 1), (2, 2), (2, 23), (2, 35), (2, 47), (2, 48), (2, 54), (2, 57), (2, 61), (2, 63), (2, 70), (2, 73), (2, 76), (if n = 77 then (3, 0) else (2, 77)), (0, 0), (0, 0), (1, 0), (1, 0)]
def shp (n k : Nat) : Sh := if k = 0 then .inr (11, obj0 n) else shL.getD k (.inl (0, 0, 0, 0))
def aval (M : Mm) (k j : Nat) (c : Nat × Nat) : Value := match c.1 with
  | 0 => .int (iI (M k j))
  | 1 => .long (lI (M k j))
  | 2 => .ref c.2
  | _ => .null
def fvs (P : Pl) (M : Mm) (k : Nat) : Nat → List (Nat × Nat) → List Value
  | _, [] => []
  | j, c :: cs => cz P (aval M k j c) :: fvs P M k (j + 1) cs
theorem fvs_get (P : Pl) (M : Mm) (k : Nat) : ∀ (fs : List (Nat × Nat)) (j i : Nat), (fvs P M k j fs)[i]? = (fs[i]?).map fun c => cz P (aval M k (j + i) c)
  | [], j, i => by simp [fvs]
  | c :: cs, j, 0 => by simp [fvs]
  | c :: cs, j, i + 1 => by
    rw [fvs, List.getElem?_cons_succ, List.getElem?_cons_succ, fvs_get P M k cs (j + 1) i, show j + 1 + i = j + (i + 1) by omega]
theorem fvs_len (P : Pl) (M : Mm) (k : Nat) : ∀ (fs : List (Nat × Nat)) (j : Nat), (fvs P M k j fs).length = fs.length
  | [], _ => rfl
  | _ :: cs, j => by rw [fvs, List.length_cons, List.length_cons, fvs_len P M k cs]
def wcS (P : Pl) (M : Mm) (k : Nat) : Sh → va_E
  | .inl (ct, len, b, sd) => .inl (P.2.2 ct, len, if ct ≤ 1 then .inl (fun j => iI (M k j)) else .inr (.inr (.inr (.inr (fun j => some (P.2.1 (b + sd * j)))))))
  | .inr (ci, fs) => .inr (ci, fvs P M k 0 fs)
def wc (P : Pl) (n : Nat) (M : Mm) (k : Nat) : va_E := wcS P M k (shp n k)
def wld (P : Pl) (n : Nat) (M : Mm) : va_W := (List.range n).map fun k => (P.2.1 k, wc P n M k)
theorem wld_get {P : Pl} {n : Nat} {M : Mm} {k : Nat} (h : k < n) : (wld P n M)[k]? = some (P.2.1 k, wc P n M k) := by simp [wld, h]
theorem wld_of {P : Pl} {n : Nat} {M : Mm} {k : Nat} {q : Nat × va_E} (h : (wld P n M)[k]? = some q) : k < n ∧ q = (P.2.1 k, wc P n M k) := by
  have hl : k < (wld P n M).length := (List.getElem?_eq_some_iff.mp h).1
  have hk : k < n := by simpa [wld] using hl
  rw [wld_get hk] at h
  exact ⟨hk, (Option.some.inj h).symm⟩
theorem wld_set {P : Pl} {n : Nat} {M M2 : Mm} {k : Nat} {e : va_E} (hk : k < n) (h1 : wc P n M2 k = e) (h2 : ∀ j, j ≠ k → wc P n M2 j = wc P n M j) : (wld P n M).set k (P.2.1 k, e) = wld P n M2 := by
  apply List.ext_getElem?
  intro i
  by_cases hi : i < n
  · rw [wld_get hi]
    by_cases h : i = k
    · subst h
      rw [List.getElem?_set_self (by simpa [wld] using hi), h1]
    · rw [List.getElem?_set_ne (Ne.symm h), wld_get hi, h2 i h]
  · have a1 : ((wld P n M).set k (P.2.1 k, e)).length ≤ i := by simp [wld]; omega
    have a2 : (wld P n M2).length ≤ i := by simp [wld]; omega
    rw [List.getElem?_eq_none a1, List.getElem?_eq_none a2]
def stM (M : Mm) (k i : Nat) (v : Int) : Mm := fun a b => if a = k ∧ b = i then v else M a b
theorem fvs_off {P : Pl} {M M2 : Mm} {k : Nat} (h : M2 k = M k) : ∀ (fs : List (Nat × Nat)) (j : Nat), fvs P M2 k j fs = fvs P M k j fs
  | [], _ => rfl
  | c :: cs, j => by
    rw [fvs, fvs, fvs_off h cs (j + 1)]
    simp only [aval, h]
theorem wc_off {P : Pl} {n : Nat} {M M2 : Mm} {k : Nat} (h : M2 k = M k) : wc P n M2 k = wc P n M k := by
  unfold wc
  cases shp n k with
  | inl q =>
    obtain ⟨ct, len, b, sd⟩ := q
    simp only [wcS, h]
  | inr q =>
    obtain ⟨ci, fs⟩ := q
    simp only [wcS, fvs_off h]
theorem stM_off {M : Mm} {k i j : Nat} {v : Int} (h : j ≠ k) : stM M k i v j = M j := by
  funext b
  simp [stM, h]
theorem stM_at (M : Mm) (k i : Nat) (v : Int) : stM M k i v k i = v := by simp [stM]
theorem stM_ne (M : Mm) {k i a b : Nat} (v : Int) (h : a ≠ k ∨ b ≠ i) : stM M k i v a b = M a b := by
  unfold stM
  rw [if_neg (by rintro ⟨h1, h2⟩; rcases h with h | h <;> contradiction)]
theorem fvs_set {P : Pl} {M : Mm} {k i : Nat} {v : Int} {c : Nat × Nat} {V : Value} (hV : cz P (aval (stM M k i v) k i c) = V) : ∀ (fs : List (Nat × Nat)) (j q : Nat), fs[q]? = some c → j + q = i → fvs P (stM M k i v) k j fs = (fvs P M k j fs).set q V
  | [], j, q, h, _ => by simp at h
  | c0 :: cs, j, 0, h, e => by
    have e2 : j = i := by omega
    rw [List.getElem?_cons_zero] at h
    cases h
    subst e2
    rw [fvs, fvs, List.set_cons_zero, hV]
    congr 1
    have key : ∀ (l : List (Nat × Nat)) (a : Nat), j < a → fvs P (stM M k j v) k a l = fvs P M k a l := by
      intro l
      induction l with
      | nil => intro a _; rfl
      | cons d ds ih =>
        intro a ha
        rw [fvs, fvs, ih (a + 1) (by omega)]
        simp only [aval, stM_ne M v (show k ≠ k ∨ a ≠ j from Or.inr (by omega))]
    exact key cs (j + 1) (by omega)
  | c0 :: cs, j, q + 1, h, e => by
    rw [List.getElem?_cons_succ] at h
    rw [fvs, fvs, List.set_cons_succ, fvs_set hV cs (j + 1) q h (by omega)]
    simp only [aval, stM_ne M v (show k ≠ k ∨ j ≠ i from Or.inr (by omega))]
/-- the addresses are apart -/
def iP (P : Pl) (n : Nat) : Prop := ∀ i j : Nat, i < n → j < n → P.2.1 i = P.2.1 j → i = j
/-- what a method may change: the cells, and what comes new -/
def aA (P : Pl) (n sz : Nat) : Nat → Prop := fun q => (∃ k : Nat, k < n ∧ q = P.2.1 k) ∨ sz ≤ q
theorem wld_D {P : Pl} {n : Nat} {A : Nat → Prop} (hi : iP P n) (hA : ∀ k, k < n → A (P.2.1 k)) (M : Mm) : va_D A (wld P n M) := by
  refine ⟨fun i j x y hx hy hxy => ?_, fun k q hk => ?_⟩
  · obtain ⟨h1, rfl⟩ := wld_of hx
    obtain ⟨h2, rfl⟩ := wld_of hy
    exact hi i j h1 h2 hxy
  · obtain ⟨h1, rfl⟩ := wld_of hk
    exact hA k h1
def tysP (P : Pl) : List (ClassId × FieldType) := [(P.2.2 0, .int), (P.2.2 1, .int), (P.2.2 2, .object "CoatBetween$Row"), (P.2.2 3, .object "CoatBetween$Need")]
def NLt (j : Nat) : Int := ([110, 109, 108, 119, 102, 116] : List Int).getD j 0
def RLt (j : Nat) : Int := ([118, 98, 110, 99, 109] : List Int).getD j 0
/-- the two static arrays -/
def Sg (P : Pl) (A : Nat → Prop) (U : State) : Prop := (va_Z "CoatBetween" "NEED_LETTERS" "[C" (.ref (P.2.1 106)) A U U.heap ∧ va_T .char (P.2.1 106) 6 (fun j => .int (iI (NLt j))) A U U.heap) ∧ (va_Z "CoatBetween" "RULE_LETTERS" "[C" (.ref (P.2.1 107)) A U U.heap ∧ va_T .char (P.2.1 107) 5 (fun j => .int (iI (RLt j))) A U U.heap)
theorem Sg_to {P : Pl} {A B : Nat → Prop} {u U : State} (hvm : u.vm.Alike U.vm) (hq : ∀ a : Nat, a < u.heap.size → ¬ A a → U.heap[a]? = u.heap[a]?) (hAB : ∀ q, B q → A q) (h : Sg P A u) : Sg P B U :=
  ⟨⟨((h.1.1.moved hvm).kept hq).narrow hAB, ((h.1.2.moved hvm).kept hq).narrow hAB⟩, ⟨((h.2.1.moved hvm).kept hq).narrow hAB, ((h.2.2.moved hvm).kept hq).narrow hAB⟩⟩
/-! the judgement: at pc, with these locals and this stack, in this state of the system, the method comes to what Q says -/
abbrev Cq : Type := Program × Launch × Env × Room × State × MethodId × Array Value × List Frame × Method × Code × Nat × Pl × Nat × (Nat → Prop) × Nat × Nat × (State → Prop)
def G : Cq → Nat → List (Nat × Value) → List Value → Mm → Prop
  | (p, l, e, R, s, m, args, below, meth, c, nL, P, n, A, cells, slots, Q), pc, lv, st, M => ∀ (H : Heap) (locs : List Loc) (ls : Array Slot), lv_has ls nL (lv.map fun q => (q.1, cz P q.2)) → va_P P.1 vwCl (wld P n M) H → va_S A s.heap H locs → W p l e R s m args below meth c H locs cells slots Q (F0 m pc ls (st.map (cz P)))
/-- what stays in a method: its code, its class, the tables, its room, its number of locals and of cells -/
def Cx : Cq → ByteArray → String → Room → Nat → Nat → Prop
  | (p, l, e, R, s, m, args, below, meth, c, nL, P, n, A, cells, slots, Q), cc, own, R0, nL0, n0 => (p.tables.exec = Jvm.exec ∧ c.code = cc ∧ c.maxLocals = nL ∧ s.vm.findClass own = some m.cls ∧ (∀ w ∈ gw, w.before args s = true)) ∧ va_K P.1 vwCl (tysP P) s ∧ (∀ q, s.heap.size ≤ q → A q) ∧ (∀ k, k < n → A (P.2.1 k)) ∧ iP P n ∧ Sg P A s ∧ meth.locks = false ∧ R = R0 ∧ nL = nL0 ∧ n = n0 ∧ 77 ≤ n ∧ n ≤ 79 ∧ ∀ w ∈ nw, w.before args s = true
theorem lk_of {P : Pl} {ls : Array Slot} {nL : Nat} {lv : List (Nat × Value)} (h : lv_has ls nL (lv.map fun q => (q.1, cz P q.2))) (k : Nat) {i : Nat} {v : Value} (hk : lv[k]? = some (i, v)) : ls[i]? = some (.val (cz P v)) :=
  lv_at h k (by rw [List.getElem?_map, hk]; rfl)
theorem lset_mem {nL : Nat} {ls : Array Slot} {l l2 : List (Nat × Value)} (h : lv_has ls nL l) (hs : ∀ q ∈ l2, q ∈ l) : lv_has ls nL l2 := ⟨h.1, h.2.1, fun q hq => h.2.2 q (hs q hq)⟩
/-- a value of one slot comes to local i; the list stays in the order of the places -/
def lset1 (lv : List (Nat × Value)) (i : Nat) (v : Value) : List (Nat × Value) := lv.filter (fun q => Nat.ble (q.1 + 1) i && !(Nat.beq (q.1 + 1) i && Nat.beq q.2.category 2)) ++ (i, v) :: lv.filter (fun q => Nat.ble (i + 1) q.1)
def lset2 (lv : List (Nat × Value)) (i : Nat) (v : Value) : List (Nat × Value) := lv.filter (fun q => Nat.ble (q.1 + 1) i && !(Nat.beq (q.1 + 1) i && Nat.beq q.2.category 2)) ++ (i, v) :: lv.filter (fun q => Nat.ble (i + 2) q.1)
theorem cz_cat (P : Pl) (v : Value) : (cz P v).category = v.category := by cases v <;> rfl
theorem lset1_in {P : Pl} {lv : List (Nat × Value)} {i : Nat} {v : Value} : ∀ q ∈ (lset1 lv i v).map (fun q => (q.1, cz P q.2)), q ∈ (i, cz P v) :: (lv.map fun q => (q.1, cz P q.2)).filter (fun q => !(q.1 == i) && !(q.1 + 1 == i && q.2.category == 2)) := by
  intro q hq
  obtain ⟨r, hr, rfl⟩ := List.mem_map.mp hq
  unfold lset1 at hr
  rcases List.mem_append.mp hr with hr | hr
  · obtain ⟨h1, h2⟩ := List.mem_filter.mp hr
    refine List.mem_cons_of_mem _ (List.mem_filter.mpr ⟨List.mem_map.mpr ⟨r, h1, rfl⟩, ?_⟩)
    simp only [Bool.and_eq_true, Nat.ble_eq] at h2
    have hne : ¬ r.1 = i := by omega
    simp only [cz_cat, Bool.and_eq_true, Bool.not_eq_true', beq_eq_false_iff_ne, ne_eq]
    refine ⟨hne, ?_⟩
    have h3 := h2.2
    simp only [Bool.not_eq_true', Bool.and_eq_false_iff] at h3
    rcases h3 with h3 | h3
    · simp only [Bool.and_eq_false_iff]
      refine Or.inl ?_
      rw [beq_eq_false_iff_ne]
      intro e
      rw [e] at h3
      simp at h3
    · simp only [Bool.and_eq_false_iff]
      refine Or.inr ?_
      rw [beq_eq_false_iff_ne]
      intro e
      rw [e] at h3
      simp at h3
  · rcases List.mem_cons.mp hr with rfl | hr
    · exact List.mem_cons_self
    · obtain ⟨h1, h2⟩ := List.mem_filter.mp hr
      refine List.mem_cons_of_mem _ (List.mem_filter.mpr ⟨List.mem_map.mpr ⟨r, h1, rfl⟩, ?_⟩)
      rw [Nat.ble_eq] at h2
      have hne : ¬ r.1 = i := by omega
      have hne2 : ¬ r.1 + 1 = i := by omega
      simp [hne, hne2]
theorem g_iconst {X : Cq} {cc : ByteArray} {own : String} {R0 : Room} {nL n : Nat} (cx : Cx X cc own R0 nL n) {pc pc2 : Nat} {lv : List (Nat × Value)} {st : List Value} {M : Mm} {q : Int} (hd : decode cc pc = .ok (.iconst q, 1)) (hp : pc + 1 = pc2) (k : G X pc2 lv (.int (iI q) :: st) M) : G X pc lv st M := by
  obtain ⟨p, l, e, R, s, m, args, below, meth, c, nL2, P, n2, A, cells, slots, Q⟩ := X
  obtain ⟨⟨hx, hb, hml, hown, hts⟩, hK, hA, hAw, hiP, hSg, hlk, hR, hnL, hn, hn1, hn2, hnw⟩ := cx
  subst hp
  intro H locs ls hl hP hS
  exact lv_iconst hx hb hd rfl (k H locs ls hl hP hS)
theorem g_bipush {X : Cq} {cc : ByteArray} {own : String} {R0 : Room} {nL n : Nat} (cx : Cx X cc own R0 nL n) {pc pc2 : Nat} {lv : List (Nat × Value)} {st : List Value} {M : Mm} {q : Int} (h0 : -128 ≤ q ∧ q ≤ 127) (hd : decode cc pc = .ok (.bipush q, 2)) (hp : pc + 2 = pc2) (k : G X pc2 lv (.int (iI q) :: st) M) : G X pc lv st M := by
  obtain ⟨p, l, e, R, s, m, args, below, meth, c, nL2, P, n2, A, cells, slots, Q⟩ := X
  obtain ⟨⟨hx, hb, hml, hown, hts⟩, hK, hA, hAw, hiP, hSg, hlk, hR, hnL, hn, hn1, hn2, hnw⟩ := cx
  subst hp
  intro H locs ls hl hP hS
  exact lv_bipush hx hb hd (iI_bi h0.1 h0.2) (k H locs ls hl hP hS)
theorem g_sipush {X : Cq} {cc : ByteArray} {own : String} {R0 : Room} {nL n : Nat} (cx : Cx X cc own R0 nL n) {pc pc2 : Nat} {lv : List (Nat × Value)} {st : List Value} {M : Mm} {q : Int} (h0 : -32768 ≤ q ∧ q ≤ 32767) (hd : decode cc pc = .ok (.sipush q, 3)) (hp : pc + 3 = pc2) (k : G X pc2 lv (.int (iI q) :: st) M) : G X pc lv st M := by
  obtain ⟨p, l, e, R, s, m, args, below, meth, c, nL2, P, n2, A, cells, slots, Q⟩ := X
  obtain ⟨⟨hx, hb, hml, hown, hts⟩, hK, hA, hAw, hiP, hSg, hlk, hR, hnL, hn, hn1, hn2, hnw⟩ := cx
  subst hp
  intro H locs ls hl hP hS
  exact lv_sipush hx hb hd (iI_si h0.1 h0.2) (k H locs ls hl hP hS)
theorem g_lconst {X : Cq} {cc : ByteArray} {own : String} {R0 : Room} {nL n : Nat} (cx : Cx X cc own R0 nL n) {pc pc2 : Nat} {lv : List (Nat × Value)} {st : List Value} {M : Mm} {q : Fin 2} (z : Int) (hz : Int64.ofNat (q : Nat) = lI z) (hd : decode cc pc = .ok (.lconst q, 1)) (hp : pc + 1 = pc2) (k : G X pc2 lv (.long (lI z) :: st) M) : G X pc lv st M := by
  obtain ⟨p, l, e, R, s, m, args, below, meth, c, nL2, P, n2, A, cells, slots, Q⟩ := X
  obtain ⟨⟨hx, hb, hml, hown, hts⟩, hK, hA, hAw, hiP, hSg, hlk, hR, hnL, hn, hn1, hn2, hnw⟩ := cx
  subst hp
  intro H locs ls hl hP hS
  exact lv_lconst hx hb hd hz (k H locs ls hl hP hS)
theorem g_ldc {X : Cq} {cc : ByteArray} {own : String} {R0 : Room} {nL n : Nat} (cx : Cx X cc own R0 nL n) {pc pc2 : Nat} {lv : List (Nat × Value)} {st : List Value} {M : Mm} {i : Nat} {z : Int} (hw : Cond.constant own i (iI z) ∈ gw) (hd : decode cc pc = .ok (.ldc i, 2)) (hp : pc + 2 = pc2) (k : G X pc2 lv (.int (iI z) :: st) M) : G X pc lv st M := by
  obtain ⟨p, l, e, R, s, m, args, below, meth, c, nL2, P, n2, A, cells, slots, Q⟩ := X
  obtain ⟨⟨hx, hb, hml, hown, hts⟩, hK, hA, hAw, hiP, hSg, hlk, hR, hnL, hn, hn1, hn2, hnw⟩ := cx
  subst hp
  intro H locs ls hl hP hS
  exact lv_ldc hx hb hown (hts _ hw) hd (k H locs ls hl hP hS)
theorem g_ldcw {X : Cq} {cc : ByteArray} {own : String} {R0 : Room} {nL n : Nat} (cx : Cx X cc own R0 nL n) {pc pc2 : Nat} {lv : List (Nat × Value)} {st : List Value} {M : Mm} {i : Nat} {z : Int} (hw : Cond.constant own i (iI z) ∈ gw) (hd : decode cc pc = .ok (.ldc_w i, 3)) (hp : pc + 3 = pc2) (k : G X pc2 lv (.int (iI z) :: st) M) : G X pc lv st M := by
  obtain ⟨p, l, e, R, s, m, args, below, meth, c, nL2, P, n2, A, cells, slots, Q⟩ := X
  obtain ⟨⟨hx, hb, hml, hown, hts⟩, hK, hA, hAw, hiP, hSg, hlk, hR, hnL, hn, hn1, hn2, hnw⟩ := cx
  subst hp
  intro H locs ls hl hP hS
  exact lv_ldcw hx hb hown (hts _ hw) hd (k H locs ls hl hP hS)
theorem g_ldc2 {X : Cq} {cc : ByteArray} {own : String} {R0 : Room} {nL n : Nat} (cx : Cx X cc own R0 nL n) {pc pc2 : Nat} {lv : List (Nat × Value)} {st : List Value} {M : Mm} {i : Nat} {z : Int} (hw : Cond.constantLong own i (lI z) ∈ gw) (hd : decode cc pc = .ok (.ldc2_w i, 3)) (hp : pc + 3 = pc2) (k : G X pc2 lv (.long (lI z) :: st) M) : G X pc lv st M := by
  obtain ⟨p, l, e, R, s, m, args, below, meth, c, nL2, P, n2, A, cells, slots, Q⟩ := X
  obtain ⟨⟨hx, hb, hml, hown, hts⟩, hK, hA, hAw, hiP, hSg, hlk, hR, hnL, hn, hn1, hn2, hnw⟩ := cx
  subst hp
  intro H locs ls hl hP hS
  exact lv_ldc2 hx hb hown (hts _ hw) hd (k H locs ls hl hP hS)
theorem g_iload_n {X : Cq} {cc : ByteArray} {own : String} {R0 : Room} {nL n : Nat} (cx : Cx X cc own R0 nL n) {pc pc2 : Nat} {lv : List (Nat × Value)} {st : List Value} {M : Mm} {q : Fin 4} {x : Int32} (j : Nat) (hj : lv[j]? = some ((q : Nat), .int x)) (hd : decode cc pc = .ok (.iload_n q, 1)) (hp : pc + 1 = pc2) (k : G X pc2 lv (.int x :: st) M) : G X pc lv st M := by
  obtain ⟨p, l, e, R, s, m, args, below, meth, c, nL2, P, n2, A, cells, slots, Q⟩ := X
  obtain ⟨⟨hx, hb, hml, hown, hts⟩, hK, hA, hAw, hiP, hSg, hlk, hR, hnL, hn, hn1, hn2, hnw⟩ := cx
  subst hp
  intro H locs ls hl hP hS
  exact lv_iload_n hx hb hd rfl (lk_of hl j hj) (k H locs ls hl hP hS)
theorem g_iload {X : Cq} {cc : ByteArray} {own : String} {R0 : Room} {nL n : Nat} (cx : Cx X cc own R0 nL n) {pc pc2 : Nat} {lv : List (Nat × Value)} {st : List Value} {M : Mm} {i : Nat} {x : Int32} (j : Nat) (hj : lv[j]? = some (i, .int x)) (hd : decode cc pc = .ok (.iload i, 2)) (hp : pc + 2 = pc2) (k : G X pc2 lv (.int x :: st) M) : G X pc lv st M := by
  obtain ⟨p, l, e, R, s, m, args, below, meth, c, nL2, P, n2, A, cells, slots, Q⟩ := X
  obtain ⟨⟨hx, hb, hml, hown, hts⟩, hK, hA, hAw, hiP, hSg, hlk, hR, hnL, hn, hn1, hn2, hnw⟩ := cx
  subst hp
  intro H locs ls hl hP hS
  exact lv_iload hx hb hd (lk_of hl j hj) (k H locs ls hl hP hS)
theorem g_lload_n {X : Cq} {cc : ByteArray} {own : String} {R0 : Room} {nL n : Nat} (cx : Cx X cc own R0 nL n) {pc pc2 : Nat} {lv : List (Nat × Value)} {st : List Value} {M : Mm} {q : Fin 4} {x : Int64} (j : Nat) (hj : lv[j]? = some ((q : Nat), .long x)) (hd : decode cc pc = .ok (.lload_n q, 1)) (hp : pc + 1 = pc2) (k : G X pc2 lv (.long x :: st) M) : G X pc lv st M := by
  obtain ⟨p, l, e, R, s, m, args, below, meth, c, nL2, P, n2, A, cells, slots, Q⟩ := X
  obtain ⟨⟨hx, hb, hml, hown, hts⟩, hK, hA, hAw, hiP, hSg, hlk, hR, hnL, hn, hn1, hn2, hnw⟩ := cx
  subst hp
  intro H locs ls hl hP hS
  exact lv_lload_n hx hb hd rfl (lk_of hl j hj) (k H locs ls hl hP hS)
theorem g_lload {X : Cq} {cc : ByteArray} {own : String} {R0 : Room} {nL n : Nat} (cx : Cx X cc own R0 nL n) {pc pc2 : Nat} {lv : List (Nat × Value)} {st : List Value} {M : Mm} {i : Nat} {x : Int64} (j : Nat) (hj : lv[j]? = some (i, .long x)) (hd : decode cc pc = .ok (.lload i, 2)) (hp : pc + 2 = pc2) (k : G X pc2 lv (.long x :: st) M) : G X pc lv st M := by
  obtain ⟨p, l, e, R, s, m, args, below, meth, c, nL2, P, n2, A, cells, slots, Q⟩ := X
  obtain ⟨⟨hx, hb, hml, hown, hts⟩, hK, hA, hAw, hiP, hSg, hlk, hR, hnL, hn, hn1, hn2, hnw⟩ := cx
  subst hp
  intro H locs ls hl hP hS
  exact lv_lload hx hb hd (lk_of hl j hj) (k H locs ls hl hP hS)
theorem g_aload_n {X : Cq} {cc : ByteArray} {own : String} {R0 : Room} {nL n : Nat} (cx : Cx X cc own R0 nL n) {pc pc2 : Nat} {lv : List (Nat × Value)} {st : List Value} {M : Mm} {q : Fin 4} {x : Nat} (j : Nat) (hj : lv[j]? = some ((q : Nat), .ref x)) (hd : decode cc pc = .ok (.aload_n q, 1)) (hp : pc + 1 = pc2) (k : G X pc2 lv (.ref x :: st) M) : G X pc lv st M := by
  obtain ⟨p, l, e, R, s, m, args, below, meth, c, nL2, P, n2, A, cells, slots, Q⟩ := X
  obtain ⟨⟨hx, hb, hml, hown, hts⟩, hK, hA, hAw, hiP, hSg, hlk, hR, hnL, hn, hn1, hn2, hnw⟩ := cx
  subst hp
  intro H locs ls hl hP hS
  exact lv_aload_n hx hb hd rfl (lk_of hl j hj) (k H locs ls hl hP hS)
theorem g_aload {X : Cq} {cc : ByteArray} {own : String} {R0 : Room} {nL n : Nat} (cx : Cx X cc own R0 nL n) {pc pc2 : Nat} {lv : List (Nat × Value)} {st : List Value} {M : Mm} {i : Nat} {x : Nat} (j : Nat) (hj : lv[j]? = some (i, .ref x)) (hd : decode cc pc = .ok (.aload i, 2)) (hp : pc + 2 = pc2) (k : G X pc2 lv (.ref x :: st) M) : G X pc lv st M := by
  obtain ⟨p, l, e, R, s, m, args, below, meth, c, nL2, P, n2, A, cells, slots, Q⟩ := X
  obtain ⟨⟨hx, hb, hml, hown, hts⟩, hK, hA, hAw, hiP, hSg, hlk, hR, hnL, hn, hn1, hn2, hnw⟩ := cx
  subst hp
  intro H locs ls hl hP hS
  exact lv_aload hx hb hd (lk_of hl j hj) (k H locs ls hl hP hS)
theorem g_aload_nN {X : Cq} {cc : ByteArray} {own : String} {R0 : Room} {nL n : Nat} (cx : Cx X cc own R0 nL n) {pc pc2 : Nat} {lv : List (Nat × Value)} {st : List Value} {M : Mm} {q : Fin 4} (j : Nat) (hj : lv[j]? = some ((q : Nat), .null)) (hd : decode cc pc = .ok (.aload_n q, 1)) (hp : pc + 1 = pc2) (k : G X pc2 lv (.null :: st) M) : G X pc lv st M := by
  obtain ⟨p, l, e, R, s, m, args, below, meth, c, nL2, P, n2, A, cells, slots, Q⟩ := X
  obtain ⟨⟨hx, hb, hml, hown, hts⟩, hK, hA, hAw, hiP, hSg, hlk, hR, hnL, hn, hn1, hn2, hnw⟩ := cx
  subst hp
  intro H locs ls hl hP hS
  exact lv_aload_nN hx hb hd rfl (lk_of hl j hj) (k H locs ls hl hP hS)
theorem g_aloadN {X : Cq} {cc : ByteArray} {own : String} {R0 : Room} {nL n : Nat} (cx : Cx X cc own R0 nL n) {pc pc2 : Nat} {lv : List (Nat × Value)} {st : List Value} {M : Mm} {i : Nat} (j : Nat) (hj : lv[j]? = some (i, .null)) (hd : decode cc pc = .ok (.aload i, 2)) (hp : pc + 2 = pc2) (k : G X pc2 lv (.null :: st) M) : G X pc lv st M := by
  obtain ⟨p, l, e, R, s, m, args, below, meth, c, nL2, P, n2, A, cells, slots, Q⟩ := X
  obtain ⟨⟨hx, hb, hml, hown, hts⟩, hK, hA, hAw, hiP, hSg, hlk, hR, hnL, hn, hn1, hn2, hnw⟩ := cx
  subst hp
  intro H locs ls hl hP hS
  exact lv_aloadN hx hb hd (lk_of hl j hj) (k H locs ls hl hP hS)
theorem g_istore_n {X : Cq} {cc : ByteArray} {own : String} {R0 : Room} {nL n : Nat} (cx : Cx X cc own R0 nL n) {pc pc2 : Nat} {lv : List (Nat × Value)} {st : List Value} {M : Mm} {q : Fin 4} {x : Int32} {lv2 : List (Nat × Value)} (hl2 : lset1 lv (q : Nat) (.int x) = lv2) (hi : (q : Nat) < nL) (hd : decode cc pc = .ok (.istore_n q, 1)) (hp : pc + 1 = pc2) (k : G X pc2 lv2 st M) : G X pc lv (.int x :: st) M := by
  obtain ⟨p, l, e, R, s, m, args, below, meth, c, nL2, P, n2, A, cells, slots, Q⟩ := X
  obtain ⟨⟨hx, hb, hml, hown, hts⟩, hK, hA, hAw, hiP, hSg, hlk, hR, hnL, hn, hn1, hn2, hnw⟩ := cx
  subst hp
  subst hl2
  subst hnL
  intro H locs ls hl hP hS
  exact lv_istore_n hx hb hd rfl hl hi rfl (fun ls2 hl2 => k H locs ls2 (lset_mem hl2 lset1_in) hP hS)
theorem g_istore {X : Cq} {cc : ByteArray} {own : String} {R0 : Room} {nL n : Nat} (cx : Cx X cc own R0 nL n) {pc pc2 : Nat} {lv : List (Nat × Value)} {st : List Value} {M : Mm} {i : Nat} {x : Int32} {lv2 : List (Nat × Value)} (hl2 : lset1 lv i (.int x) = lv2) (hi : i < nL) (hd : decode cc pc = .ok (.istore i, 2)) (hp : pc + 2 = pc2) (k : G X pc2 lv2 st M) : G X pc lv (.int x :: st) M := by
  obtain ⟨p, l, e, R, s, m, args, below, meth, c, nL2, P, n2, A, cells, slots, Q⟩ := X
  obtain ⟨⟨hx, hb, hml, hown, hts⟩, hK, hA, hAw, hiP, hSg, hlk, hR, hnL, hn, hn1, hn2, hnw⟩ := cx
  subst hp
  subst hl2
  subst hnL
  intro H locs ls hl hP hS
  exact lv_istore hx hb hd hl hi rfl (fun ls2 hl2 => k H locs ls2 (lset_mem hl2 lset1_in) hP hS)
theorem g_astore_n {X : Cq} {cc : ByteArray} {own : String} {R0 : Room} {nL n : Nat} (cx : Cx X cc own R0 nL n) {pc pc2 : Nat} {lv : List (Nat × Value)} {st : List Value} {M : Mm} {q : Fin 4} {x : Nat} {lv2 : List (Nat × Value)} (hl2 : lset1 lv (q : Nat) (.ref x) = lv2) (hi : (q : Nat) < nL) (hd : decode cc pc = .ok (.astore_n q, 1)) (hp : pc + 1 = pc2) (k : G X pc2 lv2 st M) : G X pc lv (.ref x :: st) M := by
  obtain ⟨p, l, e, R, s, m, args, below, meth, c, nL2, P, n2, A, cells, slots, Q⟩ := X
  obtain ⟨⟨hx, hb, hml, hown, hts⟩, hK, hA, hAw, hiP, hSg, hlk, hR, hnL, hn, hn1, hn2, hnw⟩ := cx
  subst hp
  subst hl2
  subst hnL
  intro H locs ls hl hP hS
  exact lv_astore_n hx hb hd rfl hl hi rfl (fun ls2 hl2 => k H locs ls2 (lset_mem hl2 lset1_in) hP hS)
theorem g_astore {X : Cq} {cc : ByteArray} {own : String} {R0 : Room} {nL n : Nat} (cx : Cx X cc own R0 nL n) {pc pc2 : Nat} {lv : List (Nat × Value)} {st : List Value} {M : Mm} {i : Nat} {x : Nat} {lv2 : List (Nat × Value)} (hl2 : lset1 lv i (.ref x) = lv2) (hi : i < nL) (hd : decode cc pc = .ok (.astore i, 2)) (hp : pc + 2 = pc2) (k : G X pc2 lv2 st M) : G X pc lv (.ref x :: st) M := by
  obtain ⟨p, l, e, R, s, m, args, below, meth, c, nL2, P, n2, A, cells, slots, Q⟩ := X
  obtain ⟨⟨hx, hb, hml, hown, hts⟩, hK, hA, hAw, hiP, hSg, hlk, hR, hnL, hn, hn1, hn2, hnw⟩ := cx
  subst hp
  subst hl2
  subst hnL
  intro H locs ls hl hP hS
  exact lv_astore hx hb hd hl hi rfl (fun ls2 hl2 => k H locs ls2 (lset_mem hl2 lset1_in) hP hS)
theorem g_astore_nN {X : Cq} {cc : ByteArray} {own : String} {R0 : Room} {nL n : Nat} (cx : Cx X cc own R0 nL n) {pc pc2 : Nat} {lv : List (Nat × Value)} {st : List Value} {M : Mm} {q : Fin 4} {lv2 : List (Nat × Value)} (hl2 : lset1 lv (q : Nat) (.null) = lv2) (hi : (q : Nat) < nL) (hd : decode cc pc = .ok (.astore_n q, 1)) (hp : pc + 1 = pc2) (k : G X pc2 lv2 st M) : G X pc lv (.null :: st) M := by
  obtain ⟨p, l, e, R, s, m, args, below, meth, c, nL2, P, n2, A, cells, slots, Q⟩ := X
  obtain ⟨⟨hx, hb, hml, hown, hts⟩, hK, hA, hAw, hiP, hSg, hlk, hR, hnL, hn, hn1, hn2, hnw⟩ := cx
  subst hp
  subst hl2
  subst hnL
  intro H locs ls hl hP hS
  exact lv_astore_nN hx hb hd rfl hl hi rfl (fun ls2 hl2 => k H locs ls2 (lset_mem hl2 lset1_in) hP hS)
theorem lset2_in {P : Pl} {lv : List (Nat × Value)} {i : Nat} {v : Value} : ∀ q ∈ (lset2 lv i v).map (fun q => (q.1, cz P q.2)), q ∈ (i, cz P v) :: (lv.map fun q => (q.1, cz P q.2)).filter (fun q => !(q.1 == i) && (!(q.1 == i + 1) && !(q.1 + 1 == i && q.2.category == 2))) := by
  intro q hq
  obtain ⟨r, hr, rfl⟩ := List.mem_map.mp hq
  unfold lset2 at hr
  rcases List.mem_append.mp hr with hr | hr
  · obtain ⟨h1, h2⟩ := List.mem_filter.mp hr
    refine List.mem_cons_of_mem _ (List.mem_filter.mpr ⟨List.mem_map.mpr ⟨r, h1, rfl⟩, ?_⟩)
    simp only [Bool.and_eq_true, Nat.ble_eq] at h2
    have hne : ¬ r.1 = i := by omega
    have hne3 : ¬ r.1 = i + 1 := by omega
    simp only [cz_cat, Bool.and_eq_true, Bool.not_eq_true', beq_eq_false_iff_ne, ne_eq]
    refine ⟨hne, hne3, ?_⟩
    have h3 := h2.2
    simp only [Bool.not_eq_true', Bool.and_eq_false_iff] at h3
    rcases h3 with h3 | h3
    · simp only [Bool.and_eq_false_iff]
      refine Or.inl ?_
      rw [beq_eq_false_iff_ne]
      intro e
      rw [e] at h3
      simp at h3
    · simp only [Bool.and_eq_false_iff]
      refine Or.inr ?_
      rw [beq_eq_false_iff_ne]
      intro e
      rw [e] at h3
      simp at h3
  · rcases List.mem_cons.mp hr with rfl | hr
    · exact List.mem_cons_self
    · obtain ⟨h1, h2⟩ := List.mem_filter.mp hr
      refine List.mem_cons_of_mem _ (List.mem_filter.mpr ⟨List.mem_map.mpr ⟨r, h1, rfl⟩, ?_⟩)
      rw [Nat.ble_eq] at h2
      have hne : ¬ r.1 = i := by omega
      have hne3 : ¬ r.1 = i + 1 := by omega
      have hne2 : ¬ r.1 + 1 = i := by omega
      simp [hne, hne2, hne3]
theorem g_lstore_n {X : Cq} {cc : ByteArray} {own : String} {R0 : Room} {nL n : Nat} (cx : Cx X cc own R0 nL n) {pc pc2 : Nat} {lv : List (Nat × Value)} {st : List Value} {M : Mm} {q : Fin 4} {x : Int64} {lv2 : List (Nat × Value)} (hl2 : lset2 lv (q : Nat) (.long x) = lv2) (hi : (q : Nat) + 1 < nL) (hd : decode cc pc = .ok (.lstore_n q, 1)) (hp : pc + 1 = pc2) (k : G X pc2 lv2 st M) : G X pc lv (.long x :: st) M := by
  obtain ⟨p, l, e, R, s, m, args, below, meth, c, nL2, P, n2, A, cells, slots, Q⟩ := X
  obtain ⟨⟨hx, hb, hml, hown, hts⟩, hK, hA, hAw, hiP, hSg, hlk, hR, hnL, hn, hn1, hn2, hnw⟩ := cx
  subst hp
  subst hl2
  subst hnL
  intro H locs ls hl hP hS
  exact lv_lstore_n hx hb hd rfl hl hi rfl (fun ls2 hl2 => k H locs ls2 (lset_mem hl2 lset2_in) hP hS)
theorem g_lstore {X : Cq} {cc : ByteArray} {own : String} {R0 : Room} {nL n : Nat} (cx : Cx X cc own R0 nL n) {pc pc2 : Nat} {lv : List (Nat × Value)} {st : List Value} {M : Mm} {i : Nat} {x : Int64} {lv2 : List (Nat × Value)} (hl2 : lset2 lv i (.long x) = lv2) (hi : i + 1 < nL) (hd : decode cc pc = .ok (.lstore i, 2)) (hp : pc + 2 = pc2) (k : G X pc2 lv2 st M) : G X pc lv (.long x :: st) M := by
  obtain ⟨p, l, e, R, s, m, args, below, meth, c, nL2, P, n2, A, cells, slots, Q⟩ := X
  obtain ⟨⟨hx, hb, hml, hown, hts⟩, hK, hA, hAw, hiP, hSg, hlk, hR, hnL, hn, hn1, hn2, hnw⟩ := cx
  subst hp
  subst hl2
  subst hnL
  intro H locs ls hl hP hS
  exact lv_lstore hx hb hd hl hi rfl (fun ls2 hl2 => k H locs ls2 (lset_mem hl2 lset2_in) hP hS)
theorem g_iinc {X : Cq} {cc : ByteArray} {own : String} {R0 : Room} {nL n : Nat} (cx : Cx X cc own R0 nL n) {pc pc2 : Nat} {lv : List (Nat × Value)} {st : List Value} {M : Mm} {i : Nat} {q z : Int} (j : Nat) (hj : lv[j]? = some (i, .int (iI z))) {lv2 : List (Nat × Value)} (hl2 : lset1 lv i (.int (iI (z + q))) = lv2) (hi : i < nL) (hd : decode cc pc = .ok (.iinc i q, 3)) (hp : pc + 3 = pc2) (k : G X pc2 lv2 st M) : G X pc lv st M := by
  obtain ⟨p, l, e, R, s, m, args, below, meth, c, nL2, P, n2, A, cells, slots, Q⟩ := X
  obtain ⟨⟨hx, hb, hml, hown, hts⟩, hK, hA, hAw, hiP, hSg, hlk, hR, hnL, hn, hn1, hn2, hnw⟩ := cx
  subst hp
  subst hl2
  subst hnL
  intro H locs ls hl hP hS
  exact lv_iinc hx hb hd hl (k := j) (x := iI z) (by rw [List.getElem?_map, hj]; rfl) (iI_add z q) hi rfl (fun ls2 hl2 => k H locs ls2 (lset_mem hl2 lset1_in) hP hS)
theorem g_iadd {X : Cq} {cc : ByteArray} {own : String} {R0 : Room} {nL n : Nat} (cx : Cx X cc own R0 nL n) {pc pc2 : Nat} {lv : List (Nat × Value)} {st : List Value} {M : Mm} {a b : Int} (hd : decode cc pc = .ok (.iadd, 1)) (hp : pc + 1 = pc2) (k : G X pc2 lv (.int (iI (a + b)) :: st) M) : G X pc lv (.int (iI b) :: .int (iI a) :: st) M := by
  obtain ⟨p, l, e, R, s, m, args, below, meth, c, nL2, P, n2, A, cells, slots, Q⟩ := X
  obtain ⟨⟨hx, hb, hml, hown, hts⟩, hK, hA, hAw, hiP, hSg, hlk, hR, hnL, hn, hn1, hn2, hnw⟩ := cx
  subst hp
  intro H locs ls hl hP hS
  exact lv_iadd hx hb hd (by rw [iI_add]; exact k H locs ls hl hP hS)
theorem g_isub {X : Cq} {cc : ByteArray} {own : String} {R0 : Room} {nL n : Nat} (cx : Cx X cc own R0 nL n) {pc pc2 : Nat} {lv : List (Nat × Value)} {st : List Value} {M : Mm} {a b : Int} (hd : decode cc pc = .ok (.isub, 1)) (hp : pc + 1 = pc2) (k : G X pc2 lv (.int (iI (a - b)) :: st) M) : G X pc lv (.int (iI b) :: .int (iI a) :: st) M := by
  obtain ⟨p, l, e, R, s, m, args, below, meth, c, nL2, P, n2, A, cells, slots, Q⟩ := X
  obtain ⟨⟨hx, hb, hml, hown, hts⟩, hK, hA, hAw, hiP, hSg, hlk, hR, hnL, hn, hn1, hn2, hnw⟩ := cx
  subst hp
  intro H locs ls hl hP hS
  exact lv_isub hx hb hd (by rw [iI_sub]; exact k H locs ls hl hP hS)
theorem g_imul {X : Cq} {cc : ByteArray} {own : String} {R0 : Room} {nL n : Nat} (cx : Cx X cc own R0 nL n) {pc pc2 : Nat} {lv : List (Nat × Value)} {st : List Value} {M : Mm} {a b : Int} (hd : decode cc pc = .ok (.imul, 1)) (hp : pc + 1 = pc2) (k : G X pc2 lv (.int (iI (a * b)) :: st) M) : G X pc lv (.int (iI b) :: .int (iI a) :: st) M := by
  obtain ⟨p, l, e, R, s, m, args, below, meth, c, nL2, P, n2, A, cells, slots, Q⟩ := X
  obtain ⟨⟨hx, hb, hml, hown, hts⟩, hK, hA, hAw, hiP, hSg, hlk, hR, hnL, hn, hn1, hn2, hnw⟩ := cx
  subst hp
  intro H locs ls hl hP hS
  exact lv_imul hx hb hd (by rw [iI_mul]; exact k H locs ls hl hP hS)
theorem g_ineg {X : Cq} {cc : ByteArray} {own : String} {R0 : Room} {nL n : Nat} (cx : Cx X cc own R0 nL n) {pc pc2 : Nat} {lv : List (Nat × Value)} {st : List Value} {M : Mm} {a : Int} (hd : decode cc pc = .ok (.ineg, 1)) (hp : pc + 1 = pc2) (k : G X pc2 lv (.int (iI (-a)) :: st) M) : G X pc lv (.int (iI a) :: st) M := by
  obtain ⟨p, l, e, R, s, m, args, below, meth, c, nL2, P, n2, A, cells, slots, Q⟩ := X
  obtain ⟨⟨hx, hb, hml, hown, hts⟩, hK, hA, hAw, hiP, hSg, hlk, hR, hnL, hn, hn1, hn2, hnw⟩ := cx
  subst hp
  intro H locs ls hl hP hS
  exact lv_ineg hx hb hd (by rw [iI_neg]; exact k H locs ls hl hP hS)
theorem g_ladd {X : Cq} {cc : ByteArray} {own : String} {R0 : Room} {nL n : Nat} (cx : Cx X cc own R0 nL n) {pc pc2 : Nat} {lv : List (Nat × Value)} {st : List Value} {M : Mm} {a b : Int} (hd : decode cc pc = .ok (.ladd, 1)) (hp : pc + 1 = pc2) (k : G X pc2 lv (.long (lI (a + b)) :: st) M) : G X pc lv (.long (lI b) :: .long (lI a) :: st) M := by
  obtain ⟨p, l, e, R, s, m, args, below, meth, c, nL2, P, n2, A, cells, slots, Q⟩ := X
  obtain ⟨⟨hx, hb, hml, hown, hts⟩, hK, hA, hAw, hiP, hSg, hlk, hR, hnL, hn, hn1, hn2, hnw⟩ := cx
  subst hp
  intro H locs ls hl hP hS
  exact lv_ladd hx hb hd (by rw [lI_add]; exact k H locs ls hl hP hS)
theorem g_lsub {X : Cq} {cc : ByteArray} {own : String} {R0 : Room} {nL n : Nat} (cx : Cx X cc own R0 nL n) {pc pc2 : Nat} {lv : List (Nat × Value)} {st : List Value} {M : Mm} {a b : Int} (hd : decode cc pc = .ok (.lsub, 1)) (hp : pc + 1 = pc2) (k : G X pc2 lv (.long (lI (a - b)) :: st) M) : G X pc lv (.long (lI b) :: .long (lI a) :: st) M := by
  obtain ⟨p, l, e, R, s, m, args, below, meth, c, nL2, P, n2, A, cells, slots, Q⟩ := X
  obtain ⟨⟨hx, hb, hml, hown, hts⟩, hK, hA, hAw, hiP, hSg, hlk, hR, hnL, hn, hn1, hn2, hnw⟩ := cx
  subst hp
  intro H locs ls hl hP hS
  exact lv_lsub hx hb hd (by rw [lI_sub]; exact k H locs ls hl hP hS)
theorem g_lmul {X : Cq} {cc : ByteArray} {own : String} {R0 : Room} {nL n : Nat} (cx : Cx X cc own R0 nL n) {pc pc2 : Nat} {lv : List (Nat × Value)} {st : List Value} {M : Mm} {a b : Int} (hd : decode cc pc = .ok (.lmul, 1)) (hp : pc + 1 = pc2) (k : G X pc2 lv (.long (lI (a * b)) :: st) M) : G X pc lv (.long (lI b) :: .long (lI a) :: st) M := by
  obtain ⟨p, l, e, R, s, m, args, below, meth, c, nL2, P, n2, A, cells, slots, Q⟩ := X
  obtain ⟨⟨hx, hb, hml, hown, hts⟩, hK, hA, hAw, hiP, hSg, hlk, hR, hnL, hn, hn1, hn2, hnw⟩ := cx
  subst hp
  intro H locs ls hl hP hS
  exact lv_lmul hx hb hd (by rw [lI_mul]; exact k H locs ls hl hP hS)
theorem g_idiv {X : Cq} {cc : ByteArray} {own : String} {R0 : Room} {nL n : Nat} (cx : Cx X cc own R0 nL n) {pc pc2 : Nat} {lv : List (Nat × Value)} {st : List Value} {M : Mm} {a b : Int} (h0 : ir a ∧ ir b ∧ b ≠ 0 ∧ (a ≠ -2147483648 ∨ b ≠ -1)) (hd : decode cc pc = .ok (.idiv, 1)) (hp : pc + 1 = pc2) (k : G X pc2 lv (.int (iI (a.tdiv b)) :: st) M) : G X pc lv (.int (iI b) :: .int (iI a) :: st) M := by
  obtain ⟨p, l, e, R, s, m, args, below, meth, c, nL2, P, n2, A, cells, slots, Q⟩ := X
  obtain ⟨⟨hx, hb, hml, hown, hts⟩, hK, hA, hAw, hiP, hSg, hlk, hR, hnL, hn, hn1, hn2, hnw⟩ := cx
  subst hp
  intro H locs ls hl hP hS
  exact lv_idiv hx hb hd (fun q => h0.2.2.1 ((iI_eq0 h0.2.1).mp q)) (by rw [iI_div h0.1 h0.2.1 h0.2.2.2]; exact k H locs ls hl hP hS)
theorem g_irem {X : Cq} {cc : ByteArray} {own : String} {R0 : Room} {nL n : Nat} (cx : Cx X cc own R0 nL n) {pc pc2 : Nat} {lv : List (Nat × Value)} {st : List Value} {M : Mm} {a b : Int} (h0 : ir a ∧ ir b ∧ b ≠ 0 ∧ (a ≠ -2147483648 ∨ b ≠ -1)) (hd : decode cc pc = .ok (.irem, 1)) (hp : pc + 1 = pc2) (k : G X pc2 lv (.int (iI (a - a.tdiv b * b)) :: st) M) : G X pc lv (.int (iI b) :: .int (iI a) :: st) M := by
  obtain ⟨p, l, e, R, s, m, args, below, meth, c, nL2, P, n2, A, cells, slots, Q⟩ := X
  obtain ⟨⟨hx, hb, hml, hown, hts⟩, hK, hA, hAw, hiP, hSg, hlk, hR, hnL, hn, hn1, hn2, hnw⟩ := cx
  subst hp
  intro H locs ls hl hP hS
  exact lv_irem hx hb hd (fun q => h0.2.2.1 ((iI_eq0 h0.2.1).mp q)) (by rw [iI_div h0.1 h0.2.1 h0.2.2.2, iI_mul, iI_sub]; exact k H locs ls hl hP hS)
theorem lI_ne0 {b : Int} (hb : lr b) (h : b ≠ 0) : ¬ lI b = 0 := fun q => h ((lI_eq hb (b := 0) ⟨by decide, by decide⟩).mp q)
theorem g_ldiv {X : Cq} {cc : ByteArray} {own : String} {R0 : Room} {nL n : Nat} (cx : Cx X cc own R0 nL n) {pc pc2 : Nat} {lv : List (Nat × Value)} {st : List Value} {M : Mm} {a b : Int} (h0 : lr a ∧ lr b ∧ b ≠ 0 ∧ a ≠ -9223372036854775808) (hd : decode cc pc = .ok (.ldiv, 1)) (hp : pc + 1 = pc2) (k : G X pc2 lv (.long (lI (a.tdiv b)) :: st) M) : G X pc lv (.long (lI b) :: .long (lI a) :: st) M := by
  obtain ⟨p, l, e, R, s, m, args, below, meth, c, nL2, P, n2, A, cells, slots, Q⟩ := X
  obtain ⟨⟨hx, hb, hml, hown, hts⟩, hK, hA, hAw, hiP, hSg, hlk, hR, hnL, hn, hn1, hn2, hnw⟩ := cx
  subst hp
  intro H locs ls hl hP hS
  exact lv_ldiv hx hb hd (lI_ne0 h0.2.1 h0.2.2.1) (by rw [lI_div h0.1 h0.2.1 h0.2.2.2]; exact k H locs ls hl hP hS)
theorem g_lrem {X : Cq} {cc : ByteArray} {own : String} {R0 : Room} {nL n : Nat} (cx : Cx X cc own R0 nL n) {pc pc2 : Nat} {lv : List (Nat × Value)} {st : List Value} {M : Mm} {a b : Int} (h0 : lr a ∧ lr b ∧ b ≠ 0 ∧ a ≠ -9223372036854775808) (hd : decode cc pc = .ok (.lrem, 1)) (hp : pc + 1 = pc2) (k : G X pc2 lv (.long (lI (a - a.tdiv b * b)) :: st) M) : G X pc lv (.long (lI b) :: .long (lI a) :: st) M := by
  obtain ⟨p, l, e, R, s, m, args, below, meth, c, nL2, P, n2, A, cells, slots, Q⟩ := X
  obtain ⟨⟨hx, hb, hml, hown, hts⟩, hK, hA, hAw, hiP, hSg, hlk, hR, hnL, hn, hn1, hn2, hnw⟩ := cx
  subst hp
  intro H locs ls hl hP hS
  exact lv_lrem hx hb hd (lI_ne0 h0.2.1 h0.2.2.1) (by rw [lI_div h0.1 h0.2.1 h0.2.2.2, lI_mul, lI_sub]; exact k H locs ls hl hP hS)
theorem g_iand {X : Cq} {cc : ByteArray} {own : String} {R0 : Room} {nL n : Nat} (cx : Cx X cc own R0 nL n) {pc pc2 : Nat} {lv : List (Nat × Value)} {st : List Value} {M : Mm} {x y : Int32} (hd : decode cc pc = .ok (.iand, 1)) (hp : pc + 1 = pc2) (k : G X pc2 lv (.int (x &&& y) :: st) M) : G X pc lv (.int y :: .int x :: st) M := by
  obtain ⟨p, l, e, R, s, m, args, below, meth, c, nL2, P, n2, A, cells, slots, Q⟩ := X
  obtain ⟨⟨hx, hb, hml, hown, hts⟩, hK, hA, hAw, hiP, hSg, hlk, hR, hnL, hn, hn1, hn2, hnw⟩ := cx
  subst hp
  intro H locs ls hl hP hS
  exact lv_iand hx hb hd (k H locs ls hl hP hS)
theorem g_ior {X : Cq} {cc : ByteArray} {own : String} {R0 : Room} {nL n : Nat} (cx : Cx X cc own R0 nL n) {pc pc2 : Nat} {lv : List (Nat × Value)} {st : List Value} {M : Mm} {x y : Int32} (hd : decode cc pc = .ok (.ior, 1)) (hp : pc + 1 = pc2) (k : G X pc2 lv (.int (x ||| y) :: st) M) : G X pc lv (.int y :: .int x :: st) M := by
  obtain ⟨p, l, e, R, s, m, args, below, meth, c, nL2, P, n2, A, cells, slots, Q⟩ := X
  obtain ⟨⟨hx, hb, hml, hown, hts⟩, hK, hA, hAw, hiP, hSg, hlk, hR, hnL, hn, hn1, hn2, hnw⟩ := cx
  subst hp
  intro H locs ls hl hP hS
  exact lv_ior hx hb hd (k H locs ls hl hP hS)
theorem g_ixor {X : Cq} {cc : ByteArray} {own : String} {R0 : Room} {nL n : Nat} (cx : Cx X cc own R0 nL n) {pc pc2 : Nat} {lv : List (Nat × Value)} {st : List Value} {M : Mm} {x y : Int32} (hd : decode cc pc = .ok (.ixor, 1)) (hp : pc + 1 = pc2) (k : G X pc2 lv (.int (x ^^^ y) :: st) M) : G X pc lv (.int y :: .int x :: st) M := by
  obtain ⟨p, l, e, R, s, m, args, below, meth, c, nL2, P, n2, A, cells, slots, Q⟩ := X
  obtain ⟨⟨hx, hb, hml, hown, hts⟩, hK, hA, hAw, hiP, hSg, hlk, hR, hnL, hn, hn1, hn2, hnw⟩ := cx
  subst hp
  intro H locs ls hl hP hS
  exact lv_ixor hx hb hd (k H locs ls hl hP hS)
theorem g_ishl {X : Cq} {cc : ByteArray} {own : String} {R0 : Room} {nL n : Nat} (cx : Cx X cc own R0 nL n) {pc pc2 : Nat} {lv : List (Nat × Value)} {st : List Value} {M : Mm} {x y : Int32} (hd : decode cc pc = .ok (.ishl, 1)) (hp : pc + 1 = pc2) (k : G X pc2 lv (.int (x <<< (y &&& 31)) :: st) M) : G X pc lv (.int y :: .int x :: st) M := by
  obtain ⟨p, l, e, R, s, m, args, below, meth, c, nL2, P, n2, A, cells, slots, Q⟩ := X
  obtain ⟨⟨hx, hb, hml, hown, hts⟩, hK, hA, hAw, hiP, hSg, hlk, hR, hnL, hn, hn1, hn2, hnw⟩ := cx
  subst hp
  intro H locs ls hl hP hS
  exact lv_ishl hx hb hd (k H locs ls hl hP hS)
theorem g_ishr {X : Cq} {cc : ByteArray} {own : String} {R0 : Room} {nL n : Nat} (cx : Cx X cc own R0 nL n) {pc pc2 : Nat} {lv : List (Nat × Value)} {st : List Value} {M : Mm} {x y : Int32} (hd : decode cc pc = .ok (.ishr, 1)) (hp : pc + 1 = pc2) (k : G X pc2 lv (.int (x >>> (y &&& 31)) :: st) M) : G X pc lv (.int y :: .int x :: st) M := by
  obtain ⟨p, l, e, R, s, m, args, below, meth, c, nL2, P, n2, A, cells, slots, Q⟩ := X
  obtain ⟨⟨hx, hb, hml, hown, hts⟩, hK, hA, hAw, hiP, hSg, hlk, hR, hnL, hn, hn1, hn2, hnw⟩ := cx
  subst hp
  intro H locs ls hl hP hS
  exact lv_ishr hx hb hd (k H locs ls hl hP hS)
theorem g_iushr {X : Cq} {cc : ByteArray} {own : String} {R0 : Room} {nL n : Nat} (cx : Cx X cc own R0 nL n) {pc pc2 : Nat} {lv : List (Nat × Value)} {st : List Value} {M : Mm} {x y : Int32} (hd : decode cc pc = .ok (.iushr, 1)) (hp : pc + 1 = pc2) (k : G X pc2 lv (.int (x.toUInt32 >>> (y.toUInt32 &&& Int32.toUInt32 31)).toInt32 :: st) M) : G X pc lv (.int y :: .int x :: st) M := by
  obtain ⟨p, l, e, R, s, m, args, below, meth, c, nL2, P, n2, A, cells, slots, Q⟩ := X
  obtain ⟨⟨hx, hb, hml, hown, hts⟩, hK, hA, hAw, hiP, hSg, hlk, hR, hnL, hn, hn1, hn2, hnw⟩ := cx
  subst hp
  intro H locs ls hl hP hS
  exact lv_iushr hx hb hd rfl (k H locs ls hl hP hS)
theorem g_i2l {X : Cq} {cc : ByteArray} {own : String} {R0 : Room} {nL n : Nat} (cx : Cx X cc own R0 nL n) {pc pc2 : Nat} {lv : List (Nat × Value)} {st : List Value} {M : Mm} {a : Int} (h0 : ir a) (hd : decode cc pc = .ok (.i2l, 1)) (hp : pc + 1 = pc2) (k : G X pc2 lv (.long (lI a) :: st) M) : G X pc lv (.int (iI a) :: st) M := by
  obtain ⟨p, l, e, R, s, m, args, below, meth, c, nL2, P, n2, A, cells, slots, Q⟩ := X
  obtain ⟨⟨hx, hb, hml, hown, hts⟩, hK, hA, hAw, hiP, hSg, hlk, hR, hnL, hn, hn1, hn2, hnw⟩ := cx
  subst hp
  intro H locs ls hl hP hS
  exact lv_i2l hx hb hd (iI_l h0) (k H locs ls hl hP hS)
theorem g_l2i {X : Cq} {cc : ByteArray} {own : String} {R0 : Room} {nL n : Nat} (cx : Cx X cc own R0 nL n) {pc pc2 : Nat} {lv : List (Nat × Value)} {st : List Value} {M : Mm} {a : Int} (hd : decode cc pc = .ok (.l2i, 1)) (hp : pc + 1 = pc2) (k : G X pc2 lv (.int (iI a) :: st) M) : G X pc lv (.long (lI a) :: st) M := by
  obtain ⟨p, l, e, R, s, m, args, below, meth, c, nL2, P, n2, A, cells, slots, Q⟩ := X
  obtain ⟨⟨hx, hb, hml, hown, hts⟩, hK, hA, hAw, hiP, hSg, hlk, hR, hnL, hn, hn1, hn2, hnw⟩ := cx
  subst hp
  intro H locs ls hl hP hS
  exact lv_l2i hx hb hd (lI_i a) (k H locs ls hl hP hS)
theorem g_i2b {X : Cq} {cc : ByteArray} {own : String} {R0 : Room} {nL n : Nat} (cx : Cx X cc own R0 nL n) {pc pc2 : Nat} {lv : List (Nat × Value)} {st : List Value} {M : Mm} {x : Int32} (hd : decode cc pc = .ok (.i2b, 1)) (hp : pc + 1 = pc2) (k : G X pc2 lv (.int x.toInt8.toInt32 :: st) M) : G X pc lv (.int x :: st) M := by
  obtain ⟨p, l, e, R, s, m, args, below, meth, c, nL2, P, n2, A, cells, slots, Q⟩ := X
  obtain ⟨⟨hx, hb, hml, hown, hts⟩, hK, hA, hAw, hiP, hSg, hlk, hR, hnL, hn, hn1, hn2, hnw⟩ := cx
  subst hp
  intro H locs ls hl hP hS
  exact lv_i2b hx hb hd rfl (k H locs ls hl hP hS)
theorem g_lcmp {X : Cq} {cc : ByteArray} {own : String} {R0 : Room} {nL n : Nat} (cx : Cx X cc own R0 nL n) {pc pc2 : Nat} {lv : List (Nat × Value)} {st : List Value} {M : Mm} {a b : Int} (h0 : lr a ∧ lr b) (hd : decode cc pc = .ok (.lcmp, 1)) (hp : pc + 1 = pc2) (k : G X pc2 lv (.int (iI (if b < a then 1 else if a = b then 0 else -1)) :: st) M) : G X pc lv (.long (lI b) :: .long (lI a) :: st) M := by
  obtain ⟨p, l, e, R, s, m, args, below, meth, c, nL2, P, n2, A, cells, slots, Q⟩ := X
  obtain ⟨⟨hx, hb, hml, hown, hts⟩, hK, hA, hAw, hiP, hSg, hlk, hR, hnL, hn, hn1, hn2, hnw⟩ := cx
  subst hp
  intro H locs ls hl hP hS
  have e : lg_cmp (lI a) (lI b) = iI (if b < a then 1 else if a = b then 0 else -1) := by
    unfold lg_cmp
    simp only [gt_iff_lt, lI_lt h0.2 h0.1, lI_eq h0.1 h0.2]
    by_cases h1 : b < a
    · rw [if_pos h1, if_pos h1]; rfl
    · by_cases h2 : a = b
      · rw [if_neg h1, if_pos h2, if_neg h1, if_pos h2]; rfl
      · rw [if_neg h1, if_neg h2, if_neg h1, if_neg h2]; rfl
  exact W.lcmp hx hb hd (by rw [e]; exact k H locs ls hl hP hS)
theorem g_dup {X : Cq} {cc : ByteArray} {own : String} {R0 : Room} {nL n : Nat} (cx : Cx X cc own R0 nL n) {pc pc2 : Nat} {lv : List (Nat × Value)} {st : List Value} {M : Mm} {v : Value} (hv : v.category = 1) (hd : decode cc pc = .ok (.dup, 1)) (hp : pc + 1 = pc2) (k : G X pc2 lv (v :: v :: st) M) : G X pc lv (v :: st) M := by
  obtain ⟨p, l, e, R, s, m, args, below, meth, c, nL2, P, n2, A, cells, slots, Q⟩ := X
  obtain ⟨⟨hx, hb, hml, hown, hts⟩, hK, hA, hAw, hiP, hSg, hlk, hR, hnL, hn, hn1, hn2, hnw⟩ := cx
  subst hp
  intro H locs ls hl hP hS
  exact lv_dup hx hb hd ((cz_cat P v).trans hv) (k H locs ls hl hP hS)
theorem g_pop {X : Cq} {cc : ByteArray} {own : String} {R0 : Room} {nL n : Nat} (cx : Cx X cc own R0 nL n) {pc pc2 : Nat} {lv : List (Nat × Value)} {st : List Value} {M : Mm} {v : Value} (hv : v.category = 1) (hd : decode cc pc = .ok (.pop, 1)) (hp : pc + 1 = pc2) (k : G X pc2 lv st M) : G X pc lv (v :: st) M := by
  obtain ⟨p, l, e, R, s, m, args, below, meth, c, nL2, P, n2, A, cells, slots, Q⟩ := X
  obtain ⟨⟨hx, hb, hml, hown, hts⟩, hK, hA, hAw, hiP, hSg, hlk, hR, hnL, hn, hn1, hn2, hnw⟩ := cx
  subst hp
  intro H locs ls hl hP hS
  exact lv_pop hx hb hd ((cz_cat P v).trans hv) (k H locs ls hl hP hS)
theorem g_dup2 {X : Cq} {cc : ByteArray} {own : String} {R0 : Room} {nL n : Nat} (cx : Cx X cc own R0 nL n) {pc pc2 : Nat} {lv : List (Nat × Value)} {st : List Value} {M : Mm} {v w : Value} (hv : v.category = 1) (hw : w.category = 1) (hd : decode cc pc = .ok (.dup2, 1)) (hp : pc + 1 = pc2) (k : G X pc2 lv (v :: w :: v :: w :: st) M) : G X pc lv (v :: w :: st) M := by
  obtain ⟨p, l, e, R, s, m, args, below, meth, c, nL2, P, n2, A, cells, slots, Q⟩ := X
  obtain ⟨⟨hx, hb, hml, hown, hts⟩, hK, hA, hAw, hiP, hSg, hlk, hR, hnL, hn, hn1, hn2, hnw⟩ := cx
  subst hp
  intro H locs ls hl hP hS
  exact lv_dup2_11 hx hb hd ((cz_cat P v).trans hv) ((cz_cat P w).trans hw) (k H locs ls hl hP hS)
theorem g_null {X : Cq} {cc : ByteArray} {own : String} {R0 : Room} {nL n : Nat} (cx : Cx X cc own R0 nL n) {pc pc2 : Nat} {lv : List (Nat × Value)} {st : List Value} {M : Mm}  (hd : decode cc pc = .ok (.aconst_null, 1)) (hp : pc + 1 = pc2) (k : G X pc2 lv (.null :: st) M) : G X pc lv st M := by
  obtain ⟨p, l, e, R, s, m, args, below, meth, c, nL2, P, n2, A, cells, slots, Q⟩ := X
  obtain ⟨⟨hx, hb, hml, hown, hts⟩, hK, hA, hAw, hiP, hSg, hlk, hR, hnL, hn, hn1, hn2, hnw⟩ := cx
  subst hp
  intro H locs ls hl hP hS
  exact lv_null hx hb hd (k H locs ls hl hP hS)
theorem g_rwi {X : Cq} {pc : Nat} {lv : List (Nat × Value)} {st : List Value} {M : Mm} {x y : Int32} (e : x = y) (k : G X pc lv (.int y :: st) M) : G X pc lv (.int x :: st) M := e ▸ k
theorem g_rwl {X : Cq} {pc : Nat} {lv : List (Nat × Value)} {st : List Value} {M : Mm} {x y : Int64} (e : x = y) (k : G X pc lv (.long y :: st) M) : G X pc lv (.long x :: st) M := e ▸ k
theorem g_nm {X : Cq} {pc : Nat} {lv : List (Nat × Value)} {st : List Value} {M : Mm} {a : Int} (k : ∀ z : Int, z = a → G X pc lv (.int (iI z) :: st) M) : G X pc lv (.int (iI a) :: st) M := k a rfl
theorem g_nml {X : Cq} {pc : Nat} {lv : List (Nat × Value)} {st : List Value} {M : Mm} {a : Int} (k : ∀ z : Int, z = a → G X pc lv (.long (lI z) :: st) M) : G X pc lv (.long (lI a) :: st) M := k a rfl
theorem g_if_eq {X : Cq} {cc : ByteArray} {own : String} {R0 : Room} {nL n : Nat} (cx : Cx X cc own R0 nL n) {pc pc2 : Nat} {lv : List (Nat × Value)} {st : List Value} {M : Mm} {a off : Int} {tgt : Nat} (h0 : ir a) (hd : decode cc pc = .ok (.ifCond .eq off, 3)) (ht : (pc : Int) + off = (tgt : Int)) (hp : pc + 3 = pc2) (kt : a = 0 → G X tgt lv st M) (kf : ¬ a = 0 → G X pc2 lv st M) : G X pc lv (.int (iI a) :: st) M := by
  obtain ⟨p, l, e, R, s, m, args, below, meth, c, nL2, P, n2, A, cells, slots, Q⟩ := X
  obtain ⟨⟨hx, hb, hml, hown, hts⟩, hK, hA, hAw, hiP, hSg, hlk, hR, hnL, hn, hn1, hn2, hnw⟩ := cx
  subst hp
  intro H locs ls hl hP hS
  exact lv_if_eq hx hb hd ht (fun q => kt ((iI_eq0 h0).mp q) H locs ls hl hP hS) (fun q => kf (fun z => q ((iI_eq0 h0).mpr z)) H locs ls hl hP hS)
theorem g_if_ne {X : Cq} {cc : ByteArray} {own : String} {R0 : Room} {nL n : Nat} (cx : Cx X cc own R0 nL n) {pc pc2 : Nat} {lv : List (Nat × Value)} {st : List Value} {M : Mm} {a off : Int} {tgt : Nat} (h0 : ir a) (hd : decode cc pc = .ok (.ifCond .ne off, 3)) (ht : (pc : Int) + off = (tgt : Int)) (hp : pc + 3 = pc2) (kt : ¬ a = 0 → G X tgt lv st M) (kf : a = 0 → G X pc2 lv st M) : G X pc lv (.int (iI a) :: st) M := by
  obtain ⟨p, l, e, R, s, m, args, below, meth, c, nL2, P, n2, A, cells, slots, Q⟩ := X
  obtain ⟨⟨hx, hb, hml, hown, hts⟩, hK, hA, hAw, hiP, hSg, hlk, hR, hnL, hn, hn1, hn2, hnw⟩ := cx
  subst hp
  intro H locs ls hl hP hS
  exact lv_if_ne hx hb hd ht (fun q => kt (fun z => q ((iI_eq0 h0).mpr z)) H locs ls hl hP hS) (fun q => kf ((iI_eq0 h0).mp q) H locs ls hl hP hS)
theorem g_if_lt {X : Cq} {cc : ByteArray} {own : String} {R0 : Room} {nL n : Nat} (cx : Cx X cc own R0 nL n) {pc pc2 : Nat} {lv : List (Nat × Value)} {st : List Value} {M : Mm} {a off : Int} {tgt : Nat} (h0 : ir a) (hd : decode cc pc = .ok (.ifCond .lt off, 3)) (ht : (pc : Int) + off = (tgt : Int)) (hp : pc + 3 = pc2) (kt : a < 0 → G X tgt lv st M) (kf : ¬ a < 0 → G X pc2 lv st M) : G X pc lv (.int (iI a) :: st) M := by
  obtain ⟨p, l, e, R, s, m, args, below, meth, c, nL2, P, n2, A, cells, slots, Q⟩ := X
  obtain ⟨⟨hx, hb, hml, hown, hts⟩, hK, hA, hAw, hiP, hSg, hlk, hR, hnL, hn, hn1, hn2, hnw⟩ := cx
  subst hp
  intro H locs ls hl hP hS
  exact lv_if_lt hx hb hd ht (fun q => kt ((iI_lt0 h0).mp q) H locs ls hl hP hS) (fun q => kf (fun z => q ((iI_lt0 h0).mpr z)) H locs ls hl hP hS)
theorem g_if_ge {X : Cq} {cc : ByteArray} {own : String} {R0 : Room} {nL n : Nat} (cx : Cx X cc own R0 nL n) {pc pc2 : Nat} {lv : List (Nat × Value)} {st : List Value} {M : Mm} {a off : Int} {tgt : Nat} (h0 : ir a) (hd : decode cc pc = .ok (.ifCond .ge off, 3)) (ht : (pc : Int) + off = (tgt : Int)) (hp : pc + 3 = pc2) (kt : 0 ≤ a → G X tgt lv st M) (kf : ¬ 0 ≤ a → G X pc2 lv st M) : G X pc lv (.int (iI a) :: st) M := by
  obtain ⟨p, l, e, R, s, m, args, below, meth, c, nL2, P, n2, A, cells, slots, Q⟩ := X
  obtain ⟨⟨hx, hb, hml, hown, hts⟩, hK, hA, hAw, hiP, hSg, hlk, hR, hnL, hn, hn1, hn2, hnw⟩ := cx
  subst hp
  intro H locs ls hl hP hS
  exact lv_if_ge hx hb hd ht (fun q => kt ((iI_ge0 h0).mp q) H locs ls hl hP hS) (fun q => kf (fun z => q ((iI_ge0 h0).mpr z)) H locs ls hl hP hS)
theorem g_if_gt {X : Cq} {cc : ByteArray} {own : String} {R0 : Room} {nL n : Nat} (cx : Cx X cc own R0 nL n) {pc pc2 : Nat} {lv : List (Nat × Value)} {st : List Value} {M : Mm} {a off : Int} {tgt : Nat} (h0 : ir a) (hd : decode cc pc = .ok (.ifCond .gt off, 3)) (ht : (pc : Int) + off = (tgt : Int)) (hp : pc + 3 = pc2) (kt : 0 < a → G X tgt lv st M) (kf : ¬ 0 < a → G X pc2 lv st M) : G X pc lv (.int (iI a) :: st) M := by
  obtain ⟨p, l, e, R, s, m, args, below, meth, c, nL2, P, n2, A, cells, slots, Q⟩ := X
  obtain ⟨⟨hx, hb, hml, hown, hts⟩, hK, hA, hAw, hiP, hSg, hlk, hR, hnL, hn, hn1, hn2, hnw⟩ := cx
  subst hp
  intro H locs ls hl hP hS
  exact lv_if_gt hx hb hd ht (fun q => kt ((iI_gt0 h0).mp q) H locs ls hl hP hS) (fun q => kf (fun z => q ((iI_gt0 h0).mpr z)) H locs ls hl hP hS)
theorem g_if_le {X : Cq} {cc : ByteArray} {own : String} {R0 : Room} {nL n : Nat} (cx : Cx X cc own R0 nL n) {pc pc2 : Nat} {lv : List (Nat × Value)} {st : List Value} {M : Mm} {a off : Int} {tgt : Nat} (h0 : ir a) (hd : decode cc pc = .ok (.ifCond .le off, 3)) (ht : (pc : Int) + off = (tgt : Int)) (hp : pc + 3 = pc2) (kt : a ≤ 0 → G X tgt lv st M) (kf : ¬ a ≤ 0 → G X pc2 lv st M) : G X pc lv (.int (iI a) :: st) M := by
  obtain ⟨p, l, e, R, s, m, args, below, meth, c, nL2, P, n2, A, cells, slots, Q⟩ := X
  obtain ⟨⟨hx, hb, hml, hown, hts⟩, hK, hA, hAw, hiP, hSg, hlk, hR, hnL, hn, hn1, hn2, hnw⟩ := cx
  subst hp
  intro H locs ls hl hP hS
  exact lv_if_le hx hb hd ht (fun q => kt ((iI_le0 h0).mp q) H locs ls hl hP hS) (fun q => kf (fun z => q ((iI_le0 h0).mpr z)) H locs ls hl hP hS)
def b2 (p : Prop) [Decidable p] : Int := if p then 1 else 0
theorem b2_0 {p : Prop} [Decidable p] : iI (b2 p) = 0 ↔ ¬ p := by
  unfold b2
  by_cases h : p
  · rw [if_pos h, iI_eq0 ⟨by decide, by decide⟩]; simp [h]
  · rw [if_neg h, iI_eq0 ⟨by decide, by decide⟩]; simp [h]
theorem g_ifb_eq {X : Cq} {cc : ByteArray} {own : String} {R0 : Room} {nL n : Nat} (cx : Cx X cc own R0 nL n) {pc pc2 : Nat} {lv : List (Nat × Value)} {st : List Value} {M : Mm} {φ : Prop} [Decidable φ] {off : Int} {tgt : Nat} (hd : decode cc pc = .ok (.ifCond .eq off, 3)) (ht : (pc : Int) + off = (tgt : Int)) (hp : pc + 3 = pc2) (kt : ¬ φ → G X tgt lv st M) (kf : φ → G X pc2 lv st M) : G X pc lv (.int (iI (b2 φ)) :: st) M := by
  obtain ⟨p, l, e, R, s, m, args, below, meth, c, nL2, P, n2, A, cells, slots, Q⟩ := X
  obtain ⟨⟨hx, hb, hml, hown, hts⟩, hK, hA, hAw, hiP, hSg, hlk, hR, hnL, hn, hn1, hn2, hnw⟩ := cx
  subst hp
  intro H locs ls hl hP hS
  exact lv_if_eq hx hb hd ht (fun q => kt (b2_0.mp q) H locs ls hl hP hS) (fun q => kf (Classical.not_not.mp fun z => q (b2_0.mpr z)) H locs ls hl hP hS)
theorem g_ifb_ne {X : Cq} {cc : ByteArray} {own : String} {R0 : Room} {nL n : Nat} (cx : Cx X cc own R0 nL n) {pc pc2 : Nat} {lv : List (Nat × Value)} {st : List Value} {M : Mm} {φ : Prop} [Decidable φ] {off : Int} {tgt : Nat} (hd : decode cc pc = .ok (.ifCond .ne off, 3)) (ht : (pc : Int) + off = (tgt : Int)) (hp : pc + 3 = pc2) (kt : φ → G X tgt lv st M) (kf : ¬ φ → G X pc2 lv st M) : G X pc lv (.int (iI (b2 φ)) :: st) M := by
  obtain ⟨p, l, e, R, s, m, args, below, meth, c, nL2, P, n2, A, cells, slots, Q⟩ := X
  obtain ⟨⟨hx, hb, hml, hown, hts⟩, hK, hA, hAw, hiP, hSg, hlk, hR, hnL, hn, hn1, hn2, hnw⟩ := cx
  subst hp
  intro H locs ls hl hP hS
  exact lv_if_ne hx hb hd ht (fun q => kt (Classical.not_not.mp fun z => q (b2_0.mpr z)) H locs ls hl hP hS) (fun q => kf (b2_0.mp q) H locs ls hl hP hS)
theorem g_icmp_eq {X : Cq} {cc : ByteArray} {own : String} {R0 : Room} {nL n : Nat} (cx : Cx X cc own R0 nL n) {pc pc2 : Nat} {lv : List (Nat × Value)} {st : List Value} {M : Mm} {a b off : Int} {tgt : Nat} (h0 : ir a ∧ ir b) (hd : decode cc pc = .ok (.if_icmp .eq off, 3)) (ht : (pc : Int) + off = (tgt : Int)) (hp : pc + 3 = pc2) (kt : a = b → G X tgt lv st M) (kf : ¬ a = b → G X pc2 lv st M) : G X pc lv (.int (iI b) :: .int (iI a) :: st) M := by
  obtain ⟨p, l, e, R, s, m, args, below, meth, c, nL2, P, n2, A, cells, slots, Q⟩ := X
  obtain ⟨⟨hx, hb, hml, hown, hts⟩, hK, hA, hAw, hiP, hSg, hlk, hR, hnL, hn, hn1, hn2, hnw⟩ := cx
  subst hp
  intro H locs ls hl hP hS
  exact lv_icmp_eq hx hb hd ht (fun q => kt ((iI_eq h0.1 h0.2).mp q) H locs ls hl hP hS) (fun q => kf (fun z => q ((iI_eq h0.1 h0.2).mpr z)) H locs ls hl hP hS)
theorem g_icmp_ne {X : Cq} {cc : ByteArray} {own : String} {R0 : Room} {nL n : Nat} (cx : Cx X cc own R0 nL n) {pc pc2 : Nat} {lv : List (Nat × Value)} {st : List Value} {M : Mm} {a b off : Int} {tgt : Nat} (h0 : ir a ∧ ir b) (hd : decode cc pc = .ok (.if_icmp .ne off, 3)) (ht : (pc : Int) + off = (tgt : Int)) (hp : pc + 3 = pc2) (kt : ¬ a = b → G X tgt lv st M) (kf : a = b → G X pc2 lv st M) : G X pc lv (.int (iI b) :: .int (iI a) :: st) M := by
  obtain ⟨p, l, e, R, s, m, args, below, meth, c, nL2, P, n2, A, cells, slots, Q⟩ := X
  obtain ⟨⟨hx, hb, hml, hown, hts⟩, hK, hA, hAw, hiP, hSg, hlk, hR, hnL, hn, hn1, hn2, hnw⟩ := cx
  subst hp
  intro H locs ls hl hP hS
  exact lv_icmp_ne hx hb hd ht (fun q => kt (fun z => q ((iI_eq h0.1 h0.2).mpr z)) H locs ls hl hP hS) (fun q => kf ((iI_eq h0.1 h0.2).mp q) H locs ls hl hP hS)
theorem g_icmp_lt {X : Cq} {cc : ByteArray} {own : String} {R0 : Room} {nL n : Nat} (cx : Cx X cc own R0 nL n) {pc pc2 : Nat} {lv : List (Nat × Value)} {st : List Value} {M : Mm} {a b off : Int} {tgt : Nat} (h0 : ir a ∧ ir b) (hd : decode cc pc = .ok (.if_icmp .lt off, 3)) (ht : (pc : Int) + off = (tgt : Int)) (hp : pc + 3 = pc2) (kt : a < b → G X tgt lv st M) (kf : ¬ a < b → G X pc2 lv st M) : G X pc lv (.int (iI b) :: .int (iI a) :: st) M := by
  obtain ⟨p, l, e, R, s, m, args, below, meth, c, nL2, P, n2, A, cells, slots, Q⟩ := X
  obtain ⟨⟨hx, hb, hml, hown, hts⟩, hK, hA, hAw, hiP, hSg, hlk, hR, hnL, hn, hn1, hn2, hnw⟩ := cx
  subst hp
  intro H locs ls hl hP hS
  exact lv_icmp_lt hx hb hd ht (fun q => kt ((iI_lt h0.1 h0.2).mp q) H locs ls hl hP hS) (fun q => kf (fun z => q ((iI_lt h0.1 h0.2).mpr z)) H locs ls hl hP hS)
theorem g_icmp_ge {X : Cq} {cc : ByteArray} {own : String} {R0 : Room} {nL n : Nat} (cx : Cx X cc own R0 nL n) {pc pc2 : Nat} {lv : List (Nat × Value)} {st : List Value} {M : Mm} {a b off : Int} {tgt : Nat} (h0 : ir a ∧ ir b) (hd : decode cc pc = .ok (.if_icmp .ge off, 3)) (ht : (pc : Int) + off = (tgt : Int)) (hp : pc + 3 = pc2) (kt : b ≤ a → G X tgt lv st M) (kf : ¬ b ≤ a → G X pc2 lv st M) : G X pc lv (.int (iI b) :: .int (iI a) :: st) M := by
  obtain ⟨p, l, e, R, s, m, args, below, meth, c, nL2, P, n2, A, cells, slots, Q⟩ := X
  obtain ⟨⟨hx, hb, hml, hown, hts⟩, hK, hA, hAw, hiP, hSg, hlk, hR, hnL, hn, hn1, hn2, hnw⟩ := cx
  subst hp
  intro H locs ls hl hP hS
  exact lv_icmp_ge hx hb hd ht (fun q => kt ((iI_le h0.2 h0.1).mp q) H locs ls hl hP hS) (fun q => kf (fun z => q ((iI_le h0.2 h0.1).mpr z)) H locs ls hl hP hS)
theorem g_icmp_gt {X : Cq} {cc : ByteArray} {own : String} {R0 : Room} {nL n : Nat} (cx : Cx X cc own R0 nL n) {pc pc2 : Nat} {lv : List (Nat × Value)} {st : List Value} {M : Mm} {a b off : Int} {tgt : Nat} (h0 : ir a ∧ ir b) (hd : decode cc pc = .ok (.if_icmp .gt off, 3)) (ht : (pc : Int) + off = (tgt : Int)) (hp : pc + 3 = pc2) (kt : b < a → G X tgt lv st M) (kf : ¬ b < a → G X pc2 lv st M) : G X pc lv (.int (iI b) :: .int (iI a) :: st) M := by
  obtain ⟨p, l, e, R, s, m, args, below, meth, c, nL2, P, n2, A, cells, slots, Q⟩ := X
  obtain ⟨⟨hx, hb, hml, hown, hts⟩, hK, hA, hAw, hiP, hSg, hlk, hR, hnL, hn, hn1, hn2, hnw⟩ := cx
  subst hp
  intro H locs ls hl hP hS
  exact lv_icmp_gt hx hb hd ht (fun q => kt ((iI_lt h0.2 h0.1).mp q) H locs ls hl hP hS) (fun q => kf (fun z => q ((iI_lt h0.2 h0.1).mpr z)) H locs ls hl hP hS)
theorem g_icmp_le {X : Cq} {cc : ByteArray} {own : String} {R0 : Room} {nL n : Nat} (cx : Cx X cc own R0 nL n) {pc pc2 : Nat} {lv : List (Nat × Value)} {st : List Value} {M : Mm} {a b off : Int} {tgt : Nat} (h0 : ir a ∧ ir b) (hd : decode cc pc = .ok (.if_icmp .le off, 3)) (ht : (pc : Int) + off = (tgt : Int)) (hp : pc + 3 = pc2) (kt : a ≤ b → G X tgt lv st M) (kf : ¬ a ≤ b → G X pc2 lv st M) : G X pc lv (.int (iI b) :: .int (iI a) :: st) M := by
  obtain ⟨p, l, e, R, s, m, args, below, meth, c, nL2, P, n2, A, cells, slots, Q⟩ := X
  obtain ⟨⟨hx, hb, hml, hown, hts⟩, hK, hA, hAw, hiP, hSg, hlk, hR, hnL, hn, hn1, hn2, hnw⟩ := cx
  subst hp
  intro H locs ls hl hP hS
  exact lv_icmp_le hx hb hd ht (fun q => kt ((iI_le h0.1 h0.2).mp q) H locs ls hl hP hS) (fun q => kf (fun z => q ((iI_le h0.1 h0.2).mpr z)) H locs ls hl hP hS)
theorem g_goto {X : Cq} {cc : ByteArray} {own : String} {R0 : Room} {nL n : Nat} (cx : Cx X cc own R0 nL n) {pc : Nat} {lv : List (Nat × Value)} {st : List Value} {M : Mm} {off : Int} {tgt : Nat} (hd : decode cc pc = .ok (.goto off, 3)) (ht : (pc : Int) + off = (tgt : Int)) (k : G X tgt lv st M) : G X pc lv st M := by
  obtain ⟨p, l, e, R, s, m, args, below, meth, c, nL2, P, n2, A, cells, slots, Q⟩ := X
  obtain ⟨⟨hx, hb, hml, hown, hts⟩, hK, hA, hAw, hiP, hSg, hlk, hR, hnL, hn, hn1, hn2, hnw⟩ := cx
  intro H locs ls hl hP hS
  exact lv_goto hx hb hd ht (k H locs ls hl hP hS)
theorem g_ifnull {X : Cq} {cc : ByteArray} {own : String} {R0 : Room} {nL n : Nat} (cx : Cx X cc own R0 nL n) {pc pc2 : Nat} {lv : List (Nat × Value)} {st : List Value} {M : Mm} {x : Nat} {off : Int} (hd : decode cc pc = .ok (.ifnull off, 3)) (hp : pc + 3 = pc2) (k : G X pc2 lv st M) : G X pc lv (.ref x :: st) M := by
  obtain ⟨p, l, e, R, s, m, args, below, meth, c, nL2, P, n2, A, cells, slots, Q⟩ := X
  obtain ⟨⟨hx, hb, hml, hown, hts⟩, hK, hA, hAw, hiP, hSg, hlk, hR, hnL, hn, hn1, hn2, hnw⟩ := cx
  subst hp
  intro H locs ls hl hP hS
  exact lv_ifnull hx hb hd (k H locs ls hl hP hS)
theorem g_ifnullN {X : Cq} {cc : ByteArray} {own : String} {R0 : Room} {nL n : Nat} (cx : Cx X cc own R0 nL n) {pc : Nat} {lv : List (Nat × Value)} {st : List Value} {M : Mm} {off : Int} {tgt : Nat} (hd : decode cc pc = .ok (.ifnull off, 3)) (ht : (pc : Int) + off = (tgt : Int)) (k : G X tgt lv st M) : G X pc lv (.null :: st) M := by
  obtain ⟨p, l, e, R, s, m, args, below, meth, c, nL2, P, n2, A, cells, slots, Q⟩ := X
  obtain ⟨⟨hx, hb, hml, hown, hts⟩, hK, hA, hAw, hiP, hSg, hlk, hR, hnL, hn, hn1, hn2, hnw⟩ := cx
  intro H locs ls hl hP hS
  exact lv_ifnullN hx hb hd ht (k H locs ls hl hP hS)
theorem g_ifnonnull {X : Cq} {cc : ByteArray} {own : String} {R0 : Room} {nL n : Nat} (cx : Cx X cc own R0 nL n) {pc : Nat} {lv : List (Nat × Value)} {st : List Value} {M : Mm} {x : Nat} {off : Int} {tgt : Nat} (hd : decode cc pc = .ok (.ifnonnull off, 3)) (ht : (pc : Int) + off = (tgt : Int)) (k : G X tgt lv st M) : G X pc lv (.ref x :: st) M := by
  obtain ⟨p, l, e, R, s, m, args, below, meth, c, nL2, P, n2, A, cells, slots, Q⟩ := X
  obtain ⟨⟨hx, hb, hml, hown, hts⟩, hK, hA, hAw, hiP, hSg, hlk, hR, hnL, hn, hn1, hn2, hnw⟩ := cx
  intro H locs ls hl hP hS
  exact lv_ifnonnull hx hb hd ht (k H locs ls hl hP hS)
theorem g_ifnonnullN {X : Cq} {cc : ByteArray} {own : String} {R0 : Room} {nL n : Nat} (cx : Cx X cc own R0 nL n) {pc pc2 : Nat} {lv : List (Nat × Value)} {st : List Value} {M : Mm} {off : Int} (hd : decode cc pc = .ok (.ifnonnull off, 3)) (hp : pc + 3 = pc2) (k : G X pc2 lv st M) : G X pc lv (.null :: st) M := by
  obtain ⟨p, l, e, R, s, m, args, below, meth, c, nL2, P, n2, A, cells, slots, Q⟩ := X
  obtain ⟨⟨hx, hb, hml, hown, hts⟩, hK, hA, hAw, hiP, hSg, hlk, hR, hnL, hn, hn1, hn2, hnw⟩ := cx
  subst hp
  intro H locs ls hl hP hS
  exact lv_ifnonnullN hx hb hd (k H locs ls hl hP hS)
theorem g_swOut {X : Cq} {cc : ByteArray} {own : String} {R0 : Room} {nL n : Nat} (cx : Cx X cc own R0 nL n) {pc : Nat} {lv : List (Nat × Value)} {st : List Value} {M : Mm} {a dflt lo hi : Int} {offs : Array Int} {len tgt : Nat} (h0 : ir a) (hd : decode cc pc = .ok (.tableswitch dflt lo hi offs, len)) (h : a < lo ∨ hi < a) (ht : (pc : Int) + dflt = (tgt : Int)) (k : G X tgt lv st M) : G X pc lv (.int (iI a) :: st) M := by
  obtain ⟨p, l, e, R, s, m, args, below, meth, c, nL2, P, n2, A, cells, slots, Q⟩ := X
  obtain ⟨⟨hx, hb, hml, hown, hts⟩, hK, hA, hAw, hiP, hSg, hlk, hR, hnL, hn, hn1, hn2, hnw⟩ := cx
  intro H locs ls hl hP hS
  exact lv_tableOut hx hb hd (by rw [iI_toInt h0]; exact h) ht (k H locs ls hl hP hS)
theorem g_swIn {X : Cq} {cc : ByteArray} {own : String} {R0 : Room} {nL n : Nat} (cx : Cx X cc own R0 nL n) {pc : Nat} {lv : List (Nat × Value)} {st : List Value} {M : Mm} {a dflt lo hi off : Int} {offs : Array Int} {len tgt : Nat} (h0 : ir a) (hd : decode cc pc = .ok (.tableswitch dflt lo hi offs, len)) (h1 : ¬ a < lo) (h2 : ¬ hi < a) (ho : offs[(a - lo).toNat]? = some off) (ht : (pc : Int) + off = (tgt : Int)) (k : G X tgt lv st M) : G X pc lv (.int (iI a) :: st) M := by
  obtain ⟨p, l, e, R, s, m, args, below, meth, c, nL2, P, n2, A, cells, slots, Q⟩ := X
  obtain ⟨⟨hx, hb, hml, hown, hts⟩, hK, hA, hAw, hiP, hSg, hlk, hR, hnL, hn, hn1, hn2, hnw⟩ := cx
  intro H locs ls hl hP hS
  exact lv_tableIn hx hb hd (by rw [iI_toInt h0]; exact h1) (by rw [iI_toInt h0]; exact h2) (by rw [iI_toInt h0]; exact ho) ht (k H locs ls hl hP hS)
theorem g_lookup {X : Cq} {cc : ByteArray} {own : String} {R0 : Room} {nL n : Nat} (cx : Cx X cc own R0 nL n) {pc : Nat} {lv : List (Nat × Value)} {st : List Value} {M : Mm} {a dflt off : Int} {ps : Array (Int × Int)} {len tgt : Nat} (h0 : ir a) (hd : decode cc pc = .ok (.lookupswitch dflt ps, len)) (hps : (ps.toList.zip (ps.toList.drop 1)).all (fun (a, next) => a.1 < next.1) = true) (ho : Op.lookupswitch.offset ps.toList dflt a = off) (ht : (pc : Int) + off = (tgt : Int)) (k : G X tgt lv st M) : G X pc lv (.int (iI a) :: st) M := by
  obtain ⟨p, l, e, R, s, m, args, below, meth, c, nL2, P, n2, A, cells, slots, Q⟩ := X
  obtain ⟨⟨hx, hb, hml, hown, hts⟩, hK, hA, hAw, hiP, hSg, hlk, hR, hnL, hn, hn1, hn2, hnw⟩ := cx
  intro H locs ls hl hP hS
  exact lv_lookup hx hb hd hps (by rw [iI_toInt h0]; exact ho) ht (k H locs ls hl hP hS)
theorem g_get {X : Cq} {cc : ByteArray} {own : String} {R0 : Room} {nL n : Nat} (cx : Cx X cc own R0 nL n) {pc pc2 : Nat} {lv : List (Nat × Value)} {st : List Value} {M : Mm} {k0 ci j idx : Nat} {fs : List (Nat × Nat)} {cd : Nat × Nat} {C : String} {T : u_T} {N : Nat} (hc : vwCl[ci]? = some (C, T, N)) (hin : ∀ w ∈ u_ws C T N, w ∈ gw) (hs : shp n k0 = .inr (ci, fs)) (hk : k0 < n) (hj : fs[j]? = some cd) (hjN : j < N) {ref : String} (hlink : Cond.fieldLink own idx ref (T j).2.1 (T j).2.2.1 ∈ gw) (href : (T j).1 = ref) {v : Value} (hv : aval M k0 j cd = v) (hd : decode cc pc = .ok (.getfield idx, 3)) (hp : pc + 3 = pc2) (k : G X pc2 lv (v :: st) M) : G X pc lv (.ref k0 :: st) M := by
  obtain ⟨p, l, e, R, s, m, args, below, meth, c, nL2, P, n2, A, cells, slots, Q⟩ := X
  obtain ⟨⟨hx, hb, hml, hown, hts⟩, hK, hA, hAw, hiP, hSg, hlk, hR, hnL, hn, hn1, hn2, hnw⟩ := cx
  subst hp
  intro H locs ls hl hP hS
  exact va_get hx hb hts hin hown hK hP k0 (by rw [wld_get (hn ▸ hk)]; unfold wc; rw [hn, hs]; rfl) hc j hjN (hts _ hlink) (fun x h => href ▸ h) (v := cz P v) (by rw [fvs_get, hj]; simp [hv]) hd (k H locs ls hl hP hS)
theorem g_puti {X : Cq} {cc : ByteArray} {own : String} {R0 : Room} {nL n : Nat} (cx : Cx X cc own R0 nL n) {pc pc2 : Nat} {lv : List (Nat × Value)} {st : List Value} {M : Mm} {k0 ci j idx : Nat} {fs : List (Nat × Nat)} {x0 : Nat} {C : String} {T : u_T} {N : Nat} (hc : vwCl[ci]? = some (C, T, N)) (hin : ∀ w ∈ u_ws C T N, w ∈ gw) (hs : shp n k0 = .inr (ci, fs)) (hk : k0 < n) (hj : fs[j]? = some (0, x0)) (hjN : j < N) {ref : String} (hlink : Cond.fieldLink own idx ref (T j).2.1 (T j).2.2.1 ∈ gw) (href : (T j).1 = ref) {ty0 : Nat → FieldType} (hty : ∀ k, k < N → parseFieldDescriptor (T k).2.2.1 = some (ty0 k)) (hnm : ∀ a, a < N → ∀ b, b < N → a ≠ b → (T a).2.1 ≠ (T b).2.1) (hfin : (T j).2.2.2 = false) {z : Int} (ht0 : ty0 j = .int) (hd : decode cc pc = .ok (.putfield idx, 3)) (hp : pc + 3 = pc2) (k : G X pc2 lv st (stM M k0 j z)) : G X pc lv (.int (iI z) :: .ref k0 :: st) M := by
  obtain ⟨p, l, e, R, s, m, args, below, meth, c, nL2, P, n2, A, cells, slots, Q⟩ := X
  obtain ⟨⟨hx, hb, hml, hown, hts⟩, hK, hA, hAw, hiP, hSg, hlk, hR, hnL, hn, hn1, hn2, hnw⟩ := cx
  subst hp
  intro H locs ls hl hP hS
  refine va_put hx hb hts hin ty0 hty hnm hown hK hP (wld_D hiP hAw M) hS k0 (by rw [wld_get (hn ▸ hk)]; unfold wc; rw [hn, hs]; rfl) hc j hjN (hts _ hlink) (fun x h => href ▸ h) hfin (ty := .int) (v := .int (iI z)) (by rw [hty j hjN, ht0]) rfl rfl (by rw [fvs_len]; exact (List.getElem?_eq_some_iff.mp hj).1) hd (fun H1 locs1 hP1 hD1 hS1 => k H1 locs1 ls hl ?_ hS1)
  rw [wld_set (M2 := stM M k0 j z) (hn ▸ hk) (by unfold wc; rw [hn, hs]; exact congrArg (fun q => Sum.inr (ci, q)) (fvs_set (by show Value.int (iI (stM M k0 j z k0 j)) = _; rw [stM_at]) fs 0 j hj (Nat.zero_add j))) (fun i hi => wc_off (stM_off hi))] at hP1
  exact hP1
theorem g_putl {X : Cq} {cc : ByteArray} {own : String} {R0 : Room} {nL n : Nat} (cx : Cx X cc own R0 nL n) {pc pc2 : Nat} {lv : List (Nat × Value)} {st : List Value} {M : Mm} {k0 ci j idx : Nat} {fs : List (Nat × Nat)} {x0 : Nat} {C : String} {T : u_T} {N : Nat} (hc : vwCl[ci]? = some (C, T, N)) (hin : ∀ w ∈ u_ws C T N, w ∈ gw) (hs : shp n k0 = .inr (ci, fs)) (hk : k0 < n) (hj : fs[j]? = some (1, x0)) (hjN : j < N) {ref : String} (hlink : Cond.fieldLink own idx ref (T j).2.1 (T j).2.2.1 ∈ gw) (href : (T j).1 = ref) {ty0 : Nat → FieldType} (hty : ∀ k, k < N → parseFieldDescriptor (T k).2.2.1 = some (ty0 k)) (hnm : ∀ a, a < N → ∀ b, b < N → a ≠ b → (T a).2.1 ≠ (T b).2.1) (hfin : (T j).2.2.2 = false) {z : Int} (ht0 : ty0 j = .long) (hd : decode cc pc = .ok (.putfield idx, 3)) (hp : pc + 3 = pc2) (k : G X pc2 lv st (stM M k0 j z)) : G X pc lv (.long (lI z) :: .ref k0 :: st) M := by
  obtain ⟨p, l, e, R, s, m, args, below, meth, c, nL2, P, n2, A, cells, slots, Q⟩ := X
  obtain ⟨⟨hx, hb, hml, hown, hts⟩, hK, hA, hAw, hiP, hSg, hlk, hR, hnL, hn, hn1, hn2, hnw⟩ := cx
  subst hp
  intro H locs ls hl hP hS
  refine va_put hx hb hts hin ty0 hty hnm hown hK hP (wld_D hiP hAw M) hS k0 (by rw [wld_get (hn ▸ hk)]; unfold wc; rw [hn, hs]; rfl) hc j hjN (hts _ hlink) (fun x h => href ▸ h) hfin (ty := .long) (v := .long (lI z)) (by rw [hty j hjN, ht0]) rfl rfl (by rw [fvs_len]; exact (List.getElem?_eq_some_iff.mp hj).1) hd (fun H1 locs1 hP1 hD1 hS1 => k H1 locs1 ls hl ?_ hS1)
  rw [wld_set (M2 := stM M k0 j z) (hn ▸ hk) (by unfold wc; rw [hn, hs]; exact congrArg (fun q => Sum.inr (ci, q)) (fvs_set (by show Value.long (lI (stM M k0 j z k0 j)) = _; rw [stM_at]) fs 0 j hj (Nat.zero_add j))) (fun i hi => wc_off (stM_off hi))] at hP1
  exact hP1
theorem g_getN {X : Cq} {cc : ByteArray} {own : String} {R0 : Room} {nL n : Nat} (cx : Cx X cc own R0 nL n) {pc pc2 : Nat} {lv : List (Nat × Value)} {st : List Value} {M : Mm} {k0 ci j idx : Nat} {fs : List (Nat × Nat)} {cd : Nat × Nat} {C : String} {T : u_T} {N : Nat} (hc : vwCl[ci]? = some (C, T, N)) (hin : ∀ w ∈ u_ws C T N, w ∈ gw) (hs : shp n k0 = .inr (ci, fs)) (hk : k0 < n) (hj : fs[j]? = some cd) (hjN : j < N) {ref host : String} (hlink : Cond.fieldLinkNest own idx ref (T j).2.1 (T j).2.2.1 host ∈ nw) (href : (T j).1 = ref) {v : Value} (hv : aval M k0 j cd = v) (hd : decode cc pc = .ok (.getfield idx, 3)) (hp : pc + 3 = pc2) (k : G X pc2 lv (v :: st) M) : G X pc lv (.ref k0 :: st) M := by
  obtain ⟨p, l, e, R, s, m, args, below, meth, c, nL2, P, n2, A, cells, slots, Q⟩ := X
  obtain ⟨⟨hx, hb, hml, hown, hts⟩, hK, hA, hAw, hiP, hSg, hlk, hR, hnL, hn, hn1, hn2, hnw⟩ := cx
  subst hp
  intro H locs ls hl hP hS
  exact va_getN hx hb hts hin hown hK hP k0 (by rw [wld_get (hn ▸ hk)]; unfold wc; rw [hn, hs]; rfl) hc j hjN (hnw _ hlink) (fun x h => href ▸ h) (v := cz P v) (by rw [fvs_get, hj]; simp [hv]) hd (k H locs ls hl hP hS)
theorem g_putiN {X : Cq} {cc : ByteArray} {own : String} {R0 : Room} {nL n : Nat} (cx : Cx X cc own R0 nL n) {pc pc2 : Nat} {lv : List (Nat × Value)} {st : List Value} {M : Mm} {k0 ci j idx : Nat} {fs : List (Nat × Nat)} {x0 : Nat} {C : String} {T : u_T} {N : Nat} (hc : vwCl[ci]? = some (C, T, N)) (hin : ∀ w ∈ u_ws C T N, w ∈ gw) (hs : shp n k0 = .inr (ci, fs)) (hk : k0 < n) (hj : fs[j]? = some (0, x0)) (hjN : j < N) {ref host : String} (hlink : Cond.fieldLinkNest own idx ref (T j).2.1 (T j).2.2.1 host ∈ nw) (href : (T j).1 = ref) {ty0 : Nat → FieldType} (hty : ∀ k, k < N → parseFieldDescriptor (T k).2.2.1 = some (ty0 k)) (hnm : ∀ a, a < N → ∀ b, b < N → a ≠ b → (T a).2.1 ≠ (T b).2.1) (hfin : (T j).2.2.2 = false) {z : Int} (ht0 : ty0 j = .int) (hd : decode cc pc = .ok (.putfield idx, 3)) (hp : pc + 3 = pc2) (k : G X pc2 lv st (stM M k0 j z)) : G X pc lv (.int (iI z) :: .ref k0 :: st) M := by
  obtain ⟨p, l, e, R, s, m, args, below, meth, c, nL2, P, n2, A, cells, slots, Q⟩ := X
  obtain ⟨⟨hx, hb, hml, hown, hts⟩, hK, hA, hAw, hiP, hSg, hlk, hR, hnL, hn, hn1, hn2, hnw⟩ := cx
  subst hp
  intro H locs ls hl hP hS
  refine va_putN hx hb hts hin ty0 hty hnm hown hK hP (wld_D hiP hAw M) hS k0 (by rw [wld_get (hn ▸ hk)]; unfold wc; rw [hn, hs]; rfl) hc j hjN (hnw _ hlink) (fun x h => href ▸ h) hfin (ty := .int) (v := .int (iI z)) (by rw [hty j hjN, ht0]) rfl rfl (by rw [fvs_len]; exact (List.getElem?_eq_some_iff.mp hj).1) hd (fun H1 locs1 hP1 hD1 hS1 => k H1 locs1 ls hl ?_ hS1)
  rw [wld_set (M2 := stM M k0 j z) (hn ▸ hk) (by unfold wc; rw [hn, hs]; exact congrArg (fun q => Sum.inr (ci, q)) (fvs_set (by show Value.int (iI (stM M k0 j z k0 j)) = _; rw [stM_at]) fs 0 j hj (Nat.zero_add j))) (fun i hi => wc_off (stM_off hi))] at hP1
  exact hP1
theorem g_putlN {X : Cq} {cc : ByteArray} {own : String} {R0 : Room} {nL n : Nat} (cx : Cx X cc own R0 nL n) {pc pc2 : Nat} {lv : List (Nat × Value)} {st : List Value} {M : Mm} {k0 ci j idx : Nat} {fs : List (Nat × Nat)} {x0 : Nat} {C : String} {T : u_T} {N : Nat} (hc : vwCl[ci]? = some (C, T, N)) (hin : ∀ w ∈ u_ws C T N, w ∈ gw) (hs : shp n k0 = .inr (ci, fs)) (hk : k0 < n) (hj : fs[j]? = some (1, x0)) (hjN : j < N) {ref host : String} (hlink : Cond.fieldLinkNest own idx ref (T j).2.1 (T j).2.2.1 host ∈ nw) (href : (T j).1 = ref) {ty0 : Nat → FieldType} (hty : ∀ k, k < N → parseFieldDescriptor (T k).2.2.1 = some (ty0 k)) (hnm : ∀ a, a < N → ∀ b, b < N → a ≠ b → (T a).2.1 ≠ (T b).2.1) (hfin : (T j).2.2.2 = false) {z : Int} (ht0 : ty0 j = .long) (hd : decode cc pc = .ok (.putfield idx, 3)) (hp : pc + 3 = pc2) (k : G X pc2 lv st (stM M k0 j z)) : G X pc lv (.long (lI z) :: .ref k0 :: st) M := by
  obtain ⟨p, l, e, R, s, m, args, below, meth, c, nL2, P, n2, A, cells, slots, Q⟩ := X
  obtain ⟨⟨hx, hb, hml, hown, hts⟩, hK, hA, hAw, hiP, hSg, hlk, hR, hnL, hn, hn1, hn2, hnw⟩ := cx
  subst hp
  intro H locs ls hl hP hS
  refine va_putN hx hb hts hin ty0 hty hnm hown hK hP (wld_D hiP hAw M) hS k0 (by rw [wld_get (hn ▸ hk)]; unfold wc; rw [hn, hs]; rfl) hc j hjN (hnw _ hlink) (fun x h => href ▸ h) hfin (ty := .long) (v := .long (lI z)) (by rw [hty j hjN, ht0]) rfl rfl (by rw [fvs_len]; exact (List.getElem?_eq_some_iff.mp hj).1) hd (fun H1 locs1 hP1 hD1 hS1 => k H1 locs1 ls hl ?_ hS1)
  rw [wld_set (M2 := stM M k0 j z) (hn ▸ hk) (by unfold wc; rw [hn, hs]; exact congrArg (fun q => Sum.inr (ci, q)) (fvs_set (by show Value.long (lI (stM M k0 j z k0 j)) = _; rw [stM_at]) fs 0 j hj (Nat.zero_add j))) (fun i hi => wc_off (stM_off hi))] at hP1
  exact hP1
