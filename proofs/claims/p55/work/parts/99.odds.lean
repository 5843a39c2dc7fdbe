theorem em_le {b r : Int} (hb : 0 ≤ b) (hr : 0 < r) (h : r ≤ b) : b % r ≤ b - r := by
  obtain ⟨x, rfl⟩ := Int.eq_ofNat_of_zero_le hb
  obtain ⟨y, rfl⟩ := Int.eq_ofNat_of_zero_le (Int.le_of_lt hr)
  have e : (x : Int) % (y : Int) = ((x % y : Nat) : Int) := rfl
  have h1 : x % y = (x - y) % y := Nat.mod_eq_sub_mod (by omega)
  have h2 : (x - y) % y ≤ x - y := Nat.mod_le _ _
  rw [e, h1]
  omega
theorem gdF_0 {a : Int} : ∀ {k : Nat}, 1 ≤ k → gdF k a 0 = a
  | 0, h => absurd h (by decide)
  | k + 1, _ => by rw [gdF, if_pos rfl]

/-! odds -/
theorem smZ_split (f : Nat → Int) (a : Nat) : ∀ b : Nat, smZ f (a + b) = smZ f a + smZ (fun j => f (a + j)) b
  | 0 => by rw [Nat.add_zero]; show smZ f a = smZ f a + 0; omega
  | b + 1 => by
    rw [← Nat.add_assoc, smZ, smZ, smZ_split f a b]
    omega
theorem smZ_mul (x : Int) (f : Nat → Int) : ∀ k : Nat, smZ (fun j => x * f j) k = x * smZ f k
  | 0 => (Int.mul_zero x).symm
  | k + 1 => by rw [smZ, smZ, smZ_mul x f k, Int.mul_add]
def WY (V c : Nat → Int) (s : Nat) : Nat → Int
  | 0 => 1
  | k + 1 => if loB V k = true then WY V c s k * (if s.testBit k then c k else 12 - c k) else WY V c s k
def WA (V : Nat → Int) : Nat → Int
  | 0 => 1
  | k + 1 => if loB V k = true then WA V k * 12 else WA V k
def Gf (V : Nat → Int) (x : Nat) : Int := if ENV V (x ||| muN V) = -9 then 0 else 1
/-- in how many ways (by CHANCES) it can be met, with t already called -/
def PB (V c : Nat → Int) : Nat → Nat → Int
  | 0, t => Gf V t
  | k + 1, t => if loB V k = true then c k * PB V c k (2 ^ k ||| t) + (12 - c k) * PB V c k t else PB V c k t
theorem Gf_b (V : Nat → Int) (x : Nat) : 0 ≤ Gf V x ∧ Gf V x ≤ 1 := by unfold Gf; split <;> omega
theorem WA_b (V : Nat → Int) : ∀ k : Nat, 1 ≤ WA V k ∧ WA V k ≤ ((12 ^ k : Nat) : Int)
  | 0 => ⟨Int.le_refl _, by show (1 : Int) ≤ ((12 ^ 0 : Nat) : Int); decide⟩
  | k + 1 => by
    have ih := WA_b V k
    rw [WA, Nat.pow_succ]
    split <;> omega
theorem PB_b {V c : Nat → Int} (hc : ∀ j, 0 ≤ c j ∧ c j ≤ 12) : ∀ (k t : Nat), 0 ≤ PB V c k t ∧ PB V c k t ≤ WA V k
  | 0, t => Gf_b V t
  | k + 1, t => by
    have i1 := PB_b (V := V) hc k t
    have i2 := PB_b (V := V) hc k (2 ^ k ||| t)
    have hk := hc k
    rw [PB, WA]
    split
    · have a1 : 0 ≤ c k * PB V c k (2 ^ k ||| t) := Int.mul_nonneg hk.1 i2.1
      have a2 : 0 ≤ (12 - c k) * PB V c k t := Int.mul_nonneg (by omega) i1.1
      have a3 : c k * PB V c k (2 ^ k ||| t) ≤ c k * WA V k := Int.mul_le_mul_of_nonneg_left i2.2 hk.1
      have a4 : (12 - c k) * PB V c k t ≤ (12 - c k) * WA V k := Int.mul_le_mul_of_nonneg_left i1.2 (by omega)
      have a5 : (12 - c k) * WA V k = 12 * WA V k - c k * WA V k := Int.sub_mul ..
      omega
    · exact i1
theorem Gf_mo {V : Nat → Int} (hg : GV V) {x y : Nat} (hx : x < 2 ^ nN V) (hy : y < 2 ^ nN V) : Gf V (y ||| x) ≤ Gf V x := by
  unfold Gf
  by_cases h1 : ENV V ((y ||| x) ||| muN V) = -9
  · rw [if_pos h1]
    split <;> decide
  · rw [if_neg h1]
    have hs : (y ||| x) ||| muN V < 2 ^ nN V := Nat.or_lt_two_pow (Nat.or_lt_two_pow hy hx) (muN_lt V)
    have := (ENV_part hg (t := x ||| muN V) hs h1 (ndN_0.mpr (fun k hk => by
      rw [Nat.testBit_or] at hk ⊢
      rw [Nat.testBit_or]
      cases z : x.testBit k <;> cases u : (muN V).testBit k <;> simp_all))).1
    rw [if_neg this]
    decide
theorem PB_mo {V c : Nat → Int} (hg : GV V) (hc : ∀ j, 0 ≤ c j ∧ c j ≤ 12) : ∀ (k t y : Nat), k ≤ nN V → t < 2 ^ nN V → y < 2 ^ nN V → PB V c k (y ||| t) ≤ PB V c k t
  | 0, t, y, _, ht, hy => Gf_mo hg ht hy
  | k + 1, t, y, hk, ht, hy => by
    have hkk : 2 ^ k < 2 ^ nN V := Nat.pow_lt_pow_right (by decide) (by omega)
    have i1 := PB_mo hg hc k t y (by omega) ht hy
    have i2 := PB_mo hg hc k (2 ^ k ||| t) y (by omega) (Nat.or_lt_two_pow hkk ht) hy
    have h12 := hc k
    rw [PB, PB]
    split
    · rw [show 2 ^ k ||| (y ||| t) = y ||| (2 ^ k ||| t) by rw [← Nat.or_assoc, Nat.or_comm (2 ^ k) y, Nat.or_assoc]]
      have a1 : c k * PB V c k (y ||| (2 ^ k ||| t)) ≤ c k * PB V c k (2 ^ k ||| t) := Int.mul_le_mul_of_nonneg_left i2 h12.1
      have a2 : (12 - c k) * PB V c k (y ||| t) ≤ (12 - c k) * PB V c k t := Int.mul_le_mul_of_nonneg_left i1 (by omega)
      omega
    · exact i1
theorem PB_eq {V c d : Nat → Int} : ∀ (k t : Nat), (∀ j, j < k → c j = d j) → PB V c k t = PB V d k t
  | 0, _, _ => rfl
  | k + 1, t, h => by rw [PB, PB, PB_eq k t (fun j hj => h j (by omega)), PB_eq k (2 ^ k ||| t) (fun j hj => h j (by omega)), h k (by omega)]
theorem PB_step {V c : Nat → Int} (hg : GV V) (hc : ∀ j, 0 ≤ c j ∧ c j ≤ 12) {i : Nat} (hi : i < nN V) (h12 : c i = 12) {p : Int} (hp : 0 ≤ p ∧ p ≤ 12) : ∀ (k t : Nat), k ≤ nN V → t < 2 ^ nN V → PB V c k t ≤ PB V (uM c i p) k t
  | 0, t, _, _ => Int.le_refl _
  | k + 1, t, hk, ht => by
    have hd : ∀ j, 0 ≤ uM c i p j ∧ uM c i p j ≤ 12 := fun j => by
      unfold uM
      split
      · exact hp
      · exact hc j
    have hkk : 2 ^ k < 2 ^ nN V := Nat.pow_lt_pow_right (by decide) (by omega)
    have i1 := PB_step hg hc hi h12 hp k t (by omega) ht
    have i2 := PB_step hg hc hi h12 hp k (2 ^ k ||| t) (by omega) (Nat.or_lt_two_pow hkk ht)
    rw [PB, PB]
    split
    · by_cases z : k = i
      · subst z
        have e1 : ∀ u, PB V (uM c k p) k u = PB V c k u := fun u => PB_eq k u (fun j hj => uM_ne c p (by omega))
        rw [e1, e1, uM_at, h12]
        have m := PB_mo hg hc k t (2 ^ k) (by omega) ht hkk
        have a1 : (12 - p) * PB V c k (2 ^ k ||| t) ≤ (12 - p) * PB V c k t := Int.mul_le_mul_of_nonneg_left m (by omega)
        have a2 : (12 - p) * PB V c k (2 ^ k ||| t) = 12 * PB V c k (2 ^ k ||| t) - p * PB V c k (2 ^ k ||| t) := Int.sub_mul ..
        rw [show (12 : Int) - 12 = 0 by decide, Int.zero_mul]
        omega
      · have e : uM c i p k = c k := uM_ne c p z
        rw [e]
        have h := hc k
        have a1 : c k * PB V c k (2 ^ k ||| t) ≤ c k * PB V (uM c i p) k (2 ^ k ||| t) := Int.mul_le_mul_of_nonneg_left i2 h.1
        have a2 : (12 - c k) * PB V c k t ≤ (12 - c k) * PB V (uM c i p) k t := Int.mul_le_mul_of_nonneg_left i1 (by omega)
        omega
    · exact i1
theorem PB_all {V c : Nat → Int} : ∀ (k t : Nat), (∀ j, j < k → c j = 12) → PB V c k t = WA V k * Gf V (bsum (loB V) k ||| t)
  | 0, t, _ => by
    show Gf V t = 1 * Gf V (0 ||| t)
    rw [Nat.zero_or, Int.one_mul]
  | k + 1, t, h => by
    rw [PB, WA, bsum, PB_all k t (fun j hj => h j (by omega)), PB_all k (2 ^ k ||| t) (fun j hj => h j (by omega)), h k (by omega)]
    split
    · rw [show (12 : Int) - 12 = 0 by decide, Int.zero_mul, ← Nat.or_assoc, Int.mul_comm (WA V k) 12, Int.mul_assoc]
      omega
    · rw [Nat.or_zero]
theorem WY_low {V c : Nat → Int} {s t : Nat} : ∀ k : Nat, (∀ j, j < k → s.testBit j = t.testBit j) → WY V c s k = WY V c t k
  | 0, _ => rfl
  | k + 1, h => by rw [WY, WY, WY_low k (fun j hj => h j (by omega)), h k (by omega)]
theorem tb_lo {a j k : Nat} (h : a < 2 ^ k) : (2 ^ k + a).testBit j = if j = k then true else a.testBit j := by
  have e : 2 ^ k + a = 2 ^ k ||| a := by
    have := Nat.two_pow_add_eq_or_of_lt h 1
    rwa [Nat.mul_one] at this
  rw [e, Nat.testBit_or, Nat.testBit_two_pow]
  by_cases z : j = k
  · subst z
    simp
  · rw [if_neg z]
    simp [Ne.symm z]
/-- sum over all that may be called -/
theorem OD_PB {V c : Nat → Int} : ∀ (k t : Nat), k ≤ nN V → smZ (fun s => if ndN s (loN V) = 0 then WY V c s k * Gf V (s ||| t) else 0) (2 ^ k) = PB V c k t
  | 0, t, _ => by
    show smZ _ (0 + 1) = Gf V t
    rw [smZ]
    show 0 + (if ndN 0 (loN V) = 0 then 1 * Gf V (0 ||| t) else 0) = Gf V t
    rw [if_pos (ndN_0.mpr (fun k hk => by simp at hk)), Nat.zero_or]
    omega
  | k + 1, t, hk => by
    have hlo : (loN V).testBit k = loB V k := by
      unfold loN
      rw [bsum_bit, decide_eq_true (show k < nN V by omega), Bool.true_and]
    rw [Nat.pow_succ, Nat.mul_two, smZ_split, PB]
    have hlow : ∀ s, s < 2 ^ k → s.testBit k = false := fun s hs => Nat.testBit_lt_two_pow hs
    by_cases q : loB V k = true
    · rw [if_pos q]
      have e1 : smZ (fun s => if ndN s (loN V) = 0 then WY V c s (k + 1) * Gf V (s ||| t) else 0) (2 ^ k) = (12 - c k) * PB V c k t := by
        rw [← OD_PB k t (by omega), ← smZ_mul]
        refine smZ_eq (fun s hs => ?_)
        show (if ndN s (loN V) = 0 then WY V c s (k + 1) * Gf V (s ||| t) else 0) = (12 - c k) * (if ndN s (loN V) = 0 then WY V c s k * Gf V (s ||| t) else 0)
        by_cases y : ndN s (loN V) = 0
        · rw [if_pos y, if_pos y, WY, if_pos q, hlow s hs]
          simp only [Bool.false_eq_true, if_false]
          rw [Int.mul_assoc, Int.mul_comm (12 - c k) (WY V c s k * Gf V (s ||| t)), Int.mul_assoc, Int.mul_comm (12 - c k)]
        · rw [if_neg y, if_neg y, Int.mul_zero]
      have e2 : smZ (fun s => if ndN (2 ^ k + s) (loN V) = 0 then WY V c (2 ^ k + s) (k + 1) * Gf V ((2 ^ k + s) ||| t) else 0) (2 ^ k) = c k * PB V c k (2 ^ k ||| t) := by
        rw [← OD_PB k (2 ^ k ||| t) (by omega), ← smZ_mul]
        refine smZ_eq (fun s hs => ?_)
        show (if ndN (2 ^ k + s) (loN V) = 0 then WY V c (2 ^ k + s) (k + 1) * Gf V ((2 ^ k + s) ||| t) else 0) = c k * (if ndN s (loN V) = 0 then WY V c s k * Gf V (s ||| (2 ^ k ||| t)) else 0)
        have y : ndN (2 ^ k + s) (loN V) = 0 ↔ ndN s (loN V) = 0 := by
          rw [ndN_0, ndN_0]
          constructor
          · intro h j hj
            refine h j ?_
            rw [tb_lo hs]
            split
            · rfl
            · exact hj
          · intro h j hj
            rw [tb_lo hs] at hj
            by_cases z : j = k
            · rw [z, hlo]
              exact q
            · rw [if_neg z] at hj
              exact h j hj
        have eo : (2 ^ k + s) ||| t = s ||| (2 ^ k ||| t) := by
          apply Nat.eq_of_testBit_eq
          intro j
          rw [Nat.testBit_or, Nat.testBit_or, Nat.testBit_or, tb_lo hs, Nat.testBit_two_pow]
          by_cases z : j = k
          · subst z
            simp
          · rw [if_neg z]
            simp [Ne.symm z]
        by_cases y2 : ndN s (loN V) = 0
        · rw [if_pos (y.mpr y2), if_pos y2, WY, if_pos q, tb_lo hs, if_pos rfl, eo, WY_low k (s := 2 ^ k + s) (t := s) (fun j hj => by rw [tb_lo hs, if_neg (by omega)])]
          simp only [if_true]
          rw [Int.mul_assoc, Int.mul_comm (c k) (WY V c s k * Gf V (s ||| (2 ^ k ||| t))), Int.mul_assoc, Int.mul_comm (c k)]
        · rw [if_neg (fun z => y2 (y.mp z)), if_neg y2, Int.mul_zero]
      rw [e1, e2]
      omega
    · rw [if_neg q]
      have e1 : smZ (fun s => if ndN s (loN V) = 0 then WY V c s (k + 1) * Gf V (s ||| t) else 0) (2 ^ k) = PB V c k t := by
        rw [← OD_PB k t (by omega)]
        refine smZ_eq (fun s hs => ?_)
        show (if ndN s (loN V) = 0 then WY V c s (k + 1) * Gf V (s ||| t) else 0) = _
        rw [WY, if_neg q]
      have e2 : smZ (fun s => if ndN (2 ^ k + s) (loN V) = 0 then WY V c (2 ^ k + s) (k + 1) * Gf V ((2 ^ k + s) ||| t) else 0) (2 ^ k) = 0 := by
        refine smZ_0 (fun s hs => ?_)
        show (if ndN (2 ^ k + s) (loN V) = 0 then WY V c (2 ^ k + s) (k + 1) * Gf V ((2 ^ k + s) ||| t) else 0) = 0
        rw [if_neg]
        intro y
        have := ndN_0.mp y k (by rw [tb_lo hs, if_pos rfl])
        rw [hlo] at this
        exact q this
      rw [e1, e2]
      omega
/-! the class's odds -/
abbrev chF (M : Mm) : Nat → Int := fun j => M (27 + j) 6
theorem wy_V {V : Nat → Int} {T : Mm} (hv : ∀ k : Nat, (k : Int) < V 9 → T (27 + k) 0 = V (10 + 6 * k)) (s : Nat) : ∀ k : Nat, (k : Int) ≤ V 9 → k ≤ 8 → wyF T (s : Int) k = WY V (chF T) s k
  | 0, _, _ => rfl
  | k + 1, h, h8 => by
    have e := hv k (by omega)
    rw [wyF, WY, wy_V hv s k (by omega) (by omega), e]
    have hi : inS (k : Int) (s : Int) ↔ s.testBit k = true := by
      unfold inS
      rw [Int.toNat_natCast, Int.toNat_natCast]
      exact ⟨fun q => q.2.2, fun q => ⟨by omega, by omega, q⟩⟩
    by_cases q : loB V k = true
    · rw [if_pos q, if_pos ((isAK_2 _).mpr (of_decide_eq_true q))]
      by_cases z : s.testBit k = true
      · rw [if_pos (hi.mpr z), if_pos z]
      · rw [if_neg (fun y => z (hi.mp y)), if_neg z]
    · rw [if_neg q, if_neg (fun y => q (decide_eq_true ((isAK_2 _).mp y)))]
theorem wa_V {V : Nat → Int} {T : Mm} (hv : ∀ k : Nat, (k : Int) < V 9 → T (27 + k) 0 = V (10 + 6 * k)) : ∀ k : Nat, (k : Int) ≤ V 9 → waF T k = WA V k
  | 0, _ => rfl
  | k + 1, h => by
    have e := hv k (by omega)
    rw [waF, WA, wa_V hv k (by omega), e]
    by_cases q : loB V k = true
    · rw [if_pos q, if_pos ((isAK_2 _).mpr (of_decide_eq_true q))]
    · rw [if_neg q, if_neg (fun y => q (decide_eq_true ((isAK_2 _).mp y)))]
theorem odF_sm (T : Mm) (l m : Nat) : ∀ k : Nat, odF T l m k = smZ (fun s => if ndN s l = 0 ∧ ¬ T 59 (s ||| m) = -9 then wyF T (s : Int) (T 23 4).toNat else 0) k
  | 0 => rfl
  | k + 1 => by
    rw [odF, smZ, odF_sm T l m k]
    split
    · rfl
    · omega
theorem odT_k {M : Mm} {a : Nat} (h : a < 48 ∨ 62 < a) : odT M a = M a := gfA_o a h
theorem od_V {V : Nat → Int} {M : Mm} (hg : GV V) (hv : HW V M) : odU M = PB V (chF M) (nN V) 0 ∧ odL M = WA V (nN V) := by
  have h9 := hg.2.1
  have hk : ∀ k : Nat, (k : Int) < V 9 → odT M (27 + k) 0 = V (10 + 6 * k) := fun k h => by rw [odT_k (by omega)]; exact hv.2.2 k h 0 (by decide)
  have e4 : odT M 23 4 = V 9 := by rw [odT_k (by decide)]; exact hv.1.2.1
  have ec : chF (odT M) = fun j => if j < 8 then M (27 + j) 6 else chF (odT M) j := funext fun j => by
    split
    · show odT M (27 + j) 6 = _
      rw [odT_k (by omega)]
    · rfl
  constructor
  · unfold odU
    rw [HW_lo hv, HW_mu hv, odF_sm, e4]
    have hlo := loN_lt V
    have e1 : smZ (fun s => if ndN s (loN V) = 0 ∧ ¬ odT M 59 (s ||| muN V) = -9 then wyF (odT M) (s : Int) (V 9).toNat else 0) (loN V + 1) = smZ (fun s => if ndN s (loN V) = 0 ∧ ¬ odT M 59 (s ||| muN V) = -9 then wyF (odT M) (s : Int) (V 9).toNat else 0) (2 ^ nN V) := by
      refine (smZ_ext (by omega) (fun s h1 h2 => ?_)).symm
      rw [if_neg]
      intro z
      have := ndN_le2 z.1
      omega
    rw [e1, ← OD_PB (c := chF M) (nN V) 0 (Nat.le_refl _)]
    refine smZ_eq (fun s hs => ?_)
    show (if ndN s (loN V) = 0 ∧ ¬ odT M 59 (s ||| muN V) = -9 then wyF (odT M) (s : Int) (V 9).toNat else 0) = if ndN s (loN V) = 0 then WY V (chF M) s (nN V) * Gf V (s ||| 0) else 0
    by_cases y : ndN s (loN V) = 0
    · rw [if_pos y, Nat.or_zero]
      have hsm : s ||| muN V < 2 ^ nN V := Nat.or_lt_two_pow hs (muN_lt V)
      have eE : odT M 59 (s ||| muN V) = ENV V (s ||| muN V) := by
        unfold odT
        rw [HW_lo hv, HW_mu hv]
        refine gf_ENV hg hv hsm ?_
        rw [Int.toNat_natCast, ndN_0]
        intro k hk
        rw [Nat.testBit_or] at hk ⊢
        cases z : (muN V).testBit k with
        | true => simp
        | false =>
          rw [z, Bool.or_false] at hk
          rw [ndN_0.mp y k hk]
          rfl
      rw [eE]
      unfold Gf
      by_cases z : ENV V (s ||| muN V) = -9
      · rw [if_neg (fun q => q.2 z), if_pos z, Int.mul_zero]
      · rw [if_pos ⟨y, z⟩, if_neg z, Int.mul_one]
        have := wy_V hk s (V 9).toNat (by omega) (by omega)
        rw [this]
        have hchain : ∀ k : Nat, k ≤ 8 → WY V (chF (odT M)) s k = WY V (chF M) s k := by
          intro k
          induction k with
          | zero => intro _; rfl
          | succ k ih =>
            intro hk8
            rw [WY, WY, ih (by omega)]
            have : chF (odT M) k = chF M k := by
              show odT M (27 + k) 6 = M (27 + k) 6
              rw [odT_k (by omega)]
            rw [this]
        exact hchain _ (by omega)
    · rw [if_neg (fun q => y q.1), if_neg y]
  · unfold odL
    rw [hv.1.2.1]
    exact wa_V hk _ (by omega)
theorem gdF_ok : ∀ (j k : Nat) (a b : Int), 0 ≤ a → 0 ≤ b → b < ((2 ^ j : Nat) : Int) → 2 * j + 1 ≤ k → (0 < a ∨ 0 < b) → 0 < gdF k a b ∧ (∃ x, a = gdF k a b * x) ∧ ∃ y, b = gdF k a b * y
  | 0, k, a, b, ha, hb, hj, hk, h0 => by
    have hb0 : b = 0 := by simp at hj; omega
    rw [hb0, gdF_0 (by omega)]
    exact ⟨by omega, ⟨1, by omega⟩, ⟨0, by omega⟩⟩
  | j + 1, 0, a, b, ha, hb, hj, hk, _ => absurd hk (by omega)
  | j + 1, 1, a, b, ha, hb, hj, hk, _ => absurd hk (by omega)
  | j + 1, k + 2, a, b, ha, hb, hj, hk, h0 => by
    by_cases c : b = 0
    · rw [c, gdF_0 (by omega)]
      exact ⟨by omega, ⟨1, by omega⟩, ⟨0, by omega⟩⟩
    · have h1 := Int.emod_nonneg a c
      have h2 := Int.emod_lt_of_pos a (by omega : 0 < b)
      rw [gdF, if_neg c]
      have ea := Int.mul_ediv_add_emod a b
      by_cases c2 : a % b = 0
      · rw [c2, gdF_0 (by omega)]
        rw [c2] at ea
        exact ⟨by omega, ⟨a / b, by omega⟩, ⟨1, by omega⟩⟩
      · have h3 := Int.emod_nonneg b c2
        have h4 := Int.emod_lt_of_pos b (by omega : 0 < a % b)
        have h5 := em_le hb (by omega : 0 < a % b) (by omega)
        rw [gdF, if_neg c2]
        obtain ⟨g0, ⟨x, hx⟩, ⟨y, hy⟩⟩ := gdF_ok j k (a % b) (b % (a % b)) h1 h3 (by rw [Nat.pow_succ] at hj; omega) (by omega) (Or.inl (by omega))
        generalize gdF k (a % b) (b % (a % b)) = g at *
        have eb := Int.mul_ediv_add_emod b (a % b)
        have hb2 : b = g * (x * (b / (a % b)) + y) := by
          rw [Int.mul_add, ← Int.mul_assoc, ← hx, ← hy]
          exact eb.symm
        refine ⟨g0, ⟨(x * (b / (a % b)) + y) * (a / b) + x, ?_⟩, ⟨_, hb2⟩⟩
        rw [Int.mul_add, ← Int.mul_assoc, ← hb2, ← hx]
        exact ea.symm
/-- x by y is U by W in lowest terms, or so -/
def FRC (U W x y : Int) : Prop := ∃ g, 0 < g ∧ U = g * x ∧ W = g * y
theorem fr_V {T : Mm} {U W : Int} (hU : 0 ≤ U ∧ U ≤ W) (hW : 1 ≤ W ∧ W ≤ 1000000) : FRC U W (frM T U W 0 16) (frM T U W 0 17) := by
  have e : (2 ^ 40 : Nat) = 1099511627776 := by decide
  obtain ⟨g0, ⟨x, hx⟩, ⟨y, hy⟩⟩ := gdF_ok 40 200 U W hU.1 (by omega) (by rw [e]; omega) (by decide) (Or.inr (by omega))
  unfold frM
  rw [if_pos g0]
  generalize gdF 200 U W = g at *
  refine ⟨g, g0, ?_, ?_⟩
  · have e1 : stM (stM T 0 16 (U.tdiv g)) 0 17 (W.tdiv g) 0 16 = U.tdiv g := by rw [stM_ne _ _ (Or.inr (by decide)), stM_at]
    rw [e1]
    conv => lhs; rw [hx]
    rw [hx, Int.mul_tdiv_cancel_left x (by omega)]
  · rw [show stM (stM T 0 16 (U.tdiv g)) 0 17 (W.tdiv g) 0 17 = W.tdiv g from stM_at _ _ _ _]
    conv => lhs; rw [hy]
    rw [hy, Int.mul_tdiv_cancel_left y (by omega)]
theorem FRC.b {U W x y : Int} (h : FRC U W x y) (hU : 0 ≤ U ∧ U ≤ W) (hW : 1 ≤ W) : (0 ≤ x ∧ x ≤ y) ∧ 0 < y ∧ y ≤ W := by
  obtain ⟨g, g0, hx, hy⟩ := h
  have h1 : 0 ≤ x := by
    by_cases z : 0 ≤ x
    · exact z
    · have := Int.mul_neg_of_pos_of_neg g0 (show x < 0 by omega)
      omega
  have h2 : x ≤ y := Int.le_of_mul_le_mul_left (by omega) g0
  have h3 : 0 < y := by
    by_cases z : 0 < y
    · exact z
    · have := Int.mul_le_mul_of_nonneg_left (show y ≤ 0 by omega) (Int.le_of_lt g0)
      rw [Int.mul_zero] at this
      omega
  refine ⟨⟨h1, h2⟩, h3, ?_⟩
  have := Int.mul_le_mul_of_nonneg_right (show 1 ≤ g by omega) (Int.le_of_lt h3)
  omega
theorem FRC.mo {U U2 W x y x2 y2 : Int} (h : FRC U W x y) (h2 : FRC U2 W x2 y2) (hW : 1 ≤ W) (hle : U ≤ U2) : x * y2 ≤ x2 * y := by
  obtain ⟨g, g0, hx, hy⟩ := h
  obtain ⟨k, k0, hx2, hy2⟩ := h2
  have a := Int.mul_le_mul_of_nonneg_right hle (show 0 ≤ W by omega)
  have e1 : U * W = (g * k) * (x * y2) := by
    conv => lhs; rw [hx, hy2]
    rw [Int.mul_assoc, Int.mul_assoc, ← Int.mul_assoc x, Int.mul_comm x k, Int.mul_assoc]
  have e2 : U2 * W = (g * k) * (x2 * y) := by
    conv => lhs; rw [hx2, hy]
    rw [Int.mul_assoc, ← Int.mul_assoc x2, Int.mul_comm x2 g, Int.mul_assoc, ← Int.mul_assoc, Int.mul_comm k g]
  rw [e1, e2] at a
  exact Int.le_of_mul_le_mul_left a (Int.mul_pos g0 k0)
theorem WA_5 {V : Nat → Int} (hg : GV V) : 1 ≤ WA V (nN V) ∧ WA V (nN V) ≤ 248832 := by
  have h := WA_b V (nN V)
  have h5 := (nN_5 hg).1
  have : 12 ^ nN V ≤ 12 ^ 5 := Nat.pow_le_pow_right (by decide) h5
  have e : (12 ^ 5 : Nat) = 248832 := by decide
  omega
theorem odd_V {V : Nat → Int} {M : Mm} (hg : GV V) (hv : HW V M) (hc : CI M) : FRC (PB V (fun j => if j < 8 then M (27 + j) 6 else 0) (nN V) 0) (WA V (nN V)) (oddM M 0 16) (oddM M 0 17) := by
  obtain ⟨e1, e2⟩ := od_V hg hv
  have h5 := (nN_5 hg).1
  have ec : PB V (fun j => if j < 8 then M (27 + j) 6 else 0) (nN V) 0 = PB V (chF M) (nN V) 0 := PB_eq _ _ (fun j hj => by rw [if_pos (by omega)])
  have hb := PB_b (V := V) (c := fun j => if j < 8 then M (27 + j) 6 else 0) (fun j => by
    show 0 ≤ (if j < 8 then M (27 + j) 6 else 0) ∧ (if j < 8 then M (27 + j) 6 else 0) ≤ 12
    split
    · exact (hc.nd.2 j (by assumption)).2.2.2.2.2.2
    · decide) (nN V) 0
  have hw := WA_5 hg
  unfold oddM
  rw [e1, e2, ← ec]
  exact fr_V hb ⟨hw.1, by omega⟩

