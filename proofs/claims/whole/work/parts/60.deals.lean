def dhV (kd h k q : Int) (x : Nat) : Int := if kd = 0 then (if x = h.toNat then q else 0) else (if x = (xgi kd h k).toNat then -q else 0) + (if x = (xta kd h k).toNat then q else 0)
def doV (kd h k q : Int) (x : Nat) : Int := if kd = 0 then 0 else (if x = (8 * k + h).toNat then (if kd = 1 then q else 0) else 0) + (if x = (8 * h + k).toNat then (if kd = 3 then 2 * q else if kd = 4 then -q else 0) else 0)
theorem ad_at (U : Mm) (a g x : Nat) (v : Int) : stM U a g (U a g + v) a x = U a x + (if x = g then v else 0) := by
  by_cases z : x = g
  · rw [z, stM_at, if_pos rfl]
  · rw [stM_ne _ _ (Or.inr z), if_neg z]
    omega
theorem mv_at (U : Mm) (a g t x : Nat) (v : Int) : stM (stM U a g (U a g - v)) a t (stM U a g (U a g - v) a t + v) a x = U a x + ((if x = g then -v else 0) + (if x = t then v else 0)) := by
  rw [ad_at, Int.sub_eq_add_neg, ad_at, Int.add_assoc]
theorem seM_64 {U : Mm} {kd h k q : Int} (hkd : 0 ≤ kd ∧ kd ≤ 4) (x : Nat) : seM U kd h k q 64 x = U 64 x + dhV kd h k q x := by
  unfold seM dhV xgi xta
  by_cases c0 : kd = 0
  · rw [if_pos c0, if_pos c0]
    exact ad_at U 64 _ x q
  · rw [if_neg c0, if_neg c0]
    by_cases c3 : kd = 3
    · rw [if_neg (by omega), if_neg (by omega), if_pos c3, if_pos c3, if_pos c3]
      unfold oaM mvM
      rw [stM_off (by decide)]
      exact mv_at U 64 _ _ x q
    · rw [if_neg c3, if_neg c3, if_neg c3]
      by_cases c1 : kd = 1
      · rw [if_pos c1]
        unfold oaM mvM
        rw [stM_off (by decide)]
        exact mv_at U 64 _ _ x q
      · rw [if_neg c1]
        by_cases c2 : kd = 2
        · rw [if_pos c2]
          exact mv_at U 64 _ _ x q
        · rw [if_neg c2]
          unfold oaM mvM
          rw [stM_off (by decide)]
          exact mv_at U 64 _ _ x q
theorem mvM_o {U : Mm} {h k q : Int} {a : Nat} (ha : a ≠ 64) : mvM U h k q a = U a := by
  unfold mvM
  rw [stM_off ha, stM_off ha]
theorem seM_65 {U : Mm} {kd h k q : Int} (hkd : 0 ≤ kd ∧ kd ≤ 4) (x : Nat) : seM U kd h k q 65 x = U 65 x + doV kd h k q x := by
  unfold seM doV
  by_cases c0 : kd = 0
  · rw [if_pos c0, if_pos c0, stM_off (by decide)]
    omega
  · rw [if_neg c0, if_neg c0]
    by_cases c3 : kd = 3
    · rw [if_neg (by omega), if_neg (by omega), if_pos c3, if_pos c3, if_neg (by omega : ¬ kd = 1)]
      unfold oaM
      rw [mvM_o (by decide), show (h * 8 + k).toNat = (8 * h + k).toNat by omega]
      have := ad_at (mvM U k h q) 65 (8 * h + k).toNat x (2 * q)
      rw [mvM_o (by decide)] at this
      rw [this]
      split <;> omega
    · rw [if_neg c3, if_neg c3]
      by_cases c1 : kd = 1
      · rw [if_pos c1, if_pos c1, if_neg (by omega : ¬ kd = 4)]
        unfold oaM
        rw [mvM_o (by decide), show (k * 8 + h).toNat = (8 * k + h).toNat by omega]
        have := ad_at (mvM U h k q) 65 (8 * k + h).toNat x q
        rw [mvM_o (by decide)] at this
        rw [this]
        have z : (if x = (8 * h + k).toNat then (0 : Int) else 0) = 0 := by split <;> rfl
        rw [z]
        omega
      · rw [if_neg c1, if_neg c1]
        have z : (if x = (8 * k + h).toNat then (0 : Int) else 0) = 0 := by split <;> rfl
        rw [z]
        by_cases c2 : kd = 2
        · rw [if_pos c2, if_neg (by omega : ¬ kd = 4), mvM_o (by decide)]
          split <;> omega
        · rw [if_neg c2, if_pos (by omega : kd = 4)]
          unfold oaM
          rw [mvM_o (by decide), show (h * 8 + k).toNat = (8 * h + k).toNat by omega]
          have := ad_at (mvM U h k q) 65 (8 * h + k).toNat x (-q)
          rw [mvM_o (by decide)] at this
          rw [this]
          omega
theorem xseM_97 (U : Mm) (kd h k q : Int) (x : Nat) : xseM U kd h k q 97 x = U 97 x + dhV kd h k q x := by
  unfold xseM dhV
  by_cases c0 : kd = 0
  · rw [if_pos c0, if_pos c0]
    exact ad_at U 97 _ x q
  · rw [if_neg c0, if_neg c0]
    unfold xs4 xs3
    rw [stM_off (by decide), stM_off (by decide)]
    unfold xs2 xs1
    exact mv_at U 97 _ _ x q
theorem xseM_98 (U : Mm) (kd h k q : Int) (x : Nat) : xseM U kd h k q 98 x = U 98 x + doV kd h k q x := by
  unfold xseM doV
  by_cases c0 : kd = 0
  · rw [if_pos c0, if_pos c0, stM_off (by decide)]
    omega
  · rw [if_neg c0, if_neg c0]
    unfold xs4
    rw [ad_at]
    unfold xs3
    rw [ad_at]
    have : xs2 U kd h k q 98 x = U 98 x := by
      unfold xs2 xs1
      rw [stM_off (by decide), stM_off (by decide)]
    rw [this, Int.add_assoc]
