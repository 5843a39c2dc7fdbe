def xgi (kd h k : Int) : Int := if kd = 3 then k else h
def xta (kd h k : Int) : Int := if kd = 3 then h else k
def dhV (kd h k q : Int) (x : Nat) : Int := if kd = 0 then (if x = h.toNat then q else 0) else (if x = (xgi kd h k).toNat then -q else 0) + (if x = (xta kd h k).toNat then q else 0)
def doV (kd h k q : Int) (x : Nat) : Int := if kd = 0 then 0 else (if x = (8 * k + h).toNat then (if kd = 1 then q else 0) else 0) + (if x = (8 * h + k).toNat then (if kd = 3 then 2 * q else if kd = 4 then -q else 0) else 0)
theorem ad_at (U : Mm) (a g x : Nat) (v : Int) : stM U a g (U a g + v) a x = U a x + (if x = g then v else 0) := by
  by_cases z : x = g
  · rw [z, stM_at, if_pos rfl]
  · rw [stM_ne _ _ (Or.inr z), if_neg z]
    omega
theorem mv_at (U : Mm) (a g t x : Nat) (v : Int) : stM (stM U a g (U a g - v)) a t (stM U a g (U a g - v) a t + v) a x = U a x + ((if x = g then -v else 0) + (if x = t then v else 0)) := by
  rw [ad_at, Int.sub_eq_add_neg, ad_at, Int.add_assoc]
theorem seM_64 {U : Mm} {kd h k q : Int} (hkd : 0 ≤ kd ∧ kd ≤ 4) (x : Nat) : seM U kd h k q 64 x = U 64 x + dhV kd h k q x := by
  unfold seM dhV xgi xta
  by_cases c0 : kd = 0
  · rw [if_pos c0, if_pos c0]
    exact ad_at U 64 _ x q
  · rw [if_neg c0, if_neg c0]
    by_cases c3 : kd = 3
    · rw [if_neg (by omega), if_neg (by omega), if_pos c3, if_pos c3, if_pos c3]
      unfold oaM mvM
      rw [stM_off (by decide)]
      exact mv_at U 64 _ _ x q
    · rw [if_neg c3, if_neg c3, if_neg c3]
      by_cases c1 : kd = 1
      · rw [if_pos c1]
        unfold oaM mvM
        rw [stM_off (by decide)]
        exact mv_at U 64 _ _ x q
      · rw [if_neg c1]
        by_cases c2 : kd = 2
        · rw [if_pos c2]
          exact mv_at U 64 _ _ x q
        · rw [if_neg c2]
          unfold oaM mvM
          rw [stM_off (by decide)]
          exact mv_at U 64 _ _ x q
theorem mvM_o {U : Mm} {h k q : Int} {a : Nat} (ha : a ≠ 64) : mvM U h k q a = U a := by
  unfold mvM
  rw [stM_off ha, stM_off ha]
theorem seM_65 {U : Mm} {kd h k q : Int} (hkd : 0 ≤ kd ∧ kd ≤ 4) (x : Nat) : seM U kd h k q 65 x = U 65 x + doV kd h k q x := by
  unfold seM doV
  by_cases c0 : kd = 0
  · rw [if_pos c0, if_pos c0, stM_off (by decide)]
    omega
  · rw [if_neg c0, if_neg c0]
    by_cases c3 : kd = 3
    · rw [if_neg (by omega), if_neg (by omega), if_pos c3, if_pos c3, if_neg (by omega : ¬ kd = 1)]
      unfold oaM
      rw [mvM_o (by decide), show (h * 8 + k).toNat = (8 * h + k).toNat by omega]
      have := ad_at (mvM U k h q) 65 (8 * h + k).toNat x (2 * q)
      rw [mvM_o (by decide)] at this
      rw [this]
      split <;> omega
    · rw [if_neg c3, if_neg c3]
      by_cases c1 : kd = 1
      · rw [if_pos c1, if_pos c1, if_neg (by omega : ¬ kd = 4)]
        unfold oaM
        rw [mvM_o (by decide), show (k * 8 + h).toNat = (8 * k + h).toNat by omega]
        have := ad_at (mvM U h k q) 65 (8 * k + h).toNat x q
        rw [mvM_o (by decide)] at this
        rw [this]
        have z : (if x = (8 * h + k).toNat then (0 : Int) else 0) = 0 := by split <;> rfl
        rw [z]
        omega
      · rw [if_neg c1, if_neg c1]
        have z : (if x = (8 * k + h).toNat then (0 : Int) else 0) = 0 := by split <;> rfl
        rw [z]
        by_cases c2 : kd = 2
        · rw [if_pos c2, if_neg (by omega : ¬ kd = 4), mvM_o (by decide)]
          split <;> omega
        · rw [if_neg c2, if_pos (by omega : kd = 4)]
          unfold oaM
          rw [mvM_o (by decide), show (h * 8 + k).toNat = (8 * h + k).toNat by omega]
          have := ad_at (mvM U h k q) 65 (8 * h + k).toNat x (-q)
          rw [mvM_o (by decide)] at this
          rw [this]
          omega
theorem seM_o {U : Mm} {kd h k q : Int} {a : Nat} (h1 : a ≠ 64) (h2 : a ≠ 65) : seM U kd h k q a = U a := seM_off U kd h k q h1 h2
theorem enM_o {M : Mm} {kd h k q : Int} {a : Nat} (ha : a < 63 ∨ 69 < a) : enM M kd h k q a = M a := by
  unfold enM
  rw [seM_o (by omega) (by omega), stM_off (by omega), stM_off (by omega), stM_off (by omega), stM_off (by omega), stM_off (by omega)]
theorem dhV_o (kd h k q : Int) (x : Nat) : dhV kd h (deO kd h k) q x = dhV kd h k q x := by
  unfold dhV xgi xta deO
  by_cases c : kd = 0
  · rw [if_pos c, if_pos c]
  · rw [if_neg c, if_neg c, if_neg c]
theorem doV_o (kd h k q : Int) (x : Nat) : doV kd h (deO kd h k) q x = doV kd h k q x := by
  unfold doV deO
  by_cases c : kd = 0
  · rw [if_pos c, if_pos c]
  · rw [if_neg c, if_neg c, if_neg c]
def duH (M : Mm) (q : Int) (x : Nat) (j : Nat) : Int := dhV (M 66 (q.toNat + j)) (M 67 (q.toNat + j)) (M 68 (q.toNat + j)) (-(M 69 (q.toNat + j))) x
def duO (M : Mm) (q : Int) (x : Nat) (j : Nat) : Int := doV (M 66 (q.toNat + j)) (M 67 (q.toNat + j)) (M 68 (q.toNat + j)) (-(M 69 (q.toNat + j))) x
theorem unM_v {q : Int} : ∀ (k : Nat) (M : Mm), (∀ j, 0 ≤ M 66 j ∧ M 66 j ≤ 4) → (∀ x, unM M q k 64 x = M 64 x + smZ (duH M q x) k) ∧ (∀ x, unM M q k 65 x = M 65 x + smZ (duO M q x) k) ∧ (∀ a b, a ≠ 64 → a ≠ 65 → ¬ (a = 63 ∧ b = 6) → unM M q k a b = M a b) ∧ unM M q k 63 6 = if k = 0 then M 63 6 else q
  | 0, M, _ => ⟨fun x => by simp [unM, smZ], fun x => by simp [unM, smZ], fun a b _ _ _ => rfl, rfl⟩
  | k + 1, M, h => by
    rw [unM]
    have e : ∀ a, a ≠ 63 → a ≠ 64 → a ≠ 65 → stM (seM M (M 66 (q.toNat + k)) (M 67 (q.toNat + k)) (M 68 (q.toNat + k)) (-(M 69 (q.toNat + k)))) 63 6 (q + (k : Int)) a = M a := fun a h1 h2 h3 => by rw [stM_off h1, seM_o h2 h3]
    have e4 : ∀ x, stM (seM M (M 66 (q.toNat + k)) (M 67 (q.toNat + k)) (M 68 (q.toNat + k)) (-(M 69 (q.toNat + k)))) 63 6 (q + (k : Int)) 64 x = M 64 x + duH M q x k := fun x => by rw [stM_off (by decide), seM_64 (h _)]; rfl
    have e5 : ∀ x, stM (seM M (M 66 (q.toNat + k)) (M 67 (q.toNat + k)) (M 68 (q.toNat + k)) (-(M 69 (q.toNat + k)))) 63 6 (q + (k : Int)) 65 x = M 65 x + duO M q x k := fun x => by rw [stM_off (by decide), seM_65 (h _)]; rfl
    have e6 : stM (seM M (M 66 (q.toNat + k)) (M 67 (q.toNat + k)) (M 68 (q.toNat + k)) (-(M 69 (q.toNat + k)))) 63 6 (q + (k : Int)) 63 6 = q + (k : Int) := stM_at _ _ _ _
    have e7 : ∀ b, b ≠ 6 → stM (seM M (M 66 (q.toNat + k)) (M 67 (q.toNat + k)) (M 68 (q.toNat + k)) (-(M 69 (q.toNat + k)))) 63 6 (q + (k : Int)) 63 b = M 63 b := fun b hb => by rw [stM_ne _ _ (by omega), seM_o (by decide) (by decide)]
    generalize stM (seM M (M 66 (q.toNat + k)) (M 67 (q.toNat + k)) (M 68 (q.toNat + k)) (-(M 69 (q.toNat + k)))) 63 6 (q + (k : Int)) = M2 at e e4 e5 e6 e7
    have r66 := e 66 (by decide) (by decide) (by decide)
    have r67 := e 67 (by decide) (by decide) (by decide)
    have r68 := e 68 (by decide) (by decide) (by decide)
    have r69 := e 69 (by decide) (by decide) (by decide)
    have dh : ∀ x, duH M2 q x = duH M q x := fun x => by unfold duH; rw [r66, r67, r68, r69]
    have dq : ∀ x, duO M2 q x = duO M q x := fun x => by unfold duO; rw [r66, r67, r68, r69]
    have ih := unM_v (q := q) k M2 (by rw [r66]; exact h)
    refine ⟨fun x => ?_, fun x => ?_, fun a b h1 h2 h3 => ?_, ?_⟩
    · rw [ih.1 x, e4, dh, smZ]
      omega
    · rw [ih.2.1 x, e5, dq, smZ]
      omega
    · rw [ih.2.2.1 a b h1 h2 h3]
      by_cases z : a = 63
      · subst z
        exact e7 b (by omega)
      · rw [e a z h1 h2]
    · rw [ih.2.2.2, e6, if_neg (by omega : ¬ k + 1 = 0)]
      by_cases z : k = 0
      · rw [if_pos z, z]
        simp
      · rw [if_neg z]
theorem smZ_0 {f : Nat → Int} : ∀ {k : Nat}, (∀ j, j < k → f j = 0) → smZ f k = 0
  | 0, _ => rfl
  | k + 1, h => by
    rw [smZ, smZ_0 (fun j hj => h j (by omega)), h k (by omega)]
    rfl
theorem smZ_eq {f g : Nat → Int} : ∀ {k : Nat}, (∀ j, j < k → f j = g j) → smZ f k = smZ g k
  | 0, _ => rfl
  | k + 1, h => by rw [smZ, smZ, smZ_eq (fun j hj => h j (by omega)), h k (by omega)]
theorem mxF_eq {f g : Nat → Int} {t : Int} : ∀ {k : Nat}, (∀ j, j < k → f j = g j) → mxF f t k = mxF g t k
  | 0, _ => rfl
  | k + 1, h => by rw [mxF, mxF, mxF_eq (fun j hj => h j (by omega)), h k (by omega)]

theorem CI.led {M M2 : Mm} (h : CI M) (e : ∀ a, 3 ≤ a → a ≤ 75 → (a < 63 ∨ 69 < a) → M2 a = M a) (hD : DLW M2) : CI M2 := by
  refine ⟨⟨?_, NDA_of2 (fun a h1 h2 => e a (by omega) (by omega) (by omega)) h.nd, ?_, ?_⟩, ⟨JW_of (fun a _ _ => e a (by omega) (by omega) (by omega)) h.j, PW_fr (fun a _ _ => e a (by omega) (by omega) (by omega)) h.p, WW_fr (fun a _ _ => e a (by omega) (by omega) (by omega)) h.w, CW_fr (fun a _ _ => e a (by omega) (by omega) (by omega)) h.c⟩, hD, ⟨?_, ?_⟩, ?_, ?_⟩
  · unfold LW; rw [e 23 (by decide) (by decide) (by decide)]; exact h.l
  · intro j; rw [e 24 (by decide) (by decide) (by decide)]; exact h.pl j
  · rw [e 23 (by decide) (by decide) (by decide)]; exact h.st
  · intro o ho; rw [e o (by omega) (by omega) (by omega), e (o + 1) (by omega) (by omega) (by omega)]; exact h.rw o ho
  · intro o ho h15; rw [e (o + 1) (by omega) (by omega) (by omega)]; exact h.tw o ho h15
  · unfold PRW; rw [e 70 (by decide) (by decide) (by decide), e 71 (by decide) (by decide) (by decide), e 72 (by decide) (by decide) (by decide)]; exact h.p70
  · unfold PRW; rw [e 73 (by decide) (by decide) (by decide), e 74 (by decide) (by decide) (by decide), e 75 (by decide) (by decide) (by decide)]; exact h.p73
theorem CI.prs {M M2 : Mm} (h : CI M) (e : ∀ a, 3 ≤ a → a ≤ 69 → M2 a = M a) (h70 : PRW M2 70) (h73 : PRW M2 73) : CI M2 := by
  refine ⟨⟨?_, NDA_of2 (fun a h1 h2 => e a (by omega) (by omega)) h.nd, ?_, ?_⟩, ⟨JW_of (fun a _ _ => e a (by omega) (by omega)) h.j, PW_fr (fun a _ _ => e a (by omega) (by omega)) h.p, WW_fr (fun a _ _ => e a (by omega) (by omega)) h.w, CW_fr (fun a _ _ => e a (by omega) (by omega)) h.c⟩, ?_, ⟨?_, ?_⟩, h70, h73⟩
  · unfold LW; rw [e 23 (by decide) (by decide)]; exact h.l
  · intro j; rw [e 24 (by decide) (by decide)]; exact h.pl j
  · rw [e 23 (by decide) (by decide)]; exact h.st
  · unfold DLW; rw [e 63 (by decide) (by decide), e 66 (by decide) (by decide), e 67 (by decide) (by decide), e 68 (by decide) (by decide), e 69 (by decide) (by decide)]; exact h.d
  · intro o ho; rw [e o (by omega) (by omega), e (o + 1) (by omega) (by omega)]; exact h.rw o ho
  · intro o ho h15; rw [e (o + 1) (by omega) (by omega)]; exact h.tw o ho h15
theorem dhV_neg (kd h k q : Int) (x : Nat) : dhV kd h k (-q) x = -dhV kd h k q x := by
  unfold dhV
  (repeat' split) <;> omega
theorem doV_neg (kd h k q : Int) (x : Nat) : doV kd h k (-q) x = -doV kd h k q x := by
  unfold doV
  (repeat' split) <;> omega
theorem smZ_add (f g : Nat → Int) : ∀ k : Nat, smZ (fun j => f j + g j) k = smZ f k + smZ g k
  | 0 => rfl
  | k + 1 => by
    rw [smZ, smZ, smZ, smZ_add f g k]
    omega
theorem smZ_neg (f : Nat → Int) : ∀ k : Nat, smZ (fun j => -f j) k = -smZ f k
  | 0 => rfl
  | k + 1 => by
    rw [smZ, smZ, smZ_neg f k]
    omega
theorem smZ_ind (a : Nat) (c : Int) : ∀ k : Nat, smZ (fun j => if j = a then c else 0) k = if a < k then c else 0
  | 0 => rfl
  | k + 1 => by
    rw [smZ, smZ_ind a c k]
    by_cases h1 : a < k
    · rw [if_pos h1, if_neg (by omega), if_pos (by omega)]
      omega
    · rw [if_neg h1]
      by_cases h2 : k = a
      · rw [if_pos h2, if_pos (by omega)]
        omega
      · rw [if_neg h2, if_neg (by omega)]
        rfl
theorem smZ_mem {f : Nat → Int} : ∀ {k : Nat}, (∀ j, j < k → 0 ≤ f j) → ∀ x, x < k → f x ≤ smZ f k ∧ 0 ≤ smZ f k
  | 0, _, x, hx => absurd hx (Nat.not_lt_zero _)
  | k + 1, h, x, hx => by
    rw [smZ]
    have hk := h k (by omega)
    have h0 : 0 ≤ smZ f k := by
      cases k with
      | zero => exact Int.le_refl _
      | succ k2 => exact (smZ_mem (fun j hj => h j (by omega)) 0 (by omega)).2
    by_cases q : x = k
    · subst q
      omega
    · have := smZ_mem (f := f) (k := k) (fun j hj => h j (by omega)) x (by omega)
      omega
theorem dhV_sum {kd h k q : Int} {n : Nat} (hh : 0 ≤ h ∧ h < n) (hk : 0 ≤ k ∧ k < n) : smZ (dhV kd h k q) n = if kd = 0 then q else 0 := by
  by_cases c : kd = 0
  · rw [if_pos c, show dhV kd h k q = fun x => if x = h.toNat then q else 0 from funext fun x => by unfold dhV; rw [if_pos c], smZ_ind, if_pos (by omega)]
  · rw [if_neg c, show dhV kd h k q = fun x => (if x = (xgi kd h k).toNat then -q else 0) + (if x = (xta kd h k).toNat then q else 0) from funext fun x => by unfold dhV; rw [if_neg c], smZ_add, smZ_ind, smZ_ind]
    have h1 : (xgi kd h k).toNat < n := by unfold xgi; split <;> omega
    have h2 : (xta kd h k).toNat < n := by unfold xta; split <;> omega
    rw [if_pos h1, if_pos h2]
    omega
/-! the ledger on the way -/
def enH (M : Mm) (x : Nat) (j : Nat) : Int := dhV (M 66 j) (M 67 j) (M 68 j) (M 69 j) x
def enO (M : Mm) (x : Nat) (j : Nat) : Int := doV (M 66 j) (M 67 j) (M 68 j) (M 69 j) x
abbrev EqM (M0 M : Mm) : Prop := ∀ a, a ≠ 0 → (a < 63 ∨ 69 < a) → M a = M0 a
def LI (M0 M : Mm) (n many sum st : Int) : Prop := (M 63 6 = many ∧ 0 ≤ many ∧ many ≤ st) ∧ (0 ≤ sum ∧ sum ≤ 40 * st) ∧ smZ (M 64) n.toNat = sum ∧ (∀ x : Nat, x < n.toNat → 0 ≤ M 64 x) ∧ (∀ x : Nat, x < 64 → 0 ≤ M 65 x ∧ M 65 x ≤ 80 * st) ∧ ((∀ x : Nat, x < 8 → M 64 x = smZ (enH M x) many.toNat) ∧ ∀ x : Nat, x < 64 → M 65 x = smZ (enO M x) many.toNat) ∧ CI M ∧ EqM M0 M
theorem LI.td {M0 M : Mm} {n many sum st : Int} (h : LI M0 M n many sum st) (v : Int) : LI M0 (tdM M v) n many sum st := by
  obtain ⟨h1, h2, h3, h4, h5, h6, h7, h8⟩ := h
  have e : ∀ a, a ≠ 0 → tdM M v a = M a := fun a ha => by unfold tdM; exact stM_off ha
  refine ⟨by rw [e 63 (by decide)]; exact h1, h2, by rw [e 64 (by decide)]; exact h3, by rw [e 64 (by decide)]; exact h4, by rw [e 65 (by decide)]; exact h5, ⟨fun x hx => ?_, fun x hx => ?_⟩, h7.td v, fun a h1 h2 => by rw [e a h1]; exact h8 a h1 h2⟩
  · have := h6.1 x hx
    unfold enH at this ⊢
    rw [e 64 (by decide), e 66 (by decide), e 67 (by decide), e 68 (by decide), e 69 (by decide)]
    exact this
  · have := h6.2 x hx
    unfold enO at this ⊢
    rw [e 65 (by decide), e 66 (by decide), e 67 (by decide), e 68 (by decide), e 69 (by decide)]
    exact this
theorem LI.mem {M0 M : Mm} {n many sum st : Int} (h : LI M0 M n many sum st) {x : Nat} (hx : x < n.toNat) : 0 ≤ M 64 x ∧ M 64 x ≤ sum := by
  have := (smZ_mem h.2.2.2.1 x hx).1
  rw [h.2.2.1] at this
  exact ⟨h.2.2.2.1 x hx, this⟩
theorem wr_s {z : Int} (h : -100000 ≤ z ∧ z ≤ 100000) : wr z = z := wr_of ⟨by omega, by omega⟩
theorem LI.deal {M0 M : Mm} {n many sum st kd h k q : Int} (hL : LI M0 M n many sum st) (hn : 1 ≤ n ∧ n ≤ 5) (h23 : M 23 3 = n) (hkd : 0 ≤ kd ∧ kd ≤ 4) (hh : 0 ≤ h ∧ h < n) (hk : 0 ≤ k ∧ k < n) (hq : 1 ≤ q ∧ q ≤ 40) (hst : 0 ≤ st ∧ st < 12) :
    (deaA M kd h k q < 0 ∧ -4 ≤ deaA M kd h k q ∧ LI M0 (deaM M kd h k q) n many sum (st + 1)) ∨ (deaA M kd h k q = many ∧ LI M0 (deaM M kd h k q) n (many + 1) (sum + if kd = 0 then q else 0) (st + 1)) := by
  have hmem := fun x hx => hL.mem (x := x) hx
  obtain ⟨⟨h1, h1b, h1c⟩, h2, h3, h4, h5, ⟨h6, h6b⟩, h7, h8⟩ := hL
  have up : LI M0 M n many sum (st + 1) := ⟨⟨h1, h1b, by omega⟩, ⟨h2.1, by omega⟩, h3, h4, fun x hx => by have := h5 x hx; omega, ⟨h6, h6b⟩, h7, h8⟩
  unfold deaA deaM
  by_cases c1 : deB M kd h k q
  · rw [if_pos c1, if_pos c1]
    exact Or.inl ⟨by decide, by decide, up⟩
  rw [if_neg c1, if_neg c1]
  by_cases c2 : deC M kd h k
  · rw [if_pos c2, if_pos c2]
    exact Or.inl ⟨by decide, by decide, up⟩
  rw [if_neg c2, if_neg c2]
  by_cases c3 : deS M kd h (deO kd h k) q
  · rw [if_neg (not_not_intro c3), if_neg (not_not_intro c3), if_neg (by omega), if_neg (by omega)]
    refine Or.inr ⟨h1, ?_⟩
    obtain ⟨m, hm⟩ : ∃ m : Nat, m = many.toNat := ⟨_, rfl⟩
    have hm2 : (M 63 6).toNat = m := by rw [h1, hm]
    have hne : ¬ kd = 0 → ¬ k = h := fun z w => c2 ⟨z, Or.inr w⟩
    have eo : ∀ a, (a < 63 ∨ 69 < a) → enM M kd h (deO kd h k) q a = M a := fun a ha => enM_o ha
    have e64 : ∀ x, enM M kd h (deO kd h k) q 64 x = M 64 x + dhV kd h k q x := fun x => by
      unfold enM
      rw [seM_64 hkd, dhV_o]
      rw [stM_off (by decide), stM_off (by decide), stM_off (by decide), stM_off (by decide), stM_off (by decide)]
    have e65 : ∀ x, enM M kd h (deO kd h k) q 65 x = M 65 x + doV kd h k q x := fun x => by
      unfold enM
      rw [seM_65 hkd, doV_o]
      rw [stM_off (by decide), stM_off (by decide), stM_off (by decide), stM_off (by decide), stM_off (by decide)]
    have e63 : enM M kd h (deO kd h k) q 63 6 = many + 1 := by
      unfold enM
      rw [seM_o (by decide) (by decide), stM_at, h1]
    have e66 : ∀ j, enM M kd h (deO kd h k) q 66 j = if j = m then kd else M 66 j := fun j => by
      unfold enM
      rw [seM_o (by decide) (by decide), stM_off (by decide), stM_off (by decide), stM_off (by decide), stM_off (by decide), hm2]
      by_cases z : j = m
      · rw [if_pos z, z, stM_at]
      · rw [if_neg z, stM_ne _ _ (Or.inr z)]
    have e67 : ∀ j, enM M kd h (deO kd h k) q 67 j = if j = m then h else M 67 j := fun j => by
      unfold enM
      rw [seM_o (by decide) (by decide), stM_off (by decide), stM_off (by decide), stM_off (by decide), hm2]
      by_cases z : j = m
      · rw [if_pos z, z, stM_at]
      · rw [if_neg z, stM_ne _ _ (Or.inr z), stM_off (by decide)]
    have e68 : ∀ j, enM M kd h (deO kd h k) q 68 j = if j = m then deO kd h k else M 68 j := fun j => by
      unfold enM
      rw [seM_o (by decide) (by decide), stM_off (by decide), stM_off (by decide), hm2]
      by_cases z : j = m
      · rw [if_pos z, z, stM_at]
      · rw [if_neg z, stM_ne _ _ (Or.inr z), stM_off (by decide), stM_off (by decide)]
    have e69 : ∀ j, enM M kd h (deO kd h k) q 69 j = if j = m then q else M 69 j := fun j => by
      unfold enM
      rw [seM_o (by decide) (by decide), stM_off (by decide), hm2]
      by_cases z : j = m
      · rw [if_pos z, z, stM_at]
      · rw [if_neg z, stM_ne _ _ (Or.inr z), stM_off (by decide), stM_off (by decide), stM_off (by decide)]
    have hO : H8 (deO kd h k) := by unfold deO H8; split <;> omega
    have s0 : 0 ≤ (if kd = 0 then q else 0) ∧ (if kd = 0 then q else 0) ≤ 40 := by split <;> omega
    have b64 : ∀ x : Nat, x < n.toNat → wr (M 64 x) = M 64 x := fun x hx => wr_s (by have := hmem x hx; omega)
    refine ⟨⟨e63, by omega, by omega⟩, ⟨by omega, by omega⟩, ?_, fun x hx => ?_, fun x hx => ?_, ⟨fun x hx => ?_, fun x hx => ?_⟩, h7.led (fun a _ _ ha => eo a ha) ⟨by rw [e63]; omega, fun j => ?_⟩, fun a ha hb => by rw [eo a hb]; exact h8 a ha hb⟩
    · rw [show enM M kd h (deO kd h k) q 64 = fun x => M 64 x + dhV kd h k q x from funext e64, smZ_add, h3, dhV_sum (by omega) (by omega)]
    · rw [e64]
      have hx0 := h4 x hx
      rcases c3 with c3 | ⟨_, c3⟩
      · unfold dhV
        rw [if_pos c3]
        split <;> omega
      · by_cases z0 : kd = 0
        · unfold dhV
          rw [if_pos z0]
          split <;> omega
        have hd : deO kd h k = k := by unfold deO; rw [if_neg z0]
        rw [hd] at c3
        unfold dhV xgi xta
        rw [if_neg z0]
        by_cases z3 : kd = 3
        · rw [if_pos z3] at c3
          rw [if_pos z3, if_pos z3, b64 _ (by omega)] at *
          by_cases zx : x = k.toNat
          · subst zx
            rw [if_pos rfl]
            split <;> omega
          · rw [if_neg zx]
            split <;> omega
        · rw [if_neg z3] at c3
          rw [if_neg z3, if_neg z3, b64 _ (by omega)] at *
          by_cases zx : x = h.toNat
          · subst zx
            rw [if_pos rfl]
            split <;> omega
          · rw [if_neg zx]
            split <;> omega
    · rw [e65]
      have hx0 := h5 x hx
      unfold doV
      by_cases z0 : kd = 0
      · rw [if_pos z0]
        omega
      · rw [if_neg z0]
        have hd : deO kd h k = k := by unfold deO; rw [if_neg z0]
        rcases c3 with c3 | ⟨c3, _⟩
        · exact absurd c3 z0
        rw [hd] at c3
        by_cases z4 : kd = 4
        · have w65 : wr (M 65 (h * 8 + k).toNat) = M 65 (h * 8 + k).toNat := wr_s (by have := h5 (h * 8 + k).toNat (by omega); omega)
          rw [w65] at c3
          have a1 : ¬ kd = 1 := by omega
          have a3 : ¬ kd = 3 := by omega
          rw [if_neg a1, if_neg a3, if_pos z4]
          by_cases zx : x = (8 * h + k).toNat
          · have : (h * 8 + k).toNat = x := by omega
            rw [this] at c3
            rw [if_pos zx]
            split <;> omega
          · rw [if_neg zx]
            split <;> omega
        · rw [if_neg z4]
          (repeat' split) <;> omega
    · rw [e64, h6 x hx, show (many + 1).toNat = m + 1 by omega, smZ, ← hm]
      rw [smZ_eq (f := enH (enM M kd h (deO kd h k) q) x) (g := enH M x) (fun j hj => by unfold enH; rw [e66, e67, e68, e69, if_neg (by omega), if_neg (by omega), if_neg (by omega), if_neg (by omega)])]
      unfold enH
      rw [e66, e67, e68, e69, if_pos rfl, if_pos rfl, if_pos rfl, if_pos rfl, dhV_o]
    · rw [e65, h6b x hx, show (many + 1).toNat = m + 1 by omega, smZ, ← hm]
      rw [smZ_eq (f := enO (enM M kd h (deO kd h k) q) x) (g := enO M x) (fun j hj => by unfold enO; rw [e66, e67, e68, e69, if_neg (by omega), if_neg (by omega), if_neg (by omega), if_neg (by omega)])]
      unfold enO
      rw [e66, e67, e68, e69, if_pos rfl, if_pos rfl, if_pos rfl, if_pos rfl, doV_o]
    · rw [e66, e67, e68, e69]
      have := h7.d.2 j
      by_cases z : j = m
      · rw [if_pos z, if_pos z, if_pos z, if_pos z]
        exact ⟨hkd, ⟨by omega, by omega⟩, hO, by omega, by omega⟩
      · rw [if_neg z, if_neg z, if_neg z, if_neg z]
        exact this
  · rw [if_pos c3, if_pos c3]
    exact Or.inl ⟨by decide, by decide, up⟩
/-- all DEALS undone -/
theorem LI.undo {M0 M : Mm} {n many sum st : Int} (hL : LI M0 M n many sum st) (hst : st ≤ 12) : undA M 0 = many ∧ (undM M 0 63 6 = 0 ∧ (∀ x : Nat, x < 8 → undM M 0 64 x = 0) ∧ ∀ x : Nat, x < 64 → undM M 0 65 x = 0) ∧ CI (undM M 0) ∧ EqM M0 (undM M 0) := by
  obtain ⟨⟨h1, h1b, h1c⟩, h2, h3, h4, h5, ⟨h6, h6b⟩, h7, h8⟩ := hL
  have hc : ¬ ((0 : Int) < 0 ∨ M 63 6 < 0) := by omega
  unfold undA undM
  rw [if_neg hc, if_neg hc]
  have hu := unM_v (q := 0) (M 63 6 - 0).toNat M (fun j => (h7.d.2 j).1)
  have hk : (M 63 6 - 0).toNat = many.toNat := by rw [h1]; omega
  rw [hk] at hu ⊢
  obtain ⟨u1, u2, u3, u4⟩ := hu
  have z63 : unM M 0 many.toNat 63 6 = 0 := by
    rw [u4]
    split
    · omega
    · rfl
  refine ⟨by rw [h1]; omega, ⟨z63, fun x hx => ?_, fun x hx => ?_⟩, h7.led (fun a h1 h2 h3 => funext fun b => u3 a b (by omega) (by omega) (by omega)) ⟨by rw [z63]; decide, fun j => ?_⟩, fun a ha hb => ?_⟩
  · rw [u1 x, h6 x hx, smZ_eq (f := duH M 0 x) (g := fun j => -enH M x j) (fun j _ => by unfold duH enH; rw [show (0 : Int).toNat + j = j by simp, dhV_neg]), smZ_neg]
    omega
  · rw [u2 x, h6b x hx, smZ_eq (f := duO M 0 x) (g := fun j => -enO M x j) (fun j _ => by unfold duO enO; rw [show (0 : Int).toNat + j = j by simp, doV_neg]), smZ_neg]
    omega
  · rw [u3 66 j (by decide) (by decide) (by omega), u3 67 j (by decide) (by decide) (by omega), u3 68 j (by decide) (by decide) (by omega), u3 69 j (by decide) (by decide) (by omega)]
    exact h7.d.2 j
  · rw [← h8 a ha hb]
    exact funext fun b => u3 a b (by omega) (by omega) (by omega)
/-! the digest -/
theorem mxO_eq {M M2 : Mm} {i : Int} (hi : 0 ≤ i ∧ i < 8) (h65 : ∀ x : Nat, x < 64 → M2 65 x = M 65 x) (t : Int) : ∀ k : Nat, k ≤ 8 → mxO M2 i t k = mxO M i t k
  | 0, _ => rfl
  | k + 1, hk => by
    rw [mxO, mxO, mxO_eq hi h65 t k (by omega), h65 _ (by omega)]
theorem mxH_eq {M M2 : Mm} (h23 : M2 23 = M 23) (h24 : M2 24 = M 24) (h3 : 0 ≤ M 23 3 ∧ M 23 3 ≤ 8) (h64 : ∀ x : Nat, x < 8 → M2 64 x = M 64 x) (h65 : ∀ x : Nat, x < 64 → M2 65 x = M 65 x) (t : Int) : ∀ k : Nat, k ≤ 8 → mxH M2 t k = mxH M t k
  | 0, _ => rfl
  | k + 1, hk => by
    have ep : plc M2 23 (k : Int) = plc M 23 (k : Int) := by unfold plc; rw [h23, h24]
    rw [mxH, mxH, mxH_eq h23 h24 h3 h64 h65 t k (by omega), h23, ep, h64 k (by omega)]
    exact mxO_eq (by omega) h65 _ _ (by omega)
theorem mxN_eq {M M2 : Mm} (e : ∀ a, 27 ≤ a → a ≤ 34 → M2 a = M a) (t : Int) : ∀ k : Nat, k ≤ 8 → mxN M2 t k = mxN M t k
  | 0, _ => rfl
  | k + 1, hk => by
    rw [mxN, mxN, mxN_eq e t k (by omega), e (27 + k) (by omega) (by omega)]
theorem mxR_eq {M M2 : Mm} {o : Nat} {q : Nat} (e : ∀ a, o ≤ a → a < o + 2 * q → M2 a = M a) (t : Int) : ∀ k : Nat, k ≤ q → mxR M2 o t k = mxR M o t k
  | 0, _ => rfl
  | k + 1, hk => by
    rw [mxR, mxR, mxR_eq e t k (by omega), e (o + 2 * k + 1) (by omega) (by omega), e (o + 2 * k) (by omega) (by omega)]
theorem bsum_eq {p p2 : Nat → Bool} : ∀ k : Nat, (∀ j, j < k → p j = p2 j) → bsum p k = bsum p2 k
  | 0, _ => rfl
  | k + 1, h => by
    rw [bsum, bsum, bsum_eq k (fun j hj => h j (by omega)), h k (by omega)]
theorem bitsK_eq {M M2 : Mm} (e : ∀ a, 23 ≤ a → a ≤ 34 → M2 a = M a) (h4 : 0 ≤ M 23 4 ∧ M 23 4 ≤ 8) (k : Int) : bitsK M2 k = bitsK M k := by
  unfold bitsK
  rw [e 23 (by decide) (by decide)]
  exact bsum_eq _ (fun j hj => by unfold kdB; rw [e (27 + j) (by omega) (by omega)])
theorem ntV_eq {M M2 : Mm} {o : Nat} {q : Nat} (e : ∀ a, o ≤ a → a < o + 2 * q → M2 a = M a) : ∀ k : Nat, k ≤ q → ntV M2 o k = ntV M o k
  | 0, _ => rfl
  | k + 1, hk => by
    rw [ntV, ntV, ntV_eq e k (by omega), e (o + 2 * k) (by omega) (by omega)]
theorem dig_eq {M M2 : Mm} (hc : CI M) (e : ∀ a, 3 ≤ a → a ≤ 34 → M2 a = M a) (h63 : M2 63 6 = M 63 6) (h64 : ∀ x : Nat, x < 8 → M2 64 x = M 64 x) (h65 : ∀ x : Nat, x < 64 → M2 65 x = M 65 x) (h70 : M 70 2 = 0 ∧ M2 70 2 = 0) (h73 : M 73 2 = 0 ∧ M2 73 2 = 0) : digV M2 = digV M := by
  have hl := hc.l
  have hl : 0 ≤ M 23 3 ∧ M 23 3 ≤ 8 ∧ 0 ≤ M 23 4 ∧ M 23 4 ≤ 8 := hl
  have e23 := e 23 (by decide) (by decide)
  have ec : (fun w : Nat => cntV M2 (w : Int)) = fun w : Nat => cntV M (w : Int) := by
    funext w
    unfold cntV
    rw [e23, bitsK_eq (fun a h1 h2 => e a (by omega) h2) hl.2.2, h63, h70.1, h70.2, h73.1, h73.2, ntV_eq (o := 3) (q := 6) (fun a h1 h2 => e a (by omega) (by omega)) 6 (by decide), ntV_eq (o := 15) (q := 4) (fun a h1 h2 => e a (by omega) (by omega)) 4 (by decide)]
  unfold digV
  rw [ec, e23, h70.1, h70.2, h73.1, h73.2]
  rw [mxH_eq e23 (e 24 (by decide) (by decide)) ⟨hl.1, hl.2.1⟩ h64 h65 _ _ (by omega), mxN_eq (fun a h1 h2 => e a (by omega) (by omega)) _ _ (by omega)]
  show mxR M2 15 (mxR M2 3 _ 6) 4 = mxR M 15 (mxR M 3 _ 6) 4
  rw [mxR_eq (o := 3) (q := 6) (fun a h1 h2 => e a (by omega) (by omega)) _ 6 (by decide), mxR_eq (o := 15) (q := 4) (fun a h1 h2 => e a (by omega) (by omega)) _ 4 (by decide)]
  rfl
/-! who is owed most, where nobody is -/
theorem otV_0 {M : Mm} (h : ∀ x : Nat, x < 64 → M 65 x = 0) {k : Int} (hk : 0 ≤ k ∧ k < 8) : otV M k = 0 := by
  unfold otV
  rw [smZ_0 (fun j hj => h _ (by omega))]
  exact wr_s (by decide)
theorem rcF_0 {M : Mm} (h : ∀ x : Nat, x < 64 → M 65 x = 0) : ∀ k : Nat, k < 8 → rcF M k = 0
  | 0, _ => rfl
  | k + 1, hk => by
    rw [rcF, rcF_0 h k (by omega), otV_0 h (by decide), otV_0 h (by omega), if_neg (by decide)]
/-! the pocket -/
def PK (M0 M : Mm) (n : Int) (k : Nat) : Prop := (M 70 2 = (k : Int) ∧ ∀ j : Nat, j < k → M 71 j = (j : Int) % n ∧ M 72 j = 10 + (j : Int)) ∧ CI M ∧ ∀ a, a ≠ 0 → (a < 70 ∨ 72 < a) → M a = M0 a
theorem PK.td {M0 M : Mm} {n : Int} {k : Nat} (h : PK M0 M n k) (v : Int) : PK M0 (tdM M v) n k := by
  have e : ∀ a, a ≠ 0 → tdM M v a = M a := fun a ha => by unfold tdM; exact stM_off ha
  exact ⟨⟨by rw [e 70 (by decide)]; exact h.1.1, by rw [e 71 (by decide), e 72 (by decide)]; exact h.1.2⟩, h.2.1.td v, fun a h1 h2 => by rw [e a h1]; exact h.2.2 a h1 h2⟩
theorem PK.add {M0 M : Mm} {n : Int} {k : Nat} (h : PK M0 M n k) (hn : 1 ≤ n ∧ n ≤ 5) (h23 : M 23 3 = n) (hk : k < 6) : pocA M ((k : Int) % n) (10 + (k : Int)) = (k : Int) + 1 ∧ PK M0 (pocM M ((k : Int) % n) (10 + (k : Int))) n (k + 1) := by
  obtain ⟨⟨h1, h2⟩, h3, h4⟩ := h
  have m1 := Int.emod_nonneg (k : Int) (show n ≠ 0 by omega)
  have m2 := Int.emod_lt_of_pos (k : Int) (show 0 < n by omega)
  have hb : ¬ poB M ((k : Int) % n) (10 + (k : Int)) := by
    unfold poB HS
    rw [h23]
    omega
  unfold pocA pocM
  rw [if_neg hb, if_neg (by omega), if_neg hb, if_neg (by omega)]
  refine ⟨by rw [h1], ?_⟩
  unfold adM
  rw [if_pos (by omega)]
  have hks : (M 70 2).toNat = k := by omega
  rw [hks]
  have e70 : stM (stM (stM M (70 + 1) k ((k : Int) % n)) (70 + 2) k (10 + (k : Int))) 70 2 (M 70 2 + 1) 70 2 = (k : Int) + 1 := by rw [stM_at, h1]
  have e71 : ∀ j, stM (stM (stM M (70 + 1) k ((k : Int) % n)) (70 + 2) k (10 + (k : Int))) 70 2 (M 70 2 + 1) 71 j = if j = k then (k : Int) % n else M 71 j := fun j => by
    rw [stM_off (by decide), stM_off (by decide)]
    by_cases z : j = k
    · rw [if_pos z, z, stM_at]
    · rw [if_neg z, stM_ne _ _ (Or.inr z)]
  have e72 : ∀ j, stM (stM (stM M (70 + 1) k ((k : Int) % n)) (70 + 2) k (10 + (k : Int))) 70 2 (M 70 2 + 1) 72 j = if j = k then 10 + (k : Int) else M 72 j := fun j => by
    rw [stM_off (by decide)]
    by_cases z : j = k
    · rw [if_pos z, z, stM_at]
    · rw [if_neg z, stM_ne _ _ (Or.inr z), stM_off (by decide)]
  have eo : ∀ a, (a < 70 ∨ 72 < a) → stM (stM (stM M (70 + 1) k ((k : Int) % n)) (70 + 2) k (10 + (k : Int))) 70 2 (M 70 2 + 1) a = M a := fun a ha => by
    rw [stM_off (by omega), stM_off (by omega), stM_off (by omega)]
  refine ⟨⟨by rw [e70]; omega, fun j hj => ?_⟩, h3.prs (fun a ha hb => eo a (by omega)) ⟨by rw [e70]; omega, fun j => ?_⟩ ⟨by rw [eo 73 (by decide)]; exact h3.p73.1, fun j => ?_⟩, fun a ha hb => by rw [eo a (by omega)]; exact h4 a ha hb⟩
  · rw [e71, e72]
    by_cases z : j = k
    · rw [if_pos z, if_pos z, z]
      exact ⟨rfl, rfl⟩
    · rw [if_neg z, if_neg z]
      exact h2 j (by omega)
  · show (0 ≤ stM _ 70 2 _ 71 j ∧ stM _ 70 2 _ 71 j ≤ 7) ∧ (0 ≤ stM _ 70 2 _ 72 j ∧ stM _ 70 2 _ 72 j ≤ 99)
    rw [e71, e72]
    have : (0 ≤ M 71 j ∧ M 71 j ≤ 7) ∧ (0 ≤ M 72 j ∧ M 72 j ≤ 99) := h3.p70.2 j
    by_cases z : j = k
    · rw [if_pos z, if_pos z]
      omega
    · rw [if_neg z, if_neg z]
      exact this
  · rw [eo (73 + 1) (by decide), eo (73 + 2) (by decide)]
    exact h3.p73.2 j
theorem PK.take {M0 M : Mm} {n : Int} {k : Nat} (h : PK M0 M n (k + 1)) (hn : 1 ≤ n ∧ n ≤ 5) (h23 : M 23 3 = n) (hk : k < 6) : finA M ((k : Int) % n) = 0 ∧ finM M ((k : Int) % n) 0 15 = 10 + (k : Int) ∧ PK M0 (finM M ((k : Int) % n)) n k := by
  obtain ⟨⟨h1, h2⟩, h3, h4⟩ := h
  have m1 := Int.emod_nonneg (k : Int) (show n ≠ 0 by omega)
  have m2 := Int.emod_lt_of_pos (k : Int) (show 0 < n by omega)
  have hh : ¬ ¬ HS M ((k : Int) % n) := not_not_intro ⟨m1, by rw [h23]; exact m2⟩
  have hp : finP M ((k : Int) % n) = (k : Int) := by
    unfold finP
    rw [show (M 70 2).toNat = k + 1 by omega, loM, if_pos (h2 k (by omega)).1]
  unfold finA finM
  rw [if_neg hh, if_neg hh, hp, if_neg (by omega), if_neg (by omega), h1]
  have e70 : M 70 2 - 1 = (k : Int) := by omega
  have e72 : M 72 (k : Int).toNat = 10 + (k : Int) := by rw [Int.toNat_natCast]; exact (h2 k (by omega)).2
  rw [e72]
  have et : ∀ a, a ≠ 0 → tdM M (10 + (k : Int)) a = M a := fun a ha => by unfold tdM; exact stM_off ha
  have es : toM (tdM M (10 + (k : Int))) 70 (k : Int) 70 2 = (k : Int) := by
    unfold toM
    rw [stM_at, et 70 (by decide), e70]
  have eo : ∀ a, a ≠ 70 → toM (tdM M (10 + (k : Int))) 70 (k : Int) a = tdM M (10 + (k : Int)) a := fun a ha => by
    unfold toM
    rw [stM_off ha, et 70 (by decide), e70]
    funext b
    unfold toP
    rw [if_neg (by omega)]
  refine ⟨by omega, ?_, ⟨⟨es, fun j hj => ?_⟩, (h3.td (10 + (k : Int))).prs (fun a ha hb => eo a (by omega)) ⟨by rw [es]; omega, fun j => ?_⟩ ⟨by rw [eo 73 (by decide)]; exact (h3.td _).p73.1, fun j => ?_⟩, fun a ha hb => by rw [eo a (by omega), et a ha]; exact h4 a ha hb⟩⟩
  · rw [eo 0 (by decide)]
    exact stM_at _ _ _ _
  · rw [eo 71 (by decide), eo 72 (by decide), et 71 (by decide), et 72 (by decide)]
    exact h2 j (by omega)
  · rw [eo (70 + 1) (by decide), eo (70 + 2) (by decide)]
    exact (h3.td _).p70.2 j
  · rw [eo (73 + 1) (by decide), eo (73 + 2) (by decide)]
    exact (h3.td _).p73.2 j

