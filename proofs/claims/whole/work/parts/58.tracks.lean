theorem wap_self (x : Int) : wap x x = 0 := by
  unfold wap
  omega
theorem Rl.cg {M : Mm} (h : Rl M) {a w k v : Int} (ha : HS M a) (hk : HS M k) : (xcgB M a w k v = true) ↔ cgP M a w k v := by
  have e1 := h.pl ha
  have e2 := h.pl hk
  have w0 : a = k → wap (plc M 23 a) (plc M 23 k) = 0 := fun e => by rw [e]; exact wap_self _
  unfold xcgB cgP
  rw [e1, e2, decide_eq_true_iff]
  generalize wap (plc M 23 a) (plc M 23 k) = x at *
  by_cases q : w = v
  · rw [if_pos q]
    constructor
    · exact fun z => Or.inl z
    · rintro (z | z)
      · exact z
      · exfalso
        rw [if_pos (by omega)] at z
        omega
  · rw [if_neg q]
    by_cases q2 : w < v
    · rw [if_pos q2, if_neg (by omega)]
      constructor
      · intro z
        exact Or.inr (by omega)
      · rintro (z | z)
        · have := w0 z
          omega
        · omega
    · rw [if_neg q2, if_pos (by omega)]
      constructor
      · intro z
        exact Or.inr z
      · rintro (z | z)
        · have := w0 z
          omega
        · exact z
theorem xtz_iff {M : Mm} : ∀ {k : Nat}, (xtz M k = true) ↔ ∃ j, j < k ∧ M 103 j = 0
  | 0 => by simp [xtz]
  | k + 1 => by
    rw [xtz, Bool.or_eq_true, xtz_iff (k := k), decide_eq_true_iff]
    constructor
    · rintro (⟨j, h1, h2⟩ | h)
      · exact ⟨j, by omega, h2⟩
      · exact ⟨k, by omega, h⟩
    · rintro ⟨j, h1, h2⟩
      by_cases q : j = k
      · rw [q] at h2
        exact Or.inr h2
      · exact Or.inl ⟨j, by omega, h2⟩
theorem Rl.st9 {M : Mm} (h : Rl M) (q : 0 < M 23 3) : HS M (M 23 5) := by
  have h1 := h.1.st
  have h2 := h.2.1.2.2.2.2.2
  exact ⟨h1.1, by omega⟩
theorem Rl.cb {M : Mm} (h : Rl M) {a w : Int} (ha : HS M a) : (xcbB M a w = true) ↔ ((∃ j, j < (M 73 2).toNat ∧ M 75 j = 0) ∨ cgP M a w (M 23 5) 0) := by
  have hP := h.2.2.1.2.1
  have hm := h.m
  have hs := h.st9 (by have := ha.1; have := ha.2; omega)
  unfold xcbB
  rw [Bool.or_eq_true, xtz_iff, hm.2.2, h.cg ha hs, hP.1.2]
  constructor
  · rintro (⟨j, h1, h2⟩ | z)
    · exact Or.inl ⟨j, h1, by rw [← (hP.2.2 j (by omega)).2.1]; exact h2⟩
    · exact Or.inr z
  · rintro (⟨j, h1, h2⟩ | z)
    · exact Or.inl ⟨j, h1, by rw [(hP.2.2 j (by omega)).2.1]; exact h2⟩
    · exact Or.inr z
theorem Rl.ga {M : Mm} (h : Rl M) {a w : Int} (ha : HS M a) : ∀ {k : Nat}, (k : Int) ≤ M 73 2 → ((xgA M a w k = true) ↔ agP M a w k)
  | 0, _ => by
    show (xcbB M a w = true) ↔ _
    rw [h.cb ha]
    constructor
    · exact fun z => ⟨fun j hj => absurd hj (Nat.not_lt_zero j), z⟩
    · exact fun z => z.2
  | k + 1, hk => by
    have hP := h.2.2.1.2.1
    have h74 := h.1.p73
    have hj := hP.2.2 k (by omega)
    have hs : HS M (M 74 k) := ⟨(h74.2 k).1.1, hj.2.2.1⟩
    rw [xgA, Bool.and_eq_true, h.ga ha (k := k) (by omega), hj.1, hj.2.1, h.cg ha hs]
    constructor
    · rintro ⟨⟨z1, z2⟩, z3⟩
      refine ⟨fun j hjk => ?_, z2⟩
      by_cases q : j = k
      · rw [q]; exact z3
      · exact z1 j (by omega)
    · rintro ⟨z1, z2⟩
      exact ⟨⟨fun j hjk => z1 j (by omega), z2⟩, z1 k (by omega)⟩
theorem pr_could {M : Mm} (h : Rl M) (w : Int) : xcuA M w = couA M w := by
  have hm := h.m
  have hP := h.2.2.1.2.1
  have hl := h.1.l
  have hp := h.1.p73
  unfold xcuA couA
  by_cases c : 0 ≤ w ∧ w < 28
  · rw [if_neg (by omega), if_neg (not_not_intro c), hm.1]
    refine congrArg (fun z : Nat => (z : Int)) (bsum_congr (fun i hi => ?_))
    unfold xcuB couB
    have := h.ga (a := (i : Int)) (w := w) ⟨by omega, by omega⟩ (k := (M 73 2).toNat) (by omega)
    rw [hP.1.2]
    by_cases q : agP M (i : Int) w (M 73 2).toNat
    · rw [decide_eq_true q]
      exact this.mpr q
    · rw [decide_eq_false q]
      cases hz : xgA M (i : Int) w (M 73 2).toNat with
      | false => rfl
      | true => exact absurd (this.mp hz) q
  · rw [if_pos (by omega), if_pos c]
theorem Rl.lr {M : Mm} (h : Rl M) : ∀ (f i : Nat), ((i + f : Nat) : Int) ≤ M 73 2 → xlF M f i = lrF M f i
  | 0, _, _ => rfl
  | f + 1, i, hi => by
    have hP := h.2.2.1.2.1
    have h74 := h.1.p73
    have hj := hP.2.2 i (by omega)
    have hs : HS M (M 74 i) := ⟨(h74.2 i).1.1, hj.2.2.1⟩
    have := h.ga (a := M 74 i) (w := M 75 i) hs (k := i) (by omega)
    rw [xlF, lrF, hj.1, hj.2.1, h.lr f (i + 1) (by omega)]
    by_cases q : agP M (M 74 i) (M 75 i) i
    · rw [if_pos q, if_pos (this.mpr q)]
    · rw [if_neg q, if_neg (fun z => q (this.mp z))]
theorem pr_liar {M : Mm} (h : Rl M) : xliA M = liaA M := by
  have hp := h.1.p73
  unfold xliA liaA
  rw [h.2.2.1.2.1.1.2]
  exact h.lr _ 0 (by omega)
theorem smZ_zero {f : Nat → Int} {n : Nat} : ∀ {k : Nat}, n ≤ k → (∀ j, n ≤ j → j < k → f j = 0) → smZ f k = smZ f n
  | 0, h, _ => by rw [show n = 0 by omega]
  | k + 1, h, e => by
    by_cases q : n = k + 1
    · rw [q]
    · rw [smZ, smZ_zero (k := k) (by omega) (fun j h1 h2 => e j h1 (by omega)), e k (by omega) (by omega)]
      omega
theorem Rl.ot {M : Mm} (h : Rl M) {k : Int} (hk : HS M k) : wr (xrT M k (M 77 10).toNat) = otV M k := by
  have hl := h.1.l
  have hL := h.2.2.1.1
  have hk0 := hk.1
  have hk1 := hk.2
  unfold xrT otV
  rw [h.m.1, smZ_zero (f := fun j => M 65 ((j : Int) * 8 + k).toNat) (n := (M 23 3).toNat) (k := 8) (by omega) (fun j h1 h2 => by
    have := hL.1.2.2.2 j k.toNat h2 (by omega) (Or.inl (by omega))
    show M 65 ((j : Int) * 8 + k).toNat = 0
    rw [show ((j : Int) * 8 + k).toNat = 8 * j + k.toNat by omega]
    exact this)]
  congr 1
  refine smZ_eq (fun j hj => ?_)
  rw [show 8 * (j : Int) + k = (j : Int) * 8 + k by omega]
  exact hL.1.2.1 _ (by omega)
theorem Rl.rf {M : Mm} (h : Rl M) : ∀ {k : Nat}, ((k + 1 : Nat) : Int) ≤ M 23 3 → xrF M (M 77 10).toNat (k + 1) = (rcF M k, otV M (rcF M k))
  | 0, hk => by
    have e : xrF M (M 77 10).toNat (0 + 1) = (((0 : Nat) : Int), wr (xrT M ((0 : Nat) : Int) (M 77 10).toNat)) := by
      rw [xrF]
      exact if_pos (Or.inl rfl)
    rw [e, h.ot (k := ((0 : Nat) : Int)) ⟨by omega, by omega⟩]
    rfl
  | k + 1, hk => by
    rw [xrF, h.rf (k := k) (by omega), h.ot (k := ((k + 1 : Nat) : Int)) ⟨by omega, by omega⟩]
    have hb := rcF_b M k
    rw [rcF]
    by_cases q : otV M (rcF M k) < otV M ((k + 1 : Nat) : Int)
    · rw [if_pos (Or.inr q), if_pos q]
    · rw [if_neg (by simp only []; omega), if_neg q]
theorem pr_rich {M : Mm} (h : Rl M) : xriA (ricM M) = ricA M ∧ Rl (xriM (ricM M)) := by
  have hm := h.m
  have hl := h.1.l
  unfold xriA ricA xriM ricM
  by_cases c : M 23 3 = 0
  · have c2 : M 77 10 = 0 := by omega
    simp only [if_pos c, if_pos c2]
    exact ⟨trivial, h⟩
  · have hk : ∀ v, tdM M v 77 10 = M 77 10 := fun v => by rw [tdM_o (by decide)]
    have hx : ∀ v n k, xrF (tdM M v) n k = xrF M n k := fun v n k => by
      induction k with
      | zero => rfl
      | succ k ih =>
        have : xrT (tdM M v) (k : Int) n = xrT M (k : Int) n := by unfold xrT; rw [tdM_o (by decide)]
        rw [xrF, xrF, ih, this]
    have hr := h.rf (k := (M 23 3).toNat - 1) (by omega)
    rw [show (M 23 3).toNat - 1 + 1 = (M 77 10).toNat by omega] at hr
    have c2 : ¬ M 77 10 = 0 := by omega
    simp only [if_neg c, hk, hx, hr, if_neg c2]
    exact ⟨rfl, h.tell _⟩
