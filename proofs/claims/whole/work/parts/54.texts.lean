theorem RlO.of {M M2 : Mm} (h : RlO M) (e : ∀ a, a = 0 ∨ a = 76 ∨ a = 78 → M2 a = M a) (s : ∀ b, b ≤ 4 → M2 77 b = M 77 b) : RlO M2 := by
  unfold RlO
  rw [e 0 (by decide), e 76 (by decide), e 78 (by decide), s 2 (by decide), s 0 (by decide), s 3 (by decide), s 4 (by decide)]
  exact h
theorem Rl.c60 {M : Mm} (h : Rl M) {r : Int} (hr : R6 r) : -1 ≤ M (3 + 2 * r.toNat) 1 ∧ M (3 + 2 * r.toNat) 1 ≤ 60 := by
  have := (h.1.rw (3 + 2 * r.toNat) (by unfold isRowO; omega)).1
  unfold capO at this
  rw [if_pos (by omega)] at this
  omega
theorem Rl.n60 {M : Mm} (h : Rl M) {r : Nat} (hr : r < 6) : -1 ≤ M (3 + 2 * r) 1 ∧ M (3 + 2 * r) 1 ≤ 60 := by
  have := (h.1.rw (3 + 2 * r) (by unfold isRowO; omega)).1
  unfold capO at this
  rw [if_pos (by omega)] at this
  omega
theorem Rl.n120 {M : Mm} (h : Rl M) {r : Nat} (hr : r < 4) : -1 ≤ M (15 + 2 * r) 1 ∧ M (15 + 2 * r) 1 ≤ 120 := by
  have := (h.1.rw (15 + 2 * r) (by unfold isRowO; omega)).1
  unfold capO at this
  rw [if_neg (by omega)] at this
  omega
theorem Rl.copy {M : Mm} (h : Rl M) {r i t j q : Int} (hr : R6 r) (ht : R6 t) (hq : 0 ≤ q) (h1 : 0 ≤ i ∧ i + q ≤ M (3 + 2 * r.toNat) 1) (h2 : 0 ≤ j ∧ j + q ≤ M (3 + 2 * t.toNat) 1) : Rl (xcpM (cpM M (3 + 2 * r.toNat + 1) (3 + 2 * t.toNat + 1) i.toNat j.toNat q.toNat) r i t j q) := by
  have cr := h.c60 hr
  have ct := h.c60 ht
  have k80 : cpM M (3 + 2 * r.toNat + 1) (3 + 2 * t.toNat + 1) i.toNat j.toNat q.toNat 80 = M 80 := by
    funext b
    unfold cpM
    rw [if_neg (by omega)]
  have e : ∀ a b : Nat, ¬ (a = 3 + 2 * t.toNat + 1 ∧ j ≤ (b : Int) ∧ (b : Int) < j + q) → ¬ (a = 80 ∧ 60 * t + j ≤ (b : Int) ∧ (b : Int) < 60 * t + j + q) → a ≠ 81 → xcpM (cpM M (3 + 2 * r.toNat + 1) (3 + 2 * t.toNat + 1) i.toNat j.toNat q.toNat) r i t j q a b = M a b := fun a b g1 g2 g3 => by
    unfold xcpM cyQ
    rw [if_neg g2, cyP_off _ _ _ _ g3]
    unfold cpM
    rw [if_neg (by omega)]
  have k1 : ∀ b : Nat, j ≤ (b : Int) ∧ (b : Int) < j + q → xcpM (cpM M (3 + 2 * r.toNat + 1) (3 + 2 * t.toNat + 1) i.toNat j.toNat q.toNat) r i t j q (3 + 2 * t.toNat + 1) b = M (3 + 2 * r.toNat + 1) (i + ((b : Int) - j)).toNat := fun b hb => by
    unfold xcpM cyQ
    rw [if_neg (by omega), cyP_off _ _ _ _ (by omega)]
    unfold cpM
    rw [if_pos (by omega)]
    congr 1
    omega
  have k2 : ∀ b : Nat, 60 * t + j ≤ (b : Int) ∧ (b : Int) < 60 * t + j + q → xcpM (cpM M (3 + 2 * r.toNat + 1) (3 + 2 * t.toNat + 1) i.toNat j.toNat q.toNat) r i t j q 80 b = M (3 + 2 * r.toNat + 1) (i + ((b : Int) - (60 * t + j))).toNat := fun b hb => by
    unfold xcpM cyQ
    rw [if_pos ⟨rfl, hb⟩, k80]
    have := h.r2 (i := i + ((b : Int) - (60 * t + j))) hr (by omega)
    exact this
  refine h.row (fun a z => by funext b; exact e a b (by omega) (by omega) (by omega)) (fun b z => e 77 b (by omega) (by omega) (by omega)) ?_ ?_ ?_ (h.2.2.1.2.2.of (fun a z => by funext b; exact e a b (by omega) (by omega) (by omega)) (fun b z => e 77 b (by omega) (by omega) (by omega)))
  · intro r2 hr2
    have h0 := h.2.1.1 r2 hr2
    have c2 := h.n60 hr2
    rw [e 79 r2 (by omega) (by omega) (by omega), e (3 + 2 * r2) 1 (by omega) (by omega) (by omega)]
    refine ⟨h0.1, fun b hb => ?_⟩
    by_cases z : r2 = t.toNat ∧ j ≤ (b : Int) ∧ (b : Int) < j + q
    · rw [z.1, k1 b z.2, k2 _ (by omega)]
      congr 1
      omega
    · rw [e 80 _ (by omega) (by omega) (by omega), e (3 + 2 * r2 + 1) b (by omega) (by omega) (by omega)]
      exact h0.2 b hb
  · intro r2 hr2
    have h0 := h.2.2.2.1.1.2.1 r2 hr2
    rw [e 79 r2 (by omega) (by omega) (by omega)]
    refine ⟨h0.1, fun b hb => ?_⟩
    by_cases z : 60 * t + j ≤ ((60 * r2 + b : Nat) : Int) ∧ ((60 * r2 + b : Nat) : Int) < 60 * t + j + q
    · rw [k2 _ z]
      exact (h.1.rw (3 + 2 * r.toNat) (by unfold isRowO; omega)).2 _
    · rw [e 80 _ (by omega) (by omega) (by omega)]
      exact h0.2 b hb
  · intro o ho
    have h0 := h.1.rw o ho
    rw [e o 1 (by omega) (by omega) (by omega)]
    refine ⟨h0.1, fun b => ?_⟩
    by_cases z : o + 1 = 3 + 2 * t.toNat + 1 ∧ j ≤ (b : Int) ∧ (b : Int) < j + q
    · rw [z.1, k1 b z.2]
      exact (h.1.rw (3 + 2 * r.toNat) (by unfold isRowO; omega)).2 _
    · rw [e (o + 1) b z (by omega) (by omega)]
      exact h0.2 b
theorem pr_copy {M : Mm} (h : Rl M) (r i t j q : Int) : xcopyA (copyM M r i t j q) r i t j q = copyA M r i t j q ∧ Rl (xcopyM (copyM M r i t j q) r i t j q) := by
  unfold xcopyA copyA xcopyM copyM
  by_cases c : ¬ R6 r ∨ ¬ R6 t
  · simp only [if_pos c]
    exact ⟨trivial, h⟩
  · have er := h.r1 (r := r) (by omega)
    have et := h.r1 (r := t) (by omega)
    simp only [if_neg c]
    by_cases c1 : q < 0
    · simp only [if_pos c1]
      exact ⟨trivial, h.meet 5 (by decide)⟩
    · simp only [if_neg c1]
      have kf : ∀ f, fdM M f 79 = M 79 := fun f => fdM_o (by decide) (by decide)
      by_cases c2 : M (3 + 2 * r.toNat) 1 < 0 ∨ M (3 + 2 * t.toNat) 1 < 0
      · simp only [if_pos c2, kf, er, et]
        exact ⟨trivial, h.meet 1 (by decide)⟩
      · simp only [if_neg c2]
        by_cases c3 : ¬ hpR M (3 + 2 * r.toNat) i q ∨ ¬ hpR M (3 + 2 * t.toNat) j q
        · have g3 : ¬ hpX (fdM M 2) r i q ∨ ¬ hpX (fdM M 2) t j q := by unfold hpX; rw [kf, er, et]; omega
          simp only [if_pos c3, kf, er, et, if_neg c2, if_pos g3]
          exact ⟨trivial, h.meet 2 (by decide)⟩
        · have kc : cpM M (3 + 2 * r.toNat + 1) (3 + 2 * t.toNat + 1) i.toNat j.toNat q.toNat 79 = M 79 := by
            funext b
            unfold cpM
            rw [if_neg (by omega)]
          have g3 : ¬ (¬ hpX (cpM M (3 + 2 * r.toNat + 1) (3 + 2 * t.toNat + 1) i.toNat j.toNat q.toNat) r i q ∨ ¬ hpX (cpM M (3 + 2 * r.toNat + 1) (3 + 2 * t.toNat + 1) i.toNat j.toNat q.toNat) t j q) := by unfold hpX; rw [kc, er, et]; omega
          simp only [if_neg c3, kc, er, et, if_neg c2, if_neg g3]
          have d1 : R6 r := by omega
          have d2 : R6 t := by omega
          have d3 : 0 ≤ i ∧ i + q ≤ M (3 + 2 * r.toNat) 1 := by omega
          have d4 : 0 ≤ j ∧ j + q ≤ M (3 + 2 * t.toNat) 1 := by omega
          exact ⟨trivial, h.copy d1 d2 (by omega) d3 d4⟩
/-- the texts alone have changed, the same on both sides -/
theorem Rl.txt {M M2 : Mm} (h : Rl M) (e : ∀ a, a ≤ 14 ∨ (23 ≤ a ∧ a ≤ 76) ∨ (78 ≤ a ∧ a ≤ 81) ∨ (84 ≤ a ∧ a ≤ 103) → M2 a = M a) (s : ∀ b, M2 77 b = M 77 b) (hT : RlT M2) (hQ : RT M2) (hw : ∀ o, isRowO o → 15 ≤ o → (-1 ≤ M2 o 1 ∧ M2 o 1 ≤ 120) ∧ ∀ j, -128 ≤ M2 (o + 1) j ∧ M2 (o + 1) j ≤ 127) : Rl M2 := by
  obtain ⟨hc0, ⟨hR, _, hV⟩, ⟨hL, hP, hO⟩, ⟨⟨i1, i2, _⟩, ⟨i4, i5, i6⟩, i7, i8⟩, hB⟩ := h
  refine ⟨hc0.row (fun a h1 h2 => e a (by omega)) ?_ (fun o ho h15 => (hw o ho h15).2), ⟨hR.of (fun a q => e a (by omega)), hT, hV.of hc0.l.2.2.2 (fun a q => e a (by omega)) (fun b q => s b)⟩, ⟨hL.of (fun a q => e a (by omega)) (s 35), hP.of (fun a q => e a (by omega)) (fun b q => s b), hO.of (fun a q => e a (by omega)) (fun b q => s b)⟩, ⟨⟨i1.of (e 84 (by decide)) (e 85 (by decide)) (e 86 (by decide)) (s 10) (s 12) (s 15), i2.of (e 79 (by decide)) (e 80 (by decide)), hQ⟩, ⟨i4.of (e 99 (by decide)) (s 35), i5.of (e 100 (by decide)) (e 101 (by decide)) (s 37), i6.of (e 102 (by decide)) (e 103 (by decide)) (s 40)⟩, ?_, ?_⟩, RB_of hB (e 87 (by decide)) (e 88 (by decide))⟩
  · intro o ho
    by_cases z : o < 15
    · rw [e o (by omega), e (o + 1) (by omega)]
      exact hc0.rw o ho
    · have q := hw o ho (by omega)
      refine ⟨?_, fun j => ?_⟩
      · unfold capO
        rw [if_neg z]
        exact q.1
      · have := q.2 j
        unfold ir
        omega
  · rw [e 93 (by decide)]
    exact i7
  · rw [e 85 (by decide)]
    exact i8
theorem Rl.newt {M : Mm} (h : Rl M) {r q : Int} (hr : T4 r) (hq : 0 ≤ q ∧ q ≤ 120) : Rl (rtP (mkM M (15 + 2 * r.toNat) q 32) r q 120) := by
  have e : ∀ a b : Nat, ¬ (a = 15 + 2 * r.toNat ∧ b = 1) → ¬ (a = 15 + 2 * r.toNat + 1 ∧ (b : Int) < q) → ¬ (a = 82 ∧ b = r.toNat) → ¬ (a = 83 ∧ 120 * r ≤ (b : Int) ∧ (b : Int) < 120 * r + 120) → rtP (mkM M (15 + 2 * r.toNat) q 32) r q 120 a b = M a b := fun a b h1 h2 h3 h4 => by
    unfold rtP mkM
    rw [if_neg h3, if_neg h4, if_neg h1, if_neg h2]
  have k1 : rtP (mkM M (15 + 2 * r.toNat) q 32) r q 120 82 r.toNat = q := by unfold rtP; rw [if_pos ⟨rfl, rfl⟩]
  have k2 : rtP (mkM M (15 + 2 * r.toNat) q 32) r q 120 (15 + 2 * r.toNat) 1 = q := by unfold rtP mkM; rw [if_neg (by omega), if_neg (by omega), if_pos ⟨rfl, rfl⟩]
  have k3 : ∀ j : Nat, (j : Int) < q → rtP (mkM M (15 + 2 * r.toNat) q 32) r q 120 (15 + 2 * r.toNat + 1) j = 32 := fun j hj => by unfold rtP mkM; rw [if_neg (by omega), if_neg (by omega), if_neg (by omega), if_pos ⟨rfl, hj⟩]
  have k4 : ∀ j : Nat, 120 * r ≤ (j : Int) ∧ (j : Int) < 120 * r + 120 → rtP (mkM M (15 + 2 * r.toNat) q 32) r q 120 83 j = 32 := fun j hj => by unfold rtP; rw [if_neg (by omega), if_pos ⟨rfl, hj⟩]
  refine h.txt (fun a z => by funext b; exact e a b (by omega) (by omega) (by omega) (by omega)) (fun b => e 77 b (by omega) (by omega) (by omega) (by omega)) ?_ ?_ ?_
  · intro r2 hr2
    have h0 := h.2.1.2.1 r2 hr2
    by_cases z : r2 = r.toNat
    · rw [z, k1, k2]
      exact ⟨rfl, fun j hj => by rw [k3 j hj, k4 _ (by omega)]⟩
    · rw [e 82 r2 (by omega) (by omega) (by omega) (by omega), e (15 + 2 * r2) 1 (by omega) (by omega) (by omega) (by omega)]
      have hl2 := h.n120 hr2
      refine ⟨h0.1, fun j hj => ?_⟩
      rw [e 83 _ (by omega) (by omega) (by omega) (by omega), e (15 + 2 * r2 + 1) j (by omega) (by omega) (by omega) (by omega)]
      exact h0.2 j hj
  · intro r2 hr2
    have h0 := h.2.2.2.1.1.2.2 r2 hr2
    by_cases z : r2 = r.toNat
    · rw [z, k1]
      exact ⟨by omega, fun j hj => by rw [k4 _ (by omega)]; decide⟩
    · rw [e 82 r2 (by omega) (by omega) (by omega) (by omega)]
      refine ⟨h0.1, fun j hj => ?_⟩
      have hb := h0.1.2
      rw [e 83 _ (by omega) (by omega) (by omega) (by omega)]
      exact h0.2 j hj
  · intro o ho h15
    have h0 := h.1.rw o ho
    have h1 := h.1.tw o ho h15
    unfold capO at h0
    rw [if_neg (by omega)] at h0
    refine ⟨?_, fun j => ?_⟩
    · by_cases z : o = 15 + 2 * r.toNat
      · rw [z, k2]
        omega
      · rw [e o 1 (by omega) (by omega) (by omega) (by omega)]
        exact h0.1
    · by_cases z : o + 1 = 15 + 2 * r.toNat + 1 ∧ (j : Int) < q
      · rw [z.1, k3 j z.2]
        decide
      · rw [e (o + 1) j (by omega) z (by omega) (by omega)]
        exact h1 j
theorem pr_text {M : Mm} (h : Rl M) (r q : Int) : Rl (xtextM (textM M r q) r q) := by
  unfold xtextM textM
  by_cases c : ¬ T4 r ∨ 120 < q
  · simp only [if_pos c]
    exact h
  · simp only [if_neg c]
    by_cases c2 : q < 0
    · simp only [if_pos c2]
      exact h.meet 5 (by decide)
    · simp only [if_neg c2]
      exact h.newt (by omega) (by omega)
theorem Rl.put {M : Mm} (h : Rl M) {r i v : Int} (hr : T4 r) (hi : 0 ≤ i ∧ i < M (15 + 2 * r.toNat) 1) (hv : -128 ≤ v ∧ v ≤ 127) : Rl (stM (stM M (15 + 2 * r.toNat + 1) i.toNat v) 83 (120 * r + i).toNat v) := by
  have e : ∀ a b, ¬ (a = 15 + 2 * r.toNat + 1 ∧ b = i.toNat) → ¬ (a = 83 ∧ b = (120 * r + i).toNat) → stM (stM M (15 + 2 * r.toNat + 1) i.toNat v) 83 (120 * r + i).toNat v a b = M a b := fun a b h1 h2 => by rw [stM_ne _ _ (by omega), stM_ne _ _ (by omega)]
  have k1 : stM (stM M (15 + 2 * r.toNat + 1) i.toNat v) 83 (120 * r + i).toNat v 83 (120 * r + i).toNat = v := stM_at _ _ _ _
  have k2 : stM (stM M (15 + 2 * r.toNat + 1) i.toNat v) 83 (120 * r + i).toNat v (15 + 2 * r.toNat + 1) i.toNat = v := by rw [stM_ne _ _ (by omega), stM_at]
  have hl := h.n120 (r := r.toNat) (by omega)
  refine h.txt (fun a q => by funext b; exact e a b (by omega) (by omega)) (fun b => e 77 b (by omega) (by omega)) ?_ ?_ ?_
  · intro r2 hr2
    have h0 := h.2.1.2.1 r2 hr2
    have hl2 := h.n120 hr2
    rw [e 82 r2 (by omega) (by omega), e (15 + 2 * r2) 1 (by omega) (by omega)]
    refine ⟨h0.1, fun j hj => ?_⟩
    by_cases q : r2 = r.toNat ∧ j = i.toNat
    · rw [q.1, q.2, show 120 * r.toNat + i.toNat = (120 * r + i).toNat by omega, k1, k2]
    · rw [e 83 _ (by omega) (by omega), e (15 + 2 * r2 + 1) j (by omega) (by omega)]
      exact h0.2 j hj
  · intro r2 hr2
    have h0 := h.2.2.2.1.1.2.2 r2 hr2
    rw [e 82 r2 (by omega) (by omega)]
    refine ⟨h0.1, fun j hj => ?_⟩
    by_cases q : 120 * r2 + j = (120 * r + i).toNat
    · rw [q, k1]; exact hv
    · rw [e 83 _ (by omega) (by omega)]
      exact h0.2 j hj
  · intro o ho h15
    have h0 := h.1.rw o ho
    have h1 := h.1.tw o ho h15
    unfold capO at h0
    rw [if_neg (by omega)] at h0
    rw [e o 1 (by omega) (by omega)]
    refine ⟨h0.1, fun j => ?_⟩
    by_cases q : o + 1 = 15 + 2 * r.toNat + 1 ∧ j = i.toNat
    · rw [q.1, q.2, k2]; exact hv
    · rw [e (o + 1) j q (by omega)]
      exact h1 j
theorem pr_put {M : Mm} (h : Rl M) (r i v : Int) : xputA (putM M r i v) r i = putA M r i ∧ Rl (xputM (putM M r i v) r i v) := by
  unfold xputA putA xputM putM
  by_cases c : T4 r
  · have e1 := h.t1 c
    by_cases c1 : M (15 + 2 * r.toNat) 1 < 0
    · simp only [if_neg (not_not_intro c), if_pos c1]
      have c2 : fdM M 1 82 r.toNat < 0 := by rw [fdM_o (by decide) (by decide), e1]; exact c1
      simp only [if_pos c2]
      exact ⟨trivial, h.meet 1 (by decide)⟩
    · by_cases c3 : hsR M (15 + 2 * r.toNat) i
      · simp only [if_neg (not_not_intro c), if_neg c1, if_neg (not_not_intro c3)]
        have hz := h.put (v := by8 v) c c3 (by8_b v)
        have ho := h.t2 c c3
        have k82 : stM M (15 + 2 * r.toNat + 1) i.toNat (by8 v) 82 = M 82 := stM_off (by omega)
        have k83 : stM M (15 + 2 * r.toNat + 1) i.toNat (by8 v) 83 = M 83 := stM_off (by omega)
        have c4 : hsX (stM M (15 + 2 * r.toNat + 1) i.toNat (by8 v)) 82 r i := by
          show 0 ≤ i ∧ i ≤ stM M (15 + 2 * r.toNat + 1) i.toNat (by8 v) 82 r.toNat - 1
          rw [k82, e1]
          omega
        have c2 : ¬ stM M (15 + 2 * r.toNat + 1) i.toNat (by8 v) 82 r.toNat < 0 := by rw [k82, e1]; exact c1
        simp only [if_neg c2, if_neg (not_not_intro c4)]
        refine ⟨?_, hz⟩
        rw [k83, ho]
        omega
      · simp only [if_neg (not_not_intro c), if_neg c1, if_pos c3]
        have c2 : ¬ fdM M 2 82 r.toNat < 0 := by rw [fdM_o (by decide) (by decide), e1]; exact c1
        have c4 : ¬ hsX (fdM M 2) 82 r i := by
          show ¬ (0 ≤ i ∧ i ≤ fdM M 2 82 r.toNat - 1)
          rw [fdM_o (by decide) (by decide), e1]
          omega
        simp only [if_neg c2, if_pos c4]
        exact ⟨trivial, h.meet 2 (by decide)⟩
  · simp only [if_pos c]
    exact ⟨trivial, h⟩
