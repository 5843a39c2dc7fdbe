theorem xfP_b (M : Mm) (h : Int) : ∀ k : Nat, -1 ≤ xfP M h k ∧ xfP M h k < (k : Int)
  | 0 => by simp [xfP]
  | k + 1 => by
    have h1 := xfP_b M h k
    rw [xfP]
    split <;> omega
theorem xfP_lo {M : Mm} {h : Int} : ∀ {k : Nat}, (∀ j, j < k → M 100 j = M 71 j) → loM M 70 h k = if xfP M h k < 0 then -9 else xfP M h k
  | 0, _ => by simp [loM, xfP]
  | k + 1, e => by
    rw [loM, xfP, e k (by omega), xfP_lo (fun j hj => e j (by omega))]
    by_cases q : M (70 + 1) k = h
    · rw [if_pos q, if_pos q, if_neg (by omega)]
    · rw [if_neg q, if_neg q]
theorem xfP_eq {M M2 : Mm} {h : Int} (e : M2 100 = M 100) : ∀ k : Nat, xfP M2 h k = xfP M h k
  | 0 => rfl
  | k + 1 => by rw [xfP, xfP, xfP_eq e k, e]
theorem Rl.take {T W : Mm} (h : Rl T) {p : Int} (hp : 0 ≤ p ∧ p < T 70 2) (hW : ∀ a b : Nat, W a b = if (a = 70 ∧ b = 2) ∨ (a = 77 ∧ b = 37) then T 70 2 - 1 else if (a = 71 ∨ a = 72 ∨ a = 100 ∨ a = 101) ∧ p ≤ (b : Int) ∧ (b : Int) < T 70 2 - 1 then T a (b + 1) else T a b) : Rl W := by
  have hpr := h.1.p70
  have hP := h.2.2.1.2.1
  have hT := h.2.2.2.1.2.1.2.1
  have k1 : W 70 2 = T 70 2 - 1 := by rw [hW, if_pos (Or.inl ⟨rfl, rfl⟩)]
  have k2 : W 77 37 = T 70 2 - 1 := by rw [hW, if_pos (Or.inr ⟨rfl, rfl⟩)]
  have f : ∀ a, a ≠ 70 → a ≠ 71 → a ≠ 72 → a ≠ 77 → a ≠ 100 → a ≠ 101 → W a = T a := fun a h1 h2 h3 h4 h5 h6 => by
    funext b
    rw [hW, if_neg (by omega), if_neg (by omega)]
  have f7 : ∀ b, b ≠ 37 → W 77 b = T 77 b := fun b hb => by rw [hW, if_neg (by omega), if_neg (by omega)]
  have g : ∀ a (b : Nat), (a = 71 ∨ a = 72 ∨ a = 100 ∨ a = 101) → W a b = T a b ∨ (W a b = T a (b + 1) ∧ (b : Int) < T 70 2 - 1) := fun a b ha => by
    rw [hW, if_neg (by omega)]
    by_cases z : p ≤ (b : Int) ∧ (b : Int) < T 70 2 - 1
    · rw [if_pos ⟨ha, z⟩]
      exact Or.inr ⟨rfl, z.2⟩
    · rw [if_neg (fun q => z q.2)]
      exact Or.inl rfl
  refine h.prs (fun a z => f a (by omega) (by omega) (by omega) (by omega) (by omega) (by omega)) (fun b z1 z2 => f7 b z1) ⟨by rw [k1]; omega, fun j => ⟨?_, ?_⟩⟩ ?_ ⟨⟨by rw [k1, k2], ?_⟩, fun j hj => ?_, ?_⟩ ⟨by rw [k2]; omega, fun j hj => ⟨?_, ?_⟩⟩ ?_
  · rcases g 71 j (Or.inl rfl) with z | z
    · rw [z]; exact (hpr.2 j).1
    · rw [z.1]; exact (hpr.2 (j + 1)).1
  · rcases g 72 j (Or.inr (Or.inl rfl)) with z | z
    · rw [z]; exact (hpr.2 j).2
    · rw [z.1]; exact (hpr.2 (j + 1)).2
  · unfold PRW
    rw [f 73 (by decide) (by decide) (by decide) (by decide) (by decide) (by decide), f 74 (by decide) (by decide) (by decide) (by decide) (by decide) (by decide), f 75 (by decide) (by decide) (by decide) (by decide) (by decide) (by decide)]
    exact h.1.p73
  · rw [f7 40 (by decide), f 73 (by decide) (by decide) (by decide) (by decide) (by decide) (by decide)]
    exact hP.1.2
  · rw [k1] at hj
    by_cases z : p ≤ (j : Int)
    · have u := hP.2.1 (j + 1) (by omega)
      have w : ∀ a, (a = 71 ∨ a = 72 ∨ a = 100 ∨ a = 101) → W a j = T a (j + 1) := fun a ha => by
        rw [hW, if_neg (by omega), if_pos ⟨ha, z, hj⟩]
      rw [w 100 (by decide), w 101 (by decide), w 71 (by decide), w 72 (by decide)]
      exact u
    · have u := hP.2.1 j (by omega)
      have w : ∀ a, (a = 71 ∨ a = 72 ∨ a = 100 ∨ a = 101) → W a j = T a j := fun a ha => by
        rw [hW, if_neg (by omega), if_neg (fun y => z y.2.1)]
      rw [w 100 (by decide), w 101 (by decide), w 71 (by decide), w 72 (by decide)]
      exact u
  · rw [f 73 (by decide) (by decide) (by decide) (by decide) (by decide) (by decide), f 74 (by decide) (by decide) (by decide) (by decide) (by decide) (by decide), f 75 (by decide) (by decide) (by decide) (by decide) (by decide) (by decide), f 102 (by decide) (by decide) (by decide) (by decide) (by decide) (by decide), f 103 (by decide) (by decide) (by decide) (by decide) (by decide) (by decide), f 23 (by decide) (by decide) (by decide) (by decide) (by decide) (by decide)]
    exact hP.2.2
  · rcases g 100 j (Or.inr (Or.inr (Or.inl rfl))) with z | z
    · rw [z]; exact (hT.2 j hj).1
    · rw [z.1]; exact (hT.2 (j + 1) (by omega)).1
  · rcases g 101 j (Or.inr (Or.inr (Or.inr rfl))) with z | z
    · rw [z]; exact (hT.2 j hj).2
    · rw [z.1]; exact (hT.2 (j + 1) (by omega)).2
  · exact (h.2.2.2.1.2.1.2.2).of (f 102 (by decide) (by decide) (by decide) (by decide) (by decide) (by decide)) (f 103 (by decide) (by decide) (by decide) (by decide) (by decide) (by decide)) (f7 40 (by decide))
theorem toM_o {M : Mm} {p : Int} {a : Nat} (h1 : a ≠ 70) (h2 : a ≠ 71) (h3 : a ≠ 72) : toM M 70 p a = M a := by
  unfold toM
  rw [stM_off h1]
  funext b
  unfold toP
  rw [if_neg (by omega)]
theorem pr_find {M : Mm} (h : Rl M) (q : Int) : xfiA (finM M q) q = finA M q ∧ Rl (xfiM (finM M q) q) := by
  have hp := h.1.p70
  have hP := h.2.2.1.2.1
  have hlo : finP M q = if xfN M q < 0 then -9 else xfN M q := by
    unfold finP xfN
    rw [hP.1.1]
    exact xfP_lo (fun j hj => (hP.2.1 j (by omega)).1)
  have hb := xfP_b M q (M 77 37).toNat
  have hb2 : -1 ≤ xfN M q ∧ xfN M q < M 77 37 := by unfold xfN; rw [hP.1.1] at hb ⊢; omega
  unfold xfiA finA xfiM finM
  by_cases c : HS M q
  · by_cases c2 : xfN M q < 0
    · rw [if_pos c2] at hlo
      have k : xfN (fdM M 1) q = xfN M q := by
        unfold xfN
        rw [fdM_o (by decide) (by decide)]
        exact xfP_eq (fdM_o (by decide) (by decide)) _
      have k2 : ¬ ¬ HX (fdM M 1) q := by
        apply not_not_intro
        have := h.HX.mpr c
        unfold HX at this ⊢
        rw [fdM_o (by decide) (by decide)]
        exact this
      simp only [if_neg (not_not_intro c), if_pos hlo, if_neg k2, k, if_pos c2]
      exact ⟨trivial, h.meet 1 (by decide)⟩
    · rw [if_neg c2] at hlo
      rw [hP.1.1] at hb2
      have hv1 := hP.2.1 (finP M q).toNat (by omega)
      have hN : M 77 37 = M 70 2 := hP.1.1
      generalize hpp : finP M q = p at *
      generalize hvv : M 72 p.toNat = v at *
      have t77 : toM (tdM M v) 70 p 77 = M 77 := by rw [toM_o (by decide) (by decide) (by decide), tdM_o (by decide)]
      have t100 : toM (tdM M v) 70 p 100 = M 100 := by rw [toM_o (by decide) (by decide) (by decide), tdM_o (by decide)]
      have t101 : toM (tdM M v) 70 p 101 = M 101 := by rw [toM_o (by decide) (by decide) (by decide), tdM_o (by decide)]
      have k : xfN (toM (tdM M v) 70 p) q = p := by
        unfold xfN
        rw [t77, xfP_eq t100]
        exact hlo.symm
      have k2 : ¬ ¬ HX (toM (tdM M v) 70 p) q := by
        apply not_not_intro
        have := h.HX.mpr c
        unfold HX at this ⊢
        rw [t77]
        exact this
      simp only [if_neg (not_not_intro c), if_neg (show ¬ p = -9 by omega), if_neg k2, k, if_neg (show ¬ p < 0 by omega), t77, hN]
      refine ⟨trivial, (h.tell v).take (p := p) ?_ (fun a b => ?_)⟩
      · have : tlM (tdM M v) v 70 2 = M 70 2 := by unfold tlM tdM; rw [stM_off (by decide), stM_off (by decide)]
        rw [this]
        omega
      · have z1 : tlM (tdM M v) v 70 2 = M 70 2 := by unfold tlM tdM; rw [stM_off (by decide), stM_off (by decide)]
        rw [z1, t101, hv1.2]
        have z2 : tdM M v 70 2 = M 70 2 := by rw [tdM_o (by decide)]
        unfold tlM toM
        rw [z2]
        unfold toP tdM stM
        dsimp only
        (repeat' split) <;> first | rfl | (exfalso; omega) | omega
  · have k2 : ¬ HX M q := fun z => c (h.HX.mp z)
    simp only [if_pos c, if_pos k2]
    exact ⟨trivial, h⟩
