theorem Rl.mk {M : Mm} (h : Rl M) (k : Int) : mKx M k = bitsK M k := by
  have hm := h.m
  unfold mKx bitsK
  rw [hm.2.1]
  refine bsum_congr (fun i hi => ?_)
  have := h.nd (i := (i : Int)) ⟨by omega, by omega⟩ (k := 0) (by decide)
  rw [show ((0 : Nat) : Int) = 0 from rfl, Int.toNat_natCast] at this
  rw [this]
  rfl
theorem Rl.nr {M : Mm} (h : Rl M) : ∀ {k : Nat}, k ≤ 6 → xnt M 79 k = ntV M 3 k
  | 0, _ => rfl
  | k + 1, hk => by rw [xnt, ntV, h.nr (k := k) (by omega), (h.2.1.1 k (by omega)).1]
theorem Rl.nt {M : Mm} (h : Rl M) : ∀ {k : Nat}, k ≤ 4 → xnt M 82 k = ntV M 15 k
  | 0, _ => rfl
  | k + 1, hk => by rw [xnt, ntV, h.nt (k := k) (by omega), (h.2.1.2.1 k (by omega)).1]
theorem Rl.cn {M : Mm} (h : Rl M) {w : Int} (hw : 0 ≤ w ∧ w ≤ 7) : xcnV M w = cntV M w := by
  have hm := h.m
  have hP := h.2.2.1.2.1
  unfold xcnV cntV
  rw [hm.1, hm.2.1, h.mk, h.2.2.1.1.2.1, hP.1.1, hP.1.2, h.nr (Nat.le_refl 6), h.nt (Nat.le_refl 4)]
  by_cases q : w = 7
  · subst q
    rfl
  · rw [if_neg q, if_neg q]
    by_cases q6 : w = 6
    · subst q6
      rfl
    · rw [if_neg q6, if_neg q6]
      (repeat' split) <;> first | rfl | (exfalso; omega)
theorem pr_count {M : Mm} (h : Rl M) (w : Int) : xctA M w = cntV M w := by
  unfold xctA
  by_cases q : 0 ≤ w ∧ w ≤ 7
  · rw [if_pos q]
    exact h.cn q
  · rw [if_neg q]
    unfold cntV
    (repeat' split) <;> first | rfl | (exfalso; omega)
theorem mxF_eq {f g : Nat → Int} {t : Int} : ∀ {k : Nat}, (∀ j, j < k → f j = g j) → mxF f t k = mxF g t k
  | 0, _ => rfl
  | k + 1, h => by rw [mxF, mxF, mxF_eq (fun j hj => h j (by omega)), h k (by omega)]
theorem Rl.mo {M : Mm} (h : Rl M) {i t : Int} (hi : 0 ≤ i ∧ i < 8) : ∀ {k : Nat}, k ≤ 8 → xmO M i t k = mxO M i t k
  | 0, _ => rfl
  | k + 1, hk => by
    rw [xmO, mxO, h.mo hi (k := k) (by omega)]
    by_cases q : i = (k : Int)
    · rw [if_pos q, if_pos q.symm]
    · rw [if_neg q, if_neg (fun z => q z.symm), show 8 * i + (k : Int) = i * 8 + (k : Int) by omega, h.2.2.1.1.1.2.1 _ (by omega)]
theorem Rl.mh {M : Mm} (h : Rl M) {t : Int} : ∀ {k : Nat}, (k : Int) ≤ M 23 3 → xmH M t k = mxH M t k
  | 0, _ => rfl
  | k + 1, hk => by
    have hl := h.1.l
    have hp := h.pl (q := (k : Int)) ⟨by omega, by omega⟩
    rw [Int.toNat_natCast] at hp
    rw [xmH, mxH, h.mh (k := k) (by omega), h.m.1, hp, h.2.2.1.1.1.1 k (by omega), h.mo ⟨by omega, by omega⟩ (by omega)]
theorem Rl.mn {M : Mm} (h : Rl M) {t : Int} : ∀ {k : Nat}, (k : Int) ≤ M 23 4 → xmN M t k = mxN M t k
  | 0, _ => rfl
  | k + 1, hk => by
    have hi : NS M (k : Int) := ⟨by omega, by omega⟩
    have hc := h.nc hi
    rw [Int.toNat_natCast] at hc
    rw [xmN, mxN, h.mn (k := k) (by omega), hc]
    congr 2
    refine mxF_eq (fun w hw => ?_)
    have hn := h.nd hi (k := w) hw
    rw [Int.toNat_natCast] at hn
    show nA M (k : Int) (w : Int) = M (27 + k) (tlf (w : Int))
    have ht : tlf (w : Int) = w := by
      unfold tlf
      by_cases q : w ≤ 4
      · rw [if_pos (by omega), Int.toNat_natCast]
      · rw [if_neg (by omega)]
        omega
    rw [hn, ht]
theorem Rl.m7 {M : Mm} (h : Rl M) {t : Int} : ∀ {k : Nat}, (k : Int) ≤ M 70 2 → xmP M 100 101 t k = mxP M 70 t k
  | 0, _ => rfl
  | k + 1, hk => by
    have hj := h.2.2.1.2.1.2.1 k (by omega)
    rw [xmP, mxP, h.m7 (k := k) (by omega), hj.1, hj.2]
theorem Rl.m3 {M : Mm} (h : Rl M) {t : Int} : ∀ {k : Nat}, (k : Int) ≤ M 73 2 → xmP M 102 103 t k = mxP M 73 t k
  | 0, _ => rfl
  | k + 1, hk => by
    have hj := h.2.2.1.2.1.2.2 k (by omega)
    rw [xmP, mxP, h.m3 (k := k) (by omega), hj.1, hj.2.1]
theorem Rl.mr {M : Mm} (h : Rl M) {t : Int} : ∀ {k : Nat}, k ≤ 6 → xmR M t k = mxR M 3 t k
  | 0, _ => rfl
  | k + 1, hk => by
    have hj := h.2.1.1 k (by omega)
    rw [xmR, mxR, h.mr (k := k) (by omega), hj.1]
    refine mxF_eq (fun i hi => ?_)
    show rcA M (k : Int) (i : Int) = _
    unfold rcA
    rw [show (60 * (k : Int) + (i : Int)).toNat = 60 * k + i by omega]
    exact hj.2 i (by omega)
theorem Rl.mt {M : Mm} (h : Rl M) {t : Int} : ∀ {k : Nat}, k ≤ 4 → xmT M t k = mxR M 15 t k
  | 0, _ => rfl
  | k + 1, hk => by
    have hj := h.2.1.2.1 k (by omega)
    rw [xmT, mxR, h.mt (k := k) (by omega), hj.1]
    refine mxF_eq (fun i hi => ?_)
    show btA M (k : Int) (i : Int) = _
    unfold btA
    rw [Int.toNat_natCast, if_pos (by omega), show (120 * (k : Int) + (i : Int)).toNat = 120 * k + i by omega]
    exact hj.2 i (by omega)
theorem pr_digest {M : Mm} (h : Rl M) : xdgV M = digV M := by
  have hl := h.1.l
  have hm := h.m
  have hP := h.2.2.1.2.1
  have p1 := h.1.p70
  have p2 := h.1.p73
  unfold xdgV digV xmV
  rw [h.mt (Nat.le_refl 4), h.mr (Nat.le_refl 6), hP.1.1, hP.1.2, hm.1, hm.2.1, hm.2.2, h.m3 (by omega), h.m7 (by omega), h.mn (by omega), h.mh (by omega), mxF_eq (f := fun w => xcnV M (w : Int)) (g := fun w => cntV M (w : Int)) (fun w hw => h.cn ⟨by omega, by omega⟩)]
theorem Rl.hash {M : Mm} (h : Rl M) (v : Int) : Rl (stM M 77 43 v) := by
  have e : ∀ a b, ¬ (a = 77 ∧ b = 43) → stM M 77 43 v a b = M a b := fun a b h1 => stM_ne _ _ (by omega)
  exact h.ke (fun a b q => e a b (by unfold keC at q; omega)) (h.1.fr0 (fun a h1 h2 => by funext b; exact e a b (by omega))) (h.2.2.1.2.2.of (fun a q => by funext b; exact e a b (by omega)) (fun b q => e 77 b (by omega))) (RB_of h.2.2.2.2 (by funext b; exact e 87 b (by omega)) (by funext b; exact e 88 b (by omega)))
