theorem RlL.of2 {M M2 : Mm} (h : RlL M) (e : ∀ a, (63 ≤ a ∧ a ≤ 69) ∨ (97 ≤ a ∧ a ≤ 99) → M2 a = M a) (e3 : M2 23 3 = M 23 3) (s : M2 77 35 = M 77 35) : RlL M2 := by
  unfold RlL
  rw [s, e3, e 97 (by decide), e 98 (by decide), e 99 (by decide), e 63 (by decide), e 64 (by decide), e 65 (by decide), e 66 (by decide), e 67 (by decide), e 68 (by decide), e 69 (by decide)]
  exact h
theorem RlP.of2 {M M2 : Mm} (h : RlP M) (e : ∀ a, (70 ≤ a ∧ a ≤ 75) ∨ (100 ≤ a ∧ a ≤ 103) → M2 a = M a) (e3 : M2 23 3 = M 23 3) (s : ∀ b, b = 37 ∨ b = 40 → M2 77 b = M 77 b) : RlP M2 := by
  unfold RlP
  rw [s 37 (by decide), s 40 (by decide), e3, e 100 (by decide), e 101 (by decide), e 102 (by decide), e 103 (by decide), e 70 (by decide), e 71 (by decide), e 72 (by decide), e 73 (by decide), e 74 (by decide), e 75 (by decide)]
  exact h
/-- the village's own words have changed, the same on both sides -/
theorem Rl.lan {M M2 : Mm} (h : Rl M) (e : ∀ a, a ≤ 22 ∨ (35 ≤ a ∧ a ≤ 76) ∨ (78 ≤ a ∧ a ≤ 83) ∨ (87 ≤ a ∧ a ≤ 103) → M2 a = M a) (e3 : M2 23 3 = M 23 3) (s : ∀ b, ¬ b = 10 → ¬ b = 12 → ¬ b = 15 → M2 77 b = M 77 b) (hL2 : (LW M2 23 ∧ NDA M2 ∧ PLW M2 23 ∧ (0 ≤ M2 23 5 ∧ M2 23 5 ≤ 7))) (hV : RlV M2) (hRV : RV M2) (h9 : ∀ i : Nat, i < 8 → M2 85 (6 * i + 5) ≤ 9) : Rl M2 := by
  obtain ⟨hc0, ⟨hR, hT, _⟩, ⟨hL, hP, hO⟩, ⟨⟨_, i2, i3⟩, ⟨i4, i5, i6⟩, i7, _⟩, hB⟩ := h
  refine ⟨⟨hL2, ⟨JW_of (fun a _ _ => e a (by omega)) hc0.j, PW_fr (fun a _ _ => e a (by omega)) hc0.p, WW_fr (fun a _ _ => e a (by omega)) hc0.w, CW_fr (fun a _ _ => e a (by omega)) hc0.c⟩, ?_, ⟨?_, ?_⟩, ?_, ?_⟩, ⟨hR.of (fun a q => e a (by omega)), hT.of (fun a q => e a (by omega)), hV⟩, ⟨hL.of2 (fun a q => e a (by omega)) e3 (s 35 (by decide) (by decide) (by decide)), hP.of2 (fun a q => e a (by omega)) e3 (fun b q => s b (by omega) (by omega) (by omega)), hO.of (fun a q => e a (by omega)) (fun b q => s b (by omega) (by omega) (by omega))⟩, ⟨⟨hRV, i2.of (e 79 (by decide)) (e 80 (by decide)), i3.of (e 82 (by decide)) (e 83 (by decide))⟩, ⟨i4.of (e 99 (by decide)) (s 35 (by decide) (by decide) (by decide)), i5.of (e 100 (by decide)) (e 101 (by decide)) (s 37 (by decide) (by decide) (by decide)), i6.of (e 102 (by decide)) (e 103 (by decide)) (s 40 (by decide) (by decide) (by decide))⟩, ?_, h9⟩, RB_of hB (e 87 (by decide)) (e 88 (by decide))⟩
  · unfold DLW; rw [e 63 (by decide), e 66 (by decide), e 67 (by decide), e 68 (by decide), e 69 (by decide)]; exact hc0.d
  · intro o ho; rw [e o (by omega), e (o + 1) (by omega)]; exact hc0.rw o ho
  · intro o ho h15; rw [e (o + 1) (by omega)]; exact hc0.tw o ho h15
  · unfold PRW; rw [e 70 (by decide), e 71 (by decide), e 72 (by decide)]; exact hc0.p70
  · unfold PRW; rw [e 73 (by decide), e 74 (by decide), e 75 (by decide)]; exact hc0.p73
  · rw [e 93 (by decide)]
    exact i7
theorem pr_mark {M : Mm} (h : Rl M) (i k : Int) : xmarA (marM M i k) i k = marA M i k ∧ Rl (xmarM (marM M i k) i k) := by
  have hm := h.m
  unfold xmarA marA xmarM marM
  by_cases c : ¬ NS M i ∨ k < 1 ∨ 5 < k
  · have c2 : ¬ NX M i ∨ k < 1 ∨ 5 < k := by omega
    simp only [if_pos c, if_pos c2]
    exact ⟨trivial, h⟩
  · have c2 : ¬ (¬ NX M i ∨ k < 1 ∨ 5 < k) := by omega
    have hn := fun (j : Nat) (hj : j < 6) => h.nd (i := i) (by omega) hj
    have n0 := hn 0 (by decide)
    have n2 := hn 2 (by decide)
    have n3 := hn 3 (by decide)
    have n4 := hn 4 (by decide)
    have n5 := hn 5 (by decide)
    simp only [Int.ofNat_zero, show ((0 : Nat) : Int) = 0 from rfl, show ((2 : Nat) : Int) = 2 from rfl, show ((3 : Nat) : Int) = 3 from rfl, show ((4 : Nat) : Int) = 4 from rfl, show ((5 : Nat) : Int) = 5 from rfl] at n0 n2 n3 n4 n5
    have nc := h.nc (i := i) (by omega)
    by_cases c3 : isAK (M (27 + i.toNat) 0) k
    · simp only [if_neg c, if_neg (not_not_intro c3), if_neg c2, n0]
      refine ⟨?_, h⟩
      unfold xmk mkO
      simp only [n2, n3, n4, n5, nc]
    · have q2 : ¬ (¬ NX (fdM M 3) i ∨ k < 1 ∨ 5 < k) := by
        show ¬ (¬ (0 ≤ i ∧ i ≤ fdM M 3 77 12 - 1) ∨ k < 1 ∨ 5 < k)
        rw [fdM_o (by decide) (by decide)]
        omega
      have q0 : nA (fdM M 3) i 0 = M (27 + i.toNat) 0 := by rw [nA_off (fdM_o (by decide) (by decide)), n0]
      simp only [if_neg c, if_pos c3, if_neg q2, q0]
      exact ⟨trivial, h.meet 3 (by decide)⟩
theorem Rl.start {M : Mm} (h : Rl M) {q : Int} (hq : HS M q) : Rl (stM (stM M 23 5 q) 77 15 q) := by
  have hl := h.1.l
  have hm := h.m
  have hv := h.2.1.2.2
  have e : ∀ a b, ¬ (a = 23 ∧ b = 5) → ¬ (a = 77 ∧ b = 15) → stM (stM M 23 5 q) 77 15 q a b = M a b := fun a b h1 h2 => by rw [stM_ne _ _ (by omega), stM_ne _ _ (by omega)]
  have k1 : stM (stM M 23 5 q) 77 15 q 77 15 = q := stM_at _ _ _ _
  have k2 : stM (stM M 23 5 q) 77 15 q 23 5 = q := by rw [stM_ne _ _ (by omega), stM_at]
  have f : ∀ a, a ≠ 23 → a ≠ 77 → stM (stM M 23 5 q) 77 15 q a = M a := fun a h1 h2 => by funext b; exact e a b (by omega) (by omega)
  refine h.lan (fun a z => f a (by omega) (by omega)) (e 23 3 (by decide) (by decide)) (fun b z1 z2 z3 => e 77 b (by omega) (by omega)) ⟨?_, ?_, ?_, ?_⟩ ?_ ?_ ?_
  · unfold LW
    rw [e 23 3 (by decide) (by decide), e 23 4 (by decide) (by decide)]
    exact hl
  · exact NDA_of2 (fun a h1 h2 => f a (by omega) (by omega)) h.1.nd
  · intro j
    rw [f 24 (by decide) (by decide)]
    exact h.1.pl j
  · rw [k2]
    omega
  · unfold RlV
    rw [k1, k2, e 77 10 (by decide) (by decide), e 77 12 (by decide) (by decide), e 23 3 (by decide) (by decide), e 23 4 (by decide) (by decide), f 24 (by decide) (by decide), f 84 (by decide) (by decide), f 85 (by decide) (by decide), f 86 (by decide) (by decide)]
    refine ⟨⟨hm.1, hm.2.1, rfl⟩, hv.2.1, fun i hi => ?_, Or.inr hq.2⟩
    rw [f (27 + i) (by omega) (by omega)]
    exact hv.2.2.1 i hi
  · have i1 := h.2.2.2.1.1.1
    unfold RV
    rw [k1, e 77 10 (by decide) (by decide), e 77 12 (by decide) (by decide), f 84 (by decide) (by decide), f 85 (by decide) (by decide), f 86 (by decide) (by decide)]
    exact ⟨⟨i1.1.1, i1.1.2.1, by omega⟩, i1.2⟩
  · rw [f 85 (by decide) (by decide)]
    exact h.2.2.2.1.2.2.2
theorem pr_start2 {M : Mm} (h : Rl M) (q : Int) : Rl (xstaM (staM M q) q) := by
  have hm := h.m
  unfold xstaM staM
  by_cases c : HS M q
  · rw [if_neg (not_not_intro c)]
    rw [if_neg (not_not_intro (show HX (stM M 23 5 q) q by
      show 0 ≤ q ∧ q ≤ stM M 23 5 q 77 10 - 1
      rw [stM_off (by decide)]
      have := c.1
      have := c.2
      omega))]
    exact h.start c
  · rw [if_pos c, if_pos]
    · exact h
    · intro z
      apply c
      have := z.1
      have := z.2
      exact ⟨by omega, by omega⟩
theorem Rl.chance {M : Mm} (h : Rl M) {i p : Int} (hi : NS M i) (hp : 0 ≤ p ∧ p ≤ 12) : Rl (stM (stM M (27 + i.toNat) 6 p) 86 i.toNat p) := by
  have hl := h.1.l
  have hm := h.m
  have hv := h.2.1.2.2
  have e : ∀ a b, ¬ (a = 27 + i.toNat ∧ b = 6) → ¬ (a = 86 ∧ b = i.toNat) → stM (stM M (27 + i.toNat) 6 p) 86 i.toNat p a b = M a b := fun a b h1 h2 => by rw [stM_ne _ _ (by omega), stM_ne _ _ (by omega)]
  have k1 : stM (stM M (27 + i.toNat) 6 p) 86 i.toNat p 86 i.toNat = p := stM_at _ _ _ _
  have k2 : stM (stM M (27 + i.toNat) 6 p) 86 i.toNat p (27 + i.toNat) 6 = p := by rw [stM_ne _ _ (by omega), stM_at]
  have f : ∀ a, a ≠ 27 + i.toNat → a ≠ 86 → stM (stM M (27 + i.toNat) 6 p) 86 i.toNat p a = M a := fun a h1 h2 => by funext b; exact e a b (by omega) (by omega)
  refine h.lan (fun a z => f a (by omega) (by omega)) (e 23 3 (by omega) (by omega)) (fun b z1 z2 z3 => e 77 b (by omega) (by omega)) ⟨?_, ?_, ?_, ?_⟩ ?_ ?_ ?_
  · unfold LW
    rw [f 23 (by omega) (by omega)]
    exact hl
  · refine ⟨?_, fun j hj => ?_⟩
    · unfold NDW
      rw [f 26 (by omega) (by omega)]
      exact h.1.nd.1
    · have h0 := h.1.nd.2 j hj
      by_cases z : j = i.toNat
      · unfold NDW NDR at h0 ⊢
        rw [z] at h0 ⊢
        rw [k2, e _ 0 (by omega) (by omega), e _ 1 (by omega) (by omega), e _ 2 (by omega) (by omega), e _ 3 (by omega) (by omega), e _ 4 (by omega) (by omega), e _ 5 (by omega) (by omega)]
        exact ⟨h0.1, h0.2.1, h0.2.2.1, h0.2.2.2.1, h0.2.2.2.2.1, h0.2.2.2.2.2.1, hp⟩
      · unfold NDW at h0 ⊢
        rw [f (27 + j) (by omega) (by omega)]
        exact h0
  · intro j
    rw [f 24 (by omega) (by omega)]
    exact h.1.pl j
  · rw [f 23 (by omega) (by omega)]
    exact h.1.st
  · unfold RlV
    rw [e 77 10 (by omega) (by omega), e 77 12 (by omega) (by omega), e 77 15 (by omega) (by omega), f 23 (by omega) (by omega), f 24 (by omega) (by omega), f 84 (by omega) (by omega), f 85 (by omega) (by omega)]
    refine ⟨hv.1, hv.2.1, fun j hj => ?_, hv.2.2.2⟩
    have h0 := hv.2.2.1 j hj
    by_cases z : j = i.toNat
    · rw [z] at h0 ⊢
      rw [k1, k2, e (27 + i.toNat) 1 (by omega) (by omega)]
      refine ⟨fun k hk => ?_, rfl, h0.2.2⟩
      rw [e (27 + i.toNat) k (by omega) (by omega)]
      exact h0.1 k hk
    · rw [e 86 j (by omega) (by omega), f (27 + j) (by omega) (by omega)]
      exact h0
  · have i1 := h.2.2.2.1.1.1
    unfold RV
    rw [e 77 10 (by omega) (by omega), e 77 12 (by omega) (by omega), e 77 15 (by omega) (by omega), f 84 (by omega) (by omega), f 85 (by omega) (by omega)]
    refine ⟨i1.1, i1.2.1, i1.2.2.1, fun j hj => ?_⟩
    by_cases z : j = i.toNat
    · rw [z, k1]
      exact hp
    · rw [e 86 j (by omega) (by omega)]
      exact i1.2.2.2 j hj
  · rw [f 85 (by omega) (by omega)]
    exact h.2.2.2.1.2.2.2
theorem pr_chance {M : Mm} (h : Rl M) (i p : Int) : xchaA (chaM M i p) i p = chaA M i p ∧ Rl (xchaM (chaM M i p) i p) := by
  have hl := h.1.l
  have hm := h.m
  unfold xchaA chaA xchaM chaM
  by_cases c : ¬ NS M i ∨ p < 0 ∨ 12 < p
  · have c2 : ¬ NX M i ∨ p < 0 ∨ 12 < p := by omega
    simp only [if_pos c, if_pos c2]
    exact ⟨trivial, h⟩
  · have hi : NS M i := by omega
    have n0 : nA M i 0 = M (27 + i.toNat) 0 := h.nd hi (k := 0) (by decide)
    by_cases c3 : isAK (M (27 + i.toNat) 0) 2
    · have q2 : ¬ (¬ NX (stM M (27 + i.toNat) 6 p) i ∨ p < 0 ∨ 12 < p) := by
        show ¬ (¬ (0 ≤ i ∧ i ≤ stM M (27 + i.toNat) 6 p 77 12 - 1) ∨ p < 0 ∨ 12 < p)
        rw [stM_off (by omega)]
        omega
      have q0 : nA (stM M (27 + i.toNat) 6 p) i 0 = M (27 + i.toNat) 0 := by rw [nA_off (stM_off (by omega)), n0]
      have q6 : stM M (27 + i.toNat) 6 p 86 = M 86 := stM_off (by omega)
      simp only [if_neg c, if_neg (not_not_intro c3), if_neg q2, q0, q6]
      exact ⟨h.nc hi, h.chance hi (by omega)⟩
    · have q2 : ¬ (¬ NX (fdM M 3) i ∨ p < 0 ∨ 12 < p) := by
        show ¬ (¬ (0 ≤ i ∧ i ≤ fdM M 3 77 12 - 1) ∨ p < 0 ∨ 12 < p)
        rw [fdM_o (by decide) (by decide)]
        omega
      have q0 : nA (fdM M 3) i 0 = M (27 + i.toNat) 0 := by rw [nA_off (fdM_o (by decide) (by decide)), n0]
      simp only [if_neg c, if_pos c3, if_neg q2, q0]
      exact ⟨trivial, h.meet 3 (by decide)⟩
theorem pr_findings {M : Mm} (h : Rl M) (f : Int) : (if 1 ≤ f ∧ f ≤ 5 then M 78 f.toNat else -1) = fngA M f := by
  unfold fngA
  by_cases c : f < 1 ∨ 5 < f
  · rw [if_neg (by omega), if_pos c]
  · rw [if_pos (by omega), if_neg c]
    exact h.2.2.1.2.2.2 f.toNat (by omega) (by omega)
