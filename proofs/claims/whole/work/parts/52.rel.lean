/-- both sides have the same rows -/
def RlR (M : Mm) : Prop := ∀ r : Nat, r < 6 → M 79 r = M (3 + 2 * r) 1 ∧ ∀ i : Nat, (i : Int) < M (3 + 2 * r) 1 → M 80 (60 * r + i) = M (3 + 2 * r + 1) i
def RlT (M : Mm) : Prop := ∀ t : Nat, t < 4 → M 82 t = M (15 + 2 * t) 1 ∧ ∀ i : Nat, (i : Int) < M (15 + 2 * t) 1 → M 83 (120 * t + i) = M (15 + 2 * t + 1) i
def RlV (M : Mm) : Prop := (M 77 10 = M 23 3 ∧ M 77 12 = M 23 4 ∧ M 77 15 = M 23 5) ∧ (∀ h : Nat, (h : Int) < M 23 3 → M 84 h = M 24 h) ∧ (∀ i : Nat, (i : Int) < M 23 4 → (∀ k, k < 6 → M 85 (6 * i + k) = M (27 + i) k) ∧ M 86 i = M (27 + i) 6 ∧ M (27 + i) 1 < M 23 3) ∧ ((M 23 3 = 0 ∧ M 23 5 = 0) ∨ M 23 5 < M 23 3)
def RlL (M : Mm) : Prop := ((∀ h : Nat, h < 8 → M 97 h = M 64 h) ∧ (∀ j : Nat, j < 64 → M 98 j = M 65 j) ∧ (∀ h : Nat, h < 8 → M 23 3 ≤ (h : Int) → M 64 h = 0) ∧ (∀ h k : Nat, h < 8 → k < 8 → (M 23 3 ≤ (h : Int) ∨ M 23 3 ≤ (k : Int) ∨ h = k) → M 65 (8 * h + k) = 0)) ∧ M 77 35 = M 63 6 ∧ ∀ i : Nat, (i : Int) < M 63 6 → (M 99 (4 * i) = M 66 i ∧ M 99 (4 * i + 1) = M 67 i ∧ M 99 (4 * i + 3) = M 69 i ∧ M 67 i < M 23 3) ∧ (M 66 i = 0 ∨ (M 99 (4 * i + 2) = M 68 i ∧ M 68 i < M 23 3 ∧ ¬ M 68 i = M 67 i))
def RlP (M : Mm) : Prop := (M 77 37 = M 70 2 ∧ M 77 40 = M 73 2) ∧ (∀ j : Nat, (j : Int) < M 70 2 → M 100 j = M 71 j ∧ M 101 j = M 72 j) ∧ ∀ j : Nat, (j : Int) < M 73 2 → M 102 j = M 74 j ∧ M 103 j = M 75 j ∧ M 74 j < M 23 3 ∧ M 75 j < 28
def RlO (M : Mm) : Prop := (M 77 2 = M 0 15 ∧ M 77 0 = M 0 14 ∧ M 77 3 = M 0 16 ∧ M 77 4 = M 0 17) ∧ ∀ f : Nat, 1 ≤ f → f ≤ 5 → M 78 f = M 76 f
def RlI (M : Mm) : Prop := (RV M ∧ RQ M ∧ RT M) ∧ (DLX M ∧ TNX M ∧ TRX M) ∧ (∀ j : Nat, j < 4 → ir (M 93 j)) ∧ ∀ i : Nat, i < 8 → M 85 (6 * i + 5) ≤ 9
def Rl (M : Mm) : Prop := CI M ∧ (RlR M ∧ RlT M ∧ RlV M) ∧ (RlL M ∧ RlP M ∧ RlO M) ∧ RlI M ∧ RB M
/-- what may differ: the class's scratch, what was told, the reference's scratch -/
def keC (a b : Nat) : Prop := (1 ≤ a ∧ a ≤ 34) ∨ (63 ≤ a ∧ a ≤ 75) ∨ (a = 77 ∧ (b = 10 ∨ b = 12 ∨ b = 15 ∨ b = 35 ∨ b = 37 ∨ b = 40)) ∨ (79 ≤ a ∧ a ≤ 86 ∧ ¬ a = 81) ∨ a = 93 ∨ (97 ≤ a ∧ a ≤ 103)
def KE (M M2 : Mm) : Prop := ∀ a b, keC a b → M2 a b = M a b
theorem KE.r {M M2 : Mm} (h : KE M M2) {a : Nat} (ha : (1 ≤ a ∧ a ≤ 34) ∨ (63 ≤ a ∧ a ≤ 75) ∨ (79 ≤ a ∧ a ≤ 86 ∧ ¬ a = 81) ∨ a = 93 ∨ (97 ≤ a ∧ a ≤ 103)) : M2 a = M a := by
  funext b
  exact h a b (by unfold keC; omega)
theorem KE.s {M M2 : Mm} (h : KE M M2) {b : Nat} (hb : b = 10 ∨ b = 12 ∨ b = 15 ∨ b = 35 ∨ b = 37 ∨ b = 40) : M2 77 b = M 77 b := h 77 b (by unfold keC; omega)
theorem Rl.ke {M M2 : Mm} (h : Rl M) (k : KE M M2) (hC : CI M2) (hO : RlO M2) (hB : RB M2) : Rl M2 := by
  obtain ⟨hc0, ⟨hR, hT, hV⟩, ⟨hL, hP, _⟩, ⟨⟨i1, i2, i3⟩, ⟨i4, i5, i6⟩, i7, i8⟩, _⟩ := h
  have s10 := k.s (b := 10) (by decide)
  have s12 := k.s (b := 12) (by decide)
  have s15 := k.s (b := 15) (by decide)
  have s35 := k.s (b := 35) (by decide)
  have s37 := k.s (b := 37) (by decide)
  have s40 := k.s (b := 40) (by decide)
  have e := fun (a : Nat) (ha : (1 ≤ a ∧ a ≤ 34) ∨ (63 ≤ a ∧ a ≤ 75) ∨ (79 ≤ a ∧ a ≤ 86 ∧ ¬ a = 81) ∨ a = 93 ∨ (97 ≤ a ∧ a ≤ 103)) => k.r ha
  refine ⟨hC, ⟨?_, ?_, ?_⟩, ⟨?_, ?_, hO⟩, ⟨⟨?_, ?_, ?_⟩, ⟨?_, ?_, ?_⟩, ?_, ?_⟩, hB⟩
  · intro r hr
    rw [e 79 (by decide), e 80 (by decide), e (3 + 2 * r) (by omega), e (3 + 2 * r + 1) (by omega)]
    exact hR r hr
  · intro t ht
    rw [e 82 (by decide), e 83 (by decide), e (15 + 2 * t) (by omega), e (15 + 2 * t + 1) (by omega)]
    exact hT t ht
  · unfold RlV
    rw [s10, s12, s15, e 23 (by decide), e 24 (by decide), e 84 (by decide), e 85 (by decide), e 86 (by decide)]
    refine ⟨hV.1, hV.2.1, fun i hi => ?_, hV.2.2.2⟩
    by_cases q : i < 8
    · rw [e (27 + i) (by omega)]
      exact hV.2.2.1 i hi
    · exfalso
      have hl := hc0.l.2.2.2
      omega
  · unfold RlL
    rw [s35, e 97 (by decide), e 98 (by decide), e 99 (by decide), e 63 (by decide), e 64 (by decide), e 65 (by decide), e 66 (by decide), e 67 (by decide), e 68 (by decide), e 69 (by decide), e 23 (by decide)]
    exact hL
  · unfold RlP
    rw [s37, s40, e 100 (by decide), e 101 (by decide), e 102 (by decide), e 103 (by decide), e 70 (by decide), e 71 (by decide), e 72 (by decide), e 73 (by decide), e 74 (by decide), e 75 (by decide), e 23 (by decide)]
    exact hP
  · exact i1.of (e 84 (by decide)) (e 85 (by decide)) (e 86 (by decide)) s10 s12 s15
  · unfold RQ
    rw [e 79 (by decide), e 80 (by decide)]
    exact i2
  · unfold RT
    rw [e 82 (by decide), e 83 (by decide)]
    exact i3
  · have ex : ∀ i k, xd M2 i k = xd M i k := fun i k => by unfold xd; rw [e 99 (by decide)]
    unfold DLX
    simp only [ex, s35]
    exact i4
  · unfold TNX
    rw [s37, e 100 (by decide), e 101 (by decide)]
    exact i5
  · unfold TRX
    rw [s40, e 102 (by decide), e 103 (by decide)]
    exact i6
  · rw [e 93 (by decide)]
    exact i7
  · rw [e 85 (by decide)]
    exact i8
theorem RB_of {M M2 : Mm} (h : RB M) (h1 : M2 87 = M 87) (h2 : M2 88 = M 88) : RB M2 := by
  unfold RB
  rw [h1, h2]
  exact h
/-- both tell the same -/
theorem Rl.tell {M : Mm} (h : Rl M) (v : Int) : Rl (tlM (tdM M v) v) := by
  have e : ∀ a b, ¬ (a = 0 ∧ b = 15) → ¬ (a = 77 ∧ b = 2) → tlM (tdM M v) v a b = M a b := fun a b h1 h2 => by
    unfold tlM tdM
    rw [stM_ne _ _ (by omega), stM_ne _ _ (by omega)]
  refine h.ke (fun a b q => e a b (by unfold keC at q; omega) (by unfold keC at q; omega)) (h.1.fr0 (fun a h1 h2 => by funext b; exact e a b (by omega) (by omega))) ?_ ?_
  · have hO := h.2.2.1.2.2
    unfold RlO at hO ⊢
    rw [e 77 0 (by decide) (by decide), e 0 14 (by decide) (by decide), e 77 3 (by decide) (by decide), e 77 4 (by decide) (by decide), e 0 16 (by decide) (by decide), e 0 17 (by decide) (by decide)]
    refine ⟨⟨?_, hO.1.2⟩, fun f h1 h2 => ?_⟩
    · unfold tlM
      rw [stM_at, stM_ne _ _ (by omega)]
      unfold tdM
      rw [stM_at]
    · rw [e 78 f (by omega) (by omega), e 76 f (by omega) (by omega)]
      exact hO.2 f h1 h2
  · exact RB_of h.2.2.2.2 (by funext b; exact e 87 b (by omega) (by omega)) (by funext b; exact e 88 b (by omega) (by omega))

/-- both find the same -/
theorem Rl.meet {M : Mm} (h : Rl M) (f : Int) (hf : 1 ≤ f ∧ f ≤ 5) : Rl (mtM (fdM M f) f) := by
  have e : ∀ a b, ¬ (a = 0 ∧ b = 14) → ¬ (a = 76 ∧ b = f.toNat) → ¬ (a = 77 ∧ b = 0) → ¬ (a = 78 ∧ b = f.toNat) → mtM (fdM M f) f a b = M a b := fun a b h1 h2 h3 h4 => by
    unfold mtM fdM
    rw [stM_ne _ _ (by omega), stM_ne _ _ (by omega), stM_ne _ _ (by omega), stM_ne _ _ (by omega)]
  have hO := h.2.2.1.2.2
  refine h.ke (fun a b q => e a b (by unfold keC at q; omega) (by unfold keC at q; omega) (by unfold keC at q; omega) (by unfold keC at q; omega)) (h.1.fr0 (fun a h1 h2 => by funext b; exact e a b (by omega) (by omega) (by omega) (by omega))) ?_ (RB_of h.2.2.2.2 (by funext b; exact e 87 b (by omega) (by omega) (by omega) (by omega)) (by funext b; exact e 88 b (by omega) (by omega) (by omega) (by omega)))
  have k1 : mtM (fdM M f) f 77 0 = f := by
    unfold mtM
    rw [stM_ne _ _ (by omega), stM_at]
  have k2 : mtM (fdM M f) f 0 14 = f := by
    unfold mtM
    rw [stM_ne _ _ (by omega), stM_ne _ _ (by omega)]
    unfold fdM
    rw [stM_ne _ _ (by omega), stM_at]
  have k3 : mtM (fdM M f) f 78 f.toNat = M 78 f.toNat + 1 := by
    unfold mtM
    rw [stM_at]
    unfold fdM
    rw [stM_ne _ _ (by omega), stM_ne _ _ (by omega)]
  have k4 : mtM (fdM M f) f 76 f.toNat = M 76 f.toNat + 1 := by
    unfold mtM
    rw [stM_ne _ _ (by omega), stM_ne _ _ (by omega)]
    unfold fdM
    rw [stM_at]
  unfold RlO at hO ⊢
  rw [k1, k2, e 77 2 (by decide) (by omega) (by decide) (by omega), e 77 3 (by decide) (by omega) (by decide) (by omega), e 77 4 (by decide) (by omega) (by decide) (by omega), e 0 15 (by decide) (by omega) (by decide) (by omega), e 0 16 (by decide) (by omega) (by decide) (by omega), e 0 17 (by decide) (by omega) (by decide) (by omega)]
  refine ⟨⟨hO.1.1, rfl, hO.1.2.2⟩, fun g h1 h2 => ?_⟩
  by_cases q : g = f.toNat
  · rw [q, k3, k4, hO.2 f.toNat (by omega) (by omega)]
  · rw [e 78 g (by omega) (by omega) (by omega) (by omega), e 76 g (by omega) (by omega) (by omega) (by omega)]
    exact hO.2 g h1 h2
theorem Rl.m {M : Mm} (h : Rl M) : M 77 10 = M 23 3 ∧ M 77 12 = M 23 4 ∧ M 77 15 = M 23 5 := h.2.1.2.2.1
theorem Rl.pl {M : Mm} (h : Rl M) {q : Int} (hq : HS M q) : M 84 q.toNat = plc M 23 q := by
  unfold plc
  rw [if_pos hq]
  exact h.2.1.2.2.2.1 q.toNat (by have := hq.2; have := hq.1; omega)
theorem Rl.nd {M : Mm} (h : Rl M) {i : Int} (hi : NS M i) {k : Nat} (hk : k < 6) : nA M i (k : Int) = M (27 + i.toNat) k := by
  unfold nA
  have := (h.2.1.2.2.2.2.1 i.toNat (by omega)).1 k hk
  rw [show (6 * i + (k : Int)).toNat = 6 * i.toNat + k by omega]
  exact this
theorem Rl.nc {M : Mm} (h : Rl M) {i : Int} (hi : NS M i) : M 86 i.toNat = M (27 + i.toNat) 6 := (h.2.1.2.2.2.2.1 i.toNat (by omega)).2.1
theorem tdM_o {M : Mm} {v : Int} {a : Nat} (h : a ≠ 0) : tdM M v a = M a := stM_off h
theorem fdM_o {M : Mm} {f : Int} {a : Nat} (h : a ≠ 0) (h2 : a ≠ 76) : fdM M f a = M a := by
  unfold fdM
  rw [stM_off h2, stM_off h]
theorem pr_house {M : Mm} (h : Rl M) (q : Int) : xhouA (houM M q) q = houA M q ∧ Rl (xhouM (houM M q) q) := by
  have hm := h.m
  unfold xhouA houA xhouM houM
  by_cases c : HS M q
  · rw [if_neg (not_not_intro c), if_neg (not_not_intro c)]
    have c2 : HX (tdM M (M 64 q.toNat)) q := by
      show 0 ≤ q ∧ q ≤ tdM M (M 64 q.toNat) 77 10 - 1
      rw [tdM_o (by decide)]
      have := c.1
      have := c.2
      omega
    rw [if_neg (not_not_intro c2), if_neg (not_not_intro c2), tdM_o (by decide), tdM_o (by decide), h.2.2.1.1.1.1 q.toNat (by have := h.1.l.2.1; have := c.1; have := c.2; omega)]
    exact ⟨h.pl c, h.tell _⟩
  · rw [if_pos c, if_pos c]
    have c2 : ¬ HX M q := by
      intro z
      apply c
      have := z.1
      have := z.2
      exact ⟨by omega, by omega⟩
    rw [if_pos c2, if_pos c2]
    exact ⟨rfl, h⟩
theorem pr_need {M : Mm} (h : Rl M) (i w : Int) : xneeA (neeM M i w) i w = neeA M i w ∧ Rl (xneeM (neeM M i w) i w) := by
  have hm := h.m
  unfold xneeA neeA xneeM neeM
  by_cases c : ¬ NS M i ∨ w < 0 ∨ 5 < w
  · rw [if_pos c, if_pos c]
    have c2 : ¬ NX M i ∨ w < 0 ∨ 5 < w := by omega
    rw [if_pos c2, if_pos c2]
    exact ⟨rfl, h⟩
  · rw [if_neg c, if_neg c]
    have c2 : ¬ (¬ NX (tdM M (M (27 + i.toNat) (tlf w))) i ∨ w < 0 ∨ 5 < w) := by
      show ¬ (¬ (0 ≤ i ∧ i ≤ tdM M (M (27 + i.toNat) (tlf w)) 77 12 - 1) ∨ w < 0 ∨ 5 < w)
      rw [tdM_o (by decide)]
      omega
    rw [if_neg c2, if_neg c2, nA_off (tdM_o (by decide))]
    have hk := h.nd (i := i) (by omega) (k := w.toNat) (by omega)
    rw [Int.toNat_of_nonneg (by omega)] at hk
    have ht : tlf w = w.toNat := by
      unfold tlf
      by_cases q : w ≤ 4
      · rw [if_pos (by omega)]
      · rw [if_neg (by omega)]
        omega
    rw [hk, ht]
    exact ⟨rfl, h.tell _⟩
theorem pr_start {M : Mm} (h : Rl M) (q : Int) (hst : HS M q → CI (stM M 23 5 q)) : xstaA (staM M q) q = staA M q := by
  have hm := h.m
  unfold xstaA staA staM
  by_cases c : HS M q
  · rw [if_neg (not_not_intro c), if_neg (not_not_intro c)]
    rw [if_neg (not_not_intro (show HX (stM M 23 5 q) q by
      show 0 ≤ q ∧ q ≤ stM M 23 5 q 77 10 - 1
      rw [stM_off (by decide)]
      have := c.1
      have := c.2
      omega)), stM_off (by decide)]
    exact hm.2.2
  · rw [if_pos c, if_pos c, if_pos]
    intro z
    apply c
    have := z.1
    have := z.2
    exact ⟨by omega, by omega⟩
theorem pr_carry {M : Mm} (h : Rl M) (q k : Int) : xcarA M q k = carA M q k := by
  have hm := h.m
  unfold xcarA carA
  by_cases c : ¬ HS M q ∨ ¬ HS M k
  · rw [if_pos c, if_pos (show ¬ HX M q ∨ ¬ HX M k by omega)]
  · rw [if_neg c, if_neg (show ¬ (¬ HX M q ∨ ¬ HX M k) by omega), h.pl (q := q) (by omega), h.pl (q := k) (by omega)]
theorem pr_owes {M : Mm} (h : Rl M) (q k : Int) : xowA M q k = oweA M q k := by
  have hm := h.m
  have hl := h.1.l
  unfold xowA oweA
  by_cases c : ¬ HS M q ∨ ¬ HS M k ∨ q = k
  · rw [if_pos c, if_neg (show ¬ (HX M q ∧ HX M k ∧ ¬ q = k) by omega)]
  · rw [if_neg c, if_pos (show HX M q ∧ HX M k ∧ ¬ q = k by omega), show 8 * q + k = q * 8 + k by omega]
    exact h.2.2.1.1.1.2.1 _ (by omega)
