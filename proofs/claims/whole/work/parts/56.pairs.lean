/-- the things and the tracks alone have changed, the same on both sides -/
theorem Rl.prs {M M2 : Mm} (h : Rl M) (e : ∀ a, a ≤ 69 ∨ a = 76 ∨ (78 ≤ a ∧ a ≤ 99) → M2 a = M a) (s : ∀ b, ¬ b = 37 → ¬ b = 40 → M2 77 b = M 77 b) (p1 : PRW M2 70) (p2 : PRW M2 73) (hP : RlP M2) (t1 : TNX M2) (t2 : TRX M2) : Rl M2 := by
  obtain ⟨hc0, ⟨hR, hT, hV⟩, ⟨hL, _, hO⟩, ⟨⟨i1, i2, i3⟩, ⟨i4, _, _⟩, i7, i8⟩, hB⟩ := h
  have s5 := fun b (z : b ≤ 35) => s b (by omega) (by omega)
  refine ⟨⟨⟨?_, NDA_of2 (fun a _ _ => e a (by omega)) hc0.nd, ?_, ?_⟩, ⟨JW_of (fun a _ _ => e a (by omega)) hc0.j, PW_fr (fun a _ _ => e a (by omega)) hc0.p, WW_fr (fun a _ _ => e a (by omega)) hc0.w, CW_fr (fun a _ _ => e a (by omega)) hc0.c⟩, ?_, ⟨?_, ?_⟩, p1, p2⟩, ⟨hR.of (fun a q => e a (by omega)), hT.of (fun a q => e a (by omega)), hV.of hc0.l.2.2.2 (fun a q => e a (by omega)) (fun b q => s5 b (by omega))⟩, ⟨hL.of (fun a q => e a (by omega)) (s5 35 (by decide)), hP, hO.of (fun a q => e a (by omega)) (fun b q => s5 b (by omega))⟩, ⟨⟨i1.of (e 84 (by decide)) (e 85 (by decide)) (e 86 (by decide)) (s5 10 (by decide)) (s5 12 (by decide)) (s5 15 (by decide)), i2.of (e 79 (by decide)) (e 80 (by decide)), i3.of (e 82 (by decide)) (e 83 (by decide))⟩, ⟨i4.of (e 99 (by decide)) (s5 35 (by decide)), t1, t2⟩, ?_, ?_⟩, RB_of hB (e 87 (by decide)) (e 88 (by decide))⟩
  · unfold LW; rw [e 23 (by decide)]; exact hc0.l
  · intro j; rw [e 24 (by decide)]; exact hc0.pl j
  · rw [e 23 (by decide)]; exact hc0.st
  · unfold DLW; rw [e 63 (by decide), e 66 (by decide), e 67 (by decide), e 68 (by decide), e 69 (by decide)]; exact hc0.d
  · intro o ho; rw [e o (by omega), e (o + 1) (by omega)]; exact hc0.rw o ho
  · intro o ho h15; rw [e (o + 1) (by omega)]; exact hc0.tw o ho h15
  · rw [e 93 (by decide)]; exact i7
  · rw [e 85 (by decide)]; exact i8
theorem Rl.HX {M : Mm} (h : Rl M) {q : Int} : HX M q ↔ HS M q := by
  have hm := h.m
  constructor
  · intro z
    have := z.1
    have := z.2
    exact ⟨by omega, by omega⟩
  · intro z
    have := z.1
    have := z.2
    exact ⟨by omega, by omega⟩
/-- one more pair -/
def pshM (M : Mm) (h v : Int) : Mm := stM (stM (stM M 100 (M 77 37).toNat h) 101 (M 77 37).toNat v) 77 37 (M 77 37 + 1)
def psh2M (M : Mm) (h v : Int) : Mm := stM (stM (stM M 102 (M 77 40).toNat h) 103 (M 77 40).toNat v) 77 40 (M 77 40 + 1)
theorem Rl.pocket {M : Mm} (h : Rl M) {q v : Int} (hq : HS M q) (hv : 0 ≤ v ∧ v ≤ 99) (hn : M 70 2 < 12) : Rl (pshM (adM M 70 q v) q v) := by
  have hp := h.1.p70
  have hl := h.1.l
  have hP := h.2.2.1.2.1
  have hT := h.2.2.2.1.2.1.2.1
  have hA : adM M 70 q v = stM (stM (stM M 71 (M 70 2).toNat q) 72 (M 70 2).toNat v) 70 2 (M 70 2 + 1) := by unfold adM; rw [if_pos hn]
  have hk : adM M 70 q v 77 37 = M 70 2 := by rw [hA, stM_off (by decide), stM_off (by decide), stM_off (by decide)]; exact hP.1.1
  unfold pshM
  rw [hk, hA]
  generalize hN : M 70 2 = N at *
  have e : ∀ a b, ¬ (a = 71 ∧ b = N.toNat) → ¬ (a = 72 ∧ b = N.toNat) → ¬ (a = 70 ∧ b = 2) → ¬ (a = 100 ∧ b = N.toNat) → ¬ (a = 101 ∧ b = N.toNat) → ¬ (a = 77 ∧ b = 37) → stM (stM (stM (stM (stM (stM M 71 N.toNat q) 72 N.toNat v) 70 2 (N + 1)) 100 N.toNat q) 101 N.toNat v) 77 37 (N + 1) a b = M a b := fun a b h1 h2 h3 h4 h5 h6 => by rw [stM_ne _ _ (by omega), stM_ne _ _ (by omega), stM_ne _ _ (by omega), stM_ne _ _ (by omega), stM_ne _ _ (by omega), stM_ne _ _ (by omega)]
  generalize hW : stM (stM (stM (stM (stM (stM M 71 N.toNat q) 72 N.toNat v) 70 2 (N + 1)) 100 N.toNat q) 101 N.toNat v) 77 37 (N + 1) = W at e
  have k1 : W 77 37 = N + 1 := by rw [← hW]; exact stM_at _ _ _ _
  have k2 : W 101 N.toNat = v := by rw [← hW, stM_ne _ _ (by omega)]; exact stM_at _ _ _ _
  have k3 : W 100 N.toNat = q := by rw [← hW, stM_ne _ _ (by omega), stM_ne _ _ (by omega)]; exact stM_at _ _ _ _
  have k4 : W 70 2 = N + 1 := by rw [← hW, stM_ne _ _ (by omega), stM_ne _ _ (by omega), stM_ne _ _ (by omega)]; exact stM_at _ _ _ _
  have k5 : W 72 N.toNat = v := by rw [← hW, stM_ne _ _ (by omega), stM_ne _ _ (by omega), stM_ne _ _ (by omega), stM_ne _ _ (by omega)]; exact stM_at _ _ _ _
  have k6 : W 71 N.toNat = q := by rw [← hW, stM_ne _ _ (by omega), stM_ne _ _ (by omega), stM_ne _ _ (by omega), stM_ne _ _ (by omega), stM_ne _ _ (by omega)]; exact stM_at _ _ _ _
  have f : ∀ a, ¬ (70 ≤ a ∧ a ≤ 72) → ¬ a = 77 → ¬ a = 100 → ¬ a = 101 → W a = M a := fun a h1 h2 h3 h4 => by funext b; exact e a b (by omega) (by omega) (by omega) (by omega) (by omega) (by omega)
  have e1 : ∀ j : Nat, j ≠ N.toNat → W 71 j = M 71 j ∧ W 72 j = M 72 j ∧ W 100 j = M 100 j ∧ W 101 j = M 101 j := fun j hj => ⟨e 71 j (by omega) (by omega) (by omega) (by omega) (by omega) (by omega), e 72 j (by omega) (by omega) (by omega) (by omega) (by omega) (by omega), e 100 j (by omega) (by omega) (by omega) (by omega) (by omega) (by omega), e 101 j (by omega) (by omega) (by omega) (by omega) (by omega) (by omega)⟩
  have hq7 := hq.2
  have hq0 := hq.1
  refine h.prs (fun a z => f a (by omega) (by omega) (by omega) (by omega)) (fun b z1 z2 => e 77 b (by omega) (by omega) (by omega) (by omega) (by omega) (by omega)) ⟨by rw [k4]; omega, fun j => ?_⟩ ?_ ⟨⟨by rw [k1, k4], ?_⟩, fun j hj => ?_, ?_⟩ ⟨by rw [k1]; omega, fun j hj => ?_⟩ ?_
  · by_cases z : j = N.toNat
    · rw [z, k6, k5]
      exact ⟨by omega, hv⟩
    · rw [(e1 j z).1, (e1 j z).2.1]
      exact hp.2 j
  · unfold PRW
    rw [f 73 (by decide) (by decide) (by decide) (by decide), f 74 (by decide) (by decide) (by decide) (by decide), f 75 (by decide) (by decide) (by decide) (by decide)]
    exact h.1.p73
  · rw [e 77 40 (by omega) (by omega) (by omega) (by omega) (by omega) (by omega), f 73 (by decide) (by decide) (by decide) (by decide)]
    exact hP.1.2
  · rw [k4] at hj
    by_cases z : j = N.toNat
    · rw [z, k2, k3, k5, k6]
      exact ⟨rfl, rfl⟩
    · rw [(e1 j z).1, (e1 j z).2.1, (e1 j z).2.2.1, (e1 j z).2.2.2]
      exact hP.2.1 j (by omega)
  · rw [f 73 (by decide) (by decide) (by decide) (by decide), f 74 (by decide) (by decide) (by decide) (by decide), f 75 (by decide) (by decide) (by decide) (by decide), f 102 (by decide) (by decide) (by decide) (by decide), f 103 (by decide) (by decide) (by decide) (by decide), f 23 (by decide) (by decide) (by decide) (by decide)]
    exact hP.2.2
  · by_cases z : j = N.toNat
    · rw [z, k2, k3]
      exact ⟨by omega, hv⟩
    · rw [(e1 j z).2.2.1, (e1 j z).2.2.2]
      exact hT.2 j hj
  · exact (h.2.2.2.1.2.1.2.2).of (f 102 (by decide) (by decide) (by decide) (by decide)) (f 103 (by decide) (by decide) (by decide) (by decide)) (e 77 40 (by omega) (by omega) (by omega) (by omega) (by omega) (by omega))
theorem pr_pocket {M : Mm} (h : Rl M) (q v : Int) : xpoA (pocM M q v) q v = pocA M q v ∧ Rl (xpoM (pocM M q v) q v) := by
  have hm := h.m
  have hp := h.1.p70
  have hP := h.2.2.1.2.1
  unfold xpoA pocA xpoM pocM
  by_cases c : poB M q v
  · have c2 : xpB M q v := by unfold xpB; rw [h.HX]; unfold poB at c; omega
    simp only [if_pos c, if_pos c2]
    exact ⟨trivial, h⟩
  · have c2 : ¬ xpB M q v := by unfold xpB; rw [h.HX]; unfold poB at c; omega
    by_cases c3 : 12 ≤ M 70 2
    · have c4 : M 77 37 = 12 := by rw [hP.1.1]; omega
      simp only [if_neg c, if_pos c3, if_neg c2, if_pos c4]
      exact ⟨trivial, h⟩
    · have ka : ∀ a, a ≠ 70 → a ≠ 71 → a ≠ 72 → adM M 70 q v a = M a := fun a h1 h2 h3 => by
        unfold adM
        rw [if_pos (by omega), stM_off h1, stM_off h3, stM_off h2]
      have c5 : ¬ xpB (adM M 70 q v) q v := by
        intro z
        apply c2
        unfold xpB HX at z ⊢
        rw [ka 77 (by decide) (by decide) (by decide)] at z
        exact z
      have c6 : ¬ adM M 70 q v 77 37 = 12 := by
        rw [ka 77 (by decide) (by decide) (by decide), hP.1.1]
        omega
      simp only [if_neg c, if_neg c3, if_neg c5, if_neg c6]
      unfold poB at c
      refine ⟨?_, h.pocket (by omega) (by omega) (by omega)⟩
      rw [ka 77 (by decide) (by decide) (by decide), hP.1.1]
theorem Rl.track {M : Mm} (h : Rl M) {q v : Int} (hq : HS M q) (hv : 0 ≤ v ∧ v ≤ 27) (hn : M 73 2 < 12) : Rl (psh2M (adM M 73 q v) q v) := by
  have hp := h.1.p73
  have hl := h.1.l
  have hP := h.2.2.1.2.1
  have hT := h.2.2.2.1.2.1.2.2
  have hA : adM M 73 q v = stM (stM (stM M 74 (M 73 2).toNat q) 75 (M 73 2).toNat v) 73 2 (M 73 2 + 1) := by unfold adM; rw [if_pos hn]
  have hk : adM M 73 q v 77 40 = M 73 2 := by rw [hA, stM_off (by decide), stM_off (by decide), stM_off (by decide)]; exact hP.1.2
  unfold psh2M
  rw [hk, hA]
  generalize hN : M 73 2 = N at *
  have e : ∀ a b, ¬ (a = 74 ∧ b = N.toNat) → ¬ (a = 75 ∧ b = N.toNat) → ¬ (a = 73 ∧ b = 2) → ¬ (a = 102 ∧ b = N.toNat) → ¬ (a = 103 ∧ b = N.toNat) → ¬ (a = 77 ∧ b = 40) → stM (stM (stM (stM (stM (stM M 74 N.toNat q) 75 N.toNat v) 73 2 (N + 1)) 102 N.toNat q) 103 N.toNat v) 77 40 (N + 1) a b = M a b := fun a b h1 h2 h3 h4 h5 h6 => by rw [stM_ne _ _ (by omega), stM_ne _ _ (by omega), stM_ne _ _ (by omega), stM_ne _ _ (by omega), stM_ne _ _ (by omega), stM_ne _ _ (by omega)]
  generalize hW : stM (stM (stM (stM (stM (stM M 74 N.toNat q) 75 N.toNat v) 73 2 (N + 1)) 102 N.toNat q) 103 N.toNat v) 77 40 (N + 1) = W at e
  have k1 : W 77 40 = N + 1 := by rw [← hW]; exact stM_at _ _ _ _
  have k2 : W 103 N.toNat = v := by rw [← hW, stM_ne _ _ (by omega)]; exact stM_at _ _ _ _
  have k3 : W 102 N.toNat = q := by rw [← hW, stM_ne _ _ (by omega), stM_ne _ _ (by omega)]; exact stM_at _ _ _ _
  have k4 : W 73 2 = N + 1 := by rw [← hW, stM_ne _ _ (by omega), stM_ne _ _ (by omega), stM_ne _ _ (by omega)]; exact stM_at _ _ _ _
  have k5 : W 75 N.toNat = v := by rw [← hW, stM_ne _ _ (by omega), stM_ne _ _ (by omega), stM_ne _ _ (by omega), stM_ne _ _ (by omega)]; exact stM_at _ _ _ _
  have k6 : W 74 N.toNat = q := by rw [← hW, stM_ne _ _ (by omega), stM_ne _ _ (by omega), stM_ne _ _ (by omega), stM_ne _ _ (by omega), stM_ne _ _ (by omega)]; exact stM_at _ _ _ _
  have f : ∀ a, ¬ (73 ≤ a ∧ a ≤ 75) → ¬ a = 77 → ¬ a = 102 → ¬ a = 103 → W a = M a := fun a h1 h2 h3 h4 => by funext b; exact e a b (by omega) (by omega) (by omega) (by omega) (by omega) (by omega)
  have e1 : ∀ j : Nat, j ≠ N.toNat → W 74 j = M 74 j ∧ W 75 j = M 75 j ∧ W 102 j = M 102 j ∧ W 103 j = M 103 j := fun j hj => ⟨e 74 j (by omega) (by omega) (by omega) (by omega) (by omega) (by omega), e 75 j (by omega) (by omega) (by omega) (by omega) (by omega) (by omega), e 102 j (by omega) (by omega) (by omega) (by omega) (by omega) (by omega), e 103 j (by omega) (by omega) (by omega) (by omega) (by omega) (by omega)⟩
  have hq7 := hq.2
  have hq0 := hq.1
  refine h.prs (fun a z => f a (by omega) (by omega) (by omega) (by omega)) (fun b z1 z2 => e 77 b (by omega) (by omega) (by omega) (by omega) (by omega) (by omega)) ?_ ⟨by rw [k4]; omega, fun j => ?_⟩ ⟨⟨?_, by rw [k1, k4]⟩, ?_, fun j hj => ?_⟩ ?_ ⟨by rw [k1]; omega, fun j hj => ?_⟩
  · unfold PRW
    rw [f 70 (by decide) (by decide) (by decide) (by decide), f 71 (by decide) (by decide) (by decide) (by decide), f 72 (by decide) (by decide) (by decide) (by decide)]
    exact h.1.p70
  · by_cases z : j = N.toNat
    · rw [z, k6, k5]
      exact ⟨by omega, by omega⟩
    · rw [(e1 j z).1, (e1 j z).2.1]
      exact hp.2 j
  · rw [e 77 37 (by omega) (by omega) (by omega) (by omega) (by omega) (by omega), f 70 (by decide) (by decide) (by decide) (by decide)]
    exact hP.1.1
  · rw [f 70 (by decide) (by decide) (by decide) (by decide), f 71 (by decide) (by decide) (by decide) (by decide), f 72 (by decide) (by decide) (by decide) (by decide), f 100 (by decide) (by decide) (by decide) (by decide), f 101 (by decide) (by decide) (by decide) (by decide)]
    exact hP.2.1
  · rw [k4] at hj
    rw [f 23 (by decide) (by decide) (by decide) (by decide)]
    by_cases z : j = N.toNat
    · rw [z, k2, k3, k5, k6]
      exact ⟨rfl, rfl, hq7, by omega⟩
    · rw [(e1 j z).1, (e1 j z).2.1, (e1 j z).2.2.1, (e1 j z).2.2.2]
      exact hP.2.2 j (by omega)
  · exact (h.2.2.2.1.2.1.2.1).of (f 100 (by decide) (by decide) (by decide) (by decide)) (f 101 (by decide) (by decide) (by decide) (by decide)) (e 77 37 (by omega) (by omega) (by omega) (by omega) (by omega) (by omega))
  · by_cases z : j = N.toNat
    · rw [z, k2, k3]
      exact ⟨by omega, hv⟩
    · rw [(e1 j z).2.2.1, (e1 j z).2.2.2]
      exact hT.2 j hj
theorem pr_track {M : Mm} (h : Rl M) (q v : Int) : xtrA (traM M q v) q v = traA M q v ∧ Rl (xtrM (traM M q v) q v) := by
  have hm := h.m
  have hp := h.1.p73
  have hP := h.2.2.1.2.1
  unfold xtrA traA xtrM traM
  by_cases c : trB M q v
  · have c2 : xtB M q v := by unfold xtB; rw [h.HX]; unfold trB at c; omega
    simp only [if_pos c, if_pos c2]
    exact ⟨trivial, h⟩
  · have c2 : ¬ xtB M q v := by unfold xtB; rw [h.HX]; unfold trB at c; omega
    by_cases c3 : 12 ≤ M 73 2
    · have c4 : M 77 40 = 12 := by rw [hP.1.2]; omega
      simp only [if_neg c, if_pos c3, if_neg c2, if_pos c4]
      exact ⟨trivial, h⟩
    · have ka : ∀ a, a ≠ 73 → a ≠ 74 → a ≠ 75 → adM M 73 q v a = M a := fun a h1 h2 h3 => by
        unfold adM
        rw [if_pos (by omega), stM_off h1, stM_off h3, stM_off h2]
      have c5 : ¬ xtB (adM M 73 q v) q v := by
        intro z
        apply c2
        unfold xtB HX at z ⊢
        rw [ka 77 (by decide) (by decide) (by decide)] at z
        exact z
      have c6 : ¬ adM M 73 q v 77 40 = 12 := by
        rw [ka 77 (by decide) (by decide) (by decide), hP.1.2]
        omega
      simp only [if_neg c, if_neg c3, if_neg c5, if_neg c6]
      unfold trB at c
      refine ⟨?_, h.track (by omega) (by omega) (by omega)⟩
      rw [ka 77 (by decide) (by decide) (by decide), hP.1.2]
theorem Rl.forget {M : Mm} (h : Rl M) {q : Int} (hq : 0 ≤ q ∧ q ≤ M 73 2) : Rl (stM (stM M 73 2 q) 77 40 q) := by
  have hp := h.1.p73
  have hP := h.2.2.1.2.1
  have hT := h.2.2.2.1.2.1.2.2
  have e : ∀ a b, ¬ (a = 73 ∧ b = 2) → ¬ (a = 77 ∧ b = 40) → stM (stM M 73 2 q) 77 40 q a b = M a b := fun a b h1 h2 => by rw [stM_ne _ _ (by omega), stM_ne _ _ (by omega)]
  have k1 : stM (stM M 73 2 q) 77 40 q 77 40 = q := stM_at _ _ _ _
  have k2 : stM (stM M 73 2 q) 77 40 q 73 2 = q := by rw [stM_ne _ _ (by omega), stM_at]
  have f : ∀ a, a ≠ 73 → a ≠ 77 → stM (stM M 73 2 q) 77 40 q a = M a := fun a h1 h2 => by funext b; exact e a b (by omega) (by omega)
  refine h.prs (fun a z => f a (by omega) (by omega)) (fun b z1 z2 => e 77 b (by omega) (by omega)) ?_ ?_ ?_ ?_ ?_
  · unfold PRW
    rw [f 70 (by decide) (by decide), f 71 (by decide) (by decide), f 72 (by decide) (by decide)]
    exact h.1.p70
  · unfold PRW
    rw [k2, f 74 (by decide) (by decide), f 75 (by decide) (by decide)]
    exact ⟨by omega, hp.2⟩
  · unfold RlP
    rw [k1, k2, e 77 37 (by decide) (by decide), f 70 (by decide) (by decide), f 71 (by decide) (by decide), f 72 (by decide) (by decide), f 100 (by decide) (by decide), f 101 (by decide) (by decide), f 74 (by decide) (by decide), f 75 (by decide) (by decide), f 102 (by decide) (by decide), f 103 (by decide) (by decide), f 23 (by decide) (by decide)]
    exact ⟨⟨hP.1.1, rfl⟩, hP.2.1, fun j hj => hP.2.2 j (by omega)⟩
  · exact (h.2.2.2.1.2.1.2.1).of (f 100 (by decide) (by decide)) (f 101 (by decide) (by decide)) (e 77 37 (by decide) (by decide))
  · unfold TRX
    rw [k1, f 102 (by decide) (by decide), f 103 (by decide) (by decide)]
    exact ⟨by omega, hT.2⟩
theorem pr_forget {M : Mm} (h : Rl M) (q : Int) : xfgA (forM M q) q = forA M q ∧ Rl (xfgM (forM M q) q) := by
  have hP := h.2.2.1.2.1
  unfold xfgA forA xfgM forM
  by_cases c : q < 0 ∨ M 73 2 < q
  · have c2 : ¬ (0 ≤ q ∧ q ≤ M 77 40) := by rw [hP.1.2]; omega
    simp only [if_pos c, if_pos c2]
    exact ⟨trivial, h⟩
  · have k : stM M 73 2 q 77 40 = M 73 2 := by rw [stM_off (by decide)]; exact hP.1.2
    have c2 : ¬ ¬ (0 ≤ q ∧ q ≤ stM M 73 2 q 77 40) := by rw [k]; omega
    simp only [if_neg c, if_neg c2]
    exact ⟨by rw [k], h.forget (by omega)⟩
