theorem smZ_eq {f g : Nat → Int} : ∀ {k : Nat}, (∀ j, j < k → f j = g j) → smZ f k = smZ g k
  | 0, _ => rfl
  | k + 1, h => by rw [smZ, smZ, smZ_eq (fun j hj => h j (by omega)), h k (by omega)]
theorem RlR.of {M M2 : Mm} (h : RlR M) (e : ∀ a, (3 ≤ a ∧ a ≤ 14) ∨ a = 79 ∨ a = 80 → M2 a = M a) : RlR M2 := by
  intro r hr
  rw [e 79 (by decide), e 80 (by decide), e (3 + 2 * r) (by omega), e (3 + 2 * r + 1) (by omega)]
  exact h r hr
theorem RlT.of {M M2 : Mm} (h : RlT M) (e : ∀ a, (15 ≤ a ∧ a ≤ 22) ∨ a = 82 ∨ a = 83 → M2 a = M a) : RlT M2 := by
  intro t ht
  rw [e 82 (by decide), e 83 (by decide), e (15 + 2 * t) (by omega), e (15 + 2 * t + 1) (by omega)]
  exact h t ht
theorem RlV.of {M M2 : Mm} (h : RlV M) (hl : M 23 4 ≤ 8) (e : ∀ a, (23 ≤ a ∧ a ≤ 34) ∨ (84 ≤ a ∧ a ≤ 86) → M2 a = M a) (s : ∀ b, b = 10 ∨ b = 12 ∨ b = 15 → M2 77 b = M 77 b) : RlV M2 := by
  unfold RlV
  rw [s 10 (by decide), s 12 (by decide), s 15 (by decide), e 23 (by decide), e 24 (by decide), e 84 (by decide), e 85 (by decide), e 86 (by decide)]
  refine ⟨h.1, h.2.1, fun i hi => ?_, h.2.2.2⟩
  rw [e (27 + i) (by omega)]
  exact h.2.2.1 i hi
theorem RlL.of {M M2 : Mm} (h : RlL M) (e : ∀ a, a = 23 ∨ (63 ≤ a ∧ a ≤ 69) ∨ (97 ≤ a ∧ a ≤ 99) → M2 a = M a) (s : M2 77 35 = M 77 35) : RlL M2 := by
  unfold RlL
  rw [s, e 97 (by decide), e 98 (by decide), e 99 (by decide), e 63 (by decide), e 64 (by decide), e 65 (by decide), e 66 (by decide), e 67 (by decide), e 68 (by decide), e 69 (by decide), e 23 (by decide)]
  exact h
theorem RlP.of {M M2 : Mm} (h : RlP M) (e : ∀ a, a = 23 ∨ (70 ≤ a ∧ a ≤ 75) ∨ (100 ≤ a ∧ a ≤ 103) → M2 a = M a) (s : ∀ b, b = 37 ∨ b = 40 → M2 77 b = M 77 b) : RlP M2 := by
  unfold RlP
  rw [s 37 (by decide), s 40 (by decide), e 100 (by decide), e 101 (by decide), e 102 (by decide), e 103 (by decide), e 70 (by decide), e 71 (by decide), e 72 (by decide), e 73 (by decide), e 74 (by decide), e 75 (by decide), e 23 (by decide)]
  exact h
theorem RQ.of {M M2 : Mm} (h : RQ M) (e : M2 79 = M 79) (e2 : M2 80 = M 80) : RQ M2 := by
  unfold RQ
  rw [e, e2]
  exact h
theorem RT.of {M M2 : Mm} (h : RT M) (e : M2 82 = M 82) (e2 : M2 83 = M 83) : RT M2 := by
  unfold RT
  rw [e, e2]
  exact h
theorem DLX.of {M M2 : Mm} (h : DLX M) (e : M2 99 = M 99) (s : M2 77 35 = M 77 35) : DLX M2 := by
  have ex : ∀ i k, xd M2 i k = xd M i k := fun i k => by unfold xd; rw [e]
  unfold DLX
  simp only [ex, s]
  exact h
theorem TNX.of {M M2 : Mm} (h : TNX M) (e : M2 100 = M 100) (e2 : M2 101 = M 101) (s : M2 77 37 = M 77 37) : TNX M2 := by
  unfold TNX
  rw [e, e2, s]
  exact h
theorem TRX.of {M M2 : Mm} (h : TRX M) (e : M2 102 = M 102) (e2 : M2 103 = M 103) (s : M2 77 40 = M 77 40) : TRX M2 := by
  unfold TRX
  rw [e, e2, s]
  exact h
theorem CI.row {M M2 : Mm} (h : CI M) (hf : ∀ a, 23 ≤ a → a ≤ 75 → M2 a = M a) (hr : RWW M2) (ht : TWW M2) : CI M2 := by
  refine ⟨⟨?_, NDA_of2 (fun a h1 h2 => hf a (by omega) (by omega)) h.nd, ?_, ?_⟩, ⟨JW_of (fun a _ _ => hf a (by omega) (by omega)) h.j, PW_fr (fun a _ _ => hf a (by omega) (by omega)) h.p, WW_fr (fun a _ _ => hf a (by omega) (by omega)) h.w, CW_fr (fun a _ _ => hf a (by omega) (by omega)) h.c⟩, ?_, ⟨hr, ht⟩, ?_, ?_⟩
  · unfold LW; rw [hf 23 (by decide) (by decide)]; exact h.l
  · intro j; rw [hf 24 (by decide) (by decide)]; exact h.pl j
  · rw [hf 23 (by decide) (by decide)]; exact h.st
  · unfold DLW; rw [hf 63 (by decide) (by decide), hf 66 (by decide) (by decide), hf 67 (by decide) (by decide), hf 68 (by decide) (by decide), hf 69 (by decide) (by decide)]; exact h.d
  · unfold PRW; rw [hf 70 (by decide) (by decide), hf 71 (by decide) (by decide), hf 72 (by decide) (by decide)]; exact h.p70
  · unfold PRW; rw [hf 73 (by decide) (by decide), hf 74 (by decide) (by decide), hf 75 (by decide) (by decide)]; exact h.p73
/-- the rows alone have changed, the same on both sides -/
theorem Rl.row {M M2 : Mm} (h : Rl M) (e : ∀ a, (15 ≤ a ∧ a ≤ 34) ∨ (48 ≤ a ∧ a ≤ 75) ∨ (35 ≤ a ∧ a ≤ 47) ∨ (82 ≤ a ∧ a ≤ 88) ∨ a = 93 ∨ (97 ≤ a ∧ a ≤ 103) → M2 a = M a) (s : ∀ b, 10 ≤ b → M2 77 b = M 77 b) (hR : RlR M2) (hQ : RQ M2) (hw : RWW M2) (hO : RlO M2) : Rl M2 := by
  obtain ⟨hc0, ⟨_, hT, hV⟩, ⟨hL, hP, _⟩, ⟨⟨i1, _, i3⟩, ⟨i4, i5, i6⟩, i7, i8⟩, hB⟩ := h
  refine ⟨hc0.row (fun a h1 h2 => e a (by omega)) hw ?_, ⟨hR, hT.of (fun a q => e a (by omega)), hV.of hc0.l.2.2.2 (fun a q => e a (by omega)) (fun b q => s b (by omega))⟩, ⟨hL.of (fun a q => e a (by omega)) (s 35 (by decide)), hP.of (fun a q => e a (by omega)) (fun b q => s b (by omega)), hO⟩, ⟨⟨i1.of (e 84 (by decide)) (e 85 (by decide)) (e 86 (by decide)) (s 10 (by decide)) (s 12 (by decide)) (s 15 (by decide)), hQ, i3.of (e 82 (by decide)) (e 83 (by decide))⟩, ⟨i4.of (e 99 (by decide)) (s 35 (by decide)), i5.of (e 100 (by decide)) (e 101 (by decide)) (s 37 (by decide)), i6.of (e 102 (by decide)) (e 103 (by decide)) (s 40 (by decide))⟩, ?_, ?_⟩, RB_of hB (e 87 (by decide)) (e 88 (by decide))⟩
  · intro o ho h15
    rw [e (o + 1) (by omega)]
    exact hc0.tw o ho h15
  · rw [e 93 (by decide)]
    exact i7
  · rw [e 85 (by decide)]
    exact i8
theorem Rl.r1 {M : Mm} (h : Rl M) {r : Int} (hr : R6 r) : M 79 r.toNat = M (3 + 2 * r.toNat) 1 := (h.2.1.1 r.toNat (by omega)).1
theorem Rl.r2 {M : Mm} (h : Rl M) {r i : Int} (hr : R6 r) (hi : 0 ≤ i ∧ i < M (3 + 2 * r.toNat) 1) : rcA M r i = M (3 + 2 * r.toNat + 1) i.toNat := by
  unfold rcA
  rw [show (60 * r + i).toNat = 60 * r.toNat + i.toNat by omega]
  exact (h.2.1.1 r.toNat (by omega)).2 i.toNat (by omega)
theorem Rl.t1 {M : Mm} (h : Rl M) {r : Int} (hr : T4 r) : M 82 r.toNat = M (15 + 2 * r.toNat) 1 := (h.2.1.2.1 r.toNat (by omega)).1
theorem Rl.t2 {M : Mm} (h : Rl M) {r i : Int} (hr : T4 r) (hi : 0 ≤ i ∧ i < M (15 + 2 * r.toNat) 1) : M 83 (120 * r + i).toNat = M (15 + 2 * r.toNat + 1) i.toNat := by
  rw [show (120 * r + i).toNat = 120 * r.toNat + i.toNat by omega]
  exact (h.2.1.2.1 r.toNat (by omega)).2 i.toNat (by omega)
theorem pr_at {M : Mm} (h : Rl M) (r i : Int) : xlayA (atM M r i) r i = layA M r i ∧ Rl (xatM (atM M r i) r i) := by
  unfold xlayA layA xatM atM
  by_cases c : R6 r
  · have e1 := h.r1 c
    by_cases c1 : M (3 + 2 * r.toNat) 1 < 0
    · simp only [if_neg (not_not_intro c), if_pos c1]
      have c2 : fdM M 1 79 r.toNat < 0 := by rw [fdM_o (by decide) (by decide), e1]; exact c1
      simp only [if_pos c2]
      exact ⟨trivial, h.meet 1 (by decide)⟩
    · by_cases c3 : hsR M (3 + 2 * r.toNat) i
      · simp only [if_neg (not_not_intro c), if_neg c1, if_neg (not_not_intro c3)]
        have c2 : ¬ tdM M (M (3 + 2 * r.toNat + 1) i.toNat) 79 r.toNat < 0 := by rw [tdM_o (by decide), e1]; exact c1
        have c4 : hsX (tdM M (M (3 + 2 * r.toNat + 1) i.toNat)) 79 r i := by
          show 0 ≤ i ∧ i ≤ tdM M (M (3 + 2 * r.toNat + 1) i.toNat) 79 r.toNat - 1
          rw [tdM_o (by decide), e1]
          omega
        simp only [if_neg c2, if_neg (not_not_intro c4)]
        refine ⟨trivial, ?_⟩
        rw [show rcA (tdM M (M (3 + 2 * r.toNat + 1) i.toNat)) r i = M (3 + 2 * r.toNat + 1) i.toNat from (by unfold rcA; rw [tdM_o (by decide)]; exact h.r2 c c3)]
        exact h.tell _
      · simp only [if_neg (not_not_intro c), if_neg c1, if_pos c3]
        have c2 : ¬ fdM M 2 79 r.toNat < 0 := by rw [fdM_o (by decide) (by decide), e1]; exact c1
        have c4 : ¬ hsX (fdM M 2) 79 r i := by
          show ¬ (0 ≤ i ∧ i ≤ fdM M 2 79 r.toNat - 1)
          rw [fdM_o (by decide) (by decide), e1]
          omega
        simp only [if_neg c2, if_pos c4]
        exact ⟨trivial, h.meet 2 (by decide)⟩
  · simp only [if_pos c]
    exact ⟨trivial, h⟩
theorem stM_comm (M : Mm) {a b c d : Nat} (v w : Int) (h : a ≠ c ∨ b ≠ d) : stM (stM M a b v) c d w = stM (stM M c d w) a b v := by
  funext x y
  unfold stM
  by_cases h1 : x = c ∧ y = d
  · rw [if_pos h1, if_neg (by omega), if_pos h1]
  · rw [if_neg h1]
    by_cases h2 : x = a ∧ y = b
    · rw [if_pos h2, if_pos h2]
    · rw [if_neg h2, if_neg h2, if_neg h1]
theorem Rl.lay {M : Mm} (h : Rl M) {r i v : Int} (hr : R6 r) (hi : 0 ≤ i ∧ i < M (3 + 2 * r.toNat) 1) (hv : ir v) : Rl (stM (stM M (3 + 2 * r.toNat + 1) i.toNat v) 80 (60 * r + i).toNat v) := by
  have e : ∀ a b, ¬ (a = 3 + 2 * r.toNat + 1 ∧ b = i.toNat) → ¬ (a = 80 ∧ b = (60 * r + i).toNat) → stM (stM M (3 + 2 * r.toNat + 1) i.toNat v) 80 (60 * r + i).toNat v a b = M a b := fun a b h1 h2 => by rw [stM_ne _ _ (by omega), stM_ne _ _ (by omega)]
  have k1 : stM (stM M (3 + 2 * r.toNat + 1) i.toNat v) 80 (60 * r + i).toNat v 80 (60 * r + i).toNat = v := stM_at _ _ _ _
  have k2 : stM (stM M (3 + 2 * r.toNat + 1) i.toNat v) 80 (60 * r + i).toNat v (3 + 2 * r.toNat + 1) i.toNat = v := by rw [stM_ne _ _ (by omega), stM_at]
  have hl : M (3 + 2 * r.toNat) 1 ≤ 60 := by have := (h.1.rw (3 + 2 * r.toNat) (by unfold isRowO; omega)).1.2; unfold capO at this; rw [if_pos (by omega)] at this; omega
  refine h.row (fun a q => by funext b; exact e a b (by omega) (by omega)) (fun b q => e 77 b (by omega) (by omega)) ?_ ?_ ?_ ?_
  · intro r2 hr2
    have h0 := h.2.1.1 r2 hr2
    have hl2 : M (3 + 2 * r2) 1 ≤ 60 := by have := (h.1.rw (3 + 2 * r2) (by unfold isRowO; omega)).1.2; unfold capO at this; rw [if_pos (by omega)] at this; omega
    rw [e 79 r2 (by omega) (by omega), e (3 + 2 * r2) 1 (by omega) (by omega)]
    refine ⟨h0.1, fun j hj => ?_⟩
    by_cases q : r2 = r.toNat ∧ j = i.toNat
    · rw [q.1, q.2, show 60 * r.toNat + i.toNat = (60 * r + i).toNat by omega, k1, k2]
    · rw [e 80 _ (by omega) (by omega), e (3 + 2 * r2 + 1) j (by omega) (by omega)]
      exact h0.2 j hj
  · intro r2 hr2
    have h0 := h.2.2.2.1.1.2.1 r2 hr2
    rw [e 79 r2 (by omega) (by omega)]
    refine ⟨h0.1, fun j hj => ?_⟩
    by_cases q : 60 * r2 + j = (60 * r + i).toNat
    · rw [q, k1]; exact hv
    · rw [e 80 _ (by omega) (by omega)]
      exact h0.2 j hj
  · intro o ho
    have h0 := h.1.rw o ho
    rw [e o 1 (by omega) (by omega)]
    refine ⟨h0.1, fun j => ?_⟩
    by_cases q : o + 1 = 3 + 2 * r.toNat + 1 ∧ j = i.toNat
    · rw [q.1, q.2, k2]; exact hv
    · rw [e (o + 1) j q (by omega)]
      exact h0.2 j
  · have hO := h.2.2.1.2.2
    unfold RlO at hO ⊢
    rw [e 77 2 (by omega) (by omega), e 77 0 (by omega) (by omega), e 77 3 (by omega) (by omega), e 77 4 (by omega) (by omega), e 0 14 (by omega) (by omega), e 0 15 (by omega) (by omega), e 0 16 (by omega) (by omega), e 0 17 (by omega) (by omega)]
    refine ⟨hO.1, fun f h1 h2 => ?_⟩
    rw [e 78 f (by omega) (by omega), e 76 f (by omega) (by omega)]
    exact hO.2 f h1 h2
theorem pr_lay {M : Mm} (h : Rl M) (r i v : Int) (hv : ir v) : xlayA (layM M r i v) r i = layA M r i ∧ Rl (xlayM (layM M r i v) r i v) := by
  unfold xlayA layA xlayM layM
  by_cases c : R6 r
  · have e1 := h.r1 c
    by_cases c1 : M (3 + 2 * r.toNat) 1 < 0
    · simp only [if_neg (not_not_intro c), if_pos c1]
      have c2 : fdM M 1 79 r.toNat < 0 := by rw [fdM_o (by decide) (by decide), e1]; exact c1
      simp only [if_pos c2]
      exact ⟨trivial, h.meet 1 (by decide)⟩
    · by_cases c3 : hsR M (3 + 2 * r.toNat) i
      · simp only [if_neg (not_not_intro c), if_neg c1, if_neg (not_not_intro c3)]
        have ht := h.tell (M (3 + 2 * r.toNat + 1) i.toNat)
        have hr2 := h.r2 c c3
        generalize hv0 : M (3 + 2 * r.toNat + 1) i.toNat = v0 at ht hr2
        have k79 : stM (tdM M v0) (3 + 2 * r.toNat + 1) i.toNat v 79 = M 79 := by rw [stM_off (by omega), tdM_o (by decide)]
        have k80 : stM (tdM M v0) (3 + 2 * r.toNat + 1) i.toNat v 80 = M 80 := by rw [stM_off (by omega), tdM_o (by decide)]
        have c2 : ¬ stM (tdM M v0) (3 + 2 * r.toNat + 1) i.toNat v 79 r.toNat < 0 := by rw [k79, e1]; exact c1
        have c4 : hsX (stM (tdM M v0) (3 + 2 * r.toNat + 1) i.toNat v) 79 r i := by
          show 0 ≤ i ∧ i ≤ stM (tdM M v0) (3 + 2 * r.toNat + 1) i.toNat v 79 r.toNat - 1
          rw [k79, e1]
          omega
        simp only [if_neg c2, if_neg (not_not_intro c4)]
        refine ⟨trivial, ?_⟩
        rw [show rcA (stM (tdM M v0) (3 + 2 * r.toNat + 1) i.toNat v) r i = v0 from (by unfold rcA; rw [k80]; exact hr2)]
        have hz := ht.lay (r := r) (i := i) (v := v) c (by
          have z : tlM (tdM M v0) v0 (3 + 2 * r.toNat) 1 = M (3 + 2 * r.toNat) 1 := by
            unfold tlM tdM
            rw [stM_ne _ _ (by omega), stM_ne _ _ (by omega)]
          rw [z]
          exact c3) hv
        unfold tlM at hz ⊢
        rw [stM_comm _ _ _ (Or.inl (by decide : (80 : Nat) ≠ 77)), stM_comm (tdM M v0) _ _ (Or.inl (by omega : 3 + 2 * r.toNat + 1 ≠ 77))]
        exact hz
      · simp only [if_neg (not_not_intro c), if_neg c1, if_pos c3]
        have c2 : ¬ fdM M 2 79 r.toNat < 0 := by rw [fdM_o (by decide) (by decide), e1]; exact c1
        have c4 : ¬ hsX (fdM M 2) 79 r i := by
          show ¬ (0 ≤ i ∧ i ≤ fdM M 2 79 r.toNat - 1)
          rw [fdM_o (by decide) (by decide), e1]
          omega
        simp only [if_neg c2, if_pos c4]
        exact ⟨trivial, h.meet 2 (by decide)⟩
  · simp only [if_pos c]
    exact ⟨trivial, h⟩
theorem Rl.tear {M : Mm} (h : Rl M) {r : Int} (hr : R6 r) : Rl (stM (stM M (3 + 2 * r.toNat) 1 (-1)) 79 r.toNat (-1)) := by
  have e : ∀ a b, ¬ (a = 3 + 2 * r.toNat ∧ b = 1) → ¬ (a = 79 ∧ b = r.toNat) → stM (stM M (3 + 2 * r.toNat) 1 (-1)) 79 r.toNat (-1) a b = M a b := fun a b h1 h2 => by rw [stM_ne _ _ (by omega), stM_ne _ _ (by omega)]
  have k1 : stM (stM M (3 + 2 * r.toNat) 1 (-1)) 79 r.toNat (-1) 79 r.toNat = -1 := stM_at _ _ _ _
  have k2 : stM (stM M (3 + 2 * r.toNat) 1 (-1)) 79 r.toNat (-1) (3 + 2 * r.toNat) 1 = -1 := by rw [stM_ne _ _ (by omega), stM_at]
  refine h.row (fun a q => by funext b; exact e a b (by omega) (by omega)) (fun b q => e 77 b (by omega) (by omega)) ?_ ?_ ?_ ?_
  · intro r2 hr2
    have h0 := h.2.1.1 r2 hr2
    by_cases q : r2 = r.toNat
    · rw [q, k1, k2]
      exact ⟨rfl, fun j hj => by omega⟩
    · rw [e 79 r2 (by omega) (by omega), e (3 + 2 * r2) 1 (by omega) (by omega)]
      refine ⟨h0.1, fun j hj => ?_⟩
      rw [e 80 _ (by omega) (by omega), e (3 + 2 * r2 + 1) j (by omega) (by omega)]
      exact h0.2 j hj
  · intro r2 hr2
    have h0 := h.2.2.2.1.1.2.1 r2 hr2
    by_cases q : r2 = r.toNat
    · rw [q, k1]
      exact ⟨by decide, fun j hj => by omega⟩
    · rw [e 79 r2 (by omega) (by omega)]
      refine ⟨h0.1, fun j hj => ?_⟩
      rw [e 80 _ (by omega) (by omega)]
      exact h0.2 j hj
  · intro o ho
    have h0 := h.1.rw o ho
    refine ⟨?_, fun j => ?_⟩
    · by_cases q : o = 3 + 2 * r.toNat
      · rw [q, k2]
        unfold capO
        rw [if_pos (by omega)]
        decide
      · rw [e o 1 (by omega) (by omega)]
        exact h0.1
    · rw [e (o + 1) j (by omega) (by omega)]
      exact h0.2 j
  · have hO := h.2.2.1.2.2
    unfold RlO at hO ⊢
    rw [e 77 2 (by omega) (by omega), e 77 0 (by omega) (by omega), e 77 3 (by omega) (by omega), e 77 4 (by omega) (by omega), e 0 14 (by omega) (by omega), e 0 15 (by omega) (by omega), e 0 16 (by omega) (by omega), e 0 17 (by omega) (by omega)]
    refine ⟨hO.1, fun f h1 h2 => ?_⟩
    rw [e 78 f (by omega) (by omega), e 76 f (by omega) (by omega)]
    exact hO.2 f h1 h2
theorem pr_tear {M : Mm} (h : Rl M) (r : Int) : xtearA (tearM M r) r = tearA M r ∧ Rl (xtearM (tearM M r) r) := by
  unfold xtearA tearA xtearM tearM
  by_cases c : R6 r
  · have e1 := h.r1 c
    by_cases c1 : M (3 + 2 * r.toNat) 1 < 0
    · simp only [if_neg (not_not_intro c), if_pos c1]
      have c2 : fdM M 1 79 r.toNat < 0 := by rw [fdM_o (by decide) (by decide), e1]; exact c1
      simp only [if_pos c2]
      exact ⟨trivial, h.meet 1 (by decide)⟩
    · simp only [if_neg (not_not_intro c), if_neg c1]
      have c2 : ¬ stM M (3 + 2 * r.toNat) 1 (-1) 79 r.toNat < 0 := by rw [stM_off (by omega), e1]; exact c1
      simp only [if_neg c2]
      exact ⟨trivial, h.tear c⟩
  · simp only [if_pos c]
    exact ⟨trivial, h⟩
theorem Rl.new {M : Mm} (h : Rl M) {r q : Int} (hr : R6 r) (hq : 0 ≤ q ∧ q ≤ 60) : Rl (rmP (mkM M (3 + 2 * r.toNat) q 0) r q 60) := by
  have e : ∀ a b : Nat, ¬ (a = 3 + 2 * r.toNat ∧ b = 1) → ¬ (a = 3 + 2 * r.toNat + 1 ∧ (b : Int) < q) → ¬ (a = 79 ∧ b = r.toNat) → ¬ (a = 80 ∧ 60 * r ≤ (b : Int) ∧ (b : Int) < 60 * r + 60) → rmP (mkM M (3 + 2 * r.toNat) q 0) r q 60 a b = M a b := fun a b h1 h2 h3 h4 => by
    unfold rmP mkM
    rw [if_neg h3, if_neg h4, if_neg h1, if_neg h2]
  have k1 : rmP (mkM M (3 + 2 * r.toNat) q 0) r q 60 79 r.toNat = q := by unfold rmP; rw [if_pos ⟨rfl, rfl⟩]
  have k2 : rmP (mkM M (3 + 2 * r.toNat) q 0) r q 60 (3 + 2 * r.toNat) 1 = q := by unfold rmP mkM; rw [if_neg (by omega), if_neg (by omega), if_pos ⟨rfl, rfl⟩]
  have k3 : ∀ j : Nat, (j : Int) < q → rmP (mkM M (3 + 2 * r.toNat) q 0) r q 60 (3 + 2 * r.toNat + 1) j = 0 := fun j hj => by unfold rmP mkM; rw [if_neg (by omega), if_neg (by omega), if_neg (by omega), if_pos ⟨rfl, hj⟩]
  have k4 : ∀ j : Nat, 60 * r ≤ (j : Int) ∧ (j : Int) < 60 * r + 60 → rmP (mkM M (3 + 2 * r.toNat) q 0) r q 60 80 j = 0 := fun j hj => by unfold rmP; rw [if_neg (by omega), if_pos ⟨rfl, hj⟩]
  refine h.row (fun a z => by funext b; exact e a b (by omega) (by omega) (by omega) (by omega)) (fun b z => e 77 b (by omega) (by omega) (by omega) (by omega)) ?_ ?_ ?_ ?_
  · intro r2 hr2
    have h0 := h.2.1.1 r2 hr2
    by_cases z : r2 = r.toNat
    · rw [z, k1, k2]
      exact ⟨rfl, fun j hj => by rw [k3 j hj, k4 _ (by omega)]⟩
    · rw [e 79 r2 (by omega) (by omega) (by omega) (by omega), e (3 + 2 * r2) 1 (by omega) (by omega) (by omega) (by omega)]
      have hl2 : M (3 + 2 * r2) 1 ≤ 60 := by have := (h.1.rw (3 + 2 * r2) (by unfold isRowO; omega)).1.2; unfold capO at this; rw [if_pos (by omega)] at this; omega
      refine ⟨h0.1, fun j hj => ?_⟩
      rw [e 80 _ (by omega) (by omega) (by omega) (by omega), e (3 + 2 * r2 + 1) j (by omega) (by omega) (by omega) (by omega)]
      exact h0.2 j hj
  · intro r2 hr2
    have h0 := h.2.2.2.1.1.2.1 r2 hr2
    by_cases z : r2 = r.toNat
    · rw [z, k1]
      exact ⟨by omega, fun j hj => by rw [k4 _ (by omega)]; decide⟩
    · rw [e 79 r2 (by omega) (by omega) (by omega) (by omega)]
      refine ⟨h0.1, fun j hj => ?_⟩
      have hb := h0.1.2
      rw [e 80 _ (by omega) (by omega) (by omega) (by omega)]
      exact h0.2 j hj
  · intro o ho
    have h0 := h.1.rw o ho
    refine ⟨?_, fun j => ?_⟩
    · by_cases z : o = 3 + 2 * r.toNat
      · rw [z, k2]
        unfold capO
        rw [if_pos (by omega)]
        omega
      · rw [e o 1 (by omega) (by omega) (by omega) (by omega)]
        exact h0.1
    · by_cases z : o + 1 = 3 + 2 * r.toNat + 1 ∧ (j : Int) < q
      · rw [z.1, k3 j z.2]
        decide
      · rw [e (o + 1) j (by omega) z (by omega) (by omega)]
        exact h0.2 j
  · have hO := h.2.2.1.2.2
    unfold RlO at hO ⊢
    rw [e 77 2 (by omega) (by omega) (by omega) (by omega), e 77 0 (by omega) (by omega) (by omega) (by omega), e 77 3 (by omega) (by omega) (by omega) (by omega), e 77 4 (by omega) (by omega) (by omega) (by omega), e 0 14 (by omega) (by omega) (by omega) (by omega), e 0 15 (by omega) (by omega) (by omega) (by omega), e 0 16 (by omega) (by omega) (by omega) (by omega), e 0 17 (by omega) (by omega) (by omega) (by omega)]
    refine ⟨hO.1, fun f h1 h2 => ?_⟩
    rw [e 78 f (by omega) (by omega) (by omega) (by omega), e 76 f (by omega) (by omega) (by omega) (by omega)]
    exact hO.2 f h1 h2
theorem pr_row {M : Mm} (h : Rl M) (r q : Int) : Rl (xrowM (rowM M r q) r q) := by
  unfold xrowM rowM
  by_cases c : ¬ R6 r ∨ 60 < q
  · simp only [if_pos c]
    exact h
  · simp only [if_neg c]
    by_cases c2 : q < 0
    · simp only [if_pos c2]
      exact h.meet 5 (by decide)
    · simp only [if_neg c2]
      exact h.new (by omega) (by omega)
theorem pr_mean {M : Mm} (h : Rl M) (r : Int) : xmeanA (meanM M r) r = meanA M r ∧ Rl (xmeanM (meanM M r) r) := by
  unfold xmeanA meanA xmeanM meanM
  by_cases c : R6 r
  · have e1 := h.r1 c
    by_cases c1 : M (3 + 2 * r.toNat) 1 < 0
    · simp only [if_neg (not_not_intro c), if_pos c1]
      have c2 : fdM M 1 79 r.toNat < 0 := by rw [fdM_o (by decide) (by decide), e1]; exact c1
      simp only [if_pos c2]
      exact ⟨trivial, h.meet 1 (by decide)⟩
    · by_cases c3 : M (3 + 2 * r.toNat) 1 ≤ 0
      · simp only [if_neg (not_not_intro c), if_neg c1, if_pos c3]
        have k : fdM M 4 79 r.toNat = M 79 r.toNat := by rw [fdM_o (by decide) (by decide)]
        simp only [if_neg (show ¬ fdM M 4 79 r.toNat < 0 by rw [k, e1]; exact c1), if_pos (show fdM M 4 79 r.toNat = 0 by rw [k, e1]; omega)]
        exact ⟨trivial, h.meet 4 (by decide)⟩
      · simp only [if_neg (not_not_intro c), if_neg c1, if_neg c3]
        have k : ∀ v, tdM M v 79 r.toNat = M 79 r.toNat := fun v => by rw [tdM_o (by decide)]
        have k2 : ∀ v, xsm (tdM M v) r = xsm M r := fun v => by funext j; unfold xsm rcA; rw [tdM_o (by decide)]
        have k3 : smZ (xsm M r) (M (3 + 2 * r.toNat) 1).toNat = smZ (M (3 + 2 * r.toNat + 1)) (M (3 + 2 * r.toNat) 1).toNat := smZ_eq (fun j hj => by
          have := h.r2 (i := (j : Int)) c (by omega)
          rw [Int.toNat_natCast] at this
          exact this)
        simp only [k, k2, e1, k3, if_neg c1, if_neg (show ¬ M (3 + 2 * r.toNat) 1 = 0 by omega)]
        exact ⟨trivial, h.tell _⟩
  · simp only [if_pos c]
    exact ⟨trivial, h⟩
