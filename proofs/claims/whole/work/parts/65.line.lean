/-- scratch of both sides, and what was told -/
def SC (a b : Nat) : Prop := (a = 0 ∧ b = 15) ∨ (35 ≤ a ∧ a ≤ 62) ∨ (a = 77 ∧ ¬ (b = 0 ∨ b = 3 ∨ b = 4 ∨ b = 10 ∨ b = 12 ∨ b = 15 ∨ b = 35 ∨ b = 37 ∨ b = 40)) ∨ a = 81 ∨ (89 ≤ a ∧ a ≤ 96)
def KQ (M M2 : Mm) : Prop := ∀ a b, ¬ SC a b → M2 a b = M a b
theorem KQ.refl (M : Mm) : KQ M M := fun _ _ _ => rfl
theorem KQ.trans {M M1 M2 : Mm} (h : KQ M M1) (k : KQ M1 M2) : KQ M M2 := fun a b q => by rw [k a b q, h a b q]
theorem KQ.r {M M2 : Mm} (h : KQ M M2) {a : Nat} (ha : (1 ≤ a ∧ a ≤ 34) ∨ (63 ≤ a ∧ a ≤ 76) ∨ (78 ≤ a ∧ a ≤ 88 ∧ ¬ a = 81) ∨ 97 ≤ a) : M2 a = M a := by
  funext b
  exact h a b (by unfold SC; omega)
theorem KQ.s {M M2 : Mm} (h : KQ M M2) {b : Nat} (hb : b = 0 ∨ b = 3 ∨ b = 4 ∨ b = 10 ∨ b = 12 ∨ b = 15 ∨ b = 35 ∨ b = 37 ∨ b = 40) : M2 77 b = M 77 b := h 77 b (by unfold SC; omega)
theorem KQ.sc {M U : Mm} (e : ∀ a, a < 35 ∨ 62 < a → U a = M a) : KQ M U := fun a b q => by
  unfold SC at q
  rw [e a (by omega)]
theorem KQ.td (M : Mm) (v : Int) : KQ M (tdM M v) := fun a b q => by
  unfold SC at q
  unfold tdM
  exact stM_ne _ _ (by omega)
theorem KQ.tl (M : Mm) (v : Int) : KQ M (tlM M v) := fun a b q => by
  unfold SC at q
  unfold tlM
  exact stM_ne _ _ (by omega)
theorem KQ.x {M U : Mm} (e : ∀ a, a ≠ 77 → a ≠ 81 → (a < 89 ∨ 96 < a) → U a = M a) (s : ∀ b, b = 0 ∨ b = 3 ∨ b = 4 ∨ b = 10 ∨ b = 12 ∨ b = 15 ∨ b = 35 ∨ b = 37 ∨ b = 40 → U 77 b = M 77 b) : KQ M U := fun a b q => by
  unfold SC at q
  by_cases z : a = 77
  · subst z
    exact s b (by omega)
  · rw [e a z (by omega) (by omega)]
/-- a call that only asks: class from M to M1, reference from M1 to M2 -/
theorem Rl.kq {M M1 M2 : Mm} (h : Rl M) (k1 : KQ M M1) (hC : CI M1) (k2 : KQ M1 M2) (f : ∀ a, 1 ≤ a → a ≤ 76 → M2 a = M1 a) (ht : M2 77 2 = M2 0 15) (h93 : ∀ j : Nat, j < 4 → ir (M2 93 j)) : Rl M2 := by
  have k := k1.trans k2
  obtain ⟨hc0, ⟨hR, hT, hV⟩, ⟨hL, hP, hO⟩, ⟨⟨i1, i2, i3⟩, ⟨i4, i5, i6⟩, i7, i8⟩, hB⟩ := h
  have s10 := k.s (b := 10) (by decide)
  have s12 := k.s (b := 12) (by decide)
  have s15 := k.s (b := 15) (by decide)
  have s35 := k.s (b := 35) (by decide)
  have s37 := k.s (b := 37) (by decide)
  have s40 := k.s (b := 40) (by decide)
  have e := fun (a : Nat) (ha : (1 ≤ a ∧ a ≤ 34) ∨ (63 ≤ a ∧ a ≤ 76) ∨ (78 ≤ a ∧ a ≤ 88 ∧ ¬ a = 81) ∨ 97 ≤ a) => k.r ha
  refine ⟨hC.fr0 (fun a h1 h2 => f a (by omega) (by omega)), ⟨hR.of (fun a q => e a (by omega)), hT.of (fun a q => e a (by omega)), hV.of hc0.l.2.2.2 (fun a q => e a (by omega)) (fun b q => k.s (by omega))⟩, ⟨hL.of (fun a q => e a (by omega)) s35, hP.of (fun a q => e a (by omega)) (fun b q => k.s (by omega)), ?_⟩, ⟨⟨i1.of (e 84 (by decide)) (e 85 (by decide)) (e 86 (by decide)) s10 s12 s15, i2.of (e 79 (by decide)) (e 80 (by decide)), i3.of (e 82 (by decide)) (e 83 (by decide))⟩, ⟨i4.of (e 99 (by decide)) s35, i5.of (e 100 (by decide)) (e 101 (by decide)) s37, i6.of (e 102 (by decide)) (e 103 (by decide)) s40⟩, h93, ?_⟩, RB_of hB (e 87 (by decide)) (e 88 (by decide))⟩
  · unfold RlO at hO ⊢
    rw [k.s (b := 0) (by decide), k.s (b := 3) (by decide), k.s (b := 4) (by decide), e 76 (by decide), e 78 (by decide), k 0 14 (by unfold SC; omega), k 0 16 (by unfold SC; omega), k 0 17 (by unfold SC; omega)]
    exact ⟨⟨ht, hO.1.2⟩, hO.2⟩
  · rw [e 85 (by decide)]
    exact i8
theorem KQ.jb {M M1 : Mm} (k : KQ M M1) : jbR M1 = jbR M := jbR_off (k.r (by decide)) (k.r (by decide))
theorem KQ.sp {M M1 : Mm} (k : KQ M M1) : sP M1 = sP M := by
  unfold sP
  rw [k.r (a := 84) (by decide), k.s (b := 15) (by decide)]
theorem KQ.n {M M1 : Mm} (k : KQ M M1) : M1 77 12 = M 77 12 := k.s (by decide)
theorem Rl.sp {M : Mm} (h : Rl M) (hn : 0 < M 23 4) : sP M = stp M := by
  have hm := h.m
  have hv := h.2.1.2.2.2.2
  have hs : HS M (M 23 5) := by
    rcases hv.2 with q | q
    · have h1 := (hv.1 0 hn).2.2
      have h2 := (h.1.nd.2 0 (by decide)).2.1.1
      exfalso
      have h3 : 0 ≤ M (27 + 0) 1 := h2
      omega
    · exact ⟨h.1.st.1, q⟩
  unfold sP stp
  rw [hm.2.2]
  exact h.pl hs
theorem endJ_eq {T U : Mm} (e : ∀ a, 48 ≤ a → a ≤ 53 → T a = U a) (i p f : Int) : endJ T i p f = endJ U i p f := by
  unfold endJ bgJ
  rw [e 48 (by decide) (by decide), e 49 (by decide) (by decide), e 50 (by decide) (by decide), e 51 (by decide) (by decide), e 52 (by decide) (by decide)]
theorem plJ_eq {T U : Mm} (e : ∀ a, 48 ≤ a → a ≤ 53 → T a = U a) (i : Int) : plJ T i = plJ U i := by
  unfold plJ
  rw [e 48 (by decide) (by decide), e 49 (by decide) (by decide)]
theorem lnJ_eq {T U : Mm} (e : ∀ a, 48 ≤ a → a ≤ 53 → T a = U a) (i : Int) : lnJ T i = lnJ U i := by
  unfold lnJ
  rw [e 48 (by decide) (by decide), e 52 (by decide) (by decide)]
theorem wsM_eq {T U : Mm} (e : ∀ a, 48 ≤ a → a ≤ 53 → T a = U a) (s : Int) : wsM T s = wsM U s := by
  unfold wsM
  rw [e 48 (by decide) (by decide), e 53 (by decide) (by decide)]
theorem Rl.pj {M : Mm} (h : Rl M) {i : Nat} (hi : (i : Int) < M 23 4) : plJ (ldM M) (i : Int) = jbR M i 0 := by
  unfold plJ
  rw [ldM_5, if_pos ⟨by omega, hi⟩, Int.toNat_natCast, (h.jb hi).1]
theorem Rl.lj {M : Mm} (h : Rl M) {i : Nat} (hi : (i : Int) < M 23 4) : lnJ (ldM M) (i : Int) = jbR M i 3 := by
  unfold lnJ
  rw [ldM_5, if_pos ⟨by omega, hi⟩, Int.toNat_natCast, (h.jb hi).2.2.2.1]
theorem enB_bn {J : Nat → Nat → Int} {i : Nat} {p f : Int} (h : ¬ enB J i p f = -9) : enB J i p f - J i 3 = bnB J i p f := by
  unfold enB bnB at *
  split at h
  · rename_i q
    rw [if_pos q, if_pos q]
    omega
  · exact absurd rfl h
theorem meM_v (T : Mm) (i : Int) : (meM T i 54 3 = T 54 3 + 1 ∧ meM T i 54 4 = plJ T i ∧ meM T i 54 5 = endJ T i (T 54 4) (T 54 5)) ∧ (∀ j, meM T i 55 j = if j = (T 54 3).toNat then i else T 55 j) ∧ ∀ j, meM T i 56 j = if j = (T 54 3).toNat then endJ T i (T 54 4) (T 54 5) - lnJ T i else T 56 j := by
  unfold meM
  refine ⟨⟨?_, ?_, ?_⟩, fun j => ?_, fun j => ?_⟩
  · rw [stM_ne _ _ (by omega), stM_ne _ _ (by omega), stM_at]
  · rw [stM_ne _ _ (by omega), stM_at]
  · rw [stM_at]
  · rw [stM_off (by decide), stM_off (by decide), stM_off (by decide), stM_off (by decide)]
    by_cases z : j = (T 54 3).toNat
    · rw [if_pos z, z, stM_at]
    · rw [if_neg z, stM_ne _ _ (by omega)]
  · rw [stM_off (by decide), stM_off (by decide), stM_off (by decide)]
    by_cases z : j = (T 54 3).toNat
    · rw [if_pos z, z, stM_at]
    · rw [if_neg z, stM_ne _ _ (by omega), stM_off (by decide)]
/-- along a line: both sides alike -/
theorem gaF_do {M : Mm} (h : Rl M) {f : Nat → Int} {n : Nat} (hf : ∀ j, j < n → 0 ≤ f j ∧ f j < M 23 4) (hn : n ≤ 8) (p : Int) : ∀ k, k ≤ n →
    ((gaF f (bgM (ldM M) p) k).2 = (doF (jbR M) f p k).2.2 ∧ (gaF f (bgM (ldM M) p) k).1 54 3 = doN (jbR M) f p k ∧ (gaF f (bgM (ldM M) p) k).1 54 4 = (doF (jbR M) f p k).1 ∧ (gaF f (bgM (ldM M) p) k).1 54 5 = (doF (jbR M) f p k).2.1) ∧
    ∀ j : Nat, (j : Int) < doN (jbR M) f p k → (gaF f (bgM (ldM M) p) k).1 56 j = doB (jbR M) f p j ∧ (gaF f (bgM (ldM M) p) k).1 55 j = f j
  | 0, _ => by
    refine ⟨⟨rfl, ?_, ?_, ?_⟩, fun j hj => ?_⟩
    · show bgM (ldM M) p 54 3 = 0
      unfold bgM
      rw [stM_ne _ _ (by omega), stM_ne _ _ (by omega), stM_at]
    · show bgM (ldM M) p 54 4 = p
      unfold bgM
      rw [stM_ne _ _ (by omega), stM_at]
    · show bgM (ldM M) p 54 5 = 0
      unfold bgM
      rw [stM_at]
    · exfalso
      have : (j : Int) < 0 := hj
      omega
  | k + 1, hk => by
    have ih := gaF_do h hf hn p k (by omega)
    have hk0 := hf k (by omega)
    have eU : ∀ a, 48 ≤ a → a ≤ 53 → (gaF f (bgM (ldM M) p) k).1 a = ldM M a := fun a h1 h2 => by rw [gaF_off f _ ⟨by omega, by omega, by omega⟩, bgM_off _ _ (by omega)]
    generalize hS : gaF f (bgM (ldM M) p) k = S at ih eU
    generalize hD : doF (jbR M) f p k = D at ih
    have hb := doN_b (jbR M) f p k
    have hi : ((f k).toNat : Int) = f k := Int.toNat_of_nonneg hk0.1
    have hen : endJ S.1 (f k) (S.1 54 4) (S.1 54 5) = enB (jbR M) (f k).toNat D.1 D.2.1 := by
      rw [endJ_eq eU, ih.1.2.2.1, ih.1.2.2.2, h.en (i := (f k).toNat) (by omega), hi]
    by_cases c : D.2.2 = true
    · have hN : doN (jbR M) f p k = (k : Int) := doN_ok (by rw [hD]; exact c)
      by_cases c2 : enB (jbR M) (f k).toNat D.1 D.2.1 = -9
      · have e1 : gaF f (bgM (ldM M) p) (k + 1) = (S.1, false) := by
          rw [gaF, hS, if_neg]
          intro z
          exact z.2.1 (hen.trans c2)
        have e2 : doF (jbR M) f p (k + 1) = (D.1, D.2.1, false) := by
          rw [doF, hD, if_neg (fun z => z.2 c2)]
        have e3 : doN (jbR M) f p (k + 1) = doN (jbR M) f p k := by
          rw [doN, e2, if_neg (by simp)]
        rw [e1, e2, e3]
        exact ⟨⟨rfl, ih.1.2.1, ih.1.2.2.1, ih.1.2.2.2⟩, ih.2⟩
      · have e1 : gaF f (bgM (ldM M) p) (k + 1) = (meM S.1 (f k), true) := by
          rw [gaF, hS, if_pos]
          refine ⟨ih.1.1.trans c, ?_, ?_⟩
          · rw [hen]; exact c2
          · rw [ih.1.2.1]; omega
        have e2 : doF (jbR M) f p (k + 1) = (jbR M (f k).toNat 0, enB (jbR M) (f k).toNat D.1 D.2.1, true) := by
          rw [doF, hD, if_pos ⟨c, c2⟩]
        have e3 : doN (jbR M) f p (k + 1) = ((k + 1 : Nat) : Int) := by
          rw [doN, e2, if_pos rfl]
        have hv := meM_v S.1 (f k)
        have hN3 : (S.1 54 3).toNat = k := by rw [ih.1.2.1, hN]; omega
        rw [e1, e2, e3]
        refine ⟨⟨rfl, ?_, ?_, ?_⟩, fun j hj => ⟨?_, ?_⟩⟩
        · show meM S.1 (f k) 54 3 = _
          rw [hv.1.1, ih.1.2.1, hN]
          omega
        · show meM S.1 (f k) 54 4 = _
          rw [hv.1.2.1, plJ_eq eU, ← hi, h.pj (by omega), hi]
        · show meM S.1 (f k) 54 5 = _
          rw [hv.1.2.2, hen]
        · show meM S.1 (f k) 56 j = _
          rw [hv.2.2, hN3]
          by_cases z : j = k
          · rw [if_pos z, hen, lnJ_eq eU, ← hi, h.lj (by omega), z, hi]
            unfold doB
            rw [hD]
            exact enB_bn c2
          · rw [if_neg z]
            exact (ih.2 j (by omega)).1
        · show meM S.1 (f k) 55 j = _
          rw [hv.2.1, hN3]
          by_cases z : j = k
          · rw [if_pos z, z]
          · rw [if_neg z]
            exact (ih.2 j (by omega)).2
    · have c' : D.2.2 = false := by simpa using c
      have e1 : gaF f (bgM (ldM M) p) (k + 1) = (S.1, false) := by
        rw [gaF, hS, if_neg]
        intro z
        exact c (ih.1.1 ▸ z.1)
      have e2 : doF (jbR M) f p (k + 1) = (D.1, D.2.1, false) := by
        rw [doF, hD, if_neg (fun z => c z.1)]
      have e3 : doN (jbR M) f p (k + 1) = doN (jbR M) f p k := by
        rw [doN, e2, if_neg (by simp)]
      rw [e1, e2, e3]
      exact ⟨⟨rfl, ih.1.2.1, ih.1.2.2.1, ih.1.2.2.2⟩, ih.2⟩
theorem doN_cong {J : Nat → Nat → Int} {l l2 : Nat → Int} {p : Int} : ∀ {k : Nat}, (∀ j, j < k → l j = l2 j) → doN J l p k = doN J l2 p k
  | 0, _ => rfl
  | k + 1, h => by rw [doN, doN, doF_cong h, doN_cong (fun j hj => h j (by omega))]
theorem doB_cong {J : Nat → Nat → Int} {l l2 : Nat → Int} {p : Int} {k : Nat} (h : ∀ j, j ≤ k → l j = l2 j) : doB J l p k = doB J l2 p k := by
  unfold doB
  rw [doF_cong (fun j hj => h j (by omega)), h k (by omega)]
theorem mtG_cong {f g : Nat → Int} : ∀ {k : Nat}, (∀ j, j < k → f j = g j) → mtG f k = mtG g k
  | 0, _ => rfl
  | k + 1, h => by rw [mtG, mtG, mtG_cong (fun j hj => h j (by omega)), h k (by omega)]
theorem okL_cong {f g : Nat → Int} {q : Int} {k : Nat} (h : ∀ j, j < k → f j = g j) : okL f q k ↔ okL g q k := by
  constructor
  · intro z j hj
    rw [← h j hj, ← mtG_cong (fun i hi => h i (by omega))]
    exact z j hj
  · intro z j hj
    rw [h j hj, mtG_cong (fun i hi => h i (by omega))]
    exact z j hj
theorem Rl.xr {M M1 : Mm} (h : Rl M) {r : Int} (hr : R6 r) (e80 : M1 80 = M 80) {k : Nat} (hk : (k : Int) < M (3 + 2 * r.toNat) 1) : xrw M1 r k = M (3 + 2 * r.toNat + 1) k := by
  unfold xrw
  rw [e80]
  exact (h.2.1.1 r.toNat (by omega)).2 k hk
/-- both sides say the same of a line -/
theorem Rl.wio {M M1 M2 : Mm} (h : Rl M) {r z : Int} (hr : R6 r) (k : M1 79 = M 79 ∧ M1 80 = M 80 ∧ M1 77 12 = M 77 12) (hx : nlR M1 r z M2) : (wioV M (3 + 2 * r.toNat) = 0 ∧ z = 0 ∧ M2 = lnM M1 r) ∨ (¬ wioV M (3 + 2 * r.toNat) = 0 ∧ z = -3 ∧ M2 = mtM M1 (wioV M (3 + 2 * r.toNat))) := by
  have e1 := h.r1 hr
  have hm := h.m
  unfold nlR at hx
  rw [k.1, k.2.2, e1, hm.2.1] at hx
  have ok : okL (xrw M1 r) (M 23 4) (M (3 + 2 * r.toNat) 1).toNat ↔ okL (M (3 + 2 * r.toNat + 1)) (M 23 4) (M (3 + 2 * r.toNat) 1).toNat := okL_cong (fun j hj => h.xr hr k.2.1 (by omega))
  rw [ok] at hx
  unfold wioV
  rcases hx with ⟨q1, hz, e⟩ | ⟨q1, q2, hz, e⟩ | ⟨q1, q2, q3, hz, e⟩ | ⟨q1, q2, q3, hz, e⟩
  · right
    rw [if_pos q1]
    exact ⟨by decide, hz, e⟩
  · right
    rw [if_neg q1, if_pos q2]
    exact ⟨by decide, hz, e⟩
  · right
    rw [if_neg q1, if_neg q2, if_neg q3]
    exact ⟨by decide, hz, e⟩
  · left
    rw [if_neg q1, if_neg q2, if_pos q3]
    exact ⟨rfl, hz, e⟩
theorem wio_0 {M : Mm} {o : Nat} (h : wioV M o = 0) : 0 ≤ M o 1 ∧ M o 1 ≤ M 23 4 ∧ okL (M (o + 1)) (M 23 4) (M o 1).toNat := by
  unfold wioV at h
  by_cases q1 : M o 1 < 0
  · rw [if_pos q1] at h
    exact absurd h (by decide)
  · by_cases q2 : M 23 4 < M o 1
    · rw [if_neg q1, if_pos q2] at h
      exact absurd h (by decide)
    · by_cases q3 : okL (M (o + 1)) (M 23 4) (M o 1).toNat
      · exact ⟨by omega, by omega, q3⟩
      · rw [if_neg q1, if_neg q2, if_neg q3] at h
        exact absurd h (by decide)
/-- what a line can do, on both sides -/
theorem Rl.ds {M M1 M2 : Mm} (h : Rl M) {r y : Int} (hr : R6 r) (c1 : wioV M (3 + 2 * r.toNat) = 0) (k : KQ M M1) (hd : DS (lnM M1 r) y M2) : y = gaM M (3 + 2 * r.toNat) 54 3 ∧ M2 77 25 = gaM M (3 + 2 * r.toNat) 54 5 ∧ ∀ j : Nat, (j : Int) < y → doB (jbR M1) (xrw M1 r) (sP M1) j = gaM M (3 + 2 * r.toNat) 56 j := by
  have hw := wio_0 c1
  have hl := h.1.l
  have e1 := h.r1 hr
  have e79 : M1 79 = M 79 := k.r (by decide)
  have e80 : M1 80 = M 80 := k.r (by decide)
  have hj : jbR (lnM M1 r) = jbR M := (jbR_off (by unfold lnM; rfl) (by unfold lnM; rfl)).trans k.jb
  have hs : sP (lnM M1 r) = sP M := by
    have : sP (lnM M1 r) = sP M1 := rfl
    rw [this, k.sp]
  have hn : lnM M1 r 77 23 = M (3 + 2 * r.toNat) 1 := by
    rw [← e1, ← e79]
    rfl
  have hL : ∀ j : Nat, (j : Int) < M (3 + 2 * r.toNat) 1 → lnF (lnM M1 r) j = M (3 + 2 * r.toNat + 1) j := by
    intro j hj
    rw [← h.xr hr e80 hj]
    unfold lnF lnM
    rw [if_neg (by omega), if_pos ⟨rfl, by rw [e79, e1]; exact hj⟩]
  obtain ⟨d1, d2, d3, d4, d5⟩ := hd
  rw [hj, hs, hn] at d1 d2
  generalize hN : (M (3 + 2 * r.toNat) 1).toNat = N at *
  have hL2 : ∀ j : Nat, j < N → lnF (lnM M1 r) j = M (3 + 2 * r.toNat + 1) j := fun j hj => hL j (by omega)
  rw [doN_cong hL2] at d1
  rw [doF_cong hL2] at d2
  have hok : ∀ j, j < N → 0 ≤ M (3 + 2 * r.toNat + 1) j ∧ M (3 + 2 * r.toNat + 1) j < M 23 4 := fun j hj => (hw.2.2 j hj).1
  have g := gaF_do h hok (by omega) (stp M) N (Nat.le_refl N)
  unfold gaM
  rw [hN]
  by_cases c : 0 < M 23 4
  · have hsp := h.sp c
    rw [hsp] at d1 d2
    rw [g.1.2.1, g.1.2.2.2]
    refine ⟨d1, d2, fun j hj => ?_⟩
    have hb := doN_b (jbR M) (M (3 + 2 * r.toNat + 1)) (stp M) N
    rw [(g.2 j (by omega)).1, k.jb, k.sp, hsp]
    exact doB_cong (fun i hi => h.xr hr e80 (by omega))
  · have : N = 0 := by omega
    subst this
    rw [g.1.2.1, g.1.2.2.2]
    refine ⟨d1, d2, fun j hj => ?_⟩
    have : (j : Int) < 0 := by rw [d1] at hj; exact hj
    omega
theorem gaM_off (M : Mm) (o : Nat) {a : Nat} (h : a < 48 ∨ 56 < a) : gaM M o a = M a := by
  unfold gaM
  rw [gaF_off _ _ ⟨by omega, by omega, by omega⟩, bgM_off _ _ (by omega), ldM_off (by omega)]
theorem lnM_off (M : Mm) (r : Int) {a : Nat} (h1 : a ≠ 77) (h2 : a ≠ 89) : lnM M r a = M a := by
  funext b
  unfold lnM
  rw [if_neg (by omega), if_neg (by omega)]
theorem lnM_77 (M : Mm) (r : Int) {b : Nat} (h : b ≠ 23) : lnM M r 77 b = M 77 b := by
  unfold lnM
  rw [if_neg (by omega), if_neg (by omega)]
theorem KQ.ln (M : Mm) (r : Int) : KQ M (lnM M r) := KQ.x (fun a h1 h2 h3 => lnM_off M r h1 (by omega)) (fun b h => lnM_77 M r (by omega))
theorem mtM_ln {U : Mm} {r f : Int} {a b : Nat} (h : ¬ SC a b) : mtM (lnM U r) f a b = mtM U f a b := by
  unfold mtM
  by_cases z : a = 78 ∧ b = f.toNat
  · rw [z.1, z.2, stM_at, stM_at, lnM_off U r (by decide) (by decide)]
  · by_cases z2 : a = 77 ∧ b = 0
    · rw [z2.1, z2.2, stM_ne _ _ (Or.inl (by decide)), stM_at, stM_ne _ _ (Or.inl (by decide)), stM_at]
    · rw [stM_ne _ _ (by omega), stM_ne _ _ (by omega), stM_ne _ _ (by omega), stM_ne _ _ (by omega)]
      exact KQ.ln U r a b h
theorem Rl.i93 {M : Mm} (h : Rl M) : ∀ j : Nat, j < 4 → ir (M 93 j) := h.2.2.2.1.2.2.1
theorem CI.td {M : Mm} (h : CI M) (v : Int) : CI (tdM M v) := h.fr0 (fun a h1 h2 => tdM_o (by omega))
theorem pr_order {M M2 : Mm} {r z : Int} (h : Rl M) (hx : xorR (ordM M r) r z M2) : z = ordA M r ∧ Rl M2 := by
  unfold ordM at hx
  unfold ordA
  by_cases c : R6 r
  · rw [if_neg (not_not_intro c)] at hx ⊢
    by_cases c1 : wioV M (3 + 2 * r.toNat) = 0
    · rw [if_neg (not_not_intro c1)] at hx ⊢
      have kT : KQ M (gaM M (3 + 2 * r.toNat)) := KQ.sc (fun a ha => gaM_off M _ (by omega))
      have k1 := kT.trans (KQ.td (gaM M (3 + 2 * r.toNat)) (gaM M (3 + 2 * r.toNat) 54 5))
      have hC := (gaM_CI h.1 (3 + 2 * r.toNat)).td (gaM M (3 + 2 * r.toNat) 54 5)
      have eM1 : tdM (gaM M (3 + 2 * r.toNat)) (gaM M (3 + 2 * r.toNat) 54 5) 0 15 = gaM M (3 + 2 * r.toNat) 54 5 := stM_at _ _ _ _
      have e93 : tdM (gaM M (3 + 2 * r.toNat)) (gaM M (3 + 2 * r.toNat) 54 5) 93 = M 93 := by
        rw [tdM_o (by decide), gaM_off M _ (by decide)]
      generalize tdM (gaM M (3 + 2 * r.toNat)) (gaM M (3 + 2 * r.toNat) 54 5) = M1 at *
      have e3 : M1 79 = M 79 ∧ M1 80 = M 80 ∧ M1 77 12 = M 77 12 := ⟨k1.r (by decide), k1.r (by decide), k1.s (by decide)⟩
      unfold xorR at hx
      rcases hx with ⟨q, _⟩ | ⟨_, _, q⟩ | ⟨_, _, M3, hd, e⟩
      · exact absurd c q
      · exfalso
        rcases h.wio c e3 q with q | q
        · exact absurd q.2.1 (by decide)
        · exact q.1 c1
      · have d := h.ds c c1 k1 hd
        have k3 : KQ M1 M3 := (KQ.ln M1 r).trans (KQ.x (fun a h1 h2 h3 => hd.2.2.2.1 a h1 (by omega)) (fun b hb => hd.2.2.2.2 b (by omega)))
        have f3 : ∀ a, a ≠ 77 → a ≠ 89 → a ≠ 90 → M3 a = M1 a := fun a h1 h2 h3 => by rw [hd.2.2.2.1 a h1 h3, lnM_off M1 r h1 h2]
        refine ⟨d.1, ?_⟩
        subst e
        refine h.kq k1 hC (k3.trans (KQ.tl _ _)) (fun a h1 h2 => ?_) ?_ ?_
        · unfold tlM
          rw [stM_off (by omega)]
          exact f3 a (by omega) (by omega) (by omega)
        · unfold tlM
          rw [stM_at, stM_ne _ _ (by omega), f3 0 (by decide) (by decide) (by decide), eM1]
          exact d.2.1
        · unfold tlM
          rw [stM_off (by decide), f3 93 (by decide) (by decide) (by decide), e93]
          exact h.i93
    · rw [if_pos c1] at hx ⊢
      have e3 : fdM M (wioV M (3 + 2 * r.toNat)) 79 = M 79 ∧ fdM M (wioV M (3 + 2 * r.toNat)) 80 = M 80 ∧ fdM M (wioV M (3 + 2 * r.toNat)) 77 12 = M 77 12 := ⟨fdM_o (by decide) (by decide), fdM_o (by decide) (by decide), by rw [fdM_o (by decide) (by decide)]⟩
      unfold xorR at hx
      rcases hx with ⟨q, _⟩ | ⟨_, hz, q⟩ | ⟨_, q, _⟩
      · exact absurd c q
      · rcases h.wio c e3 q with q | q
        · exact absurd q.1 c1
        · refine ⟨hz, ?_⟩
          rw [q.2.2]
          have hv := wio_v M (3 + 2 * r.toNat)
          exact h.meet _ (by omega)
      · exfalso
        rcases h.wio c e3 q with q | q
        · exact c1 q.1
        · exact absurd q.2.1 (by decide)
  · rw [if_pos c] at hx ⊢
    unfold xorR at hx
    rcases hx with ⟨_, hz, e⟩ | ⟨q, _⟩ | ⟨q, _⟩
    · rw [e]
      exact ⟨hz, h⟩
    · exact absurd q c
    · exact absurd q c
theorem pr_begins {M M2 : Mm} {r i z : Int} (h : Rl M) (hx : xbgR (begM M r i) r i z M2) : z = begA M r i ∧ Rl M2 := by
  unfold begM at hx
  unfold begA
  by_cases c : ¬ R6 r ∨ i < 0 ∨ 8 ≤ i
  · rw [if_pos c] at hx ⊢
    unfold xbgR at hx
    rcases hx with ⟨_, hz, e⟩ | ⟨q, _⟩ | ⟨q, _⟩ | ⟨q, _⟩
    · rw [e]
      exact ⟨hz, h⟩
    · exfalso; omega
    · exfalso; omega
    · exfalso; omega
  · rw [if_neg c] at hx ⊢
    have cr : R6 r := by omega
    have e1 := h.r1 cr
    by_cases c1 : wioV M (3 + 2 * r.toNat) = 0
    · rw [if_neg (not_not_intro c1)] at hx ⊢
      by_cases c2 : hsR M (3 + 2 * r.toNat) i
      · rw [if_neg (not_not_intro c2)] at hx ⊢
        have k1 : KQ M (gaM M (3 + 2 * r.toNat)) := KQ.sc (fun a ha => gaM_off M _ (by omega))
        have hC := gaM_CI h.1 (3 + 2 * r.toNat)
        have e93 : gaM M (3 + 2 * r.toNat) 93 = M 93 := gaM_off M _ (by decide)
        have e0 : gaM M (3 + 2 * r.toNat) 0 = M 0 := gaM_off M _ (by decide)
        have e77 : gaM M (3 + 2 * r.toNat) 77 = M 77 := gaM_off M _ (by decide)
        have hdd := fun y hd => h.ds (y := y) (M2 := M2) cr c1 k1 hd
        unfold bgnA
        generalize gaM M (3 + 2 * r.toNat) = M1 at *
        have e3 : M1 79 = M 79 ∧ M1 80 = M 80 ∧ M1 77 12 = M 77 12 := ⟨k1.r (by decide), k1.r (by decide), k1.s (by decide)⟩
        unfold xbgR at hx
        rcases hx with ⟨q, _⟩ | ⟨_, _, q⟩ | ⟨_, _, q, _⟩ | ⟨_, _, _, y, hd, hz⟩
        · exfalso; omega
        · exfalso
          rcases h.wio cr e3 q with q | q
          · exact absurd q.2.1 (by decide)
          · exact q.1 c1
        · exfalso
          rw [e3.1, e1] at q
          have := c2.2
          omega
        · have d := hdd y hd
          have f3 : ∀ a, a ≠ 77 → a ≠ 89 → a ≠ 90 → M2 a = M1 a := fun a h1 h2 h3 => by rw [hd.2.2.2.1 a h1 h3, lnM_off M1 r h1 h2]
          have k3 : KQ M1 M2 := (KQ.ln M1 r).trans (KQ.x (fun a h1 h2 h3 => hd.2.2.2.1 a h1 (by omega)) (fun b hb => hd.2.2.2.2 b (by omega)))
          refine ⟨?_, h.kq k1 hC k3 (fun a h1 h2 => f3 a (by omega) (by omega) (by omega)) ?_ ?_⟩
          · rw [hz, d.1]
            by_cases w : i < M1 54 3
            · rw [if_pos w, if_pos ⟨by omega, w⟩]
              exact d.2.2 i.toNat (by rw [d.1]; omega)
            · rw [if_neg w, if_neg (fun q => w q.2)]
          · rw [hd.2.2.2.2 2 (by decide), lnM_77 M1 r (by decide), e77, f3 0 (by decide) (by decide) (by decide), e0]
            exact h.2.2.1.2.2.1.1
          · rw [f3 93 (by decide) (by decide) (by decide), e93]
            exact h.i93
      · rw [if_pos c2] at hx ⊢
        have e3 : fdM M 2 79 = M 79 ∧ fdM M 2 80 = M 80 ∧ fdM M 2 77 12 = M 77 12 := ⟨fdM_o (by decide) (by decide), fdM_o (by decide) (by decide), by rw [fdM_o (by decide) (by decide)]⟩
        have hw := wio_0 c1
        unfold xbgR at hx
        rcases hx with ⟨q, _⟩ | ⟨_, _, q⟩ | ⟨_, _, q, hz, e⟩ | ⟨_, _, q, _⟩
        · exfalso; omega
        · exfalso
          rcases h.wio cr e3 q with q | q
          · exact absurd q.2.1 (by decide)
          · exact q.1 c1
        · refine ⟨hz, ?_⟩
          rw [e]
          have h2 := h.meet 2 (by decide)
          have k0 : KQ (mtM (fdM M 2) 2) (mtM (lnM (fdM M 2) r) 2) := fun a b q => mtM_ln q
          have f0 : ∀ a, a ≠ 77 → a ≠ 89 → mtM (lnM (fdM M 2) r) 2 a = mtM (fdM M 2) 2 a := fun a h1 h2 => by
            unfold mtM
            by_cases z : a = 78
            · subst z
              funext b
              by_cases z : b = (2 : Int).toNat
              · rw [z, stM_at, stM_at, lnM_off _ r (by decide) (by decide)]
              · rw [stM_ne _ _ (Or.inr z), stM_ne _ _ (Or.inr z), stM_off (by decide), stM_off (by decide), lnM_off _ r (by decide) (by decide)]
            · rw [stM_off z, stM_off z, stM_off h1, stM_off h1, lnM_off _ r h1 h2]
          refine h2.kq (KQ.refl _) h2.1 k0 (fun a h1 h2 => f0 a (by omega) (by omega)) ?_ ?_
          · rw [f0 0 (by decide) (by decide)]
            have : mtM (lnM (fdM M 2) r) 2 77 2 = mtM (fdM M 2) 2 77 2 := by
              unfold mtM
              rw [stM_ne _ _ (by omega), stM_ne _ _ (by omega), stM_ne _ _ (by omega), stM_ne _ _ (by omega)]
              exact lnM_77 _ r (by decide)
            rw [this]
            exact h2.2.2.1.2.2.1.1
          · rw [f0 93 (by decide) (by decide)]
            exact h2.i93
        · exfalso
          rw [e3.1, e1] at q
          apply c2
          exact ⟨by omega, by omega⟩
    · rw [if_pos c1] at hx ⊢
      have e3 : fdM M (wioV M (3 + 2 * r.toNat)) 79 = M 79 ∧ fdM M (wioV M (3 + 2 * r.toNat)) 80 = M 80 ∧ fdM M (wioV M (3 + 2 * r.toNat)) 77 12 = M 77 12 := ⟨fdM_o (by decide) (by decide), fdM_o (by decide) (by decide), by rw [fdM_o (by decide) (by decide)]⟩
      have no : ¬ nlR (fdM M (wioV M (3 + 2 * r.toNat))) r 0 (lnM (fdM M (wioV M (3 + 2 * r.toNat))) r) := by
        intro q
        rcases h.wio cr e3 q with q | q
        · exact c1 q.1
        · exact absurd q.2.1 (by decide)
      unfold xbgR at hx
      rcases hx with ⟨q, _⟩ | ⟨_, hz, q⟩ | ⟨_, q, _⟩ | ⟨_, q, _⟩
      · exfalso; omega
      · rcases h.wio cr e3 q with q | q
        · exact absurd q.1 c1
        · refine ⟨hz, ?_⟩
          rw [q.2.2]
          have hv := wio_v M (3 + 2 * r.toNat)
          exact h.meet _ (by omega)
      · exact absurd q no
      · exact absurd q no
