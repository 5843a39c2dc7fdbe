theorem Rl.ask0 {M U M2 : Mm} (h : Rl M) (e : ∀ a, a < 48 ∨ 62 < a → U a = M a) (hC : CI U) (k2 : KQ U M2) (f : ∀ a, a ≤ 76 ∨ a = 93 → M2 a = U a) (ht : M2 77 2 = U 77 2) : Rl M2 := by
  refine h.kq (KQ.sc (fun a ha => e a (by omega))) hC k2 (fun a h1 h2 => f a (by omega)) ?_ ?_
  · rw [ht, f 0 (by decide), e 0 (by decide), e 77 (by decide)]
    exact h.2.2.1.2.2.1.1
  · rw [f 93 (by decide), e 93 (by decide)]
    exact h.i93
theorem Rl.ask1 {M U T : Mm} {v : Int} (h : Rl M) (e : ∀ a, a < 48 ∨ 62 < a → U a = M a) (hC : CI U) (k2 : KQ (tdM U v) T) (f : ∀ a, a ≤ 76 ∨ a = 93 → T a = tdM U v a) : Rl (tlM T v) := by
  refine h.kq ((KQ.sc (fun a ha => e a (by omega))).trans (KQ.td U v)) (hC.td v) (k2.trans (KQ.tl T v)) (fun a h1 h2 => ?_) ?_ ?_
  · unfold tlM
    rw [stM_off (by omega)]
    exact f a (by omega)
  · unfold tlM
    rw [stM_at, stM_off (by decide), f 0 (by decide)]
    exact (stM_at _ _ _ _).symm
  · unfold tlM
    rw [stM_off (by decide), f 93 (by decide), tdM_o (by decide), e 93 (by decide)]
    exact h.i93
theorem LX.kq {M T : Mm} {p : Int} (hx : LX M p T) : KQ M T := KQ.x (fun a h1 h2 h3 => hx.1 a (by omega) (by omega)) (fun b _ => by rw [hx.e])
theorem LX.f {M T : Mm} {p : Int} (hx : LX M p T) : ∀ a, a ≤ 76 ∨ a = 93 → T a = M a := fun a ha => hx.1 a (by omega) (by omega)
theorem allN_lt (q : Int) {s : Nat} : s ≤ allN q ↔ s < 2 ^ q.toNat := by
  rw [allN_eq]
  have := Nat.two_pow_pos q.toNat
  omega
theorem LQ_p {J : Nat → Nat → Int} {p p2 : Int} {n : Nat} {F E : Nat → Int} {t : Nat} (hp : n = 0 ∨ p = p2) (h : LQ J p n F E t) : LQ J p2 n F E t := by
  rcases hp with hp | hp
  · subst hp
    exact ⟨fun i hi => by omega, h.2⟩
  · subst hp
    exact h
/-- the least ends of both sides -/
theorem Rl.dp2 {M M1 T U : Mm} (h : Rl M) (k : KQ M M1) {p p2 : Int} (hp : (M 23 4).toNat = 0 ∨ p = p2) (hp2 : 0 ≤ p2 ∧ p2 ≤ 15) (hx : LX M1 p T) (hU : ∀ a, 48 ≤ a → a ≤ 53 → U a = ldM M a) (w : Int) : ∀ s, s < 2 ^ (M 23 4).toNat → exV (T 92 s) ∧ (ndN s w.toNat = 0 → rcM U w p2 0 59 s = e9 (T 92 s)) := by
  intro s hs
  have hm := h.m
  have hJ := h.je.of hU
  have hq : ∀ t, t < 2 ^ (M 23 4).toNat → LQ (jbR M) p2 (M 23 4).toNat (T 91) (T 92) t := fun t ht => by
    have := (hx.2 t (by rw [k.n, hm.2.1, allN_lt]; exact ht)).1
    rw [k.jb, k.n, hm.2.1] at this
    exact LQ_p hp this
  have d := dp_eq hJ (w := w) hp2 hq s hs
  exact ⟨d.2.1, fun q => (d.2.2 q).2⟩
theorem Rl.dp {M M1 T : Mm} (h : Rl M) (k : KQ M M1) (hx : LX M1 (sP M1) T) (w : Int) : ∀ s, s < 2 ^ (M 23 4).toNat → exV (T 92 s) ∧ (ndN s w.toNat = 0 → gfA M w 59 s = e9 (T 92 s)) := by
  have hl := h.1.l
  refine h.dp2 k (p := sP M1) (p2 := stp M) ?_ h.1.sp hx (fun a _ _ => rfl) w
  by_cases q : 0 < M 23 4
  · right
    rw [k.sp, h.sp q]
  · left
    omega
theorem wsM_ld {M : Mm} (w s : Int) : wsM (gfA M w) s = wsM (ldM M) s := wsM_eq (fun a h1 h2 => by unfold gfA; exact rcM_off _ _ _ _ (by omega) (by omega)) s
theorem ndN_self (a : Nat) : ndN a a = 0 := ndN_0.mpr (fun _ h => h)
theorem ndN_all {s : Nat} {q : Int} (hs : s < 2 ^ q.toNat) : ndN s (allN q) = 0 := by
  rw [ndN_0]
  intro k hk
  unfold allN
  rw [bsum_bit]
  by_cases z : k < q.toNat
  · simp [z]
  · rw [Nat.testBit_lt_two_pow (Nat.lt_of_lt_of_le hs (Nat.pow_le_pow_right (by decide) (by omega)))] at hk
    exact absurd hk (by decide)
theorem ndN_le2 {a b : Nat} (h : ndN a b = 0) : a ≤ b := by
  rw [ndN_0] at h
  have e : a = a &&& b := by
    apply Nat.eq_of_testBit_eq
    intro k
    rw [Nat.testBit_and]
    cases hk : a.testBit k with
    | false => simp
    | true => rw [h k hk]; rfl
  rw [e]
  exact Nat.and_le_right
theorem and_must {k mu : Nat} : k &&& mu = mu ↔ ndN mu k = 0 := by
  rw [ndN_0]
  constructor
  · intro h j hj
    rw [← h, Nat.testBit_and] at hj
    simp at hj
    exact hj.1
  · intro h
    apply Nat.eq_of_testBit_eq
    intro j
    rw [Nat.testBit_and]
    cases hj : mu.testBit j with
    | false => simp
    | true => rw [h j hj]; rfl
theorem and_bar {n k al ba : Nat} (hk : k < 2 ^ n) (h : ∀ j, j < n → al.testBit j = !ba.testBit j) : k &&& ba = 0 ↔ ndN k al = 0 := by
  rw [ndN_0]
  have hb : ∀ j, k.testBit j = true → j < n := fun j hj => by
    by_cases z : j < n
    · exact z
    · rw [Nat.testBit_lt_two_pow (Nat.lt_of_lt_of_le hk (Nat.pow_le_pow_right (by decide) (by omega)))] at hj
      exact absurd hj (by decide)
  constructor
  · intro z j hj
    have := congrArg (fun x => x.testBit j) z
    simp only [Nat.testBit_and, Nat.zero_testBit, hj, Bool.true_and] at this
    rw [h j (hb j hj), this]
    rfl
  · intro z
    apply Nat.eq_of_testBit_eq
    intro j
    rw [Nat.testBit_and, Nat.zero_testBit]
    cases hj : k.testBit j with
    | false => simp
    | true =>
      have := z j hj
      rw [h j (hb j hj)] at this
      simpa using this
/-- the best plan, on both sides -/
theorem bp_bo {T : Mm} {J : Nat → Nat → Int} {n : Nat} {E : Nat → Int} {al du mu ba : Nat} (hws : ∀ k : Nat, wsM T (k : Int) = wsB J n k) (h0 : ∀ k, 0 ≤ wsB J n k) (hc : ∀ k, k < 2 ^ n → ((ndN k al = 0 ∧ ndN du k = 0 ∧ ¬ T 59 k = -9) ↔ (E k < 1000 ∧ k &&& mu = mu ∧ k &&& ba = 0))) : ∀ k, k ≤ 2 ^ n → (bpF T al du k).1 = boF J n E mu ba k ∧ (bpF T al du k).2 = if boF J n E mu ba k = -9 then -9 else wsB J n (boF J n E mu ba k).toNat
  | 0, _ => ⟨rfl, rfl⟩
  | k + 1, hk => by
    have ih := bp_bo hws h0 hc k (by omega)
    have hck := hc k (by omega)
    have hw := hws k
    have hwk := h0 k
    rw [bpF, boF]
    by_cases q : E k < 1000 ∧ k &&& mu = mu ∧ k &&& ba = 0
    · have q2 := hck.mpr q
      by_cases z : boF J n E mu ba k = -9
      · rw [if_pos z] at ih
        have z2 : (bpF T al du k).2 < wsM T (k : Int) := by rw [ih.2, hw]; omega
        rw [if_pos ⟨q2, z2⟩, if_pos ⟨q, Or.inl z⟩]
        refine ⟨rfl, ?_⟩
        rw [if_neg (by omega), Int.toNat_natCast]
        exact hw
      · rw [if_neg z] at ih
        by_cases y : wsB J n (boF J n E mu ba k).toNat < wsB J n k
        · have z2 : (bpF T al du k).2 < wsM T (k : Int) := by rw [ih.2, hw]; exact y
          rw [if_pos ⟨q2, z2⟩, if_pos ⟨q, Or.inr y⟩]
          refine ⟨rfl, ?_⟩
          rw [if_neg (by omega), Int.toNat_natCast]
          exact hw
        · have z2 : ¬ (bpF T al du k).2 < wsM T (k : Int) := by rw [ih.2, hw]; exact y
          rw [if_neg (fun x => z2 x.2), if_neg (fun x => x.2.elim z y), if_neg z]
          exact ih
    · rw [if_neg (fun x => q (hck.mp x.1)), if_neg (fun x => q x.1)]
      exact ih
theorem bpF_end {T : Mm} {al du a : Nat} (h : al < a) : ∀ d, bpF T al du (a + d) = bpF T al du a
  | 0 => rfl
  | d + 1 => by
    rw [← Nat.add_assoc, bpF, if_neg, bpF_end h d]
    intro x
    have := ndN_le2 x.1.1
    omega
theorem Rl.w0 {M : Mm} (h : Rl M) : ∀ k, 0 ≤ wsB (jbR M) (M 23 4).toNat k := fun k => (wsB_b (jbR_ok h.2.2.2.1.1.1) (by have := h.1.l; omega) k).1
theorem Rl.bp {M T : Mm} (h : Rl M) {E : Nat → Int} {al du mu ba : Int} (hT : ∀ a, 48 ≤ a → a ≤ 53 → T a = ldM M a) (hal : al.toNat < 2 ^ (M 23 4).toNat) (hc : ∀ k, k < 2 ^ (M 23 4).toNat → ((ndN k al.toNat = 0 ∧ ndN du.toNat k = 0 ∧ ¬ T 59 k = -9) ↔ (E k < 1000 ∧ k &&& mu.toNat = mu.toNat ∧ k &&& ba.toNat = 0))) : bpM T al du = boF (jbR M) (M 23 4).toNat E mu.toNat ba.toNat (allN (M 23 4) + 1) := by
  have hl := h.1.l
  have hws : ∀ k : Nat, wsM T (k : Int) = wsB (jbR M) (M 23 4).toNat k := fun k => by
    have := h.ws k
    rw [h.m.2.1] at this
    rw [this, wsM_eq hT]
  have hp := p2_256 (n := (M 23 4).toNat) (by omega)
  have hpos := Nat.two_pow_pos (M 23 4).toNat
  have b := (bp_bo hws h.w0 hc (2 ^ (M 23 4).toNat) (Nat.le_refl _)).1
  unfold bpM
  have e := bpF_end (T := T) (du := du.toNat) hal (256 - 2 ^ (M 23 4).toNat)
  rw [show 2 ^ (M 23 4).toNat + (256 - 2 ^ (M 23 4).toNat) = 256 by omega] at e
  rw [e, b, allN_eq, show 2 ^ (M 23 4).toNat - 1 + 1 = 2 ^ (M 23 4).toNat by omega]
theorem Rl.al {M : Mm} (_h : Rl M) : ((allN (M 23 4) : Nat) : Int).toNat < 2 ^ (M 23 4).toNat := by
  rw [Int.toNat_natCast, ← allN_lt]
  exact Nat.le_refl _
theorem gfA_J {M : Mm} {w : Int} : ∀ a, 48 ≤ a → a ≤ 53 → gfA M w a = ldM M a := fun a h1 h2 => by
  unfold gfA
  exact rcM_off _ _ _ _ (by omega) (by omega)
theorem gfA_o {M : Mm} {w : Int} : ∀ a, a < 48 ∨ 62 < a → gfA M w a = M a := fun a h => gfA_off M w (by omega)
theorem pr_can {M M2 : Mm} {w z : Int} (h : Rl M) (hx : xcaR (canM M w) w z M2) : z = canA M w ∧ Rl M2 := by
  have hm := h.m
  unfold canM at hx
  unfold canA
  by_cases c : 0 ≤ w ∧ w ≤ ((allN (M 23 4) : Nat) : Int)
  · rw [if_neg (not_not_intro c)] at hx ⊢
    have k1 : KQ M (gfA M w) := KQ.sc (fun a ha => gfA_o a (by omega))
    have cs : SX (gfA M w) w := by
      show 0 ≤ w ∧ w ≤ ((allN (gfA M w 77 12) : Nat) : Int)
      rw [k1.n, hm.2.1]
      exact c
    unfold xcaR at hx
    rcases hx with ⟨q, _⟩ | ⟨_, hL, hz⟩
    · exact absurd cs q
    · have d := h.dp k1 hL w w.toNat (by rw [← allN_lt]; omega)
      refine ⟨by rw [hz, d.2 (ndN_self _)], h.ask0 gfA_o h.1.gf hL.kq hL.f (by rw [hL.e])⟩
  · rw [if_pos c] at hx ⊢
    have cs : ¬ SX M w := by
      show ¬ (0 ≤ w ∧ w ≤ ((allN (M 77 12) : Nat) : Int))
      rw [hm.2.1]
      exact c
    unfold xcaR at hx
    rcases hx with ⟨_, hz, e⟩ | ⟨q, _⟩
    · rw [e]
      exact ⟨hz, h⟩
    · exact absurd q cs
theorem st_xs {T : Mm} {J : Nat → Nat → Int} {n : Nat} {E : Nat → Int} (hws : ∀ k : Nat, wsM T (k : Int) = wsB J n k) (hc : ∀ k, k < 2 ^ n → (T 59 k = -9 ↔ ¬ E k < 1000)) : ∀ k, k ≤ 2 ^ n → stF T k = xsF J n E k
  | 0, _ => rfl
  | k + 1, hk => by
    rw [stF, xsF, st_xs hws hc k (by omega), hws k]
    by_cases q : E k < 1000
    · rw [if_neg (by rw [hc k (by omega)]; exact not_not_intro q), if_pos q]
    · rw [if_pos ((hc k (by omega)).mpr q), if_neg q]
theorem Rl.wsg {M : Mm} (h : Rl M) (w : Int) (k : Nat) : wsM (gfA M w) (k : Int) = wsB (jbR M) (M 23 4).toNat k := by
  have := h.ws k
  rw [h.m.2.1] at this
  rw [this, wsM_ld]
theorem Rl.k5 {M M1 : Mm} (h : Rl M) (k : KQ M M1) (x : Int) : mKx M1 x = bitsK M x := by
  rw [mKx_off (k.r (by decide)) k.n, h.mk]
theorem pr_sets {M M2 : Mm} {z : Int} (h : Rl M) (hx : xseR (setsM M) z M2) : z = (stF (gfA M ((allN (M 23 4) : Nat) : Int)) (allN (M 23 4) + 1)).1 ∧ Rl M2 := by
  have hm := h.m
  unfold setsM at hx
  generalize hw : ((allN (M 23 4) : Nat) : Int) = w at *
  generalize hv : (stF (gfA M w) (allN (M 23 4) + 1)).2 = v at *
  have k1 : KQ M (tdM (gfA M w) v) := (KQ.sc (fun a ha => gfA_o a (by omega))).trans (KQ.td _ _)
  obtain ⟨T, hL, hz, e⟩ := hx
  have d := h.dp k1 hL w
  rw [k1.jb, k1.n, hm.2.1] at hz e
  have hp := Nat.two_pow_pos (M 23 4).toNat
  have eq := st_xs (T := gfA M w) (h.wsg w) (E := T 92) (fun k hk => by
    have := d k hk
    rw [this.2 (by rw [← hw, Int.toNat_natCast]; exact ndN_all hk), e9_no this.1]) (allN (M 23 4) + 1) (by rw [allN_eq]; omega)
  rw [← eq] at hz e
  refine ⟨hz, ?_⟩
  rw [e, hv]
  exact h.ask1 gfA_o h.1.gf hL.kq hL.f
theorem Rl.bst {M M1 T : Mm} (h : Rl M) (k : KQ M M1) (hL : LX M1 (sP M1) T) : boX M1 T (mKx M1 1) 0 = bstA M := by
  have hm := h.m
  have d := h.dp k hL ((allN (M 23 4) : Nat) : Int)
  unfold boX bstA
  rw [k.jb, k.n, hm.2.1, h.k5 k]
  have := h.bp (T := gfA M ((allN (M 23 4) : Nat) : Int)) (E := T 92) (al := ((allN (M 23 4) : Nat) : Int)) (du := ((bitsK M 1 : Nat) : Int)) (mu := ((bitsK M 1 : Nat) : Int)) (ba := 0) gfA_J h.al (fun s hs => by
    rw [Int.toNat_natCast, Int.toNat_natCast, and_must, (d s hs).2 (by rw [Int.toNat_natCast]; exact ndN_all hs), e9_no (d s hs).1]
    have := ndN_all hs
    constructor
    · rintro ⟨h1, h2, h3⟩
      exact ⟨by omega, h2, by simp⟩
    · rintro ⟨h1, h2, h3⟩
      exact ⟨this, h2, by omega⟩)
  rw [Int.toNat_natCast] at this
  exact this.symm
theorem pr_best {M M2 : Mm} {z : Int} (h : Rl M) (hx : xbeR (bstM M) z M2) : z = bstA M ∧ Rl M2 := by
  have hm := h.m
  have hv := bpM_v (gfA M ((allN (M 23 4) : Nat) : Int)) ((allN (M 23 4) : Nat) : Int) ((bitsK M 1 : Nat) : Int)
  unfold bstM at hx
  by_cases c : bstA M = -9
  · rw [if_pos c] at hx
    have k1 : KQ M (gfA M ((allN (M 23 4) : Nat) : Int)) := KQ.sc (fun a ha => gfA_o a (by omega))
    obtain ⟨T, hL, hz, e⟩ := hx
    rw [h.bst k1 hL] at hz
    rw [if_pos (hz.trans c)] at e
    refine ⟨hz, ?_⟩
    rw [e]
    exact h.ask0 gfA_o h.1.gf hL.kq hL.f (by rw [hL.e])
  · rw [if_neg c] at hx
    have k1 : KQ M (tdM (gfA M ((allN (M 23 4) : Nat) : Int)) (wsM (gfA M ((allN (M 23 4) : Nat) : Int)) (bstA M))) := (KQ.sc (fun a ha => gfA_o a (by omega))).trans (KQ.td _ _)
    obtain ⟨T, hL, hz, e⟩ := hx
    rw [h.bst k1 hL] at hz
    rw [if_neg (fun y => c (hz.symm.trans y)), k1.jb, k1.n, hm.2.1, hz] at e
    refine ⟨hz, ?_⟩
    have hb : 0 ≤ bstA M := by
      rcases hv with q | q
      · exact absurd q c
      · exact q.1
    have := h.wsg ((allN (M 23 4) : Nat) : Int) (bstA M).toNat
    rw [Int.toNat_of_nonneg hb] at this
    rw [e, ← this]
    exact h.ask1 gfA_o h.1.gf hL.kq hL.f
theorem p2_bit {i j : Nat} : (2 ^ i).testBit j = decide (i = j) := Nat.testBit_two_pow
theorem pr_costs {M M2 : Mm} {i z : Int} (h : Rl M) (hx : xcoR (cosM M i) i z M2) : z = cosA M i ∧ Rl M2 := by
  have hm := h.m
  have hl := h.1.l
  unfold cosM at hx
  unfold cosA
  by_cases c : NS M i
  · rw [if_neg (not_not_intro c)] at hx ⊢
    have k1 : KQ M (gfA M ((allN (M 23 4) : Nat) : Int)) := KQ.sc (fun a ha => gfA_o a (by omega))
    have cn : NX (gfA M ((allN (M 23 4) : Nat) : Int)) i := by
      show 0 ≤ i ∧ i ≤ gfA M ((allN (M 23 4) : Nat) : Int) 77 12 - 1
      rw [k1.n, hm.2.1]
      omega
    rcases hx with ⟨q, _⟩ | ⟨_, hL, hz⟩
    · exact absurd cn q
    · refine ⟨?_, h.ask0 gfA_o h.1.gf hL.kq hL.f (by rw [hL.e])⟩
      rw [h.bst k1 hL, k1.jb, k1.n, hm.2.1, h.k5 k1] at hz
      have d := h.dp k1 hL ((allN (M 23 4) : Nat) : Int)
      have hb : bitN i = 2 ^ i.toNat := bitN_in ⟨c.1, by omega⟩
      have eW : boX (gfA M ((allN (M 23 4) : Nat) : Int)) M2 (ndN (bitsK M 1) (2 ^ i.toNat)) (2 ^ i.toNat) = wio1 M i := by
        unfold boX wio1
        rw [k1.jb, k1.n, hm.2.1]
        have hsub : ndN (allN (M 23 4)) (bitN i) ≤ allN (M 23 4) := ndN_le _ _
        have := h.bp (T := gfA M ((allN (M 23 4) : Nat) : Int)) (E := M2 92) (al := ((ndN (allN (M 23 4)) (bitN i) : Nat) : Int)) (du := ((ndN (bitsK M 1) (bitN i) : Nat) : Int)) (mu := ((ndN (bitsK M 1) (bitN i) : Nat) : Int)) (ba := ((bitN i : Nat) : Int)) gfA_J (by rw [Int.toNat_natCast, ← allN_lt]; exact hsub) (fun s hs => by
          rw [Int.toNat_natCast, Int.toNat_natCast, Int.toNat_natCast, and_must, (d s hs).2 (by rw [Int.toNat_natCast]; exact ndN_all hs), e9_no (d s hs).1]
          have hbar := and_bar (n := (M 23 4).toNat) (k := s) (al := ndN (allN (M 23 4)) (bitN i)) (ba := bitN i) hs (fun j hj => by
            rw [ndN_bit]
            unfold allN
            rw [bsum_bit]
            simp [hj])
          rw [hbar]
          constructor
          · rintro ⟨h1, h2, h3⟩
            exact ⟨by omega, h2, h1⟩
          · rintro ⟨h1, h2, h3⟩
            exact ⟨h3, h2, by omega⟩)
        rw [Int.toNat_natCast, Int.toNat_natCast, hb] at this
        rw [hb]
        exact this.symm
      rw [eW] at hz
      rw [hz]
      by_cases q : bstA M = -9 ∨ wio1 M i = -9
      · rw [if_pos q, if_pos q]
      · rw [if_neg q, if_neg q, hb, h.wsg]
        have hv := bpM_v (gfA M ((allN (M 23 4) : Nat) : Int)) ((ndN (allN (M 23 4)) (bitN i) : Nat) : Int) ((ndN (bitsK M 1) (bitN i) : Nat) : Int)
        have h0 : 0 ≤ wio1 M i := by
          rcases hv with y | y
          · exact absurd (Or.inr y) q
          · exact y.1
        have := h.wsg ((allN (M 23 4) : Nat) : Int) (wio1 M i).toNat
        rw [Int.toNat_of_nonneg h0] at this
        rw [this]
  · rw [if_pos c] at hx ⊢
    rcases hx with ⟨_, hz, e⟩ | ⟨q, _⟩
    · rw [e]
      exact ⟨hz, h⟩
    · exfalso
      apply c
      have q1 := q.1
      have q2 := q.2
      exact ⟨q1, by omega⟩
