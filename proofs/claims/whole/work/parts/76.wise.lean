/-- rows of ints, where only what an int keeps can be seen -/
def isI (a : Nat) : Prop := a = 4 ∨ a = 6 ∨ a = 8 ∨ a = 10 ∨ a = 12 ∨ a = 14 ∨ a = 80 ∨ a = 93
def NR (M M2 : Mm) : Prop := ∀ a, M2 a = M a ∨ (isI a ∧ ∀ j, iI (M2 a j) = iI (M a j))
theorem NR.refl (M : Mm) : NR M M := fun _ => Or.inl rfl
def nz93 (M : Mm) : Mm := fun a b => if a = 93 then wr (M a b) else M a b
theorem nz_o {M : Mm} {a : Nat} (h : a ≠ 93) : nz93 M a = M a := by
  funext b
  unfold nz93
  rw [if_neg h]
theorem nz_93 (M : Mm) (b : Nat) : nz93 M 93 b = wr (M 93 b) := by
  unfold nz93
  rw [if_pos rfl]
theorem NR.nz (M : Mm) : NR M (nz93 M) := fun a => by
  by_cases q : a = 93
  · right
    subst q
    exact ⟨by unfold isI; decide, fun j => by rw [nz_93]; exact iI_wr _⟩
  · exact Or.inl (nz_o q)
theorem sgL_get {l l2 : Nat → Int} : ∀ {n a : Nat}, sgL l a n = sgL l2 a n → ∀ j, a ≤ j → j < a + n → l j = l2 j
  | 0, a, _, j, h1, h2 => by omega
  | n + 1, a, h, j, h1, h2 => by
    rw [sgL, sgL] at h
    have hh := List.cons.inj h
    by_cases q : j = a
    · rw [q]
      exact hh.1
    · exact sgL_get hh.2 j (by omega) (by omega)
theorem tkP_of2 (M : Mm) (o : Nat) (i : Int) {a : Nat} (h1 : a ≠ 61) (h2 : a ≠ 62) : tkP M o i a = M a := by
  funext b
  unfold tkP
  rw [if_neg (by omega), if_neg (by omega)]
theorem goM_off (T : Mm) {a : Nat} (h : a ≠ 54 ∧ a ≠ 55 ∧ a ≠ 56) : goM T a = T a := by
  unfold goM
  rw [goF_off _ h, stM_off h.1, stM_off h.1, stM_off h.1]
theorem rdT_off (M : Mm) (t : Int) {a : Nat} (h1 : a ≠ 77) (h2 : a ≠ 93) : rdT M t a = M a := by
  unfold rdT
  rw [stM_off h1]
  funext b
  unfold ltP
  rw [if_neg (by omega)]
theorem rdT_77 (M : Mm) (t : Int) {b : Nat} (h : b ≠ 29) : rdT M t 77 b = M 77 b := by
  unfold rdT
  rw [stM_ne _ _ (Or.inr h)]
  unfold ltP
  rw [if_neg (by omega)]
theorem Rl.vr {M M1 : Mm} (h : Rl M) {t : Int} (ht : T4 t) (e82 : M1 82 = M 82) (e83 : M1 83 = M 83) : (vRX M1 t ↔ vR M (15 + 2 * t.toNat)) ∧ ∀ j : Nat, (j : Int) < M (15 + 2 * t.toNat) 1 → M1 83 (120 * t.toNat + j) = M (15 + 2 * t.toNat + 1) j := by
  have e1 := h.t1 ht
  have e2 : ∀ j : Nat, (j : Int) < M (15 + 2 * t.toNat) 1 → M1 83 (120 * t.toNat + j) = M (15 + 2 * t.toNat + 1) j := fun j hj => by
    rw [e83]
    exact (h.2.1.2.1 t.toNat (by omega)).2 j hj
  refine ⟨?_, e2⟩
  constructor
  · rintro ⟨h1, h2⟩
    rw [e82, e1] at h1
    refine ⟨h1, fun j hj => ?_⟩
    have := h2 j (by rw [e82, e1]; exact hj)
    rw [e2 j hj] at this
    exact this
  · rintro ⟨h1, h2⟩
    rw [← e1, ← e82] at h1
    refine ⟨h1, fun j hj => ?_⟩
    rw [e82, e1] at hj
    rw [e2 j hj]
    exact h2 j hj
theorem ww_ru {M T : Mm} (h : Rl M) {ls : Nat → Int} {q : Nat} (e : ∀ a, 23 ≤ a → a ≤ 34 → T a = M a) (eJ : ∀ a, 48 ≤ a → a ≤ 53 → T a = ldM M a) (hq : (T 61 3).toNat = q) (hls : ∀ j, j < q → ls j = T 62 j) : wwM (goM T) = wsB (jbR M) (M 77 12).toNat (rsF M ls q 8).2.2.1 := by
  have r := h.ru e eJ hq hls 8 (Nat.le_refl 8)
  have hJ : ∀ a, 48 ≤ a → a ≤ 53 → goM T a = ldM M a := fun a h1 h2 => by
    rw [goM_off T ⟨by omega, by omega, by omega⟩]
    exact eJ a h1 h2
  unfold wwM
  rw [wsM_eq hJ, h.ws]
  have e1 : goM T 54 3 = ((rsF M ls q 8).2.2.2.length : Int) := r.2.1.1
  have e2 : mtF (goM T) (rsF M ls q 8).2.2.2.length = (rsF M ls q 8).2.2.1 := r.2.2
  rw [e1, Int.toNat_natCast, e2]
theorem pr_rule {M M1 M2 : Mm} {t r z z2 : Int} (h : Rl M) (hc : ruR M t r z M1) (hx : xruR M1 t r z2 M2) : z2 = z ∧ ∃ M3, NR M2 M3 ∧ Rl M3 := by
  have hm := h.m
  have hl := h.1.l
  rcases hc with ⟨c, hz, e⟩ | ⟨c, c1, hz, e⟩ | ⟨c, c1, c2, hz, i, i0, i4, e⟩ | ⟨c, c1, c2, hz, e⟩
  · subst e
    rcases hx with ⟨_, hz2, e⟩ | ⟨q, _⟩ | ⟨q, _⟩ | ⟨q, _⟩
    · exact ⟨by rw [hz, hz2], M2, NR.refl _, by rw [e]; exact h⟩
    · exact absurd q c
    · exact absurd q c
    · exact absurd q c
  · have e1 := h.t1 c.1
    have e82 : M1 82 = M 82 := by rw [e, fdM_o (by decide) (by decide)]
    rcases hx with ⟨q, _⟩ | ⟨_, _, hz2, e2⟩ | ⟨_, q, _⟩ | ⟨_, q, _⟩
    · exfalso; omega
    · refine ⟨by rw [hz, hz2], M2, NR.refl _, ?_⟩
      rw [e2, e]
      exact h.meet 1 (by decide)
    · exact absurd (by rw [e82, e1]; exact c1) q
    · exact absurd (by rw [e82, e1]; exact c1) q
  · have e1 := h.t1 c.1
    have e82 : M1 82 = M 82 := by rw [e, tkP_of2 _ _ _ (by decide) (by decide)]
    have e83 : M1 83 = M 83 := by rw [e, tkP_of2 _ _ _ (by decide) (by decide)]
    have hv := (h.vr c.1 e82 e83).1
    rcases hx with ⟨q, _⟩ | ⟨_, q, _⟩ | ⟨_, _, _, hz2, hf⟩ | ⟨_, _, q, _⟩
    · exfalso; omega
    · exfalso
      rw [e82, e1] at q
      exact c1 q
    · refine ⟨by rw [hz, hz2], nz93 M2, NR.nz M2, ?_⟩
      have eM1 : ∀ a, a ≠ 61 → a ≠ 62 → M1 a = M a := fun a h1 h2 => by rw [e]; exact tkP_of2 _ _ _ h1 h2
      have k1 : KQ M M1 := KQ.sc (fun a ha => eM1 a (by omega) (by omega))
      refine h.kq k1 (by rw [e]; exact h.1.tk ⟨i0, i4⟩) (KQ.x (fun a h1 h2 h3 => by rw [nz_o (by omega), hf a (by omega)]) (fun b _ => by rw [nz_o (by decide), hf 77 (by decide)])) (fun a h1 h2 => by rw [nz_o (by omega), hf a (by omega)]) ?_ (fun j _ => by rw [nz_93]; exact ir_wr _)
      rw [nz_o (by decide), nz_o (by decide), hf 77 (by decide), hf 0 (by decide), eM1 77 (by decide) (by decide), eM1 0 (by decide) (by decide)]
      exact h.2.2.1.2.2.1.1
    · exact absurd (hv.mp q) c2
  · have e1 := h.t1 c.1
    have hT0 : ∃ T0, T0 = ldM (tkP M (15 + 2 * t.toNat) (M (15 + 2 * t.toNat) 1)) := ⟨_, rfl⟩
    obtain ⟨T0, hT0⟩ := hT0
    have hT : ruT M (15 + 2 * t.toNat) = goM T0 := by unfold ruT; rw [hT0]
    rw [hT] at hz e
    have o0 : ∀ a, (a < 48 ∨ 53 < a) → a ≠ 61 → a ≠ 62 → T0 a = M a := fun a h0 h1 h2 => by rw [hT0, ldM_off h0, tkP_of2 _ _ _ h1 h2]
    have oT : ∀ a, a < 48 ∨ 62 < a → goM T0 a = M a := fun a ha => by rw [goM_off T0 ⟨by omega, by omega, by omega⟩, o0 a (by omega) (by omega) (by omega)]
    have hCT : CI (goM T0) := by rw [hT0]; exact (h.1.tk ⟨by have := c2.1; omega, by have := c2.1; omega⟩).ld.go
    have eV23 : ∀ a, 23 ≤ a → a ≤ 34 → T0 a = M a := fun a h1 h2 => o0 a (by omega) (by omega) (by omega)
    have eJ : ∀ a, 48 ≤ a → a ≤ 53 → T0 a = ldM M a := by
      rw [hT0]
      exact ldM_of (by omega) (fun a h1 h2 => tkP_of2 _ _ _ (by omega) (by omega)) (fun a h1 h2 => tkP_of2 _ _ _ (by omega) (by omega))
    have wo : ∀ a, a ≠ 3 + 2 * r.toNat → a ≠ 3 + 2 * r.toNat + 1 → M1 a = goM T0 a := fun a h1 h2 => by rw [e]; exact twP_off h1 h2
    have m1 : ∀ a, 15 ≤ a → (a < 48 ∨ 62 < a) → M1 a = M a := fun a h1 h2 => by rw [wo a (by omega) (by omega), oT a h2]
    have hv := h.vr c.1 (m1 82 (by decide) (by decide)) (m1 83 (by decide) (by decide))
    rcases hx with ⟨q, _⟩ | ⟨_, q, _⟩ | ⟨_, _, q, _⟩ | ⟨_, _, _, W, hW, e2⟩
    · exfalso; omega
    · exfalso
      rw [m1 82 (by decide) (by decide), e1] at q
      exact c1 q
    · exact absurd (hv.1.mpr c2) q
    · have eS : rdT M1 t 77 29 = M (15 + 2 * t.toNat) 1 := by
        unfold rdT
        rw [stM_at, m1 82 (by decide) (by decide), e1]
      have e93 : ∀ j : Nat, rdT M1 t 93 j = if (j : Int) < M (15 + 2 * t.toNat) 1 then ltO (M1 83 (120 * t.toNat + j)) else M 93 j := fun j => by
        unfold rdT
        rw [stM_off (by decide)]
        unfold ltP
        rw [m1 82 (by decide) (by decide), e1, m1 93 (by decide) (by decide)]
        by_cases y : (j : Int) < M (15 + 2 * t.toNat) 1
        · rw [if_pos ⟨rfl, y⟩, if_pos y]
        · rw [if_neg (fun u => y u.2), if_neg y]
      have t61 : T0 61 3 = M (15 + 2 * t.toNat) 1 := by
        rw [hT0, ldM_off (by decide)]
        unfold tkP
        rw [if_pos ⟨rfl, rfl⟩]
      have hls : ∀ j, j < (M (15 + 2 * t.toNat) 1).toNat → rdT M1 t 93 j = T0 62 j := fun j hj => by
        rw [e93 j, if_pos (by omega), hv.2 j (by omega), hT0, ldM_off (by decide)]
        unfold tkP
        rw [if_neg (by omega), if_pos ⟨rfl, by omega⟩]
      have r8 := h.ru (T := T0) (ls := rdT M1 t 93) (q := (M (15 + 2 * t.toNat) 1).toNat) eV23 eJ (by rw [t61]) hls 8 (Nat.le_refl 8)
      have w8 := ww_ru h (T := T0) (ls := rdT M1 t 93) (q := (M (15 + 2 * t.toNat) 1).toNat) eV23 eJ (by rw [t61]) hls
      have hro := rsF_off (M := M) (M2 := rdT M1 t) (by rw [rdT_off _ _ (by decide) (by decide), m1 84 (by decide) (by decide)]) (by rw [rdT_off _ _ (by decide) (by decide), m1 85 (by decide) (by decide)]) (fun b hb => by rw [rdT_77 _ _ (by omega), m1 77 (by decide) (by decide)]) (ls := rdT M1 t 93) (ls2 := rdT M1 t 93) (q := (M (15 + 2 * t.toNat) 1).toNat) (fun j _ => rfl) 8
      obtain ⟨hF, hz2, hLN, _⟩ := hW
      rw [eS, hro] at hz2 hLN
      have hjb : jbR (rdT M1 t) = jbR M := jbR_off (by rw [rdT_off _ _ (by decide) (by decide), m1 84 (by decide) (by decide)]) (by rw [rdT_off _ _ (by decide) (by decide), m1 85 (by decide) (by decide)])
      rw [hjb, rdT_77 _ _ (by decide), m1 77 (by decide) (by decide)] at hz2
      refine ⟨by rw [hz2, hz, w8], M2, NR.refl _, ?_⟩
      have g3 : goM T0 54 3 = ((rsF M (rdT M1 t 93) (M (15 + 2 * t.toNat) 1).toNat 8).2.2.2.length : Int) := r8.2.1.1
      have g55 : sgL (goM T0 55) 0 (rsF M (rdT M1 t 93) (M (15 + 2 * t.toNat) 1).toNat 8).2.2.2.length = (rsF M (rdT M1 t 93) (M (15 + 2 * t.toNat) 1).toNat 8).2.2.2 := r8.2.1.2.2
      rw [e2]
      refine h.tw c.2 oT hCT (fun a h1 h2 h3 h4 => by rw [hF.1 a h1 h2 h3, rdT_off _ _ h1 h4, e]) (fun b h1 h2 h3 => by rw [hF.2 b h1 h2, rdT_77 _ _ h3, m1 77 (by decide) (by decide)]) ?_ ?_ ?_
      · intro j _
        rw [hF.1 93 (by decide) (by decide) (by decide), e93 j]
        split
        · have := ltO_b (M1 83 (120 * t.toNat + j))
          exact ⟨by omega, by omega⟩
        · exact h.i93 j (by omega)
      · rw [hLN.1, g3]
      · intro j hj
        rw [g3] at hj
        exact sgL_get (hLN.2.trans g55.symm) j (Nat.zero_le j) (by omega)
theorem cd_tn : ∀ k : Nat, k < 30 → ((cdO (k : Int) ↔ tnO (k : Int)) ∧ ((k : Int) < 5 ∨ (cdA (k : Int) = ((k : Int) - 5).tdiv 5 ∧ cdB (k : Int) = (k : Int) - 5 - ((k : Int) - 5).tdiv 5 * 5))) := by
  decide +kernel
theorem tnM_v (T : Mm) {k : Nat} (hk : k < 30) : (tnM T (k : Int) 61 3).toNat = cdQ (k : Int) ∧ ∀ j, j < cdQ (k : Int) → cdL (k : Int) j = tnM T (k : Int) 62 j := by
  have hc := (cd_tn k hk).2
  have z0 : stM T 61 3 0 61 3 = 0 := stM_at _ _ _ _
  by_cases q : (k : Int) < 5
  · have e : tnM T (k : Int) = stM (stM (stM T 61 3 0) 62 0 (k : Int)) 61 3 1 := by
      unfold tnM
      rw [if_pos q]
      unfold adL
      rw [z0, if_pos (by decide)]
      rfl
    unfold cdQ
    rw [if_pos q, e]
    refine ⟨by rw [stM_at]; rfl, fun j hj => ?_⟩
    have : j = 0 := by omega
    subst this
    rw [stM_off (by decide), stM_at]
    unfold cdL cdA
    rw [if_pos rfl, if_pos q]
  · have hc := hc.resolve_left q
    have e : tnM T (k : Int) = stM (stM (stM (stM (stM T 61 3 0) 62 0 (((k : Int) - 5).tdiv 5)) 61 3 1) 62 1 ((k : Int) - 5 - ((k : Int) - 5).tdiv 5 * 5)) 61 3 2 := by
      have e1 : adL (stM T 61 3 0) (((k : Int) - 5).tdiv 5) = stM (stM (stM T 61 3 0) 62 0 (((k : Int) - 5).tdiv 5)) 61 3 1 := by
        unfold adL
        rw [z0, if_pos (by decide)]
        rfl
      unfold tnM
      rw [if_neg q, e1]
      unfold adL
      rw [stM_at, if_pos (by decide)]
      rfl
    unfold cdQ
    rw [if_neg q, e]
    refine ⟨by rw [stM_at]; rfl, fun j hj => ?_⟩
    unfold cdL
    by_cases y : j = 0
    · subst y
      rw [if_pos rfl, stM_off (by decide), stM_ne _ _ (Or.inr (by decide)), stM_off (by decide), stM_at]
      exact hc.1
    · have : j = 1 := by omega
      subst this
      rw [if_neg (by decide), stM_off (by decide), stM_at]
      exact hc.2
theorem wi_wu {M : Mm} (h : Rl M) : ∀ k, k ≤ 30 → ((∀ a, a < 48 ∨ 62 < a → (wiF M k).1 a = M a) ∧ ∀ a, 48 ≤ a → a ≤ 53 → (wiF M k).1 a = ldM M a) ∧ ((k = 0 ∧ (wiF M k).2 = (0, -9)) ∨ (0 < k ∧ (wiF M k).2 = wuF M k ∧ 0 ≤ (wuF M k).2 ∧ 0 ≤ (wuF M k).1))
  | 0, _ => ⟨⟨fun a ha => ldM_off (by omega), fun a _ _ => rfl⟩, Or.inl ⟨rfl, rfl⟩⟩
  | k + 1, hk => by
    have ih := wi_wu h k (by omega)
    have cd := cd_tn k (by omega)
    have tv := tnM_v (wiF M k).1 (k := k) (by omega)
    rw [wiF, wuF]
    generalize wiF M k = S at *
    have oT : ∀ a, a ≠ 61 → a ≠ 62 → tnM S.1 (k : Int) a = S.1 a := fun a h1 h2 => tnM_off _ _ h1 h2
    have eV : ∀ a, 23 ≤ a → a ≤ 34 → tnM S.1 (k : Int) a = M a := fun a h1 h2 => by rw [oT a (by omega) (by omega), ih.1.1 a (by omega)]
    have eJ : ∀ a, 48 ≤ a → a ≤ 53 → tnM S.1 (k : Int) a = ldM M a := fun a h1 h2 => by rw [oT a (by omega) (by omega), ih.1.2 a h1 h2]
    have w := ww_ru h (T := tnM S.1 (k : Int)) (ls := cdL (k : Int)) (q := cdQ (k : Int)) eV eJ tv.1 tv.2
    have hcv : wwM (goM (tnM S.1 (k : Int))) = cdV M (k : Int) := w
    have v0 : 0 ≤ cdV M (k : Int) := by
      unfold cdV
      exact (wsB_b (jbR_ok h.2.2.2.1.1.1) (by have := h.1.l; rw [h.m.2.1]; omega) _).1
    have fr : ∀ {X : Mm}, (X = goM (tnM S.1 (k : Int)) ∨ X = tnM S.1 (k : Int)) → (∀ a, a < 48 ∨ 62 < a → X a = M a) ∧ ∀ a, 48 ≤ a → a ≤ 53 → X a = ldM M a := by
      intro X hX
      have e1 : ∀ a, a ≠ 54 ∧ a ≠ 55 ∧ a ≠ 56 → X a = tnM S.1 (k : Int) a := fun a ha => by
        rcases hX with e | e
        · rw [e, goM_off _ ha]
        · rw [e]
      exact ⟨fun a ha => by rw [e1 a ⟨by omega, by omega, by omega⟩, oT a (by omega) (by omega), ih.1.1 a ha], fun a h1 h2 => by rw [e1 a ⟨by omega, by omega, by omega⟩]; exact eJ a h1 h2⟩
    rw [hcv]
    by_cases q : tnO (k : Int)
    · have q2 : cdO (k : Int) := cd.1.mpr q
      rw [if_pos q, if_pos q2]
      have e1 : (if S.2.2 < cdV M (k : Int) then (goM (tnM S.1 (k : Int)), (k : Int), cdV M (k : Int)) else (goM (tnM S.1 (k : Int)), S.2)) = (goM (tnM S.1 (k : Int)), if S.2.2 < cdV M (k : Int) then ((k : Int), cdV M (k : Int)) else S.2) := by
        split <;> rfl
      rw [e1]
      refine ⟨fr (Or.inl rfl), Or.inr ⟨by omega, ?_⟩⟩
      rcases ih.2 with ⟨hk0, i1⟩ | ⟨hk0, i1, i2, i3⟩
      · subst hk0
        have eu : wuF M 0 = (-9, 0) := rfl
        rw [i1, eu, if_pos (by show (-9 : Int) < _; omega), if_pos (Or.inl rfl)]
        refine ⟨?_, ?_, ?_⟩
        · show (((0 : Nat) : Int), cdV M ((0 : Nat) : Int)) = (((0 : Nat) : Int), max 0 (cdV M ((0 : Nat) : Int)))
          rw [show max 0 (cdV M ((0 : Nat) : Int)) = cdV M ((0 : Nat) : Int) by omega]
        · show (0 : Int) ≤ max 0 _
          omega
        · show (0 : Int) ≤ ((0 : Nat) : Int)
          omega
      · rw [i1]
        by_cases y : (wuF M k).2 < cdV M (k : Int)
        · rw [if_pos y, if_pos (Or.inr y)]
          refine ⟨?_, ?_, ?_⟩
          · rw [show max (wuF M k).2 (cdV M (k : Int)) = cdV M (k : Int) by omega]
          · show (0 : Int) ≤ max _ _
            omega
          · show (0 : Int) ≤ (k : Int)
            omega
        · rw [if_neg y, if_neg (by rintro (u | u); · omega
                                   exact y u)]
          refine ⟨?_, ?_, i3⟩
          · rw [show max (wuF M k).2 (cdV M (k : Int)) = (wuF M k).2 by omega]
          · show (0 : Int) ≤ max _ _
            omega
    · rw [if_neg q, if_neg (fun y => q (cd.1.mp y))]
      refine ⟨fr (Or.inr rfl), ?_⟩
      rcases ih.2 with ⟨hk0, i1⟩ | ⟨hk0, i1, i2, i3⟩
      · exfalso
        apply q
        left
        omega
      · exact Or.inr ⟨by omega, i1, i2, i3⟩
theorem pr_wise {M M2 : Mm} {z : Int} (h : Rl M) (hx : xwiR (tdM (wiF M 30).1 (wiF M 30).2.2) z M2) : z = (wiF M 30).2.1 ∧ ∃ M3, NR M2 M3 ∧ Rl M3 := by
  have hm := h.m
  have w := wi_wu h 30 (Nat.le_refl 30)
  have hC := (wiF_W h.1 30 (Nat.le_refl 30)).1
  have w2 : (wiF M 30).2 = wuF M 30 := by
    rcases w.2 with ⟨q, _⟩ | ⟨_, q, _⟩
    · omega
    · exact q
  have kU : KQ M (wiF M 30).1 := KQ.sc (fun a ha => w.1.1 a (by omega))
  have k1 := kU.trans (KQ.td (wiF M 30).1 (wiF M 30).2.2)
  obtain ⟨hz, T, hf, hs, e⟩ := hx
  have hu : ∀ k, wuF (tdM (wiF M 30).1 (wiF M 30).2.2) k = wuF M k := by
    have hv : ∀ c, cdV (tdM (wiF M 30).1 (wiF M 30).2.2) c = cdV M c := fun c => by
      unfold cdV
      rw [k1.jb, k1.n, rsF_off (k1.r (by decide)) (k1.r (by decide)) (fun b hb => k1.s (by omega)) (fun j _ => rfl)]
    intro k
    induction k with
    | zero => rfl
    | succ k ih => rw [wuF, wuF, ih, hv]
  rw [hu] at hz e
  rw [← w2] at hz e
  refine ⟨hz, nz93 M2, NR.nz M2, ?_⟩
  have eM : ∀ a, a ≠ 77 → a ≠ 89 → a ≠ 90 → a ≠ 93 → nz93 M2 a = tdM (wiF M 30).1 (wiF M 30).2.2 a := fun a h1 h2 h3 h4 => by
    rw [nz_o h4, e]
    unfold tlM
    rw [stM_off h1, hf a h1 h2 h3 h4]
  refine h.kq k1 (hC.td _) (KQ.x (fun a h1 h2 h3 => eM a h1 (by omega) (by omega) (by omega)) (fun b hb => ?_)) (fun a h1 h2 => eM a (by omega) (by omega) (by omega) (by omega)) ?_ (fun j _ => by rw [nz_93]; exact ir_wr _)
  · rw [nz_o (by decide), e]
    unfold tlM
    rw [stM_ne _ _ (by omega), hs b (by omega) (by omega) (by omega)]
  · rw [nz_o (by decide), eM 0 (by decide) (by decide) (by decide) (by decide), e]
    unfold tlM
    rw [stM_at]
    exact (stM_at _ _ _ _).symm
