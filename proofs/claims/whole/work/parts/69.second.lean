abbrev PRK (T : Mm) (du s t : Nat) : Prop := (s &&& t = 0 ∧ ndN du (s ||| t) = 0) ∧ ¬ T 60 t = -9
theorem mbI_max (T : Mm) (du s : Nat) (acc : Int) : ∀ k, acc ≤ mbI T du s acc k ∧ (mbI T du s acc k = acc ∨ ∃ t, t < k ∧ PRK T du s t ∧ mbI T du s acc k = wsM T ((s ||| t : Nat) : Int)) ∧ ∀ t, t < k → PRK T du s t → wsM T ((s ||| t : Nat) : Int) ≤ mbI T du s acc k
  | 0 => ⟨Int.le_refl _, Or.inl rfl, fun t ht => by omega⟩
  | k + 1 => by
    have ih := mbI_max T du s acc k
    rw [mbI]
    by_cases q : PRK T du s k
    · rw [if_pos q]
      refine ⟨by omega, ?_, fun t ht hp => ?_⟩
      · by_cases y : mbI T du s acc k ≤ wsM T ((s ||| k : Nat) : Int)
        · exact Or.inr ⟨k, by omega, q, by omega⟩
        · have e : max (mbI T du s acc k) (wsM T ((s ||| k : Nat) : Int)) = mbI T du s acc k := by omega
          rw [e]
          rcases ih.2.1 with z | ⟨t, h1, h2, h3⟩
          · exact Or.inl z
          · exact Or.inr ⟨t, by omega, h2, h3⟩
      · by_cases y : t = k
        · rw [y]
          omega
        · have := ih.2.2 t (by omega) hp
          omega
    · rw [if_neg q]
      refine ⟨ih.1, ?_, fun t ht hp => ?_⟩
      · rcases ih.2.1 with z | ⟨t, h1, h2, h3⟩
        · exact Or.inl z
        · exact Or.inr ⟨t, by omega, h2, h3⟩
      · by_cases y : t = k
        · rw [y] at hp
          exact absurd hp q
        · exact ih.2.2 t (by omega) hp
theorem mbO_max (T : Mm) (du all : Nat) : ∀ k, -9 ≤ mbO T du all k ∧ (mbO T du all k = -9 ∨ ∃ s t, s < k ∧ t < all + 1 ∧ (PRK T du s t ∧ ¬ T 59 s = -9) ∧ mbO T du all k = wsM T ((s ||| t : Nat) : Int)) ∧ ∀ s t, s < k → t < all + 1 → PRK T du s t → ¬ T 59 s = -9 → wsM T ((s ||| t : Nat) : Int) ≤ mbO T du all k
  | 0 => ⟨Int.le_refl _, Or.inl rfl, fun s t hs => by omega⟩
  | k + 1 => by
    have ih := mbO_max T du all k
    rw [mbO]
    by_cases q : T 59 k = -9
    · rw [if_pos q]
      refine ⟨ih.1, ?_, fun s t hs ht hp h9 => ?_⟩
      · rcases ih.2.1 with z | ⟨s, t, h1, h2, h3, h4⟩
        · exact Or.inl z
        · exact Or.inr ⟨s, t, by omega, h2, h3, h4⟩
      · by_cases y : s = k
        · rw [y] at h9
          exact absurd q h9
        · exact ih.2.2 s t (by omega) ht hp h9
    · rw [if_neg q]
      have hi := mbI_max T du k (mbO T du all k) (all + 1)
      refine ⟨by omega, ?_, fun s t hs ht hp h9 => ?_⟩
      · rcases hi.2.1 with z | ⟨t, h1, h2, h3⟩
        · rw [z]
          rcases ih.2.1 with z | ⟨s, t, h1, h2, h3, h4⟩
          · exact Or.inl z
          · exact Or.inr ⟨s, t, by omega, h2, h3, h4⟩
        · exact Or.inr ⟨k, t, by omega, h1, ⟨h2, q⟩, h3⟩
      · by_cases y : s = k
        · rw [y] at hp ⊢
          exact hi.2.2 t ht hp
        · have := ih.2.2 s t (by omega) ht hp h9
          omega
theorem scF_max {J : Nat → Nat → Int} {n : Nat} {T : Mm} {mu : Nat} : ∀ k, (scF J n T mu k = -9 ∧ ∀ s, s < k → s &&& mu = mu → ¬ shP T s) ∨ ∃ r : Nat, scF J n T mu k = (r : Int) ∧ r < k ∧ (r &&& mu = mu ∧ shP T r) ∧ ∀ s, s < k → s &&& mu = mu → shP T s → wsB J n s ≤ wsB J n r
  | 0 => Or.inl ⟨rfl, fun s hs => by omega⟩
  | k + 1 => by
    have ih := scF_max (J := J) (n := n) (T := T) (mu := mu) k
    rw [scF]
    by_cases q : k &&& mu = mu ∧ shP T k
    · rcases ih with ⟨e, hn⟩ | ⟨r, e, hr, hq, hm⟩
      · right
        rw [if_pos ⟨⟨q.1, Or.inl e⟩, q.2⟩]
        refine ⟨k, rfl, by omega, q, fun s hs h1 h2 => ?_⟩
        by_cases y : s = k
        · rw [y]
          exact Int.le_refl _
        · exact absurd h2 (hn s (by omega) h1)
      · right
        by_cases y : wsB J n r < wsB J n k
        · rw [if_pos ⟨⟨q.1, Or.inr (by rw [e, Int.toNat_natCast]; exact y)⟩, q.2⟩]
          refine ⟨k, rfl, by omega, q, fun s hs h1 h2 => ?_⟩
          by_cases y2 : s = k
          · rw [y2]
            exact Int.le_refl _
          · have := hm s (by omega) h1 h2
            omega
        · rw [if_neg (by
            rintro ⟨⟨_, z | z⟩, _⟩
            · rw [e] at z; omega
            · rw [e, Int.toNat_natCast] at z; exact y z)]
          refine ⟨r, e, by omega, hq, fun s hs h1 h2 => ?_⟩
          by_cases y2 : s = k
          · rw [y2]
            omega
          · exact hm s (by omega) h1 h2
    · rw [if_neg (fun z => q ⟨z.1.1, z.2⟩)]
      rcases ih with ⟨e, hn⟩ | ⟨r, e, hr, hq, hm⟩
      · left
        refine ⟨e, fun s hs h1 h2 => ?_⟩
        by_cases y : s = k
        · rw [y] at h1 h2
          exact q ⟨h1, h2⟩
        · exact hn s (by omega) h1 h2
      · right
        refine ⟨r, e, by omega, hq, fun s hs h1 h2 => ?_⟩
        by_cases y : s = k
        · rw [y] at h1 h2
          exact absurd ⟨h1, h2⟩ q
        · exact hm s (by omega) h1 h2
theorem and_or1 (s t : Nat) : s &&& (s ||| t) = s := by
  apply Nat.eq_of_testBit_eq
  intro j
  rw [Nat.testBit_and, Nat.testBit_or]
  cases s.testBit j <;> simp
theorem ndN_or1 {s t : Nat} (h : s &&& t = 0) : ndN (s ||| t) s = t := by
  apply Nat.eq_of_testBit_eq
  intro j
  have := congrArg (fun x => x.testBit j) h
  simp only [Nat.testBit_and, Nat.zero_testBit] at this
  rw [ndN_bit, Nat.testBit_or]
  cases h1 : s.testBit j with
  | false => simp
  | true =>
    rw [h1] at this
    simp at this
    rw [this]
    rfl
theorem or_nd {q r : Nat} (h : q &&& r = q) : q &&& ndN r q = 0 ∧ q ||| ndN r q = r := by
  constructor
  · apply Nat.eq_of_testBit_eq
    intro j
    rw [Nat.testBit_and, ndN_bit, Nat.zero_testBit]
    cases q.testBit j <;> simp
  · apply Nat.eq_of_testBit_eq
    intro j
    have := congrArg (fun x => x.testBit j) h
    simp only [Nat.testBit_and] at this
    rw [Nat.testBit_or, ndN_bit]
    cases h1 : q.testBit j with
    | false => simp
    | true =>
      rw [h1] at this
      simp at this
      rw [this]
      rfl
theorem seB_J {M : Mm} (h : Int) : ∀ a, 48 ≤ a → a ≤ 53 → seB M h a = ldM M a := fun a h1 h2 => by
  funext b
  unfold seB cpM
  rw [if_neg (by omega)]
  unfold seA
  rw [rcM_off _ _ _ _ (by omega) (by omega)]
theorem seT_J {M : Mm} (h : Int) : ∀ a, 48 ≤ a → a ≤ 53 → seT M h a = ldM M a := fun a h1 h2 => by
  unfold seT
  rw [rcM_off _ _ _ _ (by omega) (by omega)]
  exact seB_J h a h1 h2
theorem seT_60 {M : Mm} (h : Int) {t : Nat} (ht : t < 256) : seT M h 60 t = seA M h 59 t := by
  unfold seT
  rw [rcM_off _ _ _ _ (by decide) (by decide)]
  unfold seB cpM
  rw [if_pos ⟨rfl, by omega, by omega⟩, show 0 + (t - 0) = t by omega]
/-- what two coats can do, on both sides -/
theorem Rl.two {M M1 T U : Mm} (h : Rl M) (k : KQ M M1) {x : Int} (hx : HS M x) (hT : LX M1 (sP M1) T) (hU : LX (fcP T (((allN (M1 77 12) : Nat) : Int) + 1)) (M1 84 x.toNat) U) : (scF (jbR M1) (M1 77 12).toNat U (mKx M1 1) (allN (M1 77 12) + 1) = -9 ∧ secV M x = -9) ∨ (¬ scF (jbR M1) (M1 77 12).toNat U (mKx M1 1) (allN (M1 77 12) + 1) = -9 ∧ ¬ secV M x = -9 ∧ secV M x = wsB (jbR M1) (M1 77 12).toNat (scF (jbR M1) (M1 77 12).toNat U (mKx M1 1) (allN (M1 77 12) + 1)).toNat) := by
  have hm := h.m
  have hl := h.1.l
  have kF : KQ M (fcP T (((allN (M1 77 12) : Nat) : Int) + 1)) := k.trans (hT.kq.trans (KQ.x (fun a _ _ h3 => fcP_off T _ (by omega)) (fun b _ => by rw [fcP_off T _ (by decide)])))
  have hsp : (M 23 4).toNat = 0 ∨ sP M1 = stp M := by
    by_cases q : 0 < M 23 4
    · right
      rw [k.sp, h.sp q]
    · left
      omega
  have d1 := h.dp2 k hsp h.1.sp hT (U := seB M x) (seB_J x) ((allN (M 23 4) : Nat) : Int)
  have h84 : M1 84 x.toNat = plc M 23 x := by rw [k.r (a := 84) (by decide), h.pl hx]
  have d2 := h.dp2 kF (Or.inr h84) (plc_b h.1.pl x) hU (U := ldM M) (fun a _ _ => rfl) ((allN (M 23 4) : Nat) : Int)
  have hn : M1 77 12 = M 23 4 := by rw [k.n, hm.2.1]
  rw [hn, k.jb, h.k5 k]
  rw [hn] at hU
  have hp := p2_256 (n := (M 23 4).toNat) (by omega)
  have hpos := Nat.two_pow_pos (M 23 4).toNat
  have hall : allN (M 23 4) + 1 = 2 ^ (M 23 4).toNat := by rw [allN_eq]; omega
  have hws : ∀ s : Nat, wsM (seT M x) (s : Int) = wsB (jbR M) (M 23 4).toNat s := fun s => by
    have := h.ws s
    rw [hm.2.1] at this
    rw [this, wsM_eq (seT_J x)]
  have c1 : ∀ s, s < 2 ^ (M 23 4).toNat → (¬ seT M x 59 s = -9 ↔ T 92 s < 1000) := fun s hs => by
    have := d1 s hs
    unfold seT
    rw [this.2 (by rw [Int.toNat_natCast]; exact ndN_all hs), e9_no this.1]
    omega
  have c2 : ∀ s, s < 2 ^ (M 23 4).toNat → (¬ seT M x 60 s = -9 ↔ U 92 s < 1000) := fun s hs => by
    have := d2 s hs
    rw [seT_60 x (by omega)]
    unfold seA
    rw [this.2 (by rw [Int.toNat_natCast]; exact ndN_all hs), e9_no this.1]
    omega
  have e94 : ∀ s, s < 2 ^ (M 23 4).toNat → U 94 s = T 92 s := fun s hs => by
    rw [hU.1 94 (by decide) (by decide)]
    unfold fcP
    rw [if_pos ⟨rfl, by omega⟩]
  have A := mbO_max (seT M x) (bitsK M 1) (allN (M 23 4)) (allN (M 23 4) + 1)
  have B := scF_max (J := jbR M) (n := (M 23 4).toNat) (T := U) (mu := bitsK M 1) (allN (M 23 4) + 1)
  unfold secV
  generalize mbO (seT M x) (bitsK M 1) (allN (M 23 4)) (allN (M 23 4) + 1) = V at A
  generalize scF (jbR M) (M 23 4).toNat U (bitsK M 1) (allN (M 23 4) + 1) = S at B
  have toS : ∀ s t, s < 2 ^ (M 23 4).toNat → t < 2 ^ (M 23 4).toNat → PRK (seT M x) (bitsK M 1) s t → ¬ seT M x 59 s = -9 → (s ||| t) < 2 ^ (M 23 4).toNat ∧ (s ||| t) &&& bitsK M 1 = bitsK M 1 ∧ shP U (s ||| t) := by
    intro s t hs ht hp h9
    refine ⟨Nat.or_lt_two_pow hs ht, and_must.mpr hp.1.2, s, by omega, and_or1 s t, ?_, ?_⟩
    · rw [e94 s hs]
      exact (c1 s hs).mp h9
    · rw [ndN_or1 hp.1.1]
      exact (c2 t ht).mp hp.2
  have toP : ∀ r, r < 2 ^ (M 23 4).toNat → r &&& bitsK M 1 = bitsK M 1 → shP U r → ∃ s t, s < 2 ^ (M 23 4).toNat ∧ t < 2 ^ (M 23 4).toNat ∧ PRK (seT M x) (bitsK M 1) s t ∧ ¬ seT M x 59 s = -9 ∧ s ||| t = r := by
    intro r hr hmu hq
    obtain ⟨q, _, q1, q2, q3⟩ := hq
    have hqr : q ≤ r := by
      have := Nat.and_le_right (n := q) (m := r)
      omega
    have ho := or_nd q1
    have hnd := ndN_le r q
    refine ⟨q, ndN r q, by omega, by omega, ⟨⟨ho.1, ?_⟩, ?_⟩, ?_, ho.2⟩
    · rw [ho.2]
      exact and_must.mp hmu
    · exact (c2 _ (by omega)).mpr q3
    · rw [e94 q (by omega)] at q2
      exact (c1 q (by omega)).mpr q2
  rw [hall] at A B
  rcases B with ⟨e, hno⟩ | ⟨r, e, hr, hq, hmax⟩
  · left
    refine ⟨e, ?_⟩
    rcases A.2.1 with z | ⟨s, t, h1, h2, h3, h4⟩
    · exact z
    · exfalso
      have := toS s t h1 (by omega) h3.1 h3.2
      exact hno _ this.1 this.2.1 this.2.2
  · right
    obtain ⟨s, t, h1, h2, h3, h4, h5⟩ := toP r hr hq.1 hq.2
    have hle := A.2.2 s t h1 (by omega) h3 h4
    rw [h5, hws] at hle
    have h0 := h.w0 r
    have eS : S = (r : Int) := e
    rw [eS, Int.toNat_natCast]
    refine ⟨by omega, by omega, ?_⟩
    rcases A.2.1 with z | ⟨s2, t2, g1, g2, g3, g4⟩
    · exfalso
      omega
    · have gs := toS s2 t2 g1 (by omega) g3.1 g3.2
      have := hmax _ gs.1 gs.2.1 gs.2.2
      rw [hws] at g4
      omega
theorem seT_o {M : Mm} (h : Int) : ∀ a, a < 48 ∨ 62 < a → seT M h a = M a := fun a ha => seT_off M h (by omega)
theorem Rl.bst2 {M M1 T : Mm} (h : Rl M) (k : KQ M M1) (hL : LX M1 (sP M1) T) (x : Int) : boX M1 T (mKx M1 1) 0 = secP M x := by
  have hm := h.m
  have hl := h.1.l
  have hsp : (M 23 4).toNat = 0 ∨ sP M1 = stp M := by
    by_cases q : 0 < M 23 4
    · right
      rw [k.sp, h.sp q]
    · left
      omega
  have d := h.dp2 k hsp h.1.sp hL (U := seB M x) (seB_J x) ((allN (M 23 4) : Nat) : Int)
  unfold boX secP
  rw [k.jb, k.n, hm.2.1, h.k5 k]
  have := h.bp (T := seT M x) (E := T 92) (al := ((allN (M 23 4) : Nat) : Int)) (du := ((bitsK M 1 : Nat) : Int)) (mu := ((bitsK M 1 : Nat) : Int)) (ba := 0) (seT_J x) h.al (fun s hs => by
    have e : seT M x 59 s = e9 (T 92 s) := (d s hs).2 (by rw [Int.toNat_natCast]; exact ndN_all hs)
    rw [Int.toNat_natCast, Int.toNat_natCast, and_must, e, e9_no (d s hs).1]
    have := ndN_all hs
    constructor
    · rintro ⟨h1, h2, h3⟩
      exact ⟨by omega, h2, by simp⟩
    · rintro ⟨h1, h2, h3⟩
      exact ⟨this, h2, by omega⟩)
  rw [Int.toNat_natCast] at this
  exact this.symm
theorem pr_second {M M2 : Mm} {x z : Int} (h : Rl M) (hx : xscR (secM M x) x z M2) : z = secA M x ∧ Rl M2 := by
  have hm := h.m
  have hl := h.1.l
  unfold secM at hx
  unfold secA
  by_cases c : HS M x
  · rw [if_neg (not_not_intro c)] at hx ⊢
    have kS : KQ M (seT M x) := KQ.sc (fun a ha => seT_o x a (by omega))
    have toX : ∀ {M1 : Mm}, KQ M M1 → HX M1 x := fun {M1} k => by
      show 0 ≤ x ∧ x ≤ M1 77 10 - 1
      rw [k.s (b := 10) (by decide), hm.1]
      have := c.1
      have := c.2
      omega
    have kf : ∀ {M1 T U : Mm} {p : Int}, LX M1 (sP M1) T → LX (fcP T (((allN (M1 77 12) : Nat) : Int) + 1)) p U → KQ M1 U ∧ ∀ a, a ≤ 76 ∨ a = 93 → U a = M1 a := fun {M1 T U p} hT hU =>
      ⟨hT.kq.trans ((KQ.x (fun a _ _ h3 => fcP_off T _ (by omega)) (fun b _ => by rw [fcP_off T _ (by decide)])).trans hU.kq), fun a ha => by rw [hU.f a ha, fcP_off T _ (by omega), hT.f a ha]⟩
    by_cases c1 : secV M x = -9
    · rw [if_pos c1] at hx
      unfold xscR at hx
      rcases hx with ⟨q, _⟩ | ⟨_, T, U, hT, hU, hz⟩
      · exact absurd (toX kS) q
      · have w := h.two kS c hT hU
        have kk := kf hT hU
        have u77 : U 77 = seT M x 77 := by rw [hU.e, fcP_off T _ (by decide), hT.e]
        rcases hz with ⟨_, z1, e⟩ | ⟨q, _⟩
        · rw [e]
          exact ⟨by rw [z1, c1], h.ask0 (seT_o x) (h.1.se x) kk.1 kk.2 (by rw [u77])⟩
        · exfalso
          rcases w with w | w
          · exact q w.1
          · exact w.2.1 c1
    · rw [if_neg c1] at hx
      generalize hv : (if secP M x = -9 then secV M x else secV M x - wsM (seT M x) (secP M x)) = v at hx
      have k1 : KQ M (tdM (seT M x) v) := kS.trans (KQ.td _ _)
      unfold xscR at hx
      rcases hx with ⟨q, _⟩ | ⟨_, T, U, hT, hU, hz⟩
      · exact absurd (toX k1) q
      · have w := h.two k1 c hT hU
        have kk := kf hT hU
        rcases hz with ⟨q, _⟩ | ⟨q, z1, e⟩
        · exfalso
          rcases w with w | w
          · exact c1 w.2
          · exact w.1 q
        · rcases w with w | w
          · exact absurd w.1 q
          · have zv : z = secV M x := z1.trans w.2.2.symm
            refine ⟨zv, ?_⟩
            have ev : z - (if boX (tdM (seT M x) v) T (mKx (tdM (seT M x) v) 1) 0 = -9 then 0 else wsB (jbR (tdM (seT M x) v)) (tdM (seT M x) v 77 12).toNat (boX (tdM (seT M x) v) T (mKx (tdM (seT M x) v) 1) 0).toNat) = v := by
              rw [h.bst2 k1 hT x, k1.jb, k1.n, hm.2.1, zv, ← hv]
              by_cases y : secP M x = -9
              · rw [if_pos y, if_pos y]
                omega
              · rw [if_neg y, if_neg y]
                have hb : 0 ≤ secP M x := by
                  rcases bpM_v (seT M x) ((allN (M 23 4) : Nat) : Int) ((bitsK M 1 : Nat) : Int) with u | u
                  · exact absurd u y
                  · exact u.1
                have e1 := h.ws (secP M x).toNat
                rw [hm.2.1, Int.toNat_of_nonneg hb, ← wsM_eq (seT_J x)] at e1
                rw [e1]
            rw [e, ev]
            exact h.ask1 (seT_o x) (h.1.se x) kk.1 kk.2
  · rw [if_pos c] at hx ⊢
    unfold xscR at hx
    rcases hx with ⟨_, hz, e⟩ | ⟨q, _⟩
    · rw [e]
      exact ⟨hz, h⟩
    · exfalso
      apply c
      have := q.1
      have := q.2
      exact ⟨by omega, by omega⟩
theorem two_J {M M1 : Mm} (h : Rl M) (k : KQ M M1) {i j : Int} (hi : NS M i) (hj : NS M j) (hne : ¬ i = j) (hlen : M (27 + (min i j).toNat) 4 = M (27 + (max i j).toNat) 4) : JE (twJ M i j) (jbR (twX M1 (min i j) (max i j))) (M 23 4).toNat := by
  have hl := h.1.l
  have ha0 : NS M (min i j) := by omega
  have hb0 : NS M (max i j) := by omega
  have e5 : M1 85 = M 85 := k.r (by decide)
  have e4 : M1 84 = M 84 := k.r (by decide)
  generalize hA : min i j = a at *
  generalize hB : max i j = b at *
  have nd := fun (x : Int) (hx : NS M x) (m : Nat) (hm : m < 6) => h.nd hx hm
  have nA1 : ∀ x y, nA M1 x y = nA M x y := fun x y => nA_off e5 x y
  have aN : ((a.toNat : Nat) : Int) = a := Int.toNat_of_nonneg ha0.1
  -- the joined need's words
  have tx : ∀ (t : Nat) (m : Nat), m < 6 → nA (twX M1 a b) (t : Int) (m : Int) = if t = a.toNat ∧ m = 0 then (if muP M1 a b then 1 else 0) else if t = a.toNat ∧ m = 2 then max (nA M a 2) (nA M b 2) else if t = a.toNat ∧ m = 3 then min (nA M a 3) (nA M b 3) else if t = a.toNat ∧ m = 5 then nA M a 5 + nA M b 5 else nA M (t : Int) (m : Int) := by
    intro t m hm
    have eN : ∀ z : Int, nA (twX M1 a b) (t : Int) (m : Int) = twX M1 a b 85 (6 * t + m) := fun _ => by
      unfold nA
      rw [show (6 * (t : Int) + (m : Int)).toNat = 6 * t + m by omega]
    rw [eN 0]
    unfold twX tw3 tw2 tw1 stM
    simp only [true_and]
    rw [nA1, nA1, nA1, nA1, nA1, nA1]
    have k85 : ktP M1 a 6 85 (6 * t + m) = nA M (t : Int) (m : Int) := by
      unfold ktP
      rw [if_neg (by omega), e5]
      unfold nA
      rw [show (6 * (t : Int) + (m : Int)).toNat = 6 * t + m by omega]
    rw [k85]
    by_cases q : t = a.toNat
    · by_cases z5 : m = 5
      · rw [if_pos (by omega), if_neg (by omega), if_neg (by omega), if_neg (by omega), if_pos (by omega)]
      · by_cases z3 : m = 3
        · rw [if_neg (by omega), if_pos (by omega), if_neg (by omega), if_neg (by omega), if_pos (by omega)]
        · by_cases z2 : m = 2
          · rw [if_neg (by omega), if_neg (by omega), if_pos (by omega), if_neg (by omega), if_pos (by omega)]
          · by_cases z0 : m = 0
            · rw [if_neg (by omega), if_neg (by omega), if_neg (by omega), if_pos (show 6 * t + m = (6 * a).toNat by omega), if_pos (show t = a.toNat ∧ m = 0 from ⟨q, z0⟩)]
            · rw [if_neg (by omega), if_neg (by omega), if_neg (by omega), if_neg (by omega), if_neg (by omega), if_neg (by omega), if_neg (by omega), if_neg (by omega)]
    · have q5 : ¬ (6 * t + m = (6 * a + 5).toNat) := by omega
      have q3 : ¬ (6 * t + m = (6 * a + 3).toNat) := by omega
      have q2 : ¬ (6 * t + m = (6 * a + 2).toNat) := by omega
      have q0 : ¬ (6 * t + m = (6 * a).toNat) := by omega
      simp only [q5, q3, q2, q0, q, if_false, false_and]
  have e84 : twX M1 a b 84 = M 84 := by
    unfold twX tw3 tw2 tw1
    rw [stM_off (by decide), stM_off (by decide), stM_off (by decide), stM_off (by decide)]
    funext c
    unfold ktP
    rw [if_neg (by omega), e4]
  have n5 : twJ M i j 48 5 = M 23 4 := by
    unfold twJ jnM
    rw [hA, hB, ldM_5, if_pos ha0, stM_off (by decide), stM_off (by decide), stM_off (by decide), ldM_5]
  have t0 := fun t => tx t 0 (by decide)
  have t1 := fun t => tx t 1 (by decide)
  have t2 := fun t => tx t 2 (by decide)
  have t3 := fun t => tx t 3 (by decide)
  have t4 := fun t => tx t 4 (by decide)
  have t5 := fun t => tx t 5 (by decide)
  simp only [show ((0 : Nat) : Int) = 0 from rfl, show ((1 : Nat) : Int) = 1 from rfl, show ((2 : Nat) : Int) = 2 from rfl, show ((3 : Nat) : Int) = 3 from rfl, show ((4 : Nat) : Int) = 4 from rfl, show ((5 : Nat) : Int) = 5 from rfl, and_true, and_false, if_false, show ¬ (0 : Nat) = 2 from by decide, show ¬ (0 : Nat) = 3 from by decide, show ¬ (0 : Nat) = 5 from by decide, show ¬ (1 : Nat) = 0 from by decide, show ¬ (1 : Nat) = 2 from by decide, show ¬ (1 : Nat) = 3 from by decide, show ¬ (1 : Nat) = 5 from by decide, show ¬ (2 : Nat) = 0 from by decide, show ¬ (2 : Nat) = 3 from by decide, show ¬ (2 : Nat) = 5 from by decide, show ¬ (3 : Nat) = 0 from by decide, show ¬ (3 : Nat) = 2 from by decide, show ¬ (3 : Nat) = 5 from by decide, show ¬ (4 : Nat) = 0 from by decide, show ¬ (4 : Nat) = 2 from by decide, show ¬ (4 : Nat) = 3 from by decide, show ¬ (4 : Nat) = 5 from by decide, show ¬ (5 : Nat) = 0 from by decide, show ¬ (5 : Nat) = 2 from by decide, show ¬ (5 : Nat) = 3 from by decide] at t0 t1 t2 t3 t4 t5
  have hRV := h.2.2.2.1.1.1
  have bnd := fun (x : Int) (hx : NS M x) => nA_b hRV (i := x) ⟨hx.1, by have := hx.2; omega⟩
  have h9 := fun (x : Int) (hx : NS M x) => h.2.2.2.1.2.2.2 x.toNat (by have := hx.1; have := hx.2; omega)
  have n9 : ∀ x : Int, NS M x → nA M x 5 ≤ 9 := fun x hx => by
    have := h9 x hx
    unfold nA
    rw [show (6 * x + 5).toNat = 6 * x.toNat + 5 by have := hx.1; omega]
    exact this
  -- what stands of the joined one, and of the others
  have jA : jbR (twX M1 a b) a.toNat 0 = jbR M a.toNat 0 ∧ jbR (twX M1 a b) a.toNat 1 = max (nA M a 2) (nA M b 2) ∧ jbR (twX M1 a b) a.toNat 2 = min (nA M a 3) (nA M b 3) - nA M a 4 + 1 ∧ jbR (twX M1 a b) a.toNat 3 = jbR M a.toNat 3 ∧ jbR (twX M1 a b) a.toNat 4 = nA M a 5 + nA M b 5 := by
    refine ⟨?_, ?_, ?_, ?_, ?_⟩
    · show twX M1 a b 84 (nA (twX M1 a b) ((a.toNat : Nat) : Int) 1).toNat = M 84 (nA M ((a.toNat : Nat) : Int) 1).toNat
      rw [t1, e84]
    · show nA (twX M1 a b) ((a.toNat : Nat) : Int) 2 = _
      rw [t2, if_pos rfl]
    · show ltB (nA (twX M1 a b) ((a.toNat : Nat) : Int) 0) (nA (twX M1 a b) ((a.toNat : Nat) : Int) 2) (nA (twX M1 a b) ((a.toNat : Nat) : Int) 3) (nA (twX M1 a b) ((a.toNat : Nat) : Int) 4) = _
      rw [t0, t2, t3, t4, if_pos rfl, if_pos rfl, if_pos rfl, aN]
      unfold ltB
      rw [if_neg (by split <;> omega), if_neg (by split <;> omega)]
    · show nA (twX M1 a b) ((a.toNat : Nat) : Int) 4 = nA M ((a.toNat : Nat) : Int) 4
      rw [t4]
    · show nA (twX M1 a b) ((a.toNat : Nat) : Int) 5 = _
      rw [t5, if_pos rfl]
  have jO : ∀ t, ¬ t = a.toNat → ∀ m, jbR (twX M1 a b) t m = jbR M t m := by
    intro t ht m
    unfold jbR
    rw [t1, t2, t0, t3, t4, t5, if_neg ht, if_neg ht, if_neg ht, if_neg ht, e84]
  -- the class's joined jobs
  have hjb := fun (t : Nat) (ht : (t : Int) < M 23 4) => h.jb ht
  have lA := hjb a.toNat (by have := ha0.2; omega)
  have v : ∀ x t, 49 ≤ x → x ≤ 53 → twJ M i j x t = if t = a.toNat ∧ x = 50 then max (nA M a 2) (nA M b 2) else if t = a.toNat ∧ x = 51 then min (nA M a 3) (nA M b 3) - nA M a 4 + 1 else if t = a.toNat ∧ x = 53 then nA M a 5 + nA M b 5 else ldM M x t := by
    intro x t h1 h2
    have q2 : nA M a 2 = M (27 + a.toNat) 2 := nd a ha0 2 (by decide)
    have q3 : nA M a 3 = M (27 + a.toNat) 3 := nd a ha0 3 (by decide)
    have q4 : nA M a 4 = M (27 + a.toNat) 4 := nd a ha0 4 (by decide)
    have q5 : nA M a 5 = M (27 + a.toNat) 5 := nd a ha0 5 (by decide)
    have r2 : nA M b 2 = M (27 + b.toNat) 2 := nd b hb0 2 (by decide)
    have r3 : nA M b 3 = M (27 + b.toNat) 3 := nd b hb0 3 (by decide)
    have r5 : nA M b 5 = M (27 + b.toNat) 5 := nd b hb0 5 (by decide)
    have l : ∀ y z, 23 ≤ y → y ≤ 34 → ldM M y z = M y z := fun y z _ _ => by rw [ldM_off (by omega)]
    rw [q2, q3, q4, q5, r2, r3, r5]
    unfold twJ jnM
    rw [hA, hB, ldM_5, if_pos ha0, l _ _ (by omega) (by omega), l _ _ (by omega) (by omega), l _ _ (by omega) (by omega), l _ _ (by omega) (by omega), l _ _ (by omega) (by omega), l _ _ (by omega) (by omega), l _ _ (by omega) (by omega)]
    by_cases z : t = a.toNat
    · by_cases y1 : x = 50
      · subst y1
        rw [if_pos ⟨z, rfl⟩, stM_off (by decide), stM_off (by decide), z, stM_at]
      · by_cases y2 : x = 51
        · subst y2
          rw [if_neg (by omega), if_pos ⟨z, rfl⟩, stM_off (by decide), z, stM_at]
        · by_cases y3 : x = 53
          · subst y3
            rw [if_neg (by omega), if_neg (by omega), if_pos ⟨z, rfl⟩, z, stM_at]
          · rw [if_neg (by omega), if_neg (by omega), if_neg (by omega), stM_ne _ _ (by omega), stM_ne _ _ (by omega), stM_ne _ _ (by omega)]
    · rw [if_neg (by omega), if_neg (by omega), if_neg (by omega), stM_ne _ _ (by omega), stM_ne _ _ (by omega), stM_ne _ _ (by omega)]
  have hb2 := bnd a ha0
  have hb3 := bnd b hb0
  have ok : JOK (jbR (twX M1 a b)) := by
    have ok0 := jbR_ok hRV
    intro t ht
    have o := ok0 t ht
    by_cases q : t = a.toNat
    · subst q
      rw [jA.1, jA.2.1, jA.2.2.1, jA.2.2.2.1, jA.2.2.2.2]
      have q3 : jbR M a.toNat 3 = nA M a 4 := by
        show nA M ((a.toNat : Nat) : Int) 4 = nA M a 4
        rw [aN]
      have s9 := n9 a ha0
      have s92 := n9 b hb0
      rw [q3] at o ⊢
      omega
    · rw [jO t q, jO t q, jO t q, jO t q, jO t q]
      exact o
  refine ⟨⟨by rw [n5]; omega, by omega, ok⟩, fun t ht => ?_⟩
  have htn : (t : Int) < M 23 4 := by omega
  have lt := hjb t htn
  have c : 0 ≤ (t : Int) ∧ (t : Int) < M 23 4 := ⟨by omega, htn⟩
  by_cases q : t = a.toNat
  · have f1 : jbR (twX M1 a b) t 0 = twJ M i j 49 t := by rw [q, jA.1, lA.1, v 49 _ (by decide) (by decide), if_neg (by omega), if_neg (by omega), if_neg (by omega)]
    have f2 : jbR (twX M1 a b) t 1 = twJ M i j 50 t := by rw [q, jA.2.1, v 50 _ (by decide) (by decide), if_pos ⟨rfl, rfl⟩]
    have f3 : jbR (twX M1 a b) t 2 = twJ M i j 51 t := by rw [q, jA.2.2.1, v 51 _ (by decide) (by decide), if_neg (by omega), if_pos ⟨rfl, rfl⟩]
    have f4 : jbR (twX M1 a b) t 3 = twJ M i j 52 t := by rw [q, jA.2.2.2.1, lA.2.2.2.1, v 52 _ (by decide) (by decide), if_neg (by omega), if_neg (by omega), if_neg (by omega)]
    have f5 : jbR (twX M1 a b) t 4 = twJ M i j 53 t := by rw [q, jA.2.2.2.2, v 53 _ (by decide) (by decide), if_neg (by omega), if_neg (by omega), if_pos ⟨rfl, rfl⟩]
    refine ⟨fun p f => ?_, ?_, f5.symm⟩
    · unfold endJ enB bgJ bgB
      rw [n5, if_pos c, Int.toNat_natCast, f1, f2, f3, f4]
    · unfold plJ
      rw [n5, if_pos c, Int.toNat_natCast, f1]
  · have w : ∀ x, 49 ≤ x → x ≤ 53 → twJ M i j x t = ldM M x t := fun x h1 h2 => by rw [v x t h1 h2, if_neg (by omega), if_neg (by omega), if_neg (by omega)]
    have f1 : jbR (twX M1 a b) t 0 = twJ M i j 49 t := by rw [jO t q, lt.1, w 49 (by decide) (by decide)]
    have f2 : jbR (twX M1 a b) t 1 = twJ M i j 50 t := by rw [jO t q, lt.2.1, w 50 (by decide) (by decide)]
    have f3 : jbR (twX M1 a b) t 2 = twJ M i j 51 t := by rw [jO t q, lt.2.2.1, w 51 (by decide) (by decide)]
    have f4 : jbR (twX M1 a b) t 3 = twJ M i j 52 t := by rw [jO t q, lt.2.2.2.1, w 52 (by decide) (by decide)]
    have f5 : jbR (twX M1 a b) t 4 = twJ M i j 53 t := by rw [jO t q, lt.2.2.2.2, w 53 (by decide) (by decide)]
    refine ⟨fun p f => ?_, ?_, f5.symm⟩
    · unfold endJ enB bgJ bgB
      rw [n5, if_pos c, Int.toNat_natCast, f1, f2, f3, f4]
    · unfold plJ
      rw [n5, if_pos c, Int.toNat_natCast, f1]
