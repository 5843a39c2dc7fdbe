theorem wap_comm (a b : Int) : wap a b = wap b a := by
  unfold wap
  (repeat' split) <;> omega
theorem two_mu {M M1 : Mm} (h : Rl M) (k : KQ M M1) {a b : Int} (ha : NS M a) (hb : NS M b) : twU M1 a b = twD M b a := by
  have hl := h.1.l
  have e5 : M1 85 = M 85 := k.r (by decide)
  have na : nA M1 a 0 = M (27 + a.toNat) 0 := by rw [nA_off e5]; exact h.nd ha (k := 0) (by decide)
  have nb : nA M1 b 0 = M (27 + b.toNat) 0 := by rw [nA_off e5]; exact h.nd hb (k := 0) (by decide)
  unfold twU twD
  rw [h.k5 k, bitN_in ⟨ha.1, by have := ha.2; omega⟩, bitN_in ⟨hb.1, by have := hb.2; omega⟩]
  have bit : ∀ x : Int, NS M x → (bitsK M 1).testBit x.toNat = decide (isAK (M (27 + x.toNat) 0) 1) := fun x hx => by
    unfold bitsK
    rw [bsum_bit]
    unfold kdB
    have : x.toNat < (M 23 4).toNat := by have := hx.1; have := hx.2; omega
    simp [this]
  have mu : muP M1 a b ↔ (bitsK M 1).testBit a.toNat = true ∨ (bitsK M 1).testBit b.toNat = true := by
    rw [bit a ha, bit b hb, decide_eq_true_iff, decide_eq_true_iff]
    show muB M1 a b = true ↔ _
    unfold muB
    rw [na, nb, decide_eq_true_iff]
  generalize bitsK M 1 = m at *
  have z0 : m &&& 2 ^ b.toNat = 0 ↔ ¬ m.testBit b.toNat = true := by
    constructor
    · intro z y
      have := congrArg (fun x => x.testBit b.toNat) z
      simp only [Nat.testBit_and, Nat.zero_testBit, p2_bit, y] at this
      simp at this
    · intro z
      apply Nat.eq_of_testBit_eq
      intro j
      rw [Nat.testBit_and, p2_bit, Nat.zero_testBit]
      by_cases y : b.toNat = j
      · rw [← y]
        simp [z]
      · simp [y]
  by_cases q : m.testBit b.toNat = true
  · rw [if_neg (fun z => z0.mp z q), if_pos (mu.mpr (Or.inr q))]
  · rw [if_pos (z0.mpr q)]
    apply Nat.eq_of_testBit_eq
    intro j
    by_cases y : m.testBit a.toNat = true
    · rw [if_pos (mu.mpr (Or.inl y)), Nat.testBit_or, ndN_bit, p2_bit, p2_bit]
      by_cases y1 : a.toNat = j
      · rw [← y1, y]
        simp
      · by_cases y2 : b.toNat = j
        · rw [← y2]
          simp at q
          simp [q]
          intro y3
          omega
        · simp [y1, y2]
    · rw [if_neg (fun z => (mu.mp z).elim y q), Nat.testBit_or, ndN_bit, p2_bit]
      by_cases y2 : b.toNat = j
      · rw [← y2]
        simp at q
        simp [q]
      · simp [y2]
theorem CI.tt {M : Mm} (h : CI M) {i j : Int} (hi : NS M i) (hj : NS M j) (hne : ¬ i = j) (hlen : M (27 + (min i j).toNat) 4 = M (27 + (max i j).toNat) 4) : CI (twoT M i j) := (h.tj hi hj hne hlen).rc h.sp (Or.inr (by omega))
theorem pr_two {M M2 : Mm} {i j z : Int} (h : Rl M) (hx : xtwR (twoM M i j) i j z M2) : z = twoA M i j ∧ Rl M2 := by
  have hm := h.m
  have hl := h.1.l
  unfold twoM at hx
  unfold twoA
  by_cases c : ¬ NS M i ∨ ¬ NS M j ∨ i = j
  · rw [if_pos c] at hx ⊢
    have c2 : ¬ NX M i ∨ ¬ NX M j ∨ i = j := by omega
    rcases hx with ⟨_, hz, e⟩ | ⟨q, _⟩ | ⟨q, _⟩
    · rw [e]
      exact ⟨hz, h⟩
    · exfalso; omega
    · exfalso; omega
  · rw [if_neg c] at hx ⊢
    have ci : NS M i := by omega
    have cj : NS M j := by omega
    have cne : ¬ i = j := by omega
    have hcar : ∀ M1, KQ M M1 → ((¬ nA M1 i 4 = nA M1 j 4 ∨ ¬ wap (M1 84 (nA M1 i 1).toNat) (M1 84 (nA M1 j 1).toNat) = 0) ↔ twB M i j) := by
      intro M1 k
      have e5 : M1 85 = M 85 := k.r (by decide)
      have pl : ∀ x : Int, NS M x → M1 84 (nA M1 x 1).toNat = plc M 23 (M (27 + x.toNat) 1) := fun x hx => by
        have n1 : nA M x 1 = M (27 + x.toNat) 1 := h.nd hx (k := 1) (by decide)
        have hh := (h.2.1.2.2.2.2.1 x.toNat (by have := hx.1; have := hx.2; omega)).2.2
        have hb := (h.1.nd.2 x.toNat (by have := hx.1; have := hx.2; omega)).2.1.1
        rw [nA_off e5, n1, k.r (a := 84) (by decide)]
        exact h.pl ⟨hb, hh⟩
      have n4 : ∀ x : Int, NS M x → nA M1 x 4 = M (27 + x.toNat) 4 := fun x hx => by
        rw [nA_off e5]
        exact h.nd hx (k := 4) (by decide)
      rw [pl i ci, pl j cj, n4 i ci, n4 j cj]
      show _ ↔ (¬ M (27 + (min i j).toNat) 4 = M (27 + (max i j).toNat) 4 ∨ ¬ wap (plc M 23 (M (27 + (min i j).toNat) 1)) (plc M 23 (M (27 + (max i j).toNat) 1)) = 0)
      by_cases q : i ≤ j
      · rw [show min i j = i by omega, show max i j = j by omega]
      · rw [show min i j = j by omega, show max i j = i by omega, wap_comm (plc M 23 (M (27 + j.toNat) 1))]
        constructor
        · rintro (y | y)
          · exact Or.inl (fun u => y u.symm)
          · exact Or.inr y
        · rintro (y | y)
          · exact Or.inl (fun u => y u.symm)
          · exact Or.inr y
    by_cases c3 : twB M i j
    · rw [if_pos c3] at hx ⊢
      have w := hcar M (KQ.refl M)
      rcases hx with ⟨q, _⟩ | ⟨_, _, hz, e⟩ | ⟨_, q, _⟩
      · exfalso; omega
      · rw [e]
        exact ⟨hz, h⟩
      · exfalso
        have := w.mpr c3
        omega
    · rw [if_neg c3] at hx ⊢
      have hlen : M (27 + (min i j).toNat) 4 = M (27 + (max i j).toNat) 4 := by
        by_cases y : M (27 + (min i j).toNat) 4 = M (27 + (max i j).toNat) 4
        · exact y
        · exact absurd (Or.inl y) c3
      have eT : ∀ a, a < 48 ∨ 62 < a → twoT M i j a = M a := fun a ha => by
        unfold twoT
        rw [rcM_off _ _ _ _ (by omega) (by omega), twJ_off _ _ _ (by omega)]
      have k1 : KQ M (twoT M i j) := KQ.sc (fun a ha => eT a (by omega))
      have w := hcar _ k1
      have hJ := two_J h k1 ci cj cne hlen
      have hMu := two_mu h k1 (a := min i j) (b := max i j) (by omega) (by omega)
      have hC := h.1.tt ci cj cne hlen
      rcases hx with ⟨q, _⟩ | ⟨_, q, _⟩ | ⟨_, _, T, hL, hz, hf⟩
      · exfalso
        have h1 : twoT M i j 77 12 = M 23 4 := by rw [k1.n, hm.2.1]
        have ni : NX (twoT M i j) i := by
          show 0 ≤ i ∧ i ≤ twoT M i j 77 12 - 1
          omega
        have nj : NX (twoT M i j) j := by
          show 0 ≤ j ∧ j ≤ twoT M i j 77 12 - 1
          omega
        omega
      · exact absurd (w.mp q) c3
      · have ha0 : NS M (min i j) := by omega
        have hb0 : NS M (max i j) := by omega
        have hb8 : bitN (max i j) = 2 ^ (max i j).toNat := bitN_in ⟨hb0.1, by have := hb0.2; omega⟩
        have n12 : twX (twoT M i j) (min i j) (max i j) 77 12 = M 23 4 := by
          have : twX (twoT M i j) (min i j) (max i j) 77 = twoT M i j 77 := by
            unfold twX tw3 tw2 tw1
            rw [stM_off (by decide), stM_off (by decide), stM_off (by decide), stM_off (by decide)]
            funext x
            unfold ktP
            rw [if_neg (by omega)]
          rw [this, k1.n, hm.2.1]
        have hq : ∀ t, t < 2 ^ (M 23 4).toNat → LQ (jbR (twX (twoT M i j) (min i j) (max i j))) (stp M) (M 23 4).toNat (T 91) (T 92) t := fun t ht => by
          have := (hL.2 t (by rw [n12, allN_lt]; exact ht)).1
          rw [n12] at this
          refine LQ_p ?_ this
          right
          rw [k1.sp, h.sp (by have := ci.1; have := ci.2; omega)]
        have d := dp_eq hJ (w := ((ndN (allN (M 23 4)) (bitN (max i j)) : Nat) : Int)) h.1.sp hq
        have hal : ndN (allN (M 23 4)) (bitN (max i j)) < 2 ^ (M 23 4).toNat := by
          rw [← allN_lt]
          exact ndN_le _ _
        have hJT : JE (twoT M i j) (jbR (twX (twoT M i j) (min i j) (max i j))) (M 23 4).toNat := hJ.of (fun a h1 h2 => by unfold twoT; exact rcM_off _ _ _ _ (by omega) (by omega))
        have hws : ∀ s : Nat, wsM (twoT M i j) (s : Int) = wsB (jbR (twX (twoT M i j) (min i j) (max i j))) (M 23 4).toNat s := fun s => by
          unfold wsM wsB
          rw [hJT.1.1, Int.toNat_natCast, Int.toNat_natCast]
          refine smZ_eq (fun t ht => ?_)
          rw [(hJT.2 t ht).2.2]
        have hbo : twZ (twoT M i j) T (min i j) (max i j) = twP2 M i j := by
          unfold twZ boX twP2 bpM
          rw [n12, hMu]
          have b := (bp_bo (T := twoT M i j) (E := T 92) (al := ndN (allN (M 23 4)) (bitN (max i j))) (du := twD M (max i j) (min i j)) (mu := twD M (max i j) (min i j)) (ba := 2 ^ (max i j).toNat) hws (fun s => (wsB_b hJT.1.2.2 hJT.1.2.1 s).1) (fun s hs => by
            have hbar := and_bar (n := (M 23 4).toNat) (k := s) (al := ndN (allN (M 23 4)) (bitN (max i j))) (ba := 2 ^ (max i j).toNat) hs (fun x hx => by
              rw [ndN_bit, hb8]
              unfold allN
              rw [bsum_bit]
              simp [hx])
            have ds := d s hs
            rw [Int.toNat_natCast] at ds
            rw [and_must, hbar]
            constructor
            · rintro ⟨h1, h2, h3⟩
              refine ⟨?_, h2, h1⟩
              by_cases y : T 92 s < 1000
              · exact y
              · exact absurd ((ds.2.2 h1).2.trans ((e9_no ds.2.1).mpr y)) h3
            · rintro ⟨h1, h2, h3⟩
              refine ⟨h3, h2, fun y => ?_⟩
              have y2 : e9 (T 92 s) = -9 := (ds.2.2 h3).2.symm.trans y
              exact (e9_no ds.2.1).mp y2 h1) (2 ^ (M 23 4).toNat) (Nat.le_refl _)).1
          have hp := p2_256 (n := (M 23 4).toNat) (by omega)
          have hpos := Nat.two_pow_pos (M 23 4).toNat
          have e := bpF_end (T := twoT M i j) (du := twD M (max i j) (min i j)) hal (256 - 2 ^ (M 23 4).toNat)
          rw [show 2 ^ (M 23 4).toNat + (256 - 2 ^ (M 23 4).toNat) = 256 by omega] at e
          rw [Int.toNat_natCast, Int.toNat_natCast, e, b, allN_eq, show 2 ^ (M 23 4).toNat - 1 + 1 = 2 ^ (M 23 4).toNat by omega]
        rw [hbo] at hz
        have n12b : twoT M i j 77 12 = M 23 4 := by rw [k1.n, hm.2.1]
        refine ⟨?_, ?_⟩
        · rw [hz]
          by_cases y : twP2 M i j = -9
          · rw [if_pos y, if_pos y]
          · rw [if_neg y, if_neg y, n12b]
            have hb : 0 ≤ twP2 M i j := by
              rcases bpM_v (twoT M i j) ((ndN (allN (M 23 4)) (bitN (max i j)) : Nat) : Int) ((twD M (max i j) (min i j) : Nat) : Int) with u | u
              · exact absurd u y
              · exact u.1
            have := hws (twP2 M i j).toNat
            rw [Int.toNat_of_nonneg hb] at this
            exact this.symm
        · exact h.ask0 eT hC (KQ.x (fun a h1 h2 h3 => hf a (by omega) (by omega) (by omega)) (fun b _ => by rw [hf 77 (by decide) (by decide) (by decide)])) (fun a ha => hf a (by omega) (by omega) (by omega)) (by rw [hf 77 (by decide) (by decide) (by decide)])
