theorem frM_off (M : Mm) (u l : Int) {a : Nat} (h : a ≠ 0) : frM M u l a = M a := by
  unfold frM
  split
  · rw [stM_off h, stM_off h]
  · rfl
theorem frM_c {W U : Mm} {u l : Int} {a : Nat} (e : W a = U a) : frM W u l a = frM U u l a := by
  unfold frM
  split
  · funext b
    unfold stM
    rw [e]
  · exact e
theorem xoW_off {M M2 : Mm} (h5 : M2 85 = M 85) (h6 : M2 86 = M 86) {s : Nat} : ∀ k, xoW M2 s k = xoW M s k
  | 0 => rfl
  | k + 1 => by rw [xoW, xoW, xoW_off h5 h6 k, nA_off h5, h6]
theorem xoA_off {M M2 : Mm} (h5 : M2 85 = M 85) : ∀ k, xoA M2 k = xoA M k
  | 0 => rfl
  | k + 1 => by rw [xoA, xoA, xoA_off h5 k, nA_off h5]
theorem wyF_off {T M : Mm} {s : Int} (e : ∀ a, 27 ≤ a → a ≤ 34 → T a = M a) : ∀ k, k ≤ 8 → wyF T s k = wyF M s k
  | 0, _ => rfl
  | k + 1, h => by rw [wyF, wyF, wyF_off e k (by omega), e (27 + k) (by omega) (by omega)]
theorem waF_off {T M : Mm} (e : ∀ a, 27 ≤ a → a ≤ 34 → T a = M a) : ∀ k, k ≤ 8 → waF T k = waF M k
  | 0, _ => rfl
  | k + 1, h => by rw [waF, waF, waF_off e k (by omega), e (27 + k) (by omega) (by omega)]
theorem ndN_or {k l m : Nat} (h : ndN k l = 0) : ndN (k ||| m) (l ||| m) = 0 := by
  rw [ndN_0] at h ⊢
  intro j hj
  rw [Nat.testBit_or] at hj ⊢
  cases hk : k.testBit j with
  | true => rw [h j hk]; rfl
  | false =>
    rw [hk] at hj
    simp at hj
    rw [hj]
    simp
theorem bK_lt {M : Mm} (k : Int) : bitsK M k < 2 ^ (M 23 4).toNat := bsum_lt _ _
theorem od_eq {M1 U : Mm} {E : Nat → Int} {l m : Nat} (hW : ∀ s : Nat, xoW M1 s (M1 77 12).toNat = wyF U (s : Int) (U 23 4).toNat) (hc : ∀ k, ndN k l = 0 → (U 59 (k ||| m) = -9 ↔ ¬ E (k ||| m) < 1000)) : ∀ k, odF U l m k = xoF M1 E l m k
  | 0 => rfl
  | k + 1 => by
    rw [odF, xoF, od_eq hW hc k, hW k]
    by_cases q : ndN k l = 0
    · have := hc k q
      by_cases q2 : E (k ||| m) < 1000
      · rw [if_pos ⟨q, fun z => this.mp z q2⟩, if_pos ⟨q, q2⟩]
      · rw [if_neg (fun z => z.2 (this.mpr q2)), if_neg (fun z => q2 z.2)]
    · rw [if_neg (fun z => q z.1), if_neg (fun z => q z.1)]
theorem od_end {U : Mm} {l m a : Nat} (h : l < a) : ∀ d, odF U l m (a + d) = odF U l m a
  | 0 => rfl
  | d + 1 => by
    rw [← Nat.add_assoc, odF, if_neg, od_end h d]
    intro z
    have := ndN_le2 z.1
    omega
theorem pr_odds {M M2 : Mm} {z : Int} (h : Rl M) (hx : xodT (oddM M) z M2) : z = 1 ∧ Rl M2 := by
  have hm := h.m
  have hl := h.1.l
  obtain ⟨hz, T, hL, e⟩ := hx
  refine ⟨hz, ?_⟩
  have eU : ∀ a, a < 48 ∨ 62 < a → odT M a = M a := gfA_o
  have e1 : ∀ a, a ≠ 0 → oddM M a = odT M a := fun a ha => frM_off _ _ _ ha
  have hJ : jbR (oddM M) = jbR M := jbR_off (by rw [e1 84 (by decide), eU 84 (by decide)]) (by rw [e1 85 (by decide), eU 85 (by decide)])
  have h77 : oddM M 77 = M 77 := by rw [e1 77 (by decide), eU 77 (by decide)]
  have hS : sP (oddM M) = sP M := by
    unfold sP
    rw [h77, e1 84 (by decide), eU 84 (by decide)]
  -- the reference's ends, as if behind odT alone
  have hL2 : LX (odT M) (sP (odT M)) (fun a => if a = 91 ∨ a = 92 then T a else odT M a) := by
    refine ⟨fun a h1 h2 => if_neg (by omega), ?_⟩
    have n0 : odT M 77 12 = oddM M 77 12 := by rw [e1 77 (by decide)]
    have j0 : jbR (odT M) = jbR (oddM M) := by rw [hJ]; exact jbR_off (eU 84 (by decide)) (eU 85 (by decide))
    have s0 : sP (odT M) = sP (oddM M) := by
      rw [hS]
      unfold sP
      rw [eU 84 (by decide), eU 77 (by decide)]
    rw [n0, j0, s0]
    simp only [show (91 : Nat) = 91 ∨ (91 : Nat) = 92 from by decide, show (92 : Nat) = 91 ∨ (92 : Nat) = 92 from by decide, if_true]
    exact hL.2
  have kU : KQ M (odT M) := KQ.sc (fun a ha => eU a (by omega))
  have hW : Rl (fun a => if a = 91 ∨ a = 92 then T a else odT M a) := h.ask0 eU h.1.gf hL2.kq hL2.f (by rw [hL2.e])
  have d := h.dp kU hL2 (((bitsK M 2 ||| bitsK M 1 : Nat) : Int))
  have m1 : mKx (oddM M) 1 = bitsK M 1 := by rw [mKx_off (by rw [e1 85 (by decide), eU 85 (by decide)]) (by rw [h77]), h.mk]
  have m2 : mKx (oddM M) 2 = bitsK M 2 := by rw [mKx_off (by rw [e1 85 (by decide), eU 85 (by decide)]) (by rw [h77]), h.mk]
  have e5 : oddM M 85 = M 85 := by rw [e1 85 (by decide), eU 85 (by decide)]
  have e6 : oddM M 86 = M 86 := by rw [e1 86 (by decide), eU 86 (by decide)]
  have w23 : odT M 23 4 = M 23 4 := by rw [eU 23 (by decide)]
  have hWq : ∀ s : Nat, xoW (oddM M) s (oddM M 77 12).toNat = wyF (odT M) (s : Int) (odT M 23 4).toNat := fun s => by
    rw [xoW_off e5 e6, h77, hm.2.1, w23, wyF_off (fun a h1 h2 => eU a (by omega)) _ (by omega), h.ow (by omega)]
  have hOd := od_eq (M1 := oddM M) (U := odT M) (E := T 92) (l := bitsK M 2) (m := bitsK M 1) hWq (fun k hk => by
    have h1 : k ≤ bitsK M 2 := ndN_le2 hk
    have b2 := bK_lt (M := M) 2
    have b1 := bK_lt (M := M) 1
    have dk := d (k ||| bitsK M 1) (Nat.or_lt_two_pow (by omega) b1)
    have e92 : (if (92 : Nat) = 91 ∨ (92 : Nat) = 92 then T 92 else odT M 92) = T 92 := if_pos (by decide)
    rw [e92] at dk
    have := dk.2 (by rw [Int.toNat_natCast]; exact ndN_or hk)
    unfold odT
    rw [this, e9_no dk.1])
  have hLo : xoA (oddM M) (oddM M 77 12).toNat = odL M := by
    unfold odL
    rw [xoA_off e5, h77, hm.2.1, waF_off (fun a h1 h2 => eU a (by omega)) _ (by omega), h.oa (by omega)]
  have hUo : xoF (oddM M) (T 92) (bitsK M 2) (bitsK M 1) (allN (M 23 4) + 1) = odU M := by
    rw [← hOd]
    unfold odU
    have b2 := bK_lt (M := M) 2
    have hp := Nat.two_pow_pos (M 23 4).toNat
    have := od_end (U := odT M) (m := bitsK M 1) (show bitsK M 2 < bitsK M 2 + 1 by omega) (allN (M 23 4) - bitsK M 2)
    rw [allN_eq] at this ⊢
    rw [show bitsK M 2 + 1 + (2 ^ (M 23 4).toNat - 1 - bitsK M 2) = 2 ^ (M 23 4).toNat - 1 + 1 by omega] at this
    exact this
  rw [h77, hm.2.1] at hLo
  rw [m1, m2, h77, hm.2.1, hLo, hUo] at e
  have hT : T = frM (fun a => if a = 91 ∨ a = 92 then T a else odT M a) (odU M) (odL M) := by
    funext a
    by_cases q : a = 91 ∨ a = 92
    · rw [frM_off _ _ _ (by omega), if_pos q]
    · rw [hL.1 a (by omega) (by omega)]
      unfold oddM
      exact (frM_c (if_neg q)).symm
  rw [e, hT]
  have hnd : NDA (odT M) := NDA_of2 (fun a h1 h2 => eU a (by omega)) h.1.nd
  have hl2 : LW (odT M) 23 := by unfold LW; rw [eU 23 (by decide)]; exact hl
  have hA := waF_b (odT M) (M 23 4).toNat (by omega)
  have h12 := pow12 (k := (M 23 4).toNat) (by omega)
  have hL0 : 1 ≤ odL M ∧ odL M ≤ 12 ^ (M 23 4).toNat := hA
  exact hW.frac (odF_b hl2 hnd _ _ _).1 ⟨by omega, by omega⟩
theorem xclU_off {M M2 : Mm} (h5 : M2 85 = M 85) (h6 : M2 86 = M 86) (h7 : M2 77 12 = M 77 12) (s : Int) : xclU M2 s = xclU M s ∧ xclB M2 s = xclB M s := by
  unfold xclU xclB
  rw [h7]
  refine ⟨bsum_congr (fun i _ => ?_), bsum_congr (fun i _ => ?_)⟩
  · unfold clX
    rw [nA_off h5, h6]
  · unfold clN
    rw [nA_off h5, h6]
theorem pr_call {M M2 : Mm} {s z : Int} (h : Rl M) (hx : xclR (calM M s) s z M2) : z = calA M s ∧ Rl M2 := by
  have hm := h.m
  have hl := h.1.l
  unfold calM at hx
  unfold calA
  by_cases c : s < 1 ∨ 2147483646 < s
  · rw [if_pos c] at hx ⊢
    rcases hx with ⟨_, hz, e⟩ | ⟨q, _⟩
    · rw [e]
      exact ⟨hz, h⟩
    · exfalso; omega
  · rw [if_neg c] at hx ⊢
    generalize hv : (if clP2 M s = -9 then -9 else wsM (clT M s) (clP2 M s)) = v at hx
    have eU : ∀ a, a < 48 ∨ 62 < a → clT M s a = M a := gfA_o
    have k1 : KQ M (tdM (clT M s) v) := (KQ.sc (fun a ha => eU a (by omega))).trans (KQ.td _ _)
    rcases hx with ⟨q, _⟩ | ⟨_, hz, T, hL, e⟩
    · exfalso; omega
    · have hO := xclU_off (k1.r (a := 85) (by decide)) (k1.r (a := 86) (by decide)) k1.n s
      rw [hO.1, h.cu] at hz
      refine ⟨hz, ?_⟩
      rw [hO.2, h.k5 k1, k1.jb, k1.n, hm.2.1] at e
      have d := h.dp k1 hL ((clW M s : Nat) : Int)
      have bitW : ∀ j, j < (M 23 4).toNat → (clW M s).testBit j = !(xclB M s).testBit j := by
        intro j hj
        have hs : NS M (j : Int) := ⟨by omega, by omega⟩
        have n0 := h.nd hs (k := 0) (by decide)
        have nc := h.nc hs
        rw [show ((0 : Nat) : Int) = 0 from rfl, Int.toNat_natCast] at n0
        rw [Int.toNat_natCast] at nc
        unfold clW clV xclB bitsK allN
        rw [hm.2.1, Nat.testBit_or, ndN_bit, bsum_bit, bsum_bit, bsum_bit, bsum_bit]
        unfold kdB clB clN
        rw [n0, nc]
        simp only [hj, decide_true, Bool.true_and]
        by_cases q1 : isAK (M (27 + j) 0) 2
        · by_cases q2 : nbF s (j + 1) % 12 < M (27 + j) 6
          · simp [q1, q2]
          · simp [q1, q2]
        · simp [q1]
      have hbo : boX (tdM (clT M s) v) T (bitsK M 1) (xclB M s) = clP2 M s := by
        unfold boX clP2
        rw [k1.jb, k1.n, hm.2.1]
        have := h.bp (T := clT M s) (E := T 92) (al := ((clW M s : Nat) : Int)) (du := ((bitsK M 1 : Nat) : Int)) (mu := ((bitsK M 1 : Nat) : Int)) (ba := ((xclB M s : Nat) : Int)) gfA_J (by
          rw [Int.toNat_natCast]
          unfold clW
          refine Nat.or_lt_two_pow ?_ (bsum_lt _ _)
          have := ndN_le (allN (M 23 4)) (bitsK M 2)
          rw [← allN_lt]
          exact this) (fun k hk => by
          rw [Int.toNat_natCast, Int.toNat_natCast, Int.toNat_natCast, and_must, and_bar hk bitW]
          have dk := d k hk
          rw [Int.toNat_natCast] at dk
          constructor
          · rintro ⟨h1, h2, h3⟩
            refine ⟨?_, h2, h1⟩
            by_cases q : T 92 k < 1000
            · exact q
            · exact absurd ((dk.2 h1).trans ((e9_no dk.1).mpr q)) h3
          · rintro ⟨h1, h2, h3⟩
            refine ⟨h3, h2, fun q => ?_⟩
            have q2 : e9 (T 92 k) = -9 := (dk.2 h3).symm.trans q
            exact (e9_no dk.1).mp q2 h1)
        rw [Int.toNat_natCast, Int.toNat_natCast] at this
        exact this.symm
      rw [hbo] at e
      have ev : (if clP2 M s = -9 then -9 else wsB (jbR M) (M 23 4).toNat (clP2 M s).toNat) = v := by
        rw [← hv]
        by_cases q : clP2 M s = -9
        · rw [if_pos q, if_pos q]
        · rw [if_neg q, if_neg q]
          have hb : 0 ≤ clP2 M s := by
            rcases bpM_v (clT M s) ((clW M s : Nat) : Int) ((bitsK M 1 : Nat) : Int) with y | y
            · exact absurd y q
            · exact y.1
          have := h.wsg ((clW M s : Nat) : Int) (clP2 M s).toNat
          rw [Int.toNat_of_nonneg hb] at this
          exact this.symm
      rw [e, ev]
      exact h.ask1 eU h.1.gf hL.kq hL.f
