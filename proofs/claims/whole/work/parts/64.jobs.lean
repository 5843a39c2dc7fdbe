theorem ldM_v {M : Mm} {a i : Nat} (ha : 49 ≤ a ∧ a ≤ 53) (hi : (i : Int) < M 23 4) : ldM M a i = jv M a i := by
  unfold ldM ldP
  rw [if_neg (by omega), if_pos ⟨ha, hi⟩]
theorem ldM_5 (M : Mm) : ldM M 48 5 = M 23 4 := by
  unfold ldM ldP
  rw [if_pos ⟨rfl, rfl⟩]
/-- both sides make the same jobs -/
theorem Rl.jb {M : Mm} (h : Rl M) {i : Nat} (hi : (i : Int) < M 23 4) : jbR M i 0 = ldM M 49 i ∧ jbR M i 1 = ldM M 50 i ∧ jbR M i 2 = ldM M 51 i ∧ jbR M i 3 = ldM M 52 i ∧ jbR M i 4 = ldM M 53 i := by
  have hl := h.1.l
  have hs : NS M (i : Int) := ⟨by omega, hi⟩
  have hn := fun (j : Nat) (hj : j < 6) => h.nd hs hj
  have n0 := hn 0 (by decide)
  have n1 := hn 1 (by decide)
  have n2 := hn 2 (by decide)
  have n3 := hn 3 (by decide)
  have n4 := hn 4 (by decide)
  have n5 := hn 5 (by decide)
  simp only [show ((0 : Nat) : Int) = 0 from rfl, show ((1 : Nat) : Int) = 1 from rfl, show ((2 : Nat) : Int) = 2 from rfl, show ((3 : Nat) : Int) = 3 from rfl, show ((4 : Nat) : Int) = 4 from rfl, show ((5 : Nat) : Int) = 5 from rfl, Int.toNat_natCast] at n0 n1 n2 n3 n4 n5
  have hh := (h.2.1.2.2.2.2.1 i hi).2.2
  have hb := (h.1.nd.2 i (by omega)).2.1.1
  have hp := h.pl (q := M (27 + i) 1) ⟨hb, hh⟩
  rw [ldM_v (by decide) hi, ldM_v (by decide) hi, ldM_v (by decide) hi, ldM_v (by decide) hi, ldM_v (by decide) hi]
  refine ⟨?_, ?_, ?_, ?_, ?_⟩
  · show M 84 (nA M (i : Int) 1).toNat = plc M 23 (M (27 + i) 1)
    rw [n1]
    exact hp
  · exact n2
  · show ltB (nA M (i : Int) 0) (nA M (i : Int) 2) (nA M (i : Int) 3) (nA M (i : Int) 4) = ltB (M (27 + i) 0) (M (27 + i) 2) (M (27 + i) 3) (M (27 + i) 4)
    rw [n0, n2, n3, n4]
  · exact n4
  · exact n5
theorem Rl.en {M : Mm} (h : Rl M) {i : Nat} (hi : (i : Int) < M 23 4) (p f : Int) : enB (jbR M) i p f = endJ (ldM M) (i : Int) p f := by
  have j := h.jb hi
  have c : 0 ≤ (i : Int) ∧ (i : Int) < M 23 4 := ⟨by omega, hi⟩
  unfold endJ enB bgJ bgB
  rw [ldM_5, Int.toNat_natCast, j.1, j.2.1, j.2.2.1, j.2.2.2.1]
  exact (if_pos c).symm
theorem Rl.ws {M : Mm} (h : Rl M) (s : Nat) : wsB (jbR M) (M 77 12).toNat s = wsM (ldM M) (s : Int) := by
  unfold wsB wsM
  rw [ldM_5, h.m.2.1, Int.toNat_natCast]
  refine smZ_eq (fun i hi => ?_)
  rw [(h.jb (i := i) (by omega)).2.2.2.2]
