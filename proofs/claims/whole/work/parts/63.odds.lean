theorem Rl.ow {M : Mm} (h : Rl M) {s : Nat} : ∀ {k : Nat}, (k : Int) ≤ M 23 4 → xoW M s k = wyF M (s : Int) k
  | 0, _ => rfl
  | k + 1, hk => by
    have hl := h.1.l
    have hi : NS M (k : Int) := ⟨by omega, by omega⟩
    have n0 := h.nd hi (k := 0) (by decide)
    have nc := h.nc hi
    rw [show ((0 : Nat) : Int) = 0 from rfl, Int.toNat_natCast] at n0
    rw [Int.toNat_natCast] at nc
    rw [xoW, wyF, h.ow (k := k) (by omega), n0, nc]
    by_cases q : isAK (M (27 + k) 0) 2
    · rw [if_pos q, if_pos q]
      have e : inS (k : Int) (s : Int) ↔ s.testBit k = true := by
        unfold inS
        rw [Int.toNat_natCast, Int.toNat_natCast]
        exact ⟨fun z => z.2.2, fun z => ⟨by omega, by omega, z⟩⟩
      by_cases z : s.testBit k = true
      · rw [if_pos z, if_pos (e.mpr z)]
      · rw [if_neg z, if_neg (fun y => z (e.mp y))]
    · rw [if_neg q, if_neg q]
      omega
theorem Rl.oa {M : Mm} (h : Rl M) : ∀ {k : Nat}, (k : Int) ≤ M 23 4 → xoA M k = waF M k
  | 0, _ => rfl
  | k + 1, hk => by
    have hi : NS M (k : Int) := ⟨by omega, by omega⟩
    have n0 := h.nd hi (k := 0) (by decide)
    rw [show ((0 : Nat) : Int) = 0 from rfl, Int.toNat_natCast] at n0
    rw [xoA, waF, h.oa (k := k) (by omega), n0]
theorem Rl.cu {M : Mm} (h : Rl M) (s : Int) : xclU M s = clV M s := by
  have hl := h.1.l
  unfold xclU clV
  rw [h.m.2.1]
  refine bsum_congr (fun i hi => ?_)
  have hs : NS M (i : Int) := ⟨by omega, by omega⟩
  have n0 := h.nd hs (k := 0) (by decide)
  have nc := h.nc hs
  rw [show ((0 : Nat) : Int) = 0 from rfl, Int.toNat_natCast] at n0
  rw [Int.toNat_natCast] at nc
  unfold clX clB
  rw [n0, nc]
