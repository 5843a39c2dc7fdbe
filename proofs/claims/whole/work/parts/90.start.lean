/-- what both sides hold at the start -/
def M0 : Mm := fun a b => if a = 0 then (if b = 17 then 1 else 0) else if 3 ≤ a ∧ a ≤ 21 ∧ a % 2 = 1 then (if b = 1 then -1 else 0) else if (26 ≤ a ∧ a ≤ 34) ∨ (38 ≤ a ∧ a ≤ 46) then (if b = 6 then 12 else 0) else if a = 47 then (if b = 1 then -9 else 0) else if a = 77 then (if b = 4 then 1 else 0) else if a = 79 then (if b < 6 then -1 else 0) else if a = 82 then (if b < 4 then -1 else 0) else 0
theorem mz {a : Nat} (h : ¬ a = 0 ∧ ¬ (3 ≤ a ∧ a ≤ 21 ∧ a % 2 = 1) ∧ ¬ ((26 ≤ a ∧ a ≤ 34) ∨ (38 ≤ a ∧ a ≤ 46)) ∧ ¬ a = 47 ∧ ¬ a = 77 ∧ ¬ a = 79 ∧ ¬ a = 82) (b : Nat) : M0 a b = 0 := by
  obtain ⟨h1, h2, h3, h4, h5, h6, h7⟩ := h
  unfold M0
  rw [if_neg h1, if_neg h2, if_neg h3, if_neg h4, if_neg h5, if_neg h6, if_neg h7]
theorem mr {a : Nat} (h : 3 ≤ a ∧ a ≤ 21 ∧ a % 2 = 1) (b : Nat) : M0 a b = if b = 1 then -1 else 0 := by
  unfold M0
  rw [if_neg (by omega), if_pos h]
theorem mn {a : Nat} (h : 26 ≤ a ∧ a ≤ 34) (b : Nat) : M0 a b = if b = 6 then 12 else 0 := by
  unfold M0
  rw [if_neg (by omega), if_neg (by omega), if_pos (Or.inl h)]
theorem m77 (b : Nat) : M0 77 b = if b = 4 then 1 else 0 := rfl
theorem m00 (b : Nat) : M0 0 b = if b = 17 then 1 else 0 := rfl
theorem m79 (b : Nat) : M0 79 b = if b < 6 then -1 else 0 := rfl
theorem m82 (b : Nat) : M0 82 b = if b < 4 then -1 else 0 := rfl
theorem NDR_M0 {a : Nat} (h : 26 ≤ a ∧ a ≤ 34) : NDW M0 a := by
  have e : M0 a = fun b => if b = 6 then 12 else 0 := funext (mn h)
  show NDR (M0 a)
  rw [e]
  decide
theorem CI_M0 : CI M0 := by
  have z23 := mz (a := 23) (by decide)
  have z24 := mz (a := 24) (by decide)
  refine ⟨⟨?_, ⟨NDR_M0 (by decide), fun i hi => NDR_M0 (by omega)⟩, ?_, ?_⟩, ⟨?_, ?_, ?_, ?_⟩, ?_, ⟨?_, ?_⟩, ?_, ?_⟩
  · show 0 ≤ M0 23 3 ∧ M0 23 3 ≤ 8 ∧ 0 ≤ M0 23 4 ∧ M0 23 4 ≤ 8
    rw [z23, z23]; decide
  · intro j
    show 0 ≤ M0 24 j ∧ M0 24 j ≤ 15
    rw [z24]; decide
  · rw [z23]; decide
  · refine ⟨by rw [mz (a := 48) (by decide)]; decide, fun j => ?_⟩
    rw [mz (a := 49) (by decide), mz (a := 50) (by decide), mz (a := 51) (by decide), mz (a := 52) (by decide), mz (a := 53) (by decide)]
    decide
  · intro j
    rw [mz (a := 58) (by decide), mz (a := 59) (by decide), mz (a := 60) (by decide)]
    decide
  · refine ⟨by rw [mz (a := 54) (by decide)]; decide, by rw [mz (a := 54) (by decide)]; decide, by rw [mz (a := 54) (by decide)]; decide, fun j => ?_⟩
    rw [mz (a := 55) (by decide), mz (a := 56) (by decide)]
    decide
  · refine ⟨by rw [mz (a := 61) (by decide)]; decide, fun j => ?_⟩
    rw [mz (a := 62) (by decide)]
    decide
  · refine ⟨by rw [mz (a := 63) (by decide)]; decide, fun j => ?_⟩
    rw [mz (a := 66) (by decide), mz (a := 67) (by decide), mz (a := 68) (by decide), mz (a := 69) (by decide)]
    decide
  · intro o ho
    refine ⟨?_, fun j => ?_⟩
    · rw [mr ho, if_pos rfl]
      have := capO_b o
      omega
    · rw [mz (a := o + 1) (by omega)]
      decide
  · intro o ho h15 j
    rw [mz (a := o + 1) (by omega)]
    decide
  · refine ⟨by rw [mz (a := 70) (by decide)]; decide, fun j => ?_⟩
    show (0 ≤ M0 71 j ∧ M0 71 j ≤ 7) ∧ (0 ≤ M0 72 j ∧ M0 72 j ≤ 99)
    rw [mz (a := 71) (by decide), mz (a := 72) (by decide)]
    decide
  · refine ⟨by rw [mz (a := 73) (by decide)]; decide, fun j => ?_⟩
    show (0 ≤ M0 74 j ∧ M0 74 j ≤ 7) ∧ (0 ≤ M0 75 j ∧ M0 75 j ≤ 99)
    rw [mz (a := 74) (by decide), mz (a := 75) (by decide)]
    decide
theorem Rl_M0 : Rl M0 := by
  have z23 := mz (a := 23) (by decide)
  refine ⟨CI_M0, ⟨fun r hr => ⟨?_, fun i hi => ?_⟩, fun t ht => ⟨?_, fun i hi => ?_⟩, ?_⟩, ⟨?_, ?_, ?_⟩, ?_, ?_⟩
  · rw [m79, if_pos hr, mr (by omega), if_pos rfl]
  · rw [mr (by omega), if_pos rfl] at hi
    omega
  · rw [m82, if_pos ht, mr (by omega), if_pos rfl]
  · rw [mr (by omega), if_pos rfl] at hi
    omega
  · refine ⟨?_, fun h hh => ?_, fun i hi => ?_, Or.inl ?_⟩
    · rw [z23, z23, z23]; decide
    · rw [z23] at hh; omega
    · rw [z23] at hi; omega
    · rw [z23, z23]; decide
  · refine ⟨⟨fun h _ => ?_, fun j _ => ?_, fun h _ _ => ?_, fun h k _ _ _ => ?_⟩, ?_, fun i hi => ?_⟩
    · rw [mz (a := 97) (by decide), mz (a := 64) (by decide)]
    · rw [mz (a := 98) (by decide), mz (a := 65) (by decide)]
    · rw [mz (a := 64) (by decide)]
    · rw [mz (a := 65) (by decide)]
    · rw [mz (a := 63) (by decide)]; decide
    · rw [mz (a := 63) (by decide)] at hi; omega
  · refine ⟨?_, fun j hj => ?_, fun j hj => ?_⟩
    · rw [mz (a := 70) (by decide), mz (a := 73) (by decide)]; decide
    · rw [mz (a := 70) (by decide)] at hj; omega
    · rw [mz (a := 73) (by decide)] at hj; omega
  · refine ⟨by decide, fun f _ _ => ?_⟩
    rw [mz (a := 78) (by decide), mz (a := 76) (by decide)]
  · refine ⟨⟨⟨by decide, fun j _ => ?_, fun i _ => ?_, fun i _ => ?_⟩, fun r hr => ⟨?_, fun j hj => ?_⟩, fun t ht => ⟨?_, fun j hj => ?_⟩⟩, ⟨⟨by decide, fun i _ _ => ?_⟩, ⟨by decide, fun j _ => ?_⟩, ⟨by decide, fun j _ => ?_⟩⟩, fun j _ => ?_, fun i _ => ?_⟩
    · rw [mz (a := 84) (by decide)]; decide
    · have e : (fun k => M0 85 (6 * i + k)) = fun _ => 0 := funext fun k => mz (a := 85) (by decide) _
      rw [e]; decide
    · rw [mz (a := 86) (by decide)]; decide
    · rw [m79, if_pos hr]; decide
    · rw [m79, if_pos hr] at hj; omega
    · rw [m82, if_pos ht]; decide
    · rw [m82, if_pos ht] at hj; omega
    · unfold xd
      rw [mz (a := 99) (by decide), mz (a := 99) (by decide), mz (a := 99) (by decide), mz (a := 99) (by decide)]; decide
    · rw [mz (a := 100) (by decide), mz (a := 101) (by decide)]; decide
    · rw [mz (a := 102) (by decide), mz (a := 103) (by decide)]; decide
    · rw [mz (a := 93) (by decide)]; decide
    · rw [mz (a := 85) (by decide)]; decide
  · refine ⟨fun h _ => ?_, fun i _ => ?_⟩
    · rw [mz (a := 87) (by decide)]; decide
    · have e : (fun k => M0 88 (6 * i + k)) = fun _ => 0 := funext fun k => mz (a := 88) (by decide) _
      rw [e]; decide
/-- the addresses at the start -/
def adS (hC hM a106 a107 a108 : Nat) (uC uM : Nat → Nat) : Nat → Nat := fun k => if k < 77 then (if k = 0 then hC else uC k) else if k = 77 then hM else if k < 104 then uM (k - 77) else if k = 106 then a106 else if k = 107 then a107 else a108
set_option maxHeartbeats 4000000 in
theorem st_get {P : Pl} {hC hM a6 a7 a8 : Nat} {uC uM : Nat → Nat} {k : Nat} (hk : k < 104) : ∃ e, (wCoat P hC uC ++ wModel P hM uM)[k]? = some (adS hC hM a6 a7 a8 uC uM k, e) ∧ sE e (wc (P.1, adS hC hM a6 a7 a8 uC uM, P.2.2) 104 M0 k) := by
  rcases (show k = 0 ∨ k = 1 ∨ k = 2 ∨ k = 3 ∨ k = 4 ∨ k = 5 ∨ k = 6 ∨ k = 7 ∨ k = 8 ∨ k = 9 ∨ k = 10 ∨ k = 11 ∨ k = 12 ∨ k = 13 ∨ k = 14 ∨ k = 15 ∨ k = 16 ∨ k = 17 ∨ k = 18 ∨ k = 19 ∨ k = 20 ∨ k = 21 ∨ k = 22 ∨ k = 23 ∨ k = 24 ∨ k = 25 ∨ k = 26 ∨ k = 27 ∨ k = 28 ∨ k = 29 ∨ k = 30 ∨ k = 31 ∨ k = 32 ∨ k = 33 ∨ k = 34 ∨ k = 35 ∨ k = 36 ∨ k = 37 ∨ k = 38 ∨ k = 39 ∨ k = 40 ∨ k = 41 ∨ k = 42 ∨ k = 43 ∨ k = 44 ∨ k = 45 ∨ k = 46 ∨ k = 47 ∨ k = 48 ∨ k = 49 ∨ k = 50 ∨ k = 51 ∨ k = 52 ∨ k = 53 ∨ k = 54 ∨ k = 55 ∨ k = 56 ∨ k = 57 ∨ k = 58 ∨ k = 59 ∨ k = 60 ∨ k = 61 ∨ k = 62 ∨ k = 63 ∨ k = 64 ∨ k = 65 ∨ k = 66 ∨ k = 67 ∨ k = 68 ∨ k = 69 ∨ k = 70 ∨ k = 71 ∨ k = 72 ∨ k = 73 ∨ k = 74 ∨ k = 75 ∨ k = 76 ∨ k = 77 ∨ k = 78 ∨ k = 79 ∨ k = 80 ∨ k = 81 ∨ k = 82 ∨ k = 83 ∨ k = 84 ∨ k = 85 ∨ k = 86 ∨ k = 87 ∨ k = 88 ∨ k = 89 ∨ k = 90 ∨ k = 91 ∨ k = 92 ∨ k = 93 ∨ k = 94 ∨ k = 95 ∨ k = 96 ∨ k = 97 ∨ k = 98 ∨ k = 99 ∨ k = 100 ∨ k = 101 ∨ k = 102 ∨ k = 103 by omega) with rfl | rfl | rfl | rfl | rfl | rfl | rfl | rfl | rfl | rfl | rfl | rfl | rfl | rfl | rfl | rfl | rfl | rfl | rfl | rfl | rfl | rfl | rfl | rfl | rfl | rfl | rfl | rfl | rfl | rfl | rfl | rfl | rfl | rfl | rfl | rfl | rfl | rfl | rfl | rfl | rfl | rfl | rfl | rfl | rfl | rfl | rfl | rfl | rfl | rfl | rfl | rfl | rfl | rfl | rfl | rfl | rfl | rfl | rfl | rfl | rfl | rfl | rfl | rfl | rfl | rfl | rfl | rfl | rfl | rfl | rfl | rfl | rfl | rfl | rfl | rfl | rfl | rfl | rfl | rfl | rfl | rfl | rfl | rfl | rfl | rfl | rfl | rfl | rfl | rfl | rfl | rfl | rfl | rfl | rfl | rfl | rfl | rfl | rfl | rfl | rfl | rfl | rfl | rfl
  · exact ⟨_, rfl, sE.rf rfl⟩
  · exact ⟨_, rfl, sE.q (fun j hj => by rcases (show j = 0 ∨ j = 1 ∨ j = 2 ∨ j = 3 ∨ j = 4 ∨ j = 5 by omega) with rfl | rfl | rfl | rfl | rfl | rfl <;> rfl)⟩
  · exact ⟨_, rfl, sE.q (fun j hj => by rcases (show j = 0 ∨ j = 1 ∨ j = 2 ∨ j = 3 by omega) with rfl | rfl | rfl | rfl <;> rfl)⟩
  · exact ⟨_, rfl, sE.rf rfl⟩
  · exact ⟨_, rfl, sE.rf rfl⟩
  · exact ⟨_, rfl, sE.rf rfl⟩
  · exact ⟨_, rfl, sE.rf rfl⟩
  · exact ⟨_, rfl, sE.rf rfl⟩
  · exact ⟨_, rfl, sE.rf rfl⟩
  · exact ⟨_, rfl, sE.rf rfl⟩
  · exact ⟨_, rfl, sE.rf rfl⟩
  · exact ⟨_, rfl, sE.rf rfl⟩
  · exact ⟨_, rfl, sE.rf rfl⟩
  · exact ⟨_, rfl, sE.rf rfl⟩
  · exact ⟨_, rfl, sE.rf rfl⟩
  · exact ⟨_, rfl, sE.rf rfl⟩
  · exact ⟨_, rfl, sE.rf rfl⟩
  · exact ⟨_, rfl, sE.rf rfl⟩
  · exact ⟨_, rfl, sE.rf rfl⟩
  · exact ⟨_, rfl, sE.rf rfl⟩
  · exact ⟨_, rfl, sE.rf rfl⟩
  · exact ⟨_, rfl, sE.rf rfl⟩
  · exact ⟨_, rfl, sE.rf rfl⟩
  · exact ⟨_, rfl, sE.rf rfl⟩
  · exact ⟨_, rfl, sE.rf rfl⟩
  · exact ⟨_, rfl, sE.q (fun j hj => by rcases (show j = 0 ∨ j = 1 ∨ j = 2 ∨ j = 3 ∨ j = 4 ∨ j = 5 ∨ j = 6 ∨ j = 7 by omega) with rfl | rfl | rfl | rfl | rfl | rfl | rfl | rfl <;> rfl)⟩
  · exact ⟨_, rfl, sE.rf rfl⟩
  · exact ⟨_, rfl, sE.rf rfl⟩
  · exact ⟨_, rfl, sE.rf rfl⟩
  · exact ⟨_, rfl, sE.rf rfl⟩
  · exact ⟨_, rfl, sE.rf rfl⟩
  · exact ⟨_, rfl, sE.rf rfl⟩
  · exact ⟨_, rfl, sE.rf rfl⟩
  · exact ⟨_, rfl, sE.rf rfl⟩
  · exact ⟨_, rfl, sE.rf rfl⟩
  · exact ⟨_, rfl, sE.rf rfl⟩
  · exact ⟨_, rfl, sE.rf rfl⟩
  · exact ⟨_, rfl, sE.q (fun j hj => by rcases (show j = 0 ∨ j = 1 ∨ j = 2 ∨ j = 3 ∨ j = 4 ∨ j = 5 ∨ j = 6 ∨ j = 7 by omega) with rfl | rfl | rfl | rfl | rfl | rfl | rfl | rfl <;> rfl)⟩
  · exact ⟨_, rfl, sE.rf rfl⟩
  · exact ⟨_, rfl, sE.rf rfl⟩
  · exact ⟨_, rfl, sE.rf rfl⟩
  · exact ⟨_, rfl, sE.rf rfl⟩
  · exact ⟨_, rfl, sE.rf rfl⟩
  · exact ⟨_, rfl, sE.rf rfl⟩
  · exact ⟨_, rfl, sE.rf rfl⟩
  · exact ⟨_, rfl, sE.rf rfl⟩
  · exact ⟨_, rfl, sE.rf rfl⟩
  · exact ⟨_, rfl, sE.rf rfl⟩
  · exact ⟨_, rfl, sE.rf rfl⟩
  · exact ⟨_, rfl, sE.rf rfl⟩
  · exact ⟨_, rfl, sE.rf rfl⟩
  · exact ⟨_, rfl, sE.rf rfl⟩
  · exact ⟨_, rfl, sE.rf rfl⟩
  · exact ⟨_, rfl, sE.rf rfl⟩
  · exact ⟨_, rfl, sE.rf rfl⟩
  · exact ⟨_, rfl, sE.rf rfl⟩
  · exact ⟨_, rfl, sE.rf rfl⟩
  · exact ⟨_, rfl, sE.rf rfl⟩
  · exact ⟨_, rfl, sE.rf rfl⟩
  · exact ⟨_, rfl, sE.rf rfl⟩
  · exact ⟨_, rfl, sE.rf rfl⟩
  · exact ⟨_, rfl, sE.rf rfl⟩
  · exact ⟨_, rfl, sE.rf rfl⟩
  · exact ⟨_, rfl, sE.rf rfl⟩
  · exact ⟨_, rfl, sE.rf rfl⟩
  · exact ⟨_, rfl, sE.rf rfl⟩
  · exact ⟨_, rfl, sE.rf rfl⟩
  · exact ⟨_, rfl, sE.rf rfl⟩
  · exact ⟨_, rfl, sE.rf rfl⟩
  · exact ⟨_, rfl, sE.rf rfl⟩
  · exact ⟨_, rfl, sE.rf rfl⟩
  · exact ⟨_, rfl, sE.rf rfl⟩
  · exact ⟨_, rfl, sE.rf rfl⟩
  · exact ⟨_, rfl, sE.rf rfl⟩
  · exact ⟨_, rfl, sE.rf rfl⟩
  · exact ⟨_, rfl, sE.rf rfl⟩
  · exact ⟨_, rfl, sE.rf rfl⟩
  · exact ⟨_, rfl, sE.rf rfl⟩
  · exact ⟨_, rfl, sE.rf rfl⟩
  · exact ⟨_, rfl, sE.rf rfl⟩
  · exact ⟨_, rfl, sE.rf rfl⟩
  · exact ⟨_, rfl, sE.rf rfl⟩
  · exact ⟨_, rfl, sE.rf rfl⟩
  · exact ⟨_, rfl, sE.rf rfl⟩
  · exact ⟨_, rfl, sE.rf rfl⟩
  · exact ⟨_, rfl, sE.rf rfl⟩
  · exact ⟨_, rfl, sE.rf rfl⟩
  · exact ⟨_, rfl, sE.rf rfl⟩
  · exact ⟨_, rfl, sE.rf rfl⟩
  · exact ⟨_, rfl, sE.rf rfl⟩
  · exact ⟨_, rfl, sE.rf rfl⟩
  · exact ⟨_, rfl, sE.rf rfl⟩
  · exact ⟨_, rfl, sE.rf rfl⟩
  · exact ⟨_, rfl, sE.rf rfl⟩
  · exact ⟨_, rfl, sE.rf rfl⟩
  · exact ⟨_, rfl, sE.rf rfl⟩
  · exact ⟨_, rfl, sE.rf rfl⟩
  · exact ⟨_, rfl, sE.rf rfl⟩
  · exact ⟨_, rfl, sE.rf rfl⟩
  · exact ⟨_, rfl, sE.rf rfl⟩
  · exact ⟨_, rfl, sE.rf rfl⟩
  · exact ⟨_, rfl, sE.rf rfl⟩
  · exact ⟨_, rfl, sE.rf rfl⟩
  · exact ⟨_, rfl, sE.rf rfl⟩
