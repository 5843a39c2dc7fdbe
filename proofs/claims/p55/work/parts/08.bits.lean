/-! sets by bits -/
theorem bt_and (a b : Nat) : nI a &&& nI b = nI (a &&& b) := by
  apply Int32.toBitVec_inj.1
  show BitVec.ofNat 32 a &&& BitVec.ofNat 32 b = BitVec.ofNat 32 (a &&& b)
  apply BitVec.eq_of_getLsbD_eq
  intro i hi
  simp [hi]
theorem bt_or (a b : Nat) : nI a ||| nI b = nI (a ||| b) := by
  apply Int32.toBitVec_inj.1
  show BitVec.ofNat 32 a ||| BitVec.ofNat 32 b = BitVec.ofNat 32 (a ||| b)
  apply BitVec.eq_of_getLsbD_eq
  intro i hi
  simp [hi]
theorem bt_xor (a b : Nat) : nI a ^^^ nI b = nI (a ^^^ b) := by
  apply Int32.toBitVec_inj.1
  show BitVec.ofNat 32 a ^^^ BitVec.ofNat 32 b = BitVec.ofNat 32 (a ^^^ b)
  apply BitVec.eq_of_getLsbD_eq
  intro i hi
  simp [hi]
theorem iI_nat (n : Nat) : iI (n : Int) = nI n := Int32.ofInt_eq_ofNat
theorem and_iI {a b : Int} (ha : 0 ≤ a) (hb : 0 ≤ b) : iI a &&& iI b = iI ((a.toNat &&& b.toNat : Nat) : Int) := by
  rw [iI_nat, show iI a = nI a.toNat by rw [← iI_nat, Int.toNat_of_nonneg ha], show iI b = nI b.toNat by rw [← iI_nat, Int.toNat_of_nonneg hb]]
  exact bt_and _ _
theorem or_iI {a b : Int} (ha : 0 ≤ a) (hb : 0 ≤ b) : iI a ||| iI b = iI ((a.toNat ||| b.toNat : Nat) : Int) := by
  rw [iI_nat, show iI a = nI a.toNat by rw [← iI_nat, Int.toNat_of_nonneg ha], show iI b = nI b.toNat by rw [← iI_nat, Int.toNat_of_nonneg hb]]
  exact bt_or _ _
/-- the bits of a that b hasn't -/
def ndN (a b : Nat) : Nat := a ^^^ (a &&& b)
theorem ndN_bit (a b i : Nat) : (ndN a b).testBit i = (a.testBit i && !b.testBit i) := by
  unfold ndN
  rw [Nat.testBit_xor, Nat.testBit_and]
  cases a.testBit i <;> cases b.testBit i <;> rfl
theorem ndN_le (a b : Nat) : ndN a b ≤ a := by
  have h : ndN a b &&& a = ndN a b := by
    apply Nat.eq_of_testBit_eq
    intro i
    rw [Nat.testBit_and, ndN_bit]
    cases a.testBit i <;> cases b.testBit i <;> rfl
  rw [← h]
  exact Nat.and_le_right
theorem nd_iI {a b : Int} (ha : 0 ≤ a) (hb : 0 ≤ b) : iI a &&& (iI b ^^^ iI (-1)) = iI ((ndN a.toNat b.toNat : Nat) : Int) := by
  have h1 : iI a &&& (iI b ^^^ iI (-1)) = iI a ^^^ (iI a &&& iI b) := by
    have e : iI (-1) = -1 := rfl
    rw [e]
    apply Int32.toBitVec.inj
    simp only [Int32.toBitVec_and, Int32.toBitVec_xor]
    apply BitVec.eq_of_getElem_eq
    intro i hi
    have e2 : ∀ j (hj : j < 32), (4294967295#32)[j] = true := by decide
    simp [e2 i hi]
    cases (iI a).toBitVec[i] <;> cases (iI b).toBitVec[i] <;> rfl
  rw [h1, and_iI ha hb]
  rw [iI_nat, iI_nat, show iI a = nI a.toNat by rw [← iI_nat, Int.toNat_of_nonneg ha]]
  exact bt_xor _ _
theorem sh1 {i : Int} (h0 : 0 ≤ i) (h1 : i < 31) : iI 1 <<< (iI i &&& 31) = iI ((2 ^ i.toNat : Nat) : Int) := by
  have key : ∀ k : Nat, k < 31 → Int32.ofInt 1 <<< (Int32.ofInt (k : Int) &&& 31) = Int32.ofInt ((2 ^ k : Nat) : Int) := by decide +kernel
  have := key i.toNat (by omega)
  rw [Int.toNat_of_nonneg h0] at this
  exact this
def bitN (i : Int) : Nat := if 0 ≤ i ∧ i < 8 then 2 ^ i.toNat else 0
theorem bitN_in {i : Int} (h : 0 ≤ i ∧ i < 8) : bitN i = 2 ^ i.toNat := by unfold bitN; rw [if_pos h]
theorem bitN_out {i : Int} (h : ¬ (0 ≤ i ∧ i < 8)) : bitN i = 0 := by unfold bitN; rw [if_neg h]
theorem bitN_le (i : Int) : bitN i ≤ 128 := by
  by_cases h : 0 ≤ i ∧ i < 8
  · rw [bitN_in h]
    have key : ∀ k : Nat, k < 8 → 2 ^ k ≤ 128 := by decide
    exact key i.toNat (by omega)
  · rw [bitN_out h]; omega
abbrev inS (i s : Int) : Prop := 0 ≤ i ∧ i < 8 ∧ s.toNat.testBit i.toNat = true
theorem and_pow (s k : Nat) : s &&& 2 ^ k = 0 ↔ s.testBit k = false := by
  constructor
  · intro h
    have := congrArg (fun x => x.testBit k) h
    simpa [Nat.testBit_two_pow_self] using this
  · intro h
    apply Nat.eq_of_testBit_eq
    intro j
    rw [Nat.testBit_and, Nat.testBit_two_pow]
    by_cases e : k = j
    · subst e; simp [h]
    · simp [e]
theorem inS_iff (i s : Int) : ¬ ((s.toNat &&& bitN i : Nat) : Int) = 0 ↔ inS i s := by
  by_cases h : 0 ≤ i ∧ i < 8
  · rw [bitN_in h]
    have := and_pow s.toNat i.toNat
    constructor
    · intro q
      refine ⟨h.1, h.2, ?_⟩
      cases e : s.toNat.testBit i.toNat with
      | true => rfl
      | false => exact absurd (by rw [this.mpr e]; rfl) q
    · rintro ⟨-, -, e⟩ q
      have q2 : s.toNat &&& 2 ^ i.toNat = 0 := by omega
      rw [this.mp q2] at e
      cases e
  · rw [bitN_out h]
    constructor
    · intro q; simp at q
    · rintro ⟨a, b, -⟩; exact absurd ⟨a, b⟩ h
def wap (a b : Int) : Int := (if a < b then b - a else a - b) / 4
theorem wap_lt {a b : Int} (h : a < b) : wap a b = (b - a) / 4 := by unfold wap; rw [if_pos h]
theorem wap_ge {a b : Int} (h : ¬ a < b) : wap a b = (a - b) / 4 := by unfold wap; rw [if_neg h]
theorem wap_b {a b : Int} (ha : 0 ≤ a ∧ a ≤ 15) (hb : 0 ≤ b ∧ b ≤ 15) : 0 ≤ wap a b ∧ wap a b ≤ 3 := by
  by_cases h : a < b
  · rw [wap_lt h]; omega
  · rw [wap_ge h]; omega

