/-- the reference: a finding, what is told -/
def mtM (M : Mm) (f : Int) : Mm := stM (stM M 77 0 f) 78 f.toNat (M 78 f.toNat + 1)
def tlM (M : Mm) (v : Int) : Mm := stM M 77 2 v
abbrev RQ (M : Mm) : Prop := ∀ r : Nat, r < 6 → (-1 ≤ M 79 r ∧ M 79 r ≤ 60) ∧ ∀ j : Nat, (j : Int) < M 79 r → ir (M 80 (60 * r + j))
abbrev RT (M : Mm) : Prop := ∀ t : Nat, t < 4 → (-1 ≤ M 82 t ∧ M 82 t ≤ 120) ∧ ∀ j : Nat, (j : Int) < M 82 t → -128 ≤ M 83 (120 * t + j) ∧ M 83 (120 * t + j) ≤ 127
def rcA (M : Mm) (r i : Int) : Int := M 80 (60 * r + i).toNat
def btA (M : Mm) (t i : Int) : Int := if i < M 82 t.toNat then M 83 (120 * t + i).toNat else 0
theorem hasR_key : ∀ s : Nat, s < 256 → ∀ k : Nat, k < 8 → (Int32.ofInt (s : Int) >>> (Int32.ofInt (k : Int) &&& 31)) &&& Int32.ofInt 1 = Int32.ofInt (if s.testBit k then 1 else 0) := by decide +kernel
theorem hasR {s k : Int} (hs : 0 ≤ s ∧ s ≤ 255) (hk : 0 ≤ k ∧ k < 8) : (iI s >>> (iI k &&& 31)) &&& iI 1 = iI (if s.toNat.testBit k.toNat then 1 else 0) := by
  have h := hasR_key s.toNat (by omega) k.toNat (by omega)
  rw [Int.toNat_of_nonneg hs.1, Int.toNat_of_nonneg hk.1] at h
  exact h
abbrev hB (s k : Int) : Prop := s.toNat.testBit k.toNat = true
theorem pop_step : ∀ s : Nat, s < 256 → s ≠ 0 → popZ (s &&& (s - 1)) + 1 = popZ s ∧ (s &&& (s - 1)) < s := by decide +kernel
theorem popZ_0 : popZ 0 = 0 := by decide
/-- the greatest number that divides both -/
def gcN (u l : Int) : Int := ((Nat.gcd u.toNat l.toNat : Nat) : Int)
theorem gcN_0 {x : Int} (h : 0 ≤ x) : gcN x 0 = x := by
  unfold gcN
  rw [show (0 : Int).toNat = 0 from rfl, Nat.gcd_zero_right, Int.toNat_of_nonneg h]
theorem gcN_s {x y : Int} (hx : 0 ≤ x) (hy : 0 ≤ y) : gcN x y = gcN y (x % y) := by
  unfold gcN
  have e : (x % y).toNat = x.toNat % y.toNat := by
    obtain ⟨a, rfl⟩ := Int.eq_ofNat_of_zero_le hx
    obtain ⟨b, rfl⟩ := Int.eq_ofNat_of_zero_le hy
    simp
    omega
  rw [e, Nat.gcd_comm x.toNat, Nat.gcd_rec y.toNat, Nat.gcd_comm]
theorem gcN_pos {u l : Int} (hl : 0 < l) : 0 < gcN u l := by
  unfold gcN
  have := Nat.gcd_pos_of_pos_right u.toNat (show 0 < l.toNat by omega)
  omega
theorem gcN_le {u l : Int} (hl : 0 < l) : gcN u l ≤ l := by
  unfold gcN
  have := Nat.gcd_le_right u.toNat (show 0 < l.toNat by omega)
  omega
def rfM (M : Mm) (u l : Int) : Mm := stM (stM M 77 3 (u.tdiv (gcN u l))) 77 4 (l.tdiv (gcN u l))
/-- a row is made: n places hold 0 -/
def rmP (M : Mm) (r q i : Int) : Mm := fun a b => if a = 79 ∧ b = r.toNat then q else if a = 80 ∧ 60 * r ≤ (b : Int) ∧ (b : Int) < 60 * r + i then 0 else M a b
theorem rmP_0 (M : Mm) (r q : Int) : stM M 79 r.toNat q = rmP M r q 0 := by
  funext a b
  unfold stM rmP
  split
  · rfl
  · rw [if_neg (by omega)]
theorem rmP_s {M : Mm} {r q i : Int} (hr : 0 ≤ r) (hi : 0 ≤ i) : stM (rmP M r q i) 80 (60 * r + i).toNat 0 = rmP M r q (i + 1) := by
  funext a b
  unfold stM rmP
  by_cases h : a = 80 ∧ b = (60 * r + i).toNat
  · rw [if_pos h, if_neg (by omega), if_pos (by omega)]
  · rw [if_neg h]
    by_cases h2 : a = 79 ∧ b = r.toNat
    · rw [if_pos h2, if_pos h2]
    · rw [if_neg h2, if_neg h2]
      by_cases h3 : a = 80 ∧ 60 * r ≤ (b : Int) ∧ (b : Int) < 60 * r + i
      · rw [if_pos h3, if_pos (by omega)]
      · rw [if_neg h3, if_neg (by omega)]
def xrowM (M : Mm) (r q : Int) : Mm := if ¬ R6 r ∨ 60 < q then M else if q < 0 then mtM M 5 else rmP M r q 60
abbrev hsX (M : Mm) (a : Nat) (r i : Int) : Prop := 0 ≤ i ∧ i ≤ M a r.toNat - 1
def xlayA (M : Mm) (r i : Int) : Int := if ¬ R6 r then -1 else if M 79 r.toNat < 0 then -3 else if ¬ hsX M 79 r i then -3 else 1
def xlayM (M : Mm) (r i v : Int) : Mm := if ¬ R6 r then M else if M 79 r.toNat < 0 then mtM M 1 else if ¬ hsX M 79 r i then mtM M 2 else tlM (stM M 80 (60 * r + i).toNat v) (rcA M r i)
def xatM (M : Mm) (r i : Int) : Mm := if ¬ R6 r then M else if M 79 r.toNat < 0 then mtM M 1 else if ¬ hsX M 79 r i then mtM M 2 else tlM M (rcA M r i)
def xtearA (M : Mm) (r : Int) : Int := if ¬ R6 r then -1 else if M 79 r.toNat < 0 then -3 else 1
def xtearM (M : Mm) (r : Int) : Mm := if ¬ R6 r then M else if M 79 r.toNat < 0 then mtM M 1 else stM M 79 r.toNat (-1)
abbrev hpX (M : Mm) (r i q : Int) : Prop := 0 ≤ i ∧ i + q ≤ M 79 r.toNat
def xcopyA (M : Mm) (r i t j q : Int) : Int := if ¬ R6 r ∨ ¬ R6 t then -1 else if q < 0 then -3 else if M 79 r.toNat < 0 ∨ M 79 t.toNat < 0 then -3 else if ¬ hpX M r i q ∨ ¬ hpX M t j q then -3 else 1
def cyP (M : Mm) (r i k : Int) : Mm := fun a b => if a = 81 ∧ (b : Int) < k then M 80 (60 * r + (i + (b : Int))).toNat else M a b
def cyQ (M T : Mm) (r i t j k : Int) : Mm := fun a b => if a = 80 ∧ 60 * t + j ≤ (b : Int) ∧ (b : Int) < 60 * t + j + k then M 80 (60 * r + (i + ((b : Int) - (60 * t + j)))).toNat else T a b
theorem cyP_0 (M : Mm) (r i : Int) : M = cyP M r i 0 := by
  funext a b
  unfold cyP
  rw [if_neg (by omega)]
theorem cyP_s {M : Mm} {r i k : Int} (hk : 0 ≤ k) : stM (cyP M r i k) 81 k.toNat (M 80 (60 * r + (i + k)).toNat) = cyP M r i (k + 1) := by
  funext a b
  unfold stM cyP
  by_cases h : a = 81 ∧ b = k.toNat
  · rw [if_pos h, if_pos (by omega), show ((b : Nat) : Int) = k by omega]
  · rw [if_neg h]
    by_cases h2 : a = 81 ∧ (b : Int) < k
    · rw [if_pos h2, if_pos (by omega)]
    · rw [if_neg h2, if_neg (by omega)]
theorem cyP_off (M : Mm) (r i k : Int) {a : Nat} (h : a ≠ 81) : cyP M r i k a = M a := by
  funext b
  unfold cyP
  rw [if_neg (fun q => h q.1)]
theorem cyQ_0 (M T : Mm) (r i t j : Int) : T = cyQ M T r i t j 0 := by
  funext a b
  unfold cyQ
  rw [if_neg (by omega)]
theorem cyQ_s {M T : Mm} {r i t j k : Int} (hk : 0 ≤ k) (hz : 0 ≤ 60 * t + j) : stM (cyQ M T r i t j k) 80 (60 * t + j + k).toNat (M 80 (60 * r + (i + k)).toNat) = cyQ M T r i t j (k + 1) := by
  funext a b
  unfold stM cyQ
  by_cases h : a = 80 ∧ b = (60 * t + j + k).toNat
  · rw [if_pos h, if_pos (by omega), show ((b : Nat) : Int) - (60 * t + j) = k by omega]
  · rw [if_neg h]
    by_cases h2 : a = 80 ∧ 60 * t + j ≤ (b : Int) ∧ (b : Int) < 60 * t + j + k
    · rw [if_pos h2, if_pos (by omega)]
    · rw [if_neg h2, if_neg (by omega)]
def xcpM (M : Mm) (r i t j q : Int) : Mm := cyQ M (cyP M r i q) r i t j q
def xcopyM (M : Mm) (r i t j q : Int) : Mm := if ¬ R6 r ∨ ¬ R6 t then M else if q < 0 then mtM M 5 else if M 79 r.toNat < 0 ∨ M 79 t.toNat < 0 then mtM M 1 else if ¬ hpX M r i q ∨ ¬ hpX M t j q then mtM M 2 else xcpM M r i t j q
def xsm (M : Mm) (r : Int) : Nat → Int := fun k => rcA M r (k : Int)
def xmeanA (M : Mm) (r : Int) : Int := if ¬ R6 r then -1 else if M 79 r.toNat < 0 then -3 else if M 79 r.toNat = 0 then -3 else 1
def xmeanM (M : Mm) (r : Int) : Mm := if ¬ R6 r then M else if M 79 r.toNat < 0 then mtM M 1 else if M 79 r.toNat = 0 then mtM M 4 else tlM M ((smZ (xsm M r) (M 79 r.toNat).toNat).tdiv (M 79 r.toNat))
def rtP (M : Mm) (r q i : Int) : Mm := fun a b => if a = 82 ∧ b = r.toNat then q else if a = 83 ∧ 120 * r ≤ (b : Int) ∧ (b : Int) < 120 * r + i then 32 else M a b
theorem rtP_0 (M : Mm) (r q : Int) : stM M 82 r.toNat q = rtP M r q 0 := by
  funext a b
  unfold stM rtP
  split
  · rfl
  · rw [if_neg (by omega)]
theorem rtP_s {M : Mm} {r q i : Int} (hr : 0 ≤ r) (hi : 0 ≤ i) : stM (rtP M r q i) 83 (120 * r + i).toNat 32 = rtP M r q (i + 1) := by
  funext a b
  unfold stM rtP
  by_cases h : a = 83 ∧ b = (120 * r + i).toNat
  · rw [if_pos h, if_neg (by omega), if_pos (by omega)]
  · rw [if_neg h]
    by_cases h2 : a = 82 ∧ b = r.toNat
    · rw [if_pos h2, if_pos h2]
    · rw [if_neg h2, if_neg h2]
      by_cases h3 : a = 83 ∧ 120 * r ≤ (b : Int) ∧ (b : Int) < 120 * r + i
      · rw [if_pos h3, if_pos (by omega)]
      · rw [if_neg h3, if_neg (by omega)]
def xtextM (M : Mm) (r q : Int) : Mm := if ¬ T4 r ∨ 120 < q then M else if q < 0 then mtM M 5 else rtP M r q 120
def xputA (M : Mm) (r i : Int) : Int := if ¬ T4 r then -1 else if M 82 r.toNat < 0 then -3 else if ¬ hsX M 82 r i then -3 else 1000 + M 83 (120 * r + i).toNat
def xputM (M : Mm) (r i v : Int) : Mm := if ¬ T4 r then M else if M 82 r.toNat < 0 then mtM M 1 else if ¬ hsX M 82 r i then mtM M 2 else stM M 83 (120 * r + i).toNat (by8 v)
theorem smZ_ir2 {f : Nat → Int} : ∀ k : Nat, (∀ j, j < k → ir (f j)) → -2147483648 * (k : Int) ≤ smZ f k ∧ smZ f k ≤ 2147483648 * (k : Int)
  | 0, _ => by simp [smZ]
  | k + 1, h => by
    have h1 := smZ_ir2 k (fun j hj => h j (by omega))
    have h2 := h k (by omega)
    rw [smZ]
    omega
set_option maxHeartbeats 4000000 in
set_option maxRecDepth 100000 in
theorem c_X12_in {n : Nat} (hn : NN n) {M : Mm} (v a b : Int) (hv : ir v) (ha : ir a) (hb : ir b) : CT yX12_in cX12_in 3 (some .boolean) ({ frames := 0, cells := 0, slots := 0, locals := 0 }) n [.int (iI v), .int (iI a), .int (iI b)] M (rI (b2 (a ≤ v ∧ v ≤ b)) M) := by
  refine CT.of (lv0 := [(0, .int (iI v)), (1, .int (iI a)), (2, .int (iI b))]) (by decide +kernel) hn (fun _ => rfl) (fun _ => Nat.le_of_ble_eq_true rfl) (fun X cx cs qx => ?_)
  have cx : Cx X cX12_in RX12 ({ frames := 0, cells := 0, slots := 0, locals := 0 }) 3 n := cx
  refine g_iload_n cx (pc2 := 1) 0 rfl dX12_in_0 rfl ?_
  refine g_iload_n cx (pc2 := 2) 1 rfl dX12_in_1 rfl ?_
  refine g_icmp_lt cx (pc2 := 5) (tgt := 14) ⟨(by first | assumption | omega), (by first | assumption | omega)⟩ dX12_in_2 (by decide) rfl (fun h_1 => ?_) (fun h_1 => ?_)
  · skip
    refine g_iconst cx (pc2 := 15) dX12_in_14 rfl ?_
    exact g_zret cx (Or.inl rfl) qx dX12_in_15 ⟨rb_f (by first | assumption | omega), by rfl⟩
  · skip
    refine g_iload_n cx (pc2 := 6) 0 rfl dX12_in_5 rfl ?_
    refine g_iload_n cx (pc2 := 7) 2 rfl dX12_in_6 rfl ?_
    refine g_icmp_gt cx (pc2 := 10) (tgt := 14) ⟨(by first | assumption | omega), (by first | assumption | omega)⟩ dX12_in_7 (by decide) rfl (fun h_2 => ?_) (fun h_2 => ?_)
    · skip
      refine g_iconst cx (pc2 := 15) dX12_in_14 rfl ?_
      exact g_zret cx (Or.inl rfl) qx dX12_in_15 ⟨rb_f (by first | assumption | omega), by rfl⟩
    · skip
      refine g_iconst cx (pc2 := 11) dX12_in_10 rfl ?_
      refine g_goto cx (tgt := 15) dX12_in_11 (by decide) ?_
      exact g_zret cx (Or.inr rfl) qx dX12_in_15 ⟨rb_t (by first | assumption | omega), by rfl⟩
set_option maxHeartbeats 4000000 in
set_option maxRecDepth 100000 in
theorem c_X12_has {n : Nat} (hn : NN n) {M : Mm} (s k : Int) (hs : 0 ≤ s ∧ s ≤ 255) (hk : 0 ≤ k ∧ k < 8) : CT yX12_has cX12_has 2 (some .boolean) ({ frames := 0, cells := 0, slots := 0, locals := 0 }) n [.int (iI s), .int (iI k)] M (rI (b2 (hB s k)) M) := by
  refine CT.of (lv0 := [(0, .int (iI s)), (1, .int (iI k))]) (by decide +kernel) hn (fun _ => rfl) (fun _ => Nat.le_of_ble_eq_true rfl) (fun X cx cs qx => ?_)
  have cx : Cx X cX12_has RX12 ({ frames := 0, cells := 0, slots := 0, locals := 0 }) 2 n := cx
  refine g_iload_n cx (pc2 := 1) 0 rfl dX12_has_0 rfl ?_
  refine g_iload_n cx (pc2 := 2) 1 rfl dX12_has_1 rfl ?_
  refine g_ishr cx (pc2 := 3) dX12_has_2 rfl ?_
  refine g_iconst cx (pc2 := 4) dX12_has_3 rfl ?_
  refine g_iand cx (pc2 := 5) dX12_has_4 rfl ?_
  refine g_rwi (y := iI (if s.toNat.testBit k.toNat then 1 else 0)) (hasR hs hk) ?_
  refine g_iconst cx (pc2 := 6) dX12_has_5 rfl ?_
  refine g_icmp_ne cx (pc2 := 9) (tgt := 13) ⟨(by constructor <;> split <;> omega), ⟨by decide, by decide⟩⟩ dX12_has_6 (by decide) rfl (fun h_1 => ?_) (fun h_1 => ?_)
  · skip
    refine g_iconst cx (pc2 := 14) dX12_has_13 rfl ?_
    exact g_zret cx (Or.inl rfl) qx dX12_has_14 ⟨rb_f (by first | (by_cases q : s.toNat.testBit k.toNat = true; exact q; rw [if_neg q] at h_1; omega) | (intro q; unfold hB at q; rw [if_pos q] at h_1; omega)), by rfl⟩
  · skip
    refine g_iconst cx (pc2 := 10) dX12_has_9 rfl ?_
    refine g_goto cx (tgt := 14) dX12_has_10 (by decide) ?_
    exact g_zret cx (Or.inr rfl) qx dX12_has_14 ⟨rb_t (by first | (by_cases q : s.toNat.testBit k.toNat = true; exact q; rw [if_neg q] at h_1; omega) | (intro q; unfold hB at q; rw [if_pos q] at h_1; omega)), by rfl⟩
set_option maxHeartbeats 4000000 in
set_option maxRecDepth 100000 in
theorem c_X12_bits {n : Nat} (hn : NN n) {M : Mm} (s : Int) (hs : 0 ≤ s ∧ s ≤ 255) : CT yX12_bits cX12_bits 3 (some .int) ({ frames := 0, cells := 0, slots := 0, locals := 0 }) n [.int (iI s)] M (rI (popZ s.toNat) M) := by
  refine CT.of (lv0 := [(0, .int (iI s))]) (by decide +kernel) hn (fun _ => rfl) (fun _ => Nat.le_of_ble_eq_true rfl) (fun X cx cs qx => ?_)
  have cx : Cx X cX12_bits RX12 ({ frames := 0, cells := 0, slots := 0, locals := 0 }) 3 n := cx
  refine g_iconst cx (pc2 := 1) dX12_bits_0 rfl ?_
  refine g_istore_n cx (pc2 := 2) (lv2 := [(0, .int (iI s)), (1, .int (iI 0))]) rfl (Nat.le_of_ble_eq_true rfl) dX12_bits_1 rfl ?_
  refine g_iload_n cx (pc2 := 3) 0 rfl dX12_bits_2 rfl ?_
  refine g_istore_n cx (pc2 := 4) (lv2 := [(0, .int (iI s)), (1, .int (iI 0)), (2, .int (iI s))]) rfl (Nat.le_of_ble_eq_true rfl) dX12_bits_3 rfl ?_
  have L4 : ∀ (fu : Nat) (x : Int) (c : Int), (0 ≤ x ∧ x ≤ 255) → (c + popZ x.toNat = popZ s.toNat) → x.toNat ≤ fu → G X 4 [(0, .int (iI s)), (1, .int (iI c)), (2, .int (iI x))] [] M := by
    intro fu
    induction fu using Nat.strongRecOn with
    | _ fu ih4 =>
      intro x c hx hc hk4
      have hps := fun q : x ≠ 0 => pop_step x.toNat (by omega) (by omega)
      refine g_iload_n cx (pc2 := 5) 2 rfl dX12_bits_4 rfl ?_
      refine g_if_eq cx (pc2 := 8) (tgt := 20) (by first | assumption | omega) dX12_bits_5 (by decide) rfl (fun h_1 => ?_) (fun h_1 => ?_)
      · skip
        refine g_iload_n cx (pc2 := 21) 1 rfl dX12_bits_20 rfl ?_
        exact g_iret cx qx dX12_bits_21 ⟨congrArg (fun q => some (Value.int (iI q))) (by have e : x = 0 := (by omega); rw [e] at hc; rw [← hc]; show c = c + popZ 0; rw [popZ_0]; omega), by rfl⟩
      · skip
        refine g_iinc cx (pc2 := 11) 1 rfl (lv2 := [(0, .int (iI s)), (1, .int (iI (c + 1))), (2, .int (iI x))]) rfl (Nat.le_of_ble_eq_true rfl) dX12_bits_8 rfl ?_
        refine g_iload_n cx (pc2 := 12) 2 rfl dX12_bits_11 rfl ?_
        refine g_iload_n cx (pc2 := 13) 2 rfl dX12_bits_12 rfl ?_
        refine g_iconst cx (pc2 := 14) dX12_bits_13 rfl ?_
        refine g_isub cx (pc2 := 15) dX12_bits_14 rfl ?_
        refine g_iand cx (pc2 := 16) dX12_bits_15 rfl ?_
        refine g_rwi (y := iI ((x.toNat &&& (x.toNat - 1) : Nat) : Int)) (by rw [and_iI (by omega) (by omega)]; congr 3; omega) ?_
        have hps1 := hps (by omega)
        refine g_istore_n cx (pc2 := 17) (lv2 := [(0, .int (iI s)), (1, .int (iI (c + 1))), (2, .int (iI ((x.toNat &&& (x.toNat - 1) : Nat) : Int)))]) rfl (Nat.le_of_ble_eq_true rfl) dX12_bits_16 rfl ?_
        refine g_goto cx (tgt := 4) dX12_bits_17 (by decide) ?_
        exact ih4 (((x.toNat &&& (x.toNat - 1) : Nat) : Int).toNat) (by omega) ((x.toNat &&& (x.toNat - 1) : Nat) : Int) (c + 1) (by omega) (by rw [Int.toNat_natCast]; omega) (Nat.le_refl _)
  exact L4 _ s 0 (by first | assumption | omega) (by omega) (Nat.le_refl _)
set_option maxHeartbeats 4000000 in
set_option maxRecDepth 100000 in
theorem c_X12_lesser {n : Nat} (hn : NN n) {M : Mm} (a b : Int) (ha : ir a) (hb : ir b) : CT yX12_lesser cX12_lesser 2 (some .int) ({ frames := 0, cells := 0, slots := 0, locals := 0 }) n [.int (iI a), .int (iI b)] M (rI (min a b) M) := by
  refine CT.of (lv0 := [(0, .int (iI a)), (1, .int (iI b))]) (by decide +kernel) hn (fun _ => rfl) (fun _ => Nat.le_of_ble_eq_true rfl) (fun X cx cs qx => ?_)
  have cx : Cx X cX12_lesser RX12 ({ frames := 0, cells := 0, slots := 0, locals := 0 }) 2 n := cx
  refine g_iload_n cx (pc2 := 1) 0 rfl dX12_lesser_0 rfl ?_
  refine g_iload_n cx (pc2 := 2) 1 rfl dX12_lesser_1 rfl ?_
  refine g_icmp_ge cx (pc2 := 5) (tgt := 9) ⟨(by first | assumption | omega), (by first | assumption | omega)⟩ dX12_lesser_2 (by decide) rfl (fun h_1 => ?_) (fun h_1 => ?_)
  · skip
    refine g_iload_n cx (pc2 := 10) 1 rfl dX12_lesser_9 rfl ?_
    exact g_iret cx qx dX12_lesser_10 ⟨congrArg (fun q => some (Value.int (iI q))) (by first | rfl | omega), by rfl⟩
  · skip
    refine g_iload_n cx (pc2 := 6) 0 rfl dX12_lesser_5 rfl ?_
    refine g_goto cx (tgt := 10) dX12_lesser_6 (by decide) ?_
    exact g_iret cx qx dX12_lesser_10 ⟨congrArg (fun q => some (Value.int (iI q))) (by first | rfl | omega), by rfl⟩
set_option maxHeartbeats 4000000 in
set_option maxRecDepth 100000 in
theorem c_X12_greater {n : Nat} (hn : NN n) {M : Mm} (a b : Int) (ha : ir a) (hb : ir b) : CT yX12_greater cX12_greater 2 (some .int) ({ frames := 0, cells := 0, slots := 0, locals := 0 }) n [.int (iI a), .int (iI b)] M (rI (max a b) M) := by
  refine CT.of (lv0 := [(0, .int (iI a)), (1, .int (iI b))]) (by decide +kernel) hn (fun _ => rfl) (fun _ => Nat.le_of_ble_eq_true rfl) (fun X cx cs qx => ?_)
  have cx : Cx X cX12_greater RX12 ({ frames := 0, cells := 0, slots := 0, locals := 0 }) 2 n := cx
  refine g_iload_n cx (pc2 := 1) 0 rfl dX12_greater_0 rfl ?_
  refine g_iload_n cx (pc2 := 2) 1 rfl dX12_greater_1 rfl ?_
  refine g_icmp_le cx (pc2 := 5) (tgt := 9) ⟨(by first | assumption | omega), (by first | assumption | omega)⟩ dX12_greater_2 (by decide) rfl (fun h_1 => ?_) (fun h_1 => ?_)
  · skip
    refine g_iload_n cx (pc2 := 10) 1 rfl dX12_greater_9 rfl ?_
    exact g_iret cx qx dX12_greater_10 ⟨congrArg (fun q => some (Value.int (iI q))) (by first | rfl | omega), by rfl⟩
  · skip
    refine g_iload_n cx (pc2 := 6) 0 rfl dX12_greater_5 rfl ?_
    refine g_goto cx (tgt := 10) dX12_greater_6 (by decide) ?_
    exact g_iret cx qx dX12_greater_10 ⟨congrArg (fun q => some (Value.int (iI q))) (by first | rfl | omega), by rfl⟩
set_option maxHeartbeats 4000000 in
set_option maxRecDepth 100000 in
theorem c_X12_far {n : Nat} (hn : NN n) {M : Mm} (a b : Int) (ha : 0 ≤ a ∧ a ≤ 1000) (hb : 0 ≤ b ∧ b ≤ 1000) : CT yX12_far cX12_far 2 (some .int) ({ frames := 0, cells := 0, slots := 0, locals := 0 }) n [.int (iI a), .int (iI b)] M (rI (if a < b then b - a else a - b) M) := by
  refine CT.of (lv0 := [(0, .int (iI a)), (1, .int (iI b))]) (by decide +kernel) hn (fun _ => rfl) (fun _ => Nat.le_of_ble_eq_true rfl) (fun X cx cs qx => ?_)
  have cx : Cx X cX12_far RX12 ({ frames := 0, cells := 0, slots := 0, locals := 0 }) 2 n := cx
  refine g_iload_n cx (pc2 := 1) 0 rfl dX12_far_0 rfl ?_
  refine g_iload_n cx (pc2 := 2) 1 rfl dX12_far_1 rfl ?_
  refine g_icmp_ge cx (pc2 := 5) (tgt := 11) ⟨(by first | assumption | omega), (by first | assumption | omega)⟩ dX12_far_2 (by decide) rfl (fun h_1 => ?_) (fun h_1 => ?_)
  · skip
    refine g_iload_n cx (pc2 := 12) 0 rfl dX12_far_11 rfl ?_
    refine g_iload_n cx (pc2 := 13) 1 rfl dX12_far_12 rfl ?_
    refine g_isub cx (pc2 := 14) dX12_far_13 rfl ?_
    exact g_iret cx qx dX12_far_14 ⟨congrArg (fun q => some (Value.int (iI q))) (by first | (rw [if_pos (by omega)]; done) | (rw [if_neg (by omega)]; done)), by rfl⟩
  · skip
    refine g_iload_n cx (pc2 := 6) 1 rfl dX12_far_5 rfl ?_
    refine g_iload_n cx (pc2 := 7) 0 rfl dX12_far_6 rfl ?_
    refine g_isub cx (pc2 := 8) dX12_far_7 rfl ?_
    refine g_goto cx (tgt := 14) dX12_far_8 (by decide) ?_
    exact g_iret cx qx dX12_far_14 ⟨congrArg (fun q => some (Value.int (iI q))) (by first | (rw [if_pos (by omega)]; done) | (rw [if_neg (by omega)]; done)), by rfl⟩
set_option maxHeartbeats 4000000 in
set_option maxRecDepth 100000 in
theorem c_X12_meets {n : Nat} (hn : NN n) {M : Mm} (f : Int) (hf : 1 ≤ f ∧ f ≤ 5) : CT yX12_meets cX12_meets 2 (some .int) ({ frames := 0, cells := 0, slots := 0, locals := 0 }) n [.ref 77, .int (iI f)] M (rI ((-3)) (mtM M f)) := by
  refine CT.of (lv0 := [(0, .ref 77), (1, .int (iI f))]) (by decide +kernel) hn (fun _ => rfl) (fun _ => Nat.le_of_ble_eq_true rfl) (fun X cx cs qx => ?_)
  have cx : Cx X cX12_meets RX12 ({ frames := 0, cells := 0, slots := 0, locals := 0 }) 2 n := cx
  refine g_aload_n cx (pc2 := 1) 0 rfl dX12_meets_0 rfl ?_
  refine g_iload_n cx (pc2 := 2) 1 rfl dX12_meets_1 rfl ?_
  refine g_puti cx (pc2 := 5) (ci := 12) (k0 := 77) (j := 0) rfl iwX12 rfl (lt_lit hn (Nat.le_of_ble_eq_true rfl)) rfl (Nat.le_of_ble_eq_true rfl) kf_X12_93 rfl tyX12_ok nmX12 rfl rfl dX12_meets_2 rfl ?_
  refine g_aload_n cx (pc2 := 6) 0 rfl dX12_meets_5 rfl ?_
  refine g_get cx (pc2 := 9) (ci := 12) (k0 := 77) (j := 1) (v := .ref 78) rfl iwX12 rfl (lt_lit hn (Nat.le_of_ble_eq_true rfl)) rfl (Nat.le_of_ble_eq_true rfl) kf_X12_7 rfl rfl dX12_meets_6 rfl ?_
  refine g_iload_n cx (pc2 := 10) 1 rfl dX12_meets_9 rfl ?_
  refine g_dup2 cx (pc2 := 11) rfl rfl dX12_meets_10 rfl ?_
  refine g_iald cx (pc2 := 12) (k0 := 78) rfl (lt_lit hn (Nat.le_of_ble_eq_true rfl)) (by first | assumption | omega) (by first | assumption | omega) (Nat.le_of_ble_eq_true rfl) dX12_meets_11 rfl ?_
  refine g_rwi (y := iI (M 78 ((f).toNat))) (congrArg iI (by simp [stM])) ?_
  refine g_iconst cx (pc2 := 13) dX12_meets_12 rfl ?_
  refine g_iadd cx (pc2 := 14) dX12_meets_13 rfl ?_
  refine g_iast cx (pc2 := 15) (k0 := 78) rfl (lt_lit hn (Nat.le_of_ble_eq_true rfl)) (by first | assumption | omega) (by first | assumption | omega) (Nat.le_of_ble_eq_true rfl) dX12_meets_14 rfl ?_
  refine g_bipush cx (pc2 := 17) ⟨by decide, by decide⟩ dX12_meets_15 rfl ?_
  exact g_iret cx qx dX12_meets_17 ⟨congrArg (fun q => some (Value.int (iI q))) (by first | rfl | omega), by rfl⟩
set_option maxHeartbeats 4000000 in
set_option maxRecDepth 100000 in
theorem c_X12_finding {n : Nat} (hn : NN n) {M : Mm} : CT yX12_finding cX12_finding 1 (some .int) ({ frames := 0, cells := 0, slots := 0, locals := 0 }) n [.ref 77] M (rI (M 77 0) M) := by
  refine CT.of (lv0 := [(0, .ref 77)]) (by decide +kernel) hn (fun _ => rfl) (fun _ => Nat.le_of_ble_eq_true rfl) (fun X cx cs qx => ?_)
  have cx : Cx X cX12_finding RX12 ({ frames := 0, cells := 0, slots := 0, locals := 0 }) 1 n := cx
  refine g_aload_n cx (pc2 := 1) 0 rfl dX12_finding_0 rfl ?_
  refine g_get cx (pc2 := 4) (ci := 12) (k0 := 77) (j := 0) (v := .int (iI (M 77 0))) rfl iwX12 rfl (lt_lit hn (Nat.le_of_ble_eq_true rfl)) rfl (Nat.le_of_ble_eq_true rfl) kf_X12_93 rfl rfl dX12_finding_1 rfl ?_
  exact g_iret cx qx dX12_finding_4 ⟨congrArg (fun q => some (Value.int (iI q))) (by first | rfl | omega), by rfl⟩
set_option maxHeartbeats 4000000 in
set_option maxRecDepth 100000 in
theorem c_X12_findings {n : Nat} (hn : NN n) {M : Mm} (f : Int) (hf : ir f) : CT yX12_findings cX12_findings 2 (some .int) ({ frames := 1, cells := 0, slots := 0, locals := 22 }) n [.ref 77, .int (iI f)] M (rI (if 1 ≤ f ∧ f ≤ 5 then M 78 f.toNat else -1) M) := by
  refine CT.of (lv0 := [(0, .ref 77), (1, .int (iI f))]) (by decide +kernel) hn (fun _ => rfl) (fun _ => Nat.le_of_ble_eq_true rfl) (fun X cx cs qx => ?_)
  have cx : Cx X cX12_findings RX12 ({ frames := 1, cells := 0, slots := 0, locals := 22 }) 2 n := cx
  refine g_iload_n cx (pc2 := 1) 1 rfl dX12_findings_0 rfl ?_
  refine g_iconst cx (pc2 := 2) dX12_findings_1 rfl ?_
  refine g_iconst cx (pc2 := 3) dX12_findings_2 rfl ?_
  refine g_callS cx (pc2 := 6) (st := []) (As := [.int (iI f), .int (iI 1), .int (iI 5)]) (c_X12_in (M := M) hn f 1 5 (by first | assumption | omega) (by first | assumption | omega) (by first | assumption | omega)) wM_X12_in wS_X12_in kl_X12_97 ⟨rfl, rfl, Nat.le_of_ble_eq_true rfl, Nat.le_of_ble_eq_true rfl⟩ (Nat.le_of_ble_eq_true rfl) cs rfl rfl dX12_findings_3 rfl ?_
  rintro _ _ ⟨rfl, rfl⟩
  refine g_ifb_eq cx (pc2 := 9) (tgt := 18) dX12_findings_6 (by decide) rfl (fun h_1 => ?_) (fun h_1 => ?_)
  · skip
    refine g_iconst cx (pc2 := 19) dX12_findings_18 rfl ?_
    exact g_iret cx qx dX12_findings_19 ⟨congrArg (fun q => some (Value.int (iI q))) (by first | (rw [if_pos (by omega)]; done) | (rw [if_neg (by omega)]; done)), by rfl⟩
  · skip
    refine g_aload_n cx (pc2 := 10) 0 rfl dX12_findings_9 rfl ?_
    refine g_get cx (pc2 := 13) (ci := 12) (k0 := 77) (j := 1) (v := .ref 78) rfl iwX12 rfl (lt_lit hn (Nat.le_of_ble_eq_true rfl)) rfl (Nat.le_of_ble_eq_true rfl) kf_X12_7 rfl rfl dX12_findings_10 rfl ?_
    refine g_iload_n cx (pc2 := 14) 1 rfl dX12_findings_13 rfl ?_
    refine g_iald cx (pc2 := 15) (k0 := 78) rfl (lt_lit hn (Nat.le_of_ble_eq_true rfl)) (by first | assumption | omega) (by first | assumption | omega) (Nat.le_of_ble_eq_true rfl) dX12_findings_14 rfl ?_
    refine g_rwi (y := iI (M 78 ((f).toNat))) (congrArg iI (by simp [stM])) ?_
    refine g_goto cx (tgt := 19) dX12_findings_15 (by decide) ?_
    exact g_iret cx qx dX12_findings_19 ⟨congrArg (fun q => some (Value.int (iI q))) (by first | (rw [if_pos (by omega)]; done) | (rw [if_neg (by omega)]; done)), by rfl⟩
set_option maxHeartbeats 4000000 in
set_option maxRecDepth 100000 in
theorem c_X12_tells {n : Nat} (hn : NN n) {M : Mm} (v a : Int) : CT yX12_tells cX12_tells 3 (some .int) ({ frames := 0, cells := 0, slots := 0, locals := 0 }) n [.ref 77, .int (iI v), .int (iI a)] M (rI (a) (tlM M v)) := by
  refine CT.of (lv0 := [(0, .ref 77), (1, .int (iI v)), (2, .int (iI a))]) (by decide +kernel) hn (fun _ => rfl) (fun _ => Nat.le_of_ble_eq_true rfl) (fun X cx cs qx => ?_)
  have cx : Cx X cX12_tells RX12 ({ frames := 0, cells := 0, slots := 0, locals := 0 }) 3 n := cx
  refine g_aload_n cx (pc2 := 1) 0 rfl dX12_tells_0 rfl ?_
  refine g_iload_n cx (pc2 := 2) 1 rfl dX12_tells_1 rfl ?_
  refine g_puti cx (pc2 := 5) (ci := 12) (k0 := 77) (j := 2) rfl iwX12 rfl (lt_lit hn (Nat.le_of_ble_eq_true rfl)) rfl (Nat.le_of_ble_eq_true rfl) kf_X12_101 rfl tyX12_ok nmX12 rfl rfl dX12_tells_2 rfl ?_
  refine g_iload_n cx (pc2 := 6) 2 rfl dX12_tells_5 rfl ?_
  exact g_iret cx qx dX12_tells_6 ⟨congrArg (fun q => some (Value.int (iI q))) (by first | rfl | omega), by rfl⟩
set_option maxHeartbeats 4000000 in
set_option maxRecDepth 100000 in
theorem c_X12_asked {n : Nat} (hn : NN n) {M : Mm} : CT yX12_asked cX12_asked 1 (some .int) ({ frames := 0, cells := 0, slots := 0, locals := 0 }) n [.ref 77] M (rI (M 77 2) M) := by
  refine CT.of (lv0 := [(0, .ref 77)]) (by decide +kernel) hn (fun _ => rfl) (fun _ => Nat.le_of_ble_eq_true rfl) (fun X cx cs qx => ?_)
  have cx : Cx X cX12_asked RX12 ({ frames := 0, cells := 0, slots := 0, locals := 0 }) 1 n := cx
  refine g_aload_n cx (pc2 := 1) 0 rfl dX12_asked_0 rfl ?_
  refine g_get cx (pc2 := 4) (ci := 12) (k0 := 77) (j := 2) (v := .int (iI (M 77 2))) rfl iwX12 rfl (lt_lit hn (Nat.le_of_ble_eq_true rfl)) rfl (Nat.le_of_ble_eq_true rfl) kf_X12_101 rfl rfl dX12_asked_1 rfl ?_
  exact g_iret cx qx dX12_asked_4 ⟨congrArg (fun q => some (Value.int (iI q))) (by first | rfl | omega), by rfl⟩
set_option maxHeartbeats 4000000 in
set_option maxRecDepth 100000 in
theorem c_X12_upper {n : Nat} (hn : NN n) {M : Mm} : CT yX12_upper cX12_upper 1 (some .long) ({ frames := 0, cells := 0, slots := 0, locals := 0 }) n [.ref 77] M (rL (M 77 3) M) := by
  refine CT.of (lv0 := [(0, .ref 77)]) (by decide +kernel) hn (fun _ => rfl) (fun _ => Nat.le_of_ble_eq_true rfl) (fun X cx cs qx => ?_)
  have cx : Cx X cX12_upper RX12 ({ frames := 0, cells := 0, slots := 0, locals := 0 }) 1 n := cx
  refine g_aload_n cx (pc2 := 1) 0 rfl dX12_upper_0 rfl ?_
  refine g_get cx (pc2 := 4) (ci := 12) (k0 := 77) (j := 3) (v := .long (lI (M 77 3))) rfl iwX12 rfl (lt_lit hn (Nat.le_of_ble_eq_true rfl)) rfl (Nat.le_of_ble_eq_true rfl) kf_X12_104 rfl rfl dX12_upper_1 rfl ?_
  exact g_lret cx qx dX12_upper_4 ⟨congrArg (fun q => some (Value.long (lI q))) (by first | rfl | omega), by rfl⟩
set_option maxHeartbeats 4000000 in
set_option maxRecDepth 100000 in
theorem c_X12_lower {n : Nat} (hn : NN n) {M : Mm} : CT yX12_lower cX12_lower 1 (some .long) ({ frames := 0, cells := 0, slots := 0, locals := 0 }) n [.ref 77] M (rL (M 77 4) M) := by
  refine CT.of (lv0 := [(0, .ref 77)]) (by decide +kernel) hn (fun _ => rfl) (fun _ => Nat.le_of_ble_eq_true rfl) (fun X cx cs qx => ?_)
  have cx : Cx X cX12_lower RX12 ({ frames := 0, cells := 0, slots := 0, locals := 0 }) 1 n := cx
  refine g_aload_n cx (pc2 := 1) 0 rfl dX12_lower_0 rfl ?_
  refine g_get cx (pc2 := 4) (ci := 12) (k0 := 77) (j := 4) (v := .long (lI (M 77 4))) rfl iwX12 rfl (lt_lit hn (Nat.le_of_ble_eq_true rfl)) rfl (Nat.le_of_ble_eq_true rfl) kf_X12_89 rfl rfl dX12_lower_1 rfl ?_
  exact g_lret cx qx dX12_lower_4 ⟨congrArg (fun q => some (Value.long (lI q))) (by first | rfl | omega), by rfl⟩
set_option maxHeartbeats 4000000 in
set_option maxRecDepth 100000 in
theorem c_X12_fraction {n : Nat} (hn : NN n) {M : Mm} (u l a : Int) (hu : 0 ≤ u ∧ u < 1000000000000) (hl : 0 < l ∧ l < 1000000000000) : CT yX12_fraction cX12_fraction 12 (some .int) ({ frames := 0, cells := 0, slots := 0, locals := 0 }) n [.ref 77, .long (lI u), .long (lI l), .int (iI a)] M (rI (a) (rfM M u l)) := by
  refine CT.of (lv0 := [(0, .ref 77), (1, .long (lI u)), (3, .long (lI l)), (5, .int (iI a))]) (by decide +kernel) hn (fun _ => rfl) (fun _ => Nat.le_of_ble_eq_true rfl) (fun X cx cs qx => ?_)
  have cx : Cx X cX12_fraction RX12 ({ frames := 0, cells := 0, slots := 0, locals := 0 }) 12 n := cx
  have hg1 := gcN_pos (u := u) hl.1
  have hg2 := gcN_le (u := u) hl.1
  refine g_lload_n cx (pc2 := 1) 1 rfl dX12_fraction_0 rfl ?_
  refine g_lstore cx (pc2 := 3) (lv2 := [(0, .ref 77), (1, .long (lI u)), (3, .long (lI l)), (5, .int (iI a)), (6, .long (lI u))]) rfl (Nat.le_of_ble_eq_true rfl) dX12_fraction_1 rfl ?_
  refine g_lload_n cx (pc2 := 4) 2 rfl dX12_fraction_3 rfl ?_
  refine g_lstore cx (pc2 := 6) (lv2 := [(0, .ref 77), (1, .long (lI u)), (3, .long (lI l)), (5, .int (iI a)), (6, .long (lI u)), (8, .long (lI l))]) rfl (Nat.le_of_ble_eq_true rfl) dX12_fraction_4 rfl ?_
  have L6 : ∀ (fu : Nat) (x : Int) (y : Int), (0 ≤ x ∧ x < 1000000000000) → (0 ≤ y ∧ y < 1000000000000) → (gcN x y = gcN u l) → y.toNat ≤ fu → G X 6 [(0, .ref 77), (1, .long (lI u)), (3, .long (lI l)), (5, .int (iI a)), (6, .long (lI x)), (8, .long (lI y))] [] M := by
    intro fu
    induction fu using Nat.strongRecOn with
    | _ fu ih6 =>
      intro x y hx hy hg hk6
      have hm0 : ¬ y = 0 → 0 ≤ x % y ∧ x % y < y := fun q => ⟨Int.emod_nonneg x q, Int.emod_lt_of_pos x (by omega)⟩
      refine g_lload cx (pc2 := 8) 5 rfl dX12_fraction_6 rfl ?_
      refine g_lconst cx (pc2 := 9) 0 rfl dX12_fraction_8 rfl ?_
      refine g_lcmp cx (pc2 := 10) ⟨(by constructor <;> omega), (by constructor <;> omega)⟩ dX12_fraction_9 rfl ?_
      refine g_rwi (y := iI (if y = 0 then 0 else 1)) (congrArg iI (by by_cases q : y = 0; rw [if_neg (by omega), if_pos q, if_pos q]; rw [if_pos (by omega), if_neg q])) ?_
      refine g_if_eq cx (pc2 := 13) (tgt := 31) (by constructor <;> split <;> omega) dX12_fraction_10 (by decide) rfl (fun h_1 => ?_) (fun h_1 => ?_)
      · skip
        have hy0 : y = 0 := by split at h_1 <;> omega
        have hxg : x = gcN u l := by rw [← hg, hy0, gcN_0 hx.1]
        refine g_aload_n cx (pc2 := 32) 0 rfl dX12_fraction_31 rfl ?_
        refine g_lload_n cx (pc2 := 33) 1 rfl dX12_fraction_32 rfl ?_
        refine g_lload cx (pc2 := 35) 4 rfl dX12_fraction_33 rfl ?_
        refine g_ldiv cx (pc2 := 36) (by exact ⟨⟨by omega, by omega⟩, ⟨by omega, by omega⟩, by omega, by omega⟩) dX12_fraction_35 rfl ?_
        refine g_putl cx (pc2 := 39) (ci := 12) (k0 := 77) (j := 3) rfl iwX12 rfl (lt_lit hn (Nat.le_of_ble_eq_true rfl)) rfl (Nat.le_of_ble_eq_true rfl) kf_X12_104 rfl tyX12_ok nmX12 rfl rfl dX12_fraction_36 rfl ?_
        refine g_aload_n cx (pc2 := 40) 0 rfl dX12_fraction_39 rfl ?_
        refine g_lload_n cx (pc2 := 41) 2 rfl dX12_fraction_40 rfl ?_
        refine g_lload cx (pc2 := 43) 4 rfl dX12_fraction_41 rfl ?_
        refine g_ldiv cx (pc2 := 44) (by exact ⟨⟨by omega, by omega⟩, ⟨by omega, by omega⟩, by omega, by omega⟩) dX12_fraction_43 rfl ?_
        refine g_putl cx (pc2 := 47) (ci := 12) (k0 := 77) (j := 4) rfl iwX12 rfl (lt_lit hn (Nat.le_of_ble_eq_true rfl)) rfl (Nat.le_of_ble_eq_true rfl) kf_X12_89 rfl tyX12_ok nmX12 rfl rfl dX12_fraction_44 rfl ?_
        refine g_iload cx (pc2 := 49) 3 rfl dX12_fraction_47 rfl ?_
        exact g_iret cx qx dX12_fraction_49 ⟨congrArg (fun q => some (Value.int (iI q))) (by rfl), by unfold rfM; rw [hxg]⟩
      · skip
        have hy0 : ¬ y = 0 := by split at h_1 <;> omega
        have hm1 := hm0 hy0
        refine g_lload cx (pc2 := 15) 4 rfl dX12_fraction_13 rfl ?_
        refine g_lload cx (pc2 := 17) 5 rfl dX12_fraction_15 rfl ?_
        refine g_lrem cx (pc2 := 18) (by exact ⟨⟨by omega, by omega⟩, ⟨by omega, by omega⟩, hy0, by omega⟩) dX12_fraction_17 rfl ?_
        refine g_rwl (y := lI (x % y)) (congrArg lI (tdm (by omega) (by omega))) ?_
        refine g_lstore cx (pc2 := 20) (lv2 := [(0, .ref 77), (1, .long (lI u)), (3, .long (lI l)), (5, .int (iI a)), (6, .long (lI x)), (8, .long (lI y)), (10, .long (lI (x % y)))]) rfl (Nat.le_of_ble_eq_true rfl) dX12_fraction_18 rfl ?_
        refine g_lload cx (pc2 := 22) 5 rfl dX12_fraction_20 rfl ?_
        refine g_lstore cx (pc2 := 24) (lv2 := [(0, .ref 77), (1, .long (lI u)), (3, .long (lI l)), (5, .int (iI a)), (6, .long (lI y)), (8, .long (lI y)), (10, .long (lI (x % y)))]) rfl (Nat.le_of_ble_eq_true rfl) dX12_fraction_22 rfl ?_
        refine g_lload cx (pc2 := 26) 6 rfl dX12_fraction_24 rfl ?_
        refine g_lstore cx (pc2 := 28) (lv2 := [(0, .ref 77), (1, .long (lI u)), (3, .long (lI l)), (5, .int (iI a)), (6, .long (lI y)), (8, .long (lI (x % y))), (10, .long (lI (x % y)))]) rfl (Nat.le_of_ble_eq_true rfl) dX12_fraction_26 rfl ?_
        refine g_goto cx (tgt := 6) dX12_fraction_28 (by decide) ?_
        refine g_sub (lv2 := [(0, .ref 77), (1, .long (lI u)), (3, .long (lI l)), (5, .int (iI a)), (6, .long (lI y)), (8, .long (lI (x % y)))]) [0, 1, 2, 3, 4, 5] rfl ?_
        exact ih6 ((x % y).toNat) (by omega) y (x % y) (by first | assumption | omega) (by first | assumption | omega) (by rw [← hg]; exact (gcN_s hx.1 hy.1).symm) (Nat.le_refl _)
  exact L6 _ u l (by first | assumption | omega) (by first | assumption | omega) (by rfl) (Nat.le_refl _)
set_option maxHeartbeats 4000000 in
set_option maxRecDepth 100000 in
theorem c_X12_isRow {n : Nat} (hn : NN n) {M : Mm} (r : Int) (hr : ir r) : CT yX12_isRow cX12_isRow 1 (some .boolean) ({ frames := 1, cells := 0, slots := 0, locals := 22 }) n [.int (iI r)] M (rI (b2 (R6 r)) M) := by
  refine CT.of (lv0 := [(0, .int (iI r))]) (by decide +kernel) hn (fun _ => rfl) (fun _ => Nat.le_of_ble_eq_true rfl) (fun X cx cs qx => ?_)
  have cx : Cx X cX12_isRow RX12 ({ frames := 1, cells := 0, slots := 0, locals := 22 }) 1 n := cx
  refine g_iload_n cx (pc2 := 1) 0 rfl dX12_isRow_0 rfl ?_
  refine g_iconst cx (pc2 := 2) dX12_isRow_1 rfl ?_
  refine g_iconst cx (pc2 := 3) dX12_isRow_2 rfl ?_
  refine g_callS cx (pc2 := 6) (st := []) (As := [.int (iI r), .int (iI 0), .int (iI 5)]) (c_X12_in (M := M) hn r 0 5 (by first | assumption | omega) (by first | assumption | omega) (by first | assumption | omega)) wM_X12_in wS_X12_in kl_X12_97 ⟨rfl, rfl, Nat.le_of_ble_eq_true rfl, Nat.le_of_ble_eq_true rfl⟩ (Nat.le_of_ble_eq_true rfl) cs rfl rfl dX12_isRow_3 rfl ?_
  rintro _ _ ⟨rfl, rfl⟩
  exact g_zret cx (b2_01 _) qx dX12_isRow_6 ⟨rb_i (by unfold R6; omega), by rfl⟩
set_option maxHeartbeats 4000000 in
set_option maxRecDepth 100000 in
theorem c_X12_isText {n : Nat} (hn : NN n) {M : Mm} (r : Int) (hr : ir r) : CT yX12_isText cX12_isText 1 (some .boolean) ({ frames := 1, cells := 0, slots := 0, locals := 22 }) n [.int (iI r)] M (rI (b2 (T4 r)) M) := by
  refine CT.of (lv0 := [(0, .int (iI r))]) (by decide +kernel) hn (fun _ => rfl) (fun _ => Nat.le_of_ble_eq_true rfl) (fun X cx cs qx => ?_)
  have cx : Cx X cX12_isText RX12 ({ frames := 1, cells := 0, slots := 0, locals := 22 }) 1 n := cx
  refine g_iload_n cx (pc2 := 1) 0 rfl dX12_isText_0 rfl ?_
  refine g_iconst cx (pc2 := 2) dX12_isText_1 rfl ?_
  refine g_iconst cx (pc2 := 3) dX12_isText_2 rfl ?_
  refine g_callS cx (pc2 := 6) (st := []) (As := [.int (iI r), .int (iI 0), .int (iI 3)]) (c_X12_in (M := M) hn r 0 3 (by first | assumption | omega) (by first | assumption | omega) (by first | assumption | omega)) wM_X12_in wS_X12_in kl_X12_97 ⟨rfl, rfl, Nat.le_of_ble_eq_true rfl, Nat.le_of_ble_eq_true rfl⟩ (Nat.le_of_ble_eq_true rfl) cs rfl rfl dX12_isText_3 rfl ?_
  rintro _ _ ⟨rfl, rfl⟩
  exact g_zret cx (b2_01 _) qx dX12_isText_6 ⟨rb_i (by unfold T4; omega), by rfl⟩
set_option maxHeartbeats 4000000 in
set_option maxRecDepth 100000 in
theorem c_X12_rowAt {n : Nat} (hn : NN n) {M : Mm} (r i : Int) (hr : R6 r) (hi : 0 ≤ i ∧ i < 60) : CT yX12_rowAt cX12_rowAt 3 (some .int) ({ frames := 0, cells := 0, slots := 0, locals := 0 }) n [.ref 77, .int (iI r), .int (iI i)] M (rI (rcA M r i) M) := by
  refine CT.of (lv0 := [(0, .ref 77), (1, .int (iI r)), (2, .int (iI i))]) (by decide +kernel) hn (fun _ => rfl) (fun _ => Nat.le_of_ble_eq_true rfl) (fun X cx cs qx => ?_)
  have cx : Cx X cX12_rowAt RX12 ({ frames := 0, cells := 0, slots := 0, locals := 0 }) 3 n := cx
  refine g_aload_n cx (pc2 := 1) 0 rfl dX12_rowAt_0 rfl ?_
  refine g_get cx (pc2 := 4) (ci := 12) (k0 := 77) (j := 6) (v := .ref 80) rfl iwX12 rfl (lt_lit hn (Nat.le_of_ble_eq_true rfl)) rfl (Nat.le_of_ble_eq_true rfl) kf_X12_16 rfl rfl dX12_rowAt_1 rfl ?_
  refine g_bipush cx (pc2 := 6) ⟨by decide, by decide⟩ dX12_rowAt_4 rfl ?_
  refine g_iload_n cx (pc2 := 7) 1 rfl dX12_rowAt_6 rfl ?_
  refine g_imul cx (pc2 := 8) dX12_rowAt_7 rfl ?_
  refine g_iload_n cx (pc2 := 9) 2 rfl dX12_rowAt_8 rfl ?_
  refine g_iadd cx (pc2 := 10) dX12_rowAt_9 rfl ?_
  refine g_iald cx (pc2 := 11) (k0 := 80) rfl (lt_lit hn (Nat.le_of_ble_eq_true rfl)) (by first | assumption | omega) (by first | assumption | omega) (Nat.le_of_ble_eq_true rfl) dX12_rowAt_10 rfl ?_
  refine g_rwi (y := iI (M 80 (((60 * r) + i).toNat))) (congrArg iI (by simp [stM])) ?_
  exact g_iret cx qx dX12_rowAt_11 ⟨congrArg (fun q => some (Value.int (iI q))) (by first | rfl | omega), by rfl⟩
set_option maxHeartbeats 4000000 in
set_option maxRecDepth 100000 in
theorem c_X12_byteAt {n : Nat} (hn : NN n) {M : Mm} (t i : Int) (ht : T4 t) (hs : -1 ≤ M 82 t.toNat ∧ M 82 t.toNat ≤ 120) (hi : 0 ≤ i ∧ i < 1000) : CT yX12_byteAt cX12_byteAt 3 (some .int) ({ frames := 0, cells := 0, slots := 0, locals := 0 }) n [.ref 77, .int (iI t), .int (iI i)] M (rI (btA M t i) M) := by
  refine CT.of (lv0 := [(0, .ref 77), (1, .int (iI t)), (2, .int (iI i))]) (by decide +kernel) hn (fun _ => rfl) (fun _ => Nat.le_of_ble_eq_true rfl) (fun X cx cs qx => ?_)
  have cx : Cx X cX12_byteAt RX12 ({ frames := 0, cells := 0, slots := 0, locals := 0 }) 3 n := cx
  refine g_iload_n cx (pc2 := 1) 2 rfl dX12_byteAt_0 rfl ?_
  refine g_aload_n cx (pc2 := 2) 0 rfl dX12_byteAt_1 rfl ?_
  refine g_get cx (pc2 := 5) (ci := 12) (k0 := 77) (j := 8) (v := .ref 82) rfl iwX12 rfl (lt_lit hn (Nat.le_of_ble_eq_true rfl)) rfl (Nat.le_of_ble_eq_true rfl) kf_X12_22 rfl rfl dX12_byteAt_2 rfl ?_
  refine g_iload_n cx (pc2 := 6) 1 rfl dX12_byteAt_5 rfl ?_
  refine g_iald cx (pc2 := 7) (k0 := 82) rfl (lt_lit hn (Nat.le_of_ble_eq_true rfl)) (by first | assumption | omega) (by first | assumption | omega) (Nat.le_of_ble_eq_true rfl) dX12_byteAt_6 rfl ?_
  refine g_rwi (y := iI (M 82 ((t).toNat))) (congrArg iI (by simp [stM])) ?_
  refine g_icmp_ge cx (pc2 := 10) (tgt := 24) ⟨(by first | assumption | omega), (by first | assumption | omega)⟩ dX12_byteAt_7 (by decide) rfl (fun h_1 => ?_) (fun h_1 => ?_)
  · skip
    refine g_iconst cx (pc2 := 25) dX12_byteAt_24 rfl ?_
    exact g_iret cx qx dX12_byteAt_25 ⟨congrArg (fun q => some (Value.int (iI q))) (by unfold btA; (repeat (first | rw [if_pos (by first | assumption | omega)] | rw [if_neg (by first | assumption | exact not_not_intro (by assumption) | omega)])); first | done | rfl | (symm; assumption)), by rfl⟩
  · skip
    refine g_aload_n cx (pc2 := 11) 0 rfl dX12_byteAt_10 rfl ?_
    refine g_get cx (pc2 := 14) (ci := 12) (k0 := 77) (j := 9) (v := .ref 83) rfl iwX12 rfl (lt_lit hn (Nat.le_of_ble_eq_true rfl)) rfl (Nat.le_of_ble_eq_true rfl) kf_X12_25 rfl rfl dX12_byteAt_11 rfl ?_
    refine g_bipush cx (pc2 := 16) ⟨by decide, by decide⟩ dX12_byteAt_14 rfl ?_
    refine g_iload_n cx (pc2 := 17) 1 rfl dX12_byteAt_16 rfl ?_
    refine g_imul cx (pc2 := 18) dX12_byteAt_17 rfl ?_
    refine g_iload_n cx (pc2 := 19) 2 rfl dX12_byteAt_18 rfl ?_
    refine g_iadd cx (pc2 := 20) dX12_byteAt_19 rfl ?_
    refine g_bald cx (pc2 := 21) (k0 := 83) rfl (lt_lit hn (Nat.le_of_ble_eq_true rfl)) (by first | assumption | omega) (by first | assumption | omega) (Nat.le_of_ble_eq_true rfl) dX12_byteAt_20 rfl ?_
    refine g_rwi (y := iI (M 83 (((120 * t) + i).toNat))) (congrArg iI (by simp [stM])) ?_
    refine g_goto cx (tgt := 25) dX12_byteAt_21 (by decide) ?_
    exact g_iret cx qx dX12_byteAt_25 ⟨congrArg (fun q => some (Value.int (iI q))) (by unfold btA; (repeat (first | rw [if_pos (by first | assumption | omega)] | rw [if_neg (by first | assumption | exact not_not_intro (by assumption) | omega)])); first | done | rfl | (symm; assumption)), by rfl⟩
set_option maxHeartbeats 4000000 in
set_option maxRecDepth 100000 in
theorem c_X12_row {n : Nat} (hn : NN n) {M : Mm} (r q : Int) (hr : ir r) (hq : ir q) : CT yX12_row cX12_row 4 (some .int) ({ frames := 2, cells := 0, slots := 0, locals := 42 }) n [.ref 77, .int (iI r), .int (iI q)] M (rI (rowA r q) (xrowM M r q)) := by
  refine CT.of (lv0 := [(0, .ref 77), (1, .int (iI r)), (2, .int (iI q))]) (by decide +kernel) hn (fun _ => rfl) (fun _ => Nat.le_of_ble_eq_true rfl) (fun X cx cs qx => ?_)
  have cx : Cx X cX12_row RX12 ({ frames := 2, cells := 0, slots := 0, locals := 42 }) 4 n := cx
  refine g_iload_n cx (pc2 := 1) 1 rfl dX12_row_0 rfl ?_
  refine g_callS cx (pc2 := 4) (st := []) (As := [.int (iI r)]) (c_X12_isRow (M := M) hn r (by first | assumption | omega)) wM_X12_isRow wS_X12_isRow kl_X12_107 ⟨rfl, rfl, Nat.le_of_ble_eq_true rfl, Nat.le_of_ble_eq_true rfl⟩ (Nat.le_of_ble_eq_true rfl) cs rfl rfl dX12_row_1 rfl ?_
  rintro _ _ ⟨rfl, rfl⟩
  refine g_ifb_eq cx (pc2 := 7) (tgt := 13) dX12_row_4 (by decide) rfl (fun h_1 => ?_) (fun h_1 => ?_)
  · skip
    refine g_iconst cx (pc2 := 14) dX12_row_13 rfl ?_
    exact g_iret cx qx dX12_row_14 ⟨congrArg (fun q => some (Value.int (iI q))) (by unfold rowA; (repeat (first | rw [if_pos (by first | assumption | omega)] | rw [if_neg (by first | assumption | exact not_not_intro (by assumption) | omega)])); first | done | rfl | (symm; assumption)), by unfold xrowM; first | (rw [if_neg (by omega), if_neg (by omega), show i = 60 by omega]; done) | ((repeat (first | rw [if_pos (by first | assumption | omega)] | rw [if_neg (by first | assumption | exact not_not_intro (by assumption) | omega)])); first | done | rfl | (symm; assumption))⟩
  · skip
    refine g_iload_n cx (pc2 := 8) 2 rfl dX12_row_7 rfl ?_
    refine g_bipush cx (pc2 := 10) ⟨by decide, by decide⟩ dX12_row_8 rfl ?_
    refine g_icmp_le cx (pc2 := 13) (tgt := 15) ⟨(by first | assumption | omega), ⟨by decide, by decide⟩⟩ dX12_row_10 (by decide) rfl (fun h_2 => ?_) (fun h_2 => ?_)
    · skip
      refine g_iload_n cx (pc2 := 16) 2 rfl dX12_row_15 rfl ?_
      refine g_if_ge cx (pc2 := 19) (tgt := 25) (by first | assumption | omega) dX12_row_16 (by decide) rfl (fun h_3 => ?_) (fun h_3 => ?_)
      · skip
        refine g_aload_n cx (pc2 := 26) 0 rfl dX12_row_25 rfl ?_
        refine g_get cx (pc2 := 29) (ci := 12) (k0 := 77) (j := 5) (v := .ref 79) rfl iwX12 rfl (lt_lit hn (Nat.le_of_ble_eq_true rfl)) rfl (Nat.le_of_ble_eq_true rfl) kf_X12_13 rfl rfl dX12_row_26 rfl ?_
        refine g_iload_n cx (pc2 := 30) 1 rfl dX12_row_29 rfl ?_
        refine g_iload_n cx (pc2 := 31) 2 rfl dX12_row_30 rfl ?_
        refine g_iast cx (pc2 := 32) (k0 := 79) rfl (lt_lit hn (Nat.le_of_ble_eq_true rfl)) (by first | assumption | omega) (by first | assumption | omega) (Nat.le_of_ble_eq_true rfl) dX12_row_31 rfl ?_
        refine g_iconst cx (pc2 := 33) dX12_row_32 rfl ?_
        refine g_istore_n cx (pc2 := 34) (lv2 := [(0, .ref 77), (1, .int (iI r)), (2, .int (iI q)), (3, .int (iI 0))]) rfl (Nat.le_of_ble_eq_true rfl) dX12_row_33 rfl ?_
        have L34 : ∀ (fu : Nat) (i : Int), (0 ≤ i ∧ i ≤ 60) → (60 - i).toNat ≤ fu → G X 34 [(0, .ref 77), (1, .int (iI r)), (2, .int (iI q)), (3, .int (iI i))] [] (rmP M r q i) := by
          intro fu
          induction fu using Nat.strongRecOn with
          | _ fu ih34 =>
            intro i hi hk34
            refine g_iload_n cx (pc2 := 35) 3 rfl dX12_row_34 rfl ?_
            refine g_bipush cx (pc2 := 37) ⟨by decide, by decide⟩ dX12_row_35 rfl ?_
            refine g_icmp_ge cx (pc2 := 40) (tgt := 58) ⟨(by first | assumption | omega), ⟨by decide, by decide⟩⟩ dX12_row_37 (by decide) rfl (fun h_4 => ?_) (fun h_4 => ?_)
            · skip
              refine g_iload_n cx (pc2 := 59) 2 rfl dX12_row_58 rfl ?_
              exact g_iret cx qx dX12_row_59 ⟨congrArg (fun q => some (Value.int (iI q))) (by unfold rowA; (repeat (first | rw [if_pos (by first | assumption | omega)] | rw [if_neg (by first | assumption | exact not_not_intro (by assumption) | omega)])); first | done | rfl | (symm; assumption)), by unfold xrowM; first | (rw [if_neg (by omega), if_neg (by omega), show i = 60 by omega]; done) | ((repeat (first | rw [if_pos (by first | assumption | omega)] | rw [if_neg (by first | assumption | exact not_not_intro (by assumption) | omega)])); first | done | rfl | (symm; assumption))⟩
            · skip
              refine g_aload_n cx (pc2 := 41) 0 rfl dX12_row_40 rfl ?_
              refine g_get cx (pc2 := 44) (ci := 12) (k0 := 77) (j := 6) (v := .ref 80) rfl iwX12 rfl (lt_lit hn (Nat.le_of_ble_eq_true rfl)) rfl (Nat.le_of_ble_eq_true rfl) kf_X12_16 rfl rfl dX12_row_41 rfl ?_
              refine g_bipush cx (pc2 := 46) ⟨by decide, by decide⟩ dX12_row_44 rfl ?_
              refine g_iload_n cx (pc2 := 47) 1 rfl dX12_row_46 rfl ?_
              refine g_imul cx (pc2 := 48) dX12_row_47 rfl ?_
              refine g_iload_n cx (pc2 := 49) 3 rfl dX12_row_48 rfl ?_
              refine g_iadd cx (pc2 := 50) dX12_row_49 rfl ?_
              refine g_iconst cx (pc2 := 51) dX12_row_50 rfl ?_
              refine g_iast cx (pc2 := 52) (k0 := 80) rfl (lt_lit hn (Nat.le_of_ble_eq_true rfl)) (by first | assumption | omega) (by first | assumption | omega) (Nat.le_of_ble_eq_true rfl) dX12_row_51 rfl ?_
              refine g_iinc cx (pc2 := 55) 3 rfl (lv2 := [(0, .ref 77), (1, .int (iI r)), (2, .int (iI q)), (3, .int (iI (i + 1)))]) rfl (Nat.le_of_ble_eq_true rfl) dX12_row_52 rfl ?_
              refine g_goto cx (tgt := 34) dX12_row_55 (by decide) ?_
              refine g_M (M2 := (rmP M r q (i + 1))) (by exact rmP_s (by omega) hi.1) ?_
              exact ih34 ((60 - (i + 1)).toNat) (by omega) (i + 1) (by first | assumption | omega) (Nat.le_refl _)
        refine g_M (M2 := (rmP M r q 0)) (by exact rmP_0 M r q) ?_
        exact L34 _ 0 (by first | assumption | omega) (Nat.le_refl _)
      · skip
        refine g_aload_n cx (pc2 := 20) 0 rfl dX12_row_19 rfl ?_
        refine g_iconst cx (pc2 := 21) dX12_row_20 rfl ?_
        refine g_callV cx (pc2 := 24) (st := []) (As := [.int (iI 5)]) (k0 := 77) (ci := 12) (c_X12_meets (M := M) hn 5 (by first | assumption | omega)) wM_X12_meets wV_X12_meets kl_X12_111 rfl (lt_lit hn (Nat.le_of_ble_eq_true rfl)) rfl ⟨rfl, rfl, Nat.le_of_ble_eq_true rfl, Nat.le_of_ble_eq_true rfl⟩ (Nat.le_of_ble_eq_true rfl) cs rfl rfl dX12_row_21 rfl ?_
        rintro _ _ ⟨rfl, rfl⟩
        exact g_iret cx qx dX12_row_24 ⟨congrArg (fun q => some (Value.int (iI q))) (by unfold rowA; (repeat (first | rw [if_pos (by first | assumption | omega)] | rw [if_neg (by first | assumption | exact not_not_intro (by assumption) | omega)])); first | done | rfl | (symm; assumption)), by unfold xrowM; first | (rw [if_neg (by omega), if_neg (by omega), show i = 60 by omega]; done) | ((repeat (first | rw [if_pos (by first | assumption | omega)] | rw [if_neg (by first | assumption | exact not_not_intro (by assumption) | omega)])); first | done | rfl | (symm; assumption))⟩
    · skip
      refine g_iconst cx (pc2 := 14) dX12_row_13 rfl ?_
      exact g_iret cx qx dX12_row_14 ⟨congrArg (fun q => some (Value.int (iI q))) (by unfold rowA; (repeat (first | rw [if_pos (by first | assumption | omega)] | rw [if_neg (by first | assumption | exact not_not_intro (by assumption) | omega)])); first | done | rfl | (symm; assumption)), by unfold xrowM; first | (rw [if_neg (by omega), if_neg (by omega), show i = 60 by omega]; done) | ((repeat (first | rw [if_pos (by first | assumption | omega)] | rw [if_neg (by first | assumption | exact not_not_intro (by assumption) | omega)])); first | done | rfl | (symm; assumption))⟩
set_option maxHeartbeats 4000000 in
set_option maxRecDepth 100000 in
theorem c_X12_lay {n : Nat} (hn : NN n) {M : Mm} (hQ : RQ M) (r i v : Int) (hr : ir r) (hi : ir i) : CT yX12_lay cX12_lay 5 (some .int) ({ frames := 2, cells := 0, slots := 0, locals := 42 }) n [.ref 77, .int (iI r), .int (iI i), .int (iI v)] M (rI (xlayA M r i) (xlayM M r i v)) := by
  refine CT.of (lv0 := [(0, .ref 77), (1, .int (iI r)), (2, .int (iI i)), (3, .int (iI v))]) (by decide +kernel) hn (fun _ => rfl) (fun _ => Nat.le_of_ble_eq_true rfl) (fun X cx cs qx => ?_)
  have cx : Cx X cX12_lay RX12 ({ frames := 2, cells := 0, slots := 0, locals := 42 }) 5 n := cx
  have hq1 := fun q : R6 r => hQ r.toNat (by omega)
  refine g_iload_n cx (pc2 := 1) 1 rfl dX12_lay_0 rfl ?_
  refine g_callS cx (pc2 := 4) (st := []) (As := [.int (iI r)]) (c_X12_isRow (M := M) hn r (by first | assumption | omega)) wM_X12_isRow wS_X12_isRow kl_X12_107 ⟨rfl, rfl, Nat.le_of_ble_eq_true rfl, Nat.le_of_ble_eq_true rfl⟩ (Nat.le_of_ble_eq_true rfl) cs rfl rfl dX12_lay_1 rfl ?_
  rintro _ _ ⟨rfl, rfl⟩
  refine g_ifb_ne cx (pc2 := 7) (tgt := 9) dX12_lay_4 (by decide) rfl (fun h_1 => ?_) (fun h_1 => ?_)
  · skip
    have hq2 := hq1 (by assumption)
    refine g_aload_n cx (pc2 := 10) 0 rfl dX12_lay_9 rfl ?_
    refine g_get cx (pc2 := 13) (ci := 12) (k0 := 77) (j := 5) (v := .ref 79) rfl iwX12 rfl (lt_lit hn (Nat.le_of_ble_eq_true rfl)) rfl (Nat.le_of_ble_eq_true rfl) kf_X12_13 rfl rfl dX12_lay_10 rfl ?_
    refine g_iload_n cx (pc2 := 14) 1 rfl dX12_lay_13 rfl ?_
    refine g_iald cx (pc2 := 15) (k0 := 79) rfl (lt_lit hn (Nat.le_of_ble_eq_true rfl)) (by first | assumption | omega) (by first | assumption | omega) (Nat.le_of_ble_eq_true rfl) dX12_lay_14 rfl ?_
    refine g_rwi (y := iI (M 79 ((r).toNat))) (congrArg iI (by simp [stM])) ?_
    refine g_if_ge cx (pc2 := 18) (tgt := 24) (by first | assumption | omega) dX12_lay_15 (by decide) rfl (fun h_2 => ?_) (fun h_2 => ?_)
    · skip
      refine g_iload_n cx (pc2 := 25) 2 rfl dX12_lay_24 rfl ?_
      refine g_iconst cx (pc2 := 26) dX12_lay_25 rfl ?_
      refine g_aload_n cx (pc2 := 27) 0 rfl dX12_lay_26 rfl ?_
      refine g_get cx (pc2 := 30) (ci := 12) (k0 := 77) (j := 5) (v := .ref 79) rfl iwX12 rfl (lt_lit hn (Nat.le_of_ble_eq_true rfl)) rfl (Nat.le_of_ble_eq_true rfl) kf_X12_13 rfl rfl dX12_lay_27 rfl ?_
      refine g_iload_n cx (pc2 := 31) 1 rfl dX12_lay_30 rfl ?_
      refine g_iald cx (pc2 := 32) (k0 := 79) rfl (lt_lit hn (Nat.le_of_ble_eq_true rfl)) (by first | assumption | omega) (by first | assumption | omega) (Nat.le_of_ble_eq_true rfl) dX12_lay_31 rfl ?_
      refine g_rwi (y := iI (M 79 ((r).toNat))) (congrArg iI (by simp [stM])) ?_
      refine g_iconst cx (pc2 := 33) dX12_lay_32 rfl ?_
      refine g_isub cx (pc2 := 34) dX12_lay_33 rfl ?_
      refine g_callS cx (pc2 := 37) (st := []) (As := [.int (iI i), .int (iI 0), .int (iI ((M 79 ((r).toNat)) - 1))]) (c_X12_in (M := M) hn i 0 ((M 79 ((r).toNat)) - 1) (by first | assumption | omega) (by first | assumption | omega) (by first | assumption | omega)) wM_X12_in wS_X12_in kl_X12_97 ⟨rfl, rfl, Nat.le_of_ble_eq_true rfl, Nat.le_of_ble_eq_true rfl⟩ (Nat.le_of_ble_eq_true rfl) cs rfl rfl dX12_lay_34 rfl ?_
      rintro _ _ ⟨rfl, rfl⟩
      refine g_ifb_ne cx (pc2 := 40) (tgt := 46) dX12_lay_37 (by decide) rfl (fun h_3 => ?_) (fun h_3 => ?_)
      · skip
        refine g_aload_n cx (pc2 := 47) 0 rfl dX12_lay_46 rfl ?_
        refine g_iload_n cx (pc2 := 48) 1 rfl dX12_lay_47 rfl ?_
        refine g_iload_n cx (pc2 := 49) 2 rfl dX12_lay_48 rfl ?_
        refine g_callV cx (pc2 := 52) (st := []) (As := [.int (iI r), .int (iI i)]) (k0 := 77) (ci := 12) (c_X12_rowAt (M := M) hn r i (by first | assumption | omega) (by first | assumption | omega)) wM_X12_rowAt wV_X12_rowAt kl_X12_115 rfl (lt_lit hn (Nat.le_of_ble_eq_true rfl)) rfl ⟨rfl, rfl, Nat.le_of_ble_eq_true rfl, Nat.le_of_ble_eq_true rfl⟩ (Nat.le_of_ble_eq_true rfl) cs rfl rfl dX12_lay_49 rfl ?_
        rintro _ _ ⟨rfl, rfl⟩
        refine g_istore cx (pc2 := 54) (lv2 := [(0, .ref 77), (1, .int (iI r)), (2, .int (iI i)), (3, .int (iI v)), (4, .int (iI (rcA M r i)))]) rfl (Nat.le_of_ble_eq_true rfl) dX12_lay_52 rfl ?_
        refine g_aload_n cx (pc2 := 55) 0 rfl dX12_lay_54 rfl ?_
        refine g_get cx (pc2 := 58) (ci := 12) (k0 := 77) (j := 6) (v := .ref 80) rfl iwX12 rfl (lt_lit hn (Nat.le_of_ble_eq_true rfl)) rfl (Nat.le_of_ble_eq_true rfl) kf_X12_16 rfl rfl dX12_lay_55 rfl ?_
        refine g_bipush cx (pc2 := 60) ⟨by decide, by decide⟩ dX12_lay_58 rfl ?_
        refine g_iload_n cx (pc2 := 61) 1 rfl dX12_lay_60 rfl ?_
        refine g_imul cx (pc2 := 62) dX12_lay_61 rfl ?_
        refine g_iload_n cx (pc2 := 63) 2 rfl dX12_lay_62 rfl ?_
        refine g_iadd cx (pc2 := 64) dX12_lay_63 rfl ?_
        refine g_iload_n cx (pc2 := 65) 3 rfl dX12_lay_64 rfl ?_
        refine g_iast cx (pc2 := 66) (k0 := 80) rfl (lt_lit hn (Nat.le_of_ble_eq_true rfl)) (by first | assumption | omega) (by first | assumption | omega) (Nat.le_of_ble_eq_true rfl) dX12_lay_65 rfl ?_
        refine g_aload_n cx (pc2 := 67) 0 rfl dX12_lay_66 rfl ?_
        refine g_iload cx (pc2 := 69) 4 rfl dX12_lay_67 rfl ?_
        refine g_iconst cx (pc2 := 70) dX12_lay_69 rfl ?_
        refine g_callV cx (pc2 := 73) (st := []) (As := [.int (iI (rcA M r i)), .int (iI 1)]) (k0 := 77) (ci := 12) (c_X12_tells (M := (stM M 80 (((60 * r) + i)).toNat v)) hn (rcA M r i) 1) wM_X12_tells wV_X12_tells kl_X12_119 rfl (lt_lit hn (Nat.le_of_ble_eq_true rfl)) rfl ⟨rfl, rfl, Nat.le_of_ble_eq_true rfl, Nat.le_of_ble_eq_true rfl⟩ (Nat.le_of_ble_eq_true rfl) cs rfl rfl dX12_lay_70 rfl ?_
        rintro _ _ ⟨rfl, rfl⟩
        exact g_iret cx qx dX12_lay_73 ⟨congrArg (fun q => some (Value.int (iI q))) (by unfold xlayA; (repeat (first | rw [if_pos (by first | assumption | omega)] | rw [if_neg (by first | assumption | exact not_not_intro (by assumption) | omega)])); first | done | rfl | (symm; assumption)), by unfold xlayM; (repeat (first | rw [if_pos (by first | assumption | omega)] | rw [if_neg (by first | assumption | exact not_not_intro (by assumption) | omega)])); first | done | rfl | (symm; assumption)⟩
      · skip
        refine g_aload_n cx (pc2 := 41) 0 rfl dX12_lay_40 rfl ?_
        refine g_iconst cx (pc2 := 42) dX12_lay_41 rfl ?_
        refine g_callV cx (pc2 := 45) (st := []) (As := [.int (iI 2)]) (k0 := 77) (ci := 12) (c_X12_meets (M := M) hn 2 (by first | assumption | omega)) wM_X12_meets wV_X12_meets kl_X12_111 rfl (lt_lit hn (Nat.le_of_ble_eq_true rfl)) rfl ⟨rfl, rfl, Nat.le_of_ble_eq_true rfl, Nat.le_of_ble_eq_true rfl⟩ (Nat.le_of_ble_eq_true rfl) cs rfl rfl dX12_lay_42 rfl ?_
        rintro _ _ ⟨rfl, rfl⟩
        exact g_iret cx qx dX12_lay_45 ⟨congrArg (fun q => some (Value.int (iI q))) (by unfold xlayA; (repeat (first | rw [if_pos (by first | assumption | omega)] | rw [if_neg (by first | assumption | exact not_not_intro (by assumption) | omega)])); first | done | rfl | (symm; assumption)), by unfold xlayM; (repeat (first | rw [if_pos (by first | assumption | omega)] | rw [if_neg (by first | assumption | exact not_not_intro (by assumption) | omega)])); first | done | rfl | (symm; assumption)⟩
    · skip
      refine g_aload_n cx (pc2 := 19) 0 rfl dX12_lay_18 rfl ?_
      refine g_iconst cx (pc2 := 20) dX12_lay_19 rfl ?_
      refine g_callV cx (pc2 := 23) (st := []) (As := [.int (iI 1)]) (k0 := 77) (ci := 12) (c_X12_meets (M := M) hn 1 (by first | assumption | omega)) wM_X12_meets wV_X12_meets kl_X12_111 rfl (lt_lit hn (Nat.le_of_ble_eq_true rfl)) rfl ⟨rfl, rfl, Nat.le_of_ble_eq_true rfl, Nat.le_of_ble_eq_true rfl⟩ (Nat.le_of_ble_eq_true rfl) cs rfl rfl dX12_lay_20 rfl ?_
      rintro _ _ ⟨rfl, rfl⟩
      exact g_iret cx qx dX12_lay_23 ⟨congrArg (fun q => some (Value.int (iI q))) (by unfold xlayA; (repeat (first | rw [if_pos (by first | assumption | omega)] | rw [if_neg (by first | assumption | exact not_not_intro (by assumption) | omega)])); first | done | rfl | (symm; assumption)), by unfold xlayM; (repeat (first | rw [if_pos (by first | assumption | omega)] | rw [if_neg (by first | assumption | exact not_not_intro (by assumption) | omega)])); first | done | rfl | (symm; assumption)⟩
  · skip
    refine g_iconst cx (pc2 := 8) dX12_lay_7 rfl ?_
    exact g_iret cx qx dX12_lay_8 ⟨congrArg (fun q => some (Value.int (iI q))) (by unfold xlayA; (repeat (first | rw [if_pos (by first | assumption | omega)] | rw [if_neg (by first | assumption | exact not_not_intro (by assumption) | omega)])); first | done | rfl | (symm; assumption)), by unfold xlayM; (repeat (first | rw [if_pos (by first | assumption | omega)] | rw [if_neg (by first | assumption | exact not_not_intro (by assumption) | omega)])); first | done | rfl | (symm; assumption)⟩
set_option maxHeartbeats 4000000 in
set_option maxRecDepth 100000 in
theorem c_X12_at {n : Nat} (hn : NN n) {M : Mm} (hQ : RQ M) (r i : Int) (hr : ir r) (hi : ir i) : CT yX12_at cX12_at 3 (some .int) ({ frames := 2, cells := 0, slots := 0, locals := 42 }) n [.ref 77, .int (iI r), .int (iI i)] M (rI (xlayA M r i) (xatM M r i)) := by
  refine CT.of (lv0 := [(0, .ref 77), (1, .int (iI r)), (2, .int (iI i))]) (by decide +kernel) hn (fun _ => rfl) (fun _ => Nat.le_of_ble_eq_true rfl) (fun X cx cs qx => ?_)
  have cx : Cx X cX12_at RX12 ({ frames := 2, cells := 0, slots := 0, locals := 42 }) 3 n := cx
  have hq1 := fun q : R6 r => hQ r.toNat (by omega)
  refine g_iload_n cx (pc2 := 1) 1 rfl dX12_at_0 rfl ?_
  refine g_callS cx (pc2 := 4) (st := []) (As := [.int (iI r)]) (c_X12_isRow (M := M) hn r (by first | assumption | omega)) wM_X12_isRow wS_X12_isRow kl_X12_107 ⟨rfl, rfl, Nat.le_of_ble_eq_true rfl, Nat.le_of_ble_eq_true rfl⟩ (Nat.le_of_ble_eq_true rfl) cs rfl rfl dX12_at_1 rfl ?_
  rintro _ _ ⟨rfl, rfl⟩
  refine g_ifb_ne cx (pc2 := 7) (tgt := 9) dX12_at_4 (by decide) rfl (fun h_1 => ?_) (fun h_1 => ?_)
  · skip
    have hq2 := hq1 (by assumption)
    refine g_aload_n cx (pc2 := 10) 0 rfl dX12_at_9 rfl ?_
    refine g_get cx (pc2 := 13) (ci := 12) (k0 := 77) (j := 5) (v := .ref 79) rfl iwX12 rfl (lt_lit hn (Nat.le_of_ble_eq_true rfl)) rfl (Nat.le_of_ble_eq_true rfl) kf_X12_13 rfl rfl dX12_at_10 rfl ?_
    refine g_iload_n cx (pc2 := 14) 1 rfl dX12_at_13 rfl ?_
    refine g_iald cx (pc2 := 15) (k0 := 79) rfl (lt_lit hn (Nat.le_of_ble_eq_true rfl)) (by first | assumption | omega) (by first | assumption | omega) (Nat.le_of_ble_eq_true rfl) dX12_at_14 rfl ?_
    refine g_rwi (y := iI (M 79 ((r).toNat))) (congrArg iI (by simp [stM])) ?_
    refine g_if_ge cx (pc2 := 18) (tgt := 24) (by first | assumption | omega) dX12_at_15 (by decide) rfl (fun h_2 => ?_) (fun h_2 => ?_)
    · skip
      refine g_iload_n cx (pc2 := 25) 2 rfl dX12_at_24 rfl ?_
      refine g_iconst cx (pc2 := 26) dX12_at_25 rfl ?_
      refine g_aload_n cx (pc2 := 27) 0 rfl dX12_at_26 rfl ?_
      refine g_get cx (pc2 := 30) (ci := 12) (k0 := 77) (j := 5) (v := .ref 79) rfl iwX12 rfl (lt_lit hn (Nat.le_of_ble_eq_true rfl)) rfl (Nat.le_of_ble_eq_true rfl) kf_X12_13 rfl rfl dX12_at_27 rfl ?_
      refine g_iload_n cx (pc2 := 31) 1 rfl dX12_at_30 rfl ?_
      refine g_iald cx (pc2 := 32) (k0 := 79) rfl (lt_lit hn (Nat.le_of_ble_eq_true rfl)) (by first | assumption | omega) (by first | assumption | omega) (Nat.le_of_ble_eq_true rfl) dX12_at_31 rfl ?_
      refine g_rwi (y := iI (M 79 ((r).toNat))) (congrArg iI (by simp [stM])) ?_
      refine g_iconst cx (pc2 := 33) dX12_at_32 rfl ?_
      refine g_isub cx (pc2 := 34) dX12_at_33 rfl ?_
      refine g_callS cx (pc2 := 37) (st := []) (As := [.int (iI i), .int (iI 0), .int (iI ((M 79 ((r).toNat)) - 1))]) (c_X12_in (M := M) hn i 0 ((M 79 ((r).toNat)) - 1) (by first | assumption | omega) (by first | assumption | omega) (by first | assumption | omega)) wM_X12_in wS_X12_in kl_X12_97 ⟨rfl, rfl, Nat.le_of_ble_eq_true rfl, Nat.le_of_ble_eq_true rfl⟩ (Nat.le_of_ble_eq_true rfl) cs rfl rfl dX12_at_34 rfl ?_
      rintro _ _ ⟨rfl, rfl⟩
      refine g_ifb_eq cx (pc2 := 40) (tgt := 54) dX12_at_37 (by decide) rfl (fun h_3 => ?_) (fun h_3 => ?_)
      · skip
        refine g_aload_n cx (pc2 := 55) 0 rfl dX12_at_54 rfl ?_
        refine g_iconst cx (pc2 := 56) dX12_at_55 rfl ?_
        refine g_callV cx (pc2 := 59) (st := []) (As := [.int (iI 2)]) (k0 := 77) (ci := 12) (c_X12_meets (M := M) hn 2 (by first | assumption | omega)) wM_X12_meets wV_X12_meets kl_X12_111 rfl (lt_lit hn (Nat.le_of_ble_eq_true rfl)) rfl ⟨rfl, rfl, Nat.le_of_ble_eq_true rfl, Nat.le_of_ble_eq_true rfl⟩ (Nat.le_of_ble_eq_true rfl) cs rfl rfl dX12_at_56 rfl ?_
        rintro _ _ ⟨rfl, rfl⟩
        exact g_iret cx qx dX12_at_59 ⟨congrArg (fun q => some (Value.int (iI q))) (by unfold xlayA; (repeat (first | rw [if_pos (by first | assumption | omega)] | rw [if_neg (by first | assumption | exact not_not_intro (by assumption) | omega)])); first | done | rfl | (symm; assumption)), by unfold xatM; (repeat (first | rw [if_pos (by first | assumption | omega)] | rw [if_neg (by first | assumption | exact not_not_intro (by assumption) | omega)])); first | done | rfl | (symm; assumption)⟩
      · skip
        refine g_aload_n cx (pc2 := 41) 0 rfl dX12_at_40 rfl ?_
        refine g_aload_n cx (pc2 := 42) 0 rfl dX12_at_41 rfl ?_
        refine g_iload_n cx (pc2 := 43) 1 rfl dX12_at_42 rfl ?_
        refine g_iload_n cx (pc2 := 44) 2 rfl dX12_at_43 rfl ?_
        refine g_callV cx (pc2 := 47) (st := [.ref 77]) (As := [.int (iI r), .int (iI i)]) (k0 := 77) (ci := 12) (c_X12_rowAt (M := M) hn r i (by first | assumption | omega) (by first | assumption | omega)) wM_X12_rowAt wV_X12_rowAt kl_X12_115 rfl (lt_lit hn (Nat.le_of_ble_eq_true rfl)) rfl ⟨rfl, rfl, Nat.le_of_ble_eq_true rfl, Nat.le_of_ble_eq_true rfl⟩ (Nat.le_of_ble_eq_true rfl) cs rfl rfl dX12_at_44 rfl ?_
        rintro _ _ ⟨rfl, rfl⟩
        refine g_iconst cx (pc2 := 48) dX12_at_47 rfl ?_
        refine g_callV cx (pc2 := 51) (st := []) (As := [.int (iI (rcA M r i)), .int (iI 1)]) (k0 := 77) (ci := 12) (c_X12_tells (M := M) hn (rcA M r i) 1) wM_X12_tells wV_X12_tells kl_X12_119 rfl (lt_lit hn (Nat.le_of_ble_eq_true rfl)) rfl ⟨rfl, rfl, Nat.le_of_ble_eq_true rfl, Nat.le_of_ble_eq_true rfl⟩ (Nat.le_of_ble_eq_true rfl) cs rfl rfl dX12_at_48 rfl ?_
        rintro _ _ ⟨rfl, rfl⟩
        refine g_goto cx (tgt := 59) dX12_at_51 (by decide) ?_
        exact g_iret cx qx dX12_at_59 ⟨congrArg (fun q => some (Value.int (iI q))) (by unfold xlayA; (repeat (first | rw [if_pos (by first | assumption | omega)] | rw [if_neg (by first | assumption | exact not_not_intro (by assumption) | omega)])); first | done | rfl | (symm; assumption)), by unfold xatM; (repeat (first | rw [if_pos (by first | assumption | omega)] | rw [if_neg (by first | assumption | exact not_not_intro (by assumption) | omega)])); first | done | rfl | (symm; assumption)⟩
    · skip
      refine g_aload_n cx (pc2 := 19) 0 rfl dX12_at_18 rfl ?_
      refine g_iconst cx (pc2 := 20) dX12_at_19 rfl ?_
      refine g_callV cx (pc2 := 23) (st := []) (As := [.int (iI 1)]) (k0 := 77) (ci := 12) (c_X12_meets (M := M) hn 1 (by first | assumption | omega)) wM_X12_meets wV_X12_meets kl_X12_111 rfl (lt_lit hn (Nat.le_of_ble_eq_true rfl)) rfl ⟨rfl, rfl, Nat.le_of_ble_eq_true rfl, Nat.le_of_ble_eq_true rfl⟩ (Nat.le_of_ble_eq_true rfl) cs rfl rfl dX12_at_20 rfl ?_
      rintro _ _ ⟨rfl, rfl⟩
      exact g_iret cx qx dX12_at_23 ⟨congrArg (fun q => some (Value.int (iI q))) (by unfold xlayA; (repeat (first | rw [if_pos (by first | assumption | omega)] | rw [if_neg (by first | assumption | exact not_not_intro (by assumption) | omega)])); first | done | rfl | (symm; assumption)), by unfold xatM; (repeat (first | rw [if_pos (by first | assumption | omega)] | rw [if_neg (by first | assumption | exact not_not_intro (by assumption) | omega)])); first | done | rfl | (symm; assumption)⟩
  · skip
    refine g_iconst cx (pc2 := 8) dX12_at_7 rfl ?_
    exact g_iret cx qx dX12_at_8 ⟨congrArg (fun q => some (Value.int (iI q))) (by unfold xlayA; (repeat (first | rw [if_pos (by first | assumption | omega)] | rw [if_neg (by first | assumption | exact not_not_intro (by assumption) | omega)])); first | done | rfl | (symm; assumption)), by unfold xatM; (repeat (first | rw [if_pos (by first | assumption | omega)] | rw [if_neg (by first | assumption | exact not_not_intro (by assumption) | omega)])); first | done | rfl | (symm; assumption)⟩
set_option maxHeartbeats 4000000 in
set_option maxRecDepth 100000 in
theorem c_X12_tear {n : Nat} (hn : NN n) {M : Mm} (hQ : RQ M) (r : Int) (hr : ir r) : CT yX12_tear cX12_tear 2 (some .int) ({ frames := 2, cells := 0, slots := 0, locals := 42 }) n [.ref 77, .int (iI r)] M (rI (xtearA M r) (xtearM M r)) := by
  refine CT.of (lv0 := [(0, .ref 77), (1, .int (iI r))]) (by decide +kernel) hn (fun _ => rfl) (fun _ => Nat.le_of_ble_eq_true rfl) (fun X cx cs qx => ?_)
  have cx : Cx X cX12_tear RX12 ({ frames := 2, cells := 0, slots := 0, locals := 42 }) 2 n := cx
  have hq1 := fun q : R6 r => hQ r.toNat (by omega)
  refine g_iload_n cx (pc2 := 1) 1 rfl dX12_tear_0 rfl ?_
  refine g_callS cx (pc2 := 4) (st := []) (As := [.int (iI r)]) (c_X12_isRow (M := M) hn r (by first | assumption | omega)) wM_X12_isRow wS_X12_isRow kl_X12_107 ⟨rfl, rfl, Nat.le_of_ble_eq_true rfl, Nat.le_of_ble_eq_true rfl⟩ (Nat.le_of_ble_eq_true rfl) cs rfl rfl dX12_tear_1 rfl ?_
  rintro _ _ ⟨rfl, rfl⟩
  refine g_ifb_ne cx (pc2 := 7) (tgt := 9) dX12_tear_4 (by decide) rfl (fun h_1 => ?_) (fun h_1 => ?_)
  · skip
    have hq2 := hq1 (by assumption)
    refine g_aload_n cx (pc2 := 10) 0 rfl dX12_tear_9 rfl ?_
    refine g_get cx (pc2 := 13) (ci := 12) (k0 := 77) (j := 5) (v := .ref 79) rfl iwX12 rfl (lt_lit hn (Nat.le_of_ble_eq_true rfl)) rfl (Nat.le_of_ble_eq_true rfl) kf_X12_13 rfl rfl dX12_tear_10 rfl ?_
    refine g_iload_n cx (pc2 := 14) 1 rfl dX12_tear_13 rfl ?_
    refine g_iald cx (pc2 := 15) (k0 := 79) rfl (lt_lit hn (Nat.le_of_ble_eq_true rfl)) (by first | assumption | omega) (by first | assumption | omega) (Nat.le_of_ble_eq_true rfl) dX12_tear_14 rfl ?_
    refine g_rwi (y := iI (M 79 ((r).toNat))) (congrArg iI (by simp [stM])) ?_
    refine g_if_ge cx (pc2 := 18) (tgt := 24) (by first | assumption | omega) dX12_tear_15 (by decide) rfl (fun h_2 => ?_) (fun h_2 => ?_)
    · skip
      refine g_aload_n cx (pc2 := 25) 0 rfl dX12_tear_24 rfl ?_
      refine g_get cx (pc2 := 28) (ci := 12) (k0 := 77) (j := 5) (v := .ref 79) rfl iwX12 rfl (lt_lit hn (Nat.le_of_ble_eq_true rfl)) rfl (Nat.le_of_ble_eq_true rfl) kf_X12_13 rfl rfl dX12_tear_25 rfl ?_
      refine g_iload_n cx (pc2 := 29) 1 rfl dX12_tear_28 rfl ?_
      refine g_iconst cx (pc2 := 30) dX12_tear_29 rfl ?_
      refine g_iast cx (pc2 := 31) (k0 := 79) rfl (lt_lit hn (Nat.le_of_ble_eq_true rfl)) (by first | assumption | omega) (by first | assumption | omega) (Nat.le_of_ble_eq_true rfl) dX12_tear_30 rfl ?_
      refine g_iconst cx (pc2 := 32) dX12_tear_31 rfl ?_
      exact g_iret cx qx dX12_tear_32 ⟨congrArg (fun q => some (Value.int (iI q))) (by unfold xtearA; (repeat (first | rw [if_pos (by first | assumption | omega)] | rw [if_neg (by first | assumption | exact not_not_intro (by assumption) | omega)])); first | done | rfl | (symm; assumption)), by unfold xtearM; (repeat (first | rw [if_pos (by first | assumption | omega)] | rw [if_neg (by first | assumption | exact not_not_intro (by assumption) | omega)])); first | done | rfl | (symm; assumption)⟩
    · skip
      refine g_aload_n cx (pc2 := 19) 0 rfl dX12_tear_18 rfl ?_
      refine g_iconst cx (pc2 := 20) dX12_tear_19 rfl ?_
      refine g_callV cx (pc2 := 23) (st := []) (As := [.int (iI 1)]) (k0 := 77) (ci := 12) (c_X12_meets (M := M) hn 1 (by first | assumption | omega)) wM_X12_meets wV_X12_meets kl_X12_111 rfl (lt_lit hn (Nat.le_of_ble_eq_true rfl)) rfl ⟨rfl, rfl, Nat.le_of_ble_eq_true rfl, Nat.le_of_ble_eq_true rfl⟩ (Nat.le_of_ble_eq_true rfl) cs rfl rfl dX12_tear_20 rfl ?_
      rintro _ _ ⟨rfl, rfl⟩
      exact g_iret cx qx dX12_tear_23 ⟨congrArg (fun q => some (Value.int (iI q))) (by unfold xtearA; (repeat (first | rw [if_pos (by first | assumption | omega)] | rw [if_neg (by first | assumption | exact not_not_intro (by assumption) | omega)])); first | done | rfl | (symm; assumption)), by unfold xtearM; (repeat (first | rw [if_pos (by first | assumption | omega)] | rw [if_neg (by first | assumption | exact not_not_intro (by assumption) | omega)])); first | done | rfl | (symm; assumption)⟩
  · skip
    refine g_iconst cx (pc2 := 8) dX12_tear_7 rfl ?_
    exact g_iret cx qx dX12_tear_8 ⟨congrArg (fun q => some (Value.int (iI q))) (by unfold xtearA; (repeat (first | rw [if_pos (by first | assumption | omega)] | rw [if_neg (by first | assumption | exact not_not_intro (by assumption) | omega)])); first | done | rfl | (symm; assumption)), by unfold xtearM; (repeat (first | rw [if_pos (by first | assumption | omega)] | rw [if_neg (by first | assumption | exact not_not_intro (by assumption) | omega)])); first | done | rfl | (symm; assumption)⟩
set_option maxHeartbeats 4000000 in
set_option maxRecDepth 100000 in
theorem c_X12_copy {n : Nat} (hn : NN n) {M : Mm} (hQ : RQ M) (r i t j q : Int) (hr : ir r) (hi : ir i) (ht : ir t) (hj : ir j) (hq : ir q) : CT yX12_copy cX12_copy 7 (some .int) ({ frames := 2, cells := 0, slots := 0, locals := 42 }) n [.ref 77, .int (iI r), .int (iI i), .int (iI t), .int (iI j), .int (iI q)] M (rI (xcopyA M r i t j q) (xcopyM M r i t j q)) := by
  refine CT.of (lv0 := [(0, .ref 77), (1, .int (iI r)), (2, .int (iI i)), (3, .int (iI t)), (4, .int (iI j)), (5, .int (iI q))]) (by decide +kernel) hn (fun _ => rfl) (fun _ => Nat.le_of_ble_eq_true rfl) (fun X cx cs qx => ?_)
  have cx : Cx X cX12_copy RX12 ({ frames := 2, cells := 0, slots := 0, locals := 42 }) 7 n := cx
  have hq1 := fun q : R6 r => hQ r.toNat (by omega)
  have hq3 := fun q : R6 t => hQ t.toNat (by omega)
  refine g_iload_n cx (pc2 := 1) 1 rfl dX12_copy_0 rfl ?_
  refine g_callS cx (pc2 := 4) (st := []) (As := [.int (iI r)]) (c_X12_isRow (M := M) hn r (by first | assumption | omega)) wM_X12_isRow wS_X12_isRow kl_X12_107 ⟨rfl, rfl, Nat.le_of_ble_eq_true rfl, Nat.le_of_ble_eq_true rfl⟩ (Nat.le_of_ble_eq_true rfl) cs rfl rfl dX12_copy_1 rfl ?_
  rintro _ _ ⟨rfl, rfl⟩
  refine g_ifb_eq cx (pc2 := 7) (tgt := 14) dX12_copy_4 (by decide) rfl (fun h_1 => ?_) (fun h_1 => ?_)
  · skip
    refine g_iconst cx (pc2 := 15) dX12_copy_14 rfl ?_
    exact g_iret cx qx dX12_copy_15 ⟨congrArg (fun q => some (Value.int (iI q))) (by unfold xcopyA; (repeat (first | rw [if_pos (by first | assumption | omega)] | rw [if_neg (by first | assumption | exact not_not_intro (by assumption) | omega)])); first | done | rfl | (symm; assumption)), by unfold xcopyM; (repeat (first | rw [if_pos (by first | assumption | omega)] | rw [if_neg (by first | assumption | exact not_not_intro (by assumption) | omega)])); first | done | rfl | (symm; assumption)⟩
  · skip
    refine g_iload_n cx (pc2 := 8) 3 rfl dX12_copy_7 rfl ?_
    refine g_callS cx (pc2 := 11) (st := []) (As := [.int (iI t)]) (c_X12_isRow (M := M) hn t (by first | assumption | omega)) wM_X12_isRow wS_X12_isRow kl_X12_107 ⟨rfl, rfl, Nat.le_of_ble_eq_true rfl, Nat.le_of_ble_eq_true rfl⟩ (Nat.le_of_ble_eq_true rfl) cs rfl rfl dX12_copy_8 rfl ?_
    rintro _ _ ⟨rfl, rfl⟩
    refine g_ifb_ne cx (pc2 := 14) (tgt := 16) dX12_copy_11 (by decide) rfl (fun h_2 => ?_) (fun h_2 => ?_)
    · skip
      have hq2 := hq1 (by assumption)
      have hq4 := hq3 (by assumption)
      refine g_iload cx (pc2 := 18) 5 rfl dX12_copy_16 rfl ?_
      refine g_if_ge cx (pc2 := 21) (tgt := 27) (by first | assumption | omega) dX12_copy_18 (by decide) rfl (fun h_3 => ?_) (fun h_3 => ?_)
      · skip
        refine g_aload_n cx (pc2 := 28) 0 rfl dX12_copy_27 rfl ?_
        refine g_get cx (pc2 := 31) (ci := 12) (k0 := 77) (j := 5) (v := .ref 79) rfl iwX12 rfl (lt_lit hn (Nat.le_of_ble_eq_true rfl)) rfl (Nat.le_of_ble_eq_true rfl) kf_X12_13 rfl rfl dX12_copy_28 rfl ?_
        refine g_iload_n cx (pc2 := 32) 1 rfl dX12_copy_31 rfl ?_
        refine g_iald cx (pc2 := 33) (k0 := 79) rfl (lt_lit hn (Nat.le_of_ble_eq_true rfl)) (by first | assumption | omega) (by first | assumption | omega) (Nat.le_of_ble_eq_true rfl) dX12_copy_32 rfl ?_
        refine g_rwi (y := iI (M 79 ((r).toNat))) (congrArg iI (by simp [stM])) ?_
        refine g_if_lt cx (pc2 := 36) (tgt := 45) (by first | assumption | omega) dX12_copy_33 (by decide) rfl (fun h_4 => ?_) (fun h_4 => ?_)
        · skip
          refine g_aload_n cx (pc2 := 46) 0 rfl dX12_copy_45 rfl ?_
          refine g_iconst cx (pc2 := 47) dX12_copy_46 rfl ?_
          refine g_callV cx (pc2 := 50) (st := []) (As := [.int (iI 1)]) (k0 := 77) (ci := 12) (c_X12_meets (M := M) hn 1 (by first | assumption | omega)) wM_X12_meets wV_X12_meets kl_X12_111 rfl (lt_lit hn (Nat.le_of_ble_eq_true rfl)) rfl ⟨rfl, rfl, Nat.le_of_ble_eq_true rfl, Nat.le_of_ble_eq_true rfl⟩ (Nat.le_of_ble_eq_true rfl) cs rfl rfl dX12_copy_47 rfl ?_
          rintro _ _ ⟨rfl, rfl⟩
          exact g_iret cx qx dX12_copy_50 ⟨congrArg (fun q => some (Value.int (iI q))) (by unfold xcopyA; (repeat (first | rw [if_pos (by first | assumption | omega)] | rw [if_neg (by first | assumption | exact not_not_intro (by assumption) | omega)])); first | done | rfl | (symm; assumption)), by unfold xcopyM; (repeat (first | rw [if_pos (by first | assumption | omega)] | rw [if_neg (by first | assumption | exact not_not_intro (by assumption) | omega)])); first | done | rfl | (symm; assumption)⟩
        · skip
          refine g_aload_n cx (pc2 := 37) 0 rfl dX12_copy_36 rfl ?_
          refine g_get cx (pc2 := 40) (ci := 12) (k0 := 77) (j := 5) (v := .ref 79) rfl iwX12 rfl (lt_lit hn (Nat.le_of_ble_eq_true rfl)) rfl (Nat.le_of_ble_eq_true rfl) kf_X12_13 rfl rfl dX12_copy_37 rfl ?_
          refine g_iload_n cx (pc2 := 41) 3 rfl dX12_copy_40 rfl ?_
          refine g_iald cx (pc2 := 42) (k0 := 79) rfl (lt_lit hn (Nat.le_of_ble_eq_true rfl)) (by first | assumption | omega) (by first | assumption | omega) (Nat.le_of_ble_eq_true rfl) dX12_copy_41 rfl ?_
          refine g_rwi (y := iI (M 79 ((t).toNat))) (congrArg iI (by simp [stM])) ?_
          refine g_if_ge cx (pc2 := 45) (tgt := 51) (by first | assumption | omega) dX12_copy_42 (by decide) rfl (fun h_5 => ?_) (fun h_5 => ?_)
          · skip
            refine g_iload_n cx (pc2 := 52) 2 rfl dX12_copy_51 rfl ?_
            refine g_if_lt cx (pc2 := 55) (tgt := 95) (by first | assumption | omega) dX12_copy_52 (by decide) rfl (fun h_6 => ?_) (fun h_6 => ?_)
            · skip
              refine g_aload_n cx (pc2 := 96) 0 rfl dX12_copy_95 rfl ?_
              refine g_iconst cx (pc2 := 97) dX12_copy_96 rfl ?_
              refine g_callV cx (pc2 := 100) (st := []) (As := [.int (iI 2)]) (k0 := 77) (ci := 12) (c_X12_meets (M := M) hn 2 (by first | assumption | omega)) wM_X12_meets wV_X12_meets kl_X12_111 rfl (lt_lit hn (Nat.le_of_ble_eq_true rfl)) rfl ⟨rfl, rfl, Nat.le_of_ble_eq_true rfl, Nat.le_of_ble_eq_true rfl⟩ (Nat.le_of_ble_eq_true rfl) cs rfl rfl dX12_copy_97 rfl ?_
              rintro _ _ ⟨rfl, rfl⟩
              exact g_iret cx qx dX12_copy_100 ⟨congrArg (fun q => some (Value.int (iI q))) (by unfold xcopyA; (repeat (first | rw [if_pos (by first | assumption | omega)] | rw [if_neg (by first | assumption | exact not_not_intro (by assumption) | omega)])); first | done | rfl | (symm; assumption)), by unfold xcopyM; (repeat (first | rw [if_pos (by first | assumption | omega)] | rw [if_neg (by first | assumption | exact not_not_intro (by assumption) | omega)])); first | done | rfl | (symm; assumption)⟩
            · skip
              refine g_iload cx (pc2 := 57) 4 rfl dX12_copy_55 rfl ?_
              refine g_if_lt cx (pc2 := 60) (tgt := 95) (by first | assumption | omega) dX12_copy_57 (by decide) rfl (fun h_7 => ?_) (fun h_7 => ?_)
              · skip
                refine g_aload_n cx (pc2 := 96) 0 rfl dX12_copy_95 rfl ?_
                refine g_iconst cx (pc2 := 97) dX12_copy_96 rfl ?_
                refine g_callV cx (pc2 := 100) (st := []) (As := [.int (iI 2)]) (k0 := 77) (ci := 12) (c_X12_meets (M := M) hn 2 (by first | assumption | omega)) wM_X12_meets wV_X12_meets kl_X12_111 rfl (lt_lit hn (Nat.le_of_ble_eq_true rfl)) rfl ⟨rfl, rfl, Nat.le_of_ble_eq_true rfl, Nat.le_of_ble_eq_true rfl⟩ (Nat.le_of_ble_eq_true rfl) cs rfl rfl dX12_copy_97 rfl ?_
                rintro _ _ ⟨rfl, rfl⟩
                exact g_iret cx qx dX12_copy_100 ⟨congrArg (fun q => some (Value.int (iI q))) (by unfold xcopyA; (repeat (first | rw [if_pos (by first | assumption | omega)] | rw [if_neg (by first | assumption | exact not_not_intro (by assumption) | omega)])); first | done | rfl | (symm; assumption)), by unfold xcopyM; (repeat (first | rw [if_pos (by first | assumption | omega)] | rw [if_neg (by first | assumption | exact not_not_intro (by assumption) | omega)])); first | done | rfl | (symm; assumption)⟩
              · skip
                refine g_iload_n cx (pc2 := 61) 2 rfl dX12_copy_60 rfl ?_
                refine g_i2l cx (pc2 := 62) (by first | assumption | omega) dX12_copy_61 rfl ?_
                refine g_iload cx (pc2 := 64) 5 rfl dX12_copy_62 rfl ?_
                refine g_i2l cx (pc2 := 65) (by first | assumption | omega) dX12_copy_64 rfl ?_
                refine g_ladd cx (pc2 := 66) dX12_copy_65 rfl ?_
                refine g_aload_n cx (pc2 := 67) 0 rfl dX12_copy_66 rfl ?_
                refine g_get cx (pc2 := 70) (ci := 12) (k0 := 77) (j := 5) (v := .ref 79) rfl iwX12 rfl (lt_lit hn (Nat.le_of_ble_eq_true rfl)) rfl (Nat.le_of_ble_eq_true rfl) kf_X12_13 rfl rfl dX12_copy_67 rfl ?_
                refine g_iload_n cx (pc2 := 71) 1 rfl dX12_copy_70 rfl ?_
                refine g_iald cx (pc2 := 72) (k0 := 79) rfl (lt_lit hn (Nat.le_of_ble_eq_true rfl)) (by first | assumption | omega) (by first | assumption | omega) (Nat.le_of_ble_eq_true rfl) dX12_copy_71 rfl ?_
                refine g_rwi (y := iI (M 79 ((r).toNat))) (congrArg iI (by simp [stM])) ?_
                refine g_i2l cx (pc2 := 73) (by first | assumption | omega) dX12_copy_72 rfl ?_
                refine g_lcmp cx (pc2 := 74) ⟨(by constructor <;> omega), (by constructor <;> omega)⟩ dX12_copy_73 rfl ?_
                refine g_if_gt cx (pc2 := 77) (tgt := 95) (by constructor <;> (repeat' split) <;> omega) dX12_copy_74 (by decide) rfl (fun h_8 => ?_) (fun h_8 => ?_)
                · skip
                  have hbad : ¬ hpX M r i q := by unfold hpX; (repeat' split at h_8) <;> omega
                  refine g_aload_n cx (pc2 := 96) 0 rfl dX12_copy_95 rfl ?_
                  refine g_iconst cx (pc2 := 97) dX12_copy_96 rfl ?_
                  refine g_callV cx (pc2 := 100) (st := []) (As := [.int (iI 2)]) (k0 := 77) (ci := 12) (c_X12_meets (M := M) hn 2 (by first | assumption | omega)) wM_X12_meets wV_X12_meets kl_X12_111 rfl (lt_lit hn (Nat.le_of_ble_eq_true rfl)) rfl ⟨rfl, rfl, Nat.le_of_ble_eq_true rfl, Nat.le_of_ble_eq_true rfl⟩ (Nat.le_of_ble_eq_true rfl) cs rfl rfl dX12_copy_97 rfl ?_
                  rintro _ _ ⟨rfl, rfl⟩
                  exact g_iret cx qx dX12_copy_100 ⟨congrArg (fun q => some (Value.int (iI q))) (by unfold xcopyA; (repeat (first | rw [if_pos (by first | assumption | omega)] | rw [if_neg (by first | assumption | exact not_not_intro (by assumption) | omega)])); first | done | rfl | (symm; assumption)), by unfold xcopyM; (repeat (first | rw [if_pos (by first | assumption | omega)] | rw [if_neg (by first | assumption | exact not_not_intro (by assumption) | omega)])); first | done | rfl | (symm; assumption)⟩
                · skip
                  have hg1 : hpX M r i q := by unfold hpX; (repeat' split at h_8) <;> omega
                  refine g_iload cx (pc2 := 79) 4 rfl dX12_copy_77 rfl ?_
                  refine g_i2l cx (pc2 := 80) (by first | assumption | omega) dX12_copy_79 rfl ?_
                  refine g_iload cx (pc2 := 82) 5 rfl dX12_copy_80 rfl ?_
                  refine g_i2l cx (pc2 := 83) (by first | assumption | omega) dX12_copy_82 rfl ?_
                  refine g_ladd cx (pc2 := 84) dX12_copy_83 rfl ?_
                  refine g_aload_n cx (pc2 := 85) 0 rfl dX12_copy_84 rfl ?_
                  refine g_get cx (pc2 := 88) (ci := 12) (k0 := 77) (j := 5) (v := .ref 79) rfl iwX12 rfl (lt_lit hn (Nat.le_of_ble_eq_true rfl)) rfl (Nat.le_of_ble_eq_true rfl) kf_X12_13 rfl rfl dX12_copy_85 rfl ?_
                  refine g_iload_n cx (pc2 := 89) 3 rfl dX12_copy_88 rfl ?_
                  refine g_iald cx (pc2 := 90) (k0 := 79) rfl (lt_lit hn (Nat.le_of_ble_eq_true rfl)) (by first | assumption | omega) (by first | assumption | omega) (Nat.le_of_ble_eq_true rfl) dX12_copy_89 rfl ?_
                  refine g_rwi (y := iI (M 79 ((t).toNat))) (congrArg iI (by simp [stM])) ?_
                  refine g_i2l cx (pc2 := 91) (by first | assumption | omega) dX12_copy_90 rfl ?_
                  refine g_lcmp cx (pc2 := 92) ⟨(by constructor <;> omega), (by constructor <;> omega)⟩ dX12_copy_91 rfl ?_
                  refine g_if_le cx (pc2 := 95) (tgt := 101) (by constructor <;> (repeat' split) <;> omega) dX12_copy_92 (by decide) rfl (fun h_9 => ?_) (fun h_9 => ?_)
                  · skip
                    have hg2 : hpX M t j q := by unfold hpX; (repeat' split at h_9) <;> omega
                    refine g_iconst cx (pc2 := 102) dX12_copy_101 rfl ?_
                    refine g_istore cx (pc2 := 104) (lv2 := [(0, .ref 77), (1, .int (iI r)), (2, .int (iI i)), (3, .int (iI t)), (4, .int (iI j)), (5, .int (iI q)), (6, .int (iI 0))]) rfl (Nat.le_of_ble_eq_true rfl) dX12_copy_102 rfl ?_
                    have L104 : ∀ (fu : Nat) (k : Int), (0 ≤ k ∧ k ≤ q) → (q - k).toNat ≤ fu → G X 104 [(0, .ref 77), (1, .int (iI r)), (2, .int (iI i)), (3, .int (iI t)), (4, .int (iI j)), (5, .int (iI q)), (6, .int (iI k))] [] (cyP M r i k) := by
                      intro fu
                      induction fu using Nat.strongRecOn with
                      | _ fu ih104 =>
                        intro k hk hk104
                        refine g_iload cx (pc2 := 106) 6 rfl dX12_copy_104 rfl ?_
                        refine g_iload cx (pc2 := 108) 5 rfl dX12_copy_106 rfl ?_
                        refine g_icmp_ge cx (pc2 := 111) (tgt := 133) ⟨(by first | assumption | omega), (by first | assumption | omega)⟩ dX12_copy_108 (by decide) rfl (fun h_10 => ?_) (fun h_10 => ?_)
                        · skip
                          refine g_iconst cx (pc2 := 134) dX12_copy_133 rfl ?_
                          refine g_istore cx (pc2 := 136) (lv2 := [(0, .ref 77), (1, .int (iI r)), (2, .int (iI i)), (3, .int (iI t)), (4, .int (iI j)), (5, .int (iI q)), (6, .int (iI 0))]) rfl (Nat.le_of_ble_eq_true rfl) dX12_copy_134 rfl ?_
                          have L136 : ∀ (fu : Nat) (k : Int), (0 ≤ k ∧ k ≤ q) → (q - k).toNat ≤ fu → G X 136 [(0, .ref 77), (1, .int (iI r)), (2, .int (iI i)), (3, .int (iI t)), (4, .int (iI j)), (5, .int (iI q)), (6, .int (iI k))] [] (cyQ M (cyP M r i q) r i t j k) := by
                            intro fu
                            induction fu using Nat.strongRecOn with
                            | _ fu ih136 =>
                              intro k hk hk136
                              refine g_iload cx (pc2 := 138) 6 rfl dX12_copy_136 rfl ?_
                              refine g_iload cx (pc2 := 140) 5 rfl dX12_copy_138 rfl ?_
                              refine g_icmp_ge cx (pc2 := 143) (tgt := 171) ⟨(by first | assumption | omega), (by first | assumption | omega)⟩ dX12_copy_140 (by decide) rfl (fun h_11 => ?_) (fun h_11 => ?_)
                              · skip
                                refine g_iconst cx (pc2 := 172) dX12_copy_171 rfl ?_
                                exact g_iret cx qx dX12_copy_172 ⟨congrArg (fun q => some (Value.int (iI q))) (by unfold xcopyA; rw [if_neg (by omega), if_neg (by omega), if_neg (by omega), if_neg (by omega)]), by unfold xcopyM xcpM; rw [if_neg (by omega), if_neg (by omega), if_neg (by omega), if_neg (by omega), show k = q by omega]⟩
                              · skip
                                refine g_aload_n cx (pc2 := 144) 0 rfl dX12_copy_143 rfl ?_
                                refine g_get cx (pc2 := 147) (ci := 12) (k0 := 77) (j := 6) (v := .ref 80) rfl iwX12 rfl (lt_lit hn (Nat.le_of_ble_eq_true rfl)) rfl (Nat.le_of_ble_eq_true rfl) kf_X12_16 rfl rfl dX12_copy_144 rfl ?_
                                refine g_bipush cx (pc2 := 149) ⟨by decide, by decide⟩ dX12_copy_147 rfl ?_
                                refine g_iload_n cx (pc2 := 150) 3 rfl dX12_copy_149 rfl ?_
                                refine g_imul cx (pc2 := 151) dX12_copy_150 rfl ?_
                                refine g_iload cx (pc2 := 153) 4 rfl dX12_copy_151 rfl ?_
                                refine g_iadd cx (pc2 := 154) dX12_copy_153 rfl ?_
                                refine g_iload cx (pc2 := 156) 6 rfl dX12_copy_154 rfl ?_
                                refine g_iadd cx (pc2 := 157) dX12_copy_156 rfl ?_
                                refine g_aload_n cx (pc2 := 158) 0 rfl dX12_copy_157 rfl ?_
                                refine g_get cx (pc2 := 161) (ci := 12) (k0 := 77) (j := 7) (v := .ref 81) rfl iwX12 rfl (lt_lit hn (Nat.le_of_ble_eq_true rfl)) rfl (Nat.le_of_ble_eq_true rfl) kf_X12_19 rfl rfl dX12_copy_158 rfl ?_
                                refine g_iload cx (pc2 := 163) 6 rfl dX12_copy_161 rfl ?_
                                refine g_iald cx (pc2 := 164) (k0 := 81) rfl (lt_lit hn (Nat.le_of_ble_eq_true rfl)) (by first | assumption | omega) (by first | assumption | omega) (Nat.le_of_ble_eq_true rfl) dX12_copy_163 rfl ?_
                                refine g_rwi (y := iI ((cyQ M (cyP M r i q) r i t j k) 81 ((k).toNat))) (congrArg iI (by simp [stM])) ?_
                                refine g_rwi (y := iI (M 80 (60 * r + (i + k)).toNat)) (congrArg iI (by show cyQ M (cyP M r i q) r i t j k 81 k.toNat = _; unfold cyQ; rw [if_neg (by omega)]; unfold cyP; rw [if_pos (by omega), show ((k.toNat : Nat) : Int) = k by omega])) ?_
                                refine g_iast cx (pc2 := 165) (k0 := 80) rfl (lt_lit hn (Nat.le_of_ble_eq_true rfl)) (by first | assumption | omega) (by first | assumption | omega) (Nat.le_of_ble_eq_true rfl) dX12_copy_164 rfl ?_
                                refine g_iinc cx (pc2 := 168) 6 rfl (lv2 := [(0, .ref 77), (1, .int (iI r)), (2, .int (iI i)), (3, .int (iI t)), (4, .int (iI j)), (5, .int (iI q)), (6, .int (iI (k + 1)))]) rfl (Nat.le_of_ble_eq_true rfl) dX12_copy_165 rfl ?_
                                refine g_goto cx (tgt := 136) dX12_copy_168 (by decide) ?_
                                refine g_M (M2 := (cyQ M (cyP M r i q) r i t j (k + 1))) (by exact cyQ_s hk.1 (by omega)) ?_
                                exact ih136 ((q - (k + 1)).toNat) (by omega) (k + 1) (by first | assumption | omega) (Nat.le_refl _)
                          refine g_M (M2 := (cyQ M (cyP M r i q) r i t j 0)) (by rw [show k = q by omega]; exact cyQ_0 M _ r i t j) ?_
                          exact L136 _ 0 (by first | assumption | omega) (Nat.le_refl _)
                        · skip
                          refine g_aload_n cx (pc2 := 112) 0 rfl dX12_copy_111 rfl ?_
                          refine g_get cx (pc2 := 115) (ci := 12) (k0 := 77) (j := 7) (v := .ref 81) rfl iwX12 rfl (lt_lit hn (Nat.le_of_ble_eq_true rfl)) rfl (Nat.le_of_ble_eq_true rfl) kf_X12_19 rfl rfl dX12_copy_112 rfl ?_
                          refine g_iload cx (pc2 := 117) 6 rfl dX12_copy_115 rfl ?_
                          refine g_aload_n cx (pc2 := 118) 0 rfl dX12_copy_117 rfl ?_
                          refine g_iload_n cx (pc2 := 119) 1 rfl dX12_copy_118 rfl ?_
                          refine g_iload_n cx (pc2 := 120) 2 rfl dX12_copy_119 rfl ?_
                          refine g_iload cx (pc2 := 122) 6 rfl dX12_copy_120 rfl ?_
                          refine g_iadd cx (pc2 := 123) dX12_copy_122 rfl ?_
                          refine g_callV cx (pc2 := 126) (st := [.int (iI k), .ref 81]) (As := [.int (iI r), .int (iI (i + k))]) (k0 := 77) (ci := 12) (c_X12_rowAt (M := (cyP M r i k)) hn r (i + k) (by first | assumption | omega) (by first | assumption | omega)) wM_X12_rowAt wV_X12_rowAt kl_X12_115 rfl (lt_lit hn (Nat.le_of_ble_eq_true rfl)) rfl ⟨rfl, rfl, Nat.le_of_ble_eq_true rfl, Nat.le_of_ble_eq_true rfl⟩ (Nat.le_of_ble_eq_true rfl) cs rfl rfl dX12_copy_123 rfl ?_
                          rintro _ _ ⟨rfl, rfl⟩
                          refine g_rwi (y := iI (M 80 (60 * r + (i + k)).toNat)) (congrArg iI (by unfold rcA; rw [cyP_off _ _ _ _ (by decide)])) ?_
                          refine g_iast cx (pc2 := 127) (k0 := 81) rfl (lt_lit hn (Nat.le_of_ble_eq_true rfl)) (by first | assumption | omega) (by first | assumption | omega) (Nat.le_of_ble_eq_true rfl) dX12_copy_126 rfl ?_
                          refine g_iinc cx (pc2 := 130) 6 rfl (lv2 := [(0, .ref 77), (1, .int (iI r)), (2, .int (iI i)), (3, .int (iI t)), (4, .int (iI j)), (5, .int (iI q)), (6, .int (iI (k + 1)))]) rfl (Nat.le_of_ble_eq_true rfl) dX12_copy_127 rfl ?_
                          refine g_goto cx (tgt := 104) dX12_copy_130 (by decide) ?_
                          refine g_M (M2 := (cyP M r i (k + 1))) (by exact cyP_s hk.1) ?_
                          exact ih104 ((q - (k + 1)).toNat) (by omega) (k + 1) (by first | assumption | omega) (Nat.le_refl _)
                    refine g_M (M2 := (cyP M r i 0)) (by exact cyP_0 M r i) ?_
                    exact L104 _ 0 (by first | assumption | omega) (Nat.le_refl _)
                  · skip
                    have hbad2 : ¬ hpX M t j q := by unfold hpX; (repeat' split at h_9) <;> omega
                    refine g_aload_n cx (pc2 := 96) 0 rfl dX12_copy_95 rfl ?_
                    refine g_iconst cx (pc2 := 97) dX12_copy_96 rfl ?_
                    refine g_callV cx (pc2 := 100) (st := []) (As := [.int (iI 2)]) (k0 := 77) (ci := 12) (c_X12_meets (M := M) hn 2 (by first | assumption | omega)) wM_X12_meets wV_X12_meets kl_X12_111 rfl (lt_lit hn (Nat.le_of_ble_eq_true rfl)) rfl ⟨rfl, rfl, Nat.le_of_ble_eq_true rfl, Nat.le_of_ble_eq_true rfl⟩ (Nat.le_of_ble_eq_true rfl) cs rfl rfl dX12_copy_97 rfl ?_
                    rintro _ _ ⟨rfl, rfl⟩
                    exact g_iret cx qx dX12_copy_100 ⟨congrArg (fun q => some (Value.int (iI q))) (by unfold xcopyA; (repeat (first | rw [if_pos (by first | assumption | omega)] | rw [if_neg (by first | assumption | exact not_not_intro (by assumption) | omega)])); first | done | rfl | (symm; assumption)), by unfold xcopyM; (repeat (first | rw [if_pos (by first | assumption | omega)] | rw [if_neg (by first | assumption | exact not_not_intro (by assumption) | omega)])); first | done | rfl | (symm; assumption)⟩
          · skip
            refine g_aload_n cx (pc2 := 46) 0 rfl dX12_copy_45 rfl ?_
            refine g_iconst cx (pc2 := 47) dX12_copy_46 rfl ?_
            refine g_callV cx (pc2 := 50) (st := []) (As := [.int (iI 1)]) (k0 := 77) (ci := 12) (c_X12_meets (M := M) hn 1 (by first | assumption | omega)) wM_X12_meets wV_X12_meets kl_X12_111 rfl (lt_lit hn (Nat.le_of_ble_eq_true rfl)) rfl ⟨rfl, rfl, Nat.le_of_ble_eq_true rfl, Nat.le_of_ble_eq_true rfl⟩ (Nat.le_of_ble_eq_true rfl) cs rfl rfl dX12_copy_47 rfl ?_
            rintro _ _ ⟨rfl, rfl⟩
            exact g_iret cx qx dX12_copy_50 ⟨congrArg (fun q => some (Value.int (iI q))) (by unfold xcopyA; (repeat (first | rw [if_pos (by first | assumption | omega)] | rw [if_neg (by first | assumption | exact not_not_intro (by assumption) | omega)])); first | done | rfl | (symm; assumption)), by unfold xcopyM; (repeat (first | rw [if_pos (by first | assumption | omega)] | rw [if_neg (by first | assumption | exact not_not_intro (by assumption) | omega)])); first | done | rfl | (symm; assumption)⟩
      · skip
        refine g_aload_n cx (pc2 := 22) 0 rfl dX12_copy_21 rfl ?_
        refine g_iconst cx (pc2 := 23) dX12_copy_22 rfl ?_
        refine g_callV cx (pc2 := 26) (st := []) (As := [.int (iI 5)]) (k0 := 77) (ci := 12) (c_X12_meets (M := M) hn 5 (by first | assumption | omega)) wM_X12_meets wV_X12_meets kl_X12_111 rfl (lt_lit hn (Nat.le_of_ble_eq_true rfl)) rfl ⟨rfl, rfl, Nat.le_of_ble_eq_true rfl, Nat.le_of_ble_eq_true rfl⟩ (Nat.le_of_ble_eq_true rfl) cs rfl rfl dX12_copy_23 rfl ?_
        rintro _ _ ⟨rfl, rfl⟩
        exact g_iret cx qx dX12_copy_26 ⟨congrArg (fun q => some (Value.int (iI q))) (by unfold xcopyA; (repeat (first | rw [if_pos (by first | assumption | omega)] | rw [if_neg (by first | assumption | exact not_not_intro (by assumption) | omega)])); first | done | rfl | (symm; assumption)), by unfold xcopyM; (repeat (first | rw [if_pos (by first | assumption | omega)] | rw [if_neg (by first | assumption | exact not_not_intro (by assumption) | omega)])); first | done | rfl | (symm; assumption)⟩
    · skip
      refine g_iconst cx (pc2 := 15) dX12_copy_14 rfl ?_
      exact g_iret cx qx dX12_copy_15 ⟨congrArg (fun q => some (Value.int (iI q))) (by unfold xcopyA; (repeat (first | rw [if_pos (by first | assumption | omega)] | rw [if_neg (by first | assumption | exact not_not_intro (by assumption) | omega)])); first | done | rfl | (symm; assumption)), by unfold xcopyM; (repeat (first | rw [if_pos (by first | assumption | omega)] | rw [if_neg (by first | assumption | exact not_not_intro (by assumption) | omega)])); first | done | rfl | (symm; assumption)⟩
set_option maxHeartbeats 4000000 in
set_option maxRecDepth 100000 in
theorem c_X12_mean {n : Nat} (hn : NN n) {M : Mm} (hQ : RQ M) (r : Int) (hr : ir r) : CT yX12_mean cX12_mean 5 (some .int) ({ frames := 2, cells := 0, slots := 0, locals := 42 }) n [.ref 77, .int (iI r)] M (rI (xmeanA M r) (xmeanM M r)) := by
  refine CT.of (lv0 := [(0, .ref 77), (1, .int (iI r))]) (by decide +kernel) hn (fun _ => rfl) (fun _ => Nat.le_of_ble_eq_true rfl) (fun X cx cs qx => ?_)
  have cx : Cx X cX12_mean RX12 ({ frames := 2, cells := 0, slots := 0, locals := 42 }) 5 n := cx
  have hq1 := fun q : R6 r => hQ r.toNat (by omega)
  refine g_iload_n cx (pc2 := 1) 1 rfl dX12_mean_0 rfl ?_
  refine g_callS cx (pc2 := 4) (st := []) (As := [.int (iI r)]) (c_X12_isRow (M := M) hn r (by first | assumption | omega)) wM_X12_isRow wS_X12_isRow kl_X12_107 ⟨rfl, rfl, Nat.le_of_ble_eq_true rfl, Nat.le_of_ble_eq_true rfl⟩ (Nat.le_of_ble_eq_true rfl) cs rfl rfl dX12_mean_1 rfl ?_
  rintro _ _ ⟨rfl, rfl⟩
  refine g_ifb_ne cx (pc2 := 7) (tgt := 9) dX12_mean_4 (by decide) rfl (fun h_1 => ?_) (fun h_1 => ?_)
  · skip
    have hq2 := hq1 (by assumption)
    refine g_aload_n cx (pc2 := 10) 0 rfl dX12_mean_9 rfl ?_
    refine g_get cx (pc2 := 13) (ci := 12) (k0 := 77) (j := 5) (v := .ref 79) rfl iwX12 rfl (lt_lit hn (Nat.le_of_ble_eq_true rfl)) rfl (Nat.le_of_ble_eq_true rfl) kf_X12_13 rfl rfl dX12_mean_10 rfl ?_
    refine g_iload_n cx (pc2 := 14) 1 rfl dX12_mean_13 rfl ?_
    refine g_iald cx (pc2 := 15) (k0 := 79) rfl (lt_lit hn (Nat.le_of_ble_eq_true rfl)) (by first | assumption | omega) (by first | assumption | omega) (Nat.le_of_ble_eq_true rfl) dX12_mean_14 rfl ?_
    refine g_rwi (y := iI (M 79 ((r).toNat))) (congrArg iI (by simp [stM])) ?_
    refine g_if_ge cx (pc2 := 18) (tgt := 24) (by first | assumption | omega) dX12_mean_15 (by decide) rfl (fun h_2 => ?_) (fun h_2 => ?_)
    · skip
      refine g_aload_n cx (pc2 := 25) 0 rfl dX12_mean_24 rfl ?_
      refine g_get cx (pc2 := 28) (ci := 12) (k0 := 77) (j := 5) (v := .ref 79) rfl iwX12 rfl (lt_lit hn (Nat.le_of_ble_eq_true rfl)) rfl (Nat.le_of_ble_eq_true rfl) kf_X12_13 rfl rfl dX12_mean_25 rfl ?_
      refine g_iload_n cx (pc2 := 29) 1 rfl dX12_mean_28 rfl ?_
      refine g_iald cx (pc2 := 30) (k0 := 79) rfl (lt_lit hn (Nat.le_of_ble_eq_true rfl)) (by first | assumption | omega) (by first | assumption | omega) (Nat.le_of_ble_eq_true rfl) dX12_mean_29 rfl ?_
      refine g_rwi (y := iI (M 79 ((r).toNat))) (congrArg iI (by simp [stM])) ?_
      refine g_if_ne cx (pc2 := 33) (tgt := 39) (by first | assumption | omega) dX12_mean_30 (by decide) rfl (fun h_3 => ?_) (fun h_3 => ?_)
      · skip
        refine g_lconst cx (pc2 := 40) 0 rfl dX12_mean_39 rfl ?_
        refine g_lstore_n cx (pc2 := 41) (lv2 := [(0, .ref 77), (1, .int (iI r)), (2, .long (lI 0))]) rfl (Nat.le_of_ble_eq_true rfl) dX12_mean_40 rfl ?_
        refine g_iconst cx (pc2 := 42) dX12_mean_41 rfl ?_
        refine g_istore cx (pc2 := 44) (lv2 := [(0, .ref 77), (1, .int (iI r)), (2, .long (lI 0)), (4, .int (iI 0))]) rfl (Nat.le_of_ble_eq_true rfl) dX12_mean_42 rfl ?_
        have L44 : ∀ (fu : Nat) (k : Int) (s : Int), (0 ≤ k ∧ k ≤ M 79 r.toNat) → (s = smZ (xsm M r) k.toNat) → (M 79 r.toNat - k).toNat ≤ fu → G X 44 [(0, .ref 77), (1, .int (iI r)), (2, .long (lI s)), (4, .int (iI k))] [] M := by
          intro fu
          induction fu using Nat.strongRecOn with
          | _ fu ih44 =>
            intro k s hk hs hk44
            refine g_iload cx (pc2 := 46) 3 rfl dX12_mean_44 rfl ?_
            refine g_aload_n cx (pc2 := 47) 0 rfl dX12_mean_46 rfl ?_
            refine g_get cx (pc2 := 50) (ci := 12) (k0 := 77) (j := 5) (v := .ref 79) rfl iwX12 rfl (lt_lit hn (Nat.le_of_ble_eq_true rfl)) rfl (Nat.le_of_ble_eq_true rfl) kf_X12_13 rfl rfl dX12_mean_47 rfl ?_
            refine g_iload_n cx (pc2 := 51) 1 rfl dX12_mean_50 rfl ?_
            refine g_iald cx (pc2 := 52) (k0 := 79) rfl (lt_lit hn (Nat.le_of_ble_eq_true rfl)) (by first | assumption | omega) (by first | assumption | omega) (Nat.le_of_ble_eq_true rfl) dX12_mean_51 rfl ?_
            refine g_rwi (y := iI (M 79 ((r).toNat))) (congrArg iI (by simp [stM])) ?_
            refine g_icmp_ge cx (pc2 := 55) (tgt := 72) ⟨(by first | assumption | omega), (by first | assumption | omega)⟩ dX12_mean_52 (by decide) rfl (fun h_4 => ?_) (fun h_4 => ?_)
            · skip
              have hsb := smZ_ir2 (f := xsm M r) (M 79 r.toNat).toNat (fun j hj => by have z := hq2.2 j (by omega); unfold xsm rcA; rw [show (60 * r + (j : Int)).toNat = 60 * r.toNat + j by omega]; exact z)
              have hke : k = M 79 r.toNat := by omega
              have hst2 : s = smZ (xsm M r) (M 79 r.toNat).toNat := by rw [hs, hke]
              refine g_aload_n cx (pc2 := 73) 0 rfl dX12_mean_72 rfl ?_
              refine g_lload_n cx (pc2 := 74) 2 rfl dX12_mean_73 rfl ?_
              refine g_aload_n cx (pc2 := 75) 0 rfl dX12_mean_74 rfl ?_
              refine g_get cx (pc2 := 78) (ci := 12) (k0 := 77) (j := 5) (v := .ref 79) rfl iwX12 rfl (lt_lit hn (Nat.le_of_ble_eq_true rfl)) rfl (Nat.le_of_ble_eq_true rfl) kf_X12_13 rfl rfl dX12_mean_75 rfl ?_
              refine g_iload_n cx (pc2 := 79) 1 rfl dX12_mean_78 rfl ?_
              refine g_iald cx (pc2 := 80) (k0 := 79) rfl (lt_lit hn (Nat.le_of_ble_eq_true rfl)) (by first | assumption | omega) (by first | assumption | omega) (Nat.le_of_ble_eq_true rfl) dX12_mean_79 rfl ?_
              refine g_rwi (y := iI (M 79 ((r).toNat))) (congrArg iI (by simp [stM])) ?_
              refine g_i2l cx (pc2 := 81) (by first | assumption | omega) dX12_mean_80 rfl ?_
              refine g_ldiv cx (pc2 := 82) (by exact ⟨⟨by omega, by omega⟩, ⟨by omega, by omega⟩, by omega, by omega⟩) dX12_mean_81 rfl ?_
              refine g_l2i cx (pc2 := 83) dX12_mean_82 rfl ?_
              refine g_iconst cx (pc2 := 84) dX12_mean_83 rfl ?_
              refine g_callV cx (pc2 := 87) (st := []) (As := [.int (iI (s.tdiv (M 79 ((r).toNat)))), .int (iI 1)]) (k0 := 77) (ci := 12) (c_X12_tells (M := M) hn (s.tdiv (M 79 ((r).toNat))) 1) wM_X12_tells wV_X12_tells kl_X12_119 rfl (lt_lit hn (Nat.le_of_ble_eq_true rfl)) rfl ⟨rfl, rfl, Nat.le_of_ble_eq_true rfl, Nat.le_of_ble_eq_true rfl⟩ (Nat.le_of_ble_eq_true rfl) cs rfl rfl dX12_mean_84 rfl ?_
              rintro _ _ ⟨rfl, rfl⟩
              exact g_iret cx qx dX12_mean_87 ⟨congrArg (fun q => some (Value.int (iI q))) (by unfold xmeanA; (repeat (first | rw [if_pos (by first | assumption | omega)] | rw [if_neg (by first | assumption | exact not_not_intro (by assumption) | omega)])); first | done | rfl | (symm; assumption)), by unfold xmeanM; rw [if_neg (by omega), if_neg (by omega), if_neg (by omega), hst2]⟩
            · skip
              refine g_lload_n cx (pc2 := 56) 2 rfl dX12_mean_55 rfl ?_
              refine g_aload_n cx (pc2 := 57) 0 rfl dX12_mean_56 rfl ?_
              refine g_iload_n cx (pc2 := 58) 1 rfl dX12_mean_57 rfl ?_
              refine g_iload cx (pc2 := 60) 3 rfl dX12_mean_58 rfl ?_
              refine g_callV cx (pc2 := 63) (st := [.long (lI s)]) (As := [.int (iI r), .int (iI k)]) (k0 := 77) (ci := 12) (c_X12_rowAt (M := M) hn r k (by first | assumption | omega) (by first | assumption | omega)) wM_X12_rowAt wV_X12_rowAt kl_X12_115 rfl (lt_lit hn (Nat.le_of_ble_eq_true rfl)) rfl ⟨rfl, rfl, Nat.le_of_ble_eq_true rfl, Nat.le_of_ble_eq_true rfl⟩ (Nat.le_of_ble_eq_true rfl) cs rfl rfl dX12_mean_60 rfl ?_
              rintro _ _ ⟨rfl, rfl⟩
              refine g_i2l cx (pc2 := 64) (by have z := hq2.2 k.toNat (by omega); unfold rcA; rw [show (60 * r + k).toNat = 60 * r.toNat + k.toNat by omega]; exact z) dX12_mean_63 rfl ?_
              refine g_ladd cx (pc2 := 65) dX12_mean_64 rfl ?_
              refine g_lstore_n cx (pc2 := 66) (lv2 := [(0, .ref 77), (1, .int (iI r)), (2, .long (lI (s + (rcA M r k)))), (4, .int (iI k))]) rfl (Nat.le_of_ble_eq_true rfl) dX12_mean_65 rfl ?_
              refine g_iinc cx (pc2 := 69) 3 rfl (lv2 := [(0, .ref 77), (1, .int (iI r)), (2, .long (lI (s + (rcA M r k)))), (4, .int (iI (k + 1)))]) rfl (Nat.le_of_ble_eq_true rfl) dX12_mean_66 rfl ?_
              refine g_goto cx (tgt := 44) dX12_mean_69 (by decide) ?_
              exact ih44 ((M 79 r.toNat - (k + 1)).toNat) (by omega) (k + 1) (s + (rcA M r k)) (by first | assumption | omega) (by rw [show (k + 1).toNat = k.toNat + 1 by omega, smZ, hs]; unfold xsm; rw [Int.toNat_of_nonneg hk.1]) (Nat.le_refl _)
        exact L44 _ 0 0 (by first | assumption | omega) (by rfl) (Nat.le_refl _)
      · skip
        refine g_aload_n cx (pc2 := 34) 0 rfl dX12_mean_33 rfl ?_
        refine g_iconst cx (pc2 := 35) dX12_mean_34 rfl ?_
        refine g_callV cx (pc2 := 38) (st := []) (As := [.int (iI 4)]) (k0 := 77) (ci := 12) (c_X12_meets (M := M) hn 4 (by first | assumption | omega)) wM_X12_meets wV_X12_meets kl_X12_111 rfl (lt_lit hn (Nat.le_of_ble_eq_true rfl)) rfl ⟨rfl, rfl, Nat.le_of_ble_eq_true rfl, Nat.le_of_ble_eq_true rfl⟩ (Nat.le_of_ble_eq_true rfl) cs rfl rfl dX12_mean_35 rfl ?_
        rintro _ _ ⟨rfl, rfl⟩
        exact g_iret cx qx dX12_mean_38 ⟨congrArg (fun q => some (Value.int (iI q))) (by unfold xmeanA; (repeat (first | rw [if_pos (by first | assumption | omega)] | rw [if_neg (by first | assumption | exact not_not_intro (by assumption) | omega)])); first | done | rfl | (symm; assumption)), by unfold xmeanM; (repeat (first | rw [if_pos (by first | assumption | omega)] | rw [if_neg (by first | assumption | exact not_not_intro (by assumption) | omega)])); first | done | rfl | (symm; assumption)⟩
    · skip
      refine g_aload_n cx (pc2 := 19) 0 rfl dX12_mean_18 rfl ?_
      refine g_iconst cx (pc2 := 20) dX12_mean_19 rfl ?_
      refine g_callV cx (pc2 := 23) (st := []) (As := [.int (iI 1)]) (k0 := 77) (ci := 12) (c_X12_meets (M := M) hn 1 (by first | assumption | omega)) wM_X12_meets wV_X12_meets kl_X12_111 rfl (lt_lit hn (Nat.le_of_ble_eq_true rfl)) rfl ⟨rfl, rfl, Nat.le_of_ble_eq_true rfl, Nat.le_of_ble_eq_true rfl⟩ (Nat.le_of_ble_eq_true rfl) cs rfl rfl dX12_mean_20 rfl ?_
      rintro _ _ ⟨rfl, rfl⟩
      exact g_iret cx qx dX12_mean_23 ⟨congrArg (fun q => some (Value.int (iI q))) (by unfold xmeanA; (repeat (first | rw [if_pos (by first | assumption | omega)] | rw [if_neg (by first | assumption | exact not_not_intro (by assumption) | omega)])); first | done | rfl | (symm; assumption)), by unfold xmeanM; (repeat (first | rw [if_pos (by first | assumption | omega)] | rw [if_neg (by first | assumption | exact not_not_intro (by assumption) | omega)])); first | done | rfl | (symm; assumption)⟩
  · skip
    refine g_iconst cx (pc2 := 8) dX12_mean_7 rfl ?_
    exact g_iret cx qx dX12_mean_8 ⟨congrArg (fun q => some (Value.int (iI q))) (by unfold xmeanA; (repeat (first | rw [if_pos (by first | assumption | omega)] | rw [if_neg (by first | assumption | exact not_not_intro (by assumption) | omega)])); first | done | rfl | (symm; assumption)), by unfold xmeanM; (repeat (first | rw [if_pos (by first | assumption | omega)] | rw [if_neg (by first | assumption | exact not_not_intro (by assumption) | omega)])); first | done | rfl | (symm; assumption)⟩
set_option maxHeartbeats 4000000 in
set_option maxRecDepth 100000 in
theorem c_X12_text {n : Nat} (hn : NN n) {M : Mm} (r q : Int) (hr : ir r) (hq : ir q) : CT yX12_text cX12_text 4 (some .int) ({ frames := 2, cells := 0, slots := 0, locals := 42 }) n [.ref 77, .int (iI r), .int (iI q)] M (rI (textA r q) (xtextM M r q)) := by
  refine CT.of (lv0 := [(0, .ref 77), (1, .int (iI r)), (2, .int (iI q))]) (by decide +kernel) hn (fun _ => rfl) (fun _ => Nat.le_of_ble_eq_true rfl) (fun X cx cs qx => ?_)
  have cx : Cx X cX12_text RX12 ({ frames := 2, cells := 0, slots := 0, locals := 42 }) 4 n := cx
  refine g_iload_n cx (pc2 := 1) 1 rfl dX12_text_0 rfl ?_
  refine g_callS cx (pc2 := 4) (st := []) (As := [.int (iI r)]) (c_X12_isText (M := M) hn r (by first | assumption | omega)) wM_X12_isText wS_X12_isText kl_X12_122 ⟨rfl, rfl, Nat.le_of_ble_eq_true rfl, Nat.le_of_ble_eq_true rfl⟩ (Nat.le_of_ble_eq_true rfl) cs rfl rfl dX12_text_1 rfl ?_
  rintro _ _ ⟨rfl, rfl⟩
  refine g_ifb_eq cx (pc2 := 7) (tgt := 13) dX12_text_4 (by decide) rfl (fun h_1 => ?_) (fun h_1 => ?_)
  · skip
    refine g_iconst cx (pc2 := 14) dX12_text_13 rfl ?_
    exact g_iret cx qx dX12_text_14 ⟨congrArg (fun q => some (Value.int (iI q))) (by unfold textA; (repeat (first | rw [if_pos (by first | assumption | omega)] | rw [if_neg (by first | assumption | exact not_not_intro (by assumption) | omega)])); first | done | rfl | (symm; assumption)), by unfold xtextM; first | (rw [if_neg (by omega), if_neg (by omega), show i = 120 by omega]; done) | ((repeat (first | rw [if_pos (by first | assumption | omega)] | rw [if_neg (by first | assumption | exact not_not_intro (by assumption) | omega)])); first | done | rfl | (symm; assumption))⟩
  · skip
    refine g_iload_n cx (pc2 := 8) 2 rfl dX12_text_7 rfl ?_
    refine g_bipush cx (pc2 := 10) ⟨by decide, by decide⟩ dX12_text_8 rfl ?_
    refine g_icmp_le cx (pc2 := 13) (tgt := 15) ⟨(by first | assumption | omega), ⟨by decide, by decide⟩⟩ dX12_text_10 (by decide) rfl (fun h_2 => ?_) (fun h_2 => ?_)
    · skip
      refine g_iload_n cx (pc2 := 16) 2 rfl dX12_text_15 rfl ?_
      refine g_if_ge cx (pc2 := 19) (tgt := 25) (by first | assumption | omega) dX12_text_16 (by decide) rfl (fun h_3 => ?_) (fun h_3 => ?_)
      · skip
        refine g_aload_n cx (pc2 := 26) 0 rfl dX12_text_25 rfl ?_
        refine g_get cx (pc2 := 29) (ci := 12) (k0 := 77) (j := 8) (v := .ref 82) rfl iwX12 rfl (lt_lit hn (Nat.le_of_ble_eq_true rfl)) rfl (Nat.le_of_ble_eq_true rfl) kf_X12_22 rfl rfl dX12_text_26 rfl ?_
        refine g_iload_n cx (pc2 := 30) 1 rfl dX12_text_29 rfl ?_
        refine g_iload_n cx (pc2 := 31) 2 rfl dX12_text_30 rfl ?_
        refine g_iast cx (pc2 := 32) (k0 := 82) rfl (lt_lit hn (Nat.le_of_ble_eq_true rfl)) (by first | assumption | omega) (by first | assumption | omega) (Nat.le_of_ble_eq_true rfl) dX12_text_31 rfl ?_
        refine g_iconst cx (pc2 := 33) dX12_text_32 rfl ?_
        refine g_istore_n cx (pc2 := 34) (lv2 := [(0, .ref 77), (1, .int (iI r)), (2, .int (iI q)), (3, .int (iI 0))]) rfl (Nat.le_of_ble_eq_true rfl) dX12_text_33 rfl ?_
        have L34 : ∀ (fu : Nat) (i : Int), (0 ≤ i ∧ i ≤ 120) → (120 - i).toNat ≤ fu → G X 34 [(0, .ref 77), (1, .int (iI r)), (2, .int (iI q)), (3, .int (iI i))] [] (rtP M r q i) := by
          intro fu
          induction fu using Nat.strongRecOn with
          | _ fu ih34 =>
            intro i hi hk34
            refine g_iload_n cx (pc2 := 35) 3 rfl dX12_text_34 rfl ?_
            refine g_bipush cx (pc2 := 37) ⟨by decide, by decide⟩ dX12_text_35 rfl ?_
            refine g_icmp_ge cx (pc2 := 40) (tgt := 59) ⟨(by first | assumption | omega), ⟨by decide, by decide⟩⟩ dX12_text_37 (by decide) rfl (fun h_4 => ?_) (fun h_4 => ?_)
            · skip
              refine g_iload_n cx (pc2 := 60) 2 rfl dX12_text_59 rfl ?_
              exact g_iret cx qx dX12_text_60 ⟨congrArg (fun q => some (Value.int (iI q))) (by unfold textA; (repeat (first | rw [if_pos (by first | assumption | omega)] | rw [if_neg (by first | assumption | exact not_not_intro (by assumption) | omega)])); first | done | rfl | (symm; assumption)), by unfold xtextM; first | (rw [if_neg (by omega), if_neg (by omega), show i = 120 by omega]; done) | ((repeat (first | rw [if_pos (by first | assumption | omega)] | rw [if_neg (by first | assumption | exact not_not_intro (by assumption) | omega)])); first | done | rfl | (symm; assumption))⟩
            · skip
              refine g_aload_n cx (pc2 := 41) 0 rfl dX12_text_40 rfl ?_
              refine g_get cx (pc2 := 44) (ci := 12) (k0 := 77) (j := 9) (v := .ref 83) rfl iwX12 rfl (lt_lit hn (Nat.le_of_ble_eq_true rfl)) rfl (Nat.le_of_ble_eq_true rfl) kf_X12_25 rfl rfl dX12_text_41 rfl ?_
              refine g_bipush cx (pc2 := 46) ⟨by decide, by decide⟩ dX12_text_44 rfl ?_
              refine g_iload_n cx (pc2 := 47) 1 rfl dX12_text_46 rfl ?_
              refine g_imul cx (pc2 := 48) dX12_text_47 rfl ?_
              refine g_iload_n cx (pc2 := 49) 3 rfl dX12_text_48 rfl ?_
              refine g_iadd cx (pc2 := 50) dX12_text_49 rfl ?_
              refine g_bipush cx (pc2 := 52) ⟨by decide, by decide⟩ dX12_text_50 rfl ?_
              refine g_bast cx (pc2 := 53) (k0 := 83) rfl (lt_lit hn (Nat.le_of_ble_eq_true rfl)) (by first | assumption | omega) (by first | assumption | omega) (Nat.le_of_ble_eq_true rfl) (by exact ⟨by decide, by decide⟩) dX12_text_52 rfl ?_
              refine g_iinc cx (pc2 := 56) 3 rfl (lv2 := [(0, .ref 77), (1, .int (iI r)), (2, .int (iI q)), (3, .int (iI (i + 1)))]) rfl (Nat.le_of_ble_eq_true rfl) dX12_text_53 rfl ?_
              refine g_goto cx (tgt := 34) dX12_text_56 (by decide) ?_
              refine g_M (M2 := (rtP M r q (i + 1))) (by exact rtP_s (by omega) hi.1) ?_
              exact ih34 ((120 - (i + 1)).toNat) (by omega) (i + 1) (by first | assumption | omega) (Nat.le_refl _)
        refine g_M (M2 := (rtP M r q 0)) (by exact rtP_0 M r q) ?_
        exact L34 _ 0 (by first | assumption | omega) (Nat.le_refl _)
      · skip
        refine g_aload_n cx (pc2 := 20) 0 rfl dX12_text_19 rfl ?_
        refine g_iconst cx (pc2 := 21) dX12_text_20 rfl ?_
        refine g_callV cx (pc2 := 24) (st := []) (As := [.int (iI 5)]) (k0 := 77) (ci := 12) (c_X12_meets (M := M) hn 5 (by first | assumption | omega)) wM_X12_meets wV_X12_meets kl_X12_111 rfl (lt_lit hn (Nat.le_of_ble_eq_true rfl)) rfl ⟨rfl, rfl, Nat.le_of_ble_eq_true rfl, Nat.le_of_ble_eq_true rfl⟩ (Nat.le_of_ble_eq_true rfl) cs rfl rfl dX12_text_21 rfl ?_
        rintro _ _ ⟨rfl, rfl⟩
        exact g_iret cx qx dX12_text_24 ⟨congrArg (fun q => some (Value.int (iI q))) (by unfold textA; (repeat (first | rw [if_pos (by first | assumption | omega)] | rw [if_neg (by first | assumption | exact not_not_intro (by assumption) | omega)])); first | done | rfl | (symm; assumption)), by unfold xtextM; first | (rw [if_neg (by omega), if_neg (by omega), show i = 120 by omega]; done) | ((repeat (first | rw [if_pos (by first | assumption | omega)] | rw [if_neg (by first | assumption | exact not_not_intro (by assumption) | omega)])); first | done | rfl | (symm; assumption))⟩
    · skip
      refine g_iconst cx (pc2 := 14) dX12_text_13 rfl ?_
      exact g_iret cx qx dX12_text_14 ⟨congrArg (fun q => some (Value.int (iI q))) (by unfold textA; (repeat (first | rw [if_pos (by first | assumption | omega)] | rw [if_neg (by first | assumption | exact not_not_intro (by assumption) | omega)])); first | done | rfl | (symm; assumption)), by unfold xtextM; first | (rw [if_neg (by omega), if_neg (by omega), show i = 120 by omega]; done) | ((repeat (first | rw [if_pos (by first | assumption | omega)] | rw [if_neg (by first | assumption | exact not_not_intro (by assumption) | omega)])); first | done | rfl | (symm; assumption))⟩
set_option maxHeartbeats 4000000 in
set_option maxRecDepth 100000 in
theorem c_X12_put {n : Nat} (hn : NN n) {M : Mm} (hT : RT M) (r i v : Int) (hr : ir r) (hi : ir i) : CT yX12_put cX12_put 5 (some .int) ({ frames := 2, cells := 0, slots := 0, locals := 42 }) n [.ref 77, .int (iI r), .int (iI i), .int (iI v)] M (rI (xputA M r i) (xputM M r i v)) := by
  refine CT.of (lv0 := [(0, .ref 77), (1, .int (iI r)), (2, .int (iI i)), (3, .int (iI v))]) (by decide +kernel) hn (fun _ => rfl) (fun _ => Nat.le_of_ble_eq_true rfl) (fun X cx cs qx => ?_)
  have cx : Cx X cX12_put RX12 ({ frames := 2, cells := 0, slots := 0, locals := 42 }) 5 n := cx
  have hq1 := fun q : T4 r => hT r.toNat (by omega)
  have hb8 := by8_b v
  refine g_iload_n cx (pc2 := 1) 1 rfl dX12_put_0 rfl ?_
  refine g_callS cx (pc2 := 4) (st := []) (As := [.int (iI r)]) (c_X12_isText (M := M) hn r (by first | assumption | omega)) wM_X12_isText wS_X12_isText kl_X12_122 ⟨rfl, rfl, Nat.le_of_ble_eq_true rfl, Nat.le_of_ble_eq_true rfl⟩ (Nat.le_of_ble_eq_true rfl) cs rfl rfl dX12_put_1 rfl ?_
  rintro _ _ ⟨rfl, rfl⟩
  refine g_ifb_ne cx (pc2 := 7) (tgt := 9) dX12_put_4 (by decide) rfl (fun h_1 => ?_) (fun h_1 => ?_)
  · skip
    have hq2 := hq1 (by assumption)
    refine g_aload_n cx (pc2 := 10) 0 rfl dX12_put_9 rfl ?_
    refine g_get cx (pc2 := 13) (ci := 12) (k0 := 77) (j := 8) (v := .ref 82) rfl iwX12 rfl (lt_lit hn (Nat.le_of_ble_eq_true rfl)) rfl (Nat.le_of_ble_eq_true rfl) kf_X12_22 rfl rfl dX12_put_10 rfl ?_
    refine g_iload_n cx (pc2 := 14) 1 rfl dX12_put_13 rfl ?_
    refine g_iald cx (pc2 := 15) (k0 := 82) rfl (lt_lit hn (Nat.le_of_ble_eq_true rfl)) (by first | assumption | omega) (by first | assumption | omega) (Nat.le_of_ble_eq_true rfl) dX12_put_14 rfl ?_
    refine g_rwi (y := iI (M 82 ((r).toNat))) (congrArg iI (by simp [stM])) ?_
    refine g_if_ge cx (pc2 := 18) (tgt := 24) (by first | assumption | omega) dX12_put_15 (by decide) rfl (fun h_2 => ?_) (fun h_2 => ?_)
    · skip
      refine g_iload_n cx (pc2 := 25) 2 rfl dX12_put_24 rfl ?_
      refine g_iconst cx (pc2 := 26) dX12_put_25 rfl ?_
      refine g_aload_n cx (pc2 := 27) 0 rfl dX12_put_26 rfl ?_
      refine g_get cx (pc2 := 30) (ci := 12) (k0 := 77) (j := 8) (v := .ref 82) rfl iwX12 rfl (lt_lit hn (Nat.le_of_ble_eq_true rfl)) rfl (Nat.le_of_ble_eq_true rfl) kf_X12_22 rfl rfl dX12_put_27 rfl ?_
      refine g_iload_n cx (pc2 := 31) 1 rfl dX12_put_30 rfl ?_
      refine g_iald cx (pc2 := 32) (k0 := 82) rfl (lt_lit hn (Nat.le_of_ble_eq_true rfl)) (by first | assumption | omega) (by first | assumption | omega) (Nat.le_of_ble_eq_true rfl) dX12_put_31 rfl ?_
      refine g_rwi (y := iI (M 82 ((r).toNat))) (congrArg iI (by simp [stM])) ?_
      refine g_iconst cx (pc2 := 33) dX12_put_32 rfl ?_
      refine g_isub cx (pc2 := 34) dX12_put_33 rfl ?_
      refine g_callS cx (pc2 := 37) (st := []) (As := [.int (iI i), .int (iI 0), .int (iI ((M 82 ((r).toNat)) - 1))]) (c_X12_in (M := M) hn i 0 ((M 82 ((r).toNat)) - 1) (by first | assumption | omega) (by first | assumption | omega) (by first | assumption | omega)) wM_X12_in wS_X12_in kl_X12_97 ⟨rfl, rfl, Nat.le_of_ble_eq_true rfl, Nat.le_of_ble_eq_true rfl⟩ (Nat.le_of_ble_eq_true rfl) cs rfl rfl dX12_put_34 rfl ?_
      rintro _ _ ⟨rfl, rfl⟩
      refine g_ifb_ne cx (pc2 := 40) (tgt := 46) dX12_put_37 (by decide) rfl (fun h_3 => ?_) (fun h_3 => ?_)
      · skip
        refine g_aload_n cx (pc2 := 47) 0 rfl dX12_put_46 rfl ?_
        refine g_get cx (pc2 := 50) (ci := 12) (k0 := 77) (j := 9) (v := .ref 83) rfl iwX12 rfl (lt_lit hn (Nat.le_of_ble_eq_true rfl)) rfl (Nat.le_of_ble_eq_true rfl) kf_X12_25 rfl rfl dX12_put_47 rfl ?_
        refine g_bipush cx (pc2 := 52) ⟨by decide, by decide⟩ dX12_put_50 rfl ?_
        refine g_iload_n cx (pc2 := 53) 1 rfl dX12_put_52 rfl ?_
        refine g_imul cx (pc2 := 54) dX12_put_53 rfl ?_
        refine g_iload_n cx (pc2 := 55) 2 rfl dX12_put_54 rfl ?_
        refine g_iadd cx (pc2 := 56) dX12_put_55 rfl ?_
        refine g_bald cx (pc2 := 57) (k0 := 83) rfl (lt_lit hn (Nat.le_of_ble_eq_true rfl)) (by first | assumption | omega) (by first | assumption | omega) (Nat.le_of_ble_eq_true rfl) dX12_put_56 rfl ?_
        refine g_rwi (y := iI (M 83 (((120 * r) + i).toNat))) (congrArg iI (by simp [stM])) ?_
        refine g_istore cx (pc2 := 59) (lv2 := [(0, .ref 77), (1, .int (iI r)), (2, .int (iI i)), (3, .int (iI v)), (4, .int (iI (M 83 (((120 * r) + i).toNat))))]) rfl (Nat.le_of_ble_eq_true rfl) dX12_put_57 rfl ?_
        refine g_aload_n cx (pc2 := 60) 0 rfl dX12_put_59 rfl ?_
        refine g_get cx (pc2 := 63) (ci := 12) (k0 := 77) (j := 9) (v := .ref 83) rfl iwX12 rfl (lt_lit hn (Nat.le_of_ble_eq_true rfl)) rfl (Nat.le_of_ble_eq_true rfl) kf_X12_25 rfl rfl dX12_put_60 rfl ?_
        refine g_bipush cx (pc2 := 65) ⟨by decide, by decide⟩ dX12_put_63 rfl ?_
        refine g_iload_n cx (pc2 := 66) 1 rfl dX12_put_65 rfl ?_
        refine g_imul cx (pc2 := 67) dX12_put_66 rfl ?_
        refine g_iload_n cx (pc2 := 68) 2 rfl dX12_put_67 rfl ?_
        refine g_iadd cx (pc2 := 69) dX12_put_68 rfl ?_
        refine g_iload_n cx (pc2 := 70) 3 rfl dX12_put_69 rfl ?_
        refine g_i2b cx (pc2 := 71) dX12_put_70 rfl ?_
        refine g_rwi (y := iI (by8 v)) ((iI_of _).symm) ?_
        refine g_bast cx (pc2 := 72) (k0 := 83) rfl (lt_lit hn (Nat.le_of_ble_eq_true rfl)) (by first | assumption | omega) (by first | assumption | omega) (Nat.le_of_ble_eq_true rfl) (by omega) dX12_put_71 rfl ?_
        refine g_sipush cx (pc2 := 75) ⟨by decide, by decide⟩ dX12_put_72 rfl ?_
        refine g_iload cx (pc2 := 77) 4 rfl dX12_put_75 rfl ?_
        refine g_iadd cx (pc2 := 78) dX12_put_77 rfl ?_
        exact g_iret cx qx dX12_put_78 ⟨congrArg (fun q => some (Value.int (iI q))) (by unfold xputA; (repeat (first | rw [if_pos (by first | assumption | omega)] | rw [if_neg (by first | assumption | exact not_not_intro (by assumption) | omega)])); first | done | rfl | (symm; assumption)), by unfold xputM; (repeat (first | rw [if_pos (by first | assumption | omega)] | rw [if_neg (by first | assumption | exact not_not_intro (by assumption) | omega)])); first | done | rfl | (symm; assumption)⟩
      · skip
        refine g_aload_n cx (pc2 := 41) 0 rfl dX12_put_40 rfl ?_
        refine g_iconst cx (pc2 := 42) dX12_put_41 rfl ?_
        refine g_callV cx (pc2 := 45) (st := []) (As := [.int (iI 2)]) (k0 := 77) (ci := 12) (c_X12_meets (M := M) hn 2 (by first | assumption | omega)) wM_X12_meets wV_X12_meets kl_X12_111 rfl (lt_lit hn (Nat.le_of_ble_eq_true rfl)) rfl ⟨rfl, rfl, Nat.le_of_ble_eq_true rfl, Nat.le_of_ble_eq_true rfl⟩ (Nat.le_of_ble_eq_true rfl) cs rfl rfl dX12_put_42 rfl ?_
        rintro _ _ ⟨rfl, rfl⟩
        exact g_iret cx qx dX12_put_45 ⟨congrArg (fun q => some (Value.int (iI q))) (by unfold xputA; (repeat (first | rw [if_pos (by first | assumption | omega)] | rw [if_neg (by first | assumption | exact not_not_intro (by assumption) | omega)])); first | done | rfl | (symm; assumption)), by unfold xputM; (repeat (first | rw [if_pos (by first | assumption | omega)] | rw [if_neg (by first | assumption | exact not_not_intro (by assumption) | omega)])); first | done | rfl | (symm; assumption)⟩
    · skip
      refine g_aload_n cx (pc2 := 19) 0 rfl dX12_put_18 rfl ?_
      refine g_iconst cx (pc2 := 20) dX12_put_19 rfl ?_
      refine g_callV cx (pc2 := 23) (st := []) (As := [.int (iI 1)]) (k0 := 77) (ci := 12) (c_X12_meets (M := M) hn 1 (by first | assumption | omega)) wM_X12_meets wV_X12_meets kl_X12_111 rfl (lt_lit hn (Nat.le_of_ble_eq_true rfl)) rfl ⟨rfl, rfl, Nat.le_of_ble_eq_true rfl, Nat.le_of_ble_eq_true rfl⟩ (Nat.le_of_ble_eq_true rfl) cs rfl rfl dX12_put_20 rfl ?_
      rintro _ _ ⟨rfl, rfl⟩
      exact g_iret cx qx dX12_put_23 ⟨congrArg (fun q => some (Value.int (iI q))) (by unfold xputA; (repeat (first | rw [if_pos (by first | assumption | omega)] | rw [if_neg (by first | assumption | exact not_not_intro (by assumption) | omega)])); first | done | rfl | (symm; assumption)), by unfold xputM; (repeat (first | rw [if_pos (by first | assumption | omega)] | rw [if_neg (by first | assumption | exact not_not_intro (by assumption) | omega)])); first | done | rfl | (symm; assumption)⟩
  · skip
    refine g_iconst cx (pc2 := 8) dX12_put_7 rfl ?_
    exact g_iret cx qx dX12_put_8 ⟨congrArg (fun q => some (Value.int (iI q))) (by unfold xputA; (repeat (first | rw [if_pos (by first | assumption | omega)] | rw [if_neg (by first | assumption | exact not_not_intro (by assumption) | omega)])); first | done | rfl | (symm; assumption)), by unfold xputM; (repeat (first | rw [if_pos (by first | assumption | omega)] | rw [if_neg (by first | assumption | exact not_not_intro (by assumption) | omega)])); first | done | rfl | (symm; assumption)⟩
