theorem shr_iI {s i : Int} (hs : 0 ≤ s) (hs2 : s < 2147483648) (h0 : 0 ≤ i) (h1 : i < 32) : iI s >>> (iI i &&& 31) = iI (s / ((2 ^ i.toNat : Nat) : Int)) := by
  have hr : ir s := ⟨by omega, hs2⟩
  have key : ∀ k : Nat, k < 32 → ((Int32.ofInt (k : Int) &&& 31).toBitVec.smod 32).toNat = k := by decide +kernel
  have e := key i.toNat (by omega)
  rw [Int.toNat_of_nonneg h0] at e
  have hp : 0 < ((2 ^ i.toNat : Nat) : Int) := by
    have := Nat.two_pow_pos i.toNat
    omega
  have hq0 : 0 ≤ s / ((2 ^ i.toNat : Nat) : Int) := Int.ediv_nonneg hs (Int.le_of_lt hp)
  have hq1 : s / ((2 ^ i.toNat : Nat) : Int) ≤ s := Int.ediv_le_self _ hs
  have hr2 : ir (s / ((2 ^ i.toNat : Nat) : Int)) := ⟨by omega, by omega⟩
  apply Int32.toInt_inj.mp
  rw [iI_toInt hr2]
  show ((iI s) >>> (iI i &&& 31)).toBitVec.toInt = _
  rw [Int32.toBitVec_shiftRight]
  show (BitVec.sshiftRight (iI s).toBitVec ((iI i &&& 31).toBitVec.smod 32).toNat).toInt = _
  rw [show ((iI i &&& 31).toBitVec.smod 32).toNat = i.toNat from e, BitVec.toInt_sshiftRight]
  show (iI s).toInt >>> i.toNat = _
  rw [iI_toInt hr, Int.shiftRight_eq_div_pow]
theorem shr1 {s i : Int} (hs : 0 ≤ s) (hs2 : s < 2147483648) (h0 : 0 ≤ i) (h1 : i < 32) : (iI s >>> (iI i &&& 31)) &&& iI 1 = iI (if s.toNat.testBit i.toNat then 1 else 0) := by
  have hp : 0 < ((2 ^ i.toNat : Nat) : Int) := by
    have := Nat.two_pow_pos i.toNat
    omega
  rw [shr_iI hs hs2 h0 h1, and_iI (Int.ediv_nonneg hs (Int.le_of_lt hp)) (by decide)]
  congr 1
  have e : (s / ((2 ^ i.toNat : Nat) : Int)).toNat = s.toNat / 2 ^ i.toNat := by
    conv => lhs; rw [← Int.toNat_of_nonneg hs]
    rw [← Int.natCast_ediv, Int.toNat_natCast]
  rw [e, show (1 : Int).toNat = 1 from rfl, Nat.and_one_is_mod, Nat.testBit_eq_decide_div_mod_eq]
  by_cases h : s.toNat / 2 ^ i.toNat % 2 = 1
  · simp [h]
  · simp only [h, decide_false]
    have : s.toNat / 2 ^ i.toNat % 2 = 0 := by omega
    rw [this]
    rfl
/-- the sets of NEEDS of an array -/
def muB (V : Nat → Int) (i : Nat) : Bool := decide (mustP V (i : Int))
def muN (V : Nat → Int) : Nat := bsum (muB V) (V 9).toNat
def woV (V : Nat → Int) (s : Int) (k : Nat) : Int := smZ (fun j => if s.toNat.testBit j then V (15 + 6 * j) else 0) k
theorem or1 (p : Nat → Bool) {i : Int} (h0 : 0 ≤ i) (h1 : i < 8) (hp : p i.toNat = true) : iI ((bsum p i.toNat : Nat) : Int) ||| iI ((bitN i : Nat) : Int) = iI ((bsum p (i + 1).toNat : Nat) : Int) := by
  rw [or_iI (by omega) (by omega), Int.toNat_natCast, Int.toNat_natCast, or_step p h0 h1 hp]
theorem or0 (p : Nat → Bool) {i : Int} (h0 : 0 ≤ i) (hp : p i.toNat = false) : iI ((bsum p i.toNat : Nat) : Int) ||| iI 0 = iI ((bsum p (i + 1).toNat : Nat) : Int) := by
  rw [or_iI (by omega) (by decide), Int.toNat_natCast, show (0 : Int).toNat = 0 from rfl, Nat.or_zero, or_skip p h0 hp]
theorem shb {i : Int} (h0 : 0 ≤ i) (h1 : i < 8) : iI 1 <<< (iI i &&& 31) = iI ((bitN i : Nat) : Int) := by
  rw [sh1 h0 (by omega), bitN_in ⟨h0, h1⟩]
theorem muB_t {V : Nat → Int} {i : Int} (h0 : 0 ≤ i) (h : mustP V i) : muB V i.toNat = true := by
  unfold muB
  rw [Int.toNat_of_nonneg h0]
  exact decide_eq_true h
theorem muB_f {V : Nat → Int} {i : Int} (h0 : 0 ≤ i) (h : ¬ mustP V i) : muB V i.toNat = false := by
  unfold muB
  rw [Int.toNat_of_nonneg h0]
  exact decide_eq_false h
theorem woV_s (V : Nat → Int) (s : Int) {i : Int} (h0 : 0 ≤ i) : woV V s (i + 1).toNat = woV V s i.toNat + (if s.toNat.testBit i.toNat then 1 else 0) * V (15 + 6 * i).toNat := by
  rw [show (i + 1).toNat = i.toNat + 1 by omega]
  show smZ _ (i.toNat + 1) = _
  rw [smZ, show (15 + 6 * i).toNat = 15 + 6 * i.toNat by omega]
  split
  · rw [Int.one_mul]; rfl
  · rw [Int.zero_mul]; rfl
theorem set_get {w : va_W} {q0 : Nat} {x y : Nat × va_E} (h : w[q0]? = some x) : (w.set q0 y)[q0]? = some y := List.getElem?_set_self (List.getElem?_eq_some_iff.mp h).1
theorem set_same {w : va_W} {q0 : Nat} {x : Nat × va_E} (h : w[q0]? = some x) : w = w.set q0 x := by
  apply List.ext_getElem?
  intro j
  by_cases hj : j = q0
  · subst hj
    rw [set_get h, h]
  · rw [List.getElem?_set_ne (Ne.symm hj)]
set_option maxHeartbeats 4000000 in
set_option maxRecDepth 100000 in
theorem musts_L {P : Pl} {b L : Nat} {xs : Nat → Int32} {w : va_W} {av : Nat} {V : Nat → Int} (q0 : Nat) (hV : w[q0]? = some (ar P av 64 V)) (hr : ∀ j, ir (V j)) (hn9 : 0 ≤ V 9 ∧ V 9 ≤ 8) {X : Yq} (cx : Yx X cL_musts RL ({ frames := 1, cells := 0, slots := 0, locals := 22 } : Room) 3 P) (ys : Ys X P) (sx : Sy X b L xs) (qx : Yr X (w) 0 0 (qI ((muN V : Nat) : Int) w) (some .int)) : ∀ (fu : Nat) (i : Int), (0 ≤ i ∧ i ≤ V 9) → ((V 9 - i).toNat) ≤ fu → YG X 4 [(0, .ref av), (1, .int (iI ((bsum (muB V) i.toNat : Nat) : Int))), (2, .int (iI i))] [] (w) 0 0 := by
  intro fu
  induction fu using Nat.strongRecOn with
  | _ fu ih =>
    intro i hi hfu
    refine l_iload_n cx (pc2 := 5) 2 rfl dL_musts_4 rfl ?_
    refine l_aload_n cx (pc2 := 6) 0 rfl dL_musts_5 rfl ?_
    refine l_bipush cx (pc2 := 8) ⟨by decide, by decide⟩ dL_musts_6 rfl ?_
    refine l_iaload cx (pc2 := 9) (N := 64) (V := V) q0 hV (by first | assumption | omega | exact hr _ | exact ⟨by omega, by omega⟩) (by first | assumption | omega | exact hr _ | exact ⟨by omega, by omega⟩) (Nat.le_of_ble_eq_true rfl) dL_musts_8 rfl ?_
    refine l_rwi (y := iI (V 9)) rfl ?_
    refine l_icmp_ge cx (pc2 := 12) (tgt := 36) ⟨(by first | assumption | omega | exact hr _ | exact ⟨by omega, by omega⟩), (by first | assumption | omega | exact hr _ | exact ⟨by omega, by omega⟩)⟩ dL_musts_9 (by decide) rfl (fun h_1 => ?_) (fun h_1 => ?_)
    · skip
      refine l_iload_n cx (pc2 := 37) 1 rfl dL_musts_36 rfl ?_
      exact l_iret cx qx dL_musts_37 (by exact ⟨congrArg (fun q => some (Value.int (iI q))) (by unfold muN; rw [show (V 9).toNat = i.toNat by omega]), rfl⟩)
    · skip
      refine l_iload_n cx (pc2 := 13) 1 rfl dL_musts_12 rfl ?_
      refine l_aload_n cx (pc2 := 14) 0 rfl dL_musts_13 rfl ?_
      refine l_iload_n cx (pc2 := 15) 2 rfl dL_musts_14 rfl ?_
      refine l_clI cx (pc2 := 18) (st := [.int (iI ((bsum (muB V) i.toNat : Nat) : Int))]) ys sx (As := [.ref av, .int (iI i)]) (c_L_must q0 hV hr i (by omega)) wM_L_must wS_L_must kl_L_62 ⟨rfl, rfl, Nat.le_of_ble_eq_true rfl, Nat.le_of_ble_eq_true rfl⟩ (Nat.le_of_ble_eq_true rfl) ⟨Nat.zero_le _, Nat.zero_le _⟩ rfl rfl dL_musts_15 rfl ?_
      refine l_ifb_eq cx (pc2 := 21) (tgt := 27) dL_musts_18 (by decide) rfl (fun h_2 => ?_) (fun h_2 => ?_)
      · skip
        refine l_iconst cx (pc2 := 28) dL_musts_27 rfl ?_
        refine l_ior cx (pc2 := 29) dL_musts_28 rfl ?_
        refine l_rwi (y := iI ((bsum (muB V) (i + 1).toNat : Nat) : Int)) (by first | exact or1 (muB V) (i := i) (by omega) (by omega) (muB_t (V := V) (i := i) (by omega) (by assumption)) | exact or0 (muB V) (i := i) (by omega) (muB_f (V := V) (i := i) (by omega) (by assumption))) ?_
        refine l_istore_n cx (pc2 := 30) (lv2 := [(0, .ref av), (1, .int (iI ((bsum (muB V) (i + 1).toNat : Nat) : Int))), (2, .int (iI i))]) rfl (Nat.le_of_ble_eq_true rfl) dL_musts_29 rfl ?_
        refine l_iinc cx (pc2 := 33) 2 rfl (lv2 := [(0, .ref av), (1, .int (iI ((bsum (muB V) (i + 1).toNat : Nat) : Int))), (2, .int (iI (i + 1)))]) rfl (Nat.le_of_ble_eq_true rfl) dL_musts_30 rfl ?_
        refine l_goto cx (tgt := 4) dL_musts_33 (by decide) ?_
        exact ih _ (by omega) (i + 1) (by omega) (Nat.le_refl _)
      · skip
        refine l_iconst cx (pc2 := 22) dL_musts_21 rfl ?_
        refine l_iload_n cx (pc2 := 23) 2 rfl dL_musts_22 rfl ?_
        refine l_ishl cx (pc2 := 24) dL_musts_23 rfl ?_
        refine l_rwi (y := iI ((bitN i : Nat) : Int)) (shb (by omega) (by omega)) ?_
        refine l_goto cx (tgt := 28) dL_musts_24 (by decide) ?_
        refine l_ior cx (pc2 := 29) dL_musts_28 rfl ?_
        refine l_rwi (y := iI ((bsum (muB V) (i + 1).toNat : Nat) : Int)) (by first | exact or1 (muB V) (i := i) (by omega) (by omega) (muB_t (V := V) (i := i) (by omega) (by assumption)) | exact or0 (muB V) (i := i) (by omega) (muB_f (V := V) (i := i) (by omega) (by assumption))) ?_
        refine l_istore_n cx (pc2 := 30) (lv2 := [(0, .ref av), (1, .int (iI ((bsum (muB V) (i + 1).toNat : Nat) : Int))), (2, .int (iI i))]) rfl (Nat.le_of_ble_eq_true rfl) dL_musts_29 rfl ?_
        refine l_iinc cx (pc2 := 33) 2 rfl (lv2 := [(0, .ref av), (1, .int (iI ((bsum (muB V) (i + 1).toNat : Nat) : Int))), (2, .int (iI (i + 1)))]) rfl (Nat.le_of_ble_eq_true rfl) dL_musts_30 rfl ?_
        refine l_goto cx (tgt := 4) dL_musts_33 (by decide) ?_
        exact ih _ (by omega) (i + 1) (by omega) (Nat.le_refl _)
set_option maxHeartbeats 4000000 in
set_option maxRecDepth 100000 in
theorem c_L_musts {P : Pl} {b L : Nat} {xs : Nat → Int32} {w : va_W} {av : Nat} {V : Nat → Int} (q0 : Nat) (hV : w[q0]? = some (ar P av 64 V)) (hr : ∀ j, ir (V j)) (hn9 : 0 ≤ V 9 ∧ V 9 ≤ 8) : CLW P b L xs yL_musts cL_musts 3 (some .int) ({ frames := 1, cells := 0, slots := 0, locals := 22 } : Room) 0 0 [.ref av] (w) (qI ((muN V : Nat) : Int) w) := by
  refine CLW.of (lv0 := [(0, .ref av)]) (by decide +kernel) rfl rfl (Nat.le_of_ble_eq_true rfl) (fun X cx ys sx qx => ?_)
  refine l_iconst cx (pc2 := 1) dL_musts_0 rfl ?_
  refine l_istore_n cx (pc2 := 2) (lv2 := [(0, .ref av), (1, .int (iI 0))]) rfl (Nat.le_of_ble_eq_true rfl) dL_musts_1 rfl ?_
  refine l_iconst cx (pc2 := 3) dL_musts_2 rfl ?_
  refine l_istore_n cx (pc2 := 4) (lv2 := [(0, .ref av), (1, .int (iI 0)), (2, .int (iI 0))]) rfl (Nat.le_of_ble_eq_true rfl) dL_musts_3 rfl ?_
  exact musts_L q0 hV hr hn9 cx ys sx qx _ 0 (by omega) (Nat.le_refl _)
set_option maxHeartbeats 4000000 in
set_option maxRecDepth 100000 in
theorem worth_L {P : Pl} {b L : Nat} {xs : Nat → Int32} {w : va_W} {av : Nat} {V : Nat → Int} (q0 : Nat) (hV : w[q0]? = some (ar P av 64 V)) (hr : ∀ j, ir (V j)) (hn9 : 0 ≤ V 9 ∧ V 9 ≤ 8) (s : Int) (hs : 0 ≤ s ∧ s < 2147483648) {X : Yq} (cx : Yx X cL_worth RL ({ frames := 0, cells := 0, slots := 0, locals := 0 } : Room) 4 P) (ys : Ys X P) (sx : Sy X b L xs) (qx : Yr X (w) 0 0 (qI (woV V s (V 9).toNat) w) (some .int)) : ∀ (fu : Nat) (i : Int), (0 ≤ i ∧ i ≤ V 9) → ((V 9 - i).toNat) ≤ fu → YG X 4 [(0, .ref av), (1, .int (iI s)), (2, .int (iI (woV V s i.toNat))), (3, .int (iI i))] [] (w) 0 0 := by
  intro fu
  induction fu using Nat.strongRecOn with
  | _ fu ih =>
    intro i hi hfu
    refine l_iload_n cx (pc2 := 5) 3 rfl dL_worth_4 rfl ?_
    refine l_aload_n cx (pc2 := 6) 0 rfl dL_worth_5 rfl ?_
    refine l_bipush cx (pc2 := 8) ⟨by decide, by decide⟩ dL_worth_6 rfl ?_
    refine l_iaload cx (pc2 := 9) (N := 64) (V := V) q0 hV (by first | assumption | omega | exact hr _ | exact ⟨by omega, by omega⟩) (by first | assumption | omega | exact hr _ | exact ⟨by omega, by omega⟩) (Nat.le_of_ble_eq_true rfl) dL_worth_8 rfl ?_
    refine l_rwi (y := iI (V 9)) rfl ?_
    refine l_icmp_ge cx (pc2 := 12) (tgt := 36) ⟨(by first | assumption | omega | exact hr _ | exact ⟨by omega, by omega⟩), (by first | assumption | omega | exact hr _ | exact ⟨by omega, by omega⟩)⟩ dL_worth_9 (by decide) rfl (fun h_1 => ?_) (fun h_1 => ?_)
    · skip
      refine l_iload_n cx (pc2 := 37) 2 rfl dL_worth_36 rfl ?_
      exact l_iret cx qx dL_worth_37 (by exact ⟨congrArg (fun q => some (Value.int (iI q))) (by rw [show (V 9).toNat = i.toNat by omega]), rfl⟩)
    · skip
      refine l_iload_n cx (pc2 := 13) 2 rfl dL_worth_12 rfl ?_
      refine l_iload_n cx (pc2 := 14) 1 rfl dL_worth_13 rfl ?_
      refine l_iload_n cx (pc2 := 15) 3 rfl dL_worth_14 rfl ?_
      refine l_ishr cx (pc2 := 16) dL_worth_15 rfl ?_
      refine l_iconst cx (pc2 := 17) dL_worth_16 rfl ?_
      refine l_iand cx (pc2 := 18) dL_worth_17 rfl ?_
      refine l_rwi (y := iI (if s.toNat.testBit i.toNat then 1 else 0)) (shr1 hs.1 hs.2 (by omega) (by omega)) ?_
      refine l_aload_n cx (pc2 := 19) 0 rfl dL_worth_18 rfl ?_
      refine l_bipush cx (pc2 := 21) ⟨by decide, by decide⟩ dL_worth_19 rfl ?_
      refine l_bipush cx (pc2 := 23) ⟨by decide, by decide⟩ dL_worth_21 rfl ?_
      refine l_iload_n cx (pc2 := 24) 3 rfl dL_worth_23 rfl ?_
      refine l_imul cx (pc2 := 25) dL_worth_24 rfl ?_
      refine l_iadd cx (pc2 := 26) dL_worth_25 rfl ?_
      refine l_iaload cx (pc2 := 27) (N := 64) (V := V) q0 hV (by first | assumption | omega | exact hr _ | exact ⟨by omega, by omega⟩) (by first | assumption | omega | exact hr _ | exact ⟨by omega, by omega⟩) (Nat.le_of_ble_eq_true rfl) dL_worth_26 rfl ?_
      refine l_imul cx (pc2 := 28) dL_worth_27 rfl ?_
      refine l_iadd cx (pc2 := 29) dL_worth_28 rfl ?_
      refine l_rwi (y := iI (woV V s (i + 1).toNat)) (by rw [woV_s V s (by omega)]) ?_
      refine l_istore_n cx (pc2 := 30) (lv2 := [(0, .ref av), (1, .int (iI s)), (2, .int (iI (woV V s (i + 1).toNat))), (3, .int (iI i))]) rfl (Nat.le_of_ble_eq_true rfl) dL_worth_29 rfl ?_
      refine l_iinc cx (pc2 := 33) 3 rfl (lv2 := [(0, .ref av), (1, .int (iI s)), (2, .int (iI (woV V s (i + 1).toNat))), (3, .int (iI (i + 1)))]) rfl (Nat.le_of_ble_eq_true rfl) dL_worth_30 rfl ?_
      refine l_goto cx (tgt := 4) dL_worth_33 (by decide) ?_
      exact ih _ (by omega) (i + 1) (by omega) (Nat.le_refl _)
set_option maxHeartbeats 4000000 in
set_option maxRecDepth 100000 in
theorem c_L_worth {P : Pl} {b L : Nat} {xs : Nat → Int32} {w : va_W} {av : Nat} {V : Nat → Int} (q0 : Nat) (hV : w[q0]? = some (ar P av 64 V)) (hr : ∀ j, ir (V j)) (hn9 : 0 ≤ V 9 ∧ V 9 ≤ 8) (s : Int) (hs : 0 ≤ s ∧ s < 2147483648) : CLW P b L xs yL_worth cL_worth 4 (some .int) ({ frames := 0, cells := 0, slots := 0, locals := 0 } : Room) 0 0 [.ref av, .int (iI s)] (w) (qI (woV V s (V 9).toNat) w) := by
  refine CLW.of (lv0 := [(0, .ref av), (1, .int (iI s))]) (by decide +kernel) rfl rfl (Nat.le_of_ble_eq_true rfl) (fun X cx ys sx qx => ?_)
  refine l_iconst cx (pc2 := 1) dL_worth_0 rfl ?_
  refine l_istore_n cx (pc2 := 2) (lv2 := [(0, .ref av), (1, .int (iI s)), (2, .int (iI 0))]) rfl (Nat.le_of_ble_eq_true rfl) dL_worth_1 rfl ?_
  refine l_iconst cx (pc2 := 3) dL_worth_2 rfl ?_
  refine l_istore_n cx (pc2 := 4) (lv2 := [(0, .ref av), (1, .int (iI s)), (2, .int (iI 0)), (3, .int (iI 0))]) rfl (Nat.le_of_ble_eq_true rfl) dL_worth_3 rfl ?_
  exact worth_L q0 hV hr hn9 s hs cx ys sx qx _ 0 (by omega) (Nat.le_refl _)
