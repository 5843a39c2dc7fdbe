/-- what a need may hold -/
abbrev NDR (f : Nat → Int) : Prop := (0 ≤ f 0 ∧ f 0 ≤ 5) ∧ (0 ≤ f 1 ∧ f 1 ≤ 7) ∧ (0 ≤ f 2 ∧ f 2 ≤ 27) ∧ (0 ≤ f 3 ∧ f 3 ≤ 27) ∧ (0 ≤ f 4 ∧ f 4 ≤ 4) ∧ (0 ≤ f 5 ∧ f 5 ≤ 9) ∧ (0 ≤ f 6 ∧ f 6 ≤ 12)
abbrev NDW (M : Mm) (o : Nat) : Prop := NDR (M o)
abbrev isAK (kd k : Int) : Prop := (k = 1 ∧ (kd = 1 ∨ kd = 3 ∨ kd = 4)) ∨ (k = 2 ∧ (kd = 2 ∨ kd = 5)) ∨ (¬ k = 1 ∧ ¬ k = 2 ∧ kd = k)
/-- the latest beginning of a need of a kind, between a and b, of a length -/
def ltB (kd a b q : Int) : Int := if kd = 3 ∨ kd = 5 then min (b - q + 1) a else if kd = 4 then min (b - q + 1) (a + 1) else b - q + 1
def tlf (w : Int) : Nat := if 0 ≤ w ∧ w ≤ 4 then w.toNat else 5
def mkO (M : Mm) (o : Nat) (k : Int) : Int := if k = 1 then M o 5 else if k = 2 then M o 6 else if k = 3 then M o 2 + M o 4 - 1 else if k = 4 then (if M o 2 + M o 4 - 1 ≤ M o 3 then 1 else 0) + (if M o 2 + M o 4 ≤ M o 3 then 1 else 0) else if M o 2 + M o 4 - 1 ≤ M o 3 then M o 3 - (M o 2 + M o 4 - 1) else -9
abbrev LW (M : Mm) (o : Nat) : Prop := 0 ≤ M o 3 ∧ M o 3 ≤ 8 ∧ 0 ≤ M o 4 ∧ M o 4 ≤ 8
abbrev PLW (M : Mm) (o : Nat) : Prop := ∀ j, 0 ≤ M (o + 1) j ∧ M (o + 1) j ≤ 15
def plc (M : Mm) (o : Nat) (h : Int) : Int := if 0 ≤ h ∧ h < M o 3 then M (o + 1) h.toNat else 0
theorem plc_in {M : Mm} {o : Nat} {h : Int} (q : 0 ≤ h ∧ h < M o 3) : plc M o h = M (o + 1) h.toNat := by unfold plc; rw [if_pos q]
theorem plc_out {M : Mm} {o : Nat} {h : Int} (q : ¬ (0 ≤ h ∧ h < M o 3)) : plc M o h = 0 := by unfold plc; rw [if_neg q]
theorem plc_b {M : Mm} {o : Nat} (hp : PLW M o) (h : Int) : 0 ≤ plc M o h ∧ plc M o h ≤ 15 := by
  unfold plc
  split
  · exact hp _
  · omega
def ndO (M : Mm) (o : Nat) (i : Int) : Nat := if 0 ≤ i ∧ i < M o 4 then o + 4 + 1 * i.toNat else o + 3
theorem ndO_in {M : Mm} {o : Nat} {i : Int} (q : 0 ≤ i ∧ i < M o 4) : ndO M o i = o + 4 + i.toNat := by unfold ndO; rw [if_pos q]; omega
theorem ndO_ok {M : Mm} {o : Nat} (ho : isLaneO o) (hl : LW M o) (i : Int) : isNeedO (ndO M o i) := by
  unfold ndO
  split
  · rcases ho with rfl | rfl <;> omega
  · rcases ho with rfl | rfl <;> omega
/-- the numbers below n with p, as a set by bits -/
def bsum (p : Nat → Bool) : Nat → Nat
  | 0 => 0
  | k + 1 => bsum p k ||| (if p k then 2 ^ k else 0)
theorem bsum_bit (p : Nat → Bool) (i : Nat) : ∀ k, (bsum p k).testBit i = (decide (i < k) && p i)
  | 0 => by simp [bsum]
  | k + 1 => by
    rw [bsum, Nat.testBit_or, bsum_bit p i k]
    by_cases h : p k = true
    · rw [if_pos h, Nat.testBit_two_pow]
      by_cases e : k = i
      · subst e; simp [h]
      · have e2 : (decide (i < k + 1)) = decide (i < k) := by
          by_cases q : i < k
          · simp [q]; omega
          · simp [q]; omega
        simp [e, e2]
    · rw [if_neg h, Nat.zero_testBit]
      by_cases e : k = i
      · subst e; simp [h]
      · have e2 : (decide (i < k + 1)) = decide (i < k) := by
          by_cases q : i < k
          · simp [q]; omega
          · simp [q]; omega
        simp [e2]
theorem bsum_lt (p : Nat → Bool) (k : Nat) : bsum p k < 2 ^ k := by
  apply Nat.lt_pow_two_of_testBit
  intro i hi
  rw [bsum_bit]
  simp; omega
theorem bsum_255 (p : Nat → Bool) {k : Nat} (hk : k ≤ 8) : bsum p k ≤ 255 := by
  have h1 := bsum_lt p k
  have h2 : 2 ^ k ≤ 2 ^ 8 := Nat.pow_le_pow_right (by decide) hk
  omega
def allN (q : Int) : Nat := bsum (fun _ => true) q.toNat
theorem allN_eq (q : Int) : allN q = 2 ^ q.toNat - 1 := by
  unfold allN
  apply Nat.eq_of_testBit_eq
  intro i
  rw [bsum_bit, Nat.testBit_two_pow_sub_one]
  simp
theorem or_step (p : Nat → Bool) {i : Int} (h0 : 0 ≤ i) (h1 : i < 8) (hp : p i.toNat = true) : bsum p i.toNat ||| bitN i = bsum p (i + 1).toNat := by
  rw [show (i + 1).toNat = i.toNat + 1 by omega, bsum, hp, bitN_in ⟨h0, h1⟩]; rfl
theorem or_skip (p : Nat → Bool) {i : Int} (h0 : 0 ≤ i) (hp : p i.toNat = false) : bsum p i.toNat = bsum p (i + 1).toNat := by
  rw [show (i + 1).toNat = i.toNat + 1 by omega, bsum, hp]; simp
/-- the needs of a lane that are of a kind -/
def kdB (M : Mm) (k : Int) (i : Nat) : Bool := decide (isAK (M (27 + i) 0) k)
def bitsK (M : Mm) (k : Int) : Nat := bsum (kdB M k) (M 23 4).toNat
abbrev NDA (M : Mm) : Prop := NDW M 26 ∧ ∀ i : Nat, i < 8 → NDW M (27 + i)
theorem NDA_of {M : Mm} (h : NDA M) (i : Int) (hl : LW M 23) : NDW M (ndO M 23 i) := by
  unfold ndO
  split
  · have := h.2 i.toNat (by omega)
    rw [show 23 + 4 + 1 * i.toNat = 27 + i.toNat by omega]
    exact this
  · exact h.1
set_option maxHeartbeats 4000000 in
set_option maxRecDepth 100000 in
theorem c_X4_isA {n : Nat} (hn : NN n) {M : Mm} {o : Nat} (ho : isNeedO o) (hd : NDW M o) (k : Int) (hk : ir k) : CT yX4_isA cX4_isA 2 (some .boolean) ({ frames := 0, cells := 0, slots := 0, locals := 0 }) n [.ref o, .int (iI k)] M (rI (b2 (isAK (M o 0) k)) M) := by
  refine CT.of (lv0 := [(0, .ref o), (1, .int (iI k))]) (by decide +kernel) hn (fun _ => rfl) (fun _ => Nat.le_of_ble_eq_true rfl) (fun X cx cs qx => ?_)
  have cx : Cx X cX4_isA RX4 ({ frames := 0, cells := 0, slots := 0, locals := 0 }) 2 n := cx
  refine g_iload_n cx (pc2 := 1) 1 rfl dX4_isA_0 rfl ?_
  refine g_iconst cx (pc2 := 2) dX4_isA_1 rfl ?_
  refine g_icmp_ne cx (pc2 := 5) (tgt := 35) ⟨(by first | assumption | omega), ⟨by decide, by decide⟩⟩ dX4_isA_2 (by decide) rfl (fun h_1 => ?_) (fun h_1 => ?_)
  · skip
    refine g_iload_n cx (pc2 := 36) 1 rfl dX4_isA_35 rfl ?_
    refine g_iconst cx (pc2 := 37) dX4_isA_36 rfl ?_
    refine g_icmp_ne cx (pc2 := 40) (tgt := 62) ⟨(by first | assumption | omega), ⟨by decide, by decide⟩⟩ dX4_isA_37 (by decide) rfl (fun h_2 => ?_) (fun h_2 => ?_)
    · skip
      refine g_aload_n cx (pc2 := 63) 0 rfl dX4_isA_62 rfl ?_
      refine g_get cx (pc2 := 66) (ci := 4) (k0 := o) (j := 0) (v := .int (iI (M o 0))) rfl iwX4 (sh_need ho) (by omega) rfl (Nat.le_of_ble_eq_true rfl) kf_X4_15 rfl rfl dX4_isA_63 rfl ?_
      refine g_iload_n cx (pc2 := 67) 1 rfl dX4_isA_66 rfl ?_
      refine g_icmp_ne cx (pc2 := 70) (tgt := 74) ⟨(by first | assumption | omega), (by first | assumption | omega)⟩ dX4_isA_67 (by decide) rfl (fun h_3 => ?_) (fun h_3 => ?_)
      · skip
        refine g_iconst cx (pc2 := 75) dX4_isA_74 rfl ?_
        exact g_zret cx (Or.inl rfl) qx dX4_isA_75 ⟨rb_f (by first | assumption | omega), by rfl⟩
      · skip
        refine g_iconst cx (pc2 := 71) dX4_isA_70 rfl ?_
        refine g_goto cx (tgt := 75) dX4_isA_71 (by decide) ?_
        exact g_zret cx (Or.inr rfl) qx dX4_isA_75 ⟨rb_t (by first | assumption | omega), by rfl⟩
    · skip
      refine g_aload_n cx (pc2 := 41) 0 rfl dX4_isA_40 rfl ?_
      refine g_get cx (pc2 := 44) (ci := 4) (k0 := o) (j := 0) (v := .int (iI (M o 0))) rfl iwX4 (sh_need ho) (by omega) rfl (Nat.le_of_ble_eq_true rfl) kf_X4_15 rfl rfl dX4_isA_41 rfl ?_
      refine g_iconst cx (pc2 := 45) dX4_isA_44 rfl ?_
      refine g_icmp_eq cx (pc2 := 48) (tgt := 56) ⟨(by first | assumption | omega), ⟨by decide, by decide⟩⟩ dX4_isA_45 (by decide) rfl (fun h_4 => ?_) (fun h_4 => ?_)
      · skip
        refine g_iconst cx (pc2 := 57) dX4_isA_56 rfl ?_
        refine g_goto cx (tgt := 61) dX4_isA_57 (by decide) ?_
        exact g_zret cx (Or.inr rfl) qx dX4_isA_61 ⟨rb_t (by first | assumption | omega), by rfl⟩
      · skip
        refine g_aload_n cx (pc2 := 49) 0 rfl dX4_isA_48 rfl ?_
        refine g_get cx (pc2 := 52) (ci := 4) (k0 := o) (j := 0) (v := .int (iI (M o 0))) rfl iwX4 (sh_need ho) (by omega) rfl (Nat.le_of_ble_eq_true rfl) kf_X4_15 rfl rfl dX4_isA_49 rfl ?_
        refine g_iconst cx (pc2 := 53) dX4_isA_52 rfl ?_
        refine g_icmp_ne cx (pc2 := 56) (tgt := 60) ⟨(by first | assumption | omega), ⟨by decide, by decide⟩⟩ dX4_isA_53 (by decide) rfl (fun h_5 => ?_) (fun h_5 => ?_)
        · skip
          refine g_iconst cx (pc2 := 61) dX4_isA_60 rfl ?_
          exact g_zret cx (Or.inl rfl) qx dX4_isA_61 ⟨rb_f (by first | assumption | omega), by rfl⟩
        · skip
          refine g_iconst cx (pc2 := 57) dX4_isA_56 rfl ?_
          refine g_goto cx (tgt := 61) dX4_isA_57 (by decide) ?_
          exact g_zret cx (Or.inr rfl) qx dX4_isA_61 ⟨rb_t (by first | assumption | omega), by rfl⟩
  · skip
    refine g_aload_n cx (pc2 := 6) 0 rfl dX4_isA_5 rfl ?_
    refine g_get cx (pc2 := 9) (ci := 4) (k0 := o) (j := 0) (v := .int (iI (M o 0))) rfl iwX4 (sh_need ho) (by omega) rfl (Nat.le_of_ble_eq_true rfl) kf_X4_15 rfl rfl dX4_isA_6 rfl ?_
    refine g_iconst cx (pc2 := 10) dX4_isA_9 rfl ?_
    refine g_icmp_eq cx (pc2 := 13) (tgt := 29) ⟨(by first | assumption | omega), ⟨by decide, by decide⟩⟩ dX4_isA_10 (by decide) rfl (fun h_6 => ?_) (fun h_6 => ?_)
    · skip
      refine g_iconst cx (pc2 := 30) dX4_isA_29 rfl ?_
      refine g_goto cx (tgt := 34) dX4_isA_30 (by decide) ?_
      exact g_zret cx (Or.inr rfl) qx dX4_isA_34 ⟨rb_t (by first | assumption | omega), by rfl⟩
    · skip
      refine g_aload_n cx (pc2 := 14) 0 rfl dX4_isA_13 rfl ?_
      refine g_get cx (pc2 := 17) (ci := 4) (k0 := o) (j := 0) (v := .int (iI (M o 0))) rfl iwX4 (sh_need ho) (by omega) rfl (Nat.le_of_ble_eq_true rfl) kf_X4_15 rfl rfl dX4_isA_14 rfl ?_
      refine g_iconst cx (pc2 := 18) dX4_isA_17 rfl ?_
      refine g_icmp_eq cx (pc2 := 21) (tgt := 29) ⟨(by first | assumption | omega), ⟨by decide, by decide⟩⟩ dX4_isA_18 (by decide) rfl (fun h_7 => ?_) (fun h_7 => ?_)
      · skip
        refine g_iconst cx (pc2 := 30) dX4_isA_29 rfl ?_
        refine g_goto cx (tgt := 34) dX4_isA_30 (by decide) ?_
        exact g_zret cx (Or.inr rfl) qx dX4_isA_34 ⟨rb_t (by first | assumption | omega), by rfl⟩
      · skip
        refine g_aload_n cx (pc2 := 22) 0 rfl dX4_isA_21 rfl ?_
        refine g_get cx (pc2 := 25) (ci := 4) (k0 := o) (j := 0) (v := .int (iI (M o 0))) rfl iwX4 (sh_need ho) (by omega) rfl (Nat.le_of_ble_eq_true rfl) kf_X4_15 rfl rfl dX4_isA_22 rfl ?_
        refine g_iconst cx (pc2 := 26) dX4_isA_25 rfl ?_
        refine g_icmp_ne cx (pc2 := 29) (tgt := 33) ⟨(by first | assumption | omega), ⟨by decide, by decide⟩⟩ dX4_isA_26 (by decide) rfl (fun h_8 => ?_) (fun h_8 => ?_)
        · skip
          refine g_iconst cx (pc2 := 34) dX4_isA_33 rfl ?_
          exact g_zret cx (Or.inl rfl) qx dX4_isA_34 ⟨rb_f (by first | assumption | omega), by rfl⟩
        · skip
          refine g_iconst cx (pc2 := 30) dX4_isA_29 rfl ?_
          refine g_goto cx (tgt := 34) dX4_isA_30 (by decide) ?_
          exact g_zret cx (Or.inr rfl) qx dX4_isA_34 ⟨rb_t (by first | assumption | omega), by rfl⟩
set_option maxHeartbeats 4000000 in
set_option maxRecDepth 100000 in
theorem c_X4_latestBeginning {n : Nat} (hn : NN n) {M : Mm} {o : Nat} (ho : isNeedO o) (hd : NDW M o) : CT yX4_latestBeginning cX4_latestBeginning 2 (some .int) ({ frames := 1, cells := 0, slots := 0, locals := 21 }) n [.ref o] M (rI (ltB (M o 0) (M o 2) (M o 3) (M o 4)) M) := by
  refine CT.of (lv0 := [(0, .ref o)]) (by decide +kernel) hn (fun _ => rfl) (fun _ => Nat.le_of_ble_eq_true rfl) (fun X cx cs qx => ?_)
  have cx : Cx X cX4_latestBeginning RX4 ({ frames := 1, cells := 0, slots := 0, locals := 21 }) 2 n := cx
  refine g_aload_n cx (pc2 := 1) 0 rfl dX4_latestBeginning_0 rfl ?_
  refine g_get cx (pc2 := 4) (ci := 4) (k0 := o) (j := 3) (v := .int (iI (M o 3))) rfl iwX4 (sh_need ho) (by omega) rfl (Nat.le_of_ble_eq_true rfl) kf_X4_21 rfl rfl dX4_latestBeginning_1 rfl ?_
  refine g_aload_n cx (pc2 := 5) 0 rfl dX4_latestBeginning_4 rfl ?_
  refine g_get cx (pc2 := 8) (ci := 4) (k0 := o) (j := 4) (v := .int (iI (M o 4))) rfl iwX4 (sh_need ho) (by omega) rfl (Nat.le_of_ble_eq_true rfl) kf_X4_18 rfl rfl dX4_latestBeginning_5 rfl ?_
  refine g_isub cx (pc2 := 9) dX4_latestBeginning_8 rfl ?_
  refine g_iconst cx (pc2 := 10) dX4_latestBeginning_9 rfl ?_
  refine g_iadd cx (pc2 := 11) dX4_latestBeginning_10 rfl ?_
  refine g_istore_n cx (pc2 := 12) (lv2 := [(0, .ref o), (1, .int (iI (((M o 3) - (M o 4)) + 1)))]) rfl (Nat.le_of_ble_eq_true rfl) dX4_latestBeginning_11 rfl ?_
  refine g_aload_n cx (pc2 := 13) 0 rfl dX4_latestBeginning_12 rfl ?_
  refine g_get cx (pc2 := 16) (ci := 4) (k0 := o) (j := 0) (v := .int (iI (M o 0))) rfl iwX4 (sh_need ho) (by omega) rfl (Nat.le_of_ble_eq_true rfl) kf_X4_15 rfl rfl dX4_latestBeginning_13 rfl ?_
  refine g_iconst cx (pc2 := 17) dX4_latestBeginning_16 rfl ?_
  refine g_icmp_eq cx (pc2 := 20) (tgt := 28) ⟨(by first | assumption | omega), ⟨by decide, by decide⟩⟩ dX4_latestBeginning_17 (by decide) rfl (fun h_1 => ?_) (fun h_1 => ?_)
  · skip
    refine g_iload_n cx (pc2 := 29) 1 rfl dX4_latestBeginning_28 rfl ?_
    refine g_aload_n cx (pc2 := 30) 0 rfl dX4_latestBeginning_29 rfl ?_
    refine g_get cx (pc2 := 33) (ci := 4) (k0 := o) (j := 2) (v := .int (iI (M o 2))) rfl iwX4 (sh_need ho) (by omega) rfl (Nat.le_of_ble_eq_true rfl) kf_X4_24 rfl rfl dX4_latestBeginning_30 rfl ?_
    refine g_mmin cx (pc2 := 36) ⟨(by first | assumption | omega), (by first | assumption | omega)⟩ kl_X4_27 wJ_min ⟨Nat.le_of_ble_eq_true rfl, Nat.le_of_ble_eq_true rfl⟩ cs dX4_latestBeginning_33 rfl ?_
    exact g_iret cx qx dX4_latestBeginning_36 ⟨congrArg (fun q => some (Value.int (iI q))) (by unfold ltB; (repeat split) <;> omega), by rfl⟩
  · skip
    refine g_aload_n cx (pc2 := 21) 0 rfl dX4_latestBeginning_20 rfl ?_
    refine g_get cx (pc2 := 24) (ci := 4) (k0 := o) (j := 0) (v := .int (iI (M o 0))) rfl iwX4 (sh_need ho) (by omega) rfl (Nat.le_of_ble_eq_true rfl) kf_X4_15 rfl rfl dX4_latestBeginning_21 rfl ?_
    refine g_iconst cx (pc2 := 25) dX4_latestBeginning_24 rfl ?_
    refine g_icmp_ne cx (pc2 := 28) (tgt := 37) ⟨(by first | assumption | omega), ⟨by decide, by decide⟩⟩ dX4_latestBeginning_25 (by decide) rfl (fun h_2 => ?_) (fun h_2 => ?_)
    · skip
      refine g_aload_n cx (pc2 := 38) 0 rfl dX4_latestBeginning_37 rfl ?_
      refine g_get cx (pc2 := 41) (ci := 4) (k0 := o) (j := 0) (v := .int (iI (M o 0))) rfl iwX4 (sh_need ho) (by omega) rfl (Nat.le_of_ble_eq_true rfl) kf_X4_15 rfl rfl dX4_latestBeginning_38 rfl ?_
      refine g_iconst cx (pc2 := 42) dX4_latestBeginning_41 rfl ?_
      refine g_icmp_ne cx (pc2 := 45) (tgt := 58) ⟨(by first | assumption | omega), ⟨by decide, by decide⟩⟩ dX4_latestBeginning_42 (by decide) rfl (fun h_3 => ?_) (fun h_3 => ?_)
      · skip
        refine g_iload_n cx (pc2 := 59) 1 rfl dX4_latestBeginning_58 rfl ?_
        exact g_iret cx qx dX4_latestBeginning_59 ⟨congrArg (fun q => some (Value.int (iI q))) (by unfold ltB; (repeat split) <;> omega), by rfl⟩
      · skip
        refine g_iload_n cx (pc2 := 46) 1 rfl dX4_latestBeginning_45 rfl ?_
        refine g_aload_n cx (pc2 := 47) 0 rfl dX4_latestBeginning_46 rfl ?_
        refine g_get cx (pc2 := 50) (ci := 4) (k0 := o) (j := 2) (v := .int (iI (M o 2))) rfl iwX4 (sh_need ho) (by omega) rfl (Nat.le_of_ble_eq_true rfl) kf_X4_24 rfl rfl dX4_latestBeginning_47 rfl ?_
        refine g_iconst cx (pc2 := 51) dX4_latestBeginning_50 rfl ?_
        refine g_iadd cx (pc2 := 52) dX4_latestBeginning_51 rfl ?_
        refine g_mmin cx (pc2 := 55) ⟨(by first | assumption | omega), (by first | assumption | omega)⟩ kl_X4_27 wJ_min ⟨Nat.le_of_ble_eq_true rfl, Nat.le_of_ble_eq_true rfl⟩ cs dX4_latestBeginning_52 rfl ?_
        refine g_goto cx (tgt := 59) dX4_latestBeginning_55 (by decide) ?_
        exact g_iret cx qx dX4_latestBeginning_59 ⟨congrArg (fun q => some (Value.int (iI q))) (by unfold ltB; (repeat split) <;> omega), by rfl⟩
    · skip
      refine g_iload_n cx (pc2 := 29) 1 rfl dX4_latestBeginning_28 rfl ?_
      refine g_aload_n cx (pc2 := 30) 0 rfl dX4_latestBeginning_29 rfl ?_
      refine g_get cx (pc2 := 33) (ci := 4) (k0 := o) (j := 2) (v := .int (iI (M o 2))) rfl iwX4 (sh_need ho) (by omega) rfl (Nat.le_of_ble_eq_true rfl) kf_X4_24 rfl rfl dX4_latestBeginning_30 rfl ?_
      refine g_mmin cx (pc2 := 36) ⟨(by first | assumption | omega), (by first | assumption | omega)⟩ kl_X4_27 wJ_min ⟨Nat.le_of_ble_eq_true rfl, Nat.le_of_ble_eq_true rfl⟩ cs dX4_latestBeginning_33 rfl ?_
      exact g_iret cx qx dX4_latestBeginning_36 ⟨congrArg (fun q => some (Value.int (iI q))) (by unfold ltB; (repeat split) <;> omega), by rfl⟩
set_option maxHeartbeats 4000000 in
set_option maxRecDepth 100000 in
theorem c_X4_tell {n : Nat} (hn : NN n) {M : Mm} {o : Nat} (ho : isNeedO o) (hd : NDW M o) (w : Int) (hw : ir w) : CT yX4_tell cX4_tell 2 (some .int) ({ frames := 0, cells := 0, slots := 0, locals := 0 }) n [.ref o, .int (iI w)] M (rI (M o (tlf w)) M) := by
  refine CT.of (lv0 := [(0, .ref o), (1, .int (iI w))]) (by decide +kernel) hn (fun _ => rfl) (fun _ => Nat.le_of_ble_eq_true rfl) (fun X cx cs qx => ?_)
  have cx : Cx X cX4_tell RX4 ({ frames := 0, cells := 0, slots := 0, locals := 0 }) 2 n := cx
  refine g_iload_n cx (pc2 := 1) 1 rfl dX4_tell_0 rfl ?_
  rcases (show (w < 0 ∨ 4 < w) ∨ w = 0 ∨ w = 1 ∨ w = 2 ∨ w = 3 ∨ w = 4 from by omega) with h_1 | h_1 | h_1 | h_1 | h_1 | h_1
  · skip
    refine g_swOut cx (tgt := 61) (by first | assumption | omega) dX4_tell_1 h_1 (by decide) ?_
    refine g_aload_n cx (pc2 := 62) 0 rfl dX4_tell_61 rfl ?_
    refine g_get cx (pc2 := 65) (ci := 4) (k0 := o) (j := 5) (v := .int (iI (M o 5))) rfl iwX4 (sh_need ho) (by omega) rfl (Nat.le_of_ble_eq_true rfl) kf_X4_36 rfl rfl dX4_tell_62 rfl ?_
    exact g_iret cx qx dX4_tell_65 ⟨congrArg (fun q => some (Value.int (iI q))) (by first | (subst_vars; rfl) | (unfold tlf; rw [if_neg (by omega)])), by rfl⟩
  · skip
    refine g_swIn cx (tgt := 36) (by first | assumption | omega) dX4_tell_1 (by omega) (by omega) (by rw [h_1]; rfl) (by decide) ?_
    refine g_aload_n cx (pc2 := 37) 0 rfl dX4_tell_36 rfl ?_
    refine g_get cx (pc2 := 40) (ci := 4) (k0 := o) (j := 0) (v := .int (iI (M o 0))) rfl iwX4 (sh_need ho) (by omega) rfl (Nat.le_of_ble_eq_true rfl) kf_X4_15 rfl rfl dX4_tell_37 rfl ?_
    exact g_iret cx qx dX4_tell_40 ⟨congrArg (fun q => some (Value.int (iI q))) (by first | (subst_vars; rfl) | (unfold tlf; rw [if_neg (by omega)])), by rfl⟩
  · skip
    refine g_swIn cx (tgt := 41) (by first | assumption | omega) dX4_tell_1 (by omega) (by omega) (by rw [h_1]; rfl) (by decide) ?_
    refine g_aload_n cx (pc2 := 42) 0 rfl dX4_tell_41 rfl ?_
    refine g_get cx (pc2 := 45) (ci := 4) (k0 := o) (j := 1) (v := .int (iI (M o 1))) rfl iwX4 (sh_need ho) (by omega) rfl (Nat.le_of_ble_eq_true rfl) kf_X4_33 rfl rfl dX4_tell_42 rfl ?_
    exact g_iret cx qx dX4_tell_45 ⟨congrArg (fun q => some (Value.int (iI q))) (by first | (subst_vars; rfl) | (unfold tlf; rw [if_neg (by omega)])), by rfl⟩
  · skip
    refine g_swIn cx (tgt := 46) (by first | assumption | omega) dX4_tell_1 (by omega) (by omega) (by rw [h_1]; rfl) (by decide) ?_
    refine g_aload_n cx (pc2 := 47) 0 rfl dX4_tell_46 rfl ?_
    refine g_get cx (pc2 := 50) (ci := 4) (k0 := o) (j := 2) (v := .int (iI (M o 2))) rfl iwX4 (sh_need ho) (by omega) rfl (Nat.le_of_ble_eq_true rfl) kf_X4_24 rfl rfl dX4_tell_47 rfl ?_
    exact g_iret cx qx dX4_tell_50 ⟨congrArg (fun q => some (Value.int (iI q))) (by first | (subst_vars; rfl) | (unfold tlf; rw [if_neg (by omega)])), by rfl⟩
  · skip
    refine g_swIn cx (tgt := 51) (by first | assumption | omega) dX4_tell_1 (by omega) (by omega) (by rw [h_1]; rfl) (by decide) ?_
    refine g_aload_n cx (pc2 := 52) 0 rfl dX4_tell_51 rfl ?_
    refine g_get cx (pc2 := 55) (ci := 4) (k0 := o) (j := 3) (v := .int (iI (M o 3))) rfl iwX4 (sh_need ho) (by omega) rfl (Nat.le_of_ble_eq_true rfl) kf_X4_21 rfl rfl dX4_tell_52 rfl ?_
    exact g_iret cx qx dX4_tell_55 ⟨congrArg (fun q => some (Value.int (iI q))) (by first | (subst_vars; rfl) | (unfold tlf; rw [if_neg (by omega)])), by rfl⟩
  · skip
    refine g_swIn cx (tgt := 56) (by first | assumption | omega) dX4_tell_1 (by omega) (by omega) (by rw [h_1]; rfl) (by decide) ?_
    refine g_aload_n cx (pc2 := 57) 0 rfl dX4_tell_56 rfl ?_
    refine g_get cx (pc2 := 60) (ci := 4) (k0 := o) (j := 4) (v := .int (iI (M o 4))) rfl iwX4 (sh_need ho) (by omega) rfl (Nat.le_of_ble_eq_true rfl) kf_X4_18 rfl rfl dX4_tell_57 rfl ?_
    exact g_iret cx qx dX4_tell_60 ⟨congrArg (fun q => some (Value.int (iI q))) (by first | (subst_vars; rfl) | (unfold tlf; rw [if_neg (by omega)])), by rfl⟩
set_option maxHeartbeats 4000000 in
set_option maxRecDepth 100000 in
theorem c_X2_isHouse {n : Nat} (hn : NN n) {M : Mm} {o : Nat} (ho : isLaneO o) (hl : LW M o) (h : Int) (hh : ir h) : CT yX2_isHouse cX2_isHouse 2 (some .boolean) ({ frames := 0, cells := 0, slots := 0, locals := 0 }) n [.ref o, .int (iI h)] M (rI (b2 (0 ≤ h ∧ h < M o 3)) M) := by
  refine CT.of (lv0 := [(0, .ref o), (1, .int (iI h))]) (by decide +kernel) hn (fun _ => rfl) (fun _ => Nat.le_of_ble_eq_true rfl) (fun X cx cs qx => ?_)
  have cx : Cx X cX2_isHouse RX2 ({ frames := 0, cells := 0, slots := 0, locals := 0 }) 2 n := cx
  refine g_iload_n cx (pc2 := 1) 1 rfl dX2_isHouse_0 rfl ?_
  refine g_if_lt cx (pc2 := 4) (tgt := 25) (by first | assumption | omega) dX2_isHouse_1 (by decide) rfl (fun h_1 => ?_) (fun h_1 => ?_)
  · skip
    refine g_iconst cx (pc2 := 26) dX2_isHouse_25 rfl ?_
    exact g_zret cx (Or.inl rfl) qx dX2_isHouse_26 ⟨rb_f (by first | assumption | omega), by rfl⟩
  · skip
    refine g_iload_n cx (pc2 := 5) 1 rfl dX2_isHouse_4 rfl ?_
    refine g_aload_n cx (pc2 := 6) 0 rfl dX2_isHouse_5 rfl ?_
    refine g_get cx (pc2 := 9) (ci := 2) (k0 := o) (j := 3) (v := .int (iI (M o 3))) rfl iwX2 (sh_lane ho) (by omega) rfl (Nat.le_of_ble_eq_true rfl) kf_X2_26 rfl rfl dX2_isHouse_6 rfl ?_
    refine g_icmp_ge cx (pc2 := 12) (tgt := 25) ⟨(by first | assumption | omega), (by first | assumption | omega)⟩ dX2_isHouse_9 (by decide) rfl (fun h_2 => ?_) (fun h_2 => ?_)
    · skip
      refine g_iconst cx (pc2 := 26) dX2_isHouse_25 rfl ?_
      exact g_zret cx (Or.inl rfl) qx dX2_isHouse_26 ⟨rb_f (by first | assumption | omega), by rfl⟩
    · skip
      refine g_iload_n cx (pc2 := 13) 1 rfl dX2_isHouse_12 rfl ?_
      refine g_aload_n cx (pc2 := 14) 0 rfl dX2_isHouse_13 rfl ?_
      refine g_get cx (pc2 := 17) (ci := 2) (k0 := o) (j := 0) (v := .ref (o + 1)) rfl iwX2 (sh_lane ho) (by omega) rfl (Nat.le_of_ble_eq_true rfl) kf_X2_9 rfl rfl dX2_isHouse_14 rfl ?_
      refine g_alen cx (pc2 := 18) (k0 := (o + 1)) (v := 8) (sh_places ho) (by decide) (by omega) rfl dX2_isHouse_17 rfl ?_
      refine g_icmp_ge cx (pc2 := 21) (tgt := 25) ⟨(by first | assumption | omega), ⟨by decide, by decide⟩⟩ dX2_isHouse_18 (by decide) rfl (fun h_3 => ?_) (fun h_3 => ?_)
      · skip
        refine g_iconst cx (pc2 := 26) dX2_isHouse_25 rfl ?_
        exact g_zret cx (Or.inl rfl) qx dX2_isHouse_26 ⟨rb_f (by first | assumption | omega), by rfl⟩
      · skip
        refine g_iconst cx (pc2 := 22) dX2_isHouse_21 rfl ?_
        refine g_goto cx (tgt := 26) dX2_isHouse_22 (by decide) ?_
        exact g_zret cx (Or.inr rfl) qx dX2_isHouse_26 ⟨rb_t (by first | assumption | omega), by rfl⟩
set_option maxHeartbeats 4000000 in
set_option maxRecDepth 100000 in
theorem c_X2_isNeed {n : Nat} (hn : NN n) {M : Mm} {o : Nat} (ho : isLaneO o) (hl : LW M o) (i : Int) (hi : ir i) : CT yX2_isNeed cX2_isNeed 2 (some .boolean) ({ frames := 0, cells := 0, slots := 0, locals := 0 }) n [.ref o, .int (iI i)] M (rI (b2 (0 ≤ i ∧ i < M o 4)) M) := by
  refine CT.of (lv0 := [(0, .ref o), (1, .int (iI i))]) (by decide +kernel) hn (fun _ => rfl) (fun _ => Nat.le_of_ble_eq_true rfl) (fun X cx cs qx => ?_)
  have cx : Cx X cX2_isNeed RX2 ({ frames := 0, cells := 0, slots := 0, locals := 0 }) 2 n := cx
  refine g_iload_n cx (pc2 := 1) 1 rfl dX2_isNeed_0 rfl ?_
  refine g_if_lt cx (pc2 := 4) (tgt := 25) (by first | assumption | omega) dX2_isNeed_1 (by decide) rfl (fun h_1 => ?_) (fun h_1 => ?_)
  · skip
    refine g_iconst cx (pc2 := 26) dX2_isNeed_25 rfl ?_
    exact g_zret cx (Or.inl rfl) qx dX2_isNeed_26 ⟨rb_f (by first | assumption | omega), by rfl⟩
  · skip
    refine g_iload_n cx (pc2 := 5) 1 rfl dX2_isNeed_4 rfl ?_
    refine g_aload_n cx (pc2 := 6) 0 rfl dX2_isNeed_5 rfl ?_
    refine g_get cx (pc2 := 9) (ci := 2) (k0 := o) (j := 4) (v := .int (iI (M o 4))) rfl iwX2 (sh_lane ho) (by omega) rfl (Nat.le_of_ble_eq_true rfl) kf_X2_30 rfl rfl dX2_isNeed_6 rfl ?_
    refine g_icmp_ge cx (pc2 := 12) (tgt := 25) ⟨(by first | assumption | omega), (by first | assumption | omega)⟩ dX2_isNeed_9 (by decide) rfl (fun h_2 => ?_) (fun h_2 => ?_)
    · skip
      refine g_iconst cx (pc2 := 26) dX2_isNeed_25 rfl ?_
      exact g_zret cx (Or.inl rfl) qx dX2_isNeed_26 ⟨rb_f (by first | assumption | omega), by rfl⟩
    · skip
      refine g_iload_n cx (pc2 := 13) 1 rfl dX2_isNeed_12 rfl ?_
      refine g_aload_n cx (pc2 := 14) 0 rfl dX2_isNeed_13 rfl ?_
      refine g_get cx (pc2 := 17) (ci := 2) (k0 := o) (j := 1) (v := .ref (o + 2)) rfl iwX2 (sh_lane ho) (by omega) rfl (Nat.le_of_ble_eq_true rfl) kf_X2_17 rfl rfl dX2_isNeed_14 rfl ?_
      refine g_alen cx (pc2 := 18) (k0 := (o + 2)) (v := 8) (sh_list ho) (by decide) (by omega) rfl dX2_isNeed_17 rfl ?_
      refine g_icmp_ge cx (pc2 := 21) (tgt := 25) ⟨(by first | assumption | omega), ⟨by decide, by decide⟩⟩ dX2_isNeed_18 (by decide) rfl (fun h_3 => ?_) (fun h_3 => ?_)
      · skip
        refine g_iconst cx (pc2 := 26) dX2_isNeed_25 rfl ?_
        exact g_zret cx (Or.inl rfl) qx dX2_isNeed_26 ⟨rb_f (by first | assumption | omega), by rfl⟩
      · skip
        refine g_iconst cx (pc2 := 22) dX2_isNeed_21 rfl ?_
        refine g_goto cx (tgt := 26) dX2_isNeed_22 (by decide) ?_
        exact g_zret cx (Or.inr rfl) qx dX2_isNeed_26 ⟨rb_t (by first | assumption | omega), by rfl⟩
set_option maxHeartbeats 4000000 in
set_option maxRecDepth 100000 in
theorem c_X2_placeOf {n : Nat} (hn : NN n) {M : Mm} {o : Nat} (ho : isLaneO o) (hl : LW M o) (h : Int) (hh : ir h) : CT yX2_placeOf cX2_placeOf 2 (some .int) ({ frames := 1, cells := 0, slots := 0, locals := 21 }) n [.ref o, .int (iI h)] M (rI (plc M o h) M) := by
  refine CT.of (lv0 := [(0, .ref o), (1, .int (iI h))]) (by decide +kernel) hn (fun _ => rfl) (fun _ => Nat.le_of_ble_eq_true rfl) (fun X cx cs qx => ?_)
  have cx : Cx X cX2_placeOf RX2 ({ frames := 1, cells := 0, slots := 0, locals := 21 }) 2 n := cx
  refine g_aload_n cx (pc2 := 1) 0 rfl dX2_placeOf_0 rfl ?_
  refine g_iload_n cx (pc2 := 2) 1 rfl dX2_placeOf_1 rfl ?_
  refine g_callV cx (pc2 := 5) (st := []) (As := [.int (iI h)]) (k0 := o) (ci := 2) (c_X2_isHouse (M := M) hn (by first | assumption | omega) (by first | assumption | omega) h (by first | assumption | omega)) wM_X2_isHouse wV_X2_isHouse kl_X2_44 (sh_lane ho) (by omega) rfl ⟨rfl, rfl, Nat.le_of_ble_eq_true rfl, Nat.le_of_ble_eq_true rfl⟩ (Nat.le_of_ble_eq_true rfl) cs rfl rfl dX2_placeOf_2 rfl ?_
  rintro _ _ ⟨rfl, rfl⟩
  refine g_ifb_eq cx (pc2 := 8) (tgt := 17) dX2_placeOf_5 (by decide) rfl (fun h_1 => ?_) (fun h_1 => ?_)
  · skip
    refine g_iconst cx (pc2 := 18) dX2_placeOf_17 rfl ?_
    exact g_iret cx qx dX2_placeOf_18 ⟨congrArg (fun q => some (Value.int (iI q))) (by first | (rw [plc_in (by assumption)]; done) | (rw [plc_out (by assumption)]; done)), by rfl⟩
  · skip
    refine g_aload_n cx (pc2 := 9) 0 rfl dX2_placeOf_8 rfl ?_
    refine g_get cx (pc2 := 12) (ci := 2) (k0 := o) (j := 0) (v := .ref (o + 1)) rfl iwX2 (sh_lane ho) (by omega) rfl (Nat.le_of_ble_eq_true rfl) kf_X2_9 rfl rfl dX2_placeOf_9 rfl ?_
    refine g_iload_n cx (pc2 := 13) 1 rfl dX2_placeOf_12 rfl ?_
    refine g_iald cx (pc2 := 14) (k0 := (o + 1)) (sh_places ho) (by omega) (by first | assumption | omega) (by first | assumption | omega) (Nat.le_of_ble_eq_true rfl) dX2_placeOf_13 rfl ?_
    refine g_rwi (y := iI (M (o + 1) ((h).toNat))) (congrArg iI (by simp [stM])) ?_
    refine g_goto cx (tgt := 18) dX2_placeOf_14 (by decide) ?_
    exact g_iret cx qx dX2_placeOf_18 ⟨congrArg (fun q => some (Value.int (iI q))) (by first | (rw [plc_in (by assumption)]; done) | (rw [plc_out (by assumption)]; done)), by rfl⟩
set_option maxHeartbeats 4000000 in
set_option maxRecDepth 100000 in
theorem c_X2_needOf {n : Nat} (hn : NN n) {M : Mm} {o : Nat} (ho : isLaneO o) (hl : LW M o) (i : Int) (hi : ir i) : CT yX2_needOf cX2_needOf 3 (some (.object "CoatBetween$Need")) ({ frames := 1, cells := 0, slots := 0, locals := 21 }) n [.ref o, .int (iI i)] M (rA (.ref (ndO M o i)) M) := by
  refine CT.of (lv0 := [(0, .ref o), (1, .int (iI i))]) (by decide +kernel) hn (fun _ => rfl) (fun _ => Nat.le_of_ble_eq_true rfl) (fun X cx cs qx => ?_)
  have cx : Cx X cX2_needOf RX2 ({ frames := 1, cells := 0, slots := 0, locals := 21 }) 3 n := cx
  refine g_aload_n cx (pc2 := 1) 0 rfl dX2_needOf_0 rfl ?_
  refine g_iload_n cx (pc2 := 2) 1 rfl dX2_needOf_1 rfl ?_
  refine g_callV cx (pc2 := 5) (st := []) (As := [.int (iI i)]) (k0 := o) (ci := 2) (c_X2_isNeed (M := M) hn (by first | assumption | omega) (by first | assumption | omega) i (by first | assumption | omega)) wM_X2_isNeed wV_X2_isNeed kl_X2_56 (sh_lane ho) (by omega) rfl ⟨rfl, rfl, Nat.le_of_ble_eq_true rfl, Nat.le_of_ble_eq_true rfl⟩ (Nat.le_of_ble_eq_true rfl) cs rfl rfl dX2_needOf_2 rfl ?_
  rintro _ _ ⟨rfl, rfl⟩
  refine g_ifb_eq cx (pc2 := 8) (tgt := 17) dX2_needOf_5 (by decide) rfl (fun h_1 => ?_) (fun h_1 => ?_)
  · skip
    refine g_aload_n cx (pc2 := 18) 0 rfl dX2_needOf_17 rfl ?_
    refine g_get cx (pc2 := 21) (ci := 2) (k0 := o) (j := 2) (v := .ref (o + 3)) rfl iwX2 (sh_lane ho) (by omega) rfl (Nat.le_of_ble_eq_true rfl) kf_X2_22 rfl rfl dX2_needOf_18 rfl ?_
    refine g_astore_n cx (pc2 := 22) (lv2 := [(0, .ref o), (1, .int (iI i)), (2, .ref (o + 3))]) rfl (Nat.le_of_ble_eq_true rfl) dX2_needOf_21 rfl ?_
    refine g_aload_n cx (pc2 := 23) 2 rfl dX2_needOf_22 rfl ?_
    refine g_ifnonnull cx (tgt := 33) dX2_needOf_23 (by decide) ?_
    refine g_aload_n cx (pc2 := 34) 2 rfl dX2_needOf_33 rfl ?_
    exact g_aret cx (Or.inr ⟨_, rfl⟩) qx dX2_needOf_34 ⟨congrArg (fun q => some (Value.ref q)) (by first | (unfold ndO; rw [if_pos (by assumption)]; done) | (unfold ndO; rw [if_neg (by assumption)]; done)), by rfl⟩
  · skip
    refine g_aload_n cx (pc2 := 9) 0 rfl dX2_needOf_8 rfl ?_
    refine g_get cx (pc2 := 12) (ci := 2) (k0 := o) (j := 1) (v := .ref (o + 2)) rfl iwX2 (sh_lane ho) (by omega) rfl (Nat.le_of_ble_eq_true rfl) kf_X2_17 rfl rfl dX2_needOf_9 rfl ?_
    refine g_iload_n cx (pc2 := 13) 1 rfl dX2_needOf_12 rfl ?_
    refine g_aald cx (pc2 := 14) (k0 := (o + 2)) (sh_list ho) (by decide) (by omega) (by first | assumption | omega) (by first | assumption | omega) (Nat.le_of_ble_eq_true rfl) dX2_needOf_13 rfl ?_
    refine g_goto cx (tgt := 21) dX2_needOf_14 (by decide) ?_
    refine g_astore_n cx (pc2 := 22) (lv2 := [(0, .ref o), (1, .int (iI i)), (2, .ref (o + 4 + 1 * (i).toNat))]) rfl (Nat.le_of_ble_eq_true rfl) dX2_needOf_21 rfl ?_
    refine g_aload_n cx (pc2 := 23) 2 rfl dX2_needOf_22 rfl ?_
    refine g_ifnonnull cx (tgt := 33) dX2_needOf_23 (by decide) ?_
    refine g_aload_n cx (pc2 := 34) 2 rfl dX2_needOf_33 rfl ?_
    exact g_aret cx (Or.inr ⟨_, rfl⟩) qx dX2_needOf_34 ⟨congrArg (fun q => some (Value.ref q)) (by first | (unfold ndO; rw [if_pos (by assumption)]; done) | (unfold ndO; rw [if_neg (by assumption)]; done)), by rfl⟩
set_option maxHeartbeats 4000000 in
set_option maxRecDepth 100000 in
theorem c_X2_allNeeds {n : Nat} (hn : NN n) {M : Mm} (hl : LW M 23) : CT yX2_allNeeds cX2_allNeeds 3 (some .int) ({ frames := 1, cells := 0, slots := 0, locals := 20 }) n [.ref 23] M (rI (((allN (M 23 4) : Nat) : Int)) M) := by
  refine CT.of (lv0 := [(0, .ref 23)]) (by decide +kernel) hn (fun _ => rfl) (fun _ => Nat.le_of_ble_eq_true rfl) (fun X cx cs qx => ?_)
  have cx : Cx X cX2_allNeeds RX2 ({ frames := 1, cells := 0, slots := 0, locals := 20 }) 3 n := cx
  refine g_iconst cx (pc2 := 1) dX2_allNeeds_0 rfl ?_
  refine g_istore_n cx (pc2 := 2) (lv2 := [(0, .ref 23), (1, .int (iI 0))]) rfl (Nat.le_of_ble_eq_true rfl) dX2_allNeeds_1 rfl ?_
  refine g_iconst cx (pc2 := 3) dX2_allNeeds_2 rfl ?_
  refine g_istore_n cx (pc2 := 4) (lv2 := [(0, .ref 23), (1, .int (iI 0)), (2, .int (iI 0))]) rfl (Nat.le_of_ble_eq_true rfl) dX2_allNeeds_3 rfl ?_
  have L4 : ∀ (fu : Nat) (i : Int) (s : Int), (0 ≤ i ∧ i ≤ M 23 4) → (s = ((bsum (fun _ => true) i.toNat : Nat) : Int)) → (M 23 4 - i).toNat ≤ fu → G X 4 [(0, .ref 23), (1, .int (iI s)), (2, .int (iI i))] [] M := by
    intro fu
    induction fu using Nat.strongRecOn with
    | _ fu ih4 =>
      intro i s hi0 hs hk4
      refine g_iload_n cx (pc2 := 5) 2 rfl dX2_allNeeds_4 rfl ?_
      refine g_aload_n cx (pc2 := 6) 0 rfl dX2_allNeeds_5 rfl ?_
      refine g_get cx (pc2 := 9) (ci := 2) (k0 := 23) (j := 4) (v := .int (iI (M 23 4))) rfl iwX2 rfl (lt_lit hn (Nat.le_of_ble_eq_true rfl)) rfl (Nat.le_of_ble_eq_true rfl) kf_X2_30 rfl rfl dX2_allNeeds_6 rfl ?_
      refine g_icmp_ge cx (pc2 := 12) (tgt := 25) ⟨(by first | assumption | omega), (by first | assumption | omega)⟩ dX2_allNeeds_9 (by decide) rfl (fun h_1 => ?_) (fun h_1 => ?_)
      · skip
        refine g_iload_n cx (pc2 := 26) 1 rfl dX2_allNeeds_25 rfl ?_
        exact g_iret cx qx dX2_allNeeds_26 ⟨congrArg (fun q => some (Value.int (iI q))) (by rw [hs]; unfold allN; rw [show i = M 23 4 by omega]), by rfl⟩
      · skip
        refine g_iload_n cx (pc2 := 13) 1 rfl dX2_allNeeds_12 rfl ?_
        refine g_iload_n cx (pc2 := 14) 2 rfl dX2_allNeeds_13 rfl ?_
        refine g_callSN cx (pc2 := 17) (st := [.int (iI s)]) (As := [.int (iI i)]) (c_X11_bit (M := M) hn i (by first | assumption | omega)) wM_X11_bit wS_X11_bit kl_X2_59 ⟨rfl, rfl, Nat.le_of_ble_eq_true rfl, Nat.le_of_ble_eq_true rfl⟩ (Nat.le_of_ble_eq_true rfl) cs rfl rfl dX2_allNeeds_14 rfl ?_
        rintro _ _ ⟨rfl, rfl⟩
        refine g_ior cx (pc2 := 18) dX2_allNeeds_17 rfl ?_
        refine g_rwi (y := iI ((s.toNat ||| bitN i : Nat) : Int)) (or_iI (by omega) (by omega)) ?_
        refine g_istore_n cx (pc2 := 19) (lv2 := [(0, .ref 23), (1, .int (iI ((s.toNat ||| bitN i : Nat) : Int))), (2, .int (iI i))]) rfl (Nat.le_of_ble_eq_true rfl) dX2_allNeeds_18 rfl ?_
        refine g_iinc cx (pc2 := 22) 2 rfl (lv2 := [(0, .ref 23), (1, .int (iI ((s.toNat ||| bitN i : Nat) : Int))), (2, .int (iI (i + 1)))]) rfl (Nat.le_of_ble_eq_true rfl) dX2_allNeeds_19 rfl ?_
        refine g_goto cx (tgt := 4) dX2_allNeeds_22 (by decide) ?_
        exact ih4 ((M 23 4 - (i + 1)).toNat) (by omega) (i + 1) ((s.toNat ||| bitN i : Nat) : Int) (by first | assumption | omega) (by rw [hs, Int.toNat_natCast, or_step (fun _ => true) hi0.1 (by omega) rfl]) (Nat.le_refl _)
  exact L4 _ 0 0 (by first | assumption | omega) (by rfl) (Nat.le_refl _)
set_option maxHeartbeats 4000000 in
set_option maxRecDepth 100000 in
theorem c_X2_isSet {n : Nat} (hn : NN n) {M : Mm} (hl : LW M 23) (s : Int) (hs : ir s) : CT yX2_isSet cX2_isSet 2 (some .boolean) ({ frames := 2, cells := 0, slots := 0, locals := 42 }) n [.ref 23, .int (iI s)] M (rI (b2 (0 ≤ s ∧ s ≤ ((allN (M 23 4) : Nat) : Int))) M) := by
  refine CT.of (lv0 := [(0, .ref 23), (1, .int (iI s))]) (by decide +kernel) hn (fun _ => rfl) (fun _ => Nat.le_of_ble_eq_true rfl) (fun X cx cs qx => ?_)
  have cx : Cx X cX2_isSet RX2 ({ frames := 2, cells := 0, slots := 0, locals := 42 }) 2 n := cx
  have ha : allN (M 23 4) ≤ 255 := bsum_255 _ (by omega)
  refine g_iload_n cx (pc2 := 1) 1 rfl dX2_isSet_0 rfl ?_
  refine g_if_lt cx (pc2 := 4) (tgt := 16) (by first | assumption | omega) dX2_isSet_1 (by decide) rfl (fun h_1 => ?_) (fun h_1 => ?_)
  · skip
    refine g_iconst cx (pc2 := 17) dX2_isSet_16 rfl ?_
    exact g_zret cx (Or.inl rfl) qx dX2_isSet_17 ⟨rb_f (by first | assumption | omega), by rfl⟩
  · skip
    refine g_iload_n cx (pc2 := 5) 1 rfl dX2_isSet_4 rfl ?_
    refine g_aload_n cx (pc2 := 6) 0 rfl dX2_isSet_5 rfl ?_
    refine g_callV cx (pc2 := 9) (st := [.int (iI s)]) (As := []) (k0 := 23) (ci := 2) (c_X2_allNeeds (M := M) hn (by first | assumption | omega)) wM_X2_allNeeds wV_X2_allNeeds kl_X2_40 rfl (lt_lit hn (Nat.le_of_ble_eq_true rfl)) rfl ⟨rfl, rfl, Nat.le_of_ble_eq_true rfl, Nat.le_of_ble_eq_true rfl⟩ (Nat.le_of_ble_eq_true rfl) cs rfl rfl dX2_isSet_6 rfl ?_
    rintro _ _ ⟨rfl, rfl⟩
    refine g_icmp_gt cx (pc2 := 12) (tgt := 16) ⟨(by first | assumption | omega), (by first | assumption | omega)⟩ dX2_isSet_9 (by decide) rfl (fun h_2 => ?_) (fun h_2 => ?_)
    · skip
      refine g_iconst cx (pc2 := 17) dX2_isSet_16 rfl ?_
      exact g_zret cx (Or.inl rfl) qx dX2_isSet_17 ⟨rb_f (by first | assumption | omega), by rfl⟩
    · skip
      refine g_iconst cx (pc2 := 13) dX2_isSet_12 rfl ?_
      refine g_goto cx (tgt := 17) dX2_isSet_13 (by decide) ?_
      exact g_zret cx (Or.inr rfl) qx dX2_isSet_17 ⟨rb_t (by first | assumption | omega), by rfl⟩
set_option maxHeartbeats 4000000 in
set_option maxRecDepth 100000 in
theorem c_X2_bitsOf {n : Nat} (hn : NN n) {M : Mm} (hl : LW M 23) (hnd : NDA M) (k : Int) (hk : ir k) : CT yX2_bitsOf cX2_bitsOf 4 (some .int) ({ frames := 2, cells := 0, slots := 0, locals := 43 }) n [.ref 23, .int (iI k)] M (rI (((bitsK M k : Nat) : Int)) M) := by
  refine CT.of (lv0 := [(0, .ref 23), (1, .int (iI k))]) (by decide +kernel) hn (fun _ => rfl) (fun _ => Nat.le_of_ble_eq_true rfl) (fun X cx cs qx => ?_)
  have cx : Cx X cX2_bitsOf RX2 ({ frames := 2, cells := 0, slots := 0, locals := 43 }) 4 n := cx
  refine g_iconst cx (pc2 := 1) dX2_bitsOf_0 rfl ?_
  refine g_istore_n cx (pc2 := 2) (lv2 := [(0, .ref 23), (1, .int (iI k)), (2, .int (iI 0))]) rfl (Nat.le_of_ble_eq_true rfl) dX2_bitsOf_1 rfl ?_
  refine g_iconst cx (pc2 := 3) dX2_bitsOf_2 rfl ?_
  refine g_istore_n cx (pc2 := 4) (lv2 := [(0, .ref 23), (1, .int (iI k)), (2, .int (iI 0)), (3, .int (iI 0))]) rfl (Nat.le_of_ble_eq_true rfl) dX2_bitsOf_3 rfl ?_
  have L4 : ∀ (fu : Nat) (i : Int) (s : Int), (0 ≤ i ∧ i ≤ M 23 4) → (s = ((bsum (kdB M k) i.toNat : Nat) : Int)) → (M 23 4 - i).toNat ≤ fu → G X 4 [(0, .ref 23), (1, .int (iI k)), (2, .int (iI s)), (3, .int (iI i))] [] M := by
    intro fu
    induction fu using Nat.strongRecOn with
    | _ fu ih4 =>
      intro i s hi0 hs hk4
      refine g_iload_n cx (pc2 := 5) 3 rfl dX2_bitsOf_4 rfl ?_
      refine g_aload_n cx (pc2 := 6) 0 rfl dX2_bitsOf_5 rfl ?_
      refine g_get cx (pc2 := 9) (ci := 2) (k0 := 23) (j := 4) (v := .int (iI (M 23 4))) rfl iwX2 rfl (lt_lit hn (Nat.le_of_ble_eq_true rfl)) rfl (Nat.le_of_ble_eq_true rfl) kf_X2_30 rfl rfl dX2_bitsOf_6 rfl ?_
      refine g_icmp_ge cx (pc2 := 12) (tgt := 37) ⟨(by first | assumption | omega), (by first | assumption | omega)⟩ dX2_bitsOf_9 (by decide) rfl (fun h_1 => ?_) (fun h_1 => ?_)
      · skip
        refine g_iload_n cx (pc2 := 38) 2 rfl dX2_bitsOf_37 rfl ?_
        exact g_iret cx qx dX2_bitsOf_38 ⟨congrArg (fun q => some (Value.int (iI q))) (by rw [hs]; unfold bitsK; rw [show i = M 23 4 by omega]), by rfl⟩
      · skip
        have L31 : ∀ (s2 : Int), (s2 = ((bsum (kdB M k) (i + 1).toNat : Nat) : Int)) → G X 31 [(0, .ref 23), (1, .int (iI k)), (2, .int (iI s2)), (3, .int (iI i))] [] M := by
          intro s2 hs2
          refine g_iinc cx (pc2 := 34) 3 rfl (lv2 := [(0, .ref 23), (1, .int (iI k)), (2, .int (iI s2)), (3, .int (iI (i + 1)))]) rfl (Nat.le_of_ble_eq_true rfl) dX2_bitsOf_31 rfl ?_
          refine g_goto cx (tgt := 4) dX2_bitsOf_34 (by decide) ?_
          exact ih4 ((M 23 4 - (i + 1)).toNat) (by omega) (i + 1) s2 (by first | assumption | omega) (by exact hs2) (Nat.le_refl _)
        refine g_aload_n cx (pc2 := 13) 0 rfl dX2_bitsOf_12 rfl ?_
        refine g_iload_n cx (pc2 := 14) 3 rfl dX2_bitsOf_13 rfl ?_
        refine g_callV cx (pc2 := 17) (st := []) (As := [.int (iI i)]) (k0 := 23) (ci := 2) (c_X2_needOf (M := M) hn (by first | exact Or.inl rfl | exact ndO_ok (Or.inl rfl) hl _) (by first | assumption | omega) i (by first | assumption | omega)) wM_X2_needOf wV_X2_needOf kl_X2_36 rfl (lt_lit hn (Nat.le_of_ble_eq_true rfl)) rfl ⟨rfl, rfl, Nat.le_of_ble_eq_true rfl, Nat.le_of_ble_eq_true rfl⟩ (Nat.le_of_ble_eq_true rfl) cs rfl rfl dX2_bitsOf_14 rfl ?_
        rintro _ _ ⟨rfl, rfl⟩
        refine g_iload_n cx (pc2 := 18) 1 rfl dX2_bitsOf_17 rfl ?_
        refine g_callV cx (pc2 := 21) (st := []) (As := [.int (iI k)]) (k0 := (ndO M 23 i)) (ci := 4) (c_X4_isA (M := M) hn (by first | exact Or.inl rfl | exact ndO_ok (Or.inl rfl) hl _) (by exact NDA_of hnd _ hl) k (by first | assumption | omega)) wM_X4_isA wV_X4_isA kl_X2_65 (sh_need (ndO_ok (Or.inl rfl) hl i)) (by have := ndO_ok (M := M) (o := 23) (Or.inl rfl) hl i; omega) rfl ⟨rfl, rfl, Nat.le_of_ble_eq_true rfl, Nat.le_of_ble_eq_true rfl⟩ (Nat.le_of_ble_eq_true rfl) cs rfl rfl dX2_bitsOf_18 rfl ?_
        rintro _ _ ⟨rfl, rfl⟩
        refine g_ifb_eq cx (pc2 := 24) (tgt := 31) dX2_bitsOf_21 (by decide) rfl (fun h_2 => ?_) (fun h_2 => ?_)
        · skip
          exact L31 s (by rw [hs]; first | (rw [Int.toNat_natCast, or_step (kdB M k) hi0.1 (by omega)]; unfold kdB; have e := ndO_in (M := M) (o := 23) (i := i) (by omega); rw [show 23 + 4 + i.toNat = 27 + i.toNat by omega] at e; rw [← e]; exact decide_eq_true (by assumption)) | (rw [or_skip (kdB M k) hi0.1]; unfold kdB; have e := ndO_in (M := M) (o := 23) (i := i) (by omega); rw [show 23 + 4 + i.toNat = 27 + i.toNat by omega] at e; rw [← e]; exact decide_eq_false (by assumption)))
        · skip
          refine g_iload_n cx (pc2 := 25) 2 rfl dX2_bitsOf_24 rfl ?_
          refine g_iload_n cx (pc2 := 26) 3 rfl dX2_bitsOf_25 rfl ?_
          refine g_callSN cx (pc2 := 29) (st := [.int (iI s)]) (As := [.int (iI i)]) (c_X11_bit (M := M) hn i (by first | assumption | omega)) wM_X11_bit wS_X11_bit kl_X2_59 ⟨rfl, rfl, Nat.le_of_ble_eq_true rfl, Nat.le_of_ble_eq_true rfl⟩ (Nat.le_of_ble_eq_true rfl) cs rfl rfl dX2_bitsOf_26 rfl ?_
          rintro _ _ ⟨rfl, rfl⟩
          refine g_ior cx (pc2 := 30) dX2_bitsOf_29 rfl ?_
          refine g_rwi (y := iI ((s.toNat ||| bitN i : Nat) : Int)) (or_iI (by omega) (by omega)) ?_
          refine g_istore_n cx (pc2 := 31) (lv2 := [(0, .ref 23), (1, .int (iI k)), (2, .int (iI ((s.toNat ||| bitN i : Nat) : Int))), (3, .int (iI i))]) rfl (Nat.le_of_ble_eq_true rfl) dX2_bitsOf_30 rfl ?_
          exact L31 ((s.toNat ||| bitN i : Nat) : Int) (by rw [hs]; first | (rw [Int.toNat_natCast, or_step (kdB M k) hi0.1 (by omega)]; unfold kdB; have e := ndO_in (M := M) (o := 23) (i := i) (by omega); rw [show 23 + 4 + i.toNat = 27 + i.toNat by omega] at e; rw [← e]; exact decide_eq_true (by assumption)) | (rw [or_skip (kdB M k) hi0.1]; unfold kdB; have e := ndO_in (M := M) (o := 23) (i := i) (by omega); rw [show 23 + 4 + i.toNat = 27 + i.toNat by omega] at e; rw [← e]; exact decide_eq_false (by assumption)))
  exact L4 _ 0 0 (by first | assumption | omega) (by rfl) (Nat.le_refl _)
set_option maxHeartbeats 4000000 in
set_option maxRecDepth 100000 in
theorem c_X2_mustBits {n : Nat} (hn : NN n) {M : Mm} (hl : LW M 23) (hnd : NDA M) : CT yX2_mustBits cX2_mustBits 1 (some .int) ({ frames := 3, cells := 0, slots := 0, locals := 66 }) n [.ref 23] M (rI (((bitsK M 1 : Nat) : Int)) M) := by
  refine CT.of (lv0 := [(0, .ref 23)]) (by decide +kernel) hn (fun _ => rfl) (fun _ => Nat.le_of_ble_eq_true rfl) (fun X cx cs qx => ?_)
  have cx : Cx X cX2_mustBits RX2 ({ frames := 3, cells := 0, slots := 0, locals := 66 }) 1 n := cx
  refine g_aload_n cx (pc2 := 1) 0 rfl dX2_mustBits_0 rfl ?_
  refine g_iconst cx (pc2 := 2) dX2_mustBits_1 rfl ?_
  refine g_callV cx (pc2 := 5) (st := []) (As := [.int (iI 1)]) (k0 := 23) (ci := 2) (c_X2_bitsOf (M := M) hn (by first | assumption | omega) (by first | assumption | omega) 1 (by first | assumption | omega)) wM_X2_bitsOf wV_X2_bitsOf kl_X2_62 rfl (lt_lit hn (Nat.le_of_ble_eq_true rfl)) rfl ⟨rfl, rfl, Nat.le_of_ble_eq_true rfl, Nat.le_of_ble_eq_true rfl⟩ (Nat.le_of_ble_eq_true rfl) cs rfl rfl dX2_mustBits_2 rfl ?_
  rintro _ _ ⟨rfl, rfl⟩
  exact g_iret cx qx dX2_mustBits_5 ⟨congrArg (fun q => some (Value.int (iI q))) (by first | rfl | omega), by rfl⟩
set_option maxHeartbeats 4000000 in
set_option maxRecDepth 100000 in
theorem c_X2_lotBits {n : Nat} (hn : NN n) {M : Mm} (hl : LW M 23) (hnd : NDA M) : CT yX2_lotBits cX2_lotBits 1 (some .int) ({ frames := 3, cells := 0, slots := 0, locals := 66 }) n [.ref 23] M (rI (((bitsK M 2 : Nat) : Int)) M) := by
  refine CT.of (lv0 := [(0, .ref 23)]) (by decide +kernel) hn (fun _ => rfl) (fun _ => Nat.le_of_ble_eq_true rfl) (fun X cx cs qx => ?_)
  have cx : Cx X cX2_lotBits RX2 ({ frames := 3, cells := 0, slots := 0, locals := 66 }) 1 n := cx
  refine g_aload_n cx (pc2 := 1) 0 rfl dX2_lotBits_0 rfl ?_
  refine g_iconst cx (pc2 := 2) dX2_lotBits_1 rfl ?_
  refine g_callV cx (pc2 := 5) (st := []) (As := [.int (iI 2)]) (k0 := 23) (ci := 2) (c_X2_bitsOf (M := M) hn (by first | assumption | omega) (by first | assumption | omega) 2 (by first | assumption | omega)) wM_X2_bitsOf wV_X2_bitsOf kl_X2_62 rfl (lt_lit hn (Nat.le_of_ble_eq_true rfl)) rfl ⟨rfl, rfl, Nat.le_of_ble_eq_true rfl, Nat.le_of_ble_eq_true rfl⟩ (Nat.le_of_ble_eq_true rfl) cs rfl rfl dX2_lotBits_2 rfl ?_
  rintro _ _ ⟨rfl, rfl⟩
  exact g_iret cx qx dX2_lotBits_5 ⟨congrArg (fun q => some (Value.int (iI q))) (by first | rfl | omega), by rfl⟩
set_option maxHeartbeats 4000000 in
set_option maxRecDepth 100000 in
theorem c_X2_startPlace {n : Nat} (hn : NN n) {M : Mm} (hl : LW M 23) (hst : 0 ≤ M 23 5 ∧ M 23 5 ≤ 7) : CT yX2_startPlace cX2_startPlace 1 (some .int) ({ frames := 2, cells := 0, slots := 0, locals := 42 }) n [.ref 23] M (rI (plc M 23 (M 23 5)) M) := by
  refine CT.of (lv0 := [(0, .ref 23)]) (by decide +kernel) hn (fun _ => rfl) (fun _ => Nat.le_of_ble_eq_true rfl) (fun X cx cs qx => ?_)
  have cx : Cx X cX2_startPlace RX2 ({ frames := 2, cells := 0, slots := 0, locals := 42 }) 1 n := cx
  refine g_aload_n cx (pc2 := 1) 0 rfl dX2_startPlace_0 rfl ?_
  refine g_aload_n cx (pc2 := 2) 0 rfl dX2_startPlace_1 rfl ?_
  refine g_get cx (pc2 := 5) (ci := 2) (k0 := 23) (j := 5) (v := .int (iI (M 23 5))) rfl iwX2 rfl (lt_lit hn (Nat.le_of_ble_eq_true rfl)) rfl (Nat.le_of_ble_eq_true rfl) kf_X2_33 rfl rfl dX2_startPlace_2 rfl ?_
  refine g_callV cx (pc2 := 8) (st := []) (As := [.int (iI (M 23 5))]) (k0 := 23) (ci := 2) (c_X2_placeOf (M := M) hn (by exact Or.inl rfl) (by first | assumption | omega) (M 23 5) (by first | assumption | omega)) wM_X2_placeOf wV_X2_placeOf kl_X2_48 rfl (lt_lit hn (Nat.le_of_ble_eq_true rfl)) rfl ⟨rfl, rfl, Nat.le_of_ble_eq_true rfl, Nat.le_of_ble_eq_true rfl⟩ (Nat.le_of_ble_eq_true rfl) cs rfl rfl dX2_startPlace_5 rfl ?_
  rintro _ _ ⟨rfl, rfl⟩
  exact g_iret cx qx dX2_startPlace_8 ⟨congrArg (fun q => some (Value.int (iI q))) (by first | rfl | omega), by rfl⟩
set_option maxHeartbeats 4000000 in
set_option maxRecDepth 100000 in
theorem c_X2_carryBetween {n : Nat} (hn : NN n) {M : Mm} (hl : LW M 23) (hp : PLW M 23) (h k : Int) (hh : ir h) (hk : ir k) : CT yX2_carryBetween cX2_carryBetween 3 (some .int) ({ frames := 2, cells := 0, slots := 0, locals := 42 }) n [.ref 23, .int (iI h), .int (iI k)] M (rI (wap (plc M 23 h) (plc M 23 k)) M) := by
  refine CT.of (lv0 := [(0, .ref 23), (1, .int (iI h)), (2, .int (iI k))]) (by decide +kernel) hn (fun _ => rfl) (fun _ => Nat.le_of_ble_eq_true rfl) (fun X cx cs qx => ?_)
  have cx : Cx X cX2_carryBetween RX2 ({ frames := 2, cells := 0, slots := 0, locals := 42 }) 3 n := cx
  refine g_aload_n cx (pc2 := 1) 0 rfl dX2_carryBetween_0 rfl ?_
  refine g_iload_n cx (pc2 := 2) 1 rfl dX2_carryBetween_1 rfl ?_
  refine g_callV cx (pc2 := 5) (st := []) (As := [.int (iI h)]) (k0 := 23) (ci := 2) (c_X2_placeOf (M := M) hn (by exact Or.inl rfl) (by first | assumption | omega) h (by first | assumption | omega)) wM_X2_placeOf wV_X2_placeOf kl_X2_48 rfl (lt_lit hn (Nat.le_of_ble_eq_true rfl)) rfl ⟨rfl, rfl, Nat.le_of_ble_eq_true rfl, Nat.le_of_ble_eq_true rfl⟩ (Nat.le_of_ble_eq_true rfl) cs rfl rfl dX2_carryBetween_2 rfl ?_
  rintro _ _ ⟨rfl, rfl⟩
  refine g_aload_n cx (pc2 := 6) 0 rfl dX2_carryBetween_5 rfl ?_
  refine g_iload_n cx (pc2 := 7) 2 rfl dX2_carryBetween_6 rfl ?_
  refine g_callV cx (pc2 := 10) (st := [.int (iI (plc M 23 h))]) (As := [.int (iI k)]) (k0 := 23) (ci := 2) (c_X2_placeOf (M := M) hn (by exact Or.inl rfl) (by first | assumption | omega) k (by first | assumption | omega)) wM_X2_placeOf wV_X2_placeOf kl_X2_48 rfl (lt_lit hn (Nat.le_of_ble_eq_true rfl)) rfl ⟨rfl, rfl, Nat.le_of_ble_eq_true rfl, Nat.le_of_ble_eq_true rfl⟩ (Nat.le_of_ble_eq_true rfl) cs rfl rfl dX2_carryBetween_7 rfl ?_
  rintro _ _ ⟨rfl, rfl⟩
  refine g_callSN cx (pc2 := 13) (st := []) (As := [.int (iI (plc M 23 h)), .int (iI (plc M 23 k))]) (c_X11_watchesApart (M := M) hn (plc M 23 h) (plc M 23 k) (by have := plc_b hp h; omega) (by have := plc_b hp k; omega)) wM_X11_watchesApart wS_X11_watchesApart kl_X2_52 ⟨rfl, rfl, Nat.le_of_ble_eq_true rfl, Nat.le_of_ble_eq_true rfl⟩ (Nat.le_of_ble_eq_true rfl) cs rfl rfl dX2_carryBetween_10 rfl ?_
  rintro _ _ ⟨rfl, rfl⟩
  exact g_iret cx qx dX2_carryBetween_13 ⟨congrArg (fun q => some (Value.int (iI q))) (by first | rfl | omega), by rfl⟩
