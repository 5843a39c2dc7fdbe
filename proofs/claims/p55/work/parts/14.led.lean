/-- hours, what is owed: by a house's place -/
def hrM (M : Mm) (h : Int) : Int := if 0 ≤ h ∧ h < 8 then M 64 h.toNat else 0
def owM (M : Mm) (h k : Int) : Int := if (0 ≤ h ∧ h < 8) ∧ 0 ≤ k ∧ k < 8 then M 65 (h * 8 + k).toNat else 0
def clP (M : Mm) (i j : Int) : Mm := fun a b => if a = 63 ∧ b = 6 then 0 else if a = 64 ∧ (b : Int) < i then 0 else if a = 65 ∧ (b : Int) < j then 0 else M a b
def clM (M : Mm) : Mm := fun a b => if a = 63 ∧ b = 6 then 0 else if a = 64 ∧ (b : Int) < 8 then 0 else if a = 65 ∧ (b : Int) < 64 then 0 else M a b
theorem clP_0 (M : Mm) : stM M 63 6 0 = clP M 0 0 := by
  funext a b
  unfold stM clP
  split
  · rfl
  · rw [if_neg (by omega), if_neg (by omega)]
theorem clP_h {M : Mm} {i : Int} (h : 0 ≤ i) : stM (clP M i 0) 64 i.toNat 0 = clP M (i + 1) 0 := by
  funext a b
  unfold stM clP
  by_cases h1 : a = 64 ∧ b = i.toNat
  · rw [if_pos h1, if_neg (by omega), if_pos (by omega)]
  · rw [if_neg h1]
    by_cases h2 : a = 63 ∧ b = 6
    · rw [if_pos h2, if_pos h2]
    · rw [if_neg h2, if_neg h2]
      by_cases h3 : a = 64 ∧ (b : Int) < i
      · rw [if_pos h3, if_pos (by omega)]
      · rw [if_neg h3, if_neg (show ¬ (a = 64 ∧ (b : Int) < i + 1) by omega)]
theorem clP_o {M : Mm} {j : Int} (h : 0 ≤ j) : stM (clP M 8 j) 65 j.toNat 0 = clP M 8 (j + 1) := by
  funext a b
  unfold stM clP
  by_cases h1 : a = 65 ∧ b = j.toNat
  · rw [if_pos h1, if_neg (by omega), if_neg (by omega), if_pos (by omega)]
  · rw [if_neg h1]
    by_cases h2 : a = 63 ∧ b = 6
    · rw [if_pos h2, if_pos h2]
    · rw [if_neg h2, if_neg h2]
      by_cases h4 : a = 64 ∧ (b : Int) < 8
      · rw [if_pos h4, if_pos h4]
      · rw [if_neg h4, if_neg h4]
        by_cases h3 : a = 65 ∧ (b : Int) < j
        · rw [if_pos h3, if_pos (by omega)]
        · rw [if_neg h3, if_neg (by omega)]
/-- a deal: hours move, what is owed changes -/
def mvM (M : Mm) (h k q : Int) : Mm := stM (stM M 64 h.toNat (M 64 h.toNat - q)) 64 k.toNat (stM M 64 h.toNat (M 64 h.toNat - q) 64 k.toNat + q)
def oaM (M : Mm) (h k q : Int) : Mm := stM M 65 (h * 8 + k).toNat (M 65 (h * 8 + k).toNat + q)
def seM (M : Mm) (kd h k q : Int) : Mm := if kd = 0 then stM M 64 h.toNat (M 64 h.toNat + q) else if kd = 1 then oaM (mvM M h k q) k h q else if kd = 2 then mvM M h k q else if kd = 3 then oaM (mvM M k h q) h k (2 * q) else oaM (mvM M h k q) h k (-q)
def enM (M : Mm) (kd h k q : Int) : Mm := seM (stM (stM (stM (stM (stM M 66 (M 63 6).toNat kd) 67 (M 63 6).toNat h) 68 (M 63 6).toNat k) 69 (M 63 6).toNat q) 63 6 (M 63 6 + 1)) kd h k q
theorem mvM_off (M : Mm) (h k q : Int) {a : Nat} (ha : a ≠ 64) : mvM M h k q a = M a := by unfold mvM; rw [stM_off ha, stM_off ha]
theorem oaM_off (M : Mm) (h k q : Int) {a : Nat} (ha : a ≠ 65) : oaM M h k q a = M a := by unfold oaM; rw [stM_off ha]
theorem seM_off (M : Mm) (kd h k q : Int) {a : Nat} (h1 : a ≠ 64) (h2 : a ≠ 65) : seM M kd h k q a = M a := by
  unfold seM
  by_cases k0 : kd = 0
  · rw [if_pos k0, stM_off h1]
  · rw [if_neg k0]
    by_cases k1 : kd = 1
    · rw [if_pos k1, oaM_off _ _ _ _ h2, mvM_off _ _ _ _ h1]
    · rw [if_neg k1]
      by_cases k2 : kd = 2
      · rw [if_pos k2, mvM_off _ _ _ _ h1]
      · rw [if_neg k2]
        by_cases k3 : kd = 3
        · rw [if_pos k3, oaM_off _ _ _ _ h2, mvM_off _ _ _ _ h1]
        · rw [if_neg k3, oaM_off _ _ _ _ h2, mvM_off _ _ _ _ h1]
/-- deals from number q on are undone, the last first: k of them are left to do -/
def unM (M : Mm) (q : Int) : Nat → Mm
  | 0 => M
  | k + 1 => unM (stM (seM M (M 66 (q.toNat + k)) (M 67 (q.toNat + k)) (M 68 (q.toNat + k)) (-(M 69 (q.toNat + k)))) 63 6 (q + (k : Int))) q k
abbrev H8 (h : Int) : Prop := 0 ≤ h ∧ h < 8
/-- the deals that are noted name houses -/
abbrev DLW (M : Mm) : Prop := (0 ≤ M 63 6 ∧ M 63 6 ≤ 16) ∧ ∀ j, (0 ≤ M 66 j ∧ M 66 j ≤ 4) ∧ H8 (M 67 j) ∧ H8 (M 68 j) ∧ (0 ≤ M 69 j ∧ M 69 j ≤ 99)
set_option maxHeartbeats 4000000 in
set_option maxRecDepth 100000 in
theorem c_X3_isOne {n : Nat} (hn : NN n) {M : Mm} (h : Int) (hh : ir h) : CT yX3_isOne cX3_isOne 1 (some .boolean) ({ frames := 0, cells := 0, slots := 0, locals := 0 }) n [.int (iI h)] M (rI (b2 (0 ≤ h ∧ h < 8)) M) := by
  refine CT.of (lv0 := [(0, .int (iI h))]) (by decide +kernel) hn (fun _ => rfl) (fun _ => Nat.le_of_ble_eq_true rfl) (fun X cx cs qx => ?_)
  have cx : Cx X cX3_isOne RX3 ({ frames := 0, cells := 0, slots := 0, locals := 0 }) 1 n := cx
  refine g_iload_n cx (pc2 := 1) 0 rfl dX3_isOne_0 rfl ?_
  refine g_if_lt cx (pc2 := 4) (tgt := 14) (by first | assumption | omega) dX3_isOne_1 (by decide) rfl (fun h_1 => ?_) (fun h_1 => ?_)
  · skip
    refine g_iconst cx (pc2 := 15) dX3_isOne_14 rfl ?_
    exact g_zret cx (Or.inl rfl) qx dX3_isOne_15 ⟨rb_f (by first | assumption | omega), by rfl⟩
  · skip
    refine g_iload_n cx (pc2 := 5) 0 rfl dX3_isOne_4 rfl ?_
    refine g_bipush cx (pc2 := 7) ⟨by decide, by decide⟩ dX3_isOne_5 rfl ?_
    refine g_icmp_ge cx (pc2 := 10) (tgt := 14) ⟨(by first | assumption | omega), ⟨by decide, by decide⟩⟩ dX3_isOne_7 (by decide) rfl (fun h_2 => ?_) (fun h_2 => ?_)
    · skip
      refine g_iconst cx (pc2 := 15) dX3_isOne_14 rfl ?_
      exact g_zret cx (Or.inl rfl) qx dX3_isOne_15 ⟨rb_f (by first | assumption | omega), by rfl⟩
    · skip
      refine g_iconst cx (pc2 := 11) dX3_isOne_10 rfl ?_
      refine g_goto cx (tgt := 15) dX3_isOne_11 (by decide) ?_
      exact g_zret cx (Or.inr rfl) qx dX3_isOne_15 ⟨rb_t (by first | assumption | omega), by rfl⟩
set_option maxHeartbeats 4000000 in
set_option maxRecDepth 100000 in
theorem c_X3_hoursOf {n : Nat} (hn : NN n) {M : Mm} (h : Int) (hh : H8 h) : CT yX3_hoursOf cX3_hoursOf 2 (some .int) ({ frames := 1, cells := 0, slots := 0, locals := 20 }) n [.ref 63, .int (iI h)] M (rI (M 64 h.toNat) M) := by
  refine CT.of (lv0 := [(0, .ref 63), (1, .int (iI h))]) (by decide +kernel) hn (fun _ => rfl) (fun _ => Nat.le_of_ble_eq_true rfl) (fun X cx cs qx => ?_)
  have cx : Cx X cX3_hoursOf RX3 ({ frames := 1, cells := 0, slots := 0, locals := 20 }) 2 n := cx
  refine g_iload_n cx (pc2 := 1) 1 rfl dX3_hoursOf_0 rfl ?_
  refine g_callS cx (pc2 := 4) (st := []) (As := [.int (iI h)]) (c_X3_isOne (M := M) hn h (by first | assumption | omega)) wM_X3_isOne wS_X3_isOne kl_X3_34 ⟨rfl, rfl, Nat.le_of_ble_eq_true rfl, Nat.le_of_ble_eq_true rfl⟩ (Nat.le_of_ble_eq_true rfl) cs rfl rfl dX3_hoursOf_1 rfl ?_
  rintro _ _ ⟨rfl, rfl⟩
  refine g_ifb_eq cx (pc2 := 7) (tgt := 16) dX3_hoursOf_4 (by decide) rfl (fun h_1 => ?_) (fun h_1 => ?_)
  · skip
    omega
  · skip
    refine g_aload_n cx (pc2 := 8) 0 rfl dX3_hoursOf_7 rfl ?_
    refine g_get cx (pc2 := 11) (ci := 3) (k0 := 63) (j := 0) (v := .ref 64) rfl iwX3 rfl (lt_lit hn (Nat.le_of_ble_eq_true rfl)) rfl (Nat.le_of_ble_eq_true rfl) kf_X3_9 rfl rfl dX3_hoursOf_8 rfl ?_
    refine g_iload_n cx (pc2 := 12) 1 rfl dX3_hoursOf_11 rfl ?_
    refine g_iald cx (pc2 := 13) (k0 := 64) rfl (lt_lit hn (Nat.le_of_ble_eq_true rfl)) (by first | assumption | omega) (by first | assumption | omega) (Nat.le_of_ble_eq_true rfl) dX3_hoursOf_12 rfl ?_
    refine g_rwi (y := iI (M 64 ((h).toNat))) (congrArg iI (by simp [stM])) ?_
    refine g_goto cx (tgt := 17) dX3_hoursOf_13 (by decide) ?_
    exact g_iret cx qx dX3_hoursOf_17 ⟨congrArg (fun q => some (Value.int (iI q))) (by first | rfl | omega), by rfl⟩
set_option maxHeartbeats 4000000 in
set_option maxRecDepth 100000 in
theorem c_X3_setHours {n : Nat} (hn : NN n) {M : Mm} (h v : Int) (hh : H8 h) : CT yX3_setHours cX3_setHours 3 none ({ frames := 1, cells := 0, slots := 0, locals := 20 }) n [.ref 63, .int (iI h), .int (iI v)] M (rV (stM M 64 h.toNat v)) := by
  refine CT.of (lv0 := [(0, .ref 63), (1, .int (iI h)), (2, .int (iI v))]) (by decide +kernel) hn (fun _ => rfl) (fun _ => Nat.le_of_ble_eq_true rfl) (fun X cx cs qx => ?_)
  have cx : Cx X cX3_setHours RX3 ({ frames := 1, cells := 0, slots := 0, locals := 20 }) 3 n := cx
  refine g_iload_n cx (pc2 := 1) 1 rfl dX3_setHours_0 rfl ?_
  refine g_callS cx (pc2 := 4) (st := []) (As := [.int (iI h)]) (c_X3_isOne (M := M) hn h (by first | assumption | omega)) wM_X3_isOne wS_X3_isOne kl_X3_34 ⟨rfl, rfl, Nat.le_of_ble_eq_true rfl, Nat.le_of_ble_eq_true rfl⟩ (Nat.le_of_ble_eq_true rfl) cs rfl rfl dX3_setHours_1 rfl ?_
  rintro _ _ ⟨rfl, rfl⟩
  refine g_ifb_eq cx (pc2 := 7) (tgt := 14) dX3_setHours_4 (by decide) rfl (fun h_1 => ?_) (fun h_1 => ?_)
  · skip
    omega
  · skip
    refine g_aload_n cx (pc2 := 8) 0 rfl dX3_setHours_7 rfl ?_
    refine g_get cx (pc2 := 11) (ci := 3) (k0 := 63) (j := 0) (v := .ref 64) rfl iwX3 rfl (lt_lit hn (Nat.le_of_ble_eq_true rfl)) rfl (Nat.le_of_ble_eq_true rfl) kf_X3_9 rfl rfl dX3_setHours_8 rfl ?_
    refine g_iload_n cx (pc2 := 12) 1 rfl dX3_setHours_11 rfl ?_
    refine g_iload_n cx (pc2 := 13) 2 rfl dX3_setHours_12 rfl ?_
    refine g_iast cx (pc2 := 14) (k0 := 64) rfl (lt_lit hn (Nat.le_of_ble_eq_true rfl)) (by first | assumption | omega) (by first | assumption | omega) (Nat.le_of_ble_eq_true rfl) dX3_setHours_13 rfl ?_
    exact g_vret cx qx dX3_setHours_14 ⟨rfl, by rfl⟩
set_option maxHeartbeats 4000000 in
set_option maxRecDepth 100000 in
theorem c_X3_owedBy {n : Nat} (hn : NN n) {M : Mm} (h k : Int) (hh : H8 h) (hk : H8 k) : CT yX3_owedBy cX3_owedBy 3 (some .int) ({ frames := 1, cells := 0, slots := 0, locals := 20 }) n [.ref 63, .int (iI h), .int (iI k)] M (rI (M 65 (h * 8 + k).toNat) M) := by
  refine CT.of (lv0 := [(0, .ref 63), (1, .int (iI h)), (2, .int (iI k))]) (by decide +kernel) hn (fun _ => rfl) (fun _ => Nat.le_of_ble_eq_true rfl) (fun X cx cs qx => ?_)
  have cx : Cx X cX3_owedBy RX3 ({ frames := 1, cells := 0, slots := 0, locals := 20 }) 3 n := cx
  refine g_iload_n cx (pc2 := 1) 1 rfl dX3_owedBy_0 rfl ?_
  refine g_callS cx (pc2 := 4) (st := []) (As := [.int (iI h)]) (c_X3_isOne (M := M) hn h (by first | assumption | omega)) wM_X3_isOne wS_X3_isOne kl_X3_34 ⟨rfl, rfl, Nat.le_of_ble_eq_true rfl, Nat.le_of_ble_eq_true rfl⟩ (Nat.le_of_ble_eq_true rfl) cs rfl rfl dX3_owedBy_1 rfl ?_
  rintro _ _ ⟨rfl, rfl⟩
  refine g_ifb_eq cx (pc2 := 7) (tgt := 28) dX3_owedBy_4 (by decide) rfl (fun h_1 => ?_) (fun h_1 => ?_)
  · skip
    omega
  · skip
    refine g_iload_n cx (pc2 := 8) 2 rfl dX3_owedBy_7 rfl ?_
    refine g_callS cx (pc2 := 11) (st := []) (As := [.int (iI k)]) (c_X3_isOne (M := M) hn k (by first | assumption | omega)) wM_X3_isOne wS_X3_isOne kl_X3_34 ⟨rfl, rfl, Nat.le_of_ble_eq_true rfl, Nat.le_of_ble_eq_true rfl⟩ (Nat.le_of_ble_eq_true rfl) cs rfl rfl dX3_owedBy_8 rfl ?_
    rintro _ _ ⟨rfl, rfl⟩
    refine g_ifb_eq cx (pc2 := 14) (tgt := 28) dX3_owedBy_11 (by decide) rfl (fun h_2 => ?_) (fun h_2 => ?_)
    · skip
      omega
    · skip
      refine g_aload_n cx (pc2 := 15) 0 rfl dX3_owedBy_14 rfl ?_
      refine g_get cx (pc2 := 18) (ci := 3) (k0 := 63) (j := 1) (v := .ref 65) rfl iwX3 rfl (lt_lit hn (Nat.le_of_ble_eq_true rfl)) rfl (Nat.le_of_ble_eq_true rfl) kf_X3_15 rfl rfl dX3_owedBy_15 rfl ?_
      refine g_iload_n cx (pc2 := 19) 1 rfl dX3_owedBy_18 rfl ?_
      refine g_bipush cx (pc2 := 21) ⟨by decide, by decide⟩ dX3_owedBy_19 rfl ?_
      refine g_imul cx (pc2 := 22) dX3_owedBy_21 rfl ?_
      refine g_iload_n cx (pc2 := 23) 2 rfl dX3_owedBy_22 rfl ?_
      refine g_iadd cx (pc2 := 24) dX3_owedBy_23 rfl ?_
      refine g_iald cx (pc2 := 25) (k0 := 65) rfl (lt_lit hn (Nat.le_of_ble_eq_true rfl)) (by first | assumption | omega) (by first | assumption | omega) (Nat.le_of_ble_eq_true rfl) dX3_owedBy_24 rfl ?_
      refine g_rwi (y := iI (M 65 (((h * 8) + k).toNat))) (congrArg iI (by simp [stM])) ?_
      refine g_goto cx (tgt := 29) dX3_owedBy_25 (by decide) ?_
      exact g_iret cx qx dX3_owedBy_29 ⟨congrArg (fun q => some (Value.int (iI q))) (by first | rfl | omega), by rfl⟩
set_option maxHeartbeats 4000000 in
set_option maxRecDepth 100000 in
theorem c_X3_setOwed {n : Nat} (hn : NN n) {M : Mm} (h k v : Int) (hh : H8 h) (hk : H8 k) : CT yX3_setOwed cX3_setOwed 4 none ({ frames := 1, cells := 0, slots := 0, locals := 20 }) n [.ref 63, .int (iI h), .int (iI k), .int (iI v)] M (rV (stM M 65 (h * 8 + k).toNat v)) := by
  refine CT.of (lv0 := [(0, .ref 63), (1, .int (iI h)), (2, .int (iI k)), (3, .int (iI v))]) (by decide +kernel) hn (fun _ => rfl) (fun _ => Nat.le_of_ble_eq_true rfl) (fun X cx cs qx => ?_)
  have cx : Cx X cX3_setOwed RX3 ({ frames := 1, cells := 0, slots := 0, locals := 20 }) 4 n := cx
  refine g_iload_n cx (pc2 := 1) 1 rfl dX3_setOwed_0 rfl ?_
  refine g_callS cx (pc2 := 4) (st := []) (As := [.int (iI h)]) (c_X3_isOne (M := M) hn h (by first | assumption | omega)) wM_X3_isOne wS_X3_isOne kl_X3_34 ⟨rfl, rfl, Nat.le_of_ble_eq_true rfl, Nat.le_of_ble_eq_true rfl⟩ (Nat.le_of_ble_eq_true rfl) cs rfl rfl dX3_setOwed_1 rfl ?_
  rintro _ _ ⟨rfl, rfl⟩
  refine g_ifb_eq cx (pc2 := 7) (tgt := 26) dX3_setOwed_4 (by decide) rfl (fun h_1 => ?_) (fun h_1 => ?_)
  · skip
    omega
  · skip
    refine g_iload_n cx (pc2 := 8) 2 rfl dX3_setOwed_7 rfl ?_
    refine g_callS cx (pc2 := 11) (st := []) (As := [.int (iI k)]) (c_X3_isOne (M := M) hn k (by first | assumption | omega)) wM_X3_isOne wS_X3_isOne kl_X3_34 ⟨rfl, rfl, Nat.le_of_ble_eq_true rfl, Nat.le_of_ble_eq_true rfl⟩ (Nat.le_of_ble_eq_true rfl) cs rfl rfl dX3_setOwed_8 rfl ?_
    rintro _ _ ⟨rfl, rfl⟩
    refine g_ifb_eq cx (pc2 := 14) (tgt := 26) dX3_setOwed_11 (by decide) rfl (fun h_2 => ?_) (fun h_2 => ?_)
    · skip
      omega
    · skip
      refine g_aload_n cx (pc2 := 15) 0 rfl dX3_setOwed_14 rfl ?_
      refine g_get cx (pc2 := 18) (ci := 3) (k0 := 63) (j := 1) (v := .ref 65) rfl iwX3 rfl (lt_lit hn (Nat.le_of_ble_eq_true rfl)) rfl (Nat.le_of_ble_eq_true rfl) kf_X3_15 rfl rfl dX3_setOwed_15 rfl ?_
      refine g_iload_n cx (pc2 := 19) 1 rfl dX3_setOwed_18 rfl ?_
      refine g_bipush cx (pc2 := 21) ⟨by decide, by decide⟩ dX3_setOwed_19 rfl ?_
      refine g_imul cx (pc2 := 22) dX3_setOwed_21 rfl ?_
      refine g_iload_n cx (pc2 := 23) 2 rfl dX3_setOwed_22 rfl ?_
      refine g_iadd cx (pc2 := 24) dX3_setOwed_23 rfl ?_
      refine g_iload_n cx (pc2 := 25) 3 rfl dX3_setOwed_24 rfl ?_
      refine g_iast cx (pc2 := 26) (k0 := 65) rfl (lt_lit hn (Nat.le_of_ble_eq_true rfl)) (by first | assumption | omega) (by first | assumption | omega) (Nat.le_of_ble_eq_true rfl) dX3_setOwed_25 rfl ?_
      exact g_vret cx qx dX3_setOwed_26 ⟨rfl, by rfl⟩
set_option maxHeartbeats 4000000 in
set_option maxRecDepth 100000 in
theorem c_X3_clear {n : Nat} (hn : NN n) {M : Mm} : CT yX3_clear cX3_clear 2 none ({ frames := 0, cells := 0, slots := 0, locals := 0 }) n [.ref 63] M (rV (clM M)) := by
  refine CT.of (lv0 := [(0, .ref 63)]) (by decide +kernel) hn (fun _ => rfl) (fun _ => Nat.le_of_ble_eq_true rfl) (fun X cx cs qx => ?_)
  have cx : Cx X cX3_clear RX3 ({ frames := 0, cells := 0, slots := 0, locals := 0 }) 2 n := cx
  refine g_aload_n cx (pc2 := 1) 0 rfl dX3_clear_0 rfl ?_
  refine g_iconst cx (pc2 := 2) dX3_clear_1 rfl ?_
  refine g_puti cx (pc2 := 5) (ci := 3) (k0 := 63) (j := 6) rfl iwX3 rfl (lt_lit hn (Nat.le_of_ble_eq_true rfl)) rfl (Nat.le_of_ble_eq_true rfl) kf_X3_30 rfl tyX3_ok nmX3 rfl rfl dX3_clear_2 rfl ?_
  refine g_iconst cx (pc2 := 6) dX3_clear_5 rfl ?_
  refine g_istore_n cx (pc2 := 7) (lv2 := [(0, .ref 63), (1, .int (iI 0))]) rfl (Nat.le_of_ble_eq_true rfl) dX3_clear_6 rfl ?_
  have L7 : ∀ (fu : Nat) (i : Int), (0 ≤ i ∧ i ≤ 8) → (8 - i).toNat ≤ fu → G X 7 [(0, .ref 63), (1, .int (iI i))] [] (clP M i 0) := by
    intro fu
    induction fu using Nat.strongRecOn with
    | _ fu ih7 =>
      intro i hi hk7
      refine g_iload_n cx (pc2 := 8) 1 rfl dX3_clear_7 rfl ?_
      refine g_aload_n cx (pc2 := 9) 0 rfl dX3_clear_8 rfl ?_
      refine g_get cx (pc2 := 12) (ci := 3) (k0 := 63) (j := 0) (v := .ref 64) rfl iwX3 rfl (lt_lit hn (Nat.le_of_ble_eq_true rfl)) rfl (Nat.le_of_ble_eq_true rfl) kf_X3_9 rfl rfl dX3_clear_9 rfl ?_
      refine g_alen cx (pc2 := 13) (k0 := 64) (v := 8) rfl (by decide) (lt_lit hn (Nat.le_of_ble_eq_true rfl)) rfl dX3_clear_12 rfl ?_
      refine g_icmp_ge cx (pc2 := 16) (tgt := 29) ⟨(by first | assumption | omega), ⟨by decide, by decide⟩⟩ dX3_clear_13 (by decide) rfl (fun h_1 => ?_) (fun h_1 => ?_)
      · skip
        refine g_iconst cx (pc2 := 30) dX3_clear_29 rfl ?_
        refine g_istore_n cx (pc2 := 31) (lv2 := [(0, .ref 63), (1, .int (iI 0))]) rfl (Nat.le_of_ble_eq_true rfl) dX3_clear_30 rfl ?_
        have L31 : ∀ (fu : Nat) (j : Int), (0 ≤ j ∧ j ≤ 64) → (64 - j).toNat ≤ fu → G X 31 [(0, .ref 63), (1, .int (iI j))] [] (clP M 8 j) := by
          intro fu
          induction fu using Nat.strongRecOn with
          | _ fu ih31 =>
            intro j hj hk31
            refine g_iload_n cx (pc2 := 32) 1 rfl dX3_clear_31 rfl ?_
            refine g_aload_n cx (pc2 := 33) 0 rfl dX3_clear_32 rfl ?_
            refine g_get cx (pc2 := 36) (ci := 3) (k0 := 63) (j := 1) (v := .ref 65) rfl iwX3 rfl (lt_lit hn (Nat.le_of_ble_eq_true rfl)) rfl (Nat.le_of_ble_eq_true rfl) kf_X3_15 rfl rfl dX3_clear_33 rfl ?_
            refine g_alen cx (pc2 := 37) (k0 := 65) (v := 64) rfl (by decide) (lt_lit hn (Nat.le_of_ble_eq_true rfl)) rfl dX3_clear_36 rfl ?_
            refine g_icmp_ge cx (pc2 := 40) (tgt := 53) ⟨(by first | assumption | omega), ⟨by decide, by decide⟩⟩ dX3_clear_37 (by decide) rfl (fun h_2 => ?_) (fun h_2 => ?_)
            · skip
              exact g_vret cx qx dX3_clear_53 ⟨rfl, by rw [show j = 64 by omega]; rfl⟩
            · skip
              refine g_aload_n cx (pc2 := 41) 0 rfl dX3_clear_40 rfl ?_
              refine g_get cx (pc2 := 44) (ci := 3) (k0 := 63) (j := 1) (v := .ref 65) rfl iwX3 rfl (lt_lit hn (Nat.le_of_ble_eq_true rfl)) rfl (Nat.le_of_ble_eq_true rfl) kf_X3_15 rfl rfl dX3_clear_41 rfl ?_
              refine g_iload_n cx (pc2 := 45) 1 rfl dX3_clear_44 rfl ?_
              refine g_iconst cx (pc2 := 46) dX3_clear_45 rfl ?_
              refine g_iast cx (pc2 := 47) (k0 := 65) rfl (lt_lit hn (Nat.le_of_ble_eq_true rfl)) (by first | assumption | omega) (by first | assumption | omega) (Nat.le_of_ble_eq_true rfl) dX3_clear_46 rfl ?_
              refine g_iinc cx (pc2 := 50) 1 rfl (lv2 := [(0, .ref 63), (1, .int (iI (j + 1)))]) rfl (Nat.le_of_ble_eq_true rfl) dX3_clear_47 rfl ?_
              refine g_goto cx (tgt := 31) dX3_clear_50 (by decide) ?_
              refine g_M (M2 := (clP M 8 (j + 1))) (by exact clP_o hj.1) ?_
              exact ih31 ((64 - (j + 1)).toNat) (by omega) (j + 1) (by first | assumption | omega) (Nat.le_refl _)
        refine g_M (M2 := (clP M 8 0)) (by rw [show i = 8 by omega]) ?_
        exact L31 _ 0 (by first | assumption | omega) (Nat.le_refl _)
      · skip
        refine g_aload_n cx (pc2 := 17) 0 rfl dX3_clear_16 rfl ?_
        refine g_get cx (pc2 := 20) (ci := 3) (k0 := 63) (j := 0) (v := .ref 64) rfl iwX3 rfl (lt_lit hn (Nat.le_of_ble_eq_true rfl)) rfl (Nat.le_of_ble_eq_true rfl) kf_X3_9 rfl rfl dX3_clear_17 rfl ?_
        refine g_iload_n cx (pc2 := 21) 1 rfl dX3_clear_20 rfl ?_
        refine g_iconst cx (pc2 := 22) dX3_clear_21 rfl ?_
        refine g_iast cx (pc2 := 23) (k0 := 64) rfl (lt_lit hn (Nat.le_of_ble_eq_true rfl)) (by first | assumption | omega) (by first | assumption | omega) (Nat.le_of_ble_eq_true rfl) dX3_clear_22 rfl ?_
        refine g_iinc cx (pc2 := 26) 1 rfl (lv2 := [(0, .ref 63), (1, .int (iI (i + 1)))]) rfl (Nat.le_of_ble_eq_true rfl) dX3_clear_23 rfl ?_
        refine g_goto cx (tgt := 7) dX3_clear_26 (by decide) ?_
        refine g_M (M2 := (clP M (i + 1) 0)) (by exact clP_h hi.1) ?_
        exact ih7 ((8 - (i + 1)).toNat) (by omega) (i + 1) (by first | assumption | omega) (Nat.le_refl _)
  refine g_M (M2 := (clP M 0 0)) (by exact clP_0 M) ?_
  exact L7 _ 0 (by first | assumption | omega) (Nat.le_refl _)
set_option maxHeartbeats 4000000 in
set_option maxRecDepth 100000 in
theorem c_X3_owedInAllTo {n : Nat} (hn : NN n) {M : Mm} (k : Int) (hk : H8 k) : CT yX3_owedInAllTo cX3_owedInAllTo 4 (some .int) ({ frames := 2, cells := 0, slots := 0, locals := 42 }) n [.ref 63, .int (iI k)] M (rI (smZ (fun j => M 65 ((j : Int) * 8 + k).toNat) 8) M) := by
  refine CT.of (lv0 := [(0, .ref 63), (1, .int (iI k))]) (by decide +kernel) hn (fun _ => rfl) (fun _ => Nat.le_of_ble_eq_true rfl) (fun X cx cs qx => ?_)
  have cx : Cx X cX3_owedInAllTo RX3 ({ frames := 2, cells := 0, slots := 0, locals := 42 }) 4 n := cx
  refine g_iconst cx (pc2 := 1) dX3_owedInAllTo_0 rfl ?_
  refine g_istore_n cx (pc2 := 2) (lv2 := [(0, .ref 63), (1, .int (iI k)), (2, .int (iI 0))]) rfl (Nat.le_of_ble_eq_true rfl) dX3_owedInAllTo_1 rfl ?_
  refine g_iconst cx (pc2 := 3) dX3_owedInAllTo_2 rfl ?_
  refine g_istore_n cx (pc2 := 4) (lv2 := [(0, .ref 63), (1, .int (iI k)), (2, .int (iI 0)), (3, .int (iI 0))]) rfl (Nat.le_of_ble_eq_true rfl) dX3_owedInAllTo_3 rfl ?_
  have L4 : ∀ (fu : Nat) (i : Int) (s : Int), (0 ≤ i ∧ i ≤ 8) → (s = smZ (fun j => M 65 ((j : Int) * 8 + k).toNat) i.toNat) → (8 - i).toNat ≤ fu → G X 4 [(0, .ref 63), (1, .int (iI k)), (2, .int (iI s)), (3, .int (iI i))] [] M := by
    intro fu
    induction fu using Nat.strongRecOn with
    | _ fu ih4 =>
      intro i s hi hs hk4
      refine g_iload_n cx (pc2 := 5) 3 rfl dX3_owedInAllTo_4 rfl ?_
      refine g_bipush cx (pc2 := 7) ⟨by decide, by decide⟩ dX3_owedInAllTo_5 rfl ?_
      refine g_icmp_ge cx (pc2 := 10) (tgt := 25) ⟨(by first | assumption | omega), ⟨by decide, by decide⟩⟩ dX3_owedInAllTo_7 (by decide) rfl (fun h_1 => ?_) (fun h_1 => ?_)
      · skip
        refine g_iload_n cx (pc2 := 26) 2 rfl dX3_owedInAllTo_25 rfl ?_
        exact g_iret cx qx dX3_owedInAllTo_26 ⟨congrArg (fun q => some (Value.int (iI q))) (by rw [hs, show i = 8 by omega]; rfl), by rfl⟩
      · skip
        refine g_iload_n cx (pc2 := 11) 2 rfl dX3_owedInAllTo_10 rfl ?_
        refine g_aload_n cx (pc2 := 12) 0 rfl dX3_owedInAllTo_11 rfl ?_
        refine g_iload_n cx (pc2 := 13) 3 rfl dX3_owedInAllTo_12 rfl ?_
        refine g_iload_n cx (pc2 := 14) 1 rfl dX3_owedInAllTo_13 rfl ?_
        refine g_callV cx (pc2 := 17) (st := [.int (iI s)]) (As := [.int (iI i), .int (iI k)]) (k0 := 63) (ci := 3) (c_X3_owedBy (M := M) hn i k (by first | assumption | omega) (by first | assumption | omega)) wM_X3_owedBy wV_X3_owedBy kl_X3_38 rfl (lt_lit hn (Nat.le_of_ble_eq_true rfl)) rfl ⟨rfl, rfl, Nat.le_of_ble_eq_true rfl, Nat.le_of_ble_eq_true rfl⟩ (Nat.le_of_ble_eq_true rfl) cs rfl rfl dX3_owedInAllTo_14 rfl ?_
        rintro _ _ ⟨rfl, rfl⟩
        refine g_iadd cx (pc2 := 18) dX3_owedInAllTo_17 rfl ?_
        refine g_istore_n cx (pc2 := 19) (lv2 := [(0, .ref 63), (1, .int (iI k)), (2, .int (iI (s + (M 65 (i * 8 + k).toNat)))), (3, .int (iI i))]) rfl (Nat.le_of_ble_eq_true rfl) dX3_owedInAllTo_18 rfl ?_
        refine g_iinc cx (pc2 := 22) 3 rfl (lv2 := [(0, .ref 63), (1, .int (iI k)), (2, .int (iI (s + (M 65 (i * 8 + k).toNat)))), (3, .int (iI (i + 1)))]) rfl (Nat.le_of_ble_eq_true rfl) dX3_owedInAllTo_19 rfl ?_
        refine g_goto cx (tgt := 4) dX3_owedInAllTo_22 (by decide) ?_
        exact ih4 ((8 - (i + 1)).toNat) (by omega) (i + 1) (s + (M 65 (i * 8 + k).toNat)) (by first | assumption | omega) (by rw [show (i + 1).toNat = i.toNat + 1 by omega, smZ, hs, Int.toNat_of_nonneg hi.1]) (Nat.le_refl _)
  exact L4 _ 0 0 (by first | assumption | omega) (by rfl) (Nat.le_refl _)
set_option maxHeartbeats 4000000 in
set_option maxRecDepth 100000 in
theorem c_X3_isFull {n : Nat} (hn : NN n) {M : Mm} (hd : DLW M) : CT yX3_isFull cX3_isFull 1 (some .boolean) ({ frames := 0, cells := 0, slots := 0, locals := 0 }) n [.ref 63] M (rI (b2 (16 ≤ M 63 6)) M) := by
  refine CT.of (lv0 := [(0, .ref 63)]) (by decide +kernel) hn (fun _ => rfl) (fun _ => Nat.le_of_ble_eq_true rfl) (fun X cx cs qx => ?_)
  have cx : Cx X cX3_isFull RX3 ({ frames := 0, cells := 0, slots := 0, locals := 0 }) 1 n := cx
  refine g_aload_n cx (pc2 := 1) 0 rfl dX3_isFull_0 rfl ?_
  refine g_get cx (pc2 := 4) (ci := 3) (k0 := 63) (j := 6) (v := .int (iI (M 63 6))) rfl iwX3 rfl (lt_lit hn (Nat.le_of_ble_eq_true rfl)) rfl (Nat.le_of_ble_eq_true rfl) kf_X3_30 rfl rfl dX3_isFull_1 rfl ?_
  refine g_bipush cx (pc2 := 6) ⟨by decide, by decide⟩ dX3_isFull_4 rfl ?_
  refine g_icmp_lt cx (pc2 := 9) (tgt := 13) ⟨(by first | assumption | omega), ⟨by decide, by decide⟩⟩ dX3_isFull_6 (by decide) rfl (fun h_1 => ?_) (fun h_1 => ?_)
  · skip
    refine g_iconst cx (pc2 := 14) dX3_isFull_13 rfl ?_
    exact g_zret cx (Or.inl rfl) qx dX3_isFull_14 ⟨rb_f (by first | assumption | omega), by rfl⟩
  · skip
    refine g_iconst cx (pc2 := 10) dX3_isFull_9 rfl ?_
    refine g_goto cx (tgt := 14) dX3_isFull_10 (by decide) ?_
    exact g_zret cx (Or.inr rfl) qx dX3_isFull_14 ⟨rb_t (by first | assumption | omega), by rfl⟩
set_option maxHeartbeats 4000000 in
set_option maxRecDepth 100000 in
theorem c_X3_move {n : Nat} (hn : NN n) {M : Mm} (h k q : Int) (hh : H8 h) (hk : H8 k) : CT yX3_move cX3_move 4 none ({ frames := 2, cells := 0, slots := 0, locals := 42 }) n [.ref 63, .int (iI h), .int (iI k), .int (iI q)] M (rV (mvM M h k q)) := by
  refine CT.of (lv0 := [(0, .ref 63), (1, .int (iI h)), (2, .int (iI k)), (3, .int (iI q))]) (by decide +kernel) hn (fun _ => rfl) (fun _ => Nat.le_of_ble_eq_true rfl) (fun X cx cs qx => ?_)
  have cx : Cx X cX3_move RX3 ({ frames := 2, cells := 0, slots := 0, locals := 42 }) 4 n := cx
  refine g_aload_n cx (pc2 := 1) 0 rfl dX3_move_0 rfl ?_
  refine g_iload_n cx (pc2 := 2) 1 rfl dX3_move_1 rfl ?_
  refine g_aload_n cx (pc2 := 3) 0 rfl dX3_move_2 rfl ?_
  refine g_iload_n cx (pc2 := 4) 1 rfl dX3_move_3 rfl ?_
  refine g_callV cx (pc2 := 7) (st := [.int (iI h), .ref 63]) (As := [.int (iI h)]) (k0 := 63) (ci := 3) (c_X3_hoursOf (M := M) hn h (by first | assumption | omega)) wM_X3_hoursOf wV_X3_hoursOf kl_X3_42 rfl (lt_lit hn (Nat.le_of_ble_eq_true rfl)) rfl ⟨rfl, rfl, Nat.le_of_ble_eq_true rfl, Nat.le_of_ble_eq_true rfl⟩ (Nat.le_of_ble_eq_true rfl) cs rfl rfl dX3_move_4 rfl ?_
  rintro _ _ ⟨rfl, rfl⟩
  refine g_iload_n cx (pc2 := 8) 3 rfl dX3_move_7 rfl ?_
  refine g_isub cx (pc2 := 9) dX3_move_8 rfl ?_
  refine g_callV cx (pc2 := 12) (st := []) (As := [.int (iI h), .int (iI ((M 64 h.toNat) - q))]) (k0 := 63) (ci := 3) (c_X3_setHours (M := M) hn h ((M 64 h.toNat) - q) (by first | assumption | omega)) wM_X3_setHours wV_X3_setHours kl_X3_50 rfl (lt_lit hn (Nat.le_of_ble_eq_true rfl)) rfl ⟨rfl, rfl, Nat.le_of_ble_eq_true rfl, Nat.le_of_ble_eq_true rfl⟩ (Nat.le_of_ble_eq_true rfl) cs rfl rfl dX3_move_9 rfl ?_
  rintro _ _ ⟨rfl, rfl⟩
  refine g_aload_n cx (pc2 := 13) 0 rfl dX3_move_12 rfl ?_
  refine g_iload_n cx (pc2 := 14) 2 rfl dX3_move_13 rfl ?_
  refine g_aload_n cx (pc2 := 15) 0 rfl dX3_move_14 rfl ?_
  refine g_iload_n cx (pc2 := 16) 2 rfl dX3_move_15 rfl ?_
  refine g_callV cx (pc2 := 19) (st := [.int (iI k), .ref 63]) (As := [.int (iI k)]) (k0 := 63) (ci := 3) (c_X3_hoursOf (M := (stM M 64 h.toNat ((M 64 h.toNat) - q))) hn k (by first | assumption | omega)) wM_X3_hoursOf wV_X3_hoursOf kl_X3_42 rfl (lt_lit hn (Nat.le_of_ble_eq_true rfl)) rfl ⟨rfl, rfl, Nat.le_of_ble_eq_true rfl, Nat.le_of_ble_eq_true rfl⟩ (Nat.le_of_ble_eq_true rfl) cs rfl rfl dX3_move_16 rfl ?_
  rintro _ _ ⟨rfl, rfl⟩
  refine g_iload_n cx (pc2 := 20) 3 rfl dX3_move_19 rfl ?_
  refine g_iadd cx (pc2 := 21) dX3_move_20 rfl ?_
  refine g_callV cx (pc2 := 24) (st := []) (As := [.int (iI k), .int (iI (((stM M 64 h.toNat ((M 64 h.toNat) - q)) 64 k.toNat) + q))]) (k0 := 63) (ci := 3) (c_X3_setHours (M := (stM M 64 h.toNat ((M 64 h.toNat) - q))) hn k (((stM M 64 h.toNat ((M 64 h.toNat) - q)) 64 k.toNat) + q) (by first | assumption | omega)) wM_X3_setHours wV_X3_setHours kl_X3_50 rfl (lt_lit hn (Nat.le_of_ble_eq_true rfl)) rfl ⟨rfl, rfl, Nat.le_of_ble_eq_true rfl, Nat.le_of_ble_eq_true rfl⟩ (Nat.le_of_ble_eq_true rfl) cs rfl rfl dX3_move_21 rfl ?_
  rintro _ _ ⟨rfl, rfl⟩
  exact g_vret cx qx dX3_move_24 ⟨rfl, by rfl⟩
set_option maxHeartbeats 4000000 in
set_option maxRecDepth 100000 in
theorem c_X3_settle {n : Nat} (hn : NN n) {M : Mm} (kd h k q : Int) (hkd : 0 ≤ kd ∧ kd ≤ 4) (hh : H8 h) (hk : H8 k) : CT yX3_settle cX3_settle 5 none ({ frames := 3, cells := 0, slots := 0, locals := 65 }) n [.ref 63, .int (iI kd), .int (iI h), .int (iI k), .int (iI q)] M (rV (seM M kd h k q)) := by
  refine CT.of (lv0 := [(0, .ref 63), (1, .int (iI kd)), (2, .int (iI h)), (3, .int (iI k)), (4, .int (iI q))]) (by decide +kernel) hn (fun _ => rfl) (fun _ => Nat.le_of_ble_eq_true rfl) (fun X cx cs qx => ?_)
  have cx : Cx X cX3_settle RX3 ({ frames := 3, cells := 0, slots := 0, locals := 65 }) 5 n := cx
  refine g_iload_n cx (pc2 := 1) 1 rfl dX3_settle_0 rfl ?_
  rcases (show (kd < 0 ∨ 3 < kd) ∨ kd = 0 ∨ kd = 1 ∨ kd = 2 ∨ kd = 3 from by omega) with h_1 | h_1 | h_1 | h_1 | h_1
  · skip
    refine g_swOut cx (tgt := 113) (by first | assumption | omega) dX3_settle_1 h_1 (by decide) ?_
    refine g_aload_n cx (pc2 := 114) 0 rfl dX3_settle_113 rfl ?_
    refine g_iload_n cx (pc2 := 115) 2 rfl dX3_settle_114 rfl ?_
    refine g_iload_n cx (pc2 := 116) 3 rfl dX3_settle_115 rfl ?_
    refine g_iload cx (pc2 := 118) 4 rfl dX3_settle_116 rfl ?_
    refine g_callV cx (pc2 := 121) (st := []) (As := [.int (iI h), .int (iI k), .int (iI q)]) (k0 := 63) (ci := 3) (c_X3_move (M := M) hn h k q (by first | assumption | omega) (by first | assumption | omega)) wM_X3_move wV_X3_move kl_X3_54 rfl (lt_lit hn (Nat.le_of_ble_eq_true rfl)) rfl ⟨rfl, rfl, Nat.le_of_ble_eq_true rfl, Nat.le_of_ble_eq_true rfl⟩ (Nat.le_of_ble_eq_true rfl) cs rfl rfl dX3_settle_118 rfl ?_
    rintro _ _ ⟨rfl, rfl⟩
    refine g_aload_n cx (pc2 := 122) 0 rfl dX3_settle_121 rfl ?_
    refine g_iload_n cx (pc2 := 123) 2 rfl dX3_settle_122 rfl ?_
    refine g_iload_n cx (pc2 := 124) 3 rfl dX3_settle_123 rfl ?_
    refine g_aload_n cx (pc2 := 125) 0 rfl dX3_settle_124 rfl ?_
    refine g_iload_n cx (pc2 := 126) 2 rfl dX3_settle_125 rfl ?_
    refine g_iload_n cx (pc2 := 127) 3 rfl dX3_settle_126 rfl ?_
    refine g_callV cx (pc2 := 130) (st := [.int (iI k), .int (iI h), .ref 63]) (As := [.int (iI h), .int (iI k)]) (k0 := 63) (ci := 3) (c_X3_owedBy (M := (mvM M h k q)) hn h k (by first | assumption | omega) (by first | assumption | omega)) wM_X3_owedBy wV_X3_owedBy kl_X3_38 rfl (lt_lit hn (Nat.le_of_ble_eq_true rfl)) rfl ⟨rfl, rfl, Nat.le_of_ble_eq_true rfl, Nat.le_of_ble_eq_true rfl⟩ (Nat.le_of_ble_eq_true rfl) cs rfl rfl dX3_settle_127 rfl ?_
    rintro _ _ ⟨rfl, rfl⟩
    refine g_iload cx (pc2 := 132) 4 rfl dX3_settle_130 rfl ?_
    refine g_isub cx (pc2 := 133) dX3_settle_132 rfl ?_
    refine g_callV cx (pc2 := 136) (st := []) (As := [.int (iI h), .int (iI k), .int (iI (((mvM M h k q) 65 (h * 8 + k).toNat) - q))]) (k0 := 63) (ci := 3) (c_X3_setOwed (M := (mvM M h k q)) hn h k (((mvM M h k q) 65 (h * 8 + k).toNat) - q) (by first | assumption | omega) (by first | assumption | omega)) wM_X3_setOwed wV_X3_setOwed kl_X3_58 rfl (lt_lit hn (Nat.le_of_ble_eq_true rfl)) rfl ⟨rfl, rfl, Nat.le_of_ble_eq_true rfl, Nat.le_of_ble_eq_true rfl⟩ (Nat.le_of_ble_eq_true rfl) cs rfl rfl dX3_settle_133 rfl ?_
    rintro _ _ ⟨rfl, rfl⟩
    exact g_vret cx qx dX3_settle_136 ⟨rfl, by unfold seM; first | (rw [if_pos (by assumption)]; done) | (rw [if_neg (by omega), if_pos (by assumption)]; rfl) | (rw [if_neg (by omega), if_neg (by omega), if_pos (by assumption)]; done) | (rw [if_neg (by omega), if_neg (by omega), if_neg (by omega), if_pos (by assumption)]; rfl) | (rw [if_neg (by omega), if_neg (by omega), if_neg (by omega), if_neg (by omega)]; unfold oaM; rw [Int.sub_eq_add_neg])⟩
  · skip
    refine g_swIn cx (tgt := 32) (by first | assumption | omega) dX3_settle_1 (by omega) (by omega) (by rw [h_1]; rfl) (by decide) ?_
    refine g_aload_n cx (pc2 := 33) 0 rfl dX3_settle_32 rfl ?_
    refine g_iload_n cx (pc2 := 34) 2 rfl dX3_settle_33 rfl ?_
    refine g_aload_n cx (pc2 := 35) 0 rfl dX3_settle_34 rfl ?_
    refine g_iload_n cx (pc2 := 36) 2 rfl dX3_settle_35 rfl ?_
    refine g_callV cx (pc2 := 39) (st := [.int (iI h), .ref 63]) (As := [.int (iI h)]) (k0 := 63) (ci := 3) (c_X3_hoursOf (M := M) hn h (by first | assumption | omega)) wM_X3_hoursOf wV_X3_hoursOf kl_X3_42 rfl (lt_lit hn (Nat.le_of_ble_eq_true rfl)) rfl ⟨rfl, rfl, Nat.le_of_ble_eq_true rfl, Nat.le_of_ble_eq_true rfl⟩ (Nat.le_of_ble_eq_true rfl) cs rfl rfl dX3_settle_36 rfl ?_
    rintro _ _ ⟨rfl, rfl⟩
    refine g_iload cx (pc2 := 41) 4 rfl dX3_settle_39 rfl ?_
    refine g_iadd cx (pc2 := 42) dX3_settle_41 rfl ?_
    refine g_callV cx (pc2 := 45) (st := []) (As := [.int (iI h), .int (iI ((M 64 h.toNat) + q))]) (k0 := 63) (ci := 3) (c_X3_setHours (M := M) hn h ((M 64 h.toNat) + q) (by first | assumption | omega)) wM_X3_setHours wV_X3_setHours kl_X3_50 rfl (lt_lit hn (Nat.le_of_ble_eq_true rfl)) rfl ⟨rfl, rfl, Nat.le_of_ble_eq_true rfl, Nat.le_of_ble_eq_true rfl⟩ (Nat.le_of_ble_eq_true rfl) cs rfl rfl dX3_settle_42 rfl ?_
    rintro _ _ ⟨rfl, rfl⟩
    refine g_goto cx (tgt := 136) dX3_settle_45 (by decide) ?_
    exact g_vret cx qx dX3_settle_136 ⟨rfl, by unfold seM; first | (rw [if_pos (by assumption)]; done) | (rw [if_neg (by omega), if_pos (by assumption)]; rfl) | (rw [if_neg (by omega), if_neg (by omega), if_pos (by assumption)]; done) | (rw [if_neg (by omega), if_neg (by omega), if_neg (by omega), if_pos (by assumption)]; rfl) | (rw [if_neg (by omega), if_neg (by omega), if_neg (by omega), if_neg (by omega)]; unfold oaM; rw [Int.sub_eq_add_neg])⟩
  · skip
    refine g_swIn cx (tgt := 48) (by first | assumption | omega) dX3_settle_1 (by omega) (by omega) (by rw [h_1]; rfl) (by decide) ?_
    refine g_aload_n cx (pc2 := 49) 0 rfl dX3_settle_48 rfl ?_
    refine g_iload_n cx (pc2 := 50) 2 rfl dX3_settle_49 rfl ?_
    refine g_iload_n cx (pc2 := 51) 3 rfl dX3_settle_50 rfl ?_
    refine g_iload cx (pc2 := 53) 4 rfl dX3_settle_51 rfl ?_
    refine g_callV cx (pc2 := 56) (st := []) (As := [.int (iI h), .int (iI k), .int (iI q)]) (k0 := 63) (ci := 3) (c_X3_move (M := M) hn h k q (by first | assumption | omega) (by first | assumption | omega)) wM_X3_move wV_X3_move kl_X3_54 rfl (lt_lit hn (Nat.le_of_ble_eq_true rfl)) rfl ⟨rfl, rfl, Nat.le_of_ble_eq_true rfl, Nat.le_of_ble_eq_true rfl⟩ (Nat.le_of_ble_eq_true rfl) cs rfl rfl dX3_settle_53 rfl ?_
    rintro _ _ ⟨rfl, rfl⟩
    refine g_aload_n cx (pc2 := 57) 0 rfl dX3_settle_56 rfl ?_
    refine g_iload_n cx (pc2 := 58) 3 rfl dX3_settle_57 rfl ?_
    refine g_iload_n cx (pc2 := 59) 2 rfl dX3_settle_58 rfl ?_
    refine g_aload_n cx (pc2 := 60) 0 rfl dX3_settle_59 rfl ?_
    refine g_iload_n cx (pc2 := 61) 3 rfl dX3_settle_60 rfl ?_
    refine g_iload_n cx (pc2 := 62) 2 rfl dX3_settle_61 rfl ?_
    refine g_callV cx (pc2 := 65) (st := [.int (iI h), .int (iI k), .ref 63]) (As := [.int (iI k), .int (iI h)]) (k0 := 63) (ci := 3) (c_X3_owedBy (M := (mvM M h k q)) hn k h (by first | assumption | omega) (by first | assumption | omega)) wM_X3_owedBy wV_X3_owedBy kl_X3_38 rfl (lt_lit hn (Nat.le_of_ble_eq_true rfl)) rfl ⟨rfl, rfl, Nat.le_of_ble_eq_true rfl, Nat.le_of_ble_eq_true rfl⟩ (Nat.le_of_ble_eq_true rfl) cs rfl rfl dX3_settle_62 rfl ?_
    rintro _ _ ⟨rfl, rfl⟩
    refine g_iload cx (pc2 := 67) 4 rfl dX3_settle_65 rfl ?_
    refine g_iadd cx (pc2 := 68) dX3_settle_67 rfl ?_
    refine g_callV cx (pc2 := 71) (st := []) (As := [.int (iI k), .int (iI h), .int (iI (((mvM M h k q) 65 (k * 8 + h).toNat) + q))]) (k0 := 63) (ci := 3) (c_X3_setOwed (M := (mvM M h k q)) hn k h (((mvM M h k q) 65 (k * 8 + h).toNat) + q) (by first | assumption | omega) (by first | assumption | omega)) wM_X3_setOwed wV_X3_setOwed kl_X3_58 rfl (lt_lit hn (Nat.le_of_ble_eq_true rfl)) rfl ⟨rfl, rfl, Nat.le_of_ble_eq_true rfl, Nat.le_of_ble_eq_true rfl⟩ (Nat.le_of_ble_eq_true rfl) cs rfl rfl dX3_settle_68 rfl ?_
    rintro _ _ ⟨rfl, rfl⟩
    refine g_goto cx (tgt := 136) dX3_settle_71 (by decide) ?_
    exact g_vret cx qx dX3_settle_136 ⟨rfl, by unfold seM; first | (rw [if_pos (by assumption)]; done) | (rw [if_neg (by omega), if_pos (by assumption)]; rfl) | (rw [if_neg (by omega), if_neg (by omega), if_pos (by assumption)]; done) | (rw [if_neg (by omega), if_neg (by omega), if_neg (by omega), if_pos (by assumption)]; rfl) | (rw [if_neg (by omega), if_neg (by omega), if_neg (by omega), if_neg (by omega)]; unfold oaM; rw [Int.sub_eq_add_neg])⟩
  · skip
    refine g_swIn cx (tgt := 74) (by first | assumption | omega) dX3_settle_1 (by omega) (by omega) (by rw [h_1]; rfl) (by decide) ?_
    refine g_aload_n cx (pc2 := 75) 0 rfl dX3_settle_74 rfl ?_
    refine g_iload_n cx (pc2 := 76) 2 rfl dX3_settle_75 rfl ?_
    refine g_iload_n cx (pc2 := 77) 3 rfl dX3_settle_76 rfl ?_
    refine g_iload cx (pc2 := 79) 4 rfl dX3_settle_77 rfl ?_
    refine g_callV cx (pc2 := 82) (st := []) (As := [.int (iI h), .int (iI k), .int (iI q)]) (k0 := 63) (ci := 3) (c_X3_move (M := M) hn h k q (by first | assumption | omega) (by first | assumption | omega)) wM_X3_move wV_X3_move kl_X3_54 rfl (lt_lit hn (Nat.le_of_ble_eq_true rfl)) rfl ⟨rfl, rfl, Nat.le_of_ble_eq_true rfl, Nat.le_of_ble_eq_true rfl⟩ (Nat.le_of_ble_eq_true rfl) cs rfl rfl dX3_settle_79 rfl ?_
    rintro _ _ ⟨rfl, rfl⟩
    refine g_goto cx (tgt := 136) dX3_settle_82 (by decide) ?_
    exact g_vret cx qx dX3_settle_136 ⟨rfl, by unfold seM; first | (rw [if_pos (by assumption)]; done) | (rw [if_neg (by omega), if_pos (by assumption)]; rfl) | (rw [if_neg (by omega), if_neg (by omega), if_pos (by assumption)]; done) | (rw [if_neg (by omega), if_neg (by omega), if_neg (by omega), if_pos (by assumption)]; rfl) | (rw [if_neg (by omega), if_neg (by omega), if_neg (by omega), if_neg (by omega)]; unfold oaM; rw [Int.sub_eq_add_neg])⟩
  · skip
    refine g_swIn cx (tgt := 85) (by first | assumption | omega) dX3_settle_1 (by omega) (by omega) (by rw [h_1]; rfl) (by decide) ?_
    refine g_aload_n cx (pc2 := 86) 0 rfl dX3_settle_85 rfl ?_
    refine g_iload_n cx (pc2 := 87) 3 rfl dX3_settle_86 rfl ?_
    refine g_iload_n cx (pc2 := 88) 2 rfl dX3_settle_87 rfl ?_
    refine g_iload cx (pc2 := 90) 4 rfl dX3_settle_88 rfl ?_
    refine g_callV cx (pc2 := 93) (st := []) (As := [.int (iI k), .int (iI h), .int (iI q)]) (k0 := 63) (ci := 3) (c_X3_move (M := M) hn k h q (by first | assumption | omega) (by first | assumption | omega)) wM_X3_move wV_X3_move kl_X3_54 rfl (lt_lit hn (Nat.le_of_ble_eq_true rfl)) rfl ⟨rfl, rfl, Nat.le_of_ble_eq_true rfl, Nat.le_of_ble_eq_true rfl⟩ (Nat.le_of_ble_eq_true rfl) cs rfl rfl dX3_settle_90 rfl ?_
    rintro _ _ ⟨rfl, rfl⟩
    refine g_aload_n cx (pc2 := 94) 0 rfl dX3_settle_93 rfl ?_
    refine g_iload_n cx (pc2 := 95) 2 rfl dX3_settle_94 rfl ?_
    refine g_iload_n cx (pc2 := 96) 3 rfl dX3_settle_95 rfl ?_
    refine g_aload_n cx (pc2 := 97) 0 rfl dX3_settle_96 rfl ?_
    refine g_iload_n cx (pc2 := 98) 2 rfl dX3_settle_97 rfl ?_
    refine g_iload_n cx (pc2 := 99) 3 rfl dX3_settle_98 rfl ?_
    refine g_callV cx (pc2 := 102) (st := [.int (iI k), .int (iI h), .ref 63]) (As := [.int (iI h), .int (iI k)]) (k0 := 63) (ci := 3) (c_X3_owedBy (M := (mvM M k h q)) hn h k (by first | assumption | omega) (by first | assumption | omega)) wM_X3_owedBy wV_X3_owedBy kl_X3_38 rfl (lt_lit hn (Nat.le_of_ble_eq_true rfl)) rfl ⟨rfl, rfl, Nat.le_of_ble_eq_true rfl, Nat.le_of_ble_eq_true rfl⟩ (Nat.le_of_ble_eq_true rfl) cs rfl rfl dX3_settle_99 rfl ?_
    rintro _ _ ⟨rfl, rfl⟩
    refine g_iconst cx (pc2 := 103) dX3_settle_102 rfl ?_
    refine g_iload cx (pc2 := 105) 4 rfl dX3_settle_103 rfl ?_
    refine g_imul cx (pc2 := 106) dX3_settle_105 rfl ?_
    refine g_iadd cx (pc2 := 107) dX3_settle_106 rfl ?_
    refine g_callV cx (pc2 := 110) (st := []) (As := [.int (iI h), .int (iI k), .int (iI (((mvM M k h q) 65 (h * 8 + k).toNat) + (2 * q)))]) (k0 := 63) (ci := 3) (c_X3_setOwed (M := (mvM M k h q)) hn h k (((mvM M k h q) 65 (h * 8 + k).toNat) + (2 * q)) (by first | assumption | omega) (by first | assumption | omega)) wM_X3_setOwed wV_X3_setOwed kl_X3_58 rfl (lt_lit hn (Nat.le_of_ble_eq_true rfl)) rfl ⟨rfl, rfl, Nat.le_of_ble_eq_true rfl, Nat.le_of_ble_eq_true rfl⟩ (Nat.le_of_ble_eq_true rfl) cs rfl rfl dX3_settle_107 rfl ?_
    rintro _ _ ⟨rfl, rfl⟩
    refine g_goto cx (tgt := 136) dX3_settle_110 (by decide) ?_
    exact g_vret cx qx dX3_settle_136 ⟨rfl, by unfold seM; first | (rw [if_pos (by assumption)]; done) | (rw [if_neg (by omega), if_pos (by assumption)]; rfl) | (rw [if_neg (by omega), if_neg (by omega), if_pos (by assumption)]; done) | (rw [if_neg (by omega), if_neg (by omega), if_neg (by omega), if_pos (by assumption)]; rfl) | (rw [if_neg (by omega), if_neg (by omega), if_neg (by omega), if_neg (by omega)]; unfold oaM; rw [Int.sub_eq_add_neg])⟩
set_option maxHeartbeats 4000000 in
set_option maxRecDepth 100000 in
theorem c_X3_enter {n : Nat} (hn : NN n) {M : Mm} (hd : DLW M) (kd h k q : Int) (hkd : 0 ≤ kd ∧ kd ≤ 4) (hh : H8 h) (hk : H8 k) (hf : M 63 6 < 16) : CT yX3_enter cX3_enter 5 (some .int) ({ frames := 4, cells := 0, slots := 0, locals := 89 }) n [.ref 63, .int (iI kd), .int (iI h), .int (iI k), .int (iI q)] M (rI (M 63 6) (enM M kd h k q)) := by
  refine CT.of (lv0 := [(0, .ref 63), (1, .int (iI kd)), (2, .int (iI h)), (3, .int (iI k)), (4, .int (iI q))]) (by decide +kernel) hn (fun _ => rfl) (fun _ => Nat.le_of_ble_eq_true rfl) (fun X cx cs qx => ?_)
  have cx : Cx X cX3_enter RX3 ({ frames := 4, cells := 0, slots := 0, locals := 89 }) 5 n := cx
  refine g_aload_n cx (pc2 := 1) 0 rfl dX3_enter_0 rfl ?_
  refine g_get cx (pc2 := 4) (ci := 3) (k0 := 63) (j := 6) (v := .int (iI (M 63 6))) rfl iwX3 rfl (lt_lit hn (Nat.le_of_ble_eq_true rfl)) rfl (Nat.le_of_ble_eq_true rfl) kf_X3_30 rfl rfl dX3_enter_1 rfl ?_
  refine g_if_lt cx (pc2 := 7) (tgt := 16) (by first | assumption | omega) dX3_enter_4 (by decide) rfl (fun h_1 => ?_) (fun h_1 => ?_)
  · skip
    omega
  · skip
    refine g_aload_n cx (pc2 := 8) 0 rfl dX3_enter_7 rfl ?_
    refine g_get cx (pc2 := 11) (ci := 3) (k0 := 63) (j := 6) (v := .int (iI (M 63 6))) rfl iwX3 rfl (lt_lit hn (Nat.le_of_ble_eq_true rfl)) rfl (Nat.le_of_ble_eq_true rfl) kf_X3_30 rfl rfl dX3_enter_8 rfl ?_
    refine g_bipush cx (pc2 := 13) ⟨by decide, by decide⟩ dX3_enter_11 rfl ?_
    refine g_icmp_lt cx (pc2 := 16) (tgt := 19) ⟨(by first | assumption | omega), ⟨by decide, by decide⟩⟩ dX3_enter_13 (by decide) rfl (fun h_2 => ?_) (fun h_2 => ?_)
    · skip
      refine g_aload_n cx (pc2 := 20) 0 rfl dX3_enter_19 rfl ?_
      refine g_get cx (pc2 := 23) (ci := 3) (k0 := 63) (j := 2) (v := .ref 66) rfl iwX3 rfl (lt_lit hn (Nat.le_of_ble_eq_true rfl)) rfl (Nat.le_of_ble_eq_true rfl) kf_X3_18 rfl rfl dX3_enter_20 rfl ?_
      refine g_aload_n cx (pc2 := 24) 0 rfl dX3_enter_23 rfl ?_
      refine g_get cx (pc2 := 27) (ci := 3) (k0 := 63) (j := 6) (v := .int (iI (M 63 6))) rfl iwX3 rfl (lt_lit hn (Nat.le_of_ble_eq_true rfl)) rfl (Nat.le_of_ble_eq_true rfl) kf_X3_30 rfl rfl dX3_enter_24 rfl ?_
      refine g_iload_n cx (pc2 := 28) 1 rfl dX3_enter_27 rfl ?_
      refine g_iast cx (pc2 := 29) (k0 := 66) rfl (lt_lit hn (Nat.le_of_ble_eq_true rfl)) (by first | assumption | omega) (by first | assumption | omega) (Nat.le_of_ble_eq_true rfl) dX3_enter_28 rfl ?_
      refine g_aload_n cx (pc2 := 30) 0 rfl dX3_enter_29 rfl ?_
      refine g_get cx (pc2 := 33) (ci := 3) (k0 := 63) (j := 3) (v := .ref 67) rfl iwX3 rfl (lt_lit hn (Nat.le_of_ble_eq_true rfl)) rfl (Nat.le_of_ble_eq_true rfl) kf_X3_21 rfl rfl dX3_enter_30 rfl ?_
      refine g_aload_n cx (pc2 := 34) 0 rfl dX3_enter_33 rfl ?_
      refine g_get cx (pc2 := 37) (ci := 3) (k0 := 63) (j := 6) (v := .int (iI (M 63 6))) rfl iwX3 rfl (lt_lit hn (Nat.le_of_ble_eq_true rfl)) rfl (Nat.le_of_ble_eq_true rfl) kf_X3_30 rfl (congrArg (fun q => Value.int (iI q)) (by simp [stM])) dX3_enter_34 rfl ?_
      refine g_iload_n cx (pc2 := 38) 2 rfl dX3_enter_37 rfl ?_
      refine g_iast cx (pc2 := 39) (k0 := 67) rfl (lt_lit hn (Nat.le_of_ble_eq_true rfl)) (by first | assumption | omega) (by first | assumption | omega) (Nat.le_of_ble_eq_true rfl) dX3_enter_38 rfl ?_
      refine g_aload_n cx (pc2 := 40) 0 rfl dX3_enter_39 rfl ?_
      refine g_get cx (pc2 := 43) (ci := 3) (k0 := 63) (j := 4) (v := .ref 68) rfl iwX3 rfl (lt_lit hn (Nat.le_of_ble_eq_true rfl)) rfl (Nat.le_of_ble_eq_true rfl) kf_X3_24 rfl rfl dX3_enter_40 rfl ?_
      refine g_aload_n cx (pc2 := 44) 0 rfl dX3_enter_43 rfl ?_
      refine g_get cx (pc2 := 47) (ci := 3) (k0 := 63) (j := 6) (v := .int (iI (M 63 6))) rfl iwX3 rfl (lt_lit hn (Nat.le_of_ble_eq_true rfl)) rfl (Nat.le_of_ble_eq_true rfl) kf_X3_30 rfl (congrArg (fun q => Value.int (iI q)) (by simp [stM])) dX3_enter_44 rfl ?_
      refine g_iload_n cx (pc2 := 48) 3 rfl dX3_enter_47 rfl ?_
      refine g_iast cx (pc2 := 49) (k0 := 68) rfl (lt_lit hn (Nat.le_of_ble_eq_true rfl)) (by first | assumption | omega) (by first | assumption | omega) (Nat.le_of_ble_eq_true rfl) dX3_enter_48 rfl ?_
      refine g_aload_n cx (pc2 := 50) 0 rfl dX3_enter_49 rfl ?_
      refine g_get cx (pc2 := 53) (ci := 3) (k0 := 63) (j := 5) (v := .ref 69) rfl iwX3 rfl (lt_lit hn (Nat.le_of_ble_eq_true rfl)) rfl (Nat.le_of_ble_eq_true rfl) kf_X3_27 rfl rfl dX3_enter_50 rfl ?_
      refine g_aload_n cx (pc2 := 54) 0 rfl dX3_enter_53 rfl ?_
      refine g_get cx (pc2 := 57) (ci := 3) (k0 := 63) (j := 6) (v := .int (iI (M 63 6))) rfl iwX3 rfl (lt_lit hn (Nat.le_of_ble_eq_true rfl)) rfl (Nat.le_of_ble_eq_true rfl) kf_X3_30 rfl (congrArg (fun q => Value.int (iI q)) (by simp [stM])) dX3_enter_54 rfl ?_
      refine g_iload cx (pc2 := 59) 4 rfl dX3_enter_57 rfl ?_
      refine g_iast cx (pc2 := 60) (k0 := 69) rfl (lt_lit hn (Nat.le_of_ble_eq_true rfl)) (by first | assumption | omega) (by first | assumption | omega) (Nat.le_of_ble_eq_true rfl) dX3_enter_59 rfl ?_
      refine g_aload_n cx (pc2 := 61) 0 rfl dX3_enter_60 rfl ?_
      refine g_dup cx (pc2 := 62) rfl dX3_enter_61 rfl ?_
      refine g_get cx (pc2 := 65) (ci := 3) (k0 := 63) (j := 6) (v := .int (iI (M 63 6))) rfl iwX3 rfl (lt_lit hn (Nat.le_of_ble_eq_true rfl)) rfl (Nat.le_of_ble_eq_true rfl) kf_X3_30 rfl (congrArg (fun q => Value.int (iI q)) (by simp [stM])) dX3_enter_62 rfl ?_
      refine g_iconst cx (pc2 := 66) dX3_enter_65 rfl ?_
      refine g_iadd cx (pc2 := 67) dX3_enter_66 rfl ?_
      refine g_puti cx (pc2 := 70) (ci := 3) (k0 := 63) (j := 6) rfl iwX3 rfl (lt_lit hn (Nat.le_of_ble_eq_true rfl)) rfl (Nat.le_of_ble_eq_true rfl) kf_X3_30 rfl tyX3_ok nmX3 rfl rfl dX3_enter_67 rfl ?_
      refine g_aload_n cx (pc2 := 71) 0 rfl dX3_enter_70 rfl ?_
      refine g_iload_n cx (pc2 := 72) 1 rfl dX3_enter_71 rfl ?_
      refine g_iload_n cx (pc2 := 73) 2 rfl dX3_enter_72 rfl ?_
      refine g_iload_n cx (pc2 := 74) 3 rfl dX3_enter_73 rfl ?_
      refine g_iload cx (pc2 := 76) 4 rfl dX3_enter_74 rfl ?_
      refine g_callV cx (pc2 := 79) (st := []) (As := [.int (iI kd), .int (iI h), .int (iI k), .int (iI q)]) (k0 := 63) (ci := 3) (c_X3_settle (M := (stM (stM (stM (stM (stM M 66 ((M 63 6)).toNat kd) 67 ((M 63 6)).toNat h) 68 ((M 63 6)).toNat k) 69 ((M 63 6)).toNat q) 63 6 ((M 63 6) + 1))) hn kd h k q (by first | assumption | omega) (by first | assumption | omega) (by first | assumption | omega)) wM_X3_settle wV_X3_settle kl_X3_46 rfl (lt_lit hn (Nat.le_of_ble_eq_true rfl)) rfl ⟨rfl, rfl, Nat.le_of_ble_eq_true rfl, Nat.le_of_ble_eq_true rfl⟩ (Nat.le_of_ble_eq_true rfl) cs rfl rfl dX3_enter_76 rfl ?_
      rintro _ _ ⟨rfl, rfl⟩
      refine g_aload_n cx (pc2 := 80) 0 rfl dX3_enter_79 rfl ?_
      refine g_get cx (pc2 := 83) (ci := 3) (k0 := 63) (j := 6) (v := .int (iI ((seM (stM (stM (stM (stM (stM M 66 ((M 63 6)).toNat kd) 67 ((M 63 6)).toNat h) 68 ((M 63 6)).toNat k) 69 ((M 63 6)).toNat q) 63 6 ((M 63 6) + 1)) kd h k q) 63 6))) rfl iwX3 rfl (lt_lit hn (Nat.le_of_ble_eq_true rfl)) rfl (Nat.le_of_ble_eq_true rfl) kf_X3_30 rfl rfl dX3_enter_80 rfl ?_
      refine g_iconst cx (pc2 := 84) dX3_enter_83 rfl ?_
      refine g_isub cx (pc2 := 85) dX3_enter_84 rfl ?_
      exact g_iret cx qx dX3_enter_85 ⟨congrArg (fun q => some (Value.int (iI q))) (by rw [seM_off _ _ _ _ _ (by decide) (by decide)]; simp [stM]), by rfl⟩
    · skip
      omega
set_option maxHeartbeats 4000000 in
set_option maxRecDepth 100000 in
theorem c_X3_allows {n : Nat} (hn : NN n) {M : Mm} (kd h k q : Int) (hkd : 0 ≤ kd ∧ kd ≤ 4) (hh : H8 h) (hk : H8 k) (hq : 0 ≤ q ∧ q ≤ 1000) : CT yX3_allows cX3_allows 5 (some .boolean) ({ frames := 2, cells := 0, slots := 0, locals := 42 }) n [.ref 63, .int (iI kd), .int (iI h), .int (iI k), .int (iI q)] M (rI (b2 (kd = 0 ∨ (¬ (kd = 4 ∧ wr (M 65 (h * 8 + k).toNat) < q) ∧ q ≤ wr (M 64 (if kd = 3 then k else h).toNat)))) M) := by
  refine CT.of (lv0 := [(0, .ref 63), (1, .int (iI kd)), (2, .int (iI h)), (3, .int (iI k)), (4, .int (iI q))]) (by decide +kernel) hn (fun _ => rfl) (fun _ => Nat.le_of_ble_eq_true rfl) (fun X cx cs qx => ?_)
  have cx : Cx X cX3_allows RX3 ({ frames := 2, cells := 0, slots := 0, locals := 42 }) 5 n := cx
  have hr1 := ir_wr (M 65 (h * 8 + k).toNat)
  have hr2 := ir_wr (M 64 h.toNat)
  have hr3 := ir_wr (M 64 k.toNat)
  refine g_iload_n cx (pc2 := 1) 1 rfl dX3_allows_0 rfl ?_
  refine g_if_ne cx (pc2 := 4) (tgt := 6) (by first | assumption | omega) dX3_allows_1 (by decide) rfl (fun h_1 => ?_) (fun h_1 => ?_)
  · skip
    refine g_iload_n cx (pc2 := 7) 1 rfl dX3_allows_6 rfl ?_
    refine g_iconst cx (pc2 := 8) dX3_allows_7 rfl ?_
    refine g_icmp_ne cx (pc2 := 11) (tgt := 24) ⟨(by first | assumption | omega), ⟨by decide, by decide⟩⟩ dX3_allows_8 (by decide) rfl (fun h_2 => ?_) (fun h_2 => ?_)
    · skip
      refine g_aload_n cx (pc2 := 25) 0 rfl dX3_allows_24 rfl ?_
      refine g_iload_n cx (pc2 := 26) 1 rfl dX3_allows_25 rfl ?_
      refine g_iconst cx (pc2 := 27) dX3_allows_26 rfl ?_
      refine g_icmp_ne cx (pc2 := 30) (tgt := 34) ⟨(by first | assumption | omega), ⟨by decide, by decide⟩⟩ dX3_allows_27 (by decide) rfl (fun h_3 => ?_) (fun h_3 => ?_)
      · skip
        refine g_iload_n cx (pc2 := 35) 2 rfl dX3_allows_34 rfl ?_
        refine g_callV cx (pc2 := 38) (st := []) (As := [.int (iI h)]) (k0 := 63) (ci := 3) (c_X3_hoursOf (M := M) hn h (by first | assumption | omega)) wM_X3_hoursOf wV_X3_hoursOf kl_X3_42 rfl (lt_lit hn (Nat.le_of_ble_eq_true rfl)) rfl ⟨rfl, rfl, Nat.le_of_ble_eq_true rfl, Nat.le_of_ble_eq_true rfl⟩ (Nat.le_of_ble_eq_true rfl) cs rfl rfl dX3_allows_35 rfl ?_
        rintro _ _ ⟨rfl, rfl⟩
        refine g_rwi (y := iI (wr (M 64 h.toNat))) ((iI_wr _).symm) ?_
        refine g_iload cx (pc2 := 40) 4 rfl dX3_allows_38 rfl ?_
        refine g_icmp_lt cx (pc2 := 43) (tgt := 47) ⟨(by first | assumption | omega), (by first | assumption | omega)⟩ dX3_allows_40 (by decide) rfl (fun h_4 => ?_) (fun h_4 => ?_)
        · skip
          refine g_iconst cx (pc2 := 48) dX3_allows_47 rfl ?_
          exact g_zret cx (Or.inl rfl) qx dX3_allows_48 ⟨rb_f (by first | (rw [if_pos (by assumption)]; omega) | (rw [if_neg (by assumption)]; omega) | (split <;> omega) | omega), by rfl⟩
        · skip
          refine g_iconst cx (pc2 := 44) dX3_allows_43 rfl ?_
          refine g_goto cx (tgt := 48) dX3_allows_44 (by decide) ?_
          exact g_zret cx (Or.inr rfl) qx dX3_allows_48 ⟨rb_t (by first | (rw [if_pos (by assumption)]; omega) | (rw [if_neg (by assumption)]; omega) | (split <;> omega) | omega), by rfl⟩
      · skip
        refine g_iload_n cx (pc2 := 31) 3 rfl dX3_allows_30 rfl ?_
        refine g_goto cx (tgt := 35) dX3_allows_31 (by decide) ?_
        refine g_callV cx (pc2 := 38) (st := []) (As := [.int (iI k)]) (k0 := 63) (ci := 3) (c_X3_hoursOf (M := M) hn k (by first | assumption | omega)) wM_X3_hoursOf wV_X3_hoursOf kl_X3_42 rfl (lt_lit hn (Nat.le_of_ble_eq_true rfl)) rfl ⟨rfl, rfl, Nat.le_of_ble_eq_true rfl, Nat.le_of_ble_eq_true rfl⟩ (Nat.le_of_ble_eq_true rfl) cs rfl rfl dX3_allows_35 rfl ?_
        rintro _ _ ⟨rfl, rfl⟩
        refine g_rwi (y := iI (wr (M 64 k.toNat))) ((iI_wr _).symm) ?_
        refine g_iload cx (pc2 := 40) 4 rfl dX3_allows_38 rfl ?_
        refine g_icmp_lt cx (pc2 := 43) (tgt := 47) ⟨(by first | assumption | omega), (by first | assumption | omega)⟩ dX3_allows_40 (by decide) rfl (fun h_5 => ?_) (fun h_5 => ?_)
        · skip
          refine g_iconst cx (pc2 := 48) dX3_allows_47 rfl ?_
          exact g_zret cx (Or.inl rfl) qx dX3_allows_48 ⟨rb_f (by first | (rw [if_pos (by assumption)]; omega) | (rw [if_neg (by assumption)]; omega) | (split <;> omega) | omega), by rfl⟩
        · skip
          refine g_iconst cx (pc2 := 44) dX3_allows_43 rfl ?_
          refine g_goto cx (tgt := 48) dX3_allows_44 (by decide) ?_
          exact g_zret cx (Or.inr rfl) qx dX3_allows_48 ⟨rb_t (by first | (rw [if_pos (by assumption)]; omega) | (rw [if_neg (by assumption)]; omega) | (split <;> omega) | omega), by rfl⟩
    · skip
      refine g_aload_n cx (pc2 := 12) 0 rfl dX3_allows_11 rfl ?_
      refine g_iload_n cx (pc2 := 13) 2 rfl dX3_allows_12 rfl ?_
      refine g_iload_n cx (pc2 := 14) 3 rfl dX3_allows_13 rfl ?_
      refine g_callV cx (pc2 := 17) (st := []) (As := [.int (iI h), .int (iI k)]) (k0 := 63) (ci := 3) (c_X3_owedBy (M := M) hn h k (by first | assumption | omega) (by first | assumption | omega)) wM_X3_owedBy wV_X3_owedBy kl_X3_38 rfl (lt_lit hn (Nat.le_of_ble_eq_true rfl)) rfl ⟨rfl, rfl, Nat.le_of_ble_eq_true rfl, Nat.le_of_ble_eq_true rfl⟩ (Nat.le_of_ble_eq_true rfl) cs rfl rfl dX3_allows_14 rfl ?_
      rintro _ _ ⟨rfl, rfl⟩
      refine g_rwi (y := iI (wr (M 65 (h * 8 + k).toNat))) ((iI_wr _).symm) ?_
      refine g_iload cx (pc2 := 19) 4 rfl dX3_allows_17 rfl ?_
      refine g_icmp_ge cx (pc2 := 22) (tgt := 24) ⟨(by first | assumption | omega), (by first | assumption | omega)⟩ dX3_allows_19 (by decide) rfl (fun h_6 => ?_) (fun h_6 => ?_)
      · skip
        refine g_aload_n cx (pc2 := 25) 0 rfl dX3_allows_24 rfl ?_
        refine g_iload_n cx (pc2 := 26) 1 rfl dX3_allows_25 rfl ?_
        refine g_iconst cx (pc2 := 27) dX3_allows_26 rfl ?_
        refine g_icmp_ne cx (pc2 := 30) (tgt := 34) ⟨(by first | assumption | omega), ⟨by decide, by decide⟩⟩ dX3_allows_27 (by decide) rfl (fun h_7 => ?_) (fun h_7 => ?_)
        · skip
          refine g_iload_n cx (pc2 := 35) 2 rfl dX3_allows_34 rfl ?_
          refine g_callV cx (pc2 := 38) (st := []) (As := [.int (iI h)]) (k0 := 63) (ci := 3) (c_X3_hoursOf (M := M) hn h (by first | assumption | omega)) wM_X3_hoursOf wV_X3_hoursOf kl_X3_42 rfl (lt_lit hn (Nat.le_of_ble_eq_true rfl)) rfl ⟨rfl, rfl, Nat.le_of_ble_eq_true rfl, Nat.le_of_ble_eq_true rfl⟩ (Nat.le_of_ble_eq_true rfl) cs rfl rfl dX3_allows_35 rfl ?_
          rintro _ _ ⟨rfl, rfl⟩
          refine g_rwi (y := iI (wr (M 64 h.toNat))) ((iI_wr _).symm) ?_
          refine g_iload cx (pc2 := 40) 4 rfl dX3_allows_38 rfl ?_
          refine g_icmp_lt cx (pc2 := 43) (tgt := 47) ⟨(by first | assumption | omega), (by first | assumption | omega)⟩ dX3_allows_40 (by decide) rfl (fun h_8 => ?_) (fun h_8 => ?_)
          · skip
            refine g_iconst cx (pc2 := 48) dX3_allows_47 rfl ?_
            exact g_zret cx (Or.inl rfl) qx dX3_allows_48 ⟨rb_f (by first | (rw [if_pos (by assumption)]; omega) | (rw [if_neg (by assumption)]; omega) | (split <;> omega) | omega), by rfl⟩
          · skip
            refine g_iconst cx (pc2 := 44) dX3_allows_43 rfl ?_
            refine g_goto cx (tgt := 48) dX3_allows_44 (by decide) ?_
            exact g_zret cx (Or.inr rfl) qx dX3_allows_48 ⟨rb_t (by first | (rw [if_pos (by assumption)]; omega) | (rw [if_neg (by assumption)]; omega) | (split <;> omega) | omega), by rfl⟩
        · skip
          refine g_iload_n cx (pc2 := 31) 3 rfl dX3_allows_30 rfl ?_
          refine g_goto cx (tgt := 35) dX3_allows_31 (by decide) ?_
          refine g_callV cx (pc2 := 38) (st := []) (As := [.int (iI k)]) (k0 := 63) (ci := 3) (c_X3_hoursOf (M := M) hn k (by first | assumption | omega)) wM_X3_hoursOf wV_X3_hoursOf kl_X3_42 rfl (lt_lit hn (Nat.le_of_ble_eq_true rfl)) rfl ⟨rfl, rfl, Nat.le_of_ble_eq_true rfl, Nat.le_of_ble_eq_true rfl⟩ (Nat.le_of_ble_eq_true rfl) cs rfl rfl dX3_allows_35 rfl ?_
          rintro _ _ ⟨rfl, rfl⟩
          refine g_rwi (y := iI (wr (M 64 k.toNat))) ((iI_wr _).symm) ?_
          refine g_iload cx (pc2 := 40) 4 rfl dX3_allows_38 rfl ?_
          refine g_icmp_lt cx (pc2 := 43) (tgt := 47) ⟨(by first | assumption | omega), (by first | assumption | omega)⟩ dX3_allows_40 (by decide) rfl (fun h_9 => ?_) (fun h_9 => ?_)
          · skip
            refine g_iconst cx (pc2 := 48) dX3_allows_47 rfl ?_
            exact g_zret cx (Or.inl rfl) qx dX3_allows_48 ⟨rb_f (by first | (rw [if_pos (by assumption)]; omega) | (rw [if_neg (by assumption)]; omega) | (split <;> omega) | omega), by rfl⟩
          · skip
            refine g_iconst cx (pc2 := 44) dX3_allows_43 rfl ?_
            refine g_goto cx (tgt := 48) dX3_allows_44 (by decide) ?_
            exact g_zret cx (Or.inr rfl) qx dX3_allows_48 ⟨rb_t (by first | (rw [if_pos (by assumption)]; omega) | (rw [if_neg (by assumption)]; omega) | (split <;> omega) | omega), by rfl⟩
      · skip
        refine g_iconst cx (pc2 := 23) dX3_allows_22 rfl ?_
        exact g_zret cx (Or.inl rfl) qx dX3_allows_23 ⟨rb_f (by first | (rw [if_pos (by assumption)]; omega) | (rw [if_neg (by assumption)]; omega) | (split <;> omega) | omega), by rfl⟩
  · skip
    refine g_iconst cx (pc2 := 5) dX3_allows_4 rfl ?_
    exact g_zret cx (Or.inr rfl) qx dX3_allows_5 ⟨rb_t (by first | (rw [if_pos (by assumption)]; omega) | (rw [if_neg (by assumption)]; omega) | (split <;> omega) | omega), by rfl⟩
set_option maxHeartbeats 4000000 in
set_option maxRecDepth 100000 in
theorem c_X3_undoFrom {n : Nat} (hn : NN n) {M : Mm} (hd : DLW M) (q : Int) (hq : 0 ≤ q ∧ q ≤ M 63 6) : CT yX3_undoFrom cX3_undoFrom 4 (some .int) ({ frames := 4, cells := 0, slots := 0, locals := 89 }) n [.ref 63, .int (iI q)] M (rI (M 63 6 - q) (unM M q (M 63 6 - q).toNat)) := by
  refine CT.of (lv0 := [(0, .ref 63), (1, .int (iI q))]) (by decide +kernel) hn (fun _ => rfl) (fun _ => Nat.le_of_ble_eq_true rfl) (fun X cx cs qx => ?_)
  have cx : Cx X cX3_undoFrom RX3 ({ frames := 4, cells := 0, slots := 0, locals := 89 }) 4 n := cx
  refine g_aload_n cx (pc2 := 1) 0 rfl dX3_undoFrom_0 rfl ?_
  refine g_get cx (pc2 := 4) (ci := 3) (k0 := 63) (j := 6) (v := .int (iI (M 63 6))) rfl iwX3 rfl (lt_lit hn (Nat.le_of_ble_eq_true rfl)) rfl (Nat.le_of_ble_eq_true rfl) kf_X3_30 rfl rfl dX3_undoFrom_1 rfl ?_
  refine g_iload_n cx (pc2 := 5) 1 rfl dX3_undoFrom_4 rfl ?_
  refine g_isub cx (pc2 := 6) dX3_undoFrom_5 rfl ?_
  refine g_istore_n cx (pc2 := 7) (lv2 := [(0, .ref 63), (1, .int (iI q)), (2, .int (iI ((M 63 6) - q)))]) rfl (Nat.le_of_ble_eq_true rfl) dX3_undoFrom_6 rfl ?_
  refine g_aload_n cx (pc2 := 8) 0 rfl dX3_undoFrom_7 rfl ?_
  refine g_get cx (pc2 := 11) (ci := 3) (k0 := 63) (j := 6) (v := .int (iI (M 63 6))) rfl iwX3 rfl (lt_lit hn (Nat.le_of_ble_eq_true rfl)) rfl (Nat.le_of_ble_eq_true rfl) kf_X3_30 rfl rfl dX3_undoFrom_8 rfl ?_
  refine g_iconst cx (pc2 := 12) dX3_undoFrom_11 rfl ?_
  refine g_isub cx (pc2 := 13) dX3_undoFrom_12 rfl ?_
  refine g_istore_n cx (pc2 := 14) (lv2 := [(0, .ref 63), (1, .int (iI q)), (2, .int (iI ((M 63 6) - q))), (3, .int (iI ((M 63 6) - 1)))]) rfl (Nat.le_of_ble_eq_true rfl) dX3_undoFrom_13 rfl ?_
  have L14 : ∀ (fu : Nat) (i : Int) (T : Mm), (q - 1 ≤ i ∧ i < 16) → (unM T q (i + 1 - q).toNat = unM M q (M 63 6 - q).toNat) → (∀ a, 66 ≤ a → a ≤ 69 → T a = M a) → (i + 1 - q).toNat ≤ fu → G X 14 [(0, .ref 63), (1, .int (iI q)), (2, .int (iI (M 63 6 - q))), (3, .int (iI i))] [] T := by
    intro fu
    induction fu using Nat.strongRecOn with
    | _ fu ih14 =>
      intro i T hi hT hTo hk14
      have hj := hd.2 i.toNat
      have e66 := hTo 66 (by decide) (by decide)
      have e67 := hTo 67 (by decide) (by decide)
      have e68 := hTo 68 (by decide) (by decide)
      have e69 := hTo 69 (by decide) (by decide)
      refine g_iload_n cx (pc2 := 15) 3 rfl dX3_undoFrom_14 rfl ?_
      refine g_iload_n cx (pc2 := 16) 1 rfl dX3_undoFrom_15 rfl ?_
      refine g_icmp_lt cx (pc2 := 19) (tgt := 69) ⟨(by first | assumption | omega), (by first | assumption | omega)⟩ dX3_undoFrom_16 (by decide) rfl (fun h_1 => ?_) (fun h_1 => ?_)
      · skip
        refine g_iload_n cx (pc2 := 70) 2 rfl dX3_undoFrom_69 rfl ?_
        exact g_iret cx qx dX3_undoFrom_70 ⟨congrArg (fun q => some (Value.int (iI q))) (by rfl), by rw [← hT, show (i + 1 - q).toNat = 0 by omega]; rfl⟩
      · skip
        refine g_iload_n cx (pc2 := 20) 3 rfl dX3_undoFrom_19 rfl ?_
        refine g_if_lt cx (pc2 := 23) (tgt := 69) (by first | assumption | omega) dX3_undoFrom_20 (by decide) rfl (fun h_2 => ?_) (fun h_2 => ?_)
        · skip
          omega
        · skip
          refine g_iload_n cx (pc2 := 24) 3 rfl dX3_undoFrom_23 rfl ?_
          refine g_bipush cx (pc2 := 26) ⟨by decide, by decide⟩ dX3_undoFrom_24 rfl ?_
          refine g_icmp_ge cx (pc2 := 29) (tgt := 69) ⟨(by first | assumption | omega), ⟨by decide, by decide⟩⟩ dX3_undoFrom_26 (by decide) rfl (fun h_3 => ?_) (fun h_3 => ?_)
          · skip
            omega
          · skip
            refine g_aload_n cx (pc2 := 30) 0 rfl dX3_undoFrom_29 rfl ?_
            refine g_aload_n cx (pc2 := 31) 0 rfl dX3_undoFrom_30 rfl ?_
            refine g_get cx (pc2 := 34) (ci := 3) (k0 := 63) (j := 2) (v := .ref 66) rfl iwX3 rfl (lt_lit hn (Nat.le_of_ble_eq_true rfl)) rfl (Nat.le_of_ble_eq_true rfl) kf_X3_18 rfl rfl dX3_undoFrom_31 rfl ?_
            refine g_iload_n cx (pc2 := 35) 3 rfl dX3_undoFrom_34 rfl ?_
            refine g_iald cx (pc2 := 36) (k0 := 66) rfl (lt_lit hn (Nat.le_of_ble_eq_true rfl)) (by first | assumption | omega) (by first | assumption | omega) (Nat.le_of_ble_eq_true rfl) dX3_undoFrom_35 rfl ?_
            refine g_rwi (y := iI (T 66 ((i).toNat))) (congrArg iI (by simp [stM])) ?_
            refine g_rwi (y := iI (M 66 i.toNat)) (congrArg iI (by rw [e66])) ?_
            refine g_aload_n cx (pc2 := 37) 0 rfl dX3_undoFrom_36 rfl ?_
            refine g_get cx (pc2 := 40) (ci := 3) (k0 := 63) (j := 3) (v := .ref 67) rfl iwX3 rfl (lt_lit hn (Nat.le_of_ble_eq_true rfl)) rfl (Nat.le_of_ble_eq_true rfl) kf_X3_21 rfl rfl dX3_undoFrom_37 rfl ?_
            refine g_iload_n cx (pc2 := 41) 3 rfl dX3_undoFrom_40 rfl ?_
            refine g_iald cx (pc2 := 42) (k0 := 67) rfl (lt_lit hn (Nat.le_of_ble_eq_true rfl)) (by first | assumption | omega) (by first | assumption | omega) (Nat.le_of_ble_eq_true rfl) dX3_undoFrom_41 rfl ?_
            refine g_rwi (y := iI (T 67 ((i).toNat))) (congrArg iI (by simp [stM])) ?_
            refine g_rwi (y := iI (M 67 i.toNat)) (congrArg iI (by rw [e67])) ?_
            refine g_aload_n cx (pc2 := 43) 0 rfl dX3_undoFrom_42 rfl ?_
            refine g_get cx (pc2 := 46) (ci := 3) (k0 := 63) (j := 4) (v := .ref 68) rfl iwX3 rfl (lt_lit hn (Nat.le_of_ble_eq_true rfl)) rfl (Nat.le_of_ble_eq_true rfl) kf_X3_24 rfl rfl dX3_undoFrom_43 rfl ?_
            refine g_iload_n cx (pc2 := 47) 3 rfl dX3_undoFrom_46 rfl ?_
            refine g_iald cx (pc2 := 48) (k0 := 68) rfl (lt_lit hn (Nat.le_of_ble_eq_true rfl)) (by first | assumption | omega) (by first | assumption | omega) (Nat.le_of_ble_eq_true rfl) dX3_undoFrom_47 rfl ?_
            refine g_rwi (y := iI (T 68 ((i).toNat))) (congrArg iI (by simp [stM])) ?_
            refine g_rwi (y := iI (M 68 i.toNat)) (congrArg iI (by rw [e68])) ?_
            refine g_aload_n cx (pc2 := 49) 0 rfl dX3_undoFrom_48 rfl ?_
            refine g_get cx (pc2 := 52) (ci := 3) (k0 := 63) (j := 5) (v := .ref 69) rfl iwX3 rfl (lt_lit hn (Nat.le_of_ble_eq_true rfl)) rfl (Nat.le_of_ble_eq_true rfl) kf_X3_27 rfl rfl dX3_undoFrom_49 rfl ?_
            refine g_iload_n cx (pc2 := 53) 3 rfl dX3_undoFrom_52 rfl ?_
            refine g_iald cx (pc2 := 54) (k0 := 69) rfl (lt_lit hn (Nat.le_of_ble_eq_true rfl)) (by first | assumption | omega) (by first | assumption | omega) (Nat.le_of_ble_eq_true rfl) dX3_undoFrom_53 rfl ?_
            refine g_rwi (y := iI (T 69 ((i).toNat))) (congrArg iI (by simp [stM])) ?_
            refine g_rwi (y := iI (M 69 i.toNat)) (congrArg iI (by rw [e69])) ?_
            refine g_ineg cx (pc2 := 55) dX3_undoFrom_54 rfl ?_
            refine g_callV cx (pc2 := 58) (st := []) (As := [.int (iI (M 66 i.toNat)), .int (iI (M 67 i.toNat)), .int (iI (M 68 i.toNat)), .int (iI (-(M 69 i.toNat)))]) (k0 := 63) (ci := 3) (c_X3_settle (M := T) hn (M 66 i.toNat) (M 67 i.toNat) (M 68 i.toNat) (-(M 69 i.toNat)) (by first | assumption | omega) (by first | assumption | omega) (by first | assumption | omega)) wM_X3_settle wV_X3_settle kl_X3_46 rfl (lt_lit hn (Nat.le_of_ble_eq_true rfl)) rfl ⟨rfl, rfl, Nat.le_of_ble_eq_true rfl, Nat.le_of_ble_eq_true rfl⟩ (Nat.le_of_ble_eq_true rfl) cs rfl rfl dX3_undoFrom_55 rfl ?_
            rintro _ _ ⟨rfl, rfl⟩
            refine g_aload_n cx (pc2 := 59) 0 rfl dX3_undoFrom_58 rfl ?_
            refine g_iload_n cx (pc2 := 60) 3 rfl dX3_undoFrom_59 rfl ?_
            refine g_puti cx (pc2 := 63) (ci := 3) (k0 := 63) (j := 6) rfl iwX3 rfl (lt_lit hn (Nat.le_of_ble_eq_true rfl)) rfl (Nat.le_of_ble_eq_true rfl) kf_X3_30 rfl tyX3_ok nmX3 rfl rfl dX3_undoFrom_60 rfl ?_
            refine g_iinc cx (pc2 := 66) 3 rfl (lv2 := [(0, .ref 63), (1, .int (iI q)), (2, .int (iI (M 63 6 - q))), (3, .int (iI (i + (-1))))]) rfl (Nat.le_of_ble_eq_true rfl) dX3_undoFrom_63 rfl ?_
            refine g_goto cx (tgt := 14) dX3_undoFrom_66 (by decide) ?_
            exact ih14 (((i + (-1)) + 1 - q).toNat) (by omega) (i + (-1)) (stM (seM T (M 66 i.toNat) (M 67 i.toNat) (M 68 i.toNat) (-(M 69 i.toNat))) 63 6 i) (by first | assumption | omega) (by rw [← hT, show (i + 1 - q).toNat = (i + -1 + 1 - q).toNat + 1 by omega, unM]; congr 1; rw [show q.toNat + (i + -1 + 1 - q).toNat = i.toNat by omega, e66, e67, e68, e69, show q + (((i + -1 + 1 - q).toNat : Nat) : Int) = i by omega]) (by intro a h1 h2; rw [stM_off (by omega), seM_off _ _ _ _ _ (by omega) (by omega)]; exact hTo a h1 h2) (Nat.le_refl _)
  exact L14 _ ((M 63 6) - 1) M (by first | assumption | omega) (by rw [show M 63 6 - 1 + 1 - q = M 63 6 - q by omega]) (by intro a _ _; rfl) (Nat.le_refl _)
def prM (M : Mm) (o k : Nat) (i : Int) : Int := if 0 ≤ i ∧ i < M o 2 then M (o + k) i.toNat else -9
def adM (M : Mm) (o : Nat) (h v : Int) : Mm := if M o 2 < 12 then stM (stM (stM M (o + 1) (M o 2).toNat h) (o + 2) (M o 2).toNat v) o 2 (M o 2 + 1) else M
/-- the last place of a house, below k; -9: none -/
def loM (M : Mm) (o : Nat) (h : Int) : Nat → Int
  | 0 => -9
  | k + 1 => if M (o + 1) k = h then (k : Int) else loM M o h k
def toP (M : Mm) (o : Nat) (p i : Int) : Mm := fun a b => if (a = o + 1 ∨ a = o + 2) ∧ p ≤ (b : Int) ∧ (b : Int) < i then M a (b + 1) else M a b
def toM (M : Mm) (o : Nat) (p : Int) : Mm := stM (toP M o p (M o 2 - 1)) o 2 (M o 2 - 1)
theorem toP_0 (M : Mm) (o : Nat) (p : Int) : M = toP M o p p := by
  funext a b
  unfold toP
  rw [if_neg (by omega)]
theorem toP_s {M : Mm} {o : Nat} {p i : Int} (h0 : 0 ≤ p) (h : p ≤ i) : stM (stM (toP M o p i) (o + 1) i.toNat (toP M o p i (o + 1) (i + 1).toNat)) (o + 2) i.toNat (stM (toP M o p i) (o + 1) i.toNat (toP M o p i (o + 1) (i + 1).toNat) (o + 2) (i + 1).toNat) = toP M o p (i + 1) := by
  have e1 : toP M o p i (o + 1) (i + 1).toNat = M (o + 1) (i.toNat + 1) := by
    unfold toP
    rw [if_neg (by omega)]
    congr 1
    omega
  have e2 : stM (toP M o p i) (o + 1) i.toNat (toP M o p i (o + 1) (i + 1).toNat) (o + 2) (i + 1).toNat = M (o + 2) (i.toNat + 1) := by
    rw [stM_ne _ _ (Or.inl (by omega))]
    unfold toP
    rw [if_neg (by omega)]
    congr 1
    omega
  rw [e2, e1]
  funext a b
  unfold stM toP
  by_cases hb : b = i.toNat
  · subst hb
    by_cases h2 : a = o + 2
    · subst h2
      rw [if_pos ⟨rfl, rfl⟩, if_pos (by omega)]
    · rw [if_neg (fun q => h2 q.1)]
      by_cases h1 : a = o + 1
      · subst h1
        rw [if_pos ⟨rfl, rfl⟩, if_pos (by omega)]
      · rw [if_neg (fun q => h1 q.1), if_neg (by omega), if_neg (by omega)]
  · rw [if_neg (fun q => hb q.2), if_neg (fun q => hb q.2)]
    by_cases h3 : (a = o + 1 ∨ a = o + 2) ∧ p ≤ (b : Int) ∧ (b : Int) < i
    · rw [if_pos h3, if_pos (by omega)]
    · rw [if_neg h3, if_neg (by omega)]
set_option maxHeartbeats 4000000 in
set_option maxRecDepth 100000 in
theorem c_X5_isFull {n : Nat} (hn : NN n) {M : Mm} {o : Nat} (ho : isPairsO o) (hs : 0 ≤ M o 2 ∧ M o 2 ≤ 12) : CT yX5_isFull cX5_isFull 1 (some .boolean) ({ frames := 0, cells := 0, slots := 0, locals := 0 }) n [.ref o] M (rI (b2 (12 ≤ M o 2)) M) := by
  refine CT.of (lv0 := [(0, .ref o)]) (by decide +kernel) hn (fun _ => rfl) (fun _ => Nat.le_of_ble_eq_true rfl) (fun X cx cs qx => ?_)
  have cx : Cx X cX5_isFull RX5 ({ frames := 0, cells := 0, slots := 0, locals := 0 }) 1 n := cx
  refine g_aload_n cx (pc2 := 1) 0 rfl dX5_isFull_0 rfl ?_
  refine g_get cx (pc2 := 4) (ci := 5) (k0 := o) (j := 2) (v := .int (iI (M o 2))) rfl iwX5 (sh_pairs ho) (by omega) rfl (Nat.le_of_ble_eq_true rfl) kf_X5_9 rfl rfl dX5_isFull_1 rfl ?_
  refine g_aload_n cx (pc2 := 5) 0 rfl dX5_isFull_4 rfl ?_
  refine g_get cx (pc2 := 8) (ci := 5) (k0 := o) (j := 0) (v := .ref (o + 1)) rfl iwX5 (sh_pairs ho) (by omega) rfl (Nat.le_of_ble_eq_true rfl) kf_X5_21 rfl rfl dX5_isFull_5 rfl ?_
  refine g_alen cx (pc2 := 9) (k0 := (o + 1)) (v := 12) (sh_p1 ho) (by decide) (by omega) rfl dX5_isFull_8 rfl ?_
  refine g_icmp_lt cx (pc2 := 12) (tgt := 16) ⟨(by first | assumption | omega), ⟨by decide, by decide⟩⟩ dX5_isFull_9 (by decide) rfl (fun h_1 => ?_) (fun h_1 => ?_)
  · skip
    refine g_iconst cx (pc2 := 17) dX5_isFull_16 rfl ?_
    exact g_zret cx (Or.inl rfl) qx dX5_isFull_17 ⟨rb_f (by first | assumption | omega), by rfl⟩
  · skip
    refine g_iconst cx (pc2 := 13) dX5_isFull_12 rfl ?_
    refine g_goto cx (tgt := 17) dX5_isFull_13 (by decide) ?_
    exact g_zret cx (Or.inr rfl) qx dX5_isFull_17 ⟨rb_t (by first | assumption | omega), by rfl⟩
set_option maxHeartbeats 4000000 in
set_option maxRecDepth 100000 in
theorem c_X5_has {n : Nat} (hn : NN n) {M : Mm} {o : Nat} (ho : isPairsO o) (hs : 0 ≤ M o 2 ∧ M o 2 ≤ 12) (i : Int) (hi : ir i) : CT yX5_has cX5_has 2 (some .boolean) ({ frames := 0, cells := 0, slots := 0, locals := 0 }) n [.ref o, .int (iI i)] M (rI (b2 (0 ≤ i ∧ i < M o 2)) M) := by
  refine CT.of (lv0 := [(0, .ref o), (1, .int (iI i))]) (by decide +kernel) hn (fun _ => rfl) (fun _ => Nat.le_of_ble_eq_true rfl) (fun X cx cs qx => ?_)
  have cx : Cx X cX5_has RX5 ({ frames := 0, cells := 0, slots := 0, locals := 0 }) 2 n := cx
  refine g_iload_n cx (pc2 := 1) 1 rfl dX5_has_0 rfl ?_
  refine g_if_lt cx (pc2 := 4) (tgt := 34) (by first | assumption | omega) dX5_has_1 (by decide) rfl (fun h_1 => ?_) (fun h_1 => ?_)
  · skip
    refine g_iconst cx (pc2 := 35) dX5_has_34 rfl ?_
    exact g_zret cx (Or.inl rfl) qx dX5_has_35 ⟨rb_f (by first | assumption | omega), by rfl⟩
  · skip
    refine g_iload_n cx (pc2 := 5) 1 rfl dX5_has_4 rfl ?_
    refine g_aload_n cx (pc2 := 6) 0 rfl dX5_has_5 rfl ?_
    refine g_get cx (pc2 := 9) (ci := 5) (k0 := o) (j := 2) (v := .int (iI (M o 2))) rfl iwX5 (sh_pairs ho) (by omega) rfl (Nat.le_of_ble_eq_true rfl) kf_X5_9 rfl rfl dX5_has_6 rfl ?_
    refine g_icmp_ge cx (pc2 := 12) (tgt := 34) ⟨(by first | assumption | omega), (by first | assumption | omega)⟩ dX5_has_9 (by decide) rfl (fun h_2 => ?_) (fun h_2 => ?_)
    · skip
      refine g_iconst cx (pc2 := 35) dX5_has_34 rfl ?_
      exact g_zret cx (Or.inl rfl) qx dX5_has_35 ⟨rb_f (by first | assumption | omega), by rfl⟩
    · skip
      refine g_iload_n cx (pc2 := 13) 1 rfl dX5_has_12 rfl ?_
      refine g_aload_n cx (pc2 := 14) 0 rfl dX5_has_13 rfl ?_
      refine g_get cx (pc2 := 17) (ci := 5) (k0 := o) (j := 0) (v := .ref (o + 1)) rfl iwX5 (sh_pairs ho) (by omega) rfl (Nat.le_of_ble_eq_true rfl) kf_X5_21 rfl rfl dX5_has_14 rfl ?_
      refine g_alen cx (pc2 := 18) (k0 := (o + 1)) (v := 12) (sh_p1 ho) (by decide) (by omega) rfl dX5_has_17 rfl ?_
      refine g_icmp_ge cx (pc2 := 21) (tgt := 34) ⟨(by first | assumption | omega), ⟨by decide, by decide⟩⟩ dX5_has_18 (by decide) rfl (fun h_3 => ?_) (fun h_3 => ?_)
      · skip
        refine g_iconst cx (pc2 := 35) dX5_has_34 rfl ?_
        exact g_zret cx (Or.inl rfl) qx dX5_has_35 ⟨rb_f (by first | assumption | omega), by rfl⟩
      · skip
        refine g_iload_n cx (pc2 := 22) 1 rfl dX5_has_21 rfl ?_
        refine g_aload_n cx (pc2 := 23) 0 rfl dX5_has_22 rfl ?_
        refine g_get cx (pc2 := 26) (ci := 5) (k0 := o) (j := 1) (v := .ref (o + 2)) rfl iwX5 (sh_pairs ho) (by omega) rfl (Nat.le_of_ble_eq_true rfl) kf_X5_25 rfl rfl dX5_has_23 rfl ?_
        refine g_alen cx (pc2 := 27) (k0 := (o + 2)) (v := 12) (sh_p2 ho) (by decide) (by omega) rfl dX5_has_26 rfl ?_
        refine g_icmp_ge cx (pc2 := 30) (tgt := 34) ⟨(by first | assumption | omega), ⟨by decide, by decide⟩⟩ dX5_has_27 (by decide) rfl (fun h_4 => ?_) (fun h_4 => ?_)
        · skip
          refine g_iconst cx (pc2 := 35) dX5_has_34 rfl ?_
          exact g_zret cx (Or.inl rfl) qx dX5_has_35 ⟨rb_f (by first | assumption | omega), by rfl⟩
        · skip
          refine g_iconst cx (pc2 := 31) dX5_has_30 rfl ?_
          refine g_goto cx (tgt := 35) dX5_has_31 (by decide) ?_
          exact g_zret cx (Or.inr rfl) qx dX5_has_35 ⟨rb_t (by first | assumption | omega), by rfl⟩
set_option maxHeartbeats 4000000 in
set_option maxRecDepth 100000 in
theorem c_X5_houseOf {n : Nat} (hn : NN n) {M : Mm} {o : Nat} (ho : isPairsO o) (hs : 0 ≤ M o 2 ∧ M o 2 ≤ 12) (i : Int) (hi : ir i) : CT yX5_houseOf cX5_houseOf 2 (some .int) ({ frames := 1, cells := 0, slots := 0, locals := 21 }) n [.ref o, .int (iI i)] M (rI (prM M o 1 i) M) := by
  refine CT.of (lv0 := [(0, .ref o), (1, .int (iI i))]) (by decide +kernel) hn (fun _ => rfl) (fun _ => Nat.le_of_ble_eq_true rfl) (fun X cx cs qx => ?_)
  have cx : Cx X cX5_houseOf RX5 ({ frames := 1, cells := 0, slots := 0, locals := 21 }) 2 n := cx
  refine g_aload_n cx (pc2 := 1) 0 rfl dX5_houseOf_0 rfl ?_
  refine g_iload_n cx (pc2 := 2) 1 rfl dX5_houseOf_1 rfl ?_
  refine g_callV cx (pc2 := 5) (st := []) (As := [.int (iI i)]) (k0 := o) (ci := 5) (c_X5_has (M := M) hn (by first | assumption | omega) (by first | assumption | omega) i (by first | assumption | omega)) wM_X5_has wV_X5_has kl_X5_28 (sh_pairs ho) (by omega) rfl ⟨rfl, rfl, Nat.le_of_ble_eq_true rfl, Nat.le_of_ble_eq_true rfl⟩ (Nat.le_of_ble_eq_true rfl) cs rfl rfl dX5_houseOf_2 rfl ?_
  rintro _ _ ⟨rfl, rfl⟩
  refine g_ifb_eq cx (pc2 := 8) (tgt := 17) dX5_houseOf_5 (by decide) rfl (fun h_1 => ?_) (fun h_1 => ?_)
  · skip
    refine g_bipush cx (pc2 := 19) ⟨by decide, by decide⟩ dX5_houseOf_17 rfl ?_
    exact g_iret cx qx dX5_houseOf_19 ⟨congrArg (fun q => some (Value.int (iI q))) (by unfold prM; first | (rw [if_pos (by omega)]; done) | (rw [if_neg (by omega)]; done)), by rfl⟩
  · skip
    refine g_aload_n cx (pc2 := 9) 0 rfl dX5_houseOf_8 rfl ?_
    refine g_get cx (pc2 := 12) (ci := 5) (k0 := o) (j := 0) (v := .ref (o + 1)) rfl iwX5 (sh_pairs ho) (by omega) rfl (Nat.le_of_ble_eq_true rfl) kf_X5_21 rfl rfl dX5_houseOf_9 rfl ?_
    refine g_iload_n cx (pc2 := 13) 1 rfl dX5_houseOf_12 rfl ?_
    refine g_iald cx (pc2 := 14) (k0 := (o + 1)) (sh_p1 ho) (by omega) (by first | assumption | omega) (by first | assumption | omega) (Nat.le_of_ble_eq_true rfl) dX5_houseOf_13 rfl ?_
    refine g_rwi (y := iI (M (o + 1) ((i).toNat))) (congrArg iI (by simp [stM])) ?_
    refine g_goto cx (tgt := 19) dX5_houseOf_14 (by decide) ?_
    exact g_iret cx qx dX5_houseOf_19 ⟨congrArg (fun q => some (Value.int (iI q))) (by unfold prM; first | (rw [if_pos (by omega)]; done) | (rw [if_neg (by omega)]; done)), by rfl⟩
set_option maxHeartbeats 4000000 in
set_option maxRecDepth 100000 in
theorem c_X5_valueOf {n : Nat} (hn : NN n) {M : Mm} {o : Nat} (ho : isPairsO o) (hs : 0 ≤ M o 2 ∧ M o 2 ≤ 12) (i : Int) (hi : ir i) : CT yX5_valueOf cX5_valueOf 2 (some .int) ({ frames := 1, cells := 0, slots := 0, locals := 21 }) n [.ref o, .int (iI i)] M (rI (prM M o 2 i) M) := by
  refine CT.of (lv0 := [(0, .ref o), (1, .int (iI i))]) (by decide +kernel) hn (fun _ => rfl) (fun _ => Nat.le_of_ble_eq_true rfl) (fun X cx cs qx => ?_)
  have cx : Cx X cX5_valueOf RX5 ({ frames := 1, cells := 0, slots := 0, locals := 21 }) 2 n := cx
  refine g_aload_n cx (pc2 := 1) 0 rfl dX5_valueOf_0 rfl ?_
  refine g_iload_n cx (pc2 := 2) 1 rfl dX5_valueOf_1 rfl ?_
  refine g_callV cx (pc2 := 5) (st := []) (As := [.int (iI i)]) (k0 := o) (ci := 5) (c_X5_has (M := M) hn (by first | assumption | omega) (by first | assumption | omega) i (by first | assumption | omega)) wM_X5_has wV_X5_has kl_X5_28 (sh_pairs ho) (by omega) rfl ⟨rfl, rfl, Nat.le_of_ble_eq_true rfl, Nat.le_of_ble_eq_true rfl⟩ (Nat.le_of_ble_eq_true rfl) cs rfl rfl dX5_valueOf_2 rfl ?_
  rintro _ _ ⟨rfl, rfl⟩
  refine g_ifb_eq cx (pc2 := 8) (tgt := 17) dX5_valueOf_5 (by decide) rfl (fun h_1 => ?_) (fun h_1 => ?_)
  · skip
    refine g_bipush cx (pc2 := 19) ⟨by decide, by decide⟩ dX5_valueOf_17 rfl ?_
    exact g_iret cx qx dX5_valueOf_19 ⟨congrArg (fun q => some (Value.int (iI q))) (by unfold prM; first | (rw [if_pos (by omega)]; done) | (rw [if_neg (by omega)]; done)), by rfl⟩
  · skip
    refine g_aload_n cx (pc2 := 9) 0 rfl dX5_valueOf_8 rfl ?_
    refine g_get cx (pc2 := 12) (ci := 5) (k0 := o) (j := 1) (v := .ref (o + 2)) rfl iwX5 (sh_pairs ho) (by omega) rfl (Nat.le_of_ble_eq_true rfl) kf_X5_25 rfl rfl dX5_valueOf_9 rfl ?_
    refine g_iload_n cx (pc2 := 13) 1 rfl dX5_valueOf_12 rfl ?_
    refine g_iald cx (pc2 := 14) (k0 := (o + 2)) (sh_p2 ho) (by omega) (by first | assumption | omega) (by first | assumption | omega) (Nat.le_of_ble_eq_true rfl) dX5_valueOf_13 rfl ?_
    refine g_rwi (y := iI (M (o + 2) ((i).toNat))) (congrArg iI (by simp [stM])) ?_
    refine g_goto cx (tgt := 19) dX5_valueOf_14 (by decide) ?_
    exact g_iret cx qx dX5_valueOf_19 ⟨congrArg (fun q => some (Value.int (iI q))) (by unfold prM; first | (rw [if_pos (by omega)]; done) | (rw [if_neg (by omega)]; done)), by rfl⟩
set_option maxHeartbeats 4000000 in
set_option maxRecDepth 100000 in
theorem c_X5_add {n : Nat} (hn : NN n) {M : Mm} {o : Nat} (ho : isPairsO o) (hs : 0 ≤ M o 2 ∧ M o 2 ≤ 12) (h v : Int) : CT yX5_add cX5_add 3 none ({ frames := 0, cells := 0, slots := 0, locals := 0 }) n [.ref o, .int (iI h), .int (iI v)] M (rV (adM M o h v)) := by
  refine CT.of (lv0 := [(0, .ref o), (1, .int (iI h)), (2, .int (iI v))]) (by decide +kernel) hn (fun _ => rfl) (fun _ => Nat.le_of_ble_eq_true rfl) (fun X cx cs qx => ?_)
  have cx : Cx X cX5_add RX5 ({ frames := 0, cells := 0, slots := 0, locals := 0 }) 3 n := cx
  refine g_aload_n cx (pc2 := 1) 0 rfl dX5_add_0 rfl ?_
  refine g_get cx (pc2 := 4) (ci := 5) (k0 := o) (j := 2) (v := .int (iI (M o 2))) rfl iwX5 (sh_pairs ho) (by omega) rfl (Nat.le_of_ble_eq_true rfl) kf_X5_9 rfl rfl dX5_add_1 rfl ?_
  refine g_aload_n cx (pc2 := 5) 0 rfl dX5_add_4 rfl ?_
  refine g_get cx (pc2 := 8) (ci := 5) (k0 := o) (j := 0) (v := .ref (o + 1)) rfl iwX5 (sh_pairs ho) (by omega) rfl (Nat.le_of_ble_eq_true rfl) kf_X5_21 rfl rfl dX5_add_5 rfl ?_
  refine g_alen cx (pc2 := 9) (k0 := (o + 1)) (v := 12) (sh_p1 ho) (by decide) (by omega) rfl dX5_add_8 rfl ?_
  refine g_icmp_ge cx (pc2 := 12) (tgt := 54) ⟨(by first | assumption | omega), ⟨by decide, by decide⟩⟩ dX5_add_9 (by decide) rfl (fun h_1 => ?_) (fun h_1 => ?_)
  · skip
    exact g_vret cx qx dX5_add_54 ⟨rfl, by unfold adM; first | (rw [if_neg (by omega)]; done) | (rw [if_pos (by omega)]; done)⟩
  · skip
    refine g_aload_n cx (pc2 := 13) 0 rfl dX5_add_12 rfl ?_
    refine g_get cx (pc2 := 16) (ci := 5) (k0 := o) (j := 2) (v := .int (iI (M o 2))) rfl iwX5 (sh_pairs ho) (by omega) rfl (Nat.le_of_ble_eq_true rfl) kf_X5_9 rfl rfl dX5_add_13 rfl ?_
    refine g_aload_n cx (pc2 := 17) 0 rfl dX5_add_16 rfl ?_
    refine g_get cx (pc2 := 20) (ci := 5) (k0 := o) (j := 1) (v := .ref (o + 2)) rfl iwX5 (sh_pairs ho) (by omega) rfl (Nat.le_of_ble_eq_true rfl) kf_X5_25 rfl rfl dX5_add_17 rfl ?_
    refine g_alen cx (pc2 := 21) (k0 := (o + 2)) (v := 12) (sh_p2 ho) (by decide) (by omega) rfl dX5_add_20 rfl ?_
    refine g_icmp_ge cx (pc2 := 24) (tgt := 54) ⟨(by first | assumption | omega), ⟨by decide, by decide⟩⟩ dX5_add_21 (by decide) rfl (fun h_2 => ?_) (fun h_2 => ?_)
    · skip
      exact g_vret cx qx dX5_add_54 ⟨rfl, by unfold adM; first | (rw [if_neg (by omega)]; done) | (rw [if_pos (by omega)]; done)⟩
    · skip
      refine g_aload_n cx (pc2 := 25) 0 rfl dX5_add_24 rfl ?_
      refine g_get cx (pc2 := 28) (ci := 5) (k0 := o) (j := 0) (v := .ref (o + 1)) rfl iwX5 (sh_pairs ho) (by omega) rfl (Nat.le_of_ble_eq_true rfl) kf_X5_21 rfl rfl dX5_add_25 rfl ?_
      refine g_aload_n cx (pc2 := 29) 0 rfl dX5_add_28 rfl ?_
      refine g_get cx (pc2 := 32) (ci := 5) (k0 := o) (j := 2) (v := .int (iI (M o 2))) rfl iwX5 (sh_pairs ho) (by omega) rfl (Nat.le_of_ble_eq_true rfl) kf_X5_9 rfl rfl dX5_add_29 rfl ?_
      refine g_iload_n cx (pc2 := 33) 1 rfl dX5_add_32 rfl ?_
      refine g_iast cx (pc2 := 34) (k0 := (o + 1)) (sh_p1 ho) (by omega) (by first | assumption | omega) (by first | assumption | omega) (Nat.le_of_ble_eq_true rfl) dX5_add_33 rfl ?_
      refine g_aload_n cx (pc2 := 35) 0 rfl dX5_add_34 rfl ?_
      refine g_get cx (pc2 := 38) (ci := 5) (k0 := o) (j := 1) (v := .ref (o + 2)) rfl iwX5 (sh_pairs ho) (by omega) rfl (Nat.le_of_ble_eq_true rfl) kf_X5_25 rfl rfl dX5_add_35 rfl ?_
      refine g_aload_n cx (pc2 := 39) 0 rfl dX5_add_38 rfl ?_
      refine g_get cx (pc2 := 42) (ci := 5) (k0 := o) (j := 2) (v := .int (iI ((stM M (o + 1) ((M o 2)).toNat h) o 2))) rfl iwX5 (sh_pairs ho) (by omega) rfl (Nat.le_of_ble_eq_true rfl) kf_X5_9 rfl rfl dX5_add_39 rfl ?_
      refine g_rwi (y := iI (M o 2)) (congrArg iI (stM_ne _ _ (Or.inl (by omega)))) ?_
      refine g_iload_n cx (pc2 := 43) 2 rfl dX5_add_42 rfl ?_
      refine g_iast cx (pc2 := 44) (k0 := (o + 2)) (sh_p2 ho) (by omega) (by first | assumption | omega) (by first | assumption | omega) (Nat.le_of_ble_eq_true rfl) dX5_add_43 rfl ?_
      refine g_aload_n cx (pc2 := 45) 0 rfl dX5_add_44 rfl ?_
      refine g_dup cx (pc2 := 46) rfl dX5_add_45 rfl ?_
      refine g_get cx (pc2 := 49) (ci := 5) (k0 := o) (j := 2) (v := .int (iI ((stM (stM M (o + 1) ((M o 2)).toNat h) (o + 2) ((M o 2)).toNat v) o 2))) rfl iwX5 (sh_pairs ho) (by omega) rfl (Nat.le_of_ble_eq_true rfl) kf_X5_9 rfl rfl dX5_add_46 rfl ?_
      refine g_rwi (y := iI (M o 2)) (congrArg iI ((stM_ne _ _ (Or.inl (by omega))).trans (stM_ne _ _ (Or.inl (by omega))))) ?_
      refine g_iconst cx (pc2 := 50) dX5_add_49 rfl ?_
      refine g_iadd cx (pc2 := 51) dX5_add_50 rfl ?_
      refine g_puti cx (pc2 := 54) (ci := 5) (k0 := o) (j := 2) rfl iwX5 (sh_pairs ho) (by omega) rfl (Nat.le_of_ble_eq_true rfl) kf_X5_9 rfl tyX5_ok nmX5 rfl rfl dX5_add_51 rfl ?_
      exact g_vret cx qx dX5_add_54 ⟨rfl, by unfold adM; first | (rw [if_neg (by omega)]; done) | (rw [if_pos (by omega)]; done)⟩
set_option maxHeartbeats 4000000 in
set_option maxRecDepth 100000 in
theorem c_X5_cutTo {n : Nat} (hn : NN n) {M : Mm} {o : Nat} (ho : isPairsO o) (hs : 0 ≤ M o 2 ∧ M o 2 ≤ 12) (q : Int) (hq : ir q) : CT yX5_cutTo cX5_cutTo 2 none ({ frames := 0, cells := 0, slots := 0, locals := 0 }) n [.ref o, .int (iI q)] M (rV (if 0 ≤ q ∧ q < M o 2 then stM M o 2 q else M)) := by
  refine CT.of (lv0 := [(0, .ref o), (1, .int (iI q))]) (by decide +kernel) hn (fun _ => rfl) (fun _ => Nat.le_of_ble_eq_true rfl) (fun X cx cs qx => ?_)
  have cx : Cx X cX5_cutTo RX5 ({ frames := 0, cells := 0, slots := 0, locals := 0 }) 2 n := cx
  refine g_iload_n cx (pc2 := 1) 1 rfl dX5_cutTo_0 rfl ?_
  refine g_if_lt cx (pc2 := 4) (tgt := 17) (by first | assumption | omega) dX5_cutTo_1 (by decide) rfl (fun h_1 => ?_) (fun h_1 => ?_)
  · skip
    exact g_vret cx qx dX5_cutTo_17 ⟨rfl, by first | (rw [if_pos (by omega)]; done) | (rw [if_neg (by omega)]; done)⟩
  · skip
    refine g_iload_n cx (pc2 := 5) 1 rfl dX5_cutTo_4 rfl ?_
    refine g_aload_n cx (pc2 := 6) 0 rfl dX5_cutTo_5 rfl ?_
    refine g_get cx (pc2 := 9) (ci := 5) (k0 := o) (j := 2) (v := .int (iI (M o 2))) rfl iwX5 (sh_pairs ho) (by omega) rfl (Nat.le_of_ble_eq_true rfl) kf_X5_9 rfl rfl dX5_cutTo_6 rfl ?_
    refine g_icmp_ge cx (pc2 := 12) (tgt := 17) ⟨(by first | assumption | omega), (by first | assumption | omega)⟩ dX5_cutTo_9 (by decide) rfl (fun h_2 => ?_) (fun h_2 => ?_)
    · skip
      exact g_vret cx qx dX5_cutTo_17 ⟨rfl, by first | (rw [if_pos (by omega)]; done) | (rw [if_neg (by omega)]; done)⟩
    · skip
      refine g_aload_n cx (pc2 := 13) 0 rfl dX5_cutTo_12 rfl ?_
      refine g_iload_n cx (pc2 := 14) 1 rfl dX5_cutTo_13 rfl ?_
      refine g_puti cx (pc2 := 17) (ci := 5) (k0 := o) (j := 2) rfl iwX5 (sh_pairs ho) (by omega) rfl (Nat.le_of_ble_eq_true rfl) kf_X5_9 rfl tyX5_ok nmX5 rfl rfl dX5_cutTo_14 rfl ?_
      exact g_vret cx qx dX5_cutTo_17 ⟨rfl, by first | (rw [if_pos (by omega)]; done) | (rw [if_neg (by omega)]; done)⟩
set_option maxHeartbeats 4000000 in
set_option maxRecDepth 100000 in
theorem c_X5_lastOf {n : Nat} (hn : NN n) {M : Mm} {o : Nat} (ho : isPairsO o) (hs : 0 ≤ M o 2 ∧ M o 2 ≤ 12) (hcl : ∀ j, ir (M (o + 1) j)) (h : Int) (hh : ir h) : CT yX5_lastOf cX5_lastOf 3 (some .int) ({ frames := 2, cells := 0, slots := 0, locals := 42 }) n [.ref o, .int (iI h)] M (rI (loM M o h (M o 2).toNat) M) := by
  refine CT.of (lv0 := [(0, .ref o), (1, .int (iI h))]) (by decide +kernel) hn (fun _ => rfl) (fun _ => Nat.le_of_ble_eq_true rfl) (fun X cx cs qx => ?_)
  have cx : Cx X cX5_lastOf RX5 ({ frames := 2, cells := 0, slots := 0, locals := 42 }) 3 n := cx
  refine g_aload_n cx (pc2 := 1) 0 rfl dX5_lastOf_0 rfl ?_
  refine g_get cx (pc2 := 4) (ci := 5) (k0 := o) (j := 2) (v := .int (iI (M o 2))) rfl iwX5 (sh_pairs ho) (by omega) rfl (Nat.le_of_ble_eq_true rfl) kf_X5_9 rfl rfl dX5_lastOf_1 rfl ?_
  refine g_iconst cx (pc2 := 5) dX5_lastOf_4 rfl ?_
  refine g_isub cx (pc2 := 6) dX5_lastOf_5 rfl ?_
  refine g_istore_n cx (pc2 := 7) (lv2 := [(0, .ref o), (1, .int (iI h)), (2, .int (iI ((M o 2) - 1)))]) rfl (Nat.le_of_ble_eq_true rfl) dX5_lastOf_6 rfl ?_
  have L7 : ∀ (fu : Nat) (i : Int), (-1 ≤ i ∧ i < M o 2) → (loM M o h (M o 2).toNat = loM M o h (i + 1).toNat) → (i + 1).toNat ≤ fu → G X 7 [(0, .ref o), (1, .int (iI h)), (2, .int (iI i))] [] M := by
    intro fu
    induction fu using Nat.strongRecOn with
    | _ fu ih7 =>
      intro i hi hl hk7
      have hci := hcl i.toNat
      refine g_iload_n cx (pc2 := 8) 2 rfl dX5_lastOf_7 rfl ?_
      refine g_if_lt cx (pc2 := 11) (tgt := 28) (by first | assumption | omega) dX5_lastOf_8 (by decide) rfl (fun h_1 => ?_) (fun h_1 => ?_)
      · skip
        refine g_bipush cx (pc2 := 30) ⟨by decide, by decide⟩ dX5_lastOf_28 rfl ?_
        exact g_iret cx qx dX5_lastOf_30 ⟨congrArg (fun q => some (Value.int (iI q))) (by rw [hl, show (i + 1).toNat = 0 by omega]; rfl), by rfl⟩
      · skip
        refine g_aload_n cx (pc2 := 12) 0 rfl dX5_lastOf_11 rfl ?_
        refine g_iload_n cx (pc2 := 13) 2 rfl dX5_lastOf_12 rfl ?_
        refine g_callV cx (pc2 := 16) (st := []) (As := [.int (iI i)]) (k0 := o) (ci := 5) (c_X5_houseOf (M := M) hn (by first | assumption | omega) (by first | assumption | omega) i (by first | assumption | omega)) wM_X5_houseOf wV_X5_houseOf kl_X5_32 (sh_pairs ho) (by omega) rfl ⟨rfl, rfl, Nat.le_of_ble_eq_true rfl, Nat.le_of_ble_eq_true rfl⟩ (Nat.le_of_ble_eq_true rfl) cs rfl rfl dX5_lastOf_13 rfl ?_
        rintro _ _ ⟨rfl, rfl⟩
        refine g_rwi (y := iI (M (o + 1) i.toNat)) (congrArg iI (by unfold prM; rw [if_pos (by omega)])) ?_
        refine g_iload_n cx (pc2 := 17) 1 rfl dX5_lastOf_16 rfl ?_
        refine g_icmp_ne cx (pc2 := 20) (tgt := 22) ⟨(by first | assumption | omega), (by first | assumption | omega)⟩ dX5_lastOf_17 (by decide) rfl (fun h_2 => ?_) (fun h_2 => ?_)
        · skip
          refine g_iinc cx (pc2 := 25) 2 rfl (lv2 := [(0, .ref o), (1, .int (iI h)), (2, .int (iI (i + (-1))))]) rfl (Nat.le_of_ble_eq_true rfl) dX5_lastOf_22 rfl ?_
          refine g_goto cx (tgt := 7) dX5_lastOf_25 (by decide) ?_
          exact ih7 (((i + (-1)) + 1).toNat) (by omega) (i + (-1)) (by first | assumption | omega) (by rw [hl, show (i + 1).toNat = i.toNat + 1 by omega, loM, if_neg (by assumption)]; congr 1; omega) (Nat.le_refl _)
        · skip
          refine g_iload_n cx (pc2 := 21) 2 rfl dX5_lastOf_20 rfl ?_
          exact g_iret cx qx dX5_lastOf_21 ⟨congrArg (fun q => some (Value.int (iI q))) (by rw [hl, show (i + 1).toNat = i.toNat + 1 by omega, loM, if_pos (by assumption)]; omega), by rfl⟩
  exact L7 _ ((M o 2) - 1) (by first | assumption | omega) (by congr 1; omega) (Nat.le_refl _)
set_option maxHeartbeats 4000000 in
set_option maxRecDepth 100000 in
theorem c_X5_hasValue {n : Nat} (hn : NN n) {M : Mm} {o : Nat} (ho : isPairsO o) (hs : 0 ≤ M o 2 ∧ M o 2 ≤ 12) (hcl : ∀ j, ir (M (o + 2) j)) (v : Int) (hv : ir v) : CT yX5_hasValue cX5_hasValue 3 (some .boolean) ({ frames := 2, cells := 0, slots := 0, locals := 42 }) n [.ref o, .int (iI v)] M (rI (b2 (∃ j, j < (M o 2).toNat ∧ M (o + 2) j = v)) M) := by
  refine CT.of (lv0 := [(0, .ref o), (1, .int (iI v))]) (by decide +kernel) hn (fun _ => rfl) (fun _ => Nat.le_of_ble_eq_true rfl) (fun X cx cs qx => ?_)
  have cx : Cx X cX5_hasValue RX5 ({ frames := 2, cells := 0, slots := 0, locals := 42 }) 3 n := cx
  refine g_iconst cx (pc2 := 1) dX5_hasValue_0 rfl ?_
  refine g_istore_n cx (pc2 := 2) (lv2 := [(0, .ref o), (1, .int (iI v)), (2, .int (iI 0))]) rfl (Nat.le_of_ble_eq_true rfl) dX5_hasValue_1 rfl ?_
  have L2 : ∀ (fu : Nat) (i : Int), (0 ≤ i ∧ i ≤ M o 2) → (∀ j : Nat, (j : Int) < i → ¬ M (o + 2) j = v) → (M o 2 - i).toNat ≤ fu → G X 2 [(0, .ref o), (1, .int (iI v)), (2, .int (iI i))] [] M := by
    intro fu
    induction fu using Nat.strongRecOn with
    | _ fu ih2 =>
      intro i hi hno hk2
      have hci := hcl i.toNat
      refine g_iload_n cx (pc2 := 3) 2 rfl dX5_hasValue_2 rfl ?_
      refine g_aload_n cx (pc2 := 4) 0 rfl dX5_hasValue_3 rfl ?_
      refine g_get cx (pc2 := 7) (ci := 5) (k0 := o) (j := 2) (v := .int (iI (M o 2))) rfl iwX5 (sh_pairs ho) (by omega) rfl (Nat.le_of_ble_eq_true rfl) kf_X5_9 rfl rfl dX5_hasValue_4 rfl ?_
      refine g_icmp_ge cx (pc2 := 10) (tgt := 27) ⟨(by first | assumption | omega), (by first | assumption | omega)⟩ dX5_hasValue_7 (by decide) rfl (fun h_1 => ?_) (fun h_1 => ?_)
      · skip
        refine g_iconst cx (pc2 := 28) dX5_hasValue_27 rfl ?_
        exact g_zret cx (Or.inl rfl) qx dX5_hasValue_28 ⟨rb_f (by rintro ⟨j, hj, e⟩; exact hno j (by omega) e), by rfl⟩
      · skip
        refine g_aload_n cx (pc2 := 11) 0 rfl dX5_hasValue_10 rfl ?_
        refine g_iload_n cx (pc2 := 12) 2 rfl dX5_hasValue_11 rfl ?_
        refine g_callV cx (pc2 := 15) (st := []) (As := [.int (iI i)]) (k0 := o) (ci := 5) (c_X5_valueOf (M := M) hn (by first | assumption | omega) (by first | assumption | omega) i (by first | assumption | omega)) wM_X5_valueOf wV_X5_valueOf kl_X5_36 (sh_pairs ho) (by omega) rfl ⟨rfl, rfl, Nat.le_of_ble_eq_true rfl, Nat.le_of_ble_eq_true rfl⟩ (Nat.le_of_ble_eq_true rfl) cs rfl rfl dX5_hasValue_12 rfl ?_
        rintro _ _ ⟨rfl, rfl⟩
        refine g_rwi (y := iI (M (o + 2) i.toNat)) (congrArg iI (by unfold prM; rw [if_pos (by omega)])) ?_
        refine g_iload_n cx (pc2 := 16) 1 rfl dX5_hasValue_15 rfl ?_
        refine g_icmp_ne cx (pc2 := 19) (tgt := 21) ⟨(by first | assumption | omega), (by first | assumption | omega)⟩ dX5_hasValue_16 (by decide) rfl (fun h_2 => ?_) (fun h_2 => ?_)
        · skip
          refine g_iinc cx (pc2 := 24) 2 rfl (lv2 := [(0, .ref o), (1, .int (iI v)), (2, .int (iI (i + 1)))]) rfl (Nat.le_of_ble_eq_true rfl) dX5_hasValue_21 rfl ?_
          refine g_goto cx (tgt := 2) dX5_hasValue_24 (by decide) ?_
          exact ih2 ((M o 2 - (i + 1)).toNat) (by omega) (i + 1) (by first | assumption | omega) (by intro j hj; rcases (show (j : Int) < i ∨ j = i.toNat by omega) with q | q; exact hno j q; subst q; assumption) (Nat.le_refl _)
        · skip
          refine g_iconst cx (pc2 := 20) dX5_hasValue_19 rfl ?_
          exact g_zret cx (Or.inr rfl) qx dX5_hasValue_20 ⟨rb_t (by exact ⟨i.toNat, by omega, by assumption⟩), by rfl⟩
  exact L2 _ 0 (by first | assumption | omega) (by intro j hj; omega) (Nat.le_refl _)
set_option maxHeartbeats 4000000 in
set_option maxRecDepth 100000 in
theorem c_X5_takeOut {n : Nat} (hn : NN n) {M : Mm} {o : Nat} (ho : isPairsO o) (hs : 0 ≤ M o 2 ∧ M o 2 ≤ 12) (p : Int) (hp : 0 ≤ p ∧ p < M o 2) : CT yX5_takeOut cX5_takeOut 3 none ({ frames := 1, cells := 0, slots := 0, locals := 21 }) n [.ref o, .int (iI p)] M (rV (toM M o p)) := by
  refine CT.of (lv0 := [(0, .ref o), (1, .int (iI p))]) (by decide +kernel) hn (fun _ => rfl) (fun _ => Nat.le_of_ble_eq_true rfl) (fun X cx cs qx => ?_)
  have cx : Cx X cX5_takeOut RX5 ({ frames := 1, cells := 0, slots := 0, locals := 21 }) 3 n := cx
  refine g_aload_n cx (pc2 := 1) 0 rfl dX5_takeOut_0 rfl ?_
  refine g_iload_n cx (pc2 := 2) 1 rfl dX5_takeOut_1 rfl ?_
  refine g_callV cx (pc2 := 5) (st := []) (As := [.int (iI p)]) (k0 := o) (ci := 5) (c_X5_has (M := M) hn (by first | assumption | omega) (by first | assumption | omega) p (by first | assumption | omega)) wM_X5_has wV_X5_has kl_X5_28 (sh_pairs ho) (by omega) rfl ⟨rfl, rfl, Nat.le_of_ble_eq_true rfl, Nat.le_of_ble_eq_true rfl⟩ (Nat.le_of_ble_eq_true rfl) cs rfl rfl dX5_takeOut_2 rfl ?_
  rintro _ _ ⟨rfl, rfl⟩
  refine g_ifb_ne cx (pc2 := 8) (tgt := 9) dX5_takeOut_5 (by decide) rfl (fun h_1 => ?_) (fun h_1 => ?_)
  · skip
    refine g_iload_n cx (pc2 := 10) 1 rfl dX5_takeOut_9 rfl ?_
    refine g_istore_n cx (pc2 := 11) (lv2 := [(0, .ref o), (1, .int (iI p)), (2, .int (iI p))]) rfl (Nat.le_of_ble_eq_true rfl) dX5_takeOut_10 rfl ?_
    have L11 : ∀ (fu : Nat) (i : Int), (p ≤ i ∧ i ≤ M o 2 - 1) → (M o 2 - i).toNat ≤ fu → G X 11 [(0, .ref o), (1, .int (iI p)), (2, .int (iI i))] [] (toP M o p i) := by
      intro fu
      induction fu using Nat.strongRecOn with
      | _ fu ih11 =>
        intro i hi hk11
        have ez : toP M o p i o 2 = M o 2 := by unfold toP; rw [if_neg (by omega)]
        refine g_iload_n cx (pc2 := 12) 2 rfl dX5_takeOut_11 rfl ?_
        refine g_iconst cx (pc2 := 13) dX5_takeOut_12 rfl ?_
        refine g_iadd cx (pc2 := 14) dX5_takeOut_13 rfl ?_
        refine g_aload_n cx (pc2 := 15) 0 rfl dX5_takeOut_14 rfl ?_
        refine g_get cx (pc2 := 18) (ci := 5) (k0 := o) (j := 2) (v := .int (iI ((toP M o p i) o 2))) rfl iwX5 (sh_pairs ho) (by omega) rfl (Nat.le_of_ble_eq_true rfl) kf_X5_9 rfl rfl dX5_takeOut_15 rfl ?_
        refine g_rwi (y := iI (M o 2)) (congrArg iI ez) ?_
        refine g_icmp_ge cx (pc2 := 21) (tgt := 66) ⟨(by first | assumption | omega), (by first | assumption | omega)⟩ dX5_takeOut_18 (by decide) rfl (fun h_2 => ?_) (fun h_2 => ?_)
        · skip
          refine g_aload_n cx (pc2 := 67) 0 rfl dX5_takeOut_66 rfl ?_
          refine g_dup cx (pc2 := 68) rfl dX5_takeOut_67 rfl ?_
          refine g_get cx (pc2 := 71) (ci := 5) (k0 := o) (j := 2) (v := .int (iI ((toP M o p i) o 2))) rfl iwX5 (sh_pairs ho) (by omega) rfl (Nat.le_of_ble_eq_true rfl) kf_X5_9 rfl rfl dX5_takeOut_68 rfl ?_
          refine g_rwi (y := iI (M o 2)) (congrArg iI ez) ?_
          refine g_iconst cx (pc2 := 72) dX5_takeOut_71 rfl ?_
          refine g_isub cx (pc2 := 73) dX5_takeOut_72 rfl ?_
          refine g_puti cx (pc2 := 76) (ci := 5) (k0 := o) (j := 2) rfl iwX5 (sh_pairs ho) (by omega) rfl (Nat.le_of_ble_eq_true rfl) kf_X5_9 rfl tyX5_ok nmX5 rfl rfl dX5_takeOut_73 rfl ?_
          exact g_vret cx qx dX5_takeOut_76 ⟨rfl, by rw [show i = M o 2 - 1 by omega]; rfl⟩
        · skip
          refine g_iload_n cx (pc2 := 22) 2 rfl dX5_takeOut_21 rfl ?_
          refine g_iconst cx (pc2 := 23) dX5_takeOut_22 rfl ?_
          refine g_iadd cx (pc2 := 24) dX5_takeOut_23 rfl ?_
          refine g_aload_n cx (pc2 := 25) 0 rfl dX5_takeOut_24 rfl ?_
          refine g_get cx (pc2 := 28) (ci := 5) (k0 := o) (j := 0) (v := .ref (o + 1)) rfl iwX5 (sh_pairs ho) (by omega) rfl (Nat.le_of_ble_eq_true rfl) kf_X5_21 rfl rfl dX5_takeOut_25 rfl ?_
          refine g_alen cx (pc2 := 29) (k0 := (o + 1)) (v := 12) (sh_p1 ho) (by decide) (by omega) rfl dX5_takeOut_28 rfl ?_
          refine g_icmp_ge cx (pc2 := 32) (tgt := 66) ⟨(by first | assumption | omega), ⟨by decide, by decide⟩⟩ dX5_takeOut_29 (by decide) rfl (fun h_3 => ?_) (fun h_3 => ?_)
          · skip
            refine g_aload_n cx (pc2 := 67) 0 rfl dX5_takeOut_66 rfl ?_
            refine g_dup cx (pc2 := 68) rfl dX5_takeOut_67 rfl ?_
            refine g_get cx (pc2 := 71) (ci := 5) (k0 := o) (j := 2) (v := .int (iI ((toP M o p i) o 2))) rfl iwX5 (sh_pairs ho) (by omega) rfl (Nat.le_of_ble_eq_true rfl) kf_X5_9 rfl rfl dX5_takeOut_68 rfl ?_
            refine g_rwi (y := iI (M o 2)) (congrArg iI ez) ?_
            refine g_iconst cx (pc2 := 72) dX5_takeOut_71 rfl ?_
            refine g_isub cx (pc2 := 73) dX5_takeOut_72 rfl ?_
            refine g_puti cx (pc2 := 76) (ci := 5) (k0 := o) (j := 2) rfl iwX5 (sh_pairs ho) (by omega) rfl (Nat.le_of_ble_eq_true rfl) kf_X5_9 rfl tyX5_ok nmX5 rfl rfl dX5_takeOut_73 rfl ?_
            exact g_vret cx qx dX5_takeOut_76 ⟨rfl, by rw [show i = M o 2 - 1 by omega]; rfl⟩
          · skip
            refine g_aload_n cx (pc2 := 33) 0 rfl dX5_takeOut_32 rfl ?_
            refine g_get cx (pc2 := 36) (ci := 5) (k0 := o) (j := 0) (v := .ref (o + 1)) rfl iwX5 (sh_pairs ho) (by omega) rfl (Nat.le_of_ble_eq_true rfl) kf_X5_21 rfl rfl dX5_takeOut_33 rfl ?_
            refine g_iload_n cx (pc2 := 37) 2 rfl dX5_takeOut_36 rfl ?_
            refine g_aload_n cx (pc2 := 38) 0 rfl dX5_takeOut_37 rfl ?_
            refine g_get cx (pc2 := 41) (ci := 5) (k0 := o) (j := 0) (v := .ref (o + 1)) rfl iwX5 (sh_pairs ho) (by omega) rfl (Nat.le_of_ble_eq_true rfl) kf_X5_21 rfl rfl dX5_takeOut_38 rfl ?_
            refine g_iload_n cx (pc2 := 42) 2 rfl dX5_takeOut_41 rfl ?_
            refine g_iconst cx (pc2 := 43) dX5_takeOut_42 rfl ?_
            refine g_iadd cx (pc2 := 44) dX5_takeOut_43 rfl ?_
            refine g_iald cx (pc2 := 45) (k0 := (o + 1)) (sh_p1 ho) (by omega) (by first | assumption | omega) (by first | assumption | omega) (Nat.le_of_ble_eq_true rfl) dX5_takeOut_44 rfl ?_
            refine g_rwi (y := iI ((toP M o p i) (o + 1) ((i + 1).toNat))) (congrArg iI (by simp [stM])) ?_
            refine g_iast cx (pc2 := 46) (k0 := (o + 1)) (sh_p1 ho) (by omega) (by first | assumption | omega) (by first | assumption | omega) (Nat.le_of_ble_eq_true rfl) dX5_takeOut_45 rfl ?_
            refine g_aload_n cx (pc2 := 47) 0 rfl dX5_takeOut_46 rfl ?_
            refine g_get cx (pc2 := 50) (ci := 5) (k0 := o) (j := 1) (v := .ref (o + 2)) rfl iwX5 (sh_pairs ho) (by omega) rfl (Nat.le_of_ble_eq_true rfl) kf_X5_25 rfl rfl dX5_takeOut_47 rfl ?_
            refine g_iload_n cx (pc2 := 51) 2 rfl dX5_takeOut_50 rfl ?_
            refine g_aload_n cx (pc2 := 52) 0 rfl dX5_takeOut_51 rfl ?_
            refine g_get cx (pc2 := 55) (ci := 5) (k0 := o) (j := 1) (v := .ref (o + 2)) rfl iwX5 (sh_pairs ho) (by omega) rfl (Nat.le_of_ble_eq_true rfl) kf_X5_25 rfl rfl dX5_takeOut_52 rfl ?_
            refine g_iload_n cx (pc2 := 56) 2 rfl dX5_takeOut_55 rfl ?_
            refine g_iconst cx (pc2 := 57) dX5_takeOut_56 rfl ?_
            refine g_iadd cx (pc2 := 58) dX5_takeOut_57 rfl ?_
            refine g_iald cx (pc2 := 59) (k0 := (o + 2)) (sh_p2 ho) (by omega) (by first | assumption | omega) (by first | assumption | omega) (Nat.le_of_ble_eq_true rfl) dX5_takeOut_58 rfl ?_
            refine g_rwi (y := iI ((stM (toP M o p i) (o + 1) (i).toNat ((toP M o p i) (o + 1) ((i + 1).toNat))) (o + 2) ((i + 1).toNat))) (congrArg iI (by simp [stM])) ?_
            refine g_iast cx (pc2 := 60) (k0 := (o + 2)) (sh_p2 ho) (by omega) (by first | assumption | omega) (by first | assumption | omega) (Nat.le_of_ble_eq_true rfl) dX5_takeOut_59 rfl ?_
            refine g_iinc cx (pc2 := 63) 2 rfl (lv2 := [(0, .ref o), (1, .int (iI p)), (2, .int (iI (i + 1)))]) rfl (Nat.le_of_ble_eq_true rfl) dX5_takeOut_60 rfl ?_
            refine g_goto cx (tgt := 11) dX5_takeOut_63 (by decide) ?_
            refine g_M (M2 := (toP M o p (i + 1))) (by exact toP_s (by omega) (by omega)) ?_
            exact ih11 ((M o 2 - (i + 1)).toNat) (by omega) (i + 1) (by first | assumption | omega) (Nat.le_refl _)
    refine g_M (M2 := (toP M o p p)) (by exact toP_0 M o p) ?_
    exact L11 _ p (by first | assumption | omega) (Nat.le_refl _)
  · skip
    omega
