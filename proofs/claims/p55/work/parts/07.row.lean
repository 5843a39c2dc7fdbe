/-- a row is made: n places hold v -/
def mkM (M : Mm) (o : Nat) (q v : Int) : Mm := fun a b => if a = o ∧ b = 1 then q else if a = o + 1 ∧ (b : Int) < q then v else M a b
def mkP (M : Mm) (o : Nat) (q v i : Int) : Mm := fun a b => if a = o ∧ b = 1 then q else if a = o + 1 ∧ (b : Int) < i then v else M a b
theorem mkP_0 (M : Mm) (o : Nat) (q v : Int) : stM M o 1 q = mkP M o q v 0 := by
  funext a b
  simp only [stM, mkP]
  by_cases h : a = o ∧ b = 1
  · simp [h]
  · simp only [h, if_false]
    rw [if_neg (by omega)]
theorem mkP_s (M : Mm) (o : Nat) (q v i : Int) (hi : 0 ≤ i) : stM (mkP M o q v i) (o + 1) i.toNat v = mkP M o q v (i + 1) := by
  funext a b
  simp only [stM, mkP]
  by_cases h1 : a = o + 1
  · subst h1
    by_cases h2 : b = i.toNat
    · subst h2
      simp; omega
    · simp [h2]
      by_cases h3 : (b : Int) < i
      · rw [if_pos h3, if_pos (by omega)]
      · rw [if_neg h3, if_neg (by omega)]
  · simp [h1]
theorem mkP_q (M : Mm) (o : Nat) (q v : Int) : mkP M o q v q = mkM M o q v := rfl
set_option maxHeartbeats 4000000 in
set_option maxRecDepth 100000 in
theorem c_X8_isMissing {n : Nat} (hn : NN n) {M : Mm} {o : Nat} (ho : isRowO o) (hs : -1 ≤ M o 1 ∧ M o 1 ≤ capO o) : CT yX8_isMissing cX8_isMissing 1 (some .boolean) ({ frames := 0, cells := 0, slots := 0, locals := 0 }) n [.ref o] M (rI (b2 (M o 1 < 0)) M) := by
  refine CT.of (lv0 := [(0, .ref o)]) (by decide +kernel) hn (fun _ => rfl) (fun _ => Nat.le_of_ble_eq_true rfl) (fun X cx cs qx => ?_)
  have cx : Cx X cX8_isMissing RX8 ({ frames := 0, cells := 0, slots := 0, locals := 0 }) 1 n := cx
  have hc := capO_b o
  refine g_aload_n cx (pc2 := 1) 0 rfl dX8_isMissing_0 rfl ?_
  refine g_get cx (pc2 := 4) (ci := 8) (k0 := o) (j := 1) (v := .int (iI (M o 1))) rfl iwX8 (sh_row ho) (by first | (exact kn_row hn ho) | (exact kn_row1 hn ho) | omega) rfl (Nat.le_of_ble_eq_true rfl) kf_X8_7 rfl rfl dX8_isMissing_1 rfl ?_
  refine g_if_ge cx (pc2 := 7) (tgt := 11) (by first | assumption | omega) dX8_isMissing_4 (by decide) rfl (fun h_1 => ?_) (fun h_1 => ?_)
  · skip
    refine g_iconst cx (pc2 := 12) dX8_isMissing_11 rfl ?_
    exact g_zret cx (Or.inl rfl) qx dX8_isMissing_12 ⟨rb_f (by first | assumption | omega), by rfl⟩
  · skip
    refine g_iconst cx (pc2 := 8) dX8_isMissing_7 rfl ?_
    refine g_goto cx (tgt := 12) dX8_isMissing_8 (by decide) ?_
    exact g_zret cx (Or.inr rfl) qx dX8_isMissing_12 ⟨rb_t (by first | assumption | omega), by rfl⟩
set_option maxHeartbeats 4000000 in
set_option maxRecDepth 100000 in
theorem c_X8_length {n : Nat} (hn : NN n) {M : Mm} {o : Nat} (ho : isRowO o) : CT yX8_length cX8_length 1 (some .int) ({ frames := 0, cells := 0, slots := 0, locals := 0 }) n [.ref o] M (rI (M o 1) M) := by
  refine CT.of (lv0 := [(0, .ref o)]) (by decide +kernel) hn (fun _ => rfl) (fun _ => Nat.le_of_ble_eq_true rfl) (fun X cx cs qx => ?_)
  have cx : Cx X cX8_length RX8 ({ frames := 0, cells := 0, slots := 0, locals := 0 }) 1 n := cx
  refine g_aload_n cx (pc2 := 1) 0 rfl dX8_length_0 rfl ?_
  refine g_get cx (pc2 := 4) (ci := 8) (k0 := o) (j := 1) (v := .int (iI (M o 1))) rfl iwX8 (sh_row ho) (by first | (exact kn_row hn ho) | (exact kn_row1 hn ho) | omega) rfl (Nat.le_of_ble_eq_true rfl) kf_X8_7 rfl rfl dX8_length_1 rfl ?_
  exact g_iret cx qx dX8_length_4 ⟨congrArg (fun q => some (Value.int (iI q))) (by first | rfl | omega), by rfl⟩
set_option maxHeartbeats 4000000 in
set_option maxRecDepth 100000 in
theorem c_X8_has {n : Nat} (hn : NN n) {M : Mm} {o : Nat} (ho : isRowO o) (hs : -1 ≤ M o 1 ∧ M o 1 ≤ capO o) (i : Int) (hi : ir i) : CT yX8_has cX8_has 2 (some .boolean) ({ frames := 0, cells := 0, slots := 0, locals := 0 }) n [.ref o, .int (iI i)] M (rI (b2 (0 ≤ i ∧ i < M o 1)) M) := by
  refine CT.of (lv0 := [(0, .ref o), (1, .int (iI i))]) (by decide +kernel) hn (fun _ => rfl) (fun _ => Nat.le_of_ble_eq_true rfl) (fun X cx cs qx => ?_)
  have cx : Cx X cX8_has RX8 ({ frames := 0, cells := 0, slots := 0, locals := 0 }) 2 n := cx
  have hc := capO_b o
  refine g_iload_n cx (pc2 := 1) 1 rfl dX8_has_0 rfl ?_
  refine g_if_lt cx (pc2 := 4) (tgt := 25) (by first | assumption | omega) dX8_has_1 (by decide) rfl (fun h_1 => ?_) (fun h_1 => ?_)
  · skip
    refine g_iconst cx (pc2 := 26) dX8_has_25 rfl ?_
    exact g_zret cx (Or.inl rfl) qx dX8_has_26 ⟨rb_f (by first | assumption | omega), by rfl⟩
  · skip
    refine g_iload_n cx (pc2 := 5) 1 rfl dX8_has_4 rfl ?_
    refine g_aload_n cx (pc2 := 6) 0 rfl dX8_has_5 rfl ?_
    refine g_get cx (pc2 := 9) (ci := 8) (k0 := o) (j := 1) (v := .int (iI (M o 1))) rfl iwX8 (sh_row ho) (by first | (exact kn_row hn ho) | (exact kn_row1 hn ho) | omega) rfl (Nat.le_of_ble_eq_true rfl) kf_X8_7 rfl rfl dX8_has_6 rfl ?_
    refine g_icmp_ge cx (pc2 := 12) (tgt := 25) ⟨(by first | assumption | omega), (by first | assumption | omega)⟩ dX8_has_9 (by decide) rfl (fun h_2 => ?_) (fun h_2 => ?_)
    · skip
      refine g_iconst cx (pc2 := 26) dX8_has_25 rfl ?_
      exact g_zret cx (Or.inl rfl) qx dX8_has_26 ⟨rb_f (by first | assumption | omega), by rfl⟩
    · skip
      refine g_iload_n cx (pc2 := 13) 1 rfl dX8_has_12 rfl ?_
      refine g_aload_n cx (pc2 := 14) 0 rfl dX8_has_13 rfl ?_
      refine g_get cx (pc2 := 17) (ci := 8) (k0 := o) (j := 0) (v := .ref (o + 1)) rfl iwX8 (sh_row ho) (by first | (exact kn_row hn ho) | (exact kn_row1 hn ho) | omega) rfl (Nat.le_of_ble_eq_true rfl) kf_X8_19 rfl rfl dX8_has_14 rfl ?_
      refine g_alen cx (pc2 := 18) (k0 := (o + 1)) (v := ((capO o) : Int)) (sh_cells ho) (by decide) (by first | (exact kn_row hn ho) | (exact kn_row1 hn ho) | omega) rfl dX8_has_17 rfl ?_
      refine g_icmp_ge cx (pc2 := 21) (tgt := 25) ⟨(by first | assumption | omega), (by first | assumption | omega)⟩ dX8_has_18 (by decide) rfl (fun h_3 => ?_) (fun h_3 => ?_)
      · skip
        refine g_iconst cx (pc2 := 26) dX8_has_25 rfl ?_
        exact g_zret cx (Or.inl rfl) qx dX8_has_26 ⟨rb_f (by first | assumption | omega), by rfl⟩
      · skip
        refine g_iconst cx (pc2 := 22) dX8_has_21 rfl ?_
        refine g_goto cx (tgt := 26) dX8_has_22 (by decide) ?_
        exact g_zret cx (Or.inr rfl) qx dX8_has_26 ⟨rb_t (by first | assumption | omega), by rfl⟩
set_option maxHeartbeats 4000000 in
set_option maxRecDepth 100000 in
theorem c_X8_cell {n : Nat} (hn : NN n) {M : Mm} {o : Nat} (ho : isRowO o) (hs : -1 ≤ M o 1 ∧ M o 1 ≤ capO o) (i : Int) (hi : ir i) : CT yX8_cell cX8_cell 2 (some .int) ({ frames := 1, cells := 0, slots := 0, locals := 21 }) n [.ref o, .int (iI i)] M (rI (if 0 ≤ i ∧ i < M o 1 then M (o + 1) i.toNat else 0) M) := by
  refine CT.of (lv0 := [(0, .ref o), (1, .int (iI i))]) (by decide +kernel) hn (fun _ => rfl) (fun _ => Nat.le_of_ble_eq_true rfl) (fun X cx cs qx => ?_)
  have cx : Cx X cX8_cell RX8 ({ frames := 1, cells := 0, slots := 0, locals := 21 }) 2 n := cx
  have hc := capO_b o
  refine g_aload_n cx (pc2 := 1) 0 rfl dX8_cell_0 rfl ?_
  refine g_iload_n cx (pc2 := 2) 1 rfl dX8_cell_1 rfl ?_
  refine g_callV cx (pc2 := 5) (st := []) (As := [.int (iI i)]) (k0 := o) (ci := 8) (c_X8_has (M := M) hn (by first | assumption | omega) (by first | assumption | omega) i (by first | assumption | omega)) wM_X8_has wV_X8_has kl_X8_23 (sh_row ho) (by first | (exact kn_row hn ho) | (exact kn_row1 hn ho) | omega) rfl ⟨rfl, rfl, Nat.le_of_ble_eq_true rfl, Nat.le_of_ble_eq_true rfl⟩ (Nat.le_of_ble_eq_true rfl) cs rfl rfl dX8_cell_2 rfl ?_
  rintro _ _ ⟨rfl, rfl⟩
  refine g_ifb_eq cx (pc2 := 8) (tgt := 17) dX8_cell_5 (by decide) rfl (fun h_1 => ?_) (fun h_1 => ?_)
  · skip
    refine g_iconst cx (pc2 := 18) dX8_cell_17 rfl ?_
    exact g_iret cx qx dX8_cell_18 ⟨congrArg (fun q => some (Value.int (iI q))) (by first | (rw [if_pos (by omega)]; done) | (rw [if_neg (by omega)]; done)), by rfl⟩
  · skip
    refine g_aload_n cx (pc2 := 9) 0 rfl dX8_cell_8 rfl ?_
    refine g_get cx (pc2 := 12) (ci := 8) (k0 := o) (j := 0) (v := .ref (o + 1)) rfl iwX8 (sh_row ho) (by first | (exact kn_row hn ho) | (exact kn_row1 hn ho) | omega) rfl (Nat.le_of_ble_eq_true rfl) kf_X8_19 rfl rfl dX8_cell_9 rfl ?_
    refine g_iload_n cx (pc2 := 13) 1 rfl dX8_cell_12 rfl ?_
    refine g_iald cx (pc2 := 14) (k0 := (o + 1)) (sh_cells ho) (by first | (exact kn_row hn ho) | (exact kn_row1 hn ho) | omega) (by first | assumption | omega) (by first | assumption | omega) (by exact capO_le _) dX8_cell_13 rfl ?_
    refine g_rwi (y := iI (M (o + 1) ((i).toNat))) (congrArg iI (by simp [stM])) ?_
    refine g_goto cx (tgt := 18) dX8_cell_14 (by decide) ?_
    exact g_iret cx qx dX8_cell_18 ⟨congrArg (fun q => some (Value.int (iI q))) (by first | (rw [if_pos (by omega)]; done) | (rw [if_neg (by omega)]; done)), by rfl⟩
set_option maxHeartbeats 4000000 in
set_option maxRecDepth 100000 in
theorem c_X8_set {n : Nat} (hn : NN n) {M : Mm} {o : Nat} (ho : isRowO o) (hs : -1 ≤ M o 1 ∧ M o 1 ≤ capO o) (i v : Int) (hi : ir i) : CT yX8_set cX8_set 3 none ({ frames := 1, cells := 0, slots := 0, locals := 21 }) n [.ref o, .int (iI i), .int (iI v)] M (rV (if 0 ≤ i ∧ i < M o 1 then stM M (o + 1) i.toNat v else M)) := by
  refine CT.of (lv0 := [(0, .ref o), (1, .int (iI i)), (2, .int (iI v))]) (by decide +kernel) hn (fun _ => rfl) (fun _ => Nat.le_of_ble_eq_true rfl) (fun X cx cs qx => ?_)
  have cx : Cx X cX8_set RX8 ({ frames := 1, cells := 0, slots := 0, locals := 21 }) 3 n := cx
  have hc := capO_b o
  refine g_aload_n cx (pc2 := 1) 0 rfl dX8_set_0 rfl ?_
  refine g_iload_n cx (pc2 := 2) 1 rfl dX8_set_1 rfl ?_
  refine g_callV cx (pc2 := 5) (st := []) (As := [.int (iI i)]) (k0 := o) (ci := 8) (c_X8_has (M := M) hn (by first | assumption | omega) (by first | assumption | omega) i (by first | assumption | omega)) wM_X8_has wV_X8_has kl_X8_23 (sh_row ho) (by first | (exact kn_row hn ho) | (exact kn_row1 hn ho) | omega) rfl ⟨rfl, rfl, Nat.le_of_ble_eq_true rfl, Nat.le_of_ble_eq_true rfl⟩ (Nat.le_of_ble_eq_true rfl) cs rfl rfl dX8_set_2 rfl ?_
  rintro _ _ ⟨rfl, rfl⟩
  refine g_ifb_eq cx (pc2 := 8) (tgt := 15) dX8_set_5 (by decide) rfl (fun h_1 => ?_) (fun h_1 => ?_)
  · skip
    exact g_vret cx qx dX8_set_15 ⟨rfl, by first | (rw [if_pos (by omega)]; done) | (rw [if_neg (by omega)]; done)⟩
  · skip
    refine g_aload_n cx (pc2 := 9) 0 rfl dX8_set_8 rfl ?_
    refine g_get cx (pc2 := 12) (ci := 8) (k0 := o) (j := 0) (v := .ref (o + 1)) rfl iwX8 (sh_row ho) (by first | (exact kn_row hn ho) | (exact kn_row1 hn ho) | omega) rfl (Nat.le_of_ble_eq_true rfl) kf_X8_19 rfl rfl dX8_set_9 rfl ?_
    refine g_iload_n cx (pc2 := 13) 1 rfl dX8_set_12 rfl ?_
    refine g_iload_n cx (pc2 := 14) 2 rfl dX8_set_13 rfl ?_
    refine g_iast cx (pc2 := 15) (k0 := (o + 1)) (sh_cells ho) (by first | (exact kn_row hn ho) | (exact kn_row1 hn ho) | omega) (by first | assumption | omega) (by first | assumption | omega) (by exact capO_le _) dX8_set_14 rfl ?_
    exact g_vret cx qx dX8_set_15 ⟨rfl, by first | (rw [if_pos (by omega)]; done) | (rw [if_neg (by omega)]; done)⟩
set_option maxHeartbeats 4000000 in
set_option maxRecDepth 100000 in
theorem c_X8_make {n : Nat} (hn : NN n) {M : Mm} {o : Nat} (ho : isRowO o) (q v : Int) (hq : ir q) : CT yX8_make cX8_make 4 none ({ frames := 0, cells := 0, slots := 0, locals := 0 }) n [.ref o, .int (iI q), .int (iI v)] M (rV (if q < 0 ∨ (capO o : Int) < q then M else mkM M o q v)) := by
  refine CT.of (lv0 := [(0, .ref o), (1, .int (iI q)), (2, .int (iI v))]) (by decide +kernel) hn (fun _ => rfl) (fun _ => Nat.le_of_ble_eq_true rfl) (fun X cx cs qx => ?_)
  have cx : Cx X cX8_make RX8 ({ frames := 0, cells := 0, slots := 0, locals := 0 }) 4 n := cx
  have hc := capO_b o
  refine g_iload_n cx (pc2 := 1) 1 rfl dX8_make_0 rfl ?_
  refine g_if_lt cx (pc2 := 4) (tgt := 13) (by first | assumption | omega) dX8_make_1 (by decide) rfl (fun h_1 => ?_) (fun h_1 => ?_)
  · skip
    exact g_vret cx qx dX8_make_13 ⟨rfl, by first | (rw [if_pos (by omega)]; done) | (rw [if_neg (by omega)]; have e : i = q := (by omega); subst e; rfl)⟩
  · skip
    refine g_iload_n cx (pc2 := 5) 1 rfl dX8_make_4 rfl ?_
    refine g_aload_n cx (pc2 := 6) 0 rfl dX8_make_5 rfl ?_
    refine g_get cx (pc2 := 9) (ci := 8) (k0 := o) (j := 0) (v := .ref (o + 1)) rfl iwX8 (sh_row ho) (by first | (exact kn_row hn ho) | (exact kn_row1 hn ho) | omega) rfl (Nat.le_of_ble_eq_true rfl) kf_X8_19 rfl rfl dX8_make_6 rfl ?_
    refine g_alen cx (pc2 := 10) (k0 := (o + 1)) (v := ((capO o) : Int)) (sh_cells ho) (by decide) (by first | (exact kn_row hn ho) | (exact kn_row1 hn ho) | omega) rfl dX8_make_9 rfl ?_
    refine g_icmp_le cx (pc2 := 13) (tgt := 14) ⟨(by first | assumption | omega), (by first | assumption | omega)⟩ dX8_make_10 (by decide) rfl (fun h_2 => ?_) (fun h_2 => ?_)
    · skip
      refine g_aload_n cx (pc2 := 15) 0 rfl dX8_make_14 rfl ?_
      refine g_iload_n cx (pc2 := 16) 1 rfl dX8_make_15 rfl ?_
      refine g_puti cx (pc2 := 19) (ci := 8) (k0 := o) (j := 1) rfl iwX8 (sh_row ho) (by first | (exact kn_row hn ho) | (exact kn_row1 hn ho) | omega) rfl (Nat.le_of_ble_eq_true rfl) kf_X8_7 rfl tyX8_ok nmX8 rfl rfl dX8_make_16 rfl ?_
      refine g_iconst cx (pc2 := 20) dX8_make_19 rfl ?_
      refine g_istore_n cx (pc2 := 21) (lv2 := [(0, .ref o), (1, .int (iI q)), (2, .int (iI v)), (3, .int (iI 0))]) rfl (Nat.le_of_ble_eq_true rfl) dX8_make_20 rfl ?_
      have L21 : ∀ (fu : Nat) (i : Int), (0 ≤ i ∧ i ≤ q) → (q - i).toNat ≤ fu → G X 21 [(0, .ref o), (1, .int (iI q)), (2, .int (iI v)), (3, .int (iI i))] [] (mkP M o q v i) := by
        intro fu
        induction fu using Nat.strongRecOn with
        | _ fu ih21 =>
          intro i hi0 hk21
          refine g_iload_n cx (pc2 := 22) 3 rfl dX8_make_21 rfl ?_
          refine g_iload_n cx (pc2 := 23) 1 rfl dX8_make_22 rfl ?_
          refine g_icmp_ge cx (pc2 := 26) (tgt := 39) ⟨(by first | assumption | omega), (by first | assumption | omega)⟩ dX8_make_23 (by decide) rfl (fun h_3 => ?_) (fun h_3 => ?_)
          · skip
            exact g_vret cx qx dX8_make_39 ⟨rfl, by first | (rw [if_pos (by omega)]; done) | (rw [if_neg (by omega)]; have e : i = q := (by omega); subst e; rfl)⟩
          · skip
            refine g_aload_n cx (pc2 := 27) 0 rfl dX8_make_26 rfl ?_
            refine g_get cx (pc2 := 30) (ci := 8) (k0 := o) (j := 0) (v := .ref (o + 1)) rfl iwX8 (sh_row ho) (by first | (exact kn_row hn ho) | (exact kn_row1 hn ho) | omega) rfl (Nat.le_of_ble_eq_true rfl) kf_X8_19 rfl rfl dX8_make_27 rfl ?_
            refine g_iload_n cx (pc2 := 31) 3 rfl dX8_make_30 rfl ?_
            refine g_iload_n cx (pc2 := 32) 2 rfl dX8_make_31 rfl ?_
            refine g_iast cx (pc2 := 33) (k0 := (o + 1)) (sh_cells ho) (by first | (exact kn_row hn ho) | (exact kn_row1 hn ho) | omega) (by first | assumption | omega) (by first | assumption | omega) (by exact capO_le _) dX8_make_32 rfl ?_
            refine g_iinc cx (pc2 := 36) 3 rfl (lv2 := [(0, .ref o), (1, .int (iI q)), (2, .int (iI v)), (3, .int (iI (i + 1)))]) rfl (Nat.le_of_ble_eq_true rfl) dX8_make_33 rfl ?_
            refine g_goto cx (tgt := 21) dX8_make_36 (by decide) ?_
            refine g_M (M2 := (mkP M o q v (i + 1))) (by exact mkP_s M o q v i (by omega)) ?_
            exact ih21 ((q - (i + 1)).toNat) (by omega) (i + 1) (by first | assumption | omega) (Nat.le_refl _)
      refine g_M (M2 := (mkP M o q v 0)) (by exact mkP_0 M o q v) ?_
      exact L21 _ 0 (by first | assumption | omega) (Nat.le_refl _)
    · skip
      exact g_vret cx qx dX8_make_13 ⟨rfl, by first | (rw [if_pos (by omega)]; done) | (rw [if_neg (by omega)]; have e : i = q := (by omega); subst e; rfl)⟩
