/-- a row is made: n places hold v -/
def mkM (M : Mm) (o : Nat) (q v : Int) : Mm := fun a b => if a = o ∧ b = 1 then q else if a = o + 1 ∧ (b : Int) < q then v else M a b
def mkP (M : Mm) (o : Nat) (q v i : Int) : Mm := fun a b => if a = o ∧ b = 1 then q else if a = o + 1 ∧ (b : Int) < i then v else M a b
theorem mkP_0 (M : Mm) (o : Nat) (q v : Int) : stM M o 1 q = mkP M o q v 0 := by
  funext a b
  simp only [stM, mkP]
  by_cases h : a = o ∧ b = 1
  · simp [h]
  · simp only [h, if_false]
    rw [if_neg (by omega)]
theorem mkP_s (M : Mm) (o : Nat) (q v i : Int) (hi : 0 ≤ i) : stM (mkP M o q v i) (o + 1) i.toNat v = mkP M o q v (i + 1) := by
  funext a b
  simp only [stM, mkP]
  by_cases h1 : a = o + 1
  · subst h1
    by_cases h2 : b = i.toNat
    · subst h2
      simp; omega
    · simp [h2]
      by_cases h3 : (b : Int) < i
      · rw [if_pos h3, if_pos (by omega)]
      · rw [if_neg h3, if_neg (by omega)]
  · simp [h1]
theorem mkP_q (M : Mm) (o : Nat) (q v : Int) : mkP M o q v q = mkM M o q v := rfl
set_option maxHeartbeats 4000000 in
set_option maxRecDepth 100000 in
theorem c_X8_isMissing {n : Nat} (hn : NN n) {M : Mm} {o : Nat} (ho : isRowO o) (hs : -1 ≤ M o 1 ∧ M o 1 ≤ capO o) : CT yX8_isMissing cX8_isMissing 1 (some .boolean) ({ frames := 0, cells := 0, slots := 0, locals := 0 }) n [.ref o] M (rI (b2 (M o 1 < 0)) M) := by
  refine CT.of (lv0 := [(0, .ref o)]) (by decide +kernel) hn (fun _ => rfl) (fun _ => Nat.le_of_ble_eq_true rfl) (fun X cx cs qx => ?_)
  have cx : Cx X cX8_isMissing RX8 ({ frames := 0, cells := 0, slots := 0, locals := 0 }) 1 n := cx
  have hc := capO_b o
  refine g_aload_n cx (pc2 := 1) 0 rfl dX8_isMissing_0 rfl ?_
  refine g_get cx (pc2 := 4) (ci := 8) (k0 := o) (j := 1) (v := .int (iI (M o 1))) rfl iwX8 (sh_row ho) (by first | (exact kn_row hn ho) | (exact kn_row1 hn ho) | omega) rfl (Nat.le_of_ble_eq_true rfl) kf_X8_7 rfl rfl dX8_isMissing_1 rfl ?_
  refine g_if_ge cx (pc2 := 7) (tgt := 11) (by first | assumption | omega) dX8_isMissing_4 (by decide) rfl (fun h_1 => ?_) (fun h_1 => ?_)
  · skip
    refine g_iconst cx (pc2 := 12) dX8_isMissing_11 rfl ?_
    exact g_zret cx (Or.inl rfl) qx dX8_isMissing_12 ⟨rb_f (by first | assumption | omega), by rfl⟩
  · skip
    refine g_iconst cx (pc2 := 8) dX8_isMissing_7 rfl ?_
    refine g_goto cx (tgt := 12) dX8_isMissing_8 (by decide) ?_
    exact g_zret cx (Or.inr rfl) qx dX8_isMissing_12 ⟨rb_t (by first | assumption | omega), by rfl⟩
set_option maxHeartbeats 4000000 in
set_option maxRecDepth 100000 in
theorem c_X8_length {n : Nat} (hn : NN n) {M : Mm} {o : Nat} (ho : isRowO o) : CT yX8_length cX8_length 1 (some .int) ({ frames := 0, cells := 0, slots := 0, locals := 0 }) n [.ref o] M (rI (M o 1) M) := by
  refine CT.of (lv0 := [(0, .ref o)]) (by decide +kernel) hn (fun _ => rfl) (fun _ => Nat.le_of_ble_eq_true rfl) (fun X cx cs qx => ?_)
  have cx : Cx X cX8_length RX8 ({ frames := 0, cells := 0, slots := 0, locals := 0 }) 1 n := cx
  refine g_aload_n cx (pc2 := 1) 0 rfl dX8_length_0 rfl ?_
  refine g_get cx (pc2 := 4) (ci := 8) (k0 := o) (j := 1) (v := .int (iI (M o 1))) rfl iwX8 (sh_row ho) (by first | (exact kn_row hn ho) | (exact kn_row1 hn ho) | omega) rfl (Nat.le_of_ble_eq_true rfl) kf_X8_7 rfl rfl dX8_length_1 rfl ?_
  exact g_iret cx qx dX8_length_4 ⟨congrArg (fun q => some (Value.int (iI q))) (by first | rfl | omega), by rfl⟩
set_option maxHeartbeats 4000000 in
set_option maxRecDepth 100000 in
theorem c_X8_has {n : Nat} (hn : NN n) {M : Mm} {o : Nat} (ho : isRowO o) (hs : -1 ≤ M o 1 ∧ M o 1 ≤ capO o) (i : Int) (hi : ir i) : CT yX8_has cX8_has 2 (some .boolean) ({ frames := 0, cells := 0, slots := 0, locals := 0 }) n [.ref o, .int (iI i)] M (rI (b2 (0 ≤ i ∧ i < M o 1)) M) := by
  refine CT.of (lv0 := [(0, .ref o), (1, .int (iI i))]) (by decide +kernel) hn (fun _ => rfl) (fun _ => Nat.le_of_ble_eq_true rfl) (fun X cx cs qx => ?_)
  have cx : Cx X cX8_has RX8 ({ frames := 0, cells := 0, slots := 0, locals := 0 }) 2 n := cx
  have hc := capO_b o
  refine g_iload_n cx (pc2 := 1) 1 rfl dX8_has_0 rfl ?_
  refine g_if_lt cx (pc2 := 4) (tgt := 25) (by first | assumption | omega) dX8_has_1 (by decide) rfl (fun h_1 => ?_) (fun h_1 => ?_)
  · skip
    refine g_iconst cx (pc2 := 26) dX8_has_25 rfl ?_
    exact g_zret cx (Or.inl rfl) qx dX8_has_26 ⟨rb_f (by first | assumption | omega), by rfl⟩
  · skip
    refine g_iload_n cx (pc2 := 5) 1 rfl dX8_has_4 rfl ?_
    refine g_aload_n cx (pc2 := 6) 0 rfl dX8_has_5 rfl ?_
    refine g_get cx (pc2 := 9) (ci := 8) (k0 := o) (j := 1) (v := .int (iI (M o 1))) rfl iwX8 (sh_row ho) (by first | (exact kn_row hn ho) | (exact kn_row1 hn ho) | omega) rfl (Nat.le_of_ble_eq_true rfl) kf_X8_7 rfl rfl dX8_has_6 rfl ?_
    refine g_icmp_ge cx (pc2 := 12) (tgt := 25) ⟨(by first | assumption | omega), (by first | assumption | omega)⟩ dX8_has_9 (by decide) rfl (fun h_2 => ?_) (fun h_2 => ?_)
    · skip
      refine g_iconst cx (pc2 := 26) dX8_has_25 rfl ?_
      exact g_zret cx (Or.inl rfl) qx dX8_has_26 ⟨rb_f (by first | assumption | omega), by rfl⟩
    · skip
      refine g_iload_n cx (pc2 := 13) 1 rfl dX8_has_12 rfl ?_
      refine g_aload_n cx (pc2 := 14) 0 rfl dX8_has_13 rfl ?_
      refine g_get cx (pc2 := 17) (ci := 8) (k0 := o) (j := 0) (v := .ref (o + 1)) rfl iwX8 (sh_row ho) (by first | (exact kn_row hn ho) | (exact kn_row1 hn ho) | omega) rfl (Nat.le_of_ble_eq_true rfl) kf_X8_19 rfl rfl dX8_has_14 rfl ?_
      refine g_alen cx (pc2 := 18) (k0 := (o + 1)) (v := ((capO o) : Int)) (sh_cells ho) (by decide) (by first | (exact kn_row hn ho) | (exact kn_row1 hn ho) | omega) rfl dX8_has_17 rfl ?_
      refine g_icmp_ge cx (pc2 := 21) (tgt := 25) ⟨(by first | assumption | omega), (by first | assumption | omega)⟩ dX8_has_18 (by decide) rfl (fun h_3 => ?_) (fun h_3 => ?_)
      · skip
        refine g_iconst cx (pc2 := 26) dX8_has_25 rfl ?_
        exact g_zret cx (Or.inl rfl) qx dX8_has_26 ⟨rb_f (by first | assumption | omega), by rfl⟩
      · skip
        refine g_iconst cx (pc2 := 22) dX8_has_21 rfl ?_
        refine g_goto cx (tgt := 26) dX8_has_22 (by decide) ?_
        exact g_zret cx (Or.inr rfl) qx dX8_has_26 ⟨rb_t (by first | assumption | omega), by rfl⟩
set_option maxHeartbeats 4000000 in
set_option maxRecDepth 100000 in
theorem c_X8_hasPart {n : Nat} (hn : NN n) {M : Mm} {o : Nat} (ho : isRowO o) (hs : -1 ≤ M o 1 ∧ M o 1 ≤ capO o) (i q : Int) (hi : ir i) (hq : ir q) : CT yX8_hasPart cX8_hasPart 3 (some .boolean) ({ frames := 0, cells := 0, slots := 0, locals := 0 }) n [.ref o, .int (iI i), .int (iI q)] M (rI (b2 (0 ≤ i ∧ i ≤ M o 1 ∧ 0 ≤ q ∧ q ≤ M o 1 - i)) M) := by
  refine CT.of (lv0 := [(0, .ref o), (1, .int (iI i)), (2, .int (iI q))]) (by decide +kernel) hn (fun _ => rfl) (fun _ => Nat.le_of_ble_eq_true rfl) (fun X cx cs qx => ?_)
  have cx : Cx X cX8_hasPart RX8 ({ frames := 0, cells := 0, slots := 0, locals := 0 }) 3 n := cx
  have hc := capO_b o
  refine g_iload_n cx (pc2 := 1) 1 rfl dX8_hasPart_0 rfl ?_
  refine g_if_lt cx (pc2 := 4) (tgt := 30) (by first | assumption | omega) dX8_hasPart_1 (by decide) rfl (fun h_1 => ?_) (fun h_1 => ?_)
  · skip
    refine g_iconst cx (pc2 := 31) dX8_hasPart_30 rfl ?_
    exact g_zret cx (Or.inl rfl) qx dX8_hasPart_31 ⟨rb_f (by first | assumption | omega), by rfl⟩
  · skip
    refine g_iload_n cx (pc2 := 5) 1 rfl dX8_hasPart_4 rfl ?_
    refine g_aload_n cx (pc2 := 6) 0 rfl dX8_hasPart_5 rfl ?_
    refine g_get cx (pc2 := 9) (ci := 8) (k0 := o) (j := 1) (v := .int (iI (M o 1))) rfl iwX8 (sh_row ho) (by first | (exact kn_row hn ho) | (exact kn_row1 hn ho) | omega) rfl (Nat.le_of_ble_eq_true rfl) kf_X8_7 rfl rfl dX8_hasPart_6 rfl ?_
    refine g_icmp_gt cx (pc2 := 12) (tgt := 30) ⟨(by first | assumption | omega), (by first | assumption | omega)⟩ dX8_hasPart_9 (by decide) rfl (fun h_2 => ?_) (fun h_2 => ?_)
    · skip
      refine g_iconst cx (pc2 := 31) dX8_hasPart_30 rfl ?_
      exact g_zret cx (Or.inl rfl) qx dX8_hasPart_31 ⟨rb_f (by first | assumption | omega), by rfl⟩
    · skip
      refine g_iload_n cx (pc2 := 13) 2 rfl dX8_hasPart_12 rfl ?_
      refine g_if_lt cx (pc2 := 16) (tgt := 30) (by first | assumption | omega) dX8_hasPart_13 (by decide) rfl (fun h_3 => ?_) (fun h_3 => ?_)
      · skip
        refine g_iconst cx (pc2 := 31) dX8_hasPart_30 rfl ?_
        exact g_zret cx (Or.inl rfl) qx dX8_hasPart_31 ⟨rb_f (by first | assumption | omega), by rfl⟩
      · skip
        refine g_iload_n cx (pc2 := 17) 2 rfl dX8_hasPart_16 rfl ?_
        refine g_aload_n cx (pc2 := 18) 0 rfl dX8_hasPart_17 rfl ?_
        refine g_get cx (pc2 := 21) (ci := 8) (k0 := o) (j := 1) (v := .int (iI (M o 1))) rfl iwX8 (sh_row ho) (by first | (exact kn_row hn ho) | (exact kn_row1 hn ho) | omega) rfl (Nat.le_of_ble_eq_true rfl) kf_X8_7 rfl rfl dX8_hasPart_18 rfl ?_
        refine g_iload_n cx (pc2 := 22) 1 rfl dX8_hasPart_21 rfl ?_
        refine g_isub cx (pc2 := 23) dX8_hasPart_22 rfl ?_
        refine g_icmp_gt cx (pc2 := 26) (tgt := 30) ⟨(by first | assumption | omega), (by first | assumption | omega)⟩ dX8_hasPart_23 (by decide) rfl (fun h_4 => ?_) (fun h_4 => ?_)
        · skip
          refine g_iconst cx (pc2 := 31) dX8_hasPart_30 rfl ?_
          exact g_zret cx (Or.inl rfl) qx dX8_hasPart_31 ⟨rb_f (by first | assumption | omega), by rfl⟩
        · skip
          refine g_iconst cx (pc2 := 27) dX8_hasPart_26 rfl ?_
          refine g_goto cx (tgt := 31) dX8_hasPart_27 (by decide) ?_
          exact g_zret cx (Or.inr rfl) qx dX8_hasPart_31 ⟨rb_t (by first | assumption | omega), by rfl⟩
set_option maxHeartbeats 4000000 in
set_option maxRecDepth 100000 in
theorem c_X8_cell {n : Nat} (hn : NN n) {M : Mm} {o : Nat} (ho : isRowO o) (hs : -1 ≤ M o 1 ∧ M o 1 ≤ capO o) (i : Int) (hi : ir i) : CT yX8_cell cX8_cell 2 (some .int) ({ frames := 1, cells := 0, slots := 0, locals := 21 }) n [.ref o, .int (iI i)] M (rI (if 0 ≤ i ∧ i < M o 1 then M (o + 1) i.toNat else 0) M) := by
  refine CT.of (lv0 := [(0, .ref o), (1, .int (iI i))]) (by decide +kernel) hn (fun _ => rfl) (fun _ => Nat.le_of_ble_eq_true rfl) (fun X cx cs qx => ?_)
  have cx : Cx X cX8_cell RX8 ({ frames := 1, cells := 0, slots := 0, locals := 21 }) 2 n := cx
  have hc := capO_b o
  refine g_aload_n cx (pc2 := 1) 0 rfl dX8_cell_0 rfl ?_
  refine g_iload_n cx (pc2 := 2) 1 rfl dX8_cell_1 rfl ?_
  refine g_callV cx (pc2 := 5) (st := []) (As := [.int (iI i)]) (k0 := o) (ci := 8) (c_X8_has (M := M) hn (by first | assumption | omega) (by first | assumption | omega) i (by first | assumption | omega)) wM_X8_has wV_X8_has kl_X8_23 (sh_row ho) (by first | (exact kn_row hn ho) | (exact kn_row1 hn ho) | omega) rfl ⟨rfl, rfl, Nat.le_of_ble_eq_true rfl, Nat.le_of_ble_eq_true rfl⟩ (Nat.le_of_ble_eq_true rfl) cs rfl rfl dX8_cell_2 rfl ?_
  rintro _ _ ⟨rfl, rfl⟩
  refine g_ifb_eq cx (pc2 := 8) (tgt := 17) dX8_cell_5 (by decide) rfl (fun h_1 => ?_) (fun h_1 => ?_)
  · skip
    refine g_iconst cx (pc2 := 18) dX8_cell_17 rfl ?_
    exact g_iret cx qx dX8_cell_18 ⟨congrArg (fun q => some (Value.int (iI q))) (by first | (rw [if_pos (by omega)]; done) | (rw [if_neg (by omega)]; done)), by rfl⟩
  · skip
    refine g_aload_n cx (pc2 := 9) 0 rfl dX8_cell_8 rfl ?_
    refine g_get cx (pc2 := 12) (ci := 8) (k0 := o) (j := 0) (v := .ref (o + 1)) rfl iwX8 (sh_row ho) (by first | (exact kn_row hn ho) | (exact kn_row1 hn ho) | omega) rfl (Nat.le_of_ble_eq_true rfl) kf_X8_19 rfl rfl dX8_cell_9 rfl ?_
    refine g_iload_n cx (pc2 := 13) 1 rfl dX8_cell_12 rfl ?_
    refine g_iald cx (pc2 := 14) (k0 := (o + 1)) (sh_cells ho) (by first | (exact kn_row hn ho) | (exact kn_row1 hn ho) | omega) (by first | assumption | omega) (by first | assumption | omega) (by exact capO_le _) dX8_cell_13 rfl ?_
    refine g_rwi (y := iI (M (o + 1) ((i).toNat))) (congrArg iI (by simp [stM])) ?_
    refine g_goto cx (tgt := 18) dX8_cell_14 (by decide) ?_
    exact g_iret cx qx dX8_cell_18 ⟨congrArg (fun q => some (Value.int (iI q))) (by first | (rw [if_pos (by omega)]; done) | (rw [if_neg (by omega)]; done)), by rfl⟩
set_option maxHeartbeats 4000000 in
set_option maxRecDepth 100000 in
theorem c_X8_set {n : Nat} (hn : NN n) {M : Mm} {o : Nat} (ho : isRowO o) (hs : -1 ≤ M o 1 ∧ M o 1 ≤ capO o) (i v : Int) (hi : ir i) : CT yX8_set cX8_set 3 none ({ frames := 1, cells := 0, slots := 0, locals := 21 }) n [.ref o, .int (iI i), .int (iI v)] M (rV (if 0 ≤ i ∧ i < M o 1 then stM M (o + 1) i.toNat v else M)) := by
  refine CT.of (lv0 := [(0, .ref o), (1, .int (iI i)), (2, .int (iI v))]) (by decide +kernel) hn (fun _ => rfl) (fun _ => Nat.le_of_ble_eq_true rfl) (fun X cx cs qx => ?_)
  have cx : Cx X cX8_set RX8 ({ frames := 1, cells := 0, slots := 0, locals := 21 }) 3 n := cx
  have hc := capO_b o
  refine g_aload_n cx (pc2 := 1) 0 rfl dX8_set_0 rfl ?_
  refine g_iload_n cx (pc2 := 2) 1 rfl dX8_set_1 rfl ?_
  refine g_callV cx (pc2 := 5) (st := []) (As := [.int (iI i)]) (k0 := o) (ci := 8) (c_X8_has (M := M) hn (by first | assumption | omega) (by first | assumption | omega) i (by first | assumption | omega)) wM_X8_has wV_X8_has kl_X8_23 (sh_row ho) (by first | (exact kn_row hn ho) | (exact kn_row1 hn ho) | omega) rfl ⟨rfl, rfl, Nat.le_of_ble_eq_true rfl, Nat.le_of_ble_eq_true rfl⟩ (Nat.le_of_ble_eq_true rfl) cs rfl rfl dX8_set_2 rfl ?_
  rintro _ _ ⟨rfl, rfl⟩
  refine g_ifb_eq cx (pc2 := 8) (tgt := 15) dX8_set_5 (by decide) rfl (fun h_1 => ?_) (fun h_1 => ?_)
  · skip
    exact g_vret cx qx dX8_set_15 ⟨rfl, by first | (rw [if_pos (by omega)]; done) | (rw [if_neg (by omega)]; done)⟩
  · skip
    refine g_aload_n cx (pc2 := 9) 0 rfl dX8_set_8 rfl ?_
    refine g_get cx (pc2 := 12) (ci := 8) (k0 := o) (j := 0) (v := .ref (o + 1)) rfl iwX8 (sh_row ho) (by first | (exact kn_row hn ho) | (exact kn_row1 hn ho) | omega) rfl (Nat.le_of_ble_eq_true rfl) kf_X8_19 rfl rfl dX8_set_9 rfl ?_
    refine g_iload_n cx (pc2 := 13) 1 rfl dX8_set_12 rfl ?_
    refine g_iload_n cx (pc2 := 14) 2 rfl dX8_set_13 rfl ?_
    refine g_iast cx (pc2 := 15) (k0 := (o + 1)) (sh_cells ho) (by first | (exact kn_row hn ho) | (exact kn_row1 hn ho) | omega) (by first | assumption | omega) (by first | assumption | omega) (by exact capO_le _) dX8_set_14 rfl ?_
    exact g_vret cx qx dX8_set_15 ⟨rfl, by first | (rw [if_pos (by omega)]; done) | (rw [if_neg (by omega)]; done)⟩
set_option maxHeartbeats 4000000 in
set_option maxRecDepth 100000 in
theorem c_X8_lose {n : Nat} (hn : NN n) {M : Mm} {o : Nat} (ho : isRowO o) : CT yX8_lose cX8_lose 1 none ({ frames := 0, cells := 0, slots := 0, locals := 0 }) n [.ref o] M (rV (stM M o 1 (-1))) := by
  refine CT.of (lv0 := [(0, .ref o)]) (by decide +kernel) hn (fun _ => rfl) (fun _ => Nat.le_of_ble_eq_true rfl) (fun X cx cs qx => ?_)
  have cx : Cx X cX8_lose RX8 ({ frames := 0, cells := 0, slots := 0, locals := 0 }) 1 n := cx
  refine g_aload_n cx (pc2 := 1) 0 rfl dX8_lose_0 rfl ?_
  refine g_iconst cx (pc2 := 2) dX8_lose_1 rfl ?_
  refine g_puti cx (pc2 := 5) (ci := 8) (k0 := o) (j := 1) rfl iwX8 (sh_row ho) (by first | (exact kn_row hn ho) | (exact kn_row1 hn ho) | omega) rfl (Nat.le_of_ble_eq_true rfl) kf_X8_7 rfl tyX8_ok nmX8 rfl rfl dX8_lose_2 rfl ?_
  exact g_vret cx qx dX8_lose_5 ⟨rfl, by rfl⟩
set_option maxHeartbeats 4000000 in
set_option maxRecDepth 100000 in
theorem c_X8_make {n : Nat} (hn : NN n) {M : Mm} {o : Nat} (ho : isRowO o) (q v : Int) (hq : ir q) : CT yX8_make cX8_make 4 none ({ frames := 0, cells := 0, slots := 0, locals := 0 }) n [.ref o, .int (iI q), .int (iI v)] M (rV (if q < 0 ∨ (capO o : Int) < q then M else mkM M o q v)) := by
  refine CT.of (lv0 := [(0, .ref o), (1, .int (iI q)), (2, .int (iI v))]) (by decide +kernel) hn (fun _ => rfl) (fun _ => Nat.le_of_ble_eq_true rfl) (fun X cx cs qx => ?_)
  have cx : Cx X cX8_make RX8 ({ frames := 0, cells := 0, slots := 0, locals := 0 }) 4 n := cx
  have hc := capO_b o
  refine g_iload_n cx (pc2 := 1) 1 rfl dX8_make_0 rfl ?_
  refine g_if_lt cx (pc2 := 4) (tgt := 13) (by first | assumption | omega) dX8_make_1 (by decide) rfl (fun h_1 => ?_) (fun h_1 => ?_)
  · skip
    exact g_vret cx qx dX8_make_13 ⟨rfl, by first | (rw [if_pos (by omega)]; done) | (rw [if_neg (by omega)]; have e : i = q := (by omega); subst e; rfl)⟩
  · skip
    refine g_iload_n cx (pc2 := 5) 1 rfl dX8_make_4 rfl ?_
    refine g_aload_n cx (pc2 := 6) 0 rfl dX8_make_5 rfl ?_
    refine g_get cx (pc2 := 9) (ci := 8) (k0 := o) (j := 0) (v := .ref (o + 1)) rfl iwX8 (sh_row ho) (by first | (exact kn_row hn ho) | (exact kn_row1 hn ho) | omega) rfl (Nat.le_of_ble_eq_true rfl) kf_X8_19 rfl rfl dX8_make_6 rfl ?_
    refine g_alen cx (pc2 := 10) (k0 := (o + 1)) (v := ((capO o) : Int)) (sh_cells ho) (by decide) (by first | (exact kn_row hn ho) | (exact kn_row1 hn ho) | omega) rfl dX8_make_9 rfl ?_
    refine g_icmp_le cx (pc2 := 13) (tgt := 14) ⟨(by first | assumption | omega), (by first | assumption | omega)⟩ dX8_make_10 (by decide) rfl (fun h_2 => ?_) (fun h_2 => ?_)
    · skip
      refine g_aload_n cx (pc2 := 15) 0 rfl dX8_make_14 rfl ?_
      refine g_iload_n cx (pc2 := 16) 1 rfl dX8_make_15 rfl ?_
      refine g_puti cx (pc2 := 19) (ci := 8) (k0 := o) (j := 1) rfl iwX8 (sh_row ho) (by first | (exact kn_row hn ho) | (exact kn_row1 hn ho) | omega) rfl (Nat.le_of_ble_eq_true rfl) kf_X8_7 rfl tyX8_ok nmX8 rfl rfl dX8_make_16 rfl ?_
      refine g_iconst cx (pc2 := 20) dX8_make_19 rfl ?_
      refine g_istore_n cx (pc2 := 21) (lv2 := [(0, .ref o), (1, .int (iI q)), (2, .int (iI v)), (3, .int (iI 0))]) rfl (Nat.le_of_ble_eq_true rfl) dX8_make_20 rfl ?_
      have L21 : ∀ (fu : Nat) (i : Int), (0 ≤ i ∧ i ≤ q) → (q - i).toNat ≤ fu → G X 21 [(0, .ref o), (1, .int (iI q)), (2, .int (iI v)), (3, .int (iI i))] [] (mkP M o q v i) := by
        intro fu
        induction fu using Nat.strongRecOn with
        | _ fu ih21 =>
          intro i hi0 hk21
          refine g_iload_n cx (pc2 := 22) 3 rfl dX8_make_21 rfl ?_
          refine g_iload_n cx (pc2 := 23) 1 rfl dX8_make_22 rfl ?_
          refine g_icmp_ge cx (pc2 := 26) (tgt := 39) ⟨(by first | assumption | omega), (by first | assumption | omega)⟩ dX8_make_23 (by decide) rfl (fun h_3 => ?_) (fun h_3 => ?_)
          · skip
            exact g_vret cx qx dX8_make_39 ⟨rfl, by first | (rw [if_pos (by omega)]; done) | (rw [if_neg (by omega)]; have e : i = q := (by omega); subst e; rfl)⟩
          · skip
            refine g_aload_n cx (pc2 := 27) 0 rfl dX8_make_26 rfl ?_
            refine g_get cx (pc2 := 30) (ci := 8) (k0 := o) (j := 0) (v := .ref (o + 1)) rfl iwX8 (sh_row ho) (by first | (exact kn_row hn ho) | (exact kn_row1 hn ho) | omega) rfl (Nat.le_of_ble_eq_true rfl) kf_X8_19 rfl rfl dX8_make_27 rfl ?_
            refine g_iload_n cx (pc2 := 31) 3 rfl dX8_make_30 rfl ?_
            refine g_iload_n cx (pc2 := 32) 2 rfl dX8_make_31 rfl ?_
            refine g_iast cx (pc2 := 33) (k0 := (o + 1)) (sh_cells ho) (by first | (exact kn_row hn ho) | (exact kn_row1 hn ho) | omega) (by first | assumption | omega) (by first | assumption | omega) (by exact capO_le _) dX8_make_32 rfl ?_
            refine g_iinc cx (pc2 := 36) 3 rfl (lv2 := [(0, .ref o), (1, .int (iI q)), (2, .int (iI v)), (3, .int (iI (i + 1)))]) rfl (Nat.le_of_ble_eq_true rfl) dX8_make_33 rfl ?_
            refine g_goto cx (tgt := 21) dX8_make_36 (by decide) ?_
            refine g_M (M2 := (mkP M o q v (i + 1))) (by exact mkP_s M o q v i (by omega)) ?_
            exact ih21 ((q - (i + 1)).toNat) (by omega) (i + 1) (by first | assumption | omega) (Nat.le_refl _)
      refine g_M (M2 := (mkP M o q v 0)) (by exact mkP_0 M o q v) ?_
      exact L21 _ 0 (by first | assumption | omega) (Nat.le_refl _)
    · skip
      exact g_vret cx qx dX8_make_13 ⟨rfl, by first | (rw [if_pos (by omega)]; done) | (rw [if_neg (by omega)]; have e : i = q := (by omega); subst e; rfl)⟩
set_option maxHeartbeats 4000000 in
set_option maxRecDepth 100000 in
theorem c_X8_sum {n : Nat} (hn : NN n) {M : Mm} {o : Nat} (ho : isRowO o) (hs : -1 ≤ M o 1 ∧ M o 1 ≤ capO o) (hcl : ∀ j, ir (M (o + 1) j)) : CT yX8_sum cX8_sum 4 (some .long) ({ frames := 2, cells := 0, slots := 0, locals := 42 }) n [.ref o] M (rL (smZ (M (o + 1)) (M o 1).toNat) M) := by
  refine CT.of (lv0 := [(0, .ref o)]) (by decide +kernel) hn (fun _ => rfl) (fun _ => Nat.le_of_ble_eq_true rfl) (fun X cx cs qx => ?_)
  have cx : Cx X cX8_sum RX8 ({ frames := 2, cells := 0, slots := 0, locals := 42 }) 4 n := cx
  have hc := capO_b o
  refine g_lconst cx (pc2 := 1) 0 rfl dX8_sum_0 rfl ?_
  refine g_lstore_n cx (pc2 := 2) (lv2 := [(0, .ref o), (1, .long (lI 0))]) rfl (Nat.le_of_ble_eq_true rfl) dX8_sum_1 rfl ?_
  refine g_iconst cx (pc2 := 3) dX8_sum_2 rfl ?_
  refine g_istore_n cx (pc2 := 4) (lv2 := [(0, .ref o), (1, .long (lI 0)), (3, .int (iI 0))]) rfl (Nat.le_of_ble_eq_true rfl) dX8_sum_3 rfl ?_
  have L4 : ∀ (fu : Nat) (i : Int) (s : Int), (0 ≤ i ∧ (i ≤ M o 1 ∨ i = 0)) → (s = smZ (M (o + 1)) i.toNat) → (M o 1 - i).toNat ≤ fu → G X 4 [(0, .ref o), (1, .long (lI s)), (3, .int (iI i))] [] M := by
    intro fu
    induction fu using Nat.strongRecOn with
    | _ fu ih4 =>
      intro i s hi0 hsm hk4
      refine g_iload_n cx (pc2 := 5) 2 rfl dX8_sum_4 rfl ?_
      refine g_aload_n cx (pc2 := 6) 0 rfl dX8_sum_5 rfl ?_
      refine g_get cx (pc2 := 9) (ci := 8) (k0 := o) (j := 1) (v := .int (iI (M o 1))) rfl iwX8 (sh_row ho) (by first | (exact kn_row hn ho) | (exact kn_row1 hn ho) | omega) rfl (Nat.le_of_ble_eq_true rfl) kf_X8_7 rfl rfl dX8_sum_6 rfl ?_
      refine g_icmp_ge cx (pc2 := 12) (tgt := 27) ⟨(by first | assumption | omega), (by first | assumption | omega)⟩ dX8_sum_9 (by decide) rfl (fun h_1 => ?_) (fun h_1 => ?_)
      · skip
        refine g_lload_n cx (pc2 := 28) 1 rfl dX8_sum_27 rfl ?_
        exact g_lret cx qx dX8_sum_28 ⟨congrArg (fun q => some (Value.long (lI q))) (by rw [hsm]; congr 1; omega), by rfl⟩
      · skip
        refine g_lload_n cx (pc2 := 13) 1 rfl dX8_sum_12 rfl ?_
        refine g_aload_n cx (pc2 := 14) 0 rfl dX8_sum_13 rfl ?_
        refine g_iload_n cx (pc2 := 15) 2 rfl dX8_sum_14 rfl ?_
        refine g_callV cx (pc2 := 18) (st := [.long (lI s)]) (As := [.int (iI i)]) (k0 := o) (ci := 8) (c_X8_cell (M := M) hn (by first | assumption | omega) (by first | assumption | omega) i (by first | assumption | omega)) wM_X8_cell wV_X8_cell kl_X8_37 (sh_row ho) (by first | (exact kn_row hn ho) | (exact kn_row1 hn ho) | omega) rfl ⟨rfl, rfl, Nat.le_of_ble_eq_true rfl, Nat.le_of_ble_eq_true rfl⟩ (Nat.le_of_ble_eq_true rfl) cs rfl rfl dX8_sum_15 rfl ?_
        rintro _ _ ⟨rfl, rfl⟩
        refine g_rwi (y := iI (M (o + 1) i.toNat)) (congrArg iI (if_pos (by omega))) ?_
        refine g_i2l cx (pc2 := 19) (by exact hcl _) dX8_sum_18 rfl ?_
        refine g_ladd cx (pc2 := 20) dX8_sum_19 rfl ?_
        refine g_lstore_n cx (pc2 := 21) (lv2 := [(0, .ref o), (1, .long (lI (s + (M (o + 1) i.toNat)))), (3, .int (iI i))]) rfl (Nat.le_of_ble_eq_true rfl) dX8_sum_20 rfl ?_
        refine g_iinc cx (pc2 := 24) 2 rfl (lv2 := [(0, .ref o), (1, .long (lI (s + (M (o + 1) i.toNat)))), (3, .int (iI (i + 1)))]) rfl (Nat.le_of_ble_eq_true rfl) dX8_sum_21 rfl ?_
        refine g_goto cx (tgt := 4) dX8_sum_24 (by decide) ?_
        exact ih4 ((M o 1 - (i + 1)).toNat) (by omega) (i + 1) (s + (M (o + 1) i.toNat)) (by first | assumption | omega) (by rw [show (i + 1).toNat = i.toNat + 1 by omega, hsm]; rfl) (Nat.le_refl _)
  exact L4 _ 0 0 (by first | assumption | omega) (by rfl) (Nat.le_refl _)
set_option maxHeartbeats 4000000 in
set_option maxRecDepth 100000 in
theorem c_X8_isWithin {n : Nat} (hn : NN n) {M : Mm} {o : Nat} (ho : isRowO o) (hs : -1 ≤ M o 1 ∧ M o 1 ≤ capO o) (hcl : ∀ j, ir (M (o + 1) j)) (a b : Int) (ha : ir a) (hb : ir b) : CT yX8_isWithin cX8_isWithin 4 (some .boolean) ({ frames := 2, cells := 0, slots := 0, locals := 42 }) n [.ref o, .int (iI a), .int (iI b)] M (rI (b2 (∀ j : Nat, j < (M o 1).toNat → a ≤ M (o + 1) j ∧ M (o + 1) j ≤ b)) M) := by
  refine CT.of (lv0 := [(0, .ref o), (1, .int (iI a)), (2, .int (iI b))]) (by decide +kernel) hn (fun _ => rfl) (fun _ => Nat.le_of_ble_eq_true rfl) (fun X cx cs qx => ?_)
  have cx : Cx X cX8_isWithin RX8 ({ frames := 2, cells := 0, slots := 0, locals := 42 }) 4 n := cx
  have hc := capO_b o
  refine g_iconst cx (pc2 := 1) dX8_isWithin_0 rfl ?_
  refine g_istore_n cx (pc2 := 2) (lv2 := [(0, .ref o), (1, .int (iI a)), (2, .int (iI b)), (3, .int (iI 0))]) rfl (Nat.le_of_ble_eq_true rfl) dX8_isWithin_1 rfl ?_
  have L2 : ∀ (fu : Nat) (i : Int), (0 ≤ i ∧ (i ≤ M o 1 ∨ i = 0)) → (∀ j : Nat, (j : Int) < i → a ≤ M (o + 1) j ∧ M (o + 1) j ≤ b) → (M o 1 - i).toNat ≤ fu → G X 2 [(0, .ref o), (1, .int (iI a)), (2, .int (iI b)), (3, .int (iI i))] [] M := by
    intro fu
    induction fu using Nat.strongRecOn with
    | _ fu ih2 =>
      intro i hi0 hal hk2
      refine g_iload_n cx (pc2 := 3) 3 rfl dX8_isWithin_2 rfl ?_
      refine g_aload_n cx (pc2 := 4) 0 rfl dX8_isWithin_3 rfl ?_
      refine g_get cx (pc2 := 7) (ci := 8) (k0 := o) (j := 1) (v := .int (iI (M o 1))) rfl iwX8 (sh_row ho) (by first | (exact kn_row hn ho) | (exact kn_row1 hn ho) | omega) rfl (Nat.le_of_ble_eq_true rfl) kf_X8_7 rfl rfl dX8_isWithin_4 rfl ?_
      refine g_icmp_ge cx (pc2 := 10) (tgt := 36) ⟨(by first | assumption | omega), (by first | assumption | omega)⟩ dX8_isWithin_7 (by decide) rfl (fun h_1 => ?_) (fun h_1 => ?_)
      · skip
        refine g_iconst cx (pc2 := 37) dX8_isWithin_36 rfl ?_
        exact g_zret cx (Or.inr rfl) qx dX8_isWithin_37 ⟨rb_t (by intro j hj; exact hal j (by omega)), by rfl⟩
      · skip
        refine g_aload_n cx (pc2 := 11) 0 rfl dX8_isWithin_10 rfl ?_
        refine g_iload_n cx (pc2 := 12) 3 rfl dX8_isWithin_11 rfl ?_
        refine g_callV cx (pc2 := 15) (st := []) (As := [.int (iI i)]) (k0 := o) (ci := 8) (c_X8_cell (M := M) hn (by first | assumption | omega) (by first | assumption | omega) i (by first | assumption | omega)) wM_X8_cell wV_X8_cell kl_X8_37 (sh_row ho) (by first | (exact kn_row hn ho) | (exact kn_row1 hn ho) | omega) rfl ⟨rfl, rfl, Nat.le_of_ble_eq_true rfl, Nat.le_of_ble_eq_true rfl⟩ (Nat.le_of_ble_eq_true rfl) cs rfl rfl dX8_isWithin_12 rfl ?_
        rintro _ _ ⟨rfl, rfl⟩
        refine g_rwi (y := iI (M (o + 1) i.toNat)) (congrArg iI (if_pos (by omega))) ?_
        refine g_iload_n cx (pc2 := 16) 1 rfl dX8_isWithin_15 rfl ?_
        refine g_icmp_lt cx (pc2 := 19) (tgt := 28) ⟨(by first | assumption | exact hcl _), (by first | assumption | exact hcl _)⟩ dX8_isWithin_16 (by decide) rfl (fun h_2 => ?_) (fun h_2 => ?_)
        · skip
          refine g_iconst cx (pc2 := 29) dX8_isWithin_28 rfl ?_
          exact g_zret cx (Or.inl rfl) qx dX8_isWithin_29 ⟨rb_f (by intro q; have := q i.toNat (by omega); omega), by rfl⟩
        · skip
          refine g_aload_n cx (pc2 := 20) 0 rfl dX8_isWithin_19 rfl ?_
          refine g_iload_n cx (pc2 := 21) 3 rfl dX8_isWithin_20 rfl ?_
          refine g_callV cx (pc2 := 24) (st := []) (As := [.int (iI i)]) (k0 := o) (ci := 8) (c_X8_cell (M := M) hn (by first | assumption | omega) (by first | assumption | omega) i (by first | assumption | omega)) wM_X8_cell wV_X8_cell kl_X8_37 (sh_row ho) (by first | (exact kn_row hn ho) | (exact kn_row1 hn ho) | omega) rfl ⟨rfl, rfl, Nat.le_of_ble_eq_true rfl, Nat.le_of_ble_eq_true rfl⟩ (Nat.le_of_ble_eq_true rfl) cs rfl rfl dX8_isWithin_21 rfl ?_
          rintro _ _ ⟨rfl, rfl⟩
          refine g_rwi (y := iI (M (o + 1) i.toNat)) (congrArg iI (if_pos (by omega))) ?_
          refine g_iload_n cx (pc2 := 25) 2 rfl dX8_isWithin_24 rfl ?_
          refine g_icmp_le cx (pc2 := 28) (tgt := 30) ⟨(by first | assumption | exact hcl _), (by first | assumption | exact hcl _)⟩ dX8_isWithin_25 (by decide) rfl (fun h_3 => ?_) (fun h_3 => ?_)
          · skip
            refine g_iinc cx (pc2 := 33) 3 rfl (lv2 := [(0, .ref o), (1, .int (iI a)), (2, .int (iI b)), (3, .int (iI (i + 1)))]) rfl (Nat.le_of_ble_eq_true rfl) dX8_isWithin_30 rfl ?_
            refine g_goto cx (tgt := 2) dX8_isWithin_33 (by decide) ?_
            exact ih2 ((M o 1 - (i + 1)).toNat) (by omega) (i + 1) (by first | assumption | omega) (by intro j hj; rcases (show (j : Int) < i ∨ j = i.toNat by omega) with q | q; exact hal j q; subst q; omega) (Nat.le_refl _)
          · skip
            refine g_iconst cx (pc2 := 29) dX8_isWithin_28 rfl ?_
            exact g_zret cx (Or.inl rfl) qx dX8_isWithin_29 ⟨rb_f (by intro q; have := q i.toNat (by omega); omega), by rfl⟩
  exact L2 _ 0 (by first | assumption | omega) (by intro j hj; omega) (Nat.le_refl _)
set_option maxHeartbeats 4000000 in
set_option maxRecDepth 100000 in
theorem c_X8_takePart {n : Nat} (hn : NN n) {M : Mm} {o : Nat} (ho : isRowO o) (hs : -1 ≤ M o 1 ∧ M o 1 ≤ capO o) {o2 : Nat} (ho2 : isRowO o2) (hs2 : -1 ≤ M o2 1 ∧ M o2 1 ≤ capO o2) (j i q : Int) (hj : ir j) (hi : ir i) (hq : ir q) : CT yX8_takePart cX8_takePart 5 none ({ frames := 1, cells := 0, slots := 0, locals := 40 }) n [.ref o, .int (iI j), .ref o2, .int (iI i), .int (iI q)] M (rV (if (0 ≤ j ∧ j ≤ M o 1 ∧ 0 ≤ q ∧ q ≤ M o 1 - j) ∧ (0 ≤ i ∧ i ≤ M o2 1 ∧ 0 ≤ q ∧ q ≤ M o2 1 - i) then cpM M (o2 + 1) (o + 1) i.toNat j.toNat q.toNat else M)) := by
  refine CT.of (lv0 := [(0, .ref o), (1, .int (iI j)), (2, .ref o2), (3, .int (iI i)), (4, .int (iI q))]) (by decide +kernel) hn (fun _ => rfl) (fun _ => Nat.le_of_ble_eq_true rfl) (fun X cx cs qx => ?_)
  have cx : Cx X cX8_takePart RX8 ({ frames := 1, cells := 0, slots := 0, locals := 40 }) 5 n := cx
  have hc := capO_b o
  have hc2 := capO_b o2
  refine g_aload_n cx (pc2 := 1) 0 rfl dX8_takePart_0 rfl ?_
  refine g_iload_n cx (pc2 := 2) 1 rfl dX8_takePart_1 rfl ?_
  refine g_iload cx (pc2 := 4) 4 rfl dX8_takePart_2 rfl ?_
  refine g_callV cx (pc2 := 7) (st := []) (As := [.int (iI j), .int (iI q)]) (k0 := o) (ci := 8) (c_X8_hasPart (M := M) hn (by first | assumption | omega) (by first | assumption | omega) j q (by first | assumption | omega) (by first | assumption | omega)) wM_X8_hasPart wV_X8_hasPart kl_X8_27 (sh_row ho) (by first | (exact kn_row hn ho) | (exact kn_row1 hn ho) | omega) rfl ⟨rfl, rfl, Nat.le_of_ble_eq_true rfl, Nat.le_of_ble_eq_true rfl⟩ (Nat.le_of_ble_eq_true rfl) cs rfl rfl dX8_takePart_4 rfl ?_
  rintro _ _ ⟨rfl, rfl⟩
  refine g_ifb_eq cx (pc2 := 10) (tgt := 35) dX8_takePart_7 (by decide) rfl (fun h_1 => ?_) (fun h_1 => ?_)
  · skip
    exact g_vret cx qx dX8_takePart_35 ⟨rfl, by first | (rw [if_pos (by omega)]; done) | (rw [if_neg (by omega)]; done)⟩
  · skip
    refine g_aload_n cx (pc2 := 11) 2 rfl dX8_takePart_10 rfl ?_
    refine g_iload_n cx (pc2 := 12) 3 rfl dX8_takePart_11 rfl ?_
    refine g_iload cx (pc2 := 14) 4 rfl dX8_takePart_12 rfl ?_
    refine g_callV cx (pc2 := 17) (st := []) (As := [.int (iI i), .int (iI q)]) (k0 := o2) (ci := 8) (c_X8_hasPart (M := M) hn (by first | assumption | omega) (by first | assumption | omega) i q (by first | assumption | omega) (by first | assumption | omega)) wM_X8_hasPart wV_X8_hasPart kl_X8_27 (sh_row ho2) (by first | (exact kn_row hn ho) | (exact kn_row1 hn ho) | omega) rfl ⟨rfl, rfl, Nat.le_of_ble_eq_true rfl, Nat.le_of_ble_eq_true rfl⟩ (Nat.le_of_ble_eq_true rfl) cs rfl rfl dX8_takePart_14 rfl ?_
    rintro _ _ ⟨rfl, rfl⟩
    refine g_ifb_eq cx (pc2 := 20) (tgt := 35) dX8_takePart_17 (by decide) rfl (fun h_2 => ?_) (fun h_2 => ?_)
    · skip
      exact g_vret cx qx dX8_takePart_35 ⟨rfl, by first | (rw [if_pos (by omega)]; done) | (rw [if_neg (by omega)]; done)⟩
    · skip
      refine g_aload_n cx (pc2 := 21) 2 rfl dX8_takePart_20 rfl ?_
      refine g_get cx (pc2 := 24) (ci := 8) (k0 := o2) (j := 0) (v := .ref (o2 + 1)) rfl iwX8 (sh_row ho2) (by first | (exact kn_row hn ho) | (exact kn_row1 hn ho) | omega) rfl (Nat.le_of_ble_eq_true rfl) kf_X8_19 rfl rfl dX8_takePart_21 rfl ?_
      refine g_iload_n cx (pc2 := 25) 3 rfl dX8_takePart_24 rfl ?_
      refine g_aload_n cx (pc2 := 26) 0 rfl dX8_takePart_25 rfl ?_
      refine g_get cx (pc2 := 29) (ci := 8) (k0 := o) (j := 0) (v := .ref (o + 1)) rfl iwX8 (sh_row ho) (by first | (exact kn_row hn ho) | (exact kn_row1 hn ho) | omega) rfl (Nat.le_of_ble_eq_true rfl) kf_X8_19 rfl rfl dX8_takePart_26 rfl ?_
      refine g_iload_n cx (pc2 := 30) 1 rfl dX8_takePart_29 rfl ?_
      refine g_iload cx (pc2 := 32) 4 rfl dX8_takePart_30 rfl ?_
      refine g_acopy cx (pc2 := 35) (k0 := (o2 + 1)) (k1 := (o + 1)) (sh_cells ho2) (sh_cells ho) (by first | (exact kn_row hn ho) | (exact kn_row1 hn ho) | omega) (by first | (exact kn_row hn ho) | (exact kn_row1 hn ho) | omega) (by first | assumption | omega) (by first | assumption | omega) (by first | assumption | omega) (by first | assumption | omega) (by first | assumption | omega) ⟨(by first | assumption | omega), (by first | assumption | omega)⟩ kl_X8_31 wJ_copy ⟨Nat.le_of_ble_eq_true rfl, by decide⟩ dX8_takePart_32 rfl ?_
      exact g_vret cx qx dX8_takePart_35 ⟨rfl, by first | (rw [if_pos (by omega)]; done) | (rw [if_neg (by omega)]; done)⟩
