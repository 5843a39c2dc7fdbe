def osA (M : Mm) (w : Int) : Int := if ¬ (0 ≤ w ∧ w ≤ ((allN (M 23 4) : Nat) : Int)) then -1 else if w = 0 then 1 else (noS (ldM M) w (stp M) (w.toNat + 1)).2
def osM (M : Mm) (w : Int) : Mm := if ¬ (0 ≤ w ∧ w ≤ ((allN (M 23 4) : Nat) : Int)) then M else (noS (ldM M) w (stp M) (w.toNat + 1)).1
theorem sE.tr {a b c : va_E} (h : sE a b) (k : sE b c) : sE a c := fun D cl x H q => k D cl x H (h D cl x H q)
/-- a cell that means the same under two placements -/
def okS (m : Nat) : Sh → Bool
  | .inl (ct, len, b, sd) => Nat.ble ct 1 || Nat.ble (b + sd * (len - 1) + 1) m
  | .inr (_, fs) => fs.all (fun c => !(Nat.beq c.1 2) || Nat.ble (c.2 + 1) m)
theorem fvs_to {P P' : Pl} {M M' : Mm} {m k : Nat} (ha : ∀ i, i < m → P'.2.1 i = P.2.1 i) (hM : M' k = M k) : ∀ (fs : List (Nat × Nat)) (j : Nat), fs.all (fun c => !(Nat.beq c.1 2) || Nat.ble (c.2 + 1) m) = true → fvs P' M' k j fs = fvs P M k j fs
  | [], _, _ => rfl
  | c :: cs, j, h => by
    rw [List.all_cons, Bool.and_eq_true] at h
    rw [fvs, fvs, fvs_to ha hM cs (j + 1) h.2]
    have e : cz P' (aval M' k j c) = cz P (aval M k j c) := by
      obtain ⟨x, y⟩ := c
      match x with
      | 0 => simp only [aval, hM, cz]
      | 1 => simp only [aval, hM, cz]
      | 2 =>
        have h1 : (!(Nat.beq 2 2) || Nat.ble (y + 1) m) = true := h.1
        have h2 : Nat.ble (y + 1) m = true := h1
        rw [Nat.ble_eq] at h2
        show Value.ref (P'.2.1 y) = Value.ref (P.2.1 y)
        rw [ha y h2]
      | n + 3 => rfl
    rw [e]
theorem wcS_to {P P' : Pl} {M M' : Mm} {m k : Nat} (hc : P'.2.2 = P.2.2) (ha : ∀ i, i < m → P'.2.1 i = P.2.1 i) (hM : M' k = M k) (s : Sh) (hs : okS m s = true) : sE (wcS P M k s) (wcS P' M' k s) := by
  cases s with
  | inl q =>
    obtain ⟨ct, len, b, sd⟩ := q
    show sE (.inl (P.2.2 ct, len, if ct ≤ 1 then .inl (fun j => iI (M k j)) else .inr (.inr (.inr (.inr (fun j => some (P.2.1 (b + sd * j)))))))) (.inl (P'.2.2 ct, len, if ct ≤ 1 then .inl (fun j => iI (M' k j)) else .inr (.inr (.inr (.inr (fun j => some (P'.2.1 (b + sd * j))))))))
    by_cases h1 : ct ≤ 1
    · rw [if_pos h1, if_pos h1, hc, hM]
      exact sE.rf rfl
    · rw [if_neg h1, if_neg h1, hc]
      refine sE.q (fun j hj => ?_)
      have h2 : (Nat.ble ct 1 || Nat.ble (b + sd * (len - 1) + 1) m) = true := hs
      rw [Bool.or_eq_true, Nat.ble_eq, Nat.ble_eq] at h2
      rcases h2 with h2 | h2
      · exact absurd h2 h1
      · have h3 : sd * j ≤ sd * (len - 1) := Nat.mul_le_mul_left sd (by omega)
        rw [ha (b + sd * j) (by omega)]
  | inr q =>
    obtain ⟨ci, fs⟩ := q
    refine sE.rf ?_
    show (Sum.inr (ci, fvs P M k 0 fs) : va_E) = Sum.inr (ci, fvs P' M' k 0 fs)
    rw [fvs_to ha hM fs 0 hs]
theorem okS_all : ∀ k, k < 77 → okS 77 (shL.getD k (.inl (0, 0, 0, 0))) = true := by decide +kernel
theorem o_head {R0 : Room} {n : Nat} (hn : NN n) {X : Cq} (cx : Cx X cX11_orders RX11 R0 2 n) (cs : Cs X) (hr : 5 ≤ R0.frames ∧ 110 ≤ R0.locals) {M : Mm} (hci : CI M) (w : Int) (hw : ir w) (kt : (0 ≤ w ∧ w ≤ ((allN (M 23 4) : Nat) : Int)) → G X 13 [(0, .ref 0), (1, .int (iI w))] [] M) (kf : ¬ (0 ≤ w ∧ w ≤ ((allN (M 23 4) : Nat) : Int)) → G X 12 [(0, .ref 0), (1, .int (iI w))] [.int (iI (-1))] M) : G X 0 [(0, .ref 0), (1, .int (iI w))] [] M := by
  obtain ⟨r1, r2⟩ := hr
  refine g_aload_n cx (pc2 := 1) 0 rfl dX11_orders_0 rfl ?_
  refine g_get cx (pc2 := 4) (ci := 11) (k0 := 0) (j := 2) (v := .ref 23) rfl iwX11 rfl (lt_lit hn (Nat.le_of_ble_eq_true rfl)) rfl (Nat.le_of_ble_eq_true rfl) kf_X11_21 rfl rfl dX11_orders_1 rfl ?_
  refine g_iload_n cx (pc2 := 5) 1 rfl dX11_orders_4 rfl ?_
  refine g_callV cx (pc2 := 8) (st := []) (As := [.int (iI w)]) (k0 := 23) (ci := 2) (c_X2_isSet (M := M) hn hci.l w hw) wM_X2_isSet wV_X2_isSet kl_X11_224 rfl (lt_lit hn (Nat.le_of_ble_eq_true rfl)) rfl ⟨rfl, rfl, by show 2 + 1 ≤ _; omega, by show 8 + (2 + 11) + 42 ≤ _; omega⟩ (Nat.le_of_ble_eq_true rfl) cs rfl rfl dX11_orders_5 rfl ?_
  rintro _ _ ⟨rfl, rfl⟩
  refine g_ifb_ne cx (pc2 := 11) (tgt := 13) dX11_orders_8 (by decide) rfl (fun h_1 => ?_) (fun h_1 => ?_)
  · exact kt h_1
  · refine g_iconst cx (pc2 := 12) dX11_orders_11 rfl ?_
    exact kf h_1
theorem o_tail {R0 : Room} {X : Cq} (cx : Cx X cX11_orders RX11 R0 2 79) (cs : Cs X) (hr : 5 ≤ R0.frames ∧ 110 ≤ R0.locals) {M : Mm} (hci : CI M) (w : Int) (hv : 0 ≤ w ∧ w ≤ ((allN (M 23 4) : Nat) : Int)) (k : G X 61 [(0, .ref 0), (1, .int (iI w))] [.int (iI (osA M w))] (osM M w)) : G X 35 [(0, .ref 0), (1, .int (iI w))] [] M := by
  obtain ⟨r1, r2⟩ := hr
  have hn : NN 79 := ⟨by decide, by decide⟩
  have hc1 := hci.ld
  have hAb := aL_255 hci.l
  have hp := plc_b hc1.pl ((ldM M) 23 5)
  refine g_aload_n cx (pc2 := 36) 0 rfl dX11_orders_35 rfl ?_
  refine g_get cx (pc2 := 39) (ci := 11) (k0 := 0) (j := 5) (v := .ref 48) rfl iwX11 rfl (lt_lit hn (Nat.le_of_ble_eq_true rfl)) rfl (Nat.le_of_ble_eq_true rfl) kf_X11_38 rfl rfl dX11_orders_36 rfl ?_
  refine g_aload_n cx (pc2 := 40) 0 rfl dX11_orders_39 rfl ?_
  refine g_get cx (pc2 := 43) (ci := 11) (k0 := 0) (j := 2) (v := .ref 23) rfl iwX11 rfl (lt_lit hn (Nat.le_of_ble_eq_true rfl)) rfl (Nat.le_of_ble_eq_true rfl) kf_X11_21 rfl rfl dX11_orders_40 rfl ?_
  refine g_callV cx (pc2 := 46) (st := []) (As := [.ref 23]) (k0 := 48) (ci := 1) (c_X1_load (M := M) hn hci.l hci.nd hci.pl) wM_X1_load wV_X1_load kl_X11_259 rfl (lt_lit hn (Nat.le_of_ble_eq_true rfl)) rfl ⟨rfl, rfl, by show 2 + 1 ≤ _; omega, by show 8 + (4 + 11) + 43 ≤ _; omega⟩ (Nat.le_of_ble_eq_true rfl) cs rfl rfl dX11_orders_43 rfl ?_
  rintro _ _ ⟨rfl, rfl⟩
  refine g_aload_n cx (pc2 := 47) 0 rfl dX11_orders_46 rfl ?_
  refine g_get cx (pc2 := 50) (ci := 11) (k0 := 0) (j := 13) (v := .ref 77) rfl iwX11 rfl (lt_lit hn (Nat.le_of_ble_eq_true rfl)) rfl (Nat.le_of_ble_eq_true rfl) kf_X11_90 rfl rfl dX11_orders_47 rfl ?_
  refine g_iload_n cx (pc2 := 51) 1 rfl dX11_orders_50 rfl ?_
  refine g_aload_n cx (pc2 := 52) 0 rfl dX11_orders_51 rfl ?_
  refine g_get cx (pc2 := 55) (ci := 11) (k0 := 0) (j := 2) (v := .ref 23) rfl iwX11 rfl (lt_lit hn (Nat.le_of_ble_eq_true rfl)) rfl (Nat.le_of_ble_eq_true rfl) kf_X11_21 rfl rfl dX11_orders_52 rfl ?_
  refine g_callV cx (pc2 := 58) (st := [.int (iI w), .ref 77]) (As := []) (k0 := 23) (ci := 2) (c_X2_startPlace (M := (ldM M)) hn hc1.l hc1.st) wM_X2_startPlace wV_X2_startPlace kl_X11_263 rfl (lt_lit hn (Nat.le_of_ble_eq_true rfl)) rfl ⟨rfl, rfl, by show 2 + 1 ≤ _; omega, by show 8 + (1 + 11) + 42 ≤ _; omega⟩ (Nat.le_of_ble_eq_true rfl) cs rfl rfl dX11_orders_55 rfl ?_
  rintro _ _ ⟨rfl, rfl⟩
  refine g_callV cx (pc2 := 61) (st := []) (As := [.int (iI w), .int (iI (plc (ldM M) 23 (ldM M 23 5)))]) (k0 := 77) (ci := 9) (c_X9_numberOfOrders (M := (ldM M)) hn rfl hc1.j w _ ⟨hv.1, by omega⟩ hp) wM_X9_numberOfOrders wV_X9_numberOfOrders kl_X11_266 rfl (by decide) rfl ⟨rfl, rfl, by show 3 + 1 ≤ _; omega, by show 8 + (7 + 11) + 75 ≤ _; omega⟩ (Nat.le_of_ble_eq_true rfl) cs rfl rfl dX11_orders_58 rfl ?_
  rintro _ _ ⟨rfl, rfl⟩
  have e1 : plc (ldM M) 23 (ldM M 23 5) = stp M := by
    unfold stp plc
    rw [ldM_off (show (23 : Nat) < 48 ∨ 53 < 23 by omega), ldM_off (show (24 : Nat) < 48 ∨ 53 < 24 by omega)]
  unfold osA osM at k
  rw [if_neg (not_not_intro hv), if_neg (not_not_intro hv)] at k
  rw [e1]
  exact k
