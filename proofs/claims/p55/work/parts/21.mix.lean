theorem tlf_le (w : Int) : tlf w ≤ 5 := by unfold tlf; split <;> omega
theorem NDR_le {f : Nat → Int} (h : NDR f) : ∀ j : Nat, j ≤ 5 → 0 ≤ f j ∧ f j ≤ 27 := by
  intro j hj
  rcases (show j = 0 ∨ j = 1 ∨ j = 2 ∨ j = 3 ∨ j = 4 ∨ j = 5 by omega) with q | q | q | q | q | q <;> subst q <;> omega
set_option maxHeartbeats 4000000 in
set_option maxRecDepth 100000 in
theorem c_X11_mixHouses {n : Nat} (hn : NN n) {M : Mm} (hci : CI M) (h : Int) : CT yX11_mixHouses cX11_mixHouses 7 (some .long) ({ frames := 2, cells := 0, slots := 0, locals := 42 }) n [.ref 0, .long (lI h)] M (rL (mxH M h (M 23 3).toNat) M) := by
  refine CT.of (lv0 := [(0, .ref 0), (1, .long (lI h))]) (by decide +kernel) hn (fun _ => rfl) (fun _ => Nat.le_of_ble_eq_true rfl) (fun X cx cs qx => ?_)
  have cx : Cx X cX11_mixHouses RX11 ({ frames := 2, cells := 0, slots := 0, locals := 42 }) 7 n := cx
  have hl := hci.l
  refine g_lload_n cx (pc2 := 1) 1 rfl dX11_mixHouses_0 rfl ?_
  refine g_lstore_n cx (pc2 := 2) (lv2 := [(0, .ref 0), (1, .long (lI h)), (3, .long (lI h))]) rfl (Nat.le_of_ble_eq_true rfl) dX11_mixHouses_1 rfl ?_
  refine g_iconst cx (pc2 := 3) dX11_mixHouses_2 rfl ?_
  refine g_istore cx (pc2 := 5) (lv2 := [(0, .ref 0), (1, .long (lI h)), (3, .long (lI h)), (5, .int (iI 0))]) rfl (Nat.le_of_ble_eq_true rfl) dX11_mixHouses_3 rfl ?_
  have L5 : ∀ (fu : Nat) (i : Int) (t : Int), (0 ≤ i ∧ i ≤ M 23 3) → (t = mxH M h i.toNat) → (M 23 3 - i).toNat ≤ fu → G X 5 [(0, .ref 0), (1, .long (lI h)), (3, .long (lI t)), (5, .int (iI i))] [] M := by
    intro fu
    induction fu using Nat.strongRecOn with
    | _ fu ih5 =>
      intro i t hi ht hk5
      have hpb := plc_b hci.pl i
      refine g_iload cx (pc2 := 7) 3 rfl dX11_mixHouses_5 rfl ?_
      refine g_aload_n cx (pc2 := 8) 0 rfl dX11_mixHouses_7 rfl ?_
      refine g_get cx (pc2 := 11) (ci := 11) (k0 := 0) (j := 2) (v := .ref 23) rfl iwX11 rfl (lt_lit hn (Nat.le_of_ble_eq_true rfl)) rfl (Nat.le_of_ble_eq_true rfl) kf_X11_21 rfl rfl dX11_mixHouses_8 rfl ?_
      refine g_getN cx (pc2 := 14) (ci := 2) (k0 := 23) (j := 3) (v := .int (iI (M 23 3))) rfl iwX2 rfl (lt_lit hn (Nat.le_of_ble_eq_true rfl)) rfl (Nat.le_of_ble_eq_true rfl) kf_X11_167 rfl rfl dX11_mixHouses_11 rfl ?_
      refine g_icmp_ge cx (pc2 := 17) (tgt := 98) ⟨(by first | assumption | omega), (by first | assumption | omega)⟩ dX11_mixHouses_14 (by decide) rfl (fun h_1 => ?_) (fun h_1 => ?_)
      · skip
        refine g_lload_n cx (pc2 := 99) 2 rfl dX11_mixHouses_98 rfl ?_
        exact g_lret cx qx dX11_mixHouses_99 ⟨congrArg (fun q => some (Value.long (lI q))) (by rw [ht, show i = M 23 3 by omega]), by rfl⟩
      · skip
        refine g_lload_n cx (pc2 := 18) 2 rfl dX11_mixHouses_17 rfl ?_
        refine g_aload_n cx (pc2 := 19) 0 rfl dX11_mixHouses_18 rfl ?_
        refine g_get cx (pc2 := 22) (ci := 11) (k0 := 0) (j := 2) (v := .ref 23) rfl iwX11 rfl (lt_lit hn (Nat.le_of_ble_eq_true rfl)) rfl (Nat.le_of_ble_eq_true rfl) kf_X11_21 rfl rfl dX11_mixHouses_19 rfl ?_
        refine g_iload cx (pc2 := 24) 3 rfl dX11_mixHouses_22 rfl ?_
        refine g_callV cx (pc2 := 27) (st := [.long (lI t)]) (As := [.int (iI i)]) (k0 := 23) (ci := 2) (c_X2_placeOf (M := M) hn (by exact Or.inl rfl) (by first | assumption | exact hci.l) i (by first | omega | (unfold H8; omega))) wM_X2_placeOf wV_X2_placeOf kl_X11_176 rfl (lt_lit hn (Nat.le_of_ble_eq_true rfl)) rfl ⟨rfl, rfl, Nat.le_of_ble_eq_true rfl, Nat.le_of_ble_eq_true rfl⟩ (Nat.le_of_ble_eq_true rfl) cs rfl rfl dX11_mixHouses_24 rfl ?_
        rintro _ _ ⟨rfl, rfl⟩
        refine g_i2l cx (pc2 := 28) (by first | assumption | omega) dX11_mixHouses_27 rfl ?_
        refine g_callS cx (pc2 := 31) (st := []) (As := [.long (lI t), .long (lI (plc M 23 i))]) (c_X11_mix (M := M) hn t (plc M 23 i)) wM_X11_mix wS_X11_mix kl_X11_413 ⟨rfl, rfl, Nat.le_of_ble_eq_true rfl, Nat.le_of_ble_eq_true rfl⟩ (Nat.le_of_ble_eq_true rfl) cs rfl rfl dX11_mixHouses_28 rfl ?_
        rintro _ _ ⟨rfl, rfl⟩
        refine g_lstore_n cx (pc2 := 32) (lv2 := [(0, .ref 0), (1, .long (lI h)), (3, .long (lI (31 * t + (plc M 23 i)))), (5, .int (iI i))]) rfl (Nat.le_of_ble_eq_true rfl) dX11_mixHouses_31 rfl ?_
        refine g_lload_n cx (pc2 := 33) 2 rfl dX11_mixHouses_32 rfl ?_
        refine g_aload_n cx (pc2 := 34) 0 rfl dX11_mixHouses_33 rfl ?_
        refine g_get cx (pc2 := 37) (ci := 11) (k0 := 0) (j := 9) (v := .ref 63) rfl iwX11 rfl (lt_lit hn (Nat.le_of_ble_eq_true rfl)) rfl (Nat.le_of_ble_eq_true rfl) kf_X11_70 rfl rfl dX11_mixHouses_34 rfl ?_
        refine g_iload cx (pc2 := 39) 3 rfl dX11_mixHouses_37 rfl ?_
        refine g_callV cx (pc2 := 42) (st := [.long (lI (31 * t + (plc M 23 i)))]) (As := [.int (iI i)]) (k0 := 63) (ci := 3) (c_X3_hoursOf (M := M) hn i (by first | omega | (unfold H8; omega))) wM_X3_hoursOf wV_X3_hoursOf kl_X11_173 rfl (lt_lit hn (Nat.le_of_ble_eq_true rfl)) rfl ⟨rfl, rfl, Nat.le_of_ble_eq_true rfl, Nat.le_of_ble_eq_true rfl⟩ (Nat.le_of_ble_eq_true rfl) cs rfl rfl dX11_mixHouses_39 rfl ?_
        rintro _ _ ⟨rfl, rfl⟩
        refine g_rwi (y := iI (wr (M 64 i.toNat))) ((iI_wr _).symm) ?_
        refine g_i2l cx (pc2 := 43) (by exact ir_wr _) dX11_mixHouses_42 rfl ?_
        refine g_callS cx (pc2 := 46) (st := []) (As := [.long (lI (31 * t + (plc M 23 i))), .long (lI (wr (M 64 i.toNat)))]) (c_X11_mix (M := M) hn (31 * t + (plc M 23 i)) (wr (M 64 i.toNat))) wM_X11_mix wS_X11_mix kl_X11_413 ⟨rfl, rfl, Nat.le_of_ble_eq_true rfl, Nat.le_of_ble_eq_true rfl⟩ (Nat.le_of_ble_eq_true rfl) cs rfl rfl dX11_mixHouses_43 rfl ?_
        rintro _ _ ⟨rfl, rfl⟩
        refine g_lstore_n cx (pc2 := 47) (lv2 := [(0, .ref 0), (1, .long (lI h)), (3, .long (lI (31 * (31 * t + (plc M 23 i)) + (wr (M 64 i.toNat))))), (5, .int (iI i))]) rfl (Nat.le_of_ble_eq_true rfl) dX11_mixHouses_46 rfl ?_
        refine g_iconst cx (pc2 := 48) dX11_mixHouses_47 rfl ?_
        refine g_istore cx (pc2 := 50) (lv2 := [(0, .ref 0), (1, .long (lI h)), (3, .long (lI (31 * (31 * t + (plc M 23 i)) + (wr (M 64 i.toNat))))), (5, .int (iI i)), (6, .int (iI 0))]) rfl (Nat.le_of_ble_eq_true rfl) dX11_mixHouses_48 rfl ?_
        have L50 : ∀ (fu : Nat) (k : Int) (u : Int), (0 ≤ k ∧ k ≤ M 23 3) → (u = mxO M i (31 * (31 * t + plc M 23 i) + wr (M 64 i.toNat)) k.toNat) → (M 23 3 - k).toNat ≤ fu → G X 50 [(0, .ref 0), (1, .long (lI h)), (3, .long (lI u)), (5, .int (iI i)), (6, .int (iI k))] [] M := by
          intro fu
          induction fu using Nat.strongRecOn with
          | _ fu ih50 =>
            intro k u hk hu hk50
            have hst : mxO M i (31 * (31 * t + plc M 23 i) + wr (M 64 i.toNat)) (k + 1).toNat = if k = i then u else 31 * u + wr (M 65 (i * 8 + k).toNat) := by rw [show (k + 1).toNat = k.toNat + 1 by omega, mxO, ← hu, Int.toNat_of_nonneg hk.1]
            refine g_iload cx (pc2 := 52) 4 rfl dX11_mixHouses_50 rfl ?_
            refine g_aload_n cx (pc2 := 53) 0 rfl dX11_mixHouses_52 rfl ?_
            refine g_get cx (pc2 := 56) (ci := 11) (k0 := 0) (j := 2) (v := .ref 23) rfl iwX11 rfl (lt_lit hn (Nat.le_of_ble_eq_true rfl)) rfl (Nat.le_of_ble_eq_true rfl) kf_X11_21 rfl rfl dX11_mixHouses_53 rfl ?_
            refine g_getN cx (pc2 := 59) (ci := 2) (k0 := 23) (j := 3) (v := .int (iI (M 23 3))) rfl iwX2 rfl (lt_lit hn (Nat.le_of_ble_eq_true rfl)) rfl (Nat.le_of_ble_eq_true rfl) kf_X11_167 rfl rfl dX11_mixHouses_56 rfl ?_
            refine g_icmp_ge cx (pc2 := 62) (tgt := 92) ⟨(by first | assumption | omega), (by first | assumption | omega)⟩ dX11_mixHouses_59 (by decide) rfl (fun h_2 => ?_) (fun h_2 => ?_)
            · skip
              refine g_iinc cx (pc2 := 95) 3 rfl (lv2 := [(0, .ref 0), (1, .long (lI h)), (3, .long (lI u)), (5, .int (iI (i + 1))), (6, .int (iI k))]) rfl (Nat.le_of_ble_eq_true rfl) dX11_mixHouses_92 rfl ?_
              refine g_goto cx (tgt := 5) dX11_mixHouses_95 (by decide) ?_
              refine g_sub (lv2 := [(0, .ref 0), (1, .long (lI h)), (3, .long (lI u)), (5, .int (iI (i + 1)))]) [0, 1, 2, 3] rfl ?_
              exact ih5 ((M 23 3 - (i + 1)).toNat) (by omega) (i + 1) u (by first | assumption | omega) (by rw [show (i + 1).toNat = i.toNat + 1 by omega, mxH, ← ht, Int.toNat_of_nonneg hi.1, show (M 23 3).toNat = k.toNat by omega]; exact hu) (Nat.le_refl _)
            · skip
              have L86 : ∀ (u2 : Int), (u2 = mxO M i (31 * (31 * t + plc M 23 i) + wr (M 64 i.toNat)) (k + 1).toNat) → G X 86 [(0, .ref 0), (1, .long (lI h)), (3, .long (lI u2)), (5, .int (iI i)), (6, .int (iI k))] [] M := by
                intro u2 hu2
                refine g_iinc cx (pc2 := 89) 4 rfl (lv2 := [(0, .ref 0), (1, .long (lI h)), (3, .long (lI u2)), (5, .int (iI i)), (6, .int (iI (k + 1)))]) rfl (Nat.le_of_ble_eq_true rfl) dX11_mixHouses_86 rfl ?_
                refine g_goto cx (tgt := 50) dX11_mixHouses_89 (by decide) ?_
                exact ih50 ((M 23 3 - (k + 1)).toNat) (by omega) (k + 1) u2 (by first | assumption | omega) (by exact hu2) (Nat.le_refl _)
              refine g_iload cx (pc2 := 64) 4 rfl dX11_mixHouses_62 rfl ?_
              refine g_iload cx (pc2 := 66) 3 rfl dX11_mixHouses_64 rfl ?_
              refine g_icmp_eq cx (pc2 := 69) (tgt := 86) ⟨(by first | assumption | omega), (by first | assumption | omega)⟩ dX11_mixHouses_66 (by decide) rfl (fun h_3 => ?_) (fun h_3 => ?_)
              · skip
                exact L86 u (by rw [hst]; first | (rw [if_pos (by assumption)]; done) | (rw [if_neg (by assumption)]; done))
              · skip
                refine g_lload_n cx (pc2 := 70) 2 rfl dX11_mixHouses_69 rfl ?_
                refine g_aload_n cx (pc2 := 71) 0 rfl dX11_mixHouses_70 rfl ?_
                refine g_get cx (pc2 := 74) (ci := 11) (k0 := 0) (j := 9) (v := .ref 63) rfl iwX11 rfl (lt_lit hn (Nat.le_of_ble_eq_true rfl)) rfl (Nat.le_of_ble_eq_true rfl) kf_X11_70 rfl rfl dX11_mixHouses_71 rfl ?_
                refine g_iload cx (pc2 := 76) 3 rfl dX11_mixHouses_74 rfl ?_
                refine g_iload cx (pc2 := 78) 4 rfl dX11_mixHouses_76 rfl ?_
                refine g_callV cx (pc2 := 81) (st := [.long (lI u)]) (As := [.int (iI i), .int (iI k)]) (k0 := 63) (ci := 3) (c_X3_owedBy (M := M) hn i k (by first | omega | (unfold H8; omega)) (by first | omega | (unfold H8; omega))) wM_X3_owedBy wV_X3_owedBy kl_X11_360 rfl (lt_lit hn (Nat.le_of_ble_eq_true rfl)) rfl ⟨rfl, rfl, Nat.le_of_ble_eq_true rfl, Nat.le_of_ble_eq_true rfl⟩ (Nat.le_of_ble_eq_true rfl) cs rfl rfl dX11_mixHouses_78 rfl ?_
                rintro _ _ ⟨rfl, rfl⟩
                refine g_rwi (y := iI (wr (M 65 (i * 8 + k).toNat))) ((iI_wr _).symm) ?_
                refine g_i2l cx (pc2 := 82) (by exact ir_wr _) dX11_mixHouses_81 rfl ?_
                refine g_callS cx (pc2 := 85) (st := []) (As := [.long (lI u), .long (lI (wr (M 65 (i * 8 + k).toNat)))]) (c_X11_mix (M := M) hn u (wr (M 65 (i * 8 + k).toNat))) wM_X11_mix wS_X11_mix kl_X11_413 ⟨rfl, rfl, Nat.le_of_ble_eq_true rfl, Nat.le_of_ble_eq_true rfl⟩ (Nat.le_of_ble_eq_true rfl) cs rfl rfl dX11_mixHouses_82 rfl ?_
                rintro _ _ ⟨rfl, rfl⟩
                refine g_lstore_n cx (pc2 := 86) (lv2 := [(0, .ref 0), (1, .long (lI h)), (3, .long (lI (31 * u + (wr (M 65 (i * 8 + k).toNat))))), (5, .int (iI i)), (6, .int (iI k))]) rfl (Nat.le_of_ble_eq_true rfl) dX11_mixHouses_85 rfl ?_
                exact L86 (31 * u + (wr (M 65 (i * 8 + k).toNat))) (by rw [hst]; first | (rw [if_pos (by assumption)]; done) | (rw [if_neg (by assumption)]; done))
        exact L50 _ 0 (31 * (31 * t + (plc M 23 i)) + (wr (M 64 i.toNat))) (by first | assumption | omega) (by rfl) (Nat.le_refl _)
  exact L5 _ 0 h (by first | assumption | omega) (by rfl) (Nat.le_refl _)
set_option maxHeartbeats 4000000 in
set_option maxRecDepth 100000 in
theorem c_X11_mixNeeds {n : Nat} (hn : NN n) {M : Mm} (hci : CI M) (h : Int) : CT yX11_mixNeeds cX11_mixNeeds 8 (some .long) ({ frames := 2, cells := 0, slots := 0, locals := 43 }) n [.ref 0, .long (lI h)] M (rL (mxN M h (M 23 4).toNat) M) := by
  refine CT.of (lv0 := [(0, .ref 0), (1, .long (lI h))]) (by decide +kernel) hn (fun _ => rfl) (fun _ => Nat.le_of_ble_eq_true rfl) (fun X cx cs qx => ?_)
  have cx : Cx X cX11_mixNeeds RX11 ({ frames := 2, cells := 0, slots := 0, locals := 43 }) 8 n := cx
  have hl := hci.l
  refine g_lload_n cx (pc2 := 1) 1 rfl dX11_mixNeeds_0 rfl ?_
  refine g_lstore_n cx (pc2 := 2) (lv2 := [(0, .ref 0), (1, .long (lI h)), (3, .long (lI h))]) rfl (Nat.le_of_ble_eq_true rfl) dX11_mixNeeds_1 rfl ?_
  refine g_iconst cx (pc2 := 3) dX11_mixNeeds_2 rfl ?_
  refine g_istore cx (pc2 := 5) (lv2 := [(0, .ref 0), (1, .long (lI h)), (3, .long (lI h)), (5, .int (iI 0))]) rfl (Nat.le_of_ble_eq_true rfl) dX11_mixNeeds_3 rfl ?_
  have L5 : ∀ (fu : Nat) (i : Int) (t : Int), (0 ≤ i ∧ i ≤ M 23 4) → (t = mxN M h i.toNat) → (M 23 4 - i).toNat ≤ fu → G X 5 [(0, .ref 0), (1, .long (lI h)), (3, .long (lI t)), (5, .int (iI i))] [] M := by
    intro fu
    induction fu using Nat.strongRecOn with
    | _ fu ih5 =>
      intro i t hi ht hk5
      have hndi : i < M 23 4 → NDR (M (27 + i.toNat)) := fun q => hci.nd.2 i.toNat (by omega)
      refine g_iload cx (pc2 := 7) 3 rfl dX11_mixNeeds_5 rfl ?_
      refine g_aload_n cx (pc2 := 8) 0 rfl dX11_mixNeeds_7 rfl ?_
      refine g_get cx (pc2 := 11) (ci := 11) (k0 := 0) (j := 2) (v := .ref 23) rfl iwX11 rfl (lt_lit hn (Nat.le_of_ble_eq_true rfl)) rfl (Nat.le_of_ble_eq_true rfl) kf_X11_21 rfl rfl dX11_mixNeeds_8 rfl ?_
      refine g_getN cx (pc2 := 14) (ci := 2) (k0 := 23) (j := 4) (v := .int (iI (M 23 4))) rfl iwX2 rfl (lt_lit hn (Nat.le_of_ble_eq_true rfl)) rfl (Nat.le_of_ble_eq_true rfl) kf_X11_396 rfl rfl dX11_mixNeeds_11 rfl ?_
      refine g_icmp_ge cx (pc2 := 17) (tgt := 73) ⟨(by first | assumption | omega), (by first | assumption | omega)⟩ dX11_mixNeeds_14 (by decide) rfl (fun h_1 => ?_) (fun h_1 => ?_)
      · skip
        refine g_lload_n cx (pc2 := 74) 2 rfl dX11_mixNeeds_73 rfl ?_
        exact g_lret cx qx dX11_mixNeeds_74 ⟨congrArg (fun q => some (Value.long (lI q))) (by rw [ht, show i = M 23 4 by omega]), by rfl⟩
      · skip
        refine g_aload_n cx (pc2 := 18) 0 rfl dX11_mixNeeds_17 rfl ?_
        refine g_get cx (pc2 := 21) (ci := 11) (k0 := 0) (j := 2) (v := .ref 23) rfl iwX11 rfl (lt_lit hn (Nat.le_of_ble_eq_true rfl)) rfl (Nat.le_of_ble_eq_true rfl) kf_X11_21 rfl rfl dX11_mixNeeds_18 rfl ?_
        refine g_iload cx (pc2 := 23) 3 rfl dX11_mixNeeds_21 rfl ?_
        refine g_callV cx (pc2 := 26) (st := []) (As := [.int (iI i)]) (k0 := 23) (ci := 2) (c_X2_needOf (M := M) hn (by first | exact Or.inl rfl | omega) (by first | assumption | exact hci.l) i (by first | assumption | omega)) wM_X2_needOf wV_X2_needOf kl_X11_182 rfl (lt_lit hn (Nat.le_of_ble_eq_true rfl)) rfl ⟨rfl, rfl, Nat.le_of_ble_eq_true rfl, Nat.le_of_ble_eq_true rfl⟩ (Nat.le_of_ble_eq_true rfl) cs rfl rfl dX11_mixNeeds_23 rfl ?_
        rintro _ _ ⟨rfl, rfl⟩
        refine g_rwa (y := (27 + i.toNat)) ((ndO_in (M := M) (o := 23) (i := i) ⟨by omega, by omega⟩).trans (by omega)) ?_
        refine g_astore cx (pc2 := 28) (lv2 := [(0, .ref 0), (1, .long (lI h)), (3, .long (lI t)), (5, .int (iI i)), (6, .ref (27 + i.toNat))]) rfl (Nat.le_of_ble_eq_true rfl) dX11_mixNeeds_26 rfl ?_
        refine g_iconst cx (pc2 := 29) dX11_mixNeeds_28 rfl ?_
        refine g_istore cx (pc2 := 31) (lv2 := [(0, .ref 0), (1, .long (lI h)), (3, .long (lI t)), (5, .int (iI i)), (6, .ref (27 + i.toNat)), (7, .int (iI 0))]) rfl (Nat.le_of_ble_eq_true rfl) dX11_mixNeeds_29 rfl ?_
        have L31 : ∀ (fu : Nat) (w : Int) (u : Int), (0 ≤ w ∧ w ≤ 6) → (u = mxF (fun w => M (27 + i.toNat) (tlf (w : Int))) t w.toNat) → (6 - w).toNat ≤ fu → G X 31 [(0, .ref 0), (1, .long (lI h)), (3, .long (lI u)), (5, .int (iI i)), (6, .ref (27 + i.toNat)), (7, .int (iI w))] [] M := by
          intro fu
          induction fu using Nat.strongRecOn with
          | _ fu ih31 =>
            intro w u hw hu hk31
            have hb5 := NDR_le (hndi (by omega)) (tlf w) (tlf_le w)
            have hc6 := (hndi (by omega)).2.2.2.2.2.2
            refine g_iload cx (pc2 := 33) 5 rfl dX11_mixNeeds_31 rfl ?_
            refine g_iconst cx (pc2 := 34) dX11_mixNeeds_33 rfl ?_
            refine g_icmp_gt cx (pc2 := 37) (tgt := 56) ⟨(by first | assumption | omega), ⟨by decide, by decide⟩⟩ dX11_mixNeeds_34 (by decide) rfl (fun h_2 => ?_) (fun h_2 => ?_)
            · skip
              refine g_lload_n cx (pc2 := 57) 2 rfl dX11_mixNeeds_56 rfl ?_
              refine g_aload cx (pc2 := 59) 4 rfl dX11_mixNeeds_57 rfl ?_
              refine g_getN cx (pc2 := 62) (ci := 4) (k0 := (27 + i.toNat)) (j := 6) (v := .int (iI (M (27 + i.toNat) 6))) rfl iwX4 (sh_need (by omega)) (by omega) rfl (Nat.le_of_ble_eq_true rfl) kf_X11_204 rfl rfl dX11_mixNeeds_59 rfl ?_
              refine g_i2l cx (pc2 := 63) (by first | assumption | omega) dX11_mixNeeds_62 rfl ?_
              refine g_callS cx (pc2 := 66) (st := []) (As := [.long (lI u), .long (lI (M (27 + i.toNat) 6))]) (c_X11_mix (M := M) hn u (M (27 + i.toNat) 6)) wM_X11_mix wS_X11_mix kl_X11_413 ⟨rfl, rfl, Nat.le_of_ble_eq_true rfl, Nat.le_of_ble_eq_true rfl⟩ (Nat.le_of_ble_eq_true rfl) cs rfl rfl dX11_mixNeeds_63 rfl ?_
              rintro _ _ ⟨rfl, rfl⟩
              refine g_lstore_n cx (pc2 := 67) (lv2 := [(0, .ref 0), (1, .long (lI h)), (3, .long (lI (31 * u + (M (27 + i.toNat) 6)))), (5, .int (iI i)), (6, .ref (27 + i.toNat)), (7, .int (iI w))]) rfl (Nat.le_of_ble_eq_true rfl) dX11_mixNeeds_66 rfl ?_
              refine g_iinc cx (pc2 := 70) 3 rfl (lv2 := [(0, .ref 0), (1, .long (lI h)), (3, .long (lI (31 * u + (M (27 + i.toNat) 6)))), (5, .int (iI (i + 1))), (6, .ref (27 + i.toNat)), (7, .int (iI w))]) rfl (Nat.le_of_ble_eq_true rfl) dX11_mixNeeds_67 rfl ?_
              refine g_goto cx (tgt := 5) dX11_mixNeeds_70 (by decide) ?_
              refine g_sub (lv2 := [(0, .ref 0), (1, .long (lI h)), (3, .long (lI (31 * u + (M (27 + i.toNat) 6)))), (5, .int (iI (i + 1)))]) [0, 1, 2, 3] rfl ?_
              exact ih5 ((M 23 4 - (i + 1)).toNat) (by omega) (i + 1) (31 * u + (M (27 + i.toNat) 6)) (by first | assumption | omega) (by rw [show (i + 1).toNat = i.toNat + 1 by omega, mxN, ← ht, show 6 = w.toNat by omega, hu]) (Nat.le_refl _)
            · skip
              refine g_lload_n cx (pc2 := 38) 2 rfl dX11_mixNeeds_37 rfl ?_
              refine g_aload cx (pc2 := 40) 4 rfl dX11_mixNeeds_38 rfl ?_
              refine g_iload cx (pc2 := 42) 5 rfl dX11_mixNeeds_40 rfl ?_
              refine g_callV cx (pc2 := 45) (st := [.long (lI u)]) (As := [.int (iI w)]) (k0 := (27 + i.toNat)) (ci := 4) (c_X4_tell (M := M) hn (by first | exact Or.inl rfl | omega) (by exact hndi (by omega)) w (by first | assumption | omega)) wM_X4_tell wV_X4_tell kl_X11_186 (sh_need (by omega)) (by omega) rfl ⟨rfl, rfl, Nat.le_of_ble_eq_true rfl, Nat.le_of_ble_eq_true rfl⟩ (Nat.le_of_ble_eq_true rfl) cs rfl rfl dX11_mixNeeds_42 rfl ?_
              rintro _ _ ⟨rfl, rfl⟩
              refine g_i2l cx (pc2 := 46) (by first | assumption | omega) dX11_mixNeeds_45 rfl ?_
              refine g_callS cx (pc2 := 49) (st := []) (As := [.long (lI u), .long (lI (M (27 + i.toNat) (tlf w)))]) (c_X11_mix (M := M) hn u (M (27 + i.toNat) (tlf w))) wM_X11_mix wS_X11_mix kl_X11_413 ⟨rfl, rfl, Nat.le_of_ble_eq_true rfl, Nat.le_of_ble_eq_true rfl⟩ (Nat.le_of_ble_eq_true rfl) cs rfl rfl dX11_mixNeeds_46 rfl ?_
              rintro _ _ ⟨rfl, rfl⟩
              refine g_lstore_n cx (pc2 := 50) (lv2 := [(0, .ref 0), (1, .long (lI h)), (3, .long (lI (31 * u + (M (27 + i.toNat) (tlf w))))), (5, .int (iI i)), (6, .ref (27 + i.toNat)), (7, .int (iI w))]) rfl (Nat.le_of_ble_eq_true rfl) dX11_mixNeeds_49 rfl ?_
              refine g_iinc cx (pc2 := 53) 5 rfl (lv2 := [(0, .ref 0), (1, .long (lI h)), (3, .long (lI (31 * u + (M (27 + i.toNat) (tlf w))))), (5, .int (iI i)), (6, .ref (27 + i.toNat)), (7, .int (iI (w + 1)))]) rfl (Nat.le_of_ble_eq_true rfl) dX11_mixNeeds_50 rfl ?_
              refine g_goto cx (tgt := 31) dX11_mixNeeds_53 (by decide) ?_
              exact ih31 ((6 - (w + 1)).toNat) (by omega) (w + 1) (31 * u + (M (27 + i.toNat) (tlf w))) (by first | assumption | omega) (by rw [show (w + 1).toNat = w.toNat + 1 by omega, mxF, ← hu, Int.toNat_of_nonneg hw.1]) (Nat.le_refl _)
        exact L31 _ 0 t (by first | assumption | omega) (by rfl) (Nat.le_refl _)
  exact L5 _ 0 h (by first | assumption | omega) (by rfl) (Nat.le_refl _)
set_option maxHeartbeats 4000000 in
set_option maxRecDepth 100000 in
theorem c_X11_mixPairs {n : Nat} (hn : NN n) {M : Mm} {o : Nat} (ho : isPairsO o) (hpr : PRW M o) (h : Int) : CT yX11_mixPairs cX11_mixPairs 6 (some .long) ({ frames := 2, cells := 0, slots := 0, locals := 42 }) n [.long (lI h), .ref o] M (rL (mxP M o h (M o 2).toNat) M) := by
  refine CT.of (lv0 := [(0, .long (lI h)), (2, .ref o)]) (by decide +kernel) hn (fun _ => rfl) (fun _ => Nat.le_of_ble_eq_true rfl) (fun X cx cs qx => ?_)
  have cx : Cx X cX11_mixPairs RX11 ({ frames := 2, cells := 0, slots := 0, locals := 42 }) 6 n := cx
  have hs := hpr.1
  refine g_lload_n cx (pc2 := 1) 0 rfl dX11_mixPairs_0 rfl ?_
  refine g_lstore_n cx (pc2 := 2) (lv2 := [(0, .long (lI h)), (2, .ref o), (3, .long (lI h))]) rfl (Nat.le_of_ble_eq_true rfl) dX11_mixPairs_1 rfl ?_
  refine g_iconst cx (pc2 := 3) dX11_mixPairs_2 rfl ?_
  refine g_istore cx (pc2 := 5) (lv2 := [(0, .long (lI h)), (2, .ref o), (3, .long (lI h)), (5, .int (iI 0))]) rfl (Nat.le_of_ble_eq_true rfl) dX11_mixPairs_3 rfl ?_
  have L5 : ∀ (fu : Nat) (i : Int) (t : Int), (0 ≤ i ∧ i ≤ M o 2) → (t = mxP M o h i.toNat) → (M o 2 - i).toNat ≤ fu → G X 5 [(0, .long (lI h)), (2, .ref o), (3, .long (lI t)), (5, .int (iI i))] [] M := by
    intro fu
    induction fu using Nat.strongRecOn with
    | _ fu ih5 =>
      intro i t hi ht hk5
      have hpi := hpr.2 i.toNat
      refine g_iload cx (pc2 := 7) 3 rfl dX11_mixPairs_5 rfl ?_
      refine g_aload_n cx (pc2 := 8) 1 rfl dX11_mixPairs_7 rfl ?_
      refine g_getN cx (pc2 := 11) (ci := 5) (k0 := o) (j := 2) (v := .int (iI (M o 2))) rfl iwX5 (sh_pairs ho) (by omega) rfl (Nat.le_of_ble_eq_true rfl) kf_X11_370 rfl rfl dX11_mixPairs_8 rfl ?_
      refine g_icmp_ge cx (pc2 := 14) (tgt := 44) ⟨(by first | assumption | omega), (by first | assumption | omega)⟩ dX11_mixPairs_11 (by decide) rfl (fun h_1 => ?_) (fun h_1 => ?_)
      · skip
        refine g_lload_n cx (pc2 := 45) 2 rfl dX11_mixPairs_44 rfl ?_
        exact g_lret cx qx dX11_mixPairs_45 ⟨congrArg (fun q => some (Value.long (lI q))) (by rw [ht, show i = M o 2 by omega]), by rfl⟩
      · skip
        refine g_lload_n cx (pc2 := 15) 2 rfl dX11_mixPairs_14 rfl ?_
        refine g_aload_n cx (pc2 := 16) 1 rfl dX11_mixPairs_15 rfl ?_
        refine g_iload cx (pc2 := 18) 3 rfl dX11_mixPairs_16 rfl ?_
        refine g_callV cx (pc2 := 21) (st := [.long (lI t)]) (As := [.int (iI i)]) (k0 := o) (ci := 5) (c_X5_houseOf (M := M) hn (by first | assumption | omega) (by exact hpr.1) i (by first | assumption | omega)) wM_X5_houseOf wV_X5_houseOf kl_X11_387 (sh_pairs ho) (by omega) rfl ⟨rfl, rfl, Nat.le_of_ble_eq_true rfl, Nat.le_of_ble_eq_true rfl⟩ (Nat.le_of_ble_eq_true rfl) cs rfl rfl dX11_mixPairs_18 rfl ?_
        rintro _ _ ⟨rfl, rfl⟩
        refine g_rwi (y := iI (M (o + 1) i.toNat)) (congrArg iI (by unfold prM; rw [if_pos (by omega)])) ?_
        refine g_i2l cx (pc2 := 22) (by first | assumption | omega) dX11_mixPairs_21 rfl ?_
        refine g_callS cx (pc2 := 25) (st := []) (As := [.long (lI t), .long (lI (M (o + 1) i.toNat))]) (c_X11_mix (M := M) hn t (M (o + 1) i.toNat)) wM_X11_mix wS_X11_mix kl_X11_413 ⟨rfl, rfl, Nat.le_of_ble_eq_true rfl, Nat.le_of_ble_eq_true rfl⟩ (Nat.le_of_ble_eq_true rfl) cs rfl rfl dX11_mixPairs_22 rfl ?_
        rintro _ _ ⟨rfl, rfl⟩
        refine g_lstore_n cx (pc2 := 26) (lv2 := [(0, .long (lI h)), (2, .ref o), (3, .long (lI (31 * t + (M (o + 1) i.toNat)))), (5, .int (iI i))]) rfl (Nat.le_of_ble_eq_true rfl) dX11_mixPairs_25 rfl ?_
        refine g_lload_n cx (pc2 := 27) 2 rfl dX11_mixPairs_26 rfl ?_
        refine g_aload_n cx (pc2 := 28) 1 rfl dX11_mixPairs_27 rfl ?_
        refine g_iload cx (pc2 := 30) 3 rfl dX11_mixPairs_28 rfl ?_
        refine g_callV cx (pc2 := 33) (st := [.long (lI (31 * t + (M (o + 1) i.toNat)))]) (As := [.int (iI i)]) (k0 := o) (ci := 5) (c_X5_valueOf (M := M) hn (by first | assumption | omega) (by exact hpr.1) i (by first | assumption | omega)) wM_X5_valueOf wV_X5_valueOf kl_X11_374 (sh_pairs ho) (by omega) rfl ⟨rfl, rfl, Nat.le_of_ble_eq_true rfl, Nat.le_of_ble_eq_true rfl⟩ (Nat.le_of_ble_eq_true rfl) cs rfl rfl dX11_mixPairs_30 rfl ?_
        rintro _ _ ⟨rfl, rfl⟩
        refine g_rwi (y := iI (M (o + 2) i.toNat)) (congrArg iI (by unfold prM; rw [if_pos (by omega)])) ?_
        refine g_i2l cx (pc2 := 34) (by first | assumption | omega) dX11_mixPairs_33 rfl ?_
        refine g_callS cx (pc2 := 37) (st := []) (As := [.long (lI (31 * t + (M (o + 1) i.toNat))), .long (lI (M (o + 2) i.toNat))]) (c_X11_mix (M := M) hn (31 * t + (M (o + 1) i.toNat)) (M (o + 2) i.toNat)) wM_X11_mix wS_X11_mix kl_X11_413 ⟨rfl, rfl, Nat.le_of_ble_eq_true rfl, Nat.le_of_ble_eq_true rfl⟩ (Nat.le_of_ble_eq_true rfl) cs rfl rfl dX11_mixPairs_34 rfl ?_
        rintro _ _ ⟨rfl, rfl⟩
        refine g_lstore_n cx (pc2 := 38) (lv2 := [(0, .long (lI h)), (2, .ref o), (3, .long (lI (31 * (31 * t + (M (o + 1) i.toNat)) + (M (o + 2) i.toNat)))), (5, .int (iI i))]) rfl (Nat.le_of_ble_eq_true rfl) dX11_mixPairs_37 rfl ?_
        refine g_iinc cx (pc2 := 41) 3 rfl (lv2 := [(0, .long (lI h)), (2, .ref o), (3, .long (lI (31 * (31 * t + (M (o + 1) i.toNat)) + (M (o + 2) i.toNat)))), (5, .int (iI (i + 1)))]) rfl (Nat.le_of_ble_eq_true rfl) dX11_mixPairs_38 rfl ?_
        refine g_goto cx (tgt := 5) dX11_mixPairs_41 (by decide) ?_
        exact ih5 ((M o 2 - (i + 1)).toNat) (by omega) (i + 1) (31 * (31 * t + (M (o + 1) i.toNat)) + (M (o + 2) i.toNat)) (by first | assumption | omega) (by rw [show (i + 1).toNat = i.toNat + 1 by omega, mxP, ← ht]) (Nat.le_refl _)
  exact L5 _ 0 h (by first | assumption | omega) (by rfl) (Nat.le_refl _)
set_option maxHeartbeats 4000000 in
set_option maxRecDepth 100000 in
theorem c_mr1 {n : Nat} (hn : NN n) {M : Mm} (hrw : RWW M) (h : Int) : CT yX11_mixRows cX11_mixRows 10 (some .long) ({ frames := 2, cells := 0, slots := 0, locals := 42 }) n [.long (lI h), .ref 1] M (rL (mxR M 3 h 6) M) := by
  refine CT.of (lv0 := [(0, .long (lI h)), (2, .ref 1)]) (by decide +kernel) hn (fun _ => rfl) (fun _ => Nat.le_of_ble_eq_true rfl) (fun X cx cs qx => ?_)
  have cx : Cx X cX11_mixRows RX11 ({ frames := 2, cells := 0, slots := 0, locals := 42 }) 10 n := cx
  refine g_lload_n cx (pc2 := 1) 0 rfl dX11_mixRows_0 rfl ?_
  refine g_lstore_n cx (pc2 := 2) (lv2 := [(0, .long (lI h)), (2, .ref 1), (3, .long (lI h))]) rfl (Nat.le_of_ble_eq_true rfl) dX11_mixRows_1 rfl ?_
  refine g_aload_n cx (pc2 := 3) 1 rfl dX11_mixRows_2 rfl ?_
  refine g_astore cx (pc2 := 5) (lv2 := [(0, .long (lI h)), (2, .ref 1), (3, .long (lI h)), (5, .ref 1)]) rfl (Nat.le_of_ble_eq_true rfl) dX11_mixRows_3 rfl ?_
  refine g_aload cx (pc2 := 7) 3 rfl dX11_mixRows_5 rfl ?_
  refine g_alen cx (pc2 := 8) (k0 := 1) (v := 6) rfl (by decide) (lt_lit hn (Nat.le_of_ble_eq_true rfl)) rfl dX11_mixRows_7 rfl ?_
  refine g_istore cx (pc2 := 10) (lv2 := [(0, .long (lI h)), (2, .ref 1), (3, .long (lI h)), (5, .ref 1), (6, .int (iI 6))]) rfl (Nat.le_of_ble_eq_true rfl) dX11_mixRows_8 rfl ?_
  refine g_iconst cx (pc2 := 11) dX11_mixRows_10 rfl ?_
  refine g_istore cx (pc2 := 13) (lv2 := [(0, .long (lI h)), (2, .ref 1), (3, .long (lI h)), (5, .ref 1), (6, .int (iI 6)), (7, .int (iI 0))]) rfl (Nat.le_of_ble_eq_true rfl) dX11_mixRows_11 rfl ?_
  have L13 : ∀ (fu : Nat) (i : Int) (t : Int), (0 ≤ i ∧ i ≤ 6) → (t = mxR M 3 h i.toNat) → (6 - i).toNat ≤ fu → G X 13 [(0, .long (lI h)), (2, .ref 1), (3, .long (lI t)), (5, .ref 1), (6, .int (iI 6)), (7, .int (iI i))] [] M := by
    intro fu
    induction fu using Nat.strongRecOn with
    | _ fu ih13 =>
      intro i t hi ht hk13
      have hro : i < 6 → isRowO (3 + 2 * i.toNat) := fun q => by omega
      have hrow := fun q => hrw _ (hro q)
      have hcap := capO_b (3 + 2 * i.toNat)
      refine g_iload cx (pc2 := 15) 5 rfl dX11_mixRows_13 rfl ?_
      refine g_iload cx (pc2 := 17) 4 rfl dX11_mixRows_15 rfl ?_
      refine g_icmp_ge cx (pc2 := 20) (tgt := 81) ⟨(by first | assumption | omega), ⟨by decide, by decide⟩⟩ dX11_mixRows_17 (by decide) rfl (fun h_1 => ?_) (fun h_1 => ?_)
      · skip
        refine g_lload_n cx (pc2 := 82) 2 rfl dX11_mixRows_81 rfl ?_
        exact g_lret cx qx dX11_mixRows_82 ⟨congrArg (fun q => some (Value.long (lI q))) (by rw [ht, show i = 6 by omega]; rfl), by rfl⟩
      · skip
        refine g_aload cx (pc2 := 22) 3 rfl dX11_mixRows_20 rfl ?_
        refine g_iload cx (pc2 := 24) 5 rfl dX11_mixRows_22 rfl ?_
        refine g_aald cx (pc2 := 25) (k0 := 1) rfl (by decide) (lt_lit hn (Nat.le_of_ble_eq_true rfl)) (by first | assumption | omega) (by first | assumption | omega) (Nat.le_of_ble_eq_true rfl) dX11_mixRows_24 rfl ?_
        refine g_astore cx (pc2 := 27) (lv2 := [(0, .long (lI h)), (2, .ref 1), (3, .long (lI t)), (5, .ref 1), (6, .int (iI 6)), (7, .int (iI i)), (8, .ref (3 + 2 * (i).toNat))]) rfl (Nat.le_of_ble_eq_true rfl) dX11_mixRows_25 rfl ?_
        refine g_aload cx (pc2 := 29) 6 rfl dX11_mixRows_27 rfl ?_
        refine g_ifnull cx (pc2 := 32) dX11_mixRows_29 rfl ?_
        refine g_lload_n cx (pc2 := 33) 2 rfl dX11_mixRows_32 rfl ?_
        refine g_aload cx (pc2 := 35) 6 rfl dX11_mixRows_33 rfl ?_
        refine g_callV cx (pc2 := 38) (st := [.long (lI t)]) (As := []) (k0 := (3 + 2 * (i).toNat)) (ci := 8) (c_X8_length (M := M) hn (by exact hro (by omega))) wM_X8_length wV_X8_length kl_X11_146 (sh_row (hro (by omega))) (by omega) rfl ⟨rfl, rfl, Nat.le_of_ble_eq_true rfl, Nat.le_of_ble_eq_true rfl⟩ (Nat.le_of_ble_eq_true rfl) cs rfl rfl dX11_mixRows_35 rfl ?_
        rintro _ _ ⟨rfl, rfl⟩
        have hro1 := (hrow (by omega)).1
        refine g_i2l cx (pc2 := 39) (by first | assumption | omega) dX11_mixRows_38 rfl ?_
        refine g_callS cx (pc2 := 42) (st := []) (As := [.long (lI t), .long (lI (M (3 + 2 * (i).toNat) 1))]) (c_X11_mix (M := M) hn t (M (3 + 2 * (i).toNat) 1)) wM_X11_mix wS_X11_mix kl_X11_413 ⟨rfl, rfl, Nat.le_of_ble_eq_true rfl, Nat.le_of_ble_eq_true rfl⟩ (Nat.le_of_ble_eq_true rfl) cs rfl rfl dX11_mixRows_39 rfl ?_
        rintro _ _ ⟨rfl, rfl⟩
        refine g_lstore_n cx (pc2 := 43) (lv2 := [(0, .long (lI h)), (2, .ref 1), (3, .long (lI (31 * t + (M (3 + 2 * (i).toNat) 1)))), (5, .ref 1), (6, .int (iI 6)), (7, .int (iI i)), (8, .ref (3 + 2 * (i).toNat))]) rfl (Nat.le_of_ble_eq_true rfl) dX11_mixRows_42 rfl ?_
        refine g_iconst cx (pc2 := 44) dX11_mixRows_43 rfl ?_
        refine g_istore cx (pc2 := 46) (lv2 := [(0, .long (lI h)), (2, .ref 1), (3, .long (lI (31 * t + (M (3 + 2 * (i).toNat) 1)))), (5, .ref 1), (6, .int (iI 6)), (7, .int (iI i)), (8, .ref (3 + 2 * (i).toNat)), (9, .int (iI 0))]) rfl (Nat.le_of_ble_eq_true rfl) dX11_mixRows_44 rfl ?_
        have L46 : ∀ (fu : Nat) (j : Int) (u : Int), (0 ≤ j ∧ (j ≤ M (3 + 2 * i.toNat) 1 ∨ j = 0)) → (u = mxF (M (3 + 2 * i.toNat + 1)) (31 * t + M (3 + 2 * i.toNat) 1) j.toNat) → (M (3 + 2 * i.toNat) 1 - j).toNat ≤ fu → G X 46 [(0, .long (lI h)), (2, .ref 1), (3, .long (lI u)), (5, .ref 1), (6, .int (iI 6)), (7, .int (iI i)), (8, .ref (3 + 2 * i.toNat)), (9, .int (iI j))] [] M := by
          intro fu
          induction fu using Nat.strongRecOn with
          | _ fu ih46 =>
            intro j u hj hu hk46
            refine g_iload cx (pc2 := 48) 7 rfl dX11_mixRows_46 rfl ?_
            refine g_aload cx (pc2 := 50) 6 rfl dX11_mixRows_48 rfl ?_
            refine g_callV cx (pc2 := 53) (st := [.int (iI j)]) (As := []) (k0 := (3 + 2 * i.toNat)) (ci := 8) (c_X8_length (M := M) hn (by exact hro (by omega))) wM_X8_length wV_X8_length kl_X11_146 (sh_row (hro (by omega))) (by omega) rfl ⟨rfl, rfl, Nat.le_of_ble_eq_true rfl, Nat.le_of_ble_eq_true rfl⟩ (Nat.le_of_ble_eq_true rfl) cs rfl rfl dX11_mixRows_50 rfl ?_
            rintro _ _ ⟨rfl, rfl⟩
            refine g_icmp_ge cx (pc2 := 56) (tgt := 75) ⟨(by first | assumption | omega), (by first | assumption | omega)⟩ dX11_mixRows_53 (by decide) rfl (fun h_2 => ?_) (fun h_2 => ?_)
            · skip
              refine g_iinc cx (pc2 := 78) 5 rfl (lv2 := [(0, .long (lI h)), (2, .ref 1), (3, .long (lI u)), (5, .ref 1), (6, .int (iI 6)), (7, .int (iI (i + 1))), (8, .ref (3 + 2 * i.toNat)), (9, .int (iI j))]) rfl (Nat.le_of_ble_eq_true rfl) dX11_mixRows_75 rfl ?_
              refine g_goto cx (tgt := 13) dX11_mixRows_78 (by decide) ?_
              refine g_sub (lv2 := [(0, .long (lI h)), (2, .ref 1), (3, .long (lI u)), (5, .ref 1), (6, .int (iI 6)), (7, .int (iI (i + 1)))]) [0, 1, 2, 3, 4, 5] rfl ?_
              exact ih13 ((6 - (i + 1)).toNat) (by omega) (i + 1) u (by first | assumption | omega) (by rw [show (i + 1).toNat = i.toNat + 1 by omega, mxR, ← ht, hu]; congr 1; omega) (Nat.le_refl _)
            · skip
              refine g_lload_n cx (pc2 := 57) 2 rfl dX11_mixRows_56 rfl ?_
              refine g_aload cx (pc2 := 59) 6 rfl dX11_mixRows_57 rfl ?_
              refine g_iload cx (pc2 := 61) 7 rfl dX11_mixRows_59 rfl ?_
              refine g_callV cx (pc2 := 64) (st := [.long (lI u)]) (As := [.int (iI j)]) (k0 := (3 + 2 * i.toNat)) (ci := 8) (c_X8_cell (M := M) hn (by exact hro (by omega)) (by exact (hrow (by omega)).1) j (by first | assumption | omega)) wM_X8_cell wV_X8_cell kl_X11_129 (sh_row (hro (by omega))) (by omega) rfl ⟨rfl, rfl, Nat.le_of_ble_eq_true rfl, Nat.le_of_ble_eq_true rfl⟩ (Nat.le_of_ble_eq_true rfl) cs rfl rfl dX11_mixRows_61 rfl ?_
              rintro _ _ ⟨rfl, rfl⟩
              refine g_rwi (y := iI (M (3 + 2 * i.toNat + 1) j.toNat)) (congrArg iI (if_pos (by omega))) ?_
              refine g_i2l cx (pc2 := 65) (by exact (hrow (by omega)).2 _) dX11_mixRows_64 rfl ?_
              refine g_callS cx (pc2 := 68) (st := []) (As := [.long (lI u), .long (lI (M (3 + 2 * i.toNat + 1) j.toNat))]) (c_X11_mix (M := M) hn u (M (3 + 2 * i.toNat + 1) j.toNat)) wM_X11_mix wS_X11_mix kl_X11_413 ⟨rfl, rfl, Nat.le_of_ble_eq_true rfl, Nat.le_of_ble_eq_true rfl⟩ (Nat.le_of_ble_eq_true rfl) cs rfl rfl dX11_mixRows_65 rfl ?_
              rintro _ _ ⟨rfl, rfl⟩
              refine g_lstore_n cx (pc2 := 69) (lv2 := [(0, .long (lI h)), (2, .ref 1), (3, .long (lI (31 * u + (M (3 + 2 * i.toNat + 1) j.toNat)))), (5, .ref 1), (6, .int (iI 6)), (7, .int (iI i)), (8, .ref (3 + 2 * i.toNat)), (9, .int (iI j))]) rfl (Nat.le_of_ble_eq_true rfl) dX11_mixRows_68 rfl ?_
              refine g_iinc cx (pc2 := 72) 7 rfl (lv2 := [(0, .long (lI h)), (2, .ref 1), (3, .long (lI (31 * u + (M (3 + 2 * i.toNat + 1) j.toNat)))), (5, .ref 1), (6, .int (iI 6)), (7, .int (iI i)), (8, .ref (3 + 2 * i.toNat)), (9, .int (iI (j + 1)))]) rfl (Nat.le_of_ble_eq_true rfl) dX11_mixRows_69 rfl ?_
              refine g_goto cx (tgt := 46) dX11_mixRows_72 (by decide) ?_
              exact ih46 ((M (3 + 2 * i.toNat) 1 - (j + 1)).toNat) (by omega) (j + 1) (31 * u + (M (3 + 2 * i.toNat + 1) j.toNat)) (by first | assumption | omega) (by rw [show (j + 1).toNat = j.toNat + 1 by omega, mxF, ← hu]) (Nat.le_refl _)
        exact L46 _ 0 (31 * t + (M (3 + 2 * (i).toNat) 1)) (by first | assumption | omega) (by rfl) (Nat.le_refl _)
  exact L13 _ 0 h (by first | assumption | omega) (by rfl) (Nat.le_refl _)
set_option maxHeartbeats 4000000 in
set_option maxRecDepth 100000 in
theorem c_mr2 {n : Nat} (hn : NN n) {M : Mm} (hrw : RWW M) (h : Int) : CT yX11_mixRows cX11_mixRows 10 (some .long) ({ frames := 2, cells := 0, slots := 0, locals := 42 }) n [.long (lI h), .ref 2] M (rL (mxR M 15 h 4) M) := by
  refine CT.of (lv0 := [(0, .long (lI h)), (2, .ref 2)]) (by decide +kernel) hn (fun _ => rfl) (fun _ => Nat.le_of_ble_eq_true rfl) (fun X cx cs qx => ?_)
  have cx : Cx X cX11_mixRows RX11 ({ frames := 2, cells := 0, slots := 0, locals := 42 }) 10 n := cx
  refine g_lload_n cx (pc2 := 1) 0 rfl dX11_mixRows_0 rfl ?_
  refine g_lstore_n cx (pc2 := 2) (lv2 := [(0, .long (lI h)), (2, .ref 2), (3, .long (lI h))]) rfl (Nat.le_of_ble_eq_true rfl) dX11_mixRows_1 rfl ?_
  refine g_aload_n cx (pc2 := 3) 1 rfl dX11_mixRows_2 rfl ?_
  refine g_astore cx (pc2 := 5) (lv2 := [(0, .long (lI h)), (2, .ref 2), (3, .long (lI h)), (5, .ref 2)]) rfl (Nat.le_of_ble_eq_true rfl) dX11_mixRows_3 rfl ?_
  refine g_aload cx (pc2 := 7) 3 rfl dX11_mixRows_5 rfl ?_
  refine g_alen cx (pc2 := 8) (k0 := 2) (v := 4) rfl (by decide) (lt_lit hn (Nat.le_of_ble_eq_true rfl)) rfl dX11_mixRows_7 rfl ?_
  refine g_istore cx (pc2 := 10) (lv2 := [(0, .long (lI h)), (2, .ref 2), (3, .long (lI h)), (5, .ref 2), (6, .int (iI 4))]) rfl (Nat.le_of_ble_eq_true rfl) dX11_mixRows_8 rfl ?_
  refine g_iconst cx (pc2 := 11) dX11_mixRows_10 rfl ?_
  refine g_istore cx (pc2 := 13) (lv2 := [(0, .long (lI h)), (2, .ref 2), (3, .long (lI h)), (5, .ref 2), (6, .int (iI 4)), (7, .int (iI 0))]) rfl (Nat.le_of_ble_eq_true rfl) dX11_mixRows_11 rfl ?_
  have L13 : ∀ (fu : Nat) (i : Int) (t : Int), (0 ≤ i ∧ i ≤ 4) → (t = mxR M 15 h i.toNat) → (4 - i).toNat ≤ fu → G X 13 [(0, .long (lI h)), (2, .ref 2), (3, .long (lI t)), (5, .ref 2), (6, .int (iI 4)), (7, .int (iI i))] [] M := by
    intro fu
    induction fu using Nat.strongRecOn with
    | _ fu ih13 =>
      intro i t hi ht hk13
      have hro : i < 4 → isRowO (15 + 2 * i.toNat) := fun q => by omega
      have hrow := fun q => hrw _ (hro q)
      have hcap := capO_b (15 + 2 * i.toNat)
      refine g_iload cx (pc2 := 15) 5 rfl dX11_mixRows_13 rfl ?_
      refine g_iload cx (pc2 := 17) 4 rfl dX11_mixRows_15 rfl ?_
      refine g_icmp_ge cx (pc2 := 20) (tgt := 81) ⟨(by first | assumption | omega), ⟨by decide, by decide⟩⟩ dX11_mixRows_17 (by decide) rfl (fun h_1 => ?_) (fun h_1 => ?_)
      · skip
        refine g_lload_n cx (pc2 := 82) 2 rfl dX11_mixRows_81 rfl ?_
        exact g_lret cx qx dX11_mixRows_82 ⟨congrArg (fun q => some (Value.long (lI q))) (by rw [ht, show i = 4 by omega]; rfl), by rfl⟩
      · skip
        refine g_aload cx (pc2 := 22) 3 rfl dX11_mixRows_20 rfl ?_
        refine g_iload cx (pc2 := 24) 5 rfl dX11_mixRows_22 rfl ?_
        refine g_aald cx (pc2 := 25) (k0 := 2) rfl (by decide) (lt_lit hn (Nat.le_of_ble_eq_true rfl)) (by first | assumption | omega) (by first | assumption | omega) (Nat.le_of_ble_eq_true rfl) dX11_mixRows_24 rfl ?_
        refine g_astore cx (pc2 := 27) (lv2 := [(0, .long (lI h)), (2, .ref 2), (3, .long (lI t)), (5, .ref 2), (6, .int (iI 4)), (7, .int (iI i)), (8, .ref (15 + 2 * (i).toNat))]) rfl (Nat.le_of_ble_eq_true rfl) dX11_mixRows_25 rfl ?_
        refine g_aload cx (pc2 := 29) 6 rfl dX11_mixRows_27 rfl ?_
        refine g_ifnull cx (pc2 := 32) dX11_mixRows_29 rfl ?_
        refine g_lload_n cx (pc2 := 33) 2 rfl dX11_mixRows_32 rfl ?_
        refine g_aload cx (pc2 := 35) 6 rfl dX11_mixRows_33 rfl ?_
        refine g_callV cx (pc2 := 38) (st := [.long (lI t)]) (As := []) (k0 := (15 + 2 * (i).toNat)) (ci := 8) (c_X8_length (M := M) hn (by exact hro (by omega))) wM_X8_length wV_X8_length kl_X11_146 (sh_row (hro (by omega))) (by omega) rfl ⟨rfl, rfl, Nat.le_of_ble_eq_true rfl, Nat.le_of_ble_eq_true rfl⟩ (Nat.le_of_ble_eq_true rfl) cs rfl rfl dX11_mixRows_35 rfl ?_
        rintro _ _ ⟨rfl, rfl⟩
        have hro1 := (hrow (by omega)).1
        refine g_i2l cx (pc2 := 39) (by first | assumption | omega) dX11_mixRows_38 rfl ?_
        refine g_callS cx (pc2 := 42) (st := []) (As := [.long (lI t), .long (lI (M (15 + 2 * (i).toNat) 1))]) (c_X11_mix (M := M) hn t (M (15 + 2 * (i).toNat) 1)) wM_X11_mix wS_X11_mix kl_X11_413 ⟨rfl, rfl, Nat.le_of_ble_eq_true rfl, Nat.le_of_ble_eq_true rfl⟩ (Nat.le_of_ble_eq_true rfl) cs rfl rfl dX11_mixRows_39 rfl ?_
        rintro _ _ ⟨rfl, rfl⟩
        refine g_lstore_n cx (pc2 := 43) (lv2 := [(0, .long (lI h)), (2, .ref 2), (3, .long (lI (31 * t + (M (15 + 2 * (i).toNat) 1)))), (5, .ref 2), (6, .int (iI 4)), (7, .int (iI i)), (8, .ref (15 + 2 * (i).toNat))]) rfl (Nat.le_of_ble_eq_true rfl) dX11_mixRows_42 rfl ?_
        refine g_iconst cx (pc2 := 44) dX11_mixRows_43 rfl ?_
        refine g_istore cx (pc2 := 46) (lv2 := [(0, .long (lI h)), (2, .ref 2), (3, .long (lI (31 * t + (M (15 + 2 * (i).toNat) 1)))), (5, .ref 2), (6, .int (iI 4)), (7, .int (iI i)), (8, .ref (15 + 2 * (i).toNat)), (9, .int (iI 0))]) rfl (Nat.le_of_ble_eq_true rfl) dX11_mixRows_44 rfl ?_
        have L46 : ∀ (fu : Nat) (j : Int) (u : Int), (0 ≤ j ∧ (j ≤ M (15 + 2 * i.toNat) 1 ∨ j = 0)) → (u = mxF (M (15 + 2 * i.toNat + 1)) (31 * t + M (15 + 2 * i.toNat) 1) j.toNat) → (M (15 + 2 * i.toNat) 1 - j).toNat ≤ fu → G X 46 [(0, .long (lI h)), (2, .ref 2), (3, .long (lI u)), (5, .ref 2), (6, .int (iI 4)), (7, .int (iI i)), (8, .ref (15 + 2 * i.toNat)), (9, .int (iI j))] [] M := by
          intro fu
          induction fu using Nat.strongRecOn with
          | _ fu ih46 =>
            intro j u hj hu hk46
            refine g_iload cx (pc2 := 48) 7 rfl dX11_mixRows_46 rfl ?_
            refine g_aload cx (pc2 := 50) 6 rfl dX11_mixRows_48 rfl ?_
            refine g_callV cx (pc2 := 53) (st := [.int (iI j)]) (As := []) (k0 := (15 + 2 * i.toNat)) (ci := 8) (c_X8_length (M := M) hn (by exact hro (by omega))) wM_X8_length wV_X8_length kl_X11_146 (sh_row (hro (by omega))) (by omega) rfl ⟨rfl, rfl, Nat.le_of_ble_eq_true rfl, Nat.le_of_ble_eq_true rfl⟩ (Nat.le_of_ble_eq_true rfl) cs rfl rfl dX11_mixRows_50 rfl ?_
            rintro _ _ ⟨rfl, rfl⟩
            refine g_icmp_ge cx (pc2 := 56) (tgt := 75) ⟨(by first | assumption | omega), (by first | assumption | omega)⟩ dX11_mixRows_53 (by decide) rfl (fun h_2 => ?_) (fun h_2 => ?_)
            · skip
              refine g_iinc cx (pc2 := 78) 5 rfl (lv2 := [(0, .long (lI h)), (2, .ref 2), (3, .long (lI u)), (5, .ref 2), (6, .int (iI 4)), (7, .int (iI (i + 1))), (8, .ref (15 + 2 * i.toNat)), (9, .int (iI j))]) rfl (Nat.le_of_ble_eq_true rfl) dX11_mixRows_75 rfl ?_
              refine g_goto cx (tgt := 13) dX11_mixRows_78 (by decide) ?_
              refine g_sub (lv2 := [(0, .long (lI h)), (2, .ref 2), (3, .long (lI u)), (5, .ref 2), (6, .int (iI 4)), (7, .int (iI (i + 1)))]) [0, 1, 2, 3, 4, 5] rfl ?_
              exact ih13 ((4 - (i + 1)).toNat) (by omega) (i + 1) u (by first | assumption | omega) (by rw [show (i + 1).toNat = i.toNat + 1 by omega, mxR, ← ht, hu]; congr 1; omega) (Nat.le_refl _)
            · skip
              refine g_lload_n cx (pc2 := 57) 2 rfl dX11_mixRows_56 rfl ?_
              refine g_aload cx (pc2 := 59) 6 rfl dX11_mixRows_57 rfl ?_
              refine g_iload cx (pc2 := 61) 7 rfl dX11_mixRows_59 rfl ?_
              refine g_callV cx (pc2 := 64) (st := [.long (lI u)]) (As := [.int (iI j)]) (k0 := (15 + 2 * i.toNat)) (ci := 8) (c_X8_cell (M := M) hn (by exact hro (by omega)) (by exact (hrow (by omega)).1) j (by first | assumption | omega)) wM_X8_cell wV_X8_cell kl_X11_129 (sh_row (hro (by omega))) (by omega) rfl ⟨rfl, rfl, Nat.le_of_ble_eq_true rfl, Nat.le_of_ble_eq_true rfl⟩ (Nat.le_of_ble_eq_true rfl) cs rfl rfl dX11_mixRows_61 rfl ?_
              rintro _ _ ⟨rfl, rfl⟩
              refine g_rwi (y := iI (M (15 + 2 * i.toNat + 1) j.toNat)) (congrArg iI (if_pos (by omega))) ?_
              refine g_i2l cx (pc2 := 65) (by exact (hrow (by omega)).2 _) dX11_mixRows_64 rfl ?_
              refine g_callS cx (pc2 := 68) (st := []) (As := [.long (lI u), .long (lI (M (15 + 2 * i.toNat + 1) j.toNat))]) (c_X11_mix (M := M) hn u (M (15 + 2 * i.toNat + 1) j.toNat)) wM_X11_mix wS_X11_mix kl_X11_413 ⟨rfl, rfl, Nat.le_of_ble_eq_true rfl, Nat.le_of_ble_eq_true rfl⟩ (Nat.le_of_ble_eq_true rfl) cs rfl rfl dX11_mixRows_65 rfl ?_
              rintro _ _ ⟨rfl, rfl⟩
              refine g_lstore_n cx (pc2 := 69) (lv2 := [(0, .long (lI h)), (2, .ref 2), (3, .long (lI (31 * u + (M (15 + 2 * i.toNat + 1) j.toNat)))), (5, .ref 2), (6, .int (iI 4)), (7, .int (iI i)), (8, .ref (15 + 2 * i.toNat)), (9, .int (iI j))]) rfl (Nat.le_of_ble_eq_true rfl) dX11_mixRows_68 rfl ?_
              refine g_iinc cx (pc2 := 72) 7 rfl (lv2 := [(0, .long (lI h)), (2, .ref 2), (3, .long (lI (31 * u + (M (15 + 2 * i.toNat + 1) j.toNat)))), (5, .ref 2), (6, .int (iI 4)), (7, .int (iI i)), (8, .ref (15 + 2 * i.toNat)), (9, .int (iI (j + 1)))]) rfl (Nat.le_of_ble_eq_true rfl) dX11_mixRows_69 rfl ?_
              refine g_goto cx (tgt := 46) dX11_mixRows_72 (by decide) ?_
              exact ih46 ((M (15 + 2 * i.toNat) 1 - (j + 1)).toNat) (by omega) (j + 1) (31 * u + (M (15 + 2 * i.toNat + 1) j.toNat)) (by first | assumption | omega) (by rw [show (j + 1).toNat = j.toNat + 1 by omega, mxF, ← hu]) (Nat.le_refl _)
        exact L46 _ 0 (31 * t + (M (15 + 2 * (i).toNat) 1)) (by first | assumption | omega) (by rfl) (Nat.le_refl _)
  exact L13 _ 0 h (by first | assumption | omega) (by rfl) (Nat.le_refl _)
