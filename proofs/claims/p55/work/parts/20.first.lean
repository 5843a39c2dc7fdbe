theorem stp_of {M M2 : Mm} (h23 : M2 23 = M 23) (h24 : M2 24 = M 24) : stp M2 = stp M := by
  show (if 0 ≤ M2 23 5 ∧ M2 23 5 < M2 23 3 then M2 24 (M2 23 5).toNat else 0) = (if 0 ≤ M 23 5 ∧ M 23 5 < M 23 3 then M 24 (M 23 5).toNat else 0)
  rw [h23, h24]
theorem gfA_off (M : Mm) (w : Int) {a : Nat} (h : a < 48 ∨ 59 < a) : gfA M w a = M a := by
  unfold gfA
  rw [rcM_off _ _ _ _ (by omega) (by omega), ldM_off (by omega)]
abbrev nx1 (r i : Int) : Int := ((ndN r.toNat (bitN i) : Nat) : Int)
theorem giS_a {T : Mm} {r i : Int} (h : nx1 r i = r ∨ endJ T i (T 54 4) (T 54 5) = -9) : giS T r i = (T, r) := by unfold giS; rw [if_pos h]
theorem giS_b {T V : Mm} {r i : Int} (h : ¬ (nx1 r i = r ∨ endJ T i (T 54 4) (T 54 5) = -9)) (hV : V = rcM T (nx1 r i) (plJ T i) (endJ T i (T 54 4) (T 54 5))) (h3 : V 59 (ndN r.toNat (bitN i)) = -9 ∨ ¬ okW V i) : giS T r i = (V, r) := by
  subst hV
  unfold giS
  rw [if_neg h, if_neg]
  rintro ⟨q1, q2⟩
  rcases h3 with h3 | h3
  · exact q1 h3
  · exact h3 q2
theorem giS_c {T V : Mm} {r i : Int} (h : ¬ (nx1 r i = r ∨ endJ T i (T 54 4) (T 54 5) = -9)) (hV : V = rcM T (nx1 r i) (plJ T i) (endJ T i (T 54 4) (T 54 5))) (h3 : ¬ V 59 (ndN r.toNat (bitN i)) = -9) (h4 : okW V i) : giS T r i = (meM V i, nx1 r i) := by
  subst hV
  unfold giS
  rw [if_neg h, if_pos ⟨h3, h4⟩]
set_option maxHeartbeats 4000000 in
set_option maxRecDepth 100000 in
theorem c_X11_goFirstOrder {n : Nat} (hn : NN n) {M : Mm} (hci : CI M) (w : Int) (hw : 0 ≤ w ∧ w ≤ 255) : CT yX11_goFirstOrder cX11_goFirstOrder 8 (some .boolean) ({ frames := 5, cells := 0, slots := 0, locals := 124 }) n [.ref 0, .int (iI w)] M (rI (b2 (¬ gfA M w 59 w.toNat = -9 ∧ (gfO M w).2 = 0)) (if gfA M w 59 w.toNat = -9 then gfA M w else (gfO M w).1)) := by
  refine CT.of (lv0 := [(0, .ref 0), (1, .int (iI w))]) (by decide +kernel) hn (fun _ => rfl) (fun _ => Nat.le_of_ble_eq_true rfl) (fun X cx cs qx => ?_)
  have cx : Cx X cX11_goFirstOrder RX11 ({ frames := 5, cells := 0, slots := 0, locals := 124 }) 8 n := cx
  have hc1 := hci.ld
  have hsp := hci.sp
  have hc2 : CI (gfA M w) := hc1.rc hsp (Or.inr (by omega))
  have hc3 := hc2.bg hsp
  have hE := (hc2.p w.toNat).2.1
  refine g_aload_n cx (pc2 := 1) 0 rfl dX11_goFirstOrder_0 rfl ?_
  refine g_get cx (pc2 := 4) (ci := 11) (k0 := 0) (j := 5) (v := .ref 48) rfl iwX11 rfl (lt_lit hn (Nat.le_of_ble_eq_true rfl)) rfl (Nat.le_of_ble_eq_true rfl) kf_X11_38 rfl rfl dX11_goFirstOrder_1 rfl ?_
  refine g_aload_n cx (pc2 := 5) 0 rfl dX11_goFirstOrder_4 rfl ?_
  refine g_get cx (pc2 := 8) (ci := 11) (k0 := 0) (j := 2) (v := .ref 23) rfl iwX11 rfl (lt_lit hn (Nat.le_of_ble_eq_true rfl)) rfl (Nat.le_of_ble_eq_true rfl) kf_X11_21 rfl rfl dX11_goFirstOrder_5 rfl ?_
  refine g_callV cx (pc2 := 11) (st := []) (As := [.ref 23]) (k0 := 48) (ci := 1) (c_X1_load (M := M) hn (by exact hci.l) (by exact hci.nd) (by exact hci.pl)) wM_X1_load wV_X1_load kl_X11_259 rfl (lt_lit hn (Nat.le_of_ble_eq_true rfl)) rfl ⟨rfl, rfl, Nat.le_of_ble_eq_true rfl, Nat.le_of_ble_eq_true rfl⟩ (Nat.le_of_ble_eq_true rfl) cs rfl rfl dX11_goFirstOrder_8 rfl ?_
  rintro _ _ ⟨rfl, rfl⟩
  refine g_aload_n cx (pc2 := 12) 0 rfl dX11_goFirstOrder_11 rfl ?_
  refine g_get cx (pc2 := 15) (ci := 11) (k0 := 0) (j := 7) (v := .ref 57) rfl iwX11 rfl (lt_lit hn (Nat.le_of_ble_eq_true rfl)) rfl (Nat.le_of_ble_eq_true rfl) kf_X11_54 rfl rfl dX11_goFirstOrder_12 rfl ?_
  refine g_iload_n cx (pc2 := 16) 1 rfl dX11_goFirstOrder_15 rfl ?_
  refine g_aload_n cx (pc2 := 17) 0 rfl dX11_goFirstOrder_16 rfl ?_
  refine g_get cx (pc2 := 20) (ci := 11) (k0 := 0) (j := 2) (v := .ref 23) rfl iwX11 rfl (lt_lit hn (Nat.le_of_ble_eq_true rfl)) rfl (Nat.le_of_ble_eq_true rfl) kf_X11_21 rfl rfl dX11_goFirstOrder_17 rfl ?_
  refine g_callV cx (pc2 := 23) (st := [.int (iI w), .ref 57]) (As := []) (k0 := 23) (ci := 2) (c_X2_startPlace (M := (ldM M)) hn (by exact hc1.l) (by exact hc1.st)) wM_X2_startPlace wV_X2_startPlace kl_X11_263 rfl (lt_lit hn (Nat.le_of_ble_eq_true rfl)) rfl ⟨rfl, rfl, Nat.le_of_ble_eq_true rfl, Nat.le_of_ble_eq_true rfl⟩ (Nat.le_of_ble_eq_true rfl) cs rfl rfl dX11_goFirstOrder_20 rfl ?_
  rintro _ _ ⟨rfl, rfl⟩
  refine g_rwi (y := iI (stp M)) (congrArg iI (stp_of (ldM_off (by omega)) (ldM_off (by omega)))) ?_
  refine g_iconst cx (pc2 := 24) dX11_goFirstOrder_23 rfl ?_
  refine g_callV cx (pc2 := 27) (st := []) (As := [.int (iI w), .int (iI (stp M)), .int (iI 0)]) (k0 := 57) (ci := 6) (c_X6_reach (M := (ldM M)) hn (by exact hc1.j) (by exact hc1.p) w (stp M) 0 (by first | assumption | omega) (by exact hsp) (by first | assumption | omega)) wM_X6_reach wV_X6_reach kl_X11_292 rfl (lt_lit hn (Nat.le_of_ble_eq_true rfl)) rfl ⟨rfl, rfl, Nat.le_of_ble_eq_true rfl, Nat.le_of_ble_eq_true rfl⟩ (Nat.le_of_ble_eq_true rfl) cs rfl rfl dX11_goFirstOrder_24 rfl ?_
  rintro _ _ ⟨rfl, rfl⟩
  refine g_M (M2 := (gfA M w)) (by rfl) ?_
  refine g_aload_n cx (pc2 := 28) 0 rfl dX11_goFirstOrder_27 rfl ?_
  refine g_get cx (pc2 := 31) (ci := 11) (k0 := 0) (j := 7) (v := .ref 57) rfl iwX11 rfl (lt_lit hn (Nat.le_of_ble_eq_true rfl)) rfl (Nat.le_of_ble_eq_true rfl) kf_X11_54 rfl rfl dX11_goFirstOrder_28 rfl ?_
  refine g_iload_n cx (pc2 := 32) 1 rfl dX11_goFirstOrder_31 rfl ?_
  refine g_callV cx (pc2 := 35) (st := []) (As := [.int (iI w)]) (k0 := 57) (ci := 6) (c_X6_endOf (M := (gfA M w)) hn w (by first | assumption | omega)) wM_X6_endOf wV_X6_endOf kl_X11_230 rfl (lt_lit hn (Nat.le_of_ble_eq_true rfl)) rfl ⟨rfl, rfl, Nat.le_of_ble_eq_true rfl, Nat.le_of_ble_eq_true rfl⟩ (Nat.le_of_ble_eq_true rfl) cs rfl rfl dX11_goFirstOrder_32 rfl ?_
  rintro _ _ ⟨rfl, rfl⟩
  refine g_rwi (y := iI (gfA M w 59 w.toNat)) (congrArg iI (if_pos (by omega))) ?_
  refine g_bipush cx (pc2 := 37) ⟨by decide, by decide⟩ dX11_goFirstOrder_35 rfl ?_
  refine g_icmp_ne cx (pc2 := 40) (tgt := 42) ⟨(by first | assumption | omega), ⟨by decide, by decide⟩⟩ dX11_goFirstOrder_37 (by decide) rfl (fun h_1 => ?_) (fun h_1 => ?_)
  · skip
    have hE9 : ¬ gfA M w 59 w.toNat = -9 := h_1
    refine g_aload_n cx (pc2 := 43) 0 rfl dX11_goFirstOrder_42 rfl ?_
    refine g_get cx (pc2 := 46) (ci := 11) (k0 := 0) (j := 6) (v := .ref 54) rfl iwX11 rfl (lt_lit hn (Nat.le_of_ble_eq_true rfl)) rfl (Nat.le_of_ble_eq_true rfl) kf_X11_47 rfl rfl dX11_goFirstOrder_43 rfl ?_
    refine g_aload_n cx (pc2 := 47) 0 rfl dX11_goFirstOrder_46 rfl ?_
    refine g_get cx (pc2 := 50) (ci := 11) (k0 := 0) (j := 2) (v := .ref 23) rfl iwX11 rfl (lt_lit hn (Nat.le_of_ble_eq_true rfl)) rfl (Nat.le_of_ble_eq_true rfl) kf_X11_21 rfl rfl dX11_goFirstOrder_47 rfl ?_
    refine g_callV cx (pc2 := 53) (st := [.ref 54]) (As := []) (k0 := 23) (ci := 2) (c_X2_startPlace (M := (gfA M w)) hn (by exact hc2.l) (by exact hc2.st)) wM_X2_startPlace wV_X2_startPlace kl_X11_263 rfl (lt_lit hn (Nat.le_of_ble_eq_true rfl)) rfl ⟨rfl, rfl, Nat.le_of_ble_eq_true rfl, Nat.le_of_ble_eq_true rfl⟩ (Nat.le_of_ble_eq_true rfl) cs rfl rfl dX11_goFirstOrder_50 rfl ?_
    rintro _ _ ⟨rfl, rfl⟩
    refine g_rwi (y := iI (stp M)) (congrArg iI (stp_of (gfA_off M w (by omega)) (gfA_off M w (by omega)))) ?_
    refine g_callV cx (pc2 := 56) (st := []) (As := [.int (iI (stp M))]) (k0 := 54) (ci := 10) (c_X10_beginAt (M := (gfA M w)) hn (stp M)) wM_X10_beginAt wV_X10_beginAt kl_X11_438 rfl (lt_lit hn (Nat.le_of_ble_eq_true rfl)) rfl ⟨rfl, rfl, Nat.le_of_ble_eq_true rfl, Nat.le_of_ble_eq_true rfl⟩ (Nat.le_of_ble_eq_true rfl) cs rfl rfl dX11_goFirstOrder_53 rfl ?_
    rintro _ _ ⟨rfl, rfl⟩
    refine g_iload_n cx (pc2 := 57) 1 rfl dX11_goFirstOrder_56 rfl ?_
    refine g_istore_n cx (pc2 := 58) (lv2 := [(0, .ref 0), (1, .int (iI w)), (2, .int (iI w))]) rfl (Nat.le_of_ble_eq_true rfl) dX11_goFirstOrder_57 rfl ?_
    refine g_iconst cx (pc2 := 59) dX11_goFirstOrder_58 rfl ?_
    refine g_istore_n cx (pc2 := 60) (lv2 := [(0, .ref 0), (1, .int (iI w)), (2, .int (iI w)), (3, .int (iI 0))]) rfl (Nat.le_of_ble_eq_true rfl) dX11_goFirstOrder_59 rfl ?_
    have L60 : ∀ (fu : Nat) (r : Int) (k : Int) (T : Mm), (0 ≤ k ∧ k ≤ 8) → (T = (goO (bgM (gfA M w) (stp M)) w k.toNat).1 ∧ r = (goO (bgM (gfA M w) (stp M)) w k.toNat).2) → (8 - k).toNat ≤ fu → G X 60 [(0, .ref 0), (1, .int (iI w)), (2, .int (iI r)), (3, .int (iI k))] [] T := by
      intro fu
      induction fu using Nat.strongRecOn with
      | _ fu ih60 =>
        intro r k T hk hT hk60
        have hTW := goO_W hc3 hw k.toNat
        rw [← hT.1, ← hT.2] at hTW
        have hnb := fun i => ndN_le r.toNat (bitN i)
        refine g_iload_n cx (pc2 := 61) 3 rfl dX11_goFirstOrder_60 rfl ?_
        refine g_bipush cx (pc2 := 63) ⟨by decide, by decide⟩ dX11_goFirstOrder_61 rfl ?_
        refine g_icmp_ge cx (pc2 := 66) (tgt := 211) ⟨(by first | assumption | omega), ⟨by decide, by decide⟩⟩ dX11_goFirstOrder_63 (by decide) rfl (fun h_2 => ?_) (fun h_2 => ?_)
        · skip
          have hfin : T = (gfO M w).1 ∧ r = (gfO M w).2 := by unfold gfO; first | (rw [show (8 : Nat) = k.toNat by omega]; exact hT) | (rw [show (8 : Nat) = k.toNat + (8 - k.toNat) by omega, goO_fix (by rw [← hT.2]; omega)]; exact hT)
          refine g_iload_n cx (pc2 := 212) 2 rfl dX11_goFirstOrder_211 rfl ?_
          refine g_if_ne cx (pc2 := 215) (tgt := 219) (by first | assumption | omega) dX11_goFirstOrder_212 (by decide) rfl (fun h_3 => ?_) (fun h_3 => ?_)
          · skip
            refine g_iconst cx (pc2 := 220) dX11_goFirstOrder_219 rfl ?_
            exact g_zret cx (Or.inl rfl) qx dX11_goFirstOrder_220 ⟨rb_f (by first | (exact ⟨hE9, by rw [← hfin.2]; assumption⟩) | (exact fun q => q.1 hE9) | (intro q; rw [← hfin.2] at q; have q3 := q.2; contradiction)), by first | (rw [if_pos hE9]; done) | (rw [if_neg hE9]; exact hfin.1.symm)⟩
          · skip
            refine g_iconst cx (pc2 := 216) dX11_goFirstOrder_215 rfl ?_
            refine g_goto cx (tgt := 220) dX11_goFirstOrder_216 (by decide) ?_
            exact g_zret cx (Or.inr rfl) qx dX11_goFirstOrder_220 ⟨rb_t (by first | (exact ⟨hE9, by rw [← hfin.2]; assumption⟩) | (exact fun q => q.1 hE9) | (intro q; rw [← hfin.2] at q; have q3 := q.2; contradiction)), by first | (rw [if_pos hE9]; done) | (rw [if_neg hE9]; exact hfin.1.symm)⟩
        · skip
          refine g_iload_n cx (pc2 := 67) 2 rfl dX11_goFirstOrder_66 rfl ?_
          refine g_if_eq cx (pc2 := 70) (tgt := 211) (by first | assumption | omega) dX11_goFirstOrder_67 (by decide) rfl (fun h_4 => ?_) (fun h_4 => ?_)
          · skip
            have hfin : T = (gfO M w).1 ∧ r = (gfO M w).2 := by unfold gfO; first | (rw [show (8 : Nat) = k.toNat by omega]; exact hT) | (rw [show (8 : Nat) = k.toNat + (8 - k.toNat) by omega, goO_fix (by rw [← hT.2]; omega)]; exact hT)
            refine g_iload_n cx (pc2 := 212) 2 rfl dX11_goFirstOrder_211 rfl ?_
            refine g_if_ne cx (pc2 := 215) (tgt := 219) (by first | assumption | omega) dX11_goFirstOrder_212 (by decide) rfl (fun h_5 => ?_) (fun h_5 => ?_)
            · skip
              refine g_iconst cx (pc2 := 220) dX11_goFirstOrder_219 rfl ?_
              exact g_zret cx (Or.inl rfl) qx dX11_goFirstOrder_220 ⟨rb_f (by first | (exact ⟨hE9, by rw [← hfin.2]; assumption⟩) | (exact fun q => q.1 hE9) | (intro q; rw [← hfin.2] at q; have q3 := q.2; contradiction)), by first | (rw [if_pos hE9]; done) | (rw [if_neg hE9]; exact hfin.1.symm)⟩
            · skip
              refine g_iconst cx (pc2 := 216) dX11_goFirstOrder_215 rfl ?_
              refine g_goto cx (tgt := 220) dX11_goFirstOrder_216 (by decide) ?_
              exact g_zret cx (Or.inr rfl) qx dX11_goFirstOrder_220 ⟨rb_t (by first | (exact ⟨hE9, by rw [← hfin.2]; assumption⟩) | (exact fun q => q.1 hE9) | (intro q; rw [← hfin.2] at q; have q3 := q.2; contradiction)), by first | (rw [if_pos hE9]; done) | (rw [if_neg hE9]; exact hfin.1.symm)⟩
          · skip
            refine g_iload_n cx (pc2 := 71) 2 rfl dX11_goFirstOrder_70 rfl ?_
            refine g_istore cx (pc2 := 73) (lv2 := [(0, .ref 0), (1, .int (iI w)), (2, .int (iI r)), (3, .int (iI k)), (4, .int (iI r))]) rfl (Nat.le_of_ble_eq_true rfl) dX11_goFirstOrder_71 rfl ?_
            refine g_iconst cx (pc2 := 74) dX11_goFirstOrder_73 rfl ?_
            refine g_istore cx (pc2 := 76) (lv2 := [(0, .ref 0), (1, .int (iI w)), (2, .int (iI r)), (3, .int (iI k)), (4, .int (iI r)), (5, .int (iI 0))]) rfl (Nat.le_of_ble_eq_true rfl) dX11_goFirstOrder_74 rfl ?_
            have L76 : ∀ (fu : Nat) (x : Int) (i : Int) (U : Mm), (0 ≤ i ∧ i ≤ 8) → (U = (giF T r i.toNat).1 ∧ x = (giF T r i.toNat).2) → (8 - i).toNat ≤ fu → G X 76 [(0, .ref 0), (1, .int (iI w)), (2, .int (iI x)), (3, .int (iI k)), (4, .int (iI r)), (5, .int (iI i))] [] U := by
              intro fu
              induction fu using Nat.strongRecOn with
              | _ fu ih76 =>
                intro x i U hi hU hk76
                have hUW := giF_W hTW.1 hTW.2 i.toNat
                rw [← hU.1, ← hU.2] at hUW
                have hnbi := hnb i
                have hpi := plJ_b hUW.1.j i
                have hEi := endJ_b hUW.1.j (i := i) (p := U 54 4) (f := U 54 5) hUW.1.w.2.1 hUW.1.w.2.2.1.1
                have hst : x = r → giF T r (i + 1).toNat = giS U r i := fun q => by rw [show (i + 1).toNat = i.toNat + 1 by omega, giF, ← hU.1, ← hU.2, if_pos q, Int.toNat_of_nonneg hi.1]
                have hw4 := hUW.1.w.2.1
                have hw5 := hUW.1.w.2.2.1
                refine g_iload cx (pc2 := 78) 5 rfl dX11_goFirstOrder_76 rfl ?_
                refine g_bipush cx (pc2 := 80) ⟨by decide, by decide⟩ dX11_goFirstOrder_78 rfl ?_
                refine g_icmp_ge cx (pc2 := 83) (tgt := 205) ⟨(by first | assumption | omega), ⟨by decide, by decide⟩⟩ dX11_goFirstOrder_80 (by decide) rfl (fun h_6 => ?_) (fun h_6 => ?_)
                · skip
                  have hin : U = (giF T r 8).1 ∧ x = (giF T r 8).2 := by first | (rw [show (8 : Nat) = i.toNat by omega]; exact hU) | (rw [show (8 : Nat) = i.toNat + (8 - i.toNat) by omega, giF_fix (by rw [← hU.2]; omega)]; exact hU)
                  refine g_iinc cx (pc2 := 208) 3 rfl (lv2 := [(0, .ref 0), (1, .int (iI w)), (2, .int (iI x)), (3, .int (iI (k + 1))), (4, .int (iI r)), (5, .int (iI i))]) rfl (Nat.le_of_ble_eq_true rfl) dX11_goFirstOrder_205 rfl ?_
                  refine g_goto cx (tgt := 60) dX11_goFirstOrder_208 (by decide) ?_
                  refine g_sub (lv2 := [(0, .ref 0), (1, .int (iI w)), (2, .int (iI x)), (3, .int (iI (k + 1)))]) [0, 1, 2, 3] rfl ?_
                  exact ih60 ((8 - (k + 1)).toNat) (by omega) x (k + 1) U (by first | assumption | omega) (by rw [show (k + 1).toNat = k.toNat + 1 by omega, goO, ← hT.1, ← hT.2, if_neg (by omega)]; exact hin) (Nat.le_refl _)
                · skip
                  refine g_iload_n cx (pc2 := 84) 2 rfl dX11_goFirstOrder_83 rfl ?_
                  refine g_iload cx (pc2 := 86) 4 rfl dX11_goFirstOrder_84 rfl ?_
                  refine g_icmp_ne cx (pc2 := 89) (tgt := 205) ⟨(by first | assumption | omega), (by first | assumption | omega)⟩ dX11_goFirstOrder_86 (by decide) rfl (fun h_7 => ?_) (fun h_7 => ?_)
                  · skip
                    have hin : U = (giF T r 8).1 ∧ x = (giF T r 8).2 := by first | (rw [show (8 : Nat) = i.toNat by omega]; exact hU) | (rw [show (8 : Nat) = i.toNat + (8 - i.toNat) by omega, giF_fix (by rw [← hU.2]; omega)]; exact hU)
                    refine g_iinc cx (pc2 := 208) 3 rfl (lv2 := [(0, .ref 0), (1, .int (iI w)), (2, .int (iI x)), (3, .int (iI (k + 1))), (4, .int (iI r)), (5, .int (iI i))]) rfl (Nat.le_of_ble_eq_true rfl) dX11_goFirstOrder_205 rfl ?_
                    refine g_goto cx (tgt := 60) dX11_goFirstOrder_208 (by decide) ?_
                    refine g_sub (lv2 := [(0, .ref 0), (1, .int (iI w)), (2, .int (iI x)), (3, .int (iI (k + 1)))]) [0, 1, 2, 3] rfl ?_
                    exact ih60 ((8 - (k + 1)).toNat) (by omega) x (k + 1) U (by first | assumption | omega) (by rw [show (k + 1).toNat = k.toNat + 1 by omega, goO, ← hT.1, ← hT.2, if_neg (by omega)]; exact hin) (Nat.le_refl _)
                  · skip
                    have hxr : x = r := h_7
                    refine g_iload_n cx (pc2 := 90) 2 rfl dX11_goFirstOrder_89 rfl ?_
                    refine g_iload cx (pc2 := 92) 5 rfl dX11_goFirstOrder_90 rfl ?_
                    refine g_callS cx (pc2 := 95) (st := [.int (iI x)]) (As := [.int (iI i)]) (c_X11_bit (M := U) hn i (by first | assumption | omega)) wM_X11_bit wS_X11_bit kl_X11_269 ⟨rfl, rfl, Nat.le_of_ble_eq_true rfl, Nat.le_of_ble_eq_true rfl⟩ (Nat.le_of_ble_eq_true rfl) cs rfl rfl dX11_goFirstOrder_92 rfl ?_
                    rintro _ _ ⟨rfl, rfl⟩
                    refine g_iconst cx (pc2 := 96) dX11_goFirstOrder_95 rfl ?_
                    refine g_ixor cx (pc2 := 97) dX11_goFirstOrder_96 rfl ?_
                    refine g_iand cx (pc2 := 98) dX11_goFirstOrder_97 rfl ?_
                    refine g_rwi (y := iI ((ndN r.toNat (bitN i) : Nat) : Int)) (by rw [← hxr]; exact nd_iI (by omega) (by omega)) ?_
                    have L199 : ∀ (y : Int) (Z : Mm), (Z = (giS U r i).1 ∧ y = (giS U r i).2) → G X 199 [(0, .ref 0), (1, .int (iI w)), (2, .int (iI y)), (3, .int (iI k)), (4, .int (iI r)), (5, .int (iI i))] [] Z := by
                      intro y Z hZ
                      refine g_iinc cx (pc2 := 202) 5 rfl (lv2 := [(0, .ref 0), (1, .int (iI w)), (2, .int (iI y)), (3, .int (iI k)), (4, .int (iI r)), (5, .int (iI (i + 1)))]) rfl (Nat.le_of_ble_eq_true rfl) dX11_goFirstOrder_199 rfl ?_
                      refine g_goto cx (tgt := 76) dX11_goFirstOrder_202 (by decide) ?_
                      exact ih76 ((8 - (i + 1)).toNat) (by omega) y (i + 1) Z (by first | assumption | omega) (by rw [hst hxr]; exact hZ) (Nat.le_refl _)
                    refine g_istore cx (pc2 := 100) (lv2 := [(0, .ref 0), (1, .int (iI w)), (2, .int (iI x)), (3, .int (iI k)), (4, .int (iI r)), (5, .int (iI i)), (6, .int (iI ((ndN r.toNat (bitN i) : Nat) : Int)))]) rfl (Nat.le_of_ble_eq_true rfl) dX11_goFirstOrder_98 rfl ?_
                    have L134 : ∀ (e : Int), (e = if ((ndN r.toNat (bitN i) : Nat) : Int) = r then -9 else endJ U i (U 54 4) (U 54 5)) → G X 134 [(0, .ref 0), (1, .int (iI w)), (2, .int (iI x)), (3, .int (iI k)), (4, .int (iI r)), (5, .int (iI i)), (6, .int (iI ((ndN r.toNat (bitN i) : Nat) : Int)))] [.int (iI e)] U := by
                      intro e he
                      have he2 : e = -9 ↔ (((ndN r.toNat (bitN i) : Nat) : Int) = r ∨ endJ U i (U 54 4) (U 54 5) = -9) := by rw [he]; split <;> omega
                      have he3 : ¬ e = -9 → e = endJ U i (U 54 4) (U 54 5) := fun q => by rw [he] at q ⊢; split <;> first | rfl | (rename_i q2; rw [if_pos q2] at q; omega)
                      have heb : e = -9 ∨ (0 ≤ e ∧ e ≤ 28) := by rw [he]; split; exact Or.inl rfl; exact hEi
                      refine g_istore cx (pc2 := 136) (lv2 := [(0, .ref 0), (1, .int (iI w)), (2, .int (iI x)), (3, .int (iI k)), (4, .int (iI r)), (5, .int (iI i)), (6, .int (iI ((ndN r.toNat (bitN i) : Nat) : Int))), (7, .int (iI e))]) rfl (Nat.le_of_ble_eq_true rfl) dX11_goFirstOrder_134 rfl ?_
                      have L163 : ∀ (V : Mm), (V = if e = -9 then U else rcM U ((ndN r.toNat (bitN i) : Nat) : Int) (plJ U i) e) → G X 163 [(0, .ref 0), (1, .int (iI w)), (2, .int (iI x)), (3, .int (iI k)), (4, .int (iI r)), (5, .int (iI i)), (6, .int (iI ((ndN r.toNat (bitN i) : Nat) : Int))), (7, .int (iI e))] [] V := by
                        intro V hV
                        have hVc : CI V := by rw [hV]; split; exact hUW.1; exact hUW.1.rc hpi (Or.inr (by omega))
                        have hV9 := (hVc.p (ndN r.toNat (bitN i))).2.1
                        refine g_iload cx (pc2 := 165) 7 rfl dX11_goFirstOrder_163 rfl ?_
                        refine g_bipush cx (pc2 := 167) ⟨by decide, by decide⟩ dX11_goFirstOrder_165 rfl ?_
                        refine g_icmp_eq cx (pc2 := 170) (tgt := 199) ⟨(by first | assumption | omega), ⟨by decide, by decide⟩⟩ dX11_goFirstOrder_167 (by decide) rfl (fun h_8 => ?_) (fun h_8 => ?_)
                        · skip
                          have g1 : e = -9 := h_8
                          refine g_sub (lv2 := [(0, .ref 0), (1, .int (iI w)), (2, .int (iI x)), (3, .int (iI k)), (4, .int (iI r)), (5, .int (iI i))]) [0, 1, 2, 3, 4, 5] rfl ?_
                          exact L199 x V (by first | (rw [giS_a (he2.mp g1), hV, if_pos g1]; exact ⟨rfl, hxr⟩) | (rw [giS_b (fun q => g1 (he2.mpr q)) g2 (Or.inl g3)]; exact ⟨rfl, hxr⟩) | (rw [giS_b (fun q => g1 (he2.mpr q)) g2 (Or.inr g4)]; exact ⟨if_neg g4, hxr⟩) | (rw [giS_c (fun q => g1 (he2.mpr q)) g2 g3 g4]; exact ⟨if_pos g4, rfl⟩))
                        · skip
                          have g1 : ¬ e = -9 := h_8
                          have g2 : V = rcM U (nx1 r i) (plJ U i) (endJ U i (U 54 4) (U 54 5)) := by rw [hV, if_neg g1, he3 g1]
                          refine g_aload_n cx (pc2 := 171) 0 rfl dX11_goFirstOrder_170 rfl ?_
                          refine g_get cx (pc2 := 174) (ci := 11) (k0 := 0) (j := 7) (v := .ref 57) rfl iwX11 rfl (lt_lit hn (Nat.le_of_ble_eq_true rfl)) rfl (Nat.le_of_ble_eq_true rfl) kf_X11_54 rfl rfl dX11_goFirstOrder_171 rfl ?_
                          refine g_iload cx (pc2 := 176) 6 rfl dX11_goFirstOrder_174 rfl ?_
                          refine g_callV cx (pc2 := 179) (st := []) (As := [.int (iI ((ndN r.toNat (bitN i) : Nat) : Int))]) (k0 := 57) (ci := 6) (c_X6_endOf (M := V) hn ((ndN r.toNat (bitN i) : Nat) : Int) (by first | assumption | omega)) wM_X6_endOf wV_X6_endOf kl_X11_230 rfl (lt_lit hn (Nat.le_of_ble_eq_true rfl)) rfl ⟨rfl, rfl, Nat.le_of_ble_eq_true rfl, Nat.le_of_ble_eq_true rfl⟩ (Nat.le_of_ble_eq_true rfl) cs rfl rfl dX11_goFirstOrder_176 rfl ?_
                          rintro _ _ ⟨rfl, rfl⟩
                          refine g_rwi (y := iI (V 59 (ndN r.toNat (bitN i)))) (congrArg iI (if_pos (by omega))) ?_
                          refine g_bipush cx (pc2 := 181) ⟨by decide, by decide⟩ dX11_goFirstOrder_179 rfl ?_
                          refine g_icmp_eq cx (pc2 := 184) (tgt := 199) ⟨(by first | assumption | omega), ⟨by decide, by decide⟩⟩ dX11_goFirstOrder_181 (by decide) rfl (fun h_9 => ?_) (fun h_9 => ?_)
                          · skip
                            have g3 : V 59 (ndN r.toNat (bitN i)) = -9 := h_9
                            refine g_sub (lv2 := [(0, .ref 0), (1, .int (iI w)), (2, .int (iI x)), (3, .int (iI k)), (4, .int (iI r)), (5, .int (iI i))]) [0, 1, 2, 3, 4, 5] rfl ?_
                            exact L199 x V (by first | (rw [giS_a (he2.mp g1), hV, if_pos g1]; exact ⟨rfl, hxr⟩) | (rw [giS_b (fun q => g1 (he2.mpr q)) g2 (Or.inl g3)]; exact ⟨rfl, hxr⟩) | (rw [giS_b (fun q => g1 (he2.mpr q)) g2 (Or.inr g4)]; exact ⟨if_neg g4, hxr⟩) | (rw [giS_c (fun q => g1 (he2.mpr q)) g2 g3 g4]; exact ⟨if_pos g4, rfl⟩))
                          · skip
                            have g3 : ¬ V 59 (ndN r.toNat (bitN i)) = -9 := h_9
                            refine g_aload_n cx (pc2 := 185) 0 rfl dX11_goFirstOrder_184 rfl ?_
                            refine g_get cx (pc2 := 188) (ci := 11) (k0 := 0) (j := 6) (v := .ref 54) rfl iwX11 rfl (lt_lit hn (Nat.le_of_ble_eq_true rfl)) rfl (Nat.le_of_ble_eq_true rfl) kf_X11_47 rfl rfl dX11_goFirstOrder_185 rfl ?_
                            refine g_iload cx (pc2 := 190) 5 rfl dX11_goFirstOrder_188 rfl ?_
                            refine g_callV cx (pc2 := 193) (st := []) (As := [.int (iI i)]) (k0 := 54) (ci := 10) (c_X10_meet (M := V) hn (by exact hVc.j) (by exact hVc.w) i (by first | assumption | omega)) wM_X10_meet wV_X10_meet kl_X11_441 rfl (lt_lit hn (Nat.le_of_ble_eq_true rfl)) rfl ⟨rfl, rfl, Nat.le_of_ble_eq_true rfl, Nat.le_of_ble_eq_true rfl⟩ (Nat.le_of_ble_eq_true rfl) cs rfl rfl dX11_goFirstOrder_190 rfl ?_
                            rintro _ _ ⟨rfl, rfl⟩
                            refine g_ifb_eq cx (pc2 := 196) (tgt := 199) dX11_goFirstOrder_193 (by decide) rfl (fun h_10 => ?_) (fun h_10 => ?_)
                            · skip
                              have g4 : ¬ okW V i := h_10
                              refine g_sub (lv2 := [(0, .ref 0), (1, .int (iI w)), (2, .int (iI x)), (3, .int (iI k)), (4, .int (iI r)), (5, .int (iI i))]) [0, 1, 2, 3, 4, 5] rfl ?_
                              exact L199 x (if okW V i then meM V i else V) (by first | (rw [giS_a (he2.mp g1), hV, if_pos g1]; exact ⟨rfl, hxr⟩) | (rw [giS_b (fun q => g1 (he2.mpr q)) g2 (Or.inl g3)]; exact ⟨rfl, hxr⟩) | (rw [giS_b (fun q => g1 (he2.mpr q)) g2 (Or.inr g4)]; exact ⟨if_neg g4, hxr⟩) | (rw [giS_c (fun q => g1 (he2.mpr q)) g2 g3 g4]; exact ⟨if_pos g4, rfl⟩))
                            · skip
                              have g4 : okW V i := h_10
                              refine g_iload cx (pc2 := 198) 6 rfl dX11_goFirstOrder_196 rfl ?_
                              refine g_istore_n cx (pc2 := 199) (lv2 := [(0, .ref 0), (1, .int (iI w)), (2, .int (iI ((ndN r.toNat (bitN i) : Nat) : Int))), (3, .int (iI k)), (4, .int (iI r)), (5, .int (iI i)), (6, .int (iI ((ndN r.toNat (bitN i) : Nat) : Int))), (7, .int (iI e))]) rfl (Nat.le_of_ble_eq_true rfl) dX11_goFirstOrder_198 rfl ?_
                              refine g_sub (lv2 := [(0, .ref 0), (1, .int (iI w)), (2, .int (iI ((ndN r.toNat (bitN i) : Nat) : Int))), (3, .int (iI k)), (4, .int (iI r)), (5, .int (iI i))]) [0, 1, 2, 3, 4, 5] rfl ?_
                              exact L199 ((ndN r.toNat (bitN i) : Nat) : Int) (if okW V i then meM V i else V) (by first | (rw [giS_a (he2.mp g1), hV, if_pos g1]; exact ⟨rfl, hxr⟩) | (rw [giS_b (fun q => g1 (he2.mpr q)) g2 (Or.inl g3)]; exact ⟨rfl, hxr⟩) | (rw [giS_b (fun q => g1 (he2.mpr q)) g2 (Or.inr g4)]; exact ⟨if_neg g4, hxr⟩) | (rw [giS_c (fun q => g1 (he2.mpr q)) g2 g3 g4]; exact ⟨if_pos g4, rfl⟩))
                      refine g_iload cx (pc2 := 138) 7 rfl dX11_goFirstOrder_136 rfl ?_
                      refine g_bipush cx (pc2 := 140) ⟨by decide, by decide⟩ dX11_goFirstOrder_138 rfl ?_
                      refine g_icmp_eq cx (pc2 := 143) (tgt := 163) ⟨(by first | assumption | omega), ⟨by decide, by decide⟩⟩ dX11_goFirstOrder_140 (by decide) rfl (fun h_11 => ?_) (fun h_11 => ?_)
                      · skip
                        have g1 : e = -9 := h_11
                        exact L163 U (by first | (rw [if_pos g1]; done) | (rw [if_neg g1]; done))
                      · skip
                        have g1 : ¬ e = -9 := h_11
                        refine g_aload_n cx (pc2 := 144) 0 rfl dX11_goFirstOrder_143 rfl ?_
                        refine g_get cx (pc2 := 147) (ci := 11) (k0 := 0) (j := 7) (v := .ref 57) rfl iwX11 rfl (lt_lit hn (Nat.le_of_ble_eq_true rfl)) rfl (Nat.le_of_ble_eq_true rfl) kf_X11_54 rfl rfl dX11_goFirstOrder_144 rfl ?_
                        refine g_iload cx (pc2 := 149) 6 rfl dX11_goFirstOrder_147 rfl ?_
                        refine g_aload_n cx (pc2 := 150) 0 rfl dX11_goFirstOrder_149 rfl ?_
                        refine g_get cx (pc2 := 153) (ci := 11) (k0 := 0) (j := 5) (v := .ref 48) rfl iwX11 rfl (lt_lit hn (Nat.le_of_ble_eq_true rfl)) rfl (Nat.le_of_ble_eq_true rfl) kf_X11_38 rfl rfl dX11_goFirstOrder_150 rfl ?_
                        refine g_iload cx (pc2 := 155) 5 rfl dX11_goFirstOrder_153 rfl ?_
                        refine g_callV cx (pc2 := 158) (st := [.int (iI ((ndN r.toNat (bitN i) : Nat) : Int)), .ref 57]) (As := [.int (iI i)]) (k0 := 48) (ci := 1) (c_X1_placeOf (M := U) hn (by exact hUW.1.j) i (by first | assumption | omega)) wM_X1_placeOf wV_X1_placeOf kl_X11_450 rfl (lt_lit hn (Nat.le_of_ble_eq_true rfl)) rfl ⟨rfl, rfl, Nat.le_of_ble_eq_true rfl, Nat.le_of_ble_eq_true rfl⟩ (Nat.le_of_ble_eq_true rfl) cs rfl rfl dX11_goFirstOrder_155 rfl ?_
                        rintro _ _ ⟨rfl, rfl⟩
                        refine g_iload cx (pc2 := 160) 7 rfl dX11_goFirstOrder_158 rfl ?_
                        refine g_callV cx (pc2 := 163) (st := []) (As := [.int (iI ((ndN r.toNat (bitN i) : Nat) : Int)), .int (iI (plJ U i)), .int (iI e)]) (k0 := 57) (ci := 6) (c_X6_reach (M := U) hn (by exact hUW.1.j) (by exact hUW.1.p) ((ndN r.toNat (bitN i) : Nat) : Int) (plJ U i) e (by first | assumption | omega) (by first | assumption | exact hci.pl) (by first | assumption | omega)) wM_X6_reach wV_X6_reach kl_X11_292 rfl (lt_lit hn (Nat.le_of_ble_eq_true rfl)) rfl ⟨rfl, rfl, Nat.le_of_ble_eq_true rfl, Nat.le_of_ble_eq_true rfl⟩ (Nat.le_of_ble_eq_true rfl) cs rfl rfl dX11_goFirstOrder_160 rfl ?_
                        rintro _ _ ⟨rfl, rfl⟩
                        exact L163 (rcM U ((ndN r.toNat (bitN i) : Nat) : Int) (plJ U i) e) (by first | (rw [if_pos g1]; done) | (rw [if_neg g1]; done))
                    refine g_iload cx (pc2 := 102) 6 rfl dX11_goFirstOrder_100 rfl ?_
                    refine g_iload_n cx (pc2 := 103) 2 rfl dX11_goFirstOrder_102 rfl ?_
                    refine g_icmp_ne cx (pc2 := 106) (tgt := 111) ⟨(by first | assumption | omega), (by first | assumption | omega)⟩ dX11_goFirstOrder_103 (by decide) rfl (fun h_12 => ?_) (fun h_12 => ?_)
                    · skip
                      refine g_aload_n cx (pc2 := 112) 0 rfl dX11_goFirstOrder_111 rfl ?_
                      refine g_get cx (pc2 := 115) (ci := 11) (k0 := 0) (j := 5) (v := .ref 48) rfl iwX11 rfl (lt_lit hn (Nat.le_of_ble_eq_true rfl)) rfl (Nat.le_of_ble_eq_true rfl) kf_X11_38 rfl rfl dX11_goFirstOrder_112 rfl ?_
                      refine g_iload cx (pc2 := 117) 5 rfl dX11_goFirstOrder_115 rfl ?_
                      refine g_aload_n cx (pc2 := 118) 0 rfl dX11_goFirstOrder_117 rfl ?_
                      refine g_get cx (pc2 := 121) (ci := 11) (k0 := 0) (j := 6) (v := .ref 54) rfl iwX11 rfl (lt_lit hn (Nat.le_of_ble_eq_true rfl)) rfl (Nat.le_of_ble_eq_true rfl) kf_X11_47 rfl rfl dX11_goFirstOrder_118 rfl ?_
                      refine g_getN cx (pc2 := 124) (ci := 10) (k0 := 54) (j := 4) (v := .int (iI (U 54 4))) rfl iwX10 rfl (lt_lit hn (Nat.le_of_ble_eq_true rfl)) rfl (Nat.le_of_ble_eq_true rfl) kf_X11_444 rfl rfl dX11_goFirstOrder_121 rfl ?_
                      refine g_aload_n cx (pc2 := 125) 0 rfl dX11_goFirstOrder_124 rfl ?_
                      refine g_get cx (pc2 := 128) (ci := 11) (k0 := 0) (j := 6) (v := .ref 54) rfl iwX11 rfl (lt_lit hn (Nat.le_of_ble_eq_true rfl)) rfl (Nat.le_of_ble_eq_true rfl) kf_X11_47 rfl rfl dX11_goFirstOrder_125 rfl ?_
                      refine g_getN cx (pc2 := 131) (ci := 10) (k0 := 54) (j := 5) (v := .int (iI (U 54 5))) rfl iwX10 rfl (lt_lit hn (Nat.le_of_ble_eq_true rfl)) rfl (Nat.le_of_ble_eq_true rfl) kf_X11_215 rfl rfl dX11_goFirstOrder_128 rfl ?_
                      refine g_callV cx (pc2 := 134) (st := []) (As := [.int (iI i), .int (iI (U 54 4)), .int (iI (U 54 5))]) (k0 := 48) (ci := 1) (c_X1_ending (M := U) hn (by exact hUW.1.j) i (U 54 4) (U 54 5) (by first | assumption | omega) (by first | assumption | exact hci.pl) (by first | assumption | omega)) wM_X1_ending wV_X1_ending kl_X11_447 rfl (lt_lit hn (Nat.le_of_ble_eq_true rfl)) rfl ⟨rfl, rfl, Nat.le_of_ble_eq_true rfl, Nat.le_of_ble_eq_true rfl⟩ (Nat.le_of_ble_eq_true rfl) cs rfl rfl dX11_goFirstOrder_131 rfl ?_
                      rintro _ _ ⟨rfl, rfl⟩
                      exact L134 (endJ U i (U 54 4) (U 54 5)) (by first | (rw [if_pos (by omega)]; done) | (rw [if_neg (by omega)]; done))
                    · skip
                      refine g_bipush cx (pc2 := 108) ⟨by decide, by decide⟩ dX11_goFirstOrder_106 rfl ?_
                      refine g_goto cx (tgt := 134) dX11_goFirstOrder_108 (by decide) ?_
                      exact L134 (-9) (by first | (rw [if_pos (by omega)]; done) | (rw [if_neg (by omega)]; done))
            exact L76 _ r 0 T (by first | assumption | omega) (by exact ⟨rfl, rfl⟩) (Nat.le_refl _)
    exact L60 _ w 0 (stM (stM (stM (gfA M w) 54 3 0) 54 4 (stp M)) 54 5 0) (by first | assumption | omega) (by exact ⟨rfl, rfl⟩) (Nat.le_refl _)
  · skip
    have hE9 : gfA M w 59 w.toNat = -9 := h_1
    refine g_iconst cx (pc2 := 41) dX11_goFirstOrder_40 rfl ?_
    exact g_zret cx (Or.inl rfl) qx dX11_goFirstOrder_41 ⟨rb_f (by first | (exact ⟨hE9, by rw [← hfin.2]; assumption⟩) | (exact fun q => q.1 hE9) | (intro q; rw [← hfin.2] at q; have q3 := q.2; contradiction)), by first | (rw [if_pos hE9]; done) | (rw [if_neg hE9]; exact hfin.1.symm)⟩
set_option maxHeartbeats 4000000 in
set_option maxRecDepth 100000 in
theorem c_X11_tellWay {n : Nat} (hn : NN n) {M : Mm} (hci : CI M) {o : Nat} (ho : isRowO o) : CT yX11_tellWay cX11_tellWay 3 none ({ frames := 2, cells := 0, slots := 0, locals := 43 }) n [.ref 0, .ref o] M (rV (twM M o)) := by
  refine CT.of (lv0 := [(0, .ref 0), (1, .ref o)]) (by decide +kernel) hn (fun _ => rfl) (fun _ => Nat.le_of_ble_eq_true rfl) (fun X cx cs qx => ?_)
  have cx : Cx X cX11_tellWay RX11 ({ frames := 2, cells := 0, slots := 0, locals := 43 }) 3 n := cx
  have hro := hci.rw o ho
  have hcap := capO_b o
  have hl := hci.l
  have hw3 := hci.w.1
  refine g_aload_n cx (pc2 := 1) 1 rfl dX11_tellWay_0 rfl ?_
  refine g_aload_n cx (pc2 := 2) 0 rfl dX11_tellWay_1 rfl ?_
  refine g_get cx (pc2 := 5) (ci := 11) (k0 := 0) (j := 6) (v := .ref 54) rfl iwX11 rfl (lt_lit hn (Nat.le_of_ble_eq_true rfl)) rfl (Nat.le_of_ble_eq_true rfl) kf_X11_47 rfl rfl dX11_tellWay_2 rfl ?_
  refine g_getN cx (pc2 := 8) (ci := 10) (k0 := 54) (j := 3) (v := .int (iI (M 54 3))) rfl iwX10 rfl (lt_lit hn (Nat.le_of_ble_eq_true rfl)) rfl (Nat.le_of_ble_eq_true rfl) kf_X11_218 rfl rfl dX11_tellWay_5 rfl ?_
  refine g_iconst cx (pc2 := 9) dX11_tellWay_8 rfl ?_
  refine g_callV cx (pc2 := 12) (st := []) (As := [.int (iI (M 54 3)), .int (iI 0)]) (k0 := o) (ci := 8) (c_X8_make (M := M) hn (by exact ho) (M 54 3) 0 (by first | assumption | omega)) wM_X8_make wV_X8_make kl_X11_117 (sh_row ho) (by first | (exact kn_row hn ho) | (exact kn_row1 hn ho) | omega) rfl ⟨rfl, rfl, Nat.le_of_ble_eq_true rfl, Nat.le_of_ble_eq_true rfl⟩ (Nat.le_of_ble_eq_true rfl) cs rfl rfl dX11_tellWay_9 rfl ?_
  rintro _ _ ⟨rfl, rfl⟩
  refine g_M (M2 := (twP M o 0)) (by rw [if_neg (by omega)]; exact twP_0) ?_
  refine g_iconst cx (pc2 := 13) dX11_tellWay_12 rfl ?_
  refine g_istore_n cx (pc2 := 14) (lv2 := [(0, .ref 0), (1, .ref o), (2, .int (iI 0))]) rfl (Nat.le_of_ble_eq_true rfl) dX11_tellWay_13 rfl ?_
  have L14 : ∀ (fu : Nat) (i : Int), (0 ≤ i ∧ i ≤ M 54 3) → (M 54 3 - i).toNat ≤ fu → G X 14 [(0, .ref 0), (1, .ref o), (2, .int (iI i))] [] (twP M o i) := by
    intro fu
    induction fu using Nat.strongRecOn with
    | _ fu ih14 =>
      intro i hi hk14
      have hWT : WW (twP M o i) := WW_fr (fun a h1 h2 => twP_off (by omega) (by omega)) hci.w
      have e1 : twP M o i o 1 = M 54 3 := by unfold twP; rw [if_pos ⟨rfl, rfl⟩]
      refine g_iload_n cx (pc2 := 15) 2 rfl dX11_tellWay_14 rfl ?_
      refine g_aload_n cx (pc2 := 16) 0 rfl dX11_tellWay_15 rfl ?_
      refine g_get cx (pc2 := 19) (ci := 11) (k0 := 0) (j := 6) (v := .ref 54) rfl iwX11 rfl (lt_lit hn (Nat.le_of_ble_eq_true rfl)) rfl (Nat.le_of_ble_eq_true rfl) kf_X11_47 rfl rfl dX11_tellWay_16 rfl ?_
      refine g_getN cx (pc2 := 22) (ci := 10) (k0 := 54) (j := 3) (v := .int (iI ((twP M o i) 54 3))) rfl iwX10 rfl (lt_lit hn (Nat.le_of_ble_eq_true rfl)) rfl (Nat.le_of_ble_eq_true rfl) kf_X11_218 rfl rfl dX11_tellWay_19 rfl ?_
      refine g_rwi (y := iI (M 54 3)) (congrArg iI (by rw [twP_off (by omega) (by omega)])) ?_
      refine g_icmp_ge cx (pc2 := 25) (tgt := 44) ⟨(by first | assumption | omega), (by first | assumption | omega)⟩ dX11_tellWay_22 (by decide) rfl (fun h_1 => ?_) (fun h_1 => ?_)
      · skip
        exact g_vret cx qx dX11_tellWay_44 ⟨rfl, by unfold twM; rw [show i = M 54 3 by omega]⟩
      · skip
        refine g_aload_n cx (pc2 := 26) 1 rfl dX11_tellWay_25 rfl ?_
        refine g_iload_n cx (pc2 := 27) 2 rfl dX11_tellWay_26 rfl ?_
        refine g_aload_n cx (pc2 := 28) 0 rfl dX11_tellWay_27 rfl ?_
        refine g_get cx (pc2 := 31) (ci := 11) (k0 := 0) (j := 6) (v := .ref 54) rfl iwX11 rfl (lt_lit hn (Nat.le_of_ble_eq_true rfl)) rfl (Nat.le_of_ble_eq_true rfl) kf_X11_47 rfl rfl dX11_tellWay_28 rfl ?_
        refine g_iload_n cx (pc2 := 32) 2 rfl dX11_tellWay_31 rfl ?_
        refine g_callV cx (pc2 := 35) (st := [.int (iI i), .ref o]) (As := [.int (iI i)]) (k0 := 54) (ci := 10) (c_X10_needOf (M := (twP M o i)) hn (by exact hWT) i (by first | assumption | omega)) wM_X10_needOf wV_X10_needOf kl_X11_451 rfl (lt_lit hn (Nat.le_of_ble_eq_true rfl)) rfl ⟨rfl, rfl, Nat.le_of_ble_eq_true rfl, Nat.le_of_ble_eq_true rfl⟩ (Nat.le_of_ble_eq_true rfl) cs rfl rfl dX11_tellWay_32 rfl ?_
        rintro _ _ ⟨rfl, rfl⟩
        refine g_rwi (y := iI (M 55 i.toNat)) (congrArg iI (by rw [twP_off (by omega) (by omega), twP_off (by omega) (by omega), if_pos (by omega)])) ?_
        refine g_callV cx (pc2 := 38) (st := []) (As := [.int (iI i), .int (iI (M 55 i.toNat))]) (k0 := o) (ci := 8) (c_X8_set (M := (twP M o i)) hn (by exact ho) (by rw [e1]; omega) i (M 55 i.toNat) (by first | assumption | omega)) wM_X8_set wV_X8_set kl_X11_132 (sh_row ho) (by first | (exact kn_row hn ho) | (exact kn_row1 hn ho) | omega) rfl ⟨rfl, rfl, Nat.le_of_ble_eq_true rfl, Nat.le_of_ble_eq_true rfl⟩ (Nat.le_of_ble_eq_true rfl) cs rfl rfl dX11_tellWay_35 rfl ?_
        rintro _ _ ⟨rfl, rfl⟩
        refine g_iinc cx (pc2 := 41) 2 rfl (lv2 := [(0, .ref 0), (1, .ref o), (2, .int (iI (i + 1)))]) rfl (Nat.le_of_ble_eq_true rfl) dX11_tellWay_38 rfl ?_
        refine g_goto cx (tgt := 14) dX11_tellWay_41 (by decide) ?_
        refine g_M (M2 := (twP M o (i + 1))) (by rw [if_pos (by rw [e1]; omega)]; exact twP_s hi.1 (by omega)) ?_
        exact ih14 ((M 54 3 - (i + 1)).toNat) (by omega) (i + 1) (by first | assumption | omega) (Nat.le_refl _)
  exact L14 _ 0 (by first | assumption | omega) (Nat.le_refl _)
set_option maxHeartbeats 4000000 in
set_option maxRecDepth 100000 in
theorem c_X11_canGo {n : Nat} (hn : NN n) {M : Mm} (hci : CI M) (h w k v : Int) (hh : ir h) (hk : ir k) (hw : 0 ≤ w ∧ w ≤ 99) (hv : -9 ≤ v ∧ v ≤ 99) : CT yX11_canGo cX11_canGo 5 (some .boolean) ({ frames := 3, cells := 0, slots := 0, locals := 64 }) n [.ref 0, .int (iI h), .int (iI w), .int (iI k), .int (iI v)] M (rI (b2 (cgP M h w k v)) M) := by
  refine CT.of (lv0 := [(0, .ref 0), (1, .int (iI h)), (2, .int (iI w)), (3, .int (iI k)), (4, .int (iI v))]) (by decide +kernel) hn (fun _ => rfl) (fun _ => Nat.le_of_ble_eq_true rfl) (fun X cx cs qx => ?_)
  have cx : Cx X cX11_canGo RX11 ({ frames := 3, cells := 0, slots := 0, locals := 64 }) 5 n := cx
  have hb1 := plc_b hci.pl h
  have hb2 := plc_b hci.pl k
  have hwb := wap_b hb1 hb2
  refine g_iload_n cx (pc2 := 1) 1 rfl dX11_canGo_0 rfl ?_
  refine g_iload_n cx (pc2 := 2) 3 rfl dX11_canGo_1 rfl ?_
  refine g_icmp_eq cx (pc2 := 5) (tgt := 28) ⟨(by first | assumption | omega), (by first | assumption | omega)⟩ dX11_canGo_2 (by decide) rfl (fun h_1 => ?_) (fun h_1 => ?_)
  · skip
    refine g_iconst cx (pc2 := 29) dX11_canGo_28 rfl ?_
    refine g_goto cx (tgt := 33) dX11_canGo_29 (by decide) ?_
    exact g_zret cx (Or.inr rfl) qx dX11_canGo_33 ⟨rb_t (by first | (left; assumption) | (right; omega) | (rintro (q | q) <;> omega)), by rfl⟩
  · skip
    refine g_iload_n cx (pc2 := 6) 2 rfl dX11_canGo_5 rfl ?_
    refine g_iload cx (pc2 := 8) 4 rfl dX11_canGo_6 rfl ?_
    refine g_isub cx (pc2 := 9) dX11_canGo_8 rfl ?_
    refine g_mabs cx (pc2 := 12) (by first | assumption | omega) kl_X11_459 wJ_abs ⟨Nat.le_of_ble_eq_true rfl, Nat.le_of_ble_eq_true rfl⟩ cs dX11_canGo_9 rfl ?_
    refine g_iconst cx (pc2 := 13) dX11_canGo_12 rfl ?_
    refine g_aload_n cx (pc2 := 14) 0 rfl dX11_canGo_13 rfl ?_
    refine g_get cx (pc2 := 17) (ci := 11) (k0 := 0) (j := 2) (v := .ref 23) rfl iwX11 rfl (lt_lit hn (Nat.le_of_ble_eq_true rfl)) rfl (Nat.le_of_ble_eq_true rfl) kf_X11_21 rfl rfl dX11_canGo_14 rfl ?_
    refine g_iload_n cx (pc2 := 18) 1 rfl dX11_canGo_17 rfl ?_
    refine g_iload_n cx (pc2 := 19) 3 rfl dX11_canGo_18 rfl ?_
    refine g_callV cx (pc2 := 22) (st := [.int (iI 1), .int (iI (if 0 ≤ w - v then w - v else -(w - v)))]) (As := [.int (iI h), .int (iI k)]) (k0 := 23) (ci := 2) (c_X2_carryBetween (M := M) hn (by first | assumption | exact hci.l) (by first | assumption | exact hci.pl) h k (by first | assumption | omega) (by first | assumption | omega)) wM_X2_carryBetween wV_X2_carryBetween kl_X11_200 rfl (lt_lit hn (Nat.le_of_ble_eq_true rfl)) rfl ⟨rfl, rfl, Nat.le_of_ble_eq_true rfl, Nat.le_of_ble_eq_true rfl⟩ (Nat.le_of_ble_eq_true rfl) cs rfl rfl dX11_canGo_19 rfl ?_
    rintro _ _ ⟨rfl, rfl⟩
    refine g_mmax cx (pc2 := 25) ⟨⟨by decide, by decide⟩, (by first | assumption | omega)⟩ kl_X11_239 wJ_max ⟨Nat.le_of_ble_eq_true rfl, Nat.le_of_ble_eq_true rfl⟩ cs dX11_canGo_22 rfl ?_
    refine g_icmp_lt cx (pc2 := 28) (tgt := 32) ⟨(by first | assumption | omega), (by first | assumption | omega)⟩ dX11_canGo_25 (by decide) rfl (fun h_2 => ?_) (fun h_2 => ?_)
    · skip
      refine g_iconst cx (pc2 := 33) dX11_canGo_32 rfl ?_
      exact g_zret cx (Or.inl rfl) qx dX11_canGo_33 ⟨rb_f (by first | (left; assumption) | (right; omega) | (rintro (q | q) <;> omega)), by rfl⟩
    · skip
      refine g_iconst cx (pc2 := 29) dX11_canGo_28 rfl ?_
      refine g_goto cx (tgt := 33) dX11_canGo_29 (by decide) ?_
      exact g_zret cx (Or.inr rfl) qx dX11_canGo_33 ⟨rb_t (by first | (left; assumption) | (right; omega) | (rintro (q | q) <;> omega)), by rfl⟩
set_option maxHeartbeats 4000000 in
set_option maxRecDepth 100000 in
theorem c_X11_agreesWithTracks {n : Nat} (hn : NN n) {M : Mm} (hci : CI M) (h w q : Int) (hh : ir h) (hw : 0 ≤ w ∧ w ≤ 99) (hq : 0 ≤ q ∧ q ≤ M 73 2) : CT yX11_agreesWithTracks cX11_agreesWithTracks 5 (some .boolean) ({ frames := 4, cells := 0, slots := 0, locals := 88 }) n [.ref 0, .int (iI h), .int (iI w), .int (iI q)] M (rI (b2 (agP M h w q.toNat)) M) := by
  refine CT.of (lv0 := [(0, .ref 0), (1, .int (iI h)), (2, .int (iI w)), (3, .int (iI q))]) (by decide +kernel) hn (fun _ => rfl) (fun _ => Nat.le_of_ble_eq_true rfl) (fun X cx cs qx => ?_)
  have cx : Cx X cX11_agreesWithTracks RX11 ({ frames := 4, cells := 0, slots := 0, locals := 88 }) 5 n := cx
  have hp3 := hci.p73
  refine g_iconst cx (pc2 := 1) dX11_agreesWithTracks_0 rfl ?_
  refine g_istore cx (pc2 := 3) (lv2 := [(0, .ref 0), (1, .int (iI h)), (2, .int (iI w)), (3, .int (iI q)), (4, .int (iI 0))]) rfl (Nat.le_of_ble_eq_true rfl) dX11_agreesWithTracks_1 rfl ?_
  have L3 : ∀ (fu : Nat) (i : Int), (0 ≤ i ∧ i ≤ q) → (∀ j : Nat, (j : Int) < i → cgP M h w (M 74 j) (M 75 j)) → (q - i).toNat ≤ fu → G X 3 [(0, .ref 0), (1, .int (iI h)), (2, .int (iI w)), (3, .int (iI q)), (4, .int (iI i))] [] M := by
    intro fu
    induction fu using Nat.strongRecOn with
    | _ fu ih3 =>
      intro i hi hal hk3
      have hpi : (0 ≤ M 74 i.toNat ∧ M 74 i.toNat ≤ 7) ∧ (0 ≤ M 75 i.toNat ∧ M 75 i.toNat ≤ 99) := hp3.2 i.toNat
      refine g_iload cx (pc2 := 5) 4 rfl dX11_agreesWithTracks_3 rfl ?_
      refine g_iload_n cx (pc2 := 6) 3 rfl dX11_agreesWithTracks_5 rfl ?_
      refine g_icmp_ge cx (pc2 := 9) (tgt := 44) ⟨(by first | assumption | omega), (by first | assumption | omega)⟩ dX11_agreesWithTracks_6 (by decide) rfl (fun h_1 => ?_) (fun h_1 => ?_)
      · skip
        refine g_aload_n cx (pc2 := 45) 0 rfl dX11_agreesWithTracks_44 rfl ?_
        refine g_get cx (pc2 := 48) (ci := 11) (k0 := 0) (j := 11) (v := .ref 73) rfl iwX11 rfl (lt_lit hn (Nat.le_of_ble_eq_true rfl)) rfl (Nat.le_of_ble_eq_true rfl) kf_X11_83 rfl rfl dX11_agreesWithTracks_45 rfl ?_
        refine g_iconst cx (pc2 := 49) dX11_agreesWithTracks_48 rfl ?_
        refine g_callV cx (pc2 := 52) (st := []) (As := [.int (iI 0)]) (k0 := 73) (ci := 5) (c_X5_hasValue (M := M) hn (by exact Or.inr rfl) (by exact hp3.1) (by intro j; have := hp3.2 j; omega) 0 (by omega)) wM_X5_hasValue wV_X5_hasValue kl_X11_456 rfl (lt_lit hn (Nat.le_of_ble_eq_true rfl)) rfl ⟨rfl, rfl, Nat.le_of_ble_eq_true rfl, Nat.le_of_ble_eq_true rfl⟩ (Nat.le_of_ble_eq_true rfl) cs rfl rfl dX11_agreesWithTracks_49 rfl ?_
        rintro _ _ ⟨rfl, rfl⟩
        refine g_ifb_ne cx (pc2 := 55) (tgt := 72) dX11_agreesWithTracks_52 (by decide) rfl (fun h_2 => ?_) (fun h_2 => ?_)
        · skip
          have g2 := h_2
          refine g_iconst cx (pc2 := 73) dX11_agreesWithTracks_72 rfl ?_
          refine g_goto cx (tgt := 77) dX11_agreesWithTracks_73 (by decide) ?_
          exact g_zret cx (Or.inr rfl) qx dX11_agreesWithTracks_77 ⟨rb_t (by first | (intro z; exact g1 (z.1 i.toNat (by omega))) | (refine ⟨fun j hj => hal j (by omega), ?_⟩; first | exact Or.inl g2 | exact Or.inr g3) | (rintro ⟨-, z | z⟩; exact g2 z; exact g3 z)), by rfl⟩
        · skip
          have g2 := h_2
          refine g_aload_n cx (pc2 := 56) 0 rfl dX11_agreesWithTracks_55 rfl ?_
          refine g_iload_n cx (pc2 := 57) 1 rfl dX11_agreesWithTracks_56 rfl ?_
          refine g_iload_n cx (pc2 := 58) 2 rfl dX11_agreesWithTracks_57 rfl ?_
          refine g_aload_n cx (pc2 := 59) 0 rfl dX11_agreesWithTracks_58 rfl ?_
          refine g_get cx (pc2 := 62) (ci := 11) (k0 := 0) (j := 2) (v := .ref 23) rfl iwX11 rfl (lt_lit hn (Nat.le_of_ble_eq_true rfl)) rfl (Nat.le_of_ble_eq_true rfl) kf_X11_21 rfl rfl dX11_agreesWithTracks_59 rfl ?_
          refine g_getN cx (pc2 := 65) (ci := 2) (k0 := 23) (j := 5) (v := .int (iI (M 23 5))) rfl iwX2 rfl (lt_lit hn (Nat.le_of_ble_eq_true rfl)) rfl (Nat.le_of_ble_eq_true rfl) kf_X11_197 rfl rfl dX11_agreesWithTracks_62 rfl ?_
          refine g_iconst cx (pc2 := 66) dX11_agreesWithTracks_65 rfl ?_
          refine g_callV cx (pc2 := 69) (st := []) (As := [.int (iI h), .int (iI w), .int (iI (M 23 5)), .int (iI 0)]) (k0 := 0) (ci := 11) (c_X11_canGo (M := M) hn (by exact hci) h w (M 23 5) 0 (by first | assumption | omega) (by first | omega | (have := hci.st; omega)) (by first | assumption | omega) (by omega)) wM_X11_canGo wV_X11_canGo kl_X11_453 rfl (lt_lit hn (Nat.le_of_ble_eq_true rfl)) rfl ⟨rfl, rfl, Nat.le_of_ble_eq_true rfl, Nat.le_of_ble_eq_true rfl⟩ (Nat.le_of_ble_eq_true rfl) cs rfl rfl dX11_agreesWithTracks_66 rfl ?_
          rintro _ _ ⟨rfl, rfl⟩
          refine g_ifb_eq cx (pc2 := 72) (tgt := 76) dX11_agreesWithTracks_69 (by decide) rfl (fun h_3 => ?_) (fun h_3 => ?_)
          · skip
            have g3 := h_3
            refine g_iconst cx (pc2 := 77) dX11_agreesWithTracks_76 rfl ?_
            exact g_zret cx (Or.inl rfl) qx dX11_agreesWithTracks_77 ⟨rb_f (by first | (intro z; exact g1 (z.1 i.toNat (by omega))) | (refine ⟨fun j hj => hal j (by omega), ?_⟩; first | exact Or.inl g2 | exact Or.inr g3) | (rintro ⟨-, z | z⟩; exact g2 z; exact g3 z)), by rfl⟩
          · skip
            have g3 := h_3
            refine g_iconst cx (pc2 := 73) dX11_agreesWithTracks_72 rfl ?_
            refine g_goto cx (tgt := 77) dX11_agreesWithTracks_73 (by decide) ?_
            exact g_zret cx (Or.inr rfl) qx dX11_agreesWithTracks_77 ⟨rb_t (by first | (intro z; exact g1 (z.1 i.toNat (by omega))) | (refine ⟨fun j hj => hal j (by omega), ?_⟩; first | exact Or.inl g2 | exact Or.inr g3) | (rintro ⟨-, z | z⟩; exact g2 z; exact g3 z)), by rfl⟩
      · skip
        refine g_aload_n cx (pc2 := 10) 0 rfl dX11_agreesWithTracks_9 rfl ?_
        refine g_iload_n cx (pc2 := 11) 1 rfl dX11_agreesWithTracks_10 rfl ?_
        refine g_iload_n cx (pc2 := 12) 2 rfl dX11_agreesWithTracks_11 rfl ?_
        refine g_aload_n cx (pc2 := 13) 0 rfl dX11_agreesWithTracks_12 rfl ?_
        refine g_get cx (pc2 := 16) (ci := 11) (k0 := 0) (j := 11) (v := .ref 73) rfl iwX11 rfl (lt_lit hn (Nat.le_of_ble_eq_true rfl)) rfl (Nat.le_of_ble_eq_true rfl) kf_X11_83 rfl rfl dX11_agreesWithTracks_13 rfl ?_
        refine g_iload cx (pc2 := 18) 4 rfl dX11_agreesWithTracks_16 rfl ?_
        refine g_callV cx (pc2 := 21) (st := [.int (iI w), .int (iI h), .ref 0]) (As := [.int (iI i)]) (k0 := 73) (ci := 5) (c_X5_houseOf (M := M) hn (by exact Or.inr rfl) (by exact hp3.1) i (by first | assumption | omega)) wM_X5_houseOf wV_X5_houseOf kl_X11_387 rfl (lt_lit hn (Nat.le_of_ble_eq_true rfl)) rfl ⟨rfl, rfl, Nat.le_of_ble_eq_true rfl, Nat.le_of_ble_eq_true rfl⟩ (Nat.le_of_ble_eq_true rfl) cs rfl rfl dX11_agreesWithTracks_18 rfl ?_
        rintro _ _ ⟨rfl, rfl⟩
        refine g_rwi (y := iI (M 74 i.toNat)) (congrArg iI (by unfold prM; rw [if_pos (by omega)])) ?_
        refine g_aload_n cx (pc2 := 22) 0 rfl dX11_agreesWithTracks_21 rfl ?_
        refine g_get cx (pc2 := 25) (ci := 11) (k0 := 0) (j := 11) (v := .ref 73) rfl iwX11 rfl (lt_lit hn (Nat.le_of_ble_eq_true rfl)) rfl (Nat.le_of_ble_eq_true rfl) kf_X11_83 rfl rfl dX11_agreesWithTracks_22 rfl ?_
        refine g_iload cx (pc2 := 27) 4 rfl dX11_agreesWithTracks_25 rfl ?_
        refine g_callV cx (pc2 := 30) (st := [.int (iI (M 74 i.toNat)), .int (iI w), .int (iI h), .ref 0]) (As := [.int (iI i)]) (k0 := 73) (ci := 5) (c_X5_valueOf (M := M) hn (by exact Or.inr rfl) (by exact hp3.1) i (by first | assumption | omega)) wM_X5_valueOf wV_X5_valueOf kl_X11_374 rfl (lt_lit hn (Nat.le_of_ble_eq_true rfl)) rfl ⟨rfl, rfl, Nat.le_of_ble_eq_true rfl, Nat.le_of_ble_eq_true rfl⟩ (Nat.le_of_ble_eq_true rfl) cs rfl rfl dX11_agreesWithTracks_27 rfl ?_
        rintro _ _ ⟨rfl, rfl⟩
        refine g_rwi (y := iI (M 75 i.toNat)) (congrArg iI (by unfold prM; rw [if_pos (by omega)])) ?_
        refine g_callV cx (pc2 := 33) (st := []) (As := [.int (iI h), .int (iI w), .int (iI (M 74 i.toNat)), .int (iI (M 75 i.toNat))]) (k0 := 0) (ci := 11) (c_X11_canGo (M := M) hn (by exact hci) h w (M 74 i.toNat) (M 75 i.toNat) (by first | assumption | omega) (by first | omega | (have := hci.st; omega)) (by first | assumption | omega) (by omega)) wM_X11_canGo wV_X11_canGo kl_X11_453 rfl (lt_lit hn (Nat.le_of_ble_eq_true rfl)) rfl ⟨rfl, rfl, Nat.le_of_ble_eq_true rfl, Nat.le_of_ble_eq_true rfl⟩ (Nat.le_of_ble_eq_true rfl) cs rfl rfl dX11_agreesWithTracks_30 rfl ?_
        rintro _ _ ⟨rfl, rfl⟩
        refine g_ifb_ne cx (pc2 := 36) (tgt := 38) dX11_agreesWithTracks_33 (by decide) rfl (fun h_4 => ?_) (fun h_4 => ?_)
        · skip
          have g1 := h_4
          refine g_iinc cx (pc2 := 41) 4 rfl (lv2 := [(0, .ref 0), (1, .int (iI h)), (2, .int (iI w)), (3, .int (iI q)), (4, .int (iI (i + 1)))]) rfl (Nat.le_of_ble_eq_true rfl) dX11_agreesWithTracks_38 rfl ?_
          refine g_goto cx (tgt := 3) dX11_agreesWithTracks_41 (by decide) ?_
          exact ih3 ((q - (i + 1)).toNat) (by omega) (i + 1) (by first | assumption | omega) (by intro j hj; rcases (show (j : Int) < i ∨ j = i.toNat by omega) with z | z; exact hal j z; subst z; assumption) (Nat.le_refl _)
        · skip
          have g1 := h_4
          refine g_iconst cx (pc2 := 37) dX11_agreesWithTracks_36 rfl ?_
          exact g_zret cx (Or.inl rfl) qx dX11_agreesWithTracks_37 ⟨rb_f (by first | (intro z; exact g1 (z.1 i.toNat (by omega))) | (refine ⟨fun j hj => hal j (by omega), ?_⟩; first | exact Or.inl g2 | exact Or.inr g3) | (rintro ⟨-, z | z⟩; exact g2 z; exact g3 z)), by rfl⟩
  exact L3 _ 0 (by first | assumption | omega) (by intro j hj; omega) (Nat.le_refl _)
set_option maxHeartbeats 4000000 in
set_option maxRecDepth 100000 in
theorem c_nt1 {n : Nat} (hn : NN n) {M : Mm} (hrw : RWW M) : CT yX11_numberThere cX11_numberThere 6 (some .int) ({ frames := 1, cells := 0, slots := 0, locals := 20 }) n [.ref 1] M (rI (ntV M 3 6) M) := by
  refine CT.of (lv0 := [(0, .ref 1)]) (by decide +kernel) hn (fun _ => rfl) (fun _ => Nat.le_of_ble_eq_true rfl) (fun X cx cs qx => ?_)
  have cx : Cx X cX11_numberThere RX11 ({ frames := 1, cells := 0, slots := 0, locals := 20 }) 6 n := cx
  refine g_iconst cx (pc2 := 1) dX11_numberThere_0 rfl ?_
  refine g_istore_n cx (pc2 := 2) (lv2 := [(0, .ref 1), (1, .int (iI 0))]) rfl (Nat.le_of_ble_eq_true rfl) dX11_numberThere_1 rfl ?_
  refine g_aload_n cx (pc2 := 3) 0 rfl dX11_numberThere_2 rfl ?_
  refine g_astore_n cx (pc2 := 4) (lv2 := [(0, .ref 1), (1, .int (iI 0)), (2, .ref 1)]) rfl (Nat.le_of_ble_eq_true rfl) dX11_numberThere_3 rfl ?_
  refine g_aload_n cx (pc2 := 5) 2 rfl dX11_numberThere_4 rfl ?_
  refine g_alen cx (pc2 := 6) (k0 := 1) (v := 6) rfl (by decide) (lt_lit hn (Nat.le_of_ble_eq_true rfl)) rfl dX11_numberThere_5 rfl ?_
  refine g_istore_n cx (pc2 := 7) (lv2 := [(0, .ref 1), (1, .int (iI 0)), (2, .ref 1), (3, .int (iI 6))]) rfl (Nat.le_of_ble_eq_true rfl) dX11_numberThere_6 rfl ?_
  refine g_iconst cx (pc2 := 8) dX11_numberThere_7 rfl ?_
  refine g_istore cx (pc2 := 10) (lv2 := [(0, .ref 1), (1, .int (iI 0)), (2, .ref 1), (3, .int (iI 6)), (4, .int (iI 0))]) rfl (Nat.le_of_ble_eq_true rfl) dX11_numberThere_8 rfl ?_
  have L10 : ∀ (fu : Nat) (i : Int) (s : Int), (0 ≤ i ∧ i ≤ 6) → (s = ntV M 3 i.toNat) → (6 - i).toNat ≤ fu → G X 10 [(0, .ref 1), (1, .int (iI s)), (2, .ref 1), (3, .int (iI 6)), (4, .int (iI i))] [] M := by
    intro fu
    induction fu using Nat.strongRecOn with
    | _ fu ih10 =>
      intro i s hi hs hk10
      have hro : i < 6 → isRowO (3 + 2 * i.toNat) := fun q => by omega
      have hcap := capO_b (3 + 2 * i.toNat)
      have hst : ntV M 3 (i + 1).toNat = if M (3 + 2 * i.toNat) 1 < 0 then ntV M 3 i.toNat else ntV M 3 i.toNat + 1 := by rw [show (i + 1).toNat = i.toNat + 1 by omega, ntV]
      refine g_iload cx (pc2 := 12) 4 rfl dX11_numberThere_10 rfl ?_
      refine g_iload_n cx (pc2 := 13) 3 rfl dX11_numberThere_12 rfl ?_
      refine g_icmp_ge cx (pc2 := 16) (tgt := 44) ⟨(by first | assumption | omega), ⟨by decide, by decide⟩⟩ dX11_numberThere_13 (by decide) rfl (fun h_1 => ?_) (fun h_1 => ?_)
      · skip
        refine g_iload_n cx (pc2 := 45) 1 rfl dX11_numberThere_44 rfl ?_
        exact g_iret cx qx dX11_numberThere_45 ⟨congrArg (fun q => some (Value.int (iI q))) (by rw [hs, show i = 6 by omega]; rfl), by rfl⟩
      · skip
        have L38 : ∀ (s2 : Int), (s2 = ntV M 3 (i + 1).toNat) → G X 38 [(0, .ref 1), (1, .int (iI s2)), (2, .ref 1), (3, .int (iI 6)), (4, .int (iI i))] [] M := by
          intro s2 hs2
          refine g_iinc cx (pc2 := 41) 4 rfl (lv2 := [(0, .ref 1), (1, .int (iI s2)), (2, .ref 1), (3, .int (iI 6)), (4, .int (iI (i + 1)))]) rfl (Nat.le_of_ble_eq_true rfl) dX11_numberThere_38 rfl ?_
          refine g_goto cx (tgt := 10) dX11_numberThere_41 (by decide) ?_
          exact ih10 ((6 - (i + 1)).toNat) (by omega) (i + 1) s2 (by first | assumption | omega) (by exact hs2) (Nat.le_refl _)
        refine g_aload_n cx (pc2 := 17) 2 rfl dX11_numberThere_16 rfl ?_
        refine g_iload cx (pc2 := 19) 4 rfl dX11_numberThere_17 rfl ?_
        refine g_aald cx (pc2 := 20) (k0 := 1) rfl (by decide) (lt_lit hn (Nat.le_of_ble_eq_true rfl)) (by first | assumption | omega) (by first | assumption | omega) (Nat.le_of_ble_eq_true rfl) dX11_numberThere_19 rfl ?_
        refine g_astore cx (pc2 := 22) (lv2 := [(0, .ref 1), (1, .int (iI s)), (2, .ref 1), (3, .int (iI 6)), (4, .int (iI i)), (5, .ref (3 + 2 * (i).toNat))]) rfl (Nat.le_of_ble_eq_true rfl) dX11_numberThere_20 rfl ?_
        refine g_aload cx (pc2 := 24) 5 rfl dX11_numberThere_22 rfl ?_
        refine g_ifnull cx (pc2 := 27) dX11_numberThere_24 rfl ?_
        refine g_aload cx (pc2 := 29) 5 rfl dX11_numberThere_27 rfl ?_
        refine g_callV cx (pc2 := 32) (st := []) (As := []) (k0 := (3 + 2 * (i).toNat)) (ci := 8) (c_X8_isMissing (M := M) hn (by exact hro (by omega)) (by exact (hrw _ (hro (by omega))).1)) wM_X8_isMissing wV_X8_isMissing kl_X11_121 (sh_row (hro (by omega))) (by omega) rfl ⟨rfl, rfl, Nat.le_of_ble_eq_true rfl, Nat.le_of_ble_eq_true rfl⟩ (Nat.le_of_ble_eq_true rfl) cs rfl rfl dX11_numberThere_29 rfl ?_
        rintro _ _ ⟨rfl, rfl⟩
        refine g_ifb_ne cx (pc2 := 35) (tgt := 38) dX11_numberThere_32 (by decide) rfl (fun h_2 => ?_) (fun h_2 => ?_)
        · skip
          refine g_sub (lv2 := [(0, .ref 1), (1, .int (iI s)), (2, .ref 1), (3, .int (iI 6)), (4, .int (iI i))]) [0, 1, 2, 3, 4] rfl ?_
          exact L38 s (by rw [hst]; first | (rw [if_neg (by assumption), hs]; done) | (rw [if_pos (by assumption)]; exact hs))
        · skip
          refine g_iinc cx (pc2 := 38) 1 rfl (lv2 := [(0, .ref 1), (1, .int (iI (s + 1))), (2, .ref 1), (3, .int (iI 6)), (4, .int (iI i)), (5, .ref (3 + 2 * (i).toNat))]) rfl (Nat.le_of_ble_eq_true rfl) dX11_numberThere_35 rfl ?_
          refine g_sub (lv2 := [(0, .ref 1), (1, .int (iI (s + 1))), (2, .ref 1), (3, .int (iI 6)), (4, .int (iI i))]) [0, 1, 2, 3, 4] rfl ?_
          exact L38 (s + 1) (by rw [hst]; first | (rw [if_neg (by assumption), hs]; done) | (rw [if_pos (by assumption)]; exact hs))
  exact L10 _ 0 0 (by first | assumption | omega) (by rfl) (Nat.le_refl _)
set_option maxHeartbeats 4000000 in
set_option maxRecDepth 100000 in
theorem c_nt2 {n : Nat} (hn : NN n) {M : Mm} (hrw : RWW M) : CT yX11_numberThere cX11_numberThere 6 (some .int) ({ frames := 1, cells := 0, slots := 0, locals := 20 }) n [.ref 2] M (rI (ntV M 15 4) M) := by
  refine CT.of (lv0 := [(0, .ref 2)]) (by decide +kernel) hn (fun _ => rfl) (fun _ => Nat.le_of_ble_eq_true rfl) (fun X cx cs qx => ?_)
  have cx : Cx X cX11_numberThere RX11 ({ frames := 1, cells := 0, slots := 0, locals := 20 }) 6 n := cx
  refine g_iconst cx (pc2 := 1) dX11_numberThere_0 rfl ?_
  refine g_istore_n cx (pc2 := 2) (lv2 := [(0, .ref 2), (1, .int (iI 0))]) rfl (Nat.le_of_ble_eq_true rfl) dX11_numberThere_1 rfl ?_
  refine g_aload_n cx (pc2 := 3) 0 rfl dX11_numberThere_2 rfl ?_
  refine g_astore_n cx (pc2 := 4) (lv2 := [(0, .ref 2), (1, .int (iI 0)), (2, .ref 2)]) rfl (Nat.le_of_ble_eq_true rfl) dX11_numberThere_3 rfl ?_
  refine g_aload_n cx (pc2 := 5) 2 rfl dX11_numberThere_4 rfl ?_
  refine g_alen cx (pc2 := 6) (k0 := 2) (v := 4) rfl (by decide) (lt_lit hn (Nat.le_of_ble_eq_true rfl)) rfl dX11_numberThere_5 rfl ?_
  refine g_istore_n cx (pc2 := 7) (lv2 := [(0, .ref 2), (1, .int (iI 0)), (2, .ref 2), (3, .int (iI 4))]) rfl (Nat.le_of_ble_eq_true rfl) dX11_numberThere_6 rfl ?_
  refine g_iconst cx (pc2 := 8) dX11_numberThere_7 rfl ?_
  refine g_istore cx (pc2 := 10) (lv2 := [(0, .ref 2), (1, .int (iI 0)), (2, .ref 2), (3, .int (iI 4)), (4, .int (iI 0))]) rfl (Nat.le_of_ble_eq_true rfl) dX11_numberThere_8 rfl ?_
  have L10 : ∀ (fu : Nat) (i : Int) (s : Int), (0 ≤ i ∧ i ≤ 4) → (s = ntV M 15 i.toNat) → (4 - i).toNat ≤ fu → G X 10 [(0, .ref 2), (1, .int (iI s)), (2, .ref 2), (3, .int (iI 4)), (4, .int (iI i))] [] M := by
    intro fu
    induction fu using Nat.strongRecOn with
    | _ fu ih10 =>
      intro i s hi hs hk10
      have hro : i < 4 → isRowO (15 + 2 * i.toNat) := fun q => by omega
      have hcap := capO_b (15 + 2 * i.toNat)
      have hst : ntV M 15 (i + 1).toNat = if M (15 + 2 * i.toNat) 1 < 0 then ntV M 15 i.toNat else ntV M 15 i.toNat + 1 := by rw [show (i + 1).toNat = i.toNat + 1 by omega, ntV]
      refine g_iload cx (pc2 := 12) 4 rfl dX11_numberThere_10 rfl ?_
      refine g_iload_n cx (pc2 := 13) 3 rfl dX11_numberThere_12 rfl ?_
      refine g_icmp_ge cx (pc2 := 16) (tgt := 44) ⟨(by first | assumption | omega), ⟨by decide, by decide⟩⟩ dX11_numberThere_13 (by decide) rfl (fun h_1 => ?_) (fun h_1 => ?_)
      · skip
        refine g_iload_n cx (pc2 := 45) 1 rfl dX11_numberThere_44 rfl ?_
        exact g_iret cx qx dX11_numberThere_45 ⟨congrArg (fun q => some (Value.int (iI q))) (by rw [hs, show i = 4 by omega]; rfl), by rfl⟩
      · skip
        have L38 : ∀ (s2 : Int), (s2 = ntV M 15 (i + 1).toNat) → G X 38 [(0, .ref 2), (1, .int (iI s2)), (2, .ref 2), (3, .int (iI 4)), (4, .int (iI i))] [] M := by
          intro s2 hs2
          refine g_iinc cx (pc2 := 41) 4 rfl (lv2 := [(0, .ref 2), (1, .int (iI s2)), (2, .ref 2), (3, .int (iI 4)), (4, .int (iI (i + 1)))]) rfl (Nat.le_of_ble_eq_true rfl) dX11_numberThere_38 rfl ?_
          refine g_goto cx (tgt := 10) dX11_numberThere_41 (by decide) ?_
          exact ih10 ((4 - (i + 1)).toNat) (by omega) (i + 1) s2 (by first | assumption | omega) (by exact hs2) (Nat.le_refl _)
        refine g_aload_n cx (pc2 := 17) 2 rfl dX11_numberThere_16 rfl ?_
        refine g_iload cx (pc2 := 19) 4 rfl dX11_numberThere_17 rfl ?_
        refine g_aald cx (pc2 := 20) (k0 := 2) rfl (by decide) (lt_lit hn (Nat.le_of_ble_eq_true rfl)) (by first | assumption | omega) (by first | assumption | omega) (Nat.le_of_ble_eq_true rfl) dX11_numberThere_19 rfl ?_
        refine g_astore cx (pc2 := 22) (lv2 := [(0, .ref 2), (1, .int (iI s)), (2, .ref 2), (3, .int (iI 4)), (4, .int (iI i)), (5, .ref (15 + 2 * (i).toNat))]) rfl (Nat.le_of_ble_eq_true rfl) dX11_numberThere_20 rfl ?_
        refine g_aload cx (pc2 := 24) 5 rfl dX11_numberThere_22 rfl ?_
        refine g_ifnull cx (pc2 := 27) dX11_numberThere_24 rfl ?_
        refine g_aload cx (pc2 := 29) 5 rfl dX11_numberThere_27 rfl ?_
        refine g_callV cx (pc2 := 32) (st := []) (As := []) (k0 := (15 + 2 * (i).toNat)) (ci := 8) (c_X8_isMissing (M := M) hn (by exact hro (by omega)) (by exact (hrw _ (hro (by omega))).1)) wM_X8_isMissing wV_X8_isMissing kl_X11_121 (sh_row (hro (by omega))) (by omega) rfl ⟨rfl, rfl, Nat.le_of_ble_eq_true rfl, Nat.le_of_ble_eq_true rfl⟩ (Nat.le_of_ble_eq_true rfl) cs rfl rfl dX11_numberThere_29 rfl ?_
        rintro _ _ ⟨rfl, rfl⟩
        refine g_ifb_ne cx (pc2 := 35) (tgt := 38) dX11_numberThere_32 (by decide) rfl (fun h_2 => ?_) (fun h_2 => ?_)
        · skip
          refine g_sub (lv2 := [(0, .ref 2), (1, .int (iI s)), (2, .ref 2), (3, .int (iI 4)), (4, .int (iI i))]) [0, 1, 2, 3, 4] rfl ?_
          exact L38 s (by rw [hst]; first | (rw [if_neg (by assumption), hs]; done) | (rw [if_pos (by assumption)]; exact hs))
        · skip
          refine g_iinc cx (pc2 := 38) 1 rfl (lv2 := [(0, .ref 2), (1, .int (iI (s + 1))), (2, .ref 2), (3, .int (iI 4)), (4, .int (iI i)), (5, .ref (15 + 2 * (i).toNat))]) rfl (Nat.le_of_ble_eq_true rfl) dX11_numberThere_35 rfl ?_
          refine g_sub (lv2 := [(0, .ref 2), (1, .int (iI (s + 1))), (2, .ref 2), (3, .int (iI 4)), (4, .int (iI i))]) [0, 1, 2, 3, 4] rfl ?_
          exact L38 (s + 1) (by rw [hst]; first | (rw [if_neg (by assumption), hs]; done) | (rw [if_pos (by assumption)]; exact hs))
  exact L10 _ 0 0 (by first | assumption | omega) (by rfl) (Nat.le_refl _)
