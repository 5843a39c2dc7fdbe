set_option maxHeartbeats 4000000 in
set_option maxRecDepth 100000 in
theorem law_D3 {X : Yq} {P : Pl} (cx : Yx X cL_law RL room_1 18 P) {b L : Nat} {xs : Nat → Int32} (sx : Sy X b L xs) (ez : Ez X) {P1 : Pl} (ys : Ys X P1) {n : Nat} (hn : NN n) {R : va_W} {av : Nat} {V : Nat → Int} (q0 : Nat) (hV : R[q0]? = some (ar P av 64 V)) (hg : GV V) {cs ss : Nat} (hcs : cs ≤ 599000 ∧ ss ≤ 7300000) {w : Nat} (hw : w < 2 ^ nN V) {h : Int} (hh : 0 ≤ h ∧ h < V 0) {z : Int} (hz : MZ V w (V (1 + h.toNat)) z) : ∀ (fu : Nat) (M : Mm) (i : Int), (VOK V M) → (0 ≤ i ∧ i ≤ V 9) → ((V 9 - i).toNat) ≤ fu → YG X 778 [(0, .ref b), (1, .ref (P1.2.1 0)), (3, .ref av), (5, .int (iI (V 9))), (12, .int (iI ((w : Nat) : Int))), (13, .int (iI h)), (14, .int (iI z)), (15, .int (iI i))] [] (wld P1 n M ++ R) cs ss := by
  intro fu
  induction fu using Nat.strongRecOn with
  | _ fu ih =>
    intro M i hM hi hfu
    have hcr := hcr_of hcs
    have hV1 : R[q0]? = some (ar P1 av 64 V) := by rw [ys_ar cx ys]; exact hV
    have h9 := hg.2.1
    have h32 := (nN_5 hg).2
    have h8 := GV_0 hg
    have hmp : 0 ≤ V (1 + h.toNat) ∧ V (1 + h.toNat) ≤ 15 := hg.1.2.2 h.toNat (by omega)
    have hnn : ((nN V : Nat) : Int) = V 9 := Int.toNat_of_nonneg h9.1
    have hzb := hz.b
    refine l_iload cx (pc2 := 780) 7 rfl dL_law_778 rfl ?_
    refine l_iload cx (pc2 := 782) 3 rfl dL_law_780 rfl ?_
    refine l_icmp_ge cx (pc2 := 785) (tgt := 818) ⟨(by first | assumption | omega | exact hg.1.1 _ | exact ⟨by omega, by omega⟩), (by first | assumption | omega | exact hg.1.1 _ | exact ⟨by omega, by omega⟩)⟩ dL_law_782 (by decide) rfl (fun h_1 => ?_) (fun h_1 => ?_)
    · skip
      refine l_sub (lv2 := [(0, .ref b), (1, .ref (P1.2.1 0)), (3, .ref av), (5, .int (iI (V 9)))]) [0, 1, 2, 3] rfl ?_
      exact law_E1 cx sx ez ys hn q0 hV hg hcs hM
    · skip
      refine l_iload cx (pc2 := 787) 6 rfl dL_law_785 rfl ?_
      refine l_if_lt cx (pc2 := 790) (tgt := 818) (by first | assumption | omega | exact hg.1.1 _ | exact ⟨by omega, by omega⟩) dL_law_787 (by decide) rfl (fun h_2 => ?_) (fun h_2 => ?_)
      · skip
        refine l_sub (lv2 := [(0, .ref b), (1, .ref (P1.2.1 0)), (3, .ref av), (5, .int (iI (V 9)))]) [0, 1, 2, 3] rfl ?_
        exact law_E1 cx sx ez ys hn q0 hV hg hcs hM
      · skip
        have hnl := ndN_le w (2 ^ i.toNat)
        refine l_aload_n cx (pc2 := 791) 1 rfl dL_law_790 rfl ?_
        refine l_iload cx (pc2 := 793) 4 rfl dL_law_791 rfl ?_
        refine l_iconst cx (pc2 := 794) dL_law_793 rfl ?_
        refine l_iload cx (pc2 := 796) 7 rfl dL_law_794 rfl ?_
        refine l_ishl cx (pc2 := 797) dL_law_796 rfl ?_
        refine l_rwi (y := iI ((2 ^ i.toNat : Nat) : Int)) (sh1 (by omega) (by omega)) ?_
        refine l_iconst cx (pc2 := 798) dL_law_797 rfl ?_
        refine l_ixor cx (pc2 := 799) dL_law_798 rfl ?_
        refine l_iand cx (pc2 := 800) dL_law_799 rfl ?_
        refine l_rwi (y := iI ((ndN w (2 ^ i.toNat) : Nat) : Int)) (by rw [nd_iI (Int.natCast_nonneg _) (Int.natCast_nonneg _), Int.toNat_natCast, Int.toNat_natCast]) ?_
        refine l_iload cx (pc2 := 802) 5 rfl dL_law_800 rfl ?_
        refine l_ctP cx (pc2 := 805) (st := []) ys hn (M := M) (As := [.int (iI ((ndN w (2 ^ i.toNat) : Nat) : Int)), .int (iI h)]) (c_X11_mends (M := M) hn hM.2.2 ((ndN w (2 ^ i.toNat) : Nat) : Int) h ⟨by omega, by omega⟩ ⟨by omega, by omega⟩) wM_X11_mends wV_X11_mends rfl kl_L_113 ⟨rfl, rfl, Nat.le_of_ble_eq_true rfl, Nat.le_of_ble_eq_true rfl⟩ (Nat.le_of_ble_eq_true rfl) hcr rfl rfl rfl dL_law_802 rfl ?_
        intro z_3 M_3 h_3
        have hp := hz.part hg hw hmp (men_V hg hM.1.w (Nat.lt_of_le_of_lt hnl hw) hh h_3)
        have hzb2 := (men_V hg hM.1.w (Nat.lt_of_le_of_lt hnl hw) hh h_3).b
        have hM2 := VOK_kp hM (KP_mends hM.2.2 h_3)
        refine l_iload cx (pc2 := 807) 6 rfl dL_law_805 rfl ?_
        refine l_icmp_ge cx (pc2 := 810) (tgt := 812) ⟨(by first | assumption | omega | exact hg.1.1 _ | exact ⟨by omega, by omega⟩), (by first | assumption | omega | exact hg.1.1 _ | exact ⟨by omega, by omega⟩)⟩ dL_law_807 (by decide) rfl (fun h_4 => ?_) (fun h_4 => ?_)
        · skip
          refine l_iinc cx (pc2 := 815) 7 rfl (lv2 := [(0, .ref b), (1, .ref (P1.2.1 0)), (3, .ref av), (5, .int (iI (V 9))), (12, .int (iI ((w : Nat) : Int))), (13, .int (iI h)), (14, .int (iI z)), (15, .int (iI (i + 1)))]) rfl (Nat.le_of_ble_eq_true rfl) dL_law_812 rfl ?_
          refine l_goto cx (tgt := 778) dL_law_815 (by decide) ?_
          exact ih _ (by omega) _ (i + 1) hM2 (by omega) (Nat.le_refl _)
        · skip
          omega
set_option maxHeartbeats 4000000 in
set_option maxRecDepth 100000 in
theorem law_D2 {X : Yq} {P : Pl} (cx : Yx X cL_law RL room_1 18 P) {b L : Nat} {xs : Nat → Int32} (sx : Sy X b L xs) (ez : Ez X) {P1 : Pl} (ys : Ys X P1) {n : Nat} (hn : NN n) {R : va_W} {av : Nat} {V : Nat → Int} (q0 : Nat) (hV : R[q0]? = some (ar P av 64 V)) (hg : GV V) {cs ss : Nat} (hcs : cs ≤ 599000 ∧ ss ≤ 7300000) {w : Nat} (hw : w < 2 ^ nN V) {h : Int} (hh : 0 ≤ h ∧ h < V 0) {M : Mm} (hM : VOK V M) : YG X 717 [(0, .ref b), (1, .ref (P1.2.1 0)), (3, .ref av), (5, .int (iI (V 9))), (12, .int (iI ((w : Nat) : Int))), (13, .int (iI h))] [] (wld P1 n M ++ R) cs ss := by
  have hcr := hcr_of hcs
  have hV1 : R[q0]? = some (ar P1 av 64 V) := by rw [ys_ar cx ys]; exact hV
  have h9 := hg.2.1
  have h32 := (nN_5 hg).2
  have h8 := GV_0 hg
  have hmp : 0 ≤ V (1 + h.toNat) ∧ V (1 + h.toNat) ≤ 15 := hg.1.2.2 h.toNat (by omega)
  have hnn : ((nN V : Nat) : Int) = V 9 := Int.toNat_of_nonneg h9.1
  have heb := ENV_b hg hw
  refine l_aload_n cx (pc2 := 718) 1 rfl dL_law_717 rfl ?_
  refine l_iload cx (pc2 := 720) 4 rfl dL_law_718 rfl ?_
  refine l_iload cx (pc2 := 722) 5 rfl dL_law_720 rfl ?_
  refine l_ctP cx (pc2 := 725) (st := []) ys hn (M := M) (As := [.int (iI ((w : Nat) : Int)), .int (iI h)]) (c_X11_mends (M := M) hn hM.2.2 ((w : Nat) : Int) h ⟨by omega, by omega⟩ ⟨by omega, by omega⟩) wM_X11_mends wV_X11_mends rfl kl_L_113 ⟨rfl, rfl, Nat.le_of_ble_eq_true rfl, Nat.le_of_ble_eq_true rfl⟩ (Nat.le_of_ble_eq_true rfl) hcr rfl rfl rfl dL_law_722 rfl ?_
  intro z_1 M_1 h_1
  have hz := men_V hg hM.1.w hw hh h_1
  have hzb := hz.b
  have hM1 := VOK_kp hM (KP_mends hM.2.2 h_1)
  have hM2 := VOK_kp hM1 (KP_can hM1.2.2 ((w : Nat) : Int))
  refine l_istore cx (pc2 := 727) (lv2 := [(0, .ref b), (1, .ref (P1.2.1 0)), (3, .ref av), (5, .int (iI (V 9))), (12, .int (iI ((w : Nat) : Int))), (13, .int (iI h)), (14, .int (iI z_1))]) rfl (Nat.le_of_ble_eq_true rfl) dL_law_725 rfl ?_
  refine l_iload cx (pc2 := 729) 6 rfl dL_law_727 rfl ?_
  refine l_if_ge cx (pc2 := 732) (tgt := 736) (by first | assumption | omega | exact hg.1.1 _ | exact ⟨by omega, by omega⟩) dL_law_729 (by decide) rfl (fun h_2 => ?_) (fun h_2 => ?_)
  · skip
    refine l_iconst cx (pc2 := 737) dL_law_736 rfl ?_
    refine l_aload_n cx (pc2 := 738) 1 rfl dL_law_737 rfl ?_
    refine l_iload cx (pc2 := 740) 4 rfl dL_law_738 rfl ?_
    refine l_ctI cx (pc2 := 743) (st := [.int (iI 0)]) ys hn (M := M_1) (As := [.int (iI ((w : Nat) : Int))]) (c_canL (M := M_1) hn hg hM1.1.w hM1.2.2 ((w : Nat) : Int) (by omega)) wM_X11_can wV_X11_can rfl kl_L_89 ⟨rfl, rfl, Nat.le_of_ble_eq_true rfl, Nat.le_of_ble_eq_true rfl⟩ (Nat.le_of_ble_eq_true rfl) hcr rfl rfl rfl dL_law_740 rfl ?_
    refine l_rwi (y := iI (ENV V w)) (by rw [Int.toNat_natCast]) ?_
    refine l_if_ge cx (pc2 := 746) (tgt := 750) (by first | assumption | omega | exact hg.1.1 _ | exact ⟨by omega, by omega⟩) dL_law_743 (by decide) rfl (fun h_3 => ?_) (fun h_3 => ?_)
    · skip
      refine l_iconst cx (pc2 := 751) dL_law_750 rfl ?_
      refine l_icmp_ne cx (pc2 := 754) (tgt := 773) ⟨⟨by decide, by decide⟩, ⟨by decide, by decide⟩⟩ dL_law_751 (by decide) rfl (fun h_4 => ?_) (fun h_4 => ?_)
      · skip
        omega
      · skip
        refine l_iload cx (pc2 := 756) 6 rfl dL_law_754 rfl ?_
        refine l_bipush cx (pc2 := 758) ⟨by decide, by decide⟩ dL_law_756 rfl ?_
        refine l_icmp_gt cx (pc2 := 761) (tgt := 773) ⟨(by first | assumption | omega | exact hg.1.1 _ | exact ⟨by omega, by omega⟩), ⟨by decide, by decide⟩⟩ dL_law_758 (by decide) rfl (fun h_5 => ?_) (fun h_5 => ?_)
        · skip
          exfalso
          omega
        · skip
          refine l_aload_n cx (pc2 := 762) 1 rfl dL_law_761 rfl ?_
          refine l_iconst cx (pc2 := 763) dL_law_762 rfl ?_
          refine l_iload cx (pc2 := 765) 5 rfl dL_law_763 rfl ?_
          refine l_ctP cx (pc2 := 768) (st := []) ys hn (M := (canM M_1 ((w : Nat) : Int))) (As := [.int (iI 0), .int (iI h)]) (c_X11_mends (M := (canM M_1 ((w : Nat) : Int))) hn hM2.2.2 0 h ⟨by decide, by decide⟩ ⟨by omega, by omega⟩) wM_X11_mends wV_X11_mends rfl kl_L_113 ⟨rfl, rfl, Nat.le_of_ble_eq_true rfl, Nat.le_of_ble_eq_true rfl⟩ (Nat.le_of_ble_eq_true rfl) hcr rfl rfl rfl dL_law_765 rfl ?_
          intro z_6 M_6 h_6
          have h88 := MZ.zero hg hmp (men_V hg hM2.1.w (w := 0) (Nat.two_pow_pos _) hh h_6)
          have hM3 := VOK_kp hM2 (KP_mends hM2.2.2 h_6)
          refine l_bipush cx (pc2 := 770) ⟨by decide, by decide⟩ dL_law_768 rfl ?_
          refine l_icmp_eq cx (pc2 := 773) (tgt := 775) ⟨(by first | assumption | omega | exact hg.1.1 _ | exact ⟨by omega, by omega⟩), ⟨by decide, by decide⟩⟩ dL_law_770 (by decide) rfl (fun h_7 => ?_) (fun h_7 => ?_)
          · skip
            refine l_iconst cx (pc2 := 776) dL_law_775 rfl ?_
            refine l_istore cx (pc2 := 778) (lv2 := [(0, .ref b), (1, .ref (P1.2.1 0)), (3, .ref av), (5, .int (iI (V 9))), (12, .int (iI ((w : Nat) : Int))), (13, .int (iI h)), (14, .int (iI z_1)), (15, .int (iI 0))]) rfl (Nat.le_of_ble_eq_true rfl) dL_law_776 rfl ?_
            exact law_D3 cx sx ez ys hn q0 hV hg hcs hw hh hz _ _ 0 hM3 (by omega) (Nat.le_refl _)
          · skip
            exfalso
            omega
    · skip
      refine l_iconst cx (pc2 := 747) dL_law_746 rfl ?_
      refine l_goto cx (tgt := 751) dL_law_747 (by decide) ?_
      refine l_icmp_ne cx (pc2 := 754) (tgt := 773) ⟨⟨by decide, by decide⟩, ⟨by decide, by decide⟩⟩ dL_law_751 (by decide) rfl (fun h_8 => ?_) (fun h_8 => ?_)
      · skip
        exfalso
        omega
      · skip
        omega
  · skip
    refine l_iconst cx (pc2 := 733) dL_law_732 rfl ?_
    refine l_goto cx (tgt := 737) dL_law_733 (by decide) ?_
    refine l_aload_n cx (pc2 := 738) 1 rfl dL_law_737 rfl ?_
    refine l_iload cx (pc2 := 740) 4 rfl dL_law_738 rfl ?_
    refine l_ctI cx (pc2 := 743) (st := [.int (iI 1)]) ys hn (M := M_1) (As := [.int (iI ((w : Nat) : Int))]) (c_canL (M := M_1) hn hg hM1.1.w hM1.2.2 ((w : Nat) : Int) (by omega)) wM_X11_can wV_X11_can rfl kl_L_89 ⟨rfl, rfl, Nat.le_of_ble_eq_true rfl, Nat.le_of_ble_eq_true rfl⟩ (Nat.le_of_ble_eq_true rfl) hcr rfl rfl rfl dL_law_740 rfl ?_
    refine l_rwi (y := iI (ENV V w)) (by rw [Int.toNat_natCast]) ?_
    refine l_if_ge cx (pc2 := 746) (tgt := 750) (by first | assumption | omega | exact hg.1.1 _ | exact ⟨by omega, by omega⟩) dL_law_743 (by decide) rfl (fun h_9 => ?_) (fun h_9 => ?_)
    · skip
      refine l_iconst cx (pc2 := 751) dL_law_750 rfl ?_
      refine l_icmp_ne cx (pc2 := 754) (tgt := 773) ⟨⟨by decide, by decide⟩, ⟨by decide, by decide⟩⟩ dL_law_751 (by decide) rfl (fun h_10 => ?_) (fun h_10 => ?_)
      · skip
        exfalso
        omega
      · skip
        omega
    · skip
      refine l_iconst cx (pc2 := 747) dL_law_746 rfl ?_
      refine l_goto cx (tgt := 751) dL_law_747 (by decide) ?_
      refine l_icmp_ne cx (pc2 := 754) (tgt := 773) ⟨⟨by decide, by decide⟩, ⟨by decide, by decide⟩⟩ dL_law_751 (by decide) rfl (fun h_11 => ?_) (fun h_11 => ?_)
      · skip
        omega
      · skip
        refine l_iload cx (pc2 := 756) 6 rfl dL_law_754 rfl ?_
        refine l_bipush cx (pc2 := 758) ⟨by decide, by decide⟩ dL_law_756 rfl ?_
        refine l_icmp_gt cx (pc2 := 761) (tgt := 773) ⟨(by first | assumption | omega | exact hg.1.1 _ | exact ⟨by omega, by omega⟩), ⟨by decide, by decide⟩⟩ dL_law_758 (by decide) rfl (fun h_12 => ?_) (fun h_12 => ?_)
        · skip
          exfalso
          omega
        · skip
          refine l_aload_n cx (pc2 := 762) 1 rfl dL_law_761 rfl ?_
          refine l_iconst cx (pc2 := 763) dL_law_762 rfl ?_
          refine l_iload cx (pc2 := 765) 5 rfl dL_law_763 rfl ?_
          refine l_ctP cx (pc2 := 768) (st := []) ys hn (M := (canM M_1 ((w : Nat) : Int))) (As := [.int (iI 0), .int (iI h)]) (c_X11_mends (M := (canM M_1 ((w : Nat) : Int))) hn hM2.2.2 0 h ⟨by decide, by decide⟩ ⟨by omega, by omega⟩) wM_X11_mends wV_X11_mends rfl kl_L_113 ⟨rfl, rfl, Nat.le_of_ble_eq_true rfl, Nat.le_of_ble_eq_true rfl⟩ (Nat.le_of_ble_eq_true rfl) hcr rfl rfl rfl dL_law_765 rfl ?_
          intro z_13 M_13 h_13
          have h88 := MZ.zero hg hmp (men_V hg hM2.1.w (w := 0) (Nat.two_pow_pos _) hh h_13)
          have hM3 := VOK_kp hM2 (KP_mends hM2.2.2 h_13)
          refine l_bipush cx (pc2 := 770) ⟨by decide, by decide⟩ dL_law_768 rfl ?_
          refine l_icmp_eq cx (pc2 := 773) (tgt := 775) ⟨(by first | assumption | omega | exact hg.1.1 _ | exact ⟨by omega, by omega⟩), ⟨by decide, by decide⟩⟩ dL_law_770 (by decide) rfl (fun h_14 => ?_) (fun h_14 => ?_)
          · skip
            refine l_iconst cx (pc2 := 776) dL_law_775 rfl ?_
            refine l_istore cx (pc2 := 778) (lv2 := [(0, .ref b), (1, .ref (P1.2.1 0)), (3, .ref av), (5, .int (iI (V 9))), (12, .int (iI ((w : Nat) : Int))), (13, .int (iI h)), (14, .int (iI z_1)), (15, .int (iI 0))]) rfl (Nat.le_of_ble_eq_true rfl) dL_law_776 rfl ?_
            exact law_D3 cx sx ez ys hn q0 hV hg hcs hw hh hz _ _ 0 hM3 (by omega) (Nat.le_refl _)
          · skip
            exfalso
            omega
set_option maxHeartbeats 4000000 in
set_option maxRecDepth 100000 in
theorem law_D1 {X : Yq} {P : Pl} (cx : Yx X cL_law RL room_1 18 P) {b L : Nat} {xs : Nat → Int32} (sx : Sy X b L xs) (ez : Ez X) {P1 : Pl} (ys : Ys X P1) {n : Nat} (hn : NN n) {R : va_W} {av : Nat} {V : Nat → Int} (q0 : Nat) (hV : R[q0]? = some (ar P av 64 V)) (hg : GV V) {cs ss : Nat} (hcs : cs ≤ 599000 ∧ ss ≤ 7300000) {M : Mm} (hM : VOK V M) : YG X 694 [(0, .ref b), (1, .ref (P1.2.1 0)), (3, .ref av), (5, .int (iI (V 9)))] [] (wld P1 n M ++ R) cs ss := by
  have hcr := hcr_of hcs
  have hV1 : R[q0]? = some (ar P1 av 64 V) := by rw [ys_ar cx ys]; exact hV
  have h9 := hg.2.1
  have h32 := (nN_5 hg).2
  have h8 := GV_0 hg
  have hc0 := ceV_b (L := L) (xs := xs) (k := 0) (by decide)
  have hc1 := ceV_b (L := L) (xs := xs) (k := 1) (by decide)
  have hpp := Nat.two_pow_pos (nN V)
  have hir0 : ir (ceV L xs 0) := ceV_ir (by decide)
  have hir1 : ir (ceV L xs 1) := ceV_ir (by decide)
  refine l_aload_n cx (pc2 := 695) 0 rfl dL_law_694 rfl ?_
  refine l_iconst cx (pc2 := 696) dL_law_695 rfl ?_
  refine l_clI cx (pc2 := 699) (st := []) ys sx (As := [.ref b, .int (iI 0)]) (c_L_cell 0 (by decide)) wM_L_cell wS_L_cell kl_L_19 ⟨rfl, rfl, Nat.le_of_ble_eq_true rfl, Nat.le_of_ble_eq_true rfl⟩ (Nat.le_of_ble_eq_true rfl) hcr rfl rfl dL_law_696 rfl ?_
  refine l_iconst cx (pc2 := 700) dL_law_699 rfl ?_
  refine l_iload cx (pc2 := 702) 3 rfl dL_law_700 rfl ?_
  refine l_ishl cx (pc2 := 703) dL_law_702 rfl ?_
  refine l_rwi (y := iI ((2 ^ nN V : Nat) : Int)) (sh1 (by omega) (by omega)) ?_
  refine l_irem cx (pc2 := 704) (by exact ⟨hir0, ⟨by omega, by omega⟩, by omega, Or.inr (by omega)⟩) dL_law_703 rfl ?_
  refine l_rwi (y := iI (((ceV L xs 0).toNat % 2 ^ nN V : Nat) : Int)) (by rw [trem hc0.1, Int.natCast_emod, Int.toNat_of_nonneg hc0.1]) ?_
  refine l_istore cx (pc2 := 706) (lv2 := [(0, .ref b), (1, .ref (P1.2.1 0)), (3, .ref av), (5, .int (iI (V 9))), (12, .int (iI (((ceV L xs 0).toNat % 2 ^ nN V : Nat) : Int)))]) rfl (Nat.le_of_ble_eq_true rfl) dL_law_704 rfl ?_
  refine l_aload_n cx (pc2 := 707) 0 rfl dL_law_706 rfl ?_
  refine l_iconst cx (pc2 := 708) dL_law_707 rfl ?_
  refine l_clI cx (pc2 := 711) (st := []) ys sx (As := [.ref b, .int (iI 1)]) (c_L_cell 1 (by decide)) wM_L_cell wS_L_cell kl_L_19 ⟨rfl, rfl, Nat.le_of_ble_eq_true rfl, Nat.le_of_ble_eq_true rfl⟩ (Nat.le_of_ble_eq_true rfl) hcr rfl rfl dL_law_708 rfl ?_
  refine l_aload_n cx (pc2 := 712) 2 rfl dL_law_711 rfl ?_
  refine l_iconst cx (pc2 := 713) dL_law_712 rfl ?_
  refine l_iaload cx (pc2 := 714) (N := 64) (V := V) (n + q0) (wR_get hV) (by first | assumption | omega | exact hg.1.1 _ | exact ⟨by omega, by omega⟩) (by first | assumption | omega | exact hg.1.1 _ | exact ⟨by omega, by omega⟩) (Nat.le_of_ble_eq_true rfl) dL_law_713 rfl ?_
  refine l_rwi (y := iI (V 0)) rfl ?_
  refine l_irem cx (pc2 := 715) (by exact ⟨hir1, ⟨by omega, by omega⟩, by omega, Or.inr (by omega)⟩) dL_law_714 rfl ?_
  refine l_rwi (y := iI (ceV L xs 1 % V 0)) (by rw [trem hc1.1]) ?_
  refine l_istore cx (pc2 := 717) (lv2 := [(0, .ref b), (1, .ref (P1.2.1 0)), (3, .ref av), (5, .int (iI (V 9))), (12, .int (iI (((ceV L xs 0).toNat % 2 ^ nN V : Nat) : Int))), (13, .int (iI (ceV L xs 1 % V 0)))]) rfl (Nat.le_of_ble_eq_true rfl) dL_law_715 rfl ?_
  exact law_D2 cx sx ez ys hn q0 hV hg hcs (Nat.mod_lt _ hpp) ⟨Int.emod_nonneg _ (by omega), Int.emod_lt_of_pos _ (by omega)⟩ hM
