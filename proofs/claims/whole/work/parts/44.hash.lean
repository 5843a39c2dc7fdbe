theorem xmV_d : True := trivial
def cnF (M : Mm) (w : Int) : Int := (if w = 6 then xnt M 79 6 else 0) + (if w = 7 then xnt M 82 4 else 0)
theorem xnt_b (M : Mm) (a : Nat) : ∀ k : Nat, 0 ≤ xnt M a k ∧ xnt M a k ≤ (k : Int)
  | 0 => by simp [xnt]
  | k + 1 => by
    have h := xnt_b M a k
    rw [xnt]
    split <;> omega
theorem xnt_h (M : Mm) {a : Nat} (ha : a ≠ 77) (u : Int) : ∀ k : Nat, xnt (stM M 77 43 u) a k = xnt M a k
  | 0 => rfl
  | k + 1 => by rw [xnt, xnt, xnt_h M ha u k, stM_off ha]
theorem xcnV_h (M : Mm) (u w : Int) : xcnV (stM M 77 43 u) w = xcnV M w := by
  have e : ∀ j, j ≠ 43 → stM M 77 43 u 77 j = M 77 j := fun j hj => stM_ne _ _ (Or.inr hj)
  unfold xcnV
  rw [e 10 (by decide), e 12 (by decide), e 35 (by decide), e 37 (by decide), e 40 (by decide), xnt_h M (by decide), xnt_h M (by decide), mKx_off (stM_off (by decide)) (e 12 (by decide))]
theorem hV_h {M : Mm} (h : RV M) (u : Int) : RV (stM M 77 43 u) := h.of (stM_off (by decide)) (stM_off (by decide)) (stM_off (by decide)) (stM_ne _ _ (Or.inr (by decide))) (stM_ne _ _ (Or.inr (by decide))) (stM_ne _ _ (Or.inr (by decide)))
theorem xrow_of {M : Mm} (hQ : RQ M) {r i : Int} (hr : 0 ≤ r ∧ r < 6) (hi : 0 ≤ i ∧ i < M 79 r.toNat) : ir (rcA M r i) := by
  have z := (hQ r.toNat (by omega)).2 i.toNat (by omega)
  unfold rcA
  rw [show (60 * r + i).toNat = 60 * r.toNat + i.toNat by omega]
  exact z
theorem stM_st2 (M : Mm) (a b : Nat) (u v : Int) : stM (stM M a b u) a b v = stM M a b v := by
  funext x y
  unfold stM
  by_cases h : x = a ∧ y = b
  · rw [if_pos h, if_pos h]
  · rw [if_neg h, if_neg h, if_neg h]
theorem hQ_h {M : Mm} (h : RQ M) (u : Int) : RQ (stM M 77 43 u) := by unfold RQ; rw [stM_off (by decide), stM_off (by decide)]; exact h
theorem hT_h {M : Mm} (h : RT M) (u : Int) : RT (stM M 77 43 u) := by unfold RT; rw [stM_off (by decide), stM_off (by decide)]; exact h
theorem TNX_h {M : Mm} (h : TNX M) (u : Int) : TNX (stM M 77 43 u) := by
  have e : stM M 77 43 u 77 37 = M 77 37 := stM_ne _ _ (Or.inr (by decide))
  unfold TNX
  rw [e, stM_off (by decide), stM_off (by decide)]
  exact h
theorem TRX_h {M : Mm} (h : TRX M) (u : Int) : TRX (stM M 77 43 u) := by
  have e : stM M 77 43 u 77 40 = M 77 40 := stM_ne _ _ (Or.inr (by decide))
  unfold TRX
  rw [e, stM_off (by decide), stM_off (by decide)]
  exact h
theorem xcnV_b {M : Mm} (hV : RV M) (hT : TNX M) (hR : TRX M) (hD : 0 ≤ M 77 35 ∧ M 77 35 ≤ 16) (w : Int) (hw : 0 ≤ w ∧ w ≤ 7) : 0 ≤ xcnV M w ∧ xcnV M w ≤ 16 := by
  have h1 := hV.1
  have h2 := hT.1
  have h3 := hR.1
  have h4 := popZ_b (mKx M 1)
  have h5 := xnt_b M 79 6
  have h6 := xnt_b M 82 4
  unfold xcnV
  split
  · omega
  · split
    · omega
    · split
      · omega
      · split
        · omega
        · split
          · omega
          · split
            · omega
            · split
              · omega
              · split <;> omega
theorem xbt_of {M : Mm} (hT : RT M) {t i : Int} (ht : (0 ≤ t ∧ t < 4) ∧ 0 ≤ i ∧ i < M 82 t.toNat) : ir (btA M t i) := by
  have z := hT t.toNat (by omega)
  have z2 := z.2 i.toNat (by omega)
  unfold btA
  rw [if_pos ht.2.2, show (120 * t + i).toNat = 120 * t.toNat + i.toNat by omega]
  unfold ir
  omega
set_option maxHeartbeats 4000000 in
set_option maxRecDepth 100000 in
theorem c_X12_on {n : Nat} (hn : NN n) {M : Mm} (hV : RV M) (hQ : RQ M) (r : Int) (hr : ir r) : CT yX12_on cX12_on 6 (some .int) ({ frames := 2, cells := 0, slots := 0, locals := 42 }) n [.ref 77, .int (iI r)] M (rI (xonA M r) (xonM M r)) := by
  refine CT.of (lv0 := [(0, .ref 77), (1, .int (iI r))]) (by decide +kernel) hn (fun _ => rfl) (fun _ => Nat.le_of_ble_eq_true rfl) (fun X cx cs qx => ?_)
  have cx : Cx X cX12_on RX12 ({ frames := 2, cells := 0, slots := 0, locals := 42 }) 6 n := cx
  have hv1 := hV.1
  have hq1 := fun q : R6 r => hQ r.toNat (by omega)
  have hsq : M 77 10 ≤ 7 → 0 ≤ M 77 10 * M 77 10 ∧ M 77 10 * M 77 10 ≤ 49 := fun q => ⟨Int.mul_nonneg hv1.1.1 hv1.1.1, Int.mul_le_mul q q hv1.1.1 (by decide)⟩
  refine g_iload_n cx (pc2 := 1) 1 rfl dX12_on_0 rfl ?_
  refine g_callS cx (pc2 := 4) (st := []) (As := [.int (iI r)]) (c_X12_isRow (M := M) hn r (by first | assumption | omega)) wM_X12_isRow wS_X12_isRow kl_X12_107 ⟨rfl, rfl, Nat.le_of_ble_eq_true rfl, Nat.le_of_ble_eq_true rfl⟩ (Nat.le_of_ble_eq_true rfl) cs rfl rfl dX12_on_1 rfl ?_
  rintro _ _ ⟨rfl, rfl⟩
  refine g_ifb_ne cx (pc2 := 7) (tgt := 9) dX12_on_4 (by decide) rfl (fun h_1 => ?_) (fun h_1 => ?_)
  · skip
    refine g_aload_n cx (pc2 := 10) 0 rfl dX12_on_9 rfl ?_
    refine g_get cx (pc2 := 13) (ci := 12) (k0 := 77) (j := 10) (v := .int (iI (M 77 10))) rfl iwX12 rfl (lt_lit hn (Nat.le_of_ble_eq_true rfl)) rfl (Nat.le_of_ble_eq_true rfl) kf_X12_165 rfl rfl dX12_on_10 rfl ?_
    refine g_bipush cx (pc2 := 15) ⟨by decide, by decide⟩ dX12_on_13 rfl ?_
    refine g_icmp_le cx (pc2 := 18) (tgt := 21) ⟨(by first | assumption | omega), ⟨by decide, by decide⟩⟩ dX12_on_15 (by decide) rfl (fun h_2 => ?_) (fun h_2 => ?_)
    · skip
      have hsq2 := hsq (by omega)
      have hrr : 0 ≤ r ∧ r < 6 := by omega
      have hq2 := hq1 (by omega)
      have hGo := xoG_b (M := M) (r := r) (by omega)
      refine g_aload_n cx (pc2 := 22) 0 rfl dX12_on_21 rfl ?_
      refine g_get cx (pc2 := 25) (ci := 12) (k0 := 77) (j := 5) (v := .ref 79) rfl iwX12 rfl (lt_lit hn (Nat.le_of_ble_eq_true rfl)) rfl (Nat.le_of_ble_eq_true rfl) kf_X12_13 rfl rfl dX12_on_22 rfl ?_
      refine g_iload_n cx (pc2 := 26) 1 rfl dX12_on_25 rfl ?_
      refine g_iald cx (pc2 := 27) (k0 := 79) rfl (lt_lit hn (Nat.le_of_ble_eq_true rfl)) (by first | assumption | omega) (by first | assumption | omega) (Nat.le_of_ble_eq_true rfl) dX12_on_26 rfl ?_
      refine g_rwi (y := iI (M 79 ((r).toNat))) (congrArg iI (by simp [stM])) ?_
      refine g_if_ge cx (pc2 := 30) (tgt := 36) (by first | assumption | omega) dX12_on_27 (by decide) rfl (fun h_3 => ?_) (fun h_3 => ?_)
      · skip
        refine g_aload_n cx (pc2 := 37) 0 rfl dX12_on_36 rfl ?_
        refine g_get cx (pc2 := 40) (ci := 12) (k0 := 77) (j := 5) (v := .ref 79) rfl iwX12 rfl (lt_lit hn (Nat.le_of_ble_eq_true rfl)) rfl (Nat.le_of_ble_eq_true rfl) kf_X12_13 rfl rfl dX12_on_37 rfl ?_
        refine g_iload_n cx (pc2 := 41) 1 rfl dX12_on_40 rfl ?_
        refine g_iald cx (pc2 := 42) (k0 := 79) rfl (lt_lit hn (Nat.le_of_ble_eq_true rfl)) (by first | assumption | omega) (by first | assumption | omega) (Nat.le_of_ble_eq_true rfl) dX12_on_41 rfl ?_
        refine g_rwi (y := iI (M 79 ((r).toNat))) (congrArg iI (by simp [stM])) ?_
        refine g_aload_n cx (pc2 := 43) 0 rfl dX12_on_42 rfl ?_
        refine g_get cx (pc2 := 46) (ci := 12) (k0 := 77) (j := 10) (v := .int (iI (M 77 10))) rfl iwX12 rfl (lt_lit hn (Nat.le_of_ble_eq_true rfl)) rfl (Nat.le_of_ble_eq_true rfl) kf_X12_165 rfl rfl dX12_on_43 rfl ?_
        refine g_aload_n cx (pc2 := 47) 0 rfl dX12_on_46 rfl ?_
        refine g_get cx (pc2 := 50) (ci := 12) (k0 := 77) (j := 10) (v := .int (iI (M 77 10))) rfl iwX12 rfl (lt_lit hn (Nat.le_of_ble_eq_true rfl)) rfl (Nat.le_of_ble_eq_true rfl) kf_X12_165 rfl rfl dX12_on_47 rfl ?_
        refine g_imul cx (pc2 := 51) dX12_on_50 rfl ?_
        refine g_icmp_eq cx (pc2 := 54) (tgt := 60) ⟨(by first | assumption | omega), (by first | assumption | omega)⟩ dX12_on_51 (by decide) rfl (fun h_4 => ?_) (fun h_4 => ?_)
        · skip
          refine g_iconst cx (pc2 := 61) dX12_on_60 rfl ?_
          refine g_istore_n cx (pc2 := 62) (lv2 := [(0, .ref 77), (1, .int (iI r)), (2, .int (iI 1))]) rfl (Nat.le_of_ble_eq_true rfl) dX12_on_61 rfl ?_
          refine g_iconst cx (pc2 := 63) dX12_on_62 rfl ?_
          refine g_istore_n cx (pc2 := 64) (lv2 := [(0, .ref 77), (1, .int (iI r)), (2, .int (iI 1)), (3, .int (iI 0))]) rfl (Nat.le_of_ble_eq_true rfl) dX12_on_63 rfl ?_
          have L64 : ∀ (fu : Nat) (i : Int) (g : Int), (0 ≤ i ∧ i ≤ M 79 r.toNat) → ((g = 1 ∧ xk9 M r i.toNat = true) ∨ (g = 0 ∧ ¬ xk9 M r i.toNat = true)) → (M 79 r.toNat - i).toNat ≤ fu → G X 64 [(0, .ref 77), (1, .int (iI r)), (2, .int (iI g)), (3, .int (iI i))] [] M := by
            intro fu
            induction fu using Nat.strongRecOn with
            | _ fu ih64 =>
              intro i g hi hg hk64
              have hrv : i < M 79 r.toNat → ir (rcA M r i) := fun q => by have z := hq2.2 i.toNat (by omega); unfold rcA; rw [show (60 * r + i).toNat = 60 * r.toNat + i.toNat by omega]; exact z
              have hst : xk9 M r (i + 1).toNat = (xk9 M r i.toNat && decide (0 ≤ rcA M r i ∧ rcA M r i ≤ 9999)) := by rw [show (i + 1).toNat = i.toNat + 1 by omega, xk9, Int.toNat_of_nonneg hi.1]
              refine g_iload_n cx (pc2 := 65) 3 rfl dX12_on_64 rfl ?_
              refine g_aload_n cx (pc2 := 66) 0 rfl dX12_on_65 rfl ?_
              refine g_get cx (pc2 := 69) (ci := 12) (k0 := 77) (j := 5) (v := .ref 79) rfl iwX12 rfl (lt_lit hn (Nat.le_of_ble_eq_true rfl)) rfl (Nat.le_of_ble_eq_true rfl) kf_X12_13 rfl rfl dX12_on_66 rfl ?_
              refine g_iload_n cx (pc2 := 70) 1 rfl dX12_on_69 rfl ?_
              refine g_iald cx (pc2 := 71) (k0 := 79) rfl (lt_lit hn (Nat.le_of_ble_eq_true rfl)) (by first | assumption | omega) (by first | assumption | omega) (Nat.le_of_ble_eq_true rfl) dX12_on_70 rfl ?_
              refine g_rwi (y := iI (M 79 ((r).toNat))) (congrArg iI (by simp [stM])) ?_
              refine g_icmp_ge cx (pc2 := 74) (tgt := 106) ⟨(by first | assumption | omega), (by first | assumption | omega)⟩ dX12_on_71 (by decide) rfl (fun h_5 => ?_) (fun h_5 => ?_)
              · skip
                have hgE : (g = 1 ∧ xk9 M r (M 79 r.toNat).toNat = true) ∨ (g = 0 ∧ ¬ xk9 M r (M 79 r.toNat).toNat = true) := by rw [show M 79 r.toNat = i by omega]; exact hg
                refine g_iload_n cx (pc2 := 107) 2 rfl dX12_on_106 rfl ?_
                refine g_if_ne cx (pc2 := 110) (tgt := 116) (by first | assumption | omega) dX12_on_107 (by decide) rfl (fun h_6 => ?_) (fun h_6 => ?_)
                · skip
                  refine g_aload_n cx (pc2 := 117) 0 rfl dX12_on_116 rfl ?_
                  refine g_get cx (pc2 := 120) (ci := 12) (k0 := 77) (j := 10) (v := .int (iI (M 77 10))) rfl iwX12 rfl (lt_lit hn (Nat.le_of_ble_eq_true rfl)) rfl (Nat.le_of_ble_eq_true rfl) kf_X12_165 rfl rfl dX12_on_117 rfl ?_
                  refine g_istore_n cx (pc2 := 121) (lv2 := [(0, .ref 77), (1, .int (iI r)), (2, .int (iI g)), (3, .int (iI (M 77 10)))]) rfl (Nat.le_of_ble_eq_true rfl) dX12_on_120 rfl ?_
                  refine g_iconst cx (pc2 := 122) dX12_on_121 rfl ?_
                  refine g_istore cx (pc2 := 124) (lv2 := [(0, .ref 77), (1, .int (iI r)), (2, .int (iI g)), (3, .int (iI (M 77 10))), (4, .int (iI 0))]) rfl (Nat.le_of_ble_eq_true rfl) dX12_on_122 rfl ?_
                  have L124 : ∀ (fu : Nat) (h : Int) (p : Int) (T : Mm), (0 ≤ h ∧ h ≤ M 77 10) → (T = (xoG M r h.toNat).1) → (p = (xoG M r h.toNat).2) → (M 77 10 - h).toNat ≤ fu → G X 124 [(0, .ref 77), (1, .int (iI r)), (3, .int (iI p)), (4, .int (iI h))] [] T := by
                    intro fu
                    induction fu using Nat.strongRecOn with
                    | _ fu ih124 =>
                      intro h p T hh hT hp hk124
                      have hG := hGo h.toNat (by omega)
                      rw [← hT, ← hp] at hG
                      have t77 := hG.1 77 (by decide) (by decide)
                      have t79 := hG.1 79 (by decide) (by decide)
                      have t80 := hG.1 80 (by decide) (by decide)
                      have hst0 : h < M 77 10 → xoG M r (h + 1).toNat = xoI M (stM T 97 h.toNat (rcA M r h)) r h p (M 77 10).toNat := fun _ => by rw [show (h + 1).toNat = h.toNat + 1 by omega, xoG, Int.toNat_of_nonneg hh.1, ← hT, ← hp]
                      refine g_iload cx (pc2 := 126) 3 rfl dX12_on_124 rfl ?_
                      refine g_aload_n cx (pc2 := 127) 0 rfl dX12_on_126 rfl ?_
                      refine g_get cx (pc2 := 130) (ci := 12) (k0 := 77) (j := 10) (v := .int (iI (T 77 10))) rfl iwX12 rfl (lt_lit hn (Nat.le_of_ble_eq_true rfl)) rfl (Nat.le_of_ble_eq_true rfl) kf_X12_165 rfl rfl dX12_on_127 rfl ?_
                      refine g_rwi (y := iI (M 77 10)) (congrArg iI (by rw [t77])) ?_
                      refine g_icmp_ge cx (pc2 := 133) (tgt := 200) ⟨(by first | assumption | omega), (by first | assumption | omega)⟩ dX12_on_130 (by decide) rfl (fun h_7 => ?_) (fun h_7 => ?_)
                      · skip
                        refine g_aload_n cx (pc2 := 201) 0 rfl dX12_on_200 rfl ?_
                        refine g_iconst cx (pc2 := 202) dX12_on_201 rfl ?_
                        refine g_puti cx (pc2 := 205) (ci := 12) (k0 := 77) (j := 35) rfl iwX12 rfl (lt_lit hn (Nat.le_of_ble_eq_true rfl)) rfl (Nat.le_of_ble_eq_true rfl) kf_X12_174 rfl tyX12_ok nmX12 rfl rfl dX12_on_202 rfl ?_
                        refine g_iconst cx (pc2 := 206) dX12_on_205 rfl ?_
                        exact g_iret cx qx dX12_on_206 ⟨congrArg (fun q => some (Value.int (iI q))) (by unfold xonA; rw [if_neg (by omega), if_neg (by omega), if_neg (by omega), if_neg (by omega), if_neg (by rcases hgE with q | q; exact not_not_intro q.2; (exfalso; omega))]), by unfold xonM; rw [if_neg (by omega), if_neg (by omega), if_neg (by omega), if_neg (by omega), if_neg (by rcases hgE with q | q; exact not_not_intro q.2; (exfalso; omega)), hT, show h = M 77 10 by omega]⟩
                      · skip
                        refine g_aload_n cx (pc2 := 134) 0 rfl dX12_on_133 rfl ?_
                        refine g_get cx (pc2 := 137) (ci := 12) (k0 := 77) (j := 33) (v := .ref 97) rfl iwX12 rfl (lt_lit hn (Nat.le_of_ble_eq_true rfl)) rfl (Nat.le_of_ble_eq_true rfl) kf_X12_68 rfl rfl dX12_on_134 rfl ?_
                        refine g_iload cx (pc2 := 139) 3 rfl dX12_on_137 rfl ?_
                        refine g_aload_n cx (pc2 := 140) 0 rfl dX12_on_139 rfl ?_
                        refine g_iload_n cx (pc2 := 141) 1 rfl dX12_on_140 rfl ?_
                        refine g_iload cx (pc2 := 143) 3 rfl dX12_on_141 rfl ?_
                        refine g_callV cx (pc2 := 146) (st := [.int (iI h), .ref 97]) (As := [.int (iI r), .int (iI h)]) (k0 := 77) (ci := 12) (c_X12_rowAt (M := T) hn r h (by first | assumption | omega) (by omega)) wM_X12_rowAt wV_X12_rowAt kl_X12_115 rfl (lt_lit hn (Nat.le_of_ble_eq_true rfl)) rfl ⟨rfl, rfl, Nat.le_of_ble_eq_true rfl, Nat.le_of_ble_eq_true rfl⟩ (Nat.le_of_ble_eq_true rfl) cs rfl rfl dX12_on_143 rfl ?_
                        rintro _ _ ⟨rfl, rfl⟩
                        refine g_rwi (y := iI (rcA M r h)) (congrArg iI (by unfold rcA; rw [t80])) ?_
                        refine g_iast cx (pc2 := 147) (k0 := 97) rfl (lt_lit hn (Nat.le_of_ble_eq_true rfl)) (by first | assumption | omega) (by first | assumption | omega) (Nat.le_of_ble_eq_true rfl) dX12_on_146 rfl ?_
                        refine g_iconst cx (pc2 := 148) dX12_on_147 rfl ?_
                        refine g_istore cx (pc2 := 150) (lv2 := [(0, .ref 77), (1, .int (iI r)), (3, .int (iI p)), (4, .int (iI h)), (5, .int (iI 0))]) rfl (Nat.le_of_ble_eq_true rfl) dX12_on_148 rfl ?_
                        have L150 : ∀ (fu : Nat) (k : Int) (p2 : Int) (T2 : Mm), (0 ≤ k ∧ k ≤ M 77 10) → (T2 = (xoI M (stM T 97 h.toNat (rcA M r h)) r h p k.toNat).1) → (p2 = (xoI M (stM T 97 h.toNat (rcA M r h)) r h p k.toNat).2) → (M 77 10 - k).toNat ≤ fu → G X 150 [(0, .ref 77), (1, .int (iI r)), (3, .int (iI p2)), (4, .int (iI h)), (5, .int (iI k))] [] T2 := by
                          intro fu
                          induction fu using Nat.strongRecOn with
                          | _ fu ih150 =>
                            intro k p2 T2 hk hT2 hp2 hk150
                            have hI := xoI_b M (stM T 97 h.toNat (rcA M r h)) r h p k.toNat
                            rw [← hT2, ← hp2] at hI
                            have hI3 := hI.2.2
                            have e77 : T2 77 = M 77 := by rw [hI.1 77 (by decide), stM_off (by decide), t77]
                            have e80 : T2 80 = M 80 := by rw [hI.1 80 (by decide), stM_off (by decide), t80]
                            have hst : xoI M (stM T 97 h.toNat (rcA M r h)) r h p (k + 1).toNat = if h = k then (T2, p2) else (stM T2 98 (8 * h + k).toNat (rcA M r p2), p2 + 1) := by rw [show (k + 1).toNat = k.toNat + 1 by omega, xoI, Int.toNat_of_nonneg hk.1, hT2, hp2]
                            refine g_iload cx (pc2 := 152) 4 rfl dX12_on_150 rfl ?_
                            refine g_aload_n cx (pc2 := 153) 0 rfl dX12_on_152 rfl ?_
                            refine g_get cx (pc2 := 156) (ci := 12) (k0 := 77) (j := 10) (v := .int (iI (T2 77 10))) rfl iwX12 rfl (lt_lit hn (Nat.le_of_ble_eq_true rfl)) rfl (Nat.le_of_ble_eq_true rfl) kf_X12_165 rfl rfl dX12_on_153 rfl ?_
                            refine g_rwi (y := iI (M 77 10)) (congrArg iI (by rw [e77])) ?_
                            refine g_icmp_ge cx (pc2 := 159) (tgt := 194) ⟨(by first | assumption | omega), (by first | assumption | omega)⟩ dX12_on_156 (by decide) rfl (fun h_8 => ?_) (fun h_8 => ?_)
                            · skip
                              refine g_iinc cx (pc2 := 197) 3 rfl (lv2 := [(0, .ref 77), (1, .int (iI r)), (3, .int (iI p2)), (4, .int (iI (h + 1))), (5, .int (iI k))]) rfl (Nat.le_of_ble_eq_true rfl) dX12_on_194 rfl ?_
                              refine g_goto cx (tgt := 124) dX12_on_197 (by decide) ?_
                              refine g_sub (lv2 := [(0, .ref 77), (1, .int (iI r)), (3, .int (iI p2)), (4, .int (iI (h + 1)))]) [0, 1, 2, 3] rfl ?_
                              exact ih124 ((M 77 10 - (h + 1)).toNat) (by omega) (h + 1) p2 T2 (by first | assumption | omega) (by rw [hst0 (by omega), hT2, show k = M 77 10 by omega]) (by rw [hst0 (by omega), hp2, show k = M 77 10 by omega]) (Nat.le_refl _)
                            · skip
                              have L188 : ∀ (p3 : Int) (T3 : Mm), (T3 = (xoI M (stM T 97 h.toNat (rcA M r h)) r h p (k + 1).toNat).1) → (p3 = (xoI M (stM T 97 h.toNat (rcA M r h)) r h p (k + 1).toNat).2) → G X 188 [(0, .ref 77), (1, .int (iI r)), (3, .int (iI p3)), (4, .int (iI h)), (5, .int (iI k))] [] T3 := by
                                intro p3 T3 hT3 hp3
                                refine g_iinc cx (pc2 := 191) 4 rfl (lv2 := [(0, .ref 77), (1, .int (iI r)), (3, .int (iI p3)), (4, .int (iI h)), (5, .int (iI (k + 1)))]) rfl (Nat.le_of_ble_eq_true rfl) dX12_on_188 rfl ?_
                                refine g_goto cx (tgt := 150) dX12_on_191 (by decide) ?_
                                exact ih150 ((M 77 10 - (k + 1)).toNat) (by omega) (k + 1) p3 T3 (by first | assumption | omega) (by exact hT3) (by exact hp3) (Nat.le_refl _)
                              refine g_iload cx (pc2 := 161) 3 rfl dX12_on_159 rfl ?_
                              refine g_iload cx (pc2 := 163) 4 rfl dX12_on_161 rfl ?_
                              refine g_icmp_eq cx (pc2 := 166) (tgt := 188) ⟨(by first | assumption | omega), (by first | assumption | omega)⟩ dX12_on_163 (by decide) rfl (fun h_9 => ?_) (fun h_9 => ?_)
                              · skip
                                exact L188 p2 T2 (by rw [hst]; first | (rw [if_pos (by omega)]; done) | (rw [if_neg (by omega)]; done)) (by rw [hst]; first | (rw [if_pos (by omega)]; done) | (rw [if_neg (by omega)]; done))
                              · skip
                                refine g_aload_n cx (pc2 := 167) 0 rfl dX12_on_166 rfl ?_
                                refine g_get cx (pc2 := 170) (ci := 12) (k0 := 77) (j := 34) (v := .ref 98) rfl iwX12 rfl (lt_lit hn (Nat.le_of_ble_eq_true rfl)) rfl (Nat.le_of_ble_eq_true rfl) kf_X12_71 rfl rfl dX12_on_167 rfl ?_
                                refine g_bipush cx (pc2 := 172) ⟨by decide, by decide⟩ dX12_on_170 rfl ?_
                                refine g_iload cx (pc2 := 174) 3 rfl dX12_on_172 rfl ?_
                                refine g_imul cx (pc2 := 175) dX12_on_174 rfl ?_
                                refine g_iload cx (pc2 := 177) 4 rfl dX12_on_175 rfl ?_
                                refine g_iadd cx (pc2 := 178) dX12_on_177 rfl ?_
                                refine g_aload_n cx (pc2 := 179) 0 rfl dX12_on_178 rfl ?_
                                refine g_iload_n cx (pc2 := 180) 1 rfl dX12_on_179 rfl ?_
                                refine g_iload_n cx (pc2 := 181) 2 rfl dX12_on_180 rfl ?_
                                refine g_callV cx (pc2 := 184) (st := [.int (iI ((8 * h) + k)), .ref 98]) (As := [.int (iI r), .int (iI p2)]) (k0 := 77) (ci := 12) (c_X12_rowAt (M := T2) hn r p2 (by first | assumption | omega) (by omega)) wM_X12_rowAt wV_X12_rowAt kl_X12_115 rfl (lt_lit hn (Nat.le_of_ble_eq_true rfl)) rfl ⟨rfl, rfl, Nat.le_of_ble_eq_true rfl, Nat.le_of_ble_eq_true rfl⟩ (Nat.le_of_ble_eq_true rfl) cs rfl rfl dX12_on_181 rfl ?_
                                rintro _ _ ⟨rfl, rfl⟩
                                refine g_rwi (y := iI (rcA M r p2)) (congrArg iI (by unfold rcA; rw [e80])) ?_
                                refine g_iast cx (pc2 := 185) (k0 := 98) rfl (lt_lit hn (Nat.le_of_ble_eq_true rfl)) (by first | assumption | omega) (by first | assumption | omega) (Nat.le_of_ble_eq_true rfl) dX12_on_184 rfl ?_
                                refine g_iinc cx (pc2 := 188) 2 rfl (lv2 := [(0, .ref 77), (1, .int (iI r)), (3, .int (iI (p2 + 1))), (4, .int (iI h)), (5, .int (iI k))]) rfl (Nat.le_of_ble_eq_true rfl) dX12_on_185 rfl ?_
                                exact L188 (p2 + 1) (stM T2 98 (((8 * h) + k)).toNat (rcA M r p2)) (by rw [hst]; first | (rw [if_pos (by omega)]; done) | (rw [if_neg (by omega)]; done)) (by rw [hst]; first | (rw [if_pos (by omega)]; done) | (rw [if_neg (by omega)]; done))
                        exact L150 _ 0 p (stM T 97 (h).toNat (rcA M r h)) (by first | assumption | omega) (by rfl) (by rfl) (Nat.le_refl _)
                  refine g_sub (lv2 := [(0, .ref 77), (1, .int (iI r)), (3, .int (iI (M 77 10))), (4, .int (iI 0))]) [0, 1, 3, 4] rfl ?_
                  exact L124 _ 0 (M 77 10) M (by first | assumption | omega) (by rfl) (by rfl) (Nat.le_refl _)
                · skip
                  refine g_aload_n cx (pc2 := 111) 0 rfl dX12_on_110 rfl ?_
                  refine g_iconst cx (pc2 := 112) dX12_on_111 rfl ?_
                  refine g_callV cx (pc2 := 115) (st := []) (As := [.int (iI 3)]) (k0 := 77) (ci := 12) (c_X12_meets (M := M) hn 3 (by decide)) wM_X12_meets wV_X12_meets kl_X12_111 rfl (lt_lit hn (Nat.le_of_ble_eq_true rfl)) rfl ⟨rfl, rfl, Nat.le_of_ble_eq_true rfl, Nat.le_of_ble_eq_true rfl⟩ (Nat.le_of_ble_eq_true rfl) cs rfl rfl dX12_on_112 rfl ?_
                  rintro _ _ ⟨rfl, rfl⟩
                  exact g_iret cx qx dX12_on_115 ⟨congrArg (fun q => some (Value.int (iI q))) (by unfold xonA; rw [if_neg (by omega), if_neg (by omega), if_neg (by omega), if_neg (by omega), if_pos (by rcases hgE with q | q; (exfalso; omega); exact q.2)]), by unfold xonM; rw [if_neg (by omega), if_neg (by omega), if_neg (by omega), if_neg (by omega), if_pos (by rcases hgE with q | q; (exfalso; omega); exact q.2)]⟩
              · skip
                have L99 : ∀ (g2 : Int), ((g2 = 1 ∧ xk9 M r (i + 1).toNat = true) ∨ (g2 = 0 ∧ ¬ xk9 M r (i + 1).toNat = true)) → G X 99 [(0, .ref 77), (1, .int (iI r)), (3, .int (iI i))] [.int (iI g2)] M := by
                  intro g2 hg2
                  refine g_istore_n cx (pc2 := 100) (lv2 := [(0, .ref 77), (1, .int (iI r)), (2, .int (iI g2)), (3, .int (iI i))]) rfl (Nat.le_of_ble_eq_true rfl) dX12_on_99 rfl ?_
                  refine g_iinc cx (pc2 := 103) 3 rfl (lv2 := [(0, .ref 77), (1, .int (iI r)), (2, .int (iI g2)), (3, .int (iI (i + 1)))]) rfl (Nat.le_of_ble_eq_true rfl) dX12_on_100 rfl ?_
                  refine g_goto cx (tgt := 64) dX12_on_103 (by decide) ?_
                  exact ih64 ((M 79 r.toNat - (i + 1)).toNat) (by omega) (i + 1) g2 (by first | assumption | omega) (by exact hg2) (Nat.le_refl _)
                skip
                refine g_iload_n cx (pc2 := 75) 2 rfl dX12_on_74 rfl ?_
                refine g_if_eq cx (pc2 := 78) (tgt := 98) (by first | assumption | omega) dX12_on_75 (by decide) rfl (fun h_10 => ?_) (fun h_10 => ?_)
                · skip
                  refine g_iconst cx (pc2 := 99) dX12_on_98 rfl ?_
                  refine g_sub (lv2 := [(0, .ref 77), (1, .int (iI r)), (3, .int (iI i))]) [0, 1, 3] rfl ?_
                  exact L99 0 (by rw [hst]; rcases hg with q | q <;> first | (exfalso; omega) | exact Or.inl ⟨rfl, by rw [q.2, decide_eq_true (by assumption)]; rfl⟩ | exact Or.inr ⟨rfl, by rw [decide_eq_false (by assumption), Bool.and_false]; decide⟩ | exact Or.inr ⟨rfl, fun z => q.2 ((Bool.and_eq_true _ _).mp z).1⟩)
                · skip
                  refine g_aload_n cx (pc2 := 79) 0 rfl dX12_on_78 rfl ?_
                  refine g_iload_n cx (pc2 := 80) 1 rfl dX12_on_79 rfl ?_
                  refine g_iload_n cx (pc2 := 81) 3 rfl dX12_on_80 rfl ?_
                  refine g_callV cx (pc2 := 84) (st := []) (As := [.int (iI r), .int (iI i)]) (k0 := 77) (ci := 12) (c_X12_rowAt (M := M) hn r i (by first | assumption | omega) (by omega)) wM_X12_rowAt wV_X12_rowAt kl_X12_115 rfl (lt_lit hn (Nat.le_of_ble_eq_true rfl)) rfl ⟨rfl, rfl, Nat.le_of_ble_eq_true rfl, Nat.le_of_ble_eq_true rfl⟩ (Nat.le_of_ble_eq_true rfl) cs rfl rfl dX12_on_81 rfl ?_
                  rintro _ _ ⟨rfl, rfl⟩
                  refine g_iconst cx (pc2 := 85) dX12_on_84 rfl ?_
                  refine g_sipush cx (pc2 := 88) ⟨by decide, by decide⟩ dX12_on_85 rfl ?_
                  refine g_callS cx (pc2 := 91) (st := []) (As := [.int (iI (rcA M r i)), .int (iI 0), .int (iI 9999)]) (c_X12_in (M := M) hn (rcA M r i) 0 9999 (by first | assumption | omega) (by first | assumption | omega) (by first | assumption | omega)) wM_X12_in wS_X12_in kl_X12_97 ⟨rfl, rfl, Nat.le_of_ble_eq_true rfl, Nat.le_of_ble_eq_true rfl⟩ (Nat.le_of_ble_eq_true rfl) cs rfl rfl dX12_on_88 rfl ?_
                  rintro _ _ ⟨rfl, rfl⟩
                  refine g_ifb_eq cx (pc2 := 94) (tgt := 98) dX12_on_91 (by decide) rfl (fun h_11 => ?_) (fun h_11 => ?_)
                  · skip
                    refine g_iconst cx (pc2 := 99) dX12_on_98 rfl ?_
                    refine g_sub (lv2 := [(0, .ref 77), (1, .int (iI r)), (3, .int (iI i))]) [0, 1, 3] rfl ?_
                    exact L99 0 (by rw [hst]; rcases hg with q | q <;> first | (exfalso; omega) | exact Or.inl ⟨rfl, by rw [q.2, decide_eq_true (by assumption)]; rfl⟩ | exact Or.inr ⟨rfl, by rw [decide_eq_false (by assumption), Bool.and_false]; decide⟩ | exact Or.inr ⟨rfl, fun z => q.2 ((Bool.and_eq_true _ _).mp z).1⟩)
                  · skip
                    refine g_iconst cx (pc2 := 95) dX12_on_94 rfl ?_
                    refine g_goto cx (tgt := 99) dX12_on_95 (by decide) ?_
                    refine g_sub (lv2 := [(0, .ref 77), (1, .int (iI r)), (3, .int (iI i))]) [0, 1, 3] rfl ?_
                    exact L99 1 (by rw [hst]; rcases hg with q | q <;> first | (exfalso; omega) | exact Or.inl ⟨rfl, by rw [q.2, decide_eq_true (by assumption)]; rfl⟩ | exact Or.inr ⟨rfl, by rw [decide_eq_false (by assumption), Bool.and_false]; decide⟩ | exact Or.inr ⟨rfl, fun z => q.2 ((Bool.and_eq_true _ _).mp z).1⟩)
          exact L64 _ 0 1 (by first | assumption | omega) (by exact Or.inl ⟨rfl, rfl⟩) (Nat.le_refl _)
        · skip
          refine g_aload_n cx (pc2 := 55) 0 rfl dX12_on_54 rfl ?_
          refine g_iconst cx (pc2 := 56) dX12_on_55 rfl ?_
          refine g_callV cx (pc2 := 59) (st := []) (As := [.int (iI 5)]) (k0 := 77) (ci := 12) (c_X12_meets (M := M) hn 5 (by decide)) wM_X12_meets wV_X12_meets kl_X12_111 rfl (lt_lit hn (Nat.le_of_ble_eq_true rfl)) rfl ⟨rfl, rfl, Nat.le_of_ble_eq_true rfl, Nat.le_of_ble_eq_true rfl⟩ (Nat.le_of_ble_eq_true rfl) cs rfl rfl dX12_on_56 rfl ?_
          rintro _ _ ⟨rfl, rfl⟩
          exact g_iret cx qx dX12_on_59 ⟨congrArg (fun q => some (Value.int (iI q))) (by unfold xonA; (repeat (first | rw [if_pos (by first | assumption | omega)] | rw [if_neg (by first | assumption | exact not_not_intro (by assumption) | omega)])); first | done | rfl | (symm; assumption)), by unfold xonM; (repeat (first | rw [if_pos (by first | assumption | omega)] | rw [if_neg (by first | assumption | exact not_not_intro (by assumption) | omega)])); first | done | rfl | (symm; assumption)⟩
      · skip
        refine g_aload_n cx (pc2 := 31) 0 rfl dX12_on_30 rfl ?_
        refine g_iconst cx (pc2 := 32) dX12_on_31 rfl ?_
        refine g_callV cx (pc2 := 35) (st := []) (As := [.int (iI 1)]) (k0 := 77) (ci := 12) (c_X12_meets (M := M) hn 1 (by decide)) wM_X12_meets wV_X12_meets kl_X12_111 rfl (lt_lit hn (Nat.le_of_ble_eq_true rfl)) rfl ⟨rfl, rfl, Nat.le_of_ble_eq_true rfl, Nat.le_of_ble_eq_true rfl⟩ (Nat.le_of_ble_eq_true rfl) cs rfl rfl dX12_on_32 rfl ?_
        rintro _ _ ⟨rfl, rfl⟩
        exact g_iret cx qx dX12_on_35 ⟨congrArg (fun q => some (Value.int (iI q))) (by unfold xonA; (repeat (first | rw [if_pos (by first | assumption | omega)] | rw [if_neg (by first | assumption | exact not_not_intro (by assumption) | omega)])); first | done | rfl | (symm; assumption)), by unfold xonM; (repeat (first | rw [if_pos (by first | assumption | omega)] | rw [if_neg (by first | assumption | exact not_not_intro (by assumption) | omega)])); first | done | rfl | (symm; assumption)⟩
    · skip
      refine g_bipush cx (pc2 := 20) ⟨by decide, by decide⟩ dX12_on_18 rfl ?_
      exact g_iret cx qx dX12_on_20 ⟨congrArg (fun q => some (Value.int (iI q))) (by unfold xonA; (repeat (first | rw [if_pos (by first | assumption | omega)] | rw [if_neg (by first | assumption | exact not_not_intro (by assumption) | omega)])); first | done | rfl | (symm; assumption)), by unfold xonM; (repeat (first | rw [if_pos (by first | assumption | omega)] | rw [if_neg (by first | assumption | exact not_not_intro (by assumption) | omega)])); first | done | rfl | (symm; assumption)⟩
  · skip
    refine g_iconst cx (pc2 := 8) dX12_on_7 rfl ?_
    exact g_iret cx qx dX12_on_8 ⟨congrArg (fun q => some (Value.int (iI q))) (by unfold xonA; (repeat (first | rw [if_pos (by first | assumption | omega)] | rw [if_neg (by first | assumption | exact not_not_intro (by assumption) | omega)])); first | done | rfl | (symm; assumption)), by unfold xonM; (repeat (first | rw [if_pos (by first | assumption | omega)] | rw [if_neg (by first | assumption | exact not_not_intro (by assumption) | omega)])); first | done | rfl | (symm; assumption)⟩
set_option maxHeartbeats 4000000 in
set_option maxRecDepth 100000 in
theorem c_X12_counted {n : Nat} (hn : NN n) {M : Mm} (hV : RV M) (hQ : RQ M) (hT : RT M) (w : Int) (hw : 0 ≤ w ∧ w ≤ 7) : CT yX12_counted cX12_counted 4 (some .int) ({ frames := 3, cells := 0, slots := 0, locals := 64 }) n [.ref 77, .int (iI w)] M (rI (xcnV M w) M) := by
  refine CT.of (lv0 := [(0, .ref 77), (1, .int (iI w))]) (by decide +kernel) hn (fun _ => rfl) (fun _ => Nat.le_of_ble_eq_true rfl) (fun X cx cs qx => ?_)
  have cx : Cx X cX12_counted RX12 ({ frames := 3, cells := 0, slots := 0, locals := 64 }) 4 n := cx
  have hv1 := hV.1
  have hmu := mKx_255 hV 1
  have hq1 := fun r : Nat => hQ r
  have ht1 := fun r : Nat => hT r
  refine g_iconst cx (pc2 := 1) dX12_counted_0 rfl ?_
  refine g_istore_n cx (pc2 := 2) (lv2 := [(0, .ref 77), (1, .int (iI w)), (2, .int (iI 0))]) rfl (Nat.le_of_ble_eq_true rfl) dX12_counted_1 rfl ?_
  refine g_iconst cx (pc2 := 3) dX12_counted_2 rfl ?_
  refine g_istore_n cx (pc2 := 4) (lv2 := [(0, .ref 77), (1, .int (iI w)), (2, .int (iI 0)), (3, .int (iI 0))]) rfl (Nat.le_of_ble_eq_true rfl) dX12_counted_3 rfl ?_
  have L4 : ∀ (fu : Nat) (i : Int) (c : Int), (0 ≤ i ∧ i ≤ 6) → (c = if w = 6 then xnt M 79 i.toNat else 0) → (6 - i).toNat ≤ fu → G X 4 [(0, .ref 77), (1, .int (iI w)), (2, .int (iI c)), (3, .int (iI i))] [] M := by
    intro fu
    induction fu using Nat.strongRecOn with
    | _ fu ih4 =>
      intro i c hi hc hk4
      have hq2 := hq1 i.toNat
      have hst : xnt M 79 (i + 1).toNat = if M 79 i.toNat < 0 then xnt M 79 i.toNat else xnt M 79 i.toNat + 1 := by rw [show (i + 1).toNat = i.toNat + 1 by omega, xnt]
      refine g_iload_n cx (pc2 := 5) 3 rfl dX12_counted_4 rfl ?_
      refine g_bipush cx (pc2 := 7) ⟨by decide, by decide⟩ dX12_counted_5 rfl ?_
      refine g_icmp_ge cx (pc2 := 10) (tgt := 39) ⟨(by first | assumption | omega), ⟨by decide, by decide⟩⟩ dX12_counted_7 (by decide) rfl (fun h_1 => ?_) (fun h_1 => ?_)
      · skip
        refine g_iconst cx (pc2 := 40) dX12_counted_39 rfl ?_
        refine g_istore_n cx (pc2 := 41) (lv2 := [(0, .ref 77), (1, .int (iI w)), (2, .int (iI c)), (3, .int (iI 0))]) rfl (Nat.le_of_ble_eq_true rfl) dX12_counted_40 rfl ?_
        have L41 : ∀ (fu : Nat) (j : Int) (d : Int), (0 ≤ j ∧ j ≤ 4) → (d = (if w = 6 then xnt M 79 6 else 0) + (if w = 7 then xnt M 82 j.toNat else 0)) → (4 - j).toNat ≤ fu → G X 41 [(0, .ref 77), (1, .int (iI w)), (2, .int (iI d)), (3, .int (iI j))] [] M := by
          intro fu
          induction fu using Nat.strongRecOn with
          | _ fu ih41 =>
            intro j d hj hd hk41
            have ht2 := ht1 j.toNat
            have hst2 : xnt M 82 (j + 1).toNat = if M 82 j.toNat < 0 then xnt M 82 j.toNat else xnt M 82 j.toNat + 1 := by rw [show (j + 1).toNat = j.toNat + 1 by omega, xnt]
            refine g_iload_n cx (pc2 := 42) 3 rfl dX12_counted_41 rfl ?_
            refine g_iconst cx (pc2 := 43) dX12_counted_42 rfl ?_
            refine g_icmp_ge cx (pc2 := 46) (tgt := 75) ⟨(by first | assumption | omega), ⟨by decide, by decide⟩⟩ dX12_counted_43 (by decide) rfl (fun h_2 => ?_) (fun h_2 => ?_)
            · skip
              have hdE : d = cnF M w := by rw [hd, show j.toNat = 4 by omega]; rfl
              have hb1 := xnt_b M 79 6
              have hb2 := xnt_b M 82 4
              refine g_iload_n cx (pc2 := 76) 1 rfl dX12_counted_75 rfl ?_
              rcases (show (w < 0 ∨ 5 < w) ∨ w = 0 ∨ w = 1 ∨ w = 2 ∨ w = 3 ∨ w = 4 ∨ w = 5 from by omega) with h_3 | h_3 | h_3 | h_3 | h_3 | h_3 | h_3
              · skip
                refine g_swOut cx (tgt := 149) (by first | assumption | omega) dX12_counted_76 h_3 (by decide) ?_
                refine g_iload_n cx (pc2 := 150) 2 rfl dX12_counted_149 rfl ?_
                exact g_iret cx qx dX12_counted_150 ⟨congrArg (fun q => some (Value.int (iI q))) (by unfold xcnV; first | (rw [if_pos (by omega)]; done) | (rw [if_neg (by omega), if_pos (by omega)]; done) | (rw [if_neg (by omega), if_neg (by omega), if_pos (by omega)]; first | done | rw [Int.toNat_natCast]) | (rw [if_neg (by omega), if_neg (by omega), if_neg (by omega), if_pos (by omega)]; done) | (rw [if_neg (by omega), if_neg (by omega), if_neg (by omega), if_neg (by omega), if_pos (by omega)]; done) | (rw [if_neg (by omega), if_neg (by omega), if_neg (by omega), if_neg (by omega), if_neg (by omega), if_pos (by omega)]; done) | (rw [if_neg (by omega), if_neg (by omega), if_neg (by omega), if_neg (by omega), if_neg (by omega), if_neg (by omega), hdE]; unfold cnF; rcases (show w = 6 ∨ w = 7 by omega) with q | q <;> (subst q; simp))), by rfl⟩
              · skip
                refine g_swIn cx (tgt := 116) (by first | assumption | omega) dX12_counted_76 (by omega) (by omega) (by rw [h_3]; rfl) (by decide) ?_
                refine g_aload_n cx (pc2 := 117) 0 rfl dX12_counted_116 rfl ?_
                refine g_get cx (pc2 := 120) (ci := 12) (k0 := 77) (j := 10) (v := .int (iI (M 77 10))) rfl iwX12 rfl (lt_lit hn (Nat.le_of_ble_eq_true rfl)) rfl (Nat.le_of_ble_eq_true rfl) kf_X12_165 rfl rfl dX12_counted_117 rfl ?_
                exact g_iret cx qx dX12_counted_120 ⟨congrArg (fun q => some (Value.int (iI q))) (by unfold xcnV; first | (rw [if_pos (by omega)]; done) | (rw [if_neg (by omega), if_pos (by omega)]; done) | (rw [if_neg (by omega), if_neg (by omega), if_pos (by omega)]; first | done | rw [Int.toNat_natCast]) | (rw [if_neg (by omega), if_neg (by omega), if_neg (by omega), if_pos (by omega)]; done) | (rw [if_neg (by omega), if_neg (by omega), if_neg (by omega), if_neg (by omega), if_pos (by omega)]; done) | (rw [if_neg (by omega), if_neg (by omega), if_neg (by omega), if_neg (by omega), if_neg (by omega), if_pos (by omega)]; done) | (rw [if_neg (by omega), if_neg (by omega), if_neg (by omega), if_neg (by omega), if_neg (by omega), if_neg (by omega), hdE]; unfold cnF; rcases (show w = 6 ∨ w = 7 by omega) with q | q <;> (subst q; simp))), by rfl⟩
              · skip
                refine g_swIn cx (tgt := 121) (by first | assumption | omega) dX12_counted_76 (by omega) (by omega) (by rw [h_3]; rfl) (by decide) ?_
                refine g_aload_n cx (pc2 := 122) 0 rfl dX12_counted_121 rfl ?_
                refine g_get cx (pc2 := 125) (ci := 12) (k0 := 77) (j := 12) (v := .int (iI (M 77 12))) rfl iwX12 rfl (lt_lit hn (Nat.le_of_ble_eq_true rfl)) rfl (Nat.le_of_ble_eq_true rfl) kf_X12_168 rfl rfl dX12_counted_122 rfl ?_
                exact g_iret cx qx dX12_counted_125 ⟨congrArg (fun q => some (Value.int (iI q))) (by unfold xcnV; first | (rw [if_pos (by omega)]; done) | (rw [if_neg (by omega), if_pos (by omega)]; done) | (rw [if_neg (by omega), if_neg (by omega), if_pos (by omega)]; first | done | rw [Int.toNat_natCast]) | (rw [if_neg (by omega), if_neg (by omega), if_neg (by omega), if_pos (by omega)]; done) | (rw [if_neg (by omega), if_neg (by omega), if_neg (by omega), if_neg (by omega), if_pos (by omega)]; done) | (rw [if_neg (by omega), if_neg (by omega), if_neg (by omega), if_neg (by omega), if_neg (by omega), if_pos (by omega)]; done) | (rw [if_neg (by omega), if_neg (by omega), if_neg (by omega), if_neg (by omega), if_neg (by omega), if_neg (by omega), hdE]; unfold cnF; rcases (show w = 6 ∨ w = 7 by omega) with q | q <;> (subst q; simp))), by rfl⟩
              · skip
                refine g_swIn cx (tgt := 126) (by first | assumption | omega) dX12_counted_76 (by omega) (by omega) (by rw [h_3]; rfl) (by decide) ?_
                refine g_aload_n cx (pc2 := 127) 0 rfl dX12_counted_126 rfl ?_
                refine g_callV cx (pc2 := 130) (st := []) (As := []) (k0 := 77) (ci := 12) (c_X12_musts (M := M) hn (by exact hV)) wM_X12_musts wV_X12_musts kl_X12_249 rfl (lt_lit hn (Nat.le_of_ble_eq_true rfl)) rfl ⟨rfl, rfl, Nat.le_of_ble_eq_true rfl, Nat.le_of_ble_eq_true rfl⟩ (Nat.le_of_ble_eq_true rfl) cs rfl rfl dX12_counted_127 rfl ?_
                rintro _ _ ⟨rfl, rfl⟩
                refine g_callS cx (pc2 := 133) (st := []) (As := [.int (iI ((mKx M 1 : Nat) : Int))]) (c_X12_bits (M := M) hn ((mKx M 1 : Nat) : Int) (by omega)) wM_X12_bits wS_X12_bits kl_X12_323 ⟨rfl, rfl, Nat.le_of_ble_eq_true rfl, Nat.le_of_ble_eq_true rfl⟩ (Nat.le_of_ble_eq_true rfl) cs rfl rfl dX12_counted_130 rfl ?_
                rintro _ _ ⟨rfl, rfl⟩
                exact g_iret cx qx dX12_counted_133 ⟨congrArg (fun q => some (Value.int (iI q))) (by unfold xcnV; first | (rw [if_pos (by omega)]; done) | (rw [if_neg (by omega), if_pos (by omega)]; done) | (rw [if_neg (by omega), if_neg (by omega), if_pos (by omega)]; first | done | rw [Int.toNat_natCast]) | (rw [if_neg (by omega), if_neg (by omega), if_neg (by omega), if_pos (by omega)]; done) | (rw [if_neg (by omega), if_neg (by omega), if_neg (by omega), if_neg (by omega), if_pos (by omega)]; done) | (rw [if_neg (by omega), if_neg (by omega), if_neg (by omega), if_neg (by omega), if_neg (by omega), if_pos (by omega)]; done) | (rw [if_neg (by omega), if_neg (by omega), if_neg (by omega), if_neg (by omega), if_neg (by omega), if_neg (by omega), hdE]; unfold cnF; rcases (show w = 6 ∨ w = 7 by omega) with q | q <;> (subst q; simp))), by rfl⟩
              · skip
                refine g_swIn cx (tgt := 134) (by first | assumption | omega) dX12_counted_76 (by omega) (by omega) (by rw [h_3]; rfl) (by decide) ?_
                refine g_aload_n cx (pc2 := 135) 0 rfl dX12_counted_134 rfl ?_
                refine g_get cx (pc2 := 138) (ci := 12) (k0 := 77) (j := 35) (v := .int (iI (M 77 35))) rfl iwX12 rfl (lt_lit hn (Nat.le_of_ble_eq_true rfl)) rfl (Nat.le_of_ble_eq_true rfl) kf_X12_174 rfl rfl dX12_counted_135 rfl ?_
                exact g_iret cx qx dX12_counted_138 ⟨congrArg (fun q => some (Value.int (iI q))) (by unfold xcnV; first | (rw [if_pos (by omega)]; done) | (rw [if_neg (by omega), if_pos (by omega)]; done) | (rw [if_neg (by omega), if_neg (by omega), if_pos (by omega)]; first | done | rw [Int.toNat_natCast]) | (rw [if_neg (by omega), if_neg (by omega), if_neg (by omega), if_pos (by omega)]; done) | (rw [if_neg (by omega), if_neg (by omega), if_neg (by omega), if_neg (by omega), if_pos (by omega)]; done) | (rw [if_neg (by omega), if_neg (by omega), if_neg (by omega), if_neg (by omega), if_neg (by omega), if_pos (by omega)]; done) | (rw [if_neg (by omega), if_neg (by omega), if_neg (by omega), if_neg (by omega), if_neg (by omega), if_neg (by omega), hdE]; unfold cnF; rcases (show w = 6 ∨ w = 7 by omega) with q | q <;> (subst q; simp))), by rfl⟩
              · skip
                refine g_swIn cx (tgt := 139) (by first | assumption | omega) dX12_counted_76 (by omega) (by omega) (by rw [h_3]; rfl) (by decide) ?_
                refine g_aload_n cx (pc2 := 140) 0 rfl dX12_counted_139 rfl ?_
                refine g_get cx (pc2 := 143) (ci := 12) (k0 := 77) (j := 37) (v := .int (iI (M 77 37))) rfl iwX12 rfl (lt_lit hn (Nat.le_of_ble_eq_true rfl)) rfl (Nat.le_of_ble_eq_true rfl) kf_X12_177 rfl rfl dX12_counted_140 rfl ?_
                exact g_iret cx qx dX12_counted_143 ⟨congrArg (fun q => some (Value.int (iI q))) (by unfold xcnV; first | (rw [if_pos (by omega)]; done) | (rw [if_neg (by omega), if_pos (by omega)]; done) | (rw [if_neg (by omega), if_neg (by omega), if_pos (by omega)]; first | done | rw [Int.toNat_natCast]) | (rw [if_neg (by omega), if_neg (by omega), if_neg (by omega), if_pos (by omega)]; done) | (rw [if_neg (by omega), if_neg (by omega), if_neg (by omega), if_neg (by omega), if_pos (by omega)]; done) | (rw [if_neg (by omega), if_neg (by omega), if_neg (by omega), if_neg (by omega), if_neg (by omega), if_pos (by omega)]; done) | (rw [if_neg (by omega), if_neg (by omega), if_neg (by omega), if_neg (by omega), if_neg (by omega), if_neg (by omega), hdE]; unfold cnF; rcases (show w = 6 ∨ w = 7 by omega) with q | q <;> (subst q; simp))), by rfl⟩
              · skip
                refine g_swIn cx (tgt := 144) (by first | assumption | omega) dX12_counted_76 (by omega) (by omega) (by rw [h_3]; rfl) (by decide) ?_
                refine g_aload_n cx (pc2 := 145) 0 rfl dX12_counted_144 rfl ?_
                refine g_get cx (pc2 := 148) (ci := 12) (k0 := 77) (j := 40) (v := .int (iI (M 77 40))) rfl iwX12 rfl (lt_lit hn (Nat.le_of_ble_eq_true rfl)) rfl (Nat.le_of_ble_eq_true rfl) kf_X12_180 rfl rfl dX12_counted_145 rfl ?_
                exact g_iret cx qx dX12_counted_148 ⟨congrArg (fun q => some (Value.int (iI q))) (by unfold xcnV; first | (rw [if_pos (by omega)]; done) | (rw [if_neg (by omega), if_pos (by omega)]; done) | (rw [if_neg (by omega), if_neg (by omega), if_pos (by omega)]; first | done | rw [Int.toNat_natCast]) | (rw [if_neg (by omega), if_neg (by omega), if_neg (by omega), if_pos (by omega)]; done) | (rw [if_neg (by omega), if_neg (by omega), if_neg (by omega), if_neg (by omega), if_pos (by omega)]; done) | (rw [if_neg (by omega), if_neg (by omega), if_neg (by omega), if_neg (by omega), if_neg (by omega), if_pos (by omega)]; done) | (rw [if_neg (by omega), if_neg (by omega), if_neg (by omega), if_neg (by omega), if_neg (by omega), if_neg (by omega), hdE]; unfold cnF; rcases (show w = 6 ∨ w = 7 by omega) with q | q <;> (subst q; simp))), by rfl⟩
            · skip
              have L67 : ∀ (x : Int), (d + x = (if w = 6 then xnt M 79 6 else 0) + (if w = 7 then xnt M 82 (j + 1).toNat else 0)) → G X 67 [(0, .ref 77), (1, .int (iI w)), (3, .int (iI j))] [.int (iI x), .int (iI d)] M := by
                intro x hx
                refine g_iadd cx (pc2 := 68) dX12_counted_67 rfl ?_
                refine g_istore_n cx (pc2 := 69) (lv2 := [(0, .ref 77), (1, .int (iI w)), (2, .int (iI (d + x))), (3, .int (iI j))]) rfl (Nat.le_of_ble_eq_true rfl) dX12_counted_68 rfl ?_
                refine g_iinc cx (pc2 := 72) 3 rfl (lv2 := [(0, .ref 77), (1, .int (iI w)), (2, .int (iI (d + x))), (3, .int (iI (j + 1)))]) rfl (Nat.le_of_ble_eq_true rfl) dX12_counted_69 rfl ?_
                refine g_goto cx (tgt := 41) dX12_counted_72 (by decide) ?_
                exact ih41 ((4 - (j + 1)).toNat) (by omega) (j + 1) (d + x) (by first | assumption | omega) (by exact hx) (Nat.le_refl _)
              refine g_iload_n cx (pc2 := 47) 2 rfl dX12_counted_46 rfl ?_
              refine g_iload_n cx (pc2 := 48) 1 rfl dX12_counted_47 rfl ?_
              refine g_bipush cx (pc2 := 50) ⟨by decide, by decide⟩ dX12_counted_48 rfl ?_
              refine g_icmp_ne cx (pc2 := 53) (tgt := 66) ⟨(by first | assumption | omega), ⟨by decide, by decide⟩⟩ dX12_counted_50 (by decide) rfl (fun h_4 => ?_) (fun h_4 => ?_)
              · skip
                refine g_iconst cx (pc2 := 67) dX12_counted_66 rfl ?_
                refine g_sub (lv2 := [(0, .ref 77), (1, .int (iI w)), (3, .int (iI j))]) [0, 1, 3] rfl ?_
                exact L67 0 (by rw [hd, hst2]; first | (rw [if_pos (by omega : w = 7), if_pos (by omega : w = 7)]; first | (rw [if_pos (by omega : M 82 j.toNat < 0)]; omega) | (rw [if_neg (by omega : ¬ M 82 j.toNat < 0)]; omega)) | (rw [if_neg (by omega : ¬ w = 7), if_neg (by omega : ¬ w = 7)]; omega))
              · skip
                have ht3 := ht2 (by omega)
                refine g_aload_n cx (pc2 := 54) 0 rfl dX12_counted_53 rfl ?_
                refine g_get cx (pc2 := 57) (ci := 12) (k0 := 77) (j := 8) (v := .ref 82) rfl iwX12 rfl (lt_lit hn (Nat.le_of_ble_eq_true rfl)) rfl (Nat.le_of_ble_eq_true rfl) kf_X12_22 rfl rfl dX12_counted_54 rfl ?_
                refine g_iload_n cx (pc2 := 58) 3 rfl dX12_counted_57 rfl ?_
                refine g_iald cx (pc2 := 59) (k0 := 82) rfl (lt_lit hn (Nat.le_of_ble_eq_true rfl)) (by first | assumption | omega) (by first | assumption | omega) (Nat.le_of_ble_eq_true rfl) dX12_counted_58 rfl ?_
                refine g_rwi (y := iI (M 82 ((j).toNat))) (congrArg iI (by simp [stM])) ?_
                refine g_if_lt cx (pc2 := 62) (tgt := 66) (by first | assumption | omega) dX12_counted_59 (by decide) rfl (fun h_5 => ?_) (fun h_5 => ?_)
                · skip
                  refine g_iconst cx (pc2 := 67) dX12_counted_66 rfl ?_
                  refine g_sub (lv2 := [(0, .ref 77), (1, .int (iI w)), (3, .int (iI j))]) [0, 1, 3] rfl ?_
                  exact L67 0 (by rw [hd, hst2]; first | (rw [if_pos (by omega : w = 7), if_pos (by omega : w = 7)]; first | (rw [if_pos (by omega : M 82 j.toNat < 0)]; omega) | (rw [if_neg (by omega : ¬ M 82 j.toNat < 0)]; omega)) | (rw [if_neg (by omega : ¬ w = 7), if_neg (by omega : ¬ w = 7)]; omega))
                · skip
                  refine g_iconst cx (pc2 := 63) dX12_counted_62 rfl ?_
                  refine g_goto cx (tgt := 67) dX12_counted_63 (by decide) ?_
                  refine g_sub (lv2 := [(0, .ref 77), (1, .int (iI w)), (3, .int (iI j))]) [0, 1, 3] rfl ?_
                  exact L67 1 (by rw [hd, hst2]; first | (rw [if_pos (by omega : w = 7), if_pos (by omega : w = 7)]; first | (rw [if_pos (by omega : M 82 j.toNat < 0)]; omega) | (rw [if_neg (by omega : ¬ M 82 j.toNat < 0)]; omega)) | (rw [if_neg (by omega : ¬ w = 7), if_neg (by omega : ¬ w = 7)]; omega))
        exact L41 _ 0 c (by first | assumption | omega) (by rw [hc, show i.toNat = 6 by omega]; by_cases q : w = 7; (rw [if_pos q]; show _ = _ + (0 : Int); omega); (rw [if_neg q]; omega)) (Nat.le_refl _)
      · skip
        have L31 : ∀ (x : Int), (c + x = if w = 6 then xnt M 79 (i + 1).toNat else 0) → G X 31 [(0, .ref 77), (1, .int (iI w)), (3, .int (iI i))] [.int (iI x), .int (iI c)] M := by
          intro x hx
          refine g_iadd cx (pc2 := 32) dX12_counted_31 rfl ?_
          refine g_istore_n cx (pc2 := 33) (lv2 := [(0, .ref 77), (1, .int (iI w)), (2, .int (iI (c + x))), (3, .int (iI i))]) rfl (Nat.le_of_ble_eq_true rfl) dX12_counted_32 rfl ?_
          refine g_iinc cx (pc2 := 36) 3 rfl (lv2 := [(0, .ref 77), (1, .int (iI w)), (2, .int (iI (c + x))), (3, .int (iI (i + 1)))]) rfl (Nat.le_of_ble_eq_true rfl) dX12_counted_33 rfl ?_
          refine g_goto cx (tgt := 4) dX12_counted_36 (by decide) ?_
          exact ih4 ((6 - (i + 1)).toNat) (by omega) (i + 1) (c + x) (by first | assumption | omega) (by exact hx) (Nat.le_refl _)
        skip
        refine g_iload_n cx (pc2 := 11) 2 rfl dX12_counted_10 rfl ?_
        refine g_iload_n cx (pc2 := 12) 1 rfl dX12_counted_11 rfl ?_
        refine g_bipush cx (pc2 := 14) ⟨by decide, by decide⟩ dX12_counted_12 rfl ?_
        refine g_icmp_ne cx (pc2 := 17) (tgt := 30) ⟨(by first | assumption | omega), ⟨by decide, by decide⟩⟩ dX12_counted_14 (by decide) rfl (fun h_6 => ?_) (fun h_6 => ?_)
        · skip
          refine g_iconst cx (pc2 := 31) dX12_counted_30 rfl ?_
          refine g_sub (lv2 := [(0, .ref 77), (1, .int (iI w)), (3, .int (iI i))]) [0, 1, 3] rfl ?_
          exact L31 0 (by rw [hc, hst]; first | (rw [if_pos (by omega : w = 6), if_pos (by omega : w = 6)]; first | (rw [if_pos (by omega)]; omega) | (rw [if_neg (by omega)]; done)) | (rw [if_neg (by omega : ¬ w = 6), if_neg (by omega : ¬ w = 6)]; rfl))
        · skip
          have hq3 := hq2 (by omega)
          refine g_aload_n cx (pc2 := 18) 0 rfl dX12_counted_17 rfl ?_
          refine g_get cx (pc2 := 21) (ci := 12) (k0 := 77) (j := 5) (v := .ref 79) rfl iwX12 rfl (lt_lit hn (Nat.le_of_ble_eq_true rfl)) rfl (Nat.le_of_ble_eq_true rfl) kf_X12_13 rfl rfl dX12_counted_18 rfl ?_
          refine g_iload_n cx (pc2 := 22) 3 rfl dX12_counted_21 rfl ?_
          refine g_iald cx (pc2 := 23) (k0 := 79) rfl (lt_lit hn (Nat.le_of_ble_eq_true rfl)) (by first | assumption | omega) (by first | assumption | omega) (Nat.le_of_ble_eq_true rfl) dX12_counted_22 rfl ?_
          refine g_rwi (y := iI (M 79 ((i).toNat))) (congrArg iI (by simp [stM])) ?_
          refine g_if_lt cx (pc2 := 26) (tgt := 30) (by first | assumption | omega) dX12_counted_23 (by decide) rfl (fun h_7 => ?_) (fun h_7 => ?_)
          · skip
            refine g_iconst cx (pc2 := 31) dX12_counted_30 rfl ?_
            refine g_sub (lv2 := [(0, .ref 77), (1, .int (iI w)), (3, .int (iI i))]) [0, 1, 3] rfl ?_
            exact L31 0 (by rw [hc, hst]; first | (rw [if_pos (by omega : w = 6), if_pos (by omega : w = 6)]; first | (rw [if_pos (by omega)]; omega) | (rw [if_neg (by omega)]; done)) | (rw [if_neg (by omega : ¬ w = 6), if_neg (by omega : ¬ w = 6)]; rfl))
          · skip
            refine g_iconst cx (pc2 := 27) dX12_counted_26 rfl ?_
            refine g_goto cx (tgt := 31) dX12_counted_27 (by decide) ?_
            refine g_sub (lv2 := [(0, .ref 77), (1, .int (iI w)), (3, .int (iI i))]) [0, 1, 3] rfl ?_
            exact L31 1 (by rw [hc, hst]; first | (rw [if_pos (by omega : w = 6), if_pos (by omega : w = 6)]; first | (rw [if_pos (by omega)]; omega) | (rw [if_neg (by omega)]; done)) | (rw [if_neg (by omega : ¬ w = 6), if_neg (by omega : ¬ w = 6)]; rfl))
  exact L4 _ 0 0 (by first | assumption | omega) (by split <;> rfl) (Nat.le_refl _)
set_option maxHeartbeats 4000000 in
set_option maxRecDepth 100000 in
theorem c_X12_count {n : Nat} (hn : NN n) {M : Mm} (hV : RV M) (hQ : RQ M) (hT : RT M) (w : Int) (hw : ir w) : CT yX12_count cX12_count 2 (some .int) ({ frames := 4, cells := 0, slots := 0, locals := 87 }) n [.ref 77, .int (iI w)] M (rI (xctA M w) M) := by
  refine CT.of (lv0 := [(0, .ref 77), (1, .int (iI w))]) (by decide +kernel) hn (fun _ => rfl) (fun _ => Nat.le_of_ble_eq_true rfl) (fun X cx cs qx => ?_)
  have cx : Cx X cX12_count RX12 ({ frames := 4, cells := 0, slots := 0, locals := 87 }) 2 n := cx
  have hv1 := hV.1
  refine g_iload_n cx (pc2 := 1) 1 rfl dX12_count_0 rfl ?_
  refine g_iconst cx (pc2 := 2) dX12_count_1 rfl ?_
  refine g_bipush cx (pc2 := 4) ⟨by decide, by decide⟩ dX12_count_2 rfl ?_
  refine g_callS cx (pc2 := 7) (st := []) (As := [.int (iI w), .int (iI 0), .int (iI 7)]) (c_X12_in (M := M) hn w 0 7 (by first | assumption | omega) (by first | assumption | omega) (by first | assumption | omega)) wM_X12_in wS_X12_in kl_X12_97 ⟨rfl, rfl, Nat.le_of_ble_eq_true rfl, Nat.le_of_ble_eq_true rfl⟩ (Nat.le_of_ble_eq_true rfl) cs rfl rfl dX12_count_4 rfl ?_
  rintro _ _ ⟨rfl, rfl⟩
  refine g_ifb_eq cx (pc2 := 10) (tgt := 18) dX12_count_7 (by decide) rfl (fun h_1 => ?_) (fun h_1 => ?_)
  · skip
    refine g_iconst cx (pc2 := 19) dX12_count_18 rfl ?_
    exact g_iret cx qx dX12_count_19 ⟨congrArg (fun q => some (Value.int (iI q))) (by unfold xctA; (repeat (first | rw [if_pos (by first | assumption | omega)] | rw [if_neg (by first | assumption | exact not_not_intro (by assumption) | omega)])); first | done | rfl | (symm; assumption)), by rfl⟩
  · skip
    refine g_aload_n cx (pc2 := 11) 0 rfl dX12_count_10 rfl ?_
    refine g_iload_n cx (pc2 := 12) 1 rfl dX12_count_11 rfl ?_
    refine g_callV cx (pc2 := 15) (st := []) (As := [.int (iI w)]) (k0 := 77) (ci := 12) (c_X12_counted (M := M) hn (by exact hV) (by exact hQ) (by exact hT) w (by omega)) wM_X12_counted wV_X12_counted kl_X12_326 rfl (lt_lit hn (Nat.le_of_ble_eq_true rfl)) rfl ⟨rfl, rfl, Nat.le_of_ble_eq_true rfl, Nat.le_of_ble_eq_true rfl⟩ (Nat.le_of_ble_eq_true rfl) cs rfl rfl dX12_count_12 rfl ?_
    rintro _ _ ⟨rfl, rfl⟩
    refine g_goto cx (tgt := 19) dX12_count_15 (by decide) ?_
    exact g_iret cx qx dX12_count_19 ⟨congrArg (fun q => some (Value.int (iI q))) (by unfold xctA; (repeat (first | rw [if_pos (by first | assumption | omega)] | rw [if_neg (by first | assumption | exact not_not_intro (by assumption) | omega)])); first | done | rfl | (symm; assumption)), by rfl⟩
set_option maxHeartbeats 4000000 in
set_option maxRecDepth 100000 in
theorem c_X12_mix {n : Nat} (hn : NN n) {M : Mm} (x : Int) : CT yX12_mix cX12_mix 3 none ({ frames := 0, cells := 0, slots := 0, locals := 0 }) n [.ref 77, .long (lI x)] M (rV (stM M 77 43 (31 * M 77 43 + x))) := by
  refine CT.of (lv0 := [(0, .ref 77), (1, .long (lI x))]) (by decide +kernel) hn (fun _ => rfl) (fun _ => Nat.le_of_ble_eq_true rfl) (fun X cx cs qx => ?_)
  have cx : Cx X cX12_mix RX12 ({ frames := 0, cells := 0, slots := 0, locals := 0 }) 3 n := cx
  refine g_aload_n cx (pc2 := 1) 0 rfl dX12_mix_0 rfl ?_
  refine g_ldc2 cx (pc2 := 4) kk_X12_329 dX12_mix_1 rfl ?_
  refine g_aload_n cx (pc2 := 5) 0 rfl dX12_mix_4 rfl ?_
  refine g_get cx (pc2 := 8) (ci := 12) (k0 := 77) (j := 43) (v := .long (lI (M 77 43))) rfl iwX12 rfl (lt_lit hn (Nat.le_of_ble_eq_true rfl)) rfl (Nat.le_of_ble_eq_true rfl) kf_X12_331 rfl rfl dX12_mix_5 rfl ?_
  refine g_lmul cx (pc2 := 9) dX12_mix_8 rfl ?_
  refine g_lload_n cx (pc2 := 10) 1 rfl dX12_mix_9 rfl ?_
  refine g_ladd cx (pc2 := 11) dX12_mix_10 rfl ?_
  refine g_putl cx (pc2 := 14) (ci := 12) (k0 := 77) (j := 43) rfl iwX12 rfl (lt_lit hn (Nat.le_of_ble_eq_true rfl)) rfl (Nat.le_of_ble_eq_true rfl) kf_X12_331 rfl tyX12_ok nmX12 rfl rfl dX12_mix_11 rfl ?_
  exact g_vret cx qx dX12_mix_14 ⟨rfl, by rfl⟩
set_option maxHeartbeats 4000000 in
set_option maxRecDepth 100000 in
theorem c_X12_mixVillage {n : Nat} (hn : NN n) {M : Mm} (hV : RV M) (hT : TNX M) (hR : TRX M) : CT yX12_mixVillage cX12_mixVillage 3 none ({ frames := 1, cells := 0, slots := 0, locals := 22 }) n [.ref 77] M (rV (stM M 77 43 (xmV M (M 77 43)))) := by
  refine CT.of (lv0 := [(0, .ref 77)]) (by decide +kernel) hn (fun _ => rfl) (fun _ => Nat.le_of_ble_eq_true rfl) (fun X cx cs qx => ?_)
  have cx : Cx X cX12_mixVillage RX12 ({ frames := 1, cells := 0, slots := 0, locals := 22 }) 3 n := cx
  have hv1 := hV.1
  have ht0 := hT.1
  have hr0 := hR.1
  refine g_aload_n cx (pc2 := 1) 0 rfl dX12_mixVillage_0 rfl ?_
  refine g_aload_n cx (pc2 := 2) 0 rfl dX12_mixVillage_1 rfl ?_
  refine g_get cx (pc2 := 5) (ci := 12) (k0 := 77) (j := 15) (v := .int (iI (M 77 15))) rfl iwX12 rfl (lt_lit hn (Nat.le_of_ble_eq_true rfl)) rfl (Nat.le_of_ble_eq_true rfl) kf_X12_171 rfl rfl dX12_mixVillage_2 rfl ?_
  refine g_i2l cx (pc2 := 6) (by first | assumption | omega) dX12_mixVillage_5 rfl ?_
  refine g_callV cx (pc2 := 9) (st := []) (As := [.long (lI (M 77 15))]) (k0 := 77) (ci := 12) (c_X12_mix (M := M) hn (M 77 15)) wM_X12_mix wV_X12_mix kl_X12_334 rfl (lt_lit hn (Nat.le_of_ble_eq_true rfl)) rfl ⟨rfl, rfl, Nat.le_of_ble_eq_true rfl, Nat.le_of_ble_eq_true rfl⟩ (Nat.le_of_ble_eq_true rfl) cs rfl rfl dX12_mixVillage_6 rfl ?_
  rintro _ _ ⟨rfl, rfl⟩
  refine g_iconst cx (pc2 := 10) dX12_mixVillage_9 rfl ?_
  refine g_istore_n cx (pc2 := 11) (lv2 := [(0, .ref 77), (1, .int (iI 0))]) rfl (Nat.le_of_ble_eq_true rfl) dX12_mixVillage_10 rfl ?_
  have L11 : ∀ (fu : Nat) (h : Int) (t : Int), (0 ≤ h ∧ h ≤ M 77 10) → (t = xmH M (31 * M 77 43 + M 77 15) h.toNat) → (M 77 10 - h).toNat ≤ fu → G X 11 [(0, .ref 77), (1, .int (iI h))] [] (stM M 77 43 t) := by
    intro fu
    induction fu using Nat.strongRecOn with
    | _ fu ih11 =>
      intro h t hh ht hk11
      have hpl := hV.2.1 h.toNat
      have hw1 := ir_wr (M 97 h.toNat)
      have hst : xmH M (31 * M 77 43 + M 77 15) (h + 1).toNat = xmO M h (31 * (31 * t + M 84 h.toNat) + wr (M 97 h.toNat)) (M 77 10).toNat := by rw [show (h + 1).toNat = h.toNat + 1 by omega, xmH, ← ht, Int.toNat_of_nonneg hh.1]
      refine g_iload_n cx (pc2 := 12) 1 rfl dX12_mixVillage_11 rfl ?_
      refine g_aload_n cx (pc2 := 13) 0 rfl dX12_mixVillage_12 rfl ?_
      refine g_get cx (pc2 := 16) (ci := 12) (k0 := 77) (j := 10) (v := .int (iI (M 77 10))) rfl iwX12 rfl (lt_lit hn (Nat.le_of_ble_eq_true rfl)) rfl (Nat.le_of_ble_eq_true rfl) kf_X12_165 rfl (congrArg (fun q => Value.int (iI q)) (by simp [stM])) dX12_mixVillage_13 rfl ?_
      refine g_icmp_ge cx (pc2 := 19) (tgt := 84) ⟨(by first | assumption | omega), (by first | assumption | omega)⟩ dX12_mixVillage_16 (by decide) rfl (fun h_1 => ?_) (fun h_1 => ?_)
      · skip
        refine g_iconst cx (pc2 := 85) dX12_mixVillage_84 rfl ?_
        refine g_istore_n cx (pc2 := 86) (lv2 := [(0, .ref 77), (1, .int (iI 0))]) rfl (Nat.le_of_ble_eq_true rfl) dX12_mixVillage_85 rfl ?_
        have L86 : ∀ (fu : Nat) (i : Int) (t : Int), (0 ≤ i ∧ i ≤ M 77 12) → (t = xmN M (xmH M (31 * M 77 43 + M 77 15) (M 77 10).toNat) i.toNat) → (M 77 12 - i).toNat ≤ fu → G X 86 [(0, .ref 77), (1, .int (iI i))] [] (stM M 77 43 t) := by
          intro fu
          induction fu using Nat.strongRecOn with
          | _ fu ih86 =>
            intro i t hi ht hk86
            have h86 := hV.2.2.2 i.toNat
            have hnb := nA_b hV (i := i)
            have hst : xmN M (xmH M (31 * M 77 43 + M 77 15) (M 77 10).toNat) (i + 1).toNat = 31 * mxF (fun w => nA M i (w : Int)) t 6 + M 86 i.toNat := by rw [show (i + 1).toNat = i.toNat + 1 by omega, xmN, ← ht, Int.toNat_of_nonneg hi.1]
            refine g_iload_n cx (pc2 := 87) 1 rfl dX12_mixVillage_86 rfl ?_
            refine g_aload_n cx (pc2 := 88) 0 rfl dX12_mixVillage_87 rfl ?_
            refine g_get cx (pc2 := 91) (ci := 12) (k0 := 77) (j := 12) (v := .int (iI (M 77 12))) rfl iwX12 rfl (lt_lit hn (Nat.le_of_ble_eq_true rfl)) rfl (Nat.le_of_ble_eq_true rfl) kf_X12_168 rfl (congrArg (fun q => Value.int (iI q)) (by simp [stM])) dX12_mixVillage_88 rfl ?_
            refine g_icmp_ge cx (pc2 := 94) (tgt := 136) ⟨(by first | assumption | omega), (by first | assumption | omega)⟩ dX12_mixVillage_91 (by decide) rfl (fun h_2 => ?_) (fun h_2 => ?_)
            · skip
              refine g_iconst cx (pc2 := 137) dX12_mixVillage_136 rfl ?_
              refine g_istore_n cx (pc2 := 138) (lv2 := [(0, .ref 77), (1, .int (iI 0))]) rfl (Nat.le_of_ble_eq_true rfl) dX12_mixVillage_137 rfl ?_
              have L138 : ∀ (fu : Nat) (j : Int) (t : Int), (0 ≤ j ∧ j ≤ M 77 37) → (t = xmP M 100 101 (xmN M (xmH M (31 * M 77 43 + M 77 15) (M 77 10).toNat) (M 77 12).toNat) j.toNat) → (M 77 37 - j).toNat ≤ fu → G X 138 [(0, .ref 77), (1, .int (iI j))] [] (stM M 77 43 t) := by
                intro fu
                induction fu using Nat.strongRecOn with
                | _ fu ih138 =>
                  intro j t hj ht hk138
                  have htj := hT.2 j.toNat
                  have hst : xmP M 100 101 (xmN M (xmH M (31 * M 77 43 + M 77 15) (M 77 10).toNat) (M 77 12).toNat) (j + 1).toNat = 31 * (31 * t + M 100 j.toNat) + M 101 j.toNat := by rw [show (j + 1).toNat = j.toNat + 1 by omega, xmP, ← ht]
                  refine g_iload_n cx (pc2 := 139) 1 rfl dX12_mixVillage_138 rfl ?_
                  refine g_aload_n cx (pc2 := 140) 0 rfl dX12_mixVillage_139 rfl ?_
                  refine g_get cx (pc2 := 143) (ci := 12) (k0 := 77) (j := 37) (v := .int (iI (M 77 37))) rfl iwX12 rfl (lt_lit hn (Nat.le_of_ble_eq_true rfl)) rfl (Nat.le_of_ble_eq_true rfl) kf_X12_177 rfl (congrArg (fun q => Value.int (iI q)) (by simp [stM])) dX12_mixVillage_140 rfl ?_
                  refine g_icmp_ge cx (pc2 := 146) (tgt := 174) ⟨(by first | assumption | omega), (by first | assumption | omega)⟩ dX12_mixVillage_143 (by decide) rfl (fun h_3 => ?_) (fun h_3 => ?_)
                  · skip
                    refine g_iconst cx (pc2 := 175) dX12_mixVillage_174 rfl ?_
                    refine g_istore_n cx (pc2 := 176) (lv2 := [(0, .ref 77), (1, .int (iI 0))]) rfl (Nat.le_of_ble_eq_true rfl) dX12_mixVillage_175 rfl ?_
                    have L176 : ∀ (fu : Nat) (j : Int) (t : Int), (0 ≤ j ∧ j ≤ M 77 40) → (t = xmP M 102 103 (xmP M 100 101 (xmN M (xmH M (31 * M 77 43 + M 77 15) (M 77 10).toNat) (M 77 12).toNat) (M 77 37).toNat) j.toNat) → (M 77 40 - j).toNat ≤ fu → G X 176 [(0, .ref 77), (1, .int (iI j))] [] (stM M 77 43 t) := by
                      intro fu
                      induction fu using Nat.strongRecOn with
                      | _ fu ih176 =>
                        intro j t hj ht hk176
                        have htj := hR.2 j.toNat
                        have hst : xmP M 102 103 (xmP M 100 101 (xmN M (xmH M (31 * M 77 43 + M 77 15) (M 77 10).toNat) (M 77 12).toNat) (M 77 37).toNat) (j + 1).toNat = 31 * (31 * t + M 102 j.toNat) + M 103 j.toNat := by rw [show (j + 1).toNat = j.toNat + 1 by omega, xmP, ← ht]
                        refine g_iload_n cx (pc2 := 177) 1 rfl dX12_mixVillage_176 rfl ?_
                        refine g_aload_n cx (pc2 := 178) 0 rfl dX12_mixVillage_177 rfl ?_
                        refine g_get cx (pc2 := 181) (ci := 12) (k0 := 77) (j := 40) (v := .int (iI (M 77 40))) rfl iwX12 rfl (lt_lit hn (Nat.le_of_ble_eq_true rfl)) rfl (Nat.le_of_ble_eq_true rfl) kf_X12_180 rfl (congrArg (fun q => Value.int (iI q)) (by simp [stM])) dX12_mixVillage_178 rfl ?_
                        refine g_icmp_ge cx (pc2 := 184) (tgt := 212) ⟨(by first | assumption | omega), (by first | assumption | omega)⟩ dX12_mixVillage_181 (by decide) rfl (fun h_4 => ?_) (fun h_4 => ?_)
                        · skip
                          exact g_vret cx qx dX12_mixVillage_212 ⟨rfl, by rw [ht, show j = M 77 40 by omega]; rfl⟩
                        · skip
                          have htj2 := htj (by omega)
                          refine g_aload_n cx (pc2 := 185) 0 rfl dX12_mixVillage_184 rfl ?_
                          refine g_aload_n cx (pc2 := 186) 0 rfl dX12_mixVillage_185 rfl ?_
                          refine g_get cx (pc2 := 189) (ci := 12) (k0 := 77) (j := 41) (v := .ref 102) rfl iwX12 rfl (lt_lit hn (Nat.le_of_ble_eq_true rfl)) rfl (Nat.le_of_ble_eq_true rfl) kf_X12_83 rfl rfl dX12_mixVillage_186 rfl ?_
                          refine g_iload_n cx (pc2 := 190) 1 rfl dX12_mixVillage_189 rfl ?_
                          refine g_iald cx (pc2 := 191) (k0 := 102) rfl (lt_lit hn (Nat.le_of_ble_eq_true rfl)) (by first | assumption | omega) (by first | assumption | omega) (Nat.le_of_ble_eq_true rfl) dX12_mixVillage_190 rfl ?_
                          refine g_rwi (y := iI (M 102 ((j).toNat))) (congrArg iI (by simp [stM])) ?_
                          refine g_i2l cx (pc2 := 192) (by first | assumption | omega) dX12_mixVillage_191 rfl ?_
                          refine g_callV cx (pc2 := 195) (st := []) (As := [.long (lI (M 102 ((j).toNat)))]) (k0 := 77) (ci := 12) (c_X12_mix (M := (stM M 77 43 t)) hn (M 102 ((j).toNat))) wM_X12_mix wV_X12_mix kl_X12_334 rfl (lt_lit hn (Nat.le_of_ble_eq_true rfl)) rfl ⟨rfl, rfl, Nat.le_of_ble_eq_true rfl, Nat.le_of_ble_eq_true rfl⟩ (Nat.le_of_ble_eq_true rfl) cs rfl rfl dX12_mixVillage_192 rfl ?_
                          rintro _ _ ⟨rfl, rfl⟩
                          refine g_M (M2 := (stM M 77 43 (31 * t + M 102 j.toNat))) (by exact hM_s M _ _) ?_
                          refine g_aload_n cx (pc2 := 196) 0 rfl dX12_mixVillage_195 rfl ?_
                          refine g_aload_n cx (pc2 := 197) 0 rfl dX12_mixVillage_196 rfl ?_
                          refine g_get cx (pc2 := 200) (ci := 12) (k0 := 77) (j := 42) (v := .ref 103) rfl iwX12 rfl (lt_lit hn (Nat.le_of_ble_eq_true rfl)) rfl (Nat.le_of_ble_eq_true rfl) kf_X12_86 rfl rfl dX12_mixVillage_197 rfl ?_
                          refine g_iload_n cx (pc2 := 201) 1 rfl dX12_mixVillage_200 rfl ?_
                          refine g_iald cx (pc2 := 202) (k0 := 103) rfl (lt_lit hn (Nat.le_of_ble_eq_true rfl)) (by first | assumption | omega) (by first | assumption | omega) (Nat.le_of_ble_eq_true rfl) dX12_mixVillage_201 rfl ?_
                          refine g_rwi (y := iI (M 103 ((j).toNat))) (congrArg iI (by simp [stM])) ?_
                          refine g_i2l cx (pc2 := 203) (by first | assumption | omega) dX12_mixVillage_202 rfl ?_
                          refine g_callV cx (pc2 := 206) (st := []) (As := [.long (lI (M 103 ((j).toNat)))]) (k0 := 77) (ci := 12) (c_X12_mix (M := (stM M 77 43 (31 * t + M 102 j.toNat))) hn (M 103 ((j).toNat))) wM_X12_mix wV_X12_mix kl_X12_334 rfl (lt_lit hn (Nat.le_of_ble_eq_true rfl)) rfl ⟨rfl, rfl, Nat.le_of_ble_eq_true rfl, Nat.le_of_ble_eq_true rfl⟩ (Nat.le_of_ble_eq_true rfl) cs rfl rfl dX12_mixVillage_203 rfl ?_
                          rintro _ _ ⟨rfl, rfl⟩
                          refine g_M (M2 := (stM M 77 43 (31 * (31 * t + M 102 j.toNat) + M 103 j.toNat))) (by exact hM_s M _ _) ?_
                          refine g_iinc cx (pc2 := 209) 1 rfl (lv2 := [(0, .ref 77), (1, .int (iI (j + 1)))]) rfl (Nat.le_of_ble_eq_true rfl) dX12_mixVillage_206 rfl ?_
                          refine g_goto cx (tgt := 176) dX12_mixVillage_209 (by decide) ?_
                          exact ih176 ((M 77 40 - (j + 1)).toNat) (by omega) (j + 1) (31 * (31 * t + M 102 j.toNat) + M 103 j.toNat) (by first | assumption | omega) (by exact hst.symm) (Nat.le_refl _)
                    exact L176 _ 0 t (by first | assumption | omega) (by rw [ht, show j = M 77 37 by omega]; rfl) (Nat.le_refl _)
                  · skip
                    have htj2 := htj (by omega)
                    refine g_aload_n cx (pc2 := 147) 0 rfl dX12_mixVillage_146 rfl ?_
                    refine g_aload_n cx (pc2 := 148) 0 rfl dX12_mixVillage_147 rfl ?_
                    refine g_get cx (pc2 := 151) (ci := 12) (k0 := 77) (j := 38) (v := .ref 100) rfl iwX12 rfl (lt_lit hn (Nat.le_of_ble_eq_true rfl)) rfl (Nat.le_of_ble_eq_true rfl) kf_X12_77 rfl rfl dX12_mixVillage_148 rfl ?_
                    refine g_iload_n cx (pc2 := 152) 1 rfl dX12_mixVillage_151 rfl ?_
                    refine g_iald cx (pc2 := 153) (k0 := 100) rfl (lt_lit hn (Nat.le_of_ble_eq_true rfl)) (by first | assumption | omega) (by first | assumption | omega) (Nat.le_of_ble_eq_true rfl) dX12_mixVillage_152 rfl ?_
                    refine g_rwi (y := iI (M 100 ((j).toNat))) (congrArg iI (by simp [stM])) ?_
                    refine g_i2l cx (pc2 := 154) (by first | assumption | omega) dX12_mixVillage_153 rfl ?_
                    refine g_callV cx (pc2 := 157) (st := []) (As := [.long (lI (M 100 ((j).toNat)))]) (k0 := 77) (ci := 12) (c_X12_mix (M := (stM M 77 43 t)) hn (M 100 ((j).toNat))) wM_X12_mix wV_X12_mix kl_X12_334 rfl (lt_lit hn (Nat.le_of_ble_eq_true rfl)) rfl ⟨rfl, rfl, Nat.le_of_ble_eq_true rfl, Nat.le_of_ble_eq_true rfl⟩ (Nat.le_of_ble_eq_true rfl) cs rfl rfl dX12_mixVillage_154 rfl ?_
                    rintro _ _ ⟨rfl, rfl⟩
                    refine g_M (M2 := (stM M 77 43 (31 * t + M 100 j.toNat))) (by exact hM_s M _ _) ?_
                    refine g_aload_n cx (pc2 := 158) 0 rfl dX12_mixVillage_157 rfl ?_
                    refine g_aload_n cx (pc2 := 159) 0 rfl dX12_mixVillage_158 rfl ?_
                    refine g_get cx (pc2 := 162) (ci := 12) (k0 := 77) (j := 39) (v := .ref 101) rfl iwX12 rfl (lt_lit hn (Nat.le_of_ble_eq_true rfl)) rfl (Nat.le_of_ble_eq_true rfl) kf_X12_80 rfl rfl dX12_mixVillage_159 rfl ?_
                    refine g_iload_n cx (pc2 := 163) 1 rfl dX12_mixVillage_162 rfl ?_
                    refine g_iald cx (pc2 := 164) (k0 := 101) rfl (lt_lit hn (Nat.le_of_ble_eq_true rfl)) (by first | assumption | omega) (by first | assumption | omega) (Nat.le_of_ble_eq_true rfl) dX12_mixVillage_163 rfl ?_
                    refine g_rwi (y := iI (M 101 ((j).toNat))) (congrArg iI (by simp [stM])) ?_
                    refine g_i2l cx (pc2 := 165) (by first | assumption | omega) dX12_mixVillage_164 rfl ?_
                    refine g_callV cx (pc2 := 168) (st := []) (As := [.long (lI (M 101 ((j).toNat)))]) (k0 := 77) (ci := 12) (c_X12_mix (M := (stM M 77 43 (31 * t + M 100 j.toNat))) hn (M 101 ((j).toNat))) wM_X12_mix wV_X12_mix kl_X12_334 rfl (lt_lit hn (Nat.le_of_ble_eq_true rfl)) rfl ⟨rfl, rfl, Nat.le_of_ble_eq_true rfl, Nat.le_of_ble_eq_true rfl⟩ (Nat.le_of_ble_eq_true rfl) cs rfl rfl dX12_mixVillage_165 rfl ?_
                    rintro _ _ ⟨rfl, rfl⟩
                    refine g_M (M2 := (stM M 77 43 (31 * (31 * t + M 100 j.toNat) + M 101 j.toNat))) (by exact hM_s M _ _) ?_
                    refine g_iinc cx (pc2 := 171) 1 rfl (lv2 := [(0, .ref 77), (1, .int (iI (j + 1)))]) rfl (Nat.le_of_ble_eq_true rfl) dX12_mixVillage_168 rfl ?_
                    refine g_goto cx (tgt := 138) dX12_mixVillage_171 (by decide) ?_
                    exact ih138 ((M 77 37 - (j + 1)).toNat) (by omega) (j + 1) (31 * (31 * t + M 100 j.toNat) + M 101 j.toNat) (by first | assumption | omega) (by exact hst.symm) (Nat.le_refl _)
              exact L138 _ 0 t (by first | assumption | omega) (by rw [ht, show i = M 77 12 by omega]; rfl) (Nat.le_refl _)
            · skip
              have h862 := h86 (by omega)
              have hnb2 := hnb (by omega)
              refine g_iconst cx (pc2 := 95) dX12_mixVillage_94 rfl ?_
              refine g_istore_n cx (pc2 := 96) (lv2 := [(0, .ref 77), (1, .int (iI i)), (2, .int (iI 0))]) rfl (Nat.le_of_ble_eq_true rfl) dX12_mixVillage_95 rfl ?_
              have L96 : ∀ (fu : Nat) (k : Int) (u : Int), (0 ≤ k ∧ k ≤ 6) → (u = mxF (fun w => nA M i (w : Int)) t k.toNat) → (6 - k).toNat ≤ fu → G X 96 [(0, .ref 77), (1, .int (iI i)), (2, .int (iI k))] [] (stM M 77 43 u) := by
                intro fu
                induction fu using Nat.strongRecOn with
                | _ fu ih96 =>
                  intro k u hk hu hk96
                  have hst2 : mxF (fun w => nA M i (w : Int)) t (k + 1).toNat = 31 * u + nA M i k := by rw [show (k + 1).toNat = k.toNat + 1 by omega, mxF, ← hu, Int.toNat_of_nonneg hk.1]
                  refine g_iload_n cx (pc2 := 97) 2 rfl dX12_mixVillage_96 rfl ?_
                  refine g_bipush cx (pc2 := 99) ⟨by decide, by decide⟩ dX12_mixVillage_97 rfl ?_
                  refine g_icmp_ge cx (pc2 := 102) (tgt := 119) ⟨(by first | assumption | omega), ⟨by decide, by decide⟩⟩ dX12_mixVillage_99 (by decide) rfl (fun h_5 => ?_) (fun h_5 => ?_)
                  · skip
                    refine g_aload_n cx (pc2 := 120) 0 rfl dX12_mixVillage_119 rfl ?_
                    refine g_aload_n cx (pc2 := 121) 0 rfl dX12_mixVillage_120 rfl ?_
                    refine g_get cx (pc2 := 124) (ci := 12) (k0 := 77) (j := 14) (v := .ref 86) rfl iwX12 rfl (lt_lit hn (Nat.le_of_ble_eq_true rfl)) rfl (Nat.le_of_ble_eq_true rfl) kf_X12_35 rfl rfl dX12_mixVillage_121 rfl ?_
                    refine g_iload_n cx (pc2 := 125) 1 rfl dX12_mixVillage_124 rfl ?_
                    refine g_iald cx (pc2 := 126) (k0 := 86) rfl (lt_lit hn (Nat.le_of_ble_eq_true rfl)) (by first | assumption | omega) (by first | assumption | omega) (Nat.le_of_ble_eq_true rfl) dX12_mixVillage_125 rfl ?_
                    refine g_rwi (y := iI (M 86 ((i).toNat))) (congrArg iI (by simp [stM])) ?_
                    refine g_i2l cx (pc2 := 127) (by first | assumption | omega) dX12_mixVillage_126 rfl ?_
                    refine g_callV cx (pc2 := 130) (st := []) (As := [.long (lI (M 86 ((i).toNat)))]) (k0 := 77) (ci := 12) (c_X12_mix (M := (stM M 77 43 u)) hn (M 86 ((i).toNat))) wM_X12_mix wV_X12_mix kl_X12_334 rfl (lt_lit hn (Nat.le_of_ble_eq_true rfl)) rfl ⟨rfl, rfl, Nat.le_of_ble_eq_true rfl, Nat.le_of_ble_eq_true rfl⟩ (Nat.le_of_ble_eq_true rfl) cs rfl rfl dX12_mixVillage_127 rfl ?_
                    rintro _ _ ⟨rfl, rfl⟩
                    refine g_M (M2 := (stM M 77 43 (31 * u + M 86 i.toNat))) (by exact hM_s M _ _) ?_
                    refine g_iinc cx (pc2 := 133) 1 rfl (lv2 := [(0, .ref 77), (1, .int (iI (i + 1))), (2, .int (iI k))]) rfl (Nat.le_of_ble_eq_true rfl) dX12_mixVillage_130 rfl ?_
                    refine g_goto cx (tgt := 86) dX12_mixVillage_133 (by decide) ?_
                    refine g_sub (lv2 := [(0, .ref 77), (1, .int (iI (i + 1)))]) [0, 1] rfl ?_
                    exact ih86 ((M 77 12 - (i + 1)).toNat) (by omega) (i + 1) (31 * u + M 86 i.toNat) (by first | assumption | omega) (by rw [hst, hu, show k.toNat = 6 by omega]) (Nat.le_refl _)
                  · skip
                    skip
                    refine g_aload_n cx (pc2 := 103) 0 rfl dX12_mixVillage_102 rfl ?_
                    refine g_aload_n cx (pc2 := 104) 0 rfl dX12_mixVillage_103 rfl ?_
                    refine g_iload_n cx (pc2 := 105) 1 rfl dX12_mixVillage_104 rfl ?_
                    refine g_iload_n cx (pc2 := 106) 2 rfl dX12_mixVillage_105 rfl ?_
                    refine g_callV cx (pc2 := 109) (st := [.ref 77]) (As := [.int (iI i), .int (iI k)]) (k0 := 77) (ci := 12) (c_X12_needAt (M := (stM M 77 43 u)) hn i k (by omega) (by omega)) wM_X12_needAt wV_X12_needAt kl_X12_195 rfl (lt_lit hn (Nat.le_of_ble_eq_true rfl)) rfl ⟨rfl, rfl, Nat.le_of_ble_eq_true rfl, Nat.le_of_ble_eq_true rfl⟩ (Nat.le_of_ble_eq_true rfl) cs rfl rfl dX12_mixVillage_106 rfl ?_
                    rintro _ _ ⟨rfl, rfl⟩
                    refine g_rwi (y := iI (nA M i k)) (congrArg iI (nA_off (stM_off (by decide)) _ _)) ?_
                    refine g_i2l cx (pc2 := 110) (by (unfold ir; have q := hnb2; rcases (show k = 0 ∨ k = 1 ∨ k = 2 ∨ k = 3 ∨ k = 4 ∨ k = 5 by omega) with z | z | z | z | z | z <;> subst z <;> omega)) dX12_mixVillage_109 rfl ?_
                    refine g_callV cx (pc2 := 113) (st := []) (As := [.long (lI (nA M i k))]) (k0 := 77) (ci := 12) (c_X12_mix (M := (stM M 77 43 u)) hn (nA M i k)) wM_X12_mix wV_X12_mix kl_X12_334 rfl (lt_lit hn (Nat.le_of_ble_eq_true rfl)) rfl ⟨rfl, rfl, Nat.le_of_ble_eq_true rfl, Nat.le_of_ble_eq_true rfl⟩ (Nat.le_of_ble_eq_true rfl) cs rfl rfl dX12_mixVillage_110 rfl ?_
                    rintro _ _ ⟨rfl, rfl⟩
                    refine g_M (M2 := (stM M 77 43 (31 * u + nA M i k))) (by exact hM_s M _ _) ?_
                    refine g_iinc cx (pc2 := 116) 2 rfl (lv2 := [(0, .ref 77), (1, .int (iI i)), (2, .int (iI (k + 1)))]) rfl (Nat.le_of_ble_eq_true rfl) dX12_mixVillage_113 rfl ?_
                    refine g_goto cx (tgt := 96) dX12_mixVillage_116 (by decide) ?_
                    exact ih96 ((6 - (k + 1)).toNat) (by omega) (k + 1) (31 * u + nA M i k) (by first | assumption | omega) (by exact hst2.symm) (Nat.le_refl _)
              exact L96 _ 0 t (by first | assumption | omega) (by rfl) (Nat.le_refl _)
        exact L86 _ 0 t (by first | assumption | omega) (by rw [ht, show h = M 77 10 by omega]; rfl) (Nat.le_refl _)
      · skip
        have hpl2 := hpl (by omega)
        refine g_aload_n cx (pc2 := 20) 0 rfl dX12_mixVillage_19 rfl ?_
        refine g_aload_n cx (pc2 := 21) 0 rfl dX12_mixVillage_20 rfl ?_
        refine g_get cx (pc2 := 24) (ci := 12) (k0 := 77) (j := 11) (v := .ref 84) rfl iwX12 rfl (lt_lit hn (Nat.le_of_ble_eq_true rfl)) rfl (Nat.le_of_ble_eq_true rfl) kf_X12_29 rfl rfl dX12_mixVillage_21 rfl ?_
        refine g_iload_n cx (pc2 := 25) 1 rfl dX12_mixVillage_24 rfl ?_
        refine g_iald cx (pc2 := 26) (k0 := 84) rfl (lt_lit hn (Nat.le_of_ble_eq_true rfl)) (by first | assumption | omega) (by first | assumption | omega) (Nat.le_of_ble_eq_true rfl) dX12_mixVillage_25 rfl ?_
        refine g_rwi (y := iI (M 84 ((h).toNat))) (congrArg iI (by simp [stM])) ?_
        refine g_i2l cx (pc2 := 27) (by first | assumption | omega) dX12_mixVillage_26 rfl ?_
        refine g_callV cx (pc2 := 30) (st := []) (As := [.long (lI (M 84 ((h).toNat)))]) (k0 := 77) (ci := 12) (c_X12_mix (M := (stM M 77 43 t)) hn (M 84 ((h).toNat))) wM_X12_mix wV_X12_mix kl_X12_334 rfl (lt_lit hn (Nat.le_of_ble_eq_true rfl)) rfl ⟨rfl, rfl, Nat.le_of_ble_eq_true rfl, Nat.le_of_ble_eq_true rfl⟩ (Nat.le_of_ble_eq_true rfl) cs rfl rfl dX12_mixVillage_27 rfl ?_
        rintro _ _ ⟨rfl, rfl⟩
        refine g_M (M2 := (stM M 77 43 (31 * t + M 84 h.toNat))) (by exact hM_s M _ _) ?_
        refine g_aload_n cx (pc2 := 31) 0 rfl dX12_mixVillage_30 rfl ?_
        refine g_aload_n cx (pc2 := 32) 0 rfl dX12_mixVillage_31 rfl ?_
        refine g_get cx (pc2 := 35) (ci := 12) (k0 := 77) (j := 33) (v := .ref 97) rfl iwX12 rfl (lt_lit hn (Nat.le_of_ble_eq_true rfl)) rfl (Nat.le_of_ble_eq_true rfl) kf_X12_68 rfl rfl dX12_mixVillage_32 rfl ?_
        refine g_iload_n cx (pc2 := 36) 1 rfl dX12_mixVillage_35 rfl ?_
        refine g_iald cx (pc2 := 37) (k0 := 97) rfl (lt_lit hn (Nat.le_of_ble_eq_true rfl)) (by first | assumption | omega) (by first | assumption | omega) (Nat.le_of_ble_eq_true rfl) dX12_mixVillage_36 rfl ?_
        refine g_rwi (y := iI (M 97 ((h).toNat))) (congrArg iI (by simp [stM])) ?_
        refine g_rwi (y := iI (wr (M 97 h.toNat))) ((iI_wr _).symm) ?_
        refine g_i2l cx (pc2 := 38) (by exact hw1) dX12_mixVillage_37 rfl ?_
        refine g_callV cx (pc2 := 41) (st := []) (As := [.long (lI (wr (M 97 h.toNat)))]) (k0 := 77) (ci := 12) (c_X12_mix (M := (stM M 77 43 (31 * t + M 84 h.toNat))) hn (wr (M 97 h.toNat))) wM_X12_mix wV_X12_mix kl_X12_334 rfl (lt_lit hn (Nat.le_of_ble_eq_true rfl)) rfl ⟨rfl, rfl, Nat.le_of_ble_eq_true rfl, Nat.le_of_ble_eq_true rfl⟩ (Nat.le_of_ble_eq_true rfl) cs rfl rfl dX12_mixVillage_38 rfl ?_
        rintro _ _ ⟨rfl, rfl⟩
        refine g_M (M2 := (stM M 77 43 (31 * (31 * t + M 84 h.toNat) + wr (M 97 h.toNat)))) (by exact hM_s M _ _) ?_
        refine g_iconst cx (pc2 := 42) dX12_mixVillage_41 rfl ?_
        refine g_istore_n cx (pc2 := 43) (lv2 := [(0, .ref 77), (1, .int (iI h)), (2, .int (iI 0))]) rfl (Nat.le_of_ble_eq_true rfl) dX12_mixVillage_42 rfl ?_
        have L43 : ∀ (fu : Nat) (k : Int) (u : Int), (0 ≤ k ∧ k ≤ M 77 10) → (u = xmO M h (31 * (31 * t + M 84 h.toNat) + wr (M 97 h.toNat)) k.toNat) → (M 77 10 - k).toNat ≤ fu → G X 43 [(0, .ref 77), (1, .int (iI h)), (2, .int (iI k))] [] (stM M 77 43 u) := by
          intro fu
          induction fu using Nat.strongRecOn with
          | _ fu ih43 =>
            intro k u hk hu hk43
            have hw2 := ir_wr (M 98 (8 * h + k).toNat)
            have hst2 : xmO M h (31 * (31 * t + M 84 h.toNat) + wr (M 97 h.toNat)) (k + 1).toNat = if h = k then u else 31 * u + wr (M 98 (8 * h + k).toNat) := by rw [show (k + 1).toNat = k.toNat + 1 by omega, xmO, ← hu, Int.toNat_of_nonneg hk.1]
            refine g_iload_n cx (pc2 := 44) 2 rfl dX12_mixVillage_43 rfl ?_
            refine g_aload_n cx (pc2 := 45) 0 rfl dX12_mixVillage_44 rfl ?_
            refine g_get cx (pc2 := 48) (ci := 12) (k0 := 77) (j := 10) (v := .int (iI (M 77 10))) rfl iwX12 rfl (lt_lit hn (Nat.le_of_ble_eq_true rfl)) rfl (Nat.le_of_ble_eq_true rfl) kf_X12_165 rfl (congrArg (fun q => Value.int (iI q)) (by simp [stM])) dX12_mixVillage_45 rfl ?_
            refine g_icmp_ge cx (pc2 := 51) (tgt := 78) ⟨(by first | assumption | omega), (by first | assumption | omega)⟩ dX12_mixVillage_48 (by decide) rfl (fun h_6 => ?_) (fun h_6 => ?_)
            · skip
              refine g_iinc cx (pc2 := 81) 1 rfl (lv2 := [(0, .ref 77), (1, .int (iI (h + 1))), (2, .int (iI k))]) rfl (Nat.le_of_ble_eq_true rfl) dX12_mixVillage_78 rfl ?_
              refine g_goto cx (tgt := 11) dX12_mixVillage_81 (by decide) ?_
              refine g_sub (lv2 := [(0, .ref 77), (1, .int (iI (h + 1)))]) [0, 1] rfl ?_
              exact ih11 ((M 77 10 - (h + 1)).toNat) (by omega) (h + 1) u (by first | assumption | omega) (by rw [hst, hu, show k = M 77 10 by omega]) (Nat.le_refl _)
            · skip
              have L72 : ∀ (u2 : Int), (u2 = xmO M h (31 * (31 * t + M 84 h.toNat) + wr (M 97 h.toNat)) (k + 1).toNat) → G X 72 [(0, .ref 77), (1, .int (iI h)), (2, .int (iI k))] [] (stM M 77 43 u2) := by
                intro u2 hu2
                refine g_iinc cx (pc2 := 75) 2 rfl (lv2 := [(0, .ref 77), (1, .int (iI h)), (2, .int (iI (k + 1)))]) rfl (Nat.le_of_ble_eq_true rfl) dX12_mixVillage_72 rfl ?_
                refine g_goto cx (tgt := 43) dX12_mixVillage_75 (by decide) ?_
                exact ih43 ((M 77 10 - (k + 1)).toNat) (by omega) (k + 1) u2 (by first | assumption | omega) (by exact hu2) (Nat.le_refl _)
              refine g_iload_n cx (pc2 := 52) 1 rfl dX12_mixVillage_51 rfl ?_
              refine g_iload_n cx (pc2 := 53) 2 rfl dX12_mixVillage_52 rfl ?_
              refine g_icmp_eq cx (pc2 := 56) (tgt := 72) ⟨(by first | assumption | omega), (by first | assumption | omega)⟩ dX12_mixVillage_53 (by decide) rfl (fun h_7 => ?_) (fun h_7 => ?_)
              · skip
                exact L72 u (by rw [hst2]; first | (rw [if_pos (by assumption)]; done) | (rw [if_neg (by assumption)]; done))
              · skip
                refine g_aload_n cx (pc2 := 57) 0 rfl dX12_mixVillage_56 rfl ?_
                refine g_aload_n cx (pc2 := 58) 0 rfl dX12_mixVillage_57 rfl ?_
                refine g_get cx (pc2 := 61) (ci := 12) (k0 := 77) (j := 34) (v := .ref 98) rfl iwX12 rfl (lt_lit hn (Nat.le_of_ble_eq_true rfl)) rfl (Nat.le_of_ble_eq_true rfl) kf_X12_71 rfl rfl dX12_mixVillage_58 rfl ?_
                refine g_bipush cx (pc2 := 63) ⟨by decide, by decide⟩ dX12_mixVillage_61 rfl ?_
                refine g_iload_n cx (pc2 := 64) 1 rfl dX12_mixVillage_63 rfl ?_
                refine g_imul cx (pc2 := 65) dX12_mixVillage_64 rfl ?_
                refine g_iload_n cx (pc2 := 66) 2 rfl dX12_mixVillage_65 rfl ?_
                refine g_iadd cx (pc2 := 67) dX12_mixVillage_66 rfl ?_
                refine g_iald cx (pc2 := 68) (k0 := 98) rfl (lt_lit hn (Nat.le_of_ble_eq_true rfl)) (by first | assumption | omega) (by first | assumption | omega) (Nat.le_of_ble_eq_true rfl) dX12_mixVillage_67 rfl ?_
                refine g_rwi (y := iI (M 98 (((8 * h) + k).toNat))) (congrArg iI (by simp [stM])) ?_
                refine g_rwi (y := iI (wr (M 98 (8 * h + k).toNat))) ((iI_wr _).symm) ?_
                refine g_i2l cx (pc2 := 69) (by exact hw2) dX12_mixVillage_68 rfl ?_
                refine g_callV cx (pc2 := 72) (st := []) (As := [.long (lI (wr (M 98 (8 * h + k).toNat)))]) (k0 := 77) (ci := 12) (c_X12_mix (M := (stM M 77 43 u)) hn (wr (M 98 (8 * h + k).toNat))) wM_X12_mix wV_X12_mix kl_X12_334 rfl (lt_lit hn (Nat.le_of_ble_eq_true rfl)) rfl ⟨rfl, rfl, Nat.le_of_ble_eq_true rfl, Nat.le_of_ble_eq_true rfl⟩ (Nat.le_of_ble_eq_true rfl) cs rfl rfl dX12_mixVillage_69 rfl ?_
                rintro _ _ ⟨rfl, rfl⟩
                refine g_M (M2 := (stM M 77 43 (31 * u + wr (M 98 (8 * h + k).toNat)))) (by first | rfl | exact hM_s M _ _) ?_
                exact L72 (31 * u + wr (M 98 (8 * h + k).toNat)) (by rw [hst2]; first | (rw [if_pos (by assumption)]; done) | (rw [if_neg (by assumption)]; done))
        exact L43 _ 0 (31 * (31 * t + M 84 h.toNat) + wr (M 97 h.toNat)) (by first | assumption | omega) (by rfl) (Nat.le_refl _)
  exact L11 _ 0 (31 * M 77 43 + (M 77 15)) (by first | assumption | omega) (by rfl) (Nat.le_refl _)
set_option maxHeartbeats 4000000 in
set_option maxRecDepth 100000 in
theorem c_X12_digest {n : Nat} (hn : NN n) {M : Mm} (hV : RV M) (hQ : RQ M) (hT : RT M) (hTn : TNX M) (hRn : TRX M) (hDn : 0 ≤ M 77 35 ∧ M 77 35 ≤ 16) : CT yX12_digest cX12_digest 3 (some .long) ({ frames := 4, cells := 0, slots := 0, locals := 87 }) n [.ref 77] M (rL (xdgV M) (stM M 77 43 (xdgV M))) := by
  refine CT.of (lv0 := [(0, .ref 77)]) (by decide +kernel) hn (fun _ => rfl) (fun _ => Nat.le_of_ble_eq_true rfl) (fun X cx cs qx => ?_)
  have cx : Cx X cX12_digest RX12 ({ frames := 4, cells := 0, slots := 0, locals := 87 }) 3 n := cx
  have hv1 := hV.1
  have hq1 := fun r : Nat => hQ r
  have ht1 := fun r : Nat => hT r
  have hcb : ∀ w : Int, 0 ≤ w ∧ w ≤ 7 → 0 ≤ xcnV M w ∧ xcnV M w ≤ 16 := xcnV_b hV hTn hRn hDn
  refine g_aload_n cx (pc2 := 1) 0 rfl dX12_digest_0 rfl ?_
  refine g_ldc2 cx (pc2 := 4) kk_X12_338 dX12_digest_1 rfl ?_
  refine g_putl cx (pc2 := 7) (ci := 12) (k0 := 77) (j := 43) rfl iwX12 rfl (lt_lit hn (Nat.le_of_ble_eq_true rfl)) rfl (Nat.le_of_ble_eq_true rfl) kf_X12_331 rfl tyX12_ok nmX12 rfl rfl dX12_digest_4 rfl ?_
  refine g_iconst cx (pc2 := 8) dX12_digest_7 rfl ?_
  refine g_istore_n cx (pc2 := 9) (lv2 := [(0, .ref 77), (1, .int (iI 0))]) rfl (Nat.le_of_ble_eq_true rfl) dX12_digest_8 rfl ?_
  have L9 : ∀ (fu : Nat) (w : Int) (t : Int), (0 ≤ w ∧ w ≤ 8) → (t = mxF (fun w => xcnV M (w : Int)) 17 w.toNat) → (8 - w).toNat ≤ fu → G X 9 [(0, .ref 77), (1, .int (iI w))] [] (stM M 77 43 t) := by
    intro fu
    induction fu using Nat.strongRecOn with
    | _ fu ih9 =>
      intro w t hw ht hk9
      have hcw := hcb w
      have hst : mxF (fun w => xcnV M (w : Int)) 17 (w + 1).toNat = 31 * t + xcnV M w := by rw [show (w + 1).toNat = w.toNat + 1 by omega, mxF, ← ht, Int.toNat_of_nonneg hw.1]
      refine g_iload_n cx (pc2 := 10) 1 rfl dX12_digest_9 rfl ?_
      refine g_bipush cx (pc2 := 12) ⟨by decide, by decide⟩ dX12_digest_10 rfl ?_
      refine g_icmp_ge cx (pc2 := 15) (tgt := 31) ⟨(by first | assumption | omega), ⟨by decide, by decide⟩⟩ dX12_digest_12 (by decide) rfl (fun h_1 => ?_) (fun h_1 => ?_)
      · skip
        have hx35 : stM (stM M 77 43 t) 77 43 (xmV (stM M 77 43 t) (stM M 77 43 t 77 43)) = stM M 77 43 (xmV M (mxF (fun w => xcnV M (w : Int)) 17 8)) := by rw [stM_at, xmV_h, ht, show w.toNat = 8 by omega]; exact stM_st2 _ _ _ _ _
        refine g_aload_n cx (pc2 := 32) 0 rfl dX12_digest_31 rfl ?_
        refine g_callV cx (pc2 := 35) (st := []) (As := []) (k0 := 77) (ci := 12) (c_X12_mixVillage (M := (stM M 77 43 t)) hn (by exact hV_h hV _) (by first | exact hT_h hT _ | exact TNX_h hTn _) (by exact TRX_h hRn _)) wM_X12_mixVillage wV_X12_mixVillage kl_X12_340 rfl (lt_lit hn (Nat.le_of_ble_eq_true rfl)) rfl ⟨rfl, rfl, Nat.le_of_ble_eq_true rfl, Nat.le_of_ble_eq_true rfl⟩ (Nat.le_of_ble_eq_true rfl) cs rfl rfl dX12_digest_32 rfl ?_
        rintro _ _ ⟨rfl, rfl⟩
        refine g_M (M2 := (stM M 77 43 (xmV M (mxF (fun w => xcnV M (w : Int)) 17 8)))) (by first | rfl | exact hx35) ?_
        refine g_iconst cx (pc2 := 36) dX12_digest_35 rfl ?_
        refine g_istore_n cx (pc2 := 37) (lv2 := [(0, .ref 77), (1, .int (iI 0))]) rfl (Nat.le_of_ble_eq_true rfl) dX12_digest_36 rfl ?_
        have L37 : ∀ (fu : Nat) (r : Int) (t : Int), (0 ≤ r ∧ r ≤ 6) → (t = xmR M (xmV M (mxF (fun w => xcnV M (w : Int)) 17 8)) r.toNat) → (6 - r).toNat ≤ fu → G X 37 [(0, .ref 77), (1, .int (iI r))] [] (stM M 77 43 t) := by
          intro fu
          induction fu using Nat.strongRecOn with
          | _ fu ih37 =>
            intro r t hr ht hk37
            have hqr := hq1 r.toNat
            have hst : xmR M (xmV M (mxF (fun w => xcnV M (w : Int)) 17 8)) (r + 1).toNat = mxF (fun i => rcA M r (i : Int)) (31 * t + M 79 r.toNat) (M 79 r.toNat).toNat := by rw [show (r + 1).toNat = r.toNat + 1 by omega, xmR, ← ht, Int.toNat_of_nonneg hr.1]
            refine g_iload_n cx (pc2 := 38) 1 rfl dX12_digest_37 rfl ?_
            refine g_bipush cx (pc2 := 40) ⟨by decide, by decide⟩ dX12_digest_38 rfl ?_
            refine g_icmp_ge cx (pc2 := 43) (tgt := 89) ⟨(by first | assumption | omega), ⟨by decide, by decide⟩⟩ dX12_digest_40 (by decide) rfl (fun h_2 => ?_) (fun h_2 => ?_)
            · skip
              refine g_iconst cx (pc2 := 90) dX12_digest_89 rfl ?_
              refine g_istore_n cx (pc2 := 91) (lv2 := [(0, .ref 77), (1, .int (iI 0))]) rfl (Nat.le_of_ble_eq_true rfl) dX12_digest_90 rfl ?_
              have L91 : ∀ (fu : Nat) (r : Int) (t : Int), (0 ≤ r ∧ r ≤ 4) → (t = xmT M (xmR M (xmV M (mxF (fun w => xcnV M (w : Int)) 17 8)) 6) r.toNat) → (4 - r).toNat ≤ fu → G X 91 [(0, .ref 77), (1, .int (iI r))] [] (stM M 77 43 t) := by
                intro fu
                induction fu using Nat.strongRecOn with
                | _ fu ih91 =>
                  intro r t hr ht hk91
                  have htr := ht1 r.toNat
                  have hst : xmT M (xmR M (xmV M (mxF (fun w => xcnV M (w : Int)) 17 8)) 6) (r + 1).toNat = mxF (fun i => btA M r (i : Int)) (31 * t + M 82 r.toNat) (M 82 r.toNat).toNat := by rw [show (r + 1).toNat = r.toNat + 1 by omega, xmT, ← ht, Int.toNat_of_nonneg hr.1]
                  refine g_iload_n cx (pc2 := 92) 1 rfl dX12_digest_91 rfl ?_
                  refine g_iconst cx (pc2 := 93) dX12_digest_92 rfl ?_
                  refine g_icmp_ge cx (pc2 := 96) (tgt := 142) ⟨(by first | assumption | omega), ⟨by decide, by decide⟩⟩ dX12_digest_93 (by decide) rfl (fun h_3 => ?_) (fun h_3 => ?_)
                  · skip
                    refine g_aload_n cx (pc2 := 143) 0 rfl dX12_digest_142 rfl ?_
                    refine g_get cx (pc2 := 146) (ci := 12) (k0 := 77) (j := 43) (v := .long (lI t)) rfl iwX12 rfl (lt_lit hn (Nat.le_of_ble_eq_true rfl)) rfl (Nat.le_of_ble_eq_true rfl) kf_X12_331 rfl (congrArg (fun q => Value.long (lI q)) (by simp [stM])) dX12_digest_143 rfl ?_
                    refine g_rwl (y := lI (xdgV M)) (congrArg lI (by rw [ht, show r.toNat = 4 by omega]; rfl)) ?_
                    exact g_lret cx qx dX12_digest_146 ⟨congrArg (fun q => some (Value.long (lI q))) (by first | rfl | omega), by rw [ht, show r.toNat = 4 by omega]; rfl⟩
                  · skip
                    have htr2 := htr (by omega)
                    refine g_aload_n cx (pc2 := 97) 0 rfl dX12_digest_96 rfl ?_
                    refine g_aload_n cx (pc2 := 98) 0 rfl dX12_digest_97 rfl ?_
                    refine g_get cx (pc2 := 101) (ci := 12) (k0 := 77) (j := 8) (v := .ref 82) rfl iwX12 rfl (lt_lit hn (Nat.le_of_ble_eq_true rfl)) rfl (Nat.le_of_ble_eq_true rfl) kf_X12_22 rfl rfl dX12_digest_98 rfl ?_
                    refine g_iload_n cx (pc2 := 102) 1 rfl dX12_digest_101 rfl ?_
                    refine g_iald cx (pc2 := 103) (k0 := 82) rfl (lt_lit hn (Nat.le_of_ble_eq_true rfl)) (by first | assumption | omega) (by first | assumption | omega) (Nat.le_of_ble_eq_true rfl) dX12_digest_102 rfl ?_
                    refine g_rwi (y := iI (M 82 ((r).toNat))) (congrArg iI (by simp [stM])) ?_
                    refine g_i2l cx (pc2 := 104) (by first | assumption | omega) dX12_digest_103 rfl ?_
                    refine g_callV cx (pc2 := 107) (st := []) (As := [.long (lI (M 82 ((r).toNat)))]) (k0 := 77) (ci := 12) (c_X12_mix (M := (stM M 77 43 t)) hn (M 82 ((r).toNat))) wM_X12_mix wV_X12_mix kl_X12_334 rfl (lt_lit hn (Nat.le_of_ble_eq_true rfl)) rfl ⟨rfl, rfl, Nat.le_of_ble_eq_true rfl, Nat.le_of_ble_eq_true rfl⟩ (Nat.le_of_ble_eq_true rfl) cs rfl rfl dX12_digest_104 rfl ?_
                    rintro _ _ ⟨rfl, rfl⟩
                    refine g_M (M2 := (stM M 77 43 (31 * t + M 82 r.toNat))) (by exact hM_s M _ _) ?_
                    refine g_iconst cx (pc2 := 108) dX12_digest_107 rfl ?_
                    refine g_istore_n cx (pc2 := 109) (lv2 := [(0, .ref 77), (1, .int (iI r)), (2, .int (iI 0))]) rfl (Nat.le_of_ble_eq_true rfl) dX12_digest_108 rfl ?_
                    have L109 : ∀ (fu : Nat) (i : Int) (u : Int), (0 ≤ i ∧ (i ≤ M 82 r.toNat ∨ i = 0)) → (u = mxF (fun i => btA M r (i : Int)) (31 * t + M 82 r.toNat) i.toNat) → (M 82 r.toNat - i).toNat ≤ fu → G X 109 [(0, .ref 77), (1, .int (iI r)), (2, .int (iI i))] [] (stM M 77 43 u) := by
                      intro fu
                      induction fu using Nat.strongRecOn with
                      | _ fu ih109 =>
                        intro i u hi hu hk109
                        have hst2 : mxF (fun i => btA M r (i : Int)) (31 * t + M 82 r.toNat) (i + 1).toNat = 31 * u + btA M r i := by rw [show (i + 1).toNat = i.toNat + 1 by omega, mxF, ← hu, Int.toNat_of_nonneg hi.1]
                        refine g_iload_n cx (pc2 := 110) 2 rfl dX12_digest_109 rfl ?_
                        refine g_aload_n cx (pc2 := 111) 0 rfl dX12_digest_110 rfl ?_
                        refine g_get cx (pc2 := 114) (ci := 12) (k0 := 77) (j := 8) (v := .ref 82) rfl iwX12 rfl (lt_lit hn (Nat.le_of_ble_eq_true rfl)) rfl (Nat.le_of_ble_eq_true rfl) kf_X12_22 rfl rfl dX12_digest_111 rfl ?_
                        refine g_iload_n cx (pc2 := 115) 1 rfl dX12_digest_114 rfl ?_
                        refine g_iald cx (pc2 := 116) (k0 := 82) rfl (lt_lit hn (Nat.le_of_ble_eq_true rfl)) (by first | assumption | omega) (by first | assumption | omega) (Nat.le_of_ble_eq_true rfl) dX12_digest_115 rfl ?_
                        refine g_rwi (y := iI (M 82 ((r).toNat))) (congrArg iI (by simp [stM])) ?_
                        refine g_icmp_ge cx (pc2 := 119) (tgt := 136) ⟨(by first | assumption | omega), (by first | assumption | omega)⟩ dX12_digest_116 (by decide) rfl (fun h_4 => ?_) (fun h_4 => ?_)
                        · skip
                          refine g_iinc cx (pc2 := 139) 1 rfl (lv2 := [(0, .ref 77), (1, .int (iI (r + 1))), (2, .int (iI i))]) rfl (Nat.le_of_ble_eq_true rfl) dX12_digest_136 rfl ?_
                          refine g_goto cx (tgt := 91) dX12_digest_139 (by decide) ?_
                          refine g_sub (lv2 := [(0, .ref 77), (1, .int (iI (r + 1)))]) [0, 1] rfl ?_
                          exact ih91 ((4 - (r + 1)).toNat) (by omega) (r + 1) u (by first | assumption | omega) (by rw [hst, hu]; congr 1; omega) (Nat.le_refl _)
                        · skip
                          have hbti := xbt_of hT (t := r) (i := i) (by omega)
                          refine g_aload_n cx (pc2 := 120) 0 rfl dX12_digest_119 rfl ?_
                          refine g_aload_n cx (pc2 := 121) 0 rfl dX12_digest_120 rfl ?_
                          refine g_iload_n cx (pc2 := 122) 1 rfl dX12_digest_121 rfl ?_
                          refine g_iload_n cx (pc2 := 123) 2 rfl dX12_digest_122 rfl ?_
                          refine g_callV cx (pc2 := 126) (st := [.ref 77]) (As := [.int (iI r), .int (iI i)]) (k0 := 77) (ci := 12) (c_X12_byteAt (M := (stM M 77 43 u)) hn r i (by unfold T4; omega) (by rw [stM_off (by decide)]; omega) (by omega)) wM_X12_byteAt wV_X12_byteAt kl_X12_128 rfl (lt_lit hn (Nat.le_of_ble_eq_true rfl)) rfl ⟨rfl, rfl, Nat.le_of_ble_eq_true rfl, Nat.le_of_ble_eq_true rfl⟩ (Nat.le_of_ble_eq_true rfl) cs rfl rfl dX12_digest_123 rfl ?_
                          rintro _ _ ⟨rfl, rfl⟩
                          refine g_rwi (y := iI (btA M r i)) (congrArg iI (by unfold btA; rw [stM_off (by decide), stM_off (by decide)])) ?_
                          refine g_i2l cx (pc2 := 127) (by first | assumption | omega) dX12_digest_126 rfl ?_
                          refine g_callV cx (pc2 := 130) (st := []) (As := [.long (lI (btA M r i))]) (k0 := 77) (ci := 12) (c_X12_mix (M := (stM M 77 43 u)) hn (btA M r i)) wM_X12_mix wV_X12_mix kl_X12_334 rfl (lt_lit hn (Nat.le_of_ble_eq_true rfl)) rfl ⟨rfl, rfl, Nat.le_of_ble_eq_true rfl, Nat.le_of_ble_eq_true rfl⟩ (Nat.le_of_ble_eq_true rfl) cs rfl rfl dX12_digest_127 rfl ?_
                          rintro _ _ ⟨rfl, rfl⟩
                          refine g_M (M2 := (stM M 77 43 (31 * u + btA M r i))) (by exact hM_s M _ _) ?_
                          refine g_iinc cx (pc2 := 133) 2 rfl (lv2 := [(0, .ref 77), (1, .int (iI r)), (2, .int (iI (i + 1)))]) rfl (Nat.le_of_ble_eq_true rfl) dX12_digest_130 rfl ?_
                          refine g_goto cx (tgt := 109) dX12_digest_133 (by decide) ?_
                          exact ih109 ((M 82 r.toNat - (i + 1)).toNat) (by omega) (i + 1) (31 * u + btA M r i) (by first | assumption | omega) (by exact hst2.symm) (Nat.le_refl _)
                    exact L109 _ 0 (31 * t + M 82 r.toNat) (by first | assumption | omega) (by rfl) (Nat.le_refl _)
              exact L91 _ 0 t (by first | assumption | omega) (by rw [ht, show r = 6 by omega]; rfl) (Nat.le_refl _)
            · skip
              have hqr2 := hqr (by omega)
              refine g_aload_n cx (pc2 := 44) 0 rfl dX12_digest_43 rfl ?_
              refine g_aload_n cx (pc2 := 45) 0 rfl dX12_digest_44 rfl ?_
              refine g_get cx (pc2 := 48) (ci := 12) (k0 := 77) (j := 5) (v := .ref 79) rfl iwX12 rfl (lt_lit hn (Nat.le_of_ble_eq_true rfl)) rfl (Nat.le_of_ble_eq_true rfl) kf_X12_13 rfl rfl dX12_digest_45 rfl ?_
              refine g_iload_n cx (pc2 := 49) 1 rfl dX12_digest_48 rfl ?_
              refine g_iald cx (pc2 := 50) (k0 := 79) rfl (lt_lit hn (Nat.le_of_ble_eq_true rfl)) (by first | assumption | omega) (by first | assumption | omega) (Nat.le_of_ble_eq_true rfl) dX12_digest_49 rfl ?_
              refine g_rwi (y := iI (M 79 ((r).toNat))) (congrArg iI (by simp [stM])) ?_
              refine g_i2l cx (pc2 := 51) (by first | assumption | omega) dX12_digest_50 rfl ?_
              refine g_callV cx (pc2 := 54) (st := []) (As := [.long (lI (M 79 ((r).toNat)))]) (k0 := 77) (ci := 12) (c_X12_mix (M := (stM M 77 43 t)) hn (M 79 ((r).toNat))) wM_X12_mix wV_X12_mix kl_X12_334 rfl (lt_lit hn (Nat.le_of_ble_eq_true rfl)) rfl ⟨rfl, rfl, Nat.le_of_ble_eq_true rfl, Nat.le_of_ble_eq_true rfl⟩ (Nat.le_of_ble_eq_true rfl) cs rfl rfl dX12_digest_51 rfl ?_
              rintro _ _ ⟨rfl, rfl⟩
              refine g_M (M2 := (stM M 77 43 (31 * t + M 79 r.toNat))) (by exact hM_s M _ _) ?_
              refine g_iconst cx (pc2 := 55) dX12_digest_54 rfl ?_
              refine g_istore_n cx (pc2 := 56) (lv2 := [(0, .ref 77), (1, .int (iI r)), (2, .int (iI 0))]) rfl (Nat.le_of_ble_eq_true rfl) dX12_digest_55 rfl ?_
              have L56 : ∀ (fu : Nat) (i : Int) (u : Int), (0 ≤ i ∧ (i ≤ M 79 r.toNat ∨ i = 0)) → (u = mxF (fun i => rcA M r (i : Int)) (31 * t + M 79 r.toNat) i.toNat) → (M 79 r.toNat - i).toNat ≤ fu → G X 56 [(0, .ref 77), (1, .int (iI r)), (2, .int (iI i))] [] (stM M 77 43 u) := by
                intro fu
                induction fu using Nat.strongRecOn with
                | _ fu ih56 =>
                  intro i u hi hu hk56
                  have hst2 : mxF (fun i => rcA M r (i : Int)) (31 * t + M 79 r.toNat) (i + 1).toNat = 31 * u + rcA M r i := by rw [show (i + 1).toNat = i.toNat + 1 by omega, mxF, ← hu, Int.toNat_of_nonneg hi.1]
                  refine g_iload_n cx (pc2 := 57) 2 rfl dX12_digest_56 rfl ?_
                  refine g_aload_n cx (pc2 := 58) 0 rfl dX12_digest_57 rfl ?_
                  refine g_get cx (pc2 := 61) (ci := 12) (k0 := 77) (j := 5) (v := .ref 79) rfl iwX12 rfl (lt_lit hn (Nat.le_of_ble_eq_true rfl)) rfl (Nat.le_of_ble_eq_true rfl) kf_X12_13 rfl rfl dX12_digest_58 rfl ?_
                  refine g_iload_n cx (pc2 := 62) 1 rfl dX12_digest_61 rfl ?_
                  refine g_iald cx (pc2 := 63) (k0 := 79) rfl (lt_lit hn (Nat.le_of_ble_eq_true rfl)) (by first | assumption | omega) (by first | assumption | omega) (Nat.le_of_ble_eq_true rfl) dX12_digest_62 rfl ?_
                  refine g_rwi (y := iI (M 79 ((r).toNat))) (congrArg iI (by simp [stM])) ?_
                  refine g_icmp_ge cx (pc2 := 66) (tgt := 83) ⟨(by first | assumption | omega), (by first | assumption | omega)⟩ dX12_digest_63 (by decide) rfl (fun h_5 => ?_) (fun h_5 => ?_)
                  · skip
                    refine g_iinc cx (pc2 := 86) 1 rfl (lv2 := [(0, .ref 77), (1, .int (iI (r + 1))), (2, .int (iI i))]) rfl (Nat.le_of_ble_eq_true rfl) dX12_digest_83 rfl ?_
                    refine g_goto cx (tgt := 37) dX12_digest_86 (by decide) ?_
                    refine g_sub (lv2 := [(0, .ref 77), (1, .int (iI (r + 1)))]) [0, 1] rfl ?_
                    exact ih37 ((6 - (r + 1)).toNat) (by omega) (r + 1) u (by first | assumption | omega) (by rw [hst, hu]; congr 1; omega) (Nat.le_refl _)
                  · skip
                    have hrci := xrow_of hQ (r := r) (i := i) (by omega) (by omega)
                    refine g_aload_n cx (pc2 := 67) 0 rfl dX12_digest_66 rfl ?_
                    refine g_aload_n cx (pc2 := 68) 0 rfl dX12_digest_67 rfl ?_
                    refine g_iload_n cx (pc2 := 69) 1 rfl dX12_digest_68 rfl ?_
                    refine g_iload_n cx (pc2 := 70) 2 rfl dX12_digest_69 rfl ?_
                    refine g_callV cx (pc2 := 73) (st := [.ref 77]) (As := [.int (iI r), .int (iI i)]) (k0 := 77) (ci := 12) (c_X12_rowAt (M := (stM M 77 43 u)) hn r i (by unfold R6; omega) (by omega)) wM_X12_rowAt wV_X12_rowAt kl_X12_115 rfl (lt_lit hn (Nat.le_of_ble_eq_true rfl)) rfl ⟨rfl, rfl, Nat.le_of_ble_eq_true rfl, Nat.le_of_ble_eq_true rfl⟩ (Nat.le_of_ble_eq_true rfl) cs rfl rfl dX12_digest_70 rfl ?_
                    rintro _ _ ⟨rfl, rfl⟩
                    refine g_rwi (y := iI (rcA M r i)) (congrArg iI (by unfold rcA; rw [stM_off (by decide)])) ?_
                    refine g_i2l cx (pc2 := 74) (by first | assumption | omega) dX12_digest_73 rfl ?_
                    refine g_callV cx (pc2 := 77) (st := []) (As := [.long (lI (rcA M r i))]) (k0 := 77) (ci := 12) (c_X12_mix (M := (stM M 77 43 u)) hn (rcA M r i)) wM_X12_mix wV_X12_mix kl_X12_334 rfl (lt_lit hn (Nat.le_of_ble_eq_true rfl)) rfl ⟨rfl, rfl, Nat.le_of_ble_eq_true rfl, Nat.le_of_ble_eq_true rfl⟩ (Nat.le_of_ble_eq_true rfl) cs rfl rfl dX12_digest_74 rfl ?_
                    rintro _ _ ⟨rfl, rfl⟩
                    refine g_M (M2 := (stM M 77 43 (31 * u + rcA M r i))) (by exact hM_s M _ _) ?_
                    refine g_iinc cx (pc2 := 80) 2 rfl (lv2 := [(0, .ref 77), (1, .int (iI r)), (2, .int (iI (i + 1)))]) rfl (Nat.le_of_ble_eq_true rfl) dX12_digest_77 rfl ?_
                    refine g_goto cx (tgt := 56) dX12_digest_80 (by decide) ?_
                    exact ih56 ((M 79 r.toNat - (i + 1)).toNat) (by omega) (i + 1) (31 * u + rcA M r i) (by first | assumption | omega) (by exact hst2.symm) (Nat.le_refl _)
              exact L56 _ 0 (31 * t + M 79 r.toNat) (by first | assumption | omega) (by rfl) (Nat.le_refl _)
        exact L37 _ 0 (xmV M (mxF (fun w => xcnV M (w : Int)) 17 8)) (by first | assumption | omega) (by rfl) (Nat.le_refl _)
      · skip
        have hcw2 := hcw (by omega)
        refine g_aload_n cx (pc2 := 16) 0 rfl dX12_digest_15 rfl ?_
        refine g_aload_n cx (pc2 := 17) 0 rfl dX12_digest_16 rfl ?_
        refine g_iload_n cx (pc2 := 18) 1 rfl dX12_digest_17 rfl ?_
        refine g_callV cx (pc2 := 21) (st := [.ref 77]) (As := [.int (iI w)]) (k0 := 77) (ci := 12) (c_X12_counted (M := (stM M 77 43 t)) hn (by exact hV_h hV _) (by exact hQ_h hQ _) (by first | exact hT_h hT _ | exact TNX_h hTn _) w (by omega)) wM_X12_counted wV_X12_counted kl_X12_326 rfl (lt_lit hn (Nat.le_of_ble_eq_true rfl)) rfl ⟨rfl, rfl, Nat.le_of_ble_eq_true rfl, Nat.le_of_ble_eq_true rfl⟩ (Nat.le_of_ble_eq_true rfl) cs rfl rfl dX12_digest_18 rfl ?_
        rintro _ _ ⟨rfl, rfl⟩
        refine g_rwi (y := iI (xcnV M w)) (congrArg iI (xcnV_h M _ _)) ?_
        refine g_i2l cx (pc2 := 22) (by first | assumption | omega) dX12_digest_21 rfl ?_
        refine g_callV cx (pc2 := 25) (st := []) (As := [.long (lI (xcnV M w))]) (k0 := 77) (ci := 12) (c_X12_mix (M := (stM M 77 43 t)) hn (xcnV M w)) wM_X12_mix wV_X12_mix kl_X12_334 rfl (lt_lit hn (Nat.le_of_ble_eq_true rfl)) rfl ⟨rfl, rfl, Nat.le_of_ble_eq_true rfl, Nat.le_of_ble_eq_true rfl⟩ (Nat.le_of_ble_eq_true rfl) cs rfl rfl dX12_digest_22 rfl ?_
        rintro _ _ ⟨rfl, rfl⟩
        refine g_M (M2 := (stM M 77 43 (31 * t + xcnV M w))) (by exact hM_s M _ _) ?_
        refine g_iinc cx (pc2 := 28) 1 rfl (lv2 := [(0, .ref 77), (1, .int (iI (w + 1)))]) rfl (Nat.le_of_ble_eq_true rfl) dX12_digest_25 rfl ?_
        refine g_goto cx (tgt := 9) dX12_digest_28 (by decide) ?_
        exact ih9 ((8 - (w + 1)).toNat) (by omega) (w + 1) (31 * t + xcnV M w) (by first | assumption | omega) (by exact hst.symm) (Nat.le_refl _)
  exact L9 _ 0 17 (by first | assumption | omega) (by rfl) (Nat.le_refl _)
