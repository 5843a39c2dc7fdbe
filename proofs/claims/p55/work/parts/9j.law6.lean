theorem stF_lr {M : Mm} (h : CI M) (w : Int) (k : Nat) (hk : k ≤ 256) : ir (stF (gfA M w) k).1 ∧ (0 ≤ (stF (gfA M w) k).2 ∧ (stF (gfA M w) k).2 ≤ 144) := by
  have := stF_b (T := gfA M w) h.gf.2.1.1 k
  exact ⟨⟨by omega, by omega⟩, this.2⟩
theorem tdM_15 (M : Mm) (v : Int) : tdM M v 0 15 = v := stM_at _ _ _ _
set_option maxHeartbeats 4000000 in
set_option maxRecDepth 100000 in
theorem law_Q {X : Yq} {P : Pl} (cx : Yx X cL_law RL room_1 18 P) {b L : Nat} {xs : Nat → Int32} (sx : Sy X b L xs) (ez : Ez X) {P1 P2 : Pl} (ys : Ys X P1) (ysq : Ys X P2) {av au : Nat} {V : Nat → Int} (hg : GV V) {cs ss : Nat} (hcs : cs ≤ 1000 ∧ ss ≤ 1000000) {U : Nat → Int} (hmi : MI V U) {M N : Mm} (hM : VOK V M) (hN : VOK U N) : YG X 113 [(0, .ref b), (1, .ref (P1.2.1 0)), (2, .ref (P2.2.1 0)), (3, .ref av), (4, .ref au)] [] (wld P1 77 M ++ (wld P2 77 N ++ [ar P av 64 V, ar P au 64 U])) cs ss := by
  have hcr : cs ≤ room_1.cells ∧ ss ≤ room_1.slots := hcr_of ⟨by omega, by omega⟩
  have h9 := hg.2.1
  have h8 := GV_0 hg
  have hn77 : NN 77 := ⟨by decide, by decide⟩
  have h32 := (nN_5 hg).2
  have hpp := Nat.two_pow_pos (nN V)
  have hgU := MI_GV hg hmi
  have hb := bst_V hg hM.1.w
  have hbb := hb.b
  have hbm := bst_mi hg hmi hM.1.w hN.1.w
  have hM1 := VOK_kp hM (KP_best hM.2.2)
  have hN1 := VOK_kp hN (KP_best hN.2.2)
  have hM2 := VOK_kp hM1 (KP_sets hM1.2.2)
  have hN2 := VOK_kp hN1 (KP_sets hN1.2.2)
  have hs1 := (sets_V hg hM1.1.w).1
  have hsm := sets_mi hg hmi hM1.1.w hN1.1.w
  have hM3 := VOK_kp hM2 (KP_wise hM2.2.2)
  have hN3 := VOK_kp hN2 (KP_wise hN2.2.2)
  have hwm := wise_mi hg hmi hM2.1.w hN2.1.w 30
  have hww := wiF_W hM2.2.2 30 (Nat.le_refl 30)
  have hwi1 := hww.2.1
  have hwi2 := hww.2.2
  have hs3 := sets_V hg hM3.1.w
  have hM4 := VOK_kp hM3 (KP_sets hM3.2.2)
  have hcb := CNT_b V (2 ^ nN V)
  have hal1 := HW_al hM1.1.w
  have hal3 := HW_al hM3.1.w
  have ha8 := AL_lt V
  have ht1 := (stF_lr hM1.2.2 ((allN (bstM M 23 4) : Nat) : Int) (allN (bstM M 23 4) + 1) (by omega)).2
  have ht3 := (stF_lr hM3.2.2 ((allN ((tdM (wiF (setsM (bstM M)) 30).1 (wiF (setsM (bstM M)) 30).2.2) 23 4) : Nat) : Int) (allN ((tdM (wiF (setsM (bstM M)) 30).1 (wiF (setsM (bstM M)) 30).2.2) 23 4) + 1) (by omega)).2
  have e1 := setsM_15 (bstM M)
  have e1n := setsM_15 (bstM N)
  have e3 := setsM_15 (tdM (wiF (setsM (bstM M)) 30).1 (wiF (setsM (bstM M)) 30).2.2)
  have hle := wi_le hg hM2.1.w hs3.2 30
  have hbi : ir (bstA M) := by rcases hbb with q | q <;> exact ⟨by omega, by omega⟩
  have hci : ir (CNT V (2 ^ nN V)) := ⟨by omega, by omega⟩
  have hwi3 : ir (wiF (setsM (bstM M)) 30).2.1 := ⟨by omega, by omega⟩
  have hwi4 : ir (wiF (setsM (bstM M)) 30).2.2 := ⟨by omega, by omega⟩
  have hi1 : ir (setsM (bstM M) 0 15) := by rw [e1]; exact ⟨by omega, by omega⟩
  refine l_aload_n cx (pc2 := 114) 3 rfl dL_law_113 rfl ?_
  refine l_bipush cx (pc2 := 116) ⟨by decide, by decide⟩ dL_law_114 rfl ?_
  refine l_iaload cx (pc2 := 117) (N := 64) (V := V) (77 + (77 + 0)) (wR_get (wR_get rfl)) (by decide) (by decide) (Nat.le_of_ble_eq_true rfl) dL_law_116 rfl ?_
  refine l_rwi (y := iI (V 9)) rfl ?_
  refine l_istore cx (pc2 := 119) (lv2 := [(0, .ref b), (1, .ref (P1.2.1 0)), (2, .ref (P2.2.1 0)), (3, .ref av), (4, .ref au), (5, .int (iI (V 9)))]) rfl (Nat.le_of_ble_eq_true rfl) dL_law_117 rfl ?_
  refine l_aload_n cx (pc2 := 120) 1 rfl dL_law_119 rfl ?_
  refine l_ctI cx (pc2 := 123) (st := []) ys hn77 (M := M) (As := []) (c_X11_best (M := M) hn77 hM.2.2) wM_X11_best wV_X11_best rfl kl_L_80 ⟨rfl, rfl, Nat.le_of_ble_eq_true rfl, Nat.le_of_ble_eq_true rfl⟩ (Nat.le_of_ble_eq_true rfl) hcr rfl rfl rfl dL_law_120 rfl ?_
  refine l_istore cx (pc2 := 125) (lv2 := [(0, .ref b), (1, .ref (P1.2.1 0)), (2, .ref (P2.2.1 0)), (3, .ref av), (4, .ref au), (5, .int (iI (V 9))), (6, .int (iI (bstA M)))]) rfl (Nat.le_of_ble_eq_true rfl) dL_law_123 rfl ?_
  refine l_aload_n cx (pc2 := 126) 1 rfl dL_law_125 rfl ?_
  refine l_ctI cx (pc2 := 129) (st := []) ys hn77 (M := (bstM M)) (As := []) (c_X11_asked (M := (bstM M)) hn77) wM_X11_asked wV_X11_asked rfl kl_L_65 ⟨rfl, rfl, Nat.le_of_ble_eq_true rfl, Nat.le_of_ble_eq_true rfl⟩ (Nat.le_of_ble_eq_true rfl) hcr rfl rfl rfl dL_law_126 rfl ?_
  refine l_istore cx (pc2 := 131) (lv2 := [(0, .ref b), (1, .ref (P1.2.1 0)), (2, .ref (P2.2.1 0)), (3, .ref av), (4, .ref au), (5, .int (iI (V 9))), (6, .int (iI (bstA M))), (7, .int (iI (bstM M 0 15)))]) rfl (Nat.le_of_ble_eq_true rfl) dL_law_129 rfl ?_
  refine l_iload cx (pc2 := 133) 6 rfl dL_law_131 rfl ?_
  refine l_aload_n cx (pc2 := 134) 2 rfl dL_law_133 rfl ?_
  refine l_swp ?_
  refine l_ctI cx (pc2 := 137) (st := [.int (iI (bstA M))]) ysq hn77 (M := N) (As := []) (c_X11_best (M := N) hn77 hN.2.2) wM_X11_best wV_X11_best rfl kl_L_80 ⟨rfl, rfl, Nat.le_of_ble_eq_true rfl, Nat.le_of_ble_eq_true rfl⟩ (Nat.le_of_ble_eq_true rfl) hcr rfl rfl rfl dL_law_134 rfl ?_
  refine l_swp ?_
  refine l_rwi (y := iI (bstA M)) (congrArg iI hbm) ?_
  refine l_icmp_ne cx (pc2 := 140) (tgt := 184) ⟨(by exact hbi), (by exact hbi)⟩ dL_law_137 (by decide) rfl (fun h_1 => ?_) (fun h_1 => ?_)
  · skip
    exact absurd rfl h_1
  · skip
    refine l_aload_n cx (pc2 := 141) 1 rfl dL_law_140 rfl ?_
    refine l_ctI cx (pc2 := 144) (st := []) ys hn77 (M := (bstM M)) (As := []) (c_X11_sets (M := (bstM M)) hn77 hM1.2.2) wM_X11_sets wV_X11_sets rfl kl_L_83 ⟨rfl, rfl, Nat.le_of_ble_eq_true rfl, Nat.le_of_ble_eq_true rfl⟩ (Nat.le_of_ble_eq_true rfl) hcr rfl rfl rfl dL_law_141 rfl ?_
    refine l_rwi (y := iI (CNT V (2 ^ nN V))) (congrArg iI hs1) ?_
    refine l_aload_n cx (pc2 := 145) 2 rfl dL_law_144 rfl ?_
    refine l_swp ?_
    refine l_ctI cx (pc2 := 148) (st := [.int (iI (CNT V (2 ^ nN V)))]) ysq hn77 (M := (bstM N)) (As := []) (c_X11_sets (M := (bstM N)) hn77 hN1.2.2) wM_X11_sets wV_X11_sets rfl kl_L_83 ⟨rfl, rfl, Nat.le_of_ble_eq_true rfl, Nat.le_of_ble_eq_true rfl⟩ (Nat.le_of_ble_eq_true rfl) hcr rfl rfl rfl dL_law_145 rfl ?_
    refine l_swp ?_
    refine l_rwi (y := iI (CNT V (2 ^ nN V))) (by rw [hsm, hs1]) ?_
    refine l_icmp_ne cx (pc2 := 151) (tgt := 184) ⟨(by exact hci), (by exact hci)⟩ dL_law_148 (by decide) rfl (fun h_2 => ?_) (fun h_2 => ?_)
    · skip
      exact absurd rfl h_2
    · skip
      refine l_aload_n cx (pc2 := 152) 1 rfl dL_law_151 rfl ?_
      refine l_ctI cx (pc2 := 155) (st := []) ys hn77 (M := (setsM (bstM M))) (As := []) (c_X11_asked (M := (setsM (bstM M))) hn77) wM_X11_asked wV_X11_asked rfl kl_L_65 ⟨rfl, rfl, Nat.le_of_ble_eq_true rfl, Nat.le_of_ble_eq_true rfl⟩ (Nat.le_of_ble_eq_true rfl) hcr rfl rfl rfl dL_law_152 rfl ?_
      refine l_aload_n cx (pc2 := 156) 2 rfl dL_law_155 rfl ?_
      refine l_swp ?_
      refine l_ctI cx (pc2 := 159) (st := [.int (iI (setsM (bstM M) 0 15))]) ysq hn77 (M := (setsM (bstM N))) (As := []) (c_X11_asked (M := (setsM (bstM N))) hn77) wM_X11_asked wV_X11_asked rfl kl_L_65 ⟨rfl, rfl, Nat.le_of_ble_eq_true rfl, Nat.le_of_ble_eq_true rfl⟩ (Nat.le_of_ble_eq_true rfl) hcr rfl rfl rfl dL_law_156 rfl ?_
      refine l_swp ?_
      refine l_rwi (y := iI (setsM (bstM M) 0 15)) (by rw [e1n, hsm, ← e1]) ?_
      refine l_icmp_ne cx (pc2 := 162) (tgt := 184) ⟨(by exact hi1), (by exact hi1)⟩ dL_law_159 (by decide) rfl (fun h_3 => ?_) (fun h_3 => ?_)
      · skip
        exact absurd rfl h_3
      · skip
        refine l_aload_n cx (pc2 := 163) 1 rfl dL_law_162 rfl ?_
        refine l_ctI cx (pc2 := 166) (st := []) ys hn77 (M := (setsM (bstM M))) (As := []) (c_X11_wise (M := (setsM (bstM M))) hn77 hM2.2.2) wM_X11_wise wV_X11_wise rfl kl_L_86 ⟨rfl, rfl, Nat.le_of_ble_eq_true rfl, Nat.le_of_ble_eq_true rfl⟩ (Nat.le_of_ble_eq_true rfl) hcr rfl rfl rfl dL_law_163 rfl ?_
        refine l_aload_n cx (pc2 := 167) 2 rfl dL_law_166 rfl ?_
        refine l_swp ?_
        refine l_ctI cx (pc2 := 170) (st := [.int (iI ((wiF (setsM (bstM M)) 30).2.1))]) ysq hn77 (M := (setsM (bstM N))) (As := []) (c_X11_wise (M := (setsM (bstM N))) hn77 hN2.2.2) wM_X11_wise wV_X11_wise rfl kl_L_86 ⟨rfl, rfl, Nat.le_of_ble_eq_true rfl, Nat.le_of_ble_eq_true rfl⟩ (Nat.le_of_ble_eq_true rfl) hcr rfl rfl rfl dL_law_167 rfl ?_
        refine l_swp ?_
        refine l_rwi (y := iI ((wiF (setsM (bstM M)) 30).2.1)) (by rw [hwm]) ?_
        refine l_icmp_ne cx (pc2 := 173) (tgt := 184) ⟨(by exact hwi3), (by exact hwi3)⟩ dL_law_170 (by decide) rfl (fun h_4 => ?_) (fun h_4 => ?_)
        · skip
          exact absurd rfl h_4
        · skip
          refine l_aload_n cx (pc2 := 174) 1 rfl dL_law_173 rfl ?_
          refine l_ctI cx (pc2 := 177) (st := []) ys hn77 (M := (tdM (wiF (setsM (bstM M)) 30).1 (wiF (setsM (bstM M)) 30).2.2)) (As := []) (c_X11_asked (M := (tdM (wiF (setsM (bstM M)) 30).1 (wiF (setsM (bstM M)) 30).2.2)) hn77) wM_X11_asked wV_X11_asked rfl kl_L_65 ⟨rfl, rfl, Nat.le_of_ble_eq_true rfl, Nat.le_of_ble_eq_true rfl⟩ (Nat.le_of_ble_eq_true rfl) hcr rfl rfl rfl dL_law_174 rfl ?_
          refine l_rwi (y := iI ((wiF (setsM (bstM M)) 30).2.2)) (congrArg iI (tdM_15 _ _)) ?_
          refine l_aload_n cx (pc2 := 178) 2 rfl dL_law_177 rfl ?_
          refine l_swp ?_
          refine l_ctI cx (pc2 := 181) (st := [.int (iI ((wiF (setsM (bstM M)) 30).2.2))]) ysq hn77 (M := (tdM (wiF (setsM (bstM N)) 30).1 (wiF (setsM (bstM N)) 30).2.2)) (As := []) (c_X11_asked (M := (tdM (wiF (setsM (bstM N)) 30).1 (wiF (setsM (bstM N)) 30).2.2)) hn77) wM_X11_asked wV_X11_asked rfl kl_L_65 ⟨rfl, rfl, Nat.le_of_ble_eq_true rfl, Nat.le_of_ble_eq_true rfl⟩ (Nat.le_of_ble_eq_true rfl) hcr rfl rfl rfl dL_law_178 rfl ?_
          refine l_swp ?_
          refine l_rwi (y := iI ((wiF (setsM (bstM M)) 30).2.2)) (by rw [tdM_15, hwm]) ?_
          refine l_icmp_eq cx (pc2 := 184) (tgt := 186) ⟨(by exact hwi4), (by exact hwi4)⟩ dL_law_181 (by decide) rfl (fun h_5 => ?_) (fun h_5 => ?_)
          · skip
            refine l_aload_n cx (pc2 := 187) 1 rfl dL_law_186 rfl ?_
            refine l_ctI cx (pc2 := 190) (st := []) ys hn77 (M := (tdM (wiF (setsM (bstM M)) 30).1 (wiF (setsM (bstM M)) 30).2.2)) (As := []) (c_X11_asked (M := (tdM (wiF (setsM (bstM M)) 30).1 (wiF (setsM (bstM M)) 30).2.2)) hn77) wM_X11_asked wV_X11_asked rfl kl_L_65 ⟨rfl, rfl, Nat.le_of_ble_eq_true rfl, Nat.le_of_ble_eq_true rfl⟩ (Nat.le_of_ble_eq_true rfl) hcr rfl rfl rfl dL_law_187 rfl ?_
            refine l_rwi (y := iI ((wiF (setsM (bstM M)) 30).2.2)) (congrArg iI (tdM_15 _ _)) ?_
            refine l_istore cx (pc2 := 192) (lv2 := [(0, .ref b), (1, .ref (P1.2.1 0)), (2, .ref (P2.2.1 0)), (3, .ref av), (4, .ref au), (5, .int (iI (V 9))), (6, .int (iI (bstA M))), (7, .int (iI (bstM M 0 15))), (8, .int (iI ((wiF (setsM (bstM M)) 30).2.2)))]) rfl (Nat.le_of_ble_eq_true rfl) dL_law_190 rfl ?_
            refine l_aload_n cx (pc2 := 193) 1 rfl dL_law_192 rfl ?_
            refine l_ctI cx (pc2 := 196) (st := []) ys hn77 (M := (tdM (wiF (setsM (bstM M)) 30).1 (wiF (setsM (bstM M)) 30).2.2)) (As := []) (c_X11_sets (M := (tdM (wiF (setsM (bstM M)) 30).1 (wiF (setsM (bstM M)) 30).2.2)) hn77 hM3.2.2) wM_X11_sets wV_X11_sets rfl kl_L_83 ⟨rfl, rfl, Nat.le_of_ble_eq_true rfl, Nat.le_of_ble_eq_true rfl⟩ (Nat.le_of_ble_eq_true rfl) hcr rfl rfl rfl dL_law_193 rfl ?_
            refine l_rwi (y := iI (CNT V (2 ^ nN V))) (congrArg iI hs3.1) ?_
            refine l_istore cx (pc2 := 198) (lv2 := [(0, .ref b), (1, .ref (P1.2.1 0)), (2, .ref (P2.2.1 0)), (3, .ref av), (4, .ref au), (5, .int (iI (V 9))), (6, .int (iI (bstA M))), (7, .int (iI (bstM M 0 15))), (8, .int (iI ((wiF (setsM (bstM M)) 30).2.2))), (9, .int (iI (CNT V (2 ^ nN V))))]) rfl (Nat.le_of_ble_eq_true rfl) dL_law_196 rfl ?_
            refine l_aload_n cx (pc2 := 199) 1 rfl dL_law_198 rfl ?_
            refine l_ctI cx (pc2 := 202) (st := []) ys hn77 (M := (setsM (tdM (wiF (setsM (bstM M)) 30).1 (wiF (setsM (bstM M)) 30).2.2))) (As := []) (c_X11_asked (M := (setsM (tdM (wiF (setsM (bstM M)) 30).1 (wiF (setsM (bstM M)) 30).2.2))) hn77) wM_X11_asked wV_X11_asked rfl kl_L_65 ⟨rfl, rfl, Nat.le_of_ble_eq_true rfl, Nat.le_of_ble_eq_true rfl⟩ (Nat.le_of_ble_eq_true rfl) hcr rfl rfl rfl dL_law_199 rfl ?_
            refine l_istore cx (pc2 := 204) (lv2 := [(0, .ref b), (1, .ref (P1.2.1 0)), (2, .ref (P2.2.1 0)), (3, .ref av), (4, .ref au), (5, .int (iI (V 9))), (6, .int (iI (bstA M))), (7, .int (iI (bstM M 0 15))), (8, .int (iI ((wiF (setsM (bstM M)) 30).2.2))), (9, .int (iI (CNT V (2 ^ nN V)))), (10, .int (iI (setsM (tdM (wiF (setsM (bstM M)) 30).1 (wiF (setsM (bstM M)) 30).2.2) 0 15)))]) rfl (Nat.le_of_ble_eq_true rfl) dL_law_202 rfl ?_
            refine l_iconst cx (pc2 := 205) dL_law_204 rfl ?_
            refine l_istore cx (pc2 := 207) (lv2 := [(0, .ref b), (1, .ref (P1.2.1 0)), (2, .ref (P2.2.1 0)), (3, .ref av), (4, .ref au), (5, .int (iI (V 9))), (6, .int (iI (bstA M))), (7, .int (iI (bstM M 0 15))), (8, .int (iI ((wiF (setsM (bstM M)) 30).2.2))), (9, .int (iI (CNT V (2 ^ nN V)))), (10, .int (iI (setsM (tdM (wiF (setsM (bstM M)) 30).1 (wiF (setsM (bstM M)) 30).2.2) 0 15))), (11, .int (iI 0))]) rfl (Nat.le_of_ble_eq_true rfl) dL_law_205 rfl ?_
            refine l_iconst cx (pc2 := 208) dL_law_207 rfl ?_
            refine l_istore cx (pc2 := 210) (lv2 := [(0, .ref b), (1, .ref (P1.2.1 0)), (2, .ref (P2.2.1 0)), (3, .ref av), (4, .ref au), (5, .int (iI (V 9))), (6, .int (iI (bstA M))), (7, .int (iI (bstM M 0 15))), (8, .int (iI ((wiF (setsM (bstM M)) 30).2.2))), (9, .int (iI (CNT V (2 ^ nN V)))), (10, .int (iI (setsM (tdM (wiF (setsM (bstM M)) 30).1 (wiF (setsM (bstM M)) 30).2.2) 0 15))), (11, .int (iI 0)), (12, .int (iI 0))]) rfl (Nat.le_of_ble_eq_true rfl) dL_law_208 rfl ?_
            refine l_sub (lv2 := [(0, .ref b), (1, .ref (P1.2.1 0)), (2, .ref (P2.2.1 0)), (3, .ref av), (5, .int (iI (V 9))), (6, .int (iI (bstA M))), (7, .int (iI (bstM M 0 15))), (8, .int (iI ((wiF (setsM (bstM M)) 30).2.2))), (9, .int (iI (CNT V (2 ^ nN V)))), (10, .int (iI (setsM (tdM (wiF (setsM (bstM M)) 30).1 (wiF (setsM (bstM M)) 30).2.2) 0 15))), (11, .int (iI 0)), (12, .int (iI 0))]) [0, 1, 2, 3, 5, 6, 7, 8, 9, 10, 11, 12] rfl ?_
            exact law_S0 cx sx ez ys ysq 0 rfl hg hmi hcs hb (fun T hT => bst_eq hg hM.1.w hT) (fun q => bst_told hg hM.1.w q) rfl ⟨⟨hwi2.1, hle⟩, by rw [e3]; exact ht3.2⟩ hs3.2 hM4 hN3
          · skip
            exact absurd rfl h_5
set_option maxHeartbeats 4000000 in
set_option maxRecDepth 100000 in
theorem law_V3 {X : Yq} {P : Pl} (cx : Yx X cL_law RL room_1 18 P) {b L : Nat} {xs : Nat → Int32} (sx : Sy X b L xs) (ez : Ez X) {P1 P2 : Pl} (ys : Ys X P1) (ysq : Ys X P2) {av au : Nat} {V : Nat → Int} (hg : GV V) {cs ss : Nat} (hcs : cs ≤ 1000 ∧ ss ≤ 1000000) {U : Nat → Int} (hmi : MI V U) {M N : Mm} (hM : VOK V M) (hN : VOK U N) : YG X 108 [(0, .ref b), (1, .ref (P1.2.1 0)), (2, .ref (P2.2.1 0)), (3, .ref av), (4, .ref au)] [.int (iI 1)] (wld P1 77 M ++ (wld P2 77 N ++ [ar P av 64 V, ar P au 64 U])) cs ss := by
  have hcr : cs ≤ room_1.cells ∧ ss ≤ room_1.slots := hcr_of ⟨by omega, by omega⟩
  have h9 := hg.2.1
  have h8 := GV_0 hg
  have hn77 : NN 77 := ⟨by decide, by decide⟩
  refine l_if_ne cx (pc2 := 111) (tgt := 113) ⟨by decide, by decide⟩ dL_law_108 (by decide) rfl (fun h_1 => ?_) (fun h_1 => ?_)
  · skip
    exact law_Q cx sx ez ys ysq hg hcs hmi hM hN
  · skip
    omega
set_option maxHeartbeats 4000000 in
set_option maxRecDepth 100000 in
theorem law_V2 {X : Yq} {P : Pl} (cx : Yx X cL_law RL room_1 18 P) {b L : Nat} {xs : Nat → Int32} (sx : Sy X b L xs) (ez : Ez X) {P1 P2 : Pl} (ys : Ys X P1) (ysq : Ys X P2) {av au : Nat} {V : Nat → Int} (hg : GV V) {cs ss : Nat} (hcs : cs ≤ 1000 ∧ ss ≤ 1000000) {U : Nat → Int} (hmi : MI V U) {M N : Mm} (hM : VOK V M) (hcN : CI N) : YG X 99 [(0, .ref b), (1, .ref (P1.2.1 0)), (2, .ref (P2.2.1 0)), (3, .ref av), (4, .ref au)] [.int (iI 1)] (wld P1 77 M ++ (wld P2 77 N ++ [ar P av 64 V, ar P au 64 U])) cs ss := by
  have hcr : cs ≤ room_1.cells ∧ ss ≤ room_1.slots := hcr_of ⟨by omega, by omega⟩
  have h9 := hg.2.1
  have h8 := GV_0 hg
  have hn77 : NN 77 := ⟨by decide, by decide⟩
  have hV2 : (wld P1 77 M ++ [ar P av 64 V, ar P au 64 U])[77 + 1]? = some (ar P2 au 64 U) := by rw [wR_get (x := ar P au 64 U) rfl, ys_ar cx ysq]
  refine l_if_eq cx (pc2 := 102) (tgt := 111) ⟨by decide, by decide⟩ dL_law_99 (by decide) rfl (fun h_1 => ?_) (fun h_1 => ?_)
  · skip
    omega
  · skip
    refine l_aload_n cx (pc2 := 103) 2 rfl dL_law_102 rfl ?_
    refine l_aload cx (pc2 := 105) 4 rfl dL_law_103 rfl ?_
    refine l_swp ?_
    refine l_callS cx (pc2 := 108) (st := []) ysq sx (As := [.ref (P2.2.1 0), .ref au]) (c_L_village hn77 hcN (77 + 1) hV2 (MI_GV hg hmi)) wM_L_village wS_L_village kl_L_77 ⟨rfl, rfl, Nat.le_of_ble_eq_true rfl, Nat.le_of_ble_eq_true rfl⟩ (Nat.le_of_ble_eq_true rfl) hcr rfl rfl dL_law_105 rfl ?_
    rintro r w2 ⟨rfl, N2, hr, rfl⟩
    refine l_swp ?_
    exact law_V3 cx sx ez ys ysq hg hcs hmi hM hr
set_option maxHeartbeats 4000000 in
set_option maxRecDepth 100000 in
theorem law_V1 {X : Yq} {P : Pl} (cx : Yx X cL_law RL room_1 18 P) {b L : Nat} {xs : Nat → Int32} (sx : Sy X b L xs) (ez : Ez X) {P1 P2 : Pl} (ys : Ys X P1) (ysq : Ys X P2) {av au : Nat} {V : Nat → Int} (hg : GV V) {cs ss : Nat} (hcs : cs ≤ 1000 ∧ ss ≤ 1000000) {U : Nat → Int} (hmi : MI V U) {M N : Mm} (hcM : CI M) (hcN : CI N) : YG X 94 [(0, .ref b), (1, .ref (P1.2.1 0)), (2, .ref (P2.2.1 0)), (3, .ref av), (4, .ref au)] [] (wld P1 77 M ++ (wld P2 77 N ++ [ar P av 64 V, ar P au 64 U])) cs ss := by
  have hcr : cs ≤ room_1.cells ∧ ss ≤ room_1.slots := hcr_of ⟨by omega, by omega⟩
  have h9 := hg.2.1
  have h8 := GV_0 hg
  have hn77 : NN 77 := ⟨by decide, by decide⟩
  have hV1 : (wld P2 77 N ++ [ar P av 64 V, ar P au 64 U])[77 + 0]? = some (ar P1 av 64 V) := by rw [wR_get (x := ar P av 64 V) rfl, ys_ar cx ys]
  refine l_aload_n cx (pc2 := 95) 1 rfl dL_law_94 rfl ?_
  refine l_aload_n cx (pc2 := 96) 3 rfl dL_law_95 rfl ?_
  refine l_callS cx (pc2 := 99) (st := []) ys sx (As := [.ref (P1.2.1 0), .ref av]) (c_L_village hn77 hcM (77 + 0) hV1 hg) wM_L_village wS_L_village kl_L_77 ⟨rfl, rfl, Nat.le_of_ble_eq_true rfl, Nat.le_of_ble_eq_true rfl⟩ (Nat.le_of_ble_eq_true rfl) hcr rfl rfl dL_law_96 rfl ?_
  rintro r w2 ⟨rfl, M2, hr, rfl⟩
  exact law_V2 cx sx ez ys ysq hg hcs hmi hr hcN
theorem sW.rf : ∀ w : va_W, sW w w
  | [] => trivial
  | q :: w => ⟨rfl, sE.rf rfl, sW.rf w⟩
theorem l_arE {X : Yq} {pc cs ss : Nat} {lv : List (Nat × Value)} {st : List Value} {w w1 : va_W} {x : Nat × va_E} {P : Pl} {au : Nat} {U U2 : Nat → Int} (h : ∀ j, j < 64 → U j = U2 j) (k : YG X pc lv st (w ++ (w1 ++ [x, ar P au 64 U2])) cs ss) : YG X pc lv st (w ++ (w1 ++ [x, ar P au 64 U])) cs ss :=
  y_sw (w2 := w ++ (w1 ++ [x, ar P au 64 U2])) (sW.app (sW.rf w) (sW.app (sW.rf w1) (show sW [x, ar P au 64 U] [x, ar P au 64 U2] from ⟨rfl, sE.rf rfl, rfl, sE.i (fun j hj => congrArg iI (h j hj)), trivial⟩))) k
set_option maxHeartbeats 4000000 in
set_option maxRecDepth 100000 in
theorem law_A2 {X : Yq} {P : Pl} (cx : Yx X cL_law RL room_1 18 P) {b L : Nat} {xs : Nat → Int32} (sx : Sy X b L xs) (ez : Ez X) {P1 P2 : Pl} (ys : Ys X P1) (ysq : Ys X P2) {av au : Nat} {V : Nat → Int} (hg : GV V) {cs ss : Nat} (hcs : cs ≤ 1000 ∧ ss ≤ 1000000) {M N : Mm} (hcM : CI M) (hcN : CI N) : ∀ (fu : Nat) (U : Nat → Int) (i : Int), (∀ j : Nat, j < 64 → U j = if 1 ≤ j ∧ (j : Int) ≤ i then 15 - V j else V j) → (0 ≤ i ∧ i ≤ V 0) → ((V 0 - i).toNat) ≤ fu → YG X 64 [(0, .ref b), (1, .ref (P1.2.1 0)), (2, .ref (P2.2.1 0)), (3, .ref av), (4, .ref au), (5, .int (iI i))] [] (wld P1 77 M ++ (wld P2 77 N ++ [ar P av 64 V, ar P au 64 U])) cs ss := by
  intro fu
  induction fu using Nat.strongRecOn with
  | _ fu ih =>
    intro U i hU hi hfu
    have hcr : cs ≤ room_1.cells ∧ ss ≤ room_1.slots := hcr_of ⟨by omega, by omega⟩
    have h9 := hg.2.1
    have h8 := GV_0 hg
    have hn77 : NN 77 := ⟨by decide, by decide⟩
    refine l_iload cx (pc2 := 66) 5 rfl dL_law_64 rfl ?_
    refine l_aload_n cx (pc2 := 67) 3 rfl dL_law_66 rfl ?_
    refine l_iconst cx (pc2 := 68) dL_law_67 rfl ?_
    refine l_iaload cx (pc2 := 69) (N := 64) (V := V) (77 + (77 + 0)) (wR_get (wR_get rfl)) (by first | assumption | omega | exact hg.1.1 _ | exact ⟨by omega, by omega⟩) (by first | assumption | omega | exact hg.1.1 _ | exact ⟨by omega, by omega⟩) (Nat.le_of_ble_eq_true rfl) dL_law_68 rfl ?_
    refine l_rwi (y := iI (V 0)) rfl ?_
    refine l_icmp_ge cx (pc2 := 72) (tgt := 94) ⟨(by first | assumption | omega | exact hg.1.1 _ | exact ⟨by omega, by omega⟩), (by first | assumption | omega | exact hg.1.1 _ | exact ⟨by omega, by omega⟩)⟩ dL_law_69 (by decide) rfl (fun h_1 => ?_) (fun h_1 => ?_)
    · skip
      refine l_sub (lv2 := [(0, .ref b), (1, .ref (P1.2.1 0)), (2, .ref (P2.2.1 0)), (3, .ref av), (4, .ref au)]) [0, 1, 2, 3, 4] rfl ?_
      have ei : i = V 0 := by omega
      subst ei
      refine l_arE (U2 := fun j => if 1 ≤ j ∧ (j : Int) ≤ V 0 then 15 - V j else V j) hU ?_
      exact law_V1 cx sx ez ys ysq hg hcs (fun _ => rfl) hcM hcN
    · skip
      refine l_aload cx (pc2 := 74) 4 rfl dL_law_72 rfl ?_
      refine l_iconst cx (pc2 := 75) dL_law_74 rfl ?_
      refine l_iload cx (pc2 := 77) 5 rfl dL_law_75 rfl ?_
      refine l_iadd cx (pc2 := 78) dL_law_77 rfl ?_
      refine l_bipush cx (pc2 := 80) ⟨by decide, by decide⟩ dL_law_78 rfl ?_
      refine l_aload_n cx (pc2 := 81) 3 rfl dL_law_80 rfl ?_
      refine l_iconst cx (pc2 := 82) dL_law_81 rfl ?_
      refine l_iload cx (pc2 := 84) 5 rfl dL_law_82 rfl ?_
      refine l_iadd cx (pc2 := 85) dL_law_84 rfl ?_
      refine l_iaload cx (pc2 := 86) (N := 64) (V := V) (77 + (77 + 0)) (wR_get (wR_get rfl)) (by first | assumption | omega | exact hg.1.1 _ | exact ⟨by omega, by omega⟩) (by first | assumption | omega | exact hg.1.1 _ | exact ⟨by omega, by omega⟩) (Nat.le_of_ble_eq_true rfl) dL_law_85 rfl ?_
      refine l_isub cx (pc2 := 87) dL_law_86 rfl ?_
      refine l_iastore cx (pc2 := 88) (N := 64) (V := U) (77 + (77 + 1)) (wR_get (wR_get rfl)) (by first | assumption | omega | exact hg.1.1 _ | exact ⟨by omega, by omega⟩) (by first | assumption | omega | exact hg.1.1 _ | exact ⟨by omega, by omega⟩) (Nat.le_of_ble_eq_true rfl) dL_law_87 rfl ?_
      refine l_W (w2 := (wld P1 77 M ++ (wld P2 77 N ++ [ar P av 64 V, ar P au 64 (uM U ((1 + i)).toNat (15 - (V ((1 + i)).toNat)))]))) (by rw [wR_set, wR_set]; rfl) ?_
      refine l_iinc cx (pc2 := 91) 5 rfl (lv2 := [(0, .ref b), (1, .ref (P1.2.1 0)), (2, .ref (P2.2.1 0)), (3, .ref av), (4, .ref au), (5, .int (iI (i + 1)))]) rfl (Nat.le_of_ble_eq_true rfl) dL_law_88 rfl ?_
      refine l_goto cx (tgt := 64) dL_law_91 (by decide) ?_
      refine ih _ (by omega) _ (i + 1) (fun j hj => ?_) (by omega) (Nat.le_refl _)
      by_cases z : j = (1 + i).toNat
      · subst z
        rw [uM_at, if_pos (by omega)]
      · rw [uM_ne _ _ z, hU j hj]
        by_cases y : 1 ≤ j ∧ (j : Int) ≤ i
        · rw [if_pos y, if_pos (by omega)]
        · rw [if_neg y, if_neg (by omega)]
set_option maxHeartbeats 4000000 in
set_option maxRecDepth 100000 in
theorem law_A1 {X : Yq} {P : Pl} (cx : Yx X cL_law RL room_1 18 P) {b L : Nat} {xs : Nat → Int32} (sx : Sy X b L xs) (ez : Ez X) {P1 P2 : Pl} (ys : Ys X P1) (ysq : Ys X P2) {av au : Nat} {V : Nat → Int} (hg : GV V) {cs ss : Nat} (hcs : cs ≤ 1000 ∧ ss ≤ 1000000) {M N : Mm} (hcM : CI M) (hcN : CI N) : ∀ (fu : Nat) (U : Nat → Int) (i : Int), (∀ j : Nat, (j : Int) < i → U j = V j) → (0 ≤ i ∧ i ≤ 64) → ((64 - i).toNat) ≤ fu → YG X 39 [(0, .ref b), (1, .ref (P1.2.1 0)), (2, .ref (P2.2.1 0)), (3, .ref av), (4, .ref au), (5, .int (iI i))] [] (wld P1 77 M ++ (wld P2 77 N ++ [ar P av 64 V, ar P au 64 U])) cs ss := by
  intro fu
  induction fu using Nat.strongRecOn with
  | _ fu ih =>
    intro U i hU hi hfu
    have hcr : cs ≤ room_1.cells ∧ ss ≤ room_1.slots := hcr_of ⟨by omega, by omega⟩
    have h9 := hg.2.1
    have h8 := GV_0 hg
    have hn77 : NN 77 := ⟨by decide, by decide⟩
    refine l_iload cx (pc2 := 41) 5 rfl dL_law_39 rfl ?_
    refine l_bipush cx (pc2 := 43) ⟨by decide, by decide⟩ dL_law_41 rfl ?_
    refine l_icmp_ge cx (pc2 := 46) (tgt := 61) ⟨(by first | assumption | omega | exact hg.1.1 _ | exact ⟨by omega, by omega⟩), ⟨by decide, by decide⟩⟩ dL_law_43 (by decide) rfl (fun h_1 => ?_) (fun h_1 => ?_)
    · skip
      refine l_sub (lv2 := [(0, .ref b), (1, .ref (P1.2.1 0)), (2, .ref (P2.2.1 0)), (3, .ref av), (4, .ref au)]) [0, 1, 2, 3, 4] rfl ?_
      refine l_iconst cx (pc2 := 62) dL_law_61 rfl ?_
      refine l_istore cx (pc2 := 64) (lv2 := [(0, .ref b), (1, .ref (P1.2.1 0)), (2, .ref (P2.2.1 0)), (3, .ref av), (4, .ref au), (5, .int (iI 0))]) rfl (Nat.le_of_ble_eq_true rfl) dL_law_62 rfl ?_
      exact law_A2 cx sx ez ys ysq hg hcs hcM hcN _ U 0 (fun j hj => by rw [if_neg (by omega)]; exact hU j (by omega)) (by omega) (Nat.le_refl _)
    · skip
      refine l_aload cx (pc2 := 48) 4 rfl dL_law_46 rfl ?_
      refine l_iload cx (pc2 := 50) 5 rfl dL_law_48 rfl ?_
      refine l_aload_n cx (pc2 := 51) 3 rfl dL_law_50 rfl ?_
      refine l_iload cx (pc2 := 53) 5 rfl dL_law_51 rfl ?_
      refine l_iaload cx (pc2 := 54) (N := 64) (V := V) (77 + (77 + 0)) (wR_get (wR_get rfl)) (by first | assumption | omega | exact hg.1.1 _ | exact ⟨by omega, by omega⟩) (by first | assumption | omega | exact hg.1.1 _ | exact ⟨by omega, by omega⟩) (Nat.le_of_ble_eq_true rfl) dL_law_53 rfl ?_
      refine l_iastore cx (pc2 := 55) (N := 64) (V := U) (77 + (77 + 1)) (wR_get (wR_get rfl)) (by first | assumption | omega | exact hg.1.1 _ | exact ⟨by omega, by omega⟩) (by first | assumption | omega | exact hg.1.1 _ | exact ⟨by omega, by omega⟩) (Nat.le_of_ble_eq_true rfl) dL_law_54 rfl ?_
      refine l_W (w2 := (wld P1 77 M ++ (wld P2 77 N ++ [ar P av 64 V, ar P au 64 (uM U (i).toNat (V (i).toNat))]))) (by rw [wR_set, wR_set]; rfl) ?_
      refine l_iinc cx (pc2 := 58) 5 rfl (lv2 := [(0, .ref b), (1, .ref (P1.2.1 0)), (2, .ref (P2.2.1 0)), (3, .ref av), (4, .ref au), (5, .int (iI (i + 1)))]) rfl (Nat.le_of_ble_eq_true rfl) dL_law_55 rfl ?_
      refine l_goto cx (tgt := 39) dL_law_58 (by decide) ?_
      refine ih _ (by omega) _ (i + 1) (fun j hj => ?_) (by omega) (Nat.le_refl _)
      by_cases z : j = i.toNat
      · subst z
        rw [uM_at]
      · rw [uM_ne _ _ z]
        exact hU j (by omega)
