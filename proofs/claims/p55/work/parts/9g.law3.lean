theorem mu_and {V : Nat → Int} {b : Int} (hb : 0 ≤ b) (h : ndN (muN V) b.toNat = 0) : iI b &&& iI ((muN V : Nat) : Int) = iI ((muN V : Nat) : Int) := by
  rw [and_iI hb (Int.natCast_nonneg _), Int.toNat_natCast]
  have e : b.toNat &&& muN V = muN V := by
    apply Nat.eq_of_testBit_eq
    intro k
    rw [Nat.testBit_and]
    by_cases q : (muN V).testBit k = true
    · rw [ndN_0.mp h k q, q]
      rfl
    · rw [Bool.not_eq_true] at q
      rw [q, Bool.and_false]
  rw [e]
theorem must_bit {V : Nat → Int} {i : Int} (h0 : 0 ≤ i) (h : ¬ mustP V i) : (muN V).testBit i.toNat = false := by
  unfold muN
  rw [bsum_bit, muB_f h0 h, Bool.and_false]
/-- what costs of a NEED tell, as the law asks it -/
theorem COS.q {V : Nat → Int} {b c i : Int} (h0 : 0 ≤ i) (h : COS V b c i.toNat) : ((b = -9 → c = -9) ∧ (c = -9 ∨ (-45 ≤ c ∧ c ≤ 45))) ∧ (¬ c = -9 → (if b.toNat.testBit i.toNat = true then (1 : Int) else 0) ≠ 1 → c = 0) ∧ (¬ c = -9 → (if b.toNat.testBit i.toNat = true then (1 : Int) else 0) = 1 → ¬ mustP V i → 0 ≤ c) := by
  refine ⟨⟨h.1, h.2.1⟩, fun h9 q => (h.2.2 h9).1 ?_, fun h9 q hm => (h.2.2 h9).2 ?_ (must_bit h0 hm)⟩
  · by_cases z : b.toNat.testBit i.toNat = true
    · rw [if_pos z] at q
      exact absurd rfl q
    · exact Bool.not_eq_true _ ▸ z
  · by_cases z : b.toNat.testBit i.toNat = true
    · exact z
    · rw [if_neg z] at q
      exact absurd q (by decide)
theorem bst_eq {V : Nat → Int} {M N : Mm} (hg : GV V) (hM : HW V M) (hN : HW V N) : bstA N = bstA M := by
  unfold bstA bpM
  rw [HW_al hM, HW_al hN, HW_mu hM, HW_mu hN]
  rw [bpF_eq2 (T := gfA N ((AL V : Nat) : Int)) (S := gfA M ((AL V : Nat) : Int)) (fun j hj => ?_) (fun j => ?_)]
  · rw [Int.toNat_natCast] at hj
    have hlt := nd_AL.mp hj
    rw [gf_ENV hg hM hlt (by rw [Int.toNat_natCast]; exact hj), gf_ENV hg hN hlt (by rw [Int.toNat_natCast]; exact hj)]
  · rw [ws_WV (gf_J hg hM _), ws_WV (gf_J hg hN _)]
theorem BST.b {V : Nat → Int} {b : Int} (h : BST V b) : b = -9 ∨ (0 ≤ b ∧ b < ((2 ^ nN V : Nat) : Int)) := by
  rcases h with ⟨h, _⟩ | ⟨m, h1, _, rfl, _⟩
  · exact Or.inl h
  · exact Or.inr ⟨Int.natCast_nonneg _, by omega⟩
theorem BST.f {V : Nat → Int} {b : Int} (h : BST V b) (h9 : ¬ b = -9) : ¬ ENV V b.toNat = -9 ∧ ndN (muN V) b.toNat = 0 := by
  rcases h with ⟨h, _⟩ | ⟨m, h1, h2, rfl, _⟩
  · exact absurd h h9
  · rw [Int.toNat_natCast]
    exact ⟨h2.2.2, h2.2.1⟩
set_option maxHeartbeats 4000000 in
set_option maxRecDepth 100000 in
theorem law_C3 {X : Yq} {P : Pl} (cx : Yx X cL_law RL room_1 18 P) {b L : Nat} {xs : Nat → Int32} (sx : Sy X b L xs) (ez : Ez X) {P1 : Pl} (ys : Ys X P1) {n : Nat} (hn : NN n) {R : va_W} {av : Nat} {V : Nat → Int} (q0 : Nat) (hV : R[q0]? = some (ar P av 64 V)) (hg : GV V) {cs ss : Nat} (hcs : cs ≤ 599000 ∧ ss ≤ 7300000) {b0 most : Int} (hb : BST V b0) (hbq : ∀ N, HW V N → bstA N = b0) (hm : ¬ b0 = -9 → most = WV V b0.toNat) : ∀ (fu : Nat) (M : Mm) (i : Int), (VOK V M) → (0 ≤ i ∧ i ≤ V 0) → ((V 0 - i).toNat) ≤ fu → YG X 627 [(0, .ref b), (1, .ref (P1.2.1 0)), (3, .ref av), (5, .int (iI (V 9))), (6, .int (iI b0)), (7, .int (iI most)), (12, .int (iI i))] [] (wld P1 n M ++ R) cs ss := by
  intro fu
  induction fu using Nat.strongRecOn with
  | _ fu ih =>
    intro M i hM hi hfu
    have hcr := hcr_of hcs
    have hV1 : R[q0]? = some (ar P1 av 64 V) := by rw [ys_ar cx ys]; exact hV
    have h9 := hg.2.1
    have h32 := (nN_5 hg).2
    have h8 := GV_0 hg
    have hbb := hb.b
    have hmb : ¬ b0 = -9 → 0 ≤ most ∧ most ≤ 45 := fun q => by rw [hm q]; exact WV_b hg _
    have hnn : ((nN V : Nat) : Int) = V 9 := Int.toNat_of_nonneg h9.1
    have hwb := WV_b hg (AL V)
    have hpp := Nat.two_pow_pos (nN V)
    refine l_iload cx (pc2 := 629) 6 rfl dL_law_627 rfl ?_
    refine l_aload_n cx (pc2 := 630) 2 rfl dL_law_629 rfl ?_
    refine l_iconst cx (pc2 := 631) dL_law_630 rfl ?_
    refine l_iaload cx (pc2 := 632) (N := 64) (V := V) (n + q0) (wR_get hV) (by first | assumption | omega | exact hg.1.1 _ | exact ⟨by omega, by omega⟩) (by first | assumption | omega | exact hg.1.1 _ | exact ⟨by omega, by omega⟩) (Nat.le_of_ble_eq_true rfl) dL_law_631 rfl ?_
    refine l_rwi (y := iI (V 0)) rfl ?_
    refine l_icmp_ge cx (pc2 := 635) (tgt := 694) ⟨(by first | assumption | omega | exact hg.1.1 _ | exact ⟨by omega, by omega⟩), (by first | assumption | omega | exact hg.1.1 _ | exact ⟨by omega, by omega⟩)⟩ dL_law_632 (by decide) rfl (fun h_1 => ?_) (fun h_1 => ?_)
    · skip
      refine l_sub (lv2 := [(0, .ref b), (1, .ref (P1.2.1 0)), (3, .ref av), (5, .int (iI (V 9)))]) [0, 1, 2, 3] rfl ?_
      exact law_D1 cx sx ez ys hn q0 hV hg hcs hM
    · skip
      refine l_aload_n cx (pc2 := 636) 1 rfl dL_law_635 rfl ?_
      refine l_iload cx (pc2 := 638) 6 rfl dL_law_636 rfl ?_
      have hsec := sec_V hg hM.1.w hM.2.2 (h := i) (by omega) hb hm
      have hsb := hsec.1
      have hM2 := VOK_kp hM (KP_sec hM.2.2 i)
      refine l_ctI cx (pc2 := 641) (st := []) ys hn (M := M) (As := [.int (iI i)]) (c_X11_second (M := M) hn hM.2.2 i ⟨by omega, by omega⟩) wM_X11_second wV_X11_second rfl kl_L_110 ⟨rfl, rfl, Nat.le_of_ble_eq_true rfl, Nat.le_of_ble_eq_true rfl⟩ (Nat.le_of_ble_eq_true rfl) hcr rfl rfl rfl dL_law_638 rfl ?_
      refine l_istore cx (pc2 := 643) (lv2 := [(0, .ref b), (1, .ref (P1.2.1 0)), (3, .ref av), (5, .int (iI (V 9))), (6, .int (iI b0)), (7, .int (iI most)), (12, .int (iI i)), (13, .int (iI (secA M i)))]) rfl (Nat.le_of_ble_eq_true rfl) dL_law_641 rfl ?_
      refine l_aload_n cx (pc2 := 644) 1 rfl dL_law_643 rfl ?_
      refine l_ctI cx (pc2 := 647) (st := []) ys hn (M := (secM M i)) (As := []) (c_X11_asked (M := (secM M i)) hn) wM_X11_asked wV_X11_asked rfl kl_L_65 ⟨rfl, rfl, Nat.le_of_ble_eq_true rfl, Nat.le_of_ble_eq_true rfl⟩ (Nat.le_of_ble_eq_true rfl) hcr rfl rfl rfl dL_law_644 rfl ?_
      refine l_istore cx (pc2 := 649) (lv2 := [(0, .ref b), (1, .ref (P1.2.1 0)), (3, .ref av), (5, .int (iI (V 9))), (6, .int (iI b0)), (7, .int (iI most)), (12, .int (iI i)), (13, .int (iI (secA M i))), (14, .int (iI (secM M i 0 15)))]) rfl (Nat.le_of_ble_eq_true rfl) dL_law_647 rfl ?_
      refine l_iload cx (pc2 := 651) 4 rfl dL_law_649 rfl ?_
      refine l_if_lt cx (pc2 := 654) (tgt := 671) (by first | assumption | omega | exact hg.1.1 _ | exact ⟨by omega, by omega⟩) dL_law_651 (by decide) rfl (fun h_2 => ?_) (fun h_2 => ?_)
      · skip
        refine l_iload cx (pc2 := 673) 7 rfl dL_law_671 rfl ?_
        refine l_aload_n cx (pc2 := 674) 2 rfl dL_law_673 rfl ?_
        refine l_iconst cx (pc2 := 675) dL_law_674 rfl ?_
        refine l_iload cx (pc2 := 677) 3 rfl dL_law_675 rfl ?_
        refine l_ishl cx (pc2 := 678) dL_law_677 rfl ?_
        refine l_rwi (y := iI ((2 ^ nN V : Nat) : Int)) (sh1 (by omega) (by omega)) ?_
        refine l_iconst cx (pc2 := 679) dL_law_678 rfl ?_
        refine l_isub cx (pc2 := 680) dL_law_679 rfl ?_
        refine l_clI cx (pc2 := 683) (st := [.int (iI (secA M i))]) ys sx (As := [.ref av, .int (iI (((2 ^ nN V : Nat) : Int) - 1))]) (c_L_worth (n + q0) (wR_get hV1) hg.1.1 (by omega) (((2 ^ nN V : Nat) : Int) - 1) (by omega)) wM_L_worth wS_L_worth kl_L_59 ⟨rfl, rfl, Nat.le_of_ble_eq_true rfl, Nat.le_of_ble_eq_true rfl⟩ (Nat.le_of_ble_eq_true rfl) hcr rfl rfl dL_law_680 rfl ?_
        refine l_rwi (y := iI (WV V (AL V))) (by rw [WV_wo, show (((2 ^ nN V : Nat) : Int) - 1).toNat = 2 ^ nN V - 1 by omega]) ?_
        refine l_icmp_le cx (pc2 := 686) (tgt := 688) ⟨(by first | assumption | omega | exact hg.1.1 _ | exact ⟨by omega, by omega⟩), (by first | assumption | omega | exact hg.1.1 _ | exact ⟨by omega, by omega⟩)⟩ dL_law_683 (by decide) rfl (fun h_3 => ?_) (fun h_3 => ?_)
        · skip
          refine l_iinc cx (pc2 := 691) 6 rfl (lv2 := [(0, .ref b), (1, .ref (P1.2.1 0)), (3, .ref av), (5, .int (iI (V 9))), (6, .int (iI b0)), (7, .int (iI most)), (12, .int (iI (i + 1))), (13, .int (iI (secA M i))), (14, .int (iI (secM M i 0 15)))]) rfl (Nat.le_of_ble_eq_true rfl) dL_law_688 rfl ?_
          refine l_goto cx (tgt := 627) dL_law_691 (by decide) ?_
          refine l_sub (lv2 := [(0, .ref b), (1, .ref (P1.2.1 0)), (3, .ref av), (5, .int (iI (V 9))), (6, .int (iI b0)), (7, .int (iI most)), (12, .int (iI (i + 1)))]) [0, 1, 2, 3, 4, 5, 6] rfl ?_
          exact ih _ (by omega) _ (i + 1) hM2 (by omega) (Nat.le_refl _)
        · skip
          omega
      · skip
        have hs2 := hsec.2 (by omega)
        have hmb2 := hmb (by omega)
        refine l_iload cx (pc2 := 656) 7 rfl dL_law_654 rfl ?_
        refine l_iload cx (pc2 := 658) 5 rfl dL_law_656 rfl ?_
        refine l_icmp_lt cx (pc2 := 661) (tgt := 686) ⟨(by first | assumption | omega | exact hg.1.1 _ | exact ⟨by omega, by omega⟩), (by first | assumption | omega | exact hg.1.1 _ | exact ⟨by omega, by omega⟩)⟩ dL_law_658 (by decide) rfl (fun h_4 => ?_) (fun h_4 => ?_)
        · skip
          omega
        · skip
          refine l_iload cx (pc2 := 663) 8 rfl dL_law_661 rfl ?_
          refine l_iload cx (pc2 := 665) 7 rfl dL_law_663 rfl ?_
          refine l_iload cx (pc2 := 667) 5 rfl dL_law_665 rfl ?_
          refine l_isub cx (pc2 := 668) dL_law_667 rfl ?_
          refine l_icmp_ne cx (pc2 := 671) (tgt := 686) ⟨(by first | assumption | omega | exact hg.1.1 _ | exact ⟨by omega, by omega⟩), (by first | assumption | omega | exact hg.1.1 _ | exact ⟨by omega, by omega⟩)⟩ dL_law_668 (by decide) rfl (fun h_5 => ?_) (fun h_5 => ?_)
          · skip
            omega
          · skip
            refine l_iload cx (pc2 := 673) 7 rfl dL_law_671 rfl ?_
            refine l_aload_n cx (pc2 := 674) 2 rfl dL_law_673 rfl ?_
            refine l_iconst cx (pc2 := 675) dL_law_674 rfl ?_
            refine l_iload cx (pc2 := 677) 3 rfl dL_law_675 rfl ?_
            refine l_ishl cx (pc2 := 678) dL_law_677 rfl ?_
            refine l_rwi (y := iI ((2 ^ nN V : Nat) : Int)) (sh1 (by omega) (by omega)) ?_
            refine l_iconst cx (pc2 := 679) dL_law_678 rfl ?_
            refine l_isub cx (pc2 := 680) dL_law_679 rfl ?_
            refine l_clI cx (pc2 := 683) (st := [.int (iI (secA M i))]) ys sx (As := [.ref av, .int (iI (((2 ^ nN V : Nat) : Int) - 1))]) (c_L_worth (n + q0) (wR_get hV1) hg.1.1 (by omega) (((2 ^ nN V : Nat) : Int) - 1) (by omega)) wM_L_worth wS_L_worth kl_L_59 ⟨rfl, rfl, Nat.le_of_ble_eq_true rfl, Nat.le_of_ble_eq_true rfl⟩ (Nat.le_of_ble_eq_true rfl) hcr rfl rfl dL_law_680 rfl ?_
            refine l_rwi (y := iI (WV V (AL V))) (by rw [WV_wo, show (((2 ^ nN V : Nat) : Int) - 1).toNat = 2 ^ nN V - 1 by omega]) ?_
            refine l_icmp_le cx (pc2 := 686) (tgt := 688) ⟨(by first | assumption | omega | exact hg.1.1 _ | exact ⟨by omega, by omega⟩), (by first | assumption | omega | exact hg.1.1 _ | exact ⟨by omega, by omega⟩)⟩ dL_law_683 (by decide) rfl (fun h_6 => ?_) (fun h_6 => ?_)
            · skip
              refine l_iinc cx (pc2 := 691) 6 rfl (lv2 := [(0, .ref b), (1, .ref (P1.2.1 0)), (3, .ref av), (5, .int (iI (V 9))), (6, .int (iI b0)), (7, .int (iI most)), (12, .int (iI (i + 1))), (13, .int (iI (secA M i))), (14, .int (iI (secM M i 0 15)))]) rfl (Nat.le_of_ble_eq_true rfl) dL_law_688 rfl ?_
              refine l_goto cx (tgt := 627) dL_law_691 (by decide) ?_
              refine l_sub (lv2 := [(0, .ref b), (1, .ref (P1.2.1 0)), (3, .ref av), (5, .int (iI (V 9))), (6, .int (iI b0)), (7, .int (iI most)), (12, .int (iI (i + 1)))]) [0, 1, 2, 3, 4, 5, 6] rfl ?_
              exact ih _ (by omega) _ (i + 1) hM2 (by omega) (Nat.le_refl _)
            · skip
              omega
set_option maxHeartbeats 4000000 in
set_option maxRecDepth 100000 in
theorem law_C2 {X : Yq} {P : Pl} (cx : Yx X cL_law RL room_1 18 P) {b L : Nat} {xs : Nat → Int32} (sx : Sy X b L xs) (ez : Ez X) {P1 : Pl} (ys : Ys X P1) {n : Nat} (hn : NN n) {R : va_W} {av : Nat} {V : Nat → Int} (q0 : Nat) (hV : R[q0]? = some (ar P av 64 V)) (hg : GV V) {cs ss : Nat} (hcs : cs ≤ 599000 ∧ ss ≤ 7300000) {b0 most : Int} (hb : BST V b0) (hbq : ∀ N, HW V N → bstA N = b0) (hm : ¬ b0 = -9 → most = WV V b0.toNat) : ∀ (fu : Nat) (M : Mm) (i : Int), (VOK V M) → (0 ≤ i ∧ i ≤ V 9) → ((V 9 - i).toNat) ≤ fu → YG X 530 [(0, .ref b), (1, .ref (P1.2.1 0)), (3, .ref av), (5, .int (iI (V 9))), (6, .int (iI b0)), (7, .int (iI most)), (12, .int (iI i))] [] (wld P1 n M ++ R) cs ss := by
  intro fu
  induction fu using Nat.strongRecOn with
  | _ fu ih =>
    intro M i hM hi hfu
    have hcr := hcr_of hcs
    have hV1 : R[q0]? = some (ar P1 av 64 V) := by rw [ys_ar cx ys]; exact hV
    have h9 := hg.2.1
    have h32 := (nN_5 hg).2
    have h8 := GV_0 hg
    have hbb := hb.b
    have hmb : ¬ b0 = -9 → 0 ≤ most ∧ most ≤ 45 := fun q => by rw [hm q]; exact WV_b hg _
    have hnn : ((nN V : Nat) : Int) = V 9 := Int.toNat_of_nonneg h9.1
    refine l_iload cx (pc2 := 532) 6 rfl dL_law_530 rfl ?_
    refine l_iload cx (pc2 := 534) 3 rfl dL_law_532 rfl ?_
    refine l_icmp_ge cx (pc2 := 537) (tgt := 624) ⟨(by first | assumption | omega | exact hg.1.1 _ | exact ⟨by omega, by omega⟩), (by first | assumption | omega | exact hg.1.1 _ | exact ⟨by omega, by omega⟩)⟩ dL_law_534 (by decide) rfl (fun h_1 => ?_) (fun h_1 => ?_)
    · skip
      refine l_sub (lv2 := [(0, .ref b), (1, .ref (P1.2.1 0)), (3, .ref av), (5, .int (iI (V 9))), (6, .int (iI b0)), (7, .int (iI most))]) [0, 1, 2, 3, 4, 5] rfl ?_
      refine l_iconst cx (pc2 := 625) dL_law_624 rfl ?_
      refine l_istore cx (pc2 := 627) (lv2 := [(0, .ref b), (1, .ref (P1.2.1 0)), (3, .ref av), (5, .int (iI (V 9))), (6, .int (iI b0)), (7, .int (iI most)), (12, .int (iI 0))]) rfl (Nat.le_of_ble_eq_true rfl) dL_law_625 rfl ?_
      exact law_C3 cx sx ez ys hn q0 hV hg hcs hb hbq hm _ _ 0 hM (by omega) (Nat.le_refl _)
    · skip
      refine l_aload_n cx (pc2 := 538) 1 rfl dL_law_537 rfl ?_
      refine l_iload cx (pc2 := 540) 6 rfl dL_law_538 rfl ?_
      have hcs0 := cos_V hg hM.1.w (i := i.toNat) (show i.toNat < (V 9).toNat by omega)
      rw [Int.toNat_of_nonneg (show 0 ≤ i by omega)] at hcs0
      rw [hbq _ hM.1.w] at hcs0
      obtain ⟨hc1, hc2, hc3⟩ := hcs0.q (by omega)
      have hM2 := VOK_kp hM (KP_costs hM.2.2 i)
      refine l_ctI cx (pc2 := 543) (st := []) ys hn (M := M) (As := [.int (iI i)]) (c_X11_costs (M := M) hn hM.2.2 i ⟨by omega, by omega⟩) wM_X11_costs wV_X11_costs rfl kl_L_107 ⟨rfl, rfl, Nat.le_of_ble_eq_true rfl, Nat.le_of_ble_eq_true rfl⟩ (Nat.le_of_ble_eq_true rfl) hcr rfl rfl rfl dL_law_540 rfl ?_
      refine l_istore cx (pc2 := 545) (lv2 := [(0, .ref b), (1, .ref (P1.2.1 0)), (3, .ref av), (5, .int (iI (V 9))), (6, .int (iI b0)), (7, .int (iI most)), (12, .int (iI i)), (13, .int (iI (cosA M i)))]) rfl (Nat.le_of_ble_eq_true rfl) dL_law_543 rfl ?_
      refine l_iload cx (pc2 := 547) 4 rfl dL_law_545 rfl ?_
      refine l_if_lt cx (pc2 := 550) (tgt := 565) (by first | assumption | omega | exact hg.1.1 _ | exact ⟨by omega, by omega⟩) dL_law_547 (by decide) rfl (fun h_2 => ?_) (fun h_2 => ?_)
      · skip
        refine l_iconst cx (pc2 := 566) dL_law_565 rfl ?_
        refine l_istore cx (pc2 := 568) (lv2 := [(0, .ref b), (1, .ref (P1.2.1 0)), (3, .ref av), (5, .int (iI (V 9))), (6, .int (iI b0)), (7, .int (iI most)), (12, .int (iI i)), (13, .int (iI (cosA M i))), (14, .int (iI 0))]) rfl (Nat.le_of_ble_eq_true rfl) dL_law_566 rfl ?_
        refine l_iload cx (pc2 := 570) 7 rfl dL_law_568 rfl ?_
        refine l_bipush cx (pc2 := 572) ⟨by decide, by decide⟩ dL_law_570 rfl ?_
        refine l_icmp_eq cx (pc2 := 575) (tgt := 604) ⟨(by first | assumption | omega | exact hg.1.1 _ | exact ⟨by omega, by omega⟩), ⟨by decide, by decide⟩⟩ dL_law_572 (by decide) rfl (fun h_3 => ?_) (fun h_3 => ?_)
        · skip
          refine l_iload cx (pc2 := 606) 4 rfl dL_law_604 rfl ?_
          refine l_if_ge cx (pc2 := 609) (tgt := 618) (by first | assumption | omega | exact hg.1.1 _ | exact ⟨by omega, by omega⟩) dL_law_606 (by decide) rfl (fun h_4 => ?_) (fun h_4 => ?_)
          · skip
            refine l_iinc cx (pc2 := 621) 6 rfl (lv2 := [(0, .ref b), (1, .ref (P1.2.1 0)), (3, .ref av), (5, .int (iI (V 9))), (6, .int (iI b0)), (7, .int (iI most)), (12, .int (iI (i + 1))), (13, .int (iI (cosA M i))), (14, .int (iI 0))]) rfl (Nat.le_of_ble_eq_true rfl) dL_law_618 rfl ?_
            refine l_goto cx (tgt := 530) dL_law_621 (by decide) ?_
            refine l_sub (lv2 := [(0, .ref b), (1, .ref (P1.2.1 0)), (3, .ref av), (5, .int (iI (V 9))), (6, .int (iI b0)), (7, .int (iI most)), (12, .int (iI (i + 1)))]) [0, 1, 2, 3, 4, 5, 6] rfl ?_
            exact ih _ (by omega) _ (i + 1) hM2 (by omega) (Nat.le_refl _)
          · skip
            refine l_iload cx (pc2 := 611) 7 rfl dL_law_609 rfl ?_
            refine l_bipush cx (pc2 := 613) ⟨by decide, by decide⟩ dL_law_611 rfl ?_
            refine l_icmp_eq cx (pc2 := 616) (tgt := 618) ⟨(by first | assumption | omega | exact hg.1.1 _ | exact ⟨by omega, by omega⟩), ⟨by decide, by decide⟩⟩ dL_law_613 (by decide) rfl (fun h_5 => ?_) (fun h_5 => ?_)
            · skip
              refine l_iinc cx (pc2 := 621) 6 rfl (lv2 := [(0, .ref b), (1, .ref (P1.2.1 0)), (3, .ref av), (5, .int (iI (V 9))), (6, .int (iI b0)), (7, .int (iI most)), (12, .int (iI (i + 1))), (13, .int (iI (cosA M i))), (14, .int (iI 0))]) rfl (Nat.le_of_ble_eq_true rfl) dL_law_618 rfl ?_
              refine l_goto cx (tgt := 530) dL_law_621 (by decide) ?_
              refine l_sub (lv2 := [(0, .ref b), (1, .ref (P1.2.1 0)), (3, .ref av), (5, .int (iI (V 9))), (6, .int (iI b0)), (7, .int (iI most)), (12, .int (iI (i + 1)))]) [0, 1, 2, 3, 4, 5, 6] rfl ?_
              exact ih _ (by omega) _ (i + 1) hM2 (by omega) (Nat.le_refl _)
            · skip
              exfalso
              have hbit : (if b0.toNat.testBit i.toNat = true then (1 : Int) else 0) = 1 ∨ (if b0.toNat.testBit i.toNat = true then (1 : Int) else 0) ≠ 1 := Decidable.em _
              rcases hbit with hbit | hbit
              · first | omega | (have q := hc3 (by omega) hbit (by assumption); omega)
              · first | omega | (have q := hc2 (by omega) hbit; omega) | contradiction
        · skip
          refine l_iload cx (pc2 := 577) 7 rfl dL_law_575 rfl ?_
          refine l_if_ge cx (pc2 := 580) (tgt := 594) (by first | assumption | omega | exact hg.1.1 _ | exact ⟨by omega, by omega⟩) dL_law_577 (by decide) rfl (fun h_6 => ?_) (fun h_6 => ?_)
          · skip
            refine l_iload cx (pc2 := 596) 8 rfl dL_law_594 rfl ?_
            refine l_if_ne cx (pc2 := 599) (tgt := 604) ⟨by decide, by decide⟩ dL_law_596 (by decide) rfl (fun h_7 => ?_) (fun h_7 => ?_)
            · skip
              omega
            · skip
              refine l_iload cx (pc2 := 601) 7 rfl dL_law_599 rfl ?_
              refine l_if_ne cx (pc2 := 604) (tgt := 616) (by first | assumption | omega | exact hg.1.1 _ | exact ⟨by omega, by omega⟩) dL_law_601 (by decide) rfl (fun h_8 => ?_) (fun h_8 => ?_)
              · skip
                exfalso
                have hbit : (if b0.toNat.testBit i.toNat = true then (1 : Int) else 0) = 1 ∨ (if b0.toNat.testBit i.toNat = true then (1 : Int) else 0) ≠ 1 := Decidable.em _
                rcases hbit with hbit | hbit
                · first | omega | (have q := hc3 (by omega) hbit (by assumption); omega)
                · first | omega | (have q := hc2 (by omega) hbit; omega) | contradiction
              · skip
                refine l_iload cx (pc2 := 606) 4 rfl dL_law_604 rfl ?_
                refine l_if_ge cx (pc2 := 609) (tgt := 618) (by first | assumption | omega | exact hg.1.1 _ | exact ⟨by omega, by omega⟩) dL_law_606 (by decide) rfl (fun h_9 => ?_) (fun h_9 => ?_)
                · skip
                  refine l_iinc cx (pc2 := 621) 6 rfl (lv2 := [(0, .ref b), (1, .ref (P1.2.1 0)), (3, .ref av), (5, .int (iI (V 9))), (6, .int (iI b0)), (7, .int (iI most)), (12, .int (iI (i + 1))), (13, .int (iI (cosA M i))), (14, .int (iI 0))]) rfl (Nat.le_of_ble_eq_true rfl) dL_law_618 rfl ?_
                  refine l_goto cx (tgt := 530) dL_law_621 (by decide) ?_
                  refine l_sub (lv2 := [(0, .ref b), (1, .ref (P1.2.1 0)), (3, .ref av), (5, .int (iI (V 9))), (6, .int (iI b0)), (7, .int (iI most)), (12, .int (iI (i + 1)))]) [0, 1, 2, 3, 4, 5, 6] rfl ?_
                  exact ih _ (by omega) _ (i + 1) hM2 (by omega) (Nat.le_refl _)
                · skip
                  refine l_iload cx (pc2 := 611) 7 rfl dL_law_609 rfl ?_
                  refine l_bipush cx (pc2 := 613) ⟨by decide, by decide⟩ dL_law_611 rfl ?_
                  refine l_icmp_eq cx (pc2 := 616) (tgt := 618) ⟨(by first | assumption | omega | exact hg.1.1 _ | exact ⟨by omega, by omega⟩), ⟨by decide, by decide⟩⟩ dL_law_613 (by decide) rfl (fun h_10 => ?_) (fun h_10 => ?_)
                  · skip
                    refine l_iinc cx (pc2 := 621) 6 rfl (lv2 := [(0, .ref b), (1, .ref (P1.2.1 0)), (3, .ref av), (5, .int (iI (V 9))), (6, .int (iI b0)), (7, .int (iI most)), (12, .int (iI (i + 1))), (13, .int (iI (cosA M i))), (14, .int (iI 0))]) rfl (Nat.le_of_ble_eq_true rfl) dL_law_618 rfl ?_
                    refine l_goto cx (tgt := 530) dL_law_621 (by decide) ?_
                    refine l_sub (lv2 := [(0, .ref b), (1, .ref (P1.2.1 0)), (3, .ref av), (5, .int (iI (V 9))), (6, .int (iI b0)), (7, .int (iI most)), (12, .int (iI (i + 1)))]) [0, 1, 2, 3, 4, 5, 6] rfl ?_
                    exact ih _ (by omega) _ (i + 1) hM2 (by omega) (Nat.le_refl _)
                  · skip
                    exfalso
                    have hbit : (if b0.toNat.testBit i.toNat = true then (1 : Int) else 0) = 1 ∨ (if b0.toNat.testBit i.toNat = true then (1 : Int) else 0) ≠ 1 := Decidable.em _
                    rcases hbit with hbit | hbit
                    · first | omega | (have q := hc3 (by omega) hbit (by assumption); omega)
                    · first | omega | (have q := hc2 (by omega) hbit; omega) | contradiction
          · skip
            refine l_aload_n cx (pc2 := 581) 2 rfl dL_law_580 rfl ?_
            refine l_iload cx (pc2 := 583) 6 rfl dL_law_581 rfl ?_
            refine l_clI cx (pc2 := 586) (st := []) ys sx (As := [.ref av, .int (iI i)]) (c_L_must (n + q0) (wR_get hV1) hg.1.1 i (by omega)) wM_L_must wS_L_must kl_L_62 ⟨rfl, rfl, Nat.le_of_ble_eq_true rfl, Nat.le_of_ble_eq_true rfl⟩ (Nat.le_of_ble_eq_true rfl) hcr rfl rfl dL_law_583 rfl ?_
            refine l_ifb_ne cx (pc2 := 589) (tgt := 594) dL_law_586 (by decide) rfl (fun h_11 => ?_) (fun h_11 => ?_)
            · skip
              refine l_iload cx (pc2 := 596) 8 rfl dL_law_594 rfl ?_
              refine l_if_ne cx (pc2 := 599) (tgt := 604) ⟨by decide, by decide⟩ dL_law_596 (by decide) rfl (fun h_12 => ?_) (fun h_12 => ?_)
              · skip
                omega
              · skip
                refine l_iload cx (pc2 := 601) 7 rfl dL_law_599 rfl ?_
                refine l_if_ne cx (pc2 := 604) (tgt := 616) (by first | assumption | omega | exact hg.1.1 _ | exact ⟨by omega, by omega⟩) dL_law_601 (by decide) rfl (fun h_13 => ?_) (fun h_13 => ?_)
                · skip
                  exfalso
                  have hbit : (if b0.toNat.testBit i.toNat = true then (1 : Int) else 0) = 1 ∨ (if b0.toNat.testBit i.toNat = true then (1 : Int) else 0) ≠ 1 := Decidable.em _
                  rcases hbit with hbit | hbit
                  · first | omega | (have q := hc3 (by omega) hbit (by assumption); omega)
                  · first | omega | (have q := hc2 (by omega) hbit; omega) | contradiction
                · skip
                  refine l_iload cx (pc2 := 606) 4 rfl dL_law_604 rfl ?_
                  refine l_if_ge cx (pc2 := 609) (tgt := 618) (by first | assumption | omega | exact hg.1.1 _ | exact ⟨by omega, by omega⟩) dL_law_606 (by decide) rfl (fun h_14 => ?_) (fun h_14 => ?_)
                  · skip
                    refine l_iinc cx (pc2 := 621) 6 rfl (lv2 := [(0, .ref b), (1, .ref (P1.2.1 0)), (3, .ref av), (5, .int (iI (V 9))), (6, .int (iI b0)), (7, .int (iI most)), (12, .int (iI (i + 1))), (13, .int (iI (cosA M i))), (14, .int (iI 0))]) rfl (Nat.le_of_ble_eq_true rfl) dL_law_618 rfl ?_
                    refine l_goto cx (tgt := 530) dL_law_621 (by decide) ?_
                    refine l_sub (lv2 := [(0, .ref b), (1, .ref (P1.2.1 0)), (3, .ref av), (5, .int (iI (V 9))), (6, .int (iI b0)), (7, .int (iI most)), (12, .int (iI (i + 1)))]) [0, 1, 2, 3, 4, 5, 6] rfl ?_
                    exact ih _ (by omega) _ (i + 1) hM2 (by omega) (Nat.le_refl _)
                  · skip
                    refine l_iload cx (pc2 := 611) 7 rfl dL_law_609 rfl ?_
                    refine l_bipush cx (pc2 := 613) ⟨by decide, by decide⟩ dL_law_611 rfl ?_
                    refine l_icmp_eq cx (pc2 := 616) (tgt := 618) ⟨(by first | assumption | omega | exact hg.1.1 _ | exact ⟨by omega, by omega⟩), ⟨by decide, by decide⟩⟩ dL_law_613 (by decide) rfl (fun h_15 => ?_) (fun h_15 => ?_)
                    · skip
                      refine l_iinc cx (pc2 := 621) 6 rfl (lv2 := [(0, .ref b), (1, .ref (P1.2.1 0)), (3, .ref av), (5, .int (iI (V 9))), (6, .int (iI b0)), (7, .int (iI most)), (12, .int (iI (i + 1))), (13, .int (iI (cosA M i))), (14, .int (iI 0))]) rfl (Nat.le_of_ble_eq_true rfl) dL_law_618 rfl ?_
                      refine l_goto cx (tgt := 530) dL_law_621 (by decide) ?_
                      refine l_sub (lv2 := [(0, .ref b), (1, .ref (P1.2.1 0)), (3, .ref av), (5, .int (iI (V 9))), (6, .int (iI b0)), (7, .int (iI most)), (12, .int (iI (i + 1)))]) [0, 1, 2, 3, 4, 5, 6] rfl ?_
                      exact ih _ (by omega) _ (i + 1) hM2 (by omega) (Nat.le_refl _)
                    · skip
                      exfalso
                      have hbit : (if b0.toNat.testBit i.toNat = true then (1 : Int) else 0) = 1 ∨ (if b0.toNat.testBit i.toNat = true then (1 : Int) else 0) ≠ 1 := Decidable.em _
                      rcases hbit with hbit | hbit
                      · first | omega | (have q := hc3 (by omega) hbit (by assumption); omega)
                      · first | omega | (have q := hc2 (by omega) hbit; omega) | contradiction
            · skip
              refine l_iload cx (pc2 := 591) 8 rfl dL_law_589 rfl ?_
              refine l_if_ne cx (pc2 := 594) (tgt := 616) ⟨by decide, by decide⟩ dL_law_591 (by decide) rfl (fun h_16 => ?_) (fun h_16 => ?_)
              · skip
                omega
              · skip
                refine l_iload cx (pc2 := 596) 8 rfl dL_law_594 rfl ?_
                refine l_if_ne cx (pc2 := 599) (tgt := 604) ⟨by decide, by decide⟩ dL_law_596 (by decide) rfl (fun h_17 => ?_) (fun h_17 => ?_)
                · skip
                  omega
                · skip
                  refine l_iload cx (pc2 := 601) 7 rfl dL_law_599 rfl ?_
                  refine l_if_ne cx (pc2 := 604) (tgt := 616) (by first | assumption | omega | exact hg.1.1 _ | exact ⟨by omega, by omega⟩) dL_law_601 (by decide) rfl (fun h_18 => ?_) (fun h_18 => ?_)
                  · skip
                    exfalso
                    have hbit : (if b0.toNat.testBit i.toNat = true then (1 : Int) else 0) = 1 ∨ (if b0.toNat.testBit i.toNat = true then (1 : Int) else 0) ≠ 1 := Decidable.em _
                    rcases hbit with hbit | hbit
                    · first | omega | (have q := hc3 (by omega) hbit (by assumption); omega)
                    · first | omega | (have q := hc2 (by omega) hbit; omega) | contradiction
                  · skip
                    refine l_iload cx (pc2 := 606) 4 rfl dL_law_604 rfl ?_
                    refine l_if_ge cx (pc2 := 609) (tgt := 618) (by first | assumption | omega | exact hg.1.1 _ | exact ⟨by omega, by omega⟩) dL_law_606 (by decide) rfl (fun h_19 => ?_) (fun h_19 => ?_)
                    · skip
                      refine l_iinc cx (pc2 := 621) 6 rfl (lv2 := [(0, .ref b), (1, .ref (P1.2.1 0)), (3, .ref av), (5, .int (iI (V 9))), (6, .int (iI b0)), (7, .int (iI most)), (12, .int (iI (i + 1))), (13, .int (iI (cosA M i))), (14, .int (iI 0))]) rfl (Nat.le_of_ble_eq_true rfl) dL_law_618 rfl ?_
                      refine l_goto cx (tgt := 530) dL_law_621 (by decide) ?_
                      refine l_sub (lv2 := [(0, .ref b), (1, .ref (P1.2.1 0)), (3, .ref av), (5, .int (iI (V 9))), (6, .int (iI b0)), (7, .int (iI most)), (12, .int (iI (i + 1)))]) [0, 1, 2, 3, 4, 5, 6] rfl ?_
                      exact ih _ (by omega) _ (i + 1) hM2 (by omega) (Nat.le_refl _)
                    · skip
                      refine l_iload cx (pc2 := 611) 7 rfl dL_law_609 rfl ?_
                      refine l_bipush cx (pc2 := 613) ⟨by decide, by decide⟩ dL_law_611 rfl ?_
                      refine l_icmp_eq cx (pc2 := 616) (tgt := 618) ⟨(by first | assumption | omega | exact hg.1.1 _ | exact ⟨by omega, by omega⟩), ⟨by decide, by decide⟩⟩ dL_law_613 (by decide) rfl (fun h_20 => ?_) (fun h_20 => ?_)
                      · skip
                        refine l_iinc cx (pc2 := 621) 6 rfl (lv2 := [(0, .ref b), (1, .ref (P1.2.1 0)), (3, .ref av), (5, .int (iI (V 9))), (6, .int (iI b0)), (7, .int (iI most)), (12, .int (iI (i + 1))), (13, .int (iI (cosA M i))), (14, .int (iI 0))]) rfl (Nat.le_of_ble_eq_true rfl) dL_law_618 rfl ?_
                        refine l_goto cx (tgt := 530) dL_law_621 (by decide) ?_
                        refine l_sub (lv2 := [(0, .ref b), (1, .ref (P1.2.1 0)), (3, .ref av), (5, .int (iI (V 9))), (6, .int (iI b0)), (7, .int (iI most)), (12, .int (iI (i + 1)))]) [0, 1, 2, 3, 4, 5, 6] rfl ?_
                        exact ih _ (by omega) _ (i + 1) hM2 (by omega) (Nat.le_refl _)
                      · skip
                        exfalso
                        have hbit : (if b0.toNat.testBit i.toNat = true then (1 : Int) else 0) = 1 ∨ (if b0.toNat.testBit i.toNat = true then (1 : Int) else 0) ≠ 1 := Decidable.em _
                        rcases hbit with hbit | hbit
                        · first | omega | (have q := hc3 (by omega) hbit (by assumption); omega)
                        · first | omega | (have q := hc2 (by omega) hbit; omega) | contradiction
      · skip
        refine l_iload cx (pc2 := 552) 4 rfl dL_law_550 rfl ?_
        refine l_iload cx (pc2 := 554) 6 rfl dL_law_552 rfl ?_
        refine l_ishr cx (pc2 := 555) dL_law_554 rfl ?_
        refine l_iconst cx (pc2 := 556) dL_law_555 rfl ?_
        refine l_iand cx (pc2 := 557) dL_law_556 rfl ?_
        refine l_rwi (y := iI (if b0.toNat.testBit i.toNat = true then 1 else 0)) (shr1 (by omega) (by omega) (by omega) (by omega)) ?_
        refine l_iconst cx (pc2 := 558) dL_law_557 rfl ?_
        refine l_icmp_ne cx (pc2 := 561) (tgt := 565) ⟨(by split <;> exact ⟨by decide, by decide⟩), ⟨by decide, by decide⟩⟩ dL_law_558 (by decide) rfl (fun h_21 => ?_) (fun h_21 => ?_)
        · skip
          refine l_iconst cx (pc2 := 566) dL_law_565 rfl ?_
          refine l_istore cx (pc2 := 568) (lv2 := [(0, .ref b), (1, .ref (P1.2.1 0)), (3, .ref av), (5, .int (iI (V 9))), (6, .int (iI b0)), (7, .int (iI most)), (12, .int (iI i)), (13, .int (iI (cosA M i))), (14, .int (iI 0))]) rfl (Nat.le_of_ble_eq_true rfl) dL_law_566 rfl ?_
          refine l_iload cx (pc2 := 570) 7 rfl dL_law_568 rfl ?_
          refine l_bipush cx (pc2 := 572) ⟨by decide, by decide⟩ dL_law_570 rfl ?_
          refine l_icmp_eq cx (pc2 := 575) (tgt := 604) ⟨(by first | assumption | omega | exact hg.1.1 _ | exact ⟨by omega, by omega⟩), ⟨by decide, by decide⟩⟩ dL_law_572 (by decide) rfl (fun h_22 => ?_) (fun h_22 => ?_)
          · skip
            refine l_iload cx (pc2 := 606) 4 rfl dL_law_604 rfl ?_
            refine l_if_ge cx (pc2 := 609) (tgt := 618) (by first | assumption | omega | exact hg.1.1 _ | exact ⟨by omega, by omega⟩) dL_law_606 (by decide) rfl (fun h_23 => ?_) (fun h_23 => ?_)
            · skip
              refine l_iinc cx (pc2 := 621) 6 rfl (lv2 := [(0, .ref b), (1, .ref (P1.2.1 0)), (3, .ref av), (5, .int (iI (V 9))), (6, .int (iI b0)), (7, .int (iI most)), (12, .int (iI (i + 1))), (13, .int (iI (cosA M i))), (14, .int (iI 0))]) rfl (Nat.le_of_ble_eq_true rfl) dL_law_618 rfl ?_
              refine l_goto cx (tgt := 530) dL_law_621 (by decide) ?_
              refine l_sub (lv2 := [(0, .ref b), (1, .ref (P1.2.1 0)), (3, .ref av), (5, .int (iI (V 9))), (6, .int (iI b0)), (7, .int (iI most)), (12, .int (iI (i + 1)))]) [0, 1, 2, 3, 4, 5, 6] rfl ?_
              exact ih _ (by omega) _ (i + 1) hM2 (by omega) (Nat.le_refl _)
            · skip
              refine l_iload cx (pc2 := 611) 7 rfl dL_law_609 rfl ?_
              refine l_bipush cx (pc2 := 613) ⟨by decide, by decide⟩ dL_law_611 rfl ?_
              refine l_icmp_eq cx (pc2 := 616) (tgt := 618) ⟨(by first | assumption | omega | exact hg.1.1 _ | exact ⟨by omega, by omega⟩), ⟨by decide, by decide⟩⟩ dL_law_613 (by decide) rfl (fun h_24 => ?_) (fun h_24 => ?_)
              · skip
                refine l_iinc cx (pc2 := 621) 6 rfl (lv2 := [(0, .ref b), (1, .ref (P1.2.1 0)), (3, .ref av), (5, .int (iI (V 9))), (6, .int (iI b0)), (7, .int (iI most)), (12, .int (iI (i + 1))), (13, .int (iI (cosA M i))), (14, .int (iI 0))]) rfl (Nat.le_of_ble_eq_true rfl) dL_law_618 rfl ?_
                refine l_goto cx (tgt := 530) dL_law_621 (by decide) ?_
                refine l_sub (lv2 := [(0, .ref b), (1, .ref (P1.2.1 0)), (3, .ref av), (5, .int (iI (V 9))), (6, .int (iI b0)), (7, .int (iI most)), (12, .int (iI (i + 1)))]) [0, 1, 2, 3, 4, 5, 6] rfl ?_
                exact ih _ (by omega) _ (i + 1) hM2 (by omega) (Nat.le_refl _)
              · skip
                exfalso
                have hbit : (if b0.toNat.testBit i.toNat = true then (1 : Int) else 0) = 1 ∨ (if b0.toNat.testBit i.toNat = true then (1 : Int) else 0) ≠ 1 := Decidable.em _
                rcases hbit with hbit | hbit
                · first | omega | (have q := hc3 (by omega) hbit (by assumption); omega)
                · first | omega | (have q := hc2 (by omega) hbit; omega) | contradiction
          · skip
            refine l_iload cx (pc2 := 577) 7 rfl dL_law_575 rfl ?_
            refine l_if_ge cx (pc2 := 580) (tgt := 594) (by first | assumption | omega | exact hg.1.1 _ | exact ⟨by omega, by omega⟩) dL_law_577 (by decide) rfl (fun h_25 => ?_) (fun h_25 => ?_)
            · skip
              refine l_iload cx (pc2 := 596) 8 rfl dL_law_594 rfl ?_
              refine l_if_ne cx (pc2 := 599) (tgt := 604) ⟨by decide, by decide⟩ dL_law_596 (by decide) rfl (fun h_26 => ?_) (fun h_26 => ?_)
              · skip
                omega
              · skip
                refine l_iload cx (pc2 := 601) 7 rfl dL_law_599 rfl ?_
                refine l_if_ne cx (pc2 := 604) (tgt := 616) (by first | assumption | omega | exact hg.1.1 _ | exact ⟨by omega, by omega⟩) dL_law_601 (by decide) rfl (fun h_27 => ?_) (fun h_27 => ?_)
                · skip
                  exfalso
                  have hbit : (if b0.toNat.testBit i.toNat = true then (1 : Int) else 0) = 1 ∨ (if b0.toNat.testBit i.toNat = true then (1 : Int) else 0) ≠ 1 := Decidable.em _
                  rcases hbit with hbit | hbit
                  · first | omega | (have q := hc3 (by omega) hbit (by assumption); omega)
                  · first | omega | (have q := hc2 (by omega) hbit; omega) | contradiction
                · skip
                  refine l_iload cx (pc2 := 606) 4 rfl dL_law_604 rfl ?_
                  refine l_if_ge cx (pc2 := 609) (tgt := 618) (by first | assumption | omega | exact hg.1.1 _ | exact ⟨by omega, by omega⟩) dL_law_606 (by decide) rfl (fun h_28 => ?_) (fun h_28 => ?_)
                  · skip
                    refine l_iinc cx (pc2 := 621) 6 rfl (lv2 := [(0, .ref b), (1, .ref (P1.2.1 0)), (3, .ref av), (5, .int (iI (V 9))), (6, .int (iI b0)), (7, .int (iI most)), (12, .int (iI (i + 1))), (13, .int (iI (cosA M i))), (14, .int (iI 0))]) rfl (Nat.le_of_ble_eq_true rfl) dL_law_618 rfl ?_
                    refine l_goto cx (tgt := 530) dL_law_621 (by decide) ?_
                    refine l_sub (lv2 := [(0, .ref b), (1, .ref (P1.2.1 0)), (3, .ref av), (5, .int (iI (V 9))), (6, .int (iI b0)), (7, .int (iI most)), (12, .int (iI (i + 1)))]) [0, 1, 2, 3, 4, 5, 6] rfl ?_
                    exact ih _ (by omega) _ (i + 1) hM2 (by omega) (Nat.le_refl _)
                  · skip
                    refine l_iload cx (pc2 := 611) 7 rfl dL_law_609 rfl ?_
                    refine l_bipush cx (pc2 := 613) ⟨by decide, by decide⟩ dL_law_611 rfl ?_
                    refine l_icmp_eq cx (pc2 := 616) (tgt := 618) ⟨(by first | assumption | omega | exact hg.1.1 _ | exact ⟨by omega, by omega⟩), ⟨by decide, by decide⟩⟩ dL_law_613 (by decide) rfl (fun h_29 => ?_) (fun h_29 => ?_)
                    · skip
                      refine l_iinc cx (pc2 := 621) 6 rfl (lv2 := [(0, .ref b), (1, .ref (P1.2.1 0)), (3, .ref av), (5, .int (iI (V 9))), (6, .int (iI b0)), (7, .int (iI most)), (12, .int (iI (i + 1))), (13, .int (iI (cosA M i))), (14, .int (iI 0))]) rfl (Nat.le_of_ble_eq_true rfl) dL_law_618 rfl ?_
                      refine l_goto cx (tgt := 530) dL_law_621 (by decide) ?_
                      refine l_sub (lv2 := [(0, .ref b), (1, .ref (P1.2.1 0)), (3, .ref av), (5, .int (iI (V 9))), (6, .int (iI b0)), (7, .int (iI most)), (12, .int (iI (i + 1)))]) [0, 1, 2, 3, 4, 5, 6] rfl ?_
                      exact ih _ (by omega) _ (i + 1) hM2 (by omega) (Nat.le_refl _)
                    · skip
                      exfalso
                      have hbit : (if b0.toNat.testBit i.toNat = true then (1 : Int) else 0) = 1 ∨ (if b0.toNat.testBit i.toNat = true then (1 : Int) else 0) ≠ 1 := Decidable.em _
                      rcases hbit with hbit | hbit
                      · first | omega | (have q := hc3 (by omega) hbit (by assumption); omega)
                      · first | omega | (have q := hc2 (by omega) hbit; omega) | contradiction
            · skip
              refine l_aload_n cx (pc2 := 581) 2 rfl dL_law_580 rfl ?_
              refine l_iload cx (pc2 := 583) 6 rfl dL_law_581 rfl ?_
              refine l_clI cx (pc2 := 586) (st := []) ys sx (As := [.ref av, .int (iI i)]) (c_L_must (n + q0) (wR_get hV1) hg.1.1 i (by omega)) wM_L_must wS_L_must kl_L_62 ⟨rfl, rfl, Nat.le_of_ble_eq_true rfl, Nat.le_of_ble_eq_true rfl⟩ (Nat.le_of_ble_eq_true rfl) hcr rfl rfl dL_law_583 rfl ?_
              refine l_ifb_ne cx (pc2 := 589) (tgt := 594) dL_law_586 (by decide) rfl (fun h_30 => ?_) (fun h_30 => ?_)
              · skip
                refine l_iload cx (pc2 := 596) 8 rfl dL_law_594 rfl ?_
                refine l_if_ne cx (pc2 := 599) (tgt := 604) ⟨by decide, by decide⟩ dL_law_596 (by decide) rfl (fun h_31 => ?_) (fun h_31 => ?_)
                · skip
                  omega
                · skip
                  refine l_iload cx (pc2 := 601) 7 rfl dL_law_599 rfl ?_
                  refine l_if_ne cx (pc2 := 604) (tgt := 616) (by first | assumption | omega | exact hg.1.1 _ | exact ⟨by omega, by omega⟩) dL_law_601 (by decide) rfl (fun h_32 => ?_) (fun h_32 => ?_)
                  · skip
                    exfalso
                    have hbit : (if b0.toNat.testBit i.toNat = true then (1 : Int) else 0) = 1 ∨ (if b0.toNat.testBit i.toNat = true then (1 : Int) else 0) ≠ 1 := Decidable.em _
                    rcases hbit with hbit | hbit
                    · first | omega | (have q := hc3 (by omega) hbit (by assumption); omega)
                    · first | omega | (have q := hc2 (by omega) hbit; omega) | contradiction
                  · skip
                    refine l_iload cx (pc2 := 606) 4 rfl dL_law_604 rfl ?_
                    refine l_if_ge cx (pc2 := 609) (tgt := 618) (by first | assumption | omega | exact hg.1.1 _ | exact ⟨by omega, by omega⟩) dL_law_606 (by decide) rfl (fun h_33 => ?_) (fun h_33 => ?_)
                    · skip
                      refine l_iinc cx (pc2 := 621) 6 rfl (lv2 := [(0, .ref b), (1, .ref (P1.2.1 0)), (3, .ref av), (5, .int (iI (V 9))), (6, .int (iI b0)), (7, .int (iI most)), (12, .int (iI (i + 1))), (13, .int (iI (cosA M i))), (14, .int (iI 0))]) rfl (Nat.le_of_ble_eq_true rfl) dL_law_618 rfl ?_
                      refine l_goto cx (tgt := 530) dL_law_621 (by decide) ?_
                      refine l_sub (lv2 := [(0, .ref b), (1, .ref (P1.2.1 0)), (3, .ref av), (5, .int (iI (V 9))), (6, .int (iI b0)), (7, .int (iI most)), (12, .int (iI (i + 1)))]) [0, 1, 2, 3, 4, 5, 6] rfl ?_
                      exact ih _ (by omega) _ (i + 1) hM2 (by omega) (Nat.le_refl _)
                    · skip
                      refine l_iload cx (pc2 := 611) 7 rfl dL_law_609 rfl ?_
                      refine l_bipush cx (pc2 := 613) ⟨by decide, by decide⟩ dL_law_611 rfl ?_
                      refine l_icmp_eq cx (pc2 := 616) (tgt := 618) ⟨(by first | assumption | omega | exact hg.1.1 _ | exact ⟨by omega, by omega⟩), ⟨by decide, by decide⟩⟩ dL_law_613 (by decide) rfl (fun h_34 => ?_) (fun h_34 => ?_)
                      · skip
                        refine l_iinc cx (pc2 := 621) 6 rfl (lv2 := [(0, .ref b), (1, .ref (P1.2.1 0)), (3, .ref av), (5, .int (iI (V 9))), (6, .int (iI b0)), (7, .int (iI most)), (12, .int (iI (i + 1))), (13, .int (iI (cosA M i))), (14, .int (iI 0))]) rfl (Nat.le_of_ble_eq_true rfl) dL_law_618 rfl ?_
                        refine l_goto cx (tgt := 530) dL_law_621 (by decide) ?_
                        refine l_sub (lv2 := [(0, .ref b), (1, .ref (P1.2.1 0)), (3, .ref av), (5, .int (iI (V 9))), (6, .int (iI b0)), (7, .int (iI most)), (12, .int (iI (i + 1)))]) [0, 1, 2, 3, 4, 5, 6] rfl ?_
                        exact ih _ (by omega) _ (i + 1) hM2 (by omega) (Nat.le_refl _)
                      · skip
                        exfalso
                        have hbit : (if b0.toNat.testBit i.toNat = true then (1 : Int) else 0) = 1 ∨ (if b0.toNat.testBit i.toNat = true then (1 : Int) else 0) ≠ 1 := Decidable.em _
                        rcases hbit with hbit | hbit
                        · first | omega | (have q := hc3 (by omega) hbit (by assumption); omega)
                        · first | omega | (have q := hc2 (by omega) hbit; omega) | contradiction
              · skip
                refine l_iload cx (pc2 := 591) 8 rfl dL_law_589 rfl ?_
                refine l_if_ne cx (pc2 := 594) (tgt := 616) ⟨by decide, by decide⟩ dL_law_591 (by decide) rfl (fun h_35 => ?_) (fun h_35 => ?_)
                · skip
                  omega
                · skip
                  refine l_iload cx (pc2 := 596) 8 rfl dL_law_594 rfl ?_
                  refine l_if_ne cx (pc2 := 599) (tgt := 604) ⟨by decide, by decide⟩ dL_law_596 (by decide) rfl (fun h_36 => ?_) (fun h_36 => ?_)
                  · skip
                    omega
                  · skip
                    refine l_iload cx (pc2 := 601) 7 rfl dL_law_599 rfl ?_
                    refine l_if_ne cx (pc2 := 604) (tgt := 616) (by first | assumption | omega | exact hg.1.1 _ | exact ⟨by omega, by omega⟩) dL_law_601 (by decide) rfl (fun h_37 => ?_) (fun h_37 => ?_)
                    · skip
                      exfalso
                      have hbit : (if b0.toNat.testBit i.toNat = true then (1 : Int) else 0) = 1 ∨ (if b0.toNat.testBit i.toNat = true then (1 : Int) else 0) ≠ 1 := Decidable.em _
                      rcases hbit with hbit | hbit
                      · first | omega | (have q := hc3 (by omega) hbit (by assumption); omega)
                      · first | omega | (have q := hc2 (by omega) hbit; omega) | contradiction
                    · skip
                      refine l_iload cx (pc2 := 606) 4 rfl dL_law_604 rfl ?_
                      refine l_if_ge cx (pc2 := 609) (tgt := 618) (by first | assumption | omega | exact hg.1.1 _ | exact ⟨by omega, by omega⟩) dL_law_606 (by decide) rfl (fun h_38 => ?_) (fun h_38 => ?_)
                      · skip
                        refine l_iinc cx (pc2 := 621) 6 rfl (lv2 := [(0, .ref b), (1, .ref (P1.2.1 0)), (3, .ref av), (5, .int (iI (V 9))), (6, .int (iI b0)), (7, .int (iI most)), (12, .int (iI (i + 1))), (13, .int (iI (cosA M i))), (14, .int (iI 0))]) rfl (Nat.le_of_ble_eq_true rfl) dL_law_618 rfl ?_
                        refine l_goto cx (tgt := 530) dL_law_621 (by decide) ?_
                        refine l_sub (lv2 := [(0, .ref b), (1, .ref (P1.2.1 0)), (3, .ref av), (5, .int (iI (V 9))), (6, .int (iI b0)), (7, .int (iI most)), (12, .int (iI (i + 1)))]) [0, 1, 2, 3, 4, 5, 6] rfl ?_
                        exact ih _ (by omega) _ (i + 1) hM2 (by omega) (Nat.le_refl _)
                      · skip
                        refine l_iload cx (pc2 := 611) 7 rfl dL_law_609 rfl ?_
                        refine l_bipush cx (pc2 := 613) ⟨by decide, by decide⟩ dL_law_611 rfl ?_
                        refine l_icmp_eq cx (pc2 := 616) (tgt := 618) ⟨(by first | assumption | omega | exact hg.1.1 _ | exact ⟨by omega, by omega⟩), ⟨by decide, by decide⟩⟩ dL_law_613 (by decide) rfl (fun h_39 => ?_) (fun h_39 => ?_)
                        · skip
                          refine l_iinc cx (pc2 := 621) 6 rfl (lv2 := [(0, .ref b), (1, .ref (P1.2.1 0)), (3, .ref av), (5, .int (iI (V 9))), (6, .int (iI b0)), (7, .int (iI most)), (12, .int (iI (i + 1))), (13, .int (iI (cosA M i))), (14, .int (iI 0))]) rfl (Nat.le_of_ble_eq_true rfl) dL_law_618 rfl ?_
                          refine l_goto cx (tgt := 530) dL_law_621 (by decide) ?_
                          refine l_sub (lv2 := [(0, .ref b), (1, .ref (P1.2.1 0)), (3, .ref av), (5, .int (iI (V 9))), (6, .int (iI b0)), (7, .int (iI most)), (12, .int (iI (i + 1)))]) [0, 1, 2, 3, 4, 5, 6] rfl ?_
                          exact ih _ (by omega) _ (i + 1) hM2 (by omega) (Nat.le_refl _)
                        · skip
                          exfalso
                          have hbit : (if b0.toNat.testBit i.toNat = true then (1 : Int) else 0) = 1 ∨ (if b0.toNat.testBit i.toNat = true then (1 : Int) else 0) ≠ 1 := Decidable.em _
                          rcases hbit with hbit | hbit
                          · first | omega | (have q := hc3 (by omega) hbit (by assumption); omega)
                          · first | omega | (have q := hc2 (by omega) hbit; omega) | contradiction
        · skip
          refine l_iconst cx (pc2 := 562) dL_law_561 rfl ?_
          refine l_goto cx (tgt := 566) dL_law_562 (by decide) ?_
          refine l_istore cx (pc2 := 568) (lv2 := [(0, .ref b), (1, .ref (P1.2.1 0)), (3, .ref av), (5, .int (iI (V 9))), (6, .int (iI b0)), (7, .int (iI most)), (12, .int (iI i)), (13, .int (iI (cosA M i))), (14, .int (iI 1))]) rfl (Nat.le_of_ble_eq_true rfl) dL_law_566 rfl ?_
          refine l_iload cx (pc2 := 570) 7 rfl dL_law_568 rfl ?_
          refine l_bipush cx (pc2 := 572) ⟨by decide, by decide⟩ dL_law_570 rfl ?_
          refine l_icmp_eq cx (pc2 := 575) (tgt := 604) ⟨(by first | assumption | omega | exact hg.1.1 _ | exact ⟨by omega, by omega⟩), ⟨by decide, by decide⟩⟩ dL_law_572 (by decide) rfl (fun h_40 => ?_) (fun h_40 => ?_)
          · skip
            refine l_iload cx (pc2 := 606) 4 rfl dL_law_604 rfl ?_
            refine l_if_ge cx (pc2 := 609) (tgt := 618) (by first | assumption | omega | exact hg.1.1 _ | exact ⟨by omega, by omega⟩) dL_law_606 (by decide) rfl (fun h_41 => ?_) (fun h_41 => ?_)
            · skip
              refine l_iinc cx (pc2 := 621) 6 rfl (lv2 := [(0, .ref b), (1, .ref (P1.2.1 0)), (3, .ref av), (5, .int (iI (V 9))), (6, .int (iI b0)), (7, .int (iI most)), (12, .int (iI (i + 1))), (13, .int (iI (cosA M i))), (14, .int (iI 1))]) rfl (Nat.le_of_ble_eq_true rfl) dL_law_618 rfl ?_
              refine l_goto cx (tgt := 530) dL_law_621 (by decide) ?_
              refine l_sub (lv2 := [(0, .ref b), (1, .ref (P1.2.1 0)), (3, .ref av), (5, .int (iI (V 9))), (6, .int (iI b0)), (7, .int (iI most)), (12, .int (iI (i + 1)))]) [0, 1, 2, 3, 4, 5, 6] rfl ?_
              exact ih _ (by omega) _ (i + 1) hM2 (by omega) (Nat.le_refl _)
            · skip
              refine l_iload cx (pc2 := 611) 7 rfl dL_law_609 rfl ?_
              refine l_bipush cx (pc2 := 613) ⟨by decide, by decide⟩ dL_law_611 rfl ?_
              refine l_icmp_eq cx (pc2 := 616) (tgt := 618) ⟨(by first | assumption | omega | exact hg.1.1 _ | exact ⟨by omega, by omega⟩), ⟨by decide, by decide⟩⟩ dL_law_613 (by decide) rfl (fun h_42 => ?_) (fun h_42 => ?_)
              · skip
                refine l_iinc cx (pc2 := 621) 6 rfl (lv2 := [(0, .ref b), (1, .ref (P1.2.1 0)), (3, .ref av), (5, .int (iI (V 9))), (6, .int (iI b0)), (7, .int (iI most)), (12, .int (iI (i + 1))), (13, .int (iI (cosA M i))), (14, .int (iI 1))]) rfl (Nat.le_of_ble_eq_true rfl) dL_law_618 rfl ?_
                refine l_goto cx (tgt := 530) dL_law_621 (by decide) ?_
                refine l_sub (lv2 := [(0, .ref b), (1, .ref (P1.2.1 0)), (3, .ref av), (5, .int (iI (V 9))), (6, .int (iI b0)), (7, .int (iI most)), (12, .int (iI (i + 1)))]) [0, 1, 2, 3, 4, 5, 6] rfl ?_
                exact ih _ (by omega) _ (i + 1) hM2 (by omega) (Nat.le_refl _)
              · skip
                exfalso
                have hbit : (if b0.toNat.testBit i.toNat = true then (1 : Int) else 0) = 1 ∨ (if b0.toNat.testBit i.toNat = true then (1 : Int) else 0) ≠ 1 := Decidable.em _
                rcases hbit with hbit | hbit
                · first | omega | (have q := hc3 (by omega) hbit (by assumption); omega)
                · first | omega | (have q := hc2 (by omega) hbit; omega) | contradiction
          · skip
            refine l_iload cx (pc2 := 577) 7 rfl dL_law_575 rfl ?_
            refine l_if_ge cx (pc2 := 580) (tgt := 594) (by first | assumption | omega | exact hg.1.1 _ | exact ⟨by omega, by omega⟩) dL_law_577 (by decide) rfl (fun h_43 => ?_) (fun h_43 => ?_)
            · skip
              refine l_iload cx (pc2 := 596) 8 rfl dL_law_594 rfl ?_
              refine l_if_ne cx (pc2 := 599) (tgt := 604) ⟨by decide, by decide⟩ dL_law_596 (by decide) rfl (fun h_44 => ?_) (fun h_44 => ?_)
              · skip
                refine l_iload cx (pc2 := 606) 4 rfl dL_law_604 rfl ?_
                refine l_if_ge cx (pc2 := 609) (tgt := 618) (by first | assumption | omega | exact hg.1.1 _ | exact ⟨by omega, by omega⟩) dL_law_606 (by decide) rfl (fun h_45 => ?_) (fun h_45 => ?_)
                · skip
                  refine l_iinc cx (pc2 := 621) 6 rfl (lv2 := [(0, .ref b), (1, .ref (P1.2.1 0)), (3, .ref av), (5, .int (iI (V 9))), (6, .int (iI b0)), (7, .int (iI most)), (12, .int (iI (i + 1))), (13, .int (iI (cosA M i))), (14, .int (iI 1))]) rfl (Nat.le_of_ble_eq_true rfl) dL_law_618 rfl ?_
                  refine l_goto cx (tgt := 530) dL_law_621 (by decide) ?_
                  refine l_sub (lv2 := [(0, .ref b), (1, .ref (P1.2.1 0)), (3, .ref av), (5, .int (iI (V 9))), (6, .int (iI b0)), (7, .int (iI most)), (12, .int (iI (i + 1)))]) [0, 1, 2, 3, 4, 5, 6] rfl ?_
                  exact ih _ (by omega) _ (i + 1) hM2 (by omega) (Nat.le_refl _)
                · skip
                  refine l_iload cx (pc2 := 611) 7 rfl dL_law_609 rfl ?_
                  refine l_bipush cx (pc2 := 613) ⟨by decide, by decide⟩ dL_law_611 rfl ?_
                  refine l_icmp_eq cx (pc2 := 616) (tgt := 618) ⟨(by first | assumption | omega | exact hg.1.1 _ | exact ⟨by omega, by omega⟩), ⟨by decide, by decide⟩⟩ dL_law_613 (by decide) rfl (fun h_46 => ?_) (fun h_46 => ?_)
                  · skip
                    refine l_iinc cx (pc2 := 621) 6 rfl (lv2 := [(0, .ref b), (1, .ref (P1.2.1 0)), (3, .ref av), (5, .int (iI (V 9))), (6, .int (iI b0)), (7, .int (iI most)), (12, .int (iI (i + 1))), (13, .int (iI (cosA M i))), (14, .int (iI 1))]) rfl (Nat.le_of_ble_eq_true rfl) dL_law_618 rfl ?_
                    refine l_goto cx (tgt := 530) dL_law_621 (by decide) ?_
                    refine l_sub (lv2 := [(0, .ref b), (1, .ref (P1.2.1 0)), (3, .ref av), (5, .int (iI (V 9))), (6, .int (iI b0)), (7, .int (iI most)), (12, .int (iI (i + 1)))]) [0, 1, 2, 3, 4, 5, 6] rfl ?_
                    exact ih _ (by omega) _ (i + 1) hM2 (by omega) (Nat.le_refl _)
                  · skip
                    exfalso
                    have hbit : (if b0.toNat.testBit i.toNat = true then (1 : Int) else 0) = 1 ∨ (if b0.toNat.testBit i.toNat = true then (1 : Int) else 0) ≠ 1 := Decidable.em _
                    rcases hbit with hbit | hbit
                    · first | omega | (have q := hc3 (by omega) hbit (by assumption); omega)
                    · first | omega | (have q := hc2 (by omega) hbit; omega) | contradiction
              · skip
                omega
            · skip
              refine l_aload_n cx (pc2 := 581) 2 rfl dL_law_580 rfl ?_
              refine l_iload cx (pc2 := 583) 6 rfl dL_law_581 rfl ?_
              refine l_clI cx (pc2 := 586) (st := []) ys sx (As := [.ref av, .int (iI i)]) (c_L_must (n + q0) (wR_get hV1) hg.1.1 i (by omega)) wM_L_must wS_L_must kl_L_62 ⟨rfl, rfl, Nat.le_of_ble_eq_true rfl, Nat.le_of_ble_eq_true rfl⟩ (Nat.le_of_ble_eq_true rfl) hcr rfl rfl dL_law_583 rfl ?_
              refine l_ifb_ne cx (pc2 := 589) (tgt := 594) dL_law_586 (by decide) rfl (fun h_47 => ?_) (fun h_47 => ?_)
              · skip
                refine l_iload cx (pc2 := 596) 8 rfl dL_law_594 rfl ?_
                refine l_if_ne cx (pc2 := 599) (tgt := 604) ⟨by decide, by decide⟩ dL_law_596 (by decide) rfl (fun h_48 => ?_) (fun h_48 => ?_)
                · skip
                  refine l_iload cx (pc2 := 606) 4 rfl dL_law_604 rfl ?_
                  refine l_if_ge cx (pc2 := 609) (tgt := 618) (by first | assumption | omega | exact hg.1.1 _ | exact ⟨by omega, by omega⟩) dL_law_606 (by decide) rfl (fun h_49 => ?_) (fun h_49 => ?_)
                  · skip
                    refine l_iinc cx (pc2 := 621) 6 rfl (lv2 := [(0, .ref b), (1, .ref (P1.2.1 0)), (3, .ref av), (5, .int (iI (V 9))), (6, .int (iI b0)), (7, .int (iI most)), (12, .int (iI (i + 1))), (13, .int (iI (cosA M i))), (14, .int (iI 1))]) rfl (Nat.le_of_ble_eq_true rfl) dL_law_618 rfl ?_
                    refine l_goto cx (tgt := 530) dL_law_621 (by decide) ?_
                    refine l_sub (lv2 := [(0, .ref b), (1, .ref (P1.2.1 0)), (3, .ref av), (5, .int (iI (V 9))), (6, .int (iI b0)), (7, .int (iI most)), (12, .int (iI (i + 1)))]) [0, 1, 2, 3, 4, 5, 6] rfl ?_
                    exact ih _ (by omega) _ (i + 1) hM2 (by omega) (Nat.le_refl _)
                  · skip
                    refine l_iload cx (pc2 := 611) 7 rfl dL_law_609 rfl ?_
                    refine l_bipush cx (pc2 := 613) ⟨by decide, by decide⟩ dL_law_611 rfl ?_
                    refine l_icmp_eq cx (pc2 := 616) (tgt := 618) ⟨(by first | assumption | omega | exact hg.1.1 _ | exact ⟨by omega, by omega⟩), ⟨by decide, by decide⟩⟩ dL_law_613 (by decide) rfl (fun h_50 => ?_) (fun h_50 => ?_)
                    · skip
                      refine l_iinc cx (pc2 := 621) 6 rfl (lv2 := [(0, .ref b), (1, .ref (P1.2.1 0)), (3, .ref av), (5, .int (iI (V 9))), (6, .int (iI b0)), (7, .int (iI most)), (12, .int (iI (i + 1))), (13, .int (iI (cosA M i))), (14, .int (iI 1))]) rfl (Nat.le_of_ble_eq_true rfl) dL_law_618 rfl ?_
                      refine l_goto cx (tgt := 530) dL_law_621 (by decide) ?_
                      refine l_sub (lv2 := [(0, .ref b), (1, .ref (P1.2.1 0)), (3, .ref av), (5, .int (iI (V 9))), (6, .int (iI b0)), (7, .int (iI most)), (12, .int (iI (i + 1)))]) [0, 1, 2, 3, 4, 5, 6] rfl ?_
                      exact ih _ (by omega) _ (i + 1) hM2 (by omega) (Nat.le_refl _)
                    · skip
                      exfalso
                      have hbit : (if b0.toNat.testBit i.toNat = true then (1 : Int) else 0) = 1 ∨ (if b0.toNat.testBit i.toNat = true then (1 : Int) else 0) ≠ 1 := Decidable.em _
                      rcases hbit with hbit | hbit
                      · first | omega | (have q := hc3 (by omega) hbit (by assumption); omega)
                      · first | omega | (have q := hc2 (by omega) hbit; omega) | contradiction
                · skip
                  omega
              · skip
                refine l_iload cx (pc2 := 591) 8 rfl dL_law_589 rfl ?_
                refine l_if_ne cx (pc2 := 594) (tgt := 616) ⟨by decide, by decide⟩ dL_law_591 (by decide) rfl (fun h_51 => ?_) (fun h_51 => ?_)
                · skip
                  exfalso
                  have hbit : (if b0.toNat.testBit i.toNat = true then (1 : Int) else 0) = 1 ∨ (if b0.toNat.testBit i.toNat = true then (1 : Int) else 0) ≠ 1 := Decidable.em _
                  rcases hbit with hbit | hbit
                  · first | omega | (have q := hc3 (by omega) hbit (by assumption); omega)
                  · first | omega | (have q := hc2 (by omega) hbit; omega) | contradiction
                · skip
                  omega
set_option maxHeartbeats 4000000 in
set_option maxRecDepth 100000 in
theorem law_C1 {X : Yq} {P : Pl} (cx : Yx X cL_law RL room_1 18 P) {b L : Nat} {xs : Nat → Int32} (sx : Sy X b L xs) (ez : Ez X) {P1 : Pl} (ys : Ys X P1) {n : Nat} (hn : NN n) {R : va_W} {av : Nat} {V : Nat → Int} (q0 : Nat) (hV : R[q0]? = some (ar P av 64 V)) (hg : GV V) {cs ss : Nat} (hcs : cs ≤ 599000 ∧ ss ≤ 7300000) {b0 most : Int} (hb : BST V b0) (hbq : ∀ N, HW V N → bstA N = b0) (hm : ¬ b0 = -9 → most = WV V b0.toNat) {ws st c0 : Int} (hc0 : ir c0) (hws : (-9 ≤ ws ∧ ws ≤ st) ∧ st ≤ 144) (hst : ∀ j : Nat, j < 2 ^ nN V → ¬ ENV V j = -9 → WV V j ≤ st) {M : Mm} (hM : VOK V M) : YG X 476 [(0, .ref b), (1, .ref (P1.2.1 0)), (3, .ref av), (5, .int (iI (V 9))), (6, .int (iI b0)), (7, .int (iI most)), (8, .int (iI ws)), (9, .int (iI c0)), (10, .int (iI st)), (11, .int (iI c0))] [] (wld P1 n M ++ R) cs ss := by
  have hcr := hcr_of hcs
  have hV1 : R[q0]? = some (ar P1 av 64 V) := by rw [ys_ar cx ys]; exact hV
  have h9 := hg.2.1
  have h32 := (nN_5 hg).2
  have h8 := GV_0 hg
  have hbb := hb.b
  have hmb : ¬ b0 = -9 → 0 ≤ most ∧ most ≤ 45 := fun q => by rw [hm q]; exact WV_b hg _
  have hnn : ((nN V : Nat) : Int) = V 9 := Int.toNat_of_nonneg h9.1
  refine l_iload cx (pc2 := 478) 9 rfl dL_law_476 rfl ?_
  refine l_iload cx (pc2 := 480) 7 rfl dL_law_478 rfl ?_
  refine l_icmp_ne cx (pc2 := 483) (tgt := 525) ⟨(by first | assumption | omega | exact hg.1.1 _ | exact ⟨by omega, by omega⟩), (by first | assumption | omega | exact hg.1.1 _ | exact ⟨by omega, by omega⟩)⟩ dL_law_480 (by decide) rfl (fun h_1 => ?_) (fun h_1 => ?_)
  · skip
    exfalso
    omega
  · skip
    refine l_iload cx (pc2 := 485) 6 rfl dL_law_483 rfl ?_
    refine l_iload cx (pc2 := 487) 8 rfl dL_law_485 rfl ?_
    refine l_icmp_gt cx (pc2 := 490) (tgt := 525) ⟨(by first | assumption | omega | exact hg.1.1 _ | exact ⟨by omega, by omega⟩), (by first | assumption | omega | exact hg.1.1 _ | exact ⟨by omega, by omega⟩)⟩ dL_law_487 (by decide) rfl (fun h_2 => ?_) (fun h_2 => ?_)
    · skip
      exfalso
      omega
    · skip
      refine l_iload cx (pc2 := 492) 4 rfl dL_law_490 rfl ?_
      refine l_if_lt cx (pc2 := 495) (tgt := 527) (by first | assumption | omega | exact hg.1.1 _ | exact ⟨by omega, by omega⟩) dL_law_492 (by decide) rfl (fun h_3 => ?_) (fun h_3 => ?_)
      · skip
        refine l_sub (lv2 := [(0, .ref b), (1, .ref (P1.2.1 0)), (3, .ref av), (5, .int (iI (V 9))), (6, .int (iI b0)), (7, .int (iI most))]) [0, 1, 2, 3, 4, 5] rfl ?_
        refine l_iconst cx (pc2 := 528) dL_law_527 rfl ?_
        refine l_istore cx (pc2 := 530) (lv2 := [(0, .ref b), (1, .ref (P1.2.1 0)), (3, .ref av), (5, .int (iI (V 9))), (6, .int (iI b0)), (7, .int (iI most)), (12, .int (iI 0))]) rfl (Nat.le_of_ble_eq_true rfl) dL_law_528 rfl ?_
        first | exact law_C2 cx sx ez ys hn q0 hV hg hcs hb hbq hm _ _ 0 hM2 (by omega) (Nat.le_refl _) | exact law_C2 cx sx ez ys hn q0 hV hg hcs hb hbq hm _ _ 0 hM (by omega) (Nat.le_refl _)
      · skip
        have hb3 := hb.f (by omega)
        have hm3 := hm (by omega)
        have hmb2 := hmb (by omega)
        have hs3 := hst b0.toNat (by omega) hb3.1
        have heb := ENV_b hg (s := b0.toNat) (by omega)
        have hmu := muN_lt V
        have hM2 := VOK_kp hM (KP_can hM.2.2 b0)
        refine l_iload cx (pc2 := 497) 5 rfl dL_law_495 rfl ?_
        refine l_iload cx (pc2 := 499) 8 rfl dL_law_497 rfl ?_
        refine l_icmp_gt cx (pc2 := 502) (tgt := 525) ⟨(by first | assumption | omega | exact hg.1.1 _ | exact ⟨by omega, by omega⟩), (by first | assumption | omega | exact hg.1.1 _ | exact ⟨by omega, by omega⟩)⟩ dL_law_499 (by decide) rfl (fun h_4 => ?_) (fun h_4 => ?_)
        · skip
          exfalso
          omega
        · skip
          refine l_aload_n cx (pc2 := 503) 1 rfl dL_law_502 rfl ?_
          refine l_iload cx (pc2 := 505) 4 rfl dL_law_503 rfl ?_
          refine l_ctI cx (pc2 := 508) (st := []) ys hn (M := M) (As := [.int (iI b0)]) (c_canL (M := M) hn hg hM.1.w hM.2.2 b0 (by omega)) wM_X11_can wV_X11_can rfl kl_L_89 ⟨rfl, rfl, Nat.le_of_ble_eq_true rfl, Nat.le_of_ble_eq_true rfl⟩ (Nat.le_of_ble_eq_true rfl) hcr rfl rfl rfl dL_law_505 rfl ?_
          refine l_if_lt cx (pc2 := 511) (tgt := 525) (by first | assumption | omega | exact hg.1.1 _ | exact ⟨by omega, by omega⟩) dL_law_508 (by decide) rfl (fun h_5 => ?_) (fun h_5 => ?_)
          · skip
            exfalso
            omega
          · skip
            refine l_iload cx (pc2 := 513) 4 rfl dL_law_511 rfl ?_
            refine l_aload_n cx (pc2 := 514) 2 rfl dL_law_513 rfl ?_
            refine l_clI cx (pc2 := 517) (st := [.int (iI b0)]) ys sx (As := [.ref av]) (c_L_musts (n + q0) (wR_get hV1) hg.1.1 (by omega)) wM_L_musts wS_L_musts kl_L_103 ⟨rfl, rfl, Nat.le_of_ble_eq_true rfl, Nat.le_of_ble_eq_true rfl⟩ (Nat.le_of_ble_eq_true rfl) hcr rfl rfl dL_law_514 rfl ?_
            refine l_iand cx (pc2 := 518) dL_law_517 rfl ?_
            refine l_rwi (y := iI ((muN V : Nat) : Int)) (mu_and (by omega) hb3.2) ?_
            refine l_aload_n cx (pc2 := 519) 2 rfl dL_law_518 rfl ?_
            refine l_clI cx (pc2 := 522) (st := [.int (iI ((muN V : Nat) : Int))]) ys sx (As := [.ref av]) (c_L_musts (n + q0) (wR_get hV1) hg.1.1 (by omega)) wM_L_musts wS_L_musts kl_L_103 ⟨rfl, rfl, Nat.le_of_ble_eq_true rfl, Nat.le_of_ble_eq_true rfl⟩ (Nat.le_of_ble_eq_true rfl) hcr rfl rfl dL_law_519 rfl ?_
            refine l_icmp_eq cx (pc2 := 525) (tgt := 527) ⟨(by first | assumption | omega | exact hg.1.1 _ | exact ⟨by omega, by omega⟩), (by first | assumption | omega | exact hg.1.1 _ | exact ⟨by omega, by omega⟩)⟩ dL_law_522 (by decide) rfl (fun h_6 => ?_) (fun h_6 => ?_)
            · skip
              refine l_sub (lv2 := [(0, .ref b), (1, .ref (P1.2.1 0)), (3, .ref av), (5, .int (iI (V 9))), (6, .int (iI b0)), (7, .int (iI most))]) [0, 1, 2, 3, 4, 5] rfl ?_
              refine l_iconst cx (pc2 := 528) dL_law_527 rfl ?_
              refine l_istore cx (pc2 := 530) (lv2 := [(0, .ref b), (1, .ref (P1.2.1 0)), (3, .ref av), (5, .int (iI (V 9))), (6, .int (iI b0)), (7, .int (iI most)), (12, .int (iI 0))]) rfl (Nat.le_of_ble_eq_true rfl) dL_law_528 rfl ?_
              first | exact law_C2 cx sx ez ys hn q0 hV hg hcs hb hbq hm _ _ 0 hM2 (by omega) (Nat.le_refl _) | exact law_C2 cx sx ez ys hn q0 hV hg hcs hb hbq hm _ _ 0 hM (by omega) (Nat.le_refl _)
            · skip
              omega
