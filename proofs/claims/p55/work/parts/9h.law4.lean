theorem smZ_01 {f : Nat → Int} (h : ∀ j, 0 ≤ f j ∧ f j ≤ 1) : ∀ k : Nat, 0 ≤ smZ f k ∧ smZ f k ≤ (k : Int)
  | 0 => by
    show (0 : Int) ≤ 0 ∧ (0 : Int) ≤ 0
    omega
  | k + 1 => by
    have ih := smZ_01 h k
    have := h k
    rw [smZ]
    omega
def pcK (X k : Nat) : Int := smZ (fun t => if X.testBit t = true then 1 else 0) k
theorem pcK_b (X k : Nat) : 0 ≤ pcK X k ∧ pcK X k ≤ (k : Int) := smZ_01 (fun j => by split <;> decide) k
theorem pcK_s (X : Nat) {t : Int} (h : 0 ≤ t) : pcK X (t + 1).toNat = pcK X t.toNat + (if X.testBit t.toNat then 1 else 0) := by
  rw [show (t + 1).toNat = t.toNat + 1 by omega]
  rfl
theorem LG_s (V : Nat → Int) (s : Nat) {i : Int} (h : 0 ≤ i) : LG V s (i + 1).toNat = LG V s i.toNat + (if s.testBit i.toNat then 1 else 0) * V (14 + 6 * i).toNat := by
  rw [show (i + 1).toNat = i.toNat + 1 by omega]
  show smZ _ (i.toNat + 1) = _
  rw [smZ, show (14 + 6 * i).toNat = 14 + 6 * i.toNat by omega]
  split
  · rw [Int.one_mul]; rfl
  · rw [Int.zero_mul]; rfl
theorem CNT_s (V : Nat → Int) {k : Int} (h : 0 ≤ k) : CNT V (k + 1).toNat = CNT V k.toNat + (if ENV V k.toNat = -9 then 0 else 1) := by
  rw [show (k + 1).toNat = k.toNat + 1 by omega]
  rfl
theorem sh28 {X : Nat} (h : X < 2 ^ 28) : iI ((X : Nat) : Int) >>> (iI 28 &&& 31) = iI 0 := by
  have h2 : ((2 : Nat) ^ 28) = 268435456 := by decide
  rw [shr_iI (Int.natCast_nonneg _) (by omega) (by decide) (by decide)]
  congr 1
  have e : (28 : Int).toNat = 28 := rfl
  rw [e]
  refine Int.ediv_eq_zero_of_lt (Int.natCast_nonneg _) ?_
  omega
set_option maxHeartbeats 4000000 in
set_option maxRecDepth 100000 in
theorem law_S9 {X : Yq} {P : Pl} (cx : Yx X cL_law RL room_1 18 P) {b L : Nat} {xs : Nat → Int32} (sx : Sy X b L xs) (ez : Ez X) {P1 P2 : Pl} (ys : Ys X P1) (ysq : Ys X P2) {R : va_W} {av : Nat} {V U : Nat → Int} (q0 : Nat) (hV : R[q0]? = some (ar P av 64 V)) (hg : GV V) (hmi : MI V U) {cs ss : Nat} (hcs : cs ≤ 599000 ∧ ss ≤ 7300000) {b0 most ws c0 st : Int} {c1 k : Int} (hk : 0 ≤ k ∧ k < ((2 ^ nN V : Nat) : Int)) (kk : ∀ M N, VOK V M → VOK U N → YG X 210 [(0, .ref b), (1, .ref (P1.2.1 0)), (2, .ref (P2.2.1 0)), (3, .ref av), (5, .int (iI (V 9))), (6, .int (iI b0)), (7, .int (iI most)), (8, .int (iI ws)), (9, .int (iI c0)), (10, .int (iI st)), (11, .int (iI c1)), (12, .int (iI (k + 1)))] [] (wld P1 79 M ++ (wld P2 77 N ++ R)) cs ss) (he : ¬ ENV V k.toNat = -9) {M N : Mm} (hM : VOK V M) (hN : VOK U N) {Xw : Nat} (hx1 : Xw < 2 ^ 28) (hx2 : pc Xw = LG V k.toNat (nN V)) : YG X 425 [(0, .ref b), (1, .ref (P1.2.1 0)), (2, .ref (P2.2.1 0)), (3, .ref av), (5, .int (iI (V 9))), (6, .int (iI b0)), (7, .int (iI most)), (8, .int (iI ws)), (9, .int (iI c0)), (10, .int (iI st)), (11, .int (iI c1)), (12, .int (iI k)), (13, .int (iI (ENV V k.toNat))), (14, .int (iI (LG V k.toNat (nN V)))), (15, .int (iI ((Xw : Nat) : Int))), (16, .int (iI (pcK Xw 28))), (17, .int (iI 28))] [] (wld P1 79 M ++ (wld P2 77 N ++ R)) cs ss := by
  have hcr := hcr_of hcs
  have h9 := hg.2.1
  have h32 := (nN_5 hg).2
  have hn79 : NN 79 := ⟨by decide, by decide⟩
  have hnn : ((nN V : Nat) : Int) = V 9 := Int.toNat_of_nonneg h9.1
  have hkn : k.toNat < 2 ^ nN V := by omega
  have heb := ENV_b hg hkn
  have hxb := pcK_b Xw 28
  have hxe : pcK Xw 28 = LG V k.toNat (nN V) := hx2
  have hf := fst_V hg hM.1.w hkn he
  have ho := ord_V hg hM.1.w hM.2.2 hkn he
  rw [Int.toNat_of_nonneg hk.1] at hf ho
  have k1 := KP_first hM.2.2 k
  have k2 := KP_order k1.2 1
  refine l_iload cx (pc2 := 427) 15 rfl dL_law_425 rfl ?_
  refine l_iload cx (pc2 := 429) 13 rfl dL_law_427 rfl ?_
  refine l_icmp_ne cx (pc2 := 432) (tgt := 468) ⟨(by first | assumption | omega | exact hg.1.1 _ | exact ⟨by omega, by omega⟩), (by first | assumption | omega | exact hg.1.1 _ | exact ⟨by omega, by omega⟩)⟩ dL_law_429 (by decide) rfl (fun h_1 => ?_) (fun h_1 => ?_)
  · skip
    omega
  · skip
    refine l_iload cx (pc2 := 434) 14 rfl dL_law_432 rfl ?_
    refine l_bipush cx (pc2 := 436) ⟨by decide, by decide⟩ dL_law_434 rfl ?_
    refine l_ishr cx (pc2 := 437) dL_law_436 rfl ?_
    refine l_rwi (y := iI 0) (sh28 hx1) ?_
    refine l_if_ne cx (pc2 := 440) (tgt := 468) ⟨by decide, by decide⟩ dL_law_437 (by decide) rfl (fun h_2 => ?_) (fun h_2 => ?_)
    · skip
      omega
    · skip
      refine l_aload_n cx (pc2 := 441) 1 rfl dL_law_440 rfl ?_
      refine l_iload cx (pc2 := 443) 11 rfl dL_law_441 rfl ?_
      refine l_iconst cx (pc2 := 444) dL_law_443 rfl ?_
      refine l_ctI cx (pc2 := 447) (st := []) ys hn79 (M := M) (As := [.int (iI k), .int (iI 1)]) (c_X11_first (M := M) hn79 hM.2.2 k 1 ⟨by omega, by omega⟩ ⟨by decide, by decide⟩) wM_X11_first wV_X11_first rfl kl_L_98 ⟨rfl, rfl, Nat.le_of_ble_eq_true rfl, Nat.le_of_ble_eq_true rfl⟩ (Nat.le_of_ble_eq_true rfl) hcr rfl rfl rfl dL_law_444 rfl ?_
      refine l_rwi (y := iI 1) (congrArg iI hf.1) ?_
      refine l_iconst cx (pc2 := 448) dL_law_447 rfl ?_
      refine l_icmp_ne cx (pc2 := 451) (tgt := 468) ⟨⟨by decide, by decide⟩, ⟨by decide, by decide⟩⟩ dL_law_448 (by decide) rfl (fun h_3 => ?_) (fun h_3 => ?_)
      · skip
        omega
      · skip
        refine l_aload_n cx (pc2 := 452) 1 rfl dL_law_451 rfl ?_
        refine l_iconst cx (pc2 := 453) dL_law_452 rfl ?_
        refine l_ctI cx (pc2 := 456) (st := []) ys hn79 (M := (fstM M k 1)) (As := [.int (iI 1)]) (c_X11_order (M := (fstM M k 1)) hn79 k1.2 1 ⟨by decide, by decide⟩) wM_X11_order wV_X11_order rfl kl_L_100 ⟨rfl, rfl, Nat.le_of_ble_eq_true rfl, Nat.le_of_ble_eq_true rfl⟩ (Nat.le_of_ble_eq_true rfl) hcr rfl rfl rfl dL_law_453 rfl ?_
        refine l_if_lt cx (pc2 := 459) (tgt := 468) (by first | assumption | omega | exact hg.1.1 _ | exact ⟨by omega, by omega⟩) dL_law_456 (by decide) rfl (fun h_4 => ?_) (fun h_4 => ?_)
        · skip
          omega
        · skip
          refine l_aload_n cx (pc2 := 460) 1 rfl dL_law_459 rfl ?_
          refine l_ctI cx (pc2 := 463) (st := []) ys hn79 (M := (ordM (fstM M k 1) 1)) (As := []) (c_X11_asked (M := (ordM (fstM M k 1) 1)) hn79) wM_X11_asked wV_X11_asked rfl kl_L_65 ⟨rfl, rfl, Nat.le_of_ble_eq_true rfl, Nat.le_of_ble_eq_true rfl⟩ (Nat.le_of_ble_eq_true rfl) hcr rfl rfl rfl dL_law_460 rfl ?_
          refine l_iload cx (pc2 := 465) 12 rfl dL_law_463 rfl ?_
          refine l_icmp_ge cx (pc2 := 468) (tgt := 470) ⟨(by first | assumption | omega | exact hg.1.1 _ | exact ⟨by omega, by omega⟩), (by first | assumption | omega | exact hg.1.1 _ | exact ⟨by omega, by omega⟩)⟩ dL_law_465 (by decide) rfl (fun h_5 => ?_) (fun h_5 => ?_)
          · skip
            refine l_iinc cx (pc2 := 473) 11 rfl (lv2 := [(0, .ref b), (1, .ref (P1.2.1 0)), (2, .ref (P2.2.1 0)), (3, .ref av), (5, .int (iI (V 9))), (6, .int (iI b0)), (7, .int (iI most)), (8, .int (iI ws)), (9, .int (iI c0)), (10, .int (iI st)), (11, .int (iI c1)), (12, .int (iI (k + 1))), (13, .int (iI (ENV V k.toNat))), (14, .int (iI (LG V k.toNat (nN V)))), (15, .int (iI ((Xw : Nat) : Int))), (16, .int (iI (pcK Xw 28))), (17, .int (iI 28))]) rfl (Nat.le_of_ble_eq_true rfl) dL_law_470 rfl ?_
            refine l_goto cx (tgt := 210) dL_law_473 (by decide) ?_
            refine l_sub (lv2 := [(0, .ref b), (1, .ref (P1.2.1 0)), (2, .ref (P2.2.1 0)), (3, .ref av), (5, .int (iI (V 9))), (6, .int (iI b0)), (7, .int (iI most)), (8, .int (iI ws)), (9, .int (iI c0)), (10, .int (iI st)), (11, .int (iI c1)), (12, .int (iI (k + 1)))]) [0, 1, 2, 3, 4, 5, 6, 7, 8, 9, 10, 11] rfl ?_
            exact kk _ _ ((VOK_kp (VOK_kp hM k1) k2)) hN
          · skip
            omega
set_option maxHeartbeats 4000000 in
set_option maxRecDepth 100000 in
theorem law_S8 {X : Yq} {P : Pl} (cx : Yx X cL_law RL room_1 18 P) {b L : Nat} {xs : Nat → Int32} (sx : Sy X b L xs) (ez : Ez X) {P1 P2 : Pl} (ys : Ys X P1) (ysq : Ys X P2) {R : va_W} {av : Nat} {V U : Nat → Int} (q0 : Nat) (hV : R[q0]? = some (ar P av 64 V)) (hg : GV V) (hmi : MI V U) {cs ss : Nat} (hcs : cs ≤ 599000 ∧ ss ≤ 7300000) {b0 most ws c0 st : Int} {c1 k : Int} (hk : 0 ≤ k ∧ k < ((2 ^ nN V : Nat) : Int)) (kk : ∀ M N, VOK V M → VOK U N → YG X 210 [(0, .ref b), (1, .ref (P1.2.1 0)), (2, .ref (P2.2.1 0)), (3, .ref av), (5, .int (iI (V 9))), (6, .int (iI b0)), (7, .int (iI most)), (8, .int (iI ws)), (9, .int (iI c0)), (10, .int (iI st)), (11, .int (iI c1)), (12, .int (iI (k + 1)))] [] (wld P1 79 M ++ (wld P2 77 N ++ R)) cs ss) (he : ¬ ENV V k.toNat = -9) {M N : Mm} (hM : VOK V M) (hN : VOK U N) {Xw : Nat} (hx1 : Xw < 2 ^ 28) (hx2 : pc Xw = LG V k.toNat (nN V)) : ∀ (fu : Nat) (t : Int), (0 ≤ t ∧ t ≤ 28) → ((28 - t).toNat) ≤ fu → YG X 400 [(0, .ref b), (1, .ref (P1.2.1 0)), (2, .ref (P2.2.1 0)), (3, .ref av), (5, .int (iI (V 9))), (6, .int (iI b0)), (7, .int (iI most)), (8, .int (iI ws)), (9, .int (iI c0)), (10, .int (iI st)), (11, .int (iI c1)), (12, .int (iI k)), (13, .int (iI (ENV V k.toNat))), (14, .int (iI (LG V k.toNat (nN V)))), (15, .int (iI ((Xw : Nat) : Int))), (16, .int (iI (pcK Xw t.toNat))), (17, .int (iI t))] [] (wld P1 79 M ++ (wld P2 77 N ++ R)) cs ss := by
  intro fu
  induction fu using Nat.strongRecOn with
  | _ fu ih =>
    intro t ht hfu
    have hcr := hcr_of hcs
    have h9 := hg.2.1
    have h32 := (nN_5 hg).2
    have hn79 : NN 79 := ⟨by decide, by decide⟩
    have hnn : ((nN V : Nat) : Int) = V 9 := Int.toNat_of_nonneg h9.1
    have hkn : k.toNat < 2 ^ nN V := by omega
    have heb := ENV_b hg hkn
    have hxc : ((2 : Nat) ^ 28) = 268435456 := by decide
    refine l_iload cx (pc2 := 402) 16 rfl dL_law_400 rfl ?_
    refine l_bipush cx (pc2 := 404) ⟨by decide, by decide⟩ dL_law_402 rfl ?_
    refine l_icmp_ge cx (pc2 := 407) (tgt := 425) ⟨(by first | assumption | omega | exact hg.1.1 _ | exact ⟨by omega, by omega⟩), ⟨by decide, by decide⟩⟩ dL_law_404 (by decide) rfl (fun h_1 => ?_) (fun h_1 => ?_)
    · skip
      have e28 : t = 28 := by omega
      subst e28
      exact law_S9 cx sx ez ys ysq q0 hV hg hmi hcs hk kk he hM hN hx1 hx2
    · skip
      refine l_iload cx (pc2 := 409) 15 rfl dL_law_407 rfl ?_
      refine l_iload cx (pc2 := 411) 14 rfl dL_law_409 rfl ?_
      refine l_iload cx (pc2 := 413) 16 rfl dL_law_411 rfl ?_
      refine l_ishr cx (pc2 := 414) dL_law_413 rfl ?_
      refine l_iconst cx (pc2 := 415) dL_law_414 rfl ?_
      refine l_iand cx (pc2 := 416) dL_law_415 rfl ?_
      refine l_rwi (y := iI (if Xw.testBit t.toNat then 1 else 0)) (by rw [shr1 (by omega) (by omega) (by omega) (by omega), Int.toNat_natCast]) ?_
      refine l_iadd cx (pc2 := 417) dL_law_416 rfl ?_
      refine l_rwi (y := iI (pcK Xw (t + 1).toNat)) (by rw [pcK_s Xw (by omega)]) ?_
      refine l_istore cx (pc2 := 419) (lv2 := [(0, .ref b), (1, .ref (P1.2.1 0)), (2, .ref (P2.2.1 0)), (3, .ref av), (5, .int (iI (V 9))), (6, .int (iI b0)), (7, .int (iI most)), (8, .int (iI ws)), (9, .int (iI c0)), (10, .int (iI st)), (11, .int (iI c1)), (12, .int (iI k)), (13, .int (iI (ENV V k.toNat))), (14, .int (iI (LG V k.toNat (nN V)))), (15, .int (iI ((Xw : Nat) : Int))), (16, .int (iI (pcK Xw (t + 1).toNat))), (17, .int (iI t))]) rfl (Nat.le_of_ble_eq_true rfl) dL_law_417 rfl ?_
      refine l_iinc cx (pc2 := 422) 16 rfl (lv2 := [(0, .ref b), (1, .ref (P1.2.1 0)), (2, .ref (P2.2.1 0)), (3, .ref av), (5, .int (iI (V 9))), (6, .int (iI b0)), (7, .int (iI most)), (8, .int (iI ws)), (9, .int (iI c0)), (10, .int (iI st)), (11, .int (iI c1)), (12, .int (iI k)), (13, .int (iI (ENV V k.toNat))), (14, .int (iI (LG V k.toNat (nN V)))), (15, .int (iI ((Xw : Nat) : Int))), (16, .int (iI (pcK Xw (t + 1).toNat))), (17, .int (iI (t + 1)))]) rfl (Nat.le_of_ble_eq_true rfl) dL_law_419 rfl ?_
      refine l_goto cx (tgt := 400) dL_law_422 (by decide) ?_
      exact ih _ (by omega) (t + 1) (by omega) (Nat.le_refl _)
set_option maxHeartbeats 4000000 in
set_option maxRecDepth 100000 in
theorem law_S7 {X : Yq} {P : Pl} (cx : Yx X cL_law RL room_1 18 P) {b L : Nat} {xs : Nat → Int32} (sx : Sy X b L xs) (ez : Ez X) {P1 P2 : Pl} (ys : Ys X P1) (ysq : Ys X P2) {R : va_W} {av : Nat} {V U : Nat → Int} (q0 : Nat) (hV : R[q0]? = some (ar P av 64 V)) (hg : GV V) (hmi : MI V U) {cs ss : Nat} (hcs : cs ≤ 599000 ∧ ss ≤ 7300000) {b0 most ws c0 st : Int} {c1 k : Int} (hk : 0 ≤ k ∧ k < ((2 ^ nN V : Nat) : Int)) (kk : ∀ M N, VOK V M → VOK U N → YG X 210 [(0, .ref b), (1, .ref (P1.2.1 0)), (2, .ref (P2.2.1 0)), (3, .ref av), (5, .int (iI (V 9))), (6, .int (iI b0)), (7, .int (iI most)), (8, .int (iI ws)), (9, .int (iI c0)), (10, .int (iI st)), (11, .int (iI c1)), (12, .int (iI (k + 1)))] [] (wld P1 79 M ++ (wld P2 77 N ++ R)) cs ss) (he : ¬ ENV V k.toNat = -9) {M N : Mm} (hM : VOK V M) (hN : VOK U N) : YG X 386 [(0, .ref b), (1, .ref (P1.2.1 0)), (2, .ref (P2.2.1 0)), (3, .ref av), (5, .int (iI (V 9))), (6, .int (iI b0)), (7, .int (iI most)), (8, .int (iI ws)), (9, .int (iI c0)), (10, .int (iI st)), (11, .int (iI c1)), (12, .int (iI k)), (13, .int (iI (ENV V k.toNat))), (14, .int (iI (LG V k.toNat (nN V))))] [] (wld P1 79 M ++ (wld P2 77 N ++ R)) cs ss := by
  have hcr := hcr_of hcs
  have h9 := hg.2.1
  have h32 := (nN_5 hg).2
  have hn79 : NN 79 := ⟨by decide, by decide⟩
  have hnn : ((nN V : Nat) : Int) = V 9 := Int.toNat_of_nonneg h9.1
  have hkn : k.toNat < 2 ^ nN V := by omega
  have heb := ENV_b hg hkn
  obtain ⟨Xw, hx0, hx1, hx2⟩ := wor_V hg hM.1.w hkn he
  rw [Int.toNat_of_nonneg hk.1] at hx0
  have k1 := KP_worn hM.2.2 k
  refine l_aload_n cx (pc2 := 387) 1 rfl dL_law_386 rfl ?_
  refine l_iload cx (pc2 := 389) 11 rfl dL_law_387 rfl ?_
  refine l_ctI cx (pc2 := 392) (st := []) ys hn79 (M := M) (As := [.int (iI k)]) (c_X11_worn (M := M) hn79 hM.2.2 k ⟨by omega, by omega⟩) wM_X11_worn wV_X11_worn rfl kl_L_95 ⟨rfl, rfl, Nat.le_of_ble_eq_true rfl, Nat.le_of_ble_eq_true rfl⟩ (Nat.le_of_ble_eq_true rfl) hcr rfl rfl rfl dL_law_389 rfl ?_
  refine l_rwi (y := iI ((Xw : Nat) : Int)) (congrArg iI hx0) ?_
  refine l_istore cx (pc2 := 394) (lv2 := [(0, .ref b), (1, .ref (P1.2.1 0)), (2, .ref (P2.2.1 0)), (3, .ref av), (5, .int (iI (V 9))), (6, .int (iI b0)), (7, .int (iI most)), (8, .int (iI ws)), (9, .int (iI c0)), (10, .int (iI st)), (11, .int (iI c1)), (12, .int (iI k)), (13, .int (iI (ENV V k.toNat))), (14, .int (iI (LG V k.toNat (nN V)))), (15, .int (iI ((Xw : Nat) : Int)))]) rfl (Nat.le_of_ble_eq_true rfl) dL_law_392 rfl ?_
  refine l_iconst cx (pc2 := 395) dL_law_394 rfl ?_
  refine l_istore cx (pc2 := 397) (lv2 := [(0, .ref b), (1, .ref (P1.2.1 0)), (2, .ref (P2.2.1 0)), (3, .ref av), (5, .int (iI (V 9))), (6, .int (iI b0)), (7, .int (iI most)), (8, .int (iI ws)), (9, .int (iI c0)), (10, .int (iI st)), (11, .int (iI c1)), (12, .int (iI k)), (13, .int (iI (ENV V k.toNat))), (14, .int (iI (LG V k.toNat (nN V)))), (15, .int (iI ((Xw : Nat) : Int))), (16, .int (iI 0))]) rfl (Nat.le_of_ble_eq_true rfl) dL_law_395 rfl ?_
  refine l_iconst cx (pc2 := 398) dL_law_397 rfl ?_
  refine l_istore cx (pc2 := 400) (lv2 := [(0, .ref b), (1, .ref (P1.2.1 0)), (2, .ref (P2.2.1 0)), (3, .ref av), (5, .int (iI (V 9))), (6, .int (iI b0)), (7, .int (iI most)), (8, .int (iI ws)), (9, .int (iI c0)), (10, .int (iI st)), (11, .int (iI c1)), (12, .int (iI k)), (13, .int (iI (ENV V k.toNat))), (14, .int (iI (LG V k.toNat (nN V)))), (15, .int (iI ((Xw : Nat) : Int))), (16, .int (iI 0)), (17, .int (iI 0))]) rfl (Nat.le_of_ble_eq_true rfl) dL_law_398 rfl ?_
  exact law_S8 cx sx ez ys ysq q0 hV hg hmi hcs hk kk he (VOK_kp hM k1) hN hx1 hx2 _ 0 (by decide) (Nat.le_refl _)
set_option maxHeartbeats 4000000 in
set_option maxRecDepth 100000 in
theorem law_S6 {X : Yq} {P : Pl} (cx : Yx X cL_law RL room_1 18 P) {b L : Nat} {xs : Nat → Int32} (sx : Sy X b L xs) (ez : Ez X) {P1 P2 : Pl} (ys : Ys X P1) (ysq : Ys X P2) {R : va_W} {av : Nat} {V U : Nat → Int} (q0 : Nat) (hV : R[q0]? = some (ar P av 64 V)) (hg : GV V) (hmi : MI V U) {cs ss : Nat} (hcs : cs ≤ 599000 ∧ ss ≤ 7300000) {b0 most ws c0 st : Int} {c1 k : Int} (hk : 0 ≤ k ∧ k < ((2 ^ nN V : Nat) : Int)) (kk : ∀ M N, VOK V M → VOK U N → YG X 210 [(0, .ref b), (1, .ref (P1.2.1 0)), (2, .ref (P2.2.1 0)), (3, .ref av), (5, .int (iI (V 9))), (6, .int (iI b0)), (7, .int (iI most)), (8, .int (iI ws)), (9, .int (iI c0)), (10, .int (iI st)), (11, .int (iI c1)), (12, .int (iI (k + 1)))] [] (wld P1 79 M ++ (wld P2 77 N ++ R)) cs ss) (he : ¬ ENV V k.toNat = -9) {M N : Mm} (hM : VOK V M) (hN : VOK U N) : ∀ (fu : Nat) (i : Int), (0 ≤ i ∧ i ≤ V 9) → ((V 9 - i).toNat) ≤ fu → YG X 350 [(0, .ref b), (1, .ref (P1.2.1 0)), (2, .ref (P2.2.1 0)), (3, .ref av), (5, .int (iI (V 9))), (6, .int (iI b0)), (7, .int (iI most)), (8, .int (iI ws)), (9, .int (iI c0)), (10, .int (iI st)), (11, .int (iI c1)), (12, .int (iI k)), (13, .int (iI (ENV V k.toNat))), (14, .int (iI (LG V k.toNat i.toNat))), (15, .int (iI i))] [] (wld P1 79 M ++ (wld P2 77 N ++ R)) cs ss := by
  intro fu
  induction fu using Nat.strongRecOn with
  | _ fu ih =>
    intro i hi hfu
    have hcr := hcr_of hcs
    have h9 := hg.2.1
    have h32 := (nN_5 hg).2
    have hn79 : NN 79 := ⟨by decide, by decide⟩
    have hnn : ((nN V : Nat) : Int) = V 9 := Int.toNat_of_nonneg h9.1
    have hkn : k.toNat < 2 ^ nN V := by omega
    have heb := ENV_b hg hkn
    refine l_iload cx (pc2 := 352) 14 rfl dL_law_350 rfl ?_
    refine l_iload cx (pc2 := 354) 4 rfl dL_law_352 rfl ?_
    refine l_icmp_ge cx (pc2 := 357) (tgt := 386) ⟨(by first | assumption | omega | exact hg.1.1 _ | exact ⟨by omega, by omega⟩), (by first | assumption | omega | exact hg.1.1 _ | exact ⟨by omega, by omega⟩)⟩ dL_law_354 (by decide) rfl (fun h_1 => ?_) (fun h_1 => ?_)
    · skip
      refine l_sub (lv2 := [(0, .ref b), (1, .ref (P1.2.1 0)), (2, .ref (P2.2.1 0)), (3, .ref av), (5, .int (iI (V 9))), (6, .int (iI b0)), (7, .int (iI most)), (8, .int (iI ws)), (9, .int (iI c0)), (10, .int (iI st)), (11, .int (iI c1)), (12, .int (iI k)), (13, .int (iI (ENV V k.toNat))), (14, .int (iI (LG V k.toNat i.toNat)))]) [0, 1, 2, 3, 4, 5, 6, 7, 8, 9, 10, 11, 12, 13] rfl ?_
      have ein : i.toNat = nN V := by omega
      rw [ein]
      exact law_S7 cx sx ez ys ysq q0 hV hg hmi hcs hk kk he hM hN
    · skip
      refine l_iload cx (pc2 := 359) 13 rfl dL_law_357 rfl ?_
      refine l_iload cx (pc2 := 361) 11 rfl dL_law_359 rfl ?_
      refine l_iload cx (pc2 := 363) 14 rfl dL_law_361 rfl ?_
      refine l_ishr cx (pc2 := 364) dL_law_363 rfl ?_
      refine l_iconst cx (pc2 := 365) dL_law_364 rfl ?_
      refine l_iand cx (pc2 := 366) dL_law_365 rfl ?_
      refine l_rwi (y := iI (if k.toNat.testBit i.toNat then 1 else 0)) (shr1 (by omega) (by omega) (by omega) (by omega)) ?_
      refine l_aload_n cx (pc2 := 367) 3 rfl dL_law_366 rfl ?_
      refine l_bipush cx (pc2 := 369) ⟨by decide, by decide⟩ dL_law_367 rfl ?_
      refine l_bipush cx (pc2 := 371) ⟨by decide, by decide⟩ dL_law_369 rfl ?_
      refine l_iload cx (pc2 := 373) 14 rfl dL_law_371 rfl ?_
      refine l_imul cx (pc2 := 374) dL_law_373 rfl ?_
      refine l_iadd cx (pc2 := 375) dL_law_374 rfl ?_
      refine l_iaload cx (pc2 := 376) (N := 64) (V := V) (79 + (77 + q0)) (wR_get (wR_get hV)) (by first | assumption | omega | exact hg.1.1 _ | exact ⟨by omega, by omega⟩) (by first | assumption | omega | exact hg.1.1 _ | exact ⟨by omega, by omega⟩) (Nat.le_of_ble_eq_true rfl) dL_law_375 rfl ?_
      refine l_imul cx (pc2 := 377) dL_law_376 rfl ?_
      refine l_iadd cx (pc2 := 378) dL_law_377 rfl ?_
      refine l_rwi (y := iI (LG V k.toNat (i + 1).toNat)) (by rw [LG_s V k.toNat (by omega)]) ?_
      refine l_istore cx (pc2 := 380) (lv2 := [(0, .ref b), (1, .ref (P1.2.1 0)), (2, .ref (P2.2.1 0)), (3, .ref av), (5, .int (iI (V 9))), (6, .int (iI b0)), (7, .int (iI most)), (8, .int (iI ws)), (9, .int (iI c0)), (10, .int (iI st)), (11, .int (iI c1)), (12, .int (iI k)), (13, .int (iI (ENV V k.toNat))), (14, .int (iI (LG V k.toNat (i + 1).toNat))), (15, .int (iI i))]) rfl (Nat.le_of_ble_eq_true rfl) dL_law_378 rfl ?_
      refine l_iinc cx (pc2 := 383) 14 rfl (lv2 := [(0, .ref b), (1, .ref (P1.2.1 0)), (2, .ref (P2.2.1 0)), (3, .ref av), (5, .int (iI (V 9))), (6, .int (iI b0)), (7, .int (iI most)), (8, .int (iI ws)), (9, .int (iI c0)), (10, .int (iI st)), (11, .int (iI c1)), (12, .int (iI k)), (13, .int (iI (ENV V k.toNat))), (14, .int (iI (LG V k.toNat (i + 1).toNat))), (15, .int (iI (i + 1)))]) rfl (Nat.le_of_ble_eq_true rfl) dL_law_380 rfl ?_
      refine l_goto cx (tgt := 350) dL_law_383 (by decide) ?_
      exact ih _ (by omega) (i + 1) (by omega) (Nat.le_refl _)
set_option maxHeartbeats 4000000 in
set_option maxRecDepth 100000 in
theorem law_S5 {X : Yq} {P : Pl} (cx : Yx X cL_law RL room_1 18 P) {b L : Nat} {xs : Nat → Int32} (sx : Sy X b L xs) (ez : Ez X) {P1 P2 : Pl} (ys : Ys X P1) (ysq : Ys X P2) {R : va_W} {av : Nat} {V U : Nat → Int} (q0 : Nat) (hV : R[q0]? = some (ar P av 64 V)) (hg : GV V) (hmi : MI V U) {cs ss : Nat} (hcs : cs ≤ 599000 ∧ ss ≤ 7300000) {b0 most ws c0 st : Int} {c1 k : Int} (hk : 0 ≤ k ∧ k < ((2 ^ nN V : Nat) : Int)) (kk : ∀ M N, VOK V M → VOK U N → YG X 210 [(0, .ref b), (1, .ref (P1.2.1 0)), (2, .ref (P2.2.1 0)), (3, .ref av), (5, .int (iI (V 9))), (6, .int (iI b0)), (7, .int (iI most)), (8, .int (iI ws)), (9, .int (iI c0)), (10, .int (iI st)), (11, .int (iI c1)), (12, .int (iI (k + 1)))] [] (wld P1 79 M ++ (wld P2 77 N ++ R)) cs ss) {M N : Mm} (hM : VOK V M) (hN : VOK U N) : YG X 339 [(0, .ref b), (1, .ref (P1.2.1 0)), (2, .ref (P2.2.1 0)), (3, .ref av), (5, .int (iI (V 9))), (6, .int (iI b0)), (7, .int (iI most)), (8, .int (iI ws)), (9, .int (iI c0)), (10, .int (iI st)), (11, .int (iI c1)), (12, .int (iI k)), (13, .int (iI (ENV V k.toNat)))] [] (wld P1 79 M ++ (wld P2 77 N ++ R)) cs ss := by
  have hcr := hcr_of hcs
  have h9 := hg.2.1
  have h32 := (nN_5 hg).2
  have hn79 : NN 79 := ⟨by decide, by decide⟩
  have hnn : ((nN V : Nat) : Int) = V 9 := Int.toNat_of_nonneg h9.1
  have hkn : k.toNat < 2 ^ nN V := by omega
  have heb := ENV_b hg hkn
  refine l_iload cx (pc2 := 341) 12 rfl dL_law_339 rfl ?_
  refine l_if_lt cx (pc2 := 344) (tgt := 470) (by first | assumption | omega | exact hg.1.1 _ | exact ⟨by omega, by omega⟩) dL_law_341 (by decide) rfl (fun h_1 => ?_) (fun h_1 => ?_)
  · skip
    refine l_iinc cx (pc2 := 473) 11 rfl (lv2 := [(0, .ref b), (1, .ref (P1.2.1 0)), (2, .ref (P2.2.1 0)), (3, .ref av), (5, .int (iI (V 9))), (6, .int (iI b0)), (7, .int (iI most)), (8, .int (iI ws)), (9, .int (iI c0)), (10, .int (iI st)), (11, .int (iI c1)), (12, .int (iI (k + 1))), (13, .int (iI (ENV V k.toNat)))]) rfl (Nat.le_of_ble_eq_true rfl) dL_law_470 rfl ?_
    refine l_goto cx (tgt := 210) dL_law_473 (by decide) ?_
    refine l_sub (lv2 := [(0, .ref b), (1, .ref (P1.2.1 0)), (2, .ref (P2.2.1 0)), (3, .ref av), (5, .int (iI (V 9))), (6, .int (iI b0)), (7, .int (iI most)), (8, .int (iI ws)), (9, .int (iI c0)), (10, .int (iI st)), (11, .int (iI c1)), (12, .int (iI (k + 1)))]) [0, 1, 2, 3, 4, 5, 6, 7, 8, 9, 10, 11] rfl ?_
    exact kk _ _ hM hN
  · skip
    refine l_iconst cx (pc2 := 345) dL_law_344 rfl ?_
    refine l_istore cx (pc2 := 347) (lv2 := [(0, .ref b), (1, .ref (P1.2.1 0)), (2, .ref (P2.2.1 0)), (3, .ref av), (5, .int (iI (V 9))), (6, .int (iI b0)), (7, .int (iI most)), (8, .int (iI ws)), (9, .int (iI c0)), (10, .int (iI st)), (11, .int (iI c1)), (12, .int (iI k)), (13, .int (iI (ENV V k.toNat))), (14, .int (iI 0))]) rfl (Nat.le_of_ble_eq_true rfl) dL_law_345 rfl ?_
    refine l_iconst cx (pc2 := 348) dL_law_347 rfl ?_
    refine l_istore cx (pc2 := 350) (lv2 := [(0, .ref b), (1, .ref (P1.2.1 0)), (2, .ref (P2.2.1 0)), (3, .ref av), (5, .int (iI (V 9))), (6, .int (iI b0)), (7, .int (iI most)), (8, .int (iI ws)), (9, .int (iI c0)), (10, .int (iI st)), (11, .int (iI c1)), (12, .int (iI k)), (13, .int (iI (ENV V k.toNat))), (14, .int (iI 0)), (15, .int (iI 0))]) rfl (Nat.le_of_ble_eq_true rfl) dL_law_348 rfl ?_
    exact law_S6 cx sx ez ys ysq q0 hV hg hmi hcs hk kk (by omega) hM hN _ 0 (by omega) (Nat.le_refl _)
set_option maxHeartbeats 4000000 in
set_option maxRecDepth 100000 in
theorem law_S4 {X : Yq} {P : Pl} (cx : Yx X cL_law RL room_1 18 P) {b L : Nat} {xs : Nat → Int32} (sx : Sy X b L xs) (ez : Ez X) {P1 P2 : Pl} (ys : Ys X P1) (ysq : Ys X P2) {R : va_W} {av : Nat} {V U : Nat → Int} (q0 : Nat) (hV : R[q0]? = some (ar P av 64 V)) (hg : GV V) (hmi : MI V U) {cs ss : Nat} (hcs : cs ≤ 599000 ∧ ss ≤ 7300000) {b0 most ws c0 st : Int} {c1 k : Int} (hk : 0 ≤ k ∧ k < ((2 ^ nN V : Nat) : Int)) (kk : ∀ M N, VOK V M → VOK U N → YG X 210 [(0, .ref b), (1, .ref (P1.2.1 0)), (2, .ref (P2.2.1 0)), (3, .ref av), (5, .int (iI (V 9))), (6, .int (iI b0)), (7, .int (iI most)), (8, .int (iI ws)), (9, .int (iI c0)), (10, .int (iI st)), (11, .int (iI c1)), (12, .int (iI (k + 1)))] [] (wld P1 79 M ++ (wld P2 77 N ++ R)) cs ss) {N : Mm} (hN : VOK U N) : ∀ (fu : Nat) (M : Mm) (i : Int), (VOK V M) → (0 ≤ i ∧ i ≤ V 9) → ((V 9 - i).toNat) ≤ fu → YG X 292 [(0, .ref b), (1, .ref (P1.2.1 0)), (2, .ref (P2.2.1 0)), (3, .ref av), (5, .int (iI (V 9))), (6, .int (iI b0)), (7, .int (iI most)), (8, .int (iI ws)), (9, .int (iI c0)), (10, .int (iI st)), (11, .int (iI c1)), (12, .int (iI k)), (13, .int (iI (ENV V k.toNat))), (14, .int (iI i))] [] (wld P1 79 M ++ (wld P2 77 N ++ R)) cs ss := by
  intro fu
  induction fu using Nat.strongRecOn with
  | _ fu ih =>
    intro M i hM hi hfu
    have hcr := hcr_of hcs
    have h9 := hg.2.1
    have h32 := (nN_5 hg).2
    have hn79 : NN 79 := ⟨by decide, by decide⟩
    have hnn : ((nN V : Nat) : Int) = V 9 := Int.toNat_of_nonneg h9.1
    have hkn : k.toNat < 2 ^ nN V := by omega
    have heb := ENV_b hg hkn
    have hnl := ndN_le k.toNat (2 ^ i.toNat)
    refine l_iload cx (pc2 := 294) 13 rfl dL_law_292 rfl ?_
    refine l_iload cx (pc2 := 296) 4 rfl dL_law_294 rfl ?_
    refine l_icmp_ge cx (pc2 := 299) (tgt := 339) ⟨(by first | assumption | omega | exact hg.1.1 _ | exact ⟨by omega, by omega⟩), (by first | assumption | omega | exact hg.1.1 _ | exact ⟨by omega, by omega⟩)⟩ dL_law_296 (by decide) rfl (fun h_1 => ?_) (fun h_1 => ?_)
    · skip
      refine l_sub (lv2 := [(0, .ref b), (1, .ref (P1.2.1 0)), (2, .ref (P2.2.1 0)), (3, .ref av), (5, .int (iI (V 9))), (6, .int (iI b0)), (7, .int (iI most)), (8, .int (iI ws)), (9, .int (iI c0)), (10, .int (iI st)), (11, .int (iI c1)), (12, .int (iI k)), (13, .int (iI (ENV V k.toNat)))]) [0, 1, 2, 3, 4, 5, 6, 7, 8, 9, 10, 11, 12] rfl ?_
      exact law_S5 cx sx ez ys ysq q0 hV hg hmi hcs hk kk hM hN
    · skip
      refine l_iload cx (pc2 := 301) 12 rfl dL_law_299 rfl ?_
      refine l_if_lt cx (pc2 := 304) (tgt := 339) (by first | assumption | omega | exact hg.1.1 _ | exact ⟨by omega, by omega⟩) dL_law_301 (by decide) rfl (fun h_2 => ?_) (fun h_2 => ?_)
      · skip
        refine l_sub (lv2 := [(0, .ref b), (1, .ref (P1.2.1 0)), (2, .ref (P2.2.1 0)), (3, .ref av), (5, .int (iI (V 9))), (6, .int (iI b0)), (7, .int (iI most)), (8, .int (iI ws)), (9, .int (iI c0)), (10, .int (iI st)), (11, .int (iI c1)), (12, .int (iI k)), (13, .int (iI (ENV V k.toNat)))]) [0, 1, 2, 3, 4, 5, 6, 7, 8, 9, 10, 11, 12] rfl ?_
        exact law_S5 cx sx ez ys ysq q0 hV hg hmi hcs hk kk hM hN
      · skip
        refine l_aload_n cx (pc2 := 305) 1 rfl dL_law_304 rfl ?_
        refine l_iload cx (pc2 := 307) 11 rfl dL_law_305 rfl ?_
        refine l_iconst cx (pc2 := 308) dL_law_307 rfl ?_
        refine l_iload cx (pc2 := 310) 13 rfl dL_law_308 rfl ?_
        refine l_ishl cx (pc2 := 311) dL_law_310 rfl ?_
        refine l_rwi (y := iI ((2 ^ i.toNat : Nat) : Int)) (sh1 (by omega) (by omega)) ?_
        refine l_iconst cx (pc2 := 312) dL_law_311 rfl ?_
        refine l_ixor cx (pc2 := 313) dL_law_312 rfl ?_
        refine l_iand cx (pc2 := 314) dL_law_313 rfl ?_
        refine l_rwi (y := iI ((ndN k.toNat (2 ^ i.toNat) : Nat) : Int)) (by rw [nd_iI hk.1 (Int.natCast_nonneg _), Int.toNat_natCast]) ?_
        refine l_ctI cx (pc2 := 317) (st := []) ys hn79 (M := M) (As := [.int (iI ((ndN k.toNat (2 ^ i.toNat) : Nat) : Int))]) (c_canL (M := M) hn79 hg hM.1.w hM.2.2 ((ndN k.toNat (2 ^ i.toNat) : Nat) : Int) (by omega)) wM_X11_can wV_X11_can rfl kl_L_89 ⟨rfl, rfl, Nat.le_of_ble_eq_true rfl, Nat.le_of_ble_eq_true rfl⟩ (Nat.le_of_ble_eq_true rfl) hcr rfl rfl rfl dL_law_314 rfl ?_
        have hd := ENV_del hg (i := i.toNat) hkn (by omega)
        have heb2 := ENV_b hg (Nat.lt_of_le_of_lt hnl hkn)
        have hM2 := VOK_kp hM (KP_can hM.2.2 ((ndN k.toNat (2 ^ i.toNat) : Nat) : Int))
        refine l_rwi (y := iI (ENV V (ndN k.toNat (2 ^ i.toNat)))) (by rw [Int.toNat_natCast]) ?_
        refine l_istore cx (pc2 := 319) (lv2 := [(0, .ref b), (1, .ref (P1.2.1 0)), (2, .ref (P2.2.1 0)), (3, .ref av), (5, .int (iI (V 9))), (6, .int (iI b0)), (7, .int (iI most)), (8, .int (iI ws)), (9, .int (iI c0)), (10, .int (iI st)), (11, .int (iI c1)), (12, .int (iI k)), (13, .int (iI (ENV V k.toNat))), (14, .int (iI i)), (15, .int (iI (ENV V (ndN k.toNat (2 ^ i.toNat)))))]) rfl (Nat.le_of_ble_eq_true rfl) dL_law_317 rfl ?_
        refine l_iload cx (pc2 := 321) 14 rfl dL_law_319 rfl ?_
        refine l_if_lt cx (pc2 := 324) (tgt := 331) (by first | assumption | omega | exact hg.1.1 _ | exact ⟨by omega, by omega⟩) dL_law_321 (by decide) rfl (fun h_3 => ?_) (fun h_3 => ?_)
        · skip
          omega
        · skip
          refine l_iload cx (pc2 := 326) 14 rfl dL_law_324 rfl ?_
          refine l_iload cx (pc2 := 328) 12 rfl dL_law_326 rfl ?_
          refine l_icmp_le cx (pc2 := 331) (tgt := 333) ⟨(by first | assumption | omega | exact hg.1.1 _ | exact ⟨by omega, by omega⟩), (by first | assumption | omega | exact hg.1.1 _ | exact ⟨by omega, by omega⟩)⟩ dL_law_328 (by decide) rfl (fun h_4 => ?_) (fun h_4 => ?_)
          · skip
            refine l_iinc cx (pc2 := 336) 13 rfl (lv2 := [(0, .ref b), (1, .ref (P1.2.1 0)), (2, .ref (P2.2.1 0)), (3, .ref av), (5, .int (iI (V 9))), (6, .int (iI b0)), (7, .int (iI most)), (8, .int (iI ws)), (9, .int (iI c0)), (10, .int (iI st)), (11, .int (iI c1)), (12, .int (iI k)), (13, .int (iI (ENV V k.toNat))), (14, .int (iI (i + 1))), (15, .int (iI (ENV V (ndN k.toNat (2 ^ i.toNat)))))]) rfl (Nat.le_of_ble_eq_true rfl) dL_law_333 rfl ?_
            refine l_goto cx (tgt := 292) dL_law_336 (by decide) ?_
            refine l_sub (lv2 := [(0, .ref b), (1, .ref (P1.2.1 0)), (2, .ref (P2.2.1 0)), (3, .ref av), (5, .int (iI (V 9))), (6, .int (iI b0)), (7, .int (iI most)), (8, .int (iI ws)), (9, .int (iI c0)), (10, .int (iI st)), (11, .int (iI c1)), (12, .int (iI k)), (13, .int (iI (ENV V k.toNat))), (14, .int (iI (i + 1)))]) [0, 1, 2, 3, 4, 5, 6, 7, 8, 9, 10, 11, 12, 13] rfl ?_
            exact ih _ (by omega) _ (i + 1) hM2 (by omega) (Nat.le_refl _)
          · skip
            omega
set_option maxHeartbeats 4000000 in
set_option maxRecDepth 100000 in
theorem law_S3 {X : Yq} {P : Pl} (cx : Yx X cL_law RL room_1 18 P) {b L : Nat} {xs : Nat → Int32} (sx : Sy X b L xs) (ez : Ez X) {P1 P2 : Pl} (ys : Ys X P1) (ysq : Ys X P2) {R : va_W} {av : Nat} {V U : Nat → Int} (q0 : Nat) (hV : R[q0]? = some (ar P av 64 V)) (hg : GV V) (hmi : MI V U) {cs ss : Nat} (hcs : cs ≤ 599000 ∧ ss ≤ 7300000) {b0 most ws c0 st : Int} {c1 k : Int} (hk : 0 ≤ k ∧ k < ((2 ^ nN V : Nat) : Int)) (kk : ∀ M N, VOK V M → VOK U N → YG X 210 [(0, .ref b), (1, .ref (P1.2.1 0)), (2, .ref (P2.2.1 0)), (3, .ref av), (5, .int (iI (V 9))), (6, .int (iI b0)), (7, .int (iI most)), (8, .int (iI ws)), (9, .int (iI c0)), (10, .int (iI st)), (11, .int (iI c1)), (12, .int (iI (k + 1)))] [] (wld P1 79 M ++ (wld P2 77 N ++ R)) cs ss) {M N : Mm} (hM : VOK V M) (hN : VOK U N) {os d : Int} (ho : (0 < os ↔ ¬ ENV V k.toNat = -9) ∧ 0 ≤ os ∧ os ≤ 16777216) (hd : (d = 0 ∧ ENV V k.toNat < 0) ∨ (d = 1 ∧ ¬ ENV V k.toNat < 0)) : YG X 269 [(0, .ref b), (1, .ref (P1.2.1 0)), (2, .ref (P2.2.1 0)), (3, .ref av), (5, .int (iI (V 9))), (6, .int (iI b0)), (7, .int (iI most)), (8, .int (iI ws)), (9, .int (iI c0)), (10, .int (iI st)), (11, .int (iI c1)), (12, .int (iI k)), (13, .int (iI (ENV V k.toNat)))] [.int (iI os), .int (iI d)] (wld P1 79 M ++ (wld P2 77 N ++ R)) cs ss := by
  have hcr := hcr_of hcs
  have h9 := hg.2.1
  have h32 := (nN_5 hg).2
  have hn79 : NN 79 := ⟨by decide, by decide⟩
  have hnn : ((nN V : Nat) : Int) = V 9 := Int.toNat_of_nonneg h9.1
  have hkn : k.toNat < 2 ^ nN V := by omega
  have heb := ENV_b hg hkn
  refine l_if_le cx (pc2 := 272) (tgt := 276) (by first | assumption | omega | exact hg.1.1 _ | exact ⟨by omega, by omega⟩) dL_law_269 (by decide) rfl (fun h_1 => ?_) (fun h_1 => ?_)
  · skip
    refine l_iconst cx (pc2 := 277) dL_law_276 rfl ?_
    refine l_icmp_ne cx (pc2 := 280) (tgt := 287) ⟨(by first | assumption | omega | exact hg.1.1 _ | exact ⟨by omega, by omega⟩), ⟨by decide, by decide⟩⟩ dL_law_277 (by decide) rfl (fun h_2 => ?_) (fun h_2 => ?_)
    · skip
      omega
    · skip
      refine l_iload cx (pc2 := 282) 12 rfl dL_law_280 rfl ?_
      refine l_bipush cx (pc2 := 284) ⟨by decide, by decide⟩ dL_law_282 rfl ?_
      refine l_icmp_le cx (pc2 := 287) (tgt := 289) ⟨(by first | assumption | omega | exact hg.1.1 _ | exact ⟨by omega, by omega⟩), ⟨by decide, by decide⟩⟩ dL_law_284 (by decide) rfl (fun h_3 => ?_) (fun h_3 => ?_)
      · skip
        refine l_iconst cx (pc2 := 290) dL_law_289 rfl ?_
        refine l_istore cx (pc2 := 292) (lv2 := [(0, .ref b), (1, .ref (P1.2.1 0)), (2, .ref (P2.2.1 0)), (3, .ref av), (5, .int (iI (V 9))), (6, .int (iI b0)), (7, .int (iI most)), (8, .int (iI ws)), (9, .int (iI c0)), (10, .int (iI st)), (11, .int (iI c1)), (12, .int (iI k)), (13, .int (iI (ENV V k.toNat))), (14, .int (iI 0))]) rfl (Nat.le_of_ble_eq_true rfl) dL_law_290 rfl ?_
        exact law_S4 cx sx ez ys ysq q0 hV hg hmi hcs hk kk hN _ _ 0 hM (by omega) (Nat.le_refl _)
      · skip
        omega
  · skip
    refine l_iconst cx (pc2 := 273) dL_law_272 rfl ?_
    refine l_goto cx (tgt := 277) dL_law_273 (by decide) ?_
    refine l_icmp_ne cx (pc2 := 280) (tgt := 287) ⟨(by first | assumption | omega | exact hg.1.1 _ | exact ⟨by omega, by omega⟩), ⟨by decide, by decide⟩⟩ dL_law_277 (by decide) rfl (fun h_4 => ?_) (fun h_4 => ?_)
    · skip
      omega
    · skip
      refine l_iload cx (pc2 := 282) 12 rfl dL_law_280 rfl ?_
      refine l_bipush cx (pc2 := 284) ⟨by decide, by decide⟩ dL_law_282 rfl ?_
      refine l_icmp_le cx (pc2 := 287) (tgt := 289) ⟨(by first | assumption | omega | exact hg.1.1 _ | exact ⟨by omega, by omega⟩), ⟨by decide, by decide⟩⟩ dL_law_284 (by decide) rfl (fun h_5 => ?_) (fun h_5 => ?_)
      · skip
        refine l_iconst cx (pc2 := 290) dL_law_289 rfl ?_
        refine l_istore cx (pc2 := 292) (lv2 := [(0, .ref b), (1, .ref (P1.2.1 0)), (2, .ref (P2.2.1 0)), (3, .ref av), (5, .int (iI (V 9))), (6, .int (iI b0)), (7, .int (iI most)), (8, .int (iI ws)), (9, .int (iI c0)), (10, .int (iI st)), (11, .int (iI c1)), (12, .int (iI k)), (13, .int (iI (ENV V k.toNat))), (14, .int (iI 0))]) rfl (Nat.le_of_ble_eq_true rfl) dL_law_290 rfl ?_
        exact law_S4 cx sx ez ys ysq q0 hV hg hmi hcs hk kk hN _ _ 0 hM (by omega) (Nat.le_refl _)
      · skip
        omega
