theorem and63 (x : Int32) : ∃ z : Int, 0 ≤ z ∧ z ≤ 63 ∧ (x &&& iI 63) = iI z := by
  refine ⟨(x &&& iI 63).toInt, ?_, ?_, (iI_of _).symm⟩
  all_goals
    have e : (x &&& iI 63).toBitVec = x.toBitVec &&& (iI 63).toBitVec := Int32.toBitVec_and x (iI 63)
    have h1 : (x &&& iI 63).toBitVec.toNat ≤ 63 := by
      rw [e, BitVec.toNat_and]
      exact Nat.and_le_right
    have h2 : (x &&& iI 63).toInt = ((x &&& iI 63).toBitVec.toNat : Int) := by
      show (x &&& iI 63).toBitVec.toInt = _
      rw [BitVec.toInt_eq_toNat_of_lt (by omega)]
    omega
theorem law_end {X : Cq} {n L : Nat} {xs : Nat → Int32} (lq : Lq X n L xs) {lv : List (Nat × Value)} {M : Mm} : G X 1611 lv [] M := by
  obtain ⟨cx, cs, sx, hn⟩ := lq.x
  refine g_iconst cx (pc2 := 1612) dL_law_1611 rfl ?_
  obtain ⟨p, l, e, R, s, m, args, below, meth, c, nL2, P, n2, A, cells, slots, Q⟩ := X
  obtain ⟨cx1, hb, sx1, hao, hret, hAs, b, rfl, rfl⟩ := lq
  obtain ⟨⟨hx, hb2, hml, hown, hts⟩, hK, hA, hAw, hiP, hSg, hlk, hR, hnL, hn0, hn1, hn2, hnw⟩ := cx
  subst hR
  intro H locs ls hl hP hS
  exact va_forget (fun q hq => hAs _ (hS.2.2 q hq)) (W.widen (k := 600000) (n := 7302250) (by omega) (by omega) (lw_ret hx hb2 hret hlk dL_law_1612))
set_option maxHeartbeats 4000000 in
theorem law_arms {X : Cq} {n L : Nat} {xs : Nat → Int32} (lq : Lq X n L xs) {M : Mm} (h : Rl M) {i : Int} (hi : 0 ≤ i ∧ i + 6 ≤ (L : Int)) (k : ∀ (X2 : Cq) (n2 : Nat), Lq X2 n2 L xs → ∀ M2, Rl M2 → G X2 1605 (lvL i) [] M2) (z : Int) (hz : 0 ≤ z ∧ z ≤ 63) : G X 33 (lvL i) [.int (iI z)] M := by
  obtain ⟨cx, cs, sx, hn⟩ := lq.x
  by_cases hz2 : 51 < z
  · exact g_swOut cx (tgt := 1605) ⟨by omega, by omega⟩ dL_law_33 (Or.inr hz2) rfl (k X n lq M h)
  rcases (show z = 0 ∨ z = 1 ∨ z = 2 ∨ z = 3 ∨ z = 4 ∨ z = 5 ∨ z = 6 ∨ z = 7 ∨ z = 8 ∨ z = 9 ∨ z = 10 ∨ z = 11 ∨ z = 12 ∨ z = 13 ∨ z = 14 ∨ z = 15 ∨ z = 16 ∨ z = 17 ∨ z = 18 ∨ z = 19 ∨ z = 20 ∨ z = 21 ∨ z = 22 ∨ z = 23 ∨ z = 24 ∨ z = 25 ∨ z = 26 ∨ z = 27 ∨ z = 28 ∨ z = 29 ∨ z = 30 ∨ z = 31 ∨ z = 32 ∨ z = 33 ∨ z = 34 ∨ z = 35 ∨ z = 36 ∨ z = 37 ∨ z = 38 ∨ z = 39 ∨ z = 40 ∨ z = 41 ∨ z = 42 ∨ z = 43 ∨ z = 44 ∨ z = 45 ∨ z = 46 ∨ z = 47 ∨ z = 48 ∨ z = 49 ∨ z = 50 ∨ z = 51 by omega) with rfl | rfl | rfl | rfl | rfl | rfl | rfl | rfl | rfl | rfl | rfl | rfl | rfl | rfl | rfl | rfl | rfl | rfl | rfl | rfl | rfl | rfl | rfl | rfl | rfl | rfl | rfl | rfl | rfl | rfl | rfl | rfl | rfl | rfl | rfl | rfl | rfl | rfl | rfl | rfl | rfl | rfl | rfl | rfl | rfl | rfl | rfl | rfl | rfl | rfl | rfl | rfl
  · exact g_swIn cx (a := 0) (off := 223) (tgt := 256) ⟨by decide, by decide⟩ dL_law_33 (by decide) (by decide) rfl rfl (arm_row hn cx cs sx h hi (k X n lq))
  · exact g_swIn cx (a := 1) (off := 256) (tgt := 289) ⟨by decide, by decide⟩ dL_law_33 (by decide) (by decide) rfl rfl (arm_lay hn cx cs sx h hi (k X n lq))
  · exact g_swIn cx (a := 2) (off := 299) (tgt := 332) ⟨by decide, by decide⟩ dL_law_33 (by decide) (by decide) rfl rfl (arm_at hn cx cs sx h hi (k X n lq))
  · exact g_swIn cx (a := 3) (off := 332) (tgt := 365) ⟨by decide, by decide⟩ dL_law_33 (by decide) (by decide) rfl rfl (arm_tear hn cx cs sx h hi (k X n lq))
  · exact g_swIn cx (a := 4) (off := 355) (tgt := 388) ⟨by decide, by decide⟩ dL_law_33 (by decide) (by decide) rfl rfl (arm_copy hn cx cs sx h hi (k X n lq))
  · exact g_swIn cx (a := 5) (off := 418) (tgt := 451) ⟨by decide, by decide⟩ dL_law_33 (by decide) (by decide) rfl rfl (arm_mean hn cx cs sx h hi (k X n lq))
  · exact g_swIn cx (a := 6) (off := 441) (tgt := 474) ⟨by decide, by decide⟩ dL_law_33 (by decide) (by decide) rfl rfl (arm_text hn cx cs sx h hi (k X n lq))
  · exact g_swIn cx (a := 7) (off := 474) (tgt := 507) ⟨by decide, by decide⟩ dL_law_33 (by decide) (by decide) rfl rfl (arm_put hn cx cs sx h hi (k X n lq))
  · exact g_swIn cx (a := 8) (off := 517) (tgt := 550) ⟨by decide, by decide⟩ dL_law_33 (by decide) (by decide) rfl rfl (arm_fault hn cx cs sx h hi (k X n lq))
  · exact g_swIn cx (a := 9) (off := 540) (tgt := 573) ⟨by decide, by decide⟩ dL_law_33 (by decide) (by decide) rfl rfl (arm_village hn cx cs sx h hi (k X n lq))
  · exact g_swIn cx (a := 10) (off := 563) (tgt := 596) ⟨by decide, by decide⟩ dL_law_33 (by decide) (by decide) rfl rfl (arm_house hn cx cs sx h hi (k X n lq))
  · exact g_swIn cx (a := 11) (off := 586) (tgt := 619) ⟨by decide, by decide⟩ dL_law_33 (by decide) (by decide) rfl rfl (arm_need hn cx cs sx h hi (k X n lq))
  · exact g_swIn cx (a := 12) (off := 619) (tgt := 652) ⟨by decide, by decide⟩ dL_law_33 (by decide) (by decide) rfl rfl (arm_mark hn cx cs sx h hi (k X n lq))
  · exact g_swIn cx (a := 13) (off := 652) (tgt := 685) ⟨by decide, by decide⟩ dL_law_33 (by decide) (by decide) rfl rfl (arm_start hn cx cs sx h hi (k X n lq))
  · exact g_swIn cx (a := 14) (off := 675) (tgt := 708) ⟨by decide, by decide⟩ dL_law_33 (by decide) (by decide) rfl rfl (arm_carry hn cx cs sx h hi (k X n lq))
  · exact g_swIn cx (a := 15) (off := 708) (tgt := 741) ⟨by decide, by decide⟩ dL_law_33 (by decide) (by decide) rfl rfl (arm_chance hn cx cs sx h hi (k X n lq))
  · exact g_swIn cx (a := 16) (off := 741) (tgt := 774) ⟨by decide, by decide⟩ dL_law_33 (by decide) (by decide) rfl rfl (arm_order hn cx cs sx h hi (k X n lq))
  · exact g_swIn cx (a := 17) (off := 764) (tgt := 797) ⟨by decide, by decide⟩ dL_law_33 (by decide) (by decide) rfl rfl (arm_begins hn cx cs sx h hi (k X n lq))
  · exact g_swIn cx (a := 18) (off := 797) (tgt := 830) ⟨by decide, by decide⟩ dL_law_33 (by decide) (by decide) rfl rfl (arm_can hn cx cs sx h hi (k X n lq))
  · exact g_swIn cx (a := 19) (off := 820) (tgt := 853) ⟨by decide, by decide⟩ dL_law_33 (by decide) (by decide) rfl rfl (arm_sets hn cx cs sx h hi (k X n lq))
  · exact g_swIn cx (a := 20) (off := 833) (tgt := 866) ⟨by decide, by decide⟩ dL_law_33 (by decide) (by decide) rfl rfl (arm_best hn cx cs sx h hi (k X n lq))
  · exact g_swIn cx (a := 21) (off := 846) (tgt := 879) ⟨by decide, by decide⟩ dL_law_33 (by decide) (by decide) rfl rfl (arm_first hn cx cs sx h hi (k X n lq))
  · exact g_swIn cx (a := 22) (off := 879) (tgt := 912) ⟨by decide, by decide⟩ dL_law_33 (by decide) (by decide) rfl rfl (arm_orders lq h hi k)
  · exact g_swIn cx (a := 23) (off := 902) (tgt := 935) ⟨by decide, by decide⟩ dL_law_33 (by decide) (by decide) rfl rfl (arm_costs hn cx cs sx h hi (k X n lq))
  · exact g_swIn cx (a := 24) (off := 925) (tgt := 958) ⟨by decide, by decide⟩ dL_law_33 (by decide) (by decide) rfl rfl (arm_worn hn cx cs sx h hi (k X n lq))
  · exact g_swIn cx (a := 25) (off := 948) (tgt := 981) ⟨by decide, by decide⟩ dL_law_33 (by decide) (by decide) rfl rfl (arm_rule hn cx cs sx h hi (k X n lq))
  · exact g_swIn cx (a := 26) (off := 981) (tgt := 1014) ⟨by decide, by decide⟩ dL_law_33 (by decide) (by decide) rfl rfl (arm_wise hn cx cs sx h hi (k X n lq))
  · exact g_swIn cx (a := 27) (off := 994) (tgt := 1027) ⟨by decide, by decide⟩ dL_law_33 (by decide) (by decide) rfl rfl (arm_second hn cx cs sx h hi (k X n lq))
  · exact g_swIn cx (a := 28) (off := 1017) (tgt := 1050) ⟨by decide, by decide⟩ dL_law_33 (by decide) (by decide) rfl rfl (arm_two hn cx cs sx h hi (k X n lq))
  · exact g_swIn cx (a := 29) (off := 1050) (tgt := 1083) ⟨by decide, by decide⟩ dL_law_33 (by decide) (by decide) rfl rfl (arm_mends hn cx cs sx h hi (k X n lq))
  · exact g_swIn cx (a := 30) (off := 1083) (tgt := 1116) ⟨by decide, by decide⟩ dL_law_33 (by decide) (by decide) rfl rfl (arm_odds hn cx cs sx h hi (k X n lq))
  · exact g_swIn cx (a := 31) (off := 1096) (tgt := 1129) ⟨by decide, by decide⟩ dL_law_33 (by decide) (by decide) rfl rfl (arm_call hn cx cs sx h hi (k X n lq))
  · exact g_swIn cx (a := 32) (off := 1119) (tgt := 1152) ⟨by decide, by decide⟩ dL_law_33 (by decide) (by decide) rfl rfl (arm_keep hn cx cs sx h hi (k X n lq))
  · exact g_swIn cx (a := 33) (off := 1142) (tgt := 1175) ⟨by decide, by decide⟩ dL_law_33 (by decide) (by decide) rfl rfl (arm_deal hn cx cs sx h hi (k X n lq))
  · exact g_swIn cx (a := 34) (off := 1195) (tgt := 1228) ⟨by decide, by decide⟩ dL_law_33 (by decide) (by decide) rfl rfl (arm_undo hn cx cs sx h hi (k X n lq))
  · exact g_swIn cx (a := 35) (off := 1218) (tgt := 1251) ⟨by decide, by decide⟩ dL_law_33 (by decide) (by decide) rfl rfl (arm_owes hn cx cs sx h hi (k X n lq))
  · exact g_swIn cx (a := 36) (off := 1251) (tgt := 1284) ⟨by decide, by decide⟩ dL_law_33 (by decide) (by decide) rfl rfl (arm_rich hn cx cs sx h hi (k X n lq))
  · exact g_swIn cx (a := 37) (off := 1264) (tgt := 1297) ⟨by decide, by decide⟩ dL_law_33 (by decide) (by decide) rfl rfl (arm_pocket hn cx cs sx h hi (k X n lq))
  · exact g_swIn cx (a := 38) (off := 1297) (tgt := 1330) ⟨by decide, by decide⟩ dL_law_33 (by decide) (by decide) rfl rfl (arm_find hn cx cs sx h hi (k X n lq))
  · exact g_swIn cx (a := 39) (off := 1320) (tgt := 1353) ⟨by decide, by decide⟩ dL_law_33 (by decide) (by decide) rfl rfl (arm_track hn cx cs sx h hi (k X n lq))
  · exact g_swIn cx (a := 40) (off := 1353) (tgt := 1386) ⟨by decide, by decide⟩ dL_law_33 (by decide) (by decide) rfl rfl (arm_forget hn cx cs sx h hi (k X n lq))
  · exact g_swIn cx (a := 41) (off := 1376) (tgt := 1409) ⟨by decide, by decide⟩ dL_law_33 (by decide) (by decide) rfl rfl (arm_could hn cx cs sx h hi (k X n lq))
  · exact g_swIn cx (a := 42) (off := 1399) (tgt := 1432) ⟨by decide, by decide⟩ dL_law_33 (by decide) (by decide) rfl rfl (arm_liar hn cx cs sx h hi (k X n lq))
  · exact g_swIn cx (a := 43) (off := 1412) (tgt := 1445) ⟨by decide, by decide⟩ dL_law_33 (by decide) (by decide) rfl rfl (arm_image hn cx cs sx h hi (k X n lq))
  · exact g_swIn cx (a := 44) (off := 1435) (tgt := 1468) ⟨by decide, by decide⟩ dL_law_33 (by decide) (by decide) rfl rfl (arm_on hn cx cs sx h hi (k X n lq))
  · exact g_swIn cx (a := 45) (off := 1458) (tgt := 1491) ⟨by decide, by decide⟩ dL_law_33 (by decide) (by decide) rfl rfl (arm_asked hn cx cs sx h hi (k X n lq))
  · exact g_swIn cx (a := 46) (off := 1471) (tgt := 1504) ⟨by decide, by decide⟩ dL_law_33 (by decide) (by decide) rfl rfl (arm_upper hn cx cs sx h hi (k X n lq))
  · exact g_swIn cx (a := 47) (off := 1485) (tgt := 1518) ⟨by decide, by decide⟩ dL_law_33 (by decide) (by decide) rfl rfl (arm_lower hn cx cs sx h hi (k X n lq))
  · exact g_swIn cx (a := 48) (off := 1499) (tgt := 1532) ⟨by decide, by decide⟩ dL_law_33 (by decide) (by decide) rfl rfl (arm_count hn cx cs sx h hi (k X n lq))
  · exact g_swIn cx (a := 49) (off := 1522) (tgt := 1555) ⟨by decide, by decide⟩ dL_law_33 (by decide) (by decide) rfl rfl (arm_finding hn cx cs sx h hi (k X n lq))
  · exact g_swIn cx (a := 50) (off := 1535) (tgt := 1568) ⟨by decide, by decide⟩ dL_law_33 (by decide) (by decide) rfl rfl (arm_findings hn cx cs sx h hi (k X n lq))
  · exact g_swIn cx (a := 51) (off := 1558) (tgt := 1591) ⟨by decide, by decide⟩ dL_law_33 (by decide) (by decide) rfl rfl (arm_digest hn cx cs sx h hi (k X n lq))
theorem law_loop {L : Nat} {xs : Nat → Int32} : ∀ (f : Nat) (X : Cq) (n : Nat) (M : Mm) (i : Int), Lq X n L xs → Rl M → 0 ≤ i → (L : Int) + 6 - i ≤ (f : Int) → i ≤ (L : Int) + 6 → G X 18 (lvL i) [] M
  | f, X, n, M, i, lq, h, h0, hf, h6 => by
    obtain ⟨cx, cs, sx, hn⟩ := lq.x
    have hL : L ≤ 3072 := by
      obtain ⟨p, l, e, R, s, m, args, below, meth, c, nL2, P, n2, A, cells, slots, Q⟩ := X
      exact sx.2.2.2
    refine g_iload_n cx (pc2 := 19) 3 rfl dL_law_18 rfl ?_
    refine g_aload_n cx (pc2 := 20) 0 rfl dL_law_19 rfl ?_
    refine g_slen cx sx (pc2 := 21) dL_law_20 rfl ?_
    refine g_bipush cx (pc2 := 23) (by decide) dL_law_21 rfl ?_
    refine g_isub cx (pc2 := 24) dL_law_23 rfl ?_
    refine g_icmp_gt cx (pc2 := 27) (tgt := 1611) ⟨⟨by omega, by omega⟩, by omega, by omega⟩ dL_law_24 rfl rfl (fun _ => law_end lq) (fun hle => ?_)
    refine g_aload_n cx (pc2 := 28) 0 rfl dL_law_27 rfl ?_
    refine g_iload_n cx (pc2 := 29) 3 rfl dL_law_28 rfl ?_
    refine g_sld cx sx (pc2 := 30) h0 (by omega) dL_law_29 rfl ?_
    refine g_bipush cx (pc2 := 32) (by decide) dL_law_30 rfl ?_
    refine g_iand cx (pc2 := 33) dL_law_32 rfl ?_
    obtain ⟨z, z0, z1, ez⟩ := and63 (iI (Zx xs i))
    rw [ez]
    refine law_arms lq h ⟨h0, by omega⟩ (fun X2 n2 lq2 M2 h2 => ?_) z ⟨z0, z1⟩
    obtain ⟨cx2, -, -, -⟩ := lq2.x
    refine g_iinc cx2 (pc2 := 1608) 3 rfl (lv2 := lvL (i + 6)) rfl (by decide) dL_law_1605 rfl ?_
    refine g_goto cx2 (tgt := 18) dL_law_1608 rfl ?_
    match f, hf with
    | 0, hf => omega
    | f + 1, hf => exact law_loop f X2 n2 M2 (i + 6) lq2 h2 (by omega) (by omega) (by omega)
termination_by f => f
