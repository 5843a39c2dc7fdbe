def yJ6_bc : MethodName := ⟨"java/lang/Integer", "bitCount", "(I)I"⟩
theorem dJ6_bitCount_0 : decode prog_15_method_49_code 0 = .ok ((.iload_n (0 : Fin 4)), 1) := by decide +kernel
theorem dJ6_bitCount_1 : decode prog_15_method_49_code 1 = .ok ((.iload_n (0 : Fin 4)), 1) := by decide +kernel
theorem dJ6_bitCount_2 : decode prog_15_method_49_code 2 = .ok ((.iconst (1 : Int)), 1) := by decide +kernel
theorem dJ6_bitCount_3 : decode prog_15_method_49_code 3 = .ok (.iushr, 1) := by decide +kernel
theorem dJ6_bitCount_4 : decode prog_15_method_49_code 4 = .ok ((.ldc_w 265), 3) := by decide +kernel
theorem dJ6_bitCount_7 : decode prog_15_method_49_code 7 = .ok (.iand, 1) := by decide +kernel
theorem dJ6_bitCount_8 : decode prog_15_method_49_code 8 = .ok (.isub, 1) := by decide +kernel
theorem dJ6_bitCount_9 : decode prog_15_method_49_code 9 = .ok ((.istore_n (0 : Fin 4)), 1) := by decide +kernel
theorem dJ6_bitCount_10 : decode prog_15_method_49_code 10 = .ok ((.iload_n (0 : Fin 4)), 1) := by decide +kernel
theorem dJ6_bitCount_11 : decode prog_15_method_49_code 11 = .ok ((.ldc_w 266), 3) := by decide +kernel
theorem dJ6_bitCount_14 : decode prog_15_method_49_code 14 = .ok (.iand, 1) := by decide +kernel
theorem dJ6_bitCount_15 : decode prog_15_method_49_code 15 = .ok ((.iload_n (0 : Fin 4)), 1) := by decide +kernel
theorem dJ6_bitCount_16 : decode prog_15_method_49_code 16 = .ok ((.iconst (2 : Int)), 1) := by decide +kernel
theorem dJ6_bitCount_17 : decode prog_15_method_49_code 17 = .ok (.iushr, 1) := by decide +kernel
theorem dJ6_bitCount_18 : decode prog_15_method_49_code 18 = .ok ((.ldc_w 266), 3) := by decide +kernel
theorem dJ6_bitCount_21 : decode prog_15_method_49_code 21 = .ok (.iand, 1) := by decide +kernel
theorem dJ6_bitCount_22 : decode prog_15_method_49_code 22 = .ok (.iadd, 1) := by decide +kernel
theorem dJ6_bitCount_23 : decode prog_15_method_49_code 23 = .ok ((.istore_n (0 : Fin 4)), 1) := by decide +kernel
theorem dJ6_bitCount_24 : decode prog_15_method_49_code 24 = .ok ((.iload_n (0 : Fin 4)), 1) := by decide +kernel
theorem dJ6_bitCount_25 : decode prog_15_method_49_code 25 = .ok ((.iload_n (0 : Fin 4)), 1) := by decide +kernel
theorem dJ6_bitCount_26 : decode prog_15_method_49_code 26 = .ok ((.iconst (4 : Int)), 1) := by decide +kernel
theorem dJ6_bitCount_27 : decode prog_15_method_49_code 27 = .ok (.iushr, 1) := by decide +kernel
theorem dJ6_bitCount_28 : decode prog_15_method_49_code 28 = .ok (.iadd, 1) := by decide +kernel
theorem dJ6_bitCount_29 : decode prog_15_method_49_code 29 = .ok ((.ldc_w 267), 3) := by decide +kernel
theorem dJ6_bitCount_32 : decode prog_15_method_49_code 32 = .ok (.iand, 1) := by decide +kernel
theorem dJ6_bitCount_33 : decode prog_15_method_49_code 33 = .ok ((.istore_n (0 : Fin 4)), 1) := by decide +kernel
theorem dJ6_bitCount_34 : decode prog_15_method_49_code 34 = .ok ((.iload_n (0 : Fin 4)), 1) := by decide +kernel
theorem dJ6_bitCount_35 : decode prog_15_method_49_code 35 = .ok ((.iload_n (0 : Fin 4)), 1) := by decide +kernel
theorem dJ6_bitCount_36 : decode prog_15_method_49_code 36 = .ok ((.bipush 8), 2) := by decide +kernel
theorem dJ6_bitCount_38 : decode prog_15_method_49_code 38 = .ok (.iushr, 1) := by decide +kernel
theorem dJ6_bitCount_39 : decode prog_15_method_49_code 39 = .ok (.iadd, 1) := by decide +kernel
theorem dJ6_bitCount_40 : decode prog_15_method_49_code 40 = .ok ((.istore_n (0 : Fin 4)), 1) := by decide +kernel
theorem dJ6_bitCount_41 : decode prog_15_method_49_code 41 = .ok ((.iload_n (0 : Fin 4)), 1) := by decide +kernel
theorem dJ6_bitCount_42 : decode prog_15_method_49_code 42 = .ok ((.iload_n (0 : Fin 4)), 1) := by decide +kernel
theorem dJ6_bitCount_43 : decode prog_15_method_49_code 43 = .ok ((.bipush 16), 2) := by decide +kernel
theorem dJ6_bitCount_45 : decode prog_15_method_49_code 45 = .ok (.iushr, 1) := by decide +kernel
theorem dJ6_bitCount_46 : decode prog_15_method_49_code 46 = .ok (.iadd, 1) := by decide +kernel
theorem dJ6_bitCount_47 : decode prog_15_method_49_code 47 = .ok ((.istore_n (0 : Fin 4)), 1) := by decide +kernel
theorem dJ6_bitCount_48 : decode prog_15_method_49_code 48 = .ok ((.iload_n (0 : Fin 4)), 1) := by decide +kernel
theorem dJ6_bitCount_49 : decode prog_15_method_49_code 49 = .ok ((.bipush 63), 2) := by decide +kernel
theorem dJ6_bitCount_51 : decode prog_15_method_49_code 51 = .ok (.iand, 1) := by decide +kernel
theorem dJ6_bitCount_52 : decode prog_15_method_49_code 52 = .ok (.ireturn, 1) := by decide +kernel
theorem wM_J6_bc : wM yJ6_bc prog_15_method_49_code 1 (some .int) 1 := ⟨⟨gw1 15 rfl rfl, gw4 137 rfl rfl⟩, by decide +kernel, by decide +kernel, by decide +kernel⟩
theorem wS_J6_bc : Cond.static yJ6_bc ∈ gw := gw4 136 rfl rfl
def usr (z k : Int) : Int := (((iI z).toUInt32 >>> ((iI k).toUInt32 &&& Int32.toUInt32 31)).toInt32).toInt
def anI (z k : Int) : Int := (iI z &&& iI k).toInt
def bcY1 (s : Int) : Int := s - anI (usr s 1) 1431655765
def bcY2 (s : Int) : Int := anI (bcY1 s) 858993459 + anI (usr (bcY1 s) 2) 858993459
def bcY3 (s : Int) : Int := anI (bcY2 s + usr (bcY2 s) 4) 252645135
def bcY4 (s : Int) : Int := bcY3 s + usr (bcY3 s) 8
def bcY5 (s : Int) : Int := bcY4 s + usr (bcY4 s) 16
def bcY6 (s : Int) : Int := anI (bcY5 s) 63
/-- how many bits a set has -/
def popZ (s : Nat) : Int := smZ (fun i => if s.testBit i then 1 else 0) 8
theorem bcY6_pop : ∀ s : Nat, s < 256 → bcY6 (s : Int) = popZ s := by decide +kernel
theorem popZ_b (s : Nat) : 0 ≤ popZ s ∧ popZ s ≤ 8 := by
  have h := smZ_b (f := fun i => if s.testBit i then 1 else 0) (c := 1) (fun j => by split <;> omega) 8
  unfold popZ
  omega
set_option maxHeartbeats 4000000 in
set_option maxRecDepth 100000 in
theorem c_J6_bc {n : Nat} (hn : NN n) {M : Mm} (s : Int) (hs : 0 ≤ s ∧ s ≤ 255) : CT yJ6_bc prog_15_method_49_code 1 (some .int) ({ frames := 0, cells := 0, slots := 0, locals := 0 }) n [.int (iI s)] M (rI (popZ s.toNat) M) := by
  refine CT.of (lv0 := [(0, .int (iI s))]) (by decide +kernel) hn (fun _ => rfl) (fun _ => Nat.le_of_ble_eq_true rfl) (fun X cx cs qx => ?_)
  have cx : Cx X prog_15_method_49_code "java/lang/Integer" ({ frames := 0, cells := 0, slots := 0, locals := 0 }) 1 n := cx
  refine g_iload_n cx (pc2 := 1) 0 rfl dJ6_bitCount_0 rfl ?_
  refine g_iload_n cx (pc2 := 2) 0 rfl dJ6_bitCount_1 rfl ?_
  refine g_iconst cx (pc2 := 3) dJ6_bitCount_2 rfl ?_
  refine g_iushr cx (pc2 := 4) dJ6_bitCount_3 rfl ?_
  refine g_rwi (y := iI (usr s 1)) ((iI_of _).symm) ?_
  refine g_ldcw cx (pc2 := 7) kk_J_265 dJ6_bitCount_4 rfl ?_
  refine g_iand cx (pc2 := 8) dJ6_bitCount_7 rfl ?_
  refine g_rwi (y := iI (anI (usr s 1) 1431655765)) ((iI_of _).symm) ?_
  refine g_isub cx (pc2 := 9) dJ6_bitCount_8 rfl ?_
  refine g_rwi (y := iI (bcY1 s)) (rfl) ?_
  refine g_istore_n cx (pc2 := 10) (lv2 := [(0, .int (iI (bcY1 s)))]) rfl (Nat.le_of_ble_eq_true rfl) dJ6_bitCount_9 rfl ?_
  refine g_iload_n cx (pc2 := 11) 0 rfl dJ6_bitCount_10 rfl ?_
  refine g_ldcw cx (pc2 := 14) kk_J_266 dJ6_bitCount_11 rfl ?_
  refine g_iand cx (pc2 := 15) dJ6_bitCount_14 rfl ?_
  refine g_rwi (y := iI (anI (bcY1 s) 858993459)) ((iI_of _).symm) ?_
  refine g_iload_n cx (pc2 := 16) 0 rfl dJ6_bitCount_15 rfl ?_
  refine g_iconst cx (pc2 := 17) dJ6_bitCount_16 rfl ?_
  refine g_iushr cx (pc2 := 18) dJ6_bitCount_17 rfl ?_
  refine g_rwi (y := iI (usr (bcY1 s) 2)) ((iI_of _).symm) ?_
  refine g_ldcw cx (pc2 := 21) kk_J_266 dJ6_bitCount_18 rfl ?_
  refine g_iand cx (pc2 := 22) dJ6_bitCount_21 rfl ?_
  refine g_rwi (y := iI (anI (usr (bcY1 s) 2) 858993459)) ((iI_of _).symm) ?_
  refine g_iadd cx (pc2 := 23) dJ6_bitCount_22 rfl ?_
  refine g_rwi (y := iI (bcY2 s)) (rfl) ?_
  refine g_istore_n cx (pc2 := 24) (lv2 := [(0, .int (iI (bcY2 s)))]) rfl (Nat.le_of_ble_eq_true rfl) dJ6_bitCount_23 rfl ?_
  refine g_iload_n cx (pc2 := 25) 0 rfl dJ6_bitCount_24 rfl ?_
  refine g_iload_n cx (pc2 := 26) 0 rfl dJ6_bitCount_25 rfl ?_
  refine g_iconst cx (pc2 := 27) dJ6_bitCount_26 rfl ?_
  refine g_iushr cx (pc2 := 28) dJ6_bitCount_27 rfl ?_
  refine g_rwi (y := iI (usr (bcY2 s) 4)) ((iI_of _).symm) ?_
  refine g_iadd cx (pc2 := 29) dJ6_bitCount_28 rfl ?_
  refine g_ldcw cx (pc2 := 32) kk_J_267 dJ6_bitCount_29 rfl ?_
  refine g_iand cx (pc2 := 33) dJ6_bitCount_32 rfl ?_
  refine g_rwi (y := iI (bcY3 s)) ((iI_of _).symm) ?_
  refine g_istore_n cx (pc2 := 34) (lv2 := [(0, .int (iI (bcY3 s)))]) rfl (Nat.le_of_ble_eq_true rfl) dJ6_bitCount_33 rfl ?_
  refine g_iload_n cx (pc2 := 35) 0 rfl dJ6_bitCount_34 rfl ?_
  refine g_iload_n cx (pc2 := 36) 0 rfl dJ6_bitCount_35 rfl ?_
  refine g_bipush cx (pc2 := 38) ⟨by decide, by decide⟩ dJ6_bitCount_36 rfl ?_
  refine g_iushr cx (pc2 := 39) dJ6_bitCount_38 rfl ?_
  refine g_rwi (y := iI (usr (bcY3 s) 8)) ((iI_of _).symm) ?_
  refine g_iadd cx (pc2 := 40) dJ6_bitCount_39 rfl ?_
  refine g_rwi (y := iI (bcY4 s)) (rfl) ?_
  refine g_istore_n cx (pc2 := 41) (lv2 := [(0, .int (iI (bcY4 s)))]) rfl (Nat.le_of_ble_eq_true rfl) dJ6_bitCount_40 rfl ?_
  refine g_iload_n cx (pc2 := 42) 0 rfl dJ6_bitCount_41 rfl ?_
  refine g_iload_n cx (pc2 := 43) 0 rfl dJ6_bitCount_42 rfl ?_
  refine g_bipush cx (pc2 := 45) ⟨by decide, by decide⟩ dJ6_bitCount_43 rfl ?_
  refine g_iushr cx (pc2 := 46) dJ6_bitCount_45 rfl ?_
  refine g_rwi (y := iI (usr (bcY4 s) 16)) ((iI_of _).symm) ?_
  refine g_iadd cx (pc2 := 47) dJ6_bitCount_46 rfl ?_
  refine g_rwi (y := iI (bcY5 s)) (rfl) ?_
  refine g_istore_n cx (pc2 := 48) (lv2 := [(0, .int (iI (bcY5 s)))]) rfl (Nat.le_of_ble_eq_true rfl) dJ6_bitCount_47 rfl ?_
  refine g_iload_n cx (pc2 := 49) 0 rfl dJ6_bitCount_48 rfl ?_
  refine g_bipush cx (pc2 := 51) ⟨by decide, by decide⟩ dJ6_bitCount_49 rfl ?_
  refine g_iand cx (pc2 := 52) dJ6_bitCount_51 rfl ?_
  refine g_rwi (y := iI (bcY6 s)) ((iI_of _).symm) ?_
  exact g_iret cx qx dJ6_bitCount_52 ⟨congrArg (fun q => some (Value.int (iI q))) (by have e := bcY6_pop s.toNat (by omega); rw [Int.toNat_of_nonneg hs.1] at e; exact e), by rfl⟩
def cntV (M : Mm) (w : Int) : Int := if w = 0 then M 23 3 else if w = 1 then M 23 4 else if w = 2 then popZ (bitsK M 1) else if w = 3 then M 63 6 else if w = 4 then M 70 2 else if w = 5 then M 73 2 else if w = 6 then ntV M 3 6 else if w = 7 then ntV M 15 4 else -1
theorem ntV_b (M : Mm) (o : Nat) : ∀ k : Nat, 0 ≤ ntV M o k ∧ ntV M o k ≤ (k : Int)
  | 0 => by simp [ntV]
  | k + 1 => by
    have h := ntV_b M o k
    rw [ntV]
    split <;> omega
theorem cntV_b {M : Mm} (h : CI M) (w : Int) : -1 ≤ cntV M w ∧ cntV M w ≤ 16 := by
  have h1 := h.l
  have h2 := popZ_b (bitsK M 1)
  have h3 := h.d.1
  have h4 := h.p70.1
  have h5 := h.p73.1
  have h6 := ntV_b M 3 6
  have h7 := ntV_b M 15 4
  unfold cntV
  (repeat' split) <;> omega
def digV (M : Mm) : Int := mxR M 15 (mxR M 3 (mxP M 73 (mxP M 70 (mxN M (mxH M (31 * mxF (fun w => cntV M (w : Int)) 17 8 + M 23 5) (M 23 3).toNat) (M 23 4).toNat) (M 70 2).toNat) (M 73 2).toNat) 6) 4
abbrev deB (M : Mm) (kd h k q : Int) : Prop := kd < 0 ∨ 4 < kd ∨ ¬ HS M h ∨ q < 1 ∨ 99 < q
abbrev deC (M : Mm) (kd h k : Int) : Prop := ¬ kd = 0 ∧ (¬ HS M k ∨ k = h)
def deO (kd h k : Int) : Int := if kd = 0 then h else k
abbrev deS (M : Mm) (kd h k q : Int) : Prop := kd = 0 ∨ (¬ (kd = 4 ∧ wr (M 65 (h * 8 + k).toNat) < q) ∧ q ≤ wr (M 64 (if kd = 3 then k else h).toNat))
def deaA (M : Mm) (kd h k q : Int) : Int := if deB M kd h k q then -1 else if deC M kd h k then -1 else if ¬ deS M kd h (deO kd h k) q then -4 else if 16 ≤ M 63 6 then -2 else M 63 6
def deaM (M : Mm) (kd h k q : Int) : Mm := if deB M kd h k q then M else if deC M kd h k then M else if ¬ deS M kd h (deO kd h k) q then M else if 16 ≤ M 63 6 then M else enM M kd h (deO kd h k) q
def undA (M : Mm) (q : Int) : Int := if q < 0 ∨ M 63 6 < q then -1 else M 63 6 - q
def undM (M : Mm) (q : Int) : Mm := if q < 0 ∨ M 63 6 < q then M else unM M q (M 63 6 - q).toNat
def oweA (M : Mm) (h k : Int) : Int := if ¬ HS M h ∨ ¬ HS M k ∨ h = k then -1 else M 65 (h * 8 + k).toNat
def otV (M : Mm) (k : Int) : Int := wr (smZ (fun j => M 65 ((j : Int) * 8 + k).toNat) 8)
def rcF (M : Mm) : Nat → Int
  | 0 => 0
  | k + 1 => if otV M (rcF M k) < otV M ((k + 1 : Nat) : Int) then ((k + 1 : Nat) : Int) else rcF M k
theorem rcF_b (M : Mm) : ∀ k : Nat, 0 ≤ rcF M k ∧ rcF M k ≤ (k : Int)
  | 0 => by simp [rcF]
  | k + 1 => by
    have h := rcF_b M k
    rw [rcF]
    split <;> omega
def ricN (M : Mm) : Int := rcF M ((M 23 3).toNat - 1)
def ricA (M : Mm) : Int := if M 23 3 = 0 then -4 else ricN M
def ricM (M : Mm) : Mm := if M 23 3 = 0 then M else tdM M (otV M (ricN M))
abbrev poB (M : Mm) (h v : Int) : Prop := ¬ HS M h ∨ v < 0 ∨ 99 < v
def pocA (M : Mm) (h v : Int) : Int := if poB M h v then -1 else if 12 ≤ M 70 2 then -2 else M 70 2 + 1
def pocM (M : Mm) (h v : Int) : Mm := if poB M h v then M else if 12 ≤ M 70 2 then M else adM M 70 h v
def finP (M : Mm) (h : Int) : Int := loM M 70 h (M 70 2).toNat
def finA (M : Mm) (h : Int) : Int := if ¬ HS M h then -1 else if finP M h = -9 then -3 else M 70 2 - 1 - finP M h
def finM (M : Mm) (h : Int) : Mm := if ¬ HS M h then M else if finP M h = -9 then fdM M 1 else toM (tdM M (M 72 (finP M h).toNat)) 70 (finP M h)
theorem loM_v (M : Mm) (o : Nat) (h : Int) : ∀ k : Nat, loM M o h k = -9 ∨ (0 ≤ loM M o h k ∧ loM M o h k < (k : Int))
  | 0 => Or.inl rfl
  | k + 1 => by
    have h1 := loM_v M o h k
    rw [loM]
    split <;> omega
abbrev trB (M : Mm) (h w : Int) : Prop := ¬ HS M h ∨ ¬ (0 ≤ w ∧ w < 28)
def traA (M : Mm) (h w : Int) : Int := if trB M h w then -1 else if 12 ≤ M 73 2 then -2 else M 73 2
def traM (M : Mm) (h w : Int) : Mm := if trB M h w then M else if 12 ≤ M 73 2 then M else adM M 73 h w
def forA (M : Mm) (q : Int) : Int := if q < 0 ∨ M 73 2 < q then -1 else M 73 2 - q
def forM (M : Mm) (q : Int) : Mm := if q < 0 ∨ M 73 2 < q then M else stM M 73 2 q
theorem cut_eq {M : Mm} {o : Nat} {q : Int} (h0 : 0 ≤ q) (h : q ≤ M o 2) : (if 0 ≤ q ∧ q < M o 2 then stM M o 2 q else M) = stM M o 2 q := by
  by_cases z : q < M o 2
  · rw [if_pos ⟨h0, z⟩]
  · rw [if_neg (fun x => z x.2), show q = M o 2 by omega, stM_self]
def couB (M : Mm) (w : Int) (h : Nat) : Bool := decide (agP M (h : Int) w (M 73 2).toNat)
def couA (M : Mm) (w : Int) : Int := if ¬ (0 ≤ w ∧ w < 28) then -1 else ((bsum (couB M w) (M 23 3).toNat : Nat) : Int)
def lrF (M : Mm) : Nat → Nat → Int
  | 0, _ => -9
  | f + 1, i => if agP M (M 74 i) (M 75 i) i then lrF M f (i + 1) else (i : Int)
def liaA (M : Mm) : Int := lrF M (M 73 2).toNat 0
def seR (T : Mm) (o : Nat) (i v : Int) : Mm := if 0 ≤ i ∧ i < T o 1 then stM T (o + 1) i.toNat v else T
theorem seR_off (T : Mm) (o : Nat) (i v : Int) {a : Nat} (h : a ≠ o + 1) : seR T o i v a = T a := by
  unfold seR
  split
  · rw [stM_off h]
  · rfl
/-- an image: what house h owes the first k, from place p on -/
def imI (M T : Mm) (o : Nat) (h p : Int) : Nat → Mm × Int
  | 0 => (T, p)
  | k + 1 => if (k : Int) = h then imI M T o h p k else (seR (imI M T o h p k).1 o (imI M T o h p k).2 (M 65 (h * 8 + (k : Int)).toNat), (imI M T o h p k).2 + 1)
def imF (M : Mm) (o : Nat) : Nat → Mm × Int
  | 0 => (mkM M o (M 23 3 * M 23 3) 0, M 23 3)
  | h + 1 => imI M (seR (imF M o h).1 o (h : Int) (M 64 h)) o (h : Int) (imF M o h).2 (M 23 3).toNat
theorem imI_off (M T : Mm) (o : Nat) (h p : Int) {a : Nat} (ha : a ≠ o + 1) : ∀ k, (imI M T o h p k).1 a = T a
  | 0 => rfl
  | k + 1 => by
    rw [imI]
    split
    · exact imI_off M T o h p ha k
    · show seR _ _ _ _ a = _
      rw [seR_off _ _ _ _ ha, imI_off M T o h p ha k]
theorem imI_p (M T : Mm) (o : Nat) (h p : Int) : ∀ k : Nat, p ≤ (imI M T o h p k).2 ∧ (imI M T o h p k).2 ≤ p + (k : Int)
  | 0 => by simp [imI]
  | k + 1 => by
    have h1 := imI_p M T o h p k
    rw [imI]
    split
    · omega
    · simp only []; omega
theorem mkM_off (M : Mm) (o : Nat) (q v : Int) {a : Nat} (h1 : a ≠ o) (h2 : a ≠ o + 1) : mkM M o q v a = M a := by
  funext b
  unfold mkM
  rw [if_neg (fun z => h1 z.1), if_neg (fun z => h2 z.1)]
theorem imF_off (M : Mm) (o : Nat) {a : Nat} (h1 : a ≠ o) (h2 : a ≠ o + 1) : ∀ h, (imF M o h).1 a = M a
  | 0 => mkM_off M o _ _ h1 h2
  | h + 1 => by rw [imF, imI_off _ _ _ _ _ h2, seR_off _ _ _ _ h2, imF_off M o h1 h2 h]
theorem imF_sz (M : Mm) (o : Nat) : ∀ h, (imF M o h).1 o 1 = M 23 3 * M 23 3
  | 0 => by
    show mkM M o _ _ o 1 = _
    unfold mkM
    rw [if_pos ⟨rfl, rfl⟩]
  | h + 1 => by rw [imF, imI_off _ _ _ _ _ (by omega), seR_off _ _ _ _ (by omega), imF_sz M o h]
theorem imF_p {M : Mm} (h8 : 0 ≤ M 23 3 ∧ M 23 3 ≤ 8) (o : Nat) : ∀ h : Nat, 0 ≤ (imF M o h).2 ∧ (imF M o h).2 ≤ 8 + 8 * (h : Int)
  | 0 => by
    show 0 ≤ M 23 3 ∧ M 23 3 ≤ _
    omega
  | h + 1 => by
    have h1 := imF_p h8 o h
    have h2 := imI_p M (seR (imF M o h).1 o (h : Int) (M 64 h)) o (h : Int) (imF M o h).2 (M 23 3).toNat
    rw [imF]
    omega
def imgM (M : Mm) (o : Nat) : Mm := (imF M o (M 23 3).toNat).1
def imaA (M : Mm) (r : Int) : Int := if ¬ R6 r then -1 else if 8 ≤ M 23 3 then -6 else M 23 3 * M 23 3
def imaM (M : Mm) (r : Int) : Mm := if ¬ R6 r then M else if 8 ≤ M 23 3 then M else imgM M (3 + 2 * r.toNat)
def ceR (M : Mm) (o : Nat) (i : Int) : Int := if 0 ≤ i ∧ i < M o 1 then M (o + 1) i.toNat else 0
def onI (M T : Mm) (o : Nat) (h p : Int) : Nat → Mm × Int
  | 0 => (T, p)
  | k + 1 => if (k : Int) = h then onI M T o h p k else (stM (onI M T o h p k).1 65 (h * 8 + (k : Int)).toNat (ceR M o (onI M T o h p k).2), (onI M T o h p k).2 + 1)
def onF (M : Mm) (o : Nat) : Nat → Mm × Int
  | 0 => (clM M, M 23 3)
  | h + 1 => onI M (stM (onF M o h).1 64 h (ceR M o (h : Int))) o (h : Int) (onF M o h).2 (M 23 3).toNat
theorem onI_off (M T : Mm) (o : Nat) (h p : Int) {a : Nat} (ha : a ≠ 65) : ∀ k, (onI M T o h p k).1 a = T a
  | 0 => rfl
  | k + 1 => by
    rw [onI]
    split
    · exact onI_off M T o h p ha k
    · show stM _ _ _ _ a = _
      rw [stM_off ha, onI_off M T o h p ha k]
theorem onI_p (M T : Mm) (o : Nat) (h p : Int) : ∀ k : Nat, p ≤ (onI M T o h p k).2 ∧ (onI M T o h p k).2 ≤ p + (k : Int)
  | 0 => by simp [onI]
  | k + 1 => by
    have h1 := onI_p M T o h p k
    rw [onI]
    split
    · omega
    · simp only []; omega
theorem onF_off (M : Mm) (o : Nat) {a : Nat} (h1 : a < 63 ∨ 65 < a) : ∀ h, (onF M o h).1 a = M a
  | 0 => clM_off M h1
  | h + 1 => by rw [onF, onI_off _ _ _ _ _ (by omega), stM_off (by omega), onF_off M o h1 h]
theorem onF_p {M : Mm} (h8 : 0 ≤ M 23 3 ∧ M 23 3 ≤ 8) (o : Nat) : ∀ h : Nat, 0 ≤ (onF M o h).2 ∧ (onF M o h).2 ≤ 8 + 8 * (h : Int)
  | 0 => by
    show 0 ≤ M 23 3 ∧ M 23 3 ≤ _
    omega
  | h + 1 => by
    have h1 := onF_p h8 o h
    have h2 := onI_p M (stM (onF M o h).1 64 h (ceR M o (h : Int))) o (h : Int) (onF M o h).2 (M 23 3).toNat
    rw [onF]
    omega
abbrev w9k (M : Mm) (o : Nat) : Prop := ∀ j : Nat, j < (M o 1).toNat → 0 ≤ M (o + 1) j ∧ M (o + 1) j ≤ 9999
def onA (M : Mm) (r : Int) : Int := if ¬ R6 r then -1 else if 8 ≤ M 23 3 then -6 else if M (3 + 2 * r.toNat) 1 < 0 then -3 else if ¬ M (3 + 2 * r.toNat) 1 = M 23 3 * M 23 3 then -3 else if ¬ w9k M (3 + 2 * r.toNat) then -3 else 1
def onM (M : Mm) (r : Int) : Mm := if ¬ R6 r then M else if 8 ≤ M 23 3 then M else if M (3 + 2 * r.toNat) 1 < 0 then fdM M 1 else if ¬ M (3 + 2 * r.toNat) 1 = M 23 3 * M 23 3 then fdM M 5 else if ¬ w9k M (3 + 2 * r.toNat) then fdM M 3 else (onF M (3 + 2 * r.toNat) (M 23 3).toNat).1
def fngA (M : Mm) (f : Int) : Int := if f < 1 ∨ 5 < f then -1 else M 76 f.toNat
theorem sq_b {n : Int} (h : 0 ≤ n ∧ n ≤ 8) : 0 ≤ n * n ∧ n * n ≤ 64 := by
  rcases (show n = 0 ∨ n = 1 ∨ n = 2 ∨ n = 3 ∨ n = 4 ∨ n = 5 ∨ n = 6 ∨ n = 7 ∨ n = 8 by omega) with q | q | q | q | q | q | q | q | q <;> subst q <;> decide
theorem sq_7 {n : Int} (h : 0 ≤ n ∧ n < 8) : n * n ≤ 49 := by
  rcases (show n = 0 ∨ n = 1 ∨ n = 2 ∨ n = 3 ∨ n = 4 ∨ n = 5 ∨ n = 6 ∨ n = 7 by omega) with q | q | q | q | q | q | q | q <;> subst q <;> decide
set_option maxHeartbeats 4000000 in
set_option maxRecDepth 100000 in
theorem c_X11_count {n : Nat} (hn : NN n) {M : Mm} (hci : CI M) (w : Int) (hw : ir w) : CT yX11_count cX11_count 2 (some .int) ({ frames := 4, cells := 0, slots := 0, locals := 86 }) n [.ref 0, .int (iI w)] M (rI (cntV M w) M) := by
  refine CT.of (lv0 := [(0, .ref 0), (1, .int (iI w))]) (by decide +kernel) hn (fun _ => rfl) (fun _ => Nat.le_of_ble_eq_true rfl) (fun X cx cs qx => ?_)
  have cx : Cx X cX11_count RX11 ({ frames := 4, cells := 0, slots := 0, locals := 86 }) 2 n := cx
  have hl := hci.l
  have hMb := bitsK_255 hl 1
  refine g_iload_n cx (pc2 := 1) 1 rfl dX11_count_0 rfl ?_
  rcases (show (w < 0 ∨ 7 < w) ∨ w = 0 ∨ w = 1 ∨ w = 2 ∨ w = 3 ∨ w = 4 ∨ w = 5 ∨ w = 6 ∨ w = 7 from by omega) with h_1 | h_1 | h_1 | h_1 | h_1 | h_1 | h_1 | h_1 | h_1
  · skip
    refine g_swOut cx (tgt := 115) (by first | assumption | omega) dX11_count_1 h_1 (by decide) ?_
    refine g_iconst cx (pc2 := 116) dX11_count_115 rfl ?_
    exact g_iret cx qx dX11_count_116 ⟨congrArg (fun q => some (Value.int (iI q))) (by unfold cntV; (repeat (first | rw [if_pos (by first | assumption | omega)] | rw [if_neg (by first | assumption | exact not_not_intro (by assumption) | omega)])); first | done | rfl | (symm; assumption)), by rfl⟩
  · skip
    refine g_swIn cx (tgt := 48) (by first | assumption | omega) dX11_count_1 (by omega) (by omega) (by rw [h_1]; rfl) (by decide) ?_
    refine g_aload_n cx (pc2 := 49) 0 rfl dX11_count_48 rfl ?_
    refine g_get cx (pc2 := 52) (ci := 11) (k0 := 0) (j := 2) (v := .ref 23) rfl iwX11 rfl (lt_lit hn (Nat.le_of_ble_eq_true rfl)) rfl (Nat.le_of_ble_eq_true rfl) kf_X11_21 rfl rfl dX11_count_49 rfl ?_
    refine g_getN cx (pc2 := 55) (ci := 2) (k0 := 23) (j := 3) (v := .int (iI (M 23 3))) rfl iwX2 rfl (lt_lit hn (Nat.le_of_ble_eq_true rfl)) rfl (Nat.le_of_ble_eq_true rfl) kf_X11_167 rfl rfl dX11_count_52 rfl ?_
    exact g_iret cx qx dX11_count_55 ⟨congrArg (fun q => some (Value.int (iI q))) (by unfold cntV; (repeat (first | rw [if_pos (by first | assumption | omega)] | rw [if_neg (by first | assumption | exact not_not_intro (by assumption) | omega)])); first | done | rfl | (symm; assumption)), by rfl⟩
  · skip
    refine g_swIn cx (tgt := 56) (by first | assumption | omega) dX11_count_1 (by omega) (by omega) (by rw [h_1]; rfl) (by decide) ?_
    refine g_aload_n cx (pc2 := 57) 0 rfl dX11_count_56 rfl ?_
    refine g_get cx (pc2 := 60) (ci := 11) (k0 := 0) (j := 2) (v := .ref 23) rfl iwX11 rfl (lt_lit hn (Nat.le_of_ble_eq_true rfl)) rfl (Nat.le_of_ble_eq_true rfl) kf_X11_21 rfl rfl dX11_count_57 rfl ?_
    refine g_getN cx (pc2 := 63) (ci := 2) (k0 := 23) (j := 4) (v := .int (iI (M 23 4))) rfl iwX2 rfl (lt_lit hn (Nat.le_of_ble_eq_true rfl)) rfl (Nat.le_of_ble_eq_true rfl) kf_X11_396 rfl rfl dX11_count_60 rfl ?_
    exact g_iret cx qx dX11_count_63 ⟨congrArg (fun q => some (Value.int (iI q))) (by unfold cntV; (repeat (first | rw [if_pos (by first | assumption | omega)] | rw [if_neg (by first | assumption | exact not_not_intro (by assumption) | omega)])); first | done | rfl | (symm; assumption)), by rfl⟩
  · skip
    refine g_swIn cx (tgt := 64) (by first | assumption | omega) dX11_count_1 (by omega) (by omega) (by rw [h_1]; rfl) (by decide) ?_
    refine g_aload_n cx (pc2 := 65) 0 rfl dX11_count_64 rfl ?_
    refine g_get cx (pc2 := 68) (ci := 11) (k0 := 0) (j := 2) (v := .ref 23) rfl iwX11 rfl (lt_lit hn (Nat.le_of_ble_eq_true rfl)) rfl (Nat.le_of_ble_eq_true rfl) kf_X11_21 rfl rfl dX11_count_65 rfl ?_
    refine g_callV cx (pc2 := 71) (st := []) (As := []) (k0 := 23) (ci := 2) (c_X2_mustBits (M := M) hn (by exact hci.l) (by exact hci.nd)) wM_X2_mustBits wV_X2_mustBits kl_X11_244 rfl (lt_lit hn (Nat.le_of_ble_eq_true rfl)) rfl ⟨rfl, rfl, Nat.le_of_ble_eq_true rfl, Nat.le_of_ble_eq_true rfl⟩ (Nat.le_of_ble_eq_true rfl) cs rfl rfl dX11_count_68 rfl ?_
    rintro _ _ ⟨rfl, rfl⟩
    refine g_callS cx (pc2 := 74) (st := []) (As := [.int (iI ((bitsK M 1 : Nat) : Int))]) (c_J6_bc (M := M) hn ((bitsK M 1 : Nat) : Int) (by first | assumption | omega)) wM_J6_bc wS_J6_bc kl_X11_399 ⟨rfl, rfl, Nat.le_of_ble_eq_true rfl, Nat.le_of_ble_eq_true rfl⟩ (Nat.le_of_ble_eq_true rfl) cs rfl rfl dX11_count_71 rfl ?_
    rintro _ _ ⟨rfl, rfl⟩
    exact g_iret cx qx dX11_count_74 ⟨congrArg (fun q => some (Value.int (iI q))) (by unfold cntV; (repeat (first | rw [if_pos (by first | assumption | omega)] | rw [if_neg (by first | assumption | exact not_not_intro (by assumption) | omega)])); first | done | rfl | (symm; assumption)), by rfl⟩
  · skip
    refine g_swIn cx (tgt := 75) (by first | assumption | omega) dX11_count_1 (by omega) (by omega) (by rw [h_1]; rfl) (by decide) ?_
    refine g_aload_n cx (pc2 := 76) 0 rfl dX11_count_75 rfl ?_
    refine g_get cx (pc2 := 79) (ci := 11) (k0 := 0) (j := 9) (v := .ref 63) rfl iwX11 rfl (lt_lit hn (Nat.le_of_ble_eq_true rfl)) rfl (Nat.le_of_ble_eq_true rfl) kf_X11_70 rfl rfl dX11_count_76 rfl ?_
    refine g_getN cx (pc2 := 82) (ci := 3) (k0 := 63) (j := 6) (v := .int (iI (M 63 6))) rfl iwX3 rfl (lt_lit hn (Nat.le_of_ble_eq_true rfl)) rfl (Nat.le_of_ble_eq_true rfl) kf_X11_354 rfl rfl dX11_count_79 rfl ?_
    exact g_iret cx qx dX11_count_82 ⟨congrArg (fun q => some (Value.int (iI q))) (by unfold cntV; (repeat (first | rw [if_pos (by first | assumption | omega)] | rw [if_neg (by first | assumption | exact not_not_intro (by assumption) | omega)])); first | done | rfl | (symm; assumption)), by rfl⟩
  · skip
    refine g_swIn cx (tgt := 83) (by first | assumption | omega) dX11_count_1 (by omega) (by omega) (by rw [h_1]; rfl) (by decide) ?_
    refine g_aload_n cx (pc2 := 84) 0 rfl dX11_count_83 rfl ?_
    refine g_get cx (pc2 := 87) (ci := 11) (k0 := 0) (j := 10) (v := .ref 70) rfl iwX11 rfl (lt_lit hn (Nat.le_of_ble_eq_true rfl)) rfl (Nat.le_of_ble_eq_true rfl) kf_X11_79 rfl rfl dX11_count_84 rfl ?_
    refine g_getN cx (pc2 := 90) (ci := 5) (k0 := 70) (j := 2) (v := .int (iI (M 70 2))) rfl iwX5 rfl (lt_lit hn (Nat.le_of_ble_eq_true rfl)) rfl (Nat.le_of_ble_eq_true rfl) kf_X11_370 rfl rfl dX11_count_87 rfl ?_
    exact g_iret cx qx dX11_count_90 ⟨congrArg (fun q => some (Value.int (iI q))) (by unfold cntV; (repeat (first | rw [if_pos (by first | assumption | omega)] | rw [if_neg (by first | assumption | exact not_not_intro (by assumption) | omega)])); first | done | rfl | (symm; assumption)), by rfl⟩
  · skip
    refine g_swIn cx (tgt := 91) (by first | assumption | omega) dX11_count_1 (by omega) (by omega) (by rw [h_1]; rfl) (by decide) ?_
    refine g_aload_n cx (pc2 := 92) 0 rfl dX11_count_91 rfl ?_
    refine g_get cx (pc2 := 95) (ci := 11) (k0 := 0) (j := 11) (v := .ref 73) rfl iwX11 rfl (lt_lit hn (Nat.le_of_ble_eq_true rfl)) rfl (Nat.le_of_ble_eq_true rfl) kf_X11_83 rfl rfl dX11_count_92 rfl ?_
    refine g_getN cx (pc2 := 98) (ci := 5) (k0 := 73) (j := 2) (v := .int (iI (M 73 2))) rfl iwX5 rfl (lt_lit hn (Nat.le_of_ble_eq_true rfl)) rfl (Nat.le_of_ble_eq_true rfl) kf_X11_370 rfl rfl dX11_count_95 rfl ?_
    exact g_iret cx qx dX11_count_98 ⟨congrArg (fun q => some (Value.int (iI q))) (by unfold cntV; (repeat (first | rw [if_pos (by first | assumption | omega)] | rw [if_neg (by first | assumption | exact not_not_intro (by assumption) | omega)])); first | done | rfl | (symm; assumption)), by rfl⟩
  · skip
    refine g_swIn cx (tgt := 99) (by first | assumption | omega) dX11_count_1 (by omega) (by omega) (by rw [h_1]; rfl) (by decide) ?_
    refine g_aload_n cx (pc2 := 100) 0 rfl dX11_count_99 rfl ?_
    refine g_get cx (pc2 := 103) (ci := 11) (k0 := 0) (j := 0) (v := .ref 1) rfl iwX11 rfl (lt_lit hn (Nat.le_of_ble_eq_true rfl)) rfl (Nat.le_of_ble_eq_true rfl) kf_X11_11 rfl rfl dX11_count_100 rfl ?_
    refine g_callS cx (pc2 := 106) (st := []) (As := [.ref 1]) (c_nt1 (M := M) hn (by exact hci.rw)) wM_X11_numberThere wS_X11_numberThere kl_X11_404 ⟨rfl, rfl, Nat.le_of_ble_eq_true rfl, Nat.le_of_ble_eq_true rfl⟩ (Nat.le_of_ble_eq_true rfl) cs rfl rfl dX11_count_103 rfl ?_
    rintro _ _ ⟨rfl, rfl⟩
    exact g_iret cx qx dX11_count_106 ⟨congrArg (fun q => some (Value.int (iI q))) (by unfold cntV; (repeat (first | rw [if_pos (by first | assumption | omega)] | rw [if_neg (by first | assumption | exact not_not_intro (by assumption) | omega)])); first | done | rfl | (symm; assumption)), by rfl⟩
  · skip
    refine g_swIn cx (tgt := 107) (by first | assumption | omega) dX11_count_1 (by omega) (by omega) (by rw [h_1]; rfl) (by decide) ?_
    refine g_aload_n cx (pc2 := 108) 0 rfl dX11_count_107 rfl ?_
    refine g_get cx (pc2 := 111) (ci := 11) (k0 := 0) (j := 1) (v := .ref 2) rfl iwX11 rfl (lt_lit hn (Nat.le_of_ble_eq_true rfl)) rfl (Nat.le_of_ble_eq_true rfl) kf_X11_15 rfl rfl dX11_count_108 rfl ?_
    refine g_callS cx (pc2 := 114) (st := []) (As := [.ref 2]) (c_nt2 (M := M) hn (by exact hci.rw)) wM_X11_numberThere wS_X11_numberThere kl_X11_404 ⟨rfl, rfl, Nat.le_of_ble_eq_true rfl, Nat.le_of_ble_eq_true rfl⟩ (Nat.le_of_ble_eq_true rfl) cs rfl rfl dX11_count_111 rfl ?_
    rintro _ _ ⟨rfl, rfl⟩
    exact g_iret cx qx dX11_count_114 ⟨congrArg (fun q => some (Value.int (iI q))) (by unfold cntV; (repeat (first | rw [if_pos (by first | assumption | omega)] | rw [if_neg (by first | assumption | exact not_not_intro (by assumption) | omega)])); first | done | rfl | (symm; assumption)), by rfl⟩
set_option maxHeartbeats 4000000 in
set_option maxRecDepth 100000 in
theorem c_X11_asked {n : Nat} (hn : NN n) {M : Mm} : CT yX11_asked cX11_asked 1 (some .int) ({ frames := 0, cells := 0, slots := 0, locals := 0 }) n [.ref 0] M (rI (M 0 15) M) := by
  refine CT.of (lv0 := [(0, .ref 0)]) (by decide +kernel) hn (fun _ => rfl) (fun _ => Nat.le_of_ble_eq_true rfl) (fun X cx cs qx => ?_)
  have cx : Cx X cX11_asked RX11 ({ frames := 0, cells := 0, slots := 0, locals := 0 }) 1 n := cx
  refine g_aload_n cx (pc2 := 1) 0 rfl dX11_asked_0 rfl ?_
  refine g_get cx (pc2 := 4) (ci := 11) (k0 := 0) (j := 15) (v := .int (iI (M 0 15))) rfl iwX11 rfl (lt_lit hn (Nat.le_of_ble_eq_true rfl)) rfl (Nat.le_of_ble_eq_true rfl) kf_X11_98 rfl rfl dX11_asked_1 rfl ?_
  exact g_iret cx qx dX11_asked_4 ⟨congrArg (fun q => some (Value.int (iI q))) (by first | rfl | omega), by rfl⟩
set_option maxHeartbeats 4000000 in
set_option maxRecDepth 100000 in
theorem c_X11_upper {n : Nat} (hn : NN n) {M : Mm} : CT yX11_upper cX11_upper 1 (some .long) ({ frames := 0, cells := 0, slots := 0, locals := 0 }) n [.ref 0] M (rL (M 0 16) M) := by
  refine CT.of (lv0 := [(0, .ref 0)]) (by decide +kernel) hn (fun _ => rfl) (fun _ => Nat.le_of_ble_eq_true rfl) (fun X cx cs qx => ?_)
  have cx : Cx X cX11_upper RX11 ({ frames := 0, cells := 0, slots := 0, locals := 0 }) 1 n := cx
  refine g_aload_n cx (pc2 := 1) 0 rfl dX11_upper_0 rfl ?_
  refine g_get cx (pc2 := 4) (ci := 11) (k0 := 0) (j := 16) (v := .long (lI (M 0 16))) rfl iwX11 rfl (lt_lit hn (Nat.le_of_ble_eq_true rfl)) rfl (Nat.le_of_ble_eq_true rfl) kf_X11_101 rfl rfl dX11_upper_1 rfl ?_
  exact g_lret cx qx dX11_upper_4 ⟨congrArg (fun q => some (Value.long (lI q))) (by first | rfl | omega), by rfl⟩
set_option maxHeartbeats 4000000 in
set_option maxRecDepth 100000 in
theorem c_X11_lower {n : Nat} (hn : NN n) {M : Mm} : CT yX11_lower cX11_lower 1 (some .long) ({ frames := 0, cells := 0, slots := 0, locals := 0 }) n [.ref 0] M (rL (M 0 17) M) := by
  refine CT.of (lv0 := [(0, .ref 0)]) (by decide +kernel) hn (fun _ => rfl) (fun _ => Nat.le_of_ble_eq_true rfl) (fun X cx cs qx => ?_)
  have cx : Cx X cX11_lower RX11 ({ frames := 0, cells := 0, slots := 0, locals := 0 }) 1 n := cx
  refine g_aload_n cx (pc2 := 1) 0 rfl dX11_lower_0 rfl ?_
  refine g_get cx (pc2 := 4) (ci := 11) (k0 := 0) (j := 17) (v := .long (lI (M 0 17))) rfl iwX11 rfl (lt_lit hn (Nat.le_of_ble_eq_true rfl)) rfl (Nat.le_of_ble_eq_true rfl) kf_X11_105 rfl rfl dX11_lower_1 rfl ?_
  exact g_lret cx qx dX11_lower_4 ⟨congrArg (fun q => some (Value.long (lI q))) (by first | rfl | omega), by rfl⟩
set_option maxHeartbeats 4000000 in
set_option maxRecDepth 100000 in
theorem c_X11_digest {n : Nat} (hn : NN n) {M : Mm} (hci : CI M) : CT yX11_digest cX11_digest 4 (some .long) ({ frames := 5, cells := 0, slots := 0, locals := 107 }) n [.ref 0] M (rL (digV M) M) := by
  refine CT.of (lv0 := [(0, .ref 0)]) (by decide +kernel) hn (fun _ => rfl) (fun _ => Nat.le_of_ble_eq_true rfl) (fun X cx cs qx => ?_)
  have cx : Cx X cX11_digest RX11 ({ frames := 5, cells := 0, slots := 0, locals := 107 }) 4 n := cx
  have hst5 := hci.st
  refine g_ldc2 cx (pc2 := 3) kk_X11_408 dX11_digest_0 rfl ?_
  refine g_lstore_n cx (pc2 := 4) (lv2 := [(0, .ref 0), (1, .long (lI 17))]) rfl (Nat.le_of_ble_eq_true rfl) dX11_digest_3 rfl ?_
  refine g_iconst cx (pc2 := 5) dX11_digest_4 rfl ?_
  refine g_istore_n cx (pc2 := 6) (lv2 := [(0, .ref 0), (1, .long (lI 17)), (3, .int (iI 0))]) rfl (Nat.le_of_ble_eq_true rfl) dX11_digest_5 rfl ?_
  have L6 : ∀ (fu : Nat) (w : Int) (t : Int), (0 ≤ w ∧ w ≤ 8) → (t = mxF (fun w => cntV M (w : Int)) 17 w.toNat) → (8 - w).toNat ≤ fu → G X 6 [(0, .ref 0), (1, .long (lI t)), (3, .int (iI w))] [] M := by
    intro fu
    induction fu using Nat.strongRecOn with
    | _ fu ih6 =>
      intro w t hw ht hk6
      have hcb := cntV_b hci w
      refine g_iload_n cx (pc2 := 7) 2 rfl dX11_digest_6 rfl ?_
      refine g_bipush cx (pc2 := 9) ⟨by decide, by decide⟩ dX11_digest_7 rfl ?_
      refine g_icmp_gt cx (pc2 := 12) (tgt := 29) ⟨(by first | assumption | omega), ⟨by decide, by decide⟩⟩ dX11_digest_9 (by decide) rfl (fun h_1 => ?_) (fun h_1 => ?_)
      · skip
        refine g_lload_n cx (pc2 := 30) 1 rfl dX11_digest_29 rfl ?_
        refine g_aload_n cx (pc2 := 31) 0 rfl dX11_digest_30 rfl ?_
        refine g_get cx (pc2 := 34) (ci := 11) (k0 := 0) (j := 2) (v := .ref 23) rfl iwX11 rfl (lt_lit hn (Nat.le_of_ble_eq_true rfl)) rfl (Nat.le_of_ble_eq_true rfl) kf_X11_21 rfl rfl dX11_digest_31 rfl ?_
        refine g_getN cx (pc2 := 37) (ci := 2) (k0 := 23) (j := 5) (v := .int (iI (M 23 5))) rfl iwX2 rfl (lt_lit hn (Nat.le_of_ble_eq_true rfl)) rfl (Nat.le_of_ble_eq_true rfl) kf_X11_197 rfl rfl dX11_digest_34 rfl ?_
        refine g_i2l cx (pc2 := 38) (by first | assumption | omega) dX11_digest_37 rfl ?_
        refine g_callS cx (pc2 := 41) (st := []) (As := [.long (lI t), .long (lI (M 23 5))]) (c_X11_mix (M := M) hn t (M 23 5)) wM_X11_mix wS_X11_mix kl_X11_413 ⟨rfl, rfl, Nat.le_of_ble_eq_true rfl, Nat.le_of_ble_eq_true rfl⟩ (Nat.le_of_ble_eq_true rfl) cs rfl rfl dX11_digest_38 rfl ?_
        rintro _ _ ⟨rfl, rfl⟩
        refine g_lstore_n cx (pc2 := 42) (lv2 := [(0, .ref 0), (1, .long (lI (31 * t + (M 23 5)))), (3, .int (iI w))]) rfl (Nat.le_of_ble_eq_true rfl) dX11_digest_41 rfl ?_
        refine g_aload_n cx (pc2 := 43) 0 rfl dX11_digest_42 rfl ?_
        refine g_lload_n cx (pc2 := 44) 1 rfl dX11_digest_43 rfl ?_
        refine g_callV cx (pc2 := 47) (st := []) (As := [.long (lI (31 * t + (M 23 5)))]) (k0 := 0) (ci := 11) (c_X11_mixHouses (M := M) hn (by exact hci) (31 * t + (M 23 5))) wM_X11_mixHouses wV_X11_mixHouses kl_X11_417 rfl (lt_lit hn (Nat.le_of_ble_eq_true rfl)) rfl ⟨rfl, rfl, Nat.le_of_ble_eq_true rfl, Nat.le_of_ble_eq_true rfl⟩ (Nat.le_of_ble_eq_true rfl) cs rfl rfl dX11_digest_44 rfl ?_
        rintro _ _ ⟨rfl, rfl⟩
        refine g_lstore_n cx (pc2 := 48) (lv2 := [(0, .ref 0), (1, .long (lI (mxH M (31 * t + (M 23 5)) (M 23 3).toNat))), (3, .int (iI w))]) rfl (Nat.le_of_ble_eq_true rfl) dX11_digest_47 rfl ?_
        refine g_aload_n cx (pc2 := 49) 0 rfl dX11_digest_48 rfl ?_
        refine g_lload_n cx (pc2 := 50) 1 rfl dX11_digest_49 rfl ?_
        refine g_callV cx (pc2 := 53) (st := []) (As := [.long (lI (mxH M (31 * t + (M 23 5)) (M 23 3).toNat))]) (k0 := 0) (ci := 11) (c_X11_mixNeeds (M := M) hn (by exact hci) (mxH M (31 * t + (M 23 5)) (M 23 3).toNat)) wM_X11_mixNeeds wV_X11_mixNeeds kl_X11_421 rfl (lt_lit hn (Nat.le_of_ble_eq_true rfl)) rfl ⟨rfl, rfl, Nat.le_of_ble_eq_true rfl, Nat.le_of_ble_eq_true rfl⟩ (Nat.le_of_ble_eq_true rfl) cs rfl rfl dX11_digest_50 rfl ?_
        rintro _ _ ⟨rfl, rfl⟩
        refine g_lstore_n cx (pc2 := 54) (lv2 := [(0, .ref 0), (1, .long (lI (mxN M (mxH M (31 * t + (M 23 5)) (M 23 3).toNat) (M 23 4).toNat))), (3, .int (iI w))]) rfl (Nat.le_of_ble_eq_true rfl) dX11_digest_53 rfl ?_
        refine g_lload_n cx (pc2 := 55) 1 rfl dX11_digest_54 rfl ?_
        refine g_aload_n cx (pc2 := 56) 0 rfl dX11_digest_55 rfl ?_
        refine g_get cx (pc2 := 59) (ci := 11) (k0 := 0) (j := 10) (v := .ref 70) rfl iwX11 rfl (lt_lit hn (Nat.le_of_ble_eq_true rfl)) rfl (Nat.le_of_ble_eq_true rfl) kf_X11_79 rfl rfl dX11_digest_56 rfl ?_
        refine g_callS cx (pc2 := 62) (st := []) (As := [.long (lI (mxN M (mxH M (31 * t + (M 23 5)) (M 23 3).toNat) (M 23 4).toNat)), .ref 70]) (c_X11_mixPairs (M := M) hn (by exact Or.inl rfl) (by exact hci.p70) (mxN M (mxH M (31 * t + (M 23 5)) (M 23 3).toNat) (M 23 4).toNat)) wM_X11_mixPairs wS_X11_mixPairs kl_X11_424 ⟨rfl, rfl, Nat.le_of_ble_eq_true rfl, Nat.le_of_ble_eq_true rfl⟩ (Nat.le_of_ble_eq_true rfl) cs rfl rfl dX11_digest_59 rfl ?_
        rintro _ _ ⟨rfl, rfl⟩
        refine g_lstore_n cx (pc2 := 63) (lv2 := [(0, .ref 0), (1, .long (lI (mxP M 70 (mxN M (mxH M (31 * t + (M 23 5)) (M 23 3).toNat) (M 23 4).toNat) (M 70 2).toNat))), (3, .int (iI w))]) rfl (Nat.le_of_ble_eq_true rfl) dX11_digest_62 rfl ?_
        refine g_lload_n cx (pc2 := 64) 1 rfl dX11_digest_63 rfl ?_
        refine g_aload_n cx (pc2 := 65) 0 rfl dX11_digest_64 rfl ?_
        refine g_get cx (pc2 := 68) (ci := 11) (k0 := 0) (j := 11) (v := .ref 73) rfl iwX11 rfl (lt_lit hn (Nat.le_of_ble_eq_true rfl)) rfl (Nat.le_of_ble_eq_true rfl) kf_X11_83 rfl rfl dX11_digest_65 rfl ?_
        refine g_callS cx (pc2 := 71) (st := []) (As := [.long (lI (mxP M 70 (mxN M (mxH M (31 * t + (M 23 5)) (M 23 3).toNat) (M 23 4).toNat) (M 70 2).toNat)), .ref 73]) (c_X11_mixPairs (M := M) hn (by exact Or.inr rfl) (by exact hci.p73) (mxP M 70 (mxN M (mxH M (31 * t + (M 23 5)) (M 23 3).toNat) (M 23 4).toNat) (M 70 2).toNat)) wM_X11_mixPairs wS_X11_mixPairs kl_X11_424 ⟨rfl, rfl, Nat.le_of_ble_eq_true rfl, Nat.le_of_ble_eq_true rfl⟩ (Nat.le_of_ble_eq_true rfl) cs rfl rfl dX11_digest_68 rfl ?_
        rintro _ _ ⟨rfl, rfl⟩
        refine g_lstore_n cx (pc2 := 72) (lv2 := [(0, .ref 0), (1, .long (lI (mxP M 73 (mxP M 70 (mxN M (mxH M (31 * t + (M 23 5)) (M 23 3).toNat) (M 23 4).toNat) (M 70 2).toNat) (M 73 2).toNat))), (3, .int (iI w))]) rfl (Nat.le_of_ble_eq_true rfl) dX11_digest_71 rfl ?_
        refine g_lload_n cx (pc2 := 73) 1 rfl dX11_digest_72 rfl ?_
        refine g_aload_n cx (pc2 := 74) 0 rfl dX11_digest_73 rfl ?_
        refine g_get cx (pc2 := 77) (ci := 11) (k0 := 0) (j := 0) (v := .ref 1) rfl iwX11 rfl (lt_lit hn (Nat.le_of_ble_eq_true rfl)) rfl (Nat.le_of_ble_eq_true rfl) kf_X11_11 rfl rfl dX11_digest_74 rfl ?_
        refine g_callS cx (pc2 := 80) (st := []) (As := [.long (lI (mxP M 73 (mxP M 70 (mxN M (mxH M (31 * t + (M 23 5)) (M 23 3).toNat) (M 23 4).toNat) (M 70 2).toNat) (M 73 2).toNat)), .ref 1]) (c_mr1 (M := M) hn (by exact hci.rw) (mxP M 73 (mxP M 70 (mxN M (mxH M (31 * t + (M 23 5)) (M 23 3).toNat) (M 23 4).toNat) (M 70 2).toNat) (M 73 2).toNat)) wM_X11_mixRows wS_X11_mixRows kl_X11_428 ⟨rfl, rfl, Nat.le_of_ble_eq_true rfl, Nat.le_of_ble_eq_true rfl⟩ (Nat.le_of_ble_eq_true rfl) cs rfl rfl dX11_digest_77 rfl ?_
        rintro _ _ ⟨rfl, rfl⟩
        refine g_lstore_n cx (pc2 := 81) (lv2 := [(0, .ref 0), (1, .long (lI (mxR M 3 (mxP M 73 (mxP M 70 (mxN M (mxH M (31 * t + (M 23 5)) (M 23 3).toNat) (M 23 4).toNat) (M 70 2).toNat) (M 73 2).toNat) 6))), (3, .int (iI w))]) rfl (Nat.le_of_ble_eq_true rfl) dX11_digest_80 rfl ?_
        refine g_lload_n cx (pc2 := 82) 1 rfl dX11_digest_81 rfl ?_
        refine g_aload_n cx (pc2 := 83) 0 rfl dX11_digest_82 rfl ?_
        refine g_get cx (pc2 := 86) (ci := 11) (k0 := 0) (j := 1) (v := .ref 2) rfl iwX11 rfl (lt_lit hn (Nat.le_of_ble_eq_true rfl)) rfl (Nat.le_of_ble_eq_true rfl) kf_X11_15 rfl rfl dX11_digest_83 rfl ?_
        refine g_callS cx (pc2 := 89) (st := []) (As := [.long (lI (mxR M 3 (mxP M 73 (mxP M 70 (mxN M (mxH M (31 * t + (M 23 5)) (M 23 3).toNat) (M 23 4).toNat) (M 70 2).toNat) (M 73 2).toNat) 6)), .ref 2]) (c_mr2 (M := M) hn (by exact hci.rw) (mxR M 3 (mxP M 73 (mxP M 70 (mxN M (mxH M (31 * t + (M 23 5)) (M 23 3).toNat) (M 23 4).toNat) (M 70 2).toNat) (M 73 2).toNat) 6)) wM_X11_mixRows wS_X11_mixRows kl_X11_428 ⟨rfl, rfl, Nat.le_of_ble_eq_true rfl, Nat.le_of_ble_eq_true rfl⟩ (Nat.le_of_ble_eq_true rfl) cs rfl rfl dX11_digest_86 rfl ?_
        rintro _ _ ⟨rfl, rfl⟩
        exact g_lret cx qx dX11_digest_89 ⟨congrArg (fun q => some (Value.long (lI q))) (by unfold digV; rw [ht, show w.toNat = 8 by omega]), by rfl⟩
      · skip
        refine g_lload_n cx (pc2 := 13) 1 rfl dX11_digest_12 rfl ?_
        refine g_aload_n cx (pc2 := 14) 0 rfl dX11_digest_13 rfl ?_
        refine g_iload_n cx (pc2 := 15) 2 rfl dX11_digest_14 rfl ?_
        refine g_callV cx (pc2 := 18) (st := [.long (lI t)]) (As := [.int (iI w)]) (k0 := 0) (ci := 11) (c_X11_count (M := M) hn (by exact hci) w (by first | assumption | omega)) wM_X11_count wV_X11_count kl_X11_410 rfl (lt_lit hn (Nat.le_of_ble_eq_true rfl)) rfl ⟨rfl, rfl, Nat.le_of_ble_eq_true rfl, Nat.le_of_ble_eq_true rfl⟩ (Nat.le_of_ble_eq_true rfl) cs rfl rfl dX11_digest_15 rfl ?_
        rintro _ _ ⟨rfl, rfl⟩
        refine g_i2l cx (pc2 := 19) (by first | assumption | omega) dX11_digest_18 rfl ?_
        refine g_callS cx (pc2 := 22) (st := []) (As := [.long (lI t), .long (lI (cntV M w))]) (c_X11_mix (M := M) hn t (cntV M w)) wM_X11_mix wS_X11_mix kl_X11_413 ⟨rfl, rfl, Nat.le_of_ble_eq_true rfl, Nat.le_of_ble_eq_true rfl⟩ (Nat.le_of_ble_eq_true rfl) cs rfl rfl dX11_digest_19 rfl ?_
        rintro _ _ ⟨rfl, rfl⟩
        refine g_lstore_n cx (pc2 := 23) (lv2 := [(0, .ref 0), (1, .long (lI (31 * t + (cntV M w)))), (3, .int (iI w))]) rfl (Nat.le_of_ble_eq_true rfl) dX11_digest_22 rfl ?_
        refine g_iinc cx (pc2 := 26) 2 rfl (lv2 := [(0, .ref 0), (1, .long (lI (31 * t + (cntV M w)))), (3, .int (iI (w + 1)))]) rfl (Nat.le_of_ble_eq_true rfl) dX11_digest_23 rfl ?_
        refine g_goto cx (tgt := 6) dX11_digest_26 (by decide) ?_
        exact ih6 ((8 - (w + 1)).toNat) (by omega) (w + 1) (31 * t + (cntV M w)) (by first | assumption | omega) (by rw [show (w + 1).toNat = w.toNat + 1 by omega, mxF, ← ht, Int.toNat_of_nonneg hw.1]) (Nat.le_refl _)
  exact L6 _ 0 17 (by first | assumption | omega) (by rfl) (Nat.le_refl _)
set_option maxHeartbeats 4000000 in
set_option maxRecDepth 100000 in
theorem c_X11_deal {n : Nat} (hn : NN n) {M : Mm} (hci : CI M) (kd h k q : Int) (hkd : ir kd) (hh : ir h) (hk : ir k) (hq : ir q) : CT yX11_deal cX11_deal 6 (some .int) ({ frames := 5, cells := 0, slots := 0, locals := 113 }) n [.ref 0, .int (iI kd), .int (iI h), .int (iI k), .int (iI q)] M (rI (deaA M kd h k q) (deaM M kd h k q)) := by
  refine CT.of (lv0 := [(0, .ref 0), (1, .int (iI kd)), (2, .int (iI h)), (3, .int (iI k)), (4, .int (iI q))]) (by decide +kernel) hn (fun _ => rfl) (fun _ => Nat.le_of_ble_eq_true rfl) (fun X cx cs qx => ?_)
  have cx : Cx X cX11_deal RX11 ({ frames := 5, cells := 0, slots := 0, locals := 113 }) 6 n := cx
  have hl := hci.l
  have hD := hci.d
  refine g_iload_n cx (pc2 := 1) 1 rfl dX11_deal_0 rfl ?_
  refine g_if_lt cx (pc2 := 4) (tgt := 33) (by first | assumption | omega) dX11_deal_1 (by decide) rfl (fun h_1 => ?_) (fun h_1 => ?_)
  · skip
    refine g_iconst cx (pc2 := 34) dX11_deal_33 rfl ?_
    exact g_iret cx qx dX11_deal_34 ⟨congrArg (fun q => some (Value.int (iI q))) (by unfold deaA; (repeat (first | rw [if_pos (by first | assumption | omega)] | rw [if_neg (by first | assumption | exact not_not_intro (by assumption) | omega)])); first | done | rfl | (symm; assumption)), by unfold deaM; (repeat (first | rw [if_pos (by first | assumption | omega)] | rw [if_neg (by first | assumption | exact not_not_intro (by assumption) | omega)])); first | done | rfl | (symm; assumption)⟩
  · skip
    refine g_iload_n cx (pc2 := 5) 1 rfl dX11_deal_4 rfl ?_
    refine g_iconst cx (pc2 := 6) dX11_deal_5 rfl ?_
    refine g_icmp_gt cx (pc2 := 9) (tgt := 33) ⟨(by first | assumption | omega), ⟨by decide, by decide⟩⟩ dX11_deal_6 (by decide) rfl (fun h_2 => ?_) (fun h_2 => ?_)
    · skip
      refine g_iconst cx (pc2 := 34) dX11_deal_33 rfl ?_
      exact g_iret cx qx dX11_deal_34 ⟨congrArg (fun q => some (Value.int (iI q))) (by unfold deaA; (repeat (first | rw [if_pos (by first | assumption | omega)] | rw [if_neg (by first | assumption | exact not_not_intro (by assumption) | omega)])); first | done | rfl | (symm; assumption)), by unfold deaM; (repeat (first | rw [if_pos (by first | assumption | omega)] | rw [if_neg (by first | assumption | exact not_not_intro (by assumption) | omega)])); first | done | rfl | (symm; assumption)⟩
    · skip
      refine g_aload_n cx (pc2 := 10) 0 rfl dX11_deal_9 rfl ?_
      refine g_get cx (pc2 := 13) (ci := 11) (k0 := 0) (j := 2) (v := .ref 23) rfl iwX11 rfl (lt_lit hn (Nat.le_of_ble_eq_true rfl)) rfl (Nat.le_of_ble_eq_true rfl) kf_X11_21 rfl rfl dX11_deal_10 rfl ?_
      refine g_iload_n cx (pc2 := 14) 2 rfl dX11_deal_13 rfl ?_
      refine g_callV cx (pc2 := 17) (st := []) (As := [.int (iI h)]) (k0 := 23) (ci := 2) (c_X2_isHouse (M := M) hn (by exact Or.inl rfl) (by exact hci.l) h (by first | assumption | omega)) wM_X2_isHouse wV_X2_isHouse kl_X11_170 rfl (lt_lit hn (Nat.le_of_ble_eq_true rfl)) rfl ⟨rfl, rfl, Nat.le_of_ble_eq_true rfl, Nat.le_of_ble_eq_true rfl⟩ (Nat.le_of_ble_eq_true rfl) cs rfl rfl dX11_deal_14 rfl ?_
      rintro _ _ ⟨rfl, rfl⟩
      refine g_ifb_eq cx (pc2 := 20) (tgt := 33) dX11_deal_17 (by decide) rfl (fun h_3 => ?_) (fun h_3 => ?_)
      · skip
        refine g_iconst cx (pc2 := 34) dX11_deal_33 rfl ?_
        exact g_iret cx qx dX11_deal_34 ⟨congrArg (fun q => some (Value.int (iI q))) (by unfold deaA; (repeat (first | rw [if_pos (by first | assumption | omega)] | rw [if_neg (by first | assumption | exact not_not_intro (by assumption) | omega)])); first | done | rfl | (symm; assumption)), by unfold deaM; (repeat (first | rw [if_pos (by first | assumption | omega)] | rw [if_neg (by first | assumption | exact not_not_intro (by assumption) | omega)])); first | done | rfl | (symm; assumption)⟩
      · skip
        refine g_iload cx (pc2 := 22) 4 rfl dX11_deal_20 rfl ?_
        refine g_iconst cx (pc2 := 23) dX11_deal_22 rfl ?_
        refine g_icmp_lt cx (pc2 := 26) (tgt := 33) ⟨(by first | assumption | omega), ⟨by decide, by decide⟩⟩ dX11_deal_23 (by decide) rfl (fun h_4 => ?_) (fun h_4 => ?_)
        · skip
          refine g_iconst cx (pc2 := 34) dX11_deal_33 rfl ?_
          exact g_iret cx qx dX11_deal_34 ⟨congrArg (fun q => some (Value.int (iI q))) (by unfold deaA; (repeat (first | rw [if_pos (by first | assumption | omega)] | rw [if_neg (by first | assumption | exact not_not_intro (by assumption) | omega)])); first | done | rfl | (symm; assumption)), by unfold deaM; (repeat (first | rw [if_pos (by first | assumption | omega)] | rw [if_neg (by first | assumption | exact not_not_intro (by assumption) | omega)])); first | done | rfl | (symm; assumption)⟩
        · skip
          refine g_iload cx (pc2 := 28) 4 rfl dX11_deal_26 rfl ?_
          refine g_bipush cx (pc2 := 30) ⟨by decide, by decide⟩ dX11_deal_28 rfl ?_
          refine g_icmp_le cx (pc2 := 33) (tgt := 35) ⟨(by first | assumption | omega), ⟨by decide, by decide⟩⟩ dX11_deal_30 (by decide) rfl (fun h_5 => ?_) (fun h_5 => ?_)
          · skip
            have L70 : ∀ (o : Int), (o = deO kd h k) → (¬ deC M kd h k) → (HS M o) → G X 70 [(0, .ref 0), (1, .int (iI kd)), (2, .int (iI h)), (3, .int (iI k)), (4, .int (iI q)), (5, .int (iI o))] [] M := by
              intro o hoe hC hoh
              have h8a : H8 h := by unfold H8; omega
              have h8b : H8 o := by unfold H8; omega
              refine g_aload_n cx (pc2 := 71) 0 rfl dX11_deal_70 rfl ?_
              refine g_get cx (pc2 := 74) (ci := 11) (k0 := 0) (j := 9) (v := .ref 63) rfl iwX11 rfl (lt_lit hn (Nat.le_of_ble_eq_true rfl)) rfl (Nat.le_of_ble_eq_true rfl) kf_X11_70 rfl rfl dX11_deal_71 rfl ?_
              refine g_iload_n cx (pc2 := 75) 1 rfl dX11_deal_74 rfl ?_
              refine g_iload_n cx (pc2 := 76) 2 rfl dX11_deal_75 rfl ?_
              refine g_iload cx (pc2 := 78) 5 rfl dX11_deal_76 rfl ?_
              refine g_iload cx (pc2 := 80) 4 rfl dX11_deal_78 rfl ?_
              refine g_callV cx (pc2 := 83) (st := []) (As := [.int (iI kd), .int (iI h), .int (iI o), .int (iI q)]) (k0 := 63) (ci := 3) (c_X3_allows (M := M) hn kd h o q (by first | assumption | omega) (by first | assumption | omega) (by first | assumption | omega) (by first | assumption | omega)) wM_X3_allows wV_X3_allows kl_X11_343 rfl (lt_lit hn (Nat.le_of_ble_eq_true rfl)) rfl ⟨rfl, rfl, Nat.le_of_ble_eq_true rfl, Nat.le_of_ble_eq_true rfl⟩ (Nat.le_of_ble_eq_true rfl) cs rfl rfl dX11_deal_80 rfl ?_
              rintro _ _ ⟨rfl, rfl⟩
              refine g_ifb_ne cx (pc2 := 86) (tgt := 89) dX11_deal_83 (by decide) rfl (fun h_6 => ?_) (fun h_6 => ?_)
              · skip
                refine g_aload_n cx (pc2 := 90) 0 rfl dX11_deal_89 rfl ?_
                refine g_get cx (pc2 := 93) (ci := 11) (k0 := 0) (j := 9) (v := .ref 63) rfl iwX11 rfl (lt_lit hn (Nat.le_of_ble_eq_true rfl)) rfl (Nat.le_of_ble_eq_true rfl) kf_X11_70 rfl rfl dX11_deal_90 rfl ?_
                refine g_callV cx (pc2 := 96) (st := []) (As := []) (k0 := 63) (ci := 3) (c_X3_isFull (M := M) hn (by exact hD)) wM_X3_isFull wV_X3_isFull kl_X11_347 rfl (lt_lit hn (Nat.le_of_ble_eq_true rfl)) rfl ⟨rfl, rfl, Nat.le_of_ble_eq_true rfl, Nat.le_of_ble_eq_true rfl⟩ (Nat.le_of_ble_eq_true rfl) cs rfl rfl dX11_deal_93 rfl ?_
                rintro _ _ ⟨rfl, rfl⟩
                refine g_ifb_eq cx (pc2 := 99) (tgt := 102) dX11_deal_96 (by decide) rfl (fun h_7 => ?_) (fun h_7 => ?_)
                · skip
                  refine g_aload_n cx (pc2 := 103) 0 rfl dX11_deal_102 rfl ?_
                  refine g_get cx (pc2 := 106) (ci := 11) (k0 := 0) (j := 9) (v := .ref 63) rfl iwX11 rfl (lt_lit hn (Nat.le_of_ble_eq_true rfl)) rfl (Nat.le_of_ble_eq_true rfl) kf_X11_70 rfl rfl dX11_deal_103 rfl ?_
                  refine g_iload_n cx (pc2 := 107) 1 rfl dX11_deal_106 rfl ?_
                  refine g_iload_n cx (pc2 := 108) 2 rfl dX11_deal_107 rfl ?_
                  refine g_iload cx (pc2 := 110) 5 rfl dX11_deal_108 rfl ?_
                  refine g_iload cx (pc2 := 112) 4 rfl dX11_deal_110 rfl ?_
                  refine g_callV cx (pc2 := 115) (st := []) (As := [.int (iI kd), .int (iI h), .int (iI o), .int (iI q)]) (k0 := 63) (ci := 3) (c_X3_enter (M := M) hn (by exact hD) kd h o q (by first | assumption | omega) (by first | assumption | omega) (by first | assumption | omega) (by first | assumption | omega)) wM_X3_enter wV_X3_enter kl_X11_350 rfl (lt_lit hn (Nat.le_of_ble_eq_true rfl)) rfl ⟨rfl, rfl, Nat.le_of_ble_eq_true rfl, Nat.le_of_ble_eq_true rfl⟩ (Nat.le_of_ble_eq_true rfl) cs rfl rfl dX11_deal_112 rfl ?_
                  rintro _ _ ⟨rfl, rfl⟩
                  exact g_iret cx qx dX11_deal_115 ⟨congrArg (fun q => some (Value.int (iI q))) (by unfold deaA; rw [← hoe]; (repeat (first | rw [if_pos (by first | assumption | omega)] | rw [if_neg (by first | assumption | exact not_not_intro (by assumption) | omega)])); first | done | rfl | (symm; assumption)), by unfold deaM; rw [← hoe]; (repeat (first | rw [if_pos (by first | assumption | omega)] | rw [if_neg (by first | assumption | exact not_not_intro (by assumption) | omega)])); first | done | rfl | (symm; assumption)⟩
                · skip
                  refine g_bipush cx (pc2 := 101) ⟨by decide, by decide⟩ dX11_deal_99 rfl ?_
                  exact g_iret cx qx dX11_deal_101 ⟨congrArg (fun q => some (Value.int (iI q))) (by unfold deaA; rw [← hoe]; (repeat (first | rw [if_pos (by first | assumption | omega)] | rw [if_neg (by first | assumption | exact not_not_intro (by assumption) | omega)])); first | done | rfl | (symm; assumption)), by unfold deaM; rw [← hoe]; (repeat (first | rw [if_pos (by first | assumption | omega)] | rw [if_neg (by first | assumption | exact not_not_intro (by assumption) | omega)])); first | done | rfl | (symm; assumption)⟩
              · skip
                refine g_bipush cx (pc2 := 88) ⟨by decide, by decide⟩ dX11_deal_86 rfl ?_
                exact g_iret cx qx dX11_deal_88 ⟨congrArg (fun q => some (Value.int (iI q))) (by unfold deaA; rw [← hoe]; (repeat (first | rw [if_pos (by first | assumption | omega)] | rw [if_neg (by first | assumption | exact not_not_intro (by assumption) | omega)])); first | done | rfl | (symm; assumption)), by unfold deaM; rw [← hoe]; (repeat (first | rw [if_pos (by first | assumption | omega)] | rw [if_neg (by first | assumption | exact not_not_intro (by assumption) | omega)])); first | done | rfl | (symm; assumption)⟩
            by_cases hk0 : kd = 0
            · skip
              refine g_iload_n cx (pc2 := 36) 1 rfl dX11_deal_35 rfl ?_
              refine g_if_ne cx (pc2 := 39) (tgt := 43) (by first | assumption | omega) dX11_deal_36 (by decide) rfl (fun h_8 => ?_) (fun h_8 => ?_)
              · skip
                refine g_iload_n cx (pc2 := 44) 3 rfl dX11_deal_43 rfl ?_
                refine g_istore cx (pc2 := 46) (lv2 := [(0, .ref 0), (1, .int (iI kd)), (2, .int (iI h)), (3, .int (iI k)), (4, .int (iI q)), (5, .int (iI k))]) rfl (Nat.le_of_ble_eq_true rfl) dX11_deal_44 rfl ?_
                refine g_iload_n cx (pc2 := 47) 1 rfl dX11_deal_46 rfl ?_
                refine g_if_eq cx (pc2 := 50) (tgt := 70) (by first | assumption | omega) dX11_deal_47 (by decide) rfl (fun h_9 => ?_) (fun h_9 => ?_)
                · skip
                  exact L70 k (by unfold deO; first | (rw [if_pos (by omega)]; done) | (rw [if_neg (by omega)]; done)) (by omega) (by omega)
                · skip
                  refine g_aload_n cx (pc2 := 51) 0 rfl dX11_deal_50 rfl ?_
                  refine g_get cx (pc2 := 54) (ci := 11) (k0 := 0) (j := 2) (v := .ref 23) rfl iwX11 rfl (lt_lit hn (Nat.le_of_ble_eq_true rfl)) rfl (Nat.le_of_ble_eq_true rfl) kf_X11_21 rfl rfl dX11_deal_51 rfl ?_
                  refine g_iload cx (pc2 := 56) 5 rfl dX11_deal_54 rfl ?_
                  refine g_callV cx (pc2 := 59) (st := []) (As := [.int (iI k)]) (k0 := 23) (ci := 2) (c_X2_isHouse (M := M) hn (by exact Or.inl rfl) (by exact hci.l) k (by first | assumption | omega)) wM_X2_isHouse wV_X2_isHouse kl_X11_170 rfl (lt_lit hn (Nat.le_of_ble_eq_true rfl)) rfl ⟨rfl, rfl, Nat.le_of_ble_eq_true rfl, Nat.le_of_ble_eq_true rfl⟩ (Nat.le_of_ble_eq_true rfl) cs rfl rfl dX11_deal_56 rfl ?_
                  rintro _ _ ⟨rfl, rfl⟩
                  refine g_ifb_eq cx (pc2 := 62) (tgt := 68) dX11_deal_59 (by decide) rfl (fun h_10 => ?_) (fun h_10 => ?_)
                  · skip
                    refine g_iconst cx (pc2 := 69) dX11_deal_68 rfl ?_
                    exact g_iret cx qx dX11_deal_69 ⟨congrArg (fun q => some (Value.int (iI q))) (by unfold deaA; (repeat (first | rw [if_pos (by first | assumption | omega)] | rw [if_neg (by first | assumption | exact not_not_intro (by assumption) | omega)])); first | done | rfl | (symm; assumption)), by unfold deaM; (repeat (first | rw [if_pos (by first | assumption | omega)] | rw [if_neg (by first | assumption | exact not_not_intro (by assumption) | omega)])); first | done | rfl | (symm; assumption)⟩
                  · skip
                    refine g_iload cx (pc2 := 64) 5 rfl dX11_deal_62 rfl ?_
                    refine g_iload_n cx (pc2 := 65) 2 rfl dX11_deal_64 rfl ?_
                    refine g_icmp_ne cx (pc2 := 68) (tgt := 70) ⟨(by first | assumption | omega), (by first | assumption | omega)⟩ dX11_deal_65 (by decide) rfl (fun h_11 => ?_) (fun h_11 => ?_)
                    · skip
                      exact L70 k (by unfold deO; first | (rw [if_pos (by omega)]; done) | (rw [if_neg (by omega)]; done)) (by omega) (by omega)
                    · skip
                      refine g_iconst cx (pc2 := 69) dX11_deal_68 rfl ?_
                      exact g_iret cx qx dX11_deal_69 ⟨congrArg (fun q => some (Value.int (iI q))) (by unfold deaA; (repeat (first | rw [if_pos (by first | assumption | omega)] | rw [if_neg (by first | assumption | exact not_not_intro (by assumption) | omega)])); first | done | rfl | (symm; assumption)), by unfold deaM; (repeat (first | rw [if_pos (by first | assumption | omega)] | rw [if_neg (by first | assumption | exact not_not_intro (by assumption) | omega)])); first | done | rfl | (symm; assumption)⟩
              · skip
                refine g_iload_n cx (pc2 := 40) 2 rfl dX11_deal_39 rfl ?_
                refine g_goto cx (tgt := 44) dX11_deal_40 (by decide) ?_
                refine g_istore cx (pc2 := 46) (lv2 := [(0, .ref 0), (1, .int (iI kd)), (2, .int (iI h)), (3, .int (iI k)), (4, .int (iI q)), (5, .int (iI h))]) rfl (Nat.le_of_ble_eq_true rfl) dX11_deal_44 rfl ?_
                refine g_iload_n cx (pc2 := 47) 1 rfl dX11_deal_46 rfl ?_
                refine g_if_eq cx (pc2 := 50) (tgt := 70) (by first | assumption | omega) dX11_deal_47 (by decide) rfl (fun h_12 => ?_) (fun h_12 => ?_)
                · skip
                  exact L70 h (by unfold deO; first | (rw [if_pos (by omega)]; done) | (rw [if_neg (by omega)]; done)) (by omega) (by omega)
                · skip
                  refine g_aload_n cx (pc2 := 51) 0 rfl dX11_deal_50 rfl ?_
                  refine g_get cx (pc2 := 54) (ci := 11) (k0 := 0) (j := 2) (v := .ref 23) rfl iwX11 rfl (lt_lit hn (Nat.le_of_ble_eq_true rfl)) rfl (Nat.le_of_ble_eq_true rfl) kf_X11_21 rfl rfl dX11_deal_51 rfl ?_
                  refine g_iload cx (pc2 := 56) 5 rfl dX11_deal_54 rfl ?_
                  refine g_callV cx (pc2 := 59) (st := []) (As := [.int (iI h)]) (k0 := 23) (ci := 2) (c_X2_isHouse (M := M) hn (by exact Or.inl rfl) (by exact hci.l) h (by first | assumption | omega)) wM_X2_isHouse wV_X2_isHouse kl_X11_170 rfl (lt_lit hn (Nat.le_of_ble_eq_true rfl)) rfl ⟨rfl, rfl, Nat.le_of_ble_eq_true rfl, Nat.le_of_ble_eq_true rfl⟩ (Nat.le_of_ble_eq_true rfl) cs rfl rfl dX11_deal_56 rfl ?_
                  rintro _ _ ⟨rfl, rfl⟩
                  refine g_ifb_eq cx (pc2 := 62) (tgt := 68) dX11_deal_59 (by decide) rfl (fun h_13 => ?_) (fun h_13 => ?_)
                  · skip
                    refine g_iconst cx (pc2 := 69) dX11_deal_68 rfl ?_
                    exact g_iret cx qx dX11_deal_69 ⟨congrArg (fun q => some (Value.int (iI q))) (by unfold deaA; (repeat (first | rw [if_pos (by first | assumption | omega)] | rw [if_neg (by first | assumption | exact not_not_intro (by assumption) | omega)])); first | done | rfl | (symm; assumption)), by unfold deaM; (repeat (first | rw [if_pos (by first | assumption | omega)] | rw [if_neg (by first | assumption | exact not_not_intro (by assumption) | omega)])); first | done | rfl | (symm; assumption)⟩
                  · skip
                    refine g_iload cx (pc2 := 64) 5 rfl dX11_deal_62 rfl ?_
                    refine g_iload_n cx (pc2 := 65) 2 rfl dX11_deal_64 rfl ?_
                    refine g_icmp_ne cx (pc2 := 68) (tgt := 70) ⟨(by first | assumption | omega), (by first | assumption | omega)⟩ dX11_deal_65 (by decide) rfl (fun h_14 => ?_) (fun h_14 => ?_)
                    · skip
                      exact L70 h (by unfold deO; first | (rw [if_pos (by omega)]; done) | (rw [if_neg (by omega)]; done)) (by omega) (by omega)
                    · skip
                      refine g_iconst cx (pc2 := 69) dX11_deal_68 rfl ?_
                      exact g_iret cx qx dX11_deal_69 ⟨congrArg (fun q => some (Value.int (iI q))) (by unfold deaA; (repeat (first | rw [if_pos (by first | assumption | omega)] | rw [if_neg (by first | assumption | exact not_not_intro (by assumption) | omega)])); first | done | rfl | (symm; assumption)), by unfold deaM; (repeat (first | rw [if_pos (by first | assumption | omega)] | rw [if_neg (by first | assumption | exact not_not_intro (by assumption) | omega)])); first | done | rfl | (symm; assumption)⟩
            · skip
              refine g_iload_n cx (pc2 := 36) 1 rfl dX11_deal_35 rfl ?_
              refine g_if_ne cx (pc2 := 39) (tgt := 43) (by first | assumption | omega) dX11_deal_36 (by decide) rfl (fun h_15 => ?_) (fun h_15 => ?_)
              · skip
                refine g_iload_n cx (pc2 := 44) 3 rfl dX11_deal_43 rfl ?_
                refine g_istore cx (pc2 := 46) (lv2 := [(0, .ref 0), (1, .int (iI kd)), (2, .int (iI h)), (3, .int (iI k)), (4, .int (iI q)), (5, .int (iI k))]) rfl (Nat.le_of_ble_eq_true rfl) dX11_deal_44 rfl ?_
                refine g_iload_n cx (pc2 := 47) 1 rfl dX11_deal_46 rfl ?_
                refine g_if_eq cx (pc2 := 50) (tgt := 70) (by first | assumption | omega) dX11_deal_47 (by decide) rfl (fun h_16 => ?_) (fun h_16 => ?_)
                · skip
                  exact L70 k (by unfold deO; first | (rw [if_pos (by omega)]; done) | (rw [if_neg (by omega)]; done)) (by omega) (by omega)
                · skip
                  refine g_aload_n cx (pc2 := 51) 0 rfl dX11_deal_50 rfl ?_
                  refine g_get cx (pc2 := 54) (ci := 11) (k0 := 0) (j := 2) (v := .ref 23) rfl iwX11 rfl (lt_lit hn (Nat.le_of_ble_eq_true rfl)) rfl (Nat.le_of_ble_eq_true rfl) kf_X11_21 rfl rfl dX11_deal_51 rfl ?_
                  refine g_iload cx (pc2 := 56) 5 rfl dX11_deal_54 rfl ?_
                  refine g_callV cx (pc2 := 59) (st := []) (As := [.int (iI k)]) (k0 := 23) (ci := 2) (c_X2_isHouse (M := M) hn (by exact Or.inl rfl) (by exact hci.l) k (by first | assumption | omega)) wM_X2_isHouse wV_X2_isHouse kl_X11_170 rfl (lt_lit hn (Nat.le_of_ble_eq_true rfl)) rfl ⟨rfl, rfl, Nat.le_of_ble_eq_true rfl, Nat.le_of_ble_eq_true rfl⟩ (Nat.le_of_ble_eq_true rfl) cs rfl rfl dX11_deal_56 rfl ?_
                  rintro _ _ ⟨rfl, rfl⟩
                  refine g_ifb_eq cx (pc2 := 62) (tgt := 68) dX11_deal_59 (by decide) rfl (fun h_17 => ?_) (fun h_17 => ?_)
                  · skip
                    refine g_iconst cx (pc2 := 69) dX11_deal_68 rfl ?_
                    exact g_iret cx qx dX11_deal_69 ⟨congrArg (fun q => some (Value.int (iI q))) (by unfold deaA; (repeat (first | rw [if_pos (by first | assumption | omega)] | rw [if_neg (by first | assumption | exact not_not_intro (by assumption) | omega)])); first | done | rfl | (symm; assumption)), by unfold deaM; (repeat (first | rw [if_pos (by first | assumption | omega)] | rw [if_neg (by first | assumption | exact not_not_intro (by assumption) | omega)])); first | done | rfl | (symm; assumption)⟩
                  · skip
                    refine g_iload cx (pc2 := 64) 5 rfl dX11_deal_62 rfl ?_
                    refine g_iload_n cx (pc2 := 65) 2 rfl dX11_deal_64 rfl ?_
                    refine g_icmp_ne cx (pc2 := 68) (tgt := 70) ⟨(by first | assumption | omega), (by first | assumption | omega)⟩ dX11_deal_65 (by decide) rfl (fun h_18 => ?_) (fun h_18 => ?_)
                    · skip
                      exact L70 k (by unfold deO; first | (rw [if_pos (by omega)]; done) | (rw [if_neg (by omega)]; done)) (by omega) (by omega)
                    · skip
                      refine g_iconst cx (pc2 := 69) dX11_deal_68 rfl ?_
                      exact g_iret cx qx dX11_deal_69 ⟨congrArg (fun q => some (Value.int (iI q))) (by unfold deaA; (repeat (first | rw [if_pos (by first | assumption | omega)] | rw [if_neg (by first | assumption | exact not_not_intro (by assumption) | omega)])); first | done | rfl | (symm; assumption)), by unfold deaM; (repeat (first | rw [if_pos (by first | assumption | omega)] | rw [if_neg (by first | assumption | exact not_not_intro (by assumption) | omega)])); first | done | rfl | (symm; assumption)⟩
              · skip
                refine g_iload_n cx (pc2 := 40) 2 rfl dX11_deal_39 rfl ?_
                refine g_goto cx (tgt := 44) dX11_deal_40 (by decide) ?_
                refine g_istore cx (pc2 := 46) (lv2 := [(0, .ref 0), (1, .int (iI kd)), (2, .int (iI h)), (3, .int (iI k)), (4, .int (iI q)), (5, .int (iI h))]) rfl (Nat.le_of_ble_eq_true rfl) dX11_deal_44 rfl ?_
                refine g_iload_n cx (pc2 := 47) 1 rfl dX11_deal_46 rfl ?_
                refine g_if_eq cx (pc2 := 50) (tgt := 70) (by first | assumption | omega) dX11_deal_47 (by decide) rfl (fun h_19 => ?_) (fun h_19 => ?_)
                · skip
                  exact L70 h (by unfold deO; first | (rw [if_pos (by omega)]; done) | (rw [if_neg (by omega)]; done)) (by omega) (by omega)
                · skip
                  refine g_aload_n cx (pc2 := 51) 0 rfl dX11_deal_50 rfl ?_
                  refine g_get cx (pc2 := 54) (ci := 11) (k0 := 0) (j := 2) (v := .ref 23) rfl iwX11 rfl (lt_lit hn (Nat.le_of_ble_eq_true rfl)) rfl (Nat.le_of_ble_eq_true rfl) kf_X11_21 rfl rfl dX11_deal_51 rfl ?_
                  refine g_iload cx (pc2 := 56) 5 rfl dX11_deal_54 rfl ?_
                  refine g_callV cx (pc2 := 59) (st := []) (As := [.int (iI h)]) (k0 := 23) (ci := 2) (c_X2_isHouse (M := M) hn (by exact Or.inl rfl) (by exact hci.l) h (by first | assumption | omega)) wM_X2_isHouse wV_X2_isHouse kl_X11_170 rfl (lt_lit hn (Nat.le_of_ble_eq_true rfl)) rfl ⟨rfl, rfl, Nat.le_of_ble_eq_true rfl, Nat.le_of_ble_eq_true rfl⟩ (Nat.le_of_ble_eq_true rfl) cs rfl rfl dX11_deal_56 rfl ?_
                  rintro _ _ ⟨rfl, rfl⟩
                  refine g_ifb_eq cx (pc2 := 62) (tgt := 68) dX11_deal_59 (by decide) rfl (fun h_20 => ?_) (fun h_20 => ?_)
                  · skip
                    refine g_iconst cx (pc2 := 69) dX11_deal_68 rfl ?_
                    exact g_iret cx qx dX11_deal_69 ⟨congrArg (fun q => some (Value.int (iI q))) (by unfold deaA; (repeat (first | rw [if_pos (by first | assumption | omega)] | rw [if_neg (by first | assumption | exact not_not_intro (by assumption) | omega)])); first | done | rfl | (symm; assumption)), by unfold deaM; (repeat (first | rw [if_pos (by first | assumption | omega)] | rw [if_neg (by first | assumption | exact not_not_intro (by assumption) | omega)])); first | done | rfl | (symm; assumption)⟩
                  · skip
                    refine g_iload cx (pc2 := 64) 5 rfl dX11_deal_62 rfl ?_
                    refine g_iload_n cx (pc2 := 65) 2 rfl dX11_deal_64 rfl ?_
                    refine g_icmp_ne cx (pc2 := 68) (tgt := 70) ⟨(by first | assumption | omega), (by first | assumption | omega)⟩ dX11_deal_65 (by decide) rfl (fun h_21 => ?_) (fun h_21 => ?_)
                    · skip
                      exact L70 h (by unfold deO; first | (rw [if_pos (by omega)]; done) | (rw [if_neg (by omega)]; done)) (by omega) (by omega)
                    · skip
                      refine g_iconst cx (pc2 := 69) dX11_deal_68 rfl ?_
                      exact g_iret cx qx dX11_deal_69 ⟨congrArg (fun q => some (Value.int (iI q))) (by unfold deaA; (repeat (first | rw [if_pos (by first | assumption | omega)] | rw [if_neg (by first | assumption | exact not_not_intro (by assumption) | omega)])); first | done | rfl | (symm; assumption)), by unfold deaM; (repeat (first | rw [if_pos (by first | assumption | omega)] | rw [if_neg (by first | assumption | exact not_not_intro (by assumption) | omega)])); first | done | rfl | (symm; assumption)⟩
          · skip
            refine g_iconst cx (pc2 := 34) dX11_deal_33 rfl ?_
            exact g_iret cx qx dX11_deal_34 ⟨congrArg (fun q => some (Value.int (iI q))) (by unfold deaA; (repeat (first | rw [if_pos (by first | assumption | omega)] | rw [if_neg (by first | assumption | exact not_not_intro (by assumption) | omega)])); first | done | rfl | (symm; assumption)), by unfold deaM; (repeat (first | rw [if_pos (by first | assumption | omega)] | rw [if_neg (by first | assumption | exact not_not_intro (by assumption) | omega)])); first | done | rfl | (symm; assumption)⟩
set_option maxHeartbeats 4000000 in
set_option maxRecDepth 100000 in
theorem c_X11_undo {n : Nat} (hn : NN n) {M : Mm} (hci : CI M) (q : Int) (hq : ir q) : CT yX11_undo cX11_undo 2 (some .int) ({ frames := 5, cells := 0, slots := 0, locals := 112 }) n [.ref 0, .int (iI q)] M (rI (undA M q) (undM M q)) := by
  refine CT.of (lv0 := [(0, .ref 0), (1, .int (iI q))]) (by decide +kernel) hn (fun _ => rfl) (fun _ => Nat.le_of_ble_eq_true rfl) (fun X cx cs qx => ?_)
  have cx : Cx X cX11_undo RX11 ({ frames := 5, cells := 0, slots := 0, locals := 112 }) 2 n := cx
  have hD := hci.d
  refine g_iload_n cx (pc2 := 1) 1 rfl dX11_undo_0 rfl ?_
  refine g_if_lt cx (pc2 := 4) (tgt := 15) (by first | assumption | omega) dX11_undo_1 (by decide) rfl (fun h_1 => ?_) (fun h_1 => ?_)
  · skip
    refine g_iconst cx (pc2 := 16) dX11_undo_15 rfl ?_
    exact g_iret cx qx dX11_undo_16 ⟨congrArg (fun q => some (Value.int (iI q))) (by unfold undA; (repeat (first | rw [if_pos (by first | assumption | omega)] | rw [if_neg (by first | assumption | exact not_not_intro (by assumption) | omega)])); first | done | rfl | (symm; assumption)), by unfold undM; (repeat (first | rw [if_pos (by first | assumption | omega)] | rw [if_neg (by first | assumption | exact not_not_intro (by assumption) | omega)])); first | done | rfl | (symm; assumption)⟩
  · skip
    refine g_iload_n cx (pc2 := 5) 1 rfl dX11_undo_4 rfl ?_
    refine g_aload_n cx (pc2 := 6) 0 rfl dX11_undo_5 rfl ?_
    refine g_get cx (pc2 := 9) (ci := 11) (k0 := 0) (j := 9) (v := .ref 63) rfl iwX11 rfl (lt_lit hn (Nat.le_of_ble_eq_true rfl)) rfl (Nat.le_of_ble_eq_true rfl) kf_X11_70 rfl rfl dX11_undo_6 rfl ?_
    refine g_getN cx (pc2 := 12) (ci := 3) (k0 := 63) (j := 6) (v := .int (iI (M 63 6))) rfl iwX3 rfl (lt_lit hn (Nat.le_of_ble_eq_true rfl)) rfl (Nat.le_of_ble_eq_true rfl) kf_X11_354 rfl rfl dX11_undo_9 rfl ?_
    refine g_icmp_le cx (pc2 := 15) (tgt := 17) ⟨(by first | assumption | omega), (by first | assumption | omega)⟩ dX11_undo_12 (by decide) rfl (fun h_2 => ?_) (fun h_2 => ?_)
    · skip
      refine g_aload_n cx (pc2 := 18) 0 rfl dX11_undo_17 rfl ?_
      refine g_get cx (pc2 := 21) (ci := 11) (k0 := 0) (j := 9) (v := .ref 63) rfl iwX11 rfl (lt_lit hn (Nat.le_of_ble_eq_true rfl)) rfl (Nat.le_of_ble_eq_true rfl) kf_X11_70 rfl rfl dX11_undo_18 rfl ?_
      refine g_iload_n cx (pc2 := 22) 1 rfl dX11_undo_21 rfl ?_
      refine g_callV cx (pc2 := 25) (st := []) (As := [.int (iI q)]) (k0 := 63) (ci := 3) (c_X3_undoFrom (M := M) hn (by exact hD) q (by first | assumption | omega)) wM_X3_undoFrom wV_X3_undoFrom kl_X11_357 rfl (lt_lit hn (Nat.le_of_ble_eq_true rfl)) rfl ⟨rfl, rfl, Nat.le_of_ble_eq_true rfl, Nat.le_of_ble_eq_true rfl⟩ (Nat.le_of_ble_eq_true rfl) cs rfl rfl dX11_undo_22 rfl ?_
      rintro _ _ ⟨rfl, rfl⟩
      exact g_iret cx qx dX11_undo_25 ⟨congrArg (fun q => some (Value.int (iI q))) (by unfold undA; (repeat (first | rw [if_pos (by first | assumption | omega)] | rw [if_neg (by first | assumption | exact not_not_intro (by assumption) | omega)])); first | done | rfl | (symm; assumption)), by unfold undM; (repeat (first | rw [if_pos (by first | assumption | omega)] | rw [if_neg (by first | assumption | exact not_not_intro (by assumption) | omega)])); first | done | rfl | (symm; assumption)⟩
    · skip
      refine g_iconst cx (pc2 := 16) dX11_undo_15 rfl ?_
      exact g_iret cx qx dX11_undo_16 ⟨congrArg (fun q => some (Value.int (iI q))) (by unfold undA; (repeat (first | rw [if_pos (by first | assumption | omega)] | rw [if_neg (by first | assumption | exact not_not_intro (by assumption) | omega)])); first | done | rfl | (symm; assumption)), by unfold undM; (repeat (first | rw [if_pos (by first | assumption | omega)] | rw [if_neg (by first | assumption | exact not_not_intro (by assumption) | omega)])); first | done | rfl | (symm; assumption)⟩
set_option maxHeartbeats 4000000 in
set_option maxRecDepth 100000 in
theorem c_X11_owes {n : Nat} (hn : NN n) {M : Mm} (hci : CI M) (h k : Int) (hh : ir h) (hk : ir k) : CT yX11_owes cX11_owes 3 (some .int) ({ frames := 2, cells := 0, slots := 0, locals := 42 }) n [.ref 0, .int (iI h), .int (iI k)] M (rI (oweA M h k) M) := by
  refine CT.of (lv0 := [(0, .ref 0), (1, .int (iI h)), (2, .int (iI k))]) (by decide +kernel) hn (fun _ => rfl) (fun _ => Nat.le_of_ble_eq_true rfl) (fun X cx cs qx => ?_)
  have cx : Cx X cX11_owes RX11 ({ frames := 2, cells := 0, slots := 0, locals := 42 }) 3 n := cx
  have hl := hci.l
  refine g_aload_n cx (pc2 := 1) 0 rfl dX11_owes_0 rfl ?_
  refine g_get cx (pc2 := 4) (ci := 11) (k0 := 0) (j := 2) (v := .ref 23) rfl iwX11 rfl (lt_lit hn (Nat.le_of_ble_eq_true rfl)) rfl (Nat.le_of_ble_eq_true rfl) kf_X11_21 rfl rfl dX11_owes_1 rfl ?_
  refine g_iload_n cx (pc2 := 5) 1 rfl dX11_owes_4 rfl ?_
  refine g_callV cx (pc2 := 8) (st := []) (As := [.int (iI h)]) (k0 := 23) (ci := 2) (c_X2_isHouse (M := M) hn (by exact Or.inl rfl) (by first | assumption | omega) h (by first | assumption | omega)) wM_X2_isHouse wV_X2_isHouse kl_X11_170 rfl (lt_lit hn (Nat.le_of_ble_eq_true rfl)) rfl ⟨rfl, rfl, Nat.le_of_ble_eq_true rfl, Nat.le_of_ble_eq_true rfl⟩ (Nat.le_of_ble_eq_true rfl) cs rfl rfl dX11_owes_5 rfl ?_
  rintro _ _ ⟨rfl, rfl⟩
  refine g_ifb_eq cx (pc2 := 11) (tgt := 27) dX11_owes_8 (by decide) rfl (fun h_1 => ?_) (fun h_1 => ?_)
  · skip
    refine g_iconst cx (pc2 := 28) dX11_owes_27 rfl ?_
    exact g_iret cx qx dX11_owes_28 ⟨congrArg (fun q => some (Value.int (iI q))) (by unfold oweA; (repeat (first | rw [if_pos (by first | assumption | omega)] | rw [if_neg (by first | assumption | exact not_not_intro (by assumption) | omega)])); first | done | rfl | (symm; assumption)), by rfl⟩
  · skip
    refine g_aload_n cx (pc2 := 12) 0 rfl dX11_owes_11 rfl ?_
    refine g_get cx (pc2 := 15) (ci := 11) (k0 := 0) (j := 2) (v := .ref 23) rfl iwX11 rfl (lt_lit hn (Nat.le_of_ble_eq_true rfl)) rfl (Nat.le_of_ble_eq_true rfl) kf_X11_21 rfl rfl dX11_owes_12 rfl ?_
    refine g_iload_n cx (pc2 := 16) 2 rfl dX11_owes_15 rfl ?_
    refine g_callV cx (pc2 := 19) (st := []) (As := [.int (iI k)]) (k0 := 23) (ci := 2) (c_X2_isHouse (M := M) hn (by exact Or.inl rfl) (by first | assumption | omega) k (by first | assumption | omega)) wM_X2_isHouse wV_X2_isHouse kl_X11_170 rfl (lt_lit hn (Nat.le_of_ble_eq_true rfl)) rfl ⟨rfl, rfl, Nat.le_of_ble_eq_true rfl, Nat.le_of_ble_eq_true rfl⟩ (Nat.le_of_ble_eq_true rfl) cs rfl rfl dX11_owes_16 rfl ?_
    rintro _ _ ⟨rfl, rfl⟩
    refine g_ifb_eq cx (pc2 := 22) (tgt := 27) dX11_owes_19 (by decide) rfl (fun h_2 => ?_) (fun h_2 => ?_)
    · skip
      refine g_iconst cx (pc2 := 28) dX11_owes_27 rfl ?_
      exact g_iret cx qx dX11_owes_28 ⟨congrArg (fun q => some (Value.int (iI q))) (by unfold oweA; (repeat (first | rw [if_pos (by first | assumption | omega)] | rw [if_neg (by first | assumption | exact not_not_intro (by assumption) | omega)])); first | done | rfl | (symm; assumption)), by rfl⟩
    · skip
      refine g_iload_n cx (pc2 := 23) 1 rfl dX11_owes_22 rfl ?_
      refine g_iload_n cx (pc2 := 24) 2 rfl dX11_owes_23 rfl ?_
      refine g_icmp_ne cx (pc2 := 27) (tgt := 29) ⟨(by first | assumption | omega), (by first | assumption | omega)⟩ dX11_owes_24 (by decide) rfl (fun h_3 => ?_) (fun h_3 => ?_)
      · skip
        refine g_aload_n cx (pc2 := 30) 0 rfl dX11_owes_29 rfl ?_
        refine g_get cx (pc2 := 33) (ci := 11) (k0 := 0) (j := 9) (v := .ref 63) rfl iwX11 rfl (lt_lit hn (Nat.le_of_ble_eq_true rfl)) rfl (Nat.le_of_ble_eq_true rfl) kf_X11_70 rfl rfl dX11_owes_30 rfl ?_
        refine g_iload_n cx (pc2 := 34) 1 rfl dX11_owes_33 rfl ?_
        refine g_iload_n cx (pc2 := 35) 2 rfl dX11_owes_34 rfl ?_
        refine g_callV cx (pc2 := 38) (st := []) (As := [.int (iI h), .int (iI k)]) (k0 := 63) (ci := 3) (c_X3_owedBy (M := M) hn h k (by unfold H8; omega) (by unfold H8; omega)) wM_X3_owedBy wV_X3_owedBy kl_X11_360 rfl (lt_lit hn (Nat.le_of_ble_eq_true rfl)) rfl ⟨rfl, rfl, Nat.le_of_ble_eq_true rfl, Nat.le_of_ble_eq_true rfl⟩ (Nat.le_of_ble_eq_true rfl) cs rfl rfl dX11_owes_35 rfl ?_
        rintro _ _ ⟨rfl, rfl⟩
        exact g_iret cx qx dX11_owes_38 ⟨congrArg (fun q => some (Value.int (iI q))) (by unfold oweA; (repeat (first | rw [if_pos (by first | assumption | omega)] | rw [if_neg (by first | assumption | exact not_not_intro (by assumption) | omega)])); first | done | rfl | (symm; assumption)), by rfl⟩
      · skip
        refine g_iconst cx (pc2 := 28) dX11_owes_27 rfl ?_
        exact g_iret cx qx dX11_owes_28 ⟨congrArg (fun q => some (Value.int (iI q))) (by unfold oweA; (repeat (first | rw [if_pos (by first | assumption | omega)] | rw [if_neg (by first | assumption | exact not_not_intro (by assumption) | omega)])); first | done | rfl | (symm; assumption)), by rfl⟩
set_option maxHeartbeats 4000000 in
set_option maxRecDepth 100000 in
theorem c_X11_rich {n : Nat} (hn : NN n) {M : Mm} (hci : CI M) : CT yX11_rich cX11_rich 3 (some .int) ({ frames := 3, cells := 0, slots := 0, locals := 65 }) n [.ref 0] M (rI (ricA M) (ricM M)) := by
  refine CT.of (lv0 := [(0, .ref 0)]) (by decide +kernel) hn (fun _ => rfl) (fun _ => Nat.le_of_ble_eq_true rfl) (fun X cx cs qx => ?_)
  have cx : Cx X cX11_rich RX11 ({ frames := 3, cells := 0, slots := 0, locals := 65 }) 3 n := cx
  have hl := hci.l
  refine g_aload_n cx (pc2 := 1) 0 rfl dX11_rich_0 rfl ?_
  refine g_get cx (pc2 := 4) (ci := 11) (k0 := 0) (j := 2) (v := .ref 23) rfl iwX11 rfl (lt_lit hn (Nat.le_of_ble_eq_true rfl)) rfl (Nat.le_of_ble_eq_true rfl) kf_X11_21 rfl rfl dX11_rich_1 rfl ?_
  refine g_getN cx (pc2 := 7) (ci := 2) (k0 := 23) (j := 3) (v := .int (iI (M 23 3))) rfl iwX2 rfl (lt_lit hn (Nat.le_of_ble_eq_true rfl)) rfl (Nat.le_of_ble_eq_true rfl) kf_X11_167 rfl rfl dX11_rich_4 rfl ?_
  refine g_if_ne cx (pc2 := 10) (tgt := 13) (by first | assumption | omega) dX11_rich_7 (by decide) rfl (fun h_1 => ?_) (fun h_1 => ?_)
  · skip
    refine g_iconst cx (pc2 := 14) dX11_rich_13 rfl ?_
    refine g_istore_n cx (pc2 := 15) (lv2 := [(0, .ref 0), (1, .int (iI 0))]) rfl (Nat.le_of_ble_eq_true rfl) dX11_rich_14 rfl ?_
    refine g_iconst cx (pc2 := 16) dX11_rich_15 rfl ?_
    refine g_istore_n cx (pc2 := 17) (lv2 := [(0, .ref 0), (1, .int (iI 0)), (2, .int (iI 1))]) rfl (Nat.le_of_ble_eq_true rfl) dX11_rich_16 rfl ?_
    have L17 : ∀ (fu : Nat) (k : Int) (x : Int), (1 ≤ k ∧ k ≤ M 23 3) → (x = rcF M (k.toNat - 1)) → (M 23 3 - k).toNat ≤ fu → G X 17 [(0, .ref 0), (1, .int (iI x)), (2, .int (iI k))] [] M := by
      intro fu
      induction fu using Nat.strongRecOn with
      | _ fu ih17 =>
        intro k x hk hx hk17
        have hkb := rcF_b M (k.toNat - 1)
        rw [← hx] at hkb
        have hr1 := ir_wr (smZ (fun j => M 65 ((j : Int) * 8 + k).toNat) 8)
        have hr2 := ir_wr (smZ (fun j => M 65 ((j : Int) * 8 + x).toNat) 8)
        have hr3 : ir (otV M k) := hr1
        have hr4 : ir (otV M x) := hr2
        have hst : rcF M ((k + 1).toNat - 1) = if otV M x < otV M k then k else x := by rw [show (k + 1).toNat - 1 = (k.toNat - 1) + 1 by omega, rcF, ← hx, show (((k.toNat - 1) + 1 : Nat) : Int) = k by omega]
        refine g_iload_n cx (pc2 := 18) 2 rfl dX11_rich_17 rfl ?_
        refine g_aload_n cx (pc2 := 19) 0 rfl dX11_rich_18 rfl ?_
        refine g_get cx (pc2 := 22) (ci := 11) (k0 := 0) (j := 2) (v := .ref 23) rfl iwX11 rfl (lt_lit hn (Nat.le_of_ble_eq_true rfl)) rfl (Nat.le_of_ble_eq_true rfl) kf_X11_21 rfl rfl dX11_rich_19 rfl ?_
        refine g_getN cx (pc2 := 25) (ci := 2) (k0 := 23) (j := 3) (v := .int (iI (M 23 3))) rfl iwX2 rfl (lt_lit hn (Nat.le_of_ble_eq_true rfl)) rfl (Nat.le_of_ble_eq_true rfl) kf_X11_167 rfl rfl dX11_rich_22 rfl ?_
        refine g_icmp_ge cx (pc2 := 28) (tgt := 55) ⟨(by first | assumption | omega), (by first | assumption | omega)⟩ dX11_rich_25 (by decide) rfl (fun h_2 => ?_) (fun h_2 => ?_)
        · skip
          refine g_aload_n cx (pc2 := 56) 0 rfl dX11_rich_55 rfl ?_
          refine g_aload_n cx (pc2 := 57) 0 rfl dX11_rich_56 rfl ?_
          refine g_get cx (pc2 := 60) (ci := 11) (k0 := 0) (j := 9) (v := .ref 63) rfl iwX11 rfl (lt_lit hn (Nat.le_of_ble_eq_true rfl)) rfl (Nat.le_of_ble_eq_true rfl) kf_X11_70 rfl rfl dX11_rich_57 rfl ?_
          refine g_iload_n cx (pc2 := 61) 1 rfl dX11_rich_60 rfl ?_
          refine g_callV cx (pc2 := 64) (st := [.ref 0]) (As := [.int (iI x)]) (k0 := 63) (ci := 3) (c_X3_owedInAllTo (M := M) hn x (by unfold H8; omega)) wM_X3_owedInAllTo wV_X3_owedInAllTo kl_X11_363 rfl (lt_lit hn (Nat.le_of_ble_eq_true rfl)) rfl ⟨rfl, rfl, Nat.le_of_ble_eq_true rfl, Nat.le_of_ble_eq_true rfl⟩ (Nat.le_of_ble_eq_true rfl) cs rfl rfl dX11_rich_61 rfl ?_
          rintro _ _ ⟨rfl, rfl⟩
          refine g_rwi (y := iI (otV M (x))) ((iI_wr _).symm) ?_
          refine g_puti cx (pc2 := 67) (ci := 11) (k0 := 0) (j := 15) rfl iwX11 rfl (lt_lit hn (Nat.le_of_ble_eq_true rfl)) rfl (Nat.le_of_ble_eq_true rfl) kf_X11_98 rfl tyX11_ok nmX11 rfl rfl dX11_rich_64 rfl ?_
          refine g_iload_n cx (pc2 := 68) 1 rfl dX11_rich_67 rfl ?_
          exact g_iret cx qx dX11_rich_68 ⟨congrArg (fun q => some (Value.int (iI q))) (by unfold ricA ricN; rw [if_neg (by omega), hx, show k = M 23 3 by omega]), by unfold ricM ricN; rw [if_neg (by omega), hx, show k = M 23 3 by omega]; rfl⟩
        · skip
          have L49 : ∀ (x2 : Int), (x2 = rcF M ((k + 1).toNat - 1)) → G X 49 [(0, .ref 0), (1, .int (iI x2)), (2, .int (iI k))] [] M := by
            intro x2 hx2
            refine g_iinc cx (pc2 := 52) 2 rfl (lv2 := [(0, .ref 0), (1, .int (iI x2)), (2, .int (iI (k + 1)))]) rfl (Nat.le_of_ble_eq_true rfl) dX11_rich_49 rfl ?_
            refine g_goto cx (tgt := 17) dX11_rich_52 (by decide) ?_
            exact ih17 ((M 23 3 - (k + 1)).toNat) (by omega) (k + 1) x2 (by first | assumption | omega) (by exact hx2) (Nat.le_refl _)
          refine g_aload_n cx (pc2 := 29) 0 rfl dX11_rich_28 rfl ?_
          refine g_get cx (pc2 := 32) (ci := 11) (k0 := 0) (j := 9) (v := .ref 63) rfl iwX11 rfl (lt_lit hn (Nat.le_of_ble_eq_true rfl)) rfl (Nat.le_of_ble_eq_true rfl) kf_X11_70 rfl rfl dX11_rich_29 rfl ?_
          refine g_iload_n cx (pc2 := 33) 2 rfl dX11_rich_32 rfl ?_
          refine g_callV cx (pc2 := 36) (st := []) (As := [.int (iI k)]) (k0 := 63) (ci := 3) (c_X3_owedInAllTo (M := M) hn k (by unfold H8; omega)) wM_X3_owedInAllTo wV_X3_owedInAllTo kl_X11_363 rfl (lt_lit hn (Nat.le_of_ble_eq_true rfl)) rfl ⟨rfl, rfl, Nat.le_of_ble_eq_true rfl, Nat.le_of_ble_eq_true rfl⟩ (Nat.le_of_ble_eq_true rfl) cs rfl rfl dX11_rich_33 rfl ?_
          rintro _ _ ⟨rfl, rfl⟩
          refine g_rwi (y := iI (otV M (k))) ((iI_wr _).symm) ?_
          refine g_aload_n cx (pc2 := 37) 0 rfl dX11_rich_36 rfl ?_
          refine g_get cx (pc2 := 40) (ci := 11) (k0 := 0) (j := 9) (v := .ref 63) rfl iwX11 rfl (lt_lit hn (Nat.le_of_ble_eq_true rfl)) rfl (Nat.le_of_ble_eq_true rfl) kf_X11_70 rfl rfl dX11_rich_37 rfl ?_
          refine g_iload_n cx (pc2 := 41) 1 rfl dX11_rich_40 rfl ?_
          refine g_callV cx (pc2 := 44) (st := [.int (iI (otV M (k)))]) (As := [.int (iI x)]) (k0 := 63) (ci := 3) (c_X3_owedInAllTo (M := M) hn x (by unfold H8; omega)) wM_X3_owedInAllTo wV_X3_owedInAllTo kl_X11_363 rfl (lt_lit hn (Nat.le_of_ble_eq_true rfl)) rfl ⟨rfl, rfl, Nat.le_of_ble_eq_true rfl, Nat.le_of_ble_eq_true rfl⟩ (Nat.le_of_ble_eq_true rfl) cs rfl rfl dX11_rich_41 rfl ?_
          rintro _ _ ⟨rfl, rfl⟩
          refine g_rwi (y := iI (otV M (x))) ((iI_wr _).symm) ?_
          refine g_icmp_le cx (pc2 := 47) (tgt := 49) ⟨(by first | assumption | omega), (by first | assumption | omega)⟩ dX11_rich_44 (by decide) rfl (fun h_3 => ?_) (fun h_3 => ?_)
          · skip
            exact L49 x (by rw [hst]; first | (rw [if_pos (by omega)]; done) | (rw [if_neg (by omega)]; done))
          · skip
            refine g_iload_n cx (pc2 := 48) 2 rfl dX11_rich_47 rfl ?_
            refine g_istore_n cx (pc2 := 49) (lv2 := [(0, .ref 0), (1, .int (iI k)), (2, .int (iI k))]) rfl (Nat.le_of_ble_eq_true rfl) dX11_rich_48 rfl ?_
            exact L49 k (by rw [hst]; first | (rw [if_pos (by omega)]; done) | (rw [if_neg (by omega)]; done))
    exact L17 _ 1 0 (by first | assumption | omega) (by rfl) (Nat.le_refl _)
  · skip
    refine g_bipush cx (pc2 := 12) ⟨by decide, by decide⟩ dX11_rich_10 rfl ?_
    exact g_iret cx qx dX11_rich_12 ⟨congrArg (fun q => some (Value.int (iI q))) (by unfold ricA; rw [if_pos (by assumption)]), by unfold ricM; rw [if_pos (by assumption)]⟩
set_option maxHeartbeats 4000000 in
set_option maxRecDepth 100000 in
theorem c_X11_pocket {n : Nat} (hn : NN n) {M : Mm} (hci : CI M) (h v : Int) (hh : ir h) (hv : ir v) : CT yX11_pocket cX11_pocket 3 (some .int) ({ frames := 1, cells := 0, slots := 0, locals := 22 }) n [.ref 0, .int (iI h), .int (iI v)] M (rI (pocA M h v) (pocM M h v)) := by
  refine CT.of (lv0 := [(0, .ref 0), (1, .int (iI h)), (2, .int (iI v))]) (by decide +kernel) hn (fun _ => rfl) (fun _ => Nat.le_of_ble_eq_true rfl) (fun X cx cs qx => ?_)
  have cx : Cx X cX11_pocket RX11 ({ frames := 1, cells := 0, slots := 0, locals := 22 }) 3 n := cx
  have hl := hci.l
  have h70 := hci.p70
  refine g_aload_n cx (pc2 := 1) 0 rfl dX11_pocket_0 rfl ?_
  refine g_get cx (pc2 := 4) (ci := 11) (k0 := 0) (j := 2) (v := .ref 23) rfl iwX11 rfl (lt_lit hn (Nat.le_of_ble_eq_true rfl)) rfl (Nat.le_of_ble_eq_true rfl) kf_X11_21 rfl rfl dX11_pocket_1 rfl ?_
  refine g_iload_n cx (pc2 := 5) 1 rfl dX11_pocket_4 rfl ?_
  refine g_callV cx (pc2 := 8) (st := []) (As := [.int (iI h)]) (k0 := 23) (ci := 2) (c_X2_isHouse (M := M) hn (by exact Or.inl rfl) (by exact hl) h (by first | assumption | omega)) wM_X2_isHouse wV_X2_isHouse kl_X11_170 rfl (lt_lit hn (Nat.le_of_ble_eq_true rfl)) rfl ⟨rfl, rfl, Nat.le_of_ble_eq_true rfl, Nat.le_of_ble_eq_true rfl⟩ (Nat.le_of_ble_eq_true rfl) cs rfl rfl dX11_pocket_5 rfl ?_
  rintro _ _ ⟨rfl, rfl⟩
  refine g_ifb_eq cx (pc2 := 11) (tgt := 21) dX11_pocket_8 (by decide) rfl (fun h_1 => ?_) (fun h_1 => ?_)
  · skip
    refine g_iconst cx (pc2 := 22) dX11_pocket_21 rfl ?_
    exact g_iret cx qx dX11_pocket_22 ⟨congrArg (fun q => some (Value.int (iI q))) (by unfold pocA; (repeat (first | rw [if_pos (by first | assumption | omega)] | rw [if_neg (by first | assumption | exact not_not_intro (by assumption) | omega)])); first | done | rfl | (symm; assumption)), by unfold pocM; (repeat (first | rw [if_pos (by first | assumption | omega)] | rw [if_neg (by first | assumption | exact not_not_intro (by assumption) | omega)])); first | done | rfl | (symm; assumption)⟩
  · skip
    refine g_iload_n cx (pc2 := 12) 2 rfl dX11_pocket_11 rfl ?_
    refine g_if_lt cx (pc2 := 15) (tgt := 21) (by first | assumption | omega) dX11_pocket_12 (by decide) rfl (fun h_2 => ?_) (fun h_2 => ?_)
    · skip
      refine g_iconst cx (pc2 := 22) dX11_pocket_21 rfl ?_
      exact g_iret cx qx dX11_pocket_22 ⟨congrArg (fun q => some (Value.int (iI q))) (by unfold pocA; (repeat (first | rw [if_pos (by first | assumption | omega)] | rw [if_neg (by first | assumption | exact not_not_intro (by assumption) | omega)])); first | done | rfl | (symm; assumption)), by unfold pocM; (repeat (first | rw [if_pos (by first | assumption | omega)] | rw [if_neg (by first | assumption | exact not_not_intro (by assumption) | omega)])); first | done | rfl | (symm; assumption)⟩
    · skip
      refine g_iload_n cx (pc2 := 16) 2 rfl dX11_pocket_15 rfl ?_
      refine g_bipush cx (pc2 := 18) ⟨by decide, by decide⟩ dX11_pocket_16 rfl ?_
      refine g_icmp_le cx (pc2 := 21) (tgt := 23) ⟨(by first | assumption | omega), ⟨by decide, by decide⟩⟩ dX11_pocket_18 (by decide) rfl (fun h_3 => ?_) (fun h_3 => ?_)
      · skip
        refine g_aload_n cx (pc2 := 24) 0 rfl dX11_pocket_23 rfl ?_
        refine g_get cx (pc2 := 27) (ci := 11) (k0 := 0) (j := 10) (v := .ref 70) rfl iwX11 rfl (lt_lit hn (Nat.le_of_ble_eq_true rfl)) rfl (Nat.le_of_ble_eq_true rfl) kf_X11_79 rfl rfl dX11_pocket_24 rfl ?_
        refine g_callV cx (pc2 := 30) (st := []) (As := []) (k0 := 70) (ci := 5) (c_X5_isFull (M := M) hn (by exact Or.inl rfl) (by exact h70.1)) wM_X5_isFull wV_X5_isFull kl_X11_366 rfl (lt_lit hn (Nat.le_of_ble_eq_true rfl)) rfl ⟨rfl, rfl, Nat.le_of_ble_eq_true rfl, Nat.le_of_ble_eq_true rfl⟩ (Nat.le_of_ble_eq_true rfl) cs rfl rfl dX11_pocket_27 rfl ?_
        rintro _ _ ⟨rfl, rfl⟩
        refine g_ifb_eq cx (pc2 := 33) (tgt := 36) dX11_pocket_30 (by decide) rfl (fun h_4 => ?_) (fun h_4 => ?_)
        · skip
          refine g_aload_n cx (pc2 := 37) 0 rfl dX11_pocket_36 rfl ?_
          refine g_get cx (pc2 := 40) (ci := 11) (k0 := 0) (j := 10) (v := .ref 70) rfl iwX11 rfl (lt_lit hn (Nat.le_of_ble_eq_true rfl)) rfl (Nat.le_of_ble_eq_true rfl) kf_X11_79 rfl rfl dX11_pocket_37 rfl ?_
          refine g_iload_n cx (pc2 := 41) 1 rfl dX11_pocket_40 rfl ?_
          refine g_iload_n cx (pc2 := 42) 2 rfl dX11_pocket_41 rfl ?_
          refine g_callV cx (pc2 := 45) (st := []) (As := [.int (iI h), .int (iI v)]) (k0 := 70) (ci := 5) (c_X5_add (M := M) hn (by exact Or.inl rfl) (by exact h70.1) h v) wM_X5_add wV_X5_add kl_X11_367 rfl (lt_lit hn (Nat.le_of_ble_eq_true rfl)) rfl ⟨rfl, rfl, Nat.le_of_ble_eq_true rfl, Nat.le_of_ble_eq_true rfl⟩ (Nat.le_of_ble_eq_true rfl) cs rfl rfl dX11_pocket_42 rfl ?_
          rintro _ _ ⟨rfl, rfl⟩
          refine g_aload_n cx (pc2 := 46) 0 rfl dX11_pocket_45 rfl ?_
          refine g_get cx (pc2 := 49) (ci := 11) (k0 := 0) (j := 10) (v := .ref 70) rfl iwX11 rfl (lt_lit hn (Nat.le_of_ble_eq_true rfl)) rfl (Nat.le_of_ble_eq_true rfl) kf_X11_79 rfl rfl dX11_pocket_46 rfl ?_
          refine g_getN cx (pc2 := 52) (ci := 5) (k0 := 70) (j := 2) (v := .int (iI ((adM M 70 h v) 70 2))) rfl iwX5 rfl (lt_lit hn (Nat.le_of_ble_eq_true rfl)) rfl (Nat.le_of_ble_eq_true rfl) kf_X11_370 rfl rfl dX11_pocket_49 rfl ?_
          refine g_rwi (y := iI (M 70 2 + 1)) (congrArg iI (by unfold adM; rw [if_pos (by omega)]; exact stM_at _ _ _ _)) ?_
          exact g_iret cx qx dX11_pocket_52 ⟨congrArg (fun q => some (Value.int (iI q))) (by unfold pocA; (repeat (first | rw [if_pos (by first | assumption | omega)] | rw [if_neg (by first | assumption | exact not_not_intro (by assumption) | omega)])); first | done | rfl | (symm; assumption)), by unfold pocM; (repeat (first | rw [if_pos (by first | assumption | omega)] | rw [if_neg (by first | assumption | exact not_not_intro (by assumption) | omega)])); first | done | rfl | (symm; assumption)⟩
        · skip
          refine g_bipush cx (pc2 := 35) ⟨by decide, by decide⟩ dX11_pocket_33 rfl ?_
          exact g_iret cx qx dX11_pocket_35 ⟨congrArg (fun q => some (Value.int (iI q))) (by unfold pocA; (repeat (first | rw [if_pos (by first | assumption | omega)] | rw [if_neg (by first | assumption | exact not_not_intro (by assumption) | omega)])); first | done | rfl | (symm; assumption)), by unfold pocM; (repeat (first | rw [if_pos (by first | assumption | omega)] | rw [if_neg (by first | assumption | exact not_not_intro (by assumption) | omega)])); first | done | rfl | (symm; assumption)⟩
      · skip
        refine g_iconst cx (pc2 := 22) dX11_pocket_21 rfl ?_
        exact g_iret cx qx dX11_pocket_22 ⟨congrArg (fun q => some (Value.int (iI q))) (by unfold pocA; (repeat (first | rw [if_pos (by first | assumption | omega)] | rw [if_neg (by first | assumption | exact not_not_intro (by assumption) | omega)])); first | done | rfl | (symm; assumption)), by unfold pocM; (repeat (first | rw [if_pos (by first | assumption | omega)] | rw [if_neg (by first | assumption | exact not_not_intro (by assumption) | omega)])); first | done | rfl | (symm; assumption)⟩
set_option maxHeartbeats 4000000 in
set_option maxRecDepth 100000 in
theorem c_X11_find {n : Nat} (hn : NN n) {M : Mm} (hci : CI M) (h : Int) (hh : ir h) : CT yX11_find cX11_find 3 (some .int) ({ frames := 3, cells := 0, slots := 0, locals := 64 }) n [.ref 0, .int (iI h)] M (rI (finA M h) (finM M h)) := by
  refine CT.of (lv0 := [(0, .ref 0), (1, .int (iI h))]) (by decide +kernel) hn (fun _ => rfl) (fun _ => Nat.le_of_ble_eq_true rfl) (fun X cx cs qx => ?_)
  have cx : Cx X cX11_find RX11 ({ frames := 3, cells := 0, slots := 0, locals := 64 }) 3 n := cx
  have hl := hci.l
  have h70 := hci.p70
  have hfv := loM_v M 70 h (M 70 2).toNat
  have hfp : finP M h = loM M 70 h (M 70 2).toNat := rfl
  refine g_aload_n cx (pc2 := 1) 0 rfl dX11_find_0 rfl ?_
  refine g_get cx (pc2 := 4) (ci := 11) (k0 := 0) (j := 2) (v := .ref 23) rfl iwX11 rfl (lt_lit hn (Nat.le_of_ble_eq_true rfl)) rfl (Nat.le_of_ble_eq_true rfl) kf_X11_21 rfl rfl dX11_find_1 rfl ?_
  refine g_iload_n cx (pc2 := 5) 1 rfl dX11_find_4 rfl ?_
  refine g_callV cx (pc2 := 8) (st := []) (As := [.int (iI h)]) (k0 := 23) (ci := 2) (c_X2_isHouse (M := M) hn (by exact Or.inl rfl) (by exact hl) h (by first | assumption | omega)) wM_X2_isHouse wV_X2_isHouse kl_X11_170 rfl (lt_lit hn (Nat.le_of_ble_eq_true rfl)) rfl ⟨rfl, rfl, Nat.le_of_ble_eq_true rfl, Nat.le_of_ble_eq_true rfl⟩ (Nat.le_of_ble_eq_true rfl) cs rfl rfl dX11_find_5 rfl ?_
  rintro _ _ ⟨rfl, rfl⟩
  refine g_ifb_ne cx (pc2 := 11) (tgt := 13) dX11_find_8 (by decide) rfl (fun h_1 => ?_) (fun h_1 => ?_)
  · skip
    refine g_aload_n cx (pc2 := 14) 0 rfl dX11_find_13 rfl ?_
    refine g_get cx (pc2 := 17) (ci := 11) (k0 := 0) (j := 10) (v := .ref 70) rfl iwX11 rfl (lt_lit hn (Nat.le_of_ble_eq_true rfl)) rfl (Nat.le_of_ble_eq_true rfl) kf_X11_79 rfl rfl dX11_find_14 rfl ?_
    refine g_iload_n cx (pc2 := 18) 1 rfl dX11_find_17 rfl ?_
    refine g_callV cx (pc2 := 21) (st := []) (As := [.int (iI h)]) (k0 := 70) (ci := 5) (c_X5_lastOf (M := M) hn (by exact Or.inl rfl) (by exact h70.1) (by intro j; have q : (0 ≤ M 71 j ∧ M 71 j ≤ 7) := (h70.2 j).1; show ir (M 71 j); omega) h (by first | assumption | omega)) wM_X5_lastOf wV_X5_lastOf kl_X11_371 rfl (lt_lit hn (Nat.le_of_ble_eq_true rfl)) rfl ⟨rfl, rfl, Nat.le_of_ble_eq_true rfl, Nat.le_of_ble_eq_true rfl⟩ (Nat.le_of_ble_eq_true rfl) cs rfl rfl dX11_find_18 rfl ?_
    rintro _ _ ⟨rfl, rfl⟩
    refine g_rwi (y := iI (finP M h)) (rfl) ?_
    refine g_istore_n cx (pc2 := 22) (lv2 := [(0, .ref 0), (1, .int (iI h)), (2, .int (iI (finP M h)))]) rfl (Nat.le_of_ble_eq_true rfl) dX11_find_21 rfl ?_
    refine g_iload_n cx (pc2 := 23) 2 rfl dX11_find_22 rfl ?_
    refine g_bipush cx (pc2 := 25) ⟨by decide, by decide⟩ dX11_find_23 rfl ?_
    refine g_icmp_ne cx (pc2 := 28) (tgt := 34) ⟨(by first | assumption | omega), ⟨by decide, by decide⟩⟩ dX11_find_25 (by decide) rfl (fun h_2 => ?_) (fun h_2 => ?_)
    · skip
      refine g_aload_n cx (pc2 := 35) 0 rfl dX11_find_34 rfl ?_
      refine g_aload_n cx (pc2 := 36) 0 rfl dX11_find_35 rfl ?_
      refine g_get cx (pc2 := 39) (ci := 11) (k0 := 0) (j := 10) (v := .ref 70) rfl iwX11 rfl (lt_lit hn (Nat.le_of_ble_eq_true rfl)) rfl (Nat.le_of_ble_eq_true rfl) kf_X11_79 rfl rfl dX11_find_36 rfl ?_
      refine g_iload_n cx (pc2 := 40) 2 rfl dX11_find_39 rfl ?_
      refine g_callV cx (pc2 := 43) (st := [.ref 0]) (As := [.int (iI (finP M h))]) (k0 := 70) (ci := 5) (c_X5_valueOf (M := M) hn (by exact Or.inl rfl) (by exact h70.1) (finP M h) (by first | assumption | omega)) wM_X5_valueOf wV_X5_valueOf kl_X11_374 rfl (lt_lit hn (Nat.le_of_ble_eq_true rfl)) rfl ⟨rfl, rfl, Nat.le_of_ble_eq_true rfl, Nat.le_of_ble_eq_true rfl⟩ (Nat.le_of_ble_eq_true rfl) cs rfl rfl dX11_find_40 rfl ?_
      rintro _ _ ⟨rfl, rfl⟩
      refine g_rwi (y := iI (M 72 (finP M h).toNat)) (congrArg iI (by unfold prM; rw [if_pos (by omega)])) ?_
      refine g_puti cx (pc2 := 46) (ci := 11) (k0 := 0) (j := 15) rfl iwX11 rfl (lt_lit hn (Nat.le_of_ble_eq_true rfl)) rfl (Nat.le_of_ble_eq_true rfl) kf_X11_98 rfl tyX11_ok nmX11 rfl rfl dX11_find_43 rfl ?_
      refine g_M (M2 := (tdM M (M 72 (finP M h).toNat))) (by rfl) ?_
      refine g_aload_n cx (pc2 := 47) 0 rfl dX11_find_46 rfl ?_
      refine g_get cx (pc2 := 50) (ci := 11) (k0 := 0) (j := 10) (v := .ref 70) rfl iwX11 rfl (lt_lit hn (Nat.le_of_ble_eq_true rfl)) rfl (Nat.le_of_ble_eq_true rfl) kf_X11_79 rfl rfl dX11_find_47 rfl ?_
      refine g_iload_n cx (pc2 := 51) 2 rfl dX11_find_50 rfl ?_
      refine g_callV cx (pc2 := 54) (st := []) (As := [.int (iI (finP M h))]) (k0 := 70) (ci := 5) (c_X5_takeOut (M := (tdM M (M 72 (finP M h).toNat))) hn (by exact Or.inl rfl) (by exact h70.1) (finP M h) (by show 0 ≤ finP M h ∧ finP M h < M 70 2; omega)) wM_X5_takeOut wV_X5_takeOut kl_X11_377 rfl (lt_lit hn (Nat.le_of_ble_eq_true rfl)) rfl ⟨rfl, rfl, Nat.le_of_ble_eq_true rfl, Nat.le_of_ble_eq_true rfl⟩ (Nat.le_of_ble_eq_true rfl) cs rfl rfl dX11_find_51 rfl ?_
      rintro _ _ ⟨rfl, rfl⟩
      refine g_aload_n cx (pc2 := 55) 0 rfl dX11_find_54 rfl ?_
      refine g_get cx (pc2 := 58) (ci := 11) (k0 := 0) (j := 10) (v := .ref 70) rfl iwX11 rfl (lt_lit hn (Nat.le_of_ble_eq_true rfl)) rfl (Nat.le_of_ble_eq_true rfl) kf_X11_79 rfl rfl dX11_find_55 rfl ?_
      refine g_getN cx (pc2 := 61) (ci := 5) (k0 := 70) (j := 2) (v := .int (iI ((toM (tdM M (M 72 (finP M h).toNat)) 70 (finP M h)) 70 2))) rfl iwX5 rfl (lt_lit hn (Nat.le_of_ble_eq_true rfl)) rfl (Nat.le_of_ble_eq_true rfl) kf_X11_370 rfl rfl dX11_find_58 rfl ?_
      refine g_rwi (y := iI (M 70 2 - 1)) (congrArg iI (by show stM (toP (tdM M (M 72 (finP M h).toNat)) 70 (finP M h) (tdM M (M 72 (finP M h).toNat) 70 2 - 1)) 70 2 (tdM M (M 72 (finP M h).toNat) 70 2 - 1) 70 2 = M 70 2 - 1; rw [stM_at]; rfl)) ?_
      refine g_iload_n cx (pc2 := 62) 2 rfl dX11_find_61 rfl ?_
      refine g_isub cx (pc2 := 63) dX11_find_62 rfl ?_
      exact g_iret cx qx dX11_find_63 ⟨congrArg (fun q => some (Value.int (iI q))) (by unfold finA; (repeat (first | rw [if_pos (by first | assumption | omega)] | rw [if_neg (by first | assumption | exact not_not_intro (by assumption) | omega)])); first | done | rfl | (symm; assumption)), by unfold finM; (repeat (first | rw [if_pos (by first | assumption | omega)] | rw [if_neg (by first | assumption | exact not_not_intro (by assumption) | omega)])); first | done | rfl | (symm; assumption)⟩
    · skip
      refine g_aload_n cx (pc2 := 29) 0 rfl dX11_find_28 rfl ?_
      refine g_iconst cx (pc2 := 30) dX11_find_29 rfl ?_
      refine g_callV cx (pc2 := 33) (st := []) (As := [.int (iI 1)]) (k0 := 0) (ci := 11) (c_X11_found (M := M) hn 1 (by first | assumption | omega)) wM_X11_found wV_X11_found kl_X11_113 rfl (lt_lit hn (Nat.le_of_ble_eq_true rfl)) rfl ⟨rfl, rfl, Nat.le_of_ble_eq_true rfl, Nat.le_of_ble_eq_true rfl⟩ (Nat.le_of_ble_eq_true rfl) cs rfl rfl dX11_find_30 rfl ?_
      rintro _ _ ⟨rfl, rfl⟩
      exact g_iret cx qx dX11_find_33 ⟨congrArg (fun q => some (Value.int (iI q))) (by unfold finA; (repeat (first | rw [if_pos (by first | assumption | omega)] | rw [if_neg (by first | assumption | exact not_not_intro (by assumption) | omega)])); first | done | rfl | (symm; assumption)), by unfold finM; (repeat (first | rw [if_pos (by first | assumption | omega)] | rw [if_neg (by first | assumption | exact not_not_intro (by assumption) | omega)])); first | done | rfl | (symm; assumption)⟩
  · skip
    refine g_iconst cx (pc2 := 12) dX11_find_11 rfl ?_
    exact g_iret cx qx dX11_find_12 ⟨congrArg (fun q => some (Value.int (iI q))) (by unfold finA; (repeat (first | rw [if_pos (by first | assumption | omega)] | rw [if_neg (by first | assumption | exact not_not_intro (by assumption) | omega)])); first | done | rfl | (symm; assumption)), by unfold finM; (repeat (first | rw [if_pos (by first | assumption | omega)] | rw [if_neg (by first | assumption | exact not_not_intro (by assumption) | omega)])); first | done | rfl | (symm; assumption)⟩
set_option maxHeartbeats 4000000 in
set_option maxRecDepth 100000 in
theorem c_X11_track {n : Nat} (hn : NN n) {M : Mm} (hci : CI M) (h w : Int) (hh : ir h) (hw : ir w) : CT yX11_track cX11_track 3 (some .int) ({ frames := 1, cells := 0, slots := 0, locals := 22 }) n [.ref 0, .int (iI h), .int (iI w)] M (rI (traA M h w) (traM M h w)) := by
  refine CT.of (lv0 := [(0, .ref 0), (1, .int (iI h)), (2, .int (iI w))]) (by decide +kernel) hn (fun _ => rfl) (fun _ => Nat.le_of_ble_eq_true rfl) (fun X cx cs qx => ?_)
  have cx : Cx X cX11_track RX11 ({ frames := 1, cells := 0, slots := 0, locals := 22 }) 3 n := cx
  have hl := hci.l
  have h73 := hci.p73
  refine g_aload_n cx (pc2 := 1) 0 rfl dX11_track_0 rfl ?_
  refine g_get cx (pc2 := 4) (ci := 11) (k0 := 0) (j := 2) (v := .ref 23) rfl iwX11 rfl (lt_lit hn (Nat.le_of_ble_eq_true rfl)) rfl (Nat.le_of_ble_eq_true rfl) kf_X11_21 rfl rfl dX11_track_1 rfl ?_
  refine g_iload_n cx (pc2 := 5) 1 rfl dX11_track_4 rfl ?_
  refine g_callV cx (pc2 := 8) (st := []) (As := [.int (iI h)]) (k0 := 23) (ci := 2) (c_X2_isHouse (M := M) hn (by exact Or.inl rfl) (by exact hl) h (by first | assumption | omega)) wM_X2_isHouse wV_X2_isHouse kl_X11_170 rfl (lt_lit hn (Nat.le_of_ble_eq_true rfl)) rfl ⟨rfl, rfl, Nat.le_of_ble_eq_true rfl, Nat.le_of_ble_eq_true rfl⟩ (Nat.le_of_ble_eq_true rfl) cs rfl rfl dX11_track_5 rfl ?_
  rintro _ _ ⟨rfl, rfl⟩
  refine g_ifb_eq cx (pc2 := 11) (tgt := 18) dX11_track_8 (by decide) rfl (fun h_1 => ?_) (fun h_1 => ?_)
  · skip
    refine g_iconst cx (pc2 := 19) dX11_track_18 rfl ?_
    exact g_iret cx qx dX11_track_19 ⟨congrArg (fun q => some (Value.int (iI q))) (by unfold traA; (repeat (first | rw [if_pos (by first | assumption | omega)] | rw [if_neg (by first | assumption | exact not_not_intro (by assumption) | omega)])); first | done | rfl | (symm; assumption)), by unfold traM; (repeat (first | rw [if_pos (by first | assumption | omega)] | rw [if_neg (by first | assumption | exact not_not_intro (by assumption) | omega)])); first | done | rfl | (symm; assumption)⟩
  · skip
    refine g_iload_n cx (pc2 := 12) 2 rfl dX11_track_11 rfl ?_
    refine g_callS cx (pc2 := 15) (st := []) (As := [.int (iI w)]) (c_X11_isWatch (M := M) hn w (by first | assumption | omega)) wM_X11_isWatch wS_X11_isWatch kl_X11_380 ⟨rfl, rfl, Nat.le_of_ble_eq_true rfl, Nat.le_of_ble_eq_true rfl⟩ (Nat.le_of_ble_eq_true rfl) cs rfl rfl dX11_track_12 rfl ?_
    rintro _ _ ⟨rfl, rfl⟩
    refine g_ifb_ne cx (pc2 := 18) (tgt := 20) dX11_track_15 (by decide) rfl (fun h_2 => ?_) (fun h_2 => ?_)
    · skip
      refine g_aload_n cx (pc2 := 21) 0 rfl dX11_track_20 rfl ?_
      refine g_get cx (pc2 := 24) (ci := 11) (k0 := 0) (j := 11) (v := .ref 73) rfl iwX11 rfl (lt_lit hn (Nat.le_of_ble_eq_true rfl)) rfl (Nat.le_of_ble_eq_true rfl) kf_X11_83 rfl rfl dX11_track_21 rfl ?_
      refine g_callV cx (pc2 := 27) (st := []) (As := []) (k0 := 73) (ci := 5) (c_X5_isFull (M := M) hn (by first | exact Or.inl rfl | exact Or.inr rfl) (by exact h73.1)) wM_X5_isFull wV_X5_isFull kl_X11_366 rfl (lt_lit hn (Nat.le_of_ble_eq_true rfl)) rfl ⟨rfl, rfl, Nat.le_of_ble_eq_true rfl, Nat.le_of_ble_eq_true rfl⟩ (Nat.le_of_ble_eq_true rfl) cs rfl rfl dX11_track_24 rfl ?_
      rintro _ _ ⟨rfl, rfl⟩
      refine g_ifb_eq cx (pc2 := 30) (tgt := 33) dX11_track_27 (by decide) rfl (fun h_3 => ?_) (fun h_3 => ?_)
      · skip
        refine g_aload_n cx (pc2 := 34) 0 rfl dX11_track_33 rfl ?_
        refine g_get cx (pc2 := 37) (ci := 11) (k0 := 0) (j := 11) (v := .ref 73) rfl iwX11 rfl (lt_lit hn (Nat.le_of_ble_eq_true rfl)) rfl (Nat.le_of_ble_eq_true rfl) kf_X11_83 rfl rfl dX11_track_34 rfl ?_
        refine g_iload_n cx (pc2 := 38) 1 rfl dX11_track_37 rfl ?_
        refine g_iload_n cx (pc2 := 39) 2 rfl dX11_track_38 rfl ?_
        refine g_callV cx (pc2 := 42) (st := []) (As := [.int (iI h), .int (iI w)]) (k0 := 73) (ci := 5) (c_X5_add (M := M) hn (by first | exact Or.inl rfl | exact Or.inr rfl) (by exact h73.1) h w) wM_X5_add wV_X5_add kl_X11_367 rfl (lt_lit hn (Nat.le_of_ble_eq_true rfl)) rfl ⟨rfl, rfl, Nat.le_of_ble_eq_true rfl, Nat.le_of_ble_eq_true rfl⟩ (Nat.le_of_ble_eq_true rfl) cs rfl rfl dX11_track_39 rfl ?_
        rintro _ _ ⟨rfl, rfl⟩
        refine g_aload_n cx (pc2 := 43) 0 rfl dX11_track_42 rfl ?_
        refine g_get cx (pc2 := 46) (ci := 11) (k0 := 0) (j := 11) (v := .ref 73) rfl iwX11 rfl (lt_lit hn (Nat.le_of_ble_eq_true rfl)) rfl (Nat.le_of_ble_eq_true rfl) kf_X11_83 rfl rfl dX11_track_43 rfl ?_
        refine g_getN cx (pc2 := 49) (ci := 5) (k0 := 73) (j := 2) (v := .int (iI ((adM M 73 h w) 73 2))) rfl iwX5 rfl (lt_lit hn (Nat.le_of_ble_eq_true rfl)) rfl (Nat.le_of_ble_eq_true rfl) kf_X11_370 rfl rfl dX11_track_46 rfl ?_
        refine g_rwi (y := iI (M 73 2 + 1)) (congrArg iI (by unfold adM; rw [if_pos (by omega)]; exact stM_at _ _ _ _)) ?_
        refine g_iconst cx (pc2 := 50) dX11_track_49 rfl ?_
        refine g_isub cx (pc2 := 51) dX11_track_50 rfl ?_
        refine g_rwi (y := iI (M 73 2)) (congrArg iI (by omega)) ?_
        exact g_iret cx qx dX11_track_51 ⟨congrArg (fun q => some (Value.int (iI q))) (by unfold traA; (repeat (first | rw [if_pos (by first | assumption | omega)] | rw [if_neg (by first | assumption | exact not_not_intro (by assumption) | omega)])); first | done | rfl | (symm; assumption)), by unfold traM; (repeat (first | rw [if_pos (by first | assumption | omega)] | rw [if_neg (by first | assumption | exact not_not_intro (by assumption) | omega)])); first | done | rfl | (symm; assumption)⟩
      · skip
        refine g_bipush cx (pc2 := 32) ⟨by decide, by decide⟩ dX11_track_30 rfl ?_
        exact g_iret cx qx dX11_track_32 ⟨congrArg (fun q => some (Value.int (iI q))) (by unfold traA; (repeat (first | rw [if_pos (by first | assumption | omega)] | rw [if_neg (by first | assumption | exact not_not_intro (by assumption) | omega)])); first | done | rfl | (symm; assumption)), by unfold traM; (repeat (first | rw [if_pos (by first | assumption | omega)] | rw [if_neg (by first | assumption | exact not_not_intro (by assumption) | omega)])); first | done | rfl | (symm; assumption)⟩
    · skip
      refine g_iconst cx (pc2 := 19) dX11_track_18 rfl ?_
      exact g_iret cx qx dX11_track_19 ⟨congrArg (fun q => some (Value.int (iI q))) (by unfold traA; (repeat (first | rw [if_pos (by first | assumption | omega)] | rw [if_neg (by first | assumption | exact not_not_intro (by assumption) | omega)])); first | done | rfl | (symm; assumption)), by unfold traM; (repeat (first | rw [if_pos (by first | assumption | omega)] | rw [if_neg (by first | assumption | exact not_not_intro (by assumption) | omega)])); first | done | rfl | (symm; assumption)⟩
set_option maxHeartbeats 4000000 in
set_option maxRecDepth 100000 in
theorem c_X11_forget {n : Nat} (hn : NN n) {M : Mm} (hci : CI M) (q : Int) (hq : ir q) : CT yX11_forget cX11_forget 3 (some .int) ({ frames := 1, cells := 0, slots := 0, locals := 21 }) n [.ref 0, .int (iI q)] M (rI (forA M q) (forM M q)) := by
  refine CT.of (lv0 := [(0, .ref 0), (1, .int (iI q))]) (by decide +kernel) hn (fun _ => rfl) (fun _ => Nat.le_of_ble_eq_true rfl) (fun X cx cs qx => ?_)
  have cx : Cx X cX11_forget RX11 ({ frames := 1, cells := 0, slots := 0, locals := 21 }) 3 n := cx
  have h73 := hci.p73
  refine g_iload_n cx (pc2 := 1) 1 rfl dX11_forget_0 rfl ?_
  refine g_if_lt cx (pc2 := 4) (tgt := 15) (by first | assumption | omega) dX11_forget_1 (by decide) rfl (fun h_1 => ?_) (fun h_1 => ?_)
  · skip
    refine g_iconst cx (pc2 := 16) dX11_forget_15 rfl ?_
    exact g_iret cx qx dX11_forget_16 ⟨congrArg (fun q => some (Value.int (iI q))) (by unfold forA; (repeat (first | rw [if_pos (by first | assumption | omega)] | rw [if_neg (by first | assumption | exact not_not_intro (by assumption) | omega)])); first | done | rfl | (symm; assumption)), by unfold forM; (repeat (first | rw [if_pos (by first | assumption | omega)] | rw [if_neg (by first | assumption | exact not_not_intro (by assumption) | omega)])); first | done | rfl | (symm; assumption)⟩
  · skip
    refine g_iload_n cx (pc2 := 5) 1 rfl dX11_forget_4 rfl ?_
    refine g_aload_n cx (pc2 := 6) 0 rfl dX11_forget_5 rfl ?_
    refine g_get cx (pc2 := 9) (ci := 11) (k0 := 0) (j := 11) (v := .ref 73) rfl iwX11 rfl (lt_lit hn (Nat.le_of_ble_eq_true rfl)) rfl (Nat.le_of_ble_eq_true rfl) kf_X11_83 rfl rfl dX11_forget_6 rfl ?_
    refine g_getN cx (pc2 := 12) (ci := 5) (k0 := 73) (j := 2) (v := .int (iI (M 73 2))) rfl iwX5 rfl (lt_lit hn (Nat.le_of_ble_eq_true rfl)) rfl (Nat.le_of_ble_eq_true rfl) kf_X11_370 rfl rfl dX11_forget_9 rfl ?_
    refine g_icmp_le cx (pc2 := 15) (tgt := 17) ⟨(by first | assumption | omega), (by first | assumption | omega)⟩ dX11_forget_12 (by decide) rfl (fun h_2 => ?_) (fun h_2 => ?_)
    · skip
      refine g_aload_n cx (pc2 := 18) 0 rfl dX11_forget_17 rfl ?_
      refine g_get cx (pc2 := 21) (ci := 11) (k0 := 0) (j := 11) (v := .ref 73) rfl iwX11 rfl (lt_lit hn (Nat.le_of_ble_eq_true rfl)) rfl (Nat.le_of_ble_eq_true rfl) kf_X11_83 rfl rfl dX11_forget_18 rfl ?_
      refine g_getN cx (pc2 := 24) (ci := 5) (k0 := 73) (j := 2) (v := .int (iI (M 73 2))) rfl iwX5 rfl (lt_lit hn (Nat.le_of_ble_eq_true rfl)) rfl (Nat.le_of_ble_eq_true rfl) kf_X11_370 rfl rfl dX11_forget_21 rfl ?_
      refine g_iload_n cx (pc2 := 25) 1 rfl dX11_forget_24 rfl ?_
      refine g_isub cx (pc2 := 26) dX11_forget_25 rfl ?_
      refine g_istore_n cx (pc2 := 27) (lv2 := [(0, .ref 0), (1, .int (iI q)), (2, .int (iI ((M 73 2) - q)))]) rfl (Nat.le_of_ble_eq_true rfl) dX11_forget_26 rfl ?_
      refine g_aload_n cx (pc2 := 28) 0 rfl dX11_forget_27 rfl ?_
      refine g_get cx (pc2 := 31) (ci := 11) (k0 := 0) (j := 11) (v := .ref 73) rfl iwX11 rfl (lt_lit hn (Nat.le_of_ble_eq_true rfl)) rfl (Nat.le_of_ble_eq_true rfl) kf_X11_83 rfl rfl dX11_forget_28 rfl ?_
      refine g_iload_n cx (pc2 := 32) 1 rfl dX11_forget_31 rfl ?_
      refine g_callV cx (pc2 := 35) (st := []) (As := [.int (iI q)]) (k0 := 73) (ci := 5) (c_X5_cutTo (M := M) hn (by exact Or.inr rfl) (by exact h73.1) q (by first | assumption | omega)) wM_X5_cutTo wV_X5_cutTo kl_X11_164 rfl (lt_lit hn (Nat.le_of_ble_eq_true rfl)) rfl ⟨rfl, rfl, Nat.le_of_ble_eq_true rfl, Nat.le_of_ble_eq_true rfl⟩ (Nat.le_of_ble_eq_true rfl) cs rfl rfl dX11_forget_32 rfl ?_
      rintro _ _ ⟨rfl, rfl⟩
      refine g_M (M2 := (stM M 73 2 q)) (by exact cut_eq (by omega) (by omega)) ?_
      refine g_iload_n cx (pc2 := 36) 2 rfl dX11_forget_35 rfl ?_
      exact g_iret cx qx dX11_forget_36 ⟨congrArg (fun q => some (Value.int (iI q))) (by unfold forA; (repeat (first | rw [if_pos (by first | assumption | omega)] | rw [if_neg (by first | assumption | exact not_not_intro (by assumption) | omega)])); first | done | rfl | (symm; assumption)), by unfold forM; (repeat (first | rw [if_pos (by first | assumption | omega)] | rw [if_neg (by first | assumption | exact not_not_intro (by assumption) | omega)])); first | done | rfl | (symm; assumption)⟩
    · skip
      refine g_iconst cx (pc2 := 16) dX11_forget_15 rfl ?_
      exact g_iret cx qx dX11_forget_16 ⟨congrArg (fun q => some (Value.int (iI q))) (by unfold forA; (repeat (first | rw [if_pos (by first | assumption | omega)] | rw [if_neg (by first | assumption | exact not_not_intro (by assumption) | omega)])); first | done | rfl | (symm; assumption)), by unfold forM; (repeat (first | rw [if_pos (by first | assumption | omega)] | rw [if_neg (by first | assumption | exact not_not_intro (by assumption) | omega)])); first | done | rfl | (symm; assumption)⟩
set_option maxHeartbeats 4000000 in
set_option maxRecDepth 100000 in
theorem c_X11_could {n : Nat} (hn : NN n) {M : Mm} (hci : CI M) (w : Int) (hw : ir w) : CT yX11_could cX11_could 4 (some .int) ({ frames := 5, cells := 0, slots := 0, locals := 112 }) n [.ref 0, .int (iI w)] M (rI (couA M w) M) := by
  refine CT.of (lv0 := [(0, .ref 0), (1, .int (iI w))]) (by decide +kernel) hn (fun _ => rfl) (fun _ => Nat.le_of_ble_eq_true rfl) (fun X cx cs qx => ?_)
  have cx : Cx X cX11_could RX11 ({ frames := 5, cells := 0, slots := 0, locals := 112 }) 4 n := cx
  have hl := hci.l
  have h73 := hci.p73
  refine g_iload_n cx (pc2 := 1) 1 rfl dX11_could_0 rfl ?_
  refine g_callS cx (pc2 := 4) (st := []) (As := [.int (iI w)]) (c_X11_isWatch (M := M) hn w (by first | assumption | omega)) wM_X11_isWatch wS_X11_isWatch kl_X11_380 ⟨rfl, rfl, Nat.le_of_ble_eq_true rfl, Nat.le_of_ble_eq_true rfl⟩ (Nat.le_of_ble_eq_true rfl) cs rfl rfl dX11_could_1 rfl ?_
  rintro _ _ ⟨rfl, rfl⟩
  refine g_ifb_ne cx (pc2 := 7) (tgt := 9) dX11_could_4 (by decide) rfl (fun h_1 => ?_) (fun h_1 => ?_)
  · skip
    refine g_iconst cx (pc2 := 10) dX11_could_9 rfl ?_
    refine g_istore_n cx (pc2 := 11) (lv2 := [(0, .ref 0), (1, .int (iI w)), (2, .int (iI 0))]) rfl (Nat.le_of_ble_eq_true rfl) dX11_could_10 rfl ?_
    refine g_iconst cx (pc2 := 12) dX11_could_11 rfl ?_
    refine g_istore_n cx (pc2 := 13) (lv2 := [(0, .ref 0), (1, .int (iI w)), (2, .int (iI 0)), (3, .int (iI 0))]) rfl (Nat.le_of_ble_eq_true rfl) dX11_could_12 rfl ?_
    have L13 : ∀ (fu : Nat) (h : Int) (s : Int), (0 ≤ h ∧ h ≤ M 23 3) → (s = ((bsum (couB M w) h.toNat : Nat) : Int)) → (M 23 3 - h).toNat ≤ fu → G X 13 [(0, .ref 0), (1, .int (iI w)), (2, .int (iI s)), (3, .int (iI h))] [] M := by
      intro fu
      induction fu using Nat.strongRecOn with
      | _ fu ih13 =>
        intro h s hh hs hk13
        have hbb := bsum_255 (couB M w) (k := h.toNat) (by omega)
        have hcb : couB M w h.toNat = decide (agP M h w (M 73 2).toNat) := by unfold couB; rw [Int.toNat_of_nonneg hh.1]
        refine g_iload_n cx (pc2 := 14) 3 rfl dX11_could_13 rfl ?_
        refine g_aload_n cx (pc2 := 15) 0 rfl dX11_could_14 rfl ?_
        refine g_get cx (pc2 := 18) (ci := 11) (k0 := 0) (j := 2) (v := .ref 23) rfl iwX11 rfl (lt_lit hn (Nat.le_of_ble_eq_true rfl)) rfl (Nat.le_of_ble_eq_true rfl) kf_X11_21 rfl rfl dX11_could_15 rfl ?_
        refine g_getN cx (pc2 := 21) (ci := 2) (k0 := 23) (j := 3) (v := .int (iI (M 23 3))) rfl iwX2 rfl (lt_lit hn (Nat.le_of_ble_eq_true rfl)) rfl (Nat.le_of_ble_eq_true rfl) kf_X11_167 rfl rfl dX11_could_18 rfl ?_
        refine g_icmp_ge cx (pc2 := 24) (tgt := 53) ⟨(by first | assumption | omega), (by first | assumption | omega)⟩ dX11_could_21 (by decide) rfl (fun h_2 => ?_) (fun h_2 => ?_)
        · skip
          refine g_iload_n cx (pc2 := 54) 2 rfl dX11_could_53 rfl ?_
          exact g_iret cx qx dX11_could_54 ⟨congrArg (fun q => some (Value.int (iI q))) (by unfold couA; rw [if_neg (not_not_intro (by assumption)), hs, show h = M 23 3 by omega]), by rfl⟩
        · skip
          have L47 : ∀ (s2 : Int), (s2 = ((bsum (couB M w) (h + 1).toNat : Nat) : Int)) → G X 47 [(0, .ref 0), (1, .int (iI w)), (2, .int (iI s2)), (3, .int (iI h))] [] M := by
            intro s2 hs2
            refine g_iinc cx (pc2 := 50) 3 rfl (lv2 := [(0, .ref 0), (1, .int (iI w)), (2, .int (iI s2)), (3, .int (iI (h + 1)))]) rfl (Nat.le_of_ble_eq_true rfl) dX11_could_47 rfl ?_
            refine g_goto cx (tgt := 13) dX11_could_50 (by decide) ?_
            exact ih13 ((M 23 3 - (h + 1)).toNat) (by omega) (h + 1) s2 (by first | assumption | omega) (by exact hs2) (Nat.le_refl _)
          refine g_aload_n cx (pc2 := 25) 0 rfl dX11_could_24 rfl ?_
          refine g_iload_n cx (pc2 := 26) 3 rfl dX11_could_25 rfl ?_
          refine g_iload_n cx (pc2 := 27) 1 rfl dX11_could_26 rfl ?_
          refine g_aload_n cx (pc2 := 28) 0 rfl dX11_could_27 rfl ?_
          refine g_get cx (pc2 := 31) (ci := 11) (k0 := 0) (j := 11) (v := .ref 73) rfl iwX11 rfl (lt_lit hn (Nat.le_of_ble_eq_true rfl)) rfl (Nat.le_of_ble_eq_true rfl) kf_X11_83 rfl rfl dX11_could_28 rfl ?_
          refine g_getN cx (pc2 := 34) (ci := 5) (k0 := 73) (j := 2) (v := .int (iI (M 73 2))) rfl iwX5 rfl (lt_lit hn (Nat.le_of_ble_eq_true rfl)) rfl (Nat.le_of_ble_eq_true rfl) kf_X11_370 rfl rfl dX11_could_31 rfl ?_
          refine g_callV cx (pc2 := 37) (st := []) (As := [.int (iI h), .int (iI w), .int (iI (M 73 2))]) (k0 := 0) (ci := 11) (c_X11_agreesWithTracks (M := M) hn (by exact hci) h w (M 73 2) (by first | assumption | omega) (by first | assumption | omega) (by first | assumption | omega)) wM_X11_agreesWithTracks wV_X11_agreesWithTracks kl_X11_383 rfl (lt_lit hn (Nat.le_of_ble_eq_true rfl)) rfl ⟨rfl, rfl, Nat.le_of_ble_eq_true rfl, Nat.le_of_ble_eq_true rfl⟩ (Nat.le_of_ble_eq_true rfl) cs rfl rfl dX11_could_34 rfl ?_
          rintro _ _ ⟨rfl, rfl⟩
          refine g_ifb_eq cx (pc2 := 40) (tgt := 47) dX11_could_37 (by decide) rfl (fun h_3 => ?_) (fun h_3 => ?_)
          · skip
            exact L47 s (by rw [hs]; first | (rw [Int.toNat_natCast, or_step (couB M w) hh.1 (by omega) (by rw [hcb]; exact decide_eq_true (by assumption))]; done) | (rw [or_skip (couB M w) hh.1 (by rw [hcb]; exact decide_eq_false (by assumption))]; done))
          · skip
            refine g_iload_n cx (pc2 := 41) 2 rfl dX11_could_40 rfl ?_
            refine g_iload_n cx (pc2 := 42) 3 rfl dX11_could_41 rfl ?_
            refine g_callS cx (pc2 := 45) (st := [.int (iI s)]) (As := [.int (iI h)]) (c_X11_bit (M := M) hn h (by first | assumption | omega)) wM_X11_bit wS_X11_bit kl_X11_269 ⟨rfl, rfl, Nat.le_of_ble_eq_true rfl, Nat.le_of_ble_eq_true rfl⟩ (Nat.le_of_ble_eq_true rfl) cs rfl rfl dX11_could_42 rfl ?_
            rintro _ _ ⟨rfl, rfl⟩
            refine g_ior cx (pc2 := 46) dX11_could_45 rfl ?_
            refine g_rwi (y := iI ((s.toNat ||| bitN h : Nat) : Int)) (or_iI (by omega) (by omega)) ?_
            refine g_istore_n cx (pc2 := 47) (lv2 := [(0, .ref 0), (1, .int (iI w)), (2, .int (iI ((s.toNat ||| bitN h : Nat) : Int))), (3, .int (iI h))]) rfl (Nat.le_of_ble_eq_true rfl) dX11_could_46 rfl ?_
            exact L47 ((s.toNat ||| bitN h : Nat) : Int) (by rw [hs]; first | (rw [Int.toNat_natCast, or_step (couB M w) hh.1 (by omega) (by rw [hcb]; exact decide_eq_true (by assumption))]; done) | (rw [or_skip (couB M w) hh.1 (by rw [hcb]; exact decide_eq_false (by assumption))]; done))
    exact L13 _ 0 0 (by first | assumption | omega) (by rfl) (Nat.le_refl _)
  · skip
    refine g_iconst cx (pc2 := 8) dX11_could_7 rfl ?_
    exact g_iret cx qx dX11_could_8 ⟨congrArg (fun q => some (Value.int (iI q))) (by unfold couA; rw [if_pos (by assumption)]), by rfl⟩
set_option maxHeartbeats 4000000 in
set_option maxRecDepth 100000 in
theorem c_X11_liar {n : Nat} (hn : NN n) {M : Mm} (hci : CI M) : CT yX11_liar cX11_liar 2 (some .int) ({ frames := 5, cells := 0, slots := 0, locals := 112 }) n [.ref 0] M (rI (liaA M) M) := by
  refine CT.of (lv0 := [(0, .ref 0)]) (by decide +kernel) hn (fun _ => rfl) (fun _ => Nat.le_of_ble_eq_true rfl) (fun X cx cs qx => ?_)
  have cx : Cx X cX11_liar RX11 ({ frames := 5, cells := 0, slots := 0, locals := 112 }) 2 n := cx
  have hl := hci.l
  have h73 := hci.p73
  refine g_iconst cx (pc2 := 1) dX11_liar_0 rfl ?_
  refine g_istore_n cx (pc2 := 2) (lv2 := [(0, .ref 0), (1, .int (iI 0))]) rfl (Nat.le_of_ble_eq_true rfl) dX11_liar_1 rfl ?_
  have L2 : ∀ (fu : Nat) (i : Int), (0 ≤ i ∧ i ≤ M 73 2) → (liaA M = lrF M (M 73 2 - i).toNat i.toNat) → (M 73 2 - i).toNat ≤ fu → G X 2 [(0, .ref 0), (1, .int (iI i))] [] M := by
    intro fu
    induction fu using Nat.strongRecOn with
    | _ fu ih2 =>
      intro i hi hx hk2
      have hpi : (0 ≤ M 74 i.toNat ∧ M 74 i.toNat ≤ 7) ∧ (0 ≤ M 75 i.toNat ∧ M 75 i.toNat ≤ 99) := h73.2 i.toNat
      have hst : ∀ z : Int, z = i → i < M 73 2 → lrF M (M 73 2 - i).toNat i.toNat = if agP M (M 74 i.toNat) (M 75 i.toNat) i.toNat then lrF M (M 73 2 - (i + 1)).toNat (i.toNat + 1) else (i.toNat : Int) := fun z _ q => by rw [show (M 73 2 - i).toNat = (M 73 2 - (i + 1)).toNat + 1 by omega, lrF]
      refine g_iload_n cx (pc2 := 3) 1 rfl dX11_liar_2 rfl ?_
      refine g_aload_n cx (pc2 := 4) 0 rfl dX11_liar_3 rfl ?_
      refine g_get cx (pc2 := 7) (ci := 11) (k0 := 0) (j := 11) (v := .ref 73) rfl iwX11 rfl (lt_lit hn (Nat.le_of_ble_eq_true rfl)) rfl (Nat.le_of_ble_eq_true rfl) kf_X11_83 rfl rfl dX11_liar_4 rfl ?_
      refine g_getN cx (pc2 := 10) (ci := 5) (k0 := 73) (j := 2) (v := .int (iI (M 73 2))) rfl iwX5 rfl (lt_lit hn (Nat.le_of_ble_eq_true rfl)) rfl (Nat.le_of_ble_eq_true rfl) kf_X11_370 rfl rfl dX11_liar_7 rfl ?_
      refine g_icmp_ge cx (pc2 := 13) (tgt := 45) ⟨(by first | assumption | omega), (by first | assumption | omega)⟩ dX11_liar_10 (by decide) rfl (fun h_1 => ?_) (fun h_1 => ?_)
      · skip
        refine g_bipush cx (pc2 := 47) ⟨by decide, by decide⟩ dX11_liar_45 rfl ?_
        exact g_iret cx qx dX11_liar_47 ⟨congrArg (fun q => some (Value.int (iI q))) (by rw [hx, show (M 73 2 - i).toNat = 0 by omega]; rfl), by rfl⟩
      · skip
        refine g_aload_n cx (pc2 := 14) 0 rfl dX11_liar_13 rfl ?_
        refine g_aload_n cx (pc2 := 15) 0 rfl dX11_liar_14 rfl ?_
        refine g_get cx (pc2 := 18) (ci := 11) (k0 := 0) (j := 11) (v := .ref 73) rfl iwX11 rfl (lt_lit hn (Nat.le_of_ble_eq_true rfl)) rfl (Nat.le_of_ble_eq_true rfl) kf_X11_83 rfl rfl dX11_liar_15 rfl ?_
        refine g_iload_n cx (pc2 := 19) 1 rfl dX11_liar_18 rfl ?_
        refine g_callV cx (pc2 := 22) (st := [.ref 0]) (As := [.int (iI i)]) (k0 := 73) (ci := 5) (c_X5_houseOf (M := M) hn (by exact Or.inr rfl) (by exact h73.1) i (by first | assumption | omega)) wM_X5_houseOf wV_X5_houseOf kl_X11_387 rfl (lt_lit hn (Nat.le_of_ble_eq_true rfl)) rfl ⟨rfl, rfl, Nat.le_of_ble_eq_true rfl, Nat.le_of_ble_eq_true rfl⟩ (Nat.le_of_ble_eq_true rfl) cs rfl rfl dX11_liar_19 rfl ?_
        rintro _ _ ⟨rfl, rfl⟩
        refine g_rwi (y := iI (M 74 i.toNat)) (congrArg iI (by unfold prM; rw [if_pos (by omega)])) ?_
        refine g_aload_n cx (pc2 := 23) 0 rfl dX11_liar_22 rfl ?_
        refine g_get cx (pc2 := 26) (ci := 11) (k0 := 0) (j := 11) (v := .ref 73) rfl iwX11 rfl (lt_lit hn (Nat.le_of_ble_eq_true rfl)) rfl (Nat.le_of_ble_eq_true rfl) kf_X11_83 rfl rfl dX11_liar_23 rfl ?_
        refine g_iload_n cx (pc2 := 27) 1 rfl dX11_liar_26 rfl ?_
        refine g_callV cx (pc2 := 30) (st := [.int (iI (M 74 i.toNat)), .ref 0]) (As := [.int (iI i)]) (k0 := 73) (ci := 5) (c_X5_valueOf (M := M) hn (by exact Or.inr rfl) (by exact h73.1) i (by first | assumption | omega)) wM_X5_valueOf wV_X5_valueOf kl_X11_374 rfl (lt_lit hn (Nat.le_of_ble_eq_true rfl)) rfl ⟨rfl, rfl, Nat.le_of_ble_eq_true rfl, Nat.le_of_ble_eq_true rfl⟩ (Nat.le_of_ble_eq_true rfl) cs rfl rfl dX11_liar_27 rfl ?_
        rintro _ _ ⟨rfl, rfl⟩
        refine g_rwi (y := iI (M 75 i.toNat)) (congrArg iI (by unfold prM; rw [if_pos (by omega)])) ?_
        refine g_iload_n cx (pc2 := 31) 1 rfl dX11_liar_30 rfl ?_
        refine g_callV cx (pc2 := 34) (st := []) (As := [.int (iI (M 74 i.toNat)), .int (iI (M 75 i.toNat)), .int (iI i)]) (k0 := 0) (ci := 11) (c_X11_agreesWithTracks (M := M) hn (by exact hci) (M 74 i.toNat) (M 75 i.toNat) i (by first | assumption | omega) (by first | assumption | omega) (by first | assumption | omega)) wM_X11_agreesWithTracks wV_X11_agreesWithTracks kl_X11_383 rfl (lt_lit hn (Nat.le_of_ble_eq_true rfl)) rfl ⟨rfl, rfl, Nat.le_of_ble_eq_true rfl, Nat.le_of_ble_eq_true rfl⟩ (Nat.le_of_ble_eq_true rfl) cs rfl rfl dX11_liar_31 rfl ?_
        rintro _ _ ⟨rfl, rfl⟩
        refine g_ifb_ne cx (pc2 := 37) (tgt := 39) dX11_liar_34 (by decide) rfl (fun h_2 => ?_) (fun h_2 => ?_)
        · skip
          have hag := eq_true h_2
          clear h_2
          refine g_iinc cx (pc2 := 42) 1 rfl (lv2 := [(0, .ref 0), (1, .int (iI (i + 1)))]) rfl (Nat.le_of_ble_eq_true rfl) dX11_liar_39 rfl ?_
          refine g_goto cx (tgt := 2) dX11_liar_42 (by decide) ?_
          exact ih2 ((M 73 2 - (i + 1)).toNat) (by omega) (i + 1) (by first | assumption | omega) (by rw [hx, hst i rfl (by omega), if_pos (of_eq_true hag), show (i + 1).toNat = i.toNat + 1 by omega]) (Nat.le_refl _)
        · skip
          refine g_iload_n cx (pc2 := 38) 1 rfl dX11_liar_37 rfl ?_
          exact g_iret cx qx dX11_liar_38 ⟨congrArg (fun q => some (Value.int (iI q))) (by rw [hx, hst i rfl (by omega), if_neg (by assumption), Int.toNat_of_nonneg hi.1]), by rfl⟩
  exact L2 _ 0 (by first | assumption | omega) (by unfold liaA; rw [Int.sub_zero]; rfl) (Nat.le_refl _)
