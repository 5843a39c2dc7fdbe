def qI (z : Int) (w0 : va_W) : Option Value → va_W → Prop := fun r w => r = some (.int (iI z)) ∧ w = w0
def qV (w0 : va_W) : Option Value → va_W → Prop := fun r w => r = none ∧ w = w0
theorem l_ctI {X : Yq} {cc : ByteArray} {own : String} {R0 : Room} {nL : Nat} {P0 : Pl} (cx : Yx X cc own R0 nL P0) {pc pc2 : Nat} {lv : List (Nat × Value)} {st : List Value} {w : va_W} {cs ss : Nat} {P1 : Pl} (ys : Ys X P1) {n : Nat} (hn : NN n) {M M2 : Mm} {z : Int} {y : MethodName} {b : ByteArray} {mL cnt idx : Nat} {rt : Option FieldType} {rm : Room} {As st0 : List Value} (hC : CT y b mL rt rm n (.ref 0 :: As) M (rI z M2)) (hw : wM y b mL rt cnt) (hv : wV y) (hcl : y.cls = RX11) (hl0 : Cond.methodLink own idx y ∈ gw) (hrm : rm.cells = 0 ∧ rm.slots = 0 ∧ rm.frames + 1 ≤ R0.frames ∧ 8 + (mL + 11) + rm.locals ≤ R0.locals) (hcat : (st.map fun v => v.category).sum ≤ 8) (hcs : cs ≤ R0.cells ∧ ss ≤ R0.slots) (hcnt : As.length = cnt) (hAs : As.map (cz P1) = As) (hst : st0 = As.reverse ++ .ref (P1.2.1 0) :: st) (hd : decode cc pc = .ok (.invokevirtual idx, 3)) (hp : pc + 3 = pc2) (k : YG X pc2 lv (.int (iI z) :: st) (wld P1 n M2 ++ w) cs ss) : YG X pc lv st0 (wld P1 n M ++ w) cs ss :=
  y_ctV cx ys hn hC hw hv hcl hl0 hrm hcat hcs hcnt (by rw [hAs]; exact hst) hd hp (by rintro _ _ ⟨rfl, rfl⟩; exact k)
theorem l_ctL {X : Yq} {cc : ByteArray} {own : String} {R0 : Room} {nL : Nat} {P0 : Pl} (cx : Yx X cc own R0 nL P0) {pc pc2 : Nat} {lv : List (Nat × Value)} {st : List Value} {w : va_W} {cs ss : Nat} {P1 : Pl} (ys : Ys X P1) {n : Nat} (hn : NN n) {M M2 : Mm} {z : Int} {y : MethodName} {b : ByteArray} {mL cnt idx : Nat} {rt : Option FieldType} {rm : Room} {As st0 : List Value} (hC : CT y b mL rt rm n (.ref 0 :: As) M (rL z M2)) (hw : wM y b mL rt cnt) (hv : wV y) (hcl : y.cls = RX11) (hl0 : Cond.methodLink own idx y ∈ gw) (hrm : rm.cells = 0 ∧ rm.slots = 0 ∧ rm.frames + 1 ≤ R0.frames ∧ 8 + (mL + 11) + rm.locals ≤ R0.locals) (hcat : (st.map fun v => v.category).sum ≤ 8) (hcs : cs ≤ R0.cells ∧ ss ≤ R0.slots) (hcnt : As.length = cnt) (hAs : As.map (cz P1) = As) (hst : st0 = As.reverse ++ .ref (P1.2.1 0) :: st) (hd : decode cc pc = .ok (.invokevirtual idx, 3)) (hp : pc + 3 = pc2) (k : YG X pc2 lv (.long (lI z) :: st) (wld P1 n M2 ++ w) cs ss) : YG X pc lv st0 (wld P1 n M ++ w) cs ss :=
  y_ctV cx ys hn hC hw hv hcl hl0 hrm hcat hcs hcnt (by rw [hAs]; exact hst) hd hp (by rintro _ _ ⟨rfl, rfl⟩; exact k)
theorem l_ctP {X : Yq} {cc : ByteArray} {own : String} {R0 : Room} {nL : Nat} {P0 : Pl} (cx : Yx X cc own R0 nL P0) {pc pc2 : Nat} {lv : List (Nat × Value)} {st : List Value} {w : va_W} {cs ss : Nat} {P1 : Pl} (ys : Ys X P1) {n : Nat} (hn : NN n) {M : Mm} {rel : Int → Mm → Prop} {y : MethodName} {b : ByteArray} {mL cnt idx : Nat} {rt : Option FieldType} {rm : Room} {As st0 : List Value} (hC : CT y b mL rt rm n (.ref 0 :: As) M (pI rel)) (hw : wM y b mL rt cnt) (hv : wV y) (hcl : y.cls = RX11) (hl0 : Cond.methodLink own idx y ∈ gw) (hrm : rm.cells = 0 ∧ rm.slots = 0 ∧ rm.frames + 1 ≤ R0.frames ∧ 8 + (mL + 11) + rm.locals ≤ R0.locals) (hcat : (st.map fun v => v.category).sum ≤ 8) (hcs : cs ≤ R0.cells ∧ ss ≤ R0.slots) (hcnt : As.length = cnt) (hAs : As.map (cz P1) = As) (hst : st0 = As.reverse ++ .ref (P1.2.1 0) :: st) (hd : decode cc pc = .ok (.invokevirtual idx, 3)) (hp : pc + 3 = pc2) (k : ∀ (z : Int) (M2 : Mm), rel z M2 → YG X pc2 lv (.int (iI z) :: st) (wld P1 n M2 ++ w) cs ss) : YG X pc lv st0 (wld P1 n M ++ w) cs ss :=
  y_ctV cx ys hn hC hw hv hcl hl0 hrm hcat hcs hcnt (by rw [hAs]; exact hst) hd hp (by rintro _ M2 ⟨z, rfl, hz⟩; exact k z M2 hz)
theorem l_clI {X : Yq} {cc : ByteArray} {own : String} {R0 : Room} {nL : Nat} {P0 : Pl} (cx : Yx X cc own R0 nL P0) {pc pc2 : Nat} {lv : List (Nat × Value)} {st : List Value} {w : va_W} {cs ss : Nat} {P1 : Pl} (ys : Ys X P1) {b L : Nat} {xs : Nat → Int32} (sx : Sy X b L xs) {y : MethodName} {bb : ByteArray} {mL cnt idx : Nat} {rt : Option FieldType} {rm : Room} {z : Int} {w2 : va_W} {As st0 : List Value} (hC : CLW P1 b L xs y bb mL rt rm 0 0 As w (qI z w2)) (hw : wM y bb mL rt cnt) (hv : Cond.static y ∈ gw) (hl0 : Cond.methodLink own idx y ∈ gw) (hrm : rm.cells = 0 ∧ rm.slots = 0 ∧ rm.frames + 1 ≤ R0.frames ∧ 8 + (mL + 11) + rm.locals ≤ R0.locals) (hcat : (st.map fun v => v.category).sum ≤ 8) (hcs : cs ≤ R0.cells ∧ ss ≤ R0.slots) (hcnt : As.length = cnt) (hst : st0 = As.reverse ++ st) (hd : decode cc pc = .ok (.invokestatic idx, 3)) (hp : pc + 3 = pc2) (k : YG X pc2 lv (.int (iI z) :: st) w2 cs ss) : YG X pc lv st0 w cs ss :=
  l_callS cx ys sx hC hw hv hl0 hrm hcat hcs hcnt hst hd hp (by rintro _ _ ⟨rfl, rfl⟩; exact k)
theorem l_clV {X : Yq} {cc : ByteArray} {own : String} {R0 : Room} {nL : Nat} {P0 : Pl} (cx : Yx X cc own R0 nL P0) {pc pc2 : Nat} {lv : List (Nat × Value)} {st : List Value} {w : va_W} {cs ss : Nat} {P1 : Pl} (ys : Ys X P1) {b L : Nat} {xs : Nat → Int32} (sx : Sy X b L xs) {y : MethodName} {bb : ByteArray} {mL cnt idx : Nat} {rt : Option FieldType} {rm : Room} {w2 : va_W} {As st0 : List Value} (hC : CLW P1 b L xs y bb mL rt rm 0 0 As w (qV w2)) (hw : wM y bb mL rt cnt) (hv : Cond.static y ∈ gw) (hl0 : Cond.methodLink own idx y ∈ gw) (hrm : rm.cells = 0 ∧ rm.slots = 0 ∧ rm.frames + 1 ≤ R0.frames ∧ 8 + (mL + 11) + rm.locals ≤ R0.locals) (hcat : (st.map fun v => v.category).sum ≤ 8) (hcs : cs ≤ R0.cells ∧ ss ≤ R0.slots) (hcnt : As.length = cnt) (hst : st0 = As.reverse ++ st) (hd : decode cc pc = .ok (.invokestatic idx, 3)) (hp : pc + 3 = pc2) (k : YG X pc2 lv st w2 cs ss) : YG X pc lv st0 w cs ss :=
  l_callS cx ys sx hC hw hv hl0 hrm hcat hcs hcnt hst hd hp (by rintro _ _ ⟨rfl, rfl⟩; exact k)
/-! cells of the script -/
def ceV (L : Nat) (xs : Nat → Int32) (k : Int) : Int := if k < (L : Int) then (iI (Zx xs k) &&& iI 268435455).toInt else (61 * k + 7) * (k + 3)
theorem ceV_b {L : Nat} {xs : Nat → Int32} {k : Int} (h0 : 0 ≤ k ∧ k ≤ 200) : 0 ≤ ceV L xs k ∧ ceV L xs k ≤ 268435455 := by
  unfold ceV
  split
  · have e : (iI (Zx xs k) &&& iI 268435455).toBitVec = (iI (Zx xs k)).toBitVec &&& (iI 268435455).toBitVec := Int32.toBitVec_and _ _
    have h1 : (iI (Zx xs k) &&& iI 268435455).toBitVec.toNat ≤ 268435455 := by
      rw [e, BitVec.toNat_and]
      exact Nat.and_le_right
    have h2 : (iI (Zx xs k) &&& iI 268435455).toInt = ((iI (Zx xs k) &&& iI 268435455).toBitVec.toNat : Int) := by
      show (iI (Zx xs k) &&& iI 268435455).toBitVec.toInt = _
      rw [BitVec.toInt_eq_toNat_of_lt (by omega)]
    omega
  · obtain ⟨h1, h2⟩ := h0
    have h3 : 0 ≤ (61 * k + 7) * (k + 3) := Int.mul_nonneg (by omega) (by omega)
    have h4 : (61 * k + 7) * (k + 3) ≤ 12207 * 203 := Int.mul_le_mul (by omega) (by omega) (by omega) (by omega)
    omega
theorem ceV_ir {L : Nat} {xs : Nat → Int32} {k : Int} (h0 : 0 ≤ k ∧ k ≤ 200) : ir (ceV L xs k) := by
  have := ceV_b (L := L) (xs := xs) h0
  exact ⟨by omega, by omega⟩
/-! the third text -/
def txM (M : Mm) (t : Nat → Int) : Mm := fun a b => if a = 22 then t b else M a b
theorem txM_at (M : Mm) (t : Nat → Int) (b : Nat) : txM M t 22 b = t b := by simp [txM]
theorem txM_off (M : Mm) (t : Nat → Int) {a : Nat} (h : a ≠ 22) : txM M t a = M a := by funext b; simp [txM, h]
abbrev TB (t : Nat → Int) : Prop := ∀ j, -128 ≤ t j ∧ t j ≤ 127
theorem TB.u {t : Nat → Int} (h : TB t) (i : Nat) {v : Int} (hv : 0 ≤ v ∧ v ≤ 127) : TB (uM t i v) := by
  intro j
  unfold uM
  split
  · omega
  · exact h j
theorem CI_tx {M : Mm} (h : CI M) {t : Nat → Int} (ht : TB t) : CI (txM M t) := by
  have e : ∀ a, a ≠ 22 → txM M t a = M a := fun a ha => txM_off M t ha
  have e22 : ∀ b, txM M t 22 b = t b := txM_at M t
  obtain ⟨⟨h1, ⟨h2a, h2b⟩, h3, h4⟩, ⟨h5, h6, h7, h8⟩, h9, ⟨h10, h11⟩, h12, h13⟩ := h
  refine ⟨⟨?_, ⟨?_, fun i hi => ?_⟩, ?_, ?_⟩, ⟨?_, ?_, ?_, ?_⟩, ?_, ⟨fun o ho => ⟨?_, fun j => ?_⟩, fun o ho h15 j => ?_⟩, ?_, ?_⟩
  · rw [show LW (txM M t) 23 ↔ LW M 23 by unfold LW; rw [e 23 (by decide)]]; exact h1
  · show NDR (txM M t 26); rw [e 26 (by decide)]; exact h2a
  · show NDR (txM M t (27 + i)); rw [e _ (by omega)]; exact h2b i hi
  · intro j; show 0 ≤ txM M t 24 j ∧ txM M t 24 j ≤ 15; rw [e 24 (by decide)]; exact h3 j
  · rw [e 23 (by decide)]; exact h4
  · refine ⟨by rw [e 48 (by decide)]; exact h5.1, fun j => ?_⟩
    rw [e 49 (by decide), e 50 (by decide), e 51 (by decide), e 52 (by decide), e 53 (by decide)]; exact h5.2 j
  · intro j; rw [e 58 (by decide), e 59 (by decide), e 60 (by decide)]; exact h6 j
  · refine ⟨by rw [e 54 (by decide)]; exact h7.1, by rw [e 54 (by decide)]; exact h7.2.1, by rw [e 54 (by decide)]; exact h7.2.2.1, fun j => ?_⟩
    rw [e 55 (by decide), e 56 (by decide)]; exact h7.2.2.2 j
  · refine ⟨by rw [e 61 (by decide)]; exact h8.1, fun j => ?_⟩
    rw [e 62 (by decide)]; exact h8.2 j
  · refine ⟨by rw [e 63 (by decide)]; exact h9.1, fun j => ?_⟩
    rw [e 66 (by decide), e 67 (by decide), e 68 (by decide), e 69 (by decide)]; exact h9.2 j
  · rw [e o (by omega)]; exact (h10 o ho).1
  · by_cases hq : o + 1 = 22
    · rw [hq, e22]; have := ht j; exact ⟨by omega, by omega⟩
    · rw [e _ hq]; exact (h10 o ho).2 j
  · by_cases hq : o + 1 = 22
    · rw [hq, e22]; exact ht j
    · rw [e _ hq]; exact h11 o ho h15 j
  · refine ⟨by rw [e 70 (by decide)]; exact h12.1, fun j => ?_⟩
    show (0 ≤ txM M t 71 j ∧ txM M t 71 j ≤ 7) ∧ 0 ≤ txM M t 72 j ∧ txM M t 72 j ≤ 99
    rw [e 71 (by decide), e 72 (by decide)]; exact h12.2 j
  · refine ⟨by rw [e 73 (by decide)]; exact h13.1, fun j => ?_⟩
    show (0 ≤ txM M t 74 j ∧ txM M t 74 j ≤ 7) ∧ 0 ≤ txM M t 75 j ∧ txM M t 75 j ≤ 99
    rw [e 74 (by decide), e 75 (by decide)]; exact h13.2 j
theorem by8_of {v : Int} (h : 0 ≤ v ∧ v ≤ 127) : by8 v = v := by
  unfold by8
  rw [Int8.toInt_toInt32]
  have e : (iI v).toInt8.toInt = v := by
    have h1 : (iI v).toInt8 = Int8.ofInt v := by
      show (Int32.ofInt v).toInt8 = Int8.ofInt v
      exact Int32.toInt8_ofInt
    rw [h1]
    exact Int8.toInt_ofInt_of_le (by omega) (by omega)
  exact e
theorem putM_tx {M : Mm} (h21 : M 21 1 = 120) {t : Nat → Int} {at_ v : Int} (ha : 0 ≤ at_ ∧ at_ < 120) (hv : 0 ≤ v ∧ v ≤ 127) (h32 : t at_.toNat = 32) : putA (txM M t) 3 at_ = 1032 ∧ putM (txM M t) 3 at_ v = txM M (uM t at_.toNat v) := by
  have e1 : txM M t 21 1 = 120 := by rw [txM_off M t (by decide)]; exact h21
  have a1 : ¬ ¬ T4 3 := by decide
  have a2 : ¬ txM M t (15 + 2 * (3 : Int).toNat) 1 < 0 := by show ¬ txM M t 21 1 < 0; rw [e1]; decide
  have a3 : ¬ ¬ hsR (txM M t) (15 + 2 * (3 : Int).toNat) at_ := not_not_intro (by show 0 ≤ at_ ∧ at_ < txM M t 21 1; rw [e1]; exact ha)
  constructor
  · unfold putA
    rw [if_neg a1, if_neg a2, if_neg a3]
    show txM M t 22 at_.toNat + 1000 = 1032
    rw [txM_at, h32]
    rfl
  · unfold putM
    rw [if_neg a1, if_neg a2, if_neg a3, by8_of hv]
    show stM (txM M t) 22 at_.toNat v = _
    funext a b
    unfold stM txM uM
    by_cases h1 : a = 22
    · subst h1
      by_cases h2 : b = at_.toNat
      · simp [h2]
      · simp [h2]
    · simp [h1]
theorem c_put3 {n : Nat} (hn : NN n) {M0 M : Mm} (e0 : M = M) {t : Nat → Int} (hM : M = txM M0 t) (hci : CI M) (h21 : M0 21 1 = 120) (at_ v : Int) (ha : 0 ≤ at_ ∧ at_ < 120) (hv : 0 ≤ v ∧ v ≤ 127) (h32 : t at_.toNat = 32) : CT yX11_put cX11_put 6 (some .int) ({ frames := 2, cells := 0, slots := 0, locals := 43 }) n [.ref 0, .int (iI 3), .int (iI at_), .int (iI v)] M (rI 1032 (txM M0 (uM t at_.toNat v))) := by
  have h := c_X11_put (M := M) hn hci 3 at_ v ⟨by decide, by decide⟩ ⟨by omega, by omega⟩
  subst hM
  obtain ⟨e1, e2⟩ := putM_tx h21 ha hv h32
  rw [e1, e2] at h
  exact h
set_option maxHeartbeats 4000000 in
set_option maxRecDepth 100000 in
theorem c_L_cell {P : Pl} {b L : Nat} {xs : Nat → Int32} {w : va_W} (k : Int) (hk : 0 ≤ k ∧ k ≤ 200) : CLW P b L xs yL_cell cL_cell 2 (some .int) ({ frames := 0, cells := 0, slots := 0, locals := 0 } : Room) 0 0 [.ref b, .int (iI k)] (w) (qI (ceV L xs k) w) := by
  refine CLW.of (lv0 := [(0, .ref b), (1, .int (iI k))]) (by decide +kernel) rfl rfl (Nat.le_of_ble_eq_true rfl) (fun X cx ys sx qx => ?_)
  have hL : L ≤ 260 := by obtain ⟨p, l, e, R, s, m, args, below, meth, c, nL2, P, A, Q⟩ := X; exact sx.2.2.2
  refine l_iload_n cx (pc2 := 1) 1 rfl dL_cell_0 rfl ?_
  refine l_aload_n cx (pc2 := 2) 0 rfl dL_cell_1 rfl ?_
  refine l_slen cx sx (pc2 := 3) dL_cell_2 rfl ?_
  refine l_icmp_ge cx (pc2 := 6) (tgt := 15) ⟨(by first | assumption | omega), (by first | assumption | omega)⟩ dL_cell_3 (by decide) rfl (fun h_1 => ?_) (fun h_1 => ?_)
  · skip
    refine l_bipush cx (pc2 := 17) ⟨by decide, by decide⟩ dL_cell_15 rfl ?_
    refine l_iload_n cx (pc2 := 18) 1 rfl dL_cell_17 rfl ?_
    refine l_imul cx (pc2 := 19) dL_cell_18 rfl ?_
    refine l_bipush cx (pc2 := 21) ⟨by decide, by decide⟩ dL_cell_19 rfl ?_
    refine l_iadd cx (pc2 := 22) dL_cell_21 rfl ?_
    refine l_iload_n cx (pc2 := 23) 1 rfl dL_cell_22 rfl ?_
    refine l_iconst cx (pc2 := 24) dL_cell_23 rfl ?_
    refine l_iadd cx (pc2 := 25) dL_cell_24 rfl ?_
    refine l_imul cx (pc2 := 26) dL_cell_25 rfl ?_
    exact l_iret cx qx dL_cell_26 (by exact ⟨congrArg (fun q => some (Value.int (iI q))) (by unfold ceV; first | (rw [if_pos (by omega)]; done) | (rw [if_neg (by omega)]; done)), rfl⟩)
  · skip
    refine l_aload_n cx (pc2 := 7) 0 rfl dL_cell_6 rfl ?_
    refine l_iload_n cx (pc2 := 8) 1 rfl dL_cell_7 rfl ?_
    refine l_sld cx sx (pc2 := 9) (by omega) (by omega) dL_cell_8 rfl ?_
    refine l_ldc cx (pc2 := 11) kk_L_7 dL_cell_9 rfl ?_
    refine l_iand cx (pc2 := 12) dL_cell_11 rfl ?_
    refine l_rwi (y := iI ((iI (Zx xs k) &&& iI 268435455).toInt)) ((iI_of _).symm) ?_
    refine l_goto cx (tgt := 26) dL_cell_12 (by decide) ?_
    exact l_iret cx qx dL_cell_26 (by exact ⟨congrArg (fun q => some (Value.int (iI q))) (by unfold ceV; first | (rw [if_pos (by omega)]; done) | (rw [if_neg (by omega)]; done)), rfl⟩)
set_option maxHeartbeats 4000000 in
set_option maxRecDepth 100000 in
theorem c_L_put {P : Pl} {b L : Nat} {xs : Nat → Int32} {n : Nat} (hn : NN n) {M0 : Mm} (hci : CI M0) {t : Nat → Int} (hT : TB t) (h21 : M0 21 1 = 120) {R : va_W} (at_ v : Int) (hat : 0 ≤ at_ ∧ at_ < 120) (hv : 0 ≤ v ∧ v ≤ 127) (h32 : t at_.toNat = 32) : CLW P b L xs yL_put cL_put 3 (some .int) ({ frames := 3, cells := 0, slots := 0, locals := 68 } : Room) 0 0 [.ref (P.2.1 0), .int (iI at_), .int (iI v)] (wld P n (txM M0 t) ++ R) (qI (at_ + 1) (wld P n (txM M0 (uM t at_.toNat v)) ++ R)) := by
  refine CLW.of (lv0 := [(0, .ref (P.2.1 0)), (1, .int (iI at_)), (2, .int (iI v))]) (by decide +kernel) rfl rfl (Nat.le_of_ble_eq_true rfl) (fun X cx ys sx qx => ?_)
  refine l_iload_n cx (pc2 := 1) 1 rfl dL_put_0 rfl ?_
  refine l_if_lt cx (pc2 := 4) (tgt := 23) (by first | assumption | omega) dL_put_1 (by decide) rfl (fun h_1 => ?_) (fun h_1 => ?_)
  · skip
    omega
  · skip
    refine l_aload_n cx (pc2 := 5) 0 rfl dL_put_4 rfl ?_
    refine l_iconst cx (pc2 := 6) dL_put_5 rfl ?_
    refine l_iload_n cx (pc2 := 7) 1 rfl dL_put_6 rfl ?_
    refine l_iload_n cx (pc2 := 8) 2 rfl dL_put_7 rfl ?_
    refine l_ctI cx (pc2 := 11) (st := []) ys hn (M := (txM M0 t)) (As := [.int (iI 3), .int (iI at_), .int (iI v)]) (c_put3 (M := (txM M0 t)) hn rfl rfl (CI_tx hci hT) h21 at_ v hat hv h32) wM_X11_put wV_X11_put rfl kl_L_8 ⟨rfl, rfl, Nat.le_of_ble_eq_true rfl, Nat.le_of_ble_eq_true rfl⟩ (Nat.le_of_ble_eq_true rfl) ⟨Nat.zero_le _, Nat.zero_le _⟩ rfl rfl rfl dL_put_8 rfl ?_
    refine l_sipush cx (pc2 := 14) ⟨by decide, by decide⟩ dL_put_11 rfl ?_
    refine l_icmp_ne cx (pc2 := 17) (tgt := 23) ⟨⟨by decide, by decide⟩, ⟨by decide, by decide⟩⟩ dL_put_14 (by decide) rfl (fun h_2 => ?_) (fun h_2 => ?_)
    · skip
      omega
    · skip
      refine l_iload_n cx (pc2 := 18) 1 rfl dL_put_17 rfl ?_
      refine l_iconst cx (pc2 := 19) dL_put_18 rfl ?_
      refine l_iadd cx (pc2 := 20) dL_put_19 rfl ?_
      refine l_goto cx (tgt := 26) dL_put_20 (by decide) ?_
      exact l_iret cx qx dL_put_26 (by exact ⟨rfl, rfl⟩)
def nmT (t : Nat → Int) (at_ v : Int) : Nat → Int := if v < 10 then uM t at_.toNat (48 + v) else uM (uM t at_.toNat (48 + v / 10)) (at_ + 1).toNat (48 + v % 10)
def nmP (at_ v : Int) : Int := if v < 10 then at_ + 1 else at_ + 2
theorem td10 {v : Int} (h : 0 ≤ v) : v.tdiv 10 = v / 10 := Int.tdiv_eq_ediv_of_nonneg h
set_option maxHeartbeats 4000000 in
set_option maxRecDepth 100000 in
theorem c_L_number {P : Pl} {b L : Nat} {xs : Nat → Int32} {n : Nat} (hn : NN n) {M0 : Mm} (hci : CI M0) {t : Nat → Int} (hT : TB t) (h21 : M0 21 1 = 120) {R : va_W} (at_ v : Int) (hat : 0 ≤ at_ ∧ at_ < 118) (hv : 0 ≤ v ∧ v ≤ 27) (h32 : ∀ j : Nat, at_ ≤ (j : Int) → j < 120 → t j = 32) : CLW P b L xs yL_number cL_number 3 (some .int) ({ frames := 4, cells := 0, slots := 0, locals := 90 } : Room) 0 0 [.ref (P.2.1 0), .int (iI at_), .int (iI v)] (wld P n (txM M0 t) ++ R) (qI (nmP at_ v) (wld P n (txM M0 (nmT t at_ v)) ++ R)) := by
  refine CLW.of (lv0 := [(0, .ref (P.2.1 0)), (1, .int (iI at_)), (2, .int (iI v))]) (by decide +kernel) rfl rfl (Nat.le_of_ble_eq_true rfl) (fun X cx ys sx qx => ?_)
  refine l_iload_n cx (pc2 := 1) 2 rfl dL_number_0 rfl ?_
  refine l_bipush cx (pc2 := 3) ⟨by decide, by decide⟩ dL_number_1 rfl ?_
  refine l_icmp_ge cx (pc2 := 6) (tgt := 18) ⟨(by exact ⟨by omega, by omega⟩), ⟨by decide, by decide⟩⟩ dL_number_3 (by decide) rfl (fun h_1 => ?_) (fun h_1 => ?_)
  · skip
    refine l_aload_n cx (pc2 := 19) 0 rfl dL_number_18 rfl ?_
    refine l_aload_n cx (pc2 := 20) 0 rfl dL_number_19 rfl ?_
    refine l_iload_n cx (pc2 := 21) 1 rfl dL_number_20 rfl ?_
    refine l_bipush cx (pc2 := 23) ⟨by decide, by decide⟩ dL_number_21 rfl ?_
    refine l_iload_n cx (pc2 := 24) 2 rfl dL_number_23 rfl ?_
    refine l_bipush cx (pc2 := 26) ⟨by decide, by decide⟩ dL_number_24 rfl ?_
    refine l_idiv cx (pc2 := 27) (by exact ⟨⟨by omega, by omega⟩, ⟨by decide, by decide⟩, by decide, Or.inr (by decide)⟩) dL_number_26 rfl ?_
    refine l_rwi (y := iI (v / 10)) (by rw [td10 (by omega)]) ?_
    refine l_iadd cx (pc2 := 28) dL_number_27 rfl ?_
    refine l_clI cx (pc2 := 31) (st := [.ref (P.2.1 0)]) ys sx (As := [.ref (P.2.1 0), .int (iI at_), .int (iI (48 + (v / 10)))]) (c_L_put hn hci hT h21 at_ (48 + v / 10) (by omega) (by omega) (h32 at_.toNat (by omega) (by omega))) wM_L_put wS_L_put kl_L_14 ⟨rfl, rfl, Nat.le_of_ble_eq_true rfl, Nat.le_of_ble_eq_true rfl⟩ (Nat.le_of_ble_eq_true rfl) ⟨Nat.zero_le _, Nat.zero_le _⟩ rfl rfl dL_number_28 rfl ?_
    refine l_bipush cx (pc2 := 33) ⟨by decide, by decide⟩ dL_number_31 rfl ?_
    refine l_iload_n cx (pc2 := 34) 2 rfl dL_number_33 rfl ?_
    refine l_bipush cx (pc2 := 36) ⟨by decide, by decide⟩ dL_number_34 rfl ?_
    refine l_irem cx (pc2 := 37) (by exact ⟨⟨by omega, by omega⟩, ⟨by decide, by decide⟩, by decide, Or.inr (by decide)⟩) dL_number_36 rfl ?_
    refine l_rwi (y := iI (v % 10)) (by rw [td10 (by omega)]; congr 1; omega) ?_
    refine l_iadd cx (pc2 := 38) dL_number_37 rfl ?_
    refine l_clI cx (pc2 := 41) (st := []) ys sx (As := [.ref (P.2.1 0), .int (iI (at_ + 1)), .int (iI (48 + (v % 10)))]) (c_L_put hn hci (hT.u _ (by omega)) h21 (at_ + 1) (48 + v % 10) (by omega) (by omega) (by rw [uM_ne t _ (by omega)]; exact h32 _ (by omega) (by omega))) wM_L_put wS_L_put kl_L_14 ⟨rfl, rfl, Nat.le_of_ble_eq_true rfl, Nat.le_of_ble_eq_true rfl⟩ (Nat.le_of_ble_eq_true rfl) ⟨Nat.zero_le _, Nat.zero_le _⟩ rfl rfl dL_number_38 rfl ?_
    exact l_iret cx qx dL_number_41 (by unfold nmP nmT; first | (rw [if_pos (by omega), if_pos (by omega)]; exact ⟨rfl, rfl⟩) | (rw [if_neg (by omega), if_neg (by omega)]; exact ⟨congrArg (fun q => some (Value.int (iI q))) (by omega), rfl⟩))
  · skip
    refine l_aload_n cx (pc2 := 7) 0 rfl dL_number_6 rfl ?_
    refine l_iload_n cx (pc2 := 8) 1 rfl dL_number_7 rfl ?_
    refine l_bipush cx (pc2 := 10) ⟨by decide, by decide⟩ dL_number_8 rfl ?_
    refine l_iload_n cx (pc2 := 11) 2 rfl dL_number_10 rfl ?_
    refine l_iadd cx (pc2 := 12) dL_number_11 rfl ?_
    refine l_clI cx (pc2 := 15) (st := []) ys sx (As := [.ref (P.2.1 0), .int (iI at_), .int (iI (48 + v))]) (c_L_put hn hci hT h21 at_ (48 + v) (by omega) (by omega) (h32 at_.toNat (by omega) (by omega))) wM_L_put wS_L_put kl_L_14 ⟨rfl, rfl, Nat.le_of_ble_eq_true rfl, Nat.le_of_ble_eq_true rfl⟩ (Nat.le_of_ble_eq_true rfl) ⟨Nat.zero_le _, Nat.zero_le _⟩ rfl rfl dL_number_12 rfl ?_
    refine l_goto cx (tgt := 41) dL_number_15 (by decide) ?_
    exact l_iret cx qx dL_number_41 (by unfold nmP nmT; first | (rw [if_pos (by omega), if_pos (by omega)]; exact ⟨rfl, rfl⟩) | (rw [if_neg (by omega), if_neg (by omega)]; exact ⟨congrArg (fun q => some (Value.int (iI q))) (by omega), rfl⟩))
abbrev mustP (V : Nat → Int) (i : Int) : Prop := V (10 + 6 * i).toNat = 1 ∨ V (10 + 6 * i).toNat = 3 ∨ V (10 + 6 * i).toNat = 4
set_option maxHeartbeats 4000000 in
set_option maxRecDepth 100000 in
theorem c_L_must {P : Pl} {b L : Nat} {xs : Nat → Int32} {w : va_W} {av : Nat} {V : Nat → Int} (q0 : Nat) (hV : w[q0]? = some (ar P av 64 V)) (hr : ∀ j, ir (V j)) (i : Int) (hi : 0 ≤ i ∧ i < 8) : CLW P b L xs yL_must cL_must 3 (some .boolean) ({ frames := 0, cells := 0, slots := 0, locals := 0 } : Room) 0 0 [.ref av, .int (iI i)] (w) (qI (b2 (mustP V i)) w) := by
  refine CLW.of (lv0 := [(0, .ref av), (1, .int (iI i))]) (by decide +kernel) rfl rfl (Nat.le_of_ble_eq_true rfl) (fun X cx ys sx qx => ?_)
  refine l_aload_n cx (pc2 := 1) 0 rfl dL_must_0 rfl ?_
  refine l_bipush cx (pc2 := 3) ⟨by decide, by decide⟩ dL_must_1 rfl ?_
  refine l_bipush cx (pc2 := 5) ⟨by decide, by decide⟩ dL_must_3 rfl ?_
  refine l_iload_n cx (pc2 := 6) 1 rfl dL_must_5 rfl ?_
  refine l_imul cx (pc2 := 7) dL_must_6 rfl ?_
  refine l_iadd cx (pc2 := 8) dL_must_7 rfl ?_
  refine l_iaload cx (pc2 := 9) (N := 64) (V := V) q0 hV (by first | assumption | omega | exact hr _) (by first | assumption | omega | exact hr _) (Nat.le_of_ble_eq_true rfl) dL_must_8 rfl ?_
  refine l_istore_n cx (pc2 := 10) (lv2 := [(0, .ref av), (1, .int (iI i)), (2, .int (iI (V ((10 + (6 * i))).toNat)))]) rfl (Nat.le_of_ble_eq_true rfl) dL_must_9 rfl ?_
  refine l_iload_n cx (pc2 := 11) 2 rfl dL_must_10 rfl ?_
  refine l_iconst cx (pc2 := 12) dL_must_11 rfl ?_
  refine l_icmp_eq cx (pc2 := 15) (tgt := 25) ⟨(by first | assumption | omega | exact hr _), ⟨by decide, by decide⟩⟩ dL_must_12 (by decide) rfl (fun h_1 => ?_) (fun h_1 => ?_)
  · skip
    refine l_iconst cx (pc2 := 26) dL_must_25 rfl ?_
    refine l_goto cx (tgt := 30) dL_must_26 (by decide) ?_
    exact l_zret cx (Or.inr rfl) qx dL_must_30 (by exact ⟨congrArg (fun q => some (Value.int q)) (by first | (show iI 1 = _; unfold b2; rw [if_pos (by first | (left; assumption) | (right; left; assumption) | (right; right; assumption))]) | (show iI 0 = _; unfold b2; rw [if_neg (by rintro (h | h | h) <;> contradiction)])), rfl⟩)
  · skip
    refine l_iload_n cx (pc2 := 16) 2 rfl dL_must_15 rfl ?_
    refine l_iconst cx (pc2 := 17) dL_must_16 rfl ?_
    refine l_icmp_eq cx (pc2 := 20) (tgt := 25) ⟨(by first | assumption | omega | exact hr _), ⟨by decide, by decide⟩⟩ dL_must_17 (by decide) rfl (fun h_2 => ?_) (fun h_2 => ?_)
    · skip
      refine l_iconst cx (pc2 := 26) dL_must_25 rfl ?_
      refine l_goto cx (tgt := 30) dL_must_26 (by decide) ?_
      exact l_zret cx (Or.inr rfl) qx dL_must_30 (by exact ⟨congrArg (fun q => some (Value.int q)) (by first | (show iI 1 = _; unfold b2; rw [if_pos (by first | (left; assumption) | (right; left; assumption) | (right; right; assumption))]) | (show iI 0 = _; unfold b2; rw [if_neg (by rintro (h | h | h) <;> contradiction)])), rfl⟩)
    · skip
      refine l_iload_n cx (pc2 := 21) 2 rfl dL_must_20 rfl ?_
      refine l_iconst cx (pc2 := 22) dL_must_21 rfl ?_
      refine l_icmp_ne cx (pc2 := 25) (tgt := 29) ⟨(by first | assumption | omega | exact hr _), ⟨by decide, by decide⟩⟩ dL_must_22 (by decide) rfl (fun h_3 => ?_) (fun h_3 => ?_)
      · skip
        refine l_iconst cx (pc2 := 30) dL_must_29 rfl ?_
        exact l_zret cx (Or.inl rfl) qx dL_must_30 (by exact ⟨congrArg (fun q => some (Value.int q)) (by first | (show iI 1 = _; unfold b2; rw [if_pos (by first | (left; assumption) | (right; left; assumption) | (right; right; assumption))]) | (show iI 0 = _; unfold b2; rw [if_neg (by rintro (h | h | h) <;> contradiction)])), rfl⟩)
      · skip
        refine l_iconst cx (pc2 := 26) dL_must_25 rfl ?_
        refine l_goto cx (tgt := 30) dL_must_26 (by decide) ?_
        exact l_zret cx (Or.inr rfl) qx dL_must_30 (by exact ⟨congrArg (fun q => some (Value.int q)) (by first | (show iI 1 = _; unfold b2; rw [if_pos (by first | (left; assumption) | (right; left; assumption) | (right; right; assumption))]) | (show iI 0 = _; unfold b2; rw [if_neg (by rintro (h | h | h) <;> contradiction)])), rfl⟩)
