abbrev cF (M : Mm) : Nat → Int := fun j => if j < 8 then M (27 + j) 6 else 0
/-- CHANCES on the way: those from i on are 12 still, the fraction told is of those now -/
def CSx (V : Nat → Int) (M : Mm) (i up low : Int) : Prop := HW V M ∧ LZ M ∧ CI M ∧ (∀ j : Nat, i ≤ (j : Int) → j < nN V → M (27 + j) 6 = 12) ∧ FRC (PB V (cF M) (nN V) 0) (WA V (nN V)) up low
theorem cF_kp {M M2 : Mm} (k : KP M M2) : cF M2 = cF M := funext fun j => by
  show (if j < 8 then M2 (27 + j) 6 else 0) = if j < 8 then M (27 + j) 6 else 0
  by_cases z : j < 8
  · rw [if_pos z, if_pos z, k.1 (27 + j) (by omega)]
  · rw [if_neg z, if_neg z]
theorem cF_b {M : Mm} (hc : CI M) (j : Nat) : 0 ≤ cF M j ∧ cF M j ≤ 12 := by
  show 0 ≤ (if j < 8 then M (27 + j) 6 else 0) ∧ (if j < 8 then M (27 + j) 6 else 0) ≤ 12
  split
  · exact (hc.nd.2 j (by assumption)).2.2.2.2.2.2
  · decide
theorem CI_ch {M : Mm} (h : CI M) {i : Nat} (hi : i < 8) {p : Int} (hp : 0 ≤ p ∧ p ≤ 12) : CI (stM M (27 + i) 6 p) := by
  have e : ∀ a, a ≠ 27 + i → stM M (27 + i) 6 p a = M a := fun a ha => stM_off ha
  have e2 : ∀ a b, b ≠ 6 → stM M (27 + i) 6 p a b = M a b := fun a b hb => stM_ne _ _ (Or.inr hb)
  refine ⟨⟨?_, ⟨?_, fun k hk => ?_⟩, ?_, ?_⟩, ⟨JW_of (fun a h1 h2 => e a (by omega)) h.j, PW_fr (fun a h1 h2 => e a (by omega)) h.p, WW_fr (fun a h1 h2 => e a (by omega)) h.w, CW_fr (fun a h1 h2 => e a (by omega)) h.c⟩, ?_, ⟨?_, ?_⟩, ?_, ?_⟩
  · unfold LW; rw [e 23 (by omega)]; exact h.l
  · unfold NDW; rw [e 26 (by omega)]; exact h.nd.1
  · have hn := h.nd.2 k hk
    unfold NDW NDR at hn ⊢
    rw [e2 _ 0 (by decide), e2 _ 1 (by decide), e2 _ 2 (by decide), e2 _ 3 (by decide), e2 _ 4 (by decide), e2 _ 5 (by decide)]
    refine ⟨hn.1, hn.2.1, hn.2.2.1, hn.2.2.2.1, hn.2.2.2.2.1, hn.2.2.2.2.2.1, ?_⟩
    by_cases z : k = i
    · rw [z, stM_at]; exact hp
    · rw [stM_ne _ _ (Or.inl (by omega))]; exact hn.2.2.2.2.2.2
  · intro j; rw [e 24 (by omega)]; exact h.pl j
  · rw [e 23 (by omega)]; exact h.st
  · unfold DLW; rw [e 63 (by omega), e 66 (by omega), e 67 (by omega), e 68 (by omega), e 69 (by omega)]; exact h.d
  · intro o ho; rw [e o (by omega), e (o + 1) (by omega)]; exact h.rw o ho
  · intro o ho h15; rw [e (o + 1) (by omega)]; exact h.tw o ho h15
  · unfold PRW; rw [e 70 (by omega), e 71 (by omega), e 72 (by omega)]; exact h.p70
  · unfold PRW; rw [e 73 (by omega), e 74 (by omega), e 75 (by omega)]; exact h.p73
theorem HW_ch {V : Nat → Int} {M : Mm} (h : HW V M) (i : Nat) (p : Int) : HW V (stM M (27 + i) 6 p) := by
  have e2 : ∀ a b, b ≠ 6 → stM M (27 + i) 6 p a b = M a b := fun a b hb => stM_ne _ _ (Or.inr hb)
  refine ⟨by rw [e2 23 3 (by decide), e2 23 4 (by decide), e2 23 5 (by decide)]; exact h.1, fun k hk => by rw [stM_off (by omega)]; exact h.2.1 k hk, fun k hk j hj => by rw [e2 _ _ (by omega)]; exact h.2.2 k hk j hj⟩
theorem CSx.odd {V : Nat → Int} {M : Mm} {i : Int} (hg : GV V) (hw : HW V M) (hz : LZ M) (hc : CI M) (h12 : ∀ j : Nat, i ≤ (j : Int) → j < nN V → M (27 + j) 6 = 12) : CSx V (oddM M) i (oddM M 0 16) (oddM M 0 17) := by
  have k := KP_odds hc
  have h5 := (nN_5 hg).1
  refine ⟨hw.kp k, hz.kp k, k.2, fun j h1 h2 => by rw [k.1 (27 + j) (by omega)]; exact h12 j h1 h2, ?_⟩
  rw [cF_kp k]
  exact odd_V hg hw hc
theorem CSx.b {V : Nat → Int} {M : Mm} {i up low : Int} (hg : GV V) (h : CSx V M i up low) : (0 ≤ up ∧ up ≤ low) ∧ 0 < low ∧ low ≤ 248832 := by
  have hw := WA_5 hg
  have hb := h.2.2.2.2.b (PB_b (cF_b h.2.2.1) _ _) hw.1
  omega
/-- a LOT's CHANCE becomes less: what can be met is no less likely -/
theorem CSx.cha {V : Nat → Int} {M : Mm} {up low : Int} (hg : GV V) {i : Nat} (hi : i < nN V) (h : CSx V M (i : Int) up low) {p : Int} (hp : 0 ≤ p ∧ p ≤ 12) : CSx V (oddM (stM M (27 + i) 6 p)) ((i : Int) + 1) (oddM (stM M (27 + i) 6 p) 0 16) (oddM (stM M (27 + i) 6 p) 0 17) ∧ up * oddM (stM M (27 + i) 6 p) 0 17 ≤ oddM (stM M (27 + i) 6 p) 0 16 * low := by
  have h5 := (nN_5 hg).1
  obtain ⟨h1, h2, h3, h4, hF⟩ := h
  have c2 := CI_ch h3 (i := i) (by omega) hp
  have w2 := HW_ch h1 i p
  have z2 : LZ (stM M (27 + i) 6 p) := by
    unfold LZ
    rw [stM_off (by omega), stM_off (by omega), stM_off (by omega), stM_off (by omega), stM_off (by omega)]
    exact h2
  have r := CSx.odd (i := (i : Int) + 1) hg w2 z2 c2 (fun j a b => by rw [stM_off (by omega)]; exact h4 j (by omega) b)
  refine ⟨r, ?_⟩
  have k := KP_odds c2
  have hF2 := r.2.2.2.2
  rw [cF_kp k] at hF2
  have ec : cF (stM M (27 + i) 6 p) = uM (cF M) i p := funext fun j => by
    show (if j < 8 then stM M (27 + i) 6 p (27 + j) 6 else 0) = if j = i then p else if j < 8 then M (27 + j) 6 else 0
    by_cases z : j = i
    · subst z
      rw [if_pos (by omega), if_pos rfl, stM_at]
    · rw [if_neg z, stM_off (by omega)]
  rw [ec] at hF2
  exact hF.mo hF2 (WA_5 hg).1 (PB_step hg (cF_b h3) hi (by show (if i < 8 then M (27 + i) 6 else 0) = 12; rw [if_pos (by omega)]; exact h4 i (Int.le_refl _) hi) hp _ 0 (Nat.le_refl _) (Nat.two_pow_pos _))
theorem CSx.skip {V : Nat → Int} {M : Mm} {i up low : Int} (h : CSx V M i up low) : CSx V M (i + 1) up low := ⟨h.1, h.2.1, h.2.2.1, fun j h1 h2 => h.2.2.2.1 j (by omega) h2, h.2.2.2.2⟩
theorem mul_lr {a b : Int} (ha : 0 ≤ a ∧ a ≤ 248832) (hb : 0 ≤ b ∧ b ≤ 248832) : lr (a * b) := by
  have h1 := Int.mul_nonneg ha.1 hb.1
  have h2 : a * b ≤ 248832 * 248832 := Int.mul_le_mul ha.2 hb.2 hb.1 (by decide)
  exact ⟨by omega, by omega⟩
theorem c_canL {n : Nat} (hn : NN n) {V : Nat → Int} {M : Mm} (hg : GV V) (hv : HW V M) (hci : CI M) (w : Int) (hw : 0 ≤ w ∧ w < ((2 ^ nN V : Nat) : Int)) : CT yX11_can cX11_can 2 (some .int) ({ frames := 6, cells := 0, slots := 0, locals := 145 }) n [.ref 0, .int (iI w)] M (rI (ENV V w.toNat) (canM M w)) := by
  have h5 := (nN_5 hg).2
  have c := c_X11_can (M := M) hn hci w ⟨by omega, by omega⟩
  rw [can_V hg hv hw] at c
  exact c
theorem c_chaL {n : Nat} (hn : NN n) {V : Nat → Int} {M : Mm} (hg : GV V) {i up low : Int} (h : CSx V M i up low) (hi : 0 ≤ i ∧ i < V 9) (hb : (loN V).testBit i.toNat = true) (p : Int) (hp : 0 ≤ p ∧ p ≤ 12) : CT yX11_chance cX11_chance 5 (some .int) ({ frames := 2, cells := 0, slots := 0, locals := 43 }) n [.ref 0, .int (iI i), .int (iI p)] M (rI 12 (stM M (27 + i.toNat) 6 p)) := by
  have h9 := hg.2.1
  have c := c_X11_chance (M := M) hn h.2.2.1 i p ⟨by omega, by omega⟩ ⟨by omega, by omega⟩
  have c1 : ¬ (¬ NS M i ∨ p < 0 ∨ 12 < p) := by
    unfold NS
    rw [h.1.1.2.1]
    omega
  have ek : M (27 + i.toNat) 0 = V (10 + 6 * i.toNat) := h.1.2.2 i.toNat (by omega) 0 (by decide)
  have c2 : ¬ ¬ isAK (M (27 + i.toNat) 0) 2 := by
    refine not_not_intro ?_
    rw [ek, isAK_2]
    unfold loN at hb
    rw [bsum_bit, Bool.and_eq_true] at hb
    exact of_decide_eq_true hb.2
  unfold chaA chaM at c
  rw [if_neg c1, if_neg c2, if_neg c1, if_neg c2, h.2.2.2.1 i.toNat (by omega) (by show i.toNat < (V 9).toNat; omega)] at c
  exact c
theorem c_callL {n : Nat} (hn : NN n) {V : Nat → Int} {M : Mm} (hg : GV V) (hv : HW V M) (hci : CI M) (s : Int) (hs : 1 ≤ s ∧ s ≤ 2147483646) : CT yX11_call cX11_call 5 (some .int) ({ frames := 6, cells := 0, slots := 0, locals := 145 }) n [.ref 0, .int (iI s)] M (rI ((clV M s : Nat) : Int) (calM M s)) := by
  have c := c_X11_call (M := M) hn hci s ⟨by omega, by omega⟩
  rw [(cal_V hg hv hs).1] at c
  exact c
theorem loB_t {V : Nat → Int} {i : Nat} (h : V (10 + 6 * i) = 2 ∨ V (10 + 6 * i) = 5) : loB V i = true := decide_eq_true h
theorem loB_f {V : Nat → Int} {i : Nat} (h : ¬ V (10 + 6 * i) = 2) (h2 : ¬ V (10 + 6 * i) = 5) : loB V i = false := decide_eq_false (fun z => z.elim h h2)
/-- the first fraction: sure, or never -/
theorem CSx.fst {V : Nat → Int} {M : Mm} {up low : Int} (hg : GV V) (h : CSx V M 0 up low) : (ENV V (loN V ||| muN V) < 0 → up = 0) ∧ (¬ ENV V (loN V ||| muN V) < 0 → up = low) := by
  have h5 := (nN_5 hg).1
  obtain ⟨g, g0, hx, hy⟩ := h.2.2.2.2
  have e : PB V (cF M) (nN V) 0 = WA V (nN V) * Gf V (loN V ||| 0) := PB_all (nN V) 0 (fun j hj => by
    show (if j < 8 then M (27 + j) 6 else 0) = 12
    rw [if_pos (by omega)]
    exact h.2.2.2.1 j (by omega) hj)
  rw [e, Nat.or_zero] at hx
  unfold Gf at hx
  have hb := ENV_b hg (s := loN V ||| muN V) (Nat.or_lt_two_pow (loN_lt V) (muN_lt V))
  constructor
  · intro q
    rw [if_pos (by omega), Int.mul_zero] at hx
    have := Int.mul_eq_zero.mp hx.symm
    omega
  · intro q
    rw [if_neg (by omega), Int.mul_one] at hx
    exact Int.eq_of_mul_eq_mul_left (by omega) (by omega : g * up = g * low)
abbrev ChR (V : Nat → Int) (M : Mm) : Prop := HW V M ∧ LZ M ∧ CI M
/-- what the last call of them tells -/
theorem cal_bst {V : Nat → Int} {b w m : Int} (hg : GV V) (hb : BST V b) (hw : CAL V w) (hm : ¬ b = -9 → m = WV V b.toNat) : (b = -9 → w = -9) ∧ (¬ b = -9 → w ≤ m) ∧ (b = -9 ∨ 0 ≤ b) := by
  rcases hb with ⟨b1, b2⟩ | ⟨k, b1, b2, b3, b4⟩
  · refine ⟨fun _ => ?_, fun h => absurd b1 h, Or.inl b1⟩
    rcases hw with w1 | ⟨j, w1, w2⟩
    · exact w1
    · exact absurd w1 (b2 j)
  · refine ⟨fun h => by omega, fun h => ?_, Or.inr (by omega)⟩
    rw [hm h, b3, Int.toNat_natCast]
    rcases hw with w1 | ⟨j, w1, w2⟩
    · rw [w1]
      have := WV_b hg k
      omega
    · rw [w2]
      exact b4 j w1
set_option maxHeartbeats 4000000 in
set_option maxRecDepth 100000 in
theorem chances_E {P : Pl} {b L : Nat} {xs : Nat → Int32} {n : Nat} (hn : NN n) {M0 : Mm} {R : va_W} {av : Nat} {V : Nat → Int} (q0 : Nat) (hV : R[q0]? = some (ar P av 64 V)) (hg : GV V) {X : Yq} (cx : Yx X cL_chances RL ({ frames := 7, cells := 0, slots := 0, locals := 170 } : Room) 12 P) (ys : Ys X P) (sx : Sy X b L xs) (qx : Yr X (wld P n M0 ++ R) 0 0 (qT P n R (ChR V)) (some .boolean)) {M : Mm} {up low i : Int} (hC : CSx V M i up low) : YG X 209 [(0, .ref (P.2.1 0)), (1, .ref b), (2, .ref av), (3, .int (iI (V 9))), (4, .long (lI up)), (6, .long (lI low)), (8, .int (iI ((loN V : Nat) : Int))), (9, .int (iI i))] [] (wld P n M ++ R) 0 0 := by
  have hc8 := ceV_b (L := L) (xs := xs) (k := 8) (by decide)
  have hk1 := KP_call hC.2.2.1 (1 + ceV L xs 8 % 99999)
  have hv1 := hC.1.kp hk1
  have hz1 := hC.2.1.kp hk1
  have hcal := cal_V hg hC.1 (s := (1 + ceV L xs 8 % 99999)) (by omega)
  have hk2 := KP_best hk1.2
  have hbst := bst_V hg hv1
  have hrel := cal_bst hg hbst hcal.2 (fun h => bst_told hg hv1 h)
  have hclo := clV_lo hC.1 (1 + ceV L xs 8 % 99999)
  have hlo := loN_lt V
  have h32 := (nN_5 hg).2
  have hcl := ndN_le2 hclo
  have hbb : ir (bstA (calM M (1 + ceV L xs 8 % 99999))) := by rcases hbst with ⟨q, _⟩ | ⟨m, q1, _, q2, _⟩ <;> exact ⟨by omega, by omega⟩
  have hbt := fun h => bst_told hg hv1 h
  refine l_aload_n cx (pc2 := 210) 0 rfl dL_chances_209 rfl ?_
  refine l_iconst cx (pc2 := 211) dL_chances_210 rfl ?_
  refine l_aload_n cx (pc2 := 212) 1 rfl dL_chances_211 rfl ?_
  refine l_bipush cx (pc2 := 214) ⟨by decide, by decide⟩ dL_chances_212 rfl ?_
  refine l_clI cx (pc2 := 217) (st := [.int (iI 1), .ref (P.2.1 0)]) ys sx (As := [.ref b, .int (iI 8)]) (c_L_cell 8 (by decide)) wM_L_cell wS_L_cell kl_L_19 ⟨rfl, rfl, Nat.le_of_ble_eq_true rfl, Nat.le_of_ble_eq_true rfl⟩ (Nat.le_of_ble_eq_true rfl) ⟨Nat.zero_le _, Nat.zero_le _⟩ rfl rfl dL_chances_214 rfl ?_
  refine l_ldc cx (pc2 := 219) kk_L_140 dL_chances_217 rfl ?_
  refine l_irem cx (pc2 := 220) (by exact ⟨ceV_ir (by decide), ⟨by decide, by decide⟩, by decide, Or.inr (by decide)⟩) dL_chances_219 rfl ?_
  refine l_rwi (y := iI (ceV L xs 8 % 99999)) (by rw [trem (by omega)]) ?_
  refine l_iadd cx (pc2 := 221) dL_chances_220 rfl ?_
  refine l_ctI cx (pc2 := 224) (st := []) ys hn (M := M) (As := [.int (iI (1 + (ceV L xs 8 % 99999)))]) (c_callL (M := M) hn hg hC.1 hC.2.2.1 (1 + ceV L xs 8 % 99999) (by omega)) wM_X11_call wV_X11_call rfl kl_L_141 ⟨rfl, rfl, Nat.le_of_ble_eq_true rfl, Nat.le_of_ble_eq_true rfl⟩ (Nat.le_of_ble_eq_true rfl) ⟨Nat.zero_le _, Nat.zero_le _⟩ rfl rfl rfl dL_chances_221 rfl ?_
  refine l_istore cx (pc2 := 226) (lv2 := [(0, .ref (P.2.1 0)), (1, .ref b), (2, .ref av), (3, .int (iI (V 9))), (4, .long (lI up)), (6, .long (lI low)), (8, .int (iI ((loN V : Nat) : Int))), (9, .int (iI ((clV M (1 + ceV L xs 8 % 99999) : Nat) : Int)))]) rfl (Nat.le_of_ble_eq_true rfl) dL_chances_224 rfl ?_
  refine l_aload_n cx (pc2 := 227) 0 rfl dL_chances_226 rfl ?_
  refine l_ctI cx (pc2 := 230) (st := []) ys hn (M := (calM M (1 + ceV L xs 8 % 99999))) (As := []) (c_X11_asked (M := (calM M (1 + ceV L xs 8 % 99999))) hn) wM_X11_asked wV_X11_asked rfl kl_L_65 ⟨rfl, rfl, Nat.le_of_ble_eq_true rfl, Nat.le_of_ble_eq_true rfl⟩ (Nat.le_of_ble_eq_true rfl) ⟨Nat.zero_le _, Nat.zero_le _⟩ rfl rfl rfl dL_chances_227 rfl ?_
  refine l_istore cx (pc2 := 232) (lv2 := [(0, .ref (P.2.1 0)), (1, .ref b), (2, .ref av), (3, .int (iI (V 9))), (4, .long (lI up)), (6, .long (lI low)), (8, .int (iI ((loN V : Nat) : Int))), (9, .int (iI ((clV M (1 + ceV L xs 8 % 99999) : Nat) : Int))), (10, .int (iI (calM M (1 + ceV L xs 8 % 99999) 0 15)))]) rfl (Nat.le_of_ble_eq_true rfl) dL_chances_230 rfl ?_
  refine l_aload_n cx (pc2 := 233) 0 rfl dL_chances_232 rfl ?_
  refine l_ctI cx (pc2 := 236) (st := []) ys hn (M := (calM M (1 + ceV L xs 8 % 99999))) (As := []) (c_X11_best (M := (calM M (1 + ceV L xs 8 % 99999))) hn hk1.2) wM_X11_best wV_X11_best rfl kl_L_80 ⟨rfl, rfl, Nat.le_of_ble_eq_true rfl, Nat.le_of_ble_eq_true rfl⟩ (Nat.le_of_ble_eq_true rfl) ⟨Nat.zero_le _, Nat.zero_le _⟩ rfl rfl rfl dL_chances_233 rfl ?_
  refine l_istore cx (pc2 := 238) (lv2 := [(0, .ref (P.2.1 0)), (1, .ref b), (2, .ref av), (3, .int (iI (V 9))), (4, .long (lI up)), (6, .long (lI low)), (8, .int (iI ((loN V : Nat) : Int))), (9, .int (iI ((clV M (1 + ceV L xs 8 % 99999) : Nat) : Int))), (10, .int (iI (calM M (1 + ceV L xs 8 % 99999) 0 15))), (11, .int (iI (bstA (calM M (1 + ceV L xs 8 % 99999)))))]) rfl (Nat.le_of_ble_eq_true rfl) dL_chances_236 rfl ?_
  have hwr : ir (calM M (1 + ceV L xs 8 % 99999) 0 15) := by
    rcases hcal.2 with q | ⟨j, _, q⟩
    · rw [q]; exact ⟨by decide, by decide⟩
    · rw [q]; have := WV_b hg j; exact ⟨by omega, by omega⟩
  refine l_iload cx (pc2 := 240) 7 rfl dL_chances_238 rfl ?_
  refine l_iload cx (pc2 := 242) 6 rfl dL_chances_240 rfl ?_
  refine l_iconst cx (pc2 := 243) dL_chances_242 rfl ?_
  refine l_ixor cx (pc2 := 244) dL_chances_243 rfl ?_
  refine l_iand cx (pc2 := 245) dL_chances_244 rfl ?_
  refine l_rwi (y := iI ((ndN (clV M (1 + ceV L xs 8 % 99999)) (loN V) : Nat) : Int)) (nd_iI (by omega) (by omega)) ?_
  refine l_if_ne cx (pc2 := 248) (tgt := 281) (by rw [hclo]; exact ⟨by decide, by decide⟩) dL_chances_245 (by decide) rfl (fun h_1 => ?_) (fun h_1 => ?_)
  · skip
    exact absurd (by rw [hclo]; rfl) h_1
  · skip
    refine l_iload cx (pc2 := 250) 9 rfl dL_chances_248 rfl ?_
    refine l_if_ge cx (pc2 := 253) (tgt := 263) (by exact hbb) dL_chances_250 (by decide) rfl (fun h_2 => ?_) (fun h_2 => ?_)
    · skip
      have hmr : ir (bstM (calM M (1 + ceV L xs 8 % 99999)) 0 15) := by
        rw [hbt (by omega)]; have := WV_b hg (bstA (calM M (1 + ceV L xs 8 % 99999))).toNat; exact ⟨by omega, by omega⟩
      refine l_iload cx (pc2 := 265) 8 rfl dL_chances_263 rfl ?_
      refine l_aload_n cx (pc2 := 266) 0 rfl dL_chances_265 rfl ?_
      refine l_ctI cx (pc2 := 269) (st := [.int (iI (calM M (1 + ceV L xs 8 % 99999) 0 15))]) ys hn (M := (bstM (calM M (1 + ceV L xs 8 % 99999)))) (As := []) (c_X11_asked (M := (bstM (calM M (1 + ceV L xs 8 % 99999)))) hn) wM_X11_asked wV_X11_asked rfl kl_L_65 ⟨rfl, rfl, Nat.le_of_ble_eq_true rfl, Nat.le_of_ble_eq_true rfl⟩ (Nat.le_of_ble_eq_true rfl) ⟨Nat.zero_le _, Nat.zero_le _⟩ rfl rfl rfl dL_chances_266 rfl ?_
      refine l_icmp_gt cx (pc2 := 272) (tgt := 281) ⟨(by first | exact hwr | exact hmr), (by first | exact hwr | exact hmr)⟩ dL_chances_269 (by decide) rfl (fun h_3 => ?_) (fun h_3 => ?_)
      · skip
        omega
      · skip
        refine l_iload cx (pc2 := 274) 7 rfl dL_chances_272 rfl ?_
        refine l_if_lt cx (pc2 := 277) (tgt := 281) (by first | assumption | omega | exact hg.1.1 _ | exact ⟨by omega, by omega⟩) dL_chances_274 (by decide) rfl (fun h_4 => ?_) (fun h_4 => ?_)
        · skip
          omega
        · skip
          refine l_iconst cx (pc2 := 278) dL_chances_277 rfl ?_
          refine l_goto cx (tgt := 282) dL_chances_278 (by decide) ?_
          exact l_zret cx (Or.inr rfl) qx dL_chances_282 (by exact ⟨rfl, _, ⟨hv1.kp hk2, hz1.kp hk2, hk2.2⟩, rfl⟩)
    · skip
      refine l_iload cx (pc2 := 255) 8 rfl dL_chances_253 rfl ?_
      refine l_bipush cx (pc2 := 257) ⟨by decide, by decide⟩ dL_chances_255 rfl ?_
      refine l_icmp_ne cx (pc2 := 260) (tgt := 281) ⟨(by first | exact hwr | exact ⟨by decide, by decide⟩), ⟨by decide, by decide⟩⟩ dL_chances_257 (by decide) rfl (fun h_5 => ?_) (fun h_5 => ?_)
      · skip
        omega
      · skip
        refine l_goto cx (tgt := 272) dL_chances_260 (by decide) ?_
        refine l_iload cx (pc2 := 274) 7 rfl dL_chances_272 rfl ?_
        refine l_if_lt cx (pc2 := 277) (tgt := 281) (by first | assumption | omega | exact hg.1.1 _ | exact ⟨by omega, by omega⟩) dL_chances_274 (by decide) rfl (fun h_6 => ?_) (fun h_6 => ?_)
        · skip
          omega
        · skip
          refine l_iconst cx (pc2 := 278) dL_chances_277 rfl ?_
          refine l_goto cx (tgt := 282) dL_chances_278 (by decide) ?_
          exact l_zret cx (Or.inr rfl) qx dL_chances_282 (by exact ⟨rfl, _, ⟨hv1.kp hk2, hz1.kp hk2, hk2.2⟩, rfl⟩)
set_option maxHeartbeats 4000000 in
set_option maxRecDepth 100000 in
theorem chances_L2 {P : Pl} {b L : Nat} {xs : Nat → Int32} {n : Nat} (hn : NN n) {M0 : Mm} {R : va_W} {av : Nat} {V : Nat → Int} (q0 : Nat) (hV : R[q0]? = some (ar P av 64 V)) (hg : GV V) {X : Yq} (cx : Yx X cL_chances RL ({ frames := 7, cells := 0, slots := 0, locals := 170 } : Room) 12 P) (ys : Ys X P) (sx : Sy X b L xs) (qx : Yr X (wld P n M0 ++ R) 0 0 (qT P n R (ChR V)) (some .boolean)) : ∀ (fu : Nat) (M : Mm) (up : Int) (low : Int) (i : Int), (CSx V M i up low) → (0 ≤ i ∧ i ≤ V 9) → ((V 9 - i).toNat) ≤ fu → YG X 112 [(0, .ref (P.2.1 0)), (1, .ref b), (2, .ref av), (3, .int (iI (V 9))), (4, .long (lI up)), (6, .long (lI low)), (8, .int (iI ((loN V : Nat) : Int))), (9, .int (iI i))] [] (wld P n M ++ R) 0 0 := by
  intro fu
  induction fu using Nat.strongRecOn with
  | _ fu ih =>
    intro M up low i hC hi hfu
    have h9 := hg.2.1
    have hlo := loN_lt V
    have h32 := (nN_5 hg).2
    have hB := hC.b hg
    have hc2 := ceV_b (L := L) (xs := xs) (k := 2 + i) (by omega)
    refine l_iload cx (pc2 := 114) 7 rfl dL_chances_112 rfl ?_
    refine l_iload_n cx (pc2 := 115) 3 rfl dL_chances_114 rfl ?_
    refine l_icmp_ge cx (pc2 := 118) (tgt := 209) ⟨(by first | assumption | omega | exact hg.1.1 _ | exact ⟨by omega, by omega⟩), (by first | assumption | omega | exact hg.1.1 _ | exact ⟨by omega, by omega⟩)⟩ dL_chances_115 (by decide) rfl (fun h_1 => ?_) (fun h_1 => ?_)
    · skip
      exact chances_E hn q0 hV hg cx ys sx qx hC
    · skip
      refine l_iload cx (pc2 := 120) 6 rfl dL_chances_118 rfl ?_
      refine l_iload cx (pc2 := 122) 7 rfl dL_chances_120 rfl ?_
      refine l_ishr cx (pc2 := 123) dL_chances_122 rfl ?_
      refine l_iconst cx (pc2 := 124) dL_chances_123 rfl ?_
      refine l_iand cx (pc2 := 125) dL_chances_124 rfl ?_
      refine l_rwi (y := iI (if (loN V).testBit i.toNat then 1 else 0)) (by rw [shr1 (by omega) (by omega) (by omega) (by omega), Int.toNat_natCast]) ?_
      refine l_iconst cx (pc2 := 126) dL_chances_125 rfl ?_
      refine l_icmp_ne cx (pc2 := 129) (tgt := 203) ⟨(by split <;> exact ⟨by decide, by decide⟩), ⟨by decide, by decide⟩⟩ dL_chances_126 (by decide) rfl (fun h_2 => ?_) (fun h_2 => ?_)
      · skip
        refine l_iinc cx (pc2 := 206) 7 rfl (lv2 := [(0, .ref (P.2.1 0)), (1, .ref b), (2, .ref av), (3, .int (iI (V 9))), (4, .long (lI up)), (6, .long (lI low)), (8, .int (iI ((loN V : Nat) : Int))), (9, .int (iI (i + 1)))]) rfl (Nat.le_of_ble_eq_true rfl) dL_chances_203 rfl ?_
        refine l_goto cx (tgt := 112) dL_chances_206 (by decide) ?_
        exact ih _ (by omega) _ _ _ (i + 1) hC.skip (by omega) (Nat.le_refl _)
      · skip
        have hbit : (loN V).testBit i.toNat = true := Classical.byContradiction fun q => by rw [if_neg q] at h_2; exact absurd h_2 (by decide)
        refine l_aload_n cx (pc2 := 130) 0 rfl dL_chances_129 rfl ?_
        refine l_iload cx (pc2 := 132) 7 rfl dL_chances_130 rfl ?_
        refine l_aload_n cx (pc2 := 133) 1 rfl dL_chances_132 rfl ?_
        refine l_iconst cx (pc2 := 134) dL_chances_133 rfl ?_
        refine l_iload cx (pc2 := 136) 7 rfl dL_chances_134 rfl ?_
        refine l_iadd cx (pc2 := 137) dL_chances_136 rfl ?_
        refine l_clI cx (pc2 := 140) (st := [.int (iI i), .ref (P.2.1 0)]) ys sx (As := [.ref b, .int (iI (2 + i))]) (c_L_cell (2 + i) (by omega)) wM_L_cell wS_L_cell kl_L_19 ⟨rfl, rfl, Nat.le_of_ble_eq_true rfl, Nat.le_of_ble_eq_true rfl⟩ (Nat.le_of_ble_eq_true rfl) ⟨Nat.zero_le _, Nat.zero_le _⟩ rfl rfl dL_chances_137 rfl ?_
        refine l_bipush cx (pc2 := 142) ⟨by decide, by decide⟩ dL_chances_140 rfl ?_
        refine l_irem cx (pc2 := 143) (by exact ⟨ceV_ir (by omega), ⟨by decide, by decide⟩, by decide, Or.inr (by decide)⟩) dL_chances_142 rfl ?_
        refine l_rwi (y := iI (ceV L xs (2 + i) % 13)) (by rw [trem (by omega)]) ?_
        have hiN : i.toNat < nN V := by show i.toNat < (V 9).toNat; omega
        have hCi : CSx V M ((i.toNat : Nat) : Int) up low := by rw [Int.toNat_of_nonneg (by omega)]; exact hC
        have hch := hCi.cha hg hiN (p := (ceV L xs (2 + i) % 13)) (by omega)
        have hcc : CI (stM M (27 + i.toNat) 6 (ceV L xs (2 + i) % 13)) := CI_ch hC.2.2.1 (by omega) (by omega)
        have hB2 := hch.1.b hg
        refine l_ctI cx (pc2 := 146) (st := []) ys hn (M := M) (As := [.int (iI i), .int (iI (ceV L xs (2 + i) % 13))]) (c_chaL (M := M) hn hg hC (by omega) hbit (ceV L xs (2 + i) % 13) (by omega)) wM_X11_chance wV_X11_chance rfl kl_L_137 ⟨rfl, rfl, Nat.le_of_ble_eq_true rfl, Nat.le_of_ble_eq_true rfl⟩ (Nat.le_of_ble_eq_true rfl) ⟨Nat.zero_le _, Nat.zero_le _⟩ rfl rfl rfl dL_chances_143 rfl ?_
        refine l_bipush cx (pc2 := 148) ⟨by decide, by decide⟩ dL_chances_146 rfl ?_
        refine l_icmp_ne cx (pc2 := 151) (tgt := 189) ⟨⟨by decide, by decide⟩, ⟨by decide, by decide⟩⟩ dL_chances_148 (by decide) rfl (fun h_3 => ?_) (fun h_3 => ?_)
        · skip
          omega
        · skip
          refine l_aload_n cx (pc2 := 152) 0 rfl dL_chances_151 rfl ?_
          refine l_ctI cx (pc2 := 155) (st := []) ys hn (M := (stM M (27 + i.toNat) 6 (ceV L xs (2 + i) % 13))) (As := []) (c_X11_odds (M := (stM M (27 + i.toNat) 6 (ceV L xs (2 + i) % 13))) hn hcc) wM_X11_odds wV_X11_odds rfl kl_L_127 ⟨rfl, rfl, Nat.le_of_ble_eq_true rfl, Nat.le_of_ble_eq_true rfl⟩ (Nat.le_of_ble_eq_true rfl) ⟨Nat.zero_le _, Nat.zero_le _⟩ rfl rfl rfl dL_chances_152 rfl ?_
          refine l_iconst cx (pc2 := 156) dL_chances_155 rfl ?_
          refine l_icmp_ne cx (pc2 := 159) (tgt := 189) ⟨⟨by decide, by decide⟩, ⟨by decide, by decide⟩⟩ dL_chances_156 (by decide) rfl (fun h_4 => ?_) (fun h_4 => ?_)
          · skip
            omega
          · skip
            refine l_aload_n cx (pc2 := 160) 0 rfl dL_chances_159 rfl ?_
            refine l_ctL cx (pc2 := 163) (st := []) ys hn (M := (oddM (stM M (27 + i.toNat) 6 (ceV L xs (2 + i) % 13)))) (As := []) (c_X11_upper (M := (oddM (stM M (27 + i.toNat) 6 (ceV L xs (2 + i) % 13)))) hn) wM_X11_upper wV_X11_upper rfl kl_L_130 ⟨rfl, rfl, Nat.le_of_ble_eq_true rfl, Nat.le_of_ble_eq_true rfl⟩ (Nat.le_of_ble_eq_true rfl) ⟨Nat.zero_le _, Nat.zero_le _⟩ rfl rfl rfl dL_chances_160 rfl ?_
            refine l_lload cx (pc2 := 165) 5 rfl dL_chances_163 rfl ?_
            refine l_lmul cx (pc2 := 166) dL_chances_165 rfl ?_
            refine l_lload cx (pc2 := 168) 4 rfl dL_chances_166 rfl ?_
            refine l_aload_n cx (pc2 := 169) 0 rfl dL_chances_168 rfl ?_
            refine l_ctL cx (pc2 := 172) (st := [.long (lI up), .long (lI ((oddM (stM M (27 + i.toNat) 6 (ceV L xs (2 + i) % 13)) 0 16) * low))]) ys hn (M := (oddM (stM M (27 + i.toNat) 6 (ceV L xs (2 + i) % 13)))) (As := []) (c_X11_lower (M := (oddM (stM M (27 + i.toNat) 6 (ceV L xs (2 + i) % 13)))) hn) wM_X11_lower wV_X11_lower rfl kl_L_134 ⟨rfl, rfl, Nat.le_of_ble_eq_true rfl, Nat.le_of_ble_eq_true rfl⟩ (Nat.le_of_ble_eq_true rfl) ⟨Nat.zero_le _, Nat.zero_le _⟩ rfl rfl rfl dL_chances_169 rfl ?_
            refine l_lmul cx (pc2 := 173) dL_chances_172 rfl ?_
            refine l_lcmp cx (pc2 := 174) ⟨(by first | exact mul_lr (by omega) (by omega)), (by first | exact mul_lr (by omega) (by omega))⟩ dL_chances_173 rfl ?_
            refine l_if_lt cx (pc2 := 177) (tgt := 189) (by (repeat' split) <;> exact ⟨by decide, by decide⟩) dL_chances_174 (by decide) rfl (fun h_5 => ?_) (fun h_5 => ?_)
            · skip
              have hmo := hch.2; (repeat' split at h_5) <;> omega
            · skip
              refine l_aload_n cx (pc2 := 178) 0 rfl dL_chances_177 rfl ?_
              refine l_ctL cx (pc2 := 181) (st := []) ys hn (M := (oddM (stM M (27 + i.toNat) 6 (ceV L xs (2 + i) % 13)))) (As := []) (c_X11_upper (M := (oddM (stM M (27 + i.toNat) 6 (ceV L xs (2 + i) % 13)))) hn) wM_X11_upper wV_X11_upper rfl kl_L_130 ⟨rfl, rfl, Nat.le_of_ble_eq_true rfl, Nat.le_of_ble_eq_true rfl⟩ (Nat.le_of_ble_eq_true rfl) ⟨Nat.zero_le _, Nat.zero_le _⟩ rfl rfl rfl dL_chances_178 rfl ?_
              refine l_aload_n cx (pc2 := 182) 0 rfl dL_chances_181 rfl ?_
              refine l_ctL cx (pc2 := 185) (st := [.long (lI (oddM (stM M (27 + i.toNat) 6 (ceV L xs (2 + i) % 13)) 0 16))]) ys hn (M := (oddM (stM M (27 + i.toNat) 6 (ceV L xs (2 + i) % 13)))) (As := []) (c_X11_lower (M := (oddM (stM M (27 + i.toNat) 6 (ceV L xs (2 + i) % 13)))) hn) wM_X11_lower wV_X11_lower rfl kl_L_134 ⟨rfl, rfl, Nat.le_of_ble_eq_true rfl, Nat.le_of_ble_eq_true rfl⟩ (Nat.le_of_ble_eq_true rfl) ⟨Nat.zero_le _, Nat.zero_le _⟩ rfl rfl rfl dL_chances_182 rfl ?_
              refine l_lcmp cx (pc2 := 186) ⟨(by exact ⟨by omega, by omega⟩), (by exact ⟨by omega, by omega⟩)⟩ dL_chances_185 rfl ?_
              refine l_if_le cx (pc2 := 189) (tgt := 191) (by (repeat' split) <;> exact ⟨by decide, by decide⟩) dL_chances_186 (by decide) rfl (fun h_6 => ?_) (fun h_6 => ?_)
              · skip
                refine l_aload_n cx (pc2 := 192) 0 rfl dL_chances_191 rfl ?_
                refine l_ctL cx (pc2 := 195) (st := []) ys hn (M := (oddM (stM M (27 + i.toNat) 6 (ceV L xs (2 + i) % 13)))) (As := []) (c_X11_upper (M := (oddM (stM M (27 + i.toNat) 6 (ceV L xs (2 + i) % 13)))) hn) wM_X11_upper wV_X11_upper rfl kl_L_130 ⟨rfl, rfl, Nat.le_of_ble_eq_true rfl, Nat.le_of_ble_eq_true rfl⟩ (Nat.le_of_ble_eq_true rfl) ⟨Nat.zero_le _, Nat.zero_le _⟩ rfl rfl rfl dL_chances_192 rfl ?_
                refine l_lstore cx (pc2 := 197) (lv2 := [(0, .ref (P.2.1 0)), (1, .ref b), (2, .ref av), (3, .int (iI (V 9))), (4, .long (lI (oddM (stM M (27 + i.toNat) 6 (ceV L xs (2 + i) % 13)) 0 16))), (6, .long (lI low)), (8, .int (iI ((loN V : Nat) : Int))), (9, .int (iI i))]) rfl (Nat.le_of_ble_eq_true rfl) dL_chances_195 rfl ?_
                refine l_aload_n cx (pc2 := 198) 0 rfl dL_chances_197 rfl ?_
                refine l_ctL cx (pc2 := 201) (st := []) ys hn (M := (oddM (stM M (27 + i.toNat) 6 (ceV L xs (2 + i) % 13)))) (As := []) (c_X11_lower (M := (oddM (stM M (27 + i.toNat) 6 (ceV L xs (2 + i) % 13)))) hn) wM_X11_lower wV_X11_lower rfl kl_L_134 ⟨rfl, rfl, Nat.le_of_ble_eq_true rfl, Nat.le_of_ble_eq_true rfl⟩ (Nat.le_of_ble_eq_true rfl) ⟨Nat.zero_le _, Nat.zero_le _⟩ rfl rfl rfl dL_chances_198 rfl ?_
                refine l_lstore cx (pc2 := 203) (lv2 := [(0, .ref (P.2.1 0)), (1, .ref b), (2, .ref av), (3, .int (iI (V 9))), (4, .long (lI (oddM (stM M (27 + i.toNat) 6 (ceV L xs (2 + i) % 13)) 0 16))), (6, .long (lI (oddM (stM M (27 + i.toNat) 6 (ceV L xs (2 + i) % 13)) 0 17))), (8, .int (iI ((loN V : Nat) : Int))), (9, .int (iI i))]) rfl (Nat.le_of_ble_eq_true rfl) dL_chances_201 rfl ?_
                refine l_iinc cx (pc2 := 206) 7 rfl (lv2 := [(0, .ref (P.2.1 0)), (1, .ref b), (2, .ref av), (3, .int (iI (V 9))), (4, .long (lI (oddM (stM M (27 + i.toNat) 6 (ceV L xs (2 + i) % 13)) 0 16))), (6, .long (lI (oddM (stM M (27 + i.toNat) 6 (ceV L xs (2 + i) % 13)) 0 17))), (8, .int (iI ((loN V : Nat) : Int))), (9, .int (iI (i + 1)))]) rfl (Nat.le_of_ble_eq_true rfl) dL_chances_203 rfl ?_
                refine l_goto cx (tgt := 112) dL_chances_206 (by decide) ?_
                have hc4 := hch.1
                rw [Int.toNat_of_nonneg (show 0 ≤ i by omega)] at hc4
                exact ih _ (by omega) _ _ _ (i + 1) hc4 (by omega) (Nat.le_refl _)
              · skip
                (repeat' split at h_6) <;> omega
set_option maxHeartbeats 4000000 in
set_option maxRecDepth 100000 in
theorem chances_L1 {P : Pl} {b L : Nat} {xs : Nat → Int32} {n : Nat} (hn : NN n) {M0 : Mm} {R : va_W} {av : Nat} {V : Nat → Int} (q0 : Nat) (hV : R[q0]? = some (ar P av 64 V)) (hg : GV V) {X : Yq} (cx : Yx X cL_chances RL ({ frames := 7, cells := 0, slots := 0, locals := 170 } : Room) 12 P) (ys : Ys X P) (sx : Sy X b L xs) (qx : Yr X (wld P n M0 ++ R) 0 0 (qT P n R (ChR V)) (some .boolean)) (hC : CSx V (oddM M0) 0 (oddM M0 0 16) (oddM M0 0 17)) : ∀ (fu : Nat) (i : Int), (0 ≤ i ∧ i ≤ V 9) → ((V 9 - i).toNat) ≤ fu → YG X 28 [(0, .ref (P.2.1 0)), (1, .ref b), (2, .ref av), (3, .int (iI (V 9))), (4, .long (lI (oddM M0 0 16))), (6, .long (lI (oddM M0 0 17))), (8, .int (iI ((bsum (loB V) i.toNat : Nat) : Int))), (9, .int (iI i))] [] (wld P n (oddM M0) ++ R) 0 0 := by
  intro fu
  induction fu using Nat.strongRecOn with
  | _ fu ih =>
    intro i hi hfu
    have h9 := hg.2.1
    have hlo := loN_lt V
    have hmu := muN_lt V
    have h32 := (nN_5 hg).2
    have hlm : loN V ||| muN V < 2 ^ nN V := Nat.or_lt_two_pow hlo hmu
    have hup := hC.fst hg
    have heb := ENV_b hg hlm
    refine l_iload cx (pc2 := 30) 7 rfl dL_chances_28 rfl ?_
    refine l_iload_n cx (pc2 := 31) 3 rfl dL_chances_30 rfl ?_
    refine l_icmp_ge cx (pc2 := 34) (tgt := 81) ⟨(by first | assumption | omega | exact hg.1.1 _ | exact ⟨by omega, by omega⟩), (by first | assumption | omega | exact hg.1.1 _ | exact ⟨by omega, by omega⟩)⟩ dL_chances_31 (by decide) rfl (fun h_1 => ?_) (fun h_1 => ?_)
    · skip
      have hlE : bsum (loB V) i.toNat = loN V := by unfold loN; rw [show i.toNat = nN V from by show i.toNat = (V 9).toNat; omega]
      rw [hlE]
      refine l_lload cx (pc2 := 83) 4 rfl dL_chances_81 rfl ?_
      refine l_aload_n cx (pc2 := 84) 0 rfl dL_chances_83 rfl ?_
      refine l_iload cx (pc2 := 86) 6 rfl dL_chances_84 rfl ?_
      refine l_aload_n cx (pc2 := 87) 2 rfl dL_chances_86 rfl ?_
      refine l_clI cx (pc2 := 90) (st := [.int (iI ((loN V : Nat) : Int)), .ref (P.2.1 0), .long (lI (oddM M0 0 16))]) ys sx (As := [.ref av]) (c_L_musts (n + q0) (wR_get hV) hg.1.1 (by omega)) wM_L_musts wS_L_musts kl_L_103 ⟨rfl, rfl, Nat.le_of_ble_eq_true rfl, Nat.le_of_ble_eq_true rfl⟩ (Nat.le_of_ble_eq_true rfl) ⟨Nat.zero_le _, Nat.zero_le _⟩ rfl rfl dL_chances_87 rfl ?_
      refine l_ior cx (pc2 := 91) dL_chances_90 rfl ?_
      refine l_rwi (y := iI ((loN V ||| muN V : Nat) : Int)) (by rw [or_iI (by omega) (by omega), Int.toNat_natCast, Int.toNat_natCast]) ?_
      refine l_ctI cx (pc2 := 94) (st := [.long (lI (oddM M0 0 16))]) ys hn (M := (oddM M0)) (As := [.int (iI ((loN V ||| muN V : Nat) : Int))]) (c_canL (M := (oddM M0)) hn hg hC.1 hC.2.2.1 ((loN V ||| muN V : Nat) : Int) (by omega)) wM_X11_can wV_X11_can rfl kl_L_89 ⟨rfl, rfl, Nat.le_of_ble_eq_true rfl, Nat.le_of_ble_eq_true rfl⟩ (Nat.le_of_ble_eq_true rfl) ⟨Nat.zero_le _, Nat.zero_le _⟩ rfl rfl rfl dL_chances_91 rfl ?_
      refine l_rwi (y := iI (ENV V (loN V ||| muN V))) (by rw [Int.toNat_natCast]) ?_
      refine l_if_lt cx (pc2 := 97) (tgt := 102) (by first | assumption | omega | exact hg.1.1 _ | exact ⟨by omega, by omega⟩) dL_chances_94 (by decide) rfl (fun h_2 => ?_) (fun h_2 => ?_)
      · skip
        refine l_lconst cx (pc2 := 103) 0 rfl dL_chances_102 rfl ?_
        refine l_lcmpE cx (pc2 := 104) (by first | exact congrArg lI (hup.1 (by assumption)) | exact congrArg lI (hup.2 (by assumption))) dL_chances_103 rfl ?_
        refine l_if_eq cx (pc2 := 107) (tgt := 109) ⟨by decide, by decide⟩ dL_chances_104 (by decide) rfl (fun h_3 => ?_) (fun h_3 => ?_)
        · skip
          refine l_iconst cx (pc2 := 110) dL_chances_109 rfl ?_
          refine l_istore cx (pc2 := 112) (lv2 := [(0, .ref (P.2.1 0)), (1, .ref b), (2, .ref av), (3, .int (iI (V 9))), (4, .long (lI (oddM M0 0 16))), (6, .long (lI (oddM M0 0 17))), (8, .int (iI ((loN V : Nat) : Int))), (9, .int (iI 0))]) rfl (Nat.le_of_ble_eq_true rfl) dL_chances_110 rfl ?_
          have hk := KP_can hC.2.2.1 ((loN V ||| muN V : Nat) : Int)
          exact chances_L2 hn q0 hV hg cx ys sx qx _ _ _ _ 0 ⟨hC.1.kp hk, hC.2.1.kp hk, hk.2, fun j h1 h2 => by rw [hk.1 (27 + j) (by have : nN V ≤ 5 := (nN_5 hg).1; omega)]; exact hC.2.2.2.1 j h1 h2, by rw [cF_kp hk]; exact hC.2.2.2.2⟩ (by omega) (Nat.le_refl _)
        · skip
          omega
      · skip
        refine l_lload cx (pc2 := 99) 5 rfl dL_chances_97 rfl ?_
        refine l_goto cx (tgt := 103) dL_chances_99 (by decide) ?_
        refine l_lcmpE cx (pc2 := 104) (by first | exact congrArg lI (hup.1 (by assumption)) | exact congrArg lI (hup.2 (by assumption))) dL_chances_103 rfl ?_
        refine l_if_eq cx (pc2 := 107) (tgt := 109) ⟨by decide, by decide⟩ dL_chances_104 (by decide) rfl (fun h_4 => ?_) (fun h_4 => ?_)
        · skip
          refine l_iconst cx (pc2 := 110) dL_chances_109 rfl ?_
          refine l_istore cx (pc2 := 112) (lv2 := [(0, .ref (P.2.1 0)), (1, .ref b), (2, .ref av), (3, .int (iI (V 9))), (4, .long (lI (oddM M0 0 16))), (6, .long (lI (oddM M0 0 17))), (8, .int (iI ((loN V : Nat) : Int))), (9, .int (iI 0))]) rfl (Nat.le_of_ble_eq_true rfl) dL_chances_110 rfl ?_
          have hk := KP_can hC.2.2.1 ((loN V ||| muN V : Nat) : Int)
          exact chances_L2 hn q0 hV hg cx ys sx qx _ _ _ _ 0 ⟨hC.1.kp hk, hC.2.1.kp hk, hk.2, fun j h1 h2 => by rw [hk.1 (27 + j) (by have : nN V ≤ 5 := (nN_5 hg).1; omega)]; exact hC.2.2.2.1 j h1 h2, by rw [cF_kp hk]; exact hC.2.2.2.2⟩ (by omega) (Nat.le_refl _)
        · skip
          omega
    · skip
      refine l_iload cx (pc2 := 36) 6 rfl dL_chances_34 rfl ?_
      refine l_aload_n cx (pc2 := 37) 2 rfl dL_chances_36 rfl ?_
      refine l_bipush cx (pc2 := 39) ⟨by decide, by decide⟩ dL_chances_37 rfl ?_
      refine l_bipush cx (pc2 := 41) ⟨by decide, by decide⟩ dL_chances_39 rfl ?_
      refine l_iload cx (pc2 := 43) 7 rfl dL_chances_41 rfl ?_
      refine l_imul cx (pc2 := 44) dL_chances_43 rfl ?_
      refine l_iadd cx (pc2 := 45) dL_chances_44 rfl ?_
      refine l_iaload cx (pc2 := 46) (N := 64) (V := V) (n + q0) (wR_get hV) (by first | assumption | omega | exact hg.1.1 _ | exact ⟨by omega, by omega⟩) (by first | assumption | omega | exact hg.1.1 _ | exact ⟨by omega, by omega⟩) (Nat.le_of_ble_eq_true rfl) dL_chances_45 rfl ?_
      refine l_rwi (y := iI (V (10 + 6 * i.toNat))) (congrArg iI (congrArg V (by omega))) ?_
      refine l_iconst cx (pc2 := 47) dL_chances_46 rfl ?_
      refine l_icmp_eq cx (pc2 := 50) (tgt := 64) ⟨(by first | assumption | omega | exact hg.1.1 _ | exact ⟨by omega, by omega⟩), ⟨by decide, by decide⟩⟩ dL_chances_47 (by decide) rfl (fun h_5 => ?_) (fun h_5 => ?_)
      · skip
        refine l_iconst cx (pc2 := 65) dL_chances_64 rfl ?_
        refine l_iload cx (pc2 := 67) 7 rfl dL_chances_65 rfl ?_
        refine l_ishl cx (pc2 := 68) dL_chances_67 rfl ?_
        refine l_rwi (y := iI ((bitN i : Nat) : Int)) (shb (by omega) (by omega)) ?_
        refine l_goto cx (tgt := 72) dL_chances_68 (by decide) ?_
        refine l_ior cx (pc2 := 73) dL_chances_72 rfl ?_
        refine l_rwi (y := iI ((bsum (loB V) (i + 1).toNat : Nat) : Int)) (by first | exact or1 (loB V) (i := i) (by omega) (by omega) (loB_t (by first | exact Or.inl (by assumption) | exact Or.inr (by assumption))) | exact or0 (loB V) (i := i) (by omega) (loB_f (by assumption) (by assumption))) ?_
        refine l_istore cx (pc2 := 75) (lv2 := [(0, .ref (P.2.1 0)), (1, .ref b), (2, .ref av), (3, .int (iI (V 9))), (4, .long (lI (oddM M0 0 16))), (6, .long (lI (oddM M0 0 17))), (8, .int (iI ((bsum (loB V) (i + 1).toNat : Nat) : Int))), (9, .int (iI i))]) rfl (Nat.le_of_ble_eq_true rfl) dL_chances_73 rfl ?_
        refine l_iinc cx (pc2 := 78) 7 rfl (lv2 := [(0, .ref (P.2.1 0)), (1, .ref b), (2, .ref av), (3, .int (iI (V 9))), (4, .long (lI (oddM M0 0 16))), (6, .long (lI (oddM M0 0 17))), (8, .int (iI ((bsum (loB V) (i + 1).toNat : Nat) : Int))), (9, .int (iI (i + 1)))]) rfl (Nat.le_of_ble_eq_true rfl) dL_chances_75 rfl ?_
        refine l_goto cx (tgt := 28) dL_chances_78 (by decide) ?_
        exact ih _ (by omega) (i + 1) (by omega) (Nat.le_refl _)
      · skip
        refine l_aload_n cx (pc2 := 51) 2 rfl dL_chances_50 rfl ?_
        refine l_bipush cx (pc2 := 53) ⟨by decide, by decide⟩ dL_chances_51 rfl ?_
        refine l_bipush cx (pc2 := 55) ⟨by decide, by decide⟩ dL_chances_53 rfl ?_
        refine l_iload cx (pc2 := 57) 7 rfl dL_chances_55 rfl ?_
        refine l_imul cx (pc2 := 58) dL_chances_57 rfl ?_
        refine l_iadd cx (pc2 := 59) dL_chances_58 rfl ?_
        refine l_iaload cx (pc2 := 60) (N := 64) (V := V) (n + q0) (wR_get hV) (by first | assumption | omega | exact hg.1.1 _ | exact ⟨by omega, by omega⟩) (by first | assumption | omega | exact hg.1.1 _ | exact ⟨by omega, by omega⟩) (Nat.le_of_ble_eq_true rfl) dL_chances_59 rfl ?_
        refine l_rwi (y := iI (V (10 + 6 * i.toNat))) (congrArg iI (congrArg V (by omega))) ?_
        refine l_iconst cx (pc2 := 61) dL_chances_60 rfl ?_
        refine l_icmp_ne cx (pc2 := 64) (tgt := 71) ⟨(by first | assumption | omega | exact hg.1.1 _ | exact ⟨by omega, by omega⟩), ⟨by decide, by decide⟩⟩ dL_chances_61 (by decide) rfl (fun h_6 => ?_) (fun h_6 => ?_)
        · skip
          refine l_iconst cx (pc2 := 72) dL_chances_71 rfl ?_
          refine l_ior cx (pc2 := 73) dL_chances_72 rfl ?_
          refine l_rwi (y := iI ((bsum (loB V) (i + 1).toNat : Nat) : Int)) (by first | exact or1 (loB V) (i := i) (by omega) (by omega) (loB_t (by first | exact Or.inl (by assumption) | exact Or.inr (by assumption))) | exact or0 (loB V) (i := i) (by omega) (loB_f (by assumption) (by assumption))) ?_
          refine l_istore cx (pc2 := 75) (lv2 := [(0, .ref (P.2.1 0)), (1, .ref b), (2, .ref av), (3, .int (iI (V 9))), (4, .long (lI (oddM M0 0 16))), (6, .long (lI (oddM M0 0 17))), (8, .int (iI ((bsum (loB V) (i + 1).toNat : Nat) : Int))), (9, .int (iI i))]) rfl (Nat.le_of_ble_eq_true rfl) dL_chances_73 rfl ?_
          refine l_iinc cx (pc2 := 78) 7 rfl (lv2 := [(0, .ref (P.2.1 0)), (1, .ref b), (2, .ref av), (3, .int (iI (V 9))), (4, .long (lI (oddM M0 0 16))), (6, .long (lI (oddM M0 0 17))), (8, .int (iI ((bsum (loB V) (i + 1).toNat : Nat) : Int))), (9, .int (iI (i + 1)))]) rfl (Nat.le_of_ble_eq_true rfl) dL_chances_75 rfl ?_
          refine l_goto cx (tgt := 28) dL_chances_78 (by decide) ?_
          exact ih _ (by omega) (i + 1) (by omega) (Nat.le_refl _)
        · skip
          refine l_iconst cx (pc2 := 65) dL_chances_64 rfl ?_
          refine l_iload cx (pc2 := 67) 7 rfl dL_chances_65 rfl ?_
          refine l_ishl cx (pc2 := 68) dL_chances_67 rfl ?_
          refine l_rwi (y := iI ((bitN i : Nat) : Int)) (shb (by omega) (by omega)) ?_
          refine l_goto cx (tgt := 72) dL_chances_68 (by decide) ?_
          refine l_ior cx (pc2 := 73) dL_chances_72 rfl ?_
          refine l_rwi (y := iI ((bsum (loB V) (i + 1).toNat : Nat) : Int)) (by first | exact or1 (loB V) (i := i) (by omega) (by omega) (loB_t (by first | exact Or.inl (by assumption) | exact Or.inr (by assumption))) | exact or0 (loB V) (i := i) (by omega) (loB_f (by assumption) (by assumption))) ?_
          refine l_istore cx (pc2 := 75) (lv2 := [(0, .ref (P.2.1 0)), (1, .ref b), (2, .ref av), (3, .int (iI (V 9))), (4, .long (lI (oddM M0 0 16))), (6, .long (lI (oddM M0 0 17))), (8, .int (iI ((bsum (loB V) (i + 1).toNat : Nat) : Int))), (9, .int (iI i))]) rfl (Nat.le_of_ble_eq_true rfl) dL_chances_73 rfl ?_
          refine l_iinc cx (pc2 := 78) 7 rfl (lv2 := [(0, .ref (P.2.1 0)), (1, .ref b), (2, .ref av), (3, .int (iI (V 9))), (4, .long (lI (oddM M0 0 16))), (6, .long (lI (oddM M0 0 17))), (8, .int (iI ((bsum (loB V) (i + 1).toNat : Nat) : Int))), (9, .int (iI (i + 1)))]) rfl (Nat.le_of_ble_eq_true rfl) dL_chances_75 rfl ?_
          refine l_goto cx (tgt := 28) dL_chances_78 (by decide) ?_
          exact ih _ (by omega) (i + 1) (by omega) (Nat.le_refl _)
set_option maxHeartbeats 4000000 in
set_option maxRecDepth 100000 in
theorem c_L_chances {P : Pl} {b L : Nat} {xs : Nat → Int32} {n : Nat} (hn : NN n) {M0 : Mm} {R : va_W} {av : Nat} {V : Nat → Int} (q0 : Nat) (hV : R[q0]? = some (ar P av 64 V)) (hg : GV V) (hok : VOK V M0) : CLW P b L xs yL_chances cL_chances 12 (some .boolean) ({ frames := 7, cells := 0, slots := 0, locals := 170 } : Room) 0 0 [.ref (P.2.1 0), .ref b, .ref av, .int (iI (V 9))] (wld P n M0 ++ R) (qT P n R (ChR V)) := by
  refine CLW.of (lv0 := [(0, .ref (P.2.1 0)), (1, .ref b), (2, .ref av), (3, .int (iI (V 9)))]) (by decide +kernel) rfl rfl (Nat.le_of_ble_eq_true rfl) (fun X cx ys sx qx => ?_)
  refine l_aload_n cx (pc2 := 1) 0 rfl dL_chances_0 rfl ?_
  refine l_ctI cx (pc2 := 4) (st := []) ys hn (M := M0) (As := []) (c_X11_odds (M := M0) hn hok.2.2) wM_X11_odds wV_X11_odds rfl kl_L_127 ⟨rfl, rfl, Nat.le_of_ble_eq_true rfl, Nat.le_of_ble_eq_true rfl⟩ (Nat.le_of_ble_eq_true rfl) ⟨Nat.zero_le _, Nat.zero_le _⟩ rfl rfl rfl dL_chances_1 rfl ?_
  refine l_iconst cx (pc2 := 5) dL_chances_4 rfl ?_
  refine l_icmp_eq cx (pc2 := 8) (tgt := 10) ⟨⟨by decide, by decide⟩, ⟨by decide, by decide⟩⟩ dL_chances_5 (by decide) rfl (fun h_1 => ?_) (fun h_1 => ?_)
  · skip
    refine l_aload_n cx (pc2 := 11) 0 rfl dL_chances_10 rfl ?_
    refine l_ctL cx (pc2 := 14) (st := []) ys hn (M := (oddM M0)) (As := []) (c_X11_upper (M := (oddM M0)) hn) wM_X11_upper wV_X11_upper rfl kl_L_130 ⟨rfl, rfl, Nat.le_of_ble_eq_true rfl, Nat.le_of_ble_eq_true rfl⟩ (Nat.le_of_ble_eq_true rfl) ⟨Nat.zero_le _, Nat.zero_le _⟩ rfl rfl rfl dL_chances_11 rfl ?_
    refine l_lstore cx (pc2 := 16) (lv2 := [(0, .ref (P.2.1 0)), (1, .ref b), (2, .ref av), (3, .int (iI (V 9))), (4, .long (lI (oddM M0 0 16)))]) rfl (Nat.le_of_ble_eq_true rfl) dL_chances_14 rfl ?_
    refine l_aload_n cx (pc2 := 17) 0 rfl dL_chances_16 rfl ?_
    refine l_ctL cx (pc2 := 20) (st := []) ys hn (M := (oddM M0)) (As := []) (c_X11_lower (M := (oddM M0)) hn) wM_X11_lower wV_X11_lower rfl kl_L_134 ⟨rfl, rfl, Nat.le_of_ble_eq_true rfl, Nat.le_of_ble_eq_true rfl⟩ (Nat.le_of_ble_eq_true rfl) ⟨Nat.zero_le _, Nat.zero_le _⟩ rfl rfl rfl dL_chances_17 rfl ?_
    refine l_lstore cx (pc2 := 22) (lv2 := [(0, .ref (P.2.1 0)), (1, .ref b), (2, .ref av), (3, .int (iI (V 9))), (4, .long (lI (oddM M0 0 16))), (6, .long (lI (oddM M0 0 17)))]) rfl (Nat.le_of_ble_eq_true rfl) dL_chances_20 rfl ?_
    refine l_iconst cx (pc2 := 23) dL_chances_22 rfl ?_
    refine l_istore cx (pc2 := 25) (lv2 := [(0, .ref (P.2.1 0)), (1, .ref b), (2, .ref av), (3, .int (iI (V 9))), (4, .long (lI (oddM M0 0 16))), (6, .long (lI (oddM M0 0 17))), (8, .int (iI 0))]) rfl (Nat.le_of_ble_eq_true rfl) dL_chances_23 rfl ?_
    refine l_iconst cx (pc2 := 26) dL_chances_25 rfl ?_
    refine l_istore cx (pc2 := 28) (lv2 := [(0, .ref (P.2.1 0)), (1, .ref b), (2, .ref av), (3, .int (iI (V 9))), (4, .long (lI (oddM M0 0 16))), (6, .long (lI (oddM M0 0 17))), (8, .int (iI 0)), (9, .int (iI 0))]) rfl (Nat.le_of_ble_eq_true rfl) dL_chances_26 rfl ?_
    exact chances_L1 hn q0 hV hg cx ys sx qx (CSx.odd hg hok.1.w hok.2.1 hok.2.2 (fun j _ h2 => (hok.1.2.2 j (by have : j < (V 9).toNat := h2; omega)).2)) _ 0 (by have := hg.2.1; omega) (Nat.le_refl _)
  · skip
    omega
