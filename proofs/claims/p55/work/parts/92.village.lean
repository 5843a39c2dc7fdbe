/-- the village of an array stands in the class, nothing else yet -/
def HV (V : Nat → Int) (M : Mm) : Prop := (M 23 3 = V 0 ∧ M 23 4 = V 9 ∧ M 23 5 = 0) ∧ (∀ k : Nat, (k : Int) < V 0 → M 24 k = V (1 + k)) ∧ ∀ k : Nat, (k : Int) < V 9 → (∀ j : Nat, j < 6 → M (27 + k) j = V (10 + 6 * k + j)) ∧ M (27 + k) 6 = 12
def LZ (M : Mm) : Prop := M 63 6 = 0 ∧ (∀ j : Nat, j < 8 → M 64 j = 0) ∧ (∀ j : Nat, j < 64 → M 65 j = 0) ∧ M 70 2 = 0 ∧ M 73 2 = 0
theorem CI_vil {M : Mm} (h : CI M) {r : Int} (hT : T4 r) : CI (vilM M r) := by
  have hsz := h.sz (tO_ok hT).1
  have o := fun a ha => dfM_off h hT (a := a) ha
  have oV := fun a ha => vlM_off h hT (a := a) ha
  have hvi : VI (vlM M r) := by
    unfold vlM rdA
    refine VI_rdL _ hsz 121 (rd0_R _ (Or.inl rfl)) (VI_rd0 (NDA_of2 (fun a h1 h2 => o a (by omega)) h.nd) ?_)
    intro j
    rw [o 24 (by decide)]
    exact h.pl j
  have hRI : RI (vlM M r) 23 := rdA_R _ (Or.inl rfl) _ hsz
  have oM : ∀ a, (a < 23 ∨ 47 < a) → ¬ (63 ≤ a ∧ a ≤ 65) → a ≠ 70 → a ≠ 73 → vilM M r a = M a := fun a h1 h2 h3 h4 => by
    unfold vilM
    rw [stM_off h4, stM_off h3, clM_off _ (by omega), oV a h1]
  have oL : ∀ a, 23 ≤ a → a ≤ 34 → vilM M r a = vlM M r a := fun a h1 h2 => by
    unfold vilM
    rw [stM_off (by omega), stM_off (by omega), clM_off _ (by omega)]
  have v63 : vilM M r 63 6 = 0 := by
    unfold vilM
    rw [stM_off (by decide), stM_off (by decide)]
    rfl
  have v70 : vilM M r 70 2 = 0 := by
    unfold vilM
    rw [stM_off (by decide), stM_at]
  have v73 : vilM M r 73 2 = 0 := by
    unfold vilM
    rw [stM_at]
  refine ⟨⟨?_, NDA_of2 (fun a h1 h2 => oL a (by omega) h2) hvi.1, ?_, ?_⟩, ⟨JW_of (fun a h1 h2 => oM a (by omega) (by omega) (by omega) (by omega)) h.j, PW_fr (fun a h1 h2 => oM a (by omega) (by omega) (by omega) (by omega)) h.p, WW_fr (fun a h1 h2 => oM a (by omega) (by omega) (by omega) (by omega)) h.w, CW_fr (fun a h1 h2 => oM a (by omega) (by omega) (by omega) (by omega)) h.c⟩, ?_, ⟨fun ob ho => ?_, fun ob ho h15 => ?_⟩, ?_, ?_⟩
  · have := hRI.1
    unfold LW at this ⊢
    rw [oL 23 (by decide) (by decide)]
    exact this
  · intro j
    rw [oL 24 (by decide) (by decide)]
    exact hvi.2.1 j
  · rw [oL 23 (by decide) (by decide), hvi.2.2.1]
    decide
  · refine ⟨by rw [v63]; decide, fun j => ?_⟩
    rw [oM 66 (by decide) (by decide) (by decide) (by decide), oM 67 (by decide) (by decide) (by decide) (by decide), oM 68 (by decide) (by decide) (by decide) (by decide), oM 69 (by decide) (by decide) (by decide) (by decide)]
    exact h.d.2 j
  · rw [oM ob (by omega) (by omega) (by omega) (by omega), oM (ob + 1) (by omega) (by omega) (by omega) (by omega)]
    exact h.rw ob ho
  · rw [oM (ob + 1) (by omega) (by omega) (by omega) (by omega)]
    exact h.tw ob ho h15
  · refine ⟨by rw [v70]; decide, fun j => ?_⟩
    show (0 ≤ vilM M r 71 j ∧ vilM M r 71 j ≤ 7) ∧ (0 ≤ vilM M r 72 j ∧ vilM M r 72 j ≤ 99)
    rw [oM 71 (by decide) (by decide) (by decide) (by decide), oM 72 (by decide) (by decide) (by decide) (by decide)]
    exact h.p70.2 j
  · refine ⟨by rw [v73]; decide, fun j => ?_⟩
    show (0 ≤ vilM M r 74 j ∧ vilM M r 74 j ≤ 7) ∧ (0 ≤ vilM M r 75 j ∧ vilM M r 75 j ≤ 99)
    rw [oM 74 (by decide) (by decide) (by decide) (by decide), oM 75 (by decide) (by decide) (by decide) (by decide)]
    exact h.p73.2 j
theorem sgn_tx {M1 M : Mm} {T : Nat → Int} (h21 : M1 21 1 = 120) (e21 : M 21 = M1 21) (e22 : M 22 = T) : M 21 1 = 120 ∧ sgn M (15 + 2 * (3 : Int).toNat) = tcF T := by
  refine ⟨by rw [e21]; exact h21, ?_⟩
  funext i
  show (if 0 ≤ i ∧ i < M 21 1 then M 22 i.toNat else 0) = _
  rw [e21, h21, e22]
  rfl
/-- the text is there -/
def TXR (V t0 : Nat → Int) (M : Mm) : Prop := CI M ∧ M 21 1 = 120 ∧ M 22 = (txE V t0).1 ∧ GV V ∧ Bd (t0, 0) 0
theorem TXR.sg {V t0 : Nat → Int} {M : Mm} (h : TXR V t0 M) : M (15 + 2 * (3 : Int).toNat) 1 = 120 ∧ sgn M (15 + 2 * (3 : Int).toNat) = tcF (txE V t0).1 := sgn_tx (M1 := M) h.2.1 rfl h.2.2.1
theorem TXR.df {V t0 : Nat → Int} {M : Mm} (h : TXR V t0 M) : RS V 35 (V 0).toNat (V 9).toNat 120 (dfM M 3) ∧ TXR V t0 (dfM M 3) := by
  have o := fun a ha => dfM_off h.1 (r := 3) (by decide) (a := a) ha
  refine ⟨?_, h.1.o35 (fun a ha => o a (by omega)), by rw [o 21 (by decide)]; exact h.2.1, by rw [o 22 (by decide)]; exact h.2.2.1, h.2.2.2⟩
  unfold dfM
  rw [h.sg.1, h.sg.2]
  exact rd_all h.2.2.2.1 h.2.2.2.2 (Or.inr rfl) M
theorem TXR.flt {V t0 : Nat → Int} {M : Mm} (h : TXR V t0 M) : fauA M 3 = -9 ∧ fauM M 3 = dfM M 3 := by
  have e := h.sg.1
  unfold fauA fauM
  rw [if_neg (by decide), if_neg (by rw [e]; decide), if_neg (by decide), if_neg (by rw [e]; decide)]
  exact ⟨h.df.1.1.2, rfl⟩
theorem TXR.vl {V t0 : Nat → Int} {M : Mm} (h : TXR V t0 M) : RS V 23 (V 0).toNat (V 9).toNat 120 (vlM M 3) := by
  unfold vlM
  rw [h.sg.1, h.sg.2]
  exact rd_all h.2.2.2.1 h.2.2.2.2 (Or.inl rfl) _
theorem TXR.vil {V t0 : Nat → Int} {M : Mm} (h : TXR V t0 M) : (villA M 3 = V 0 ∧ villM M 3 = vilM M 3) ∧ HV V (vilM M 3) ∧ LZ (vilM M 3) ∧ CI (vilM M 3) := by
  have e := h.sg.1
  have hr := h.vl
  have hv := h.2.2.2.1.1.2.1
  have h9 := h.2.2.2.1.2.1
  have oL : ∀ a, 23 ≤ a → a ≤ 34 → vilM M 3 a = vlM M 3 a := fun a h1 h2 => by
    unfold vilM
    rw [stM_off (by omega), stM_off (by omega), clM_off _ (by omega)]
  have hHV : HV V (vilM M 3) := by
    refine ⟨?_, fun k hk => ?_, fun k hk => ?_⟩
    · rw [oL 23 (by decide) (by decide), hr.2.1.1, hr.2.1.2.1, hr.2.1.2.2]
      omega
    · rw [oL 24 (by decide) (by decide)]
      exact hr.2.2.1 k (by omega)
    · rw [oL (27 + k) (by omega) (by omega)]
      exact hr.2.2.2 k (by omega)
  refine ⟨?_, hHV, ⟨?_, fun j hj => ?_, fun j hj => ?_, ?_, ?_⟩, CI_vil h.1 (by decide)⟩
  · unfold villA villM
    rw [if_neg (by decide), if_neg (by rw [e]; decide), if_neg (not_not_intro h.df.1.1.2), if_neg (by decide), if_neg (by rw [e]; decide), if_neg (not_not_intro h.df.1.1.2)]
    exact ⟨hHV.1.1, rfl⟩
  · unfold vilM
    rw [stM_off (by decide), stM_off (by decide)]
    rfl
  · unfold vilM
    rw [stM_off (by decide), stM_off (by decide)]
    unfold clM
    rw [if_neg (by omega), if_pos ⟨rfl, by omega⟩]
  · unfold vilM
    rw [stM_off (by decide), stM_off (by decide)]
    unfold clM
    rw [if_neg (by omega), if_neg (by omega), if_pos ⟨rfl, by omega⟩]
  · unfold vilM
    rw [stM_off (by decide), stM_at]
  · unfold vilM
    rw [stM_at]
theorem c_flt3 {n : Nat} (hn : NN n) {M : Mm} {V t0 : Nat → Int} (h : TXR V t0 M) : CT yX11_fault cX11_fault 3 (some .int) ({ frames := 6, cells := 0, slots := 0, locals := 140 }) n [.ref 0, .int (iI 3)] M (rI (-9) (dfM M 3)) := by
  have c := c_X11_fault (M := M) hn h.1 3 ⟨by decide, by decide⟩
  rw [h.flt.1, h.flt.2] at c
  exact c
theorem c_vil3 {n : Nat} (hn : NN n) {M : Mm} {V t0 : Nat → Int} (h : TXR V t0 M) : CT yX11_village cX11_village 3 (some .int) ({ frames := 6, cells := 0, slots := 0, locals := 140 }) n [.ref 0, .int (iI 3)] M (rI (V 0) (vilM M 3)) := by
  have c := c_X11_village (M := M) hn h.1 3 ⟨by decide, by decide⟩
  rw [h.vil.1.1, h.vil.1.2] at c
  exact c
/-- a new text of blanks -/
def t0M (M : Mm) : Nat → Int := fun b => if b < 120 then 32 else M 22 b
def tx1 (M : Mm) : Mm := stM M 21 1 120
theorem CI_tx1 {M : Mm} (h : CI M) : CI (tx1 M) := by
  have e : ∀ a, a ≠ 21 → tx1 M a = M a := fun a ha => stM_off ha
  refine h.row (fun a h1 h2 => e a (by omega)) (fun o ho => ⟨?_, fun j => ?_⟩) (fun o ho h15 j => ?_)
  · by_cases q : o = 21
    · subst q
      unfold tx1
      rw [stM_at]
      exact ⟨by decide, by decide⟩
    · rw [e o q]
      exact (h.rw o ho).1
  · rw [e (o + 1) (by omega)]
    exact (h.rw o ho).2 j
  · rw [e (o + 1) (by omega)]
    exact h.tw o ho h15 j
theorem t0M_b {M : Mm} (h : CI M) : Bd (t0M M, 0) 0 := by
  refine ⟨fun j => ?_, ⟨Int.le_refl _, Int.le_refl _⟩, fun j hj h4 => ?_⟩
  · show -128 ≤ t0M M j ∧ t0M M j ≤ 127
    unfold t0M
    split
    · omega
    · exact h.tw 21 (by decide) (by decide) j
  · show t0M M j = 32
    unfold t0M
    rw [if_pos h4]
theorem c_text3 {n : Nat} (hn : NN n) {M : Mm} (h : CI M) : CT yX11_text cX11_text 4 (some .int) ({ frames := 1, cells := 0, slots := 0, locals := 23 }) n [.ref 0, .int (iI 3), .int (iI 120)] M (rI 120 (txM (tx1 M) (t0M M))) := by
  have c := c_X11_text (M := M) hn h 3 120 ⟨by decide, by decide⟩ ⟨by decide, by decide⟩
  have e1 : textA 3 120 = 120 := by decide
  have e2 : textM M 3 120 = txM (tx1 M) (t0M M) := by
    unfold textM
    rw [if_neg (by decide), if_neg (by decide)]
    funext a b
    show (if a = 21 ∧ b = 1 then (120 : Int) else if a = 22 ∧ (b : Int) < 120 then 32 else M a b) = if a = 22 then (if b < 120 then 32 else M 22 b) else if a = 21 ∧ b = 1 then 120 else M a b
    by_cases h1 : a = 22
    · subst h1
      by_cases h2 : b < 120
      · rw [if_neg (by omega), if_pos ⟨rfl, by omega⟩, if_pos rfl, if_pos h2]
      · rw [if_neg (by omega), if_neg (by omega), if_pos rfl, if_neg h2]
    · rw [if_neg (c := a = 22) h1, if_neg (c := a = 22 ∧ (b : Int) < 120) (fun z => h1 z.1)]
  rw [e1, e2] at c
  exact c
theorem c_L_putS {P : Pl} {b L : Nat} {xs : Nat → Int32} {n : Nat} (hn : NN n) {M0 : Mm} (hci : CI M0) (h21 : M0 21 1 = 120) {R : va_W} {s : Wr} {k : Int} (hb : Bd s k) (hk : k ≤ 119) (v : Int) (hv : 0 ≤ v ∧ v ≤ 127) : CLW P b L xs yL_put cL_put 3 (some .int) ({ frames := 3, cells := 0, slots := 0, locals := 68 } : Room) 0 0 [.ref (P.2.1 0), .int (iI s.2), .int (iI v)] (wld P n (txM M0 s.1) ++ R) (qI (wPut s v).2 (wld P n (txM M0 (wPut s v).1) ++ R)) :=
  c_L_put hn hci hb.1 h21 s.2 v ⟨hb.2.1.1, by have := hb.2.1; omega⟩ hv (hb.2.2 _ (by have := hb.2.1; omega) (by have := hb.2.1; omega))
theorem c_L_numS {P : Pl} {b L : Nat} {xs : Nat → Int32} {n : Nat} (hn : NN n) {M0 : Mm} (hci : CI M0) (h21 : M0 21 1 = 120) {R : va_W} {s : Wr} {k : Int} (hb : Bd s k) (hk : k ≤ 117) (v : Int) (hv : 0 ≤ v ∧ v ≤ 27) : CLW P b L xs yL_number cL_number 3 (some .int) ({ frames := 4, cells := 0, slots := 0, locals := 90 } : Room) 0 0 [.ref (P.2.1 0), .int (iI s.2), .int (iI v)] (wld P n (txM M0 s.1) ++ R) (qI (wNum s v).2 (wld P n (txM M0 (wNum s v).1) ++ R)) :=
  c_L_number hn hci hb.1 h21 s.2 v ⟨hb.2.1.1, by have := hb.2.1; omega⟩ hv hb.2.2
/-- a method of the law answers true; of the object then -/
def qT (P : Pl) (n : Nat) (R : va_W) (rel : Mm → Prop) : Option Value → va_W → Prop := fun r w => r = some (.int (iI 1)) ∧ ∃ M2, rel M2 ∧ w = wld P n M2 ++ R
abbrev VOK (V : Nat → Int) (M : Mm) : Prop := HV V M ∧ LZ M ∧ CI M
set_option maxHeartbeats 4000000 in
set_option maxRecDepth 100000 in
theorem village_E {P : Pl} {b L : Nat} {xs : Nat → Int32} {n : Nat} (hn : NN n) {M : Mm} (hci : CI M) {R : va_W} {av : Nat} {V : Nat → Int} (q0 : Nat) (hV : R[q0]? = some (ar P av 64 V)) (hg : GV V) {X : Yq} (cx : Yx X cL_village RL ({ frames := 7, cells := 0, slots := 0, locals := 162 } : Room) 6 P) (ys : Ys X P) (sx : Sy X b L xs) (qx : Yr X (wld P n M ++ R) 0 0 (qT P n R (VOK V)) (some .boolean)) (i : Int) : YG X 232 [(0, .ref (P.2.1 0)), (1, .ref av), (2, .int (iI ((txE V (t0M M)).2))), (3, .int (iI i))] [] (wld P n (txM (tx1 M) (txE V (t0M M)).1) ++ R) 0 0 := by
  have hci1 := CI_tx1 hci
  have h21 : tx1 M 21 1 = 120 := stM_at _ _ _ _
  have ht := t0M_b hci
  have hv0 := hg.1.2.1
  have hv9 := hg.2.1
  have hb9 : 0 ≤ (txE V (t0M M)).2 ∧ (txE V (t0M M)).2 ≤ 15 + 12 * (((V 9).toNat : Nat) : Int) := (wNs_b hg ht (V 9).toNat (by omega)).2.1
  have hX : TXR V (t0M M) (txM (tx1 M) (txE V (t0M M)).1) := ⟨CI_tx hci1 (wNs_b hg ht (V 9).toNat (by omega)).1, by rw [txM_off _ _ (by decide)]; exact h21, funext fun j => txM_at _ _ j, hg, ht⟩
  refine l_iload_n cx (pc2 := 233) 2 rfl dL_village_232 rfl ?_
  refine l_if_lt cx (pc2 := 236) (tgt := 261) (by first | assumption | omega | exact hg.1.1 _ | exact ⟨by omega, by omega⟩) dL_village_233 (by decide) rfl (fun h_1 => ?_) (fun h_1 => ?_)
  · skip
    omega
  · skip
    refine l_aload_n cx (pc2 := 237) 0 rfl dL_village_236 rfl ?_
    refine l_iconst cx (pc2 := 238) dL_village_237 rfl ?_
    refine l_ctI cx (pc2 := 241) (st := []) ys hn (M := (txM (tx1 M) (txE V (t0M M)).1)) (As := [.int (iI 3)]) (c_flt3 (M := (txM (tx1 M) (txE V (t0M M)).1)) hn hX) wM_X11_fault wV_X11_fault rfl kl_L_32 ⟨rfl, rfl, Nat.le_of_ble_eq_true rfl, Nat.le_of_ble_eq_true rfl⟩ (Nat.le_of_ble_eq_true rfl) ⟨Nat.zero_le _, Nat.zero_le _⟩ rfl rfl rfl dL_village_238 rfl ?_
    refine l_bipush cx (pc2 := 243) ⟨by decide, by decide⟩ dL_village_241 rfl ?_
    refine l_icmp_ne cx (pc2 := 246) (tgt := 261) ⟨⟨by decide, by decide⟩, ⟨by decide, by decide⟩⟩ dL_village_243 (by decide) rfl (fun h_2 => ?_) (fun h_2 => ?_)
    · skip
      omega
    · skip
      refine l_aload_n cx (pc2 := 247) 0 rfl dL_village_246 rfl ?_
      refine l_iconst cx (pc2 := 248) dL_village_247 rfl ?_
      refine l_ctI cx (pc2 := 251) (st := []) ys hn (M := (dfM (txM (tx1 M) (txE V (t0M M)).1) 3)) (As := [.int (iI 3)]) (c_vil3 (M := (dfM (txM (tx1 M) (txE V (t0M M)).1) 3)) hn hX.df.2) wM_X11_village wV_X11_village rfl kl_L_36 ⟨rfl, rfl, Nat.le_of_ble_eq_true rfl, Nat.le_of_ble_eq_true rfl⟩ (Nat.le_of_ble_eq_true rfl) ⟨Nat.zero_le _, Nat.zero_le _⟩ rfl rfl rfl dL_village_248 rfl ?_
      refine l_aload_n cx (pc2 := 252) 1 rfl dL_village_251 rfl ?_
      refine l_iconst cx (pc2 := 253) dL_village_252 rfl ?_
      refine l_iaload cx (pc2 := 254) (N := 64) (V := V) (n + q0) (wR_get hV) (by first | assumption | omega | exact hg.1.1 _ | exact ⟨by omega, by omega⟩) (by first | assumption | omega | exact hg.1.1 _ | exact ⟨by omega, by omega⟩) (Nat.le_of_ble_eq_true rfl) dL_village_253 rfl ?_
      refine l_rwi (y := iI (V 0)) rfl ?_
      refine l_icmp_ne cx (pc2 := 257) (tgt := 261) ⟨(by first | assumption | omega | exact hg.1.1 _ | exact ⟨by omega, by omega⟩), (by first | assumption | omega | exact hg.1.1 _ | exact ⟨by omega, by omega⟩)⟩ dL_village_254 (by decide) rfl (fun h_3 => ?_) (fun h_3 => ?_)
      · skip
        omega
      · skip
        refine l_iconst cx (pc2 := 258) dL_village_257 rfl ?_
        refine l_goto cx (tgt := 262) dL_village_258 (by decide) ?_
        exact l_zret cx (Or.inr rfl) qx dL_village_262 (by exact ⟨rfl, _, hX.df.2.vil.2, rfl⟩)
set_option maxHeartbeats 4000000 in
set_option maxRecDepth 100000 in
theorem village_L2 {P : Pl} {b L : Nat} {xs : Nat → Int32} {n : Nat} (hn : NN n) {M : Mm} (hci : CI M) {R : va_W} {av : Nat} {V : Nat → Int} (q0 : Nat) (hV : R[q0]? = some (ar P av 64 V)) (hg : GV V) {X : Yq} (cx : Yx X cL_village RL ({ frames := 7, cells := 0, slots := 0, locals := 162 } : Room) 6 P) (ys : Ys X P) (sx : Sy X b L xs) (qx : Yr X (wld P n M ++ R) 0 0 (qT P n R (VOK V)) (some .boolean)) : ∀ (fu : Nat) (i : Int), (0 ≤ i ∧ i ≤ V 9) → ((V 9 - i).toNat) ≤ fu → YG X 50 [(0, .ref (P.2.1 0)), (1, .ref av), (2, .int (iI ((wNs V (t0M M) i.toNat).2))), (3, .int (iI i))] [] (wld P n (txM (tx1 M) (wNs V (t0M M) i.toNat).1) ++ R) 0 0 := by
  intro fu
  induction fu using Nat.strongRecOn with
  | _ fu ih =>
    intro i hi hfu
    have hci1 := CI_tx1 hci
    have h21 : tx1 M 21 1 = 120 := stM_at _ _ _ _
    have ht := t0M_b hci
    have hv0 := hg.1.2.1
    have hv9 := hg.2.1
    have hb := wNs_b hg ht i.toNat (by omega)
    refine l_iload_n cx (pc2 := 51) 3 rfl dL_village_50 rfl ?_
    refine l_aload_n cx (pc2 := 52) 1 rfl dL_village_51 rfl ?_
    refine l_bipush cx (pc2 := 54) ⟨by decide, by decide⟩ dL_village_52 rfl ?_
    refine l_iaload cx (pc2 := 55) (N := 64) (V := V) (n + q0) (wR_get hV) (by first | assumption | omega | exact hg.1.1 _ | exact ⟨by omega, by omega⟩) (by first | assumption | omega | exact hg.1.1 _ | exact ⟨by omega, by omega⟩) (Nat.le_of_ble_eq_true rfl) dL_village_54 rfl ?_
    refine l_rwi (y := iI (V 9)) rfl ?_
    refine l_icmp_ge cx (pc2 := 58) (tgt := 232) ⟨(by first | assumption | omega | exact hg.1.1 _ | exact ⟨by omega, by omega⟩), (by first | assumption | omega | exact hg.1.1 _ | exact ⟨by omega, by omega⟩)⟩ dL_village_55 (by decide) rfl (fun h_1 => ?_) (fun h_1 => ?_)
    · skip
      have eN : i.toNat = (V 9).toNat := by omega
      rw [eN]
      exact village_E hn hci q0 hV hg cx ys sx qx i
    · skip
      refine l_bipush cx (pc2 := 60) ⟨by decide, by decide⟩ dL_village_58 rfl ?_
      refine l_bipush cx (pc2 := 62) ⟨by decide, by decide⟩ dL_village_60 rfl ?_
      refine l_iload_n cx (pc2 := 63) 3 rfl dL_village_62 rfl ?_
      refine l_imul cx (pc2 := 64) dL_village_63 rfl ?_
      refine l_iadd cx (pc2 := 65) dL_village_64 rfl ?_
      refine l_istore cx (pc2 := 67) (lv2 := [(0, .ref (P.2.1 0)), (1, .ref av), (2, .int (iI ((wNs V (t0M M) i.toNat).2))), (3, .int (iI i)), (4, .int (iI (10 + (6 * i))))]) rfl (Nat.le_of_ble_eq_true rfl) dL_village_65 rfl ?_
      refine l_aload_n cx (pc2 := 68) 1 rfl dL_village_67 rfl ?_
      refine l_iload cx (pc2 := 70) 4 rfl dL_village_68 rfl ?_
      refine l_iaload cx (pc2 := 71) (N := 64) (V := V) (n + q0) (wR_get hV) (by first | assumption | omega | exact hg.1.1 _ | exact ⟨by omega, by omega⟩) (by first | assumption | omega | exact hg.1.1 _ | exact ⟨by omega, by omega⟩) (Nat.le_of_ble_eq_true rfl) dL_village_70 rfl ?_
      refine l_rwi (y := iI (V (10 + 6 * i.toNat))) (congrArg iI (congrArg V (by omega))) ?_
      refine l_istore cx (pc2 := 73) (lv2 := [(0, .ref (P.2.1 0)), (1, .ref av), (2, .int (iI ((wNs V (t0M M) i.toNat).2))), (3, .int (iI i)), (4, .int (iI (10 + (6 * i)))), (5, .int (iI (V (10 + 6 * i.toNat))))]) rfl (Nat.le_of_ble_eq_true rfl) dL_village_71 rfl ?_
      have hi9 : (i.toNat : Int) < V 9 := by omega
      have hgn := hg.2.2 i.toNat hi9
      obtain ⟨n0, n1, n2, n3, n4, n5⟩ := hgn
      have hkb := klO_b (V (10 + 6 * i.toNat))
      have J : YG X 131 [(0, .ref (P.2.1 0)), (1, .ref av), (2, .int (iI ((wNs V (t0M M) i.toNat).2))), (3, .int (iI i)), (4, .int (iI (10 + 6 * i))), (5, .int (iI (V (10 + 6 * i.toNat))))] [.int (iI (klO (V (10 + 6 * i.toNat)))), .int (iI ((wNs V (t0M M) i.toNat).2)), .ref (P.2.1 0)] (wld P n (txM (tx1 M) (wNs V (t0M M) i.toNat).1) ++ R) 0 0 := by
        refine l_clI cx (pc2 := 134) (st := []) ys sx (As := [.ref (P.2.1 0), .int (iI ((wNs V (t0M M) i.toNat).2)), .int (iI (klO (V (10 + 6 * i.toNat))))]) (c_L_putS hn hci1 h21 hb (by omega) (klO (V (10 + 6 * i.toNat))) (by first | omega | exact ⟨by omega, by omega⟩)) wM_L_put wS_L_put kl_L_14 ⟨rfl, rfl, Nat.le_of_ble_eq_true rfl, Nat.le_of_ble_eq_true rfl⟩ (Nat.le_of_ble_eq_true rfl) ⟨Nat.zero_le _, Nat.zero_le _⟩ rfl rfl dL_village_131 rfl ?_
        refine l_istore_n cx (pc2 := 135) (lv2 := [(0, .ref (P.2.1 0)), (1, .ref av), (2, .int (iI ((wPut (wNs V (t0M M) i.toNat) (klO (V (10 + 6 * i.toNat)))).2))), (3, .int (iI i)), (4, .int (iI (10 + 6 * i))), (5, .int (iI (V (10 + 6 * i.toNat))))]) rfl (Nat.le_of_ble_eq_true rfl) dL_village_134 rfl ?_
        refine l_aload_n cx (pc2 := 136) 0 rfl dL_village_135 rfl ?_
        refine l_aload_n cx (pc2 := 137) 0 rfl dL_village_136 rfl ?_
        refine l_iload_n cx (pc2 := 138) 2 rfl dL_village_137 rfl ?_
        refine l_bipush cx (pc2 := 140) ⟨by decide, by decide⟩ dL_village_138 rfl ?_
        refine l_aload_n cx (pc2 := 141) 1 rfl dL_village_140 rfl ?_
        refine l_iload cx (pc2 := 143) 4 rfl dL_village_141 rfl ?_
        refine l_iconst cx (pc2 := 144) dL_village_143 rfl ?_
        refine l_iadd cx (pc2 := 145) dL_village_144 rfl ?_
        refine l_iaload cx (pc2 := 146) (N := 64) (V := V) (n + q0) (wR_get hV) (by first | assumption | omega | exact hg.1.1 _ | exact ⟨by omega, by omega⟩) (by first | assumption | omega | exact hg.1.1 _ | exact ⟨by omega, by omega⟩) (Nat.le_of_ble_eq_true rfl) dL_village_145 rfl ?_
        refine l_rwi (y := iI (V (11 + 6 * i.toNat))) (congrArg iI (congrArg V (by omega))) ?_
        refine l_iadd cx (pc2 := 147) dL_village_146 rfl ?_
        refine l_clI cx (pc2 := 150) (st := [.ref (P.2.1 0)]) ys sx (As := [.ref (P.2.1 0), .int (iI ((wPut (wNs V (t0M M) i.toNat) (klO (V (10 + 6 * i.toNat)))).2)), .int (iI (65 + (V (11 + 6 * i.toNat))))]) (c_L_putS hn hci1 h21 (Bd_put hb (by omega)) (by omega) (65 + (V (11 + 6 * i.toNat))) (by first | omega | exact ⟨by omega, by omega⟩)) wM_L_put wS_L_put kl_L_14 ⟨rfl, rfl, Nat.le_of_ble_eq_true rfl, Nat.le_of_ble_eq_true rfl⟩ (Nat.le_of_ble_eq_true rfl) ⟨Nat.zero_le _, Nat.zero_le _⟩ rfl rfl dL_village_147 rfl ?_
        refine l_bipush cx (pc2 := 152) ⟨by decide, by decide⟩ dL_village_150 rfl ?_
        refine l_clI cx (pc2 := 155) (st := []) ys sx (As := [.ref (P.2.1 0), .int (iI ((wPut (wPut (wNs V (t0M M) i.toNat) (klO (V (10 + 6 * i.toNat)))) (65 + (V (11 + 6 * i.toNat)))).2)), .int (iI 58)]) (c_L_putS hn hci1 h21 (Bd_put (Bd_put hb (by omega)) (by omega)) (by omega) 58 (by first | omega | exact ⟨by omega, by omega⟩)) wM_L_put wS_L_put kl_L_14 ⟨rfl, rfl, Nat.le_of_ble_eq_true rfl, Nat.le_of_ble_eq_true rfl⟩ (Nat.le_of_ble_eq_true rfl) ⟨Nat.zero_le _, Nat.zero_le _⟩ rfl rfl dL_village_152 rfl ?_
        refine l_istore_n cx (pc2 := 156) (lv2 := [(0, .ref (P.2.1 0)), (1, .ref av), (2, .int (iI ((wPut (wPut (wPut (wNs V (t0M M) i.toNat) (klO (V (10 + 6 * i.toNat)))) (65 + (V (11 + 6 * i.toNat)))) 58).2))), (3, .int (iI i)), (4, .int (iI (10 + 6 * i))), (5, .int (iI (V (10 + 6 * i.toNat))))]) rfl (Nat.le_of_ble_eq_true rfl) dL_village_155 rfl ?_
        refine l_aload_n cx (pc2 := 157) 0 rfl dL_village_156 rfl ?_
        refine l_aload_n cx (pc2 := 158) 0 rfl dL_village_157 rfl ?_
        refine l_iload_n cx (pc2 := 159) 2 rfl dL_village_158 rfl ?_
        refine l_aload_n cx (pc2 := 160) 1 rfl dL_village_159 rfl ?_
        refine l_iload cx (pc2 := 162) 4 rfl dL_village_160 rfl ?_
        refine l_iconst cx (pc2 := 163) dL_village_162 rfl ?_
        refine l_iadd cx (pc2 := 164) dL_village_163 rfl ?_
        refine l_iaload cx (pc2 := 165) (N := 64) (V := V) (n + q0) (wR_get hV) (by first | assumption | omega | exact hg.1.1 _ | exact ⟨by omega, by omega⟩) (by first | assumption | omega | exact hg.1.1 _ | exact ⟨by omega, by omega⟩) (Nat.le_of_ble_eq_true rfl) dL_village_164 rfl ?_
        refine l_rwi (y := iI (V (12 + 6 * i.toNat))) (congrArg iI (congrArg V (by omega))) ?_
        refine l_clI cx (pc2 := 168) (st := [.ref (P.2.1 0)]) ys sx (As := [.ref (P.2.1 0), .int (iI ((wPut (wPut (wPut (wNs V (t0M M) i.toNat) (klO (V (10 + 6 * i.toNat)))) (65 + (V (11 + 6 * i.toNat)))) 58).2)), .int (iI (V (12 + 6 * i.toNat)))]) (c_L_numS hn hci1 h21 (Bd_put (Bd_put (Bd_put hb (by omega)) (by omega)) (by omega)) (by omega) (V (12 + 6 * i.toNat)) (by first | omega | exact ⟨by omega, by omega⟩)) wM_L_number wS_L_number kl_L_29 ⟨rfl, rfl, Nat.le_of_ble_eq_true rfl, Nat.le_of_ble_eq_true rfl⟩ (Nat.le_of_ble_eq_true rfl) ⟨Nat.zero_le _, Nat.zero_le _⟩ rfl rfl dL_village_165 rfl ?_
        refine l_bipush cx (pc2 := 170) ⟨by decide, by decide⟩ dL_village_168 rfl ?_
        refine l_clI cx (pc2 := 173) (st := []) ys sx (As := [.ref (P.2.1 0), .int (iI ((wNum (wPut (wPut (wPut (wNs V (t0M M) i.toNat) (klO (V (10 + 6 * i.toNat)))) (65 + (V (11 + 6 * i.toNat)))) 58) (V (12 + 6 * i.toNat))).2)), .int (iI 45)]) (c_L_putS hn hci1 h21 (Bd_num (Bd_put (Bd_put (Bd_put hb (by omega)) (by omega)) (by omega)) (by omega)) (by omega) 45 (by first | omega | exact ⟨by omega, by omega⟩)) wM_L_put wS_L_put kl_L_14 ⟨rfl, rfl, Nat.le_of_ble_eq_true rfl, Nat.le_of_ble_eq_true rfl⟩ (Nat.le_of_ble_eq_true rfl) ⟨Nat.zero_le _, Nat.zero_le _⟩ rfl rfl dL_village_170 rfl ?_
        refine l_istore_n cx (pc2 := 174) (lv2 := [(0, .ref (P.2.1 0)), (1, .ref av), (2, .int (iI ((wPut (wNum (wPut (wPut (wPut (wNs V (t0M M) i.toNat) (klO (V (10 + 6 * i.toNat)))) (65 + (V (11 + 6 * i.toNat)))) 58) (V (12 + 6 * i.toNat))) 45).2))), (3, .int (iI i)), (4, .int (iI (10 + 6 * i))), (5, .int (iI (V (10 + 6 * i.toNat))))]) rfl (Nat.le_of_ble_eq_true rfl) dL_village_173 rfl ?_
        refine l_aload_n cx (pc2 := 175) 0 rfl dL_village_174 rfl ?_
        refine l_aload_n cx (pc2 := 176) 0 rfl dL_village_175 rfl ?_
        refine l_iload_n cx (pc2 := 177) 2 rfl dL_village_176 rfl ?_
        refine l_aload_n cx (pc2 := 178) 1 rfl dL_village_177 rfl ?_
        refine l_iload cx (pc2 := 180) 4 rfl dL_village_178 rfl ?_
        refine l_iconst cx (pc2 := 181) dL_village_180 rfl ?_
        refine l_iadd cx (pc2 := 182) dL_village_181 rfl ?_
        refine l_iaload cx (pc2 := 183) (N := 64) (V := V) (n + q0) (wR_get hV) (by first | assumption | omega | exact hg.1.1 _ | exact ⟨by omega, by omega⟩) (by first | assumption | omega | exact hg.1.1 _ | exact ⟨by omega, by omega⟩) (Nat.le_of_ble_eq_true rfl) dL_village_182 rfl ?_
        refine l_rwi (y := iI (V (13 + 6 * i.toNat))) (congrArg iI (congrArg V (by omega))) ?_
        refine l_clI cx (pc2 := 186) (st := [.ref (P.2.1 0)]) ys sx (As := [.ref (P.2.1 0), .int (iI ((wPut (wNum (wPut (wPut (wPut (wNs V (t0M M) i.toNat) (klO (V (10 + 6 * i.toNat)))) (65 + (V (11 + 6 * i.toNat)))) 58) (V (12 + 6 * i.toNat))) 45).2)), .int (iI (V (13 + 6 * i.toNat)))]) (c_L_numS hn hci1 h21 (Bd_put (Bd_num (Bd_put (Bd_put (Bd_put hb (by omega)) (by omega)) (by omega)) (by omega)) (by omega)) (by omega) (V (13 + 6 * i.toNat)) (by first | omega | exact ⟨by omega, by omega⟩)) wM_L_number wS_L_number kl_L_29 ⟨rfl, rfl, Nat.le_of_ble_eq_true rfl, Nat.le_of_ble_eq_true rfl⟩ (Nat.le_of_ble_eq_true rfl) ⟨Nat.zero_le _, Nat.zero_le _⟩ rfl rfl dL_village_183 rfl ?_
        refine l_bipush cx (pc2 := 188) ⟨by decide, by decide⟩ dL_village_186 rfl ?_
        refine l_clI cx (pc2 := 191) (st := []) ys sx (As := [.ref (P.2.1 0), .int (iI ((wNum (wPut (wNum (wPut (wPut (wPut (wNs V (t0M M) i.toNat) (klO (V (10 + 6 * i.toNat)))) (65 + (V (11 + 6 * i.toNat)))) 58) (V (12 + 6 * i.toNat))) 45) (V (13 + 6 * i.toNat))).2)), .int (iI 58)]) (c_L_putS hn hci1 h21 (Bd_num (Bd_put (Bd_num (Bd_put (Bd_put (Bd_put hb (by omega)) (by omega)) (by omega)) (by omega)) (by omega)) (by omega)) (by omega) 58 (by first | omega | exact ⟨by omega, by omega⟩)) wM_L_put wS_L_put kl_L_14 ⟨rfl, rfl, Nat.le_of_ble_eq_true rfl, Nat.le_of_ble_eq_true rfl⟩ (Nat.le_of_ble_eq_true rfl) ⟨Nat.zero_le _, Nat.zero_le _⟩ rfl rfl dL_village_188 rfl ?_
        refine l_istore_n cx (pc2 := 192) (lv2 := [(0, .ref (P.2.1 0)), (1, .ref av), (2, .int (iI ((wPut (wNum (wPut (wNum (wPut (wPut (wPut (wNs V (t0M M) i.toNat) (klO (V (10 + 6 * i.toNat)))) (65 + (V (11 + 6 * i.toNat)))) 58) (V (12 + 6 * i.toNat))) 45) (V (13 + 6 * i.toNat))) 58).2))), (3, .int (iI i)), (4, .int (iI (10 + 6 * i))), (5, .int (iI (V (10 + 6 * i.toNat))))]) rfl (Nat.le_of_ble_eq_true rfl) dL_village_191 rfl ?_
        refine l_aload_n cx (pc2 := 193) 0 rfl dL_village_192 rfl ?_
        refine l_aload_n cx (pc2 := 194) 0 rfl dL_village_193 rfl ?_
        refine l_aload_n cx (pc2 := 195) 0 rfl dL_village_194 rfl ?_
        refine l_iload_n cx (pc2 := 196) 2 rfl dL_village_195 rfl ?_
        refine l_bipush cx (pc2 := 198) ⟨by decide, by decide⟩ dL_village_196 rfl ?_
        refine l_aload_n cx (pc2 := 199) 1 rfl dL_village_198 rfl ?_
        refine l_iload cx (pc2 := 201) 4 rfl dL_village_199 rfl ?_
        refine l_iconst cx (pc2 := 202) dL_village_201 rfl ?_
        refine l_iadd cx (pc2 := 203) dL_village_202 rfl ?_
        refine l_iaload cx (pc2 := 204) (N := 64) (V := V) (n + q0) (wR_get hV) (by first | assumption | omega | exact hg.1.1 _ | exact ⟨by omega, by omega⟩) (by first | assumption | omega | exact hg.1.1 _ | exact ⟨by omega, by omega⟩) (Nat.le_of_ble_eq_true rfl) dL_village_203 rfl ?_
        refine l_rwi (y := iI (V (14 + 6 * i.toNat))) (congrArg iI (congrArg V (by omega))) ?_
        refine l_iadd cx (pc2 := 205) dL_village_204 rfl ?_
        refine l_clI cx (pc2 := 208) (st := [.ref (P.2.1 0), .ref (P.2.1 0)]) ys sx (As := [.ref (P.2.1 0), .int (iI ((wPut (wNum (wPut (wNum (wPut (wPut (wPut (wNs V (t0M M) i.toNat) (klO (V (10 + 6 * i.toNat)))) (65 + (V (11 + 6 * i.toNat)))) 58) (V (12 + 6 * i.toNat))) 45) (V (13 + 6 * i.toNat))) 58).2)), .int (iI (48 + (V (14 + 6 * i.toNat))))]) (c_L_putS hn hci1 h21 (Bd_put (Bd_num (Bd_put (Bd_num (Bd_put (Bd_put (Bd_put hb (by omega)) (by omega)) (by omega)) (by omega)) (by omega)) (by omega)) (by omega)) (by omega) (48 + (V (14 + 6 * i.toNat))) (by first | omega | exact ⟨by omega, by omega⟩)) wM_L_put wS_L_put kl_L_14 ⟨rfl, rfl, Nat.le_of_ble_eq_true rfl, Nat.le_of_ble_eq_true rfl⟩ (Nat.le_of_ble_eq_true rfl) ⟨Nat.zero_le _, Nat.zero_le _⟩ rfl rfl dL_village_205 rfl ?_
        refine l_bipush cx (pc2 := 210) ⟨by decide, by decide⟩ dL_village_208 rfl ?_
        refine l_clI cx (pc2 := 213) (st := [.ref (P.2.1 0)]) ys sx (As := [.ref (P.2.1 0), .int (iI ((wPut (wPut (wNum (wPut (wNum (wPut (wPut (wPut (wNs V (t0M M) i.toNat) (klO (V (10 + 6 * i.toNat)))) (65 + (V (11 + 6 * i.toNat)))) 58) (V (12 + 6 * i.toNat))) 45) (V (13 + 6 * i.toNat))) 58) (48 + (V (14 + 6 * i.toNat)))).2)), .int (iI 58)]) (c_L_putS hn hci1 h21 (Bd_put (Bd_put (Bd_num (Bd_put (Bd_num (Bd_put (Bd_put (Bd_put hb (by omega)) (by omega)) (by omega)) (by omega)) (by omega)) (by omega)) (by omega)) (by omega)) (by omega) 58 (by first | omega | exact ⟨by omega, by omega⟩)) wM_L_put wS_L_put kl_L_14 ⟨rfl, rfl, Nat.le_of_ble_eq_true rfl, Nat.le_of_ble_eq_true rfl⟩ (Nat.le_of_ble_eq_true rfl) ⟨Nat.zero_le _, Nat.zero_le _⟩ rfl rfl dL_village_210 rfl ?_
        refine l_bipush cx (pc2 := 215) ⟨by decide, by decide⟩ dL_village_213 rfl ?_
        refine l_aload_n cx (pc2 := 216) 1 rfl dL_village_215 rfl ?_
        refine l_iload cx (pc2 := 218) 4 rfl dL_village_216 rfl ?_
        refine l_iconst cx (pc2 := 219) dL_village_218 rfl ?_
        refine l_iadd cx (pc2 := 220) dL_village_219 rfl ?_
        refine l_iaload cx (pc2 := 221) (N := 64) (V := V) (n + q0) (wR_get hV) (by first | assumption | omega | exact hg.1.1 _ | exact ⟨by omega, by omega⟩) (by first | assumption | omega | exact hg.1.1 _ | exact ⟨by omega, by omega⟩) (Nat.le_of_ble_eq_true rfl) dL_village_220 rfl ?_
        refine l_rwi (y := iI (V (15 + 6 * i.toNat))) (congrArg iI (congrArg V (by omega))) ?_
        refine l_iadd cx (pc2 := 222) dL_village_221 rfl ?_
        refine l_clI cx (pc2 := 225) (st := []) ys sx (As := [.ref (P.2.1 0), .int (iI ((wPut (wPut (wPut (wNum (wPut (wNum (wPut (wPut (wPut (wNs V (t0M M) i.toNat) (klO (V (10 + 6 * i.toNat)))) (65 + (V (11 + 6 * i.toNat)))) 58) (V (12 + 6 * i.toNat))) 45) (V (13 + 6 * i.toNat))) 58) (48 + (V (14 + 6 * i.toNat)))) 58).2)), .int (iI (48 + (V (15 + 6 * i.toNat))))]) (c_L_putS hn hci1 h21 (Bd_put (Bd_put (Bd_put (Bd_num (Bd_put (Bd_num (Bd_put (Bd_put (Bd_put hb (by omega)) (by omega)) (by omega)) (by omega)) (by omega)) (by omega)) (by omega)) (by omega)) (by omega)) (by omega) (48 + (V (15 + 6 * i.toNat))) (by first | omega | exact ⟨by omega, by omega⟩)) wM_L_put wS_L_put kl_L_14 ⟨rfl, rfl, Nat.le_of_ble_eq_true rfl, Nat.le_of_ble_eq_true rfl⟩ (Nat.le_of_ble_eq_true rfl) ⟨Nat.zero_le _, Nat.zero_le _⟩ rfl rfl dL_village_222 rfl ?_
        refine l_istore_n cx (pc2 := 226) (lv2 := [(0, .ref (P.2.1 0)), (1, .ref av), (2, .int (iI ((wPut (wPut (wPut (wPut (wNum (wPut (wNum (wPut (wPut (wPut (wNs V (t0M M) i.toNat) (klO (V (10 + 6 * i.toNat)))) (65 + (V (11 + 6 * i.toNat)))) 58) (V (12 + 6 * i.toNat))) 45) (V (13 + 6 * i.toNat))) 58) (48 + (V (14 + 6 * i.toNat)))) 58) (48 + (V (15 + 6 * i.toNat)))).2))), (3, .int (iI i)), (4, .int (iI (10 + 6 * i))), (5, .int (iI (V (10 + 6 * i.toNat))))]) rfl (Nat.le_of_ble_eq_true rfl) dL_village_225 rfl ?_
        refine l_iinc cx (pc2 := 229) 3 rfl (lv2 := [(0, .ref (P.2.1 0)), (1, .ref av), (2, .int (iI ((wPut (wPut (wPut (wPut (wNum (wPut (wNum (wPut (wPut (wPut (wNs V (t0M M) i.toNat) (klO (V (10 + 6 * i.toNat)))) (65 + (V (11 + 6 * i.toNat)))) 58) (V (12 + 6 * i.toNat))) 45) (V (13 + 6 * i.toNat))) 58) (48 + (V (14 + 6 * i.toNat)))) 58) (48 + (V (15 + 6 * i.toNat)))).2))), (3, .int (iI (i + 1))), (4, .int (iI (10 + 6 * i))), (5, .int (iI (V (10 + 6 * i.toNat))))]) rfl (Nat.le_of_ble_eq_true rfl) dL_village_226 rfl ?_
        refine l_goto cx (tgt := 50) dL_village_229 (by decide) ?_
        refine l_sub (lv2 := [(0, .ref (P.2.1 0)), (1, .ref av), (2, .int (iI ((wPut (wPut (wPut (wPut (wNum (wPut (wNum (wPut (wPut (wPut (wNs V (t0M M) i.toNat) (klO (V (10 + 6 * i.toNat)))) (65 + (V (11 + 6 * i.toNat)))) 58) (V (12 + 6 * i.toNat))) 45) (V (13 + 6 * i.toNat))) 58) (48 + (V (14 + 6 * i.toNat)))) 58) (48 + (V (15 + 6 * i.toNat)))).2))), (3, .int (iI (i + 1)))]) [0, 1, 2, 3] rfl ?_
        have eN : (wPut (wPut (wPut (wPut (wNum (wPut (wNum (wPut (wPut (wPut (wNs V (t0M M) i.toNat) (klO (V (10 + 6 * i.toNat)))) (65 + (V (11 + 6 * i.toNat)))) 58) (V (12 + 6 * i.toNat))) 45) (V (13 + 6 * i.toNat))) 58) (48 + (V (14 + 6 * i.toNat)))) 58) (48 + (V (15 + 6 * i.toNat)))) = wNs V (t0M M) (i + 1).toNat := by rw [show (i + 1).toNat = i.toNat + 1 by omega]; rfl
        rw [eN]
        exact ih _ (by omega) (i + 1) (by omega) (Nat.le_refl _)
      refine l_aload_n cx (pc2 := 74) 0 rfl dL_village_73 rfl ?_
      refine l_iload_n cx (pc2 := 75) 2 rfl dL_village_74 rfl ?_
      refine l_iload cx (pc2 := 77) 5 rfl dL_village_75 rfl ?_
      refine l_if_ne cx (pc2 := 80) (tgt := 85) (by first | assumption | omega | exact hg.1.1 _ | exact ⟨by omega, by omega⟩) dL_village_77 (by decide) rfl (fun h_2 => ?_) (fun h_2 => ?_)
      · skip
        refine l_iload cx (pc2 := 87) 5 rfl dL_village_85 rfl ?_
        refine l_iconst cx (pc2 := 88) dL_village_87 rfl ?_
        refine l_icmp_ne cx (pc2 := 91) (tgt := 96) ⟨(by first | assumption | omega | exact hg.1.1 _ | exact ⟨by omega, by omega⟩), ⟨by decide, by decide⟩⟩ dL_village_88 (by decide) rfl (fun h_3 => ?_) (fun h_3 => ?_)
        · skip
          refine l_iload cx (pc2 := 98) 5 rfl dL_village_96 rfl ?_
          refine l_iconst cx (pc2 := 99) dL_village_98 rfl ?_
          refine l_icmp_ne cx (pc2 := 102) (tgt := 107) ⟨(by first | assumption | omega | exact hg.1.1 _ | exact ⟨by omega, by omega⟩), ⟨by decide, by decide⟩⟩ dL_village_99 (by decide) rfl (fun h_4 => ?_) (fun h_4 => ?_)
          · skip
            refine l_iload cx (pc2 := 109) 5 rfl dL_village_107 rfl ?_
            refine l_iconst cx (pc2 := 110) dL_village_109 rfl ?_
            refine l_icmp_ne cx (pc2 := 113) (tgt := 118) ⟨(by first | assumption | omega | exact hg.1.1 _ | exact ⟨by omega, by omega⟩), ⟨by decide, by decide⟩⟩ dL_village_110 (by decide) rfl (fun h_5 => ?_) (fun h_5 => ?_)
            · skip
              refine l_iload cx (pc2 := 120) 5 rfl dL_village_118 rfl ?_
              refine l_iconst cx (pc2 := 121) dL_village_120 rfl ?_
              refine l_icmp_ne cx (pc2 := 124) (tgt := 129) ⟨(by first | assumption | omega | exact hg.1.1 _ | exact ⟨by omega, by omega⟩), ⟨by decide, by decide⟩⟩ dL_village_121 (by decide) rfl (fun h_6 => ?_) (fun h_6 => ?_)
              · skip
                refine l_bipush cx (pc2 := 131) ⟨by decide, by decide⟩ dL_village_129 rfl ?_
                refine l_rwi (y := iI (klO (V (10 + 6 * i.toNat)))) (congrArg iI (by unfold klO; (repeat' split) <;> first | rfl | omega)) ?_
                exact J
              · skip
                refine l_bipush cx (pc2 := 126) ⟨by decide, by decide⟩ dL_village_124 rfl ?_
                refine l_goto cx (tgt := 131) dL_village_126 (by decide) ?_
                refine l_rwi (y := iI (klO (V (10 + 6 * i.toNat)))) (congrArg iI (by unfold klO; (repeat' split) <;> first | rfl | omega)) ?_
                exact J
            · skip
              refine l_bipush cx (pc2 := 115) ⟨by decide, by decide⟩ dL_village_113 rfl ?_
              refine l_goto cx (tgt := 131) dL_village_115 (by decide) ?_
              refine l_rwi (y := iI (klO (V (10 + 6 * i.toNat)))) (congrArg iI (by unfold klO; (repeat' split) <;> first | rfl | omega)) ?_
              exact J
          · skip
            refine l_bipush cx (pc2 := 104) ⟨by decide, by decide⟩ dL_village_102 rfl ?_
            refine l_goto cx (tgt := 131) dL_village_104 (by decide) ?_
            refine l_rwi (y := iI (klO (V (10 + 6 * i.toNat)))) (congrArg iI (by unfold klO; (repeat' split) <;> first | rfl | omega)) ?_
            exact J
        · skip
          refine l_bipush cx (pc2 := 93) ⟨by decide, by decide⟩ dL_village_91 rfl ?_
          refine l_goto cx (tgt := 131) dL_village_93 (by decide) ?_
          refine l_rwi (y := iI (klO (V (10 + 6 * i.toNat)))) (congrArg iI (by unfold klO; (repeat' split) <;> first | rfl | omega)) ?_
          exact J
      · skip
        refine l_bipush cx (pc2 := 82) ⟨by decide, by decide⟩ dL_village_80 rfl ?_
        refine l_goto cx (tgt := 131) dL_village_82 (by decide) ?_
        refine l_rwi (y := iI (klO (V (10 + 6 * i.toNat)))) (congrArg iI (by unfold klO; (repeat' split) <;> first | rfl | omega)) ?_
        exact J
set_option maxHeartbeats 4000000 in
set_option maxRecDepth 100000 in
theorem village_L1 {P : Pl} {b L : Nat} {xs : Nat → Int32} {n : Nat} (hn : NN n) {M : Mm} (hci : CI M) {R : va_W} {av : Nat} {V : Nat → Int} (q0 : Nat) (hV : R[q0]? = some (ar P av 64 V)) (hg : GV V) {X : Yq} (cx : Yx X cL_village RL ({ frames := 7, cells := 0, slots := 0, locals := 162 } : Room) 6 P) (ys : Ys X P) (sx : Sy X b L xs) (qx : Yr X (wld P n M ++ R) 0 0 (qT P n R (VOK V)) (some .boolean)) : ∀ (fu : Nat) (h : Int), (0 ≤ h ∧ h ≤ V 0) → ((V 0 - h).toNat) ≤ fu → YG X 18 [(0, .ref (P.2.1 0)), (1, .ref av), (2, .int (iI ((wHs V (t0M M) h.toNat).2))), (3, .int (iI h))] [] (wld P n (txM (tx1 M) (wHs V (t0M M) h.toNat).1) ++ R) 0 0 := by
  intro fu
  induction fu using Nat.strongRecOn with
  | _ fu ih =>
    intro h hi hfu
    have hci1 := CI_tx1 hci
    have h21 : tx1 M 21 1 = 120 := stM_at _ _ _ _
    have ht := t0M_b hci
    have hv0 := hg.1.2.1
    have hv9 := hg.2.1
    have hb := wHs_b hg.1 ht h.toNat (by omega)
    have hvh := hg.1.2.2 h.toNat (by omega)
    refine l_iload_n cx (pc2 := 19) 3 rfl dL_village_18 rfl ?_
    refine l_aload_n cx (pc2 := 20) 1 rfl dL_village_19 rfl ?_
    refine l_iconst cx (pc2 := 21) dL_village_20 rfl ?_
    refine l_iaload cx (pc2 := 22) (N := 64) (V := V) (n + q0) (wR_get hV) (by first | assumption | omega | exact hg.1.1 _ | exact ⟨by omega, by omega⟩) (by first | assumption | omega | exact hg.1.1 _ | exact ⟨by omega, by omega⟩) (Nat.le_of_ble_eq_true rfl) dL_village_21 rfl ?_
    refine l_rwi (y := iI (V 0)) rfl ?_
    refine l_icmp_ge cx (pc2 := 25) (tgt := 48) ⟨(by first | assumption | omega | exact hg.1.1 _ | exact ⟨by omega, by omega⟩), (by first | assumption | omega | exact hg.1.1 _ | exact ⟨by omega, by omega⟩)⟩ dL_village_22 (by decide) rfl (fun h_1 => ?_) (fun h_1 => ?_)
    · skip
      refine l_iconst cx (pc2 := 49) dL_village_48 rfl ?_
      refine l_istore_n cx (pc2 := 50) (lv2 := [(0, .ref (P.2.1 0)), (1, .ref av), (2, .int (iI ((wHs V (t0M M) h.toNat).2))), (3, .int (iI 0))]) rfl (Nat.le_of_ble_eq_true rfl) dL_village_49 rfl ?_
      have eN : h.toNat = (V 0).toNat := by omega
      rw [eN]
      exact village_L2 hn hci q0 hV hg cx ys sx qx _ 0 (by omega) (Nat.le_refl _)
    · skip
      refine l_aload_n cx (pc2 := 26) 0 rfl dL_village_25 rfl ?_
      refine l_aload_n cx (pc2 := 27) 0 rfl dL_village_26 rfl ?_
      refine l_iload_n cx (pc2 := 28) 2 rfl dL_village_27 rfl ?_
      refine l_bipush cx (pc2 := 30) ⟨by decide, by decide⟩ dL_village_28 rfl ?_
      refine l_clI cx (pc2 := 33) (st := [.ref (P.2.1 0)]) ys sx (As := [.ref (P.2.1 0), .int (iI ((wHs V (t0M M) h.toNat).2)), .int (iI 104)]) (c_L_putS hn hci1 h21 hb (by omega) 104 (by first | omega | exact ⟨by omega, by omega⟩)) wM_L_put wS_L_put kl_L_14 ⟨rfl, rfl, Nat.le_of_ble_eq_true rfl, Nat.le_of_ble_eq_true rfl⟩ (Nat.le_of_ble_eq_true rfl) ⟨Nat.zero_le _, Nat.zero_le _⟩ rfl rfl dL_village_30 rfl ?_
      refine l_aload_n cx (pc2 := 34) 1 rfl dL_village_33 rfl ?_
      refine l_iconst cx (pc2 := 35) dL_village_34 rfl ?_
      refine l_iload_n cx (pc2 := 36) 3 rfl dL_village_35 rfl ?_
      refine l_iadd cx (pc2 := 37) dL_village_36 rfl ?_
      refine l_iaload cx (pc2 := 38) (N := 64) (V := V) (n + q0) (wR_get hV) (by first | assumption | omega | exact hg.1.1 _ | exact ⟨by omega, by omega⟩) (by first | assumption | omega | exact hg.1.1 _ | exact ⟨by omega, by omega⟩) (Nat.le_of_ble_eq_true rfl) dL_village_37 rfl ?_
      refine l_rwi (y := iI (V (1 + h.toNat))) (congrArg iI (congrArg V (by omega))) ?_
      refine l_clI cx (pc2 := 41) (st := []) ys sx (As := [.ref (P.2.1 0), .int (iI ((wPut (wHs V (t0M M) h.toNat) 104).2)), .int (iI (V (1 + h.toNat)))]) (c_L_numS hn hci1 h21 (Bd_put hb (by omega)) (by omega) (V (1 + h.toNat)) (by first | omega | exact ⟨by omega, by omega⟩)) wM_L_number wS_L_number kl_L_29 ⟨rfl, rfl, Nat.le_of_ble_eq_true rfl, Nat.le_of_ble_eq_true rfl⟩ (Nat.le_of_ble_eq_true rfl) ⟨Nat.zero_le _, Nat.zero_le _⟩ rfl rfl dL_village_38 rfl ?_
      refine l_istore_n cx (pc2 := 42) (lv2 := [(0, .ref (P.2.1 0)), (1, .ref av), (2, .int (iI ((wNum (wPut (wHs V (t0M M) h.toNat) 104) (V (1 + h.toNat))).2))), (3, .int (iI h))]) rfl (Nat.le_of_ble_eq_true rfl) dL_village_41 rfl ?_
      refine l_iinc cx (pc2 := 45) 3 rfl (lv2 := [(0, .ref (P.2.1 0)), (1, .ref av), (2, .int (iI ((wNum (wPut (wHs V (t0M M) h.toNat) 104) (V (1 + h.toNat))).2))), (3, .int (iI (h + 1)))]) rfl (Nat.le_of_ble_eq_true rfl) dL_village_42 rfl ?_
      refine l_goto cx (tgt := 18) dL_village_45 (by decide) ?_
      have eN : (wNum (wPut (wHs V (t0M M) h.toNat) 104) (V (1 + h.toNat))) = wHs V (t0M M) (h + 1).toNat := by rw [show (h + 1).toNat = h.toNat + 1 by omega]; rfl
      rw [eN]
      exact ih _ (by omega) (h + 1) (by omega) (Nat.le_refl _)
set_option maxHeartbeats 4000000 in
set_option maxRecDepth 100000 in
theorem c_L_village {P : Pl} {b L : Nat} {xs : Nat → Int32} {n : Nat} (hn : NN n) {M : Mm} (hci : CI M) {R : va_W} {av : Nat} {V : Nat → Int} (q0 : Nat) (hV : R[q0]? = some (ar P av 64 V)) (hg : GV V) : CLW P b L xs yL_village cL_village 6 (some .boolean) ({ frames := 7, cells := 0, slots := 0, locals := 162 } : Room) 0 0 [.ref (P.2.1 0), .ref av] (wld P n M ++ R) (qT P n R (VOK V)) := by
  refine CLW.of (lv0 := [(0, .ref (P.2.1 0)), (1, .ref av)]) (by decide +kernel) rfl rfl (Nat.le_of_ble_eq_true rfl) (fun X cx ys sx qx => ?_)
  have hci1 := CI_tx1 hci
  have h21 : tx1 M 21 1 = 120 := stM_at _ _ _ _
  have ht := t0M_b hci
  have hv0 := hg.1.2.1
  have hv9 := hg.2.1
  refine l_aload_n cx (pc2 := 1) 0 rfl dL_village_0 rfl ?_
  refine l_iconst cx (pc2 := 2) dL_village_1 rfl ?_
  refine l_bipush cx (pc2 := 4) ⟨by decide, by decide⟩ dL_village_2 rfl ?_
  refine l_ctI cx (pc2 := 7) (st := []) ys hn (M := M) (As := [.int (iI 3), .int (iI 120)]) (c_text3 (M := M) hn hci) wM_X11_text wV_X11_text rfl kl_L_25 ⟨rfl, rfl, Nat.le_of_ble_eq_true rfl, Nat.le_of_ble_eq_true rfl⟩ (Nat.le_of_ble_eq_true rfl) ⟨Nat.zero_le _, Nat.zero_le _⟩ rfl rfl rfl dL_village_4 rfl ?_
  refine l_bipush cx (pc2 := 9) ⟨by decide, by decide⟩ dL_village_7 rfl ?_
  refine l_icmp_eq cx (pc2 := 12) (tgt := 14) ⟨⟨by decide, by decide⟩, ⟨by decide, by decide⟩⟩ dL_village_9 (by decide) rfl (fun h_1 => ?_) (fun h_1 => ?_)
  · skip
    refine l_iconst cx (pc2 := 15) dL_village_14 rfl ?_
    refine l_istore_n cx (pc2 := 16) (lv2 := [(0, .ref (P.2.1 0)), (1, .ref av), (2, .int (iI 0))]) rfl (Nat.le_of_ble_eq_true rfl) dL_village_15 rfl ?_
    refine l_iconst cx (pc2 := 17) dL_village_16 rfl ?_
    refine l_istore_n cx (pc2 := 18) (lv2 := [(0, .ref (P.2.1 0)), (1, .ref av), (2, .int (iI 0)), (3, .int (iI 0))]) rfl (Nat.le_of_ble_eq_true rfl) dL_village_17 rfl ?_
    exact village_L1 hn hci q0 hV hg cx ys sx qx _ 0 (by omega) (Nat.le_refl _)
  · skip
    omega
