/-- the letters of rules -/
def ltO (c : Int) : Int := if c = 118 then 0 else if c = 98 then 1 else if c = 110 then 2 else if c = 99 then 3 else if c = 109 then 4 else -9
theorem ltO_at {i : Nat} (hi : i < 5) : ltO (RLt i) = (i : Int) := by
  rcases (show i = 0 ∨ i = 1 ∨ i = 2 ∨ i = 3 ∨ i = 4 by omega) with rfl | rfl | rfl | rfl | rfl <;> rfl
theorem ltO_no {c : Int} (h : ∀ j : Nat, j < 5 → ¬ RLt j = c) : ltO c = -9 := by
  have h0 : ¬ c = 118 := fun q => h 0 (by omega) q.symm
  have h1 : ¬ c = 98 := fun q => h 1 (by omega) q.symm
  have h2 : ¬ c = 110 := fun q => h 2 (by omega) q.symm
  have h3 : ¬ c = 99 := fun q => h 3 (by omega) q.symm
  have h4 : ¬ c = 109 := fun q => h 4 (by omega) q.symm
  unfold ltO
  rw [if_neg h0, if_neg h1, if_neg h2, if_neg h3, if_neg h4]
theorem ltO_b (c : Int) : -9 ≤ ltO c ∧ ltO c ≤ 4 := by unfold ltO; (repeat split) <;> omega
theorem RLt_b (i : Nat) : 0 ≤ RLt i ∧ RLt i ≤ 118 := by
  by_cases h : i < 5
  · rcases (show i = 0 ∨ i = 1 ∨ i = 2 ∨ i = 3 ∨ i = 4 by omega) with rfl | rfl | rfl | rfl | rfl <;> decide
  · have e : RLt i = 0 := by
      unfold RLt
      rw [List.getD_eq_getElem?_getD, List.getElem?_eq_none (by simpa using h)]
      rfl
    rw [e]; omega
def adL (M : Mm) (l : Int) : Mm := if M 61 3 < 4 then stM (stM M 62 (M 61 3).toNat l) 61 3 (M 61 3 + 1) else M
/-- the letters of the first i signs of a text are laid -/
def tkP (M : Mm) (o : Nat) (i : Int) : Mm := fun a b => if a = 61 ∧ b = 3 then i else if a = 62 ∧ (b : Int) < i then ltO (M (o + 1) b) else M a b
theorem tkP_0 (M : Mm) (o : Nat) : stM M 61 3 0 = tkP M o 0 := by
  funext a b
  unfold stM tkP
  by_cases h : a = 61 ∧ b = 3
  · rw [if_pos h, if_pos h]
  · rw [if_neg h, if_neg h, if_neg (by omega)]
theorem tkP_s {M : Mm} {o : Nat} {i : Int} (h0 : 0 ≤ i) (h4 : i < 4) : adL (tkP M o i) (ltO (M (o + 1) i.toNat)) = tkP M o (i + 1) := by
  have e : tkP M o i 61 3 = i := rfl
  unfold adL
  rw [e, if_pos h4]
  funext a b
  unfold stM tkP
  by_cases h : a = 61 ∧ b = 3
  · rw [if_pos h, if_pos h]
  · simp only [h, if_false]
    by_cases h2 : a = 62 ∧ b = i.toNat
    · rw [if_pos h2, if_pos (show a = 62 ∧ (b : Int) < i + 1 by omega), h2.2]
    · rw [if_neg h2]
      by_cases h3 : a = 62 ∧ (b : Int) < i
      · rw [if_pos h3, if_pos (by omega)]
      · rw [if_neg h3, if_neg (by omega)]
theorem tkP_off {M : Mm} {o : Nat} {i : Int} {a : Nat} (h : a ≠ 61 ∧ a ≠ 62) : tkP M o i a = M a := by
  funext b
  unfold tkP
  rw [if_neg (fun q => h.1 q.1), if_neg (fun q => h.2 q.1)]
abbrev vR (M : Mm) (o : Nat) : Prop := (1 ≤ M o 1 ∧ M o 1 ≤ 4) ∧ ∀ j : Nat, (j : Int) < M o 1 → ¬ ltO (M (o + 1) j) = -9
abbrev CW (M : Mm) : Prop := (0 ≤ M 61 3 ∧ M 61 3 ≤ 4) ∧ ∀ j, -9 ≤ M 62 j ∧ M 62 j ≤ 5
theorem CW_ad {M : Mm} (hC : CW M) {l : Int} (hl : -9 ≤ l ∧ l ≤ 5) : CW (adL M l) := by
  unfold adL
  split
  · have h3 := hC.1
    refine ⟨?_, fun j => ?_⟩
    · rw [stM_at]; omega
    · have h4 := hC.2 j
      rw [stM_off (show 62 ≠ 61 by decide)]
      by_cases hj : j = (M 61 3).toNat
      · rw [hj, stM_at]; exact hl
      · rw [stM_ne _ _ (Or.inr hj)]; exact h4
  · exact hC
def tnM (M : Mm) (q : Int) : Mm := if q < 5 then adL (stM M 61 3 0) q else adL (adL (stM M 61 3 0) ((q - 5).tdiv 5)) (q - 5 - (q - 5).tdiv 5 * 5)
/-- how a need stands by a letter -/
def rkM (M : Mm) (i l : Int) : Int := if l = 0 then -(M (27 + i.toNat) 5) else if l = 1 then M (27 + i.toNat) 3 else if l = 2 then M (27 + i.toNat) 4 else if l = 3 then wap (M 54 4) (plc M 23 (M (27 + i.toNat) 1)) else if isAK (M (27 + i.toNat) 0) 1 then 0 else 1
theorem rkM_b {M : Mm} (hnd : NDA M) (hp : PLW M 23) (hw : WW M) {i l : Int} (hi : 0 ≤ i ∧ i < 8) : -100 ≤ rkM M i l ∧ rkM M i l ≤ 100 := by
  have h1 := hnd.2 i.toNat (by omega)
  have h2 := wap_b hw.2.1 (plc_b hp (M (27 + i.toNat) 1))
  unfold rkM
  (repeat split) <;> omega
def ahF (M : Mm) (i j : Int) : Nat → Nat → Bool
  | 0, _ => false
  | f + 1, l => if rkM M i (M 62 l) - rkM M j (M 62 l) = 0 then ahF M i j f (l + 1) else decide (rkM M i (M 62 l) - rkM M j (M 62 l) < 0)
def ahM (M : Mm) (i j : Int) : Bool := ahF M i j (M 61 3).toNat 0
def nxF (M : Mm) : Nat → Int
  | 0 => -9
  | i + 1 => if (¬ inS (i : Int) ((mtF M (M 54 3).toNat : Nat) : Int) ∧ ¬ endJ M (i : Int) (M 54 4) (M 54 5) = -9) ∧ (nxF M i = -9 ∨ ahM M (i : Int) (nxF M i) = true) then (i : Int) else nxF M i
def nxM (M : Mm) : Int := nxF M (M 23 4).toNat
theorem nxF_b (M : Mm) : ∀ i : Nat, nxF M i = -9 ∨ (0 ≤ nxF M i ∧ nxF M i < (i : Int))
  | 0 => Or.inl rfl
  | i + 1 => by
    have h := nxF_b M i
    rw [nxF]
    split <;> omega
def goS (T : Mm) : Mm := if okW T (nxM T) then meM T (nxM T) else T
def goF (M : Mm) : Nat → Mm
  | 0 => M
  | k + 1 => goS (goF M k)
def goM (M : Mm) : Mm := goF (stM (stM (stM M 54 3 0) 54 4 (plc M 23 (M 23 5))) 54 5 0) 8
theorem goF_fix {M : Mm} {k : Nat} (h : ¬ okW (goF M k) (nxM (goF M k))) : ∀ j, goF M (k + j) = goF M k
  | 0 => rfl
  | j + 1 => by
    rw [← Nat.add_assoc, goF, goF_fix h j]
    unfold goS
    rw [if_neg h]
theorem meM_off (M : Mm) (i : Int) {a : Nat} (h : a ≠ 54 ∧ a ≠ 55 ∧ a ≠ 56) : meM M i a = M a := by
  unfold meM
  rw [stM_off h.1, stM_off h.1, stM_off h.1, stM_off h.2.2, stM_off h.2.1]
theorem goF_off (M : Mm) {a : Nat} (h : a ≠ 54 ∧ a ≠ 55 ∧ a ≠ 56) : ∀ k, goF M k a = M a
  | 0 => rfl
  | k + 1 => by
    rw [goF, goS]
    split
    · rw [meM_off _ _ h, goF_off M h k]
    · exact goF_off M h k
theorem WW_me {M : Mm} (hJ : JW M) (hw : WW M) {i : Int} (ho : okW M i) : WW (meM M i) := by
  have hb := endJ_b hJ (i := i) (p := M 54 4) (f := M 54 5) hw.2.1 hw.2.2.1.1
  have hi : 0 ≤ i ∧ i < M 48 5 := by
    have := ho.1
    unfold endJ at this
    by_cases h : 0 ≤ i ∧ i < M 48 5
    · exact h
    · rw [if_neg h] at this
      exact absurd rfl this
  have hl := lnJ_b hJ i
  have hpl := plJ_b hJ i
  have hj := hJ.2 i.toNat
  have hE : M 50 i.toNat ≤ endJ M i (M 54 4) (M 54 5) - lnJ M i := by
    have := ho.1
    unfold endJ at this ⊢
    rw [if_pos hi] at this ⊢
    unfold lnJ
    rw [if_pos hi]
    by_cases h : bgJ M i (M 54 4) (M 54 5) ≤ M 51 i.toNat
    · rw [if_pos h]
      unfold bgJ
      split <;> omega
    · rw [if_neg h] at this
      exact absurd rfl this
  refine ⟨?_, ?_, ?_, fun j => ⟨?_, ?_⟩⟩
  · show 0 ≤ M 54 3 + 1 ∧ M 54 3 + 1 ≤ 8
    have := hw.1
    have := ho.2
    omega
  · show 0 ≤ plJ M i ∧ plJ M i ≤ 15
    exact hpl
  · show 0 ≤ endJ M i (M 54 4) (M 54 5) ∧ endJ M i (M 54 4) (M 54 5) ≤ 100
    have := ho.1
    omega
  · have e : meM M i 55 j = if j = (M 54 3).toNat then i else M 55 j := by
      unfold meM
      rw [stM_off (by decide), stM_off (by decide), stM_off (by decide), stM_off (by decide)]
      by_cases hj2 : j = (M 54 3).toNat
      · rw [if_pos hj2, hj2, stM_at]
      · rw [if_neg hj2, stM_ne _ _ (Or.inr hj2)]
    have := hw.2.2.2 j
    have := hJ.1
    rw [e]
    split <;> omega
  · have e : meM M i 56 j = if j = (M 54 3).toNat then endJ M i (M 54 4) (M 54 5) - lnJ M i else M 56 j := by
      unfold meM
      rw [stM_off (by decide), stM_off (by decide), stM_off (by decide)]
      by_cases hj2 : j = (M 54 3).toNat
      · rw [if_pos hj2, hj2, stM_at]
      · rw [if_neg hj2, stM_ne _ _ (Or.inr hj2), stM_off (by decide)]
    have := hw.2.2.2 j
    have := ho.1
    rw [e]
    by_cases hj3 : j = (M 54 3).toNat
    · rw [if_pos hj3]; omega
    · rw [if_neg hj3]; omega
theorem WW_bg {M : Mm} (hw : WW M) {p : Int} (hp : 0 ≤ p ∧ p ≤ 15) : WW (stM (stM (stM M 54 3 0) 54 4 p) 54 5 0) := by
  refine ⟨?_, ?_, ?_, fun j => hw.2.2.2 j⟩
  · show (0 : Int) ≤ 0 ∧ (0 : Int) ≤ 8
    omega
  · show 0 ≤ p ∧ p ≤ 15
    exact hp
  · show (0 : Int) ≤ 0 ∧ (0 : Int) ≤ 100
    omega
theorem goF_W {M : Mm} (hJ : JW M) (hw : WW M) : ∀ k, JW (goF M k) ∧ WW (goF M k)
  | 0 => ⟨hJ, hw⟩
  | k + 1 => by
    have h := goF_W hJ hw k
    refine ⟨JW_of (fun a h1 h2 => goF_off M (by omega) (k + 1)) hJ, ?_⟩
    rw [goF, goS]
    split
    · exact WW_me h.1 h.2 (by assumption)
    · exact h.2
set_option maxHeartbeats 4000000 in
set_option maxRecDepth 100000 in
theorem c_X0_addLetter {n : Nat} (hn : NN n) {M : Mm} (hC : CW M) (l : Int) : CT yX0_addLetter cX0_addLetter 2 none ({ frames := 0, cells := 0, slots := 0, locals := 0 }) n [.ref 61, .int (iI l)] M (rV (adL M l)) := by
  refine CT.of (lv0 := [(0, .ref 61), (1, .int (iI l))]) (by decide +kernel) hn (fun _ => rfl) (fun _ => Nat.le_of_ble_eq_true rfl) (fun X cx cs qx => ?_)
  have cx : Cx X cX0_addLetter RX0 ({ frames := 0, cells := 0, slots := 0, locals := 0 }) 2 n := cx
  have h3 := hC.1
  refine g_aload_n cx (pc2 := 1) 0 rfl dX0_addLetter_0 rfl ?_
  refine g_get cx (pc2 := 4) (ci := 0) (k0 := 61) (j := 3) (v := .int (iI (M 61 3))) rfl iwX0 rfl (lt_lit hn (Nat.le_of_ble_eq_true rfl)) rfl (Nat.le_of_ble_eq_true rfl) kf_X0_15 rfl rfl dX0_addLetter_1 rfl ?_
  refine g_aload_n cx (pc2 := 5) 0 rfl dX0_addLetter_4 rfl ?_
  refine g_get cx (pc2 := 8) (ci := 0) (k0 := 61) (j := 2) (v := .ref 62) rfl iwX0 rfl (lt_lit hn (Nat.le_of_ble_eq_true rfl)) rfl (Nat.le_of_ble_eq_true rfl) kf_X0_9 rfl rfl dX0_addLetter_5 rfl ?_
  refine g_alen cx (pc2 := 9) (k0 := 62) (v := 4) rfl (by decide) (lt_lit hn (Nat.le_of_ble_eq_true rfl)) rfl dX0_addLetter_8 rfl ?_
  refine g_icmp_ge cx (pc2 := 12) (tgt := 32) ⟨(by first | assumption | omega), ⟨by decide, by decide⟩⟩ dX0_addLetter_9 (by decide) rfl (fun h_1 => ?_) (fun h_1 => ?_)
  · skip
    exact g_vret cx qx dX0_addLetter_32 ⟨rfl, by unfold adL; first | (rw [if_neg (by omega)]; done) | (rw [if_pos (by omega)]; done) | (rw [if_pos (by omega)]; rfl)⟩
  · skip
    refine g_aload_n cx (pc2 := 13) 0 rfl dX0_addLetter_12 rfl ?_
    refine g_get cx (pc2 := 16) (ci := 0) (k0 := 61) (j := 2) (v := .ref 62) rfl iwX0 rfl (lt_lit hn (Nat.le_of_ble_eq_true rfl)) rfl (Nat.le_of_ble_eq_true rfl) kf_X0_9 rfl rfl dX0_addLetter_13 rfl ?_
    refine g_aload_n cx (pc2 := 17) 0 rfl dX0_addLetter_16 rfl ?_
    refine g_get cx (pc2 := 20) (ci := 0) (k0 := 61) (j := 3) (v := .int (iI (M 61 3))) rfl iwX0 rfl (lt_lit hn (Nat.le_of_ble_eq_true rfl)) rfl (Nat.le_of_ble_eq_true rfl) kf_X0_15 rfl rfl dX0_addLetter_17 rfl ?_
    refine g_iload_n cx (pc2 := 21) 1 rfl dX0_addLetter_20 rfl ?_
    refine g_iast cx (pc2 := 22) (k0 := 62) rfl (lt_lit hn (Nat.le_of_ble_eq_true rfl)) (by first | assumption | omega) (by first | assumption | omega) (Nat.le_of_ble_eq_true rfl) dX0_addLetter_21 rfl ?_
    refine g_aload_n cx (pc2 := 23) 0 rfl dX0_addLetter_22 rfl ?_
    refine g_dup cx (pc2 := 24) rfl dX0_addLetter_23 rfl ?_
    refine g_get cx (pc2 := 27) (ci := 0) (k0 := 61) (j := 3) (v := .int (iI (M 61 3))) rfl iwX0 rfl (lt_lit hn (Nat.le_of_ble_eq_true rfl)) rfl (Nat.le_of_ble_eq_true rfl) kf_X0_15 rfl (congrArg (fun q => Value.int (iI q)) (by simp [stM])) dX0_addLetter_24 rfl ?_
    refine g_iconst cx (pc2 := 28) dX0_addLetter_27 rfl ?_
    refine g_iadd cx (pc2 := 29) dX0_addLetter_28 rfl ?_
    refine g_puti cx (pc2 := 32) (ci := 0) (k0 := 61) (j := 3) rfl iwX0 rfl (lt_lit hn (Nat.le_of_ble_eq_true rfl)) rfl (Nat.le_of_ble_eq_true rfl) kf_X0_15 rfl tyX0_ok nmX0 rfl rfl dX0_addLetter_29 rfl ?_
    exact g_vret cx qx dX0_addLetter_32 ⟨rfl, by unfold adL; first | (rw [if_neg (by omega)]; done) | (rw [if_pos (by omega)]; done) | (rw [if_pos (by omega)]; rfl)⟩
set_option maxHeartbeats 4000000 in
set_option maxRecDepth 100000 in
theorem c_X0_takeNumber {n : Nat} (hn : NN n) {M : Mm} (hC : CW M) (q : Int) (hq : 0 ≤ q ∧ q < 30) : CT yX0_takeNumber cX0_takeNumber 5 (some .boolean) ({ frames := 1, cells := 0, slots := 0, locals := 21 }) n [.ref 61, .int (iI q)] M (rI (b2 (q < 5 ∨ ¬ (q - 5).tdiv 5 = q - 5 - (q - 5).tdiv 5 * 5)) (tnM M q)) := by
  refine CT.of (lv0 := [(0, .ref 61), (1, .int (iI q))]) (by decide +kernel) hn (fun _ => rfl) (fun _ => Nat.le_of_ble_eq_true rfl) (fun X cx cs qx => ?_)
  have cx : Cx X cX0_takeNumber RX0 ({ frames := 1, cells := 0, slots := 0, locals := 21 }) 5 n := cx
  have hS0 : CW (stM M 61 3 0) := ⟨by show (0 : Int) ≤ 0 ∧ (0 : Int) ≤ 4; omega, fun j => hC.2 j⟩
  have hdv : (q - 5).tdiv 5 = if q < 5 then (q - 5).tdiv 5 else (q - 5) / 5 := by split; rfl; exact Int.tdiv_eq_ediv_of_nonneg (by omega)
  refine g_getsRLN cx (pc2 := 3) kf_X0_44 dX0_takeNumber_0 rfl ?_
  refine g_slenRL cx (pc2 := 4) dX0_takeNumber_3 rfl ?_
  refine g_istore_n cx (pc2 := 5) (lv2 := [(0, .ref 61), (1, .int (iI q)), (2, .int (iI 5))]) rfl (Nat.le_of_ble_eq_true rfl) dX0_takeNumber_4 rfl ?_
  refine g_aload_n cx (pc2 := 6) 0 rfl dX0_takeNumber_5 rfl ?_
  refine g_iconst cx (pc2 := 7) dX0_takeNumber_6 rfl ?_
  refine g_puti cx (pc2 := 10) (ci := 0) (k0 := 61) (j := 3) rfl iwX0 rfl (lt_lit hn (Nat.le_of_ble_eq_true rfl)) rfl (Nat.le_of_ble_eq_true rfl) kf_X0_15 rfl tyX0_ok nmX0 rfl rfl dX0_takeNumber_7 rfl ?_
  refine g_iload_n cx (pc2 := 11) 1 rfl dX0_takeNumber_10 rfl ?_
  refine g_iload_n cx (pc2 := 12) 2 rfl dX0_takeNumber_11 rfl ?_
  refine g_icmp_ge cx (pc2 := 15) (tgt := 22) ⟨(by first | assumption | omega), ⟨by decide, by decide⟩⟩ dX0_takeNumber_12 (by decide) rfl (fun h_1 => ?_) (fun h_1 => ?_)
  · skip
    rw [if_neg (by omega)] at hdv
    have hS1 : CW (adL (stM M 61 3 0) ((q - 5).tdiv 5)) := CW_ad hS0 (by omega)
    refine g_iload_n cx (pc2 := 23) 1 rfl dX0_takeNumber_22 rfl ?_
    refine g_iload_n cx (pc2 := 24) 2 rfl dX0_takeNumber_23 rfl ?_
    refine g_isub cx (pc2 := 25) dX0_takeNumber_24 rfl ?_
    refine g_iconst cx (pc2 := 26) dX0_takeNumber_25 rfl ?_
    refine g_idiv cx (pc2 := 27) (by exact ⟨by omega, ⟨by decide, by decide⟩, by decide, Or.inr (by decide)⟩) dX0_takeNumber_26 rfl ?_
    refine g_istore_n cx (pc2 := 28) (lv2 := [(0, .ref 61), (1, .int (iI q)), (2, .int (iI 5)), (3, .int (iI ((q - 5).tdiv 5)))]) rfl (Nat.le_of_ble_eq_true rfl) dX0_takeNumber_27 rfl ?_
    refine g_iload_n cx (pc2 := 29) 1 rfl dX0_takeNumber_28 rfl ?_
    refine g_iload_n cx (pc2 := 30) 2 rfl dX0_takeNumber_29 rfl ?_
    refine g_isub cx (pc2 := 31) dX0_takeNumber_30 rfl ?_
    refine g_iconst cx (pc2 := 32) dX0_takeNumber_31 rfl ?_
    refine g_irem cx (pc2 := 33) (by exact ⟨by omega, ⟨by decide, by decide⟩, by decide, Or.inr (by decide)⟩) dX0_takeNumber_32 rfl ?_
    refine g_istore cx (pc2 := 35) (lv2 := [(0, .ref 61), (1, .int (iI q)), (2, .int (iI 5)), (3, .int (iI ((q - 5).tdiv 5))), (4, .int (iI ((q - 5) - (q - 5).tdiv 5 * 5)))]) rfl (Nat.le_of_ble_eq_true rfl) dX0_takeNumber_33 rfl ?_
    refine g_aload_n cx (pc2 := 36) 0 rfl dX0_takeNumber_35 rfl ?_
    refine g_iload_n cx (pc2 := 37) 3 rfl dX0_takeNumber_36 rfl ?_
    refine g_callV cx (pc2 := 40) (st := []) (As := [.int (iI ((q - 5).tdiv 5))]) (k0 := 61) (ci := 0) (c_X0_addLetter (M := (stM M 61 3 0)) hn (by exact hS0) ((q - 5).tdiv 5)) wM_X0_addLetter wV_X0_addLetter kl_X0_40 rfl (lt_lit hn (Nat.le_of_ble_eq_true rfl)) rfl ⟨rfl, rfl, Nat.le_of_ble_eq_true rfl, Nat.le_of_ble_eq_true rfl⟩ (Nat.le_of_ble_eq_true rfl) cs rfl rfl dX0_takeNumber_37 rfl ?_
    rintro _ _ ⟨rfl, rfl⟩
    refine g_aload_n cx (pc2 := 41) 0 rfl dX0_takeNumber_40 rfl ?_
    refine g_iload cx (pc2 := 43) 4 rfl dX0_takeNumber_41 rfl ?_
    refine g_callV cx (pc2 := 46) (st := []) (As := [.int (iI ((q - 5) - (q - 5).tdiv 5 * 5))]) (k0 := 61) (ci := 0) (c_X0_addLetter (M := (adL (stM M 61 3 0) ((q - 5).tdiv 5))) hn (by exact hS1) ((q - 5) - (q - 5).tdiv 5 * 5)) wM_X0_addLetter wV_X0_addLetter kl_X0_40 rfl (lt_lit hn (Nat.le_of_ble_eq_true rfl)) rfl ⟨rfl, rfl, Nat.le_of_ble_eq_true rfl, Nat.le_of_ble_eq_true rfl⟩ (Nat.le_of_ble_eq_true rfl) cs rfl rfl dX0_takeNumber_43 rfl ?_
    rintro _ _ ⟨rfl, rfl⟩
    refine g_iload_n cx (pc2 := 47) 3 rfl dX0_takeNumber_46 rfl ?_
    refine g_iload cx (pc2 := 49) 4 rfl dX0_takeNumber_47 rfl ?_
    refine g_icmp_eq cx (pc2 := 52) (tgt := 56) ⟨(by first | assumption | omega), (by first | assumption | omega)⟩ dX0_takeNumber_49 (by decide) rfl (fun h_2 => ?_) (fun h_2 => ?_)
    · skip
      refine g_iconst cx (pc2 := 57) dX0_takeNumber_56 rfl ?_
      exact g_zret cx (Or.inl rfl) qx dX0_takeNumber_57 ⟨rb_f (by first | exact Or.inl (by assumption) | exact Or.inl (by omega) | (rintro (q1 | q1); omega; exact q1 (by assumption)) | exact Or.inr (by assumption)), by unfold tnM; first | (rw [if_pos (by omega)]; done) | (rw [if_neg (by omega)]; done)⟩
    · skip
      refine g_iconst cx (pc2 := 53) dX0_takeNumber_52 rfl ?_
      refine g_goto cx (tgt := 57) dX0_takeNumber_53 (by decide) ?_
      exact g_zret cx (Or.inr rfl) qx dX0_takeNumber_57 ⟨rb_t (by first | exact Or.inl (by assumption) | exact Or.inl (by omega) | (rintro (q1 | q1); omega; exact q1 (by assumption)) | exact Or.inr (by assumption)), by unfold tnM; first | (rw [if_pos (by omega)]; done) | (rw [if_neg (by omega)]; done)⟩
  · skip
    
    refine g_aload_n cx (pc2 := 16) 0 rfl dX0_takeNumber_15 rfl ?_
    refine g_iload_n cx (pc2 := 17) 1 rfl dX0_takeNumber_16 rfl ?_
    refine g_callV cx (pc2 := 20) (st := []) (As := [.int (iI q)]) (k0 := 61) (ci := 0) (c_X0_addLetter (M := (stM M 61 3 0)) hn (by exact hS0) q) wM_X0_addLetter wV_X0_addLetter kl_X0_40 rfl (lt_lit hn (Nat.le_of_ble_eq_true rfl)) rfl ⟨rfl, rfl, Nat.le_of_ble_eq_true rfl, Nat.le_of_ble_eq_true rfl⟩ (Nat.le_of_ble_eq_true rfl) cs rfl rfl dX0_takeNumber_17 rfl ?_
    rintro _ _ ⟨rfl, rfl⟩
    refine g_iconst cx (pc2 := 21) dX0_takeNumber_20 rfl ?_
    exact g_zret cx (Or.inr rfl) qx dX0_takeNumber_21 ⟨rb_t (by first | exact Or.inl (by assumption) | exact Or.inl (by omega) | (rintro (q1 | q1); omega; exact q1 (by assumption)) | exact Or.inr (by assumption)), by unfold tnM; first | (rw [if_pos (by omega)]; done) | (rw [if_neg (by omega)]; done)⟩
set_option maxHeartbeats 4000000 in
set_option maxRecDepth 100000 in
theorem c_X0_rankOf {n : Nat} (hn : NN n) {M : Mm} (hl : LW M 23) (hnd : NDA M) (hp : PLW M 23) (hJ : JW M) (hw : WW M) (hC : CW M) (i l : Int) (hi : 0 ≤ i ∧ i < M 23 4) (hl2 : ir l) : CT yX0_rankOf cX0_rankOf 4 (some .int) ({ frames := 2, cells := 0, slots := 0, locals := 43 }) n [.ref 61, .int (iI i), .int (iI l)] M (rI (rkM M i l) M) := by
  refine CT.of (lv0 := [(0, .ref 61), (1, .int (iI i)), (2, .int (iI l))]) (by decide +kernel) hn (fun _ => rfl) (fun _ => Nat.le_of_ble_eq_true rfl) (fun X cx cs qx => ?_)
  have cx : Cx X cX0_rankOf RX0 ({ frames := 2, cells := 0, slots := 0, locals := 43 }) 4 n := cx
  have hndi := hnd.2 i.toNat (by omega)
  have hw2 := hw.2.1
  refine g_aload_n cx (pc2 := 1) 0 rfl dX0_rankOf_0 rfl ?_
  refine g_get cx (pc2 := 4) (ci := 0) (k0 := 61) (j := 0) (v := .ref 23) rfl iwX0 rfl (lt_lit hn (Nat.le_of_ble_eq_true rfl)) rfl (Nat.le_of_ble_eq_true rfl) kf_X0_19 rfl rfl dX0_rankOf_1 rfl ?_
  refine g_iload_n cx (pc2 := 5) 1 rfl dX0_rankOf_4 rfl ?_
  refine g_callV cx (pc2 := 8) (st := []) (As := [.int (iI i)]) (k0 := 23) (ci := 2) (c_X2_needOf (M := M) hn (by first | assumption | omega) (by first | assumption | omega) i (by first | assumption | omega)) wM_X2_needOf wV_X2_needOf kl_X0_98 rfl (lt_lit hn (Nat.le_of_ble_eq_true rfl)) rfl ⟨rfl, rfl, Nat.le_of_ble_eq_true rfl, Nat.le_of_ble_eq_true rfl⟩ (Nat.le_of_ble_eq_true rfl) cs rfl rfl dX0_rankOf_5 rfl ?_
  rintro _ _ ⟨rfl, rfl⟩
  refine g_rwa (y := (27 + i.toNat)) ((ndO_in (M := M) (o := 23) (i := i) hi).trans (by omega)) ?_
  refine g_astore_n cx (pc2 := 9) (lv2 := [(0, .ref 61), (1, .int (iI i)), (2, .int (iI l)), (3, .ref (27 + i.toNat))]) rfl (Nat.le_of_ble_eq_true rfl) dX0_rankOf_8 rfl ?_
  refine g_iload_n cx (pc2 := 10) 2 rfl dX0_rankOf_9 rfl ?_
  rcases (show (l < 0 ∨ 3 < l) ∨ l = 0 ∨ l = 1 ∨ l = 2 ∨ l = 3 from by omega) with h_1 | h_1 | h_1 | h_1 | h_1
  · skip
    refine g_swOut cx (tgt := 78) (by first | assumption | omega) dX0_rankOf_10 h_1 (by decide) ?_
    refine g_aload_n cx (pc2 := 79) 3 rfl dX0_rankOf_78 rfl ?_
    refine g_iconst cx (pc2 := 80) dX0_rankOf_79 rfl ?_
    refine g_callV cx (pc2 := 83) (st := []) (As := [.int (iI 1)]) (k0 := (27 + i.toNat)) (ci := 4) (c_X4_isA (M := M) hn (by omega) (by exact hndi) 1 (by first | assumption | omega)) wM_X4_isA wV_X4_isA kl_X0_121 (sh_need (by omega)) (by omega) rfl ⟨rfl, rfl, Nat.le_of_ble_eq_true rfl, Nat.le_of_ble_eq_true rfl⟩ (Nat.le_of_ble_eq_true rfl) cs rfl rfl dX0_rankOf_80 rfl ?_
    rintro _ _ ⟨rfl, rfl⟩
    refine g_ifb_eq cx (pc2 := 86) (tgt := 90) dX0_rankOf_83 (by decide) rfl (fun h_2 => ?_) (fun h_2 => ?_)
    · skip
      refine g_iconst cx (pc2 := 91) dX0_rankOf_90 rfl ?_
      exact g_iret cx qx dX0_rankOf_91 ⟨congrArg (fun q => some (Value.int (iI q))) (by unfold rkM; first | (rw [if_pos (by assumption)]; done) | (rw [if_neg (by omega), if_pos (by assumption)]; done) | (rw [if_neg (by omega), if_neg (by omega), if_pos (by assumption)]; done) | (rw [if_neg (by omega), if_neg (by omega), if_neg (by omega), if_pos (by assumption)]; done) | (rw [if_neg (by omega), if_neg (by omega), if_neg (by omega), if_neg (by omega), if_pos (by assumption)]; done) | (rw [if_neg (by omega), if_neg (by omega), if_neg (by omega), if_neg (by omega), if_neg (by assumption)]; done)), by rfl⟩
    · skip
      refine g_iconst cx (pc2 := 87) dX0_rankOf_86 rfl ?_
      refine g_goto cx (tgt := 91) dX0_rankOf_87 (by decide) ?_
      exact g_iret cx qx dX0_rankOf_91 ⟨congrArg (fun q => some (Value.int (iI q))) (by unfold rkM; first | (rw [if_pos (by assumption)]; done) | (rw [if_neg (by omega), if_pos (by assumption)]; done) | (rw [if_neg (by omega), if_neg (by omega), if_pos (by assumption)]; done) | (rw [if_neg (by omega), if_neg (by omega), if_neg (by omega), if_pos (by assumption)]; done) | (rw [if_neg (by omega), if_neg (by omega), if_neg (by omega), if_neg (by omega), if_pos (by assumption)]; done) | (rw [if_neg (by omega), if_neg (by omega), if_neg (by omega), if_neg (by omega), if_neg (by assumption)]; done)), by rfl⟩
  · skip
    refine g_swIn cx (tgt := 40) (by first | assumption | omega) dX0_rankOf_10 (by omega) (by omega) (by rw [h_1]; rfl) (by decide) ?_
    refine g_aload_n cx (pc2 := 41) 3 rfl dX0_rankOf_40 rfl ?_
    refine g_getN cx (pc2 := 44) (ci := 4) (k0 := (27 + i.toNat)) (j := 5) (v := .int (iI (M (27 + i.toNat) 5))) rfl iwX4 (sh_need (by omega)) (by omega) rfl (Nat.le_of_ble_eq_true rfl) kf_X0_102 rfl rfl dX0_rankOf_41 rfl ?_
    refine g_ineg cx (pc2 := 45) dX0_rankOf_44 rfl ?_
    exact g_iret cx qx dX0_rankOf_45 ⟨congrArg (fun q => some (Value.int (iI q))) (by unfold rkM; first | (rw [if_pos (by assumption)]; done) | (rw [if_neg (by omega), if_pos (by assumption)]; done) | (rw [if_neg (by omega), if_neg (by omega), if_pos (by assumption)]; done) | (rw [if_neg (by omega), if_neg (by omega), if_neg (by omega), if_pos (by assumption)]; done) | (rw [if_neg (by omega), if_neg (by omega), if_neg (by omega), if_neg (by omega), if_pos (by assumption)]; done) | (rw [if_neg (by omega), if_neg (by omega), if_neg (by omega), if_neg (by omega), if_neg (by assumption)]; done)), by rfl⟩
  · skip
    refine g_swIn cx (tgt := 46) (by first | assumption | omega) dX0_rankOf_10 (by omega) (by omega) (by rw [h_1]; rfl) (by decide) ?_
    refine g_aload_n cx (pc2 := 47) 3 rfl dX0_rankOf_46 rfl ?_
    refine g_getN cx (pc2 := 50) (ci := 4) (k0 := (27 + i.toNat)) (j := 3) (v := .int (iI (M (27 + i.toNat) 3))) rfl iwX4 (sh_need (by omega)) (by omega) rfl (Nat.le_of_ble_eq_true rfl) kf_X0_107 rfl rfl dX0_rankOf_47 rfl ?_
    exact g_iret cx qx dX0_rankOf_50 ⟨congrArg (fun q => some (Value.int (iI q))) (by unfold rkM; first | (rw [if_pos (by assumption)]; done) | (rw [if_neg (by omega), if_pos (by assumption)]; done) | (rw [if_neg (by omega), if_neg (by omega), if_pos (by assumption)]; done) | (rw [if_neg (by omega), if_neg (by omega), if_neg (by omega), if_pos (by assumption)]; done) | (rw [if_neg (by omega), if_neg (by omega), if_neg (by omega), if_neg (by omega), if_pos (by assumption)]; done) | (rw [if_neg (by omega), if_neg (by omega), if_neg (by omega), if_neg (by omega), if_neg (by assumption)]; done)), by rfl⟩
  · skip
    refine g_swIn cx (tgt := 51) (by first | assumption | omega) dX0_rankOf_10 (by omega) (by omega) (by rw [h_1]; rfl) (by decide) ?_
    refine g_aload_n cx (pc2 := 52) 3 rfl dX0_rankOf_51 rfl ?_
    refine g_getN cx (pc2 := 55) (ci := 4) (k0 := (27 + i.toNat)) (j := 4) (v := .int (iI (M (27 + i.toNat) 4))) rfl iwX4 (sh_need (by omega)) (by omega) rfl (Nat.le_of_ble_eq_true rfl) kf_X0_110 rfl rfl dX0_rankOf_52 rfl ?_
    exact g_iret cx qx dX0_rankOf_55 ⟨congrArg (fun q => some (Value.int (iI q))) (by unfold rkM; first | (rw [if_pos (by assumption)]; done) | (rw [if_neg (by omega), if_pos (by assumption)]; done) | (rw [if_neg (by omega), if_neg (by omega), if_pos (by assumption)]; done) | (rw [if_neg (by omega), if_neg (by omega), if_neg (by omega), if_pos (by assumption)]; done) | (rw [if_neg (by omega), if_neg (by omega), if_neg (by omega), if_neg (by omega), if_pos (by assumption)]; done) | (rw [if_neg (by omega), if_neg (by omega), if_neg (by omega), if_neg (by omega), if_neg (by assumption)]; done)), by rfl⟩
  · skip
    refine g_swIn cx (tgt := 56) (by first | assumption | omega) dX0_rankOf_10 (by omega) (by omega) (by rw [h_1]; rfl) (by decide) ?_
    refine g_aload_n cx (pc2 := 57) 0 rfl dX0_rankOf_56 rfl ?_
    refine g_get cx (pc2 := 60) (ci := 0) (k0 := 61) (j := 1) (v := .ref 54) rfl iwX0 rfl (lt_lit hn (Nat.le_of_ble_eq_true rfl)) rfl (Nat.le_of_ble_eq_true rfl) kf_X0_23 rfl rfl dX0_rankOf_57 rfl ?_
    refine g_getN cx (pc2 := 63) (ci := 10) (k0 := 54) (j := 4) (v := .int (iI (M 54 4))) rfl iwX10 rfl (lt_lit hn (Nat.le_of_ble_eq_true rfl)) rfl (Nat.le_of_ble_eq_true rfl) kf_X0_79 rfl rfl dX0_rankOf_60 rfl ?_
    refine g_aload_n cx (pc2 := 64) 0 rfl dX0_rankOf_63 rfl ?_
    refine g_get cx (pc2 := 67) (ci := 0) (k0 := 61) (j := 0) (v := .ref 23) rfl iwX0 rfl (lt_lit hn (Nat.le_of_ble_eq_true rfl)) rfl (Nat.le_of_ble_eq_true rfl) kf_X0_19 rfl rfl dX0_rankOf_64 rfl ?_
    refine g_aload_n cx (pc2 := 68) 3 rfl dX0_rankOf_67 rfl ?_
    refine g_getN cx (pc2 := 71) (ci := 4) (k0 := (27 + i.toNat)) (j := 1) (v := .int (iI (M (27 + i.toNat) 1))) rfl iwX4 (sh_need (by omega)) (by omega) rfl (Nat.le_of_ble_eq_true rfl) kf_X0_112 rfl rfl dX0_rankOf_68 rfl ?_
    refine g_callV cx (pc2 := 74) (st := [.int (iI (M 54 4))]) (As := [.int (iI (M (27 + i.toNat) 1))]) (k0 := 23) (ci := 2) (c_X2_placeOf (M := M) hn (by first | assumption | omega) (by first | assumption | omega) (M (27 + i.toNat) 1) (by omega)) wM_X2_placeOf wV_X2_placeOf kl_X0_115 rfl (lt_lit hn (Nat.le_of_ble_eq_true rfl)) rfl ⟨rfl, rfl, Nat.le_of_ble_eq_true rfl, Nat.le_of_ble_eq_true rfl⟩ (Nat.le_of_ble_eq_true rfl) cs rfl rfl dX0_rankOf_71 rfl ?_
    rintro _ _ ⟨rfl, rfl⟩
    refine g_callSN cx (pc2 := 77) (st := []) (As := [.int (iI (M 54 4)), .int (iI (plc M 23 (M (27 + i.toNat) 1)))]) (c_X11_watchesApart (M := M) hn (M 54 4) (plc M 23 (M (27 + i.toNat) 1)) (by omega) (by have := plc_b hp (M (27 + i.toNat) 1); omega)) wM_X11_watchesApart wS_X11_watchesApart kl_X0_118 ⟨rfl, rfl, Nat.le_of_ble_eq_true rfl, Nat.le_of_ble_eq_true rfl⟩ (Nat.le_of_ble_eq_true rfl) cs rfl rfl dX0_rankOf_74 rfl ?_
    rintro _ _ ⟨rfl, rfl⟩
    exact g_iret cx qx dX0_rankOf_77 ⟨congrArg (fun q => some (Value.int (iI q))) (by unfold rkM; first | (rw [if_pos (by assumption)]; done) | (rw [if_neg (by omega), if_pos (by assumption)]; done) | (rw [if_neg (by omega), if_neg (by omega), if_pos (by assumption)]; done) | (rw [if_neg (by omega), if_neg (by omega), if_neg (by omega), if_pos (by assumption)]; done) | (rw [if_neg (by omega), if_neg (by omega), if_neg (by omega), if_neg (by omega), if_pos (by assumption)]; done) | (rw [if_neg (by omega), if_neg (by omega), if_neg (by omega), if_neg (by omega), if_neg (by assumption)]; done)), by rfl⟩
set_option maxHeartbeats 4000000 in
set_option maxRecDepth 100000 in
theorem c_X0_isAhead {n : Nat} (hn : NN n) {M : Mm} (hl : LW M 23) (hnd : NDA M) (hp : PLW M 23) (hJ : JW M) (hw : WW M) (hC : CW M) (i j : Int) (hi : 0 ≤ i ∧ i < M 23 4) (hj : 0 ≤ j ∧ j < M 23 4) : CT yX0_isAhead cX0_isAhead 5 (some .boolean) ({ frames := 3, cells := 0, slots := 0, locals := 66 }) n [.ref 61, .int (iI i), .int (iI j)] M (rI (b2 (ahM M i j = true)) M) := by
  refine CT.of (lv0 := [(0, .ref 61), (1, .int (iI i)), (2, .int (iI j))]) (by decide +kernel) hn (fun _ => rfl) (fun _ => Nat.le_of_ble_eq_true rfl) (fun X cx cs qx => ?_)
  have cx : Cx X cX0_isAhead RX0 ({ frames := 3, cells := 0, slots := 0, locals := 66 }) 5 n := cx
  have h3 := hC.1
  refine g_iconst cx (pc2 := 1) dX0_isAhead_0 rfl ?_
  refine g_istore_n cx (pc2 := 2) (lv2 := [(0, .ref 61), (1, .int (iI i)), (2, .int (iI j)), (3, .int (iI 0))]) rfl (Nat.le_of_ble_eq_true rfl) dX0_isAhead_1 rfl ?_
  have L2 : ∀ (fu : Nat) (k : Int), (0 ≤ k ∧ k ≤ M 61 3) → (ahM M i j = ahF M i j (M 61 3 - k).toNat k.toNat) → (M 61 3 - k).toNat ≤ fu → G X 2 [(0, .ref 61), (1, .int (iI i)), (2, .int (iI j)), (3, .int (iI k))] [] M := by
    intro fu
    induction fu using Nat.strongRecOn with
    | _ fu ih2 =>
      intro k hk hah hk2
      have hcb := hC.2 k.toNat
      have hb1 := rkM_b hnd hp hw (i := i) (l := M 62 k.toNat) (by omega)
      have hb2 := rkM_b hnd hp hw (i := j) (l := M 62 k.toNat) (by omega)
      have hst : k < M 61 3 → ahF M i j (M 61 3 - k).toNat k.toNat = if rkM M i (M 62 k.toNat) - rkM M j (M 62 k.toNat) = 0 then ahF M i j (M 61 3 - (k + 1)).toNat (k + 1).toNat else decide (rkM M i (M 62 k.toNat) - rkM M j (M 62 k.toNat) < 0) := fun q => by rw [show (M 61 3 - k).toNat = (M 61 3 - (k + 1)).toNat + 1 by omega, ahF, show k.toNat + 1 = (k + 1).toNat by omega]
      refine g_iload_n cx (pc2 := 3) 3 rfl dX0_isAhead_2 rfl ?_
      refine g_aload_n cx (pc2 := 4) 0 rfl dX0_isAhead_3 rfl ?_
      refine g_get cx (pc2 := 7) (ci := 0) (k0 := 61) (j := 3) (v := .int (iI (M 61 3))) rfl iwX0 rfl (lt_lit hn (Nat.le_of_ble_eq_true rfl)) rfl (Nat.le_of_ble_eq_true rfl) kf_X0_15 rfl rfl dX0_isAhead_4 rfl ?_
      refine g_icmp_ge cx (pc2 := 10) (tgt := 66) ⟨(by first | assumption | omega), (by first | assumption | omega)⟩ dX0_isAhead_7 (by decide) rfl (fun h_1 => ?_) (fun h_1 => ?_)
      · skip
        refine g_iconst cx (pc2 := 67) dX0_isAhead_66 rfl ?_
        exact g_zret cx (Or.inl rfl) qx dX0_isAhead_67 ⟨rb_f (by rw [hah]; first | (rw [show (M 61 3 - k).toNat = 0 by omega]; exact Bool.false_ne_true)), by rfl⟩
      · skip
        refine g_iload_n cx (pc2 := 11) 3 rfl dX0_isAhead_10 rfl ?_
        refine g_aload_n cx (pc2 := 12) 0 rfl dX0_isAhead_11 rfl ?_
        refine g_get cx (pc2 := 15) (ci := 0) (k0 := 61) (j := 2) (v := .ref 62) rfl iwX0 rfl (lt_lit hn (Nat.le_of_ble_eq_true rfl)) rfl (Nat.le_of_ble_eq_true rfl) kf_X0_9 rfl rfl dX0_isAhead_12 rfl ?_
        refine g_alen cx (pc2 := 16) (k0 := 62) (v := 4) rfl (by decide) (lt_lit hn (Nat.le_of_ble_eq_true rfl)) rfl dX0_isAhead_15 rfl ?_
        refine g_icmp_ge cx (pc2 := 19) (tgt := 66) ⟨(by first | assumption | omega), ⟨by decide, by decide⟩⟩ dX0_isAhead_16 (by decide) rfl (fun h_2 => ?_) (fun h_2 => ?_)
        · skip
          omega
        · skip
          refine g_aload_n cx (pc2 := 20) 0 rfl dX0_isAhead_19 rfl ?_
          refine g_iload_n cx (pc2 := 21) 1 rfl dX0_isAhead_20 rfl ?_
          refine g_aload_n cx (pc2 := 22) 0 rfl dX0_isAhead_21 rfl ?_
          refine g_get cx (pc2 := 25) (ci := 0) (k0 := 61) (j := 2) (v := .ref 62) rfl iwX0 rfl (lt_lit hn (Nat.le_of_ble_eq_true rfl)) rfl (Nat.le_of_ble_eq_true rfl) kf_X0_9 rfl rfl dX0_isAhead_22 rfl ?_
          refine g_iload_n cx (pc2 := 26) 3 rfl dX0_isAhead_25 rfl ?_
          refine g_iald cx (pc2 := 27) (k0 := 62) rfl (lt_lit hn (Nat.le_of_ble_eq_true rfl)) (by first | assumption | omega) (by first | assumption | omega) (Nat.le_of_ble_eq_true rfl) dX0_isAhead_26 rfl ?_
          refine g_rwi (y := iI (M 62 ((k).toNat))) (congrArg iI (by simp [stM])) ?_
          refine g_callV cx (pc2 := 30) (st := []) (As := [.int (iI i), .int (iI (M 62 ((k).toNat)))]) (k0 := 61) (ci := 0) (c_X0_rankOf (M := M) hn (by first | assumption | omega) (by first | assumption | omega) (by first | assumption | omega) (by first | assumption | omega) (by first | assumption | omega) (by first | assumption | omega) i (M 62 ((k).toNat)) (by first | assumption | omega) (by first | assumption | omega)) wM_X0_rankOf wV_X0_rankOf kl_X0_94 rfl (lt_lit hn (Nat.le_of_ble_eq_true rfl)) rfl ⟨rfl, rfl, Nat.le_of_ble_eq_true rfl, Nat.le_of_ble_eq_true rfl⟩ (Nat.le_of_ble_eq_true rfl) cs rfl rfl dX0_isAhead_27 rfl ?_
          rintro _ _ ⟨rfl, rfl⟩
          refine g_aload_n cx (pc2 := 31) 0 rfl dX0_isAhead_30 rfl ?_
          refine g_iload_n cx (pc2 := 32) 2 rfl dX0_isAhead_31 rfl ?_
          refine g_aload_n cx (pc2 := 33) 0 rfl dX0_isAhead_32 rfl ?_
          refine g_get cx (pc2 := 36) (ci := 0) (k0 := 61) (j := 2) (v := .ref 62) rfl iwX0 rfl (lt_lit hn (Nat.le_of_ble_eq_true rfl)) rfl (Nat.le_of_ble_eq_true rfl) kf_X0_9 rfl rfl dX0_isAhead_33 rfl ?_
          refine g_iload_n cx (pc2 := 37) 3 rfl dX0_isAhead_36 rfl ?_
          refine g_iald cx (pc2 := 38) (k0 := 62) rfl (lt_lit hn (Nat.le_of_ble_eq_true rfl)) (by first | assumption | omega) (by first | assumption | omega) (Nat.le_of_ble_eq_true rfl) dX0_isAhead_37 rfl ?_
          refine g_rwi (y := iI (M 62 ((k).toNat))) (congrArg iI (by simp [stM])) ?_
          refine g_callV cx (pc2 := 41) (st := [.int (iI (rkM M i (M 62 ((k).toNat))))]) (As := [.int (iI j), .int (iI (M 62 ((k).toNat)))]) (k0 := 61) (ci := 0) (c_X0_rankOf (M := M) hn (by first | assumption | omega) (by first | assumption | omega) (by first | assumption | omega) (by first | assumption | omega) (by first | assumption | omega) (by first | assumption | omega) j (M 62 ((k).toNat)) (by first | assumption | omega) (by first | assumption | omega)) wM_X0_rankOf wV_X0_rankOf kl_X0_94 rfl (lt_lit hn (Nat.le_of_ble_eq_true rfl)) rfl ⟨rfl, rfl, Nat.le_of_ble_eq_true rfl, Nat.le_of_ble_eq_true rfl⟩ (Nat.le_of_ble_eq_true rfl) cs rfl rfl dX0_isAhead_38 rfl ?_
          rintro _ _ ⟨rfl, rfl⟩
          refine g_isub cx (pc2 := 42) dX0_isAhead_41 rfl ?_
          refine g_istore cx (pc2 := 44) (lv2 := [(0, .ref 61), (1, .int (iI i)), (2, .int (iI j)), (3, .int (iI k)), (4, .int (iI ((rkM M i (M 62 ((k).toNat))) - (rkM M j (M 62 ((k).toNat))))))]) rfl (Nat.le_of_ble_eq_true rfl) dX0_isAhead_42 rfl ?_
          refine g_iload cx (pc2 := 46) 4 rfl dX0_isAhead_44 rfl ?_
          refine g_if_eq cx (pc2 := 49) (tgt := 60) (by first | assumption | omega) dX0_isAhead_46 (by decide) rfl (fun h_3 => ?_) (fun h_3 => ?_)
          · skip
            refine g_iinc cx (pc2 := 63) 3 rfl (lv2 := [(0, .ref 61), (1, .int (iI i)), (2, .int (iI j)), (3, .int (iI (k + 1))), (4, .int (iI ((rkM M i (M 62 ((k).toNat))) - (rkM M j (M 62 ((k).toNat))))))]) rfl (Nat.le_of_ble_eq_true rfl) dX0_isAhead_60 rfl ?_
            refine g_goto cx (tgt := 2) dX0_isAhead_63 (by decide) ?_
            refine g_sub (lv2 := [(0, .ref 61), (1, .int (iI i)), (2, .int (iI j)), (3, .int (iI (k + 1)))]) [0, 1, 2, 3] rfl ?_
            exact ih2 ((M 61 3 - (k + 1)).toNat) (by omega) (k + 1) (by first | assumption | omega) (by rw [hah, hst (by omega), if_pos (by assumption)]) (Nat.le_refl _)
          · skip
            refine g_iload cx (pc2 := 51) 4 rfl dX0_isAhead_49 rfl ?_
            refine g_if_ge cx (pc2 := 54) (tgt := 58) (by first | assumption | omega) dX0_isAhead_51 (by decide) rfl (fun h_4 => ?_) (fun h_4 => ?_)
            · skip
              refine g_iconst cx (pc2 := 59) dX0_isAhead_58 rfl ?_
              exact g_zret cx (Or.inl rfl) qx dX0_isAhead_59 ⟨rb_f (by rw [hah, hst (by omega), if_neg (by assumption)]; first | exact decide_eq_true (by omega) | (rw [decide_eq_false (by omega)]; exact Bool.false_ne_true)), by rfl⟩
            · skip
              refine g_iconst cx (pc2 := 55) dX0_isAhead_54 rfl ?_
              refine g_goto cx (tgt := 59) dX0_isAhead_55 (by decide) ?_
              exact g_zret cx (Or.inr rfl) qx dX0_isAhead_59 ⟨rb_t (by rw [hah, hst (by omega), if_neg (by assumption)]; first | exact decide_eq_true (by omega) | (rw [decide_eq_false (by omega)]; exact Bool.false_ne_true)), by rfl⟩
  exact L2 _ 0 (by first | assumption | omega) (by unfold ahM; congr 1; omega) (Nat.le_refl _)
set_option maxHeartbeats 4000000 in
set_option maxRecDepth 100000 in
theorem c_X0_nextByRule {n : Nat} (hn : NN n) {M : Mm} (hl : LW M 23) (hnd : NDA M) (hp : PLW M 23) (hJ : JW M) (hw : WW M) (hC : CW M) : CT yX0_nextByRule cX0_nextByRule 5 (some .int) ({ frames := 4, cells := 0, slots := 0, locals := 90 }) n [.ref 61] M (rI (nxM M) M) := by
  refine CT.of (lv0 := [(0, .ref 61)]) (by decide +kernel) hn (fun _ => rfl) (fun _ => Nat.le_of_ble_eq_true rfl) (fun X cx cs qx => ?_)
  have cx : Cx X cX0_nextByRule RX0 ({ frames := 4, cells := 0, slots := 0, locals := 90 }) 5 n := cx
  have hw1 := hw.1
  have hw2 := hw.2.1
  have hw3 := hw.2.2.1
  have hmb := mtF_b M (M 54 3).toNat
  refine g_aload_n cx (pc2 := 1) 0 rfl dX0_nextByRule_0 rfl ?_
  refine g_get cx (pc2 := 4) (ci := 0) (k0 := 61) (j := 1) (v := .ref 54) rfl iwX0 rfl (lt_lit hn (Nat.le_of_ble_eq_true rfl)) rfl (Nat.le_of_ble_eq_true rfl) kf_X0_23 rfl rfl dX0_nextByRule_1 rfl ?_
  refine g_callV cx (pc2 := 7) (st := []) (As := []) (k0 := 54) (ci := 10) (c_X10_metBits (M := M) hn (by first | assumption | omega)) wM_X10_metBits wV_X10_metBits kl_X0_65 rfl (lt_lit hn (Nat.le_of_ble_eq_true rfl)) rfl ⟨rfl, rfl, Nat.le_of_ble_eq_true rfl, Nat.le_of_ble_eq_true rfl⟩ (Nat.le_of_ble_eq_true rfl) cs rfl rfl dX0_nextByRule_4 rfl ?_
  rintro _ _ ⟨rfl, rfl⟩
  refine g_istore_n cx (pc2 := 8) (lv2 := [(0, .ref 61), (1, .int (iI ((mtF M (M 54 3).toNat : Nat) : Int)))]) rfl (Nat.le_of_ble_eq_true rfl) dX0_nextByRule_7 rfl ?_
  refine g_bipush cx (pc2 := 10) ⟨by decide, by decide⟩ dX0_nextByRule_8 rfl ?_
  refine g_istore_n cx (pc2 := 11) (lv2 := [(0, .ref 61), (1, .int (iI ((mtF M (M 54 3).toNat : Nat) : Int))), (2, .int (iI (-9)))]) rfl (Nat.le_of_ble_eq_true rfl) dX0_nextByRule_10 rfl ?_
  refine g_iconst cx (pc2 := 12) dX0_nextByRule_11 rfl ?_
  refine g_istore_n cx (pc2 := 13) (lv2 := [(0, .ref 61), (1, .int (iI ((mtF M (M 54 3).toNat : Nat) : Int))), (2, .int (iI (-9))), (3, .int (iI 0))]) rfl (Nat.le_of_ble_eq_true rfl) dX0_nextByRule_12 rfl ?_
  have L13 : ∀ (fu : Nat) (i : Int) (x : Int), (0 ≤ i ∧ i ≤ M 23 4) → (x = nxF M i.toNat) → (M 23 4 - i).toNat ≤ fu → G X 13 [(0, .ref 61), (1, .int (iI ((mtF M (M 54 3).toNat : Nat) : Int))), (2, .int (iI x)), (3, .int (iI i))] [] M := by
    intro fu
    induction fu using Nat.strongRecOn with
    | _ fu ih13 =>
      intro i x hi hx hk13
      have hnb := nxF_b M i.toNat
      have hEb := endJ_b hJ (i := i) (p := M 54 4) (f := M 54 5) hw2 hw3.1
      have hst : nxF M (i + 1).toNat = if (¬ inS i ((mtF M (M 54 3).toNat : Nat) : Int) ∧ ¬ endJ M i (M 54 4) (M 54 5) = -9) ∧ (nxF M i.toNat = -9 ∨ ahM M i (nxF M i.toNat) = true) then i else nxF M i.toNat := by rw [show (i + 1).toNat = i.toNat + 1 by omega, nxF, Int.toNat_of_nonneg hi.1]
      refine g_iload_n cx (pc2 := 14) 3 rfl dX0_nextByRule_13 rfl ?_
      refine g_aload_n cx (pc2 := 15) 0 rfl dX0_nextByRule_14 rfl ?_
      refine g_get cx (pc2 := 18) (ci := 0) (k0 := 61) (j := 0) (v := .ref 23) rfl iwX0 rfl (lt_lit hn (Nat.le_of_ble_eq_true rfl)) rfl (Nat.le_of_ble_eq_true rfl) kf_X0_19 rfl rfl dX0_nextByRule_15 rfl ?_
      refine g_getN cx (pc2 := 21) (ci := 2) (k0 := 23) (j := 4) (v := .int (iI (M 23 4))) rfl iwX2 rfl (lt_lit hn (Nat.le_of_ble_eq_true rfl)) rfl (Nat.le_of_ble_eq_true rfl) kf_X0_68 rfl rfl dX0_nextByRule_18 rfl ?_
      refine g_icmp_ge cx (pc2 := 24) (tgt := 97) ⟨(by first | assumption | omega), (by first | assumption | omega)⟩ dX0_nextByRule_21 (by decide) rfl (fun h_1 => ?_) (fun h_1 => ?_)
      · skip
        refine g_iload_n cx (pc2 := 98) 2 rfl dX0_nextByRule_97 rfl ?_
        exact g_iret cx qx dX0_nextByRule_98 ⟨congrArg (fun q => some (Value.int (iI q))) (by rw [hx]; unfold nxM; rw [show i = M 23 4 by omega]), by rfl⟩
      · skip
        have L67 : ∀ (ok : Int), ((ok = 1 ∧ (¬ inS i ((mtF M (M 54 3).toNat : Nat) : Int) ∧ ¬ endJ M i (M 54 4) (M 54 5) = -9)) ∨ (ok = 0 ∧ ¬ (¬ inS i ((mtF M (M 54 3).toNat : Nat) : Int) ∧ ¬ endJ M i (M 54 4) (M 54 5) = -9))) → G X 67 [(0, .ref 61), (1, .int (iI ((mtF M (M 54 3).toNat : Nat) : Int))), (2, .int (iI x)), (3, .int (iI i))] [.int (iI ok)] M := by
          intro ok hok
          refine g_istore cx (pc2 := 69) (lv2 := [(0, .ref 61), (1, .int (iI ((mtF M (M 54 3).toNat : Nat) : Int))), (2, .int (iI x)), (3, .int (iI i)), (4, .int (iI ok))]) rfl (Nat.le_of_ble_eq_true rfl) dX0_nextByRule_67 rfl ?_
          have L91 : ∀ (x2 : Int), (x2 = nxF M (i + 1).toNat) → G X 91 [(0, .ref 61), (1, .int (iI ((mtF M (M 54 3).toNat : Nat) : Int))), (2, .int (iI x2)), (3, .int (iI i))] [] M := by
            intro x2 hx2
            refine g_iinc cx (pc2 := 94) 3 rfl (lv2 := [(0, .ref 61), (1, .int (iI ((mtF M (M 54 3).toNat : Nat) : Int))), (2, .int (iI x2)), (3, .int (iI (i + 1)))]) rfl (Nat.le_of_ble_eq_true rfl) dX0_nextByRule_91 rfl ?_
            refine g_goto cx (tgt := 13) dX0_nextByRule_94 (by decide) ?_
            exact ih13 ((M 23 4 - (i + 1)).toNat) (by omega) (i + 1) x2 (by first | assumption | omega) (by exact hx2) (Nat.le_refl _)
          refine g_iload cx (pc2 := 71) 4 rfl dX0_nextByRule_69 rfl ?_
          refine g_if_eq cx (pc2 := 74) (tgt := 91) (by first | assumption | omega) dX0_nextByRule_71 (by decide) rfl (fun h_2 => ?_) (fun h_2 => ?_)
          · skip
            refine g_sub (lv2 := [(0, .ref 61), (1, .int (iI ((mtF M (M 54 3).toNat : Nat) : Int))), (2, .int (iI x)), (3, .int (iI i))]) [0, 1, 2, 3] rfl ?_
            exact L91 x (by rw [hst]; rcases hok with ⟨k1, k2⟩ | ⟨k1, k2⟩ <;> first | omega | (rw [if_neg (fun q => k2 q.1)]; exact hx) | (rw [if_pos ⟨k2, Or.inl (by omega)⟩]; done) | (rw [if_pos ⟨k2, Or.inr (by rw [← hx]; assumption)⟩]; done) | (rw [if_neg (fun q => q.2.elim (fun z => by omega) (fun z => by rw [← hx] at z; exact absurd z (by assumption)))]; exact hx))
          · skip
            refine g_iload_n cx (pc2 := 75) 2 rfl dX0_nextByRule_74 rfl ?_
            refine g_bipush cx (pc2 := 77) ⟨by decide, by decide⟩ dX0_nextByRule_75 rfl ?_
            refine g_icmp_eq cx (pc2 := 80) (tgt := 89) ⟨(by first | assumption | omega), ⟨by decide, by decide⟩⟩ dX0_nextByRule_77 (by decide) rfl (fun h_3 => ?_) (fun h_3 => ?_)
            · skip
              refine g_iload_n cx (pc2 := 90) 3 rfl dX0_nextByRule_89 rfl ?_
              refine g_istore_n cx (pc2 := 91) (lv2 := [(0, .ref 61), (1, .int (iI ((mtF M (M 54 3).toNat : Nat) : Int))), (2, .int (iI i)), (3, .int (iI i)), (4, .int (iI ok))]) rfl (Nat.le_of_ble_eq_true rfl) dX0_nextByRule_90 rfl ?_
              refine g_sub (lv2 := [(0, .ref 61), (1, .int (iI ((mtF M (M 54 3).toNat : Nat) : Int))), (2, .int (iI i)), (3, .int (iI i))]) [0, 1, 2, 3] rfl ?_
              exact L91 i (by rw [hst]; rcases hok with ⟨k1, k2⟩ | ⟨k1, k2⟩ <;> first | omega | (rw [if_neg (fun q => k2 q.1)]; exact hx) | (rw [if_pos ⟨k2, Or.inl (by omega)⟩]; done) | (rw [if_pos ⟨k2, Or.inr (by rw [← hx]; assumption)⟩]; done) | (rw [if_neg (fun q => q.2.elim (fun z => by omega) (fun z => by rw [← hx] at z; exact absurd z (by assumption)))]; exact hx))
            · skip
              refine g_aload_n cx (pc2 := 81) 0 rfl dX0_nextByRule_80 rfl ?_
              refine g_iload_n cx (pc2 := 82) 3 rfl dX0_nextByRule_81 rfl ?_
              refine g_iload_n cx (pc2 := 83) 2 rfl dX0_nextByRule_82 rfl ?_
              refine g_callV cx (pc2 := 86) (st := []) (As := [.int (iI i), .int (iI x)]) (k0 := 61) (ci := 0) (c_X0_isAhead (M := M) hn (by first | assumption | omega) (by first | assumption | omega) (by first | assumption | omega) (by first | assumption | omega) (by first | assumption | omega) (by first | assumption | omega) i x (by first | assumption | omega) (by first | assumption | omega)) wM_X0_isAhead wV_X0_isAhead kl_X0_91 rfl (lt_lit hn (Nat.le_of_ble_eq_true rfl)) rfl ⟨rfl, rfl, Nat.le_of_ble_eq_true rfl, Nat.le_of_ble_eq_true rfl⟩ (Nat.le_of_ble_eq_true rfl) cs rfl rfl dX0_nextByRule_83 rfl ?_
              rintro _ _ ⟨rfl, rfl⟩
              refine g_ifb_eq cx (pc2 := 89) (tgt := 91) dX0_nextByRule_86 (by decide) rfl (fun h_4 => ?_) (fun h_4 => ?_)
              · skip
                refine g_sub (lv2 := [(0, .ref 61), (1, .int (iI ((mtF M (M 54 3).toNat : Nat) : Int))), (2, .int (iI x)), (3, .int (iI i))]) [0, 1, 2, 3] rfl ?_
                exact L91 x (by rw [hst]; rcases hok with ⟨k1, k2⟩ | ⟨k1, k2⟩ <;> first | omega | (rw [if_neg (fun q => k2 q.1)]; exact hx) | (rw [if_pos ⟨k2, Or.inl (by omega)⟩]; done) | (rw [if_pos ⟨k2, Or.inr (by rw [← hx]; assumption)⟩]; done) | (rw [if_neg (fun q => q.2.elim (fun z => by omega) (fun z => by rw [← hx] at z; exact absurd z (by assumption)))]; exact hx))
              · skip
                refine g_iload_n cx (pc2 := 90) 3 rfl dX0_nextByRule_89 rfl ?_
                refine g_istore_n cx (pc2 := 91) (lv2 := [(0, .ref 61), (1, .int (iI ((mtF M (M 54 3).toNat : Nat) : Int))), (2, .int (iI i)), (3, .int (iI i)), (4, .int (iI ok))]) rfl (Nat.le_of_ble_eq_true rfl) dX0_nextByRule_90 rfl ?_
                refine g_sub (lv2 := [(0, .ref 61), (1, .int (iI ((mtF M (M 54 3).toNat : Nat) : Int))), (2, .int (iI i)), (3, .int (iI i))]) [0, 1, 2, 3] rfl ?_
                exact L91 i (by rw [hst]; rcases hok with ⟨k1, k2⟩ | ⟨k1, k2⟩ <;> first | omega | (rw [if_neg (fun q => k2 q.1)]; exact hx) | (rw [if_pos ⟨k2, Or.inl (by omega)⟩]; done) | (rw [if_pos ⟨k2, Or.inr (by rw [← hx]; assumption)⟩]; done) | (rw [if_neg (fun q => q.2.elim (fun z => by omega) (fun z => by rw [← hx] at z; exact absurd z (by assumption)))]; exact hx))
        refine g_iload_n cx (pc2 := 25) 3 rfl dX0_nextByRule_24 rfl ?_
        refine g_iload_n cx (pc2 := 26) 1 rfl dX0_nextByRule_25 rfl ?_
        refine g_callSN cx (pc2 := 29) (st := []) (As := [.int (iI i), .int (iI ((mtF M (M 54 3).toNat : Nat) : Int))]) (c_X11_isIn (M := M) hn i ((mtF M (M 54 3).toNat : Nat) : Int) (by first | assumption | omega) (by first | assumption | omega)) wM_X11_isIn wS_X11_isIn kl_X0_71 ⟨rfl, rfl, Nat.le_of_ble_eq_true rfl, Nat.le_of_ble_eq_true rfl⟩ (Nat.le_of_ble_eq_true rfl) cs rfl rfl dX0_nextByRule_26 rfl ?_
        rintro _ _ ⟨rfl, rfl⟩
        refine g_ifb_ne cx (pc2 := 32) (tgt := 66) dX0_nextByRule_29 (by decide) rfl (fun h_5 => ?_) (fun h_5 => ?_)
        · skip
          refine g_iconst cx (pc2 := 67) dX0_nextByRule_66 rfl ?_
          exact L67 0 (by first | exact Or.inr ⟨rfl, fun q => q.1 (by assumption)⟩ | exact Or.inl ⟨rfl, by assumption, by assumption⟩ | exact Or.inr ⟨rfl, fun q => q.2 (by assumption)⟩)
        · skip
          refine g_aload_n cx (pc2 := 33) 0 rfl dX0_nextByRule_32 rfl ?_
          refine g_get cx (pc2 := 36) (ci := 0) (k0 := 61) (j := 1) (v := .ref 54) rfl iwX0 rfl (lt_lit hn (Nat.le_of_ble_eq_true rfl)) rfl (Nat.le_of_ble_eq_true rfl) kf_X0_23 rfl rfl dX0_nextByRule_33 rfl ?_
          refine g_getN cx (pc2 := 39) (ci := 10) (k0 := 54) (j := 0) (v := .ref 48) rfl iwX10 rfl (lt_lit hn (Nat.le_of_ble_eq_true rfl)) rfl (Nat.le_of_ble_eq_true rfl) kf_X0_75 rfl rfl dX0_nextByRule_36 rfl ?_
          refine g_iload_n cx (pc2 := 40) 3 rfl dX0_nextByRule_39 rfl ?_
          refine g_aload_n cx (pc2 := 41) 0 rfl dX0_nextByRule_40 rfl ?_
          refine g_get cx (pc2 := 44) (ci := 0) (k0 := 61) (j := 1) (v := .ref 54) rfl iwX0 rfl (lt_lit hn (Nat.le_of_ble_eq_true rfl)) rfl (Nat.le_of_ble_eq_true rfl) kf_X0_23 rfl rfl dX0_nextByRule_41 rfl ?_
          refine g_getN cx (pc2 := 47) (ci := 10) (k0 := 54) (j := 4) (v := .int (iI (M 54 4))) rfl iwX10 rfl (lt_lit hn (Nat.le_of_ble_eq_true rfl)) rfl (Nat.le_of_ble_eq_true rfl) kf_X0_79 rfl rfl dX0_nextByRule_44 rfl ?_
          refine g_aload_n cx (pc2 := 48) 0 rfl dX0_nextByRule_47 rfl ?_
          refine g_get cx (pc2 := 51) (ci := 0) (k0 := 61) (j := 1) (v := .ref 54) rfl iwX0 rfl (lt_lit hn (Nat.le_of_ble_eq_true rfl)) rfl (Nat.le_of_ble_eq_true rfl) kf_X0_23 rfl rfl dX0_nextByRule_48 rfl ?_
          refine g_getN cx (pc2 := 54) (ci := 10) (k0 := 54) (j := 5) (v := .int (iI (M 54 5))) rfl iwX10 rfl (lt_lit hn (Nat.le_of_ble_eq_true rfl)) rfl (Nat.le_of_ble_eq_true rfl) kf_X0_82 rfl rfl dX0_nextByRule_51 rfl ?_
          refine g_callV cx (pc2 := 57) (st := []) (As := [.int (iI i), .int (iI (M 54 4)), .int (iI (M 54 5))]) (k0 := 48) (ci := 1) (c_X1_ending (M := M) hn (by first | assumption | omega) i (M 54 4) (M 54 5) (by first | assumption | omega) (by first | assumption | omega) (by first | assumption | omega)) wM_X1_ending wV_X1_ending kl_X0_85 rfl (lt_lit hn (Nat.le_of_ble_eq_true rfl)) rfl ⟨rfl, rfl, Nat.le_of_ble_eq_true rfl, Nat.le_of_ble_eq_true rfl⟩ (Nat.le_of_ble_eq_true rfl) cs rfl rfl dX0_nextByRule_54 rfl ?_
          rintro _ _ ⟨rfl, rfl⟩
          refine g_bipush cx (pc2 := 59) ⟨by decide, by decide⟩ dX0_nextByRule_57 rfl ?_
          refine g_icmp_eq cx (pc2 := 62) (tgt := 66) ⟨(by first | assumption | omega), ⟨by decide, by decide⟩⟩ dX0_nextByRule_59 (by decide) rfl (fun h_6 => ?_) (fun h_6 => ?_)
          · skip
            refine g_iconst cx (pc2 := 67) dX0_nextByRule_66 rfl ?_
            exact L67 0 (by first | exact Or.inr ⟨rfl, fun q => q.1 (by assumption)⟩ | exact Or.inl ⟨rfl, by assumption, by assumption⟩ | exact Or.inr ⟨rfl, fun q => q.2 (by assumption)⟩)
          · skip
            refine g_iconst cx (pc2 := 63) dX0_nextByRule_62 rfl ?_
            refine g_goto cx (tgt := 67) dX0_nextByRule_63 (by decide) ?_
            exact L67 1 (by first | exact Or.inr ⟨rfl, fun q => q.1 (by assumption)⟩ | exact Or.inl ⟨rfl, by assumption, by assumption⟩ | exact Or.inr ⟨rfl, fun q => q.2 (by assumption)⟩)
  exact L13 _ 0 (-9) (by first | assumption | omega) (by rfl) (Nat.le_refl _)
set_option maxHeartbeats 4000000 in
set_option maxRecDepth 100000 in
theorem c_X0_go {n : Nat} (hn : NN n) {M : Mm} (hl : LW M 23) (hnd : NDA M) (hp : PLW M 23) (hJ : JW M) (hw : WW M) (hC : CW M) (hst : 0 ≤ M 23 5 ∧ M 23 5 ≤ 7) : CT yX0_go cX0_go 3 none ({ frames := 5, cells := 0, slots := 0, locals := 114 }) n [.ref 61] M (rV (goM M)) := by
  refine CT.of (lv0 := [(0, .ref 61)]) (by decide +kernel) hn (fun _ => rfl) (fun _ => Nat.le_of_ble_eq_true rfl) (fun X cx cs qx => ?_)
  have cx : Cx X cX0_go RX0 ({ frames := 5, cells := 0, slots := 0, locals := 114 }) 3 n := cx
  have hplb := plc_b hp (M 23 5)
  have hB := WW_bg hw hplb
  generalize hM0 : stM (stM (stM M 54 3 0) 54 4 (plc M 23 (M 23 5))) 54 5 0 = M0 at hB
  have hM0o : ∀ a, a ≠ 54 → M0 a = M a := fun a h => by rw [← hM0, stM_off h, stM_off h, stM_off h]
  have hJ0 : JW M0 := JW_of (fun a h1 h2 => hM0o a (by omega)) hJ
  refine g_aload_n cx (pc2 := 1) 0 rfl dX0_go_0 rfl ?_
  refine g_get cx (pc2 := 4) (ci := 0) (k0 := 61) (j := 1) (v := .ref 54) rfl iwX0 rfl (lt_lit hn (Nat.le_of_ble_eq_true rfl)) rfl (Nat.le_of_ble_eq_true rfl) kf_X0_23 rfl rfl dX0_go_1 rfl ?_
  refine g_aload_n cx (pc2 := 5) 0 rfl dX0_go_4 rfl ?_
  refine g_get cx (pc2 := 8) (ci := 0) (k0 := 61) (j := 0) (v := .ref 23) rfl iwX0 rfl (lt_lit hn (Nat.le_of_ble_eq_true rfl)) rfl (Nat.le_of_ble_eq_true rfl) kf_X0_19 rfl rfl dX0_go_5 rfl ?_
  refine g_callV cx (pc2 := 11) (st := [.ref 54]) (As := []) (k0 := 23) (ci := 2) (c_X2_startPlace (M := M) hn (by first | assumption | exact hlT) (by first | assumption | omega)) wM_X2_startPlace wV_X2_startPlace kl_X0_48 rfl (lt_lit hn (Nat.le_of_ble_eq_true rfl)) rfl ⟨rfl, rfl, Nat.le_of_ble_eq_true rfl, Nat.le_of_ble_eq_true rfl⟩ (Nat.le_of_ble_eq_true rfl) cs rfl rfl dX0_go_8 rfl ?_
  rintro _ _ ⟨rfl, rfl⟩
  refine g_callV cx (pc2 := 14) (st := []) (As := [.int (iI (plc M 23 (M 23 5)))]) (k0 := 54) (ci := 10) (c_X10_beginAt (M := M) hn (plc M 23 (M 23 5))) wM_X10_beginAt wV_X10_beginAt kl_X0_53 rfl (lt_lit hn (Nat.le_of_ble_eq_true rfl)) rfl ⟨rfl, rfl, Nat.le_of_ble_eq_true rfl, Nat.le_of_ble_eq_true rfl⟩ (Nat.le_of_ble_eq_true rfl) cs rfl rfl dX0_go_11 rfl ?_
  rintro _ _ ⟨rfl, rfl⟩
  refine g_iconst cx (pc2 := 15) dX0_go_14 rfl ?_
  refine g_istore_n cx (pc2 := 16) (lv2 := [(0, .ref 61), (1, .int (iI 1))]) rfl (Nat.le_of_ble_eq_true rfl) dX0_go_15 rfl ?_
  refine g_iconst cx (pc2 := 17) dX0_go_16 rfl ?_
  refine g_istore_n cx (pc2 := 18) (lv2 := [(0, .ref 61), (1, .int (iI 1)), (2, .int (iI 0))]) rfl (Nat.le_of_ble_eq_true rfl) dX0_go_17 rfl ?_
  have L18 : ∀ (fu : Nat) (i : Int) (g : Int) (T : Mm), (0 ≤ i ∧ i ≤ 8) → (T = goF M0 i.toNat) → (g = 1 ∨ (g = 0 ∧ goF M0 8 = T)) → (8 - i).toNat ≤ fu → G X 18 [(0, .ref 61), (1, .int (iI g)), (2, .int (iI i))] [] T := by
    intro fu
    induction fu using Nat.strongRecOn with
    | _ fu ih18 =>
      intro i g T hi hT hg hk18
      have hTW := goF_W hJ0 hB i.toNat
      rw [← hT] at hTW
      have hTo : ∀ a, a ≠ 54 ∧ a ≠ 55 ∧ a ≠ 56 → T a = M a := fun a h => by rw [hT, goF_off M0 h, hM0o a h.1]
      have e23 := hTo 23 (by decide)
      have hlT : LW T 23 := by unfold LW; rw [e23]; exact hl
      have hpT : PLW T 23 := by intro j; rw [hTo 24 (by decide)]; exact hp j
      have hnT : NDA T := ⟨by show NDR (T 26); rw [hTo 26 (by decide)]; exact hnd.1, fun k hk => by show NDR (T (27 + k)); rw [hTo (27 + k) (by omega)]; exact hnd.2 k hk⟩
      have hCT : CW T := by unfold CW; rw [hTo 61 (by decide), hTo 62 (by decide)]; exact hC
      have hnx := nxF_b T (T 23 4).toNat
      refine g_iload_n cx (pc2 := 19) 2 rfl dX0_go_18 rfl ?_
      refine g_bipush cx (pc2 := 21) ⟨by decide, by decide⟩ dX0_go_19 rfl ?_
      refine g_icmp_ge cx (pc2 := 24) (tgt := 46) ⟨(by first | assumption | omega), ⟨by decide, by decide⟩⟩ dX0_go_21 (by decide) rfl (fun h_1 => ?_) (fun h_1 => ?_)
      · skip
        exact g_vret cx qx dX0_go_46 ⟨rfl, by unfold goM; rw [hM0]; first | (rw [hT, show i = 8 by omega]; rfl) | (rcases hg with q | q; omega; exact q.2)⟩
      · skip
        refine g_iload_n cx (pc2 := 25) 1 rfl dX0_go_24 rfl ?_
        refine g_if_eq cx (pc2 := 28) (tgt := 46) (by first | assumption | omega) dX0_go_25 (by decide) rfl (fun h_2 => ?_) (fun h_2 => ?_)
        · skip
          exact g_vret cx qx dX0_go_46 ⟨rfl, by unfold goM; rw [hM0]; first | (rw [hT, show i = 8 by omega]; rfl) | (rcases hg with q | q; omega; exact q.2)⟩
        · skip
          have hix : ir (nxM T) := by unfold nxM; omega
          refine g_aload_n cx (pc2 := 29) 0 rfl dX0_go_28 rfl ?_
          refine g_get cx (pc2 := 32) (ci := 0) (k0 := 61) (j := 1) (v := .ref 54) rfl iwX0 rfl (lt_lit hn (Nat.le_of_ble_eq_true rfl)) rfl (Nat.le_of_ble_eq_true rfl) kf_X0_23 rfl rfl dX0_go_29 rfl ?_
          refine g_aload_n cx (pc2 := 33) 0 rfl dX0_go_32 rfl ?_
          refine g_callV cx (pc2 := 36) (st := [.ref 54]) (As := []) (k0 := 61) (ci := 0) (c_X0_nextByRule (M := T) hn (by first | assumption | exact hlT) (by first | assumption | exact hnT) (by exact hpT) (by exact hTW.1) (by exact hTW.2) (by exact hCT)) wM_X0_nextByRule wV_X0_nextByRule kl_X0_58 rfl (lt_lit hn (Nat.le_of_ble_eq_true rfl)) rfl ⟨rfl, rfl, Nat.le_of_ble_eq_true rfl, Nat.le_of_ble_eq_true rfl⟩ (Nat.le_of_ble_eq_true rfl) cs rfl rfl dX0_go_33 rfl ?_
          rintro _ _ ⟨rfl, rfl⟩
          refine g_rwi (y := iI (nxM T)) (rfl) ?_
          refine g_callV cx (pc2 := 39) (st := []) (As := [.int (iI (nxM T))]) (k0 := 54) (ci := 10) (c_X10_meet (M := T) hn (by exact hTW.1) (by exact hTW.2) (nxM T) (by first | assumption | omega)) wM_X10_meet wV_X10_meet kl_X0_61 rfl (lt_lit hn (Nat.le_of_ble_eq_true rfl)) rfl ⟨rfl, rfl, Nat.le_of_ble_eq_true rfl, Nat.le_of_ble_eq_true rfl⟩ (Nat.le_of_ble_eq_true rfl) cs rfl rfl dX0_go_36 rfl ?_
          rintro _ _ ⟨rfl, rfl⟩
          refine g_istore_n cx (pc2 := 40) (lv2 := [(0, .ref 61), (1, .int (iI (b2 (okW T (nxM T))))), (2, .int (iI i))]) rfl (Nat.le_of_ble_eq_true rfl) dX0_go_39 rfl ?_
          refine g_iinc cx (pc2 := 43) 2 rfl (lv2 := [(0, .ref 61), (1, .int (iI (b2 (okW T (nxM T))))), (2, .int (iI (i + 1)))]) rfl (Nat.le_of_ble_eq_true rfl) dX0_go_40 rfl ?_
          refine g_goto cx (tgt := 18) dX0_go_43 (by decide) ?_
          exact ih18 ((8 - (i + 1)).toNat) (by omega) (i + 1) (b2 (okW T (nxM T))) (if okW T (nxM T) then meM T (nxM T) else T) (by first | assumption | omega) (by rw [show (i + 1).toNat = i.toNat + 1 by omega, goF, ← hT]; rfl) (by by_cases hq : okW T (nxM T); exact Or.inl (if_pos hq); refine Or.inr ⟨if_neg hq, ?_⟩; rw [if_neg hq]; have e := goF_fix (M := M0) (k := i.toNat) (by rw [← hT]; exact hq) (8 - i.toNat); rw [show i.toNat + (8 - i.toNat) = 8 by omega] at e; rw [e, hT]) (Nat.le_refl _)
  exact L18 _ 0 1 (stM (stM (stM M 54 3 0) 54 4 (plc M 23 (M 23 5))) 54 5 0) (by first | assumption | omega) (by exact hM0) (by exact Or.inl rfl) (Nat.le_refl _)
