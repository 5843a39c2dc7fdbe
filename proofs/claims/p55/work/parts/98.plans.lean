
/-! what a call leaves -/
def KP (M M2 : Mm) : Prop := (∀ a, (23 ≤ a ∧ a ≤ 34) ∨ (63 ≤ a ∧ a ≤ 75) → M2 a = M a) ∧ CI M2
theorem HW.kp {V : Nat → Int} {M M2 : Mm} (h : HW V M) (k : KP M M2) : HW V M2 := by
  refine ⟨by rw [k.1 23 (by decide)]; exact h.1, by rw [k.1 24 (by decide)]; exact h.2.1, fun q hq j hj => ?_⟩
  by_cases z : q < 8
  · rw [k.1 (27 + q) (by omega)]; exact h.2.2 q hq j hj
  · have := k.2.l
    have h4 : M2 23 4 = V 9 := by rw [k.1 23 (by decide)]; exact h.1.2.1
    have : 0 ≤ M2 23 3 ∧ M2 23 3 ≤ 8 ∧ 0 ≤ M2 23 4 ∧ M2 23 4 ≤ 8 := this
    omega
theorem HV.kp {V : Nat → Int} {M M2 : Mm} (h : HV V M) (k : KP M M2) : HV V M2 := by
  have hw := h.w.kp k
  refine ⟨hw.1, hw.2.1, fun q hq => ⟨hw.2.2 q hq, ?_⟩⟩
  by_cases z : q < 8
  · rw [k.1 (27 + q) (by omega)]; exact (h.2.2 q hq).2
  · have : 0 ≤ M2 23 3 ∧ M2 23 3 ≤ 8 ∧ 0 ≤ M2 23 4 ∧ M2 23 4 ≤ 8 := k.2.l
    have h4 := hw.1.2.1
    omega
theorem LZ.kp {M M2 : Mm} (h : LZ M) (k : KP M M2) : LZ M2 := by
  unfold LZ
  rw [k.1 63 (by decide), k.1 64 (by decide), k.1 65 (by decide), k.1 70 (by decide), k.1 73 (by decide)]
  exact h
theorem VOK_kp {V : Nat → Int} {M M2 : Mm} (h : VOK V M) (k : KP M M2) : VOK V M2 := ⟨h.1.kp k, h.2.1.kp k, k.2⟩
theorem KP.tr {M M2 M3 : Mm} (h : KP M M2) (k : KP M2 M3) : KP M M3 := ⟨fun a ha => by rw [k.1 a ha, h.1 a ha], k.2⟩
theorem KP.td {M M2 : Mm} (h : KP M M2) (v : Int) : KP M (tdM M2 v) := ⟨fun a ha => by unfold tdM; rw [stM_off (by omega)]; exact h.1 a ha, h.2.td v⟩
theorem KP_gf {M : Mm} (h : CI M) (w : Int) : KP M (gfA M w) := ⟨fun a ha => gfA_o a (by omega), h.gf⟩
theorem KP_can {M : Mm} (h : CI M) (w : Int) : KP M (canM M w) := by
  unfold canM
  split
  · exact ⟨fun _ _ => rfl, h⟩
  · exact KP_gf h w
theorem KP_sets {M : Mm} (h : CI M) : KP M (setsM M) := (KP_gf h _).td _
theorem KP_best {M : Mm} (h : CI M) : KP M (bstM M) := by
  unfold bstM
  split
  · exact KP_gf h _
  · exact (KP_gf h _).td _
theorem KP_costs {M : Mm} (h : CI M) (i : Int) : KP M (cosM M i) := by
  unfold cosM
  split
  · exact ⟨fun _ _ => rfl, h⟩
  · exact KP_gf h _
theorem KP_se {M : Mm} (h : CI M) (x : Int) : KP M (seT M x) := ⟨fun a ha => seT_off M x (by omega), h.se x⟩
theorem KP_sec {M : Mm} (h : CI M) (x : Int) : KP M (secM M x) := by
  unfold secM
  split
  · exact ⟨fun _ _ => rfl, h⟩
  · split
    · exact KP_se h x
    · exact (KP_se h x).td _
theorem KP_gx {M : Mm} (h : CI M) {w : Int} (hw : 0 ≤ w ∧ w ≤ 255) : KP M (gfX M w) := by
  refine ⟨fun a ha => ?_, h.gx hw⟩
  unfold gfX
  split
  · exact gfA_o a (by omega)
  · exact gfO_off M w (by omega)
theorem aN_255 {M : Mm} (h : CI M) {w : Int} (hv : 0 ≤ w ∧ w ≤ ((allN (M 23 4) : Nat) : Int)) : 0 ≤ w ∧ w ≤ 255 := by
  have := aL_255 h.l
  omega
theorem KP_worn {M : Mm} (h : CI M) (w : Int) : KP M (worM M w) := by
  unfold worM
  by_cases c : 0 ≤ w ∧ w ≤ ((allN (M 23 4) : Nat) : Int)
  · rw [if_neg (not_not_intro c)]
    exact KP_gx h (aN_255 h c)
  · rw [if_pos c]
    exact ⟨fun _ _ => rfl, h⟩
theorem CI_tw {M : Mm} (h : CI M) {o : Nat} (ho : isRowO o) (h15 : o < 15) : CI (twM M o) := by
  have hw := h.w
  have e : ∀ a, a ≠ o → a ≠ o + 1 → twM M o a = M a := fun a h1 h2 => twP_off h1 h2
  have hcap := capO_60 h15
  refine h.row (fun a h1 h2 => e a (by omega) (by omega)) (fun p hp => ⟨?_, fun j => ?_⟩) (fun p hp hp15 j => by rw [e (p + 1) (by omega) (by omega)]; exact h.tw p hp hp15 j)
  · by_cases z : p = o
    · subst z
      unfold twM twP
      rw [if_pos ⟨rfl, rfl⟩]
      have := hw.1
      omega
    · rw [e p z (by omega)]
      exact (h.rw p hp).1
  · by_cases z : p = o
    · subst z
      unfold twM twP
      rw [if_neg (by omega)]
      by_cases q : (j : Int) < M 54 3
      · rw [if_pos ⟨rfl, q⟩, if_pos q]
        have := (hw.2.2.2 j).1
        exact ⟨by omega, by omega⟩
      · rw [if_neg (fun y => q y.2)]
        exact (h.rw p hp).2 j
    · rw [e (p + 1) (by omega) (by omega)]
      exact (h.rw p hp).2 j
theorem KP_first {M : Mm} (h : CI M) (w : Int) : KP M (fstM M w 1) := by
  unfold fstM
  by_cases c : ¬ R6 1 ∨ ¬ (0 ≤ w ∧ w ≤ ((allN (M 23 4) : Nat) : Int))
  · rw [if_pos c]
    exact ⟨fun _ _ => rfl, h⟩
  · have c2 : 0 ≤ w ∧ w ≤ ((allN (M 23 4) : Nat) : Int) := Classical.byContradiction fun q => c (Or.inr q)
    rw [if_neg c]
    split
    · exact KP_gx h (aN_255 h c2)
    · have k := KP_gx h (aN_255 h c2)
      refine ⟨fun a ha => ?_, CI_tw k.2 (by decide) (by decide)⟩
      rw [← k.1 a ha]
      exact twP_off (by show a ≠ 5; omega) (by show a ≠ 6; omega)
theorem CI_fd2 {M : Mm} (h : CI M) (f : Int) : CI (fdM M f) := h.fr0 (fun a h1 h2 => by unfold fdM; rw [stM_off (by omega), stM_off (by omega)])
theorem KP_order {M : Mm} (h : CI M) (r : Int) : KP M (ordM M r) := by
  unfold ordM
  split
  · exact ⟨fun _ _ => rfl, h⟩
  · split
    · exact ⟨fun a ha => by unfold fdM; rw [stM_off (by omega), stM_off (by omega)], CI_fd2 h _⟩
    · exact KP.td ⟨fun a ha => gaM_off M _ (by omega), gaM_CI h _⟩ _
theorem KP_orders {M : Mm} (h : CI M) (w : Int) : KP M (osM M w) := by
  unfold osM
  split
  · exact ⟨fun _ _ => rfl, h⟩
  · have e : ∀ a, a ≠ 78 → (noS (ldM M) w (stp M) (w.toNat + 1)).1 a = ldM M a := fun a ha => noS_off (ldM M) w (stp M) ha _
    refine ⟨fun a ha => by rw [e a (by omega), ldM_off (by omega)], h.ld.fr0 (fun a h1 h2 => e a (by omega))⟩
theorem KP_tl {M : Mm} (h : CI M) : KP M (tl0 M) := ⟨fun a ha => tl0_ne (by omega), h.tly⟩
theorem KP_mends {M M2 : Mm} (h : CI M) {w x z : Int} (hr : menR M w x z M2) : KP M M2 := by
  unfold menR at hr
  rcases hr with ⟨_, _, rfl⟩ | ⟨_, _, hf, hP⟩
  · exact ⟨fun _ _ => rfl, h⟩
  · refine ⟨fun a ha => by rw [hf a (by omega) (by omega), ldM_off (by omega)], h.ld.fr (fun a h1 h2 => hf a (by omega) (by omega)) (JW_of (fun a h1 h2 => hf a (by omega) (by omega)) h.ld.j) hP (WW_fr (fun a h1 h2 => hf a (by omega) (by omega)) h.ld.w) (CW_fr (fun a h1 h2 => hf a (by omega) (by omega)) h.ld.c)⟩
theorem wi_off {M : Mm} {a : Nat} (ha : a < 48 ∨ 62 < a) : ∀ k : Nat, (wiF M k).1 a = M a
  | 0 => ldM_off (by omega)
  | k + 1 => by
    have e : tnM (wiF M k).1 (k : Int) a = M a := by rw [tnM_off _ _ (by omega) (by omega)]; exact wi_off ha k
    have e2 : goM (tnM (wiF M k).1 (k : Int)) a = M a := by
      unfold goM
      rw [goF_off _ ⟨by omega, by omega, by omega⟩, stM_off (by omega), stM_off (by omega), stM_off (by omega)]
      exact e
    rw [wiF]
    split
    · split
      · exact e2
      · exact e2
    · exact e
theorem KP_wise {M : Mm} (h : CI M) : KP M (tdM (wiF M 30).1 (wiF M 30).2.2) := KP.td ⟨fun a ha => wi_off (by omega) 30, (wiF_W h 30 (Nat.le_refl 30)).1⟩ _
theorem CI_fr {M : Mm} (h : CI M) (u l : Int) : CI (frM M u l) := h.fr0 (fun a h1 h2 => by unfold frM; split; rw [stM_off (by omega), stM_off (by omega)]; rfl)
theorem fr_o (M : Mm) (u l : Int) {a : Nat} (ha : a ≠ 0) : frM M u l a = M a := by
  unfold frM
  split
  · rw [stM_off ha, stM_off ha]
  · rfl
theorem KP_odds {M : Mm} (h : CI M) : KP M (oddM M) := ⟨fun a ha => by unfold oddM odT; rw [fr_o _ _ _ (by omega)]; exact gfA_o a (by omega), CI_fr h.gf _ _⟩
theorem KP_call {M : Mm} (h : CI M) (s : Int) : KP M (calM M s) := by
  unfold calM
  split
  · exact ⟨fun _ _ => rfl, h⟩
  · exact (KP_gf h _).td _
/-! worth of sets, plans -/
def WV (V : Nat → Int) (k : Nat) : Int := smZ (fun j => if k.testBit j then V (15 + 6 * j) else 0) (nN V)
theorem WV_wo (V : Nat → Int) (s : Int) : woV V s (V 9).toNat = WV V s.toNat := rfl
theorem ws_WV {V : Nat → Int} {T : Mm} (hJ : JE T (jV V) (nN V)) (k : Nat) : wsM T (k : Int) = WV V k := by
  unfold wsM WV
  rw [hJ.1.1, Int.toNat_natCast, Int.toNat_natCast]
  exact smZ_eq (fun j hj => by rw [(hJ.2 j hj).2.2, jV_4 hj])
theorem smZ_mo {f g : Nat → Int} : ∀ {k : Nat}, (∀ j, j < k → f j ≤ g j) → smZ f k ≤ smZ g k
  | 0, _ => Int.le_refl _
  | k + 1, h => by
    rw [smZ, smZ]
    have := smZ_mo (f := f) (g := g) (k := k) (fun j hj => h j (by omega))
    have := h k (by omega)
    omega
theorem V15_b {V : Nat → Int} (hg : GV V) {j : Nat} (hj : j < nN V) : 1 ≤ V (15 + 6 * j) ∧ V (15 + 6 * j) ≤ 9 := (hg.2.2 j (by unfold nN at hj; omega)).2.2.2.2.2
theorem WV_mo {V : Nat → Int} (hg : GV V) {t s : Nat} (h : ndN t s = 0) : WV V t ≤ WV V s := by
  refine smZ_mo (fun j hj => ?_)
  have := V15_b hg hj
  cases h1 : t.testBit j with
  | false =>
    simp only [Bool.false_eq_true, if_false]
    split <;> omega
  | true =>
    rw [ndN_0.mp h j h1]
    exact Int.le_refl _
theorem WV_b {V : Nat → Int} (hg : GV V) (k : Nat) : 0 ≤ WV V k ∧ WV V k ≤ 45 := by
  have h9 := hg.2.1
  have h := smZ_le (f := fun j => if k.testBit j then V (15 + 6 * j) else 0) (c := 9) (nN V) (fun j hj => by
    have := V15_b hg hj
    split <;> omega)
  have : ((nN V : Nat) : Int) ≤ 5 := by show (((V 9).toNat : Nat) : Int) ≤ 5; omega
  have h2 := h.2
  have h3 := h.1
  unfold WV
  omega
theorem nN_5 {V : Nat → Int} (hg : GV V) : nN V ≤ 5 ∧ 2 ^ nN V ≤ 32 := by
  have h9 := hg.2.1
  have h : nN V ≤ 5 := by show (V 9).toNat ≤ 5; omega
  exact ⟨h, Nat.pow_le_pow_right (by decide) h⟩
/-- all NEEDS -/
abbrev AL (V : Nat → Int) : Nat := 2 ^ nN V - 1
theorem bsum_all (n : Nat) : bsum (fun _ => true) n = 2 ^ n - 1 := by
  apply Nat.eq_of_testBit_eq
  intro i
  rw [bsum_bit, Nat.testBit_two_pow_sub_one, Bool.and_true]
theorem HW_al {V : Nat → Int} {M : Mm} (hv : HW V M) : allN (M 23 4) = AL V := by
  unfold allN
  rw [hv.1.2.1, bsum_all]
theorem isAK_1 (k : Int) : isAK k 1 ↔ (k = 1 ∨ k = 3 ∨ k = 4) := by unfold isAK; omega
theorem isAK_2 (k : Int) : isAK k 2 ↔ (k = 2 ∨ k = 5) := by unfold isAK; omega
def loB (V : Nat → Int) (i : Nat) : Bool := decide (V (10 + 6 * i) = 2 ∨ V (10 + 6 * i) = 5)
def loN (V : Nat → Int) : Nat := bsum (loB V) (nN V)
theorem HW_mu {V : Nat → Int} {M : Mm} (hv : HW V M) : bitsK M 1 = muN V := by
  unfold bitsK muN
  rw [hv.1.2.1]
  refine bsum_eq _ (fun j hj => ?_)
  unfold kdB muB
  have e : M (27 + j) 0 = V (10 + 6 * j) := hv.2.2 j (by omega) 0 (by decide)
  rw [e]
  unfold mustP
  rw [show (10 + 6 * (j : Int)).toNat = 10 + 6 * j by omega]
  exact decide_eq_decide.mpr (isAK_1 _)
theorem HW_lo {V : Nat → Int} {M : Mm} (hv : HW V M) : bitsK M 2 = loN V := by
  unfold bitsK loN
  rw [hv.1.2.1]
  refine bsum_eq _ (fun j hj => ?_)
  unfold kdB loB
  have e : M (27 + j) 0 = V (10 + 6 * j) := hv.2.2 j (by omega) 0 (by decide)
  rw [e]
  exact decide_eq_decide.mpr (isAK_2 _)
theorem muN_lt (V : Nat → Int) : muN V < 2 ^ nN V := bsum_lt _ _
theorem loN_lt (V : Nat → Int) : loN V < 2 ^ nN V := bsum_lt _ _
theorem nd_AL {V : Nat → Int} {s : Nat} : ndN s (AL V) = 0 ↔ s < 2 ^ nN V := by
  constructor
  · intro h
    have := ndN_le2 h
    have := Nat.two_pow_pos (nN V)
    unfold AL at *
    omega
  · intro h
    rw [ndN_0]
    intro k hk
    rw [Nat.testBit_two_pow_sub_one]
    have : k < nN V := by
      by_cases z : k < nN V
      · exact z
      · rw [Nat.testBit_lt_two_pow (Nat.lt_of_lt_of_le h (Nat.pow_le_pow_right (by decide) (by omega)))] at hk
        cases hk
    exact decide_eq_true this
abbrev vfit (V : Nat → Int) (al du j : Nat) : Prop := ndN j al = 0 ∧ ndN du j = 0 ∧ ¬ ENV V j = -9
theorem bp_spec {T : Mm} {al du : Nat} (h0 : ∀ j : Nat, 0 ≤ wsM T (j : Int)) : ∀ k : Nat, ((bpF T al du k).1 = -9 ∧ (bpF T al du k).2 = -9 ∧ ∀ j, j < k → ¬ (ndN j al = 0 ∧ ndN du j = 0 ∧ ¬ T 59 j = -9)) ∨ ∃ m, m < k ∧ (ndN m al = 0 ∧ ndN du m = 0 ∧ ¬ T 59 m = -9) ∧ (bpF T al du k).1 = (m : Int) ∧ (bpF T al du k).2 = wsM T (m : Int) ∧ ∀ j : Nat, j < k → (ndN j al = 0 ∧ ndN du j = 0 ∧ ¬ T 59 j = -9) → wsM T (j : Int) ≤ wsM T (m : Int)
  | 0 => Or.inl ⟨rfl, rfl, fun j hj => absurd hj (Nat.not_lt_zero _)⟩
  | k + 1 => by
    have ih := bp_spec (T := T) (al := al) (du := du) h0 k
    have hk := h0 k
    rw [bpF]
    by_cases c : (ndN k al = 0 ∧ ndN du k = 0 ∧ ¬ T 59 k = -9) ∧ (bpF T al du k).2 < wsM T (k : Int)
    · rw [if_pos c]
      refine Or.inr ⟨k, Nat.lt_succ_self _, c.1, rfl, rfl, fun j hj hf => ?_⟩
      by_cases z : j = k
      · rw [z]
        exact Int.le_refl _
      · rcases ih with ⟨i1, i2, i3⟩ | ⟨m, i1, i2, i3, i4, i5⟩
        · exact absurd hf (i3 j (by omega))
        · have := i5 j (by omega) hf
          omega
    · rw [if_neg c]
      rcases ih with ⟨i1, i2, i3⟩ | ⟨m, i1, i2, i3, i4, i5⟩
      · refine Or.inl ⟨i1, i2, fun j hj hf => ?_⟩
        by_cases z : j = k
        · subst z
          exact c ⟨hf, by omega⟩
        · exact i3 j (by omega) hf
      · refine Or.inr ⟨m, by omega, i2, i3, i4, fun j hj hf => ?_⟩
        by_cases z : j = k
        · subst z
          have : ¬ (bpF T al du j).2 < wsM T (j : Int) := fun y => c ⟨hf, y⟩
          omega
        · exact i5 j (by omega) hf
/-- the best of a table that holds the ENDS -/
theorem bp_V {V : Nat → Int} {T : Mm} (hg : GV V) (hJ : JE T (jV V) (nN V)) {al du : Nat} (hal : al < 2 ^ nN V) (hT : ∀ j, ndN j al = 0 → T 59 j = ENV V j) : (bpM T (al : Int) (du : Int) = -9 ∧ ∀ j, ¬ vfit V al du j) ∨ ∃ m, m < 2 ^ nN V ∧ vfit V al du m ∧ bpM T (al : Int) (du : Int) = (m : Int) ∧ ∀ j, vfit V al du j → WV V j ≤ WV V m := by
  have h5 := nN_5 hg
  have hf : ∀ j, (ndN j al = 0 ∧ ndN du j = 0 ∧ ¬ T 59 j = -9) ↔ vfit V al du j := fun j => by
    constructor
    · rintro ⟨a, b, c⟩
      exact ⟨a, b, by rw [← hT j a]; exact c⟩
    · rintro ⟨a, b, c⟩
      exact ⟨a, b, by rw [hT j a]; exact c⟩
  have hlt : ∀ j, vfit V al du j → j < 256 := fun j h => by have := ndN_le2 h.1; omega
  unfold bpM
  rw [Int.toNat_natCast, Int.toNat_natCast]
  rcases bp_spec (T := T) (al := al) (du := du) (fun j => by rw [ws_WV hJ]; exact (WV_b hg j).1) 256 with ⟨i1, i2, i3⟩ | ⟨m, i1, i2, i3, i4, i5⟩
  · exact Or.inl ⟨i1, fun j h => i3 j (hlt j h) ((hf j).mpr h)⟩
  · refine Or.inr ⟨m, Nat.lt_of_le_of_lt (ndN_le2 i2.1) hal, (hf m).mp i2, i3, fun j h => ?_⟩
    have := i5 j (hlt j h) ((hf j).mpr h)
    rw [ws_WV hJ, ws_WV hJ] at this
    exact this
theorem gf_J {V : Nat → Int} {M : Mm} (hg : GV V) (hv : HW V M) (w : Int) : JE (gfA M w) (jV V) (nN V) := (HV_J hg hv).of (fun a h1 h2 => gfA_J a h1 h2)
theorem gf_bp {V : Nat → Int} {M : Mm} (hg : GV V) (hv : HW V M) {w al du : Nat} (hw : w < 2 ^ nN V) (h : ndN al w = 0) : (bpM (gfA M (w : Int)) (al : Int) (du : Int) = -9 ∧ ∀ j, ¬ vfit V al du j) ∨ ∃ m, m < 2 ^ nN V ∧ vfit V al du m ∧ bpM (gfA M (w : Int)) (al : Int) (du : Int) = (m : Int) ∧ ∀ j, vfit V al du j → WV V j ≤ WV V m := by
  have hal : al < 2 ^ nN V := Nat.lt_of_le_of_lt (ndN_le2 h) hw
  refine bp_V hg (gf_J hg hv _) hal (fun j hj => ?_)
  have hjw : ndN j w = 0 := ndN_0.mpr (fun k hk => ndN_0.mp h k (ndN_0.mp hj k hk))
  exact gf_ENV hg hv (Nat.lt_of_le_of_lt (ndN_le2 hjw) hw) (by rw [Int.toNat_natCast]; exact hjw)
theorem AL_lt (V : Nat → Int) : AL V < 2 ^ nN V := by
  have := Nat.two_pow_pos (nN V)
  unfold AL
  omega
/-- best() -/
def BST (V : Nat → Int) (b : Int) : Prop := (b = -9 ∧ ∀ j, ¬ vfit V (AL V) (muN V) j) ∨ ∃ m : Nat, m < 2 ^ nN V ∧ vfit V (AL V) (muN V) m ∧ b = (m : Int) ∧ ∀ j, vfit V (AL V) (muN V) j → WV V j ≤ WV V m
theorem bst_V {V : Nat → Int} {M : Mm} (hg : GV V) (hv : HW V M) : BST V (bstA M) := by
  have h := gf_bp hg hv (w := AL V) (al := AL V) (du := muN V) (AL_lt V) (ndN_self _)
  unfold bstA
  rw [HW_al hv, HW_mu hv]
  exact h
theorem bst_told {V : Nat → Int} {M : Mm} (hg : GV V) (hv : HW V M) (h : ¬ bstA M = -9) : bstM M 0 15 = WV V (bstA M).toNat := by
  unfold bstM
  rw [if_neg h]
  have hb := bst_V hg hv
  rcases hb with ⟨q, _⟩ | ⟨m, _, _, q, _⟩
  · exact absurd q h
  · rw [q, Int.toNat_natCast, ws_WV (gf_J hg hv _)]
    exact stM_at _ _ _ _
theorem can_V {V : Nat → Int} {M : Mm} (hg : GV V) (hv : HW V M) {w : Int} (hw : 0 ≤ w ∧ w < ((2 ^ nN V : Nat) : Int)) : canA M w = ENV V w.toNat := by
  have := Nat.two_pow_pos (nN V)
  unfold canA
  rw [HW_al hv, if_neg (not_not_intro ⟨hw.1, by unfold AL; omega⟩)]
  exact gf_ENV hg hv (by omega) (ndN_self _)
/-- sets() -/
theorem st_spec {T : Mm} (h0 : ∀ j : Nat, 0 ≤ wsM T (j : Int)) : ∀ k : Nat, (stF T k).1 = smZ (fun j => if T 59 j = -9 then 0 else 1) k ∧ 0 ≤ (stF T k).2 ∧ ∀ j : Nat, j < k → ¬ T 59 j = -9 → wsM T (j : Int) ≤ (stF T k).2
  | 0 => ⟨rfl, Int.le_refl _, fun j hj => absurd hj (Nat.not_lt_zero _)⟩
  | k + 1 => by
    obtain ⟨i1, i2, i3⟩ := st_spec (T := T) h0 k
    have hk := h0 k
    rw [stF, smZ]
    by_cases c : T 59 k = -9
    · rw [if_pos c, if_pos c]
      exact ⟨by rw [i1]; omega, i2, fun j hj hf => by
        by_cases z : j = k
        · rw [z] at hf; exact absurd c hf
        · exact i3 j (by omega) hf⟩
    · rw [if_neg c, if_neg c]
      refine ⟨by simp only []; rw [i1], by simp only []; omega, fun j hj hf => ?_⟩
      show wsM T (j : Int) ≤ max (stF T k).2 (wsM T (k : Int))
      by_cases z : j = k
      · rw [z]; omega
      · have := i3 j (by omega) hf
        omega
def CNT (V : Nat → Int) (k : Nat) : Int := smZ (fun j => if ENV V j = -9 then 0 else 1) k
theorem CNT_b (V : Nat → Int) : ∀ k : Nat, 0 ≤ CNT V k ∧ CNT V k ≤ (k : Int)
  | 0 => ⟨Int.le_refl _, Int.le_refl _⟩
  | k + 1 => by
    have := CNT_b V k
    unfold CNT at *
    rw [smZ]
    split <;> omega
theorem sets_V {V : Nat → Int} {M : Mm} (hg : GV V) (hv : HW V M) : (stF (gfA M ((allN (M 23 4) : Nat) : Int)) (allN (M 23 4) + 1)).1 = CNT V (2 ^ nN V) ∧ (∀ j : Nat, j < 2 ^ nN V → ¬ ENV V j = -9 → WV V j ≤ setsM M 0 15) := by
  rw [HW_al hv]
  have hpos := Nat.two_pow_pos (nN V)
  have e : AL V + 1 = 2 ^ nN V := by unfold AL; omega
  have hJ := gf_J hg hv ((AL V : Nat) : Int)
  have hE : ∀ j, j < 2 ^ nN V → gfA M ((AL V : Nat) : Int) 59 j = ENV V j := fun j hj => gf_ENV hg hv hj (by rw [Int.toNat_natCast]; exact nd_AL.mpr hj)
  obtain ⟨s1, s2, s3⟩ := st_spec (T := gfA M ((AL V : Nat) : Int)) (fun j => by rw [ws_WV hJ]; exact (WV_b hg j).1) (2 ^ nN V)
  refine ⟨?_, fun j hj hf => ?_⟩
  · rw [e, s1]
    exact smZ_eq (fun j hj => by rw [hE j hj])
  · have := s3 j hj (by rw [hE j hj]; exact hf)
    rw [ws_WV hJ] at this
    have e2 : setsM M 0 15 = (stF (gfA M ((AL V : Nat) : Int)) (2 ^ nN V)).2 := by
      unfold setsM
      rw [HW_al hv, e]
      exact stM_at _ _ _ _
    rw [e2]
    exact this
/-- costs() -/
def COS (V : Nat → Int) (b c : Int) (i : Nat) : Prop := (b = -9 → c = -9) ∧ (c = -9 ∨ (-45 ≤ c ∧ c ≤ 45)) ∧ (¬ c = -9 → (b.toNat.testBit i = false → c = 0) ∧ (b.toNat.testBit i = true → (muN V).testBit i = false → 0 ≤ c))
theorem nd_bit2 {s i k : Nat} : (ndN s (2 ^ i)).testBit k = (s.testBit k && !decide (i = k)) := by rw [ndN_bit, Nat.testBit_two_pow]
theorem cos_V {V : Nat → Int} {M : Mm} (hg : GV V) (hv : HW V M) {i : Nat} (hi : i < nN V) : COS V (bstA M) (cosA M (i : Int)) i := by
  have h5 := nN_5 hg
  have hn : ¬ ¬ NS M (i : Int) := not_not_intro ⟨by omega, by rw [hv.1.2.1]; have : i < (V 9).toNat := hi; omega⟩
  have hb := bst_V hg hv
  have hJ := gf_J hg hv ((AL V : Nat) : Int)
  have hbi : bitN (i : Int) = 2 ^ i := by rw [bitN_in ⟨by omega, by omega⟩, Int.toNat_natCast]
  have hw1 := gf_bp hg hv (w := AL V) (al := ndN (AL V) (2 ^ i)) (du := ndN (muN V) (2 ^ i)) (AL_lt V) (ndN_0.mpr (fun k hk => by
    rw [nd_bit2] at hk
    cases z : (AL V).testBit k with
    | true => rfl
    | false => rw [z] at hk; simp at hk))
  have e1 : wio1 M (i : Int) = bpM (gfA M ((AL V : Nat) : Int)) ((ndN (AL V) (2 ^ i) : Nat) : Int) ((ndN (muN V) (2 ^ i) : Nat) : Int) := by
    unfold wio1
    rw [HW_al hv, HW_mu hv, hbi]
  unfold COS cosA
  rw [if_neg hn, hbi, HW_al hv, e1]
  generalize bpM (gfA M ((AL V : Nat) : Int)) ((ndN (AL V) (2 ^ i) : Nat) : Int) ((ndN (muN V) (2 ^ i) : Nat) : Int) = x at hw1
  generalize bstA M = b at hb
  rcases hb with ⟨b1, b2⟩ | ⟨m, b1, b2, b3, b4⟩
  · rw [b1]
    refine ⟨fun _ => by rw [if_pos (Or.inl rfl)], Or.inl (by rw [if_pos (Or.inl rfl)]), fun h => absurd (by rw [if_pos (Or.inl rfl)]) h⟩
  · rcases hw1 with ⟨x1, x2⟩ | ⟨m1, x1, x2, x3, x4⟩
    · rw [x1]
      refine ⟨fun q => by omega, Or.inl (by rw [if_pos (Or.inr rfl)]), fun h => absurd (by rw [if_pos (Or.inr rfl)]) h⟩
    · rw [b3, x3, if_neg (by omega), ws_WV hJ, Int.toNat_natCast, ws_WV hJ]
      have w1 := WV_b hg m1
      have w2 := WV_b hg (ndN m (2 ^ i))
      refine ⟨fun q => by omega, Or.inr (by omega), fun _ => ⟨fun hin => ?_, fun hin hmu => ?_⟩⟩
      · have em : ndN m (2 ^ i) = m := by
          apply Nat.eq_of_testBit_eq
          intro k
          rw [nd_bit2]
          by_cases z : i = k
          · subst z; rw [hin]; rfl
          · simp [z]
        have hmi : (muN V).testBit i = false := by
          cases z : (muN V).testBit i with
          | false => rfl
          | true =>
            have := ndN_0.mp b2.2.1 i z
            rw [hin] at this
            cases this
        have emu : ndN (muN V) (2 ^ i) = muN V := by
          apply Nat.eq_of_testBit_eq
          intro k
          rw [nd_bit2]
          by_cases z : i = k
          · subst z; rw [hmi]; rfl
          · simp [z]
        have h1 := x4 m ⟨ndN_0.mpr (fun k hk => by
          rw [nd_bit2]
          have h1 := ndN_0.mp b2.1 k hk
          rw [h1]
          by_cases z : i = k
          · subst z; rw [hin] at hk; cases hk
          · simp [z]), by rw [emu]; exact b2.2.1, b2.2.2⟩
        have h2 := b4 m1 ⟨ndN_0.mpr (fun k hk => by
          have := ndN_0.mp x2.1 k hk
          rw [nd_bit2, Bool.and_eq_true] at this
          exact this.1), by rw [← emu]; exact x2.2.1, x2.2.2⟩
        rw [em]
        omega
      · have h1 := x4 (ndN m (2 ^ i)) ⟨ndN_0.mpr (fun k hk => by
          rw [nd_bit2] at hk ⊢
          simp at hk
          rw [ndN_0.mp b2.1 k hk.1]
          simp [hk.2]), ndN_0.mpr (fun k hk => by
          rw [nd_bit2] at hk ⊢
          simp at hk
          rw [ndN_0.mp b2.2.1 k hk.1]
          simp [hk.2]), (ENV_del hg b1 b2.2.2).1⟩
        omega
/-- second() -/
theorem mbI_spec {T : Mm} {du s : Nat} {acc : Int} : ∀ k : Nat, acc ≤ mbI T du s acc k ∧ (∀ t : Nat, t < k → (s &&& t = 0 ∧ ndN du (s ||| t) = 0) → ¬ T 60 t = -9 → wsM T ((s ||| t : Nat) : Int) ≤ mbI T du s acc k) ∧ (mbI T du s acc k = acc ∨ ∃ t, t < k ∧ mbI T du s acc k = wsM T ((s ||| t : Nat) : Int))
  | 0 => ⟨Int.le_refl _, fun t ht => absurd ht (Nat.not_lt_zero _), Or.inl rfl⟩
  | k + 1 => by
    obtain ⟨i1, i2, i3⟩ := mbI_spec (T := T) (du := du) (s := s) (acc := acc) k
    rw [mbI]
    by_cases c : (s &&& k = 0 ∧ ndN du (s ||| k) = 0) ∧ ¬ T 60 k = -9
    · rw [if_pos c]
      refine ⟨by omega, fun t ht h1 h2 => ?_, ?_⟩
      · by_cases z : t = k
        · rw [z]; omega
        · have := i2 t (by omega) h1 h2
          omega
      · by_cases q : mbI T du s acc k ≤ wsM T ((s ||| k : Nat) : Int)
        · exact Or.inr ⟨k, Nat.lt_succ_self _, by omega⟩
        · rw [show max (mbI T du s acc k) (wsM T ((s ||| k : Nat) : Int)) = mbI T du s acc k by omega]
          rcases i3 with i3 | ⟨t, t1, t2⟩
          · exact Or.inl i3
          · exact Or.inr ⟨t, by omega, t2⟩
    · rw [if_neg c]
      refine ⟨i1, fun t ht h1 h2 => ?_, ?_⟩
      · by_cases z : t = k
        · subst z
          exact absurd ⟨h1, h2⟩ c
        · exact i2 t (by omega) h1 h2
      · rcases i3 with i3 | ⟨t, t1, t2⟩
        · exact Or.inl i3
        · exact Or.inr ⟨t, by omega, t2⟩
theorem mbO_spec {T : Mm} {du all : Nat} : ∀ k : Nat, (∀ s t : Nat, s < k → t ≤ all → (s &&& t = 0 ∧ ndN du (s ||| t) = 0) → ¬ T 59 s = -9 → ¬ T 60 t = -9 → wsM T ((s ||| t : Nat) : Int) ≤ mbO T du all k) ∧ (mbO T du all k = -9 ∨ ∃ s t, s < k ∧ t ≤ all ∧ mbO T du all k = wsM T ((s ||| t : Nat) : Int))
  | 0 => ⟨fun s t hs => absurd hs (Nat.not_lt_zero _), Or.inl rfl⟩
  | k + 1 => by
    obtain ⟨i1, i2⟩ := mbO_spec (T := T) (du := du) (all := all) k
    rw [mbO]
    by_cases c : T 59 k = -9
    · rw [if_pos c]
      refine ⟨fun s t hs ht h1 h2 h3 => ?_, ?_⟩
      · by_cases z : s = k
        · subst z
          exact absurd c h2
        · exact i1 s t (by omega) ht h1 h2 h3
      · rcases i2 with i2 | ⟨s, t, a1, a2, a3⟩
        · exact Or.inl i2
        · exact Or.inr ⟨s, t, by omega, a2, a3⟩
    · rw [if_neg c]
      obtain ⟨j1, j2, j3⟩ := mbI_spec (T := T) (du := du) (s := k) (acc := mbO T du all k) (all + 1)
      refine ⟨fun s t hs ht h1 h2 h3 => ?_, ?_⟩
      · by_cases z : s = k
        · subst z
          exact j2 t (by omega) h1 h3
        · have := i1 s t (by omega) ht h1 h2 h3
          omega
      · rcases j3 with j3 | ⟨t, a1, a2⟩
        · rw [j3]
          rcases i2 with i2 | ⟨s, t, a1, a2, a3⟩
          · exact Or.inl i2
          · exact Or.inr ⟨s, t, by omega, a2, a3⟩
        · exact Or.inr ⟨k, t, Nat.lt_succ_self _, by omega, a2⟩
/-- of a second COAT: no worse than one, no more than all -/
def SEC (V : Nat → Int) (b most c told : Int) : Prop := (-9 ≤ c ∧ c ≤ WV V (AL V)) ∧ (¬ b = -9 → most ≤ c ∧ told = c - most)
theorem sec_V {V : Nat → Int} {M : Mm} (hg : GV V) (hv : HW V M) (hc : CI M) {h : Int} (hh : 0 ≤ h ∧ h < V 0) {b most : Int} (hb : BST V b) (hm : ¬ b = -9 → most = WV V b.toNat) : SEC V b most (secA M h) (secM M h 0 15) := by
  have h5 := nN_5 hg
  have hs : ¬ ¬ HS M h := not_not_intro ⟨hh.1, by rw [hv.1.1]; exact hh.2⟩
  have hpl := plc_b hc.pl h
  have hpos := Nat.two_pow_pos (nN V)
  -- the table of both coats
  have e59 : ∀ s, s < 2 ^ nN V → seT M h 59 s = ENV V s := fun s hs2 => by
    have hJ : JE (seB M h) (jV V) (nN V) := (HV_J hg hv).of (fun a h1 h2 => by
      unfold seB seA
      rw [show cpM (rcM (ldM M) ((allN (M 23 4) : Nat) : Int) (plc M 23 h) 0) 59 60 0 0 256 a = rcM (ldM M) ((allN (M 23 4) : Nat) : Int) (plc M 23 h) 0 a from by funext q; unfold cpM; rw [if_neg (by omega)]]
      exact rcM_off _ _ _ _ (by omega) (by omega))
    have := rc_E hJ (w := ((allN (M 23 4) : Nat) : Int)) (p := V 1) (f := 0) (V1_b hg) (Int.le_refl 0) hs2 (by rw [HW_al hv, Int.toNat_natCast]; exact nd_AL.mpr hs2)
    unfold seT
    rw [HV_sp hg hv]
    exact this.uniq (ENV_E hg hs2)
  have e60 : ¬ seT M h 60 0 = -9 := by
    have e : seT M h 60 0 = seA M h 59 0 := by
      unfold seT
      rw [rcM_off _ _ _ _ (by decide) (by decide)]
      rfl
    rw [e]
    have := rc_E (HV_J hg hv) (w := ((allN (M 23 4) : Nat) : Int)) (p := plc M 23 h) (f := 0) hpl (Int.le_refl 0) (s := 0) hpos (by rw [HW_al hv, Int.toNat_natCast]; exact nd_AL.mpr hpos)
    unfold seA
    rcases this with ⟨_, a2⟩ | ⟨⟨a0, _⟩, _⟩
    · exact absurd rfl (a2 [] (plc M 23 h, 0) (ordS_nil.mpr rfl))
    · omega
  have hJT : JE (seT M h) (jV V) (nN V) := (HV_J hg hv).of (fun a h1 h2 => by
    unfold seT
    rw [rcM_off _ _ _ _ (by omega) (by omega)]
    unfold seB seA
    rw [show cpM (rcM (ldM M) ((allN (M 23 4) : Nat) : Int) (plc M 23 h) 0) 59 60 0 0 256 a = rcM (ldM M) ((allN (M 23 4) : Nat) : Int) (plc M 23 h) 0 a from by funext q; unfold cpM; rw [if_neg (by omega)]]
    exact rcM_off _ _ _ _ (by omega) (by omega))
  have hmb := mbO_spec (T := seT M h) (du := muN V) (all := AL V) (AL V + 1)
  have eA : secA M h = mbO (seT M h) (muN V) (AL V) (AL V + 1) := by
    unfold secA secV
    rw [if_neg hs, HW_al hv, HW_mu hv]
  have hP := bp_V hg hJT (al := AL V) (du := muN V) (AL_lt V) (fun j hj => e59 j (nd_AL.mp hj))
  have eP : secP M h = bpM (seT M h) ((AL V : Nat) : Int) ((muN V : Nat) : Int) := by
    unfold secP
    rw [HW_al hv, HW_mu hv]
  have hle : secA M h ≤ WV V (AL V) ∧ -9 ≤ secA M h := by
    rw [eA]
    rcases hmb.2 with q | ⟨s, t, a1, a2, a3⟩
    · rw [q]
      have := WV_b hg (AL V)
      omega
    · rw [a3, ws_WV hJT]
      have := WV_b hg (s ||| t)
      refine ⟨WV_mo hg (nd_AL.mpr ?_), by omega⟩
      exact Nat.or_lt_two_pow (by unfold AL at a1; omega) (by unfold AL at a2; omega)
  refine ⟨⟨hle.2, hle.1⟩, fun hb9 => ?_⟩
  rcases hb with ⟨b1, _⟩ | ⟨m, b1, b2, b3, b4⟩
  · exact absurd b1 hb9
  have hmost : most = WV V m := by rw [hm hb9, b3, Int.toNat_natCast]
  have hge : WV V m ≤ secA M h := by
    rw [eA]
    have := hmb.1 m 0 (by unfold AL; omega) (Nat.zero_le _) ⟨Nat.and_zero _, by rw [Nat.or_zero]; exact b2.2.1⟩ (by rw [e59 m b1]; exact b2.2.2) e60
    rw [Nat.or_zero, ws_WV hJT] at this
    exact this
  refine ⟨by rw [hmost]; exact hge, ?_⟩
  have hW := WV_b hg m
  have eV : secA M h = secV M h := by unfold secA; rw [if_neg hs]
  unfold secM
  rw [if_neg hs, if_neg (by rw [← eV]; omega), eP]
  rcases hP with ⟨p1, p2⟩ | ⟨m2, p1, p2, p3, p4⟩
  · exact absurd b2 (p2 m)
  · rw [p3, if_neg (by omega), ws_WV hJT]
    have q1 := p4 m b2
    have q2 := b4 m2 p2
    rw [show tdM (seT M h) (secV M h - WV V m2) 0 15 = secV M h - WV V m2 from stM_at _ _ _ _, eV, hmost]
    omega
/-- call() -/
theorem clV_lo {V : Nat → Int} {M : Mm} (hv : HW V M) (s : Int) : ndN (clV M s) (loN V) = 0 := by
  rw [← HW_lo hv, ndN_0]
  intro k hk
  unfold clV at hk
  unfold bitsK
  rw [bsum_bit] at hk ⊢
  rw [Bool.and_eq_true] at hk ⊢
  refine ⟨hk.1, ?_⟩
  have h2 := hk.2
  unfold clB at h2
  unfold kdB
  exact decide_eq_true (of_decide_eq_true h2).1
def CAL (V : Nat → Int) (told : Int) : Prop := told = -9 ∨ ∃ j, vfit V (AL V) (muN V) j ∧ told = WV V j
theorem cal_V {V : Nat → Int} {M : Mm} (hg : GV V) (hv : HW V M) {s : Int} (hs : 1 ≤ s ∧ s ≤ 2147483646) : calA M s = ((clV M s : Nat) : Int) ∧ CAL V (calM M s 0 15) := by
  have hn : ¬ (s < 1 ∨ 2147483646 < s) := by omega
  have hlo := loN_lt V
  have hcl : clV M s < 2 ^ nN V := Nat.lt_of_le_of_lt (ndN_le2 (clV_lo hv s)) hlo
  have hw : clW M s < 2 ^ nN V := by
    unfold clW
    rw [HW_al hv]
    exact Nat.or_lt_two_pow (Nat.lt_of_le_of_lt (ndN_le _ _) (AL_lt V)) hcl
  have h := gf_bp hg hv (w := clW M s) (al := clW M s) (du := muN V) hw (ndN_self _)
  unfold calA calM
  rw [if_neg hn, if_neg hn]
  refine ⟨rfl, ?_⟩
  rw [show ∀ v, tdM (clT M s) v 0 15 = v from fun v => stM_at _ _ _ _]
  have eP : clP2 M s = bpM (gfA M ((clW M s : Nat) : Int)) ((clW M s : Nat) : Int) ((muN V : Nat) : Int) := by
    unfold clP2 clT
    rw [HW_mu hv]
  rw [eP]
  rcases h with ⟨p1, p2⟩ | ⟨m, p1, p2, p3, p4⟩
  · rw [p1, if_pos rfl]
    exact Or.inl rfl
  · rw [p3, if_neg (by omega)]
    refine Or.inr ⟨m, ⟨nd_AL.mpr p1, p2.2⟩, ?_⟩
    unfold clT
    rw [ws_WV (gf_J hg hv _)]

