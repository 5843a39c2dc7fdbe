/-! TRACKS -/
/-- it agrees with the first q TRACKS and with the beginning at HOUSE 0 -/
def agS (M : Mm) (h w : Int) (q : Nat) : Prop := (∀ j : Nat, j < q → cgP M h w (M 74 j) (M 75 j)) ∧ cgP M h w 0 0
/-- TRACKS, none of WATCH 0 -/
abbrev T0 (M : Mm) : Prop := M 23 5 = 0 ∧ ∀ j : Nat, j < (M 73 2).toNat → 1 ≤ M 75 j
theorem agS_iff {M : Mm} (h : T0 M) (x w : Int) (q : Nat) : agP M x w q ↔ agS M x w q := by
  constructor
  · rintro ⟨h1, h2⟩
    refine ⟨h1, ?_⟩
    rcases h2 with ⟨j, hj, h2⟩ | h2
    · have := h.2 j hj
      omega
    · rw [h.1] at h2
      exact h2
  · rintro ⟨h1, h2⟩
    exact ⟨h1, Or.inr (by rw [h.1]; exact h2)⟩
theorem cg_eq {M M2 : Mm} (h23 : M2 23 = M 23) (h24 : M2 24 = M 24) (x w k v : Int) : cgP M2 x w k v ↔ cgP M x w k v := by
  have e : ∀ z, plc M2 23 z = plc M 23 z := fun z => by unfold plc; rw [h23, h24]
  unfold cgP
  rw [e, e]
theorem lrF_iff (M : Mm) : ∀ f i : Nat, (lrF M f i = -9 ↔ ∀ j, i ≤ j → j < i + f → agP M (M 74 j) (M 75 j) j) ∧ (lrF M f i = -9 ∨ ((i : Int) ≤ lrF M f i ∧ lrF M f i < (i : Int) + (f : Int)))
  | 0, i => ⟨⟨fun _ j h1 h2 => by omega, fun _ => rfl⟩, Or.inl rfl⟩
  | f + 1, i => by
    obtain ⟨h1, h2⟩ := lrF_iff M f (i + 1)
    by_cases c : agP M (M 74 i) (M 75 i) i
    · rw [lrF, if_pos c]
      refine ⟨h1.trans ⟨fun h j a1 a2 => ?_, fun h j a1 a2 => h j (by omega) (by omega)⟩, ?_⟩
      · by_cases z : j = i
        · rw [z]; exact c
        · exact h j (by omega) (by omega)
      · rcases h2 with h2 | h2
        · exact Or.inl h2
        · exact Or.inr (by omega)
    · rw [lrF, if_neg c]
      exact ⟨⟨fun z => by omega, fun h => absurd (h i (Nat.le_refl _) (by omega)) c⟩, Or.inr (by omega)⟩
theorem couA_in (M : Mm) {w : Int} (hw : 0 ≤ w ∧ w < 28) : couA M w = ((bsum (couB M w) (M 23 3).toNat : Nat) : Int) := by unfold couA; rw [if_neg (not_not_intro hw)]
theorem couA_b {M : Mm} (h : CI M) {w : Int} (hw : 0 ≤ w ∧ w < 28) : 0 ≤ couA M w ∧ couA M w ≤ 255 := by
  have hl : 0 ≤ M 23 3 ∧ M 23 3 ≤ 8 ∧ 0 ≤ M 23 4 ∧ M 23 4 ≤ 8 := h.l
  rw [couA_in M hw]
  have := bsum_255 (couB M w) (k := (M 23 3).toNat) (by omega)
  omega
theorem couA_bit {M : Mm} {w : Int} (hw : 0 ≤ w ∧ w < 28) (i : Nat) : (couA M w).toNat.testBit i = true ↔ i < (M 23 3).toNat ∧ agP M (i : Int) w (M 73 2).toNat := by
  rw [couA_in M hw, Int.toNat_natCast, bsum_bit, Bool.and_eq_true, decide_eq_true_iff]
  unfold couB
  rw [decide_eq_true_iff]
/-- one TRACK more -/
abbrev trN (M : Mm) (h w : Int) : Mm := adM M 73 h w
theorem trN_c {M : Mm} {h w : Int} (hs : M 73 2 < 12) : trN M h w 73 2 = M 73 2 + 1 ∧ (∀ j, trN M h w 74 j = if j = (M 73 2).toNat then h else M 74 j) ∧ (∀ j, trN M h w 75 j = if j = (M 73 2).toNat then w else M 75 j) ∧ ∀ a, (a < 73 ∨ 75 < a) → trN M h w a = M a := by
  unfold trN adM
  rw [if_pos hs]
  refine ⟨stM_at _ _ _ _, fun j => ?_, fun j => ?_, fun a ha => ?_⟩
  · rw [stM_off (by decide), stM_off (by decide)]
    by_cases z : j = (M 73 2).toNat
    · rw [if_pos z, z, stM_at]
    · rw [if_neg z, stM_ne _ _ (Or.inr z)]
  · rw [stM_off (by decide)]
    by_cases z : j = (M 73 2).toNat
    · rw [if_pos z, z, stM_at]
    · rw [if_neg z, stM_ne _ _ (Or.inr z), stM_off (by decide)]
  · rw [stM_off (by omega), stM_off (by omega), stM_off (by omega)]
theorem CI.tr {M : Mm} (hc : CI M) {h w : Int} (hs : M 73 2 < 12) (hh : 0 ≤ h ∧ h ≤ 7) (hw : 0 ≤ w ∧ w ≤ 99) : CI (trN M h w) := by
  obtain ⟨e1, e2, e3, e4⟩ := trN_c (h := h) (w := w) hs
  refine hc.prs (fun a h1 h2 => e4 a (by omega)) ⟨by rw [e4 70 (by decide)]; exact hc.p70.1, fun j => ?_⟩ ⟨by rw [e1]; have := hc.p73.1; omega, fun j => ?_⟩
  · rw [e4 (70 + 1) (by decide), e4 (70 + 2) (by decide)]
    exact hc.p70.2 j
  · show (0 ≤ trN M h w 74 j ∧ trN M h w 74 j ≤ 7) ∧ (0 ≤ trN M h w 75 j ∧ trN M h w 75 j ≤ 99)
    rw [e2, e3]
    have : (0 ≤ M 74 j ∧ M 74 j ≤ 7) ∧ (0 ≤ M 75 j ∧ M 75 j ≤ 99) := hc.p73.2 j
    by_cases z : j = (M 73 2).toNat
    · rw [if_pos z, if_pos z]
      exact ⟨hh, hw⟩
    · rw [if_neg z, if_neg z]
      exact this
/-- the TRACKS on the way: t of them, what was told of lies -/
def TI (M : Mm) (nh t li : Int) : Prop := CI M ∧ M 23 3 = nh ∧ T0 M ∧ (M 73 2 = t ∧ 0 ≤ t ∧ t ≤ 5) ∧ (li = 0 ∨ li = 1) ∧ (li = 0 ↔ ∀ j : Nat, j < t.toNat → agP M (M 74 j) (M 75 j) j)
theorem agS_tr {M : Mm} {h w : Int} (hs : 0 ≤ M 73 2 ∧ M 73 2 < 12) (x v : Int) (q : Nat) (hq : q ≤ (M 73 2).toNat) : agS (trN M h w) x v q ↔ agS M x v q := by
  obtain ⟨e1, e2, e3, e4⟩ := trN_c (h := h) (w := w) hs.2
  have ec := fun k u => cg_eq (e4 23 (by decide)) (e4 24 (by decide)) x v k u
  unfold agS
  constructor
  · rintro ⟨h1, h2⟩
    refine ⟨fun j hj => ?_, (ec _ _).mp h2⟩
    have := h1 j hj
    rw [e2, e3, if_neg (by omega), if_neg (by omega)] at this
    exact (ec _ _).mp this
  · rintro ⟨h1, h2⟩
    refine ⟨fun j hj => ?_, (ec _ _).mpr h2⟩
    rw [e2, e3, if_neg (by omega), if_neg (by omega)]
    exact (ec _ _).mpr (h1 j hj)
theorem T0_tr {M : Mm} (h0 : T0 M) {h w : Int} (hs : 0 ≤ M 73 2 ∧ M 73 2 < 12) (hw : 1 ≤ w) : T0 (trN M h w) := by
  obtain ⟨e1, e2, e3, e4⟩ := trN_c (h := h) (w := w) hs.2
  refine ⟨by rw [e4 23 (by decide)]; exact h0.1, fun j hj => ?_⟩
  rw [e1] at hj
  rw [e3]
  split
  · exact hw
  · exact h0.2 j (by omega)
theorem TI.add {M : Mm} {nh t li h w : Int} (hT : TI M nh t li) (ht : t < 5) (hnh : 1 ≤ nh ∧ nh ≤ 5) (hh : 0 ≤ h ∧ h < nh) (hw : 1 ≤ w ∧ w < 28) {li2 : Int} (h2 : (agP M h w t.toNat ∧ li2 = li) ∨ (¬ agP M h w t.toNat ∧ li2 = 1)) :
    traA M h w = t ∧ traM M h w = trN M h w ∧ TI (trN M h w) nh (t + 1) li2 ∧ (liaA (trN M h w) = -9 ↔ li2 = 0) ∧ ir (liaA (trN M h w)) := by
  obtain ⟨hc, h23, h0, ⟨h73, ht0, ht5⟩, hl, hli⟩ := hT
  have hs : 0 ≤ M 73 2 ∧ M 73 2 < 12 := by omega
  obtain ⟨e1, e2, e3, e4⟩ := trN_c (h := h) (w := w) hs.2
  have hb : ¬ trB M h w := by
    unfold trB HS
    rw [h23]
    omega
  have h0' := T0_tr h0 (h := h) hs hw.1
  have hA : (∀ j : Nat, j < (t + 1).toNat → agP (trN M h w) (trN M h w 74 j) (trN M h w 75 j) j) ↔ (∀ j : Nat, j < t.toNat → agP M (M 74 j) (M 75 j) j) ∧ agP M h w t.toNat := by
    have k1 : ∀ j : Nat, j ≤ t.toNat → ∀ x v, agP (trN M h w) x v j ↔ agP M x v j := fun j hj x v => by
      rw [agS_iff h0', agS_iff h0, agS_tr hs x v j (by omega)]
    constructor
    · intro q
      refine ⟨fun j hj => ?_, ?_⟩
      · have nj : ¬ j = (M 73 2).toNat := by omega
        have := q j (by omega)
        rw [e2, e3, if_neg nj, if_neg nj] at this
        exact (k1 j (by omega) _ _).mp this
      · have := q t.toNat (by omega)
        rw [e2, e3, h73, if_pos rfl, if_pos rfl] at this
        exact (k1 _ (Nat.le_refl _) _ _).mp this
    · rintro ⟨q1, q2⟩ j hj
      rw [e2, e3, h73]
      by_cases z : j = t.toNat
      · rw [if_pos z, if_pos z, z]
        exact (k1 _ (Nat.le_refl _) _ _).mpr q2
      · rw [if_neg z, if_neg z]
        exact (k1 j (by omega) _ _).mpr (q1 j (by omega))
  have hli2 : (li2 = 0 ∨ li2 = 1) ∧ (li2 = 0 ↔ ∀ j : Nat, j < (t + 1).toNat → agP (trN M h w) (trN M h w 74 j) (trN M h w 75 j) j) := by
    rw [hA]
    rcases h2 with ⟨a1, a2⟩ | ⟨a1, a2⟩
    · rw [a2]
      exact ⟨hl, hli.trans ⟨fun q => ⟨q, a1⟩, fun q => q.1⟩⟩
    · rw [a2]
      exact ⟨Or.inr rfl, ⟨fun q => by omega, fun q => absurd q.2 a1⟩⟩
  have hlr := lrF_iff (trN M h w) (trN M h w 73 2).toNat 0
  rw [e1, h73] at hlr
  refine ⟨?_, ?_, ⟨hc.tr hs.2 (by omega) (by omega), by rw [e4 23 (by decide)]; exact h23, h0', ⟨by rw [e1, h73], by omega, by omega⟩, hli2⟩, ?_, ?_⟩
  · unfold traA
    rw [if_neg hb, if_neg (by omega), h73]
  · unfold traM
    rw [if_neg hb, if_neg (by omega)]
  · unfold liaA
    rw [e1, h73, hlr.1, hli2.2]
    constructor
    · intro q j hj
      exact q j (by omega) (by omega)
    · intro q j _ hj
      exact q j (by omega)
  · unfold liaA
    rw [e1, h73]
    rcases hlr.2 with q | q
    · rw [q]
      exact ⟨by decide, by decide⟩
    · exact ⟨by omega, by omega⟩
theorem may_iff {M : Mm} {nh t li h w : Int} (hT : TI M nh t li) (hh : 0 ≤ h ∧ h < nh) (hw : 1 ≤ w ∧ w < 28) : (couA M w).toNat.testBit h.toNat = true ↔ agP M h w t.toNat := by
  obtain ⟨hc, h23, h0, ⟨h73, ht0, ht5⟩, hl, hli⟩ := hT
  rw [couA_bit (by omega), h23, h73, Int.toNat_of_nonneg hh.1]
  exact ⟨fun q => q.2, fun q => ⟨by omega, q⟩⟩
/-- no more HOUSES than before; the one where it was told -/
theorem cou_sub {M : Mm} {nh t li h w : Int} (hT : TI M nh t li) (ht : t < 5) (hh : 0 ≤ h ∧ h < nh) (hw : 1 ≤ w ∧ w < 28) {i : Int} (hi : 0 ≤ i ∧ i < 28) : ndN (couA (trN M h w) i).toNat (couA M i).toNat = 0 := by
  obtain ⟨hc, h23, h0, ⟨h73, ht0, ht5⟩, hl, hli⟩ := hT
  have hs : 0 ≤ M 73 2 ∧ M 73 2 < 12 := by omega
  obtain ⟨e1, e2, e3, e4⟩ := trN_c (h := h) (w := w) hs.2
  have h0' := T0_tr h0 (h := h) hs hw.1
  apply Nat.eq_of_testBit_eq
  intro k
  rw [ndN_bit, Nat.zero_testBit]
  cases c1 : (couA (trN M h w) i).toNat.testBit k with
  | false => rfl
  | true =>
    have z := (couA_bit hi k).mp c1
    rw [e4 23 (by decide), agS_iff h0'] at z
    have z2 : agS M (k : Int) i (M 73 2).toNat := (agS_tr (h := h) (w := w) hs _ _ _ (Nat.le_refl _)).mp ⟨fun j hj => z.2.1 j (by rw [e1]; omega), z.2.2⟩
    rw [(couA_bit hi k).mpr ⟨z.1, (agS_iff h0 _ _ _).mpr z2⟩]
    rfl
theorem cou_one {M : Mm} {nh t li h w : Int} (hT : TI M nh t li) (ht : t < 5) (hnh : nh ≤ 5) (hh : 0 ≤ h ∧ h < nh) (hw : 1 ≤ w ∧ w < 28) (hm : agP M h w t.toNat) : couA (trN M h w) w = ((bitN h : Nat) : Int) := by
  obtain ⟨hc, h23, h0, ⟨h73, ht0, ht5⟩, hl, hli⟩ := hT
  have hs : 0 ≤ M 73 2 ∧ M 73 2 < 12 := by omega
  obtain ⟨e1, e2, e3, e4⟩ := trN_c (h := h) (w := w) hs.2
  have h0' := T0_tr h0 (h := h) hs hw.1
  have hb := couA_in (trN M h w) (w := w) (by omega)
  rw [hb]
  congr 1
  apply Nat.eq_of_testBit_eq
  intro k
  rw [Bool.eq_iff_iff, bsum_bit, e4 23 (by decide), h23, bitN_in (by omega), Nat.testBit_two_pow, Bool.and_eq_true, decide_eq_true_iff, decide_eq_true_iff]
  unfold couB
  rw [decide_eq_true_iff, e1, h73, show (t + 1).toNat = t.toNat + 1 by omega]
  constructor
  · rintro ⟨y1, y⟩
    have y2 := y.1 t.toNat (Nat.lt_succ_self _)
    rw [e2, e3, h73, if_pos rfl, if_pos rfl] at y2
    clear y
    rcases y2 with y2 | y2
    · omega
    · rw [Int.sub_self] at y2
      have := Int.le_max_left 1 (wap (plc (trN M h w) 23 (k : Int)) (plc (trN M h w) 23 h))
      rw [if_pos (Int.le_refl 0)] at y2
      omega
  · intro z
    have hk : (k : Int) = h := by omega
    refine ⟨by omega, ?_⟩
    rw [agS_iff h0']
    have hm2 := (agS_tr (h := h) (w := w) hs h w t.toNat (by omega)).mpr ((agS_iff h0 h w t.toNat).mp hm)
    rw [hk]
    refine ⟨fun j hj => ?_, hm2.2⟩
    by_cases zj : j = t.toNat
    · rw [e2, e3, h73, if_pos zj, if_pos zj]
      exact Or.inl rfl
    · exact hm2.1 j (by omega)
/-- before any TRACK -/
theorem cou_0 {M : Mm} {nh li : Int} (hT : TI M nh 0 li) (hnh : 1 ≤ nh ∧ nh ≤ 5) : couA M 0 = 1 ∧ couA M 27 = ((2 ^ nh.toNat : Nat) : Int) - 1 := by
  obtain ⟨hc, h23, h0, ⟨h73, ht0, ht5⟩, hl, hli⟩ := hT
  constructor
  · rw [couA_in M (by decide)]
    have : bsum (couB M 0) (M 23 3).toNat = 2 ^ 0 := by
      apply Nat.eq_of_testBit_eq
      intro k
      rw [Bool.eq_iff_iff, bsum_bit, h23, Nat.testBit_two_pow, Bool.and_eq_true, decide_eq_true_iff, decide_eq_true_iff]
      unfold couB
      rw [decide_eq_true_iff, h73, agS_iff h0]
      constructor
      · rintro ⟨y1, y⟩
        rcases y.2 with y2 | y2
        · omega
        · have := Int.le_max_left 1 (wap (plc M 23 (k : Int)) (plc M 23 0))
          rw [Int.sub_self, if_pos (Int.le_refl 0)] at y2
          omega
      · intro z
        subst z
        exact ⟨by omega, fun j hj => absurd hj (Nat.not_lt_zero _), Or.inl rfl⟩
    rw [this]
    rfl
  · rw [couA_in M (by decide)]
    have : bsum (couB M 27) (M 23 3).toNat = 2 ^ nh.toNat - 1 := by
      apply Nat.eq_of_testBit_eq
      intro k
      rw [Bool.eq_iff_iff, bsum_bit, h23, Nat.testBit_two_pow_sub_one, Bool.and_eq_true, decide_eq_true_iff]
      unfold couB
      rw [decide_eq_true_iff, h73, agS_iff h0]
      refine ⟨fun y => y.1, fun y => ⟨y, fun j hj => absurd hj (Nat.not_lt_zero _), Or.inr ?_⟩⟩
      have := wap_b (plc_b hc.pl (k : Int)) (plc_b hc.pl 0)
      rw [if_pos (by decide)]
      omega
    rw [this]
    have := Nat.two_pow_pos nh.toNat
    omega
theorem T_last {M : Mm} {nh t li : Int} (hT : TI M nh t li) : forA M 0 = t ∧ forM M 0 = stM M 73 2 0 ∧ TI (stM M 73 2 0) nh 0 0 ∧ liaA (stM M 73 2 0) = -9 := by
  obtain ⟨hc, h23, h0, ⟨h73, ht0, ht5⟩, hl, hli⟩ := hT
  have hq : ¬ ((0 : Int) < 0 ∨ M 73 2 < 0) := by omega
  have e : ∀ a, a ≠ 73 → stM M 73 2 0 a = M a := fun a ha => stM_off ha
  have e73 : stM M 73 2 0 73 2 = 0 := stM_at _ _ _ _
  unfold forA forM
  rw [if_neg hq, if_neg hq]
  refine ⟨by omega, rfl, ⟨hc.prs (fun a h1 h2 => e a (by omega)) (by unfold PRW; rw [e 70 (by decide), e 71 (by decide), e 72 (by decide)]; exact hc.p70) ⟨by rw [e73]; decide, fun j => by rw [e (73 + 1) (by decide), e (73 + 2) (by decide)]; exact hc.p73.2 j⟩, by rw [e 23 (by decide)]; exact h23, ⟨by rw [e 23 (by decide)]; exact h0.1, fun j hj => by rw [e73] at hj; exact absurd hj (Nat.not_lt_zero _)⟩, ⟨e73, by decide, by decide⟩, Or.inl rfl, ⟨fun _ j hj => absurd hj (Nat.not_lt_zero _), fun _ => rfl⟩⟩, ?_⟩
  unfold liaA
  rw [e73]
  rfl
theorem or_b {li : Int} (h : li = 0 ∨ li = 1) : iI li ||| iI 1 = iI 1 ∧ iI li ||| iI 0 = iI li := by
  rcases h with rfl | rfl <;> decide
/-- a method of the law answers true -/
def qB : Option Value → va_W → Prop := fun r _ => r = some (.int (iI 1))
theorem wR_last {P : Pl} {n : Nat} {M : Mm} {R : va_W} {x : Nat × va_E} : (wld P n M ++ (R ++ [x]))[n + R.length]? = some x := wR_get (by rw [List.getElem?_append_right (Nat.le_refl _), Nat.sub_self]; rfl)
theorem wR_lset {P : Pl} {n : Nat} {M : Mm} {R : va_W} {x y : Nat × va_E} : (wld P n M ++ (R ++ [x])).set (n + R.length) y = wld P n M ++ (R ++ [y]) := by
  rw [wR_set, List.set_append_right _ _ (Nat.le_refl _), Nat.sub_self]
  rfl
theorem c_trkL {n : Nat} (hn : NN n) {M : Mm} {nh t li h w : Int} (hT : TI M nh t li) (ht : t < 5) (hnh : 1 ≤ nh ∧ nh ≤ 5) (hh : 0 ≤ h ∧ h < nh) (hw : 1 ≤ w ∧ w < 28) : CT yX11_track cX11_track 3 (some .int) ({ frames := 1, cells := 0, slots := 0, locals := 22 }) n [.ref 0, .int (iI h), .int (iI w)] M (rI t (trN M h w)) := by
  have c := c_X11_track (M := M) hn hT.1 h w ⟨by omega, by omega⟩ ⟨by omega, by omega⟩
  have e : traA M h w = t ∧ traM M h w = trN M h w := by
    by_cases q : agP M h w t.toNat
    · have := hT.add ht hnh hh hw (Or.inl ⟨q, rfl⟩)
      exact ⟨this.1, this.2.1⟩
    · have := hT.add ht hnh hh hw (Or.inr ⟨q, rfl⟩)
      exact ⟨this.1, this.2.1⟩
  rw [e.1, e.2] at c
  exact c
theorem c_forL {n : Nat} (hn : NN n) {M : Mm} {nh t li : Int} (hT : TI M nh t li) : CT yX11_forget cX11_forget 3 (some .int) ({ frames := 1, cells := 0, slots := 0, locals := 21 }) n [.ref 0, .int (iI 0)] M (rI t (stM M 73 2 0)) := by
  have c := c_X11_forget (M := M) hn hT.1 0 ⟨by decide, by decide⟩
  rw [(T_last hT).1, (T_last hT).2.1] at c
  exact c
set_option maxHeartbeats 4000000 in
set_option maxRecDepth 100000 in
theorem tracks_I {P : Pl} {b L : Nat} {xs : Nat → Int32} {n : Nat} (hn : NN n) {M0 : Mm} {R : va_W} (nh : Int) (hnh : 1 ≤ nh ∧ nh ≤ 5) {aw : Nat} {X : Yq} (cx : Yx X cL_tracks RL ({ frames := 6, cells := 1, slots := 28, locals := 135 } : Room) 12 P) (ys : Ys X P) (sx : Sy X b L xs) (qx : Yr X (wld P n M0 ++ R) 1 28 (qB) (some .boolean)) {li0 li t h w mb : Int} {M : Mm} (hT : TI M nh t li0) (hc2 : CI (trN M h w)) (ht : t < 5) (hh : 0 ≤ h ∧ h < nh) (hw : 1 ≤ w ∧ w < 28) (hmb : ¬ mb = 0 → agP M h w t.toNat) (hmr : mb = 0 ∨ mb = 1) (kx : ∀ F : Nat → Int, (∀ j : Nat, j < 28 → F j = couA (trN M h w) (j : Int)) → YG X 227 [(0, .ref (P.2.1 0)), (1, .ref b), (2, .int (iI nh)), (3, .ref aw), (4, .int (iI li)), (5, .int (iI t))] [] (wld P n (trN M h w) ++ (R ++ [ar P aw 28 F])) 1 28) : ∀ (fu : Nat) (F : Nat → Int) (i : Int), (0 ≤ i ∧ i ≤ 28) → (∀ j : Nat, ((j : Int) < i → F j = couA (trN M h w) (j : Int)) ∧ (i ≤ (j : Int) → j < 28 → F j = couA M (j : Int))) → ((28 - i).toNat) ≤ fu → YG X 165 [(0, .ref (P.2.1 0)), (1, .ref b), (2, .int (iI nh)), (3, .ref aw), (4, .int (iI li)), (5, .int (iI t)), (7, .int (iI h)), (8, .int (iI w)), (9, .int (iI mb)), (10, .int (iI i))] [] (wld P n (trN M h w) ++ (R ++ [ar P aw 28 F])) 1 28 := by
  intro fu
  induction fu using Nat.strongRecOn with
  | _ fu ih =>
    intro F i hi hF hfu
    have hF1 := hF i.toNat
    have hcb := couA_b hc2 (w := i)
    have hcb2 := couA_b hT.1 (w := i)
    refine l_iload cx (pc2 := 167) 9 rfl dL_tracks_165 rfl ?_
    refine l_bipush cx (pc2 := 169) ⟨by decide, by decide⟩ dL_tracks_167 rfl ?_
    refine l_icmp_ge cx (pc2 := 172) (tgt := 227) ⟨(by first | assumption | omega | exact ⟨by omega, by omega⟩), ⟨by decide, by decide⟩⟩ dL_tracks_169 (by decide) rfl (fun h_1 => ?_) (fun h_1 => ?_)
    · skip
      refine l_sub (lv2 := [(0, .ref (P.2.1 0)), (1, .ref b), (2, .int (iI nh)), (3, .ref aw), (4, .int (iI li)), (5, .int (iI t))]) [0, 1, 2, 3, 4, 5] rfl ?_
      exact kx F (fun j hj => (hF j).1 (by omega))
    · skip
      refine l_aload_n cx (pc2 := 173) 0 rfl dL_tracks_172 rfl ?_
      refine l_iload cx (pc2 := 175) 9 rfl dL_tracks_173 rfl ?_
      refine l_ctI cx (pc2 := 178) (st := []) ys hn (M := (trN M h w)) (As := [.int (iI i)]) (c_X11_could (M := (trN M h w)) hn hc2 i (by exact ⟨by omega, by omega⟩)) wM_X11_could wV_X11_could rfl kl_L_169 ⟨rfl, rfl, Nat.le_of_ble_eq_true rfl, Nat.le_of_ble_eq_true rfl⟩ (Nat.le_of_ble_eq_true rfl) ⟨Nat.le_of_ble_eq_true rfl, Nat.le_of_ble_eq_true rfl⟩ rfl rfl rfl dL_tracks_175 rfl ?_
      refine l_istore cx (pc2 := 180) (lv2 := [(0, .ref (P.2.1 0)), (1, .ref b), (2, .int (iI nh)), (3, .ref aw), (4, .int (iI li)), (5, .int (iI t)), (7, .int (iI h)), (8, .int (iI w)), (9, .int (iI mb)), (10, .int (iI i)), (11, .int (iI (couA (trN M h w) i)))]) rfl (Nat.le_of_ble_eq_true rfl) dL_tracks_178 rfl ?_
      refine l_iload cx (pc2 := 182) 10 rfl dL_tracks_180 rfl ?_
      refine l_aload_n cx (pc2 := 183) 3 rfl dL_tracks_182 rfl ?_
      refine l_iload cx (pc2 := 185) 9 rfl dL_tracks_183 rfl ?_
      refine l_iaload cx (pc2 := 186) (N := 28) (V := F) (n + R.length) wR_last (by first | assumption | omega | exact ⟨by omega, by omega⟩) (by first | assumption | omega | exact ⟨by omega, by omega⟩) (Nat.le_of_ble_eq_true rfl) dL_tracks_185 rfl ?_
      refine l_rwi (y := iI (couA M i)) (by rw [(hF i.toNat).2 (by omega) (by omega), Int.toNat_of_nonneg (by omega)]) ?_
      refine l_iconst cx (pc2 := 187) dL_tracks_186 rfl ?_
      refine l_ixor cx (pc2 := 188) dL_tracks_187 rfl ?_
      refine l_iand cx (pc2 := 189) dL_tracks_188 rfl ?_
      refine l_rwi (y := iI ((ndN (couA (trN M h w) i).toNat (couA M i).toNat : Nat) : Int)) (nd_iI (by omega) (by omega)) ?_
      refine l_if_ne cx (pc2 := 192) (tgt := 213) (by have := ndN_le (couA (trN M h w) i).toNat (couA M i).toNat; exact ⟨by omega, by omega⟩) dL_tracks_189 (by decide) rfl (fun h_2 => ?_) (fun h_2 => ?_)
      · skip
        exact absurd (by rw [cou_sub hT ht hh hw (by omega)]; rfl) h_2
      · skip
        refine l_iload cx (pc2 := 194) 9 rfl dL_tracks_192 rfl ?_
        refine l_iload cx (pc2 := 196) 7 rfl dL_tracks_194 rfl ?_
        refine l_icmp_ne cx (pc2 := 199) (tgt := 215) ⟨(by first | assumption | omega | exact ⟨by omega, by omega⟩), (by first | assumption | omega | exact ⟨by omega, by omega⟩)⟩ dL_tracks_196 (by decide) rfl (fun h_3 => ?_) (fun h_3 => ?_)
        · skip
          refine l_aload_n cx (pc2 := 216) 3 rfl dL_tracks_215 rfl ?_
          refine l_iload cx (pc2 := 218) 9 rfl dL_tracks_216 rfl ?_
          refine l_iload cx (pc2 := 220) 10 rfl dL_tracks_218 rfl ?_
          refine l_iastore cx (pc2 := 221) (N := 28) (V := F) (n + R.length) wR_last (by first | assumption | omega | exact ⟨by omega, by omega⟩) (by first | assumption | omega | exact ⟨by omega, by omega⟩) (Nat.le_of_ble_eq_true rfl) dL_tracks_220 rfl ?_
          refine l_W (w2 := (wld P n (trN M h w) ++ (R ++ [ar P aw 28 (uM F (i).toNat (couA (trN M h w) i))]))) wR_lset ?_
          refine l_iinc cx (pc2 := 224) 9 rfl (lv2 := [(0, .ref (P.2.1 0)), (1, .ref b), (2, .int (iI nh)), (3, .ref aw), (4, .int (iI li)), (5, .int (iI t)), (7, .int (iI h)), (8, .int (iI w)), (9, .int (iI mb)), (10, .int (iI (i + 1))), (11, .int (iI (couA (trN M h w) i)))]) rfl (Nat.le_of_ble_eq_true rfl) dL_tracks_221 rfl ?_
          refine l_goto cx (tgt := 165) dL_tracks_224 (by decide) ?_
          refine l_sub (lv2 := [(0, .ref (P.2.1 0)), (1, .ref b), (2, .int (iI nh)), (3, .ref aw), (4, .int (iI li)), (5, .int (iI t)), (7, .int (iI h)), (8, .int (iI w)), (9, .int (iI mb)), (10, .int (iI (i + 1)))]) [0, 1, 2, 3, 4, 5, 6, 7, 8, 9] rfl ?_
          exact ih _ (by omega) _ (i + 1) (by omega) (fun j => ⟨fun h1 => by unfold uM; split; (rename_i z; rw [z, Int.toNat_of_nonneg (by omega)]); exact (hF j).1 (by omega), fun h1 h2 => by rw [uM_ne _ _ (by omega)]; exact (hF j).2 (by omega) h2⟩) (Nat.le_refl _)
        · skip
          refine l_iload cx (pc2 := 201) 8 rfl dL_tracks_199 rfl ?_
          refine l_if_eq cx (pc2 := 204) (tgt := 215) (by first | assumption | omega | exact ⟨by omega, by omega⟩) dL_tracks_201 (by decide) rfl (fun h_4 => ?_) (fun h_4 => ?_)
          · skip
            refine l_aload_n cx (pc2 := 216) 3 rfl dL_tracks_215 rfl ?_
            refine l_iload cx (pc2 := 218) 9 rfl dL_tracks_216 rfl ?_
            refine l_iload cx (pc2 := 220) 10 rfl dL_tracks_218 rfl ?_
            refine l_iastore cx (pc2 := 221) (N := 28) (V := F) (n + R.length) wR_last (by first | assumption | omega | exact ⟨by omega, by omega⟩) (by first | assumption | omega | exact ⟨by omega, by omega⟩) (Nat.le_of_ble_eq_true rfl) dL_tracks_220 rfl ?_
            refine l_W (w2 := (wld P n (trN M h w) ++ (R ++ [ar P aw 28 (uM F (i).toNat (couA (trN M h w) i))]))) wR_lset ?_
            refine l_iinc cx (pc2 := 224) 9 rfl (lv2 := [(0, .ref (P.2.1 0)), (1, .ref b), (2, .int (iI nh)), (3, .ref aw), (4, .int (iI li)), (5, .int (iI t)), (7, .int (iI h)), (8, .int (iI w)), (9, .int (iI mb)), (10, .int (iI (i + 1))), (11, .int (iI (couA (trN M h w) i)))]) rfl (Nat.le_of_ble_eq_true rfl) dL_tracks_221 rfl ?_
            refine l_goto cx (tgt := 165) dL_tracks_224 (by decide) ?_
            refine l_sub (lv2 := [(0, .ref (P.2.1 0)), (1, .ref b), (2, .int (iI nh)), (3, .ref aw), (4, .int (iI li)), (5, .int (iI t)), (7, .int (iI h)), (8, .int (iI w)), (9, .int (iI mb)), (10, .int (iI (i + 1)))]) [0, 1, 2, 3, 4, 5, 6, 7, 8, 9] rfl ?_
            exact ih _ (by omega) _ (i + 1) (by omega) (fun j => ⟨fun h1 => by unfold uM; split; (rename_i z; rw [z, Int.toNat_of_nonneg (by omega)]); exact (hF j).1 (by omega), fun h1 h2 => by rw [uM_ne _ _ (by omega)]; exact (hF j).2 (by omega) h2⟩) (Nat.le_refl _)
          · skip
            refine l_iload cx (pc2 := 206) 10 rfl dL_tracks_204 rfl ?_
            refine l_iconst cx (pc2 := 207) dL_tracks_206 rfl ?_
            refine l_iload cx (pc2 := 209) 6 rfl dL_tracks_207 rfl ?_
            refine l_ishl cx (pc2 := 210) dL_tracks_209 rfl ?_
            refine l_rwi (y := iI ((bitN h : Nat) : Int)) (shb (by omega) (by omega)) ?_
            refine l_icmp_eq cx (pc2 := 213) (tgt := 215) ⟨(by have := bitN_le h; first | exact ⟨by omega, by omega⟩), (by have := bitN_le h; first | exact ⟨by omega, by omega⟩)⟩ dL_tracks_210 (by decide) rfl (fun h_5 => ?_) (fun h_5 => ?_)
            · skip
              refine l_aload_n cx (pc2 := 216) 3 rfl dL_tracks_215 rfl ?_
              refine l_iload cx (pc2 := 218) 9 rfl dL_tracks_216 rfl ?_
              refine l_iload cx (pc2 := 220) 10 rfl dL_tracks_218 rfl ?_
              refine l_iastore cx (pc2 := 221) (N := 28) (V := F) (n + R.length) wR_last (by first | assumption | omega | exact ⟨by omega, by omega⟩) (by first | assumption | omega | exact ⟨by omega, by omega⟩) (Nat.le_of_ble_eq_true rfl) dL_tracks_220 rfl ?_
              refine l_W (w2 := (wld P n (trN M h w) ++ (R ++ [ar P aw 28 (uM F (i).toNat (couA (trN M h w) i))]))) wR_lset ?_
              refine l_iinc cx (pc2 := 224) 9 rfl (lv2 := [(0, .ref (P.2.1 0)), (1, .ref b), (2, .int (iI nh)), (3, .ref aw), (4, .int (iI li)), (5, .int (iI t)), (7, .int (iI h)), (8, .int (iI w)), (9, .int (iI mb)), (10, .int (iI (i + 1))), (11, .int (iI (couA (trN M h w) i)))]) rfl (Nat.le_of_ble_eq_true rfl) dL_tracks_221 rfl ?_
              refine l_goto cx (tgt := 165) dL_tracks_224 (by decide) ?_
              refine l_sub (lv2 := [(0, .ref (P.2.1 0)), (1, .ref b), (2, .int (iI nh)), (3, .ref aw), (4, .int (iI li)), (5, .int (iI t)), (7, .int (iI h)), (8, .int (iI w)), (9, .int (iI mb)), (10, .int (iI (i + 1)))]) [0, 1, 2, 3, 4, 5, 6, 7, 8, 9] rfl ?_
              exact ih _ (by omega) _ (i + 1) (by omega) (fun j => ⟨fun h1 => by unfold uM; split; (rename_i z; rw [z, Int.toNat_of_nonneg (by omega)]); exact (hF j).1 (by omega), fun h1 h2 => by rw [uM_ne _ _ (by omega)]; exact (hF j).2 (by omega) h2⟩) (Nat.le_refl _)
            · skip
              have hiw : i = w := (by omega); subst hiw; exact absurd (cou_one hT ht hnh.2 hh hw (hmb (by omega))) h_5
set_option maxHeartbeats 4000000 in
set_option maxRecDepth 100000 in
theorem tracks_M {P : Pl} {b L : Nat} {xs : Nat → Int32} {n : Nat} (hn : NN n) {M0 : Mm} {R : va_W} (nh : Int) (hnh : 1 ≤ nh ∧ nh ≤ 5) {aw : Nat} {X : Yq} (cx : Yx X cL_tracks RL ({ frames := 6, cells := 1, slots := 28, locals := 135 } : Room) 12 P) (ys : Ys X P) (sx : Sy X b L xs) (qx : Yr X (wld P n M0 ++ R) 1 28 (qB) (some .boolean)) : ∀ (fu : Nat) (M : Mm) (F : Nat → Int) (li : Int) (t : Int), (TI M nh t li) → (∀ j : Nat, j < 28 → F j = couA M (j : Int)) → ((5 - t).toNat) ≤ fu → YG X 58 [(0, .ref (P.2.1 0)), (1, .ref b), (2, .int (iI nh)), (3, .ref aw), (4, .int (iI li)), (5, .int (iI t))] [] (wld P n M ++ (R ++ [ar P aw 28 F])) 1 28 := by
  intro fu
  induction fu using Nat.strongRecOn with
  | _ fu ih =>
    intro M F li t hT hF hfu
    have hTt := hT.2.2.2.1
    have hTl := hT.2.2.2.2.1
    have hlr : ir li := ⟨by omega, by omega⟩
    refine l_iload cx (pc2 := 60) 5 rfl dL_tracks_58 rfl ?_
    refine l_iconst cx (pc2 := 61) dL_tracks_60 rfl ?_
    refine l_icmp_ge cx (pc2 := 64) (tgt := 233) ⟨(by first | assumption | omega | exact ⟨by omega, by omega⟩), ⟨by decide, by decide⟩⟩ dL_tracks_61 (by decide) rfl (fun h_1 => ?_) (fun h_1 => ?_)
    · skip
      refine l_aload_n cx (pc2 := 234) 0 rfl dL_tracks_233 rfl ?_
      refine l_iconst cx (pc2 := 235) dL_tracks_234 rfl ?_
      refine l_ctI cx (pc2 := 238) (st := []) ys hn (M := M) (As := [.int (iI 0)]) (c_forL (M := M) hn hT) wM_X11_forget wV_X11_forget rfl kl_L_178 ⟨rfl, rfl, Nat.le_of_ble_eq_true rfl, Nat.le_of_ble_eq_true rfl⟩ (Nat.le_of_ble_eq_true rfl) ⟨Nat.le_of_ble_eq_true rfl, Nat.le_of_ble_eq_true rfl⟩ rfl rfl rfl dL_tracks_235 rfl ?_
      have hZ := (T_last hT).2.2
      refine l_iconst cx (pc2 := 239) dL_tracks_238 rfl ?_
      refine l_icmp_ne cx (pc2 := 242) (tgt := 264) ⟨(by first | assumption | omega | exact ⟨by omega, by omega⟩), ⟨by decide, by decide⟩⟩ dL_tracks_239 (by decide) rfl (fun h_2 => ?_) (fun h_2 => ?_)
      · skip
        omega
      · skip
        refine l_aload_n cx (pc2 := 243) 0 rfl dL_tracks_242 rfl ?_
        refine l_iconst cx (pc2 := 244) dL_tracks_243 rfl ?_
        refine l_ctI cx (pc2 := 247) (st := []) ys hn (M := (stM M 73 2 0)) (As := [.int (iI 0)]) (c_X11_could (M := (stM M 73 2 0)) hn hZ.1.1 0 (by exact ⟨by decide, by decide⟩)) wM_X11_could wV_X11_could rfl kl_L_169 ⟨rfl, rfl, Nat.le_of_ble_eq_true rfl, Nat.le_of_ble_eq_true rfl⟩ (Nat.le_of_ble_eq_true rfl) ⟨Nat.le_of_ble_eq_true rfl, Nat.le_of_ble_eq_true rfl⟩ rfl rfl rfl dL_tracks_244 rfl ?_
        refine l_rwi (y := iI 1) (congrArg iI (cou_0 hZ.1 hnh).1) ?_
        refine l_iconst cx (pc2 := 248) dL_tracks_247 rfl ?_
        refine l_icmp_ne cx (pc2 := 251) (tgt := 264) ⟨⟨by decide, by decide⟩, ⟨by decide, by decide⟩⟩ dL_tracks_248 (by decide) rfl (fun h_3 => ?_) (fun h_3 => ?_)
        · skip
          omega
        · skip
          refine l_aload_n cx (pc2 := 252) 0 rfl dL_tracks_251 rfl ?_
          refine l_ctI cx (pc2 := 255) (st := []) ys hn (M := (stM M 73 2 0)) (As := []) (c_X11_liar (M := (stM M 73 2 0)) hn hZ.1.1) wM_X11_liar wV_X11_liar rfl kl_L_175 ⟨rfl, rfl, Nat.le_of_ble_eq_true rfl, Nat.le_of_ble_eq_true rfl⟩ (Nat.le_of_ble_eq_true rfl) ⟨Nat.le_of_ble_eq_true rfl, Nat.le_of_ble_eq_true rfl⟩ rfl rfl rfl dL_tracks_252 rfl ?_
          refine l_rwi (y := iI (-9)) (congrArg iI hZ.2) ?_
          refine l_bipush cx (pc2 := 257) ⟨by decide, by decide⟩ dL_tracks_255 rfl ?_
          refine l_icmp_ne cx (pc2 := 260) (tgt := 264) ⟨⟨by decide, by decide⟩, ⟨by decide, by decide⟩⟩ dL_tracks_257 (by decide) rfl (fun h_4 => ?_) (fun h_4 => ?_)
          · skip
            omega
          · skip
            refine l_iconst cx (pc2 := 261) dL_tracks_260 rfl ?_
            refine l_goto cx (tgt := 265) dL_tracks_261 (by decide) ?_
            exact l_zret cx (Or.inr rfl) qx dL_tracks_265 (by rfl)
    · skip
      refine l_aload_n cx (pc2 := 65) 1 rfl dL_tracks_64 rfl ?_
      refine l_bipush cx (pc2 := 67) ⟨by decide, by decide⟩ dL_tracks_65 rfl ?_
      refine l_iload cx (pc2 := 69) 5 rfl dL_tracks_67 rfl ?_
      refine l_iadd cx (pc2 := 70) dL_tracks_69 rfl ?_
      refine l_clI cx (pc2 := 73) (st := []) ys sx (As := [.ref b, .int (iI (90 + t))]) (c_L_cell (90 + t) (by omega)) wM_L_cell wS_L_cell kl_L_19 ⟨rfl, rfl, Nat.le_of_ble_eq_true rfl, Nat.le_of_ble_eq_true rfl⟩ (Nat.le_of_ble_eq_true rfl) ⟨Nat.le_of_ble_eq_true rfl, Nat.le_of_ble_eq_true rfl⟩ rfl rfl dL_tracks_70 rfl ?_
      obtain ⟨x, hx⟩ : ∃ x, x = ceV L xs (90 + t) := ⟨_, rfl⟩
      have hxb : 0 ≤ x ∧ x ≤ 268435455 := by rw [hx]; exact ceV_b (by omega)
      have m1 := Int.emod_nonneg x (show nh ≠ 0 by omega)
      have m2 := Int.emod_lt_of_pos x (show 0 < nh by omega)
      refine l_rwi (y := iI x) (by rw [hx]) ?_
      refine l_istore cx (pc2 := 75) (lv2 := [(0, .ref (P.2.1 0)), (1, .ref b), (2, .int (iI nh)), (3, .ref aw), (4, .int (iI li)), (5, .int (iI t)), (6, .int (iI x))]) rfl (Nat.le_of_ble_eq_true rfl) dL_tracks_73 rfl ?_
      refine l_iload cx (pc2 := 77) 6 rfl dL_tracks_75 rfl ?_
      refine l_iload_n cx (pc2 := 78) 2 rfl dL_tracks_77 rfl ?_
      refine l_irem cx (pc2 := 79) (by exact ⟨⟨by omega, by omega⟩, ⟨by omega, by omega⟩, by omega, Or.inr (by omega)⟩) dL_tracks_78 rfl ?_
      refine l_rwi (y := iI (x % nh)) (by rw [trem (by omega)]) ?_
      refine l_istore cx (pc2 := 81) (lv2 := [(0, .ref (P.2.1 0)), (1, .ref b), (2, .int (iI nh)), (3, .ref aw), (4, .int (iI li)), (5, .int (iI t)), (6, .int (iI x)), (7, .int (iI (x % nh)))]) rfl (Nat.le_of_ble_eq_true rfl) dL_tracks_79 rfl ?_
      refine l_iconst cx (pc2 := 82) dL_tracks_81 rfl ?_
      refine l_iload cx (pc2 := 84) 6 rfl dL_tracks_82 rfl ?_
      refine l_bipush cx (pc2 := 86) ⟨by decide, by decide⟩ dL_tracks_84 rfl ?_
      refine l_idiv cx (pc2 := 87) (by exact ⟨⟨by omega, by omega⟩, ⟨by omega, by omega⟩, by omega, Or.inr (by omega)⟩) dL_tracks_86 rfl ?_
      refine l_rwi (y := iI (x / 8)) (by rw [tdv (by omega)]) ?_
      refine l_bipush cx (pc2 := 89) ⟨by decide, by decide⟩ dL_tracks_87 rfl ?_
      refine l_irem cx (pc2 := 90) (by exact ⟨⟨by omega, by omega⟩, ⟨by omega, by omega⟩, by omega, Or.inr (by omega)⟩) dL_tracks_89 rfl ?_
      refine l_rwi (y := iI (x / 8 % 27)) (by rw [trem (by omega)]) ?_
      refine l_iadd cx (pc2 := 91) dL_tracks_90 rfl ?_
      refine l_istore cx (pc2 := 93) (lv2 := [(0, .ref (P.2.1 0)), (1, .ref b), (2, .int (iI nh)), (3, .ref aw), (4, .int (iI li)), (5, .int (iI t)), (6, .int (iI x)), (7, .int (iI (x % nh))), (8, .int (iI (1 + (x / 8 % 27))))]) rfl (Nat.le_of_ble_eq_true rfl) dL_tracks_91 rfl ?_
      obtain ⟨h, hhe⟩ : ∃ h, h = x % nh := ⟨_, rfl⟩
      obtain ⟨w, hwe⟩ : ∃ w, w = 1 + x / 8 % 27 := ⟨_, rfl⟩
      rw [← hhe, ← hwe]
      have hh : 0 ≤ h ∧ h < nh := by omega
      have hw : 1 ≤ w ∧ w < 28 := by omega
      have hcb := couA_b hT.1 (w := w) (by omega)
      have hN : ∀ li2 : Int, TI (trN M h w) nh (t + 1) li2 → ∀ F2 : Nat → Int, (∀ j : Nat, j < 28 → F2 j = couA (trN M h w) (j : Int)) → YG X 227 [(0, .ref (P.2.1 0)), (1, .ref b), (2, .int (iI nh)), (3, .ref aw), (4, .int (iI li2)), (5, .int (iI t))] [] (wld P n (trN M h w) ++ (R ++ [ar P aw 28 F2])) 1 28 := by
        intro li2 hT2 F2 hF2
        refine l_iinc cx (pc2 := 230) 5 rfl (lv2 := [(0, .ref (P.2.1 0)), (1, .ref b), (2, .int (iI nh)), (3, .ref aw), (4, .int (iI li2)), (5, .int (iI (t + 1)))]) rfl (Nat.le_of_ble_eq_true rfl) dL_tracks_227 rfl ?_
        refine l_goto cx (tgt := 58) dL_tracks_230 (by decide) ?_
        exact ih _ (by omega) _ F2 li2 (t + 1) hT2 hF2 (Nat.le_refl _)
      refine l_aload_n cx (pc2 := 94) 3 rfl dL_tracks_93 rfl ?_
      refine l_iload cx (pc2 := 96) 8 rfl dL_tracks_94 rfl ?_
      refine l_iaload cx (pc2 := 97) (N := 28) (V := F) (n + R.length) wR_last (by first | assumption | omega | exact ⟨by omega, by omega⟩) (by first | assumption | omega | exact ⟨by omega, by omega⟩) (Nat.le_of_ble_eq_true rfl) dL_tracks_96 rfl ?_
      refine l_rwi (y := iI (couA M w)) (by rw [hF w.toNat (by omega), Int.toNat_of_nonneg (by omega)]) ?_
      refine l_iload cx (pc2 := 99) 7 rfl dL_tracks_97 rfl ?_
      refine l_ishr cx (pc2 := 100) dL_tracks_99 rfl ?_
      refine l_iconst cx (pc2 := 101) dL_tracks_100 rfl ?_
      refine l_iand cx (pc2 := 102) dL_tracks_101 rfl ?_
      refine l_rwi (y := iI (if (couA M w).toNat.testBit h.toNat then 1 else 0)) (shr1 (by omega) (by omega) (by omega) (by omega)) ?_
      refine l_iconst cx (pc2 := 103) dL_tracks_102 rfl ?_
      refine l_icmp_ne cx (pc2 := 106) (tgt := 110) ⟨(by split <;> exact ⟨by decide, by decide⟩), ⟨by decide, by decide⟩⟩ dL_tracks_103 (by decide) rfl (fun h_5 => ?_) (fun h_5 => ?_)
      · skip
        have hmay : ¬ agP M h w t.toNat := fun q => by rw [if_pos ((may_iff hT hh hw).mpr q)] at h_5; exact h_5 rfl
        have hA := hT.add (by omega) hnh hh hw (Or.inr ⟨hmay, rfl⟩)
        refine l_iconst cx (pc2 := 111) dL_tracks_110 rfl ?_
        refine l_istore cx (pc2 := 113) (lv2 := [(0, .ref (P.2.1 0)), (1, .ref b), (2, .int (iI nh)), (3, .ref aw), (4, .int (iI li)), (5, .int (iI t)), (6, .int (iI x)), (7, .int (iI h)), (8, .int (iI w)), (9, .int (iI 0))]) rfl (Nat.le_of_ble_eq_true rfl) dL_tracks_111 rfl ?_
        refine l_iload cx (pc2 := 115) 4 rfl dL_tracks_113 rfl ?_
        refine l_iload cx (pc2 := 117) 9 rfl dL_tracks_115 rfl ?_
        refine l_if_ne cx (pc2 := 120) (tgt := 124) ⟨by decide, by decide⟩ dL_tracks_117 (by decide) rfl (fun h_6 => ?_) (fun h_6 => ?_)
        · skip
          omega
        · skip
          refine l_iconst cx (pc2 := 121) dL_tracks_120 rfl ?_
          refine l_goto cx (tgt := 125) dL_tracks_121 (by decide) ?_
          refine l_ior cx (pc2 := 126) dL_tracks_125 rfl ?_
          refine l_rwi (y := iI 1) ((or_b hTl).1) ?_
          refine l_istore cx (pc2 := 128) (lv2 := [(0, .ref (P.2.1 0)), (1, .ref b), (2, .int (iI nh)), (3, .ref aw), (4, .int (iI 1)), (5, .int (iI t)), (6, .int (iI x)), (7, .int (iI h)), (8, .int (iI w)), (9, .int (iI 0))]) rfl (Nat.le_of_ble_eq_true rfl) dL_tracks_126 rfl ?_
          refine l_aload_n cx (pc2 := 129) 0 rfl dL_tracks_128 rfl ?_
          refine l_iload cx (pc2 := 131) 7 rfl dL_tracks_129 rfl ?_
          refine l_iload cx (pc2 := 133) 8 rfl dL_tracks_131 rfl ?_
          refine l_ctI cx (pc2 := 136) (st := []) ys hn (M := M) (As := [.int (iI h), .int (iI w)]) (c_trkL (M := M) hn hT (by omega) hnh hh hw) wM_X11_track wV_X11_track rfl kl_L_172 ⟨rfl, rfl, Nat.le_of_ble_eq_true rfl, Nat.le_of_ble_eq_true rfl⟩ (Nat.le_of_ble_eq_true rfl) ⟨Nat.le_of_ble_eq_true rfl, Nat.le_of_ble_eq_true rfl⟩ rfl rfl rfl dL_tracks_133 rfl ?_
          refine l_iload cx (pc2 := 138) 5 rfl dL_tracks_136 rfl ?_
          refine l_icmp_ne cx (pc2 := 141) (tgt := 160) ⟨(by first | assumption | omega | exact ⟨by omega, by omega⟩), (by first | assumption | omega | exact ⟨by omega, by omega⟩)⟩ dL_tracks_138 (by decide) rfl (fun h_7 => ?_) (fun h_7 => ?_)
          · skip
            clear hmay; omega
          · skip
            refine l_aload_n cx (pc2 := 142) 0 rfl dL_tracks_141 rfl ?_
            refine l_ctI cx (pc2 := 145) (st := []) ys hn (M := (trN M h w)) (As := []) (c_X11_liar (M := (trN M h w)) hn hA.2.2.1.1) wM_X11_liar wV_X11_liar rfl kl_L_175 ⟨rfl, rfl, Nat.le_of_ble_eq_true rfl, Nat.le_of_ble_eq_true rfl⟩ (Nat.le_of_ble_eq_true rfl) ⟨Nat.le_of_ble_eq_true rfl, Nat.le_of_ble_eq_true rfl⟩ rfl rfl rfl dL_tracks_142 rfl ?_
            refine l_bipush cx (pc2 := 147) ⟨by decide, by decide⟩ dL_tracks_145 rfl ?_
            refine l_icmp_ne cx (pc2 := 150) (tgt := 154) ⟨(by first | exact hA.2.2.2.2 | exact ⟨by decide, by decide⟩), ⟨by decide, by decide⟩⟩ dL_tracks_147 (by decide) rfl (fun h_8 => ?_) (fun h_8 => ?_)
            · skip
              refine l_iconst cx (pc2 := 155) dL_tracks_154 rfl ?_
              refine l_iload cx (pc2 := 157) 4 rfl dL_tracks_155 rfl ?_
              refine l_icmp_ne cx (pc2 := 160) (tgt := 162) ⟨⟨by decide, by decide⟩, ⟨by decide, by decide⟩⟩ dL_tracks_157 (by decide) rfl (fun h_9 => ?_) (fun h_9 => ?_)
              · skip
                refine l_iconst cx (pc2 := 163) dL_tracks_162 rfl ?_
                refine l_istore cx (pc2 := 165) (lv2 := [(0, .ref (P.2.1 0)), (1, .ref b), (2, .int (iI nh)), (3, .ref aw), (4, .int (iI 1)), (5, .int (iI t)), (6, .int (iI x)), (7, .int (iI h)), (8, .int (iI w)), (9, .int (iI 0)), (10, .int (iI 0))]) rfl (Nat.le_of_ble_eq_true rfl) dL_tracks_163 rfl ?_
                refine l_sub (lv2 := [(0, .ref (P.2.1 0)), (1, .ref b), (2, .int (iI nh)), (3, .ref aw), (4, .int (iI 1)), (5, .int (iI t)), (7, .int (iI h)), (8, .int (iI w)), (9, .int (iI 0)), (10, .int (iI 0))]) [0, 1, 2, 3, 4, 5, 7, 8, 9, 10] rfl ?_
                exact tracks_I hn nh hnh cx ys sx qx hT hA.2.2.1.1 (by omega) hh hw (by first | exact fun _ => (by assumption) | exact fun q => absurd rfl q) (by decide) (fun F2 hF2 => hN _ hA.2.2.1 F2 hF2) _ F 0 (by omega) (fun j => ⟨fun h1 => by omega, fun h1 h2 => hF j h2⟩) (Nat.le_refl _)
              · skip
                have hq := hA.2.2.2.1; clear hmay; omega
            · skip
              refine l_iconst cx (pc2 := 151) dL_tracks_150 rfl ?_
              refine l_goto cx (tgt := 155) dL_tracks_151 (by decide) ?_
              refine l_iload cx (pc2 := 157) 4 rfl dL_tracks_155 rfl ?_
              refine l_icmp_ne cx (pc2 := 160) (tgt := 162) ⟨⟨by decide, by decide⟩, ⟨by decide, by decide⟩⟩ dL_tracks_157 (by decide) rfl (fun h_10 => ?_) (fun h_10 => ?_)
              · skip
                omega
              · skip
                have hq := hA.2.2.2.1; clear hmay; omega
      · skip
        have hmay : agP M h w t.toNat := (may_iff hT hh hw).mp (Classical.byContradiction fun q => by rw [if_neg q] at h_5; exact absurd h_5 (by decide))
        have hA := hT.add (by omega) hnh hh hw (Or.inl ⟨hmay, rfl⟩)
        refine l_iconst cx (pc2 := 107) dL_tracks_106 rfl ?_
        refine l_goto cx (tgt := 111) dL_tracks_107 (by decide) ?_
        refine l_istore cx (pc2 := 113) (lv2 := [(0, .ref (P.2.1 0)), (1, .ref b), (2, .int (iI nh)), (3, .ref aw), (4, .int (iI li)), (5, .int (iI t)), (6, .int (iI x)), (7, .int (iI h)), (8, .int (iI w)), (9, .int (iI 1))]) rfl (Nat.le_of_ble_eq_true rfl) dL_tracks_111 rfl ?_
        refine l_iload cx (pc2 := 115) 4 rfl dL_tracks_113 rfl ?_
        refine l_iload cx (pc2 := 117) 9 rfl dL_tracks_115 rfl ?_
        refine l_if_ne cx (pc2 := 120) (tgt := 124) ⟨by decide, by decide⟩ dL_tracks_117 (by decide) rfl (fun h_11 => ?_) (fun h_11 => ?_)
        · skip
          refine l_iconst cx (pc2 := 125) dL_tracks_124 rfl ?_
          refine l_ior cx (pc2 := 126) dL_tracks_125 rfl ?_
          refine l_rwi (y := iI li) ((or_b hTl).2) ?_
          refine l_istore cx (pc2 := 128) (lv2 := [(0, .ref (P.2.1 0)), (1, .ref b), (2, .int (iI nh)), (3, .ref aw), (4, .int (iI li)), (5, .int (iI t)), (6, .int (iI x)), (7, .int (iI h)), (8, .int (iI w)), (9, .int (iI 1))]) rfl (Nat.le_of_ble_eq_true rfl) dL_tracks_126 rfl ?_
          refine l_aload_n cx (pc2 := 129) 0 rfl dL_tracks_128 rfl ?_
          refine l_iload cx (pc2 := 131) 7 rfl dL_tracks_129 rfl ?_
          refine l_iload cx (pc2 := 133) 8 rfl dL_tracks_131 rfl ?_
          refine l_ctI cx (pc2 := 136) (st := []) ys hn (M := M) (As := [.int (iI h), .int (iI w)]) (c_trkL (M := M) hn hT (by omega) hnh hh hw) wM_X11_track wV_X11_track rfl kl_L_172 ⟨rfl, rfl, Nat.le_of_ble_eq_true rfl, Nat.le_of_ble_eq_true rfl⟩ (Nat.le_of_ble_eq_true rfl) ⟨Nat.le_of_ble_eq_true rfl, Nat.le_of_ble_eq_true rfl⟩ rfl rfl rfl dL_tracks_133 rfl ?_
          refine l_iload cx (pc2 := 138) 5 rfl dL_tracks_136 rfl ?_
          refine l_icmp_ne cx (pc2 := 141) (tgt := 160) ⟨(by first | assumption | omega | exact ⟨by omega, by omega⟩), (by first | assumption | omega | exact ⟨by omega, by omega⟩)⟩ dL_tracks_138 (by decide) rfl (fun h_12 => ?_) (fun h_12 => ?_)
          · skip
            clear hmay; omega
          · skip
            refine l_aload_n cx (pc2 := 142) 0 rfl dL_tracks_141 rfl ?_
            refine l_ctI cx (pc2 := 145) (st := []) ys hn (M := (trN M h w)) (As := []) (c_X11_liar (M := (trN M h w)) hn hA.2.2.1.1) wM_X11_liar wV_X11_liar rfl kl_L_175 ⟨rfl, rfl, Nat.le_of_ble_eq_true rfl, Nat.le_of_ble_eq_true rfl⟩ (Nat.le_of_ble_eq_true rfl) ⟨Nat.le_of_ble_eq_true rfl, Nat.le_of_ble_eq_true rfl⟩ rfl rfl rfl dL_tracks_142 rfl ?_
            refine l_bipush cx (pc2 := 147) ⟨by decide, by decide⟩ dL_tracks_145 rfl ?_
            refine l_icmp_ne cx (pc2 := 150) (tgt := 154) ⟨(by first | exact hA.2.2.2.2 | exact ⟨by decide, by decide⟩), ⟨by decide, by decide⟩⟩ dL_tracks_147 (by decide) rfl (fun h_13 => ?_) (fun h_13 => ?_)
            · skip
              refine l_iconst cx (pc2 := 155) dL_tracks_154 rfl ?_
              refine l_iload cx (pc2 := 157) 4 rfl dL_tracks_155 rfl ?_
              refine l_icmp_ne cx (pc2 := 160) (tgt := 162) ⟨⟨by decide, by decide⟩, (by first | exact ⟨by decide, by decide⟩ | exact hlr)⟩ dL_tracks_157 (by decide) rfl (fun h_14 => ?_) (fun h_14 => ?_)
              · skip
                refine l_iconst cx (pc2 := 163) dL_tracks_162 rfl ?_
                refine l_istore cx (pc2 := 165) (lv2 := [(0, .ref (P.2.1 0)), (1, .ref b), (2, .int (iI nh)), (3, .ref aw), (4, .int (iI li)), (5, .int (iI t)), (6, .int (iI x)), (7, .int (iI h)), (8, .int (iI w)), (9, .int (iI 1)), (10, .int (iI 0))]) rfl (Nat.le_of_ble_eq_true rfl) dL_tracks_163 rfl ?_
                refine l_sub (lv2 := [(0, .ref (P.2.1 0)), (1, .ref b), (2, .int (iI nh)), (3, .ref aw), (4, .int (iI li)), (5, .int (iI t)), (7, .int (iI h)), (8, .int (iI w)), (9, .int (iI 1)), (10, .int (iI 0))]) [0, 1, 2, 3, 4, 5, 7, 8, 9, 10] rfl ?_
                exact tracks_I hn nh hnh cx ys sx qx hT hA.2.2.1.1 (by omega) hh hw (by first | exact fun _ => (by assumption) | exact fun q => absurd rfl q) (by decide) (fun F2 hF2 => hN _ hA.2.2.1 F2 hF2) _ F 0 (by omega) (fun j => ⟨fun h1 => by omega, fun h1 h2 => hF j h2⟩) (Nat.le_refl _)
              · skip
                have hq := hA.2.2.2.1; clear hmay; omega
            · skip
              refine l_iconst cx (pc2 := 151) dL_tracks_150 rfl ?_
              refine l_goto cx (tgt := 155) dL_tracks_151 (by decide) ?_
              refine l_iload cx (pc2 := 157) 4 rfl dL_tracks_155 rfl ?_
              refine l_icmp_ne cx (pc2 := 160) (tgt := 162) ⟨⟨by decide, by decide⟩, (by first | exact ⟨by decide, by decide⟩ | exact hlr)⟩ dL_tracks_157 (by decide) rfl (fun h_15 => ?_) (fun h_15 => ?_)
              · skip
                refine l_iconst cx (pc2 := 163) dL_tracks_162 rfl ?_
                refine l_istore cx (pc2 := 165) (lv2 := [(0, .ref (P.2.1 0)), (1, .ref b), (2, .int (iI nh)), (3, .ref aw), (4, .int (iI li)), (5, .int (iI t)), (6, .int (iI x)), (7, .int (iI h)), (8, .int (iI w)), (9, .int (iI 1)), (10, .int (iI 0))]) rfl (Nat.le_of_ble_eq_true rfl) dL_tracks_163 rfl ?_
                refine l_sub (lv2 := [(0, .ref (P.2.1 0)), (1, .ref b), (2, .int (iI nh)), (3, .ref aw), (4, .int (iI li)), (5, .int (iI t)), (7, .int (iI h)), (8, .int (iI w)), (9, .int (iI 1)), (10, .int (iI 0))]) [0, 1, 2, 3, 4, 5, 7, 8, 9, 10] rfl ?_
                exact tracks_I hn nh hnh cx ys sx qx hT hA.2.2.1.1 (by omega) hh hw (by first | exact fun _ => (by assumption) | exact fun q => absurd rfl q) (by decide) (fun F2 hF2 => hN _ hA.2.2.1 F2 hF2) _ F 0 (by omega) (fun j => ⟨fun h1 => by omega, fun h1 h2 => hF j h2⟩) (Nat.le_refl _)
              · skip
                have hq := hA.2.2.2.1; clear hmay; omega
        · skip
          omega
set_option maxHeartbeats 4000000 in
set_option maxRecDepth 100000 in
theorem tracks_L {P : Pl} {b L : Nat} {xs : Nat → Int32} {n : Nat} (hn : NN n) {M0 : Mm} {R : va_W} (nh : Int) (hnh : 1 ≤ nh ∧ nh ≤ 5) {aw : Nat} {X : Yq} (cx : Yx X cL_tracks RL ({ frames := 6, cells := 1, slots := 28, locals := 135 } : Room) 12 P) (ys : Ys X P) (sx : Sy X b L xs) (qx : Yr X (wld P n M0 ++ R) 1 28 (qB) (some .boolean)) (hT : TI M0 nh 0 0) : ∀ (fu : Nat) (F : Nat → Int) (i : Int), (0 ≤ i ∧ i ≤ 28) → (∀ j : Nat, (j : Int) < i → F j = couA M0 (j : Int)) → ((28 - i).toNat) ≤ fu → YG X 8 [(0, .ref (P.2.1 0)), (1, .ref b), (2, .int (iI nh)), (3, .ref aw), (4, .int (iI i))] [] (wld P n M0 ++ (R ++ [ar P aw 28 F])) 1 28 := by
  intro fu
  induction fu using Nat.strongRecOn with
  | _ fu ih =>
    intro F i hi hF hfu
    have hcb := couA_b hT.1 (w := i)
    have hcb27 := couA_b hT.1 (w := 27) (by decide)
    have hc0 := cou_0 hT hnh
    refine l_iload cx (pc2 := 10) 4 rfl dL_tracks_8 rfl ?_
    refine l_bipush cx (pc2 := 12) ⟨by decide, by decide⟩ dL_tracks_10 rfl ?_
    refine l_icmp_ge cx (pc2 := 15) (tgt := 31) ⟨(by first | assumption | omega | exact ⟨by omega, by omega⟩), ⟨by decide, by decide⟩⟩ dL_tracks_12 (by decide) rfl (fun h_1 => ?_) (fun h_1 => ?_)
    · skip
      refine l_aload_n cx (pc2 := 32) 3 rfl dL_tracks_31 rfl ?_
      refine l_iconst cx (pc2 := 33) dL_tracks_32 rfl ?_
      refine l_iaload cx (pc2 := 34) (N := 28) (V := F) (n + R.length) wR_last (by first | assumption | omega | exact ⟨by omega, by omega⟩) (by first | assumption | omega | exact ⟨by omega, by omega⟩) (Nat.le_of_ble_eq_true rfl) dL_tracks_33 rfl ?_
      refine l_rwi (y := iI (F 0)) rfl ?_
      refine l_rwi (y := iI 1) (by rw [hF 0 (by omega)]; exact congrArg iI hc0.1) ?_
      refine l_iconst cx (pc2 := 35) dL_tracks_34 rfl ?_
      refine l_icmp_ne cx (pc2 := 38) (tgt := 50) ⟨⟨by decide, by decide⟩, ⟨by decide, by decide⟩⟩ dL_tracks_35 (by decide) rfl (fun h_2 => ?_) (fun h_2 => ?_)
      · skip
        omega
      · skip
        refine l_aload_n cx (pc2 := 39) 3 rfl dL_tracks_38 rfl ?_
        refine l_bipush cx (pc2 := 41) ⟨by decide, by decide⟩ dL_tracks_39 rfl ?_
        refine l_iaload cx (pc2 := 42) (N := 28) (V := F) (n + R.length) wR_last (by first | assumption | omega | exact ⟨by omega, by omega⟩) (by first | assumption | omega | exact ⟨by omega, by omega⟩) (Nat.le_of_ble_eq_true rfl) dL_tracks_41 rfl ?_
        refine l_rwi (y := iI (F 27)) rfl ?_
        refine l_rwi (y := iI (((2 ^ nh.toNat : Nat) : Int) - 1)) (by rw [hF 27 (by omega)]; exact congrArg iI hc0.2) ?_
        refine l_iconst cx (pc2 := 43) dL_tracks_42 rfl ?_
        refine l_iload_n cx (pc2 := 44) 2 rfl dL_tracks_43 rfl ?_
        refine l_ishl cx (pc2 := 45) dL_tracks_44 rfl ?_
        refine l_rwi (y := iI ((2 ^ nh.toNat : Nat) : Int)) (sh1 (by omega) (by omega)) ?_
        refine l_iconst cx (pc2 := 46) dL_tracks_45 rfl ?_
        refine l_isub cx (pc2 := 47) dL_tracks_46 rfl ?_
        refine l_icmp_eq cx (pc2 := 50) (tgt := 52) ⟨(by have := hc0.2; exact ⟨by omega, by omega⟩), (by have := hc0.2; exact ⟨by omega, by omega⟩)⟩ dL_tracks_47 (by decide) rfl (fun h_3 => ?_) (fun h_3 => ?_)
        · skip
          refine l_iconst cx (pc2 := 53) dL_tracks_52 rfl ?_
          refine l_istore cx (pc2 := 55) (lv2 := [(0, .ref (P.2.1 0)), (1, .ref b), (2, .int (iI nh)), (3, .ref aw), (4, .int (iI 0))]) rfl (Nat.le_of_ble_eq_true rfl) dL_tracks_53 rfl ?_
          refine l_iconst cx (pc2 := 56) dL_tracks_55 rfl ?_
          refine l_istore cx (pc2 := 58) (lv2 := [(0, .ref (P.2.1 0)), (1, .ref b), (2, .int (iI nh)), (3, .ref aw), (4, .int (iI 0)), (5, .int (iI 0))]) rfl (Nat.le_of_ble_eq_true rfl) dL_tracks_56 rfl ?_
          exact tracks_M hn nh hnh cx ys sx qx _ M0 F 0 0 hT (fun j hj => hF j (by omega)) (Nat.le_refl _)
        · skip
          omega
    · skip
      refine l_aload_n cx (pc2 := 16) 3 rfl dL_tracks_15 rfl ?_
      refine l_iload cx (pc2 := 18) 4 rfl dL_tracks_16 rfl ?_
      refine l_aload_n cx (pc2 := 19) 0 rfl dL_tracks_18 rfl ?_
      refine l_iload cx (pc2 := 21) 4 rfl dL_tracks_19 rfl ?_
      refine l_ctI cx (pc2 := 24) (st := [.int (iI i), .ref aw]) ys hn (M := M0) (As := [.int (iI i)]) (c_X11_could (M := M0) hn hT.1 i (by exact ⟨by omega, by omega⟩)) wM_X11_could wV_X11_could rfl kl_L_169 ⟨rfl, rfl, Nat.le_of_ble_eq_true rfl, Nat.le_of_ble_eq_true rfl⟩ (Nat.le_of_ble_eq_true rfl) ⟨Nat.le_of_ble_eq_true rfl, Nat.le_of_ble_eq_true rfl⟩ rfl rfl rfl dL_tracks_21 rfl ?_
      refine l_iastore cx (pc2 := 25) (N := 28) (V := F) (n + R.length) wR_last (by first | assumption | omega | exact ⟨by omega, by omega⟩) (by first | assumption | omega | exact ⟨by omega, by omega⟩) (Nat.le_of_ble_eq_true rfl) dL_tracks_24 rfl ?_
      refine l_W (w2 := (wld P n M0 ++ (R ++ [ar P aw 28 (uM F (i).toNat (couA M0 i))]))) wR_lset ?_
      refine l_iinc cx (pc2 := 28) 4 rfl (lv2 := [(0, .ref (P.2.1 0)), (1, .ref b), (2, .int (iI nh)), (3, .ref aw), (4, .int (iI (i + 1)))]) rfl (Nat.le_of_ble_eq_true rfl) dL_tracks_25 rfl ?_
      refine l_goto cx (tgt := 8) dL_tracks_28 (by decide) ?_
      exact ih _ (by omega) _ (i + 1) (by omega) (fun j hj => by unfold uM; split; (rename_i z; rw [z, Int.toNat_of_nonneg (by omega)]); exact hF j (by omega)) (Nat.le_refl _)
set_option maxHeartbeats 4000000 in
set_option maxRecDepth 100000 in
theorem c_L_tracks {P : Pl} {b L : Nat} {xs : Nat → Int32} {n : Nat} (hn : NN n) {M0 : Mm} {R : va_W} (nh : Int) (hnh : 1 ≤ nh ∧ nh ≤ 5) (hT : TI M0 nh 0 0) : CLW P b L xs yL_tracks cL_tracks 12 (some .boolean) ({ frames := 6, cells := 1, slots := 28, locals := 135 } : Room) 1 28 [.ref (P.2.1 0), .ref b, .int (iI nh)] (wld P n M0 ++ R) (qB) := by
  refine CLW.of (lv0 := [(0, .ref (P.2.1 0)), (1, .ref b), (2, .int (iI nh))]) (by decide +kernel) rfl rfl (Nat.le_of_ble_eq_true rfl) (fun X cx ys sx qx => ?_)
  refine l_bipush cx (pc2 := 2) ⟨by decide, by decide⟩ dL_tracks_0 rfl ?_
  refine l_newi cx (pc2 := 4) (N := 28) rfl (Nat.le_of_ble_eq_true rfl) ⟨Nat.le_of_ble_eq_true rfl, Nat.le_of_ble_eq_true rfl⟩ dL_tracks_2 rfl (fun aw => ?_)
  refine l_W (w2 := wld P n M0 ++ (R ++ [ar P aw 28 (fun _ => 0)])) (List.append_assoc _ _ _) ?_
  refine l_astore_n cx (pc2 := 5) (lv2 := [(0, .ref (P.2.1 0)), (1, .ref b), (2, .int (iI nh)), (3, .ref aw)]) rfl (Nat.le_of_ble_eq_true rfl) dL_tracks_4 rfl ?_
  refine l_iconst cx (pc2 := 6) dL_tracks_5 rfl ?_
  refine l_istore cx (pc2 := 8) (lv2 := [(0, .ref (P.2.1 0)), (1, .ref b), (2, .int (iI nh)), (3, .ref aw), (4, .int (iI 0))]) rfl (Nat.le_of_ble_eq_true rfl) dL_tracks_6 rfl ?_
  exact tracks_L hn nh hnh cx ys sx qx hT _ (fun _ => 0) 0 (by omega) (fun j hj => by omega) (Nat.le_refl _)
