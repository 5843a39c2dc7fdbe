theorem Rl.sp2 {M : Mm} (h : Rl M) (hn : 0 < M 23 3) : sP M = stp M := by
  have hm := h.m
  have hv := h.2.1.2.2.2.2
  have hs : HS M (M 23 5) := by
    rcases hv.2 with q | q
    · exfalso
      omega
    · exact ⟨h.1.st.1, q⟩
  unfold sP stp
  rw [hm.2.2]
  exact h.pl hs
theorem lsr_no {a b : Int} : lsr a b = -9 ↔ a = -9 ∧ b = -9 := by
  unfold lsr
  by_cases h : a = -9 ∨ b = -9
  · rw [if_pos h]
    by_cases q : a = -9
    · rw [if_pos q]
      omega
    · rw [if_neg q]
      omega
  · rw [if_neg h]
    split <;> omega
theorem lsr_9 (a : Int) : lsr a (-9) = a := by
  unfold lsr
  rw [if_pos (Or.inr rfl)]
  split
  · rename_i q
    rw [q]
  · rfl
theorem saF_no {c : Nat → Int} : ∀ {k : Nat}, saF c k = -9 ↔ c 8 = -9 ∧ ∀ j, j < k → c j = -9
  | 0 => ⟨fun h => ⟨h, fun j hj => by omega⟩, fun h => h.1⟩
  | k + 1 => by
    rw [saF, lsr_no, saF_no (k := k)]
    constructor
    · rintro ⟨⟨h1, h2⟩, h3⟩
      refine ⟨h1, fun j hj => ?_⟩
      by_cases q : j = k
      · rw [q]; exact h3
      · exact h2 j (by omega)
    · rintro ⟨h1, h2⟩
      exact ⟨⟨h1, fun j hj => h2 j (by omega)⟩, h2 k (by omega)⟩
theorem anX_iff {F : Nat → Int} {s m : Nat} : ∀ {k : Nat}, anX F s m k = true ↔ ∃ l, l < k ∧ F (81 * s + 9 * m + l) < 1000
  | 0 => by simp [anX]
  | k + 1 => by
    rw [anX, Bool.or_eq_true, anX_iff (k := k), decide_eq_true_iff]
    constructor
    · rintro (⟨l, h1, h2⟩ | h)
      · exact ⟨l, by omega, h2⟩
      · exact ⟨k, by omega, h⟩
    · rintro ⟨l, h1, h2⟩
      by_cases q : l = k
      · right
        rw [q] at h2
        exact h2
      · exact Or.inl ⟨l, by omega, h2⟩
/-- what holds of the reference's mendings, for all sets within w -/
def MF (J : Nat → Nat → Int) (n : Nat) (sp mp : Int) (w : Nat) (F : Nat → Int) : Prop := (∀ t m l : Nat, t < 2 ^ n → m ≤ 8 → l ≤ 8 → ndN t w = 0 → F (81 * t + 9 * m + l) = mvX J n sp mp F t m l) ∧ ∀ t m l : Nat, t < 2 ^ n → m ≤ 8 → l ≤ 8 → exV (F (81 * t + 9 * m + l))
theorem MJ.mf {J : Nat → Nat → Int} {n : Nat} {sp mp : Int} {w : Nat} {F : Nat → Int} (h : MJ J n sp mp w F (2 ^ n) 0) : MF J n sp mp w F :=
  ⟨fun t m l ht hm hl hw => by rw [h.1 t m l ht hm hl, if_pos ⟨Or.inl ht, hw⟩], fun t m l ht hm hl => h.2 _ (by omega)⟩
theorem MF.lo {J : Nat → Nat → Int} {n : Nat} {sp mp : Int} {w : Nat} {F : Nat → Int} (h : MF J n sp mp w F) {t m l : Nat} (ht : t < 2 ^ n) (hm : m ≤ 8) (hl : l < 8) (hw : ndN t w = 0) : F (81 * t + 9 * m + l) = if l < n ∧ t.testBit l = true then mlF J sp mp F (ndN t (2 ^ l)) m l 9 else 1000 := by
  rw [h.1 t m l ht hm (by omega) hw]
  unfold mvX
  by_cases q : t = 0 ∧ m = 0
  · rw [if_pos q, if_neg (by omega), if_neg]
    rintro ⟨_, z⟩
    rw [q.1, Nat.zero_testBit] at z
    exact absurd z (by decide)
  · rw [if_neg q, if_pos hl]
theorem MF.z {J : Nat → Nat → Int} {n : Nat} {sp mp : Int} {w : Nat} {F : Nat → Int} (h : MF J n sp mp w F) {t m l : Nat} (ht : t < 2 ^ n) (hm : m ≤ 8) (hl : l < 8) (hw : ndN t w = 0) (hlt : F (81 * t + 9 * m + l) < 1000) : l < n ∧ t.testBit l = true := by
  rw [h.lo ht hm hl hw] at hlt
  by_cases q : l < n ∧ t.testBit l = true
  · exact q
  · rw [if_neg q] at hlt
    omega
theorem lsF_M {T : Mm} {J : Nat → Nat → Int} {n : Nat} (hJ : JE T J n) {sp mp tp : Int} {F : Nat → Int} {r m i : Nat} (hs : 0 ≤ sp ∧ sp ≤ 15) (hmp : 0 ≤ mp ∧ mp ≤ 15) (hi : i < n) (htp : tp = if m = 0 then sp else mp) (hF : ∀ c, c ≤ 8 → exV (F (81 * r + 9 * m + c))) (hz : ∀ c, c < 8 → F (81 * r + 9 * m + c) < 1000 → c < n) (hT : ∀ c, c ≤ 8 → T 58 (9 * r + c) = e9 (F (81 * r + 9 * m + c))) : ∀ k, k ≤ 9 → lsF T (r : Int) (i : Int) tp k = e9 (mlF J sp mp F r m i k) ∧ exV (mlF J sp mp F r m i k)
  | 0, _ => ⟨rfl, Or.inl rfl⟩
  | k + 1, hk => by
    have ih := lsF_M hJ hs hmp hi htp hF hz hT k (by omega)
    have hFk := hF k (by omega)
    have h8 := hJ.1.2.1
    rw [lsF, mlF, show ((r : Int) * 9 + (k : Int)).toNat = 9 * r + k by omega, hT k (by omega)]
    by_cases q : F (81 * r + 9 * m + k) < 1000
    · have hp : pcol T tp (k : Int) = hbX J sp mp m k := by
        by_cases z : k < 8
        · rw [hJ.pc (hz k z q)]
          unfold hbX
          rw [if_pos z]
        · rw [show k = 8 by omega, pcol_8]
          unfold hbX
          rw [if_neg (by decide)]
          exact htp
      have hb := hbX_b hJ.1.2.2 hs hmp m k
      rw [if_neg (by rw [e9_no hFk]; exact not_not_intro q), if_pos q, e9_lt hFk q, hp, (hJ.2 i hi).1, ih.1, ← exB_9 hJ.1.2.2 (by omega) hb (by omega : 0 ≤ F (81 * r + 9 * m + k))]
      have hx := exB_v hJ.1.2.2 (i := i) (by omega) hb (f := F (81 * r + 9 * m + k)) (by omega)
      exact ⟨e9_lsr ih.2 hx, by omega⟩
    · rw [if_pos ((e9_no hFk).mpr q), if_neg q]
      refine ⟨?_, by omega⟩
      rw [ih.1, show min (mlF J sp mp F r m i k) 1000 = mlF J sp mp F r m i k by omega]
/-- a level of mendings, by its last column -/
theorem mm_row {V : Mm} {J : Nat → Nat → Int} {n : Nat} (hJ : JE V J n) {w sp mp tp : Int} {F : Nat → Int} {m : Nat} (hm : m ≤ 8) (hs : 0 ≤ sp ∧ sp ≤ 15) (hmp : 0 ≤ mp ∧ mp ≤ 15) (htp : tp = if m = 0 then sp else mp) (hF : MF J n sp mp w.toNat F) (h8 : ∀ t, t < 2 ^ n → ndN t w.toNat = 0 → V 58 (9 * t + 8) = e9 (F (81 * t + 9 * m + 8))) : ∀ t, t < 2 ^ n → ndN t w.toNat = 0 → (∀ c, c ≤ 8 → spM V w tp 58 (9 * t + c) = e9 (F (81 * t + 9 * m + c))) ∧ (spM V w tp 59 t = -9 ↔ ¬ anX F t m 9 = true) := by
  intro t
  induction t using Nat.strongRecOn with
  | _ t ih =>
    intro ht hw
    have hn8 := hJ.1.2.1
    have hp := p2_256 hn8
    have row := spM_row V w tp (s := t) (by omega)
    have hJT : JE (spM V w tp) J n := hJ.of (fun a h1 h2 => spM_off V w tp (by omega) (by omega))
    have hc : ∀ c, c ≤ 8 → spM V w tp 58 (9 * t + c) = e9 (F (81 * t + 9 * m + c)) := by
      intro c hc
      by_cases z : c = 8
      · rw [z, row.2.2, h8 t ht hw]
      · rw [(row.1 hw).1 c (by omega), hF.lo ht hm (by omega) hw]
        unfold cvS inS
        rw [Int.toNat_natCast, Int.toNat_natCast, bitN_in ⟨by omega, by omega⟩, Int.toNat_natCast]
        by_cases q : t.testBit c = true
        · have hcn : c < n := by
            by_cases y : c < n
            · exact y
            · rw [Nat.testBit_lt_two_pow (Nat.lt_of_lt_of_le ht (Nat.pow_le_pow_right (by decide) (by omega)))] at q
              exact absurd q (by decide)
          rw [if_pos ⟨by omega, by omega, q⟩, if_pos ⟨hcn, q⟩]
          have hr := ndN_lt q
          have hrw := ndN_sub (i := c) hw
          have ihr := ih _ hr (by omega) hrw
          generalize ndN t (2 ^ c) = r at *
          exact (lsF_M hJT hs hmp hcn htp (fun c hc => hF.2 r m c (by omega) hm hc) (fun c hc hl => (hF.z (by omega) hm hc hrw hl).1) ihr.1 9 (Nat.le_refl 9)).1
        · rw [if_neg (fun z => q z.2.2), if_neg (fun z => q z.2)]
          rfl
    refine ⟨hc, ?_⟩
    rw [(row.1 hw).2, saF_no, anX_iff]
    constructor
    · rintro ⟨h1, h2⟩ ⟨l, h3, h4⟩
      have : spM V w tp 58 (9 * t + l) = -9 := by
        by_cases z : l = 8
        · rw [z]; exact h1
        · exact h2 l (by omega)
      rw [hc l (by omega), e9_no (hF.2 t m l ht hm (by omega))] at this
      exact this h4
    · intro h
      have k : ∀ l, l ≤ 8 → spM V w tp 58 (9 * t + l) = -9 := fun l hl => by
        rw [hc l hl, e9_no (hF.2 t m l ht hm hl)]
        exact fun z => h ⟨l, by omega, z⟩
      exact ⟨k 8 (by decide), fun j hj => k j (by omega)⟩
theorem moF_M {T : Mm} {J : Nat → Nat → Int} {n : Nat} (hJ : JE T J n) {sp mp tp : Int} {F : Nat → Int} {t m : Nat} (hs : 0 ≤ sp ∧ sp ≤ 15) (hmp : 0 ≤ mp ∧ mp ≤ 15) (htp : tp = if m = 0 then sp else mp) (hF : ∀ c, c ≤ 8 → exV (F (81 * t + 9 * m + c))) (hz : ∀ c, c < 8 → F (81 * t + 9 * m + c) < 1000 → c < n) (hT : ∀ c, c ≤ 8 → T 58 (9 * t + c) = e9 (F (81 * t + 9 * m + c))) : ∀ k, k ≤ 9 → moF T mp tp (t : Int) k = e9 (mdF J sp mp F t (m + 1) k) ∧ exV (mdF J sp mp F t (m + 1) k)
  | 0, _ => ⟨rfl, Or.inl rfl⟩
  | k + 1, hk => by
    have ih := moF_M hJ hs hmp htp hF hz hT k (by omega)
    have hFk := hF k (by omega)
    rw [moF, mdF, show ((t : Int) * 9 + (k : Int)).toNat = 9 * t + k by omega, hT k (by omega)]
    by_cases q : F (81 * t + 9 * m + k) < 1000
    · have hp : pcol T tp (k : Int) = hbX J sp mp m k := by
        by_cases z : k < 8
        · rw [hJ.pc (hz k z q)]
          unfold hbX
          rw [if_pos z]
        · rw [show k = 8 by omega, pcol_8]
          unfold hbX
          rw [if_neg (by decide)]
          exact htp
      have hb := wap_b (hbX_b hJ.1.2.2 hs hmp m k) hmp
      have hv : mtV J sp mp F t (m + 1) k = F (81 * t + 9 * m + k) + wap (hbX J sp mp m k) mp + 1 := by
        unfold mtV
        rw [show m + 1 - 1 = m by omega, if_pos q]
      rw [if_neg (by rw [e9_no hFk]; exact not_not_intro q), hv, ih.1]
      unfold mo1
      rw [show ((t : Int) * 9 + (k : Int)).toNat = 9 * t + k by omega, hT k (by omega), e9_lt hFk q, hp]
      by_cases y : F (81 * t + 9 * m + k) + wap (hbX J sp mp m k) mp + 1 ≤ 28
      · rw [if_pos y, if_pos y]
        have hx : exV (F (81 * t + 9 * m + k) + wap (hbX J sp mp m k) mp + 1) := Or.inr ⟨by omega, y⟩
        have := e9_lsr ih.2 hx
        rw [e9_v (a := F (81 * t + 9 * m + k) + wap (hbX J sp mp m k) mp + 1) (by omega)] at this
        exact ⟨this, by omega⟩
      · rw [if_neg y, if_neg y, lsr_9]
        exact ⟨rfl, ih.2⟩
    · have hv : mtV J sp mp F t (m + 1) k = 1000 := by
        unfold mtV
        rw [show m + 1 - 1 = m by omega, if_neg q]
      rw [if_pos ((e9_no hFk).mpr q), hv, if_neg (by decide)]
      exact ih
theorem mdF_no {J : Nat → Nat → Int} {sp mp : Int} {F : Nat → Int} {t m : Nat} (h : ∀ c, c < 9 → ¬ F (81 * t + 9 * m + c) < 1000) : ∀ k, k ≤ 9 → mdF J sp mp F t (m + 1) k = 1000
  | 0, _ => rfl
  | k + 1, hk => by
    have hv : mtV J sp mp F t (m + 1) k = 1000 := by
      unfold mtV
      rw [show m + 1 - 1 = m by omega, if_neg (h k (by omega))]
    rw [mdF, hv, if_neg (by decide), mdF_no h k (by omega)]
/-- the tables of mendings of both sides -/
theorem mm_eq {U : Mm} {J : Nat → Nat → Int} {n : Nat} (hJ : JE U J n) {w sp mp : Int} {F : Nat → Int} (hs : 0 ≤ sp ∧ sp ≤ 15) (hmp : 0 ≤ mp ∧ mp ≤ 15) (hF : MF J n sp mp w.toNat F) : ∀ m, m ≤ 8 → ∀ t, t < 2 ^ n → ndN t w.toNat = 0 → (∀ c, c ≤ 8 → mmS U w sp mp m 58 (9 * t + c) = e9 (F (81 * t + 9 * m + c))) ∧ (mmS U w sp mp m 59 t = -9 ↔ ¬ anX F t m 9 = true)
  | 0, _ => by
    intro t ht hw
    have h := mm_row (V := rcP U 0 256) (m := 0) (tp := sp) (hJ.of (fun a h1 h2 => rcP_off U 0 256 (by omega))) (by decide) hs hmp rfl hF (fun t ht hw => by
      rw [hF.1 t 0 8 ht (by decide) (by decide) hw]
      have hp := p2_256 hJ.1.2.1
      unfold rcP mvX
      rw [if_pos ⟨rfl, by omega, by omega⟩]
      by_cases q : t = 0
      · rw [if_pos (by omega), if_pos ⟨q, rfl⟩, if_pos rfl]
        rfl
      · rw [if_neg (by omega), if_neg (fun z => q z.1), if_neg (by decide), if_pos rfl]
        rfl) t ht hw
    exact h
  | m + 1, hm => by
    intro t ht hw
    have ih := mm_eq hJ hs hmp hF m (by omega)
    have hJT : JE (mmS U w sp mp m) J n := hJ.of (fun a h1 h2 => mmS_off U w sp mp (by omega) (by omega) m)
    have h := mm_row (V := moM (mmS U w sp mp m) mp (if m = 0 then sp else mp)) (m := m + 1) (tp := mp) (hJT.of (fun a h1 h2 => moP_off _ _ _ _ (by omega))) hm hs hmp (by rw [if_neg (by omega)]) hF (fun t ht hw => by
      have iht := ih t ht hw
      have hp := p2_256 hJ.1.2.1
      have e : F (81 * t + 9 * (m + 1) + 8) = mdF J sp mp F t (m + 1) 9 := by
        rw [hF.1 t (m + 1) 8 ht hm (by decide) hw]
        unfold mvX
        rw [if_neg (by omega), if_neg (by decide), if_neg (by omega)]
      rw [e]
      unfold moM moP
      rw [if_pos ⟨rfl, by omega, by omega⟩, show (9 * t + 8) / 9 = t by omega]
      unfold moE
      rw [Int.toNat_natCast]
      by_cases q : mmS U w sp mp m 59 t = -9
      · rw [if_pos q]
        have hno := iht.2.mp q
        rw [mdF_no (fun c hc z => hno (anX_iff.mpr ⟨c, hc, z⟩)) 9 (Nat.le_refl 9)]
        rfl
      · rw [if_neg q]
        exact (moF_M hJT hs hmp rfl (fun c hc => hF.2 t m c ht (by omega) hc) (fun c hc hl => (hF.z ht (by omega) hc hw hl).1) iht.1 9 (Nat.le_refl 9)).1) t ht hw
    exact h
theorem mlF_le {J : Nat → Nat → Int} {sp mp : Int} {F : Nat → Int} {r m i : Nat} : ∀ {k c : Nat}, c < k → F (81 * r + 9 * m + c) < 1000 → mlF J sp mp F r m i k ≤ exB J i (hbX J sp mp m c) (F (81 * r + 9 * m + c))
  | 0, c, h, _ => by omega
  | k + 1, c, h, hl => by
    rw [mlF]
    by_cases q : c = k
    · rw [← q, if_pos hl]
      omega
    · have := mlF_le (J := J) (sp := sp) (mp := mp) (F := F) (r := r) (m := m) (i := i) (k := k) (c := c) (by omega) hl
      omega
theorem mlF_ex {J : Nat → Nat → Int} {sp mp : Int} {F : Nat → Int} {r m i : Nat} : ∀ {k : Nat}, mlF J sp mp F r m i k < 1000 → ∃ c, c < k ∧ F (81 * r + 9 * m + c) < 1000 ∧ mlF J sp mp F r m i k = exB J i (hbX J sp mp m c) (F (81 * r + 9 * m + c))
  | 0, h => by
    have : mlF J sp mp F r m i 0 = 1000 := rfl
    omega
  | k + 1, h => by
    rw [mlF] at h ⊢
    by_cases q : F (81 * r + 9 * m + k) < 1000
    · rw [if_pos q] at h ⊢
      by_cases y : mlF J sp mp F r m i k ≤ exB J i (hbX J sp mp m k) (F (81 * r + 9 * m + k))
      · rw [show min (mlF J sp mp F r m i k) (exB J i (hbX J sp mp m k) (F (81 * r + 9 * m + k))) = mlF J sp mp F r m i k by omega] at h ⊢
        obtain ⟨c, h1, h2, h3⟩ := mlF_ex h
        exact ⟨c, by omega, h2, h3⟩
      · exact ⟨k, by omega, q, by omega⟩
    · rw [if_neg q] at h ⊢
      rw [show min (mlF J sp mp F r m i k) 1000 = mlF J sp mp F r m i k by omega] at h ⊢
      obtain ⟨c, h1, h2, h3⟩ := mlF_ex h
      exact ⟨c, by omega, h2, h3⟩
theorem mdF_ex {J : Nat → Nat → Int} {sp mp : Int} {F : Nat → Int} {t m : Nat} : ∀ {k : Nat}, mdF J sp mp F t (m + 1) k < 1000 → ∃ c, c < k ∧ F (81 * t + 9 * m + c) < 1000 ∧ mdF J sp mp F t (m + 1) k = F (81 * t + 9 * m + c) + wap (hbX J sp mp m c) mp + 1
  | 0, h => by
    have : mdF J sp mp F t (m + 1) 0 = 1000 := rfl
    omega
  | k + 1, h => by
    rw [mdF] at h ⊢
    by_cases q : F (81 * t + 9 * m + k) < 1000
    · have hv : mtV J sp mp F t (m + 1) k = F (81 * t + 9 * m + k) + wap (hbX J sp mp m k) mp + 1 := by
        unfold mtV
        rw [show m + 1 - 1 = m by omega, if_pos q]
      rw [hv] at h ⊢
      by_cases y : F (81 * t + 9 * m + k) + wap (hbX J sp mp m k) mp + 1 ≤ 28
      · rw [if_pos y] at h ⊢
        by_cases y2 : mdF J sp mp F t (m + 1) k ≤ F (81 * t + 9 * m + k) + wap (hbX J sp mp m k) mp + 1
        · rw [show min (mdF J sp mp F t (m + 1) k) (F (81 * t + 9 * m + k) + wap (hbX J sp mp m k) mp + 1) = mdF J sp mp F t (m + 1) k by omega] at h ⊢
          obtain ⟨c, h1, h2, h3⟩ := mdF_ex h
          exact ⟨c, by omega, h2, h3⟩
        · exact ⟨k, by omega, q, by omega⟩
      · rw [if_neg y] at h ⊢
        obtain ⟨c, h1, h2, h3⟩ := mdF_ex h
        exact ⟨c, by omega, h2, h3⟩
    · have hv : mtV J sp mp F t (m + 1) k = 1000 := by
        unfold mtV
        rw [show m + 1 - 1 = m by omega, if_neg q]
      rw [hv, if_neg (by decide)] at h ⊢
      obtain ⟨c, h1, h2, h3⟩ := mdF_ex h
      exact ⟨c, by omega, h2, h3⟩
theorem wap_tri (x y z : Int) : wap x z ≤ wap x y + wap y z + 1 := by
  unfold wap
  (repeat' split) <;> omega
/-- who is free earlier, and no farther off, ends no later -/
theorem exB_mono {J : Nat → Nat → Int} (hJ : JOK J) {i : Nat} (hi : i < 8) {p q f g : Int} (hp : 0 ≤ p ∧ p ≤ 15) (hq : 0 ≤ q ∧ q ≤ 15) (hg : 0 ≤ g) (hf : 0 ≤ f) (h : f + wap p (J i 0) ≤ g + wap q (J i 0)) : exB J i p f ≤ exB J i q g := by
  have h1 := enB_b hJ hi hp hf
  have h2 := enB_b hJ hi hq hg
  have j3 := hJ i hi
  unfold exB
  unfold enB bgB at *
  generalize wap p (J i 0) = a at *
  generalize wap q (J i 0) = b at *
  (repeat' split at h1) <;> (repeat' split at h2) <;> (repeat' split) <;> omega
theorem mm_mono {J : Nat → Nat → Int} (hJ : JOK J) {n : Nat} (hn : n ≤ 8) {w : Nat} {sp mp : Int} {F : Nat → Int} (hs : 0 ≤ sp ∧ sp ≤ 15) (hmp : 0 ≤ mp ∧ mp ≤ 15) (hF : MF J n sp mp w F) {m : Nat} (hm : m < 8) : ∀ t, t < 2 ^ n → ndN t w = 0 → ∀ c, c < 8 → F (81 * t + 9 * (m + 1) + c) < 1000 → F (81 * t + 9 * m + c) ≤ F (81 * t + 9 * (m + 1) + c) := by
  intro t
  induction t using Nat.strongRecOn with
  | _ t ih =>
    intro ht hw c hc hl
    have hcz := hF.z ht (by omega) hc hw hl
    rw [hF.lo ht (by omega) hc hw, if_pos hcz] at hl ⊢
    rw [hF.lo ht (by omega) hc hw, if_pos hcz]
    have hr := ndN_lt hcz.2
    have hrw := ndN_sub (i := c) hw
    generalize ndN t (2 ^ c) = r at *
    obtain ⟨d, d1, d2, d3⟩ := mlF_ex hl
    rw [d3] at hl ⊢
    by_cases q : d < 8
    · have i1 := ih r hr (by omega) hrw d q d2
      have le := mlF_le (J := J) (sp := sp) (mp := mp) (F := F) (r := r) (m := m) (i := c) (k := 9) (c := d) d1 (by omega)
      have e : hbX J sp mp m d = hbX J sp mp (m + 1) d := by
        unfold hbX
        rw [if_pos q, if_pos q]
      have x1 := hF.2 r m d (by omega) (by omega) (by omega)
      have mo := exB_mono hJ (i := c) hc (p := hbX J sp mp m d) (q := hbX J sp mp (m + 1) d) (f := F (81 * r + 9 * m + d)) (g := F (81 * r + 9 * (m + 1) + d)) (hbX_b hJ hs hmp m d) (hbX_b hJ hs hmp (m + 1) d) (by omega) (by omega) (by rw [e]; omega)
      omega
    · have e8 : d = 8 := by omega
      subst e8
      have e : F (81 * r + 9 * (m + 1) + 8) = mdF J sp mp F r (m + 1) 9 := by
        rw [hF.1 r (m + 1) 8 (by omega) (by omega) (by decide) hrw]
        unfold mvX
        rw [if_neg (by omega), if_neg (by decide), if_neg (by omega)]
      rw [e] at d2 hl ⊢
      obtain ⟨d5, g1, g2, g3⟩ := mdF_ex d2
      have le := mlF_le (J := J) (sp := sp) (mp := mp) (F := F) (r := r) (m := m) (i := c) (k := 9) (c := d5) g1 g2
      have x1 := hF.2 r m d5 (by omega) (by omega) (by omega)
      have hb5 := hbX_b hJ hs hmp m d5
      have tri := wap_tri (hbX J sp mp m d5) mp (J c 0)
      have wb := wap_b hb5 hmp
      have e2 : hbX J sp mp (m + 1) 8 = mp := by
        unfold hbX
        rw [if_neg (by decide), if_neg (by omega)]
      rw [e2, g3]
      have mo := exB_mono hJ (i := c) hc (p := hbX J sp mp m d5) (q := mp) (f := F (81 * r + 9 * m + d5)) (g := F (81 * r + 9 * m + d5) + wap (hbX J sp mp m d5) mp + 1) hb5 hmp (by omega) (by omega) (by omega)
      omega
theorem mm_down {J : Nat → Nat → Int} (hJ : JOK J) {n : Nat} (hn : n ≤ 8) {w : Nat} {sp mp : Int} {F : Nat → Int} (hs : 0 ≤ sp ∧ sp ≤ 15) (hmp : 0 ≤ mp ∧ mp ≤ 15) (hF : MF J n sp mp w F) {m t : Nat} (hm : m < 8) (ht : t < 2 ^ n) (hw : ndN t w = 0) (h : anX F t (m + 1) 9 = true) : anX F t m 9 = true := by
  rw [anX_iff] at h ⊢
  obtain ⟨l, h1, h2⟩ := h
  by_cases q : l < 8
  · have := mm_mono hJ hn hs hmp hF hm t ht hw l q h2
    exact ⟨l, h1, by omega⟩
  · have e8 : l = 8 := by omega
    subst e8
    have e : F (81 * t + 9 * (m + 1) + 8) = mdF J sp mp F t (m + 1) 9 := by
      rw [hF.1 t (m + 1) 8 ht (by omega) (by decide) hw]
      unfold mvX
      rw [if_neg (by omega), if_neg (by decide), if_neg (by omega)]
    rw [e] at h2
    obtain ⟨c, g1, g2, _⟩ := mdF_ex h2
    exact ⟨c, g1, g2⟩
theorem moX_v {F : Nat → Int} {s : Nat} : ∀ k, (moX F s k = -9 ∧ ∀ m, m < k → ¬ anX F s m 9 = true) ∨ ∃ m : Nat, m < k ∧ moX F s k = (m : Int) ∧ anX F s m 9 = true ∧ ∀ j, m < j → j < k → ¬ anX F s j 9 = true
  | 0 => Or.inl ⟨rfl, fun m hm => by omega⟩
  | k + 1 => by
    rw [moX]
    by_cases q : anX F s k 9 = true
    · rw [if_pos q]
      exact Or.inr ⟨k, by omega, rfl, q, fun j h1 h2 => by omega⟩
    · rw [if_neg q]
      rcases moX_v (F := F) (s := s) k with ⟨h1, h2⟩ | ⟨m, h1, h2, h3, h4⟩
      · refine Or.inl ⟨h1, fun m hm => ?_⟩
        by_cases y : m = k
        · rw [y]; exact q
        · exact h2 m (by omega)
      · refine Or.inr ⟨m, by omega, h2, h3, fun j g1 g2 => ?_⟩
        by_cases y : j = k
        · rw [y]; exact q
        · exact h4 j g1 (by omega)
theorem mm_fin {U : Mm} {J : Nat → Nat → Int} {n : Nat} (hJ : JE U J n) {w sp mp z : Int} {F : Nat → Int} (hs : 0 ≤ sp ∧ sp ≤ 15) (hmp : 0 ≤ mp ∧ mp ≤ 15) (hF : MF J n sp mp w.toNat F) (hw : w.toNat < 2 ^ n) (h : mmR U w sp mp z) : moX F w.toNat 9 = z := by
  have e := fun m hm => (mm_eq hJ hs hmp hF m hm w.toNat hw (ndN_self _)).2
  have down : ∀ m, m < 8 → anX F w.toNat (m + 1) 9 = true → anX F w.toNat m 9 = true := fun m hm => mm_down hJ.1.2.2 hJ.1.2.1 hs hmp hF hm hw (ndN_self _)
  have down2 : ∀ d m, m + d ≤ 8 → anX F w.toNat (m + d) 9 = true → anX F w.toNat m 9 = true := by
    intro d
    induction d with
    | zero => intro m _ h; exact h
    | succ d ih => intro m hm h; exact ih m (by omega) (down (m + d) (by omega) h)
  have down3 : ∀ m k, m ≤ k → k ≤ 8 → anX F w.toNat k 9 = true → anX F w.toNat m 9 = true := fun m k h1 h2 h3 => down2 (k - m) m (by omega) (by rw [show m + (k - m) = k by omega]; exact h3)
  unfold mmR at h
  have v := moX_v (F := F) (s := w.toNat) 9
  rcases h with ⟨hz, h0⟩ | ⟨h1, h2, h3, h4⟩
  · have n0 := (e 0 (by decide)).mp h0
    rcases v with ⟨g1, _⟩ | ⟨m, g1, g2, g3, g4⟩
    · rw [g1, hz]
    · exact absurd (down3 0 m (by omega) (by omega) g3) n0
  · have nz : anX F w.toNat z.toNat 9 = true := by
      have := h3 z.toNat (Nat.le_refl _)
      rw [e z.toNat (by omega)] at this
      exact Classical.not_not.mp this
    rcases v with ⟨_, g2⟩ | ⟨m, g1, g2, g3, g4⟩
    · exact absurd nz (g2 z.toNat (by omega))
    · rw [g2]
      rcases (show m < z.toNat ∨ m = z.toNat ∨ z.toNat < m by omega) with y | y | y
      · exact absurd nz (g4 _ y (by omega))
      · omega
      · exfalso
        have := h4 (by omega)
        rw [e _ (by omega)] at this
        exact this (down3 _ m (by omega) (by omega) g3)
theorem pr_mends {M M1 M2 : Mm} {w x z z2 : Int} (h : Rl M) (hc : menR M w x z M1) (hx : xmeR M1 w x z2 M2) : z2 = z ∧ Rl M2 := by
  have hm := h.m
  have hl := h.1.l
  rcases hc with ⟨c, hz, e⟩ | ⟨c, hR, hf, hP⟩
  · subst e
    rcases hx with ⟨_, hz2, e⟩ | ⟨q, _⟩
    · rw [e, hz, hz2]
      exact ⟨rfl, h⟩
    · exfalso
      have q1 : 0 ≤ w ∧ w ≤ ((allN (M1 77 12) : Nat) : Int) := q.1
      have q2 : 0 ≤ x ∧ x ≤ M1 77 10 - 1 := q.2
      rw [hm.2.1] at q1
      rcases c with c | c
      · exact c q1
      · exact c ⟨q2.1, by omega⟩
  · have k1 : KQ M M1 := KQ.sc (fun a ha => by rw [hf a (by omega) (by omega), ldM_off (by omega)])
    have n12 : M1 77 12 = M 23 4 := by rw [k1.n, hm.2.1]
    have hC : CI M1 := h.1.ld.fr (fun a h1 h2 => hf a (by omega) (by omega)) (JW_of (fun a h1 h2 => hf a (by omega) (by omega)) h.1.ld.j) hP (WW_fr (fun a h1 h2 => hf a (by omega) (by omega)) h.1.ld.w) (CW_fr (fun a h1 h2 => hf a (by omega) (by omega)) h.1.ld.c)
    rcases hx with ⟨q, _⟩ | ⟨_, hg, hz2, hJ⟩
    · exfalso
      rcases q with q | q
      · apply q
        show 0 ≤ w ∧ w ≤ ((allN (M1 77 12) : Nat) : Int)
        rw [n12]
        exact c.1
      · apply q
        show 0 ≤ x ∧ x ≤ M1 77 10 - 1
        rw [k1.s (b := 10) (by decide), hm.1]
        have := c.2.1
        have := c.2.2
        omega
    · rw [k1.jb, n12, k1.sp, h.sp2 (by have := c.2.1; have := c.2.2; omega), k1.r (a := 84) (by decide), h.pl c.2] at hJ
      refine ⟨?_, ?_⟩
      · rw [hz2]
        exact mm_fin h.je h.1.sp (plc_b h.1.pl x) hJ.mf (by rw [← allN_lt]; have := c.1; omega) hR
      · have hU : ∀ a, a ≠ 58 → a ≠ 59 → M1 a = ldM M a := hf
        refine h.kq k1 hC (KQ.x (fun a h1 h2 h3 => hg a (by omega)) (fun b _ => by rw [hg 77 (by decide)])) (fun a h1 h2 => hg a (by omega)) ?_ ?_
        · rw [hg 77 (by decide), hg 0 (by decide), hf 77 (by decide) (by decide), hf 0 (by decide) (by decide), ldM_off (by decide), ldM_off (by decide)]
          exact h.2.2.1.2.2.1.1
        · rw [hg 93 (by decide), hf 93 (by decide) (by decide), ldM_off (by decide)]
          exact h.i93
