/-- the jobs that a memory holds, as a table -/
def JE (U : Mm) (J : Nat → Nat → Int) (n : Nat) : Prop := (U 48 5 = (n : Int) ∧ n ≤ 8 ∧ JOK J) ∧ ∀ i : Nat, i < n → (∀ p f, endJ U (i : Int) p f = enB J i p f) ∧ plJ U (i : Int) = J i 0 ∧ U 53 i = J i 4
theorem Rl.je {M : Mm} (h : Rl M) : JE (ldM M) (jbR M) (M 23 4).toNat := by
  have hl := h.1.l
  refine ⟨⟨?_, by omega, jbR_ok h.2.2.2.1.1.1⟩, fun i hi => ⟨fun p f => (h.en (by omega) p f).symm, h.pj (by omega), (h.jb (by omega)).2.2.2.2.symm⟩⟩
  rw [ldM_5]
  omega
theorem JE.of {U T : Mm} {J : Nat → Nat → Int} {n : Nat} (h : JE U J n) (e : ∀ a, 48 ≤ a → a ≤ 53 → T a = U a) : JE T J n := by
  refine ⟨⟨?_, h.1.2⟩, fun i hi => ⟨fun p f => ?_, ?_, ?_⟩⟩
  · rw [e 48 (by decide) (by decide)]
    exact h.1.1
  · rw [endJ_eq e]
    exact (h.2 i hi).1 p f
  · rw [plJ_eq e]
    exact (h.2 i hi).2.1
  · rw [e 53 (by decide) (by decide)]
    exact (h.2 i hi).2.2
theorem ndN_0 {a b : Nat} : ndN a b = 0 ↔ ∀ k, a.testBit k = true → b.testBit k = true := by
  constructor
  · intro h k hk
    have := ndN_bit a b k
    rw [h, hk] at this
    simpa using this
  · intro h
    apply Nat.eq_of_testBit_eq
    intro k
    rw [ndN_bit]
    cases hk : a.testBit k with
    | false => simp
    | true => rw [h k hk]; simp
theorem ndN_sub {s i w : Nat} (h : ndN s w = 0) : ndN (ndN s (2 ^ i)) w = 0 := by
  rw [ndN_0] at h ⊢
  intro k hk
  rw [ndN_bit] at hk
  exact h k (by simp at hk; exact hk.1)
theorem spI_hi {T : Mm} {s : Nat} {tp : Int} : ∀ {k b : Nat}, (b < 9 * s ∨ 9 * s + k ≤ b) → spI T (s : Int) tp k 58 b = T 58 b
  | 0, _, _ => rfl
  | k + 1, b, h => by rw [spI, stM_ne _ _ (Or.inr (by omega)), spI_hi (k := k) (by omega)]
theorem lsF_cong {T U : Mm} {r : Nat} {i tp : Int} (eJ : ∀ a, 48 ≤ a → a ≤ 53 → T a = U a) : ∀ {c : Nat}, (∀ b, b < 9 * r + c → 9 * r ≤ b → T 58 b = U 58 b) → lsF T (r : Int) i tp c = lsF U (r : Int) i tp c
  | 0, _ => rfl
  | c + 1, h => by
    have e : T 58 ((r : Int) * 9 + (c : Int)).toNat = U 58 ((r : Int) * 9 + (c : Int)).toNat := h _ (by omega) (by omega)
    have e2 : pcol T tp (c : Int) = pcol U tp (c : Int) := by unfold pcol; rw [plJ_eq eJ]
    rw [lsF, lsF, lsF_cong eJ (c := c) (fun b q1 q2 => h b (by omega) q2), e, e2, endJ_eq eJ]
theorem cvS_cong {T U : Mm} {s : Nat} {i tp : Int} (eJ : ∀ a, 48 ≤ a → a ≤ 53 → T a = U a) (h : ∀ b, b < 9 * s → T 58 b = U 58 b) : cvS T (s : Int) tp i = cvS U (s : Int) tp i := by
  unfold cvS
  by_cases q : inS i (s : Int)
  · rw [if_pos q, if_pos q]
    have hl : ndN (s : Int).toNat (bitN i) < s := by
      rw [bitN_in ⟨q.1, q.2.1⟩, Int.toNat_natCast]
      exact ndN_lt (by have := q.2.2; rw [Int.toNat_natCast] at this; exact this)
    unfold lsE
    exact lsF_cong eJ (fun b q1 q2 => h b (by omega))
  · rw [if_neg q, if_neg q]
theorem spI_v {T : Mm} {s : Nat} {tp : Int} : ∀ {k : Nat}, k ≤ 8 → ∀ j, j < k → spI T (s : Int) tp k 58 (9 * s + j) = cvS T (s : Int) tp (j : Int)
  | 0, _, j, hj => by omega
  | k + 1, hk, j, hj => by
    have e := cvS_cong (T := spI T (s : Int) tp k) (U := T) (s := s) (i := (k : Int)) (tp := tp) (fun a _ _ => spI_off T _ _ (by omega) k) (fun b hb => spI_hi (Or.inl hb))
    by_cases q : j = k
    · rw [q, spI, show ((s : Int) * 9 + (k : Int)).toNat = 9 * s + k by omega, stM_at, e]
    · rw [spI, stM_ne _ _ (Or.inr (by omega)), spI_v (k := k) (by omega) j (by omega)]
/-- the least of a row -/
def saF (c : Nat → Int) : Nat → Int
  | 0 => c 8
  | k + 1 => lsr (saF c k) (c k)
theorem saF_cong {c d : Nat → Int} (h8 : c 8 = d 8) : ∀ {k : Nat}, (∀ j, j < k → c j = d j) → saF c k = saF d k
  | 0, _ => h8
  | k + 1, h => by rw [saF, saF, saF_cong h8 (fun j hj => h j (by omega)), h k (by omega)]
theorem spA_v {T : Mm} {s : Nat} {tp : Int} : ∀ {k : Nat}, k ≤ 8 → spA T (s : Int) tp k = saF (fun j => if j = 8 then T 58 (9 * s + 8) else cvS T (s : Int) tp (j : Int)) k
  | 0, _ => by
    rw [spA, saF]
    simp only [if_true]
    rw [show ((s : Int) * 9 + 8).toNat = 9 * s + 8 by omega]
  | k + 1, hk => by
    have e := cvS_cong (T := spI T (s : Int) tp k) (U := T) (s := s) (i := (k : Int)) (tp := tp) (fun a _ _ => spI_off T _ _ (by omega) k) (fun b hb => spI_hi (Or.inl hb))
    rw [spA, saF, spA_v (k := k) (by omega), e]
    simp only [if_neg (show ¬ k = 8 by omega)]
theorem spS_58 (T : Mm) (s : Nat) (w tp : Int) (b : Nat) : spS T (s : Int) w tp 58 b = if ndN s w.toNat = 0 ∧ 9 * s ≤ b ∧ b < 9 * s + 8 then cvS T (s : Int) tp ((b - 9 * s : Nat) : Int) else T 58 b := by
  unfold spS
  rw [Int.toNat_natCast]
  by_cases q : ndN s w.toNat = 0
  · rw [if_pos (by omega), stM_off (by decide)]
    by_cases q2 : 9 * s ≤ b ∧ b < 9 * s + 8
    · rw [if_pos ⟨q, q2⟩]
      have := spI_v (T := T) (s := s) (tp := tp) (k := 8) (by decide) (b - 9 * s) (by omega)
      rw [show 9 * s + (b - 9 * s) = b by omega] at this
      exact this
    · rw [if_neg (fun z => q2 z.2), spI_hi (by omega)]
  · rw [if_neg (by omega), if_neg (fun z => q z.1), stM_off (by decide)]
theorem spS_59 (T : Mm) (s : Nat) (w tp : Int) (b : Nat) : spS T (s : Int) w tp 59 b = if b = s then (if ndN s w.toNat = 0 then saF (fun j => if j = 8 then T 58 (9 * s + 8) else cvS T (s : Int) tp (j : Int)) 8 else -9) else T 59 b := by
  unfold spS
  rw [Int.toNat_natCast]
  by_cases q : ndN s w.toNat = 0
  · rw [if_pos (by omega), if_pos q, spA_v (by decide)]
    by_cases z : b = s
    · rw [if_pos z, z, stM_at]
    · rw [if_neg z, stM_ne _ _ (Or.inr z), spI_off _ _ _ (by decide)]
  · rw [if_neg (by omega), if_neg q]
    by_cases z : b = s
    · rw [if_pos z, z, stM_at]
    · rw [if_neg z, stM_ne _ _ (Or.inr z)]
theorem spT_hi {M : Mm} {w tp : Int} : ∀ {k b : Nat}, (9 * k ≤ b ∨ b % 9 = 8) → spT M w tp k 58 b = M 58 b
  | 0, _, _ => rfl
  | k + 1, b, h => by rw [spT, spS_58, if_neg (by omega), spT_hi (k := k) (by omega)]
theorem spT_keep {M : Mm} {w tp : Int} {k b : Nat} (h : b < 9 * k) : ∀ d, spT M w tp (k + d) 58 b = spT M w tp k 58 b
  | 0 => rfl
  | d + 1 => by rw [← Nat.add_assoc, spT, spS_58, if_neg (by omega), spT_keep h d]
theorem spT_keep9 {M : Mm} {w tp : Int} {k b : Nat} (h : b < k) : ∀ d, spT M w tp (k + d) 59 b = spT M w tp k 59 b
  | 0 => rfl
  | d + 1 => by rw [← Nat.add_assoc, spT, spS_59, if_neg (by omega), spT_keep9 h d]
/-- what a row of the table is, by the table itself -/
theorem spM_row (M : Mm) (w tp : Int) {s : Nat} (hs : s < 256) : (ndN s w.toNat = 0 → (∀ j : Nat, j < 8 → spM M w tp 58 (9 * s + j) = cvS (spM M w tp) (s : Int) tp (j : Int)) ∧ spM M w tp 59 s = saF (fun j => spM M w tp 58 (9 * s + j)) 8) ∧ (¬ ndN s w.toNat = 0 → spM M w tp 59 s = -9) ∧ spM M w tp 58 (9 * s + 8) = M 58 (9 * s + 8) := by
  have eF : spM M w tp = spT M w tp 256 := (spM_eq M w tp).symm
  rw [eF]
  have e1 : ∀ b, b < 9 * s + 9 → spT M w tp 256 58 b = spS (spT M w tp s) (s : Int) w tp 58 b := fun b hb => by
    have := spT_keep (M := M) (w := w) (tp := tp) (k := s + 1) (b := b) (by omega) (255 - s)
    rw [show s + 1 + (255 - s) = 256 by omega] at this
    rw [this, spT]
  have e2 : spT M w tp 256 59 s = spS (spT M w tp s) (s : Int) w tp 59 s := by
    have := spT_keep9 (M := M) (w := w) (tp := tp) (k := s + 1) (b := s) (by omega) (255 - s)
    rw [show s + 1 + (255 - s) = 256 by omega] at this
    rw [this, spT]
  have e3 : ∀ b, b < 9 * s → spT M w tp 256 58 b = spT M w tp s 58 b := fun b hb => by
    have := spT_keep (M := M) (w := w) (tp := tp) (k := s) (b := b) (by omega) (256 - s)
    rw [show s + (256 - s) = 256 by omega] at this
    exact this
  have eC : ∀ j : Nat, cvS (spT M w tp 256) (s : Int) tp (j : Int) = cvS (spT M w tp s) (s : Int) tp (j : Int) := fun j => cvS_cong (fun a _ _ => by rw [spT_off M w tp (by omega) (by omega), spT_off M w tp (by omega) (by omega)]) e3
  have e8 : spT M w tp 256 58 (9 * s + 8) = M 58 (9 * s + 8) := spT_hi (by omega)
  have e8s : spT M w tp s 58 (9 * s + 8) = M 58 (9 * s + 8) := spT_hi (by omega)
  refine ⟨fun hw => ?_, fun hw => ?_, e8⟩
  · have hr : ∀ j : Nat, j < 8 → spT M w tp 256 58 (9 * s + j) = cvS (spT M w tp 256) (s : Int) tp (j : Int) := fun j hj => by
      rw [e1 _ (by omega), spS_58, if_pos ⟨hw, by omega, by omega⟩, eC j, show 9 * s + j - 9 * s = j by omega]
    refine ⟨hr, ?_⟩
    rw [e2, spS_59, if_pos rfl, if_pos hw]
    refine saF_cong ?_ (fun j hj => ?_)
    · simp only [if_true]
      rw [e8, e8s]
    · simp only [if_neg (show ¬ j = 8 by omega)]
      rw [hr j hj, eC j]
  · rw [e2, spS_59, if_pos rfl, if_neg hw]
theorem rcM_row (U : Mm) (w p f : Int) {s : Nat} (hs : s < 256) : (ndN s w.toNat = 0 → (∀ j : Nat, j < 8 → rcM U w p f 58 (9 * s + j) = if s.testBit j = true then lsE (rcM U w p f) ((ndN s (2 ^ j) : Nat) : Int) (j : Int) p else -9) ∧ rcM U w p f 59 s = saF (fun j => rcM U w p f 58 (9 * s + j)) 8) ∧ (¬ ndN s w.toNat = 0 → rcM U w p f 59 s = -9) ∧ rcM U w p f 58 (9 * s + 8) = if s = 0 then f else -9 := by
  have h := spM_row (rcP U f 256) w p hs
  unfold rcM
  refine ⟨fun hw => ⟨fun j hj => ?_, (h.1 hw).2⟩, h.2.1, ?_⟩
  · rw [(h.1 hw).1 j hj]
    unfold cvS inS
    rw [Int.toNat_natCast, Int.toNat_natCast, bitN_in ⟨by omega, by omega⟩, Int.toNat_natCast]
    by_cases q : s.testBit j = true
    · rw [if_pos ⟨by omega, by omega, q⟩, if_pos q]
    · rw [if_neg (fun z => q z.2.2), if_neg q]
  · rw [h.2.2]
    unfold rcP
    rw [if_pos ⟨rfl, by omega, by omega⟩]
    by_cases q : s = 0
    · rw [if_pos (by omega), if_pos q]
    · rw [if_neg (by omega), if_neg q]
theorem e9_v {a : Int} (h : a < 1000) : e9 a = a := by
  unfold e9
  rw [if_pos h]
theorem e9_lsr {a b : Int} (ha : exV a) (hb : exV b) : lsr (e9 a) (e9 b) = e9 (min a b) := by
  rcases ha with rfl | ha
  · rw [show e9 1000 = -9 from rfl, show min 1000 b = b by omega]
    unfold lsr
    rw [if_pos (Or.inl rfl), if_pos rfl]
  · rcases hb with rfl | hb
    · rw [show e9 1000 = -9 from rfl, show min a 1000 = a by omega, e9_v (by omega)]
      unfold lsr
      rw [if_pos (Or.inr rfl), if_neg (by omega)]
    · rw [e9_v (by omega), e9_v (by omega), e9_v (by omega)]
      unfold lsr
      rw [if_neg (by omega)]
      split <;> omega
theorem e9_no {a : Int} (ha : exV a) : e9 a = -9 ↔ ¬ a < 1000 := by
  unfold e9
  split <;> omega
theorem e9_lt {a : Int} (ha : exV a) (h : a < 1000) : e9 a = a := by
  unfold e9
  rw [if_pos h]
theorem exB_9 {J : Nat → Nat → Int} (hJ : JOK J) {i : Nat} (hi : i < 8) {p f : Int} (hp : 0 ≤ p ∧ p ≤ 15) (hf : 0 ≤ f) : e9 (exB J i p f) = enB J i p f := by
  have h := enB_b hJ hi hp hf
  unfold e9 exB
  by_cases q : enB J i p f = -9
  · rw [if_pos q, q]
    rfl
  · rw [if_neg q, if_pos (by omega)]
theorem lsF_skip {T : Mm} {r : Nat} {i tp : Int} {a : Nat} : ∀ {b : Nat}, a ≤ b → (∀ c, a ≤ c → c < b → T 58 (9 * r + c) = -9) → lsF T (r : Int) i tp b = lsF T (r : Int) i tp a
  | 0, h, _ => by rw [show a = 0 by omega]
  | b + 1, h, hc => by
    by_cases q : a = b + 1
    · rw [q]
    · rw [lsF, show ((r : Int) * 9 + (b : Int)).toNat = 9 * r + b by omega, if_pos (hc b (by omega) (by omega)), lsF_skip (b := b) (by omega) (fun c h1 h2 => hc c h1 (by omega))]
theorem JE.pc {T : Mm} {J : Nat → Nat → Int} {n : Nat} (h : JE T J n) {k : Nat} (hk : k < n) (tp : Int) : pcol T tp (k : Int) = J k 0 := by
  have := h.1.2.1
  unfold pcol
  rw [if_neg (by omega)]
  exact (h.2 k hk).2.1
theorem pcol_8 (T : Mm) (tp : Int) : pcol T tp ((8 : Nat) : Int) = tp := by
  unfold pcol
  rw [if_pos (by decide)]
/-- a place of both tables, behind a set that isn't empty -/
theorem lsF_X {T : Mm} {J : Nat → Nat → Int} {n : Nat} (hJ : JE T J n) {p : Int} {F : Nat → Int} {r i : Nat} (hi : i < n) (hr : r ≠ 0) (hF : ∀ k, k < n → exV (F (8 * r + k)) ∧ (¬ r.testBit k = true → F (8 * r + k) = 1000)) (hT : ∀ k, k < n → T 58 (9 * r + k) = e9 (F (8 * r + k))) : ∀ k, k ≤ n → lsF T (r : Int) (i : Int) p k = e9 (lsX J p F r i k) ∧ exV (lsX J p F r i k)
  | 0, _ => by
    rw [lsF, lsX, if_neg hr]
    exact ⟨rfl, Or.inl rfl⟩
  | k + 1, hk => by
    have ih := lsF_X hJ (p := p) hi hr hF hT k (by omega)
    have hFk := hF k (by omega)
    have h8 := hJ.1.2.1
    have hJ0 := (hJ.1.2.2 k (by omega)).1
    rw [lsF, lsX, show ((r : Int) * 9 + (k : Int)).toNat = 9 * r + k by omega, hT k (by omega)]
    by_cases q : F (8 * r + k) < 1000
    · have hb : r.testBit k = true := by
        by_cases z : r.testBit k = true
        · exact z
        · have := hFk.2 z
          omega
      rw [if_neg (by rw [e9_no hFk.1]; exact not_not_intro q), if_pos ⟨hb, q⟩, e9_lt hFk.1 q, hJ.pc (by omega), (hJ.2 i hi).1, ih.1, ← exB_9 hJ.1.2.2 (by omega) hJ0 (by omega : 0 ≤ F (8 * r + k))]
      have hx := exB_v hJ.1.2.2 (i := i) (by omega) hJ0 (f := F (8 * r + k)) (by omega)
      refine ⟨e9_lsr ih.2 hx, ?_⟩
      omega
    · rw [if_pos ((e9_no hFk.1).mpr q), if_neg (fun z => q z.2)]
      exact ih
theorem lsX_0 {J : Nat → Nat → Int} {p : Int} {F : Nat → Int} {i : Nat} : ∀ k, lsX J p F 0 i k = exB J i p 0
  | 0 => by rw [lsX, if_pos rfl]
  | k + 1 => by rw [lsX, if_neg (by simp), lsX_0 k]
theorem p2_256 {n : Nat} (h : n ≤ 8) : 2 ^ n ≤ 256 := Nat.pow_le_pow_right (by decide) h
/-- the tables of both sides -/
theorem dp_eq {U : Mm} {J : Nat → Nat → Int} {n : Nat} (hJ : JE U J n) {w p : Int} (hp : 0 ≤ p ∧ p ≤ 15) {F E : Nat → Int} (hq : ∀ t, t < 2 ^ n → LQ J p n F E t) : ∀ s, s < 2 ^ n → (∀ i, i < n → exV (F (8 * s + i)) ∧ (¬ s.testBit i = true → F (8 * s + i) = 1000)) ∧ exV (E s) ∧ (ndN s w.toNat = 0 → (∀ i, i < n → rcM U w p 0 58 (9 * s + i) = e9 (F (8 * s + i))) ∧ rcM U w p 0 59 s = e9 (E s)) := by
  intro s
  induction s using Nat.strongRecOn with
  | _ s ih =>
    intro hs
    have h8 := hJ.1.2.1
    have hJT : JE (rcM U w p 0) J n := hJ.of (fun a h1 h2 => rcM_off U w p 0 (by omega) (by omega))
    have hs2 : s < 256 := by have := p2_256 h8; omega
    have hl := hq s hs
    have row := rcM_row U w p 0 hs2
    have hF : ∀ i, i < n → exV (F (8 * s + i)) ∧ (¬ s.testBit i = true → F (8 * s + i) = 1000) := by
      intro i hi
      rw [hl.1 i hi]
      unfold flX
      by_cases q : s.testBit i = true
      · rw [if_pos q]
        have hr := ndN_lt q
        exact ⟨lsX_v hJ.1.2.2 hp (by omega) h8 (fun k hk _ => ((ih _ hr (by omega)).1 k hk).1), fun z => absurd q z⟩
      · rw [if_neg q]
        exact ⟨Or.inl rfl, fun _ => rfl⟩
    have hE : exV (E s) := by
      rw [hl.2]
      exact elX_v (fun i hi => (hF i hi).1)
    refine ⟨hF, hE, fun hw => ?_⟩
    have r1 := row.1 hw
    have hT : ∀ i, i < n → rcM U w p 0 58 (9 * s + i) = e9 (F (8 * s + i)) := by
      intro i hi
      rw [r1.1 i (by omega), hl.1 i hi]
      unfold flX
      by_cases q : s.testBit i = true
      · rw [if_pos q, if_pos q]
        have hr := ndN_lt q
        have ihr := ih _ hr (by omega)
        have ihw := ihr.2.2 (ndN_sub hw)
        generalize hR : ndN s (2 ^ i) = r at *
        have rowr := rcM_row U w p 0 (s := r) (by omega)
        have hz : ∀ c, n ≤ c → c < 8 → rcM U w p 0 58 (9 * r + c) = -9 := by
          intro c h1 h2
          rw [(rowr.1 (by rw [← hR]; exact ndN_sub hw)).1 c h2, if_neg]
          rw [Nat.testBit_lt_two_pow (Nat.lt_of_lt_of_le (show r < 2 ^ n by omega) (Nat.pow_le_pow_right (by decide) h1))]
          decide
        by_cases q0 : r = 0
        · subst q0
          have hz0 : ∀ c, 0 ≤ c → c < 8 → rcM U w p 0 58 (9 * 0 + c) = -9 := by
            intro c _ h2
            by_cases z : c < n
            · rw [ihw.1 c z, (ihr.1 c z).2 (by simp)]
              rfl
            · exact hz c (by omega) h2
          unfold lsE
          rw [show (9 : Nat) = 8 + 1 from rfl, lsF, show (((0 : Nat) : Int) * 9 + ((8 : Nat) : Int)).toNat = 9 * 0 + 8 by omega, rowr.2.2, if_pos rfl, if_neg (by decide), lsF_skip (r := 0) (a := 0) (b := 8) (by decide) hz0, lsF, pcol_8, (hJT.2 i hi).1, lsX_0, exB_9 hJ.1.2.2 (by omega) hp (by omega)]
          unfold lsr
          rw [if_pos (Or.inl rfl), if_pos rfl]
        · unfold lsE
          have h9 : rcM U w p 0 58 (9 * r + 8) = -9 := by rw [rowr.2.2, if_neg q0]
          rw [lsF_skip (r := r) (a := n) (b := 9) (by omega) (fun c h1 h2 => by
            by_cases z : c = 8
            · rw [z]; exact h9
            · exact hz c h1 (by omega))]
          exact (lsF_X hJT hi q0 ihr.1 ihw.1 n (Nat.le_refl n)).1
      · rw [if_neg q, if_neg q]
        rfl
    refine ⟨hT, ?_⟩
    rw [r1.2, hl.2]
    have hz : ∀ c, n ≤ c → c < 8 → rcM U w p 0 58 (9 * s + c) = -9 := by
      intro c h1 h2
      rw [r1.1 c h2, if_neg]
      rw [Nat.testBit_lt_two_pow (Nat.lt_of_lt_of_le hs (Nat.pow_le_pow_right (by decide) h1))]
      decide
    have h80 : rcM U w p 0 58 (9 * s + 8) = e9 (if s = 0 then 0 else 1000) := by
      rw [row.2.2]
      by_cases z : s = 0
      · rw [if_pos z, if_pos z]
        rfl
      · rw [if_neg z, if_neg z]
        rfl
    have key : ∀ k, k ≤ n → saF (fun j => rcM U w p 0 58 (9 * s + j)) k = e9 (elX F s k) ∧ exV (elX F s k) := by
      intro k
      induction k with
      | zero =>
        intro _
        rw [saF, elX]
        exact ⟨h80, by split <;> omega⟩
      | succ k ihk =>
        intro hk
        have i1 := ihk (by omega)
        have hFk := hF k (by omega)
        rw [saF, elX, i1.1, hT k (by omega)]
        by_cases z : s.testBit k = true
        · rw [if_pos z]
          refine ⟨e9_lsr i1.2 hFk.1, by omega⟩
        · rw [if_neg z, hFk.2 z, e9_lsr i1.2 (Or.inl rfl)]
          refine ⟨?_, i1.2⟩
          rw [show min (elX F s k) 1000 = elX F s k by omega]
    have tail : ∀ d, n + d ≤ 8 → saF (fun j => rcM U w p 0 58 (9 * s + j)) (n + d) = saF (fun j => rcM U w p 0 58 (9 * s + j)) n := by
      intro d
      induction d with
      | zero => intro _; rfl
      | succ d ihd =>
        intro hd
        rw [← Nat.add_assoc, saF, ihd (by omega)]
        simp only [hz (n + d) (by omega) (by omega)]
        unfold lsr
        rw [if_pos (Or.inr rfl)]
        split
        · rename_i z
          rw [z]
        · rfl
    have h88 := tail (8 - n) (by omega)
    rw [show n + (8 - n) = 8 by omega] at h88
    rw [h88]
    exact (key n (Nat.le_refl n)).1
