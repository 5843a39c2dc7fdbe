theorem RlO.of2 {M M2 : Mm} (h : RlO M) (e0 : ∀ b, b = 14 ∨ b = 15 ∨ b = 16 ∨ b = 17 → M2 0 b = M 0 b) (e76 : M2 76 = M 76) (e78 : M2 78 = M 78) (s : ∀ b, b = 0 ∨ b = 2 ∨ b = 3 ∨ b = 4 → M2 77 b = M 77 b) : RlO M2 := by
  unfold RlO at h ⊢
  rw [e0 14 (by decide), e0 15 (by decide), e0 16 (by decide), e0 17 (by decide), e76, e78, s 0 (by decide), s 2 (by decide), s 3 (by decide), s 4 (by decide)]
  exact h
/-- a way comes to a row, on both sides -/
theorem Rl.tw {M T V : Mm} (h : Rl M) {r : Int} (hr : R6 r) (eT : ∀ a, a < 48 ∨ 62 < a → T a = M a) (hC : CI T) (eV : ∀ a, a ≠ 77 → a ≠ 89 → a ≠ 90 → a ≠ 93 → V a = twM T (3 + 2 * r.toNat) a) (sV : ∀ b, b ≠ 23 → b ≠ 25 → b ≠ 29 → V 77 b = M 77 b) (h93 : ∀ j : Nat, j < 4 → ir (V 93 j)) (hn : V 77 23 = T 54 3) (hl : ∀ j : Nat, (j : Int) < T 54 3 → V 89 j = T 55 j) : Rl (lrM V r) := by
  have hw3 := hC.w
  have wo : ∀ a, a ≠ 3 + 2 * r.toNat → a ≠ 3 + 2 * r.toNat + 1 → twM T (3 + 2 * r.toNat) a = T a := fun a h1 h2 => twP_off h1 h2
  have lo : ∀ a, a ≠ 79 → a ≠ 80 → lrM V r a = V a := fun a h1 h2 => by
    funext b
    unfold lrM
    rw [if_neg (by omega), if_neg (by omega)]
  -- the same without the row
  have hM0 : ∃ M0 : Mm, M0 = fun a => if (3 ≤ a ∧ a ≤ 14) ∨ a = 79 ∨ a = 80 then M a else V a := ⟨_, rfl⟩
  obtain ⟨M0, hM0⟩ := hM0
  have m1 : ∀ a, ((3 ≤ a ∧ a ≤ 14) ∨ a = 79 ∨ a = 80) → M0 a = M a := fun a q => by rw [hM0]; exact if_pos q
  have m2 : ∀ a, ¬ ((3 ≤ a ∧ a ≤ 14) ∨ a = 79 ∨ a = 80) → M0 a = V a := fun a q => by rw [hM0]; exact if_neg q
  have m3 : ∀ a, ¬ ((3 ≤ a ∧ a ≤ 14) ∨ a = 79 ∨ a = 80) → a ≠ 77 → a ≠ 89 → a ≠ 90 → a ≠ 93 → M0 a = T a := fun a q h1 h2 h3 h4 => by
    rw [m2 a q, eV a h1 h2 h3 h4, wo a (by omega) (by omega)]
  have mT : ∀ a, a ≤ 76 → M0 a = T a := fun a ha => by
    by_cases q : (3 ≤ a ∧ a ≤ 14) ∨ a = 79 ∨ a = 80
    · rw [m1 a q, eT a (by omega)]
    · exact m3 a q (by omega) (by omega) (by omega) (by omega)
  have kT : KQ M T := KQ.sc (fun a ha => eT a (by omega))
  have k0 : KQ T M0 := fun a b q => by
    unfold SC at q
    by_cases z : a = 77
    · subst z
      rw [m2 77 (by decide), sV b (by omega) (by omega) (by omega), eT 77 (by decide)]
    · by_cases y : (3 ≤ a ∧ a ≤ 14) ∨ a = 79 ∨ a = 80
      · rw [m1 a y, eT a (by omega)]
      · rw [m3 a y z (by omega) (by omega) (by omega)]
  have h0 : Rl M0 := by
    refine h.kq kT hC k0 (fun a h1 h2 => mT a h2) ?_ ?_
    · rw [m2 77 (by decide), sV 2 (by decide) (by decide) (by decide), mT 0 (by decide), eT 0 (by decide)]
      exact h.2.2.1.2.2.1.1
    · rw [m2 93 (by decide)]
      exact h93
  -- the row itself
  have c1 : lrM V r (3 + 2 * r.toNat) 1 = T 54 3 := by
    rw [lo _ (by omega) (by omega), eV _ (by omega) (by omega) (by omega) (by omega)]
    unfold twM twP
    rw [if_pos ⟨rfl, rfl⟩]
  have c2 : ∀ j : Nat, (j : Int) < T 54 3 → lrM V r (3 + 2 * r.toNat + 1) j = T 55 j := fun j hj => by
    rw [lo _ (by omega) (by omega), eV _ (by omega) (by omega) (by omega) (by omega)]
    unfold twM twP
    rw [if_neg (by omega), if_pos ⟨rfl, hj⟩, if_pos hj]
  have c3 : ∀ j : Nat, ¬ (j : Int) < T 54 3 → lrM V r (3 + 2 * r.toNat + 1) j = M (3 + 2 * r.toNat + 1) j := fun j hj => by
    rw [lo _ (by omega) (by omega), eV _ (by omega) (by omega) (by omega) (by omega)]
    unfold twM twP
    rw [if_neg (by omega), if_neg (fun z => hj z.2), eT _ (by omega)]
  have c4 : ∀ a, 3 ≤ a → a ≤ 14 → a ≠ 3 + 2 * r.toNat → a ≠ 3 + 2 * r.toNat + 1 → lrM V r a = M a := fun a g1 g2 h1 h2 => by
    rw [lo _ (by omega) (by omega), eV _ (by omega) (by omega) (by omega) (by omega), wo a h1 h2, eT a (by omega)]
  have d1 : lrM V r 79 r.toNat = T 54 3 := by
    unfold lrM
    rw [if_pos ⟨rfl, rfl⟩, hn]
  have d2 : ∀ j : Nat, j < 60 → lrM V r 80 (60 * r.toNat + j) = if (j : Int) < T 54 3 then T 55 j else 0 := fun j hj => by
    unfold lrM
    rw [if_neg (by omega), if_pos ⟨rfl, by omega, by omega⟩, hn]
    by_cases q : (j : Int) < T 54 3
    · rw [if_pos (by omega), if_pos q, show (((60 * r.toNat + j : Nat) : Int) - 60 * r).toNat = j by omega, hl j q]
    · rw [if_neg (by omega), if_neg q]
  have V79 : V 79 = M 79 := by rw [eV 79 (by decide) (by decide) (by decide) (by decide), wo 79 (by omega) (by omega), eT 79 (by decide)]
  have V80 : V 80 = M 80 := by rw [eV 80 (by decide) (by decide) (by decide) (by decide), wo 80 (by omega) (by omega), eT 80 (by decide)]
  have d3 : ∀ q : Nat, q ≠ r.toNat → lrM V r 79 q = M 79 q := fun q hq => by
    unfold lrM
    rw [if_neg (by omega), if_neg (by omega), V79]
  have d4 : ∀ q j : Nat, q ≠ r.toNat → j < 60 → lrM V r 80 (60 * q + j) = M 80 (60 * q + j) := fun q j hq hj => by
    unfold lrM
    rw [if_neg (by omega), if_neg (by omega), V80]
  have hRw := h.1.rw
  have sz : ∀ q : Nat, q < 6 → M (3 + 2 * q) 1 ≤ 60 := fun q hq => by
    have := (hRw (3 + 2 * q) (by unfold isRowO; omega)).1.2
    unfold capO at this
    rw [if_pos (by omega)] at this
    omega
  refine h0.row (fun a q => ?_) (fun b hb => ?_) ?_ ?_ ?_ ?_
  · rw [lo a (by omega) (by omega), m2 a (by omega)]
  · rw [lo 77 (by decide) (by decide), m2 77 (by decide)]
  · intro q hq
    by_cases z : q = r.toNat
    · subst z
      rw [d1, c1]
      refine ⟨rfl, fun j hj => ?_⟩
      rw [d2 j (by omega), if_pos hj, c2 j hj]
    · rw [d3 q z, c4 (3 + 2 * q) (by omega) (by omega) (by omega) (by omega), c4 (3 + 2 * q + 1) (by omega) (by omega) (by omega) (by omega)]
      have := h.2.1.1 q hq
      refine ⟨this.1, fun j hj => ?_⟩
      rw [d4 q j z (by have := sz q hq; omega)]
      exact this.2 j hj
  · intro q hq
    by_cases z : q = r.toNat
    · subst z
      rw [d1]
      refine ⟨by omega, fun j hj => ?_⟩
      rw [d2 j (by omega), if_pos hj]
      have := (hw3.2.2.2 j).1
      exact ⟨by omega, by omega⟩
    · rw [d3 q z]
      have i2 := h.2.2.2.1.1.2.1 q hq
      refine ⟨i2.1, fun j hj => ?_⟩
      rw [d4 q j z (by omega)]
      exact i2.2 j hj
  · intro o ho
    have hro := hRw o ho
    by_cases z : o = 3 + 2 * r.toNat
    · subst z
      rw [c1]
      have hcap : capO (3 + 2 * r.toNat) = 60 := capO_60 (by omega)
      refine ⟨by rw [hcap]; omega, fun j => ?_⟩
      by_cases y : (j : Int) < T 54 3
      · rw [c2 j y]
        have := (hw3.2.2.2 j).1
        exact ⟨by omega, by omega⟩
      · rw [c3 j y]
        exact hro.2 j
    · have e1 : lrM V r o = M o := by
        rw [lo o (by omega) (by omega), eV o (by omega) (by omega) (by omega) (by omega), wo o z (by omega), eT o (by omega)]
      have e2 : lrM V r (o + 1) = M (o + 1) := by
        rw [lo (o + 1) (by omega) (by omega), eV (o + 1) (by omega) (by omega) (by omega) (by omega), wo (o + 1) (by omega) (by omega), eT (o + 1) (by omega)]
      rw [e1, e2]
      exact hro
  · refine h0.2.2.1.2.2.of2 (fun b _ => ?_) ?_ ?_ (fun b hb => ?_)
    · rw [lo 0 (by decide) (by decide), m2 0 (by decide)]
    · rw [lo 76 (by decide) (by decide), m2 76 (by decide)]
    · rw [lo 78 (by decide) (by decide), m2 78 (by decide)]
    · rw [lo 77 (by decide) (by decide), m2 77 (by decide)]
theorem ga_ok {f : Nat → Int} {T : Mm} : ∀ {k : Nat}, (gaF f T k).2 = true → (gaF f T k).1 = meL T (sgL f 0 k)
  | 0, _ => rfl
  | k + 1, h => by
    rw [gaF] at h ⊢
    by_cases q : (gaF f T k).2 = true ∧ okW (gaF f T k).1 (f k)
    · rw [if_pos q, sgL_snoc, meL_snoc, ← ga_ok q.1, Nat.zero_add]
    · rw [if_neg q] at h
      exact absurd h (by simp)
theorem find_pre {Q : List Int → Bool} {cur : List Int} {rest : List (List Int)} : ∀ {pre : List (List Int)}, (∀ L ∈ pre, ¬ Q L = true) → Q cur = true → (pre ++ cur :: rest).find? Q = some cur
  | [], _, h => by
    rw [List.nil_append, List.find?_cons, h]
  | a :: t, h, hc => by
    have ha := h a (List.mem_cons_self ..)
    simp at ha
    rw [List.cons_append, List.find?_cons, ha]
    exact find_pre (fun L hL => h L (List.mem_cons_of_mem _ hL)) hc
theorem bg_W {M : Mm} (w p : Int) : WEq (bgM (gfA M w) p) (bgM (ldM M) p) := by
  intro a h1 h2
  by_cases q : a = 54
  · subst q
    have e : gfA M w 54 = ldM M 54 := by unfold gfA; exact rcM_off _ _ _ _ (by decide) (by decide)
    funext b
    unfold bgM stM
    rw [e]
  · rw [bgM_off _ _ q, bgM_off _ _ q]
    unfold gfA
    exact rcM_off _ _ _ _ (by omega) (by omega)
theorem feL_p {M M1 : Mm} (h : Rl M) (e : jbR M1 = jbR M ∧ sP M1 = sP M ∧ M1 77 12 = M 77 12) {s : Nat} : ∀ L ∈ pmM M1 s, feL (jbR M1) (sP M1) L = Qf (jbR M) (stp M) 0 L := by
  intro L hL
  have hl := h.1.l
  rw [e.1, e.2.1]
  by_cases q : 0 < M 23 4
  · rw [h.sp q]
    rfl
  · have hz : (M1 77 12).toNat = 0 := by rw [e.2.2, h.m.2.1]; omega
    unfold pmM at hL
    rw [hz] at hL
    have : L = [] := by
      have h2 : L ∈ ([[]] : List (List Int)) := hL
      simpa using h2
    subst this
    rfl
/-- the first order, on both sides -/
theorem Rl.fst {M M1 : Mm} (h : Rl M) (e : jbR M1 = jbR M ∧ sP M1 = sP M ∧ M1 77 12 = M 77 12) {w : Int} (hw : 0 ≤ w ∧ w ≤ ((allN (M 23 4) : Nat) : Int)) {z : Int} {M2 : Mm} (hx : LFX M1 w.toNat z M2) : (z = 0 ∧ gfA M w 59 w.toNat = -9) ∨ (z = 1 ∧ (¬ gfA M w 59 w.toNat = -9 ∧ (gfO M w).2 = 0) ∧ M2 77 23 = (gfO M w).1 54 3 ∧ ∀ j : Nat, (j : Int) < (gfO M w).1 54 3 → M2 89 j = (gfO M w).1 55 j ∧ (0 ≤ M2 89 j ∧ M2 89 j < M 23 4) ∧ doB (jbR M) (M2 89) (sP M) j = (gfO M w).1 56 j) := by
  have hl := h.1.l
  have hm := h.m
  have hn12 : (M1 77 12).toNat = (M 23 4).toNat := by rw [e.2.2, hm.2.1]
  have hs : w.toNat < 2 ^ (M 23 4).toNat := by rw [← allN_lt]; omega
  have hpm : pmM M1 w.toNat = pmF (elB w.toNat (M 23 4).toNat).length (elB w.toNat (M 23 4).toNat) := by unfold pmM; rw [hn12]
  have hQ := feL_p h e (s := w.toNat)
  have ew : ((w.toNat : Nat) : Int) = w := Int.toNat_of_nonneg hw.1
  have hFE := rc_FE h.je h.1.sp (f := 0) (by omega) hs
  rw [ew] at hFE
  have hfi := FE_fi (J := jbR M) _ (stp M) 0 w.toNat rfl hs
  rcases hx with ⟨_, ⟨hz, pre, cur, rest, e1, e2, e3, e4, _⟩ | ⟨hz, e1⟩⟩
  · right
    have hcur : cur ∈ pmM M1 w.toNat := by rw [e1]; simp
    have hf : fiL (jbR M) (stp M) 0 (elB w.toNat (M 23 4).toNat).length (elB w.toNat (M 23 4).toNat) = some cur := by
      unfold fiL
      rw [← hpm, e1]
      refine find_pre (fun L hL => ?_) ?_
      · rw [← hQ L (by rw [e1]; simp [hL])]
        exact e2 L hL
      · rw [← hQ cur hcur]
        exact e3
    have hE := hfi.mpr ⟨cur, hf⟩
    have n9 : ¬ gfA M w 59 w.toNat = -9 := hFE.mpr hE
    have hJT : JE (bgM (gfA M w) (stp M)) (jbR M) (M 23 4).toNat := h.je.of (fun a h1 h2 => by rw [bgM_off _ _ (by omega)]; exact gfA_J a h1 h2)
    have t4 : bgM (gfA M w) (stp M) 54 4 = stp M ∧ bgM (gfA M w) (stp M) 54 5 = 0 ∧ bgM (gfA M w) (stp M) 54 3 = 0 := by
      unfold bgM
      refine ⟨?_, stM_at _ _ _ _, ?_⟩
      · rw [stM_ne _ _ (by omega), stM_at]
      · rw [stM_ne _ _ (by omega), stM_ne _ _ (by omega), stM_at]
    have hlen := elB_len w.toNat (M 23 4).toNat
    obtain ⟨L, g1, g2⟩ := go_find _ hJT ⟨t4.1, t4.2.1⟩ h.1.sp (Int.le_refl 0) hs rfl (by rw [t4.2.2]; omega) hE
    rw [hf] at g1
    have eL := Option.some.inj g1
    subst eL
    have g3 := g2 8 (by omega)
    rw [ew] at g3
    have hok := pmM_ok (M := M1) (by rw [e.2.2, hm.2.1]; omega) hcur
    obtain ⟨l1, l2⟩ := e4
    have hrg : ∀ j, j < cur.length → 0 ≤ M2 89 j ∧ M2 89 j < M 23 4 := fun j hj => by
      have hmem : M2 89 j ∈ cur := by
        rw [← l2]
        exact sgL_in (M2 89) (Nat.zero_le j) (by omega)
      have := hok.2.1 _ hmem
      rw [e.2.2, hm.2.1] at this
      exact ⟨this.1, this.2.1⟩
    have G := gaF_do h hrg hok.2.2 (stp M) cur.length (Nat.le_refl _)
    have hdo : (doF (jbR M) (M2 89) (stp M) cur.length).2.2 = true := by
      rw [← feL_do l2]
      have := hQ cur hcur
      rw [e3] at this
      exact this.symm
    have hga := ga_ok (f := M2 89) (T := bgM (ldM M) (stp M)) (k := cur.length) (by rw [G.1.1]; exact hdo)
    rw [l2] at hga
    have hW : WEq (gfO M w).1 (gaF (M2 89) (bgM (ldM M) (stp M)) cur.length).1 := by
      rw [hga]
      unfold gfO
      exact g3.2.trans (meL_W (bg_W w (stp M)) cur)
    have hN : doN (jbR M) (M2 89) (stp M) cur.length = (cur.length : Int) := doN_ok hdo
    rw [hN] at G
    have w54 := hW 54 (by decide) (by decide)
    have w55 := hW 55 (by decide) (by decide)
    have w56 := hW 56 (by decide) (by decide)
    refine ⟨hz, ⟨n9, by unfold gfO; exact g3.1⟩, ?_, fun j hj => ?_⟩
    · rw [w54, G.1.2.1, l1]
    · rw [w54, G.1.2.1] at hj
      have hj2 : j < cur.length := by omega
      rw [w55, w56]
      have G2 := G.2 j hj
      refine ⟨G2.2.symm, hrg j hj2, ?_⟩
      rw [G2.1]
      have hpos : 0 < M 23 4 := by have := hrg j hj2; omega
      rw [h.sp hpos]
  · left
    refine ⟨hz, ?_⟩
    by_cases q : gfA M w 59 w.toNat = -9
    · exact q
    · exfalso
      obtain ⟨L, hL⟩ := hfi.mp (hFE.mp q)
      have hmem := List.mem_of_find?_eq_some hL
      rw [← hpm] at hmem
      have hq := List.find?_some hL
      rw [← hQ L hmem] at hq
      exact e1 L hmem hq
theorem gfO_off (M : Mm) (w : Int) {a : Nat} (h : a < 48 ∨ 62 < a) : (gfO M w).1 a = M a := by
  have g : ∀ T r i, (giS T r i).1 a = T a := fun T r i => by
    unfold giS
    split
    · rfl
    · split
      · show meM _ _ a = _
        rw [meM_off _ _ ⟨by omega, by omega, by omega⟩, rcM_off _ _ _ _ (by omega) (by omega)]
      · show rcM _ _ _ _ a = _
        rw [rcM_off _ _ _ _ (by omega) (by omega)]
  have g2 : ∀ T r k, (giF T r k).1 a = T a := fun T r k => by
    induction k with
    | zero => rfl
    | succ k ih =>
      rw [giF]
      split
      · rw [g, ih]
      · exact ih
  have g3 : ∀ T r k, (goO T r k).1 a = T a := fun T r k => by
    induction k with
    | zero => rfl
    | succ k ih =>
      rw [goO]
      split
      · exact ih
      · rw [g2, ih]
  unfold gfO
  rw [g3, bgM_off _ _ (by omega), gfA_off _ _ (by omega)]
theorem pr_first {M M2 : Mm} {w r z : Int} (h : Rl M) (hx : xfiR (fstM M w r) w r z M2) : z = fstA M w r ∧ Rl M2 := by
  have hm := h.m
  unfold fstM at hx
  unfold fstA
  by_cases c : ¬ R6 r ∨ ¬ (0 ≤ w ∧ w ≤ ((allN (M 23 4) : Nat) : Int))
  · rw [if_pos c] at hx ⊢
    have cs : ¬ SX M w ∨ ¬ R6 r := by
      rcases c with c | c
      · exact Or.inr c
      · left
        show ¬ (0 ≤ w ∧ w ≤ ((allN (M 77 12) : Nat) : Int))
        rw [hm.2.1]
        exact c
    rcases hx with ⟨_, hz, e⟩ | ⟨q, _⟩ | ⟨q, _⟩
    · rw [e]
      exact ⟨hz, h⟩
    · exfalso; omega
    · exfalso; omega
  · rw [if_neg c] at hx ⊢
    have cr : R6 r := by omega
    have cw : 0 ≤ w ∧ w ≤ ((allN (M 23 4) : Nat) : Int) := by omega
    have w255 : 0 ≤ w ∧ w ≤ 255 := by have := aL_255 h.1.l; omega
    have eX : ∀ a, a < 48 ∨ 62 < a → gfX M w a = M a := fun a ha => by
      unfold gfX
      split
      · exact gfA_off M w (by omega)
      · exact gfO_off M w ha
    have hCX := h.1.gx w255
    by_cases c1 : ¬ gfA M w 59 w.toNat = -9 ∧ (gfO M w).2 = 0
    · rw [if_neg (not_not_intro c1)] at hx ⊢
      have eT : gfX M w = (gfO M w).1 := by unfold gfX; rw [if_neg c1.1]
      rw [eT] at hx hCX eX
      have wo : ∀ a, a ≠ 3 + 2 * r.toNat → a ≠ 3 + 2 * r.toNat + 1 → twM (gfO M w).1 (3 + 2 * r.toNat) a = (gfO M w).1 a := fun a h1 h2 => twP_off h1 h2
      have e84 : twM (gfO M w).1 (3 + 2 * r.toNat) 84 = M 84 := by rw [wo 84 (by omega) (by omega), eX 84 (by decide)]
      have e85 : twM (gfO M w).1 (3 + 2 * r.toNat) 85 = M 85 := by rw [wo 85 (by omega) (by omega), eX 85 (by decide)]
      have e77 : twM (gfO M w).1 (3 + 2 * r.toNat) 77 = M 77 := by rw [wo 77 (by omega) (by omega), eX 77 (by decide)]
      have e93 : twM (gfO M w).1 (3 + 2 * r.toNat) 93 = M 93 := by rw [wo 93 (by omega) (by omega), eX 93 (by decide)]
      have e3 : jbR (twM (gfO M w).1 (3 + 2 * r.toNat)) = jbR M ∧ sP (twM (gfO M w).1 (3 + 2 * r.toNat)) = sP M ∧ twM (gfO M w).1 (3 + 2 * r.toNat) 77 12 = M 77 12 := ⟨jbR_off e84 e85, by unfold sP; rw [e84, e77], by rw [e77]⟩
      have cs : SX (twM (gfO M w).1 (3 + 2 * r.toNat)) w := by
        show 0 ≤ w ∧ w ≤ ((allN (twM (gfO M w).1 (3 + 2 * r.toNat) 77 12) : Nat) : Int)
        rw [e3.2.2, hm.2.1]
        exact cw
      rcases hx with ⟨q, _⟩ | ⟨_, _, q⟩ | ⟨_, hz, V, hV, e⟩
      · exfalso
        rcases q with q | q
        · exact q cs
        · exact q cr
      · exfalso
        rcases h.fst e3 cw q with y | y
        · exact c1.1 y.2
        · exact absurd y.1 (by decide)
      · refine ⟨hz, ?_⟩
        rcases h.fst e3 cw hV with y | y
        · exact absurd y.1 (by decide)
        · rw [e]
          have hF := hV.1
          refine h.tw cr eX hCX (fun a h1 h2 h3 _ => hF.1 a h1 h2 h3) (fun b h1 h2 _ => by rw [hF.2 b h1 h2, e77]) ?_ y.2.2.1 (fun j hj => (y.2.2.2 j hj).1)
          rw [hF.1 93 (by decide) (by decide) (by decide), e93]
          exact h.i93
    · rw [if_pos c1] at hx ⊢
      have k1 : KQ M (gfX M w) := KQ.sc (fun a ha => eX a (by omega))
      have e3 : jbR (gfX M w) = jbR M ∧ sP (gfX M w) = sP M ∧ gfX M w 77 12 = M 77 12 := ⟨k1.jb, k1.sp, k1.n⟩
      have cs : SX (gfX M w) w := by
        show 0 ≤ w ∧ w ≤ ((allN (gfX M w 77 12) : Nat) : Int)
        rw [e3.2.2, hm.2.1]
        exact cw
      rcases hx with ⟨q, _⟩ | ⟨_, hz, q⟩ | ⟨_, _, V, hV, _⟩
      · exfalso
        rcases q with q | q
        · exact q cs
        · exact q cr
      · refine ⟨hz, ?_⟩
        have hF := q.1
        exact h.ask0 eX hCX (KQ.x (fun a h1 h2 h3 => hF.1 a h1 (by omega) (by omega)) (fun b hb => hF.2 b (by omega) (by omega))) (fun a ha => hF.1 a (by omega) (by omega) (by omega)) (hF.2 2 (by decide) (by decide))
      · exfalso
        rcases h.fst e3 cw hV with y | y
        · exact absurd y.1 (by decide)
        · exact c1 y.2.1
theorem wx_ww {M T V : Mm} (h : Rl M) (eJ : ∀ a, 48 ≤ a → a ≤ 53 → T a = ldM M a) {l : Nat → Int} {p : Int} : ∀ {k : Nat}, (∀ j : Nat, j < k → l j = T 55 j ∧ (0 ≤ l j ∧ l j < M 23 4) ∧ doB (jbR M) l p j = T 56 j) → wxF (jbR M) l p k = wwF T k
  | 0, _ => rfl
  | k + 1, hk => by
    have h1 := hk k (by omega)
    rw [wxF, wwF, wx_ww (V := V) h eJ (fun j hj => hk j (by omega)), h1.2.2]
    have e : lnJ T (T 55 k) = jbR M (l k).toNat 3 := by
      have := h.lj (i := (l k).toNat) (by omega)
      rw [lnJ_eq eJ, ← h1.1, ← this, Int.toNat_of_nonneg h1.2.1.1]
    rw [e]
theorem pr_worn {M M2 : Mm} {w z : Int} (h : Rl M) (hx : xwoR (worM M w) w z M2) : z = worA M w ∧ Rl M2 := by
  have hm := h.m
  unfold worM at hx
  unfold worA
  by_cases c : 0 ≤ w ∧ w ≤ ((allN (M 23 4) : Nat) : Int)
  · rw [if_neg (not_not_intro c)] at hx ⊢
    have w255 : 0 ≤ w ∧ w ≤ 255 := by have := aL_255 h.1.l; omega
    have eX : ∀ a, a < 48 ∨ 62 < a → gfX M w a = M a := fun a ha => by
      unfold gfX
      split
      · exact gfA_off M w (by omega)
      · exact gfO_off M w ha
    have hCX := h.1.gx w255
    have k1 : KQ M (gfX M w) := KQ.sc (fun a ha => eX a (by omega))
    have e3 : jbR (gfX M w) = jbR M ∧ sP (gfX M w) = sP M ∧ gfX M w 77 12 = M 77 12 := ⟨k1.jb, k1.sp, k1.n⟩
    have cs : SX (gfX M w) w := by
      show 0 ≤ w ∧ w ≤ ((allN (gfX M w 77 12) : Nat) : Int)
      rw [e3.2.2, hm.2.1]
      exact c
    have fin : ∀ y, LFX (gfX M w) w.toNat y M2 → Rl M2 := fun y q => by
      have hF := q.1
      exact h.ask0 eX hCX (KQ.x (fun a h1 h2 h3 => hF.1 a h1 (by omega) (by omega)) (fun b hb => hF.2 b (by omega) (by omega))) (fun a ha => hF.1 a (by omega) (by omega) (by omega)) (hF.2 2 (by decide) (by decide))
    rcases hx with ⟨q, _⟩ | ⟨_, hz, q⟩ | ⟨_, q, hz⟩
    · exact absurd cs q
    · refine ⟨?_, fin _ q⟩
      rcases h.fst e3 c q with y | y
      · rw [if_pos (fun u => u.1 y.2)]
        exact hz
      · exact absurd y.1 (by decide)
    · refine ⟨?_, fin _ q⟩
      rcases h.fst e3 c q with y | y
      · exact absurd y.1 (by decide)
      · have eT : gfX M w = (gfO M w).1 := by unfold gfX; rw [if_neg y.2.1.1]
        rw [if_neg (not_not_intro y.2.1), hz, e3.1, e3.2.1, eT, y.2.2.1]
        have eJ : ∀ a, 48 ≤ a → a ≤ 53 → (gfO M w).1 a = ldM M a := by
          intro a h1 h2
          have g : ∀ T r i, (giS T r i).1 a = T a := fun T r i => by
            unfold giS
            split
            · rfl
            · split
              · show meM _ _ a = _
                rw [meM_off _ _ ⟨by omega, by omega, by omega⟩, rcM_off _ _ _ _ (by omega) (by omega)]
              · show rcM _ _ _ _ a = _
                rw [rcM_off _ _ _ _ (by omega) (by omega)]
          have g2 : ∀ T r k, (giF T r k).1 a = T a := fun T r k => by
            induction k with
            | zero => rfl
            | succ k ih =>
              rw [giF]
              split
              · rw [g, ih]
              · exact ih
          have g3 : ∀ T r k, (goO T r k).1 a = T a := fun T r k => by
            induction k with
            | zero => rfl
            | succ k ih =>
              rw [goO]
              split
              · exact ih
              · rw [g2, ih]
          unfold gfO
          rw [g3, bgM_off _ _ (by omega)]
          exact gfA_J a h1 h2
        have := wx_ww (V := M) h eJ (l := M2 89) (p := sP M) (k := ((gfO M w).1 54 3).toNat) (fun j hj => y.2.2.2 j (by omega))
        rw [this]
  · rw [if_pos c] at hx ⊢
    have cs : ¬ SX M w := by
      show ¬ (0 ≤ w ∧ w ≤ ((allN (M 77 12) : Nat) : Int))
      rw [hm.2.1]
      exact c
    rcases hx with ⟨_, hz, e⟩ | ⟨q, _⟩ | ⟨q, _⟩
    · rw [e]
      exact ⟨hz, h⟩
    · exact absurd q cs
    · exact absurd q cs
