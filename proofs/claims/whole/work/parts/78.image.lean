theorem sq_ge {n : Int} (h : 0 ≤ n ∧ n ≤ 7) : n ≤ n * n ∧ n * n ≤ 49 := by
  rcases (show n = 0 ∨ n = 1 ∨ n = 2 ∨ n = 3 ∨ n = 4 ∨ n = 5 ∨ n = 6 ∨ n = 7 by omega) with e | e | e | e | e | e | e | e <;> subst e <;> decide
theorem sq_lt {n h d : Int} (hn : 0 ≤ n ∧ n ≤ 7) (hh : 0 ≤ h ∧ h < n) (hd : 0 ≤ d ∧ d + 1 < n) : n + h * (n - 1) + d < n * n ∧ n + h * (n - 1) + (n - 1) = n + (h + 1) * (n - 1) ∧ 0 ≤ h * (n - 1) := by
  rcases (show n = 0 ∨ n = 1 ∨ n = 2 ∨ n = 3 ∨ n = 4 ∨ n = 5 ∨ n = 6 ∨ n = 7 by omega) with e | e | e | e | e | e | e | e <;> subst e <;> omega
theorem sq_nx {n h : Int} (hn : 0 ≤ n ∧ n ≤ 7) (hh : 0 ≤ h ∧ h < n) : n + h * (n - 1) + (n - 1) = n + (h + 1) * (n - 1) := by
  rcases (show n = 0 ∨ n = 1 ∨ n = 2 ∨ n = 3 ∨ n = 4 ∨ n = 5 ∨ n = 6 ∨ n = 7 by omega) with e | e | e | e | e | e | e | e <;> subst e <;> omega
/-- an image so far, on both sides -/
def IMR (M M1 : Mm) (n : Int) (o : Nat) (r : Int) (h : Nat) (s x : Mm × Int) : Prop := (s.1 o 1 = n * n ∧ x.2 = 60 * r + s.2 ∧ n ≤ s.2) ∧ (∀ b : Nat, n ≤ (b : Int) → (b : Int) < n * n → s.1 (o + 1) b = x.1 80 (60 * r.toNat + b)) ∧ (∀ b : Nat, (b : Int) < n → s.1 (o + 1) b = (if b < h then M 64 b else 0) ∧ x.1 80 (60 * r.toNat + b) = M1 97 b) ∧ (∀ a, a ≠ 80 → x.1 a = xi1 M1 r 60 a) ∧ ∀ q : Nat, (q < 60 * r.toNat ∨ 60 * r.toNat + 60 ≤ q) → x.1 80 q = M1 80 q
theorem IM_in {M M1 : Mm} {n : Int} {o : Nat} {r : Int} {h : Nat} (hr : 0 ≤ r) (hn : 0 ≤ n ∧ n ≤ 7) (hh : (h : Int) < n) (e98 : ∀ j : Nat, j < 64 → M1 98 j = M 65 j) {s x : Mm × Int} (hR : IMR M M1 n o r (h + 1) s x) (hb : s.2 ≤ 7 + 7 * (h : Int)) : ∀ k : Nat, (k : Int) ≤ n → IMR M M1 n o r (h + 1) (imI M s.1 o (h : Int) s.2 k) (xiI M1 x.1 (h : Int) x.2 k) ∧ (imI M s.1 o (h : Int) s.2 k).2 ≤ s.2 + (k : Int)
  | 0, _ => ⟨hR, by show s.2 ≤ s.2 + _; omega⟩
  | k + 1, hk => by
    have ih := IM_in hr hn hh e98 hR hb k (by omega)
    rw [imI, xiI]
    by_cases q : (k : Int) = (h : Int)
    · rw [if_pos q, if_pos q.symm]
      exact ⟨ih.1, by omega⟩
    · rw [if_neg q, if_neg (fun z => q z.symm)]
      generalize imI M s.1 o (h : Int) s.2 k = S at *
      generalize xiI M1 x.1 (h : Int) x.2 k = X at *
      obtain ⟨⟨⟨i1, i2, i3⟩, i4, i5, i6, i7⟩, i8⟩ := ih
      have e : M1 98 (8 * (h : Int) + (k : Int)).toNat = M 65 ((h : Int) * 8 + (k : Int)).toNat := by
        rw [show (8 * (h : Int) + (k : Int)).toNat = ((h : Int) * 8 + (k : Int)).toNat by omega]
        exact e98 _ (by omega)
      refine ⟨⟨⟨?_, ?_, ?_⟩, ?_, ?_, ?_, ?_⟩, ?_⟩
      · show seR S.1 o S.2 _ o 1 = _
        rw [seR_off _ _ _ _ (by omega), i1]
      · show X.2 + 1 = 60 * r + (S.2 + 1)
        omega
      · show n ≤ S.2 + 1
        omega
      · intro b h1 h2
        show seR S.1 o S.2 (M 65 ((h : Int) * 8 + (k : Int)).toNat) (o + 1) b = stM X.1 80 X.2.toNat (M1 98 (8 * (h : Int) + (k : Int)).toNat) 80 (60 * r.toNat + b)
        rw [e]
        unfold seR
        rw [i1]
        by_cases y : S.2 = (b : Int)
        · rw [if_pos (by omega), show S.2.toNat = b by omega, stM_at, show X.2.toNat = 60 * r.toNat + b by omega, stM_at]
        · rw [stM_ne (M := X.1) _ (Or.inr (show 60 * r.toNat + b ≠ X.2.toNat by omega))]
          by_cases z : 0 ≤ S.2 ∧ S.2 < n * n
          · rw [if_pos z, stM_ne _ _ (Or.inr (show b ≠ S.2.toNat by omega))]
            exact i4 b h1 h2
          · rw [if_neg z]
            exact i4 b h1 h2
      · intro b hb2
        have i5b := i5 b hb2
        refine ⟨?_, ?_⟩
        · rw [← i5b.1]
          show seR S.1 o S.2 _ (o + 1) b = S.1 (o + 1) b
          unfold seR
          split
          · rw [stM_ne _ _ (Or.inr (show b ≠ S.2.toNat by omega))]
          · rfl
        · show stM X.1 80 X.2.toNat _ 80 (60 * r.toNat + b) = _
          rw [stM_ne _ _ (Or.inr (show 60 * r.toNat + b ≠ X.2.toNat by omega))]
          exact i5b.2
      · intro a ha
        show stM X.1 80 X.2.toNat _ a = _
        rw [stM_off ha]
        exact i6 a ha
      · intro q2 hq2
        show stM X.1 80 X.2.toNat _ 80 q2 = _
        rw [stM_ne _ _ (Or.inr (show q2 ≠ X.2.toNat by omega))]
        exact i7 q2 hq2
      · show S.2 + 1 ≤ _
        omega
theorem IM_all {M M1 : Mm} {n : Int} {o : Nat} {r : Int} (hr : 0 ≤ r) (hn : 0 ≤ n ∧ n ≤ 7) (hn0 : M 23 3 = n) (hn1 : M1 77 10 = n) (e98 : ∀ j : Nat, j < 64 → M1 98 j = M 65 j) : ∀ h : Nat, (h : Int) ≤ n → IMR M M1 n o r h (imF M o h) (xiF M1 r h) ∧ (imF M o h).2 ≤ 7 + 7 * (h : Int)
  | 0, _ => by
    refine ⟨⟨⟨?_, ?_, ?_⟩, ?_, ?_, ?_, ?_⟩, ?_⟩
    · show mkM M o (M 23 3 * M 23 3) 0 o 1 = _
      unfold mkM
      rw [if_pos ⟨rfl, rfl⟩, hn0]
    · show 60 * r + M1 77 10 = 60 * r + M 23 3
      rw [hn0, hn1]
    · show n ≤ M 23 3
      omega
    · intro b h1 h2
      show mkM M o (M 23 3 * M 23 3) 0 (o + 1) b = xi1 M1 r 60 80 (60 * r.toNat + b)
      have hs := sq_ge hn
      unfold mkM xi1
      rw [hn0, hn1, if_neg (by omega), if_pos ⟨rfl, h2⟩, if_pos ⟨rfl, by omega, by omega⟩, if_neg (by omega)]
    · intro b hb
      have hs := sq_ge hn
      refine ⟨?_, ?_⟩
      · show mkM M o (M 23 3 * M 23 3) 0 (o + 1) b = _
        unfold mkM
        rw [hn0, if_neg (by omega), if_pos ⟨rfl, by omega⟩, if_neg (by omega)]
      · show xi1 M1 r 60 80 (60 * r.toNat + b) = _
        unfold xi1
        rw [hn1, if_pos ⟨rfl, by omega, by omega⟩, if_pos (by omega), show (((60 * r.toNat + b : Nat) : Int) - 60 * r).toNat = b by omega]
    · intro a _
      rfl
    · intro q hq
      show xi1 M1 r 60 80 q = _
      unfold xi1
      rw [if_neg (by omega), if_neg (by omega)]
    · show M 23 3 ≤ _
      omega
  | h + 1, hh => by
    have ih := IM_all (o := o) hr hn hn0 hn1 e98 h (by omega)
    rw [imF, xiF, hn0, hn1]
    generalize imF M o h = S at *
    generalize xiF M1 r h = X at *
    obtain ⟨⟨⟨i1, i2, i3⟩, i4, i5, i6, i7⟩, i8⟩ := ih
    have hs := sq_ge hn
    have R2 : IMR M M1 n o r (h + 1) (seR S.1 o (h : Int) (M 64 h), S.2) X := by
      have e : seR S.1 o (h : Int) (M 64 h) = stM S.1 (o + 1) h (M 64 h) := by
        unfold seR
        rw [i1, if_pos (by omega), Int.toNat_natCast]
      rw [e]
      refine ⟨⟨?_, i2, i3⟩, ?_, ?_, i6, i7⟩
      · show stM S.1 (o + 1) h (M 64 h) o 1 = _
        rw [stM_off (by omega), i1]
      · intro b h1 h2
        show stM S.1 (o + 1) h (M 64 h) (o + 1) b = _
        rw [stM_ne _ _ (Or.inr (by omega))]
        exact i4 b h1 h2
      · intro b hb
        refine ⟨?_, (i5 b hb).2⟩
        show stM S.1 (o + 1) h (M 64 h) (o + 1) b = _
        by_cases y : b = h
        · rw [y, stM_at, if_pos (by omega)]
        · rw [stM_ne _ _ (Or.inr y), (i5 b hb).1]
          by_cases z : b < h
          · rw [if_pos z, if_pos (by omega)]
          · rw [if_neg z, if_neg (by omega)]
    have g := IM_in hr hn (by omega) e98 R2 i8 n.toNat (by omega)
    refine ⟨g.1, ?_⟩
    have g2 : (imI M (seR S.1 o (h : Int) (M 64 h)) o (h : Int) S.2 n.toNat).2 ≤ S.2 + ((n.toNat : Nat) : Int) := g.2
    omega
def nzR (o : Nat) (M : Mm) : Mm := fun a b => if a = o + 1 ∨ a = 80 then wr (M a b) else M a b
theorem nzR_o {o : Nat} {M : Mm} {a : Nat} (h1 : a ≠ o + 1) (h2 : a ≠ 80) : nzR o M a = M a := by
  funext b
  unfold nzR
  rw [if_neg (by omega)]
theorem nzR_i {o : Nat} {M : Mm} {a : Nat} (h : a = o + 1 ∨ a = 80) (b : Nat) : nzR o M a b = wr (M a b) := by
  unfold nzR
  rw [if_pos h]
theorem NR.nzR {r : Int} (hr : R6 r) (M : Mm) : NR M (nzR (3 + 2 * r.toNat) M) := fun a => by
  by_cases q : a = 3 + 2 * r.toNat + 1 ∨ a = 80
  · right
    exact ⟨by unfold isI; omega, fun j => by rw [nzR_i q]; exact iI_wr _⟩
  · exact Or.inl (nzR_o (by omega) (by omega))
theorem pr_image {M : Mm} (h : Rl M) (r : Int) : ximA (imaM M r) r = imaA M r ∧ ∃ M3, NR (ximM (imaM M r) r) M3 ∧ Rl M3 := by
  have hm := h.m
  have hl := h.1.l
  unfold ximA imaA ximM imaM
  by_cases c : R6 r
  · by_cases c1 : 8 ≤ M 23 3
    · simp only [if_neg (not_not_intro c), if_pos c1]
      have c2 : 7 < M 77 10 := by rw [hm.1]; omega
      simp only [if_pos c2]
      exact ⟨trivial, M, NR.refl _, h⟩
    · simp only [if_neg (not_not_intro c), if_neg c1]
      have oT : ∀ a, a ≠ 3 + 2 * r.toNat → a ≠ 3 + 2 * r.toNat + 1 → imgM M (3 + 2 * r.toNat) a = M a := fun a h1 h2 => by unfold imgM; exact imF_off M _ h1 h2 _
      have e10 : imgM M (3 + 2 * r.toNat) 77 10 = M 23 3 := by rw [oT 77 (by omega) (by omega), hm.1]
      have c2 : ¬ 7 < imgM M (3 + 2 * r.toNat) 77 10 := by rw [e10]; omega
      simp only [if_neg c2]
      rw [e10]
      refine ⟨rfl, ?_⟩
      have hL := h.2.2.1.1.1
      have A := (IM_all (M := M) (M1 := imgM M (3 + 2 * r.toNat)) (n := M 23 3) (o := 3 + 2 * r.toNat) c.1 (by omega) rfl e10 (fun j hj => by rw [oT 98 (by omega) (by omega)]; exact hL.2.1 j hj) (M 23 3).toNat (by omega)).1
      generalize hX : xiF (imgM M (3 + 2 * r.toNat)) r (M 23 3).toNat = X at *
      have hS : (imF M (3 + 2 * r.toNat) (M 23 3).toNat).1 = imgM M (3 + 2 * r.toNat) := rfl
      obtain ⟨⟨a1, a2, a3⟩, a4, a5, a6, a7⟩ := A
      rw [hS] at a1 a4 a5
      have hs := sq_ge (n := M 23 3) (by omega)
      have x1 : ∀ a, a ≠ 79 → a ≠ 80 → X.1 a = imgM M (3 + 2 * r.toNat) a := fun a h1 h2 => by
        rw [a6 a h2]
        funext b
        unfold xi1
        rw [if_neg (by omega), if_neg (by omega)]
      have x79 : ∀ q : Nat, X.1 79 q = if q = r.toNat then M 23 3 * M 23 3 else M 79 q := fun q => by
        rw [a6 79 (by decide)]
        unfold xi1
        rw [if_neg (by omega), e10]
        by_cases y : q = r.toNat
        · rw [if_pos ⟨rfl, y⟩, if_pos y]
        · rw [if_neg (fun u => y u.2), if_neg y, oT 79 (by omega) (by omega)]
      have hRw := h.1.rw
      have sz : ∀ q : Nat, q < 6 → M (3 + 2 * q) 1 ≤ 60 := fun q hq => by
        have := (hRw (3 + 2 * q) (by unfold isRowO; omega)).1.2
        unfold capO at this
        rw [if_pos (by omega)] at this
        omega
      refine ⟨nzR (3 + 2 * r.toNat) X.1, NR.nzR c X.1, ?_⟩
      have z0 : ∀ a, a ≠ 79 → a ≠ 80 → a ≠ 3 + 2 * r.toNat → a ≠ 3 + 2 * r.toNat + 1 → nzR (3 + 2 * r.toNat) X.1 a = M a := fun a h1 h2 h3 h4 => by rw [nzR_o h4 h2, x1 a h1 h2, oT a h3 h4]
      have zo : nzR (3 + 2 * r.toNat) X.1 (3 + 2 * r.toNat) 1 = M 23 3 * M 23 3 := by rw [nzR_o (by omega) (by omega), x1 _ (by omega) (by omega), a1]
      have z79 : ∀ q : Nat, nzR (3 + 2 * r.toNat) X.1 79 q = if q = r.toNat then M 23 3 * M 23 3 else M 79 q := fun q => by rw [nzR_o (by omega) (by decide), x79 q]
      refine h.row (fun a q => z0 a (by omega) (by omega) (by omega) (by omega)) (fun b _ => by rw [z0 77 (by omega) (by omega) (by omega) (by omega)]) ?_ ?_ ?_ ?_
      · intro q hq
        by_cases y : q = r.toNat
        · subst y
          rw [z79, if_pos rfl, zo]
          refine ⟨rfl, fun i hi => ?_⟩
          rw [nzR_i (Or.inr rfl), nzR_i (Or.inl rfl), x1 (3 + 2 * r.toNat + 1) (by omega) (by omega)]
          by_cases u : (i : Int) < M 23 3
          · have := a5 i u
            rw [this.1, this.2, if_pos (by omega), oT 97 (by omega) (by omega), hL.1 i (by omega)]
          · rw [a4 i (by omega) hi]
        · rw [z79, if_neg y, z0 (3 + 2 * q) (by omega) (by omega) (by omega) (by omega), z0 (3 + 2 * q + 1) (by omega) (by omega) (by omega) (by omega)]
          have hq0 := h.2.1.1 q hq
          refine ⟨hq0.1, fun i hi => ?_⟩
          have := sz q hq
          rw [nzR_i (Or.inr rfl), a7 _ (by omega), oT 80 (by omega) (by omega), hq0.2 i hi]
          exact wr_of ((hRw (3 + 2 * q) (by unfold isRowO; omega)).2 i)
      · intro q hq
        rw [z79]
        by_cases y : q = r.toNat
        · rw [if_pos y]
          exact ⟨by omega, fun j _ => by rw [nzR_i (Or.inr rfl)]; exact ir_wr _⟩
        · rw [if_neg y]
          have i2 := h.2.2.2.1.1.2.1 q hq
          exact ⟨i2.1, fun j _ => by rw [nzR_i (Or.inr rfl)]; exact ir_wr _⟩
      · intro o ho
        by_cases y : o = 3 + 2 * r.toNat
        · subst y
          rw [zo, capO_60 (by omega)]
          exact ⟨by omega, fun j => by rw [nzR_i (Or.inl rfl)]; exact ir_wr _⟩
        · rw [z0 o (by omega) (by omega) y (by omega), z0 (o + 1) (by omega) (by omega) (by omega) (by omega)]
          exact hRw o ho
      · refine h.2.2.1.2.2.of2 (fun b _ => by rw [z0 0 (by omega) (by omega) (by omega) (by omega)]) (z0 76 (by omega) (by omega) (by omega) (by omega)) (z0 78 (by omega) (by omega) (by omega) (by omega)) (fun b _ => by rw [z0 77 (by omega) (by omega) (by omega) (by omega)])
  · simp only [if_pos c]
    exact ⟨trivial, M, NR.refl _, h⟩
theorem xk9_iff {M : Mm} {r : Int} : ∀ {k : Nat}, xk9 M r k = true ↔ ∀ j : Nat, j < k → 0 ≤ rcA M r (j : Int) ∧ rcA M r (j : Int) ≤ 9999
  | 0 => by simp [xk9]
  | k + 1 => by
    rw [xk9, Bool.and_eq_true, xk9_iff (k := k), decide_eq_true_iff]
    constructor
    · rintro ⟨h1, h2⟩ j hj
      by_cases q : j = k
      · rw [q]; exact h2
      · exact h1 j (by omega)
    · intro h
      exact ⟨fun j hj => h j (by omega), h k (by omega)⟩
/-- what is owed so far, on both sides -/
def ONR (M M1 : Mm) (n : Int) (h k : Nat) (s x : Mm × Int) : Prop := (s.2 = n + (h : Int) * (n - 1) + (if k ≤ h then (k : Int) else (k : Int) - 1) ∧ x.2 = s.2) ∧ (∀ a b : Nat, a < 8 → b < 8 → ((a < h ∨ (a = h ∧ b < k)) ∧ (b : Int) < n ∧ a ≠ b → s.1 65 (8 * a + b) = x.1 98 (8 * a + b)) ∧ (¬ ((a < h ∨ (a = h ∧ b < k)) ∧ (b : Int) < n ∧ a ≠ b) → s.1 65 (8 * a + b) = 0 ∧ x.1 98 (8 * a + b) = M 98 (8 * a + b))) ∧ (∀ a, a ≠ 64 → a ≠ 65 → s.1 a = clM M a) ∧ ∀ a, a ≠ 97 → a ≠ 98 → x.1 a = M1 a
def ON4 (M : Mm) (h : Nat) (T X : Mm) : Prop := ∀ a : Nat, a < 8 → (a < h → T 64 a = X 97 a) ∧ (¬ a < h → T 64 a = 0 ∧ X 97 a = M 97 a)
theorem ON_in {M M1 : Mm} {n : Int} {o : Nat} {r : Int} {h : Nat} (hn : 0 ≤ n ∧ n ≤ 7) (hh : (h : Int) < n) (hce : ∀ p : Int, 0 ≤ p → p < n * n → ceR M o p = rcA M1 r p) {s x : Mm × Int} (hR : ONR M M1 n h 0 s x) (h4 : ON4 M (h + 1) s.1 x.1) : ∀ k : Nat, (k : Int) ≤ n → ONR M M1 n h k (onI M s.1 o (h : Int) s.2 k) (xoI M1 x.1 r (h : Int) x.2 k) ∧ ON4 M (h + 1) (onI M s.1 o (h : Int) s.2 k).1 (xoI M1 x.1 r (h : Int) x.2 k).1
  | 0, _ => ⟨hR, h4⟩
  | k + 1, hk => by
    have ih := ON_in hn hh hce hR h4 k (by omega)
    rw [onI, xoI]
    by_cases q : (k : Int) = (h : Int)
    · rw [if_pos q, if_pos q.symm]
      refine ⟨?_, ih.2⟩
      obtain ⟨⟨⟨i1, i2⟩, i3, i4, i5⟩, _⟩ := ih
      have hkh : k = h := by omega
      refine ⟨⟨?_, i2⟩, ?_, i4, i5⟩
      · rw [i1, if_pos (by omega), if_neg (by omega)]
        omega
      · intro a b ha hb
        have e : ((a < h ∨ (a = h ∧ b < k + 1)) ∧ (b : Int) < n ∧ a ≠ b) ↔ ((a < h ∨ (a = h ∧ b < k)) ∧ (b : Int) < n ∧ a ≠ b) := by omega
        rw [e]
        exact i3 a b ha hb
    · rw [if_neg q, if_neg (fun z => q z.symm)]
      generalize onI M s.1 o (h : Int) s.2 k = S at *
      generalize xoI M1 x.1 r (h : Int) x.2 k = X at *
      obtain ⟨⟨⟨i1, i2⟩, i3, i4, i5⟩, i6⟩ := ih
      have hp : 0 ≤ S.2 ∧ S.2 < n * n := by
        rw [i1]
        by_cases y : k ≤ h
        · rw [if_pos y]
          have := sq_lt (n := n) (h := (h : Int)) (d := (k : Int)) hn ⟨by omega, hh⟩ ⟨by omega, by omega⟩
          omega
        · rw [if_neg y]
          have := sq_lt (n := n) (h := (h : Int)) (d := (k : Int) - 1) hn ⟨by omega, hh⟩ ⟨by omega, by omega⟩
          omega
      have hv : ceR M o S.2 = rcA M1 r X.2 := by rw [i2]; exact hce _ hp.1 hp.2
      have c1 : ((h : Int) * 8 + (k : Int)).toNat = 8 * h + k := by omega
      have c2 : (8 * (h : Int) + (k : Int)).toNat = 8 * h + k := by omega
      refine ⟨⟨⟨?_, ?_⟩, ?_, ?_, ?_⟩, ?_⟩
      · show S.2 + 1 = _
        rw [i1]
        by_cases y : k ≤ h
        · rw [if_pos y, if_pos (by omega)]
          omega
        · rw [if_neg y, if_neg (by omega)]
          omega
      · show X.2 + 1 = S.2 + 1
        omega
      · intro a b ha hb
        show ((a < h ∨ (a = h ∧ b < k + 1)) ∧ (b : Int) < n ∧ a ≠ b → stM S.1 65 ((h : Int) * 8 + (k : Int)).toNat (ceR M o S.2) 65 (8 * a + b) = stM X.1 98 (8 * (h : Int) + (k : Int)).toNat (rcA M1 r X.2) 98 (8 * a + b)) ∧ (¬ ((a < h ∨ (a = h ∧ b < k + 1)) ∧ (b : Int) < n ∧ a ≠ b) → stM S.1 65 ((h : Int) * 8 + (k : Int)).toNat (ceR M o S.2) 65 (8 * a + b) = 0 ∧ stM X.1 98 (8 * (h : Int) + (k : Int)).toNat (rcA M1 r X.2) 98 (8 * a + b) = M 98 (8 * a + b))
        rw [c1, c2, hv]
        by_cases y : a = h ∧ b = k
        · obtain ⟨y1, y2⟩ := y
          subst y1
          subst y2
          rw [stM_at, stM_at]
          exact ⟨fun _ => rfl, fun u => absurd ⟨Or.inr ⟨rfl, by omega⟩, by omega, by omega⟩ u⟩
        · have ne : 8 * a + b ≠ 8 * h + k := by omega
          rw [stM_ne _ _ (Or.inr ne), stM_ne _ _ (Or.inr ne)]
          have e : ((a < h ∨ (a = h ∧ b < k + 1)) ∧ (b : Int) < n ∧ a ≠ b) ↔ ((a < h ∨ (a = h ∧ b < k)) ∧ (b : Int) < n ∧ a ≠ b) := by omega
          rw [e]
          exact i3 a b ha hb
      · intro a h1 h2
        show stM S.1 65 _ _ a = _
        rw [stM_off h2]
        exact i4 a h1 h2
      · intro a h1 h2
        show stM X.1 98 _ _ a = _
        rw [stM_off h2]
        exact i5 a h1 h2
      · intro a ha
        show (a < h + 1 → stM S.1 65 ((h : Int) * 8 + (k : Int)).toNat (ceR M o S.2) 64 a = stM X.1 98 (8 * (h : Int) + (k : Int)).toNat (rcA M1 r X.2) 97 a) ∧ (¬ a < h + 1 → stM S.1 65 ((h : Int) * 8 + (k : Int)).toNat (ceR M o S.2) 64 a = 0 ∧ stM X.1 98 (8 * (h : Int) + (k : Int)).toNat (rcA M1 r X.2) 97 a = M 97 a)
        rw [stM_off (show (64 : Nat) ≠ 65 by decide), stM_off (show (97 : Nat) ≠ 98 by decide)]
        exact i6 a ha
theorem ON_all {M M1 : Mm} {n : Int} {o : Nat} {r : Int} (hn : 0 ≤ n ∧ n ≤ 7) (hn0 : M 23 3 = n) (hn1 : M1 77 10 = n) (e97 : M1 97 = M 97) (e98 : M1 98 = M 98) (hce : ∀ p : Int, 0 ≤ p → p < n * n → ceR M o p = rcA M1 r p) : ∀ h : Nat, (h : Int) ≤ n → ONR M M1 n h 0 (onF M o h) (xoG M1 r h) ∧ ON4 M h (onF M o h).1 (xoG M1 r h).1
  | 0, _ => by
    refine ⟨⟨⟨?_, ?_⟩, ?_, ?_, ?_⟩, ?_⟩
    · show M 23 3 = _
      rw [hn0, if_pos (by omega)]
      omega
    · show M1 77 10 = M 23 3
      rw [hn0, hn1]
    · intro a b ha hb
      refine ⟨fun z => by omega, fun _ => ⟨?_, ?_⟩⟩
      · show clM M 65 (8 * a + b) = 0
        unfold clM
        rw [if_neg (by omega), if_neg (by omega), if_pos ⟨rfl, by omega⟩]
      · show M1 98 (8 * a + b) = _
        rw [e98]
    · intro a _ _
      rfl
    · intro a _ _
      rfl
    · intro a ha
      refine ⟨fun z => by omega, fun _ => ⟨?_, ?_⟩⟩
      · show clM M 64 a = 0
        unfold clM
        rw [if_neg (by omega), if_pos ⟨rfl, by omega⟩]
      · show M1 97 a = _
        rw [e97]
  | h + 1, hh => by
    have ih := ON_all hn hn0 hn1 e97 e98 hce h (by omega)
    rw [onF, xoG, hn0, hn1]
    generalize onF M o h = S at *
    generalize xoG M1 r h = X at *
    obtain ⟨⟨⟨i1, i2⟩, i3, i4, i5⟩, i6⟩ := ih
    have hs := sq_ge hn
    have hv : ceR M o (h : Int) = rcA M1 r (h : Int) := hce _ (by omega) (by omega)
    have R2 : ONR M M1 n h 0 (stM S.1 64 h (ceR M o (h : Int)), S.2) (stM X.1 97 h (rcA M1 r (h : Int)), X.2) := by
      refine ⟨⟨i1, i2⟩, ?_, ?_, ?_⟩
      · intro a b ha hb
        show ((a < h ∨ (a = h ∧ b < 0)) ∧ (b : Int) < n ∧ a ≠ b → stM S.1 64 h (ceR M o (h : Int)) 65 (8 * a + b) = stM X.1 97 h (rcA M1 r (h : Int)) 98 (8 * a + b)) ∧ (¬ ((a < h ∨ (a = h ∧ b < 0)) ∧ (b : Int) < n ∧ a ≠ b) → stM S.1 64 h (ceR M o (h : Int)) 65 (8 * a + b) = 0 ∧ stM X.1 97 h (rcA M1 r (h : Int)) 98 (8 * a + b) = M 98 (8 * a + b))
        rw [stM_off (show (65 : Nat) ≠ 64 by decide), stM_off (show (98 : Nat) ≠ 97 by decide)]
        exact i3 a b ha hb
      · intro a h1 h2
        show stM S.1 64 h _ a = _
        rw [stM_off h1]
        exact i4 a h1 h2
      · intro a h1 h2
        show stM X.1 97 h _ a = _
        rw [stM_off h1]
        exact i5 a h1 h2
    have R4 : ON4 M (h + 1) (stM S.1 64 h (ceR M o (h : Int))) (stM X.1 97 h (rcA M1 r (h : Int))) := by
      intro a ha
      rw [hv]
      by_cases y : a = h
      · rw [y, stM_at, stM_at]
        exact ⟨fun _ => rfl, fun u => absurd (Nat.lt_succ_self h) u⟩
      · rw [stM_ne _ _ (Or.inr y), stM_ne _ _ (Or.inr y)]
        have := i6 a ha
        refine ⟨fun z => this.1 (by omega), fun z => this.2 (by omega)⟩
    have g := ON_in (o := o) hn (by omega) hce R2 R4 n.toNat (by omega)
    refine ⟨?_, g.2⟩
    obtain ⟨⟨⟨g1, g2⟩, g3, g4, g5⟩, _⟩ := g
    refine ⟨⟨?_, g2⟩, ?_, g4, g5⟩
    · have e : (onI M (stM S.1 64 h (ceR M o (h : Int))) o (h : Int) S.2 n.toNat).2 = n + (h : Int) * (n - 1) + (if n.toNat ≤ h then ((n.toNat : Nat) : Int) else ((n.toNat : Nat) : Int) - 1) := g1
      rw [e, if_neg (by omega), if_pos (by omega)]
      have := sq_nx (n := n) (h := (h : Int)) hn ⟨by omega, by omega⟩
      rw [show ((n.toNat : Nat) : Int) = n by omega, show ((h + 1 : Nat) : Int) = (h : Int) + 1 by omega]
      omega
    · intro a b ha hb
      have := g3 a b ha hb
      have e : ((a < h + 1 ∨ (a = h + 1 ∧ b < 0)) ∧ (b : Int) < n ∧ a ≠ b) ↔ ((a < h ∨ (a = h ∧ b < n.toNat)) ∧ (b : Int) < n ∧ a ≠ b) := by omega
      rw [e]
      exact this
theorem pr_on {M : Mm} (h : Rl M) (r : Int) : xonA (onM M r) r = onA M r ∧ Rl (xonM (onM M r) r) := by
  have hm := h.m
  have hl := h.1.l
  unfold xonA onA xonM onM
  by_cases c : R6 r
  · by_cases c1 : 8 ≤ M 23 3
    · simp only [if_neg (not_not_intro c), if_pos c1]
      have c2 : 7 < M 77 10 := by rw [hm.1]; omega
      simp only [if_pos c2]
      exact ⟨trivial, h⟩
    · have e1 := h.r1 c
      have sq := sq_ge (n := M 23 3) (by omega)
      have fd : ∀ f : Int, fdM M f 77 10 = M 77 10 ∧ fdM M f 79 = M 79 ∧ fdM M f 80 = M 80 := fun f => ⟨by rw [fdM_o (by decide) (by decide)], fdM_o (by decide) (by decide), fdM_o (by decide) (by decide)⟩
      by_cases c2 : M (3 + 2 * r.toNat) 1 < 0
      · simp only [if_neg (not_not_intro c), if_neg c1, if_pos c2]
        have q1 : ¬ 7 < fdM M 1 77 10 := by rw [(fd 1).1, hm.1]; omega
        have q2 : fdM M 1 79 r.toNat < 0 := by rw [(fd 1).2.1, e1]; exact c2
        simp only [if_neg q1, if_pos q2]
        exact ⟨trivial, h.meet 1 (by decide)⟩
      · by_cases c3 : M (3 + 2 * r.toNat) 1 = M 23 3 * M 23 3
        · have w : ∀ M1 : Mm, M1 80 = M 80 → (xk9 M1 r (M (3 + 2 * r.toNat) 1).toNat = true ↔ w9k M (3 + 2 * r.toNat)) := fun M1 e80 => by
            rw [xk9_iff]
            constructor
            · intro z j hj
              have h1 := z j hj
              have h2 := h.r2 (i := (j : Int)) c ⟨by omega, by omega⟩
              rw [Int.toNat_natCast] at h2
              unfold rcA at h1 h2
              rw [e80, h2] at h1
              exact h1
            · intro z j hj
              have h1 := z j hj
              have h2 := h.r2 (i := (j : Int)) c ⟨by omega, by omega⟩
              rw [Int.toNat_natCast] at h2
              unfold rcA at h2 ⊢
              rw [e80, h2]
              exact h1
          by_cases c4 : w9k M (3 + 2 * r.toNat)
          · simp only [if_neg (not_not_intro c), if_neg c1, if_neg c2, if_neg (not_not_intro c3), if_neg (not_not_intro c4)]
            have oT : ∀ a, a < 63 ∨ 65 < a → (onF M (3 + 2 * r.toNat) (M 23 3).toNat).1 a = M a := fun a ha => onF_off M _ ha _
            generalize hT : (onF M (3 + 2 * r.toNat) (M 23 3).toNat).1 = T at *
            have e10 : T 77 10 = M 23 3 := by rw [oT 77 (by decide), hm.1]
            have e79 : T 79 r.toNat = M (3 + 2 * r.toNat) 1 := by rw [oT 79 (by decide), e1]
            have q1 : ¬ 7 < T 77 10 := by rw [e10]; omega
            have q2 : ¬ T 79 r.toNat < 0 := by rw [e79]; exact c2
            have q3 : ¬ ¬ T 79 r.toNat = T 77 10 * T 77 10 := by rw [e79, e10]; exact not_not_intro c3
            have q4 : ¬ ¬ xk9 T r (T 79 r.toNat).toNat = true := by rw [e79]; exact not_not_intro ((w T (oT 80 (by decide))).mpr c4)
            simp only [if_neg q1, if_neg q2, if_neg q3, if_neg q4]
            refine ⟨trivial, ?_⟩
            have hL := h.2.2.1.1
            have A := ON_all (M := M) (M1 := T) (n := M 23 3) (o := 3 + 2 * r.toNat) (r := r) (by omega) rfl e10 (oT 97 (by decide)) (oT 98 (by decide)) (fun p h0 h1 => by
              unfold ceR
              rw [if_pos ⟨h0, by rw [c3]; exact h1⟩]
              have h2 := h.r2 (i := p) c ⟨h0, by rw [c3]; exact h1⟩
              rw [← h2]
              unfold rcA
              rw [oT 80 (by decide)]) (M 23 3).toNat (by omega)
            rw [e10]
            generalize hS : onF M (3 + 2 * r.toNat) (M 23 3).toNat = S at *
            rw [hT] at A
            generalize xoG T r (M 23 3).toNat = X at *
            obtain ⟨⟨_, a3, a4, a5⟩, a6⟩ := A
            have aT : S.1 = T := hT
            rw [aT] at a3 a4
            have x0 : ∀ a, a ≠ 97 → a ≠ 98 → a ≠ 77 → stM X.1 77 35 0 a = T a := fun a h1 h2 h3 => by rw [stM_off h3, a5 a h1 h2]
            have t63 : T 63 6 = 0 := by
              rw [a4 63 (by decide) (by decide)]
              unfold clM
              rw [if_pos ⟨rfl, rfl⟩]
            have t63b : ∀ b, b ≠ 6 → T 63 b = M 63 b := fun b hb => by
              rw [a4 63 (by decide) (by decide)]
              unfold clM
              rw [if_neg (fun z => hb z.2), if_neg (by omega), if_neg (by omega)]
            have dd := h.1.d
            have i4 := h.2.2.2.1.2.1.1
            have y97 : ∀ x : Nat, x < 8 → stM X.1 77 35 0 97 x = stM X.1 77 35 0 64 x := fun x hx => by
              rw [stM_off (by decide), x0 64 (by decide) (by decide) (by decide)]
              have := a6 x hx
              by_cases z : x < (M 23 3).toNat
              · exact (this.1 z).symm
              · rw [(this.2 z).1, (this.2 z).2, hL.1.1 x hx]
                exact hL.1.2.2.1 x hx (by omega)
            have y98 : ∀ a b : Nat, a < 8 → b < 8 → stM X.1 77 35 0 98 (8 * a + b) = stM X.1 77 35 0 65 (8 * a + b) := fun a b ha hb => by
              rw [stM_off (by decide), x0 65 (by decide) (by decide) (by decide)]
              have := a3 a b ha hb
              by_cases z : (a < (M 23 3).toNat ∨ (a = (M 23 3).toNat ∧ b < 0)) ∧ (b : Int) < M 23 3 ∧ a ≠ b
              · exact (this.1 z).symm
              · rw [(this.2 z).1, (this.2 z).2, hL.1.2.1 _ (by omega)]
                exact hL.1.2.2.2 a b ha hb (by omega)
            refine h.led (fun a z => by rw [x0 a (by omega) (by omega) (by omega), oT a (by omega)]) (fun b z => by rw [stM_ne _ _ (Or.inr z), a5 77 (by decide) (by decide), oT 77 (by decide)]) ?_ ⟨⟨?_, ?_, ?_, ?_⟩, ?_, ?_⟩ ?_
            · unfold DLW
              rw [x0 63 (by decide) (by decide) (by decide), t63, x0 66 (by decide) (by decide) (by decide), x0 67 (by decide) (by decide) (by decide), x0 68 (by decide) (by decide) (by decide), x0 69 (by decide) (by decide) (by decide), oT 66 (by decide), oT 67 (by decide), oT 68 (by decide), oT 69 (by decide)]
              exact ⟨by omega, dd.2⟩
            · exact y97
            · intro j hj
              have := y98 (j / 8) (j % 8) (by omega) (by omega)
              rw [show 8 * (j / 8) + j % 8 = j by omega] at this
              exact this
            · intro x hx z
              rw [x0 23 (by decide) (by decide) (by decide), oT 23 (by decide)] at z
              rw [x0 64 (by decide) (by decide) (by decide)]
              exact ((a6 x hx).2 (by omega)).1
            · intro a b ha hb z
              rw [x0 23 (by decide) (by decide) (by decide), oT 23 (by decide)] at z
              rw [x0 65 (by decide) (by decide) (by decide)]
              exact ((a3 a b ha hb).2 (by omega)).1
            · rw [stM_at, x0 63 (by decide) (by decide) (by decide), t63]
            · intro i hi
              rw [x0 63 (by decide) (by decide) (by decide), t63] at hi
              omega
            · have ex : ∀ i k, xd (stM X.1 77 35 0) i k = xd M i k := fun i k => by unfold xd; rw [x0 99 (by decide) (by decide) (by decide), oT 99 (by decide)]
              unfold DLX at i4 ⊢
              simp only [ex, stM_at]
              exact ⟨by omega, i4.2⟩
          · simp only [if_neg (not_not_intro c), if_neg c1, if_neg c2, if_neg (not_not_intro c3), if_pos c4]
            have q1 : ¬ 7 < fdM M 3 77 10 := by rw [(fd 3).1, hm.1]; omega
            have q2 : ¬ fdM M 3 79 r.toNat < 0 := by rw [(fd 3).2.1, e1]; exact c2
            have q3 : ¬ ¬ fdM M 3 79 r.toNat = fdM M 3 77 10 * fdM M 3 77 10 := by rw [(fd 3).2.1, (fd 3).1, e1, hm.1]; exact not_not_intro c3
            have q4 : ¬ xk9 (fdM M 3) r (fdM M 3 79 r.toNat).toNat = true := by
              rw [(fd 3).2.1, e1]
              exact fun z => c4 ((w _ (fd 3).2.2).mp z)
            simp only [if_neg q1, if_neg q2, if_neg q3, if_pos q4]
            exact ⟨trivial, h.meet 3 (by decide)⟩
        · simp only [if_neg (not_not_intro c), if_neg c1, if_neg c2, if_pos c3]
          have q1 : ¬ 7 < fdM M 5 77 10 := by rw [(fd 5).1, hm.1]; omega
          have q2 : ¬ fdM M 5 79 r.toNat < 0 := by rw [(fd 5).2.1, e1]; exact c2
          have q3 : ¬ fdM M 5 79 r.toNat = fdM M 5 77 10 * fdM M 5 77 10 := by rw [(fd 5).2.1, (fd 5).1, e1, hm.1]; exact c3
          simp only [if_neg q1, if_neg q2, if_pos q3]
          exact ⟨trivial, h.meet 5 (by decide)⟩
  · simp only [if_pos c]
    exact ⟨trivial, h⟩
