def Qf (J : Nat → Nat → Int) (p f : Int) (L : List Int) : Bool := (ruS J (some (p, f)) L).isSome
/-- the first order that can be done, in the reference's row of orders -/
def fiL (J : Nat → Nat → Int) (p f : Int) (k : Nat) (S : List Int) : Option (List Int) := (pmF k S).find? (Qf J p f)
def gdX (J : Nat → Nat → Int) (n k : Nat) (p f : Int) (s : Nat) (x : Int) : Option (List Int) := if enB J x.toNat p f = -9 then none else (fiL J (J x.toNat 0) (enB J x.toNat p f) k (elB (ndN s (2 ^ x.toNat)) n)).map (x :: ·)
theorem elB_flt {s : Nat} {x : Int} (hx : 0 ≤ x) : ∀ n, (elB s n).filter (fun y => !decide (y = x)) = elB (ndN s (2 ^ x.toNat)) n
  | 0 => rfl
  | n + 1 => by
    rw [elB, elB, ndN_bit, p2_bit]
    by_cases q : s.testBit n = true
    · rw [if_pos q, List.filter_append, elB_flt hx n]
      by_cases z : x.toNat = n
      · have e : (n : Int) = x := by omega
        simp [q, z, e]
      · have e : ¬ (n : Int) = x := by omega
        simp [q, z, e]
    · rw [if_neg q, elB_flt hx n]
      simp at q
      simp [q]
theorem elB_nd (s n : Nat) : (elB s n).Nodup := sorted_nodup (elB_sorted s n)
theorem elB_del {A R : List Int} {x : Int} {s n : Nat} (h : A ++ x :: R = elB s n) : A ++ R = elB (ndN s (2 ^ x.toNat)) n := by
  have hx := elB_mem (s := s) (i := n) (x := x) (by rw [← h]; simp)
  have hn : (x :: (A ++ R)).Nodup := by
    have := elB_nd s n
    rw [← h] at this
    exact (List.perm_middle.nodup_iff).mp this
  have hm := (List.nodup_cons.mp hn).1
  rw [← elB_flt hx.1 n, ← h, List.filter_append, List.filter_cons]
  have hA : A.filter (fun y => !decide (y = x)) = A := List.filter_eq_self.mpr (fun a ha => by
    have : ¬ a = x := fun e => hm (by rw [← e]; simp [ha])
    simp [this])
  have hR : R.filter (fun y => !decide (y = x)) = R := List.filter_eq_self.mpr (fun a ha => by
    have : ¬ a = x := fun e => hm (by rw [← e]; simp [ha])
    simp [this])
  rw [hA, hR]
  simp
theorem fi_key {J : Nat → Nat → Int} {p f : Int} {s n k : Nat} : ∀ (R A : List Int), A ++ R = elB s n → (pmS (pmF k) A R).find? (Qf J p f) = R.findSome? (gdX J n k p f s)
  | [], _, _ => rfl
  | x :: R, A, h => by
    have ih := fi_key (J := J) (p := p) (f := f) (s := s) (n := n) (k := k) R (A ++ [x]) (by rw [← h]; simp)
    rw [pmS, List.find?_append, List.find?_map, ih, List.findSome?_cons, elB_del h]
    have hx := elB_mem (s := s) (i := n) (x := x) (by rw [← h]; simp)
    by_cases q : enB J x.toNat p f = -9
    · have e : (Qf J p f ∘ (x :: ·)) = fun _ => false := by
        funext L
        show (ruS J (stp1 J (some (p, f)) x) L).isSome = false
        unfold stp1
        simp only []
        rw [if_pos q, ruS_none]
        rfl
      have g : gdX J n k p f s x = none := by
        unfold gdX
        rw [if_pos q]
      have z : ∀ T : List (List Int), T.find? (fun _ => false) = none := fun T => by
        rw [List.find?_eq_none]
        intro a _
        simp
      rw [e, g, z]
      rfl
    · have e : (Qf J p f ∘ (x :: ·)) = Qf J (J x.toNat 0) (enB J x.toNat p f) := by
        funext L
        show (ruS J (stp1 J (some (p, f)) x) L).isSome = (ruS J (some (J x.toNat 0, enB J x.toNat p f)) L).isSome
        unfold stp1
        simp only []
        rw [if_neg q]
      have g : gdX J n k p f s x = (fiL J (J x.toNat 0) (enB J x.toNat p f) k (elB (ndN s (2 ^ x.toNat)) n)).map (x :: ·) := by
        unfold gdX
        rw [if_neg q]
      rw [e, g]
      unfold fiL
      cases (pmF k (elB (ndN s (2 ^ x.toNat)) n)).find? (Qf J (J x.toNat 0) (enB J x.toNat p f)) with
      | none => rfl
      | some L => rfl
theorem fi_rec {J : Nat → Nat → Int} {p f : Int} {s n k : Nat} : fiL J p f (k + 1) (elB s n) = (elB s n).findSome? (gdX J n k p f s) := fi_key (elB s n) [] rfl
theorem elB_0 {s n : Nat} (hs : s < 2 ^ n) (h : (elB s n).length = 0) : s = 0 := by
  apply Nat.eq_of_testBit_eq
  intro j
  rw [Nat.zero_testBit]
  cases e : s.testBit j with
  | false => rfl
  | true =>
    exfalso
    have hj : j < n := by
      by_cases z : j < n
      · exact z
      · rw [Nat.testBit_lt_two_pow (Nat.lt_of_lt_of_le hs (Nat.pow_le_pow_right (by decide) (by omega)))] at e
        exact absurd e (by decide)
    have := elB_in e hj
    rw [List.length_eq_zero_iff.mp h] at this
    simp at this
theorem elB_len1 {s n k i : Nat} (h : (elB s n).length = k + 1) (hi : s.testBit i = true) (hn : i < n) : (elB (ndN s (2 ^ i)) n).length = k := by
  obtain ⟨A, R, e⟩ := List.append_of_mem (elB_in hi hn)
  have := elB_del e.symm
  rw [Int.toNat_natCast] at this
  rw [← this]
  rw [e] at h
  simp at h ⊢
  omega
theorem FE_fi {J : Nat → Nat → Int} {n : Nat} : ∀ (k : Nat) (p f : Int) (s : Nat), (elB s n).length = k → s < 2 ^ n → (FE J p f s ↔ ∃ L, fiL J p f k (elB s n) = some L)
  | 0, p, f, s, h, hs => by
    have := elB_0 hs h
    subst this
    rw [List.length_eq_zero_iff.mp h]
    exact ⟨fun _ => ⟨[], rfl⟩, fun _ => FE_0 J p f⟩
  | k + 1, p, f, s, h, hs => by
    have h0 : s ≠ 0 := by
      intro e
      subst e
      cases hL : elB 0 n with
      | nil => rw [hL] at h; simp at h
      | cons x t =>
        have := elB_mem (s := 0) (i := n) (x := x) (by rw [hL]; simp)
        rw [Nat.zero_testBit] at this
        exact absurd this.2.2 (by decide)
    rw [FE_rec h0, fi_rec]
    have bl : ∀ i : Nat, s.testBit i = true → i < n := fun i hi => by
      by_cases z : i < n
      · exact z
      · rw [Nat.testBit_lt_two_pow (Nat.lt_of_lt_of_le hs (Nat.pow_le_pow_right (by decide) (by omega)))] at hi
        exact absurd hi (by decide)
    constructor
    · rintro ⟨i, h1, h2, h3⟩
      obtain ⟨L, hL⟩ := (FE_fi k _ _ _ (elB_len1 h h1 (bl i h1)) (by have := ndN_lt h1; omega)).mp h3
      have g : gdX J n k p f s (i : Int) = some ((i : Int) :: L) := by
        unfold gdX
        rw [Int.toNat_natCast, if_neg h2, hL]
        rfl
      cases hf : (elB s n).findSome? (gdX J n k p f s) with
      | some L2 => exact ⟨L2, rfl⟩
      | none =>
        have := List.findSome?_eq_none_iff.mp hf (i : Int) (elB_in h1 (bl i h1))
        rw [g] at this
        exact absurd this (by simp)
    · rintro ⟨L, hL⟩
      by_cases z : ∀ x ∈ elB s n, gdX J n k p f s x = none
      · rw [List.findSome?_eq_none_iff.mpr z] at hL
        exact absurd hL (by simp)
      · have z2 : ∃ x, x ∈ elB s n ∧ ¬ gdX J n k p f s x = none := by
          apply Classical.byContradiction
          intro y
          apply z
          intro x hx
          apply Classical.byContradiction
          intro u
          exact y ⟨x, hx, u⟩
        obtain ⟨x, hx, hg⟩ := z2
        have hm := elB_mem hx
        unfold gdX at hg
        by_cases q : enB J x.toNat p f = -9
        · rw [if_pos q] at hg
          exact absurd rfl hg
        · rw [if_neg q] at hg
          refine ⟨x.toNat, hm.2.2, q, ?_⟩
          rw [FE_fi k _ _ _ (elB_len1 h hm.2.2 (by omega)) (by have := ndN_lt hm.2.2; omega)]
          cases hf : fiL J (J x.toNat 0) (enB J x.toNat p f) k (elB (ndN s (2 ^ x.toNat)) n) with
          | some L2 => exact ⟨L2, rfl⟩
          | none =>
            rw [hf] at hg
            exact absurd rfl hg
/-- alike in what a way is -/
def WEq (T U : Mm) : Prop := ∀ a, 48 ≤ a → a ≤ 56 → T a = U a
theorem WEq.trans {T U V : Mm} (h : WEq T U) (k : WEq U V) : WEq T V := fun a h1 h2 => (h a h1 h2).trans (k a h1 h2)
theorem me_W {T U : Mm} (h : WEq T U) (i : Int) : WEq (meM T i) (meM U i) := by
  intro a h1 h2
  have eJ : ∀ a, 48 ≤ a → a ≤ 53 → T a = U a := fun a q1 q2 => h a q1 (by omega)
  have e54 := h 54 (by decide) (by decide)
  unfold meM
  rw [e54, endJ_eq eJ, lnJ_eq eJ, plJ_eq eJ]
  funext b
  unfold stM
  rw [h a h1 h2]
def meL (T : Mm) : List Int → Mm
  | [] => T
  | i :: L => meL (meM T i) L
theorem meL_W {T U : Mm} (h : WEq T U) : ∀ L, WEq (meL T L) (meL U L) := by
  intro L
  induction L generalizing T U with
  | nil => exact h
  | cons i L ih => exact ih (me_W h i)
theorem meL_snoc (T : Mm) (L : List Int) (i : Int) : meL T (L ++ [i]) = meM (meL T L) i := by
  induction L generalizing T with
  | nil => rfl
  | cons x L ih => exact ih (meM T x)
theorem gi_find {T : Mm} {J : Nat → Nat → Int} {n : Nat} (hJ : JE T J n) {p f : Int} (hT : T 54 4 = p ∧ T 54 5 = f) (hp : 0 ≤ p ∧ p ≤ 15) (hf : 0 ≤ f) (h3 : T 54 3 < 8) {r k : Nat} (hr : r < 2 ^ n) (hk : (elB r n).length = k + 1) : ∀ m, m ≤ 8 → ((elB r m).findSome? (gdX J n k p f r) = none ∧ (giF T (r : Int) m).2 = (r : Int) ∧ WEq (giF T (r : Int) m).1 T) ∨ ∃ (i : Nat) (L : List Int), (elB r m).findSome? (gdX J n k p f r) = some ((i : Int) :: L) ∧ (i < n ∧ r.testBit i = true ∧ ¬ enB J i p f = -9) ∧ fiL J (J i 0) (enB J i p f) k (elB (ndN r (2 ^ i)) n) = some L ∧ (giF T (r : Int) m).2 = ((ndN r (2 ^ i) : Nat) : Int) ∧ WEq (giF T (r : Int) m).1 (meM T (i : Int))
  | 0, _ => Or.inl ⟨rfl, rfl, fun a _ _ => rfl⟩
  | m + 1, hm => by
    have h8 := hJ.1.2.1
    have ih := gi_find hJ hT hp hf h3 hr hk m (by omega)
    have hbN : bitN (m : Int) = 2 ^ m := by rw [bitN_in ⟨by omega, by omega⟩, Int.toNat_natCast]
    rcases ih with ⟨i1, i2, i3⟩ | ⟨i, L, i1, i2, i3, i4, i5⟩
    · rw [giF, if_pos i2]
      generalize (giF T (r : Int) m).1 = S at i3
      have eJ : ∀ a, 48 ≤ a → a ≤ 53 → S a = T a := fun a q1 q2 => i3 a q1 (by omega)
      have e54 : S 54 = T 54 := i3 54 (by decide) (by decide)
      have hJS : JE S J n := hJ.of eJ
      by_cases q : r.testBit m = true
      · have hmn : m < n := by
          by_cases z : m < n
          · exact z
          · rw [Nat.testBit_lt_two_pow (Nat.lt_of_lt_of_le hr (Nat.pow_le_pow_right (by decide) (by omega)))] at q
            exact absurd q (by decide)
        have hlt := ndN_lt q
        have hen : endJ S (m : Int) (S 54 4) (S 54 5) = enB J m p f := by rw [e54, hT.1, hT.2, (hJS.2 m hmn).1]
        have hpl : plJ S (m : Int) = J m 0 := (hJS.2 m hmn).2.1
        rw [elB, if_pos q, List.findSome?_append, i1]
        show (((none : Option (List Int)).or (List.findSome? (gdX J n k p f r) [(m : Int)])) = none ∧ _) ∨ _
        have eo : ((none : Option (List Int)).or (List.findSome? (gdX J n k p f r) [(m : Int)])) = gdX J n k p f r (m : Int) := by
          rw [List.findSome?_singleton]
          rfl
        rw [eo]
        unfold giS
        rw [Int.toNat_natCast, hbN, hen, hpl]
        by_cases c : enB J m p f = -9
        · left
          rw [if_pos (Or.inr c)]
          refine ⟨?_, rfl, i3⟩
          unfold gdX
          rw [Int.toNat_natCast, if_pos c]
        · rw [if_neg (fun z => z.elim (fun z => by omega) c)]
          have hbb := enB_b hJ.1.2.2 (i := m) (by omega) hp hf
          have hF := rc_FE hJS (p := J m 0) (f := enB J m p f) (hJ.1.2.2 m (by omega)).1 (by omega) (s := ndN r (2 ^ m)) (by omega)
          have hFF := FE_fi (J := J) k (J m 0) (enB J m p f) (ndN r (2 ^ m)) (elB_len1 hk q hmn) (by omega)
          have hRW : WEq (rcM S ((ndN r (2 ^ m) : Nat) : Int) (J m 0) (enB J m p f)) S := fun a q1 q2 => rcM_off S _ _ _ (by omega) (by omega)
          have hok : okW (rcM S ((ndN r (2 ^ m) : Nat) : Int) (J m 0) (enB J m p f)) (m : Int) := by
            have e2 : rcM S ((ndN r (2 ^ m) : Nat) : Int) (J m 0) (enB J m p f) 54 = S 54 := rcM_off S _ _ _ (by decide) (by decide)
            refine ⟨?_, ?_⟩
            · rw [e2, endJ_eq (fun a q1 q2 => hRW a q1 (by omega)), hen]
              exact c
            · rw [e2, e54]
              exact h3
          generalize rcM S ((ndN r (2 ^ m) : Nat) : Int) (J m 0) (enB J m p f) = R at *
          by_cases y : R 59 (ndN r (2 ^ m)) = -9
          · left
            rw [if_neg (fun z => z.1 y)]
            refine ⟨?_, rfl, hRW.trans i3⟩
            unfold gdX
            rw [Int.toNat_natCast, if_neg c]
            cases hfi : fiL J (J m 0) (enB J m p f) k (elB (ndN r (2 ^ m)) n) with
            | none => rfl
            | some L => exact absurd y (hF.mpr (hFF.mpr ⟨L, hfi⟩))
          · right
            rw [if_pos ⟨y, hok⟩]
            obtain ⟨L, hL⟩ := hFF.mp (hF.mp y)
            refine ⟨m, L, ?_, ⟨hmn, q, c⟩, hL, rfl, me_W (hRW.trans i3) _⟩
            unfold gdX
            rw [Int.toNat_natCast, if_neg c, hL]
            rfl
      · left
        rw [elB, if_neg q]
        have e : giS S (r : Int) (m : Int) = (S, (r : Int)) := by
          unfold giS
          rw [if_pos]
          left
          rw [Int.toNat_natCast, hbN]
          have : ndN r (2 ^ m) = r := by
            apply Nat.eq_of_testBit_eq
            intro j
            rw [ndN_bit, p2_bit]
            by_cases z : m = j
            · rw [← z]
              simp at q
              simp [q]
            · simp [z]
          rw [this]
        rw [e]
        exact ⟨i1, rfl, i3⟩
    · right
      have hne : ¬ (giF T (r : Int) m).2 = (r : Int) := by
        rw [i4]
        have := ndN_lt i2.2.1
        omega
      refine ⟨i, L, ?_, i2, i3, ?_⟩
      · rw [elB]
        by_cases q : r.testBit m = true
        · rw [if_pos q, List.findSome?_append, i1]
          rfl
        · rw [if_neg q]
          exact i1
      · rw [giF, if_neg hne]
        exact ⟨i4, i5⟩
theorem goO_front {T : Mm} {w : Int} (hw : ¬ w = 0) : ∀ k, goO T w (k + 1) = goO (giF T w 8).1 (giF T w 8).2 k
  | 0 => by
    have e : goO T w 0 = (T, w) := rfl
    show (if (goO T w 0).2 = 0 then goO T w 0 else giF (goO T w 0).1 (goO T w 0).2 8) = _
    rw [e]
    show (if w = 0 then (T, w) else giF T w 8) = _
    rw [if_neg hw]
    rfl
  | k + 1 => by
    rw [goO, goO_front hw k, goO]
theorem elB_8 {r n : Nat} (hr : r < 2 ^ n) : ∀ {m : Nat}, n ≤ m → elB r m = elB r n
  | 0, h => by rw [show n = 0 by omega]
  | m + 1, h => by
    by_cases q : n = m + 1
    · rw [q]
    · rw [elB, if_neg, elB_8 hr (m := m) (by omega)]
      rw [Nat.testBit_lt_two_pow (Nat.lt_of_lt_of_le hr (Nat.pow_le_pow_right (by decide) (by omega)))]
      decide
theorem go_find {J : Nat → Nat → Int} {n : Nat} : ∀ (k : Nat) {T : Mm} (_ : JE T J n) {p f : Int} (_ : T 54 4 = p ∧ T 54 5 = f) (_ : 0 ≤ p ∧ p ≤ 15) (_ : 0 ≤ f) {r : Nat} (_ : r < 2 ^ n) (_ : (elB r n).length = k) (_ : T 54 3 + (k : Int) ≤ 8) (_ : FE J p f r), ∃ L, fiL J p f k (elB r n) = some L ∧ ∀ d, k ≤ d → (goO T (r : Int) d).2 = 0 ∧ WEq (goO T (r : Int) d).1 (meL T L)
  | 0, T, hJ, p, f, hT, hp, hf, r, hr, hk, h3, hF => by
    have := elB_0 hr hk
    subst this
    rw [List.length_eq_zero_iff.mp hk]
    refine ⟨[], rfl, fun d _ => ?_⟩
    have e := goO_fix (T := T) (w := ((0 : Nat) : Int)) (k := 0) rfl d
    rw [Nat.zero_add] at e
    rw [e]
    exact ⟨rfl, fun a _ _ => rfl⟩
  | k + 1, T, hJ, p, f, hT, hp, hf, r, hr, hk, h3, hF => by
    obtain ⟨L0, hL0⟩ := (FE_fi (J := J) (k + 1) p f r hk hr).mp hF
    have hr0 : ¬ (r : Int) = 0 := by
      intro e
      have : r = 0 := by omega
      subst this
      have e0 : elB 0 n = [] := by
        cases hL : elB 0 n with
        | nil => rfl
        | cons x t =>
          have := elB_mem (s := 0) (i := n) (x := x) (by rw [hL]; simp)
          rw [Nat.zero_testBit] at this
          exact absurd this.2.2 (by decide)
      rw [e0] at hk
      simp at hk
    have g := gi_find hJ hT hp hf (by omega) hr hk 8 (Nat.le_refl 8)
    rw [elB_8 hr hJ.1.2.1, ← fi_rec, hL0] at g
    rcases g with ⟨g1, _⟩ | ⟨i, L, g1, g2, g3, g4, g5⟩
    · exact absurd g1 (by simp)
    · have hmv := meM_v T (i : Int)
      have e54 := g5 54 (by decide) (by decide)
      have eJ : ∀ a, 48 ≤ a → a ≤ 53 → (giF T (r : Int) 8).1 a = T a := fun a q1 q2 => by
        rw [g5 a q1 (by omega), meM_off _ _ ⟨by omega, by omega, by omega⟩]
      have hbb := enB_b hJ.1.2.2 (i := i) (by have := hJ.1.2.1; omega) hp hf
      have hlt := ndN_lt g2.2.1
      have ih := go_find k (T := (giF T (r : Int) 8).1) (hJ.of eJ) (p := J i 0) (f := enB J i p f) ⟨by rw [e54, hmv.1.2.1, (hJ.2 i g2.1).2.1], by rw [e54, hmv.1.2.2, hT.1, hT.2, (hJ.2 i g2.1).1]⟩ (hJ.1.2.2 i (by have := hJ.1.2.1; omega)).1 (by omega) (r := ndN r (2 ^ i)) (by omega) (elB_len1 hk g2.2.1 g2.1) (by rw [e54, hmv.1.1]; omega) ((FE_fi (J := J) k _ _ _ (elB_len1 hk g2.2.1 g2.1) (by omega)).mpr ⟨L, g3⟩)
      obtain ⟨L2, i1, i2⟩ := ih
      rw [g3] at i1
      have eL := Option.some.inj i1
      subst eL
      refine ⟨L0, hL0, fun d hd => ?_⟩
      have e0 := Option.some.inj g1
      have hd2 := i2 (d - 1) (by omega)
      have ef := goO_front (T := T) hr0 (d - 1)
      rw [show d - 1 + 1 = d by omega, g4] at ef
      rw [ef, e0]
      exact ⟨hd2.1, hd2.2.trans (meL_W g5 L)⟩
