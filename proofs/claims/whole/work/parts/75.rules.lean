theorem ldM_of {T M : Mm} (hl : M 23 4 ≤ 8) (e : ∀ a, 23 ≤ a → a ≤ 34 → T a = M a) (f : ∀ a, 48 ≤ a → a ≤ 53 → T a = M a) : ∀ a, 48 ≤ a → a ≤ 53 → ldM T a = ldM M a := by
  intro a h1 h2
  funext b
  have e23 : T 23 = M 23 := e 23 (by decide) (by decide)
  have ep : ∀ x, plc T 23 x = plc M 23 x := plc_off e23 (e 24 (by decide) (by decide))
  unfold ldM ldP
  rw [e23, f a h1 h2]
  by_cases q : (49 ≤ a ∧ a ≤ 53) ∧ (b : Int) < M 23 4
  · have ej : jv T a b = jv M a b := by
      unfold jv
      rw [e (27 + b) (by omega) (by omega), ep]
    rw [ej]
  · rw [if_neg q, if_neg q]
theorem rsF_off {M M2 : Mm} (h84 : M2 84 = M 84) (h85 : M2 85 = M 85) (h77 : ∀ b, b = 12 ∨ b = 15 → M2 77 b = M 77 b) {ls ls2 : Nat → Int} {q : Nat} (hl : ∀ j, j < q → ls2 j = ls j) : ∀ k, rsF M2 ls2 q k = rsF M ls q k := by
  have hj : jbR M2 = jbR M := jbR_off h84 h85
  have hr : ∀ l i p, rkX M2 l i p = rkX M l i p := fun l i p => by
    unfold rkX
    rw [nA_off h85, nA_off h85, nA_off h85, nA_off h85, nA_off h85, h84]
  have ha : ∀ i k p, ∀ f l, l + f ≤ q → axF M2 ls2 i k p f l = axF M ls i k p f l := by
    intro i k p f
    induction f with
    | zero => intro l _; rfl
    | succ f ih =>
      intro l hq
      rw [axF, axF, hl l (by omega), hr, hr, ih (l + 1) (by omega)]
  have ha2 : ∀ i k p, axX M2 ls2 q i k p = axX M ls q i k p := fun i k p => ha i k p q 0 (by omega)
  have hy : ∀ p f met i, nyF M2 ls2 q p f met i = nyF M ls q p f met i := by
    intro p f met i
    induction i with
    | zero => rfl
    | succ i ih => rw [nyF, nyF, ih, hj, ha2]
  have hs : sP M2 = sP M := by
    unfold sP
    rw [h84, h77 15 (by decide)]
  have hS : ∀ s, rsS M2 ls2 q s = rsS M ls q s := fun s => by
    unfold rsS nyX
    rw [hj, h77 12 (by decide), hy]
  intro k
  induction k with
  | zero =>
    rw [rsF, rsF, hs]
  | succ k ih => rw [rsF, rsF, ih, hS]
theorem axF_ge {M : Mm} {ls : Nat → Int} {i k p : Int} (h : k < i) {T : Mm} {lt : Nat → Int} (hr : ∀ l, rkM T i (lt l) = rkX M (ls l) i p ∧ rkM T k (lt l) = rkX M (ls l) k p) (hl : lt = T 62) : ∀ f l, ahF T i k f l = axF M ls i k p f l
  | 0, l => by
    rw [ahF, axF]
    simp
    omega
  | f + 1, l => by
    have h1 := hr l
    subst hl
    rw [ahF, axF, h1.1, h1.2, axF_ge h hr rfl f (l + 1)]
    by_cases q : rkX M (ls l) i p = rkX M (ls l) k p
    · rw [if_pos (by omega), if_pos q]
    · rw [if_neg (by omega), if_neg q]
      have e : (rkX M (ls l) i p - rkX M (ls l) k p < 0) ↔ (rkX M (ls l) i p < rkX M (ls l) k p) := by omega
      simp only [e]
theorem axF_cong2 {M : Mm} {ls l2 : Nat → Int} {i k p : Int} : ∀ f l, (∀ j, l ≤ j → j < l + f → ls j = l2 j) → axF M ls i k p f l = axF M l2 i k p f l
  | 0, l, _ => rfl
  | f + 1, l, h => by rw [axF, axF, h l (by omega) (by omega), axF_cong2 f (l + 1) (fun j h1 h2 => h j (by omega) (by omega))]
/-- a rule's line, on both sides -/
theorem Rl.ru {M T : Mm} (h : Rl M) {ls : Nat → Int} {q : Nat} (e : ∀ a, 23 ≤ a → a ≤ 34 → T a = M a) (eJ : ∀ a, 48 ≤ a → a ≤ 53 → T a = ldM M a) (hq : (T 61 3).toNat = q) (hls : ∀ j, j < q → ls j = T 62 j) : ∀ k, k ≤ 8 → ((0 < M 23 4 → goF (stM (stM (stM T 54 3 0) 54 4 (plc T 23 (T 23 5))) 54 5 0) k 54 4 = (rsF M ls q k).1) ∧ goF (stM (stM (stM T 54 3 0) 54 4 (plc T 23 (T 23 5))) 54 5 0) k 54 5 = (rsF M ls q k).2.1 ∧ (0 ≤ (rsF M ls q k).1 ∧ (rsF M ls q k).1 ≤ 15) ∧ 0 ≤ (rsF M ls q k).2.1) ∧ (goF (stM (stM (stM T 54 3 0) 54 4 (plc T 23 (T 23 5))) 54 5 0) k 54 3 = ((rsF M ls q k).2.2.2.length : Int) ∧ (rsF M ls q k).2.2.2.length ≤ k ∧ sgL (goF (stM (stM (stM T 54 3 0) 54 4 (plc T 23 (T 23 5))) 54 5 0) k 55) 0 (rsF M ls q k).2.2.2.length = (rsF M ls q k).2.2.2) ∧ mtF (goF (stM (stM (stM T 54 3 0) 54 4 (plc T 23 (T 23 5))) 54 5 0) k) (rsF M ls q k).2.2.2.length = (rsF M ls q k).2.2.1 := by
  have hl := h.1.l
  have hm := h.m
  have hok := jbR_ok h.2.2.2.1.1.1
  have hT0 : ∃ T0, T0 = stM (stM (stM T 54 3 0) 54 4 (plc T 23 (T 23 5))) 54 5 0 := ⟨_, rfl⟩
  obtain ⟨T0, hT0⟩ := hT0
  rw [← hT0]
  have o0 : ∀ a, a ≠ 54 → T0 a = T a := fun a ha => by rw [hT0, stM_off ha, stM_off ha, stM_off ha]
  have t3 : T0 54 3 = 0 := by rw [hT0, stM_ne _ _ (by omega), stM_ne _ _ (by omega), stM_at]
  have t4 : T0 54 4 = stp M := by
    rw [hT0, stM_ne _ _ (by omega), stM_at, e 23 (by decide) (by decide), plc_off (e 23 (by decide) (by decide)) (e 24 (by decide) (by decide))]
    rfl
  have t5 : T0 54 5 = 0 := by rw [hT0, stM_at]
  intro k
  induction k with
  | zero =>
    intro _
    have hs : 0 ≤ sP M ∧ sP M ≤ 15 := h.2.2.2.1.1.1.2.1 (M 77 15).toNat (by have := h.2.2.2.1.1.1.1.2.2; omega)
    refine ⟨⟨fun hp => ?_, t5, hs, Int.le_refl 0⟩, ⟨t3, Nat.le_refl 0, rfl⟩, rfl⟩
    show T0 54 4 = sP M
    rw [t4, h.sp hp]
  | succ k ih =>
    intro hk
    have ih := ih (by omega)
    have oS : ∀ a, a ≠ 54 ∧ a ≠ 55 ∧ a ≠ 56 → goF T0 k a = T a := fun a ha => by rw [goF_off T0 ha k, o0 a ha.1]
    rw [goF, rsF]
    generalize hS : goF T0 k = S at *
    generalize hR : rsF M ls q k = R at *
    obtain ⟨⟨i1, i2, i3, i4⟩, ⟨i5, i6, i7⟩, i8⟩ := ih
    have eS : ∀ a, 48 ≤ a → a ≤ 53 → S a = ldM M a := fun a h1 h2 => by rw [oS a ⟨by omega, by omega, by omega⟩]; exact eJ a h1 h2
    have eV : ∀ a, 23 ≤ a → a ≤ 34 → S a = M a := fun a h1 h2 => by rw [oS a ⟨by omega, by omega, by omega⟩]; exact e a h1 h2
    have s61 : S 61 = T 61 := oS 61 (by decide)
    have s62 : S 62 = T 62 := oS 62 (by decide)
    -- the next need is the same
    have rk : ∀ (i : Nat), (i : Int) < M 23 4 → ∀ l, rkM S (i : Int) l = rkX M l (i : Int) R.1 := by
      intro i hi l
      have hs : NS M (i : Int) := ⟨by omega, hi⟩
      have n0 := h.nd hs (k := 0) (by decide)
      have n1 := h.nd hs (k := 1) (by decide)
      have n3 := h.nd hs (k := 3) (by decide)
      have n4 := h.nd hs (k := 4) (by decide)
      have n5 := h.nd hs (k := 5) (by decide)
      simp only [show ((0 : Nat) : Int) = 0 from rfl, show ((1 : Nat) : Int) = 1 from rfl, show ((3 : Nat) : Int) = 3 from rfl, show ((4 : Nat) : Int) = 4 from rfl, show ((5 : Nat) : Int) = 5 from rfl, Int.toNat_natCast] at n0 n1 n3 n4 n5
      have hh := (h.2.1.2.2.2.2.1 i hi).2.2
      have hb := (h.1.nd.2 i (by omega)).2.1.1
      have hp := h.pl (q := M (27 + i) 1) ⟨hb, hh⟩
      unfold rkM rkX
      rw [Int.toNat_natCast, eV (27 + i) (by omega) (by omega), n0, n1, n3, n4, n5, hp, i1 (by omega), plc_off (eV 23 (by decide) (by decide)) (eV 24 (by decide) (by decide))]
    have nx : ∀ i : Nat, (i : Int) ≤ M 23 4 → nxF S i = nyF M ls q R.1 R.2.1 R.2.2.1 i := by
      intro i
      induction i with
      | zero => intro _; rfl
      | succ i ihi =>
        intro hi
        have ihi := ihi (by omega)
        have hb := nyF_b M ls q R.1 R.2.1 R.2.2.1 i
        have hen : endJ S (i : Int) (S 54 4) (S 54 5) = enB (jbR M) i R.1 R.2.1 := by rw [endJ_eq eS, i1 (by omega), i2, h.en (by omega)]
        have hbn := bnB_b hok (i := i) (by omega) i3 i4
        have hin : inS (i : Int) ((mtF S (S 54 3).toNat : Nat) : Int) ↔ R.2.2.1.testBit i = true := by
          rw [i5, Int.toNat_natCast, i8]
          unfold inS
          rw [Int.toNat_natCast, Int.toNat_natCast]
          exact ⟨fun z => z.2.2, fun z => ⟨by omega, by omega, z⟩⟩
        rw [nxF, nyF, ihi, hen]
        generalize hnx : nyF M ls q R.1 R.2.1 R.2.2.1 i = v at *
        have c1 : (¬ inS (i : Int) ((mtF S (S 54 3).toNat : Nat) : Int) ∧ ¬ enB (jbR M) i R.1 R.2.1 = -9) ↔ (¬ R.2.2.1.testBit i = true ∧ ¬ bnB (jbR M) i R.1 R.2.1 = -9) := by
          rw [hin]
          constructor
          · rintro ⟨z1, z2⟩
            exact ⟨z1, by omega⟩
          · rintro ⟨z1, z2⟩
            exact ⟨z1, by omega⟩
        have c2 : (v = -9 ∨ ahM S (i : Int) v = true) ↔ (v = -9 ∨ axX M ls q (i : Int) v R.1 = true) := by
          by_cases z : v = -9
          · exact ⟨fun _ => Or.inl z, fun _ => Or.inl z⟩
          · have hv : ((v.toNat : Nat) : Int) = v := by omega
            have e2 : ahM S (i : Int) v = axX M ls q (i : Int) v R.1 := by
              unfold ahM axX
              rw [s61, hq]
              rw [axF_ge (M := M) (ls := S 62) (p := R.1) (by omega) (fun l => ⟨rk i (by omega) (S 62 l), by
                have := rk v.toNat (by omega) (S 62 l)
                rw [hv] at this
                exact this⟩) rfl q 0]
              exact axF_cong2 q 0 (fun j _ h2 => by rw [s62, hls j (by omega)])
            rw [e2]
        by_cases z : (¬ R.2.2.1.testBit i = true ∧ ¬ bnB (jbR M) i R.1 R.2.1 = -9) ∧ (v = -9 ∨ axX M ls q (i : Int) v R.1 = true)
        · rw [if_pos z, if_pos ⟨c1.mpr z.1, c2.mpr z.2⟩]
        · rw [if_neg z, if_neg (fun y => z ⟨c1.mp y.1, c2.mp y.2⟩)]
    have nxe : nxM S = nyX M ls q R.1 R.2.1 R.2.2.1 := by
      unfold nxM nyX
      rw [eV 23 (by decide) (by decide), hm.2.1]
      exact nx _ (by omega)
    have nyb := nyF_b M ls q R.1 R.2.1 R.2.2.1 (M 77 12).toNat
    have nyc : ∀ i : Nat, nyF M ls q R.1 R.2.1 R.2.2.1 i = -9 ∨ ¬ bnB (jbR M) (nyF M ls q R.1 R.2.1 R.2.2.1 i).toNat R.1 R.2.1 = -9 := by
      intro i
      induction i with
      | zero => exact Or.inl rfl
      | succ i ihi =>
        rw [nyF]
        split
        · rename_i z
          right
          rw [Int.toNat_natCast]
          exact z.1.2
        · exact ihi
    unfold goS rsS
    rw [nxe]
    unfold nyX
    have nycn := nyc (M 77 12).toNat
    generalize nyF M ls q R.1 R.2.1 R.2.2.1 (M 77 12).toNat = v at *
    by_cases z : v = -9
    · rw [if_pos z, if_neg]
      · exact ⟨⟨i1, i2, i3, i4⟩, ⟨i5, by omega, i7⟩, i8⟩
      · intro y
        apply y.1
        rw [z]
        unfold endJ
        rw [if_neg (by omega)]
    · rw [if_neg z]
      have hv : 0 ≤ v ∧ v < M 23 4 := by rw [hm.2.1] at nyb; omega
      have hvn : ((v.toNat : Nat) : Int) = v := by omega
      have hpos : 0 < M 23 4 := by omega
      have hen : endJ S v (S 54 4) (S 54 5) = enB (jbR M) v.toNat R.1 R.2.1 := by
        rw [endJ_eq eS, i1 hpos, i2, h.en (i := v.toNat) (by omega), hvn]
      have hbn := bnB_b hok (i := v.toNat) (by omega) i3 i4
      have hne : ¬ enB (jbR M) v.toNat R.1 R.2.1 = -9 := by
        rcases nycn with y | y
        · exact absurd y z
        · omega
      have hbb := enB_b hok (i := v.toNat) (by omega) i3 i4
      rw [if_pos ⟨by rw [hen]; exact hne, by rw [i5]; omega⟩]
      have hv5 := meM_v S v
      have n3 : (S 54 3).toNat = R.2.2.2.length := by rw [i5]; omega
      have j0 := (hok v.toNat (by omega)).1
      refine ⟨⟨fun _ => ?_, ?_, j0, (by show 0 ≤ enB (jbR M) v.toNat R.1 R.2.1; omega)⟩, ⟨?_, ?_, ?_⟩, ?_⟩
      · rw [hv5.1.2.1, plJ_eq eS]
        have := h.pj (i := v.toNat) (by omega)
        rw [hvn] at this
        exact this
      · rw [hv5.1.2.2, hen]
      · rw [hv5.1.1, i5, List.length_append]
        simp
      · rw [List.length_append]
        simp
        omega
      · have eL : (R.2.2.2 ++ [v]).length = R.2.2.2.length + 1 := by simp
        show sgL (meM S v 55) 0 (R.2.2.2 ++ [v]).length = R.2.2.2 ++ [v]
        rw [eL, sgL_snoc, sgL_cong (l2 := S 55) (fun j _ h2 => by rw [hv5.2.1 j, n3, if_neg (by omega)]), i7, Nat.zero_add, hv5.2.1, n3, if_pos rfl]
      · have eL : (R.2.2.2 ++ [v]).length = R.2.2.2.length + 1 := by simp
        show mtF (meM S v) (R.2.2.2 ++ [v]).length = R.2.2.1 ||| 2 ^ v.toNat
        have hc : ∀ m, m ≤ R.2.2.2.length → mtF (meM S v) m = mtF S m := by
          intro m
          induction m with
          | zero => intro _; rfl
          | succ m ihm =>
            intro hm2
            rw [mtF, mtF, ihm (by omega), hv5.2.1 m, n3, if_neg (by omega)]
        rw [eL, mtF, hc _ (Nat.le_refl _), i8, hv5.2.1, n3, if_pos rfl, bitN_in ⟨hv.1, by omega⟩]
