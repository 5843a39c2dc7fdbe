
/-! orders of a set: how many, the first of them, when it is worn -/
theorem FE_E {J : Nat → Nat → Int} {p f : Int} {s : Nat} {e : Int} (h : IsE J p f s e) : ¬ e = -9 ↔ FE J p f s := by
  constructor
  · intro q
    rcases h with ⟨a1, _⟩ | ⟨⟨_, L, r, l1, l2, _⟩, _⟩
    · exact absurd a1 q
    · exact ⟨L, l1, by rw [l2]; exact fun z => by cases z⟩
  · rintro ⟨L, l1, l2⟩ q
    cases z : ruS J (some (p, f)) L with
    | none => exact l2 z
    | some r =>
      rcases h with ⟨_, a2⟩ | ⟨⟨a0, _⟩, _⟩
      · exact a2 L r l1 z
      · omega
theorem elB_ord {s n : Nat} (hs : s < 2 ^ n) : ordS (elB s n) s := by
  refine ⟨elB_nd s n, fun x => ⟨fun h => ?_, fun h => ?_⟩⟩
  · have := elB_mem h
    exact ⟨this.1, this.2.2⟩
  · have hx : x.toNat < n := by
      by_cases z : x.toNat < n
      · exact z
      · have := Nat.testBit_lt_two_pow (Nat.lt_of_lt_of_le hs (Nat.pow_le_pow_right (by decide) (show n ≤ x.toNat by omega)))
        rw [this] at h
        exact absurd h.2 (by decide)
    have := elB_in h.2 hx
    rwa [Int.toNat_of_nonneg h.1] at this
theorem ors_V {V : Nat → Int} {M : Mm} (hg : GV V) (hv : HW V M) {w : Nat} (hw : w < 2 ^ nN V) : (0 < osA M (w : Int) ↔ ¬ ENV V w = -9) ∧ 0 ≤ osA M (w : Int) ∧ osA M (w : Int) ≤ 16777216 := by
  have hpos := Nat.two_pow_pos (nN V)
  have hc : ¬ ¬ (0 ≤ (w : Int) ∧ (w : Int) ≤ ((allN (M 23 4) : Nat) : Int)) := not_not_intro ⟨by omega, by rw [HW_al hv]; unfold AL; omega⟩
  unfold osA
  rw [if_neg hc]
  by_cases h0 : w = 0
  · subst h0
    rw [if_pos (show ((0 : Nat) : Int) = 0 from rfl), ENV_0 hg]
    exact ⟨⟨fun _ => by decide, fun _ => by decide⟩, by decide, by decide⟩
  · rw [if_neg (by omega), HV_sp hg hv, Int.toNat_natCast, no_all (HV_J hg hv) (V1_b hg) hw (by omega)]
    have hl := elB_len w (nN V)
    have h5 := (nN_5 hg).1
    have hlen := pm_len (elB w (nN V)).length (elB w (nN V)) rfl (by omega)
    have hcl := List.countP_le_length (p := feL (jV V) (V 1)) (l := pmF (elB w (nN V)).length (elB w (nN V)))
    have h88 : 8 ^ (elB w (nN V)).length ≤ 8 ^ 8 := Nat.pow_le_pow_right (by decide) (by omega)
    have e8 : (8 ^ 8 : Nat) = 16777216 := by decide
    refine ⟨?_, by omega, by omega⟩
    rw [FE_E (ENV_E hg hw), FE_fi (elB w (nN V)).length (V 1) 0 w rfl hw]
    unfold fiL
    constructor
    · intro q
      have : 0 < List.countP (feL (jV V) (V 1)) (pmF (elB w (nN V)).length (elB w (nN V))) := by omega
      obtain ⟨L, l1, l2⟩ := List.countP_pos_iff.mp this
      have h : ((pmF (elB w (nN V)).length (elB w (nN V))).find? (Qf (jV V) (V 1) 0)).isSome = true := List.find?_isSome.mpr ⟨L, l1, l2⟩
      exact Option.isSome_iff_exists.mp h
    · rintro ⟨L, hL⟩
      have l1 := List.mem_of_find?_eq_some hL
      have l2 := List.find?_some hL
      have h : 0 < List.countP (feL (jV V) (V 1)) (pmF (elB w (nN V)).length (elB w (nN V))) := List.countP_pos_iff.mpr ⟨L, l1, l2⟩
      omega
/-- the first order, as the class finds it -/
theorem first_V {V : Nat → Int} {M : Mm} (hg : GV V) (hv : HW V M) {w : Nat} (hw : w < 2 ^ nN V) (he : ¬ ENV V w = -9) : ∃ (L : List Int) (q : Int × Int), L.Perm (elB w (nN V)) ∧ ruS (jV V) (some (V 1, 0)) L = some q ∧ (gfO M (w : Int)).2 = 0 ∧ WEq (gfO M (w : Int)).1 (meL (bgM (gfA M (w : Int)) (stp M)) L) := by
  have h5 := (nN_5 hg).1
  have hl := elB_len w (nN V)
  have hJ : JE (bgM (gfA M (w : Int)) (stp M)) (jV V) (nN V) := (gf_J hg hv _).of (fun a h1 h2 => bgM_off _ _ (by omega))
  have b4 : bgM (gfA M (w : Int)) (stp M) 54 4 = V 1 ∧ bgM (gfA M (w : Int)) (stp M) 54 5 = 0 := by
    unfold bgM
    exact ⟨by rw [stM_ne _ _ (Or.inr (by decide)), stM_at, HV_sp hg hv], stM_at _ _ _ _⟩
  have b3 : bgM (gfA M (w : Int)) (stp M) 54 3 = 0 := by
    unfold bgM
    rw [stM_ne _ _ (Or.inr (by decide)), stM_ne _ _ (Or.inr (by decide)), stM_at]
  obtain ⟨L, hL, hd⟩ := go_find (elB w (nN V)).length hJ b4 (V1_b hg) (Int.le_refl 0) hw rfl (by rw [b3]; omega) ((FE_E (ENV_E hg hw)).mp he)
  have hd8 := hd 8 (by omega)
  unfold fiL at hL
  have l1 := List.mem_of_find?_eq_some hL
  have l2 := List.find?_some hL
  have lp := pm_perm _ _ L rfl l1
  obtain ⟨q, hq⟩ := Option.isSome_iff_exists.mp (show (ruS (jV V) (some (V 1, 0)) L).isSome = true from l2)
  exact ⟨L, q, lp, hq, hd8.1, hd8.2⟩
/-- along an order -/
theorem meL_run {J : Nat → Nat → Int} {n : Nat} : ∀ (L : List Int) {T : Mm}, JE T J n → (∀ x ∈ L, 0 ≤ x ∧ x < (n : Int)) → 0 ≤ T 54 3 → ∀ q, ruS J (some (T 54 4, T 54 5)) L = some q → (meL T L 54 4 = q.1 ∧ meL T L 54 5 = q.2) ∧ meL T L 54 3 = T 54 3 + (L.length : Int) ∧ (∀ j : Nat, (j : Int) < T 54 3 → meL T L 55 j = T 55 j) ∧ ∀ j : Nat, j < L.length → meL T L 55 ((T 54 3).toNat + j) = L.getD j 0
  | [], T, _, _, _, q, h => by
    have e : q = (T 54 4, T 54 5) := (Option.some.inj h).symm
    rw [e]
    exact ⟨⟨rfl, rfl⟩, (Int.add_zero _).symm, fun j _ => rfl, fun j hj => absurd hj (Nat.not_lt_zero _)⟩
  | x :: L, T, hJ, hL, h3, q, h => by
    have hx := hL x (List.mem_cons_self ..)
    have ex : x = ((x.toNat : Nat) : Int) := by omega
    rw [ruS_cons] at h
    have e1 : stp1 J (some (T 54 4, T 54 5)) x = if enB J x.toNat (T 54 4) (T 54 5) = -9 then none else some (J x.toNat 0, enB J x.toNat (T 54 4) (T 54 5)) := rfl
    rw [e1] at h
    by_cases c : enB J x.toNat (T 54 4) (T 54 5) = -9
    · rw [if_pos c, ruS_none] at h
      cases h
    · rw [if_neg c] at h
      obtain ⟨⟨m3, m4, m5⟩, m55, -⟩ := meM_v T x
      have j0 := hJ.2 x.toNat (by omega)
      rw [← ex] at j0
      have hJ2 : JE (meM T x) J n := hJ.of (fun a h1 h2 => meM_off T x ⟨by omega, by omega, by omega⟩)
      have ih := meL_run L hJ2 (fun y hy => hL y (List.mem_cons_of_mem _ hy)) (by rw [m3]; omega) q (by rw [m4, m5, j0.2.1, j0.1]; exact h)
      show (meL (meM T x) L 54 4 = q.1 ∧ meL (meM T x) L 54 5 = q.2) ∧ meL (meM T x) L 54 3 = _ ∧ (∀ j : Nat, (j : Int) < T 54 3 → meL (meM T x) L 55 j = T 55 j) ∧ ∀ j : Nat, j < (x :: L).length → meL (meM T x) L 55 ((T 54 3).toNat + j) = (x :: L).getD j 0
      refine ⟨ih.1, by rw [ih.2.1, m3, List.length_cons]; omega, fun j hj => by rw [ih.2.2.1 j (by rw [m3]; omega), m55, if_neg (by omega)], fun j hj => ?_⟩
      cases j with
      | zero =>
        rw [ih.2.2.1 _ (by rw [m3]; omega), Nat.add_zero, m55, if_pos rfl]
        rfl
      | succ j =>
        have := ih.2.2.2 j (by simpa using hj)
        rw [m3, show (T 54 3 + 1).toNat + j = (T 54 3).toNat + (j + 1) by omega] at this
        rw [this]
        rfl
/-! when it is worn -/
def pc (X : Nat) : Int := smZ (fun t => if X.testBit t = true then 1 else 0) 28
theorem smZ_blk (b l : Nat) : ∀ k : Nat, smZ (fun t => if b ≤ t ∧ t < b + l then (1 : Int) else 0) k = ((min k (b + l) - min k b : Nat) : Int)
  | 0 => by simp [smZ]
  | k + 1 => by
    rw [smZ, smZ_blk b l k]
    split <;> omega
theorem blk_bit (b l t : Nat) : ((2 ^ l - 1) * 2 ^ b).testBit t = decide (b ≤ t ∧ t < b + l) := by
  rw [Nat.testBit_mul_two_pow, Nat.testBit_two_pow_sub_one]
  by_cases h : b ≤ t
  · simp only [h, decide_true, Bool.true_and, true_and]
    exact decide_eq_decide.mpr (by omega)
  · simp [h]
theorem pc_or {X f b l : Nat} (hX : X < 2 ^ f) (hb : f ≤ b) (he : b + l ≤ 28) : pc (X ||| (2 ^ l - 1) * 2 ^ b) = pc X + (l : Int) ∧ X ||| (2 ^ l - 1) * 2 ^ b < 2 ^ (b + l) := by
  constructor
  · unfold pc
    have e : smZ (fun t => if (X ||| (2 ^ l - 1) * 2 ^ b).testBit t = true then (1 : Int) else 0) 28 = smZ (fun t => (if X.testBit t = true then 1 else 0) + (if b ≤ t ∧ t < b + l then 1 else 0)) 28 := by
      refine smZ_eq (fun t _ => ?_)
      rw [Nat.testBit_or, blk_bit]
      by_cases h : b ≤ t ∧ t < b + l
      · have : X.testBit t = false := Nat.testBit_lt_two_pow (Nat.lt_of_lt_of_le hX (Nat.pow_le_pow_right (by decide) (by omega)))
        rw [this]
        simp [h]
      · simp [h]
    rw [e, smZ_add, smZ_blk]
    omega
  · refine Nat.or_lt_two_pow (Nat.lt_of_lt_of_le hX (Nat.pow_le_pow_right (by decide) (by omega))) ?_
    have h1 : (2 ^ l - 1) * 2 ^ b < 2 ^ l * 2 ^ b := Nat.mul_lt_mul_of_pos_right (by have := Nat.two_pow_pos l; omega) (Nat.two_pow_pos b)
    rw [← Nat.pow_add, Nat.add_comm] at h1
    exact h1
def lnS (J : Nat → Nat → Int) : List Int → Int
  | [] => 0
  | x :: L => J x.toNat 3 + lnS J L
theorem ww_me {T : Mm} (h3 : 0 ≤ T 54 3) (i : Int) : wwF (meM T i) ((T 54 3).toNat + 1) = wwF T (T 54 3).toNat ||| (2 ^ (lnJ T i).toNat - 1) * 2 ^ (endJ T i (T 54 4) (T 54 5) - lnJ T i).toNat := by
  obtain ⟨-, e55, e56⟩ := meM_v T i
  have el : ∀ x, lnJ (meM T i) x = lnJ T x := fun x => lnJ_eq (fun a h1 h2 => meM_off T i ⟨by omega, by omega, by omega⟩) x
  have lo : ∀ k, k ≤ (T 54 3).toNat → wwF (meM T i) k = wwF T k := by
    intro k
    induction k with
    | zero => intro _; rfl
    | succ k ih => intro hk; rw [wwF, wwF, ih (by omega), e55, e56, if_neg (by omega), if_neg (by omega), el]
  rw [wwF, lo _ (Nat.le_refl _), e55, e56, if_pos rfl, if_pos rfl, el]
theorem ww_run {J : Nat → Nat → Int} {n : Nat} : ∀ (L : List Int) {T : Mm}, JE T J n → (∀ i : Nat, i < n → lnJ T (i : Int) = J i 3) → (∀ x ∈ L, 0 ≤ x ∧ x < (n : Int)) → 0 ≤ T 54 3 → (0 ≤ T 54 4 ∧ T 54 4 ≤ 15) → 0 ≤ T 54 5 → wwF T (T 54 3).toNat < 2 ^ (T 54 5).toNat → ∀ q, ruS J (some (T 54 4, T 54 5)) L = some q → pc (wwF (meL T L) (meL T L 54 3).toNat) = pc (wwF T (T 54 3).toNat) + lnS J L ∧ wwF (meL T L) (meL T L 54 3).toNat < 2 ^ (meL T L 54 5).toNat
  | [], T, _, _, _, _, _, _, hX, q, h => ⟨(Int.add_zero _).symm, hX⟩
  | x :: L, T, hJ, hl, hL, h3, h4, h5, hX, q, h => by
    have hx := hL x (List.mem_cons_self ..)
    have ex : x = ((x.toNat : Nat) : Int) := by omega
    have h8 := hJ.1.2.1
    rw [ruS_cons] at h
    have e1 : stp1 J (some (T 54 4, T 54 5)) x = if enB J x.toNat (T 54 4) (T 54 5) = -9 then none else some (J x.toNat 0, enB J x.toNat (T 54 4) (T 54 5)) := rfl
    rw [e1] at h
    by_cases c : enB J x.toNat (T 54 4) (T 54 5) = -9
    · rw [if_pos c, ruS_none] at h
      cases h
    · rw [if_neg c] at h
      obtain ⟨⟨m3, m4, m5⟩, -, -⟩ := meM_v T x
      have j0 := hJ.2 x.toNat (by omega)
      have hj := hJ.1.2.2 x.toNat (by omega)
      have l0 := hl x.toNat (by omega)
      rw [← ex] at j0 l0
      have hJ2 : JE (meM T x) J n := hJ.of (fun a h1 h2 => meM_off T x ⟨by omega, by omega, by omega⟩)
      have hb := enB_b hJ.1.2.2 (i := x.toNat) (by omega) h4 h5
      have eb : enB J x.toNat (T 54 4) (T 54 5) = bgB J x.toNat (T 54 4) (T 54 5) + J x.toNat 3 := by
        unfold enB at c ⊢
        by_cases z : bgB J x.toNat (T 54 4) (T 54 5) ≤ J x.toNat 2
        · rw [if_pos z]
        · rw [if_neg z] at c
          exact absurd rfl c
      have hbg := bgB_b hJ.1.2.2 (i := x.toNat) (by omega) h4 h5
      have hw := ww_me h3 x
      rw [j0.1, l0] at hw
      have hp := pc_or (f := (T 54 5).toNat) (b := (enB J x.toNat (T 54 4) (T 54 5) - J x.toNat 3).toNat) (l := (J x.toNat 3).toNat) hX (by omega) (by omega)
      have e3 : (meM T x 54 3).toNat = (T 54 3).toNat + 1 := by rw [m3]; omega
      have ih := ww_run L hJ2 (fun i hi => by rw [lnJ_eq (fun a h1 h2 => meM_off T x ⟨by omega, by omega, by omega⟩)]; exact hl i hi) (fun y hy => hL y (List.mem_cons_of_mem _ hy)) (by rw [m3]; omega) (by rw [m4, j0.2.1]; exact hj.1) (by rw [m5, j0.1]; omega) (by
        rw [e3, hw, m5, j0.1, show (enB J x.toNat (T 54 4) (T 54 5)).toNat = (enB J x.toNat (T 54 4) (T 54 5) - J x.toNat 3).toNat + (J x.toNat 3).toNat by omega]
        exact hp.2) q (by rw [m4, m5, j0.2.1, j0.1]; exact h)
      refine ⟨?_, ih.2⟩
      show pc (wwF (meL (meM T x) L) (meL (meM T x) L 54 3).toNat) = pc (wwF T (T 54 3).toNat) + (J x.toNat 3 + lnS J L)
      rw [ih.1, e3, hw, hp.1]
      omega
theorem lnS_perm {J : Nat → Nat → Int} {A B : List Int} (h : A.Perm B) : lnS J A = lnS J B := by
  induction h with
  | nil => rfl
  | cons x _ ih => rw [lnS, lnS, ih]
  | swap x y l => rw [lnS, lnS, lnS, lnS]; omega
  | trans _ _ i1 i2 => rw [i1, i2]
theorem lnS_app {J : Nat → Nat → Int} : ∀ (A B : List Int), lnS J (A ++ B) = lnS J A + lnS J B
  | [], B => by show lnS J B = 0 + lnS J B; omega
  | x :: A, B => by rw [List.cons_append, lnS, lnS, lnS_app A B]; omega
/-- how long a set's NEEDS take -/
def LG (V : Nat → Int) (s k : Nat) : Int := smZ (fun j => if s.testBit j = true then V (14 + 6 * j) else 0) k
theorem lnS_elB {V : Nat → Int} (s : Nat) : ∀ k : Nat, k ≤ nN V → lnS (jV V) (elB s k) = LG V s k
  | 0, _ => rfl
  | k + 1, hk => by
    unfold LG
    rw [elB, smZ]
    have ih := lnS_elB (V := V) s k (by omega)
    unfold LG at ih
    by_cases q : s.testBit k = true
    · rw [if_pos q, if_pos q, lnS_app, ih]
      have e : jV V k 3 = V (14 + 6 * k) := by
        unfold jV
        rw [if_pos (by have : k < (V 9).toNat := by show k < nN V; omega
                       omega), if_neg (by decide), if_neg (by decide), if_neg (by decide), if_pos rfl]
      show _ + (jV V (k : Int).toNat 3 + 0) = _
      rw [Int.toNat_natCast, e]
      omega
    · rw [if_neg q, if_neg q, ih]
      omega
theorem wwF_W {T S : Mm} (h : WEq T S) : ∀ k : Nat, wwF T k = wwF S k
  | 0 => rfl
  | k + 1 => by
    rw [wwF, wwF, wwF_W h k, h 55 (by decide) (by decide), h 56 (by decide) (by decide), lnJ_eq (fun a h1 h2 => h a h1 (by omega))]
theorem ln_V {V : Nat → Int} {M : Mm} (hg : GV V) (hv : HW V M) {i : Nat} (hi : i < nN V) {T : Mm} (e : ∀ a, 48 ≤ a → a ≤ 53 → T a = ldM M a) : lnJ T (i : Int) = jV V i 3 := by
  have hi9 : (i : Int) < V 9 := by have : i < (V 9).toNat := hi; omega
  rw [lnJ_eq e]
  unfold lnJ
  rw [ldM_5, hv.1.2.1, if_pos ⟨by omega, hi9⟩, Int.toNat_natCast, ldM_v (by decide) (by rw [hv.1.2.1]; exact hi9)]
  unfold jv jV
  rw [if_neg (by decide), if_neg (by decide), if_neg (by decide), if_pos rfl, if_pos hi9, if_neg (by decide), if_neg (by decide), if_neg (by decide), if_pos rfl, hv.2.2 i hi9 4 (by decide)]
  exact congrArg V (by omega)
theorem gx_V {V : Nat → Int} {M : Mm} (hg : GV V) (hv : HW V M) {w : Nat} (hw : w < 2 ^ nN V) (he : ¬ ENV V w = -9) : gfA M (w : Int) 59 w = ENV V w ∧ gfX M (w : Int) = (gfO M (w : Int)).1 := by
  have e : gfA M (w : Int) 59 w = ENV V w := gf_ENV hg hv hw (by rw [Int.toNat_natCast]; exact ndN_self w)
  refine ⟨e, ?_⟩
  unfold gfX
  rw [Int.toNat_natCast, e, if_neg he]
theorem okw_V {V : Nat → Int} {M : Mm} (hv : HW V M) {w : Nat} (hw : w < 2 ^ nN V) : ¬ ¬ (0 ≤ (w : Int) ∧ (w : Int) ≤ ((allN (M 23 4) : Nat) : Int)) := by
  have hpos := Nat.two_pow_pos (nN V)
  exact not_not_intro ⟨by omega, by rw [HW_al hv]; unfold AL; omega⟩
/-- worn() -/
theorem wor_V {V : Nat → Int} {M : Mm} (hg : GV V) (hv : HW V M) {w : Nat} (hw : w < 2 ^ nN V) (he : ¬ ENV V w = -9) : ∃ X : Nat, worA M (w : Int) = (X : Int) ∧ X < 2 ^ 28 ∧ pc X = LG V w (nN V) := by
  have h5 := (nN_5 hg).1
  obtain ⟨L, q, lp, lq, lo, lw⟩ := first_V hg hv hw he
  have hord : ordS L w := ordS_perm lp (elB_ord hw)
  have hlt := ordS_lt hord hw
  obtain ⟨g1, g2⟩ := gx_V hg hv hw he
  have hJ : JE (bgM (gfA M (w : Int)) (stp M)) (jV V) (nN V) := (gf_J hg hv _).of (fun a h1 h2 => bgM_off _ _ (by omega))
  have b4 : bgM (gfA M (w : Int)) (stp M) 54 4 = V 1 ∧ bgM (gfA M (w : Int)) (stp M) 54 5 = 0 := by
    unfold bgM
    exact ⟨by rw [stM_ne _ _ (Or.inr (by decide)), stM_at, HV_sp hg hv], stM_at _ _ _ _⟩
  have b3 : bgM (gfA M (w : Int)) (stp M) 54 3 = 0 := by
    unfold bgM
    rw [stM_ne _ _ (Or.inr (by decide)), stM_ne _ _ (Or.inr (by decide)), stM_at]
  have hr := ww_run L hJ (fun i hi => ln_V hg hv hi (fun a h1 h2 => by rw [bgM_off _ _ (by omega)]; exact gfA_J a h1 h2)) hlt (by rw [b3]; decide) (by rw [b4.1]; exact V1_b hg) (by rw [b4.2]; decide) (by rw [b3, b4.2]; show (0 : Nat) < 2 ^ 0; decide) q (by rw [b4.1, b4.2]; exact lq)
  have hm := meL_run L hJ hlt (by rw [b3]; decide) q (by rw [b4.1, b4.2]; exact lq)
  have hq := ruS_b (jV_ok hg) (V1_b hg) L (fun x hx => by have := hlt x hx; omega) (Int.le_refl 0) q lq
  have hq28 : q.2 ≤ 28 := by
    by_cases z : L = []
    · rw [z] at lq
      have : q = (V 1, 0) := (Option.some.inj lq).symm
      rw [this]
      show (0 : Int) ≤ 28
      decide
    · exact hq.2.2 z
  refine ⟨wwF (gfX M (w : Int)) (gfX M (w : Int) 54 3).toNat, ?_, ?_, ?_⟩
  · unfold worA
    rw [if_neg (okw_V hv hw), Int.toNat_natCast, g1, if_neg (not_not_intro ⟨he, lo⟩)]
  · rw [g2, wwF_W lw, lw 54 (by decide) (by decide)]
    refine Nat.lt_of_lt_of_le hr.2 (Nat.pow_le_pow_right (by decide) ?_)
    rw [hm.1.2]
    omega
  · rw [g2, wwF_W lw, lw 54 (by decide) (by decide), hr.1, b3, lnS_perm lp, lnS_elB w _ (Nat.le_refl _)]
    show pc 0 + _ = _
    have : pc 0 = 0 := by decide
    rw [this]
    omega
/-- first() into ROW 1, order() of it -/
theorem fst_V {V : Nat → Int} {M : Mm} (hg : GV V) (hv : HW V M) {w : Nat} (hw : w < 2 ^ nN V) (he : ¬ ENV V w = -9) : fstA M (w : Int) 1 = 1 ∧ fstM M (w : Int) 1 = twM (gfO M (w : Int)).1 5 := by
  obtain ⟨L, q, lp, lq, lo, lw⟩ := first_V hg hv hw he
  obtain ⟨g1, g2⟩ := gx_V hg hv hw he
  have hc : ¬ (¬ R6 1 ∨ ¬ (0 ≤ (w : Int) ∧ (w : Int) ≤ ((allN (M 23 4) : Nat) : Int))) := fun z => z.elim (fun y => y (by decide)) (fun y => okw_V hv hw y)
  have hc2 : ¬ ¬ (¬ gfA M (w : Int) 59 (w : Int).toNat = -9 ∧ (gfO M (w : Int)).2 = 0) := not_not_intro ⟨by rw [Int.toNat_natCast, g1]; exact he, lo⟩
  unfold fstA fstM
  rw [if_neg hc, if_neg hc2, if_neg hc, if_neg hc2, g2]
  exact ⟨rfl, rfl⟩
theorem sgL_eq : ∀ (L : List Int) (f : Nat → Int) (a : Nat), (∀ j : Nat, j < L.length → f (a + j) = L.getD j 0) → sgL f a L.length = L
  | [], _, _, _ => rfl
  | x :: L, f, a, h => by
    rw [List.length_cons, sgL]
    have h0 : f a = x := h 0 (by simp)
    rw [h0, sgL_eq L f (a + 1) (fun j hj => by
      have := h (j + 1) (by simpa using hj)
      rw [show a + 1 + j = a + (j + 1) by omega, this]
      rfl)]
theorem mtG_v {f : Nat → Int} : ∀ {k : Nat} {x : Nat}, (∀ j, j < k → 0 ≤ f j ∧ f j < 8) → ((mtG f k).testBit x = true ↔ ∃ j, j < k ∧ f j = (x : Int))
  | 0, x, _ => by
    show (0 : Nat).testBit x = true ↔ _
    simp
  | k + 1, x, h => by
    have hk := h k (by omega)
    rw [mtG, Nat.testBit_or, bitN_in hk, Nat.testBit_two_pow, Bool.or_eq_true, mtG_v (fun j hj => h j (by omega)), decide_eq_true_iff]
    constructor
    · rintro (⟨j, j1, j2⟩ | q)
      · exact ⟨j, by omega, j2⟩
      · exact ⟨k, by omega, by omega⟩
    · rintro ⟨j, j1, j2⟩
      by_cases z : j = k
      · subst z
        exact Or.inr (by omega)
      · exact Or.inl ⟨j, by omega, j2⟩
theorem gD {L : List Int} {i : Nat} (hi : i < L.length) : L.getD i 0 = L[i] := by
  rw [List.getD_eq_getElem?_getD, List.getElem?_eq_getElem hi]
  rfl
theorem getD_inj {L : List Int} (h : L.Nodup) {i j : Nat} (hi : i < L.length) (hj : j < L.length) (e : L.getD i 0 = L.getD j 0) : i = j := by
  rw [gD hi, gD hj] at e
  exact (List.getElem_inj h).mp e
theorem ga_run {J : Nat → Nat → Int} {n : Nat} {f : Nat → Int} {T : Mm} (hJ : JE T J n) (h3 : T 54 3 = 0) {m : Nat} (hm8 : m ≤ 8) (hf : ∀ j, j < m → 0 ≤ f j ∧ f j < (n : Int)) (hr : ¬ ruS J (some (T 54 4, T 54 5)) (sgL f 0 m) = none) : ∀ k, k ≤ m → (gaF f T k).2 = true
  | 0, _ => rfl
  | k + 1, hk => by
    have ih := ga_run hJ h3 hm8 hf hr k (by omega)
    have pre : ∀ d, k + 1 + d ≤ m → ¬ ruS J (some (T 54 4, T 54 5)) (sgL f 0 (k + 1 + d)) = none → ¬ ruS J (some (T 54 4, T 54 5)) (sgL f 0 (k + 1)) = none := by
      intro d
      induction d with
      | zero => intro _ h; exact h
      | succ d ihd =>
        intro hd h
        refine ihd (by omega) (fun z => h ?_)
        rw [← Nat.add_assoc, sgL_snoc, ruS_snoc, z]
        rfl
    have hk1 := pre (m - (k + 1)) (by omega) (by rw [show k + 1 + (m - (k + 1)) = m by omega]; exact hr)
    rw [sgL_snoc, ruS_snoc, Nat.zero_add] at hk1
    cases hq : ruS J (some (T 54 4, T 54 5)) (sgL f 0 k) with
    | none => rw [hq] at hk1; exact absurd rfl hk1
    | some q =>
      rw [hq] at hk1
      have e1 : stp1 J (some q) (f k) = if enB J (f k).toNat q.1 q.2 = -9 then none else some (J (f k).toNat 0, enB J (f k).toNat q.1 q.2) := rfl
      rw [e1] at hk1
      have hne : ¬ enB J (f k).toNat q.1 q.2 = -9 := fun z => hk1 (by rw [if_pos z])
      have eg := ga_ok ih
      have sl : ∀ (m a : Nat), (sgL f a m).length = m := by
        intro m
        induction m with
        | zero => intro a; rfl
        | succ m ihm => intro a; rw [sgL, List.length_cons, ihm]
      have smem : ∀ (m a : Nat), ∀ x ∈ sgL f a m, ∃ j, a ≤ j ∧ j < a + m ∧ x = f j := by
        intro m
        induction m with
        | zero => intro a x hx; simp [sgL] at hx
        | succ m ihm =>
          intro a x hx
          rw [sgL, List.mem_cons] at hx
          rcases hx with rfl | hx
          · exact ⟨a, by omega, by omega, rfl⟩
          · obtain ⟨j, j1, j2, j3⟩ := ihm (a + 1) x hx
            exact ⟨j, by omega, by omega, j3⟩
      have hrun := meL_run (sgL f 0 k) hJ (fun x hx => by
        obtain ⟨j, _, j2, j3⟩ := smem k 0 x hx
        rw [j3]
        exact hf j (by omega)) (by rw [h3]; decide) q hq
      have hfk := hf k (by omega)
      have ok : okW (gaF f T k).1 (f k) := by
        rw [eg]
        refine ⟨?_, ?_⟩
        · rw [hrun.1.1, hrun.1.2]
          have hJ2 : JE (meL T (sgL f 0 k)) J n := by
            rw [← eg]
            exact hJ.of (fun a h1 h2 => gaF_off f T ⟨by omega, by omega, by omega⟩ k)
          have := (hJ2.2 (f k).toNat (by omega)).1 q.1 q.2
          rw [Int.toNat_of_nonneg hfk.1] at this
          rw [this]
          exact hne
        · rw [hrun.2.1, h3, sl]
          omega
      rw [gaF, if_pos ⟨ih, ok⟩]
theorem ord_V {V : Nat → Int} {M : Mm} (hg : GV V) (hv : HW V M) (hc : CI M) {w : Nat} (hw : w < 2 ^ nN V) (he : ¬ ENV V w = -9) : (0 ≤ ordA (fstM M (w : Int) 1) 1 ∧ ordA (fstM M (w : Int) 1) 1 ≤ 8) ∧ ENV V w ≤ ordM (fstM M (w : Int) 1) 1 0 15 ∧ ordM (fstM M (w : Int) 1) 1 0 15 ≤ 28 := by
  have h5 := (nN_5 hg).1
  obtain ⟨L, q, lp, lq, lo, lw⟩ := first_V hg hv hw he
  have hord : ordS L w := ordS_perm lp (elB_ord hw)
  have hlt := ordS_lt hord hw
  have hll : L.length ≤ nN V := by rw [lp.length_eq]; exact elB_len w (nN V)
  have hk := KP_first hc (w : Int)
  have hv2 := hv.kp hk
  have hJ0 : JE (bgM (gfA M (w : Int)) (stp M)) (jV V) (nN V) := (gf_J hg hv _).of (fun a h1 h2 => bgM_off _ _ (by omega))
  have b4 : bgM (gfA M (w : Int)) (stp M) 54 4 = V 1 ∧ bgM (gfA M (w : Int)) (stp M) 54 5 = 0 := by
    unfold bgM
    exact ⟨by rw [stM_ne _ _ (Or.inr (by decide)), stM_at, HV_sp hg hv], stM_at _ _ _ _⟩
  have b3 : bgM (gfA M (w : Int)) (stp M) 54 3 = 0 := by
    unfold bgM
    rw [stM_ne _ _ (Or.inr (by decide)), stM_ne _ _ (Or.inr (by decide)), stM_at]
  have hm := meL_run L hJ0 hlt (by rw [b3]; decide) q (by rw [b4.1, b4.2]; exact lq)
  rw [b3] at hm
  have eF := (fst_V hg hv hw he).2
  generalize hM2 : fstM M (w : Int) 1 = M2 at *
  -- the ROW
  have r1 : M2 5 1 = (L.length : Int) := by
    rw [eF]
    unfold twM twP
    rw [if_pos ⟨rfl, rfl⟩, lw 54 (by decide) (by decide), hm.2.1]
    omega
  have r2 : ∀ j : Nat, j < L.length → M2 6 j = L.getD j 0 := fun j hj => by
    rw [eF]
    have hlt3 : (j : Int) < (gfO M (w : Int)).1 54 3 := by rw [lw 54 (by decide) (by decide), hm.2.1]; omega
    unfold twM twP
    rw [if_neg (fun z => by have := z.1; omega), if_pos ⟨rfl, hlt3⟩, if_pos hlt3, lw 55 (by decide) (by decide)]
    have := hm.2.2.2 j hj
    rwa [show (0 : Int).toNat + j = j by simp] at this
  have rm : ∀ j : Nat, j < L.length → 0 ≤ M2 6 j ∧ M2 6 j < ((nN V : Nat) : Int) := fun j hj => by
    rw [r2 j hj, gD hj]
    exact hlt _ (List.getElem_mem hj)
  have hn := HW_n hg hv2
  have w0 : wioV M2 5 = 0 := by
    unfold wioV
    rw [r1, hn, if_neg (by omega), if_neg (by omega), Int.toNat_natCast, if_pos]
    intro j hj
    refine ⟨rm j hj, fun z => ?_⟩
    have z2 := z.2.2
    rw [Int.toNat_natCast] at z2
    obtain ⟨i, i1, i2⟩ := (mtG_v (f := M2 (5 + 1)) (k := j) (fun i hi => by have := rm i (by omega); exact ⟨this.1, by have h := this.2; show M2 6 i < 8; omega⟩)).mp z2
    have hj0 := (rm j hj).1
    rw [Int.toNat_of_nonneg hj0] at i2
    have e2 : M2 6 i = M2 6 j := i2
    rw [r2 i (by omega), r2 j hj] at e2
    have := getD_inj hord.1 (by omega) hj e2
    omega
  -- along it
  have hJ2 : JE (bgM (ldM M2) (stp M2)) (jV V) (nN V) := (HV_J hg hv2).of (fun a h1 h2 => bgM_off _ _ (by omega))
  have c4 : bgM (ldM M2) (stp M2) 54 4 = V 1 ∧ bgM (ldM M2) (stp M2) 54 5 = 0 := by
    unfold bgM
    exact ⟨by rw [stM_ne _ _ (Or.inr (by decide)), stM_at, HV_sp hg hv2], stM_at _ _ _ _⟩
  have c3 : bgM (ldM M2) (stp M2) 54 3 = 0 := by
    unfold bgM
    rw [stM_ne _ _ (Or.inr (by decide)), stM_ne _ _ (Or.inr (by decide)), stM_at]
  have sg : sgL (M2 6) 0 L.length = L := sgL_eq L (M2 6) 0 (fun j hj => by rw [Nat.zero_add]; exact r2 j hj)
  have hg2 := ga_run (f := M2 6) hJ2 c3 (m := L.length) (by omega) (fun j hj => rm j hj) (by rw [sg, c4.1, c4.2, lq]; exact fun z => by cases z) L.length (Nat.le_refl _)
  have eg : gaM M2 5 = meL (bgM (ldM M2) (stp M2)) L := by
    unfold gaM
    rw [r1, Int.toNat_natCast]
    have := ga_ok hg2
    rw [sg] at this
    exact this
  have hm2 := meL_run L hJ2 hlt (by rw [c3]; decide) q (by rw [c4.1, c4.2]; exact lq)
  rw [c3] at hm2
  have hq := ruS_b (jV_ok hg) (V1_b hg) L (fun x hx => by have := hlt x hx; omega) (Int.le_refl 0) q lq
  have hq28 : q.2 ≤ 28 := by
    by_cases z : L = []
    · rw [z] at lq
      have : q = (V 1, 0) := (Option.some.inj lq).symm
      rw [this]
      show (0 : Int) ≤ 28
      decide
    · exact hq.2.2 z
  have hE : ENV V w ≤ q.2 := by
    rcases ENV_E hg hw with ⟨a1, _⟩ | ⟨_, a2⟩
    · exact absurd a1 he
    · exact a2 L q hord lq
  unfold ordA ordM
  have e5 : 3 + 2 * (1 : Int).toNat = 5 := rfl
  rw [e5, if_neg (by decide), w0, if_neg (by decide), if_neg (by decide), if_neg (by decide), eg, hm2.2.1]
  rw [show tdM (meL (bgM (ldM M2) (stp M2)) L) (meL (bgM (ldM M2) (stp M2)) L 54 5) 0 15 = meL (bgM (ldM M2) (stp M2)) L 54 5 from stM_at _ _ _ _, hm2.1.2]
  exact ⟨⟨by omega, by omega⟩, hE, hq28⟩

