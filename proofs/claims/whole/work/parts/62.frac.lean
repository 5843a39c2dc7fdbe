theorem em_le {b r : Int} (hb : 0 ≤ b) (hr : 0 < r) (h : r ≤ b) : b % r ≤ b - r := by
  obtain ⟨x, rfl⟩ := Int.eq_ofNat_of_zero_le hb
  obtain ⟨y, rfl⟩ := Int.eq_ofNat_of_zero_le (Int.le_of_lt hr)
  have e : (x : Int) % (y : Int) = ((x % y : Nat) : Int) := rfl
  have h1 : x % y = (x - y) % y := Nat.mod_eq_sub_mod (by omega)
  have h2 : (x - y) % y ≤ x - y := Nat.mod_le _ _
  rw [e, h1]
  omega
theorem gdF_0 {a : Int} : ∀ {k : Nat}, 1 ≤ k → gdF k a 0 = a
  | 0, h => absurd h (by decide)
  | k + 1, _ => by rw [gdF, if_pos rfl]
theorem gdF_gc : ∀ (j k : Nat) (a b : Int), 0 ≤ a → 0 ≤ b → b < ((2 ^ j : Nat) : Int) → 2 * j + 1 ≤ k → gdF k a b = gcN a b
  | 0, k, a, b, ha, hb, hj, hk => by
    have hb0 : b = 0 := by simp at hj; omega
    rw [hb0, gdF_0 (by omega), gcN_0 ha]
  | j + 1, 0, a, b, ha, hb, hj, hk => absurd hk (by omega)
  | j + 1, 1, a, b, ha, hb, hj, hk => absurd hk (by omega)
  | j + 1, k + 2, a, b, ha, hb, hj, hk => by
    by_cases c : b = 0
    · rw [c, gdF_0 (by omega), gcN_0 ha]
    · have h1 := Int.emod_nonneg a c
      have h2 := Int.emod_lt_of_pos a (by omega : 0 < b)
      rw [gdF, if_neg c, gcN_s ha hb]
      by_cases c2 : a % b = 0
      · rw [c2, gdF_0 (by omega), gcN_0 hb]
      · have h3 := Int.emod_nonneg b c2
        have h4 := Int.emod_lt_of_pos b (by omega : 0 < a % b)
        have h5 := em_le hb (by omega : 0 < a % b) (by omega)
        rw [gdF, if_neg c2, gcN_s hb h1]
        refine gdF_gc j k (a % b) (b % (a % b)) h1 h3 ?_ (by omega)
        rw [Nat.pow_succ] at hj
        omega
theorem gd200 {u l : Int} (hu : 0 ≤ u) (hl : 0 ≤ l ∧ l < 1000000000000) : gdF 200 u l = gcN u l := by
  have e : (2 ^ 40 : Nat) = 1099511627776 := by decide
  refine gdF_gc 40 200 u l hu hl.1 ?_ (by decide)
  rw [e]
  omega
theorem Rl.frac {M : Mm} (h : Rl M) {u l : Int} (hu : 0 ≤ u) (hl : 0 < l ∧ l < 1000000000000) : Rl (rfM (frM M u l) u l) := by
  have hg := gd200 hu (l := l) ⟨by omega, hl.2⟩
  have hp := gcN_pos (u := u) hl.1
  unfold frM
  rw [hg, if_pos hp]
  unfold rfM
  generalize u.tdiv (gcN u l) = x
  generalize l.tdiv (gcN u l) = y
  have e : ∀ a b, ¬ (a = 0 ∧ b = 16) → ¬ (a = 0 ∧ b = 17) → ¬ (a = 77 ∧ b = 3) → ¬ (a = 77 ∧ b = 4) → stM (stM (stM (stM M 0 16 x) 0 17 y) 77 3 x) 77 4 y a b = M a b := fun a b h1 h2 h3 h4 => by rw [stM_ne _ _ (by omega), stM_ne _ _ (by omega), stM_ne _ _ (by omega), stM_ne _ _ (by omega)]
  have k1 : stM (stM (stM (stM M 0 16 x) 0 17 y) 77 3 x) 77 4 y 77 4 = y := stM_at _ _ _ _
  have k2 : stM (stM (stM (stM M 0 16 x) 0 17 y) 77 3 x) 77 4 y 77 3 = x := by rw [stM_ne _ _ (by omega)]; exact stM_at _ _ _ _
  have k3 : stM (stM (stM (stM M 0 16 x) 0 17 y) 77 3 x) 77 4 y 0 17 = y := by rw [stM_ne _ _ (by omega), stM_ne _ _ (by omega)]; exact stM_at _ _ _ _
  have k4 : stM (stM (stM (stM M 0 16 x) 0 17 y) 77 3 x) 77 4 y 0 16 = x := by rw [stM_ne _ _ (by omega), stM_ne _ _ (by omega), stM_ne _ _ (by omega)]; exact stM_at _ _ _ _
  have hO := h.2.2.1.2.2
  refine h.ke (fun a b q => e a b (by unfold keC at q; omega) (by unfold keC at q; omega) (by unfold keC at q; omega) (by unfold keC at q; omega)) (h.1.fr0 (fun a h1 h2 => by funext b; exact e a b (by omega) (by omega) (by omega) (by omega))) ?_ (RB_of h.2.2.2.2 (by funext b; exact e 87 b (by omega) (by omega) (by omega) (by omega)) (by funext b; exact e 88 b (by omega) (by omega) (by omega) (by omega)))
  unfold RlO at hO ⊢
  rw [k1, k2, k3, k4, e 77 2 (by omega) (by omega) (by omega) (by omega), e 77 0 (by omega) (by omega) (by omega) (by omega), e 0 14 (by omega) (by omega) (by omega) (by omega), e 0 15 (by omega) (by omega) (by omega) (by omega)]
  refine ⟨⟨hO.1.1, hO.1.2.1, rfl, rfl⟩, fun f h1 h2 => ?_⟩
  rw [e 78 f (by omega) (by omega) (by omega) (by omega), e 76 f (by omega) (by omega) (by omega) (by omega)]
  exact hO.2 f h1 h2
theorem Rl.kw {M : Mm} (h : Rl M) {r x : Int} (hr : R6 r) (hs : M (3 + 2 * r.toNat) 1 = M 23 3) (hx : HS M x) : xkW M r x (M 77 10).toNat = cbV M x (3 + 2 * r.toNat) := by
  have hl := h.1.l
  unfold xkW cbV
  rw [h.m.1]
  refine smZ_eq (fun j hj => ?_)
  have h1 := h.r2 (i := (j : Int)) hr (by omega)
  have h2 := h.pl (q := (j : Int)) ⟨by omega, by omega⟩
  rw [Int.toNat_natCast] at h1 h2
  rw [h1, h.pl hx, h2]
theorem Rl.kf {M : Mm} (h : Rl M) {r : Int} (hr : R6 r) (hs : M (3 + 2 * r.toNat) 1 = M 23 3) : ∀ {k : Nat}, ((k + 1 : Nat) : Int) ≤ M 23 3 → xkF M r (M 77 10).toNat (k + 1) = (keF M (3 + 2 * r.toNat) k, cbV M (keF M (3 + 2 * r.toNat) k) (3 + 2 * r.toNat))
  | 0, hk => by
    have e : xkF M r (M 77 10).toNat (0 + 1) = (((0 : Nat) : Int), xkW M r ((0 : Nat) : Int) (M 77 10).toNat) := by
      rw [xkF]
      exact if_pos (Or.inl rfl)
    rw [e, h.kw hr hs (x := ((0 : Nat) : Int)) ⟨by omega, by omega⟩]
    rfl
  | k + 1, hk => by
    rw [xkF, h.kf hr hs (k := k) (by omega), h.kw hr hs (x := ((k + 1 : Nat) : Int)) ⟨by omega, by omega⟩]
    have hb := keF_b M (3 + 2 * r.toNat) k
    rw [keF]
    by_cases q : cbV M ((k + 1 : Nat) : Int) (3 + 2 * r.toNat) < cbV M (keF M (3 + 2 * r.toNat) k) (3 + 2 * r.toNat)
    · rw [if_pos (Or.inr q), if_pos q]
    · rw [if_neg (by simp only []; omega), if_neg q]
theorem Rl.ko {M : Mm} (h : Rl M) {r : Int} (hr : R6 r) : ∀ {k : Nat}, (k : Int) ≤ M (3 + 2 * r.toNat) 1 → ((xkO M r k = true) ↔ ∀ j : Nat, j < k → 0 ≤ M (3 + 2 * r.toNat + 1) j ∧ M (3 + 2 * r.toNat + 1) j ≤ 99) := by
  intro k hk
  rw [xkO_iff]
  constructor
  · intro z j hj
    have h1 := h.r2 (i := (j : Int)) hr (by omega)
    rw [Int.toNat_natCast] at h1
    rw [← h1]
    exact z j hj
  · intro z j hj
    have h1 := h.r2 (i := (j : Int)) hr (by omega)
    rw [Int.toNat_natCast] at h1
    rw [h1]
    exact z j hj
theorem pr_keep {M : Mm} (h : Rl M) (r : Int) : xkeA (keeM M r) r = keeA M r ∧ Rl (xkeM (keeM M r) r) := by
  have hl := h.1.l
  have hm := h.m
  unfold xkeA keeA xkeM keeM
  by_cases c : R6 r
  · have e1 := h.r1 c
    have kf : ∀ f, fdM M f 79 = M 79 := fun f => fdM_o (by decide) (by decide)
    have kg : ∀ f, fdM M f 77 10 = M 23 3 := fun f => by
      unfold fdM
      rw [stM_off (by decide), stM_off (by decide)]
      exact hm.1
    have ko : ∀ f k, xkO (fdM M f) r k = xkO M r k := fun f k => by
      induction k with
      | zero => rfl
      | succ k ih =>
        have : rcA (fdM M f) r (k : Int) = rcA M r (k : Int) := by unfold rcA; rw [fdM_o (by decide) (by decide)]
        rw [xkO, xkO, ih, this]
    have ks : ∀ f k, xkS (fdM M f) r k = xkS M r k := fun f k => by
      unfold xkS
      refine smZ_eq (fun j _ => ?_)
      unfold rcA
      rw [fdM_o (by decide) (by decide)]
    by_cases c1 : M (3 + 2 * r.toNat) 1 < 0
    · simp only [if_neg (not_not_intro c), if_pos c1, kf, e1]
      exact ⟨trivial, h.meet 1 (by decide)⟩
    · by_cases c2 : M (3 + 2 * r.toNat) 1 = M 23 3
      · have hw : w99 M (3 + 2 * r.toNat) ↔ xkO M r (M 23 3).toNat = true := by
          rw [h.ko c (by omega)]
          unfold w99
          rw [c2]
        have hS : xkS M r (M 23 3).toNat = kpS M (3 + 2 * r.toNat) := by
          unfold xkS kpS
          rw [c2]
          refine smZ_eq (fun j hj => ?_)
          have h1 := h.r2 (i := (j : Int)) c (by omega)
          rw [Int.toNat_natCast] at h1
          exact h1
        by_cases c3 : w99 M (3 + 2 * r.toNat)
        · have x3 := hw.mp c3
          by_cases c4 : kpS M (3 + 2 * r.toNat) = 0
          · simp only [if_neg (not_not_intro c), if_neg c1, if_neg (not_not_intro c2), if_neg (not_not_intro c3), if_pos c4, kf, e1, kg, ko, ks, if_neg (not_not_intro x3), hS]
            exact ⟨trivial, h.meet 4 (by decide)⟩
          · have hh1 : 1 ≤ M 23 3 := by
              rcases (show M 23 3 = 0 ∨ 1 ≤ M 23 3 by omega) with z | z
              · exact absurd (show kpS M (3 + 2 * r.toNat) = 0 by unfold kpS; rw [show (M (3 + 2 * r.toNat) 1).toNat = 0 by omega]; rfl) c4
              · exact z
            have hF := h.kf c c2 (k := (M 23 3).toNat - 1) (by omega)
            rw [show (M 23 3).toNat - 1 + 1 = (M 23 3).toNat by omega, hm.1] at hF
            have hb := cbV_b h.1 c2 c3 (kpN M (3 + 2 * r.toNat))
            have hsb := smZ_le (f := M (3 + 2 * r.toNat + 1)) (c := 99) (M (3 + 2 * r.toNat) 1).toNat c3
            have hfr := h.frac (u := cbV M (kpN M (3 + 2 * r.toNat)) (3 + 2 * r.toNat)) (l := kpS M (3 + 2 * r.toNat)) hb.1 (by unfold kpS at c4 ⊢; omega)
            have gp := gcN_pos (u := cbV M (kpN M (3 + 2 * r.toNat)) (3 + 2 * r.toNat)) (l := kpS M (3 + 2 * r.toNat)) (by unfold kpS at c4 ⊢; omega)
            have fo : ∀ a, a ≠ 0 → frM M (cbV M (kpN M (3 + 2 * r.toNat)) (3 + 2 * r.toNat)) (kpS M (3 + 2 * r.toNat)) a = M a := fun a ha => by
              unfold frM
              split
              · rw [stM_off ha, stM_off ha]
              · rfl
            generalize frM M (cbV M (kpN M (3 + 2 * r.toNat)) (3 + 2 * r.toNat)) (kpS M (3 + 2 * r.toNat)) = W at hfr fo
            have w10 : W 77 10 = M 23 3 := by rw [fo 77 (by decide)]; exact hm.1
            have wr0 : ∀ i, rcA W r i = rcA M r i := fun i => by unfold rcA; rw [fo 80 (by decide)]
            have wo : ∀ k, xkO W r k = xkO M r k := fun k => by
              induction k with
              | zero => rfl
              | succ k ih => rw [xkO, xkO, ih, wr0]
            have ws : ∀ k, xkS W r k = xkS M r k := fun k => by
              unfold xkS
              exact smZ_eq (fun j _ => wr0 _)
            have ww : ∀ x k, xkW W r x k = xkW M r x k := fun x k => by
              unfold xkW
              exact smZ_eq (fun j _ => by rw [wr0, fo 84 (by decide)])
            have wf : ∀ n k, xkF W r n k = xkF M r n k := fun n k => by
              induction k with
              | zero => rfl
              | succ k ih => rw [xkF, xkF, ih, ww]
            simp only [if_neg (not_not_intro c), if_neg c1, if_neg (not_not_intro c2), if_neg (not_not_intro c3), if_neg c4, fo 79 (by decide), e1, w10, wo, ws, wf, hF, if_neg (not_not_intro x3), hS]
            exact ⟨rfl, hfr⟩
        · have x3 : ¬ xkO M r (M 23 3).toNat = true := fun z => c3 (hw.mpr z)
          simp only [if_neg (not_not_intro c), if_neg c1, if_neg (not_not_intro c2), if_pos c3, kf, e1, kg, ko, if_pos x3]
          exact ⟨trivial, h.meet 3 (by decide)⟩
      · simp only [if_neg (not_not_intro c), if_neg c1, if_pos c2, kf, e1, kg]
        exact ⟨trivial, h.meet 5 (by decide)⟩
  · simp only [if_pos c]
    exact ⟨trivial, h⟩
