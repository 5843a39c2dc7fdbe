
/-! the jobs of an array, their ends -/
def jV (V : Nat → Int) (i k : Nat) : Int := if (i : Int) < V 9 then (if k = 0 then V (1 + (V (11 + 6 * i)).toNat) else if k = 1 then V (12 + 6 * i) else if k = 2 then ltB (V (10 + 6 * i)) (V (12 + 6 * i)) (V (13 + 6 * i)) (V (14 + 6 * i)) else if k = 3 then V (14 + 6 * i) else V (15 + 6 * i)) else 0
def cM (V : Nat → Int) : Mm := fun a b => if a = 48 ∧ b = 5 then V 9 else if 49 ≤ a ∧ a ≤ 53 then jV V b (a - 49) else 0
abbrev nN (V : Nat → Int) : Nat := (V 9).toNat
theorem jV_ok {V : Nat → Int} (hg : GV V) : JOK (jV V) := by
  intro i hi
  unfold jV
  by_cases h : (i : Int) < V 9
  · have hn := hg.2.2 i h
    obtain ⟨n0, n1, n2, n3, n4, n5⟩ := hn
    have hv0 := hg.1.2.1
    have hp := hg.1.2.2 (V (11 + 6 * i)).toNat (by omega)
    simp only [if_pos h]
    simp only [if_true, show (¬ (1 : Nat) = 0) by decide, show (¬ (2 : Nat) = 0) by decide, show (¬ (3 : Nat) = 0) by decide, show (¬ (4 : Nat) = 0) by decide, show (¬ (2 : Nat) = 1) by decide, show (¬ (3 : Nat) = 1) by decide, show (¬ (4 : Nat) = 1) by decide, show (¬ (3 : Nat) = 2) by decide, show (¬ (4 : Nat) = 2) by decide, show (¬ (4 : Nat) = 3) by decide, if_false]
    have hl : -10 ≤ ltB (V (10 + 6 * i)) (V (12 + 6 * i)) (V (13 + 6 * i)) (V (14 + 6 * i)) ∧ ltB (V (10 + 6 * i)) (V (12 + 6 * i)) (V (13 + 6 * i)) (V (14 + 6 * i)) ≤ V (13 + 6 * i) - V (14 + 6 * i) + 1 := by
      unfold ltB
      (repeat' split) <;> omega
    exact ⟨hp, by omega, by omega, by omega, by omega, by omega⟩
  · simp only [if_neg h]
    exact ⟨by decide, by decide, by decide, by decide, by decide, by decide⟩
theorem jV_3 {V : Nat → Int} (hg : GV V) {i : Nat} (h : i < nN V) : 1 ≤ jV V i 3 := by
  have hn := hg.2.2 i (by unfold nN at h; omega)
  unfold jV
  rw [if_pos (by unfold nN at h; omega), if_neg (by decide), if_neg (by decide), if_neg (by decide), if_pos rfl]
  exact hn.2.2.2.2.1.1
theorem jV_4 {V : Nat → Int} {i : Nat} (h : i < nN V) : jV V i 4 = V (15 + 6 * i) := by
  unfold jV
  rw [if_pos (by unfold nN at h; omega), if_neg (by decide), if_neg (by decide), if_neg (by decide), if_neg (by decide)]
theorem JE_mk {U : Mm} {J : Nat → Nat → Int} {n : Nat} (h5 : U 48 5 = (n : Int)) (hn : n ≤ 8) (hJ : JOK J) (e : ∀ i : Nat, i < n → U 49 i = J i 0 ∧ U 50 i = J i 1 ∧ U 51 i = J i 2 ∧ U 52 i = J i 3 ∧ U 53 i = J i 4) : JE U J n := by
  refine ⟨⟨h5, hn, hJ⟩, fun i hi => ⟨fun p f => ?_, ?_, (e i hi).2.2.2.2⟩⟩
  · obtain ⟨e0, e1, e2, e3, e4⟩ := e i hi
    unfold endJ bgJ enB bgB
    rw [if_pos (by omega), Int.toNat_natCast, e0, e1, e2, e3]
  · show plJ U (i : Int) = _
    unfold plJ
    rw [if_pos (by omega), Int.toNat_natCast]
    exact (e i hi).1
theorem cM_J {V : Nat → Int} (hg : GV V) : JE (cM V) (jV V) (nN V) := by
  have h9 := hg.2.1
  refine JE_mk ?_ (by unfold nN; omega) (jV_ok hg) (fun i hi => ?_)
  · show (if (48 : Nat) = 48 ∧ (5 : Nat) = 5 then V 9 else _) = _
    rw [if_pos ⟨rfl, rfl⟩]
    show V 9 = (((V 9).toNat : Nat) : Int)
    omega
  · exact ⟨rfl, rfl, rfl, rfl, rfl⟩
/-- a village stands, whatever the CHANCES -/
def HW (V : Nat → Int) (M : Mm) : Prop := (M 23 3 = V 0 ∧ M 23 4 = V 9 ∧ M 23 5 = 0) ∧ (∀ k : Nat, (k : Int) < V 0 → M 24 k = V (1 + k)) ∧ ∀ k : Nat, (k : Int) < V 9 → ∀ j : Nat, j < 6 → M (27 + k) j = V (10 + 6 * k + j)
theorem HV.w {V : Nat → Int} {M : Mm} (h : HV V M) : HW V M := ⟨h.1, h.2.1, fun k hk => (h.2.2 k hk).1⟩
theorem HV_J {V : Nat → Int} {M : Mm} (hg : GV V) (hv : HW V M) : JE (ldM M) (jV V) (nN V) := by
  have h9 := hg.2.1
  have hv0 := hg.1.2.1
  obtain ⟨⟨a1, a2, a3⟩, a4, a5⟩ := hv
  refine JE_mk ?_ (by unfold nN; omega) (jV_ok hg) (fun i hi => ?_)
  · rw [ldM_5, a2]
    show V 9 = (((V 9).toNat : Nat) : Int)
    omega
  · have hi9 : (i : Int) < V 9 := by unfold nN at hi; omega
    obtain ⟨n0, n1, n2, n3, n4, n5⟩ := hg.2.2 i hi9
    have b := a5 i hi9
    have b0 := b 0 (by decide)
    have b1 := b 1 (by decide)
    have b2 := b 2 (by decide)
    have b3 := b 3 (by decide)
    have b4 := b 4 (by decide)
    have b5 := b 5 (by decide)
    have q : ∀ a, 49 ≤ a ∧ a ≤ 53 → ldM M a i = jv M a i := fun a ha => ldM_v ha (by rw [a2]; exact hi9)
    rw [q 49 (by decide), q 50 (by decide), q 51 (by decide), q 52 (by decide), q 53 (by decide)]
    unfold jv jV
    simp only [if_pos hi9]
    simp only [if_true, show (¬ (1 : Nat) = 0) by decide, show (¬ (2 : Nat) = 0) by decide, show (¬ (3 : Nat) = 0) by decide, show (¬ (4 : Nat) = 0) by decide, show (¬ (2 : Nat) = 1) by decide, show (¬ (3 : Nat) = 1) by decide, show (¬ (4 : Nat) = 1) by decide, show (¬ (3 : Nat) = 2) by decide, show (¬ (4 : Nat) = 2) by decide, show (¬ (4 : Nat) = 3) by decide, if_false, show (¬ (50 : Nat) = 49) by decide, show (¬ (51 : Nat) = 49) by decide, show (¬ (52 : Nat) = 49) by decide, show (¬ (53 : Nat) = 49) by decide, show (¬ (51 : Nat) = 50) by decide, show (¬ (52 : Nat) = 50) by decide, show (¬ (53 : Nat) = 50) by decide, show (¬ (52 : Nat) = 51) by decide, show (¬ (53 : Nat) = 51) by decide, show (¬ (53 : Nat) = 52) by decide]
    rw [b0, b1, b2, b3, b4, b5]
    rw [show 10 + 6 * i + 0 = 10 + 6 * i by omega, show 10 + 6 * i + 1 = 11 + 6 * i by omega, show 10 + 6 * i + 2 = 12 + 6 * i by omega, show 10 + 6 * i + 3 = 13 + 6 * i by omega, show 10 + 6 * i + 4 = 14 + 6 * i by omega, show 10 + 6 * i + 5 = 15 + 6 * i by omega]
    refine ⟨?_, rfl, rfl, rfl, rfl⟩
    unfold plc
    rw [if_pos (by rw [a1]; omega)]
    exact a4 _ (by omega)
theorem HV_sp {V : Nat → Int} {M : Mm} (hg : GV V) (hv : HW V M) : stp M = V 1 := by
  have hv0 := hg.1.2.1
  unfold stp plc
  rw [hv.1.2.2, if_pos (by rw [hv.1.1]; omega)]
  exact hv.2.1 0 (by omega)
theorem V1_b {V : Nat → Int} (hg : GV V) : 0 ≤ V 1 ∧ V 1 ≤ 15 := hg.1.2.2 0 (by decide)
/-- e is the END of s -/
def IsE (J : Nat → Nat → Int) (p f : Int) (s : Nat) (e : Int) : Prop := (e = -9 ∧ ∀ L q, ordS L s → ¬ ruS J (some (p, f)) L = some q) ∨ ((0 ≤ e ∧ ∃ L q, ordS L s ∧ ruS J (some (p, f)) L = some q ∧ q.2 = e) ∧ ∀ L q, ordS L s → ruS J (some (p, f)) L = some q → e ≤ q.2)
theorem IsE.uniq {J : Nat → Nat → Int} {p f : Int} {s : Nat} {e e2 : Int} (h : IsE J p f s e) (h2 : IsE J p f s e2) : e = e2 := by
  rcases h with ⟨a1, a2⟩ | ⟨⟨a0, L, q, l1, l2, l3⟩, a2⟩
  · rcases h2 with ⟨b1, b2⟩ | ⟨⟨b0, L2, q2, m1, m2, m3⟩, b2⟩
    · rw [a1, b1]
    · exact absurd m2 (a2 _ _ m1)
  · rcases h2 with ⟨b1, b2⟩ | ⟨⟨b0, L2, q2, m1, m2, m3⟩, b2⟩
    · exact absurd l2 (b2 _ _ l1)
    · have x1 := b2 _ _ l1 l2
      have x2 := a2 _ _ m1 m2
      omega
theorem saF_le {c : Nat → Int} : ∀ {k : Nat}, (¬ c 8 = -9 → ¬ saF c k = -9 ∧ saF c k ≤ c 8) ∧ ∀ j, j < k → ¬ c j = -9 → ¬ saF c k = -9 ∧ saF c k ≤ c j
  | 0 => ⟨fun h => ⟨h, Int.le_refl _⟩, fun j hj => absurd hj (Nat.not_lt_zero _)⟩
  | k + 1 => by
    have ih := saF_le (c := c) (k := k)
    refine ⟨fun h => ?_, fun j hj h => ?_⟩
    · have h1 := ih.1 h
      have := lsr_le2 (a := saF c k) (b := c k) h1.1
      rw [saF]
      exact ⟨this.1, Int.le_trans this.2 h1.2⟩
    · rw [saF]
      by_cases z : j = k
      · subst z
        exact lsr_le h
      · have h1 := ih.2 j (by omega) h
        have := lsr_le2 (a := saF c k) (b := c k) h1.1
        exact ⟨this.1, Int.le_trans this.2 h1.2⟩
theorem saF_ex {c : Nat → Int} : ∀ {k : Nat}, ¬ saF c k = -9 → saF c k = c 8 ∨ ∃ j, j < k ∧ saF c k = c j ∧ ¬ c j = -9
  | 0, _ => Or.inl rfl
  | k + 1, h => by
    rw [saF] at h ⊢
    rcases lsr_or (saF c k) (c k) with e | e
    · rw [e] at h ⊢
      rcases saF_ex (k := k) h with q | ⟨j, q1, q2⟩
      · exact Or.inl q
      · exact Or.inr ⟨j, by omega, q2⟩
    · rw [e] at h ⊢
      exact Or.inr ⟨k, Nat.lt_succ_self _, rfl, h⟩
theorem ordS_lt {L : List Int} {s n : Nat} (h : ordS L s) (hs : s < 2 ^ n) : ∀ x ∈ L, 0 ≤ x ∧ x < (n : Int) := fun x hx => by
  have h1 := (h.2 x).mp hx
  refine ⟨h1.1, ?_⟩
  by_cases z : x < (n : Int)
  · exact z
  · have := Nat.testBit_lt_two_pow (Nat.lt_of_lt_of_le hs (Nat.pow_le_pow_right (by decide) (show n ≤ x.toNat by omega)))
    rw [this] at h1
    exact absurd h1.2 (by decide)
theorem rc_E {U : Mm} {J : Nat → Nat → Int} {n : Nat} (hJ : JE U J n) {w p f : Int} (hp : 0 ≤ p ∧ p ≤ 15) (hf : 0 ≤ f) {s : Nat} (hs : s < 2 ^ n) (hw : ndN s w.toNat = 0) : IsE J p f s (rcM U w p f 59 s) := by
  have h8 := hJ.1.2.1
  have hs2 : s < 256 := Nat.lt_of_lt_of_le hs (p2_256 h8)
  have row := rcM_row U w p f hs2
  obtain ⟨t1, t2⟩ := tab_FE hJ (w := w) hp hf s hs hw
  rw [(row.1 hw).2]
  have c8 : (fun j => rcM U w p f 58 (9 * s + j)) 8 = if s = 0 then f else -9 := row.2.2
  generalize hc : (fun j => rcM U w p f 58 (9 * s + j)) = c at c8
  have cj : ∀ j, rcM U w p f 58 (9 * s + j) = c j := fun j => by rw [← hc]
  by_cases h0 : s = 0
  · subst h0
    rw [if_pos rfl] at c8
    have hz : ∀ j, j < 8 → c j = -9 := fun j hj => by
      rw [← cj, (row.1 hw).1 j hj, if_neg (by simp)]
    have e : saF c 8 = f := by
      rcases saF_ex (c := c) (k := 8) (saF_le (c := c) (k := 8) |>.1 (by omega)).1 with q | ⟨j, q1, q2, q3⟩
      · rw [q, c8]
      · exact absurd (hz j q1) q3
    rw [e]
    refine Or.inr ⟨⟨hf, [], (p, f), ordS_nil.mpr rfl, rfl, rfl⟩, fun L q h1 h2 => ?_⟩
    have : L = [] := by
      cases L with
      | nil => rfl
      | cons x L =>
        have := (h1.2 x).mp (List.mem_cons_self ..)
        simp at this
    subst this
    have : q = (p, f) := (Option.some.inj h2).symm
    rw [this]
    exact Int.le_refl _
  · rw [if_neg h0] at c8
    have key : ∀ L q, ordS L s → ruS J (some (p, f)) L = some q → ¬ saF c 8 = -9 ∧ saF c 8 ≤ q.2 := by
      intro L q h1 h2
      rcases nil_or_snoc L with rfl | ⟨A, x, rfl⟩
      · exact absurd (ordS_nil.mp h1) h0
      · have hx := (h1.2 x).mp (by simp)
        have hx8 := ordS_lt h1 hs x (by simp)
        have ex : x = ((x.toNat : Nat) : Int) := by omega
        rw [ex] at h1 h2
        have h3 := t2 A x.toNat q h1 h2
        rw [cj] at h3
        have h4 := (saF_le (c := c) (k := 8)).2 x.toNat (by omega) h3.1
        exact ⟨h4.1, Int.le_trans h4.2 h3.2⟩
    by_cases h9 : saF c 8 = -9
    · exact Or.inl ⟨h9, fun L q h1 h2 => (key L q h1 h2).1 h9⟩
    · rcases saF_ex h9 with q | ⟨j, q1, q2, q3⟩
      · exact absurd (q.trans c8) h9
      · obtain ⟨b1, b2, L, b3, b4⟩ := t1 j q1 (by rw [cj]; exact q3)
        rw [cj] at b2 b4
        exact Or.inr ⟨⟨by rw [q2]; exact b2, L ++ [(j : Int)], _, b3, b4, by rw [q2]⟩, fun L q h1 h2 => (key L q h1 h2).2⟩
/-- END of a set of an array's NEEDS -/
def ENV (V : Nat → Int) (s : Nat) : Int := rcM (cM V) (s : Int) (V 1) 0 59 s
theorem ENV_E {V : Nat → Int} (hg : GV V) {s : Nat} (hs : s < 2 ^ nN V) : IsE (jV V) (V 1) 0 s (ENV V s) := rc_E (cM_J hg) (V1_b hg) (Int.le_refl 0) hs (by rw [Int.toNat_natCast]; exact ndN_self s)
theorem gf_ENV {V : Nat → Int} {M : Mm} (hg : GV V) (hv : HW V M) {w : Int} {s : Nat} (hs : s < 2 ^ nN V) (hw : ndN s w.toNat = 0) : gfA M w 59 s = ENV V s := by
  have h := rc_E (HV_J hg hv) (w := w) (V1_b hg) (Int.le_refl 0) hs hw
  unfold gfA
  rw [HV_sp hg hv]
  exact h.uniq (ENV_E hg hs)
theorem gf_no {M : Mm} {w : Int} {s : Nat} (hs : s < 256) (hw : ¬ ndN s w.toNat = 0) : gfA M w 59 s = -9 := (rcM_row (ldM M) w (stp M) 0 hs).2.1 hw
/-- a run from a state that is never later -/
theorem en_dom {J : Nat → Nat → Int} {i : Nat} {p f p2 f2 : Int} (h : f2 + wap p2 (J i 0) ≤ f + wap p (J i 0)) (h0 : 0 ≤ J i 3 ∧ 0 ≤ J i 1) (hf : 0 ≤ f2 ∧ 0 ≤ wap p2 (J i 0)) (he : ¬ enB J i p f = -9) : ¬ enB J i p2 f2 = -9 ∧ enB J i p2 f2 ≤ enB J i p f := by
  have hb : bgB J i p2 f2 ≤ bgB J i p f := by
    unfold bgB
    (repeat' split) <;> omega
  have hb0 : 0 ≤ bgB J i p2 f2 := by
    unfold bgB
    split <;> omega
  unfold enB at he ⊢
  by_cases q : bgB J i p f ≤ J i 2
  · rw [if_pos q] at he ⊢
    rw [if_pos (by omega)]
    omega
  · rw [if_neg q] at he
    exact absurd rfl he
theorem ru_dom {J : Nat → Nat → Int} (hJ : JOK J) : ∀ (L : List Int), (∀ x ∈ L, 0 ≤ x ∧ x < 8) → ∀ {p f p2 f2 : Int}, (0 ≤ p ∧ p ≤ 15) → (0 ≤ p2 ∧ p2 ≤ 15) → 0 ≤ f → 0 ≤ f2 → (∀ x, 0 ≤ x ∧ x ≤ 15 → f2 + wap p2 x ≤ f + wap p x) → ∀ q, ruS J (some (p, f)) L = some q → ∃ q2, ruS J (some (p2, f2)) L = some q2 ∧ q2.2 ≤ q.2
  | [], _, p, f, p2, f2, hp, hp2, hf, hf2, hd, q, h => by
    have e : q = (p, f) := (Option.some.inj h).symm
    refine ⟨(p2, f2), rfl, ?_⟩
    have h1 := hd p hp
    have h2 := (wap_b hp2 hp).1
    have h3 : wap p p = 0 := by unfold wap; rw [if_neg (by omega), Int.sub_self]; rfl
    rw [e]
    show f2 ≤ f
    omega
  | i :: L, hL, p, f, p2, f2, hp, hp2, hf, hf2, hd, q, h => by
    have hi := hL i (List.mem_cons_self ..)
    have hj := hJ i.toNat (by omega)
    rw [ruS_cons] at h
    have h1 : stp1 J (some (p, f)) i = if enB J i.toNat p f = -9 then none else some (J i.toNat 0, enB J i.toNat p f) := rfl
    rw [h1] at h
    by_cases q9 : enB J i.toNat p f = -9
    · rw [if_pos q9, ruS_none] at h
      cases h
    · rw [if_neg q9] at h
      have d := en_dom (J := J) (i := i.toNat) (hd _ hj.1) ⟨hj.2.2.2.1.1, hj.2.1.1⟩ ⟨hf2, (wap_b hp2 hj.1).1⟩ q9
      have b1 := enB_b hJ (i := i.toNat) (by omega) hp hf
      have b2 := enB_b hJ (i := i.toNat) (by omega) hp2 hf2
      obtain ⟨q2, r1, r2⟩ := ru_dom hJ L (fun x hx => hL x (List.mem_cons_of_mem _ hx)) hj.1 hj.1 (f := enB J i.toNat p f) (f2 := enB J i.toNat p2 f2) (by omega) (by omega) (fun x _ => by omega) q h
      refine ⟨q2, ?_, r2⟩
      rw [ruS_cons]
      have h2 : stp1 J (some (p2, f2)) i = if enB J i.toNat p2 f2 = -9 then none else some (J i.toNat 0, enB J i.toNat p2 f2) := rfl
      rw [h2, if_neg d.1]
      exact r1
theorem ruS_app (J : Nat → Nat → Int) (q : Option (Int × Int)) (A B : List Int) : ruS J q (A ++ B) = ruS J (ruS J q A) B := List.foldl_append ..
theorem ordS_del {A B : List Int} {s i : Nat} (h : ordS (A ++ (i : Int) :: B) s) : ordS (A ++ B) (ndN s (2 ^ i)) := (ordS_cons.mp (ordS_perm (List.perm_middle.symm) h)).2
/-- without one of them: no later -/
theorem ru_del {J : Nat → Nat → Int} (hJ : JOK J) {A B : List Int} {i : Nat} (hi : i < 8) (h3 : 1 ≤ J i 3) (hL : ∀ x ∈ A ++ (i : Int) :: B, 0 ≤ x ∧ x < 8) {p f : Int} (hp : 0 ≤ p ∧ p ≤ 15) (hf : 0 ≤ f) {q : Int × Int} (h : ruS J (some (p, f)) (A ++ (i : Int) :: B) = some q) : ∃ q2, ruS J (some (p, f)) (A ++ B) = some q2 ∧ q2.2 ≤ q.2 := by
  rw [ruS_app] at h
  cases hA : ruS J (some (p, f)) A with
  | none =>
    rw [hA, ruS_none] at h
    cases h
  | some a =>
    rw [hA, ruS_cons] at h
    have hAm : ∀ x ∈ A, 0 ≤ x ∧ x < 8 := fun x hx => hL x (List.mem_append_left _ hx)
    have hBm : ∀ x ∈ B, 0 ≤ x ∧ x < 8 := fun x hx => hL x (List.mem_append_right _ (List.mem_cons_of_mem _ hx))
    obtain ⟨b1, b2, -⟩ := ruS_b hJ hp A hAm hf a hA
    have hj := hJ i hi
    have h1 : stp1 J (some a) (i : Int) = if enB J (i : Int).toNat a.1 a.2 = -9 then none else some (J (i : Int).toNat 0, enB J (i : Int).toNat a.1 a.2) := rfl
    rw [h1, Int.toNat_natCast] at h
    by_cases q9 : enB J i a.1 a.2 = -9
    · rw [if_pos q9, ruS_none] at h
      cases h
    · rw [if_neg q9] at h
      have be := enB_b hJ hi b1 (f := a.2) (by omega)
      obtain ⟨q2, r1, r2⟩ := ru_dom hJ B hBm hj.1 b1 (f := enB J i a.1 a.2) (f2 := a.2) (by omega) (by omega) (fun x hx => by
        have t := wap_tri a.1 (J i 0) x
        have eb : enB J i a.1 a.2 = bgB J i a.1 a.2 + J i 3 := by
          unfold enB at q9 ⊢
          by_cases z : bgB J i a.1 a.2 ≤ J i 2
          · rw [if_pos z]
          · rw [if_neg z] at q9
            exact absurd rfl q9
        have bb : a.2 + wap a.1 (J i 0) ≤ bgB J i a.1 a.2 := by
          unfold bgB
          split <;> omega
        omega) q h
      exact ⟨q2, by rw [ruS_app, hA]; exact r1, r2⟩
theorem ENV_del {V : Nat → Int} (hg : GV V) {s i : Nat} (hs : s < 2 ^ nN V) (he : ¬ ENV V s = -9) : ¬ ENV V (ndN s (2 ^ i)) = -9 ∧ ENV V (ndN s (2 ^ i)) ≤ ENV V s := by
  by_cases hi : s.testBit i = true
  · have h1 := ENV_E hg hs
    have hs2 : ndN s (2 ^ i) < 2 ^ nN V := Nat.lt_of_le_of_lt (ndN_le _ _) hs
    have h2 := ENV_E hg hs2
    rcases h1 with ⟨a1, a2⟩ | ⟨⟨a0, L, q, l1, l2, l3⟩, a2⟩
    · exact absurd a1 he
    · have hx : (i : Int) ∈ L := (l1.2 _).mpr ⟨by omega, by rw [Int.toNat_natCast]; exact hi⟩
      obtain ⟨A, B, rfl⟩ := List.append_of_mem hx
      have hn8 : nN V ≤ 8 := by have := hg.2.1; unfold nN; omega
      have hlt := ordS_lt l1 hs
      have hin := hlt (i : Int) hx
      obtain ⟨q2, r1, r2⟩ := ru_del (jV_ok hg) (i := i) (by omega) (jV_3 hg (by omega)) (fun x hx2 => by have := hlt x hx2; omega) (V1_b hg) (Int.le_refl 0) l2
      rcases h2 with ⟨b1, b2⟩ | ⟨⟨b0, L2, q3, m1, m2, m3⟩, b2⟩
      · exact absurd r1 (b2 _ _ (ordS_del l1))
      · have := b2 _ _ (ordS_del l1) r1
        omega
  · have e : ndN s (2 ^ i) = s := by
      apply Nat.eq_of_testBit_eq
      intro k
      rw [ndN_bit, Nat.testBit_two_pow]
      by_cases z : i = k
      · subst z
        simp [hi]
      · simp [z]
    rw [e]
    exact ⟨he, Int.le_refl _⟩
theorem ENV_b {V : Nat → Int} (hg : GV V) {s : Nat} (hs : s < 2 ^ nN V) : ENV V s = -9 ∨ (0 ≤ ENV V s ∧ ENV V s ≤ 28) := by
  rcases ENV_E hg hs with ⟨a1, a2⟩ | ⟨⟨a0, L, q, l1, l2, l3⟩, a2⟩
  · exact Or.inl a1
  · refine Or.inr ⟨a0, ?_⟩
    have hn8 : nN V ≤ 8 := by have := hg.2.1; unfold nN; omega
    have hb := ruS_b (jV_ok hg) (V1_b hg) L (fun x hx => by have := ordS_lt l1 hs x hx; omega) (Int.le_refl 0) q l2
    by_cases z : L = []
    · subst z
      have : q = (V 1, 0) := (Option.some.inj l2).symm
      rw [this] at l3
      rw [← l3]
      show (0 : Int) ≤ 28
      decide
    · have := hb.2.2 z
      omega
theorem ENV_0 {V : Nat → Int} (hg : GV V) : ENV V 0 = 0 := by
  rcases ENV_E hg (s := 0) (Nat.two_pow_pos _) with ⟨a1, a2⟩ | ⟨⟨a0, L, q, l1, l2, l3⟩, a2⟩
  · exact absurd rfl (a2 [] (V 1, 0) (ordS_nil.mpr rfl))
  · have h0 : 0 ≤ ENV V 0 := a0
    have := a2 [] (V 1, 0) (ordS_nil.mpr rfl) rfl
    have h1 : ENV V 0 ≤ 0 := this
    omega
/-- a part of a set that can be met -/
theorem ENV_sub {V : Nat → Int} (hg : GV V) {s : Nat} (hs : s < 2 ^ nN V) (he : ¬ ENV V s = -9) : ∀ (k t : Nat), t < 2 ^ nN V → ndN t s = 0 → (∀ j, k ≤ j → t.testBit j = s.testBit j) → ¬ ENV V t = -9 ∧ ENV V t ≤ ENV V s
  | 0, t, ht, h1, h2 => by
    have : t = s := Nat.eq_of_testBit_eq (fun j => h2 j (Nat.zero_le _))
    rw [this]
    exact ⟨he, Int.le_refl _⟩
  | k + 1, t, ht, h1, h2 => by
    by_cases q : t.testBit k = s.testBit k
    · exact ENV_sub hg hs he k t ht h1 (fun j hj => by
        by_cases z : j = k
        · rw [z]; exact q
        · exact h2 j (by omega))
    · have hk : s.testBit k = true := by
        cases z : s.testBit k with
        | true => rfl
        | false =>
          cases y : t.testBit k with
          | false => rw [y, z] at q; exact absurd rfl q
          | true =>
            have := ndN_0.mp h1 k y
            rw [z] at this
            cases this
      have hkt : t.testBit k = false := by
        cases y : t.testBit k with
        | false => rfl
        | true => rw [y, hk] at q; exact absurd rfl q
      have ht2 : t ||| 2 ^ k < 2 ^ nN V := by
        refine Nat.or_lt_two_pow ht ?_
        refine Nat.pow_lt_pow_right (by decide) ?_
        by_cases z : k < nN V
        · exact z
        · have := Nat.testBit_lt_two_pow (Nat.lt_of_lt_of_le hs (Nat.pow_le_pow_right (by decide) (show nN V ≤ k by omega)))
          rw [hk] at this
          cases this
      have hb : ∀ j, (t ||| 2 ^ k).testBit j = (t.testBit j || decide (k = j)) := fun j => by rw [Nat.testBit_or, Nat.testBit_two_pow]
      have ih := ENV_sub hg hs he k (t ||| 2 ^ k) ht2 (ndN_0.mpr (fun j hj => by
        rw [hb] at hj
        by_cases z : k = j
        · rw [← z]; exact hk
        · simp [z] at hj
          exact ndN_0.mp h1 j hj)) (fun j hj => by
        rw [hb]
        by_cases z : k = j
        · rw [← z, hk]
          simp
        · rw [h2 j (by omega)]
          simp [z])
      have e : ndN (t ||| 2 ^ k) (2 ^ k) = t := by
        apply Nat.eq_of_testBit_eq
        intro j
        rw [ndN_bit, hb, Nat.testBit_two_pow]
        by_cases z : k = j
        · subst z
          simp [hkt]
        · simp [z]
      have d := ENV_del hg (i := k) ht2 ih.1
      rw [e] at d
      exact ⟨d.1, Int.le_trans d.2 ih.2⟩
theorem ENV_part {V : Nat → Int} (hg : GV V) {s t : Nat} (hs : s < 2 ^ nN V) (he : ¬ ENV V s = -9) (h : ndN t s = 0) : ¬ ENV V t = -9 ∧ ENV V t ≤ ENV V s := by
  have ht : t < 2 ^ nN V := Nat.lt_of_le_of_lt (ndN_le2 h) hs
  refine ENV_sub hg hs he (nN V) t ht h (fun j hj => ?_)
  rw [Nat.testBit_lt_two_pow (Nat.lt_of_lt_of_le hs (Nat.pow_le_pow_right (by decide) hj)), Nat.testBit_lt_two_pow (Nat.lt_of_lt_of_le ht (Nat.pow_le_pow_right (by decide) hj))]

