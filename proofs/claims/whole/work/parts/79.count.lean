theorem pmS_mid {g : List Int → List (List Int)} {x : Int} {B R2 : List Int} : ∀ {R1 A : List Int}, B ∈ g (A ++ R1 ++ R2) → (x :: B) ∈ pmS g A (R1 ++ x :: R2)
  | [], A, h => by
    rw [List.nil_append, pmS, List.mem_append]
    left
    rw [List.mem_map]
    exact ⟨B, by simpa using h, rfl⟩
  | y :: R1, A, h => by
    rw [List.cons_append, pmS, List.mem_append]
    right
    refine pmS_mid ?_
    have e : A ++ [y] ++ R1 ++ R2 = A ++ (y :: R1) ++ R2 := by simp
    rw [e]
    exact h
theorem pm_mem : ∀ (f : Nat) (S L : List Int), S.length = f → L.Perm S → L ∈ pmF f S
  | 0, S, L, hl, h => by
    have e : S = [] := List.length_eq_zero_iff.mp hl
    subst e
    have e2 : L = [] := h.eq_nil
    subst e2
    exact List.mem_singleton.mpr rfl
  | f + 1, S, L, hl, h => by
    cases L with
    | nil =>
      have := h.length_eq
      rw [hl] at this
      simp at this
    | cons x L =>
      have hx : x ∈ S := h.mem_iff.mp (List.mem_cons_self ..)
      obtain ⟨A, R, e⟩ := List.append_of_mem hx
      subst e
      have h2 : L.Perm (A ++ R) := (h.trans List.perm_middle).cons_inv
      have hl2 : (A ++ R).length = f := by
        simp at hl ⊢
        omega
      rw [pmF]
      refine pmS_mid ?_
      rw [List.nil_append]
      exact pm_mem f (A ++ R) L hl2 h2
theorem pmS_head {g : List Int → List (List Int)} : ∀ {R A : List Int} {L : List Int}, L ∈ pmS g A R → ∃ x B, L = x :: B ∧ x ∈ R
  | [], A, L, h => by simp [pmS] at h
  | y :: R, A, L, h => by
    rw [pmS, List.mem_append] at h
    rcases h with h | h
    · rw [List.mem_map] at h
      obtain ⟨B, _, e⟩ := h
      exact ⟨y, B, e.symm, List.mem_cons_self ..⟩
    · obtain ⟨x, B, e, hx⟩ := pmS_head h
      exact ⟨x, B, e, List.mem_cons_of_mem _ hx⟩
theorem nodup_map_cons {x : Int} : ∀ {T : List (List Int)}, T.Nodup → (T.map (x :: ·)).Nodup
  | [], _ => List.nodup_nil
  | a :: T, h => by
    have h2 := List.nodup_cons.mp h
    rw [List.map_cons, List.nodup_cons]
    refine ⟨?_, nodup_map_cons h2.2⟩
    intro hm
    rw [List.mem_map] at hm
    obtain ⟨b, hb, e⟩ := hm
    have := (List.cons.inj e).2
    rw [this] at hb
    exact h2.1 hb
theorem nodup_app {α : Type} {A B : List α} (h1 : A.Nodup) (h2 : B.Nodup) (h3 : ∀ x ∈ A, ¬ x ∈ B) : (A ++ B).Nodup := by
  induction A with
  | nil => exact h2
  | cons a A ih =>
    have ha := List.nodup_cons.mp h1
    rw [List.cons_append, List.nodup_cons]
    refine ⟨?_, ih ha.2 (fun x hx => h3 x (List.mem_cons_of_mem _ hx))⟩
    rw [List.mem_append]
    rintro (z | z)
    · exact ha.1 z
    · exact h3 a (List.mem_cons_self ..) z
theorem pm_nodup : ∀ (f : Nat) (S : List Int), S.length = f → S.Nodup → (pmF f S).Nodup
  | 0, S, _, _ => by
    show ([[]] : List (List Int)).Nodup
    simp
  | f + 1, S, hl, hn => by
    have key : ∀ (R A : List Int), (A ++ R).length = f + 1 → (A ++ R).Nodup → (pmS (pmF f) A R).Nodup := by
      intro R
      induction R with
      | nil =>
        intro A _ _
        exact List.nodup_nil
      | cons x R ih =>
        intro A hl hn
        have hp : (A ++ x :: R).Perm (x :: (A ++ R)) := List.perm_middle
        have hn2 := List.nodup_cons.mp (hp.nodup_iff.mp hn)
        rw [pmS]
        refine nodup_app (nodup_map_cons (pm_nodup f _ (by simp at hl ⊢; omega) hn2.2)) (ih (A ++ [x]) (by simp at hl ⊢; omega) (by
          have e : A ++ [x] ++ R = A ++ x :: R := by simp
          rw [e]
          exact hn)) ?_
        intro L hL hL2
        rw [List.mem_map] at hL
        obtain ⟨B, _, e⟩ := hL
        obtain ⟨y, C, e2, hy⟩ := pmS_head hL2
        rw [← e] at e2
        have := (List.cons.inj e2).1
        subst this
        exact hn2.1 (List.mem_append.mpr (Or.inr hy))
    exact key S [] (by simpa using hl) (by simpa using hn)
theorem pm_rev {f : Nat} {S : List Int} (hl : S.length = f) (hn : S.Nodup) : ((pmF f S).map List.reverse).Perm (pmF f S) := by
  have hnd := pm_nodup f S hl hn
  have inj : ∀ T : List (List Int), T.Nodup → (T.map List.reverse).Nodup := by
    intro T
    induction T with
    | nil => intro _; exact List.nodup_nil
    | cons a T ih =>
      intro h
      have h2 := List.nodup_cons.mp h
      rw [List.map_cons, List.nodup_cons]
      refine ⟨?_, ih h2.2⟩
      intro hm
      rw [List.mem_map] at hm
      obtain ⟨b, hb, e⟩ := hm
      have : b = a := by
        have := congrArg List.reverse e
        simpa using this
      rw [this] at hb
      exact h2.1 hb
  refine (List.perm_ext_iff_of_nodup (inj _ hnd) hnd).mpr (fun L => ?_)
  rw [List.mem_map]
  constructor
  · rintro ⟨B, hB, e⟩
    subst e
    exact pm_mem f S _ hl ((List.reverse_perm B).trans (pm_perm f S B hl hB))
  · intro h
    exact ⟨L.reverse, pm_mem f S _ hl ((List.reverse_perm L).trans (pm_perm f S L hl h)), by simp⟩
/-- sums over a list -/
def lsum (g : Int → Nat) : List Int → Nat
  | [] => 0
  | x :: R => g x + lsum g R
theorem lsum_app (g : Int → Nat) : ∀ (A B : List Int), lsum g (A ++ B) = lsum g A + lsum g B
  | [], B => by simp [lsum]
  | a :: A, B => by
    rw [List.cons_append, lsum, lsum, lsum_app g A B]
    omega
theorem lsum_elB (g : Int → Nat) (s : Nat) : ∀ n : Nat, ((lsum g (elB s n) : Nat) : Int) = smZ (fun i => if s.testBit i = true then ((g (i : Int) : Nat) : Int) else 0) n
  | 0 => rfl
  | n + 1 => by
    rw [elB, smZ, ← lsum_elB g s n]
    by_cases q : s.testBit n = true
    · rw [if_pos q, if_pos q, lsum_app]
      show ((lsum g (elB s n) + (g (n : Int) + 0) : Nat) : Int) = _
      omega
    · rw [if_neg q, if_neg q]
      omega
theorem cnt_key {Q : List Int → Bool} {s n k : Nat} : ∀ (R A : List Int), A ++ R = elB s n → (pmS (pmF k) A R).countP Q = lsum (fun x => (pmF k (elB (ndN s (2 ^ x.toNat)) n)).countP (fun L => Q (x :: L))) R
  | [], _, _ => rfl
  | x :: R, A, h => by
    rw [pmS, List.countP_append, List.countP_map, cnt_key R (A ++ [x]) (by rw [← h]; simp), lsum, elB_del h]
    rfl
theorem pm_cnt {Q : List Int → Bool} {s n k : Nat} : (((pmF (k + 1) (elB s n)).countP Q : Nat) : Int) = smZ (fun i => if s.testBit i = true then (((pmF k (elB (ndN s (2 ^ i)) n)).countP (fun L => Q ((i : Int) :: L)) : Nat) : Int) else 0) n := by
  rw [pmF, cnt_key (elB s n) [] rfl, lsum_elB]
  refine smZ_eq (fun i _ => ?_)
  rw [Int.toNat_natCast]
/-- counted by the last one -/
theorem pm_snoc {Q : List Int → Bool} {s n k : Nat} (hk : (elB s n).length = k + 1) : (((pmF (k + 1) (elB s n)).countP Q : Nat) : Int) = smZ (fun i => if s.testBit i = true then (((pmF k (elB (ndN s (2 ^ i)) n)).countP (fun L => Q (L ++ [(i : Int)])) : Nat) : Int) else 0) n := by
  have h1 : (pmF (k + 1) (elB s n)).countP Q = (pmF (k + 1) (elB s n)).countP (fun L => Q L.reverse) := by
    rw [← (pm_rev hk (elB_nd s n)).countP_eq Q, List.countP_map]
    rfl
  rw [h1, pm_cnt]
  refine smZ_eq (fun i hi => ?_)
  by_cases q : s.testBit i = true
  · rw [if_pos q, if_pos q]
    have h2 : (pmF k (elB (ndN s (2 ^ i)) n)).countP (fun L => Q (L ++ [(i : Int)])) = (pmF k (elB (ndN s (2 ^ i)) n)).countP (fun L => Q (L.reverse ++ [(i : Int)])) := by
      rw [← (pm_rev (elB_len1 hk q hi) (elB_nd _ n)).countP_eq (fun L => Q (L ++ [(i : Int)])), List.countP_map]
      rfl
    rw [h2]
    simp only [List.reverse_cons]
  · rw [if_neg q, if_neg q]
def endR (J : Nat → Nat → Int) (p : Int) (L : List Int) : Option Int := (ruS J (some (p, 0)) L).map (fun q => q.2)
/-- orders of a set by the last one and the end -/
def cN (J : Nat → Nat → Int) (p : Int) (n k s l : Nat) (e : Int) : Int := (((pmF k (elB (ndN s (2 ^ l)) n)).countP (fun L => decide (endR J p (L ++ [(l : Int)]) = some e)) : Nat) : Int)
theorem cnt_part {E : List Int → Option Int} {G : Int → Bool} {P : List Int → Bool} {m : Nat} : ∀ {T : List (List Int)}, (∀ L ∈ T, P L = true ↔ ∃ f : Nat, f < m ∧ E L = some (f : Int) ∧ G (f : Int) = true) → ((T.countP P : Nat) : Int) = smZ (fun f => if G (f : Int) = true then ((T.countP (fun L => decide (E L = some (f : Int))) : Nat) : Int) else 0) m
  | [], _ => by
    have : ∀ m : Nat, smZ (fun f => if G (f : Int) = true then ((([] : List (List Int)).countP (fun L => decide (E L = some (f : Int))) : Nat) : Int) else 0) m = 0 := by
      intro m
      induction m with
      | zero => rfl
      | succ m ih =>
        rw [smZ, ih]
        simp
    rw [this]
    rfl
  | a :: T, h => by
    have ih := cnt_part (E := E) (G := G) (P := P) (m := m) (T := T) (fun L hL => h L (List.mem_cons_of_mem _ hL))
    have ha := h a (List.mem_cons_self ..)
    have sp : ∀ m : Nat, smZ (fun f => if G (f : Int) = true then (((a :: T).countP (fun L => decide (E L = some (f : Int))) : Nat) : Int) else 0) m = smZ (fun f => if G (f : Int) = true then ((T.countP (fun L => decide (E L = some (f : Int))) : Nat) : Int) else 0) m + smZ (fun f => if G (f : Int) = true ∧ E a = some (f : Int) then 1 else 0) m := by
      intro m
      induction m with
      | zero => rfl
      | succ m ihm =>
        rw [smZ, smZ, smZ, ihm, List.countP_cons]
        by_cases q1 : G (m : Int) = true
        · by_cases q2 : E a = some (m : Int)
          · simp only [q1, q2, decide_true, if_true, and_self]
            omega
          · simp only [q1, q2, decide_false, if_true, and_false, if_false, Bool.false_eq_true]
            omega
        · simp only [q1, if_false, false_and, Bool.false_eq_true]
          omega
    have one : smZ (fun f => if G (f : Int) = true ∧ E a = some (f : Int) then 1 else 0) m = if P a = true then 1 else 0 := by
      have gen : ∀ m : Nat, smZ (fun f => if G (f : Int) = true ∧ E a = some (f : Int) then 1 else 0) m = if ∃ f : Nat, f < m ∧ E a = some (f : Int) ∧ G (f : Int) = true then 1 else 0 := by
        intro m
        induction m with
        | zero =>
          rw [if_neg (by rintro ⟨f, h1, _⟩; omega)]
          rfl
        | succ m ihm =>
          rw [smZ, ihm]
          by_cases q : G (m : Int) = true ∧ E a = some (m : Int)
          · rw [if_pos q, if_pos (⟨m, by omega, q.2, q.1⟩ : ∃ f : Nat, f < m + 1 ∧ E a = some (f : Int) ∧ G (f : Int) = true), if_neg]
            · rfl
            · rintro ⟨f, h1, h2, _⟩
              rw [q.2] at h2
              have := Option.some.inj h2
              omega
          · rw [if_neg q]
            by_cases z : ∃ f : Nat, f < m ∧ E a = some (f : Int) ∧ G (f : Int) = true
            · rw [if_pos z]
              obtain ⟨f, h1, h2, h3⟩ := z
              rw [if_pos ⟨f, by omega, h2, h3⟩]
              rfl
            · rw [if_neg z, if_neg]
              · rfl
              · rintro ⟨f, h1, h2, h3⟩
                by_cases y : f = m
                · subst y
                  exact q ⟨h3, h2⟩
                · exact z ⟨f, by omega, h2, h3⟩
      rw [gen m]
      by_cases q : P a = true
      · rw [if_pos q, if_pos (ha.mp q)]
      · rw [if_neg q, if_neg (fun z => q (ha.mpr z))]
    rw [sp, ← ih, one, List.countP_cons]
    by_cases q : P a = true
    · rw [if_pos q, if_pos q]
      omega
    · rw [if_neg q, if_neg q]
      omega
theorem ruS_b {J : Nat → Nat → Int} (hJ : JOK J) {p : Int} (hp : 0 ≤ p ∧ p ≤ 15) : ∀ (L : List Int), (∀ x ∈ L, 0 ≤ x ∧ x < 8) → ∀ {f : Int}, 0 ≤ f → ∀ q, ruS J (some (p, f)) L = some q → (0 ≤ q.1 ∧ q.1 ≤ 15) ∧ f ≤ q.2 ∧ (L ≠ [] → q.2 ≤ 28) := by
  intro L
  induction L generalizing p with
  | nil =>
    intro _ f hf q hq
    have e : some (p, f) = some q := hq
    have := Option.some.inj e
    rw [← this]
    exact ⟨hp, Int.le_refl _, fun h => absurd rfl h⟩
  | cons x L ih =>
    intro hx f hf q hq
    have hx0 := hx x (List.mem_cons_self ..)
    rw [ruS_cons] at hq
    unfold stp1 at hq
    simp only [] at hq
    by_cases c : enB J x.toNat p f = -9
    · rw [if_pos c, ruS_none] at hq
      exact absurd hq (by simp)
    · rw [if_neg c] at hq
      have hb := enB_b hJ (i := x.toNat) (by omega) hp hf
      have r := ih (hJ x.toNat (by omega)).1 (fun y hy => hx y (List.mem_cons_of_mem _ hy)) (f := enB J x.toNat p f) (by omega) q hq
      refine ⟨r.1, by omega, fun _ => ?_⟩
      by_cases z : L = []
      · subst z
        have e : some (J x.toNat 0, enB J x.toNat p f) = some q := hq
        have := Option.some.inj e
        rw [← this]
        show enB J x.toNat p f ≤ 28
        omega
      · exact r.2.2 z
theorem pm_rng {s n k : Nat} (hn : n ≤ 8) (hk : (elB s n).length = k) : ∀ L ∈ pmF k (elB s n), ∀ x ∈ L, 0 ≤ x ∧ x < 8 := by
  intro L hL x hx
  have := (pm_perm k _ L hk hL).mem_iff.mp hx
  have h2 := elB_mem this
  omega
/-- all orders that can be done, by the last one and the end -/
theorem cN_all {J : Nat → Nat → Int} (hJ : JOK J) {p : Int} (hp : 0 ≤ p ∧ p ≤ 15) {n : Nat} (hn : n ≤ 8) {s k : Nat} (hk : (elB s n).length = k + 1) : (((pmF (k + 1) (elB s n)).countP (feL J p) : Nat) : Int) = smZ (fun l => if s.testBit l = true then smZ (fun e => cN J p n k s l (e : Int)) 29 else 0) n := by
  rw [pm_snoc hk]
  refine smZ_eq (fun l hl => ?_)
  by_cases q : s.testBit l = true
  · rw [if_pos q, if_pos q]
    have hlen := elB_len1 hk q hl
    have := cnt_part (E := fun L => endR J p (L ++ [(l : Int)])) (G := fun _ => true) (P := fun L => feL J p (L ++ [(l : Int)])) (m := 29) (T := pmF k (elB (ndN s (2 ^ l)) n)) (fun L hL => by
      have hr := pm_rng hn hlen L hL
      have hr2 : ∀ x ∈ L ++ [(l : Int)], 0 ≤ x ∧ x < 8 := fun x hx => by
        rw [List.mem_append] at hx
        rcases hx with z | z
        · exact hr x z
        · have : x = (l : Int) := by simpa using z
          omega
      unfold feL endR
      cases hru : ruS J (some (p, 0)) (L ++ [(l : Int)]) with
      | none => simp
      | some v =>
        have b := ruS_b hJ hp _ hr2 (Int.le_refl 0) v hru
        have b2 := b.2.2 (by simp)
        constructor
        · intro _
          refine ⟨v.2.toNat, by omega, ?_, rfl⟩
          show some v.2 = some ((v.2.toNat : Nat) : Int)
          rw [Int.toNat_of_nonneg b.2.1]
        · intro _
          rfl)
    rw [this]
    refine smZ_eq (fun e _ => ?_)
    rw [if_pos rfl]
    rfl
  · rw [if_neg q, if_neg q]
theorem endR_snoc {J : Nat → Nat → Int} {p : Int} {A : List Int} {i l : Nat} {e : Int} : endR J p ((A ++ [(i : Int)]) ++ [(l : Int)]) = some e ↔ ∃ f, endR J p (A ++ [(i : Int)]) = some f ∧ ¬ enB J l (J i 0) f = -9 ∧ enB J l (J i 0) f = e := by
  unfold endR
  rw [ruS_snoc J _ (A ++ [(i : Int)]) (l : Int)]
  cases hru : ruS J (some (p, 0)) (A ++ [(i : Int)]) with
  | none =>
    constructor
    · intro h
      have : stp1 J none (l : Int) = none := rfl
      rw [this] at h
      exact absurd h (by simp)
    · rintro ⟨f, h, _⟩
      exact absurd h (by simp)
  | some q =>
    have q1 : q.1 = J i 0 := by
      rw [ruS_snoc] at hru
      unfold stp1 at hru
      split at hru
      · exact absurd hru (by simp)
      · simp only [Int.toNat_natCast] at hru
        split at hru
        · exact absurd hru (by simp)
        · rw [← Option.some.inj hru]
    unfold stp1
    simp only [Int.toNat_natCast]
    rw [q1]
    by_cases c : enB J l (J i 0) q.2 = -9
    · rw [if_pos c]
      constructor
      · intro h
        exact absurd h (by simp)
      · rintro ⟨f, h, h2, _⟩
        have : q.2 = f := by simpa using h
        rw [← this] at h2
        exact absurd c h2
    · rw [if_neg c]
      constructor
      · intro h
        refine ⟨q.2, rfl, c, ?_⟩
        simpa using h
      · rintro ⟨f, h, h2, h3⟩
        have : q.2 = f := by simpa using h
        rw [← this] at h3
        show some (enB J l (J i 0) q.2) = some e
        rw [h3]
theorem cN_1 {J : Nat → Nat → Int} {p : Int} {n s l : Nat} {e : Int} (he : 0 ≤ e) (h0 : ndN s (2 ^ l) = 0) : cN J p n 0 s l e = if enB J l p 0 = e then 1 else 0 := by
  unfold cN
  rw [h0]
  have e0 : pmF 0 (elB 0 n) = [[]] := rfl
  rw [e0]
  have ee : endR J p ([] ++ [(l : Int)]) = if enB J l p 0 = -9 then none else some (enB J l p 0) := by
    show (stp1 J (some (p, 0)) (l : Int)).map (fun q => q.2) = _
    unfold stp1
    simp only [Int.toNat_natCast]
    split <;> rfl
  by_cases c : enB J l p 0 = e
  · have h2 : endR J p ([] ++ [(l : Int)]) = some e := by
      rw [ee, if_neg (by omega), c]
    rw [if_pos c, List.countP_cons]
    simp only [h2, decide_true, if_true]
    rfl
  · have h2 : ¬ endR J p ([] ++ [(l : Int)]) = some e := by
      rw [ee]
      split
      · simp
      · intro z
        exact c (Option.some.inj z)
    rw [if_neg c, List.countP_cons]
    simp only [h2, decide_false, Bool.false_eq_true, if_false]
    rfl
theorem cN_s {J : Nat → Nat → Int} (hJ : JOK J) {p : Int} (hp : 0 ≤ p ∧ p ≤ 15) {n : Nat} (hn : n ≤ 8) {s l k : Nat} {e : Int} (he : 0 ≤ e) (hk : (elB (ndN s (2 ^ l)) n).length = k + 1) : cN J p n (k + 1) s l e = smZ (fun i => if (ndN s (2 ^ l)).testBit i = true then smZ (fun f => if enB J l (J i 0) (f : Int) = e then cN J p n k (ndN s (2 ^ l)) i (f : Int) else 0) 29 else 0) n := by
  unfold cN
  generalize ndN s (2 ^ l) = r at *
  rw [pm_snoc hk]
  refine smZ_eq (fun i hi => ?_)
  by_cases q : r.testBit i = true
  · rw [if_pos q, if_pos q]
    have hlen := elB_len1 hk q hi
    have := cnt_part (E := fun L => endR J p (L ++ [(i : Int)])) (G := fun f => decide (enB J l (J i 0) f = e)) (P := fun L => decide (endR J p (L ++ [(i : Int)] ++ [(l : Int)]) = some e)) (m := 29) (T := pmF k (elB (ndN r (2 ^ i)) n)) (fun L hL => by
      have hr := pm_rng hn hlen L hL
      have hr2 : ∀ x ∈ L ++ [(i : Int)], 0 ≤ x ∧ x < 8 := fun x hx => by
        rw [List.mem_append] at hx
        rcases hx with z | z
        · exact hr x z
        · have : x = (i : Int) := by simpa using z
          omega
      rw [decide_eq_true_iff, endR_snoc]
      constructor
      · rintro ⟨f, h1, h2, h3⟩
        have hb : 0 ≤ f ∧ f ≤ 28 := by
          unfold endR at h1
          cases hru : ruS J (some (p, 0)) (L ++ [(i : Int)]) with
          | none => rw [hru] at h1; exact absurd h1 (by simp)
          | some v =>
            rw [hru] at h1
            have b := ruS_b hJ hp _ hr2 (Int.le_refl 0) v hru
            have : v.2 = f := by simpa using h1
            have b2 := b.2.2 (by simp)
            omega
        refine ⟨f.toNat, by omega, ?_, ?_⟩
        · rw [Int.toNat_of_nonneg hb.1]
          exact h1
        · rw [Int.toNat_of_nonneg hb.1, decide_eq_true_iff]
          exact h3
      · rintro ⟨f, _, h1, h2⟩
        rw [decide_eq_true_iff] at h2
        exact ⟨(f : Int), h1, by omega, h2⟩)
    rw [this]
    refine smZ_eq (fun f _ => ?_)
    simp only [decide_eq_true_eq]
  · rw [if_neg q, if_neg q]
theorem pmS_len {g : List Int → List (List Int)} {B : Nat} : ∀ (R A : List Int), (∀ S : List Int, S.length + 1 = A.length + R.length → (g S).length ≤ B) → (pmS g A R).length ≤ R.length * B
  | [], _, _ => by simp [pmS]
  | x :: R, A, h => by
    rw [pmS, List.length_append, List.length_map, List.length_cons, Nat.add_mul, Nat.one_mul]
    have h1 := h (A ++ R) (by simp; omega)
    have h2 := pmS_len (g := g) (B := B) R (A ++ [x]) (fun S hS => h S (by simp at hS ⊢; omega))
    omega
theorem pm_len : ∀ (f : Nat) (S : List Int), S.length = f → f ≤ 8 → (pmF f S).length ≤ 8 ^ f
  | 0, S, _, _ => by simp [pmF]
  | f + 1, S, hl, h8 => by
    rw [pmF]
    have h := pmS_len (g := pmF f) (B := 8 ^ f) S [] (fun T hT => pm_len f T (by simp at hT; omega) (by omega))
    rw [hl] at h
    have h2 : (f + 1) * 8 ^ f ≤ 8 * 8 ^ f := Nat.mul_le_mul_right _ h8
    rw [Nat.pow_succ, Nat.mul_comm]
    omega
theorem cN_b (J : Nat → Nat → Int) (p : Int) {n k s l : Nat} (e : Int) (hk : (elB (ndN s (2 ^ l)) n).length = k) (h8 : k ≤ 8) : 0 ≤ cN J p n k s l e ∧ cN J p n k s l e ≤ 16777216 := by
  unfold cN
  have h1 := List.countP_le_length (p := fun L => decide (endR J p (L ++ [(l : Int)]) = some e)) (l := pmF k (elB (ndN s (2 ^ l)) n))
  have h2 := pm_len k _ hk h8
  have h3 : 8 ^ k ≤ 8 ^ 8 := Nat.pow_le_pow_right (by decide) h8
  have h4 : (8 : Nat) ^ 8 = 16777216 := by decide
  omega
