/-! orders one behind the other: lists, the next one of them -/
/-- the last of a list that is more than x -/
def lgP (x : Int) : List Int → Option Int
  | [] => none
  | y :: t => match lgP x t with
    | some z => some z
    | none => if x < y then some y else none
theorem lgP_app (x : Int) : ∀ (L1 L2 : List Int), lgP x (L1 ++ L2) = match lgP x L2 with
    | some z => some z
    | none => lgP x L1
  | [], L2 => by
    rw [List.nil_append]
    cases lgP x L2 <;> rfl
  | y :: L1, L2 => by
    rw [List.cons_append, lgP, lgP_app x L1 L2]
    cases h : lgP x L2 with
    | none => rfl
    | some z => rfl
theorem lgP_none {x : Int} : ∀ {L : List Int}, (∀ y ∈ L, ¬ x < y) → lgP x L = none
  | [], _ => rfl
  | y :: L, h => by
    rw [lgP, lgP_none (fun z hz => h z (List.mem_cons_of_mem _ hz))]
    rw [if_neg (h y (List.mem_cons_self ..))]
/-- the next order behind one; none: it is the last -/
def nextP : List Int → Option (List Int)
  | [] => none
  | x :: t => match nextP t with
    | some u => some (x :: u)
    | none => match lgP x t with
      | none => none
      | some y => some (y :: (t.map (fun e => if e = y then x else e)).reverse)
/-- one behind the other, the last one's next is e -/
def chnP (e : Option (List Int)) : List (List Int) → Prop
  | [] => False
  | [a] => nextP a = e
  | a :: b :: t => nextP a = some b ∧ chnP e (b :: t)
theorem chnP_app {e : Option (List Int)} {b : List Int} {L2 : List (List Int)} (h2 : chnP e (b :: L2)) : ∀ {L1 : List (List Int)}, chnP (some b) L1 → chnP e (L1 ++ b :: L2)
  | [a], h1 => ⟨h1, h2⟩
  | a :: c :: t, h1 => ⟨h1.1, chnP_app h2 (L1 := c :: t) h1.2⟩
theorem chnP_map (x : Int) : ∀ {L : List (List Int)} {l : List Int}, chnP none L → L.getLast? = some l → chnP (nextP (x :: l)) (L.map (x :: ·))
  | [a], l, _, hl => by
    simp at hl
    subst hl
    rfl
  | a :: b :: t, l, h, hl => by
    refine ⟨?_, chnP_map x (L := b :: t) h.2 (by rw [List.getLast?_cons_cons] at hl; exact hl)⟩
    rw [nextP, h.1]
def pmS (g : List Int → List (List Int)) : List Int → List Int → List (List Int)
  | _, [] => []
  | A, x :: R => (g (A ++ R)).map (x :: ·) ++ pmS g (A ++ [x]) R
/-- all orders of a list, by the first, then by the second .. -/
def pmF : Nat → List Int → List (List Int)
  | 0, _ => [[]]
  | f + 1, S => pmS (pmF f) [] S
theorem head_app {α : Type} {a : α} {L1 L2 : List α} (h : L1.head? = some a) : (L1 ++ L2).head? = some a := by
  cases L1 with
  | nil => simp at h
  | cons b t => simpa using h
theorem pm_chain : ∀ (f : Nat) (S : List Int), S.length = f → S.Pairwise (· < ·) → chnP none (pmF f S) ∧ (pmF f S).head? = some S ∧ (pmF f S).getLast? = some S.reverse
  | 0, S, hl, _ => by
    have : S = [] := List.length_eq_zero_iff.mp hl
    subst this
    exact ⟨rfl, rfl, rfl⟩
  | f + 1, S, hl, hs => by
    have key : ∀ (R A : List Int), A ++ R = S → R ≠ [] → chnP none (pmS (pmF f) A R) ∧ (pmS (pmF f) A R).head? = R.head?.map (fun x => x :: (A ++ R.tail)) ∧ (pmS (pmF f) A R).getLast? = some S.reverse := by
      intro R
      induction R with
      | nil => intro A _ h; exact absurd rfl h
      | cons x R ih =>
        intro A hA _
        subst hA
        have hlen : (A ++ R).length = f := by
          simp at hl ⊢
          omega
        rw [List.pairwise_append] at hs
        have hs2 := List.pairwise_cons.mp hs.2.1
        have hps : (A ++ R).Pairwise (· < ·) := List.pairwise_append.mpr ⟨hs.1, hs2.2, fun a ha b hb => hs.2.2 a ha b (List.mem_cons_of_mem _ hb)⟩
        have h0 := pm_chain f (A ++ R) hlen hps
        have hm := chnP_map x h0.1 h0.2.2
        have hAx : ∀ y ∈ A.reverse, ¬ x < y := fun y hy => by
          have := hs.2.2 y (List.mem_reverse.mp hy) x (List.mem_cons_self ..)
          omega
        have hlast : ((pmF f (A ++ R)).map (x :: ·)).getLast? = some (x :: (A ++ R).reverse) := by
          rw [List.getLast?_map, h0.2.2]; rfl
        have hnone : nextP (A ++ R).reverse = none := by
          have hc := h0.1
          have hg := h0.2.2
          clear hm h0 hlast ih
          generalize pmF f (A ++ R) = L at hc hg
          induction L with
          | nil => exact hc.elim
          | cons a t ih2 =>
            cases t with
            | nil =>
              have hg2 : a = (A ++ R).reverse := Option.some.inj hg
              rw [← hg2]
              exact hc
            | cons b t =>
              rw [List.getLast?_cons_cons] at hg
              exact ih2 hc.2 hg
        have hnx : nextP (x :: (A ++ R).reverse) = R.head?.map (fun y => y :: (A ++ x :: R.tail)) := by
          rw [nextP, hnone]
          cases R with
          | nil =>
            rw [List.append_nil, lgP_none hAx]
            rfl
          | cons y R =>
            have hxy : x < y := hs2.1 y (List.mem_cons_self ..)
            have e1 : (A ++ y :: R).reverse = R.reverse ++ (y :: A.reverse) := by simp
            have e2 : lgP x (A ++ y :: R).reverse = some y := by
              rw [e1, lgP_app, lgP, lgP_none hAx, if_pos hxy]
            rw [e2]
            have hR : ∀ z ∈ R, z ≠ y := fun z hz h => by
              have := (List.pairwise_cons.mp hs2.2).1 z hz
              omega
            have hA2 : ∀ z ∈ A, z ≠ y := fun z hz h => by
              have h1 := hs.2.2 z hz x (List.mem_cons_self ..)
              omega
            have m1 : R.map (fun e => if e = y then x else e) = R := by
              conv => rhs; rw [← List.map_id R]
              exact List.map_congr_left (fun z hz => if_neg (hR z hz))
            have m2 : A.map (fun e => if e = y then x else e) = A := by
              conv => rhs; rw [← List.map_id A]
              exact List.map_congr_left (fun z hz => if_neg (hA2 z hz))
            show some (y :: ((A ++ y :: R).reverse.map (fun e => if e = y then x else e)).reverse) = some (y :: (A ++ x :: R))
            rw [List.map_reverse, List.reverse_reverse, List.map_append, List.map_cons, m1, m2, if_pos rfl]
        have hh : ((pmF f (A ++ R)).map (x :: ·)).head? = some (x :: (A ++ R)) := by
          rw [List.head?_map, h0.2.1]; rfl
        rw [hnx] at hm
        cases R with
        | nil =>
          rw [pmS, pmS, List.append_nil]
          refine ⟨hm, hh, ?_⟩
          rw [hlast]
          simp
        | cons y R =>
          have h1 := ih (A ++ [x]) (by simp) (by simp)
          rw [pmS]
          refine ⟨?_, head_app hh, ?_⟩
          · obtain ⟨t, ht⟩ : ∃ t, pmS (pmF f) (A ++ [x]) (y :: R) = (y :: (A ++ x :: R)) :: t := by
              have h2 := h1.2.1
              cases h3 : pmS (pmF f) (A ++ [x]) (y :: R) with
              | nil => rw [h3] at h2; simp at h2
              | cons a t =>
                rw [h3] at h2
                simp at h2
                exact ⟨t, by rw [h2]⟩
            have h3 := h1.1
            rw [ht] at h3 ⊢
            exact chnP_app h3 hm
          · rw [List.getLast?_append, h1.2.2]
            rfl
    have hne : S ≠ [] := by
      intro h
      subst h
      simp at hl
    have h := key S [] rfl hne
    refine ⟨h.1, ?_, h.2.2⟩
    rw [pmF, h.2.1]
    cases S with
    | nil => exact absurd rfl hne
    | cons a t => rfl
/-! the next one as it is laid in a row of numbers -/
/-- m numbers from place a on -/
def sgL (l : Nat → Int) (a : Nat) : Nat → List Int
  | 0 => []
  | m + 1 => l a :: sgL l (a + 1) m
theorem sgL_len (l : Nat → Int) : ∀ (m a : Nat), (sgL l a m).length = m
  | 0, _ => rfl
  | m + 1, a => by rw [sgL, List.length_cons, sgL_len l m]
theorem sgL_app (l : Nat → Int) : ∀ (m a k : Nat), sgL l a (m + k) = sgL l a m ++ sgL l (a + m) k
  | 0, a, k => by simp [sgL]
  | m + 1, a, k => by rw [show m + 1 + k = (m + k) + 1 by omega, sgL, sgL, sgL_app l m (a + 1) k, List.cons_append, show a + 1 + m = a + (m + 1) by omega]
theorem sgL_snoc (l : Nat → Int) (a m : Nat) : sgL l a (m + 1) = sgL l a m ++ [l (a + m)] := by rw [sgL_app l m a 1]; rfl
theorem sgL_cong {l l2 : Nat → Int} : ∀ {m a : Nat}, (∀ j, a ≤ j → j < a + m → l j = l2 j) → sgL l a m = sgL l2 a m
  | 0, _, _ => rfl
  | m + 1, a, h => by rw [sgL, sgL, h a (by omega) (by omega), sgL_cong (fun j h1 h2 => h j (by omega) (by omega))]
theorem sgL_rev {l l2 : Nat → Int} : ∀ {m a b : Nat}, (∀ t, t < m → l2 (a + t) = l (b + (m - 1 - t))) → sgL l2 a m = (sgL l b m).reverse
  | 0, _, _, _ => rfl
  | m + 1, a, b, h => by
    rw [sgL_snoc l b m, List.reverse_append, sgL]
    have h0 := h 0 (by omega)
    rw [Nat.add_zero, show m + 1 - 1 - 0 = m by omega] at h0
    rw [h0, sgL_rev (l := l) (b := b) (fun t ht => by
      have := h (t + 1) (by omega)
      rw [show a + (t + 1) = a + 1 + t by omega, show m + 1 - 1 - (t + 1) = m - 1 - t by omega] at this
      exact this)]
    rfl
theorem sgL_mem {l : Nat → Int} {z : Int} : ∀ {m a : Nat}, z ∈ sgL l a m → ∃ j, a ≤ j ∧ j < a + m ∧ z = l j
  | 0, _, h => by simp [sgL] at h
  | m + 1, a, h => by
    rw [sgL] at h
    rcases List.mem_cons.mp h with q | q
    · exact ⟨a, by omega, by omega, q⟩
    · obtain ⟨j, h1, h2, h3⟩ := sgL_mem q
      exact ⟨j, by omega, by omega, h3⟩
theorem sgL_map {l l2 : Nat → Int} {f : Int → Int} : ∀ {m a : Nat}, (∀ j, a ≤ j → j < a + m → f (l j) = l2 j) → (sgL l a m).map f = sgL l2 a m
  | 0, _, _ => rfl
  | m + 1, a, h => by rw [sgL, sgL, List.map_cons, h a (by omega) (by omega), sgL_map (fun j h1 h2 => h j (by omega) (by omega))]
/-- numbers that fall have no next order -/
theorem next_desc {l : Nat → Int} : ∀ {m a : Nat}, (∀ j, a ≤ j → j + 1 < a + m → l (j + 1) < l j) → nextP (sgL l a m) = none ∧ ∀ j, a ≤ j → j < a + m → l j ≤ l a
  | 0, _, _ => ⟨rfl, fun j h1 h2 => by omega⟩
  | m + 1, a, h => by
    have h1 := next_desc (l := l) (m := m) (a := a + 1) (fun j q1 q2 => h j (by omega) (by omega))
    have h2 : ∀ j, a ≤ j → j < a + (m + 1) → l j ≤ l a := fun j q1 q2 => by
      by_cases e : j = a
      · subst e; omega
      · have h3 := h1.2 j (by omega) (by omega)
        have h4 := h a (by omega) (by omega)
        omega
    refine ⟨?_, h2⟩
    rw [sgL, nextP, h1.1, lgP_none]
    intro y hy
    obtain ⟨j, q1, q2, q3⟩ := sgL_mem hy
    have := h2 j (by omega) (by omega)
    omega
theorem next_pre {l : Nat → Int} {w u : List Int} (h : nextP w = some u) : ∀ (m a : Nat), nextP (sgL l a m ++ w) = some (sgL l a m ++ u)
  | 0, _ => h
  | m + 1, a => by rw [sgL, List.cons_append, nextP, next_pre h m (a + 1)]; rfl
/-- as nextLine lays it -/
theorem next_arr {l l2 : Nat → Int} {n i k : Nat} (hin : i + 1 < n) (hd : ∀ j, i < j → j + 1 < n → l (j + 1) < l j) (hik : i < k) (hkn : k < n) (hk : l i < l k) (hk2 : ∀ j, k < j → j < n → l j < l i) (h0 : ∀ j, j < i → l2 j = l j) (h1 : l2 i = l k) (h2 : ∀ t, t < n - i - 1 → l2 (i + 1 + t) = if n - 1 - t = k then l i else l (n - 1 - t)) (hinj : ∀ j, i < j → j < n → l j = l k → j = k) : nextP (sgL l 0 n) = some (sgL l2 0 n) := by
  have e1 : sgL l 0 n = sgL l 0 i ++ (l i :: sgL l (i + 1) (n - i - 1)) := by
    have := sgL_app l i 0 (n - i)
    rw [show i + (n - i) = n by omega, Nat.zero_add, show n - i = (n - i - 1) + 1 by omega, sgL] at this
    exact this
  have e2 : sgL l2 0 n = sgL l 0 i ++ (l k :: sgL l2 (i + 1) (n - i - 1)) := by
    have := sgL_app l2 i 0 (n - i)
    rw [show i + (n - i) = n by omega, Nat.zero_add, show n - i = (n - i - 1) + 1 by omega, sgL, h1] at this
    rw [this, sgL_cong (l := l2) (l2 := l) (fun j _ q => h0 j (by omega))]
  rw [e1, e2]
  refine next_pre ?_ i 0
  have hn := (next_desc (l := l) (m := n - i - 1) (a := i + 1) (fun j q1 q2 => hd j (by omega) (by omega))).1
  have hlg : lgP (l i) (sgL l (i + 1) (n - i - 1)) = some (l k) := by
    rw [show n - i - 1 = (k - i - 1) + ((n - k - 1) + 1) by omega, sgL_app, lgP_app, show i + 1 + (k - i - 1) = k by omega, sgL, lgP, lgP_none (L := sgL l (k + 1) (n - k - 1)) (fun y hy => by
      obtain ⟨j, q1, q2, q3⟩ := sgL_mem hy
      have := hk2 j (by omega) (by omega)
      omega), if_pos hk]
  rw [nextP, hn, hlg]
  show some (l k :: ((sgL l (i + 1) (n - i - 1)).map (fun e => if e = l k then l i else e)).reverse) = _
  rw [sgL_map (l := l) (l2 := fun j => if j = k then l i else l j) (fun j q1 q2 => by
    by_cases e : j = k
    · subst e; rw [if_pos rfl, if_pos rfl]
    · rw [if_neg e, if_neg (fun q => e (hinj j (by omega) (by omega) q))])]
  rw [sgL_rev (l := fun j => if j = k then l i else l j) (l2 := l2) (a := i + 1) (b := i + 1) (m := n - i - 1) (fun t ht => by
    rw [h2 t ht, show i + 1 + (n - i - 1 - 1 - t) = n - 1 - t by omega])]
