/-! rows of the whole proof that speak of the class alone -/
abbrev hB (s k : Int) : Prop := s.toNat.testBit k.toNat = true
def bgB (J : Nat → Nat → Int) (i : Nat) (p f : Int) : Int := if f + wap p (J i 0) < J i 1 then J i 1 else f + wap p (J i 0)
def enB (J : Nat → Nat → Int) (i : Nat) (p f : Int) : Int := if bgB J i p f ≤ J i 2 then bgB J i p f + J i 3 else -9
/-- jobs as they can be -/
abbrev JOK (J : Nat → Nat → Int) : Prop := ∀ i : Nat, i < 8 → (0 ≤ J i 0 ∧ J i 0 ≤ 15) ∧ (0 ≤ J i 1 ∧ J i 1 ≤ 27) ∧ (-10 ≤ J i 2 ∧ J i 2 ≤ 28) ∧ (0 ≤ J i 3 ∧ J i 3 ≤ 4) ∧ (0 ≤ J i 4 ∧ J i 4 ≤ 18) ∧ J i 2 + J i 3 ≤ 28
theorem bgB_b {J : Nat → Nat → Int} (hJ : JOK J) {i : Nat} (hi : i < 8) {p f : Int} (hp : 0 ≤ p ∧ p ≤ 15) (hf : 0 ≤ f) : 0 ≤ bgB J i p f ∧ f ≤ bgB J i p f ∧ (bgB J i p f ≤ f + 3 ∨ bgB J i p f ≤ 27) := by
  have h1 := hJ i hi
  have h2 := wap_b hp h1.1
  unfold bgB
  split <;> omega
theorem enB_b {J : Nat → Nat → Int} (hJ : JOK J) {i : Nat} (hi : i < 8) {p f : Int} (hp : 0 ≤ p ∧ p ≤ 15) (hf : 0 ≤ f) : enB J i p f = -9 ∨ (0 ≤ enB J i p f ∧ f ≤ enB J i p f ∧ enB J i p f ≤ 28) := by
  have h1 := hJ i hi
  have h2 := bgB_b hJ hi hp hf
  unfold enB
  split <;> omega
def pmS (g : List Int → List (List Int)) : List Int → List Int → List (List Int)
  | _, [] => []
  | A, x :: R => (g (A ++ R)).map (x :: ·) ++ pmS g (A ++ [x]) R
/-- all orders of a list, by the first, then by the second .. -/
def pmF : Nat → List Int → List (List Int)
  | 0, _ => [[]]
  | f + 1, S => pmS (pmF f) [] S
/-- m numbers from place a on -/
def sgL (l : Nat → Int) (a : Nat) : Nat → List Int
  | 0 => []
  | m + 1 => l a :: sgL l (a + 1) m
theorem sgL_app (l : Nat → Int) : ∀ (m a k : Nat), sgL l a (m + k) = sgL l a m ++ sgL l (a + m) k
  | 0, a, k => by simp [sgL]
  | m + 1, a, k => by rw [show m + 1 + k = (m + k) + 1 by omega, sgL, sgL, sgL_app l m (a + 1) k, List.cons_append, show a + 1 + m = a + (m + 1) by omega]
theorem sgL_snoc (l : Nat → Int) (a m : Nat) : sgL l a (m + 1) = sgL l a m ++ [l (a + m)] := by rw [sgL_app l m a 1]; rfl
theorem ndN_lt {s i : Nat} (h : s.testBit i = true) : ndN s (2 ^ i) < s := by
  have h1 := ndN_le s (2 ^ i)
  have h2 : ndN s (2 ^ i) ≠ s := fun e => by
    have := ndN_bit s (2 ^ i) i
    rw [e, h, Nat.testBit_two_pow_self] at this
    simp at this
  omega
/-- a set's numbers, the least first -/
def elB (s : Nat) : Nat → List Int
  | 0 => []
  | i + 1 => if s.testBit i = true then elB s i ++ [(i : Int)] else elB s i
theorem elB_len (s : Nat) : ∀ i, (elB s i).length ≤ i
  | 0 => by simp [elB]
  | i + 1 => by
    have h := elB_len s i
    rw [elB]
    split
    · simp; omega
    · omega
theorem elB_mem {s : Nat} {x : Int} : ∀ {i : Nat}, x ∈ elB s i → 0 ≤ x ∧ x < (i : Int) ∧ s.testBit x.toNat = true
  | 0, h => by simp [elB] at h
  | i + 1, h => by
    rw [elB] at h
    by_cases q : s.testBit i = true
    · rw [if_pos q, List.mem_append] at h
      rcases h with h | h
      · have := elB_mem h
        exact ⟨by omega, by omega, this.2.2⟩
      · have e : x = (i : Int) := by simpa using h
        subst e
        exact ⟨by omega, by omega, by simpa using q⟩
    · rw [if_neg q] at h
      have := elB_mem h
      exact ⟨by omega, by omega, this.2.2⟩
theorem elB_in {s : Nat} {k : Nat} (h : s.testBit k = true) : ∀ {i : Nat}, k < i → (k : Int) ∈ elB s i
  | 0, hk => by omega
  | i + 1, hk => by
    rw [elB]
    by_cases q : k = i
    · subst q
      rw [if_pos h, List.mem_append]
      right
      simp
    · have := elB_in h (i := i) (by omega)
      split
      · rw [List.mem_append]; exact Or.inl this
      · exact this
theorem elB_sorted (s : Nat) : ∀ i, (elB s i).Pairwise (· < ·)
  | 0 => List.Pairwise.nil
  | i + 1 => by
    rw [elB]
    split
    · refine List.pairwise_append.mpr ⟨elB_sorted s i, List.pairwise_singleton _ _, fun a ha b hb => ?_⟩
      have h1 := elB_mem ha
      have h2 : b = (i : Int) := by simpa using hb
      omega
    · exact elB_sorted s i
theorem sorted_nodup {L : List Int} (h : L.Pairwise (· < ·)) : L.Nodup := h.imp (fun {a b} (q : a < b) => by omega)
theorem pm_perm : ∀ (f : Nat) (S L : List Int), S.length = f → L ∈ pmF f S → L.Perm S
  | 0, S, L, hl, h => by
    have e : S = [] := List.length_eq_zero_iff.mp hl
    subst e
    have e2 : L = [] := by simpa [pmF] using h
    subst e2
    exact List.Perm.refl _
  | f + 1, S, L, hl, h => by
    have key : ∀ (R A : List Int), (A ++ R).length = f + 1 → L ∈ pmS (pmF f) A R → L.Perm (A ++ R) := by
      intro R
      induction R with
      | nil => intro A _ h2; simp [pmS] at h2
      | cons x R ih =>
        intro A hlen h2
        rw [pmS, List.mem_append] at h2
        rcases h2 with h2 | h2
        · obtain ⟨t, ht, e⟩ := List.mem_map.mp h2
          have hp := pm_perm f (A ++ R) t (by simp at hlen ⊢; omega) ht
          rw [← e]
          exact (hp.cons x).trans List.perm_middle.symm
        · have := ih (A ++ [x]) (by simp at hlen ⊢; omega) h2
          simpa using this
    exact key S [] hl h
def stp1 (J : Nat → Nat → Int) (s : Option (Int × Int)) (i : Int) : Option (Int × Int) := match s with
  | none => none
  | some q => if enB J i.toNat q.1 q.2 = -9 then none else some (J i.toNat 0, enB J i.toNat q.1 q.2)
/-- along a list of needs: place and free, if all can be met -/
def ruS (J : Nat → Nat → Int) (s : Option (Int × Int)) (L : List Int) : Option (Int × Int) := L.foldl (stp1 J) s
def feL (J : Nat → Nat → Int) (p : Int) (L : List Int) : Bool := (ruS J (some (p, 0)) L).isSome
theorem ldM_v {M : Mm} {a i : Nat} (ha : 49 ≤ a ∧ a ≤ 53) (hi : (i : Int) < M 23 4) : ldM M a i = jv M a i := by
  unfold ldM ldP
  rw [if_neg (by omega), if_pos ⟨ha, hi⟩]
theorem ldM_5 (M : Mm) : ldM M 48 5 = M 23 4 := by
  unfold ldM ldP
  rw [if_pos ⟨rfl, rfl⟩]
theorem endJ_eq {T U : Mm} (e : ∀ a, 48 ≤ a → a ≤ 53 → T a = U a) (i p f : Int) : endJ T i p f = endJ U i p f := by
  unfold endJ bgJ
  rw [e 48 (by decide) (by decide), e 49 (by decide) (by decide), e 50 (by decide) (by decide), e 51 (by decide) (by decide), e 52 (by decide) (by decide)]
theorem plJ_eq {T U : Mm} (e : ∀ a, 48 ≤ a → a ≤ 53 → T a = U a) (i : Int) : plJ T i = plJ U i := by
  unfold plJ
  rw [e 48 (by decide) (by decide), e 49 (by decide) (by decide)]
theorem lnJ_eq {T U : Mm} (e : ∀ a, 48 ≤ a → a ≤ 53 → T a = U a) (i : Int) : lnJ T i = lnJ U i := by
  unfold lnJ
  rw [e 48 (by decide) (by decide), e 52 (by decide) (by decide)]
theorem wsM_eq {T U : Mm} (e : ∀ a, 48 ≤ a → a ≤ 53 → T a = U a) (s : Int) : wsM T s = wsM U s := by
  unfold wsM
  rw [e 48 (by decide) (by decide), e 53 (by decide) (by decide)]
theorem meM_v (T : Mm) (i : Int) : (meM T i 54 3 = T 54 3 + 1 ∧ meM T i 54 4 = plJ T i ∧ meM T i 54 5 = endJ T i (T 54 4) (T 54 5)) ∧ (∀ j, meM T i 55 j = if j = (T 54 3).toNat then i else T 55 j) ∧ ∀ j, meM T i 56 j = if j = (T 54 3).toNat then endJ T i (T 54 4) (T 54 5) - lnJ T i else T 56 j := by
  unfold meM
  refine ⟨⟨?_, ?_, ?_⟩, fun j => ?_, fun j => ?_⟩
  · rw [stM_ne _ _ (by omega), stM_ne _ _ (by omega), stM_at]
  · rw [stM_ne _ _ (by omega), stM_at]
  · rw [stM_at]
  · rw [stM_off (by decide), stM_off (by decide), stM_off (by decide), stM_off (by decide)]
    by_cases z : j = (T 54 3).toNat
    · rw [if_pos z, z, stM_at]
    · rw [if_neg z, stM_ne _ _ (by omega)]
  · rw [stM_off (by decide), stM_off (by decide), stM_off (by decide)]
    by_cases z : j = (T 54 3).toNat
    · rw [if_pos z, z, stM_at]
    · rw [if_neg z, stM_ne _ _ (by omega), stM_off (by decide)]
theorem gaM_off (M : Mm) (o : Nat) {a : Nat} (h : a < 48 ∨ 56 < a) : gaM M o a = M a := by
  unfold gaM
  rw [gaF_off _ _ ⟨by omega, by omega, by omega⟩, bgM_off _ _ (by omega), ldM_off (by omega)]
/-- the jobs that a memory holds, as a table -/
def JE (U : Mm) (J : Nat → Nat → Int) (n : Nat) : Prop := (U 48 5 = (n : Int) ∧ n ≤ 8 ∧ JOK J) ∧ ∀ i : Nat, i < n → (∀ p f, endJ U (i : Int) p f = enB J i p f) ∧ plJ U (i : Int) = J i 0 ∧ U 53 i = J i 4
theorem JE.of {U T : Mm} {J : Nat → Nat → Int} {n : Nat} (h : JE U J n) (e : ∀ a, 48 ≤ a → a ≤ 53 → T a = U a) : JE T J n := by
  refine ⟨⟨?_, h.1.2⟩, fun i hi => ⟨fun p f => ?_, ?_, ?_⟩⟩
  · rw [e 48 (by decide) (by decide)]
    exact h.1.1
  · rw [endJ_eq e]
    exact (h.2 i hi).1 p f
  · rw [plJ_eq e]
    exact (h.2 i hi).2.1
  · rw [e 53 (by decide) (by decide)]
    exact (h.2 i hi).2.2
theorem ndN_0 {a b : Nat} : ndN a b = 0 ↔ ∀ k, a.testBit k = true → b.testBit k = true := by
  constructor
  · intro h k hk
    have := ndN_bit a b k
    rw [h, hk] at this
    simpa using this
  · intro h
    apply Nat.eq_of_testBit_eq
    intro k
    rw [ndN_bit]
    cases hk : a.testBit k with
    | false => simp
    | true => rw [h k hk]; simp
theorem ndN_sub {s i w : Nat} (h : ndN s w = 0) : ndN (ndN s (2 ^ i)) w = 0 := by
  rw [ndN_0] at h ⊢
  intro k hk
  rw [ndN_bit] at hk
  exact h k (by simp at hk; exact hk.1)
theorem spI_hi {T : Mm} {s : Nat} {tp : Int} : ∀ {k b : Nat}, (b < 9 * s ∨ 9 * s + k ≤ b) → spI T (s : Int) tp k 58 b = T 58 b
  | 0, _, _ => rfl
  | k + 1, b, h => by rw [spI, stM_ne _ _ (Or.inr (by omega)), spI_hi (k := k) (by omega)]
theorem lsF_cong {T U : Mm} {r : Nat} {i tp : Int} (eJ : ∀ a, 48 ≤ a → a ≤ 53 → T a = U a) : ∀ {c : Nat}, (∀ b, b < 9 * r + c → 9 * r ≤ b → T 58 b = U 58 b) → lsF T (r : Int) i tp c = lsF U (r : Int) i tp c
  | 0, _ => rfl
  | c + 1, h => by
    have e : T 58 ((r : Int) * 9 + (c : Int)).toNat = U 58 ((r : Int) * 9 + (c : Int)).toNat := h _ (by omega) (by omega)
    have e2 : pcol T tp (c : Int) = pcol U tp (c : Int) := by unfold pcol; rw [plJ_eq eJ]
    rw [lsF, lsF, lsF_cong eJ (c := c) (fun b q1 q2 => h b (by omega) q2), e, e2, endJ_eq eJ]
theorem cvS_cong {T U : Mm} {s : Nat} {i tp : Int} (eJ : ∀ a, 48 ≤ a → a ≤ 53 → T a = U a) (h : ∀ b, b < 9 * s → T 58 b = U 58 b) : cvS T (s : Int) tp i = cvS U (s : Int) tp i := by
  unfold cvS
  by_cases q : inS i (s : Int)
  · rw [if_pos q, if_pos q]
    have hl : ndN (s : Int).toNat (bitN i) < s := by
      rw [bitN_in ⟨q.1, q.2.1⟩, Int.toNat_natCast]
      exact ndN_lt (by have := q.2.2; rw [Int.toNat_natCast] at this; exact this)
    unfold lsE
    exact lsF_cong eJ (fun b q1 q2 => h b (by omega))
  · rw [if_neg q, if_neg q]
theorem spI_v {T : Mm} {s : Nat} {tp : Int} : ∀ {k : Nat}, k ≤ 8 → ∀ j, j < k → spI T (s : Int) tp k 58 (9 * s + j) = cvS T (s : Int) tp (j : Int)
  | 0, _, j, hj => by omega
  | k + 1, hk, j, hj => by
    have e := cvS_cong (T := spI T (s : Int) tp k) (U := T) (s := s) (i := (k : Int)) (tp := tp) (fun a _ _ => spI_off T _ _ (by omega) k) (fun b hb => spI_hi (Or.inl hb))
    by_cases q : j = k
    · rw [q, spI, show ((s : Int) * 9 + (k : Int)).toNat = 9 * s + k by omega, stM_at, e]
    · rw [spI, stM_ne _ _ (Or.inr (by omega)), spI_v (k := k) (by omega) j (by omega)]
/-- the least of a row -/
def saF (c : Nat → Int) : Nat → Int
  | 0 => c 8
  | k + 1 => lsr (saF c k) (c k)
theorem saF_cong {c d : Nat → Int} (h8 : c 8 = d 8) : ∀ {k : Nat}, (∀ j, j < k → c j = d j) → saF c k = saF d k
  | 0, _ => h8
  | k + 1, h => by rw [saF, saF, saF_cong h8 (fun j hj => h j (by omega)), h k (by omega)]
theorem spA_v {T : Mm} {s : Nat} {tp : Int} : ∀ {k : Nat}, k ≤ 8 → spA T (s : Int) tp k = saF (fun j => if j = 8 then T 58 (9 * s + 8) else cvS T (s : Int) tp (j : Int)) k
  | 0, _ => by
    rw [spA, saF]
    simp only [if_true]
    rw [show ((s : Int) * 9 + 8).toNat = 9 * s + 8 by omega]
  | k + 1, hk => by
    have e := cvS_cong (T := spI T (s : Int) tp k) (U := T) (s := s) (i := (k : Int)) (tp := tp) (fun a _ _ => spI_off T _ _ (by omega) k) (fun b hb => spI_hi (Or.inl hb))
    rw [spA, saF, spA_v (k := k) (by omega), e]
    simp only [if_neg (show ¬ k = 8 by omega)]
theorem spS_58 (T : Mm) (s : Nat) (w tp : Int) (b : Nat) : spS T (s : Int) w tp 58 b = if ndN s w.toNat = 0 ∧ 9 * s ≤ b ∧ b < 9 * s + 8 then cvS T (s : Int) tp ((b - 9 * s : Nat) : Int) else T 58 b := by
  unfold spS
  rw [Int.toNat_natCast]
  by_cases q : ndN s w.toNat = 0
  · rw [if_pos (by omega), stM_off (by decide)]
    by_cases q2 : 9 * s ≤ b ∧ b < 9 * s + 8
    · rw [if_pos ⟨q, q2⟩]
      have := spI_v (T := T) (s := s) (tp := tp) (k := 8) (by decide) (b - 9 * s) (by omega)
      rw [show 9 * s + (b - 9 * s) = b by omega] at this
      exact this
    · rw [if_neg (fun z => q2 z.2), spI_hi (by omega)]
  · rw [if_neg (by omega), if_neg (fun z => q z.1), stM_off (by decide)]
theorem spS_59 (T : Mm) (s : Nat) (w tp : Int) (b : Nat) : spS T (s : Int) w tp 59 b = if b = s then (if ndN s w.toNat = 0 then saF (fun j => if j = 8 then T 58 (9 * s + 8) else cvS T (s : Int) tp (j : Int)) 8 else -9) else T 59 b := by
  unfold spS
  rw [Int.toNat_natCast]
  by_cases q : ndN s w.toNat = 0
  · rw [if_pos (by omega), if_pos q, spA_v (by decide)]
    by_cases z : b = s
    · rw [if_pos z, z, stM_at]
    · rw [if_neg z, stM_ne _ _ (Or.inr z), spI_off _ _ _ (by decide)]
  · rw [if_neg (by omega), if_neg q]
    by_cases z : b = s
    · rw [if_pos z, z, stM_at]
    · rw [if_neg z, stM_ne _ _ (Or.inr z)]
theorem spT_hi {M : Mm} {w tp : Int} : ∀ {k b : Nat}, (9 * k ≤ b ∨ b % 9 = 8) → spT M w tp k 58 b = M 58 b
  | 0, _, _ => rfl
  | k + 1, b, h => by rw [spT, spS_58, if_neg (by omega), spT_hi (k := k) (by omega)]
theorem spT_keep {M : Mm} {w tp : Int} {k b : Nat} (h : b < 9 * k) : ∀ d, spT M w tp (k + d) 58 b = spT M w tp k 58 b
  | 0 => rfl
  | d + 1 => by rw [← Nat.add_assoc, spT, spS_58, if_neg (by omega), spT_keep h d]
theorem spT_keep9 {M : Mm} {w tp : Int} {k b : Nat} (h : b < k) : ∀ d, spT M w tp (k + d) 59 b = spT M w tp k 59 b
  | 0 => rfl
  | d + 1 => by rw [← Nat.add_assoc, spT, spS_59, if_neg (by omega), spT_keep9 h d]
/-- what a row of the table is, by the table itself -/
theorem spM_row (M : Mm) (w tp : Int) {s : Nat} (hs : s < 256) : (ndN s w.toNat = 0 → (∀ j : Nat, j < 8 → spM M w tp 58 (9 * s + j) = cvS (spM M w tp) (s : Int) tp (j : Int)) ∧ spM M w tp 59 s = saF (fun j => spM M w tp 58 (9 * s + j)) 8) ∧ (¬ ndN s w.toNat = 0 → spM M w tp 59 s = -9) ∧ spM M w tp 58 (9 * s + 8) = M 58 (9 * s + 8) := by
  have eF : spM M w tp = spT M w tp 256 := (spM_eq M w tp).symm
  rw [eF]
  have e1 : ∀ b, b < 9 * s + 9 → spT M w tp 256 58 b = spS (spT M w tp s) (s : Int) w tp 58 b := fun b hb => by
    have := spT_keep (M := M) (w := w) (tp := tp) (k := s + 1) (b := b) (by omega) (255 - s)
    rw [show s + 1 + (255 - s) = 256 by omega] at this
    rw [this, spT]
  have e2 : spT M w tp 256 59 s = spS (spT M w tp s) (s : Int) w tp 59 s := by
    have := spT_keep9 (M := M) (w := w) (tp := tp) (k := s + 1) (b := s) (by omega) (255 - s)
    rw [show s + 1 + (255 - s) = 256 by omega] at this
    rw [this, spT]
  have e3 : ∀ b, b < 9 * s → spT M w tp 256 58 b = spT M w tp s 58 b := fun b hb => by
    have := spT_keep (M := M) (w := w) (tp := tp) (k := s) (b := b) (by omega) (256 - s)
    rw [show s + (256 - s) = 256 by omega] at this
    exact this
  have eC : ∀ j : Nat, cvS (spT M w tp 256) (s : Int) tp (j : Int) = cvS (spT M w tp s) (s : Int) tp (j : Int) := fun j => cvS_cong (fun a _ _ => by rw [spT_off M w tp (by omega) (by omega), spT_off M w tp (by omega) (by omega)]) e3
  have e8 : spT M w tp 256 58 (9 * s + 8) = M 58 (9 * s + 8) := spT_hi (by omega)
  have e8s : spT M w tp s 58 (9 * s + 8) = M 58 (9 * s + 8) := spT_hi (by omega)
  refine ⟨fun hw => ?_, fun hw => ?_, e8⟩
  · have hr : ∀ j : Nat, j < 8 → spT M w tp 256 58 (9 * s + j) = cvS (spT M w tp 256) (s : Int) tp (j : Int) := fun j hj => by
      rw [e1 _ (by omega), spS_58, if_pos ⟨hw, by omega, by omega⟩, eC j, show 9 * s + j - 9 * s = j by omega]
    refine ⟨hr, ?_⟩
    rw [e2, spS_59, if_pos rfl, if_pos hw]
    refine saF_cong ?_ (fun j hj => ?_)
    · simp only [if_true]
      rw [e8, e8s]
    · simp only [if_neg (show ¬ j = 8 by omega)]
      rw [hr j hj, eC j]
  · rw [e2, spS_59, if_pos rfl, if_neg hw]
theorem rcM_row (U : Mm) (w p f : Int) {s : Nat} (hs : s < 256) : (ndN s w.toNat = 0 → (∀ j : Nat, j < 8 → rcM U w p f 58 (9 * s + j) = if s.testBit j = true then lsE (rcM U w p f) ((ndN s (2 ^ j) : Nat) : Int) (j : Int) p else -9) ∧ rcM U w p f 59 s = saF (fun j => rcM U w p f 58 (9 * s + j)) 8) ∧ (¬ ndN s w.toNat = 0 → rcM U w p f 59 s = -9) ∧ rcM U w p f 58 (9 * s + 8) = if s = 0 then f else -9 := by
  have h := spM_row (rcP U f 256) w p hs
  unfold rcM
  refine ⟨fun hw => ⟨fun j hj => ?_, (h.1 hw).2⟩, h.2.1, ?_⟩
  · rw [(h.1 hw).1 j hj]
    unfold cvS inS
    rw [Int.toNat_natCast, Int.toNat_natCast, bitN_in ⟨by omega, by omega⟩, Int.toNat_natCast]
    by_cases q : s.testBit j = true
    · rw [if_pos ⟨by omega, by omega, q⟩, if_pos q]
    · rw [if_neg (fun z => q z.2.2), if_neg q]
  · rw [h.2.2]
    unfold rcP
    rw [if_pos ⟨rfl, by omega, by omega⟩]
    by_cases q : s = 0
    · rw [if_pos (by omega), if_pos q]
    · rw [if_neg (by omega), if_neg q]
theorem JE.pc {T : Mm} {J : Nat → Nat → Int} {n : Nat} (h : JE T J n) {k : Nat} (hk : k < n) (tp : Int) : pcol T tp (k : Int) = J k 0 := by
  have := h.1.2.1
  unfold pcol
  rw [if_neg (by omega)]
  exact (h.2 k hk).2.1
theorem pcol_8 (T : Mm) (tp : Int) : pcol T tp ((8 : Nat) : Int) = tp := by
  unfold pcol
  rw [if_pos (by decide)]
theorem p2_256 {n : Nat} (h : n ≤ 8) : 2 ^ n ≤ 256 := Nat.pow_le_pow_right (by decide) h
theorem allN_lt (q : Int) {s : Nat} : s ≤ allN q ↔ s < 2 ^ q.toNat := by
  rw [allN_eq]
  have := Nat.two_pow_pos q.toNat
  omega
theorem wsM_ld {M : Mm} (w s : Int) : wsM (gfA M w) s = wsM (ldM M) s := wsM_eq (fun a h1 h2 => by unfold gfA; exact rcM_off _ _ _ _ (by omega) (by omega)) s
theorem ndN_self (a : Nat) : ndN a a = 0 := ndN_0.mpr (fun _ h => h)
theorem ndN_all {s : Nat} {q : Int} (hs : s < 2 ^ q.toNat) : ndN s (allN q) = 0 := by
  rw [ndN_0]
  intro k hk
  unfold allN
  rw [bsum_bit]
  by_cases z : k < q.toNat
  · simp [z]
  · rw [Nat.testBit_lt_two_pow (Nat.lt_of_lt_of_le hs (Nat.pow_le_pow_right (by decide) (by omega)))] at hk
    exact absurd hk (by decide)
theorem ndN_le2 {a b : Nat} (h : ndN a b = 0) : a ≤ b := by
  rw [ndN_0] at h
  have e : a = a &&& b := by
    apply Nat.eq_of_testBit_eq
    intro k
    rw [Nat.testBit_and]
    cases hk : a.testBit k with
    | false => simp
    | true => rw [h k hk]; rfl
  rw [e]
  exact Nat.and_le_right
theorem bpF_end {T : Mm} {al du a : Nat} (h : al < a) : ∀ d, bpF T al du (a + d) = bpF T al du a
  | 0 => rfl
  | d + 1 => by
    rw [← Nat.add_assoc, bpF, if_neg, bpF_end h d]
    intro x
    have := ndN_le2 x.1.1
    omega
theorem gfA_J {M : Mm} {w : Int} : ∀ a, 48 ≤ a → a ≤ 53 → gfA M w a = ldM M a := fun a h1 h2 => by
  unfold gfA
  exact rcM_off _ _ _ _ (by omega) (by omega)
theorem gfA_o {M : Mm} {w : Int} : ∀ a, a < 48 ∨ 62 < a → gfA M w a = M a := fun a h => gfA_off M w (by omega)
theorem p2_bit {i j : Nat} : (2 ^ i).testBit j = decide (i = j) := Nat.testBit_two_pow
theorem wap_comm (a b : Int) : wap a b = wap b a := by
  unfold wap
  (repeat' split) <;> omega
theorem lsr_no {a b : Int} : lsr a b = -9 ↔ a = -9 ∧ b = -9 := by
  unfold lsr
  by_cases h : a = -9 ∨ b = -9
  · rw [if_pos h]
    by_cases q : a = -9
    · rw [if_pos q]
      omega
    · rw [if_neg q]
      omega
  · rw [if_neg h]
    split <;> omega
theorem saF_no {c : Nat → Int} : ∀ {k : Nat}, saF c k = -9 ↔ c 8 = -9 ∧ ∀ j, j < k → c j = -9
  | 0 => ⟨fun h => ⟨h, fun j hj => by omega⟩, fun h => h.1⟩
  | k + 1 => by
    rw [saF, lsr_no, saF_no (k := k)]
    constructor
    · rintro ⟨⟨h1, h2⟩, h3⟩
      refine ⟨h1, fun j hj => ?_⟩
      by_cases q : j = k
      · rw [q]; exact h3
      · exact h2 j (by omega)
    · rintro ⟨h1, h2⟩
      exact ⟨⟨h1, fun j hj => h2 j (by omega)⟩, h2 k (by omega)⟩
theorem wap_tri (x y z : Int) : wap x z ≤ wap x y + wap y z + 1 := by
  unfold wap
  (repeat' split) <;> omega
/-- an order of a set of needs -/
def ordS (L : List Int) (s : Nat) : Prop := L.Nodup ∧ ∀ x : Int, x ∈ L ↔ (0 ≤ x ∧ s.testBit x.toNat = true)
theorem nil_or_snoc (L : List Int) : L = [] ∨ ∃ A x, L = A ++ [x] := by
  induction L with
  | nil => exact Or.inl rfl
  | cons a t ih =>
    right
    rcases ih with h | ⟨A, x, h⟩
    · exact ⟨[], a, by rw [h]; rfl⟩
    · exact ⟨a :: A, x, by rw [h]; rfl⟩
theorem nd_bit {s i : Nat} {x : Int} (hx : 0 ≤ x) : (ndN s (2 ^ i)).testBit x.toNat = true ↔ s.testBit x.toNat = true ∧ ¬ x = (i : Int) := by
  rw [ndN_bit, p2_bit]
  by_cases q : i = x.toNat
  · have e : x = (i : Int) := by omega
    rw [e, Int.toNat_natCast]
    simp
  · have e : ¬ x = (i : Int) := by omega
    simp [q, e]
theorem ordS_cons {L : List Int} {s i : Nat} : ordS ((i : Int) :: L) s ↔ s.testBit i = true ∧ ordS L (ndN s (2 ^ i)) := by
  unfold ordS
  rw [List.nodup_cons]
  constructor
  · rintro ⟨⟨h1, h2⟩, h3⟩
    have hi := (h3 (i : Int)).mp (List.mem_cons_self ..)
    rw [Int.toNat_natCast] at hi
    refine ⟨hi.2, h2, fun x => ⟨fun hx => ?_, fun hx => ?_⟩⟩
    · have := (h3 x).mp (List.mem_cons_of_mem _ hx)
      refine ⟨this.1, (nd_bit this.1).mpr ⟨this.2, ?_⟩⟩
      intro e
      rw [e] at hx
      exact h1 hx
    · have h := (nd_bit hx.1).mp hx.2
      have := (h3 x).mpr ⟨hx.1, h.1⟩
      rcases List.mem_cons.mp this with e | e
      · exact absurd e h.2
      · exact e
  · rintro ⟨h1, h2, h3⟩
    refine ⟨⟨?_, h2⟩, fun x => ⟨fun hx => ?_, fun hx => ?_⟩⟩
    · intro hi
      have := (h3 (i : Int)).mp hi
      exact ((nd_bit this.1).mp this.2).2 rfl
    · rcases List.mem_cons.mp hx with e | e
      · rw [e, Int.toNat_natCast]
        exact ⟨by omega, h1⟩
      · have := (h3 x).mp e
        exact ⟨this.1, ((nd_bit this.1).mp this.2).1⟩
    · by_cases e : x = (i : Int)
      · rw [e]
        exact List.mem_cons_self ..
      · exact List.mem_cons_of_mem _ ((h3 x).mpr ⟨hx.1, (nd_bit hx.1).mpr ⟨hx.2, e⟩⟩)
theorem ordS_perm {L L2 : List Int} {s : Nat} (h : L.Perm L2) (k : ordS L2 s) : ordS L s :=
  ⟨h.nodup_iff.mpr k.1, fun x => h.mem_iff.trans (k.2 x)⟩
theorem ordS_snoc {L : List Int} {s i : Nat} : ordS (L ++ [(i : Int)]) s ↔ s.testBit i = true ∧ ordS L (ndN s (2 ^ i)) := by
  have h : (L ++ [(i : Int)]).Perm ((i : Int) :: L) := List.perm_append_singleton _ L
  rw [← ordS_cons]
  exact ⟨fun k => ordS_perm h.symm k, fun k => ordS_perm h k⟩
theorem ordS_nil {s : Nat} : ordS [] s ↔ s = 0 := by
  constructor
  · intro h
    apply Nat.eq_of_testBit_eq
    intro j
    rw [Nat.zero_testBit]
    cases e : s.testBit j with
    | false => rfl
    | true =>
      have := (h.2 (j : Int)).mpr ⟨by omega, by rw [Int.toNat_natCast]; exact e⟩
      simp at this
  · intro h
    subst h
    exact ⟨List.nodup_nil, fun x => by simp⟩
theorem ruS_none (J : Nat → Nat → Int) : ∀ L, ruS J none L = none
  | [] => rfl
  | x :: L => ruS_none J L
theorem ruS_snoc (J : Nat → Nat → Int) (q : Option (Int × Int)) (L : List Int) (i : Int) : ruS J q (L ++ [i]) = stp1 J (ruS J q L) i := by
  unfold ruS
  rw [List.foldl_append]
  rfl
theorem ruS_cons (J : Nat → Nat → Int) (q : Option (Int × Int)) (L : List Int) (i : Int) : ruS J q (i :: L) = ruS J (stp1 J q i) L := rfl
/-- a set can be met from a place on -/
def FE (J : Nat → Nat → Int) (p f : Int) (s : Nat) : Prop := ∃ L, ordS L s ∧ ruS J (some (p, f)) L ≠ none
theorem FE_0 (J : Nat → Nat → Int) (p f : Int) : FE J p f 0 := ⟨[], ordS_nil.mpr rfl, by show some (p, f) ≠ none; simp⟩
theorem FE_rec {J : Nat → Nat → Int} {p f : Int} {s : Nat} (hs : s ≠ 0) : FE J p f s ↔ ∃ i : Nat, s.testBit i = true ∧ ¬ enB J i p f = -9 ∧ FE J (J i 0) (enB J i p f) (ndN s (2 ^ i)) := by
  constructor
  · rintro ⟨L, h1, h2⟩
    cases L with
    | nil => exact absurd (ordS_nil.mp h1) hs
    | cons x L =>
      have hx := (h1.2 x).mp (List.mem_cons_self ..)
      have e : x = ((x.toNat : Nat) : Int) := by omega
      generalize x.toNat = i at *
      subst e
      have h3 := ordS_cons.mp h1
      rw [ruS_cons] at h2
      unfold stp1 at h2
      simp only [Int.toNat_natCast] at h2
      by_cases q : enB J i p f = -9
      · rw [if_pos q] at h2
        exact absurd (ruS_none J L) h2
      · rw [if_neg q] at h2
        exact ⟨i, h3.1, q, L, h3.2, h2⟩
  · rintro ⟨i, h1, h2, L, h3, h4⟩
    refine ⟨(i : Int) :: L, ordS_cons.mpr ⟨h1, h3⟩, ?_⟩
    rw [ruS_cons]
    unfold stp1
    simp only [Int.toNat_natCast]
    rw [if_neg h2]
    exact h4
theorem lsr_le {a b : Int} (hb : ¬ b = -9) : ¬ lsr a b = -9 ∧ lsr a b ≤ b := by
  unfold lsr
  by_cases h : a = -9 ∨ b = -9
  · rw [if_pos h, if_pos (by omega)]
    omega
  · rw [if_neg h]
    split <;> omega
theorem lsr_le2 {a b : Int} (ha : ¬ a = -9) : ¬ lsr a b = -9 ∧ lsr a b ≤ a := by
  unfold lsr
  by_cases h : a = -9 ∨ b = -9
  · rw [if_pos h, if_neg ha]
    omega
  · rw [if_neg h]
    split <;> omega
theorem lsr_or (a b : Int) : lsr a b = a ∨ lsr a b = b := by
  unfold lsr
  (repeat' split) <;> omega
theorem lsF_le {T : Mm} {r : Nat} {i tp : Int} : ∀ {k c : Nat}, c < k → ¬ T 58 (9 * r + c) = -9 → ¬ endJ T i (pcol T tp (c : Int)) (T 58 (9 * r + c)) = -9 → ¬ lsF T (r : Int) i tp k = -9 ∧ lsF T (r : Int) i tp k ≤ endJ T i (pcol T tp (c : Int)) (T 58 (9 * r + c))
  | 0, c, h, _, _ => by omega
  | k + 1, c, h, h1, h2 => by
    rw [lsF, show ((r : Int) * 9 + (k : Int)).toNat = 9 * r + k by omega]
    by_cases q : c = k
    · rw [← q, if_neg h1]
      exact lsr_le h2
    · have ih := lsF_le (T := T) (r := r) (i := i) (tp := tp) (k := k) (c := c) (by omega) h1 h2
      by_cases z : T 58 (9 * r + k) = -9
      · rw [if_pos z]
        exact ih
      · rw [if_neg z]
        have := lsr_le2 (b := endJ T i (pcol T tp (k : Int)) (T 58 (9 * r + k))) ih.1
        exact ⟨this.1, by omega⟩
theorem lsF_ex {T : Mm} {r : Nat} {i tp : Int} : ∀ {k : Nat}, ¬ lsF T (r : Int) i tp k = -9 → ∃ c, c < k ∧ ¬ T 58 (9 * r + c) = -9 ∧ lsF T (r : Int) i tp k = endJ T i (pcol T tp (c : Int)) (T 58 (9 * r + c))
  | 0, h => absurd rfl h
  | k + 1, h => by
    rw [lsF, show ((r : Int) * 9 + (k : Int)).toNat = 9 * r + k by omega] at h ⊢
    by_cases z : T 58 (9 * r + k) = -9
    · rw [if_pos z] at h ⊢
      obtain ⟨c, h1, h2, h3⟩ := lsF_ex h
      exact ⟨c, by omega, h2, h3⟩
    · rw [if_neg z] at h ⊢
      rcases lsr_or (lsF T (r : Int) i tp k) (endJ T i (pcol T tp (k : Int)) (T 58 (9 * r + k))) with e | e
      · rw [e] at h ⊢
        obtain ⟨c, h1, h2, h3⟩ := lsF_ex h
        exact ⟨c, by omega, h2, h3⟩
      · exact ⟨k, by omega, z, e⟩
theorem enB_mono {J : Nat → Nat → Int} {i : Nat} {p f g : Int} (h : f ≤ g) (hj : 0 ≤ J i 1 ∧ 0 ≤ J i 3) (hg : ¬ enB J i p g = -9) (h0 : 0 ≤ f + wap p (J i 0)) : ¬ enB J i p f = -9 ∧ enB J i p f ≤ enB J i p g := by
  unfold enB bgB at *
  generalize wap p (J i 0) = a at *
  (repeat' split at hg) <;> (repeat' split) <;> omega
/-- the table says what can be met, by when -/
theorem tab_FE {U : Mm} {J : Nat → Nat → Int} {n : Nat} (hJ : JE U J n) {w p f : Int} (hp : 0 ≤ p ∧ p ≤ 15) (hf : 0 ≤ f) : ∀ s, s < 2 ^ n → ndN s w.toNat = 0 → (∀ i : Nat, i < 8 → ¬ rcM U w p f 58 (9 * s + i) = -9 → s.testBit i = true ∧ 0 ≤ rcM U w p f 58 (9 * s + i) ∧ ∃ L, ordS (L ++ [(i : Int)]) s ∧ ruS J (some (p, f)) (L ++ [(i : Int)]) = some (J i 0, rcM U w p f 58 (9 * s + i))) ∧ ∀ (L : List Int) (i : Nat) (q : Int × Int), ordS (L ++ [(i : Int)]) s → ruS J (some (p, f)) (L ++ [(i : Int)]) = some q → ¬ rcM U w p f 58 (9 * s + i) = -9 ∧ rcM U w p f 58 (9 * s + i) ≤ q.2 := by
  intro s
  induction s using Nat.strongRecOn with
  | _ s ih =>
    intro hs hw
    have h8 := hJ.1.2.1
    have hp2 := p2_256 h8
    have hJT : JE (rcM U w p f) J n := hJ.of (fun a h1 h2 => rcM_off U w p f (by omega) (by omega))
    have row := rcM_row U w p f (s := s) (by omega)
    have bl : ∀ i : Nat, s.testBit i = true → i < n := fun i hi => by
      by_cases z : i < n
      · exact z
      · rw [Nat.testBit_lt_two_pow (Nat.lt_of_lt_of_le hs (Nat.pow_le_pow_right (by decide) (by omega)))] at hi
        exact absurd hi (by decide)
    constructor
    · intro i hi hne
      have hrow := (row.1 hw).1 i hi
      rw [hrow] at hne ⊢
      by_cases q : s.testBit i = true
      · rw [if_pos q] at hne ⊢
        have hin := bl i q
        have hr := ndN_lt q
        have hrw := ndN_sub (i := i) hw
        have hor : ∀ L, ordS (L ++ [(i : Int)]) s ↔ ordS L (ndN s (2 ^ i)) := fun L => by
          rw [ordS_snoc]
          exact ⟨fun z => z.2, fun z => ⟨q, z⟩⟩
        have ihr := ih _ hr (by omega) hrw
        generalize ndN s (2 ^ i) = r at *
        unfold lsE at hne ⊢
        obtain ⟨c, c1, c2, c3⟩ := lsF_ex hne
        rw [c3] at hne ⊢
        rw [(hJT.2 i hin).1] at hne ⊢
        have rowr := rcM_row U w p f (s := r) (by omega)
        by_cases z : c < 8
        · obtain ⟨b1, b2, L, b3, b4⟩ := ihr.1 c z c2
          have hcn : c < n := by
            by_cases y : c < n
            · exact y
            · rw [Nat.testBit_lt_two_pow (Nat.lt_of_lt_of_le (show r < 2 ^ n by omega) (Nat.pow_le_pow_right (by decide) (by omega)))] at b1
              exact absurd b1 (by decide)
          rw [hJT.pc hcn] at hne ⊢
          have hbb := enB_b hJ.1.2.2 (i := i) hi (hJ.1.2.2 c (by omega)).1 b2
          refine ⟨q, by omega, L ++ [(c : Int)], (hor _).mpr b3, ?_⟩
          rw [ruS_snoc, b4]
          unfold stp1
          simp only [Int.toNat_natCast]
          rw [if_neg hne]
        · have e8 : c = 8 := by omega
          subst e8
          rw [rowr.2.2] at c2 hne ⊢
          by_cases y : r = 0
          · rw [if_pos y] at c2 hne ⊢
            rw [pcol_8] at hne ⊢
            have hbb := enB_b hJ.1.2.2 (i := i) hi hp hf
            refine ⟨q, by omega, [], (hor _).mpr (ordS_nil.mpr y), ?_⟩
            rw [ruS_snoc]
            show stp1 J (some (p, f)) (i : Int) = _
            unfold stp1
            simp only [Int.toNat_natCast]
            rw [if_neg hne]
          · rw [if_neg y] at c2
            exact absurd rfl c2
      · rw [if_neg q] at hne
        exact absurd rfl hne
    · intro L i q hL hq
      have ho := ordS_snoc.mp hL
      have hin := bl i ho.1
      have hi : i < 8 := by omega
      have hr := ndN_lt ho.1
      have hrw := ndN_sub (i := i) hw
      have ihr := ih _ hr (by omega) hrw
      rw [(row.1 hw).1 i hi, if_pos ho.1]
      have hL2 := ho.2
      generalize ndN s (2 ^ i) = r at *
      have rowr := rcM_row U w p f (s := r) (by omega)
      rw [ruS_snoc] at hq
      unfold lsE
      have ji := hJ.1.2.2 i hi
      rcases nil_or_snoc L with e | ⟨A, x, e⟩
      · subst e
        have hr0 := ordS_nil.mp hL2
        have hq2 : stp1 J (some (p, f)) (i : Int) = some q := hq
        unfold stp1 at hq2
        simp only [Int.toNat_natCast] at hq2
        by_cases y : enB J i p f = -9
        · rw [if_pos y] at hq2
          exact absurd hq2 (by simp)
        · rw [if_neg y] at hq2
          have e := Option.some.inj hq2
          have r8 : rcM U w p f 58 (9 * r + 8) = f := by rw [rowr.2.2, if_pos hr0]
          have := lsF_le (T := rcM U w p f) (r := r) (i := (i : Int)) (tp := p) (k := 9) (c := 8) (by decide) (by rw [r8]; omega) (by rw [r8, pcol_8, (hJT.2 i hin).1]; exact y)
          rw [r8, pcol_8, (hJT.2 i hin).1] at this
          rw [← e]
          exact this
      · subst e
        have hx := (hL2.2 x).mp (by simp)
        have ex : x = ((x.toNat : Nat) : Int) := by omega
        generalize x.toNat = c at *
        subst ex
        cases hru : ruS J (some (p, f)) (A ++ [(c : Int)]) with
        | none =>
          rw [hru] at hq
          exact absurd hq (by unfold stp1; simp)
        | some q2 =>
          rw [hru] at hq
          have hc := ihr.2 A c q2 hL2 hru
          have hcb : r.testBit c = true := (ordS_snoc.mp hL2).1
          have hcn : c < n := by
            by_cases y : c < n
            · exact y
            · rw [Nat.testBit_lt_two_pow (Nat.lt_of_lt_of_le (show r < 2 ^ n by omega) (Nat.pow_le_pow_right (by decide) (by omega)))] at hcb
              exact absurd hcb (by decide)
          have q1 : q2.1 = J c 0 := by
            rw [ruS_snoc] at hru
            unfold stp1 at hru
            split at hru
            · exact absurd hru (by simp)
            · simp only [Int.toNat_natCast] at hru
              split at hru
              · exact absurd hru (by simp)
              · rw [← Option.some.inj hru]
          unfold stp1 at hq
          simp only [Int.toNat_natCast] at hq
          by_cases y : enB J i q2.1 q2.2 = -9
          · rw [if_pos y] at hq
            exact absurd hq (by simp)
          · rw [if_neg y] at hq
            have e := Option.some.inj hq
            have hv := (ihr.1 c (by omega) hc.1).2.1
            rw [q1] at y e
            have wb := wap_b (hJ.1.2.2 c (by omega)).1 ji.1
            have mo := enB_mono (J := J) (i := i) (p := J c 0) hc.2 ⟨ji.2.1.1, ji.2.2.2.1.1⟩ y (by omega)
            have := lsF_le (T := rcM U w p f) (r := r) (i := (i : Int)) (tp := p) (k := 9) (c := c) (by omega) hc.1 (by rw [hJT.pc hcn, (hJT.2 i hin).1]; exact mo.1)
            rw [hJT.pc hcn, (hJT.2 i hin).1] at this
            rw [← e]
            exact ⟨this.1, by show _ ≤ enB J i (J c 0) q2.2; omega⟩
theorem rc_FE {U : Mm} {J : Nat → Nat → Int} {n : Nat} (hJ : JE U J n) {p f : Int} (hp : 0 ≤ p ∧ p ≤ 15) (hf : 0 ≤ f) {s : Nat} (hs : s < 2 ^ n) : ¬ rcM U (s : Int) p f 59 s = -9 ↔ FE J p f s := by
  have h8 := hJ.1.2.1
  have hp2 := p2_256 h8
  have hw : ndN s (s : Int).toNat = 0 := by rw [Int.toNat_natCast]; exact ndN_self s
  have row := rcM_row U (s : Int) p f (s := s) (by omega)
  have t := tab_FE hJ (w := (s : Int)) hp hf s hs hw
  rw [(row.1 hw).2, saF_no]
  constructor
  · intro h
    by_cases z : s = 0
    · rw [z]
      exact FE_0 J p f
    · by_cases y : ∃ i : Nat, i < 8 ∧ ¬ rcM U (s : Int) p f 58 (9 * s + i) = -9
      · obtain ⟨i, h1, h2⟩ := y
        obtain ⟨_, _, L, b1, b2⟩ := t.1 i h1 h2
        exact ⟨L ++ [(i : Int)], b1, by rw [b2]; simp⟩
      · exfalso
        apply h
        refine ⟨by rw [row.2.2, if_neg z], fun j hj => ?_⟩
        by_cases u : rcM U (s : Int) p f 58 (9 * s + j) = -9
        · exact u
        · exact absurd ⟨j, hj, u⟩ y
  · rintro ⟨L, h1, h2⟩ ⟨z1, z2⟩
    rcases nil_or_snoc L with e | ⟨A, x, e⟩
    · subst e
      have := ordS_nil.mp h1
      rw [row.2.2, if_pos this] at z1
      omega
    · subst e
      have hx := (h1.2 x).mp (by simp)
      have ex : x = ((x.toNat : Nat) : Int) := by omega
      generalize x.toNat = i at *
      subst ex
      cases hru : ruS J (some (p, f)) (A ++ [(i : Int)]) with
      | none => exact h2 hru
      | some q =>
        have hb := (ordS_snoc.mp h1).1
        have hi : i < 8 := by
          by_cases y : i < 8
          · exact y
          · rw [Nat.testBit_lt_two_pow (Nat.lt_of_lt_of_le hs (Nat.pow_le_pow_right (by decide) (by omega)))] at hb
            exact absurd hb (by decide)
        exact (t.2 A i q h1 hru).1 (z2 i hi)
def Qf (J : Nat → Nat → Int) (p f : Int) (L : List Int) : Bool := (ruS J (some (p, f)) L).isSome
/-- the first order that can be done, in the reference's row of orders -/
def fiL (J : Nat → Nat → Int) (p f : Int) (k : Nat) (S : List Int) : Option (List Int) := (pmF k S).find? (Qf J p f)
def gdX (J : Nat → Nat → Int) (n k : Nat) (p f : Int) (s : Nat) (x : Int) : Option (List Int) := if enB J x.toNat p f = -9 then none else (fiL J (J x.toNat 0) (enB J x.toNat p f) k (elB (ndN s (2 ^ x.toNat)) n)).map (x :: ·)
theorem elB_flt {s : Nat} {x : Int} (hx : 0 ≤ x) : ∀ n, (elB s n).filter (fun y => !decide (y = x)) = elB (ndN s (2 ^ x.toNat)) n
  | 0 => rfl
  | n + 1 => by
    rw [elB, elB, ndN_bit, p2_bit]
    by_cases q : s.testBit n = true
    · rw [if_pos q, List.filter_append, elB_flt hx n]
      by_cases z : x.toNat = n
      · have e : (n : Int) = x := by omega
        simp [q, z, e]
      · have e : ¬ (n : Int) = x := by omega
        simp [q, z, e]
    · rw [if_neg q, elB_flt hx n]
      simp at q
      simp [q]
theorem elB_nd (s n : Nat) : (elB s n).Nodup := sorted_nodup (elB_sorted s n)
theorem elB_del {A R : List Int} {x : Int} {s n : Nat} (h : A ++ x :: R = elB s n) : A ++ R = elB (ndN s (2 ^ x.toNat)) n := by
  have hx := elB_mem (s := s) (i := n) (x := x) (by rw [← h]; simp)
  have hn : (x :: (A ++ R)).Nodup := by
    have := elB_nd s n
    rw [← h] at this
    exact (List.perm_middle.nodup_iff).mp this
  have hm := (List.nodup_cons.mp hn).1
  rw [← elB_flt hx.1 n, ← h, List.filter_append, List.filter_cons]
  have hA : A.filter (fun y => !decide (y = x)) = A := List.filter_eq_self.mpr (fun a ha => by
    have : ¬ a = x := fun e => hm (by rw [← e]; simp [ha])
    simp [this])
  have hR : R.filter (fun y => !decide (y = x)) = R := List.filter_eq_self.mpr (fun a ha => by
    have : ¬ a = x := fun e => hm (by rw [← e]; simp [ha])
    simp [this])
  rw [hA, hR]
  simp
theorem fi_key {J : Nat → Nat → Int} {p f : Int} {s n k : Nat} : ∀ (R A : List Int), A ++ R = elB s n → (pmS (pmF k) A R).find? (Qf J p f) = R.findSome? (gdX J n k p f s)
  | [], _, _ => rfl
  | x :: R, A, h => by
    have ih := fi_key (J := J) (p := p) (f := f) (s := s) (n := n) (k := k) R (A ++ [x]) (by rw [← h]; simp)
    rw [pmS, List.find?_append, List.find?_map, ih, List.findSome?_cons, elB_del h]
    have hx := elB_mem (s := s) (i := n) (x := x) (by rw [← h]; simp)
    by_cases q : enB J x.toNat p f = -9
    · have e : (Qf J p f ∘ (x :: ·)) = fun _ => false := by
        funext L
        show (ruS J (stp1 J (some (p, f)) x) L).isSome = false
        unfold stp1
        simp only []
        rw [if_pos q, ruS_none]
        rfl
      have g : gdX J n k p f s x = none := by
        unfold gdX
        rw [if_pos q]
      have z : ∀ T : List (List Int), T.find? (fun _ => false) = none := fun T => by
        rw [List.find?_eq_none]
        intro a _
        simp
      rw [e, g, z]
      rfl
    · have e : (Qf J p f ∘ (x :: ·)) = Qf J (J x.toNat 0) (enB J x.toNat p f) := by
        funext L
        show (ruS J (stp1 J (some (p, f)) x) L).isSome = (ruS J (some (J x.toNat 0, enB J x.toNat p f)) L).isSome
        unfold stp1
        simp only []
        rw [if_neg q]
      have g : gdX J n k p f s x = (fiL J (J x.toNat 0) (enB J x.toNat p f) k (elB (ndN s (2 ^ x.toNat)) n)).map (x :: ·) := by
        unfold gdX
        rw [if_neg q]
      rw [e, g]
      unfold fiL
      cases (pmF k (elB (ndN s (2 ^ x.toNat)) n)).find? (Qf J (J x.toNat 0) (enB J x.toNat p f)) with
      | none => rfl
      | some L => rfl
theorem fi_rec {J : Nat → Nat → Int} {p f : Int} {s n k : Nat} : fiL J p f (k + 1) (elB s n) = (elB s n).findSome? (gdX J n k p f s) := fi_key (elB s n) [] rfl
theorem elB_0 {s n : Nat} (hs : s < 2 ^ n) (h : (elB s n).length = 0) : s = 0 := by
  apply Nat.eq_of_testBit_eq
  intro j
  rw [Nat.zero_testBit]
  cases e : s.testBit j with
  | false => rfl
  | true =>
    exfalso
    have hj : j < n := by
      by_cases z : j < n
      · exact z
      · rw [Nat.testBit_lt_two_pow (Nat.lt_of_lt_of_le hs (Nat.pow_le_pow_right (by decide) (by omega)))] at e
        exact absurd e (by decide)
    have := elB_in e hj
    rw [List.length_eq_zero_iff.mp h] at this
    simp at this
theorem elB_len1 {s n k i : Nat} (h : (elB s n).length = k + 1) (hi : s.testBit i = true) (hn : i < n) : (elB (ndN s (2 ^ i)) n).length = k := by
  obtain ⟨A, R, e⟩ := List.append_of_mem (elB_in hi hn)
  have := elB_del e.symm
  rw [Int.toNat_natCast] at this
  rw [← this]
  rw [e] at h
  simp at h ⊢
  omega
theorem FE_fi {J : Nat → Nat → Int} {n : Nat} : ∀ (k : Nat) (p f : Int) (s : Nat), (elB s n).length = k → s < 2 ^ n → (FE J p f s ↔ ∃ L, fiL J p f k (elB s n) = some L)
  | 0, p, f, s, h, hs => by
    have := elB_0 hs h
    subst this
    rw [List.length_eq_zero_iff.mp h]
    exact ⟨fun _ => ⟨[], rfl⟩, fun _ => FE_0 J p f⟩
  | k + 1, p, f, s, h, hs => by
    have h0 : s ≠ 0 := by
      intro e
      subst e
      cases hL : elB 0 n with
      | nil => rw [hL] at h; simp at h
      | cons x t =>
        have := elB_mem (s := 0) (i := n) (x := x) (by rw [hL]; simp)
        rw [Nat.zero_testBit] at this
        exact absurd this.2.2 (by decide)
    rw [FE_rec h0, fi_rec]
    have bl : ∀ i : Nat, s.testBit i = true → i < n := fun i hi => by
      by_cases z : i < n
      · exact z
      · rw [Nat.testBit_lt_two_pow (Nat.lt_of_lt_of_le hs (Nat.pow_le_pow_right (by decide) (by omega)))] at hi
        exact absurd hi (by decide)
    constructor
    · rintro ⟨i, h1, h2, h3⟩
      obtain ⟨L, hL⟩ := (FE_fi k _ _ _ (elB_len1 h h1 (bl i h1)) (by have := ndN_lt h1; omega)).mp h3
      have g : gdX J n k p f s (i : Int) = some ((i : Int) :: L) := by
        unfold gdX
        rw [Int.toNat_natCast, if_neg h2, hL]
        rfl
      cases hf : (elB s n).findSome? (gdX J n k p f s) with
      | some L2 => exact ⟨L2, rfl⟩
      | none =>
        have := List.findSome?_eq_none_iff.mp hf (i : Int) (elB_in h1 (bl i h1))
        rw [g] at this
        exact absurd this (by simp)
    · rintro ⟨L, hL⟩
      by_cases z : ∀ x ∈ elB s n, gdX J n k p f s x = none
      · rw [List.findSome?_eq_none_iff.mpr z] at hL
        exact absurd hL (by simp)
      · have z2 : ∃ x, x ∈ elB s n ∧ ¬ gdX J n k p f s x = none := by
          apply Classical.byContradiction
          intro y
          apply z
          intro x hx
          apply Classical.byContradiction
          intro u
          exact y ⟨x, hx, u⟩
        obtain ⟨x, hx, hg⟩ := z2
        have hm := elB_mem hx
        unfold gdX at hg
        by_cases q : enB J x.toNat p f = -9
        · rw [if_pos q] at hg
          exact absurd rfl hg
        · rw [if_neg q] at hg
          refine ⟨x.toNat, hm.2.2, q, ?_⟩
          rw [FE_fi k _ _ _ (elB_len1 h hm.2.2 (by omega)) (by have := ndN_lt hm.2.2; omega)]
          cases hf : fiL J (J x.toNat 0) (enB J x.toNat p f) k (elB (ndN s (2 ^ x.toNat)) n) with
          | some L2 => exact ⟨L2, rfl⟩
          | none =>
            rw [hf] at hg
            exact absurd rfl hg
/-- alike in what a way is -/
def WEq (T U : Mm) : Prop := ∀ a, 48 ≤ a → a ≤ 56 → T a = U a
theorem WEq.trans {T U V : Mm} (h : WEq T U) (k : WEq U V) : WEq T V := fun a h1 h2 => (h a h1 h2).trans (k a h1 h2)
theorem me_W {T U : Mm} (h : WEq T U) (i : Int) : WEq (meM T i) (meM U i) := by
  intro a h1 h2
  have eJ : ∀ a, 48 ≤ a → a ≤ 53 → T a = U a := fun a q1 q2 => h a q1 (by omega)
  have e54 := h 54 (by decide) (by decide)
  unfold meM
  rw [e54, endJ_eq eJ, lnJ_eq eJ, plJ_eq eJ]
  funext b
  unfold stM
  rw [h a h1 h2]
def meL (T : Mm) : List Int → Mm
  | [] => T
  | i :: L => meL (meM T i) L
theorem meL_W {T U : Mm} (h : WEq T U) : ∀ L, WEq (meL T L) (meL U L) := by
  intro L
  induction L generalizing T U with
  | nil => exact h
  | cons i L ih => exact ih (me_W h i)
theorem meL_snoc (T : Mm) (L : List Int) (i : Int) : meL T (L ++ [i]) = meM (meL T L) i := by
  induction L generalizing T with
  | nil => rfl
  | cons x L ih => exact ih (meM T x)
theorem gi_find {T : Mm} {J : Nat → Nat → Int} {n : Nat} (hJ : JE T J n) {p f : Int} (hT : T 54 4 = p ∧ T 54 5 = f) (hp : 0 ≤ p ∧ p ≤ 15) (hf : 0 ≤ f) (h3 : T 54 3 < 8) {r k : Nat} (hr : r < 2 ^ n) (hk : (elB r n).length = k + 1) : ∀ m, m ≤ 8 → ((elB r m).findSome? (gdX J n k p f r) = none ∧ (giF T (r : Int) m).2 = (r : Int) ∧ WEq (giF T (r : Int) m).1 T) ∨ ∃ (i : Nat) (L : List Int), (elB r m).findSome? (gdX J n k p f r) = some ((i : Int) :: L) ∧ (i < n ∧ r.testBit i = true ∧ ¬ enB J i p f = -9) ∧ fiL J (J i 0) (enB J i p f) k (elB (ndN r (2 ^ i)) n) = some L ∧ (giF T (r : Int) m).2 = ((ndN r (2 ^ i) : Nat) : Int) ∧ WEq (giF T (r : Int) m).1 (meM T (i : Int))
  | 0, _ => Or.inl ⟨rfl, rfl, fun a _ _ => rfl⟩
  | m + 1, hm => by
    have h8 := hJ.1.2.1
    have ih := gi_find hJ hT hp hf h3 hr hk m (by omega)
    have hbN : bitN (m : Int) = 2 ^ m := by rw [bitN_in ⟨by omega, by omega⟩, Int.toNat_natCast]
    rcases ih with ⟨i1, i2, i3⟩ | ⟨i, L, i1, i2, i3, i4, i5⟩
    · rw [giF, if_pos i2]
      generalize (giF T (r : Int) m).1 = S at i3
      have eJ : ∀ a, 48 ≤ a → a ≤ 53 → S a = T a := fun a q1 q2 => i3 a q1 (by omega)
      have e54 : S 54 = T 54 := i3 54 (by decide) (by decide)
      have hJS : JE S J n := hJ.of eJ
      by_cases q : r.testBit m = true
      · have hmn : m < n := by
          by_cases z : m < n
          · exact z
          · rw [Nat.testBit_lt_two_pow (Nat.lt_of_lt_of_le hr (Nat.pow_le_pow_right (by decide) (by omega)))] at q
            exact absurd q (by decide)
        have hlt := ndN_lt q
        have hen : endJ S (m : Int) (S 54 4) (S 54 5) = enB J m p f := by rw [e54, hT.1, hT.2, (hJS.2 m hmn).1]
        have hpl : plJ S (m : Int) = J m 0 := (hJS.2 m hmn).2.1
        rw [elB, if_pos q, List.findSome?_append, i1]
        show (((none : Option (List Int)).or (List.findSome? (gdX J n k p f r) [(m : Int)])) = none ∧ _) ∨ _
        have eo : ((none : Option (List Int)).or (List.findSome? (gdX J n k p f r) [(m : Int)])) = gdX J n k p f r (m : Int) := by
          rw [List.findSome?_singleton]
          rfl
        rw [eo]
        unfold giS
        rw [Int.toNat_natCast, hbN, hen, hpl]
        by_cases c : enB J m p f = -9
        · left
          rw [if_pos (Or.inr c)]
          refine ⟨?_, rfl, i3⟩
          unfold gdX
          rw [Int.toNat_natCast, if_pos c]
        · rw [if_neg (fun z => z.elim (fun z => by omega) c)]
          have hbb := enB_b hJ.1.2.2 (i := m) (by omega) hp hf
          have hF := rc_FE hJS (p := J m 0) (f := enB J m p f) (hJ.1.2.2 m (by omega)).1 (by omega) (s := ndN r (2 ^ m)) (by omega)
          have hFF := FE_fi (J := J) k (J m 0) (enB J m p f) (ndN r (2 ^ m)) (elB_len1 hk q hmn) (by omega)
          have hRW : WEq (rcM S ((ndN r (2 ^ m) : Nat) : Int) (J m 0) (enB J m p f)) S := fun a q1 q2 => rcM_off S _ _ _ (by omega) (by omega)
          have hok : okW (rcM S ((ndN r (2 ^ m) : Nat) : Int) (J m 0) (enB J m p f)) (m : Int) := by
            have e2 : rcM S ((ndN r (2 ^ m) : Nat) : Int) (J m 0) (enB J m p f) 54 = S 54 := rcM_off S _ _ _ (by decide) (by decide)
            refine ⟨?_, ?_⟩
            · rw [e2, endJ_eq (fun a q1 q2 => hRW a q1 (by omega)), hen]
              exact c
            · rw [e2, e54]
              exact h3
          generalize rcM S ((ndN r (2 ^ m) : Nat) : Int) (J m 0) (enB J m p f) = R at *
          by_cases y : R 59 (ndN r (2 ^ m)) = -9
          · left
            rw [if_neg (fun z => z.1 y)]
            refine ⟨?_, rfl, hRW.trans i3⟩
            unfold gdX
            rw [Int.toNat_natCast, if_neg c]
            cases hfi : fiL J (J m 0) (enB J m p f) k (elB (ndN r (2 ^ m)) n) with
            | none => rfl
            | some L => exact absurd y (hF.mpr (hFF.mpr ⟨L, hfi⟩))
          · right
            rw [if_pos ⟨y, hok⟩]
            obtain ⟨L, hL⟩ := hFF.mp (hF.mp y)
            refine ⟨m, L, ?_, ⟨hmn, q, c⟩, hL, rfl, me_W (hRW.trans i3) _⟩
            unfold gdX
            rw [Int.toNat_natCast, if_neg c, hL]
            rfl
      · left
        rw [elB, if_neg q]
        have e : giS S (r : Int) (m : Int) = (S, (r : Int)) := by
          unfold giS
          rw [if_pos]
          left
          rw [Int.toNat_natCast, hbN]
          have : ndN r (2 ^ m) = r := by
            apply Nat.eq_of_testBit_eq
            intro j
            rw [ndN_bit, p2_bit]
            by_cases z : m = j
            · rw [← z]
              simp at q
              simp [q]
            · simp [z]
          rw [this]
        rw [e]
        exact ⟨i1, rfl, i3⟩
    · right
      have hne : ¬ (giF T (r : Int) m).2 = (r : Int) := by
        rw [i4]
        have := ndN_lt i2.2.1
        omega
      refine ⟨i, L, ?_, i2, i3, ?_⟩
      · rw [elB]
        by_cases q : r.testBit m = true
        · rw [if_pos q, List.findSome?_append, i1]
          rfl
        · rw [if_neg q]
          exact i1
      · rw [giF, if_neg hne]
        exact ⟨i4, i5⟩
theorem goO_front {T : Mm} {w : Int} (hw : ¬ w = 0) : ∀ k, goO T w (k + 1) = goO (giF T w 8).1 (giF T w 8).2 k
  | 0 => by
    have e : goO T w 0 = (T, w) := rfl
    show (if (goO T w 0).2 = 0 then goO T w 0 else giF (goO T w 0).1 (goO T w 0).2 8) = _
    rw [e]
    show (if w = 0 then (T, w) else giF T w 8) = _
    rw [if_neg hw]
    rfl
  | k + 1 => by
    rw [goO, goO_front hw k, goO]
theorem elB_8 {r n : Nat} (hr : r < 2 ^ n) : ∀ {m : Nat}, n ≤ m → elB r m = elB r n
  | 0, h => by rw [show n = 0 by omega]
  | m + 1, h => by
    by_cases q : n = m + 1
    · rw [q]
    · rw [elB, if_neg, elB_8 hr (m := m) (by omega)]
      rw [Nat.testBit_lt_two_pow (Nat.lt_of_lt_of_le hr (Nat.pow_le_pow_right (by decide) (by omega)))]
      decide
theorem go_find {J : Nat → Nat → Int} {n : Nat} : ∀ (k : Nat) {T : Mm} (_ : JE T J n) {p f : Int} (_ : T 54 4 = p ∧ T 54 5 = f) (_ : 0 ≤ p ∧ p ≤ 15) (_ : 0 ≤ f) {r : Nat} (_ : r < 2 ^ n) (_ : (elB r n).length = k) (_ : T 54 3 + (k : Int) ≤ 8) (_ : FE J p f r), ∃ L, fiL J p f k (elB r n) = some L ∧ ∀ d, k ≤ d → (goO T (r : Int) d).2 = 0 ∧ WEq (goO T (r : Int) d).1 (meL T L)
  | 0, T, hJ, p, f, hT, hp, hf, r, hr, hk, h3, hF => by
    have := elB_0 hr hk
    subst this
    rw [List.length_eq_zero_iff.mp hk]
    refine ⟨[], rfl, fun d _ => ?_⟩
    have e := goO_fix (T := T) (w := ((0 : Nat) : Int)) (k := 0) rfl d
    rw [Nat.zero_add] at e
    rw [e]
    exact ⟨rfl, fun a _ _ => rfl⟩
  | k + 1, T, hJ, p, f, hT, hp, hf, r, hr, hk, h3, hF => by
    obtain ⟨L0, hL0⟩ := (FE_fi (J := J) (k + 1) p f r hk hr).mp hF
    have hr0 : ¬ (r : Int) = 0 := by
      intro e
      have : r = 0 := by omega
      subst this
      have e0 : elB 0 n = [] := by
        cases hL : elB 0 n with
        | nil => rfl
        | cons x t =>
          have := elB_mem (s := 0) (i := n) (x := x) (by rw [hL]; simp)
          rw [Nat.zero_testBit] at this
          exact absurd this.2.2 (by decide)
      rw [e0] at hk
      simp at hk
    have g := gi_find hJ hT hp hf (by omega) hr hk 8 (Nat.le_refl 8)
    rw [elB_8 hr hJ.1.2.1, ← fi_rec, hL0] at g
    rcases g with ⟨g1, _⟩ | ⟨i, L, g1, g2, g3, g4, g5⟩
    · exact absurd g1 (by simp)
    · have hmv := meM_v T (i : Int)
      have e54 := g5 54 (by decide) (by decide)
      have eJ : ∀ a, 48 ≤ a → a ≤ 53 → (giF T (r : Int) 8).1 a = T a := fun a q1 q2 => by
        rw [g5 a q1 (by omega), meM_off _ _ ⟨by omega, by omega, by omega⟩]
      have hbb := enB_b hJ.1.2.2 (i := i) (by have := hJ.1.2.1; omega) hp hf
      have hlt := ndN_lt g2.2.1
      have ih := go_find k (T := (giF T (r : Int) 8).1) (hJ.of eJ) (p := J i 0) (f := enB J i p f) ⟨by rw [e54, hmv.1.2.1, (hJ.2 i g2.1).2.1], by rw [e54, hmv.1.2.2, hT.1, hT.2, (hJ.2 i g2.1).1]⟩ (hJ.1.2.2 i (by have := hJ.1.2.1; omega)).1 (by omega) (r := ndN r (2 ^ i)) (by omega) (elB_len1 hk g2.2.1 g2.1) (by rw [e54, hmv.1.1]; omega) ((FE_fi (J := J) k _ _ _ (elB_len1 hk g2.2.1 g2.1) (by omega)).mpr ⟨L, g3⟩)
      obtain ⟨L2, i1, i2⟩ := ih
      rw [g3] at i1
      have eL := Option.some.inj i1
      subst eL
      refine ⟨L0, hL0, fun d hd => ?_⟩
      have e0 := Option.some.inj g1
      have hd2 := i2 (d - 1) (by omega)
      have ef := goO_front (T := T) hr0 (d - 1)
      rw [show d - 1 + 1 = d by omega, g4] at ef
      rw [ef, e0]
      exact ⟨hd2.1, hd2.2.trans (meL_W g5 L)⟩
theorem ga_ok {f : Nat → Int} {T : Mm} : ∀ {k : Nat}, (gaF f T k).2 = true → (gaF f T k).1 = meL T (sgL f 0 k)
  | 0, _ => rfl
  | k + 1, h => by
    rw [gaF] at h ⊢
    by_cases q : (gaF f T k).2 = true ∧ okW (gaF f T k).1 (f k)
    · rw [if_pos q, sgL_snoc, meL_snoc, ← ga_ok q.1, Nat.zero_add]
    · rw [if_neg q] at h
      exact absurd h (by simp)
theorem bg_W {M : Mm} (w p : Int) : WEq (bgM (gfA M w) p) (bgM (ldM M) p) := by
  intro a h1 h2
  by_cases q : a = 54
  · subst q
    have e : gfA M w 54 = ldM M 54 := by unfold gfA; exact rcM_off _ _ _ _ (by decide) (by decide)
    funext b
    unfold bgM stM
    rw [e]
  · rw [bgM_off _ _ q, bgM_off _ _ q]
    unfold gfA
    exact rcM_off _ _ _ _ (by omega) (by omega)
theorem gfO_off (M : Mm) (w : Int) {a : Nat} (h : a < 48 ∨ 62 < a) : (gfO M w).1 a = M a := by
  have g : ∀ T r i, (giS T r i).1 a = T a := fun T r i => by
    unfold giS
    split
    · rfl
    · split
      · show meM _ _ a = _
        rw [meM_off _ _ ⟨by omega, by omega, by omega⟩, rcM_off _ _ _ _ (by omega) (by omega)]
      · show rcM _ _ _ _ a = _
        rw [rcM_off _ _ _ _ (by omega) (by omega)]
  have g2 : ∀ T r k, (giF T r k).1 a = T a := fun T r k => by
    induction k with
    | zero => rfl
    | succ k ih =>
      rw [giF]
      split
      · rw [g, ih]
      · exact ih
  have g3 : ∀ T r k, (goO T r k).1 a = T a := fun T r k => by
    induction k with
    | zero => rfl
    | succ k ih =>
      rw [goO]
      split
      · exact ih
      · rw [g2, ih]
  unfold gfO
  rw [g3, bgM_off _ _ (by omega), gfA_off _ _ (by omega)]
theorem pmS_mid {g : List Int → List (List Int)} {x : Int} {B R2 : List Int} : ∀ {R1 A : List Int}, B ∈ g (A ++ R1 ++ R2) → (x :: B) ∈ pmS g A (R1 ++ x :: R2)
  | [], A, h => by
    rw [List.nil_append, pmS, List.mem_append]
    left
    rw [List.mem_map]
    exact ⟨B, by simpa using h, rfl⟩
  | y :: R1, A, h => by
    rw [List.cons_append, pmS, List.mem_append]
    right
    refine pmS_mid ?_
    have e : A ++ [y] ++ R1 ++ R2 = A ++ (y :: R1) ++ R2 := by simp
    rw [e]
    exact h
theorem pm_mem : ∀ (f : Nat) (S L : List Int), S.length = f → L.Perm S → L ∈ pmF f S
  | 0, S, L, hl, h => by
    have e : S = [] := List.length_eq_zero_iff.mp hl
    subst e
    have e2 : L = [] := h.eq_nil
    subst e2
    exact List.mem_singleton.mpr rfl
  | f + 1, S, L, hl, h => by
    cases L with
    | nil =>
      have := h.length_eq
      rw [hl] at this
      simp at this
    | cons x L =>
      have hx : x ∈ S := h.mem_iff.mp (List.mem_cons_self ..)
      obtain ⟨A, R, e⟩ := List.append_of_mem hx
      subst e
      have h2 : L.Perm (A ++ R) := (h.trans List.perm_middle).cons_inv
      have hl2 : (A ++ R).length = f := by
        simp at hl ⊢
        omega
      rw [pmF]
      refine pmS_mid ?_
      rw [List.nil_append]
      exact pm_mem f (A ++ R) L hl2 h2
theorem pmS_head {g : List Int → List (List Int)} : ∀ {R A : List Int} {L : List Int}, L ∈ pmS g A R → ∃ x B, L = x :: B ∧ x ∈ R
  | [], A, L, h => by simp [pmS] at h
  | y :: R, A, L, h => by
    rw [pmS, List.mem_append] at h
    rcases h with h | h
    · rw [List.mem_map] at h
      obtain ⟨B, _, e⟩ := h
      exact ⟨y, B, e.symm, List.mem_cons_self ..⟩
    · obtain ⟨x, B, e, hx⟩ := pmS_head h
      exact ⟨x, B, e, List.mem_cons_of_mem _ hx⟩
theorem nodup_map_cons {x : Int} : ∀ {T : List (List Int)}, T.Nodup → (T.map (x :: ·)).Nodup
  | [], _ => List.nodup_nil
  | a :: T, h => by
    have h2 := List.nodup_cons.mp h
    rw [List.map_cons, List.nodup_cons]
    refine ⟨?_, nodup_map_cons h2.2⟩
    intro hm
    rw [List.mem_map] at hm
    obtain ⟨b, hb, e⟩ := hm
    have := (List.cons.inj e).2
    rw [this] at hb
    exact h2.1 hb
theorem nodup_app {α : Type} {A B : List α} (h1 : A.Nodup) (h2 : B.Nodup) (h3 : ∀ x ∈ A, ¬ x ∈ B) : (A ++ B).Nodup := by
  induction A with
  | nil => exact h2
  | cons a A ih =>
    have ha := List.nodup_cons.mp h1
    rw [List.cons_append, List.nodup_cons]
    refine ⟨?_, ih ha.2 (fun x hx => h3 x (List.mem_cons_of_mem _ hx))⟩
    rw [List.mem_append]
    rintro (z | z)
    · exact ha.1 z
    · exact h3 a (List.mem_cons_self ..) z
theorem pm_nodup : ∀ (f : Nat) (S : List Int), S.length = f → S.Nodup → (pmF f S).Nodup
  | 0, S, _, _ => by
    show ([[]] : List (List Int)).Nodup
    simp
  | f + 1, S, hl, hn => by
    have key : ∀ (R A : List Int), (A ++ R).length = f + 1 → (A ++ R).Nodup → (pmS (pmF f) A R).Nodup := by
      intro R
      induction R with
      | nil =>
        intro A _ _
        exact List.nodup_nil
      | cons x R ih =>
        intro A hl hn
        have hp : (A ++ x :: R).Perm (x :: (A ++ R)) := List.perm_middle
        have hn2 := List.nodup_cons.mp (hp.nodup_iff.mp hn)
        rw [pmS]
        refine nodup_app (nodup_map_cons (pm_nodup f _ (by simp at hl ⊢; omega) hn2.2)) (ih (A ++ [x]) (by simp at hl ⊢; omega) (by
          have e : A ++ [x] ++ R = A ++ x :: R := by simp
          rw [e]
          exact hn)) ?_
        intro L hL hL2
        rw [List.mem_map] at hL
        obtain ⟨B, _, e⟩ := hL
        obtain ⟨y, C, e2, hy⟩ := pmS_head hL2
        rw [← e] at e2
        have := (List.cons.inj e2).1
        subst this
        exact hn2.1 (List.mem_append.mpr (Or.inr hy))
    exact key S [] (by simpa using hl) (by simpa using hn)
theorem pm_rev {f : Nat} {S : List Int} (hl : S.length = f) (hn : S.Nodup) : ((pmF f S).map List.reverse).Perm (pmF f S) := by
  have hnd := pm_nodup f S hl hn
  have inj : ∀ T : List (List Int), T.Nodup → (T.map List.reverse).Nodup := by
    intro T
    induction T with
    | nil => intro _; exact List.nodup_nil
    | cons a T ih =>
      intro h
      have h2 := List.nodup_cons.mp h
      rw [List.map_cons, List.nodup_cons]
      refine ⟨?_, ih h2.2⟩
      intro hm
      rw [List.mem_map] at hm
      obtain ⟨b, hb, e⟩ := hm
      have : b = a := by
        have := congrArg List.reverse e
        simpa using this
      rw [this] at hb
      exact h2.1 hb
  refine (List.perm_ext_iff_of_nodup (inj _ hnd) hnd).mpr (fun L => ?_)
  rw [List.mem_map]
  constructor
  · rintro ⟨B, hB, e⟩
    subst e
    exact pm_mem f S _ hl ((List.reverse_perm B).trans (pm_perm f S B hl hB))
  · intro h
    exact ⟨L.reverse, pm_mem f S _ hl ((List.reverse_perm L).trans (pm_perm f S L hl h)), by simp⟩
/-- sums over a list -/
def lsum (g : Int → Nat) : List Int → Nat
  | [] => 0
  | x :: R => g x + lsum g R
theorem lsum_app (g : Int → Nat) : ∀ (A B : List Int), lsum g (A ++ B) = lsum g A + lsum g B
  | [], B => by simp [lsum]
  | a :: A, B => by
    rw [List.cons_append, lsum, lsum, lsum_app g A B]
    omega
theorem lsum_elB (g : Int → Nat) (s : Nat) : ∀ n : Nat, ((lsum g (elB s n) : Nat) : Int) = smZ (fun i => if s.testBit i = true then ((g (i : Int) : Nat) : Int) else 0) n
  | 0 => rfl
  | n + 1 => by
    rw [elB, smZ, ← lsum_elB g s n]
    by_cases q : s.testBit n = true
    · rw [if_pos q, if_pos q, lsum_app]
      show ((lsum g (elB s n) + (g (n : Int) + 0) : Nat) : Int) = _
      omega
    · rw [if_neg q, if_neg q]
      omega
theorem cnt_key {Q : List Int → Bool} {s n k : Nat} : ∀ (R A : List Int), A ++ R = elB s n → (pmS (pmF k) A R).countP Q = lsum (fun x => (pmF k (elB (ndN s (2 ^ x.toNat)) n)).countP (fun L => Q (x :: L))) R
  | [], _, _ => rfl
  | x :: R, A, h => by
    rw [pmS, List.countP_append, List.countP_map, cnt_key R (A ++ [x]) (by rw [← h]; simp), lsum, elB_del h]
    rfl
theorem pm_cnt {Q : List Int → Bool} {s n k : Nat} : (((pmF (k + 1) (elB s n)).countP Q : Nat) : Int) = smZ (fun i => if s.testBit i = true then (((pmF k (elB (ndN s (2 ^ i)) n)).countP (fun L => Q ((i : Int) :: L)) : Nat) : Int) else 0) n := by
  rw [pmF, cnt_key (elB s n) [] rfl, lsum_elB]
  refine smZ_eq (fun i _ => ?_)
  rw [Int.toNat_natCast]
/-- counted by the last one -/
theorem pm_snoc {Q : List Int → Bool} {s n k : Nat} (hk : (elB s n).length = k + 1) : (((pmF (k + 1) (elB s n)).countP Q : Nat) : Int) = smZ (fun i => if s.testBit i = true then (((pmF k (elB (ndN s (2 ^ i)) n)).countP (fun L => Q (L ++ [(i : Int)])) : Nat) : Int) else 0) n := by
  have h1 : (pmF (k + 1) (elB s n)).countP Q = (pmF (k + 1) (elB s n)).countP (fun L => Q L.reverse) := by
    rw [← (pm_rev hk (elB_nd s n)).countP_eq Q, List.countP_map]
    rfl
  rw [h1, pm_cnt]
  refine smZ_eq (fun i hi => ?_)
  by_cases q : s.testBit i = true
  · rw [if_pos q, if_pos q]
    have h2 : (pmF k (elB (ndN s (2 ^ i)) n)).countP (fun L => Q (L ++ [(i : Int)])) = (pmF k (elB (ndN s (2 ^ i)) n)).countP (fun L => Q (L.reverse ++ [(i : Int)])) := by
      rw [← (pm_rev (elB_len1 hk q hi) (elB_nd _ n)).countP_eq (fun L => Q (L ++ [(i : Int)])), List.countP_map]
      rfl
    rw [h2]
    simp only [List.reverse_cons]
  · rw [if_neg q, if_neg q]
def endR (J : Nat → Nat → Int) (p : Int) (L : List Int) : Option Int := (ruS J (some (p, 0)) L).map (fun q => q.2)
/-- orders of a set by the last one and the end -/
def cN (J : Nat → Nat → Int) (p : Int) (n k s l : Nat) (e : Int) : Int := (((pmF k (elB (ndN s (2 ^ l)) n)).countP (fun L => decide (endR J p (L ++ [(l : Int)]) = some e)) : Nat) : Int)
theorem cnt_part {E : List Int → Option Int} {G : Int → Bool} {P : List Int → Bool} {m : Nat} : ∀ {T : List (List Int)}, (∀ L ∈ T, P L = true ↔ ∃ f : Nat, f < m ∧ E L = some (f : Int) ∧ G (f : Int) = true) → ((T.countP P : Nat) : Int) = smZ (fun f => if G (f : Int) = true then ((T.countP (fun L => decide (E L = some (f : Int))) : Nat) : Int) else 0) m
  | [], _ => by
    have : ∀ m : Nat, smZ (fun f => if G (f : Int) = true then ((([] : List (List Int)).countP (fun L => decide (E L = some (f : Int))) : Nat) : Int) else 0) m = 0 := by
      intro m
      induction m with
      | zero => rfl
      | succ m ih =>
        rw [smZ, ih]
        simp
    rw [this]
    rfl
  | a :: T, h => by
    have ih := cnt_part (E := E) (G := G) (P := P) (m := m) (T := T) (fun L hL => h L (List.mem_cons_of_mem _ hL))
    have ha := h a (List.mem_cons_self ..)
    have sp : ∀ m : Nat, smZ (fun f => if G (f : Int) = true then (((a :: T).countP (fun L => decide (E L = some (f : Int))) : Nat) : Int) else 0) m = smZ (fun f => if G (f : Int) = true then ((T.countP (fun L => decide (E L = some (f : Int))) : Nat) : Int) else 0) m + smZ (fun f => if G (f : Int) = true ∧ E a = some (f : Int) then 1 else 0) m := by
      intro m
      induction m with
      | zero => rfl
      | succ m ihm =>
        rw [smZ, smZ, smZ, ihm, List.countP_cons]
        by_cases q1 : G (m : Int) = true
        · by_cases q2 : E a = some (m : Int)
          · simp only [q1, q2, decide_true, if_true, and_self]
            omega
          · simp only [q1, q2, decide_false, if_true, and_false, if_false, Bool.false_eq_true]
            omega
        · simp only [q1, if_false, false_and, Bool.false_eq_true]
          omega
    have one : smZ (fun f => if G (f : Int) = true ∧ E a = some (f : Int) then 1 else 0) m = if P a = true then 1 else 0 := by
      have gen : ∀ m : Nat, smZ (fun f => if G (f : Int) = true ∧ E a = some (f : Int) then 1 else 0) m = if ∃ f : Nat, f < m ∧ E a = some (f : Int) ∧ G (f : Int) = true then 1 else 0 := by
        intro m
        induction m with
        | zero =>
          rw [if_neg (by rintro ⟨f, h1, _⟩; omega)]
          rfl
        | succ m ihm =>
          rw [smZ, ihm]
          by_cases q : G (m : Int) = true ∧ E a = some (m : Int)
          · rw [if_pos q, if_pos (⟨m, by omega, q.2, q.1⟩ : ∃ f : Nat, f < m + 1 ∧ E a = some (f : Int) ∧ G (f : Int) = true), if_neg]
            · rfl
            · rintro ⟨f, h1, h2, _⟩
              rw [q.2] at h2
              have := Option.some.inj h2
              omega
          · rw [if_neg q]
            by_cases z : ∃ f : Nat, f < m ∧ E a = some (f : Int) ∧ G (f : Int) = true
            · rw [if_pos z]
              obtain ⟨f, h1, h2, h3⟩ := z
              rw [if_pos ⟨f, by omega, h2, h3⟩]
              rfl
            · rw [if_neg z, if_neg]
              · rfl
              · rintro ⟨f, h1, h2, h3⟩
                by_cases y : f = m
                · subst y
                  exact q ⟨h3, h2⟩
                · exact z ⟨f, by omega, h2, h3⟩
      rw [gen m]
      by_cases q : P a = true
      · rw [if_pos q, if_pos (ha.mp q)]
      · rw [if_neg q, if_neg (fun z => q (ha.mpr z))]
    rw [sp, ← ih, one, List.countP_cons]
    by_cases q : P a = true
    · rw [if_pos q, if_pos q]
      omega
    · rw [if_neg q, if_neg q]
      omega
theorem ruS_b {J : Nat → Nat → Int} (hJ : JOK J) {p : Int} (hp : 0 ≤ p ∧ p ≤ 15) : ∀ (L : List Int), (∀ x ∈ L, 0 ≤ x ∧ x < 8) → ∀ {f : Int}, 0 ≤ f → ∀ q, ruS J (some (p, f)) L = some q → (0 ≤ q.1 ∧ q.1 ≤ 15) ∧ f ≤ q.2 ∧ (L ≠ [] → q.2 ≤ 28) := by
  intro L
  induction L generalizing p with
  | nil =>
    intro _ f hf q hq
    have e : some (p, f) = some q := hq
    have := Option.some.inj e
    rw [← this]
    exact ⟨hp, Int.le_refl _, fun h => absurd rfl h⟩
  | cons x L ih =>
    intro hx f hf q hq
    have hx0 := hx x (List.mem_cons_self ..)
    rw [ruS_cons] at hq
    unfold stp1 at hq
    simp only [] at hq
    by_cases c : enB J x.toNat p f = -9
    · rw [if_pos c, ruS_none] at hq
      exact absurd hq (by simp)
    · rw [if_neg c] at hq
      have hb := enB_b hJ (i := x.toNat) (by omega) hp hf
      have r := ih (hJ x.toNat (by omega)).1 (fun y hy => hx y (List.mem_cons_of_mem _ hy)) (f := enB J x.toNat p f) (by omega) q hq
      refine ⟨r.1, by omega, fun _ => ?_⟩
      by_cases z : L = []
      · subst z
        have e : some (J x.toNat 0, enB J x.toNat p f) = some q := hq
        have := Option.some.inj e
        rw [← this]
        show enB J x.toNat p f ≤ 28
        omega
      · exact r.2.2 z
theorem pm_rng {s n k : Nat} (hn : n ≤ 8) (hk : (elB s n).length = k) : ∀ L ∈ pmF k (elB s n), ∀ x ∈ L, 0 ≤ x ∧ x < 8 := by
  intro L hL x hx
  have := (pm_perm k _ L hk hL).mem_iff.mp hx
  have h2 := elB_mem this
  omega
/-- all orders that can be done, by the last one and the end -/
theorem cN_all {J : Nat → Nat → Int} (hJ : JOK J) {p : Int} (hp : 0 ≤ p ∧ p ≤ 15) {n : Nat} (hn : n ≤ 8) {s k : Nat} (hk : (elB s n).length = k + 1) : (((pmF (k + 1) (elB s n)).countP (feL J p) : Nat) : Int) = smZ (fun l => if s.testBit l = true then smZ (fun e => cN J p n k s l (e : Int)) 29 else 0) n := by
  rw [pm_snoc hk]
  refine smZ_eq (fun l hl => ?_)
  by_cases q : s.testBit l = true
  · rw [if_pos q, if_pos q]
    have hlen := elB_len1 hk q hl
    have := cnt_part (E := fun L => endR J p (L ++ [(l : Int)])) (G := fun _ => true) (P := fun L => feL J p (L ++ [(l : Int)])) (m := 29) (T := pmF k (elB (ndN s (2 ^ l)) n)) (fun L hL => by
      have hr := pm_rng hn hlen L hL
      have hr2 : ∀ x ∈ L ++ [(l : Int)], 0 ≤ x ∧ x < 8 := fun x hx => by
        rw [List.mem_append] at hx
        rcases hx with z | z
        · exact hr x z
        · have : x = (l : Int) := by simpa using z
          omega
      unfold feL endR
      cases hru : ruS J (some (p, 0)) (L ++ [(l : Int)]) with
      | none => simp
      | some v =>
        have b := ruS_b hJ hp _ hr2 (Int.le_refl 0) v hru
        have b2 := b.2.2 (by simp)
        constructor
        · intro _
          refine ⟨v.2.toNat, by omega, ?_, rfl⟩
          show some v.2 = some ((v.2.toNat : Nat) : Int)
          rw [Int.toNat_of_nonneg b.2.1]
        · intro _
          rfl)
    rw [this]
    refine smZ_eq (fun e _ => ?_)
    rw [if_pos rfl]
    rfl
  · rw [if_neg q, if_neg q]
theorem endR_snoc {J : Nat → Nat → Int} {p : Int} {A : List Int} {i l : Nat} {e : Int} : endR J p ((A ++ [(i : Int)]) ++ [(l : Int)]) = some e ↔ ∃ f, endR J p (A ++ [(i : Int)]) = some f ∧ ¬ enB J l (J i 0) f = -9 ∧ enB J l (J i 0) f = e := by
  unfold endR
  rw [ruS_snoc J _ (A ++ [(i : Int)]) (l : Int)]
  cases hru : ruS J (some (p, 0)) (A ++ [(i : Int)]) with
  | none =>
    constructor
    · intro h
      have : stp1 J none (l : Int) = none := rfl
      rw [this] at h
      exact absurd h (by simp)
    · rintro ⟨f, h, _⟩
      exact absurd h (by simp)
  | some q =>
    have q1 : q.1 = J i 0 := by
      rw [ruS_snoc] at hru
      unfold stp1 at hru
      split at hru
      · exact absurd hru (by simp)
      · simp only [Int.toNat_natCast] at hru
        split at hru
        · exact absurd hru (by simp)
        · rw [← Option.some.inj hru]
    unfold stp1
    simp only [Int.toNat_natCast]
    rw [q1]
    by_cases c : enB J l (J i 0) q.2 = -9
    · rw [if_pos c]
      constructor
      · intro h
        exact absurd h (by simp)
      · rintro ⟨f, h, h2, _⟩
        have : q.2 = f := by simpa using h
        rw [← this] at h2
        exact absurd c h2
    · rw [if_neg c]
      constructor
      · intro h
        refine ⟨q.2, rfl, c, ?_⟩
        simpa using h
      · rintro ⟨f, h, h2, h3⟩
        have : q.2 = f := by simpa using h
        rw [← this] at h3
        show some (enB J l (J i 0) q.2) = some e
        rw [h3]
theorem cN_1 {J : Nat → Nat → Int} {p : Int} {n s l : Nat} {e : Int} (he : 0 ≤ e) (h0 : ndN s (2 ^ l) = 0) : cN J p n 0 s l e = if enB J l p 0 = e then 1 else 0 := by
  unfold cN
  rw [h0]
  have e0 : pmF 0 (elB 0 n) = [[]] := rfl
  rw [e0]
  have ee : endR J p ([] ++ [(l : Int)]) = if enB J l p 0 = -9 then none else some (enB J l p 0) := by
    show (stp1 J (some (p, 0)) (l : Int)).map (fun q => q.2) = _
    unfold stp1
    simp only [Int.toNat_natCast]
    split <;> rfl
  by_cases c : enB J l p 0 = e
  · have h2 : endR J p ([] ++ [(l : Int)]) = some e := by
      rw [ee, if_neg (by omega), c]
    rw [if_pos c, List.countP_cons]
    simp only [h2, decide_true, if_true]
    rfl
  · have h2 : ¬ endR J p ([] ++ [(l : Int)]) = some e := by
      rw [ee]
      split
      · simp
      · intro z
        exact c (Option.some.inj z)
    rw [if_neg c, List.countP_cons]
    simp only [h2, decide_false, Bool.false_eq_true, if_false]
    rfl
theorem cN_s {J : Nat → Nat → Int} (hJ : JOK J) {p : Int} (hp : 0 ≤ p ∧ p ≤ 15) {n : Nat} (hn : n ≤ 8) {s l k : Nat} {e : Int} (he : 0 ≤ e) (hk : (elB (ndN s (2 ^ l)) n).length = k + 1) : cN J p n (k + 1) s l e = smZ (fun i => if (ndN s (2 ^ l)).testBit i = true then smZ (fun f => if enB J l (J i 0) (f : Int) = e then cN J p n k (ndN s (2 ^ l)) i (f : Int) else 0) 29 else 0) n := by
  unfold cN
  generalize ndN s (2 ^ l) = r at *
  rw [pm_snoc hk]
  refine smZ_eq (fun i hi => ?_)
  by_cases q : r.testBit i = true
  · rw [if_pos q, if_pos q]
    have hlen := elB_len1 hk q hi
    have := cnt_part (E := fun L => endR J p (L ++ [(i : Int)])) (G := fun f => decide (enB J l (J i 0) f = e)) (P := fun L => decide (endR J p (L ++ [(i : Int)] ++ [(l : Int)]) = some e)) (m := 29) (T := pmF k (elB (ndN r (2 ^ i)) n)) (fun L hL => by
      have hr := pm_rng hn hlen L hL
      have hr2 : ∀ x ∈ L ++ [(i : Int)], 0 ≤ x ∧ x < 8 := fun x hx => by
        rw [List.mem_append] at hx
        rcases hx with z | z
        · exact hr x z
        · have : x = (i : Int) := by simpa using z
          omega
      rw [decide_eq_true_iff, endR_snoc]
      constructor
      · rintro ⟨f, h1, h2, h3⟩
        have hb : 0 ≤ f ∧ f ≤ 28 := by
          unfold endR at h1
          cases hru : ruS J (some (p, 0)) (L ++ [(i : Int)]) with
          | none => rw [hru] at h1; exact absurd h1 (by simp)
          | some v =>
            rw [hru] at h1
            have b := ruS_b hJ hp _ hr2 (Int.le_refl 0) v hru
            have : v.2 = f := by simpa using h1
            have b2 := b.2.2 (by simp)
            omega
        refine ⟨f.toNat, by omega, ?_, ?_⟩
        · rw [Int.toNat_of_nonneg hb.1]
          exact h1
        · rw [Int.toNat_of_nonneg hb.1, decide_eq_true_iff]
          exact h3
      · rintro ⟨f, _, h1, h2⟩
        rw [decide_eq_true_iff] at h2
        exact ⟨(f : Int), h1, by omega, h2⟩)
    rw [this]
    refine smZ_eq (fun f _ => ?_)
    simp only [decide_eq_true_eq]
  · rw [if_neg q, if_neg q]
theorem pmS_len {g : List Int → List (List Int)} {B : Nat} : ∀ (R A : List Int), (∀ S : List Int, S.length + 1 = A.length + R.length → (g S).length ≤ B) → (pmS g A R).length ≤ R.length * B
  | [], _, _ => by simp [pmS]
  | x :: R, A, h => by
    rw [pmS, List.length_append, List.length_map, List.length_cons, Nat.add_mul, Nat.one_mul]
    have h1 := h (A ++ R) (by simp; omega)
    have h2 := pmS_len (g := g) (B := B) R (A ++ [x]) (fun S hS => h S (by simp at hS ⊢; omega))
    omega
theorem pm_len : ∀ (f : Nat) (S : List Int), S.length = f → f ≤ 8 → (pmF f S).length ≤ 8 ^ f
  | 0, S, _, _ => by simp [pmF]
  | f + 1, S, hl, h8 => by
    rw [pmF]
    have h := pmS_len (g := pmF f) (B := 8 ^ f) S [] (fun T hT => pm_len f T (by simp at hT; omega) (by omega))
    rw [hl] at h
    have h2 : (f + 1) * 8 ^ f ≤ 8 * 8 ^ f := Nat.mul_le_mul_right _ h8
    rw [Nat.pow_succ, Nat.mul_comm]
    omega
theorem cN_b (J : Nat → Nat → Int) (p : Int) {n k s l : Nat} (e : Int) (hk : (elB (ndN s (2 ^ l)) n).length = k) (h8 : k ≤ 8) : 0 ≤ cN J p n k s l e ∧ cN J p n k s l e ≤ 16777216 := by
  unfold cN
  have h1 := List.countP_le_length (p := fun L => decide (endR J p (L ++ [(l : Int)]) = some e)) (l := pmF k (elB (ndN s (2 ^ l)) n))
  have h2 := pm_len k _ hk h8
  have h3 : 8 ^ k ≤ 8 ^ 8 := Nat.pow_le_pow_right (by decide) h8
  have h4 : (8 : Nat) ^ 8 = 16777216 := by decide
  omega
theorem tix_inj {s l e s2 l2 e2 : Int} (h : thP s l e) (h2 : thP s2 l2 e2) (q : tix s l e = tix s2 l2 e2) : s = s2 ∧ l = l2 ∧ e = e2 := by
  unfold tix at q
  omega
theorem nb_sn (M : Mm) (s l e v s2 l2 e2 : Int) : nbO (snM M s l e v) s2 l2 e2 = if thP s2 l2 e2 ∧ s2 = s ∧ l2 = l ∧ e2 = e then v else nbO M s2 l2 e2 := by
  unfold snM nbO
  by_cases h : thP s l e
  · rw [if_pos h]
    by_cases h2 : thP s2 l2 e2
    · rw [if_pos h2]
      by_cases q : s2 = s ∧ l2 = l ∧ e2 = e
      · rw [if_pos ⟨h2, q⟩, q.1, q.2.1, q.2.2, stM_at]
      · rw [if_neg (fun z => q z.2), if_pos h2, stM_ne _ _ (Or.inr (fun z => q (tix_inj h2 h z)))]
    · rw [if_neg h2, if_neg (fun z => h2 z.1), if_neg h2]
  · rw [if_neg h]
    have hc : ¬ (thP s2 l2 e2 ∧ s2 = s ∧ l2 = l ∧ e2 = e) := by
      rintro ⟨z, z1, z2, z3⟩
      rw [z1, z2, z3] at z
      exact h z
    exact (if_neg hc).symm
theorem nb_ntZ (M : Mm) (s l s2 l2 e2 : Int) : ∀ k : Nat, nbO (ntZ M s l k) s2 l2 e2 = if s2 = s ∧ l2 = l ∧ 0 ≤ e2 ∧ e2 < (k : Int) then 0 else nbO M s2 l2 e2
  | 0 => by
    rw [if_neg (by omega)]
    rfl
  | k + 1 => by
    rw [ntZ, nb_sn, nb_ntZ M s l s2 l2 e2 k]
    by_cases q : s2 = s ∧ l2 = l ∧ 0 ≤ e2 ∧ e2 < ((k + 1 : Nat) : Int)
    · rw [if_pos q]
      by_cases z : thP s2 l2 e2 ∧ s2 = s ∧ l2 = l ∧ e2 = (k : Int)
      · rw [if_pos z]
      · rw [if_neg z]
        by_cases y : e2 < (k : Int)
        · rw [if_pos ⟨q.1, q.2.1, q.2.2.1, y⟩]
        · rw [if_neg (fun u => y u.2.2.2)]
          have e : e2 = (k : Int) := by omega
          unfold nbO
          rw [if_neg (fun u => z ⟨u, q.1, q.2.1, e⟩)]
    · rw [if_neg (fun z => q ⟨z.2.1, z.2.2.1, by omega, by omega⟩), if_neg (fun z => q ⟨z.1, z.2.1, z.2.2.1, by omega⟩), if_neg q]
theorem nb_ntF {T : Mm} {s l : Int} {i : Int} (hs : 0 ≤ s ∧ s < 256) (hl : 0 ≤ l ∧ l < 8) (hne : ¬ ntR s l = s) (hN : ∀ f : Nat, 0 ≤ nbO T (ntR s l) i (f : Int) ∧ nbO T (ntR s l) i (f : Int) ≤ 16777216) : ∀ k, (∀ e : Int, 0 ≤ e → e < 29 → nbO (ntF T s l i k) s l e = nbO T s l e + smZ (fun f => if endJ T l (plJ T i) (f : Int) = e then nbO T (ntR s l) i (f : Int) else 0) k) ∧ ∀ s2 l2 e2, ¬ (s2 = s ∧ l2 = l) → nbO (ntF T s l i k) s2 l2 e2 = nbO T s2 l2 e2
  | 0 => by
    refine ⟨fun e _ _ => ?_, fun _ _ _ _ => rfl⟩
    show nbO T s l e = nbO T s l e + 0
    omega
  | k + 1 => by
    have ih := nb_ntF hs hl hne hN k
    have hk := hN k
    rw [ntF]
    generalize ntF T s l i k = V at *
    have e0 : nbO V (ntR s l) i (k : Int) = nbO T (ntR s l) i (k : Int) := ih.2 _ _ _ (fun z => hne z.1)
    have ew : wr (nbO T (ntR s l) i (k : Int)) = nbO T (ntR s l) i (k : Int) := wr_of ⟨by omega, by omega⟩
    rw [e0, ew]
    by_cases q : 0 < nbO T (ntR s l) i (k : Int)
    · rw [if_pos q]
      refine ⟨fun e h1 h2 => ?_, fun s2 l2 e2 h => ?_⟩
      · rw [nb_sn, smZ]
        by_cases z : e = endJ T l (plJ T i) (k : Int)
        · rw [if_pos ⟨⟨hs, hl, ⟨h1, h2⟩⟩, rfl, rfl, z⟩, if_pos z.symm, ← z, ih.1 e h1 h2]
          omega
        · rw [if_neg (fun u => z u.2.2.2), if_neg (fun u => z u.symm), ih.1 e h1 h2]
          omega
      · rw [nb_sn, if_neg (fun u => h ⟨u.2.1, u.2.2.1⟩)]
        exact ih.2 s2 l2 e2 h
    · rw [if_neg q]
      have ez : nbO T (ntR s l) i (k : Int) = 0 := by omega
      refine ⟨fun e h1 h2 => ?_, ih.2⟩
      rw [smZ, ih.1 e h1 h2, ez]
      split <;> omega
theorem smZ_succ (f : Nat → Int) (k : Nat) : smZ f (k + 1) = smZ f k + f k := rfl
theorem nb_ntO {M : Mm} {s l p : Int} (hs : 0 ≤ s ∧ s < 256) (hl : 0 ≤ l ∧ l < 8) (hne : ¬ ntR s l = s) (hN : ∀ i : Nat, inS (i : Int) (ntR s l) → ∀ f : Nat, 0 ≤ nbO M (ntR s l) (i : Int) (f : Int) ∧ nbO M (ntR s l) (i : Int) (f : Int) ≤ 16777216) : ∀ k, (∀ e : Int, 0 ≤ e → e < 29 → nbO (ntO M s l p k) s l e = (if ntR s l = 0 then (if endJ M l p 0 = e then 1 else 0) else 0) + smZ (fun i => if inS (i : Int) (ntR s l) then smZ (fun f => if endJ M l (plJ M (i : Int)) (f : Int) = e then nbO M (ntR s l) (i : Int) (f : Int) else 0) 29 else 0) k) ∧ ∀ s2 l2 e2, ¬ (s2 = s ∧ l2 = l) → nbO (ntO M s l p k) s2 l2 e2 = nbO M s2 l2 e2
  | 0 => by
    show (∀ e : Int, 0 ≤ e → e < 29 → nbO (nt1 M s l p) s l e = _ + 0) ∧ ∀ s2 l2 e2, ¬ (s2 = s ∧ l2 = l) → nbO (nt1 M s l p) s2 l2 e2 = nbO M s2 l2 e2
    unfold nt1
    by_cases q : ntR s l = 0
    · rw [if_pos q]
      refine ⟨fun e h1 h2 => ?_, fun s2 l2 e2 h => ?_⟩
      · rw [nb_sn, nb_ntZ, if_pos q]
        by_cases z : e = endJ M l p 0
        · rw [if_pos ⟨⟨hs, hl, ⟨h1, h2⟩⟩, rfl, rfl, z⟩, if_pos z.symm]
          omega
        · rw [if_neg (fun u => z u.2.2.2), if_pos ⟨rfl, rfl, h1, by omega⟩, if_neg (fun u => z u.symm)]
          omega
      · rw [nb_sn, nb_ntZ, if_neg (fun u => h ⟨u.2.1, u.2.2.1⟩), if_neg (fun u => h ⟨u.1, u.2.1⟩)]
    · rw [if_neg q]
      refine ⟨fun e h1 h2 => ?_, fun s2 l2 e2 h => ?_⟩
      · rw [nb_ntZ, if_neg q, if_pos ⟨rfl, rfl, h1, by omega⟩]
        omega
      · rw [nb_ntZ, if_neg (fun u => h ⟨u.1, u.2.1⟩)]
  | k + 1 => by
    have ih := nb_ntO (p := p) hs hl hne hN k
    have hoff : ∀ a, a ≠ 78 → ntO M s l p k a = M a := fun a ha => ntO_off M s l p ha k
    rw [ntO]
    generalize ntO M s l p k = V at *
    by_cases q : inS (k : Int) (ntR s l)
    · rw [if_pos q]
      have e0 : ∀ f : Nat, nbO V (ntR s l) (k : Int) (f : Int) = nbO M (ntR s l) (k : Int) (f : Int) := fun f => ih.2 _ _ _ (fun z => hne z.1)
      have g := nb_ntF (T := V) (i := (k : Int)) hs hl hne (fun f => by rw [e0 f]; exact hN k q f) 29
      refine ⟨fun e h1 h2 => ?_, fun s2 l2 e2 h => ?_⟩
      · rw [g.1 e h1 h2, ih.1 e h1 h2, smZ_succ _ k, if_pos q, Int.add_assoc]
        have : smZ (fun f => if endJ V l (plJ V (k : Int)) (f : Int) = e then nbO V (ntR s l) (k : Int) (f : Int) else 0) 29 = smZ (fun f => if endJ M l (plJ M (k : Int)) (f : Int) = e then nbO M (ntR s l) (k : Int) (f : Int) else 0) 29 := smZ_eq (fun f _ => by rw [endJ_105 hoff, plJ_105 hoff, e0 f])
        rw [this]
      · rw [g.2 s2 l2 e2 h, ih.2 s2 l2 e2 h]
    · rw [if_neg q]
      refine ⟨fun e h1 h2 => ?_, ih.2⟩
      rw [ih.1 e h1 h2, smZ_succ _ k, if_neg q]
      omega
theorem smZ_ext {f : Nat → Int} {a : Nat} : ∀ {b : Nat}, a ≤ b → (∀ i, a ≤ i → i < b → f i = 0) → smZ f b = smZ f a
  | 0, h, _ => by rw [show a = 0 by omega]
  | b + 1, h, hz => by
    by_cases q : a = b + 1
    · rw [q]
    · rw [smZ, hz b (by omega) (by omega), smZ_ext (b := b) (by omega) (fun i h1 h2 => hz i h1 (by omega))]
      omega
def cNs (J : Nat → Nat → Int) (p : Int) (n s l : Nat) (e : Int) : Int := cN J p n (elB (ndN s (2 ^ l)) n).length s l e
/-- a set's numbers are right -/
def TOK (T : Mm) (J : Nat → Nat → Int) (p : Int) (n s : Nat) : Prop := ∀ l : Nat, s.testBit l = true → ∀ e : Nat, e < 29 → nbO T (s : Int) (l : Int) (e : Int) = cNs J p n s l (e : Int)
theorem cNs_b {J : Nat → Nat → Int} {p : Int} {n s l : Nat} {e : Int} (hn : n ≤ 8) : 0 ≤ cNs J p n s l e ∧ cNs J p n s l e ≤ 16777216 := cN_b J p e rfl (by have := elB_len (ndN s (2 ^ l)) n; omega)
theorem nt_ok {T : Mm} {J : Nat → Nat → Int} {n : Nat} (hJ : JE T J n) {p : Int} (hp : 0 ≤ p ∧ p ≤ 15) {s l : Nat} (hs : s < 2 ^ n) (hl : s.testBit l = true) (h : ndN s (2 ^ l) ≠ 0 → TOK T J p n (ndN s (2 ^ l))) : (∀ e : Nat, e < 29 → nbO (ntM T (s : Int) (l : Int) p) (s : Int) (l : Int) (e : Int) = cNs J p n s l (e : Int)) ∧ ∀ s2 l2 e2 : Int, ¬ (s2 = (s : Int) ∧ l2 = (l : Int)) → nbO (ntM T (s : Int) (l : Int) p) s2 l2 e2 = nbO T s2 l2 e2 := by
  have h8 := hJ.1.2.1
  have hp2 := p2_256 h8
  have bl : ∀ (r i : Nat), r < 2 ^ n → r.testBit i = true → i < n := fun r i hr hi => by
    by_cases z : i < n
    · exact z
    · rw [Nat.testBit_lt_two_pow (Nat.lt_of_lt_of_le hr (Nat.pow_le_pow_right (by decide) (by omega)))] at hi
      exact absurd hi (by decide)
  have hln := bl s l hs hl
  have hlt := ndN_lt hl
  have eR : ntR (s : Int) (l : Int) = ((ndN s (2 ^ l) : Nat) : Int) := by
    unfold ntR
    rw [Int.toNat_natCast, bitN_in ⟨by omega, by omega⟩, Int.toNat_natCast]
  have hin : ∀ (i : Nat), inS (i : Int) (ntR (s : Int) (l : Int)) ↔ i < 8 ∧ (ndN s (2 ^ l)).testBit i = true := fun i => by
    rw [eR]
    unfold inS
    rw [Int.toNat_natCast, Int.toNat_natCast]
    exact ⟨fun z => ⟨by omega, z.2.2⟩, fun z => ⟨by omega, by omega, z.2⟩⟩
  have hTk : ∀ i : Nat, (ndN s (2 ^ l)).testBit i = true → ∀ f : Nat, f < 29 → nbO T (ntR (s : Int) (l : Int)) (i : Int) (f : Int) = cNs J p n (ndN s (2 ^ l)) i (f : Int) := fun i hi f hf => by
    rw [eR]
    refine h ?_ i hi f hf
    intro z
    rw [z, Nat.zero_testBit] at hi
    exact absurd hi (by decide)
  have hN : ∀ i : Nat, inS (i : Int) (ntR (s : Int) (l : Int)) → ∀ f : Nat, 0 ≤ nbO T (ntR (s : Int) (l : Int)) (i : Int) (f : Int) ∧ nbO T (ntR (s : Int) (l : Int)) (i : Int) (f : Int) ≤ 16777216 := fun i hi f => by
    by_cases q : f < 29
    · rw [hTk i ((hin i).mp hi).2 f q]
      exact cNs_b h8
    · unfold nbO
      rw [if_neg (fun z => by have := z.2.2.2; omega)]
      omega
  have g := nb_ntO (M := T) (s := (s : Int)) (l := (l : Int)) (p := p) ⟨by omega, by omega⟩ ⟨by omega, by omega⟩ (by rw [eR]; omega) hN 8
  refine ⟨fun e he => ?_, g.2⟩
  have ge := g.1 (e : Int) (by omega) (by omega)
  show nbO (ntO T (s : Int) (l : Int) p 8) (s : Int) (l : Int) (e : Int) = _
  rw [ge, eR, smZ_ext (a := n) h8 (fun i h1 h2 => by
    rw [← eR, if_neg]
    intro z
    have := bl _ i (show ndN s (2 ^ l) < 2 ^ n by omega) ((hin i).mp z).2
    omega)]
  unfold cNs
  by_cases q0 : ndN s (2 ^ l) = 0
  · have hl0 : (elB (ndN s (2 ^ l)) n).length = 0 := by
      rw [q0]
      cases hL : elB 0 n with
      | nil => rfl
      | cons x t =>
        have := elB_mem (s := 0) (i := n) (x := x) (by rw [hL]; simp)
        rw [Nat.zero_testBit] at this
        exact absurd this.2.2 (by decide)
    rw [hl0, cN_1 (by omega) q0, if_pos (by omega), (hJ.2 l hln).1]
    have z : smZ (fun i => if inS (i : Int) ((ndN s (2 ^ l) : Nat) : Int) then smZ (fun f => if endJ T (l : Int) (plJ T (i : Int)) (f : Int) = (e : Int) then nbO T ((ndN s (2 ^ l) : Nat) : Int) (i : Int) (f : Int) else 0) 29 else 0) n = 0 := by
      rw [smZ_ext (a := 0) (Nat.zero_le n) (fun i _ _ => by
        rw [← eR, if_neg]
        intro z
        have := ((hin i).mp z).2
        rw [q0, Nat.zero_testBit] at this
        exact absurd this (by decide))]
      rfl
    rw [z]
    omega
  · have hk : ∃ k, (elB (ndN s (2 ^ l)) n).length = k + 1 := by
      cases hz : (elB (ndN s (2 ^ l)) n).length with
      | zero => exact absurd (elB_0 (by omega) hz) q0
      | succ k => exact ⟨k, rfl⟩
    obtain ⟨k, hk⟩ := hk
    rw [hk, cN_s hJ.1.2.2 hp h8 (by omega) hk, if_neg (by omega), Int.zero_add]
    refine smZ_eq (fun i hi => ?_)
    by_cases q : (ndN s (2 ^ l)).testBit i = true
    · rw [← eR, if_pos ((hin i).mpr ⟨by omega, q⟩), if_pos q]
      refine smZ_eq (fun f hf => ?_)
      rw [(hJ.2 l hln).1, (hJ.2 i hi).2.1, hTk i q f hf]
      unfold cNs
      rw [elB_len1 hk q hi]
    · rw [← eR, if_neg (fun z => q ((hin i).mp z).2), if_neg q]
theorem noI_ok {T : Mm} {J : Nat → Nat → Int} {n : Nat} (hJ : JE T J n) {p w : Int} (hp : 0 ≤ p ∧ p ≤ 15) {s : Nat} (hs : s < 2 ^ n) (acc : Int) (h : ∀ l : Nat, s.testBit l = true → ndN s (2 ^ l) ≠ 0 → TOK T J p n (ndN s (2 ^ l))) : ∀ k, k ≤ 8 → (∀ l : Nat, l < k → s.testBit l = true → ∀ e : Nat, e < 29 → nbO (noI T w p (s : Int) acc k).1 (s : Int) (l : Int) (e : Int) = cNs J p n s l (e : Int)) ∧ (∀ s2 l2 e2 : Int, s2 ≠ (s : Int) → nbO (noI T w p (s : Int) acc k).1 s2 l2 e2 = nbO T s2 l2 e2) ∧ (noI T w p (s : Int) acc k).2 = acc + smZ (fun l => if s.testBit l = true then (if (s : Int) = w then smZ (fun e => cNs J p n s l (e : Int)) 29 else 0) else 0) k
  | 0, _ => ⟨fun l hl => by omega, fun _ _ _ _ => rfl, by show acc = acc + 0; omega⟩
  | k + 1, hk => by
    have ih := noI_ok (w := w) hJ hp hs acc h k (by omega)
    have hoff : ∀ a, a ≠ 78 → (noI T w p (s : Int) acc k).1 a = T a := fun a ha => noI_off T w p (s : Int) acc ha k
    have hin : inS (k : Int) (s : Int) ↔ s.testBit k = true := by
      unfold inS
      rw [Int.toNat_natCast, Int.toNat_natCast]
      exact ⟨fun z => z.2.2, fun z => ⟨by omega, by omega, z⟩⟩
    rw [noI]
    generalize noI T w p (s : Int) acc k = S at *
    by_cases q : s.testBit k = true
    · rw [if_pos (hin.mpr q)]
      have hJS : JE S.1 J n := hJ.of (fun a h1 h2 => hoff a (by omega))
      have hne : ndN s (2 ^ k) ≠ s := by have := ndN_lt q; omega
      have g := nt_ok hJS hp hs q (fun hz l hl e he => by
        rw [ih.2.1 _ _ _ (by omega)]
        exact h k q hz l hl e he)
      refine ⟨fun l hl hb e he => ?_, fun s2 l2 e2 h2 => ?_, ?_⟩
      · show nbO (ntM S.1 (s : Int) (k : Int) p) (s : Int) (l : Int) (e : Int) = _
        by_cases y : l = k
        · rw [y]
          exact g.1 e he
        · rw [g.2 _ _ _ (by omega)]
          exact ih.1 l (by omega) hb e he
      · show nbO (ntM S.1 (s : Int) (k : Int) p) s2 l2 e2 = _
        rw [g.2 _ _ _ (fun z => h2 z.1)]
        exact ih.2.1 s2 l2 e2 h2
      · show S.2 + (if (s : Int) = w then smO (ntM S.1 (s : Int) (k : Int) p) (s : Int) (k : Int) else 0) = _
        rw [ih.2.2, smZ, if_pos q, Int.add_assoc]
        by_cases y : (s : Int) = w
        · rw [if_pos y, if_pos y]
          unfold smO
          rw [smZ_eq (fun e he => g.1 e he)]
        · rw [if_neg y, if_neg y]
    · rw [if_neg (fun z => q (hin.mp z))]
      refine ⟨fun l hl hb e he => ?_, ih.2.1, ?_⟩
      · by_cases y : l = k
        · rw [y] at hb
          exact absurd hb q
        · exact ih.1 l (by omega) hb e he
      · rw [ih.2.2, smZ, if_neg q]
        omega
theorem noS_ok {T : Mm} {J : Nat → Nat → Int} {n : Nat} (hJ : JE T J n) {p : Int} (hp : 0 ≤ p ∧ p ≤ 15) {w : Nat} (hw : w < 2 ^ n) : ∀ k, k ≤ w → (∀ s : Nat, 0 < s → s ≤ k → ndN s w = 0 → TOK (noS T (w : Int) p (k + 1)).1 J p n s) ∧ (noS T (w : Int) p (k + 1)).2 = if 0 < k ∧ k = w then smZ (fun l => if w.testBit l = true then smZ (fun e => cNs J p n w l (e : Int)) 29 else 0) 8 else 0
  | 0, _ => by
    refine ⟨fun s h1 h2 => by omega, ?_⟩
    rw [if_neg (by omega)]
    rfl
  | k + 1, hk => by
    have ih := noS_ok hJ hp hw k (by omega)
    have hoff : ∀ a, a ≠ 78 → (noS T (w : Int) p (k + 1)).1 a = T a := fun a ha => noS_off T (w : Int) p ha (k + 1)
    rw [noS]
    rw [Int.toNat_natCast]
    generalize noS T (w : Int) p (k + 1) = S at *
    have h0 : S.2 = 0 := by rw [ih.2, if_neg (by omega)]
    by_cases q : ndN (k + 1) w = 0
    · rw [if_pos q]
      have hJS : JE S.1 J n := hJ.of (fun a h1 h2 => hoff a (by omega))
      have hp2 := p2_256 hJ.1.2.1
      have g := noI_ok (w := (w : Int)) hJS hp (s := k + 1) (by omega) S.2 (fun l hl hz => ih.1 _ (by omega) (by have := ndN_lt hl; omega) (ndN_sub q)) 8 (Nat.le_refl 8)
      refine ⟨fun s h1 h2 hsw l hl e he => ?_, ?_⟩
      · by_cases y : s = k + 1
        · subst y
          have hl8 : l < 8 := by
            by_cases z : l < 8
            · exact z
            · rw [Nat.testBit_lt_two_pow (Nat.lt_of_lt_of_le (show k + 1 < 2 ^ 8 by omega) (Nat.pow_le_pow_right (by decide) (by omega)))] at hl
              exact absurd hl (by decide)
          exact g.1 l hl8 hl e he
        · rw [g.2.1 _ _ _ (by omega)]
          exact ih.1 s h1 (by omega) hsw l hl e he
      · rw [g.2.2, h0, Int.zero_add]
        by_cases y : k + 1 = w
        · rw [if_pos ⟨by omega, y⟩]
          refine smZ_eq (fun l _ => ?_)
          rw [y, if_pos rfl]
        · rw [if_neg (fun z => y z.2)]
          rw [smZ_ext (a := 0) (Nat.zero_le 8) (fun l _ _ => by
            rw [if_neg (show ¬ ((k + 1 : Nat) : Int) = (w : Int) by omega)]
            split <;> rfl)]
          rfl
    · rw [if_neg q]
      have hne : k + 1 ≠ w := fun z => q (by rw [z]; exact ndN_self w)
      refine ⟨fun s h1 h2 hsw => ?_, ?_⟩
      · by_cases y : s = k + 1
        · rw [y] at hsw
          exact absurd hsw q
        · exact ih.1 s h1 (by omega) hsw
      · rw [h0, if_neg (fun z => hne z.2)]
/-- the tally is right -/
theorem no_all {T : Mm} {J : Nat → Nat → Int} {n : Nat} (hJ : JE T J n) {p : Int} (hp : 0 ≤ p ∧ p ≤ 15) {w : Nat} (hw : w < 2 ^ n) (h0 : 0 < w) : (noS T (w : Int) p (w + 1)).2 = (((pmF (elB w n).length (elB w n)).countP (feL J p) : Nat) : Int) := by
  have h8 := hJ.1.2.1
  rw [(noS_ok hJ hp hw w (Nat.le_refl w)).2, if_pos ⟨h0, rfl⟩]
  have hk : ∃ k, (elB w n).length = k + 1 := by
    cases hz : (elB w n).length with
    | zero =>
      have := elB_0 hw hz
      omega
    | succ k => exact ⟨k, rfl⟩
  obtain ⟨k, hk⟩ := hk
  rw [hk, cN_all hJ.1.2.2 hp h8 hk, smZ_ext (a := n) h8 (fun l h1 h2 => by
    rw [if_neg]
    rw [Nat.testBit_lt_two_pow (Nat.lt_of_lt_of_le hw (Nat.pow_le_pow_right (by decide) h1))]
    decide)]
  refine smZ_eq (fun l hl => ?_)
  by_cases q : w.testBit l = true
  · rw [if_pos q, if_pos q]
    refine smZ_eq (fun e _ => ?_)
    unfold cNs
    rw [elB_len1 hk q hl]
  · rw [if_neg q, if_neg q]
