/-- a set's numbers, the least first -/
def elB (s : Nat) : Nat → List Int
  | 0 => []
  | i + 1 => if s.testBit i = true then elB s i ++ [(i : Int)] else elB s i
theorem elB_len (s : Nat) : ∀ i, (elB s i).length ≤ i
  | 0 => by simp [elB]
  | i + 1 => by
    have h := elB_len s i
    rw [elB]
    split
    · simp; omega
    · omega
theorem elB_mem {s : Nat} {x : Int} : ∀ {i : Nat}, x ∈ elB s i → 0 ≤ x ∧ x < (i : Int) ∧ s.testBit x.toNat = true
  | 0, h => by simp [elB] at h
  | i + 1, h => by
    rw [elB] at h
    by_cases q : s.testBit i = true
    · rw [if_pos q, List.mem_append] at h
      rcases h with h | h
      · have := elB_mem h
        exact ⟨by omega, by omega, this.2.2⟩
      · have e : x = (i : Int) := by simpa using h
        subst e
        exact ⟨by omega, by omega, by simpa using q⟩
    · rw [if_neg q] at h
      have := elB_mem h
      exact ⟨by omega, by omega, this.2.2⟩
theorem elB_in {s : Nat} {k : Nat} (h : s.testBit k = true) : ∀ {i : Nat}, k < i → (k : Int) ∈ elB s i
  | 0, hk => by omega
  | i + 1, hk => by
    rw [elB]
    by_cases q : k = i
    · subst q
      rw [if_pos h, List.mem_append]
      right
      simp
    · have := elB_in h (i := i) (by omega)
      split
      · rw [List.mem_append]; exact Or.inl this
      · exact this
theorem elB_sorted (s : Nat) : ∀ i, (elB s i).Pairwise (· < ·)
  | 0 => List.Pairwise.nil
  | i + 1 => by
    rw [elB]
    split
    · refine List.pairwise_append.mpr ⟨elB_sorted s i, List.pairwise_singleton _ _, fun a ha b hb => ?_⟩
      have h1 := elB_mem ha
      have h2 : b = (i : Int) := by simpa using hb
      omega
    · exact elB_sorted s i
theorem sorted_nodup {L : List Int} (h : L.Pairwise (· < ·)) : L.Nodup := h.imp (fun {a b} (q : a < b) => by omega)
/-- the line is L -/
def LN (M : Mm) (L : List Int) : Prop := M 77 23 = (L.length : Int) ∧ sgL (M 89) 0 L.length = L
theorem LN.of {M M2 : Mm} {L : List Int} (h : LN M L) (h1 : M2 77 23 = M 77 23) (h2 : M2 89 = M 89) : LN M2 L := by
  unfold LN
  rw [h1, h2]
  exact h
theorem sgL_in (l : Nat → Int) : ∀ {m a j : Nat}, a ≤ j → j < a + m → l j ∈ sgL l a m
  | 0, a, j, h1, h2 => by omega
  | m + 1, a, j, h1, h2 => by
    rw [sgL]
    by_cases q : j = a
    · subst q; exact List.mem_cons_self ..
    · exact List.mem_cons_of_mem _ (sgL_in l (by omega) (by omega))
theorem sgL_inj {l : Nat → Int} : ∀ {m a : Nat}, (sgL l a m).Nodup → ∀ i j, a ≤ i → i < a + m → a ≤ j → j < a + m → l i = l j → i = j
  | 0, a, _, i, j, h1, h2, _, _, _ => by omega
  | m + 1, a, h, i, j, h1, h2, h3, h4, e => by
    rw [sgL, List.nodup_cons] at h
    by_cases q : i = a
    · by_cases q2 : j = a
      · omega
      · exfalso
        subst q
        exact h.1 (e ▸ sgL_in l (by omega) (by omega))
    · by_cases q2 : j = a
      · exfalso
        subst q2
        exact h.1 (e ▸ sgL_in l (by omega) (by omega))
      · exact sgL_inj h.2 i j (by omega) (by omega) (by omega) (by omega) e
theorem pm_perm : ∀ (f : Nat) (S L : List Int), S.length = f → L ∈ pmF f S → L.Perm S
  | 0, S, L, hl, h => by
    have e : S = [] := List.length_eq_zero_iff.mp hl
    subst e
    have e2 : L = [] := by simpa [pmF] using h
    subst e2
    exact List.Perm.refl _
  | f + 1, S, L, hl, h => by
    have key : ∀ (R A : List Int), (A ++ R).length = f + 1 → L ∈ pmS (pmF f) A R → L.Perm (A ++ R) := by
      intro R
      induction R with
      | nil => intro A _ h2; simp [pmS] at h2
      | cons x R ih =>
        intro A hlen h2
        rw [pmS, List.mem_append] at h2
        rcases h2 with h2 | h2
        · obtain ⟨t, ht, e⟩ := List.mem_map.mp h2
          have hp := pm_perm f (A ++ R) t (by simp at hlen ⊢; omega) ht
          rw [← e]
          exact (hp.cons x).trans List.perm_middle.symm
        · have := ih (A ++ [x]) (by simp at hlen ⊢; omega) h2
          simpa using this
    exact key S [] hl h
def stp1 (J : Nat → Nat → Int) (s : Option (Int × Int)) (i : Int) : Option (Int × Int) := match s with
  | none => none
  | some q => if enB J i.toNat q.1 q.2 = -9 then none else some (J i.toNat 0, enB J i.toNat q.1 q.2)
/-- along a list of needs: place and free, if all can be met -/
def ruS (J : Nat → Nat → Int) (s : Option (Int × Int)) (L : List Int) : Option (Int × Int) := L.foldl (stp1 J) s
theorem doF_ru (J : Nat → Nat → Int) (l : Nat → Int) (p : Int) : ∀ k, ruS J (some (p, 0)) (sgL l 0 k) = if (doF J l p k).2.2 = true then some ((doF J l p k).1, (doF J l p k).2.1) else none
  | 0 => rfl
  | k + 1 => by
    unfold ruS
    rw [sgL_snoc, List.foldl_append, Nat.zero_add]
    have h := doF_ru J l p k
    unfold ruS at h
    rw [h, doF]
    by_cases q : (doF J l p k).2.2 = true
    · rw [if_pos q]
      show stp1 J (some ((doF J l p k).1, (doF J l p k).2.1)) (l k) = _
      rw [stp1]
      by_cases q2 : enB J (l k).toNat (doF J l p k).1 (doF J l p k).2.1 = -9
      · simp [q, q2]
      · simp [q, q2]
    · rw [if_neg q]
      show stp1 J none (l k) = _
      rw [stp1]
      simp [q]
def feL (J : Nat → Nat → Int) (p : Int) (L : List Int) : Bool := (ruS J (some (p, 0)) L).isSome
theorem feL_do {J : Nat → Nat → Int} {l : Nat → Int} {p : Int} {L : List Int} (h : sgL l 0 L.length = L) : feL J p L = (doF J l p L.length).2.2 := by
  unfold feL
  rw [← h, doF_ru, sgL_len]
  cases (doF J l p L.length).2.2 <;> rfl
theorem doN_iff {J : Nat → Nat → Int} {l : Nat → Int} {p : Int} {k : Nat} : doN J l p k = (k : Int) ↔ (doF J l p k).2.2 = true := by
  constructor
  · intro h
    cases k with
    | zero => rfl
    | succ k =>
      rw [doN] at h
      by_cases q : (doF J l p (k + 1)).2.2 = true
      · exact q
      · rw [if_neg q] at h
        have := doN_b J l p k
        omega
  · exact doN_ok
theorem chn_mid {e : Option (List Int)} {cur : List Int} {rest : List (List Int)} : ∀ {pre : List (List Int)}, chnP e (pre ++ cur :: rest) → nextP cur = match rest with
    | [] => e
    | b :: _ => some b
  | [], h => by
    cases rest with
    | nil => exact h
    | cons b t => exact h.1
  | [a], h => by
    have h2 : chnP e (cur :: rest) := h.2
    exact chn_mid (pre := []) h2
  | a :: c :: t, h => chn_mid (pre := c :: t) h.2
def F3 (M M2 : Mm) : Prop := (∀ a, a ≠ 77 → a ≠ 89 → a ≠ 90 → M2 a = M a) ∧ ∀ b, b ≠ 23 → b ≠ 25 → M2 77 b = M 77 b
theorem F3.refl (M : Mm) : F3 M M := ⟨fun _ _ _ _ => rfl, fun _ _ _ => rfl⟩
theorem F3.trans {M M2 M3 : Mm} (h : F3 M M2) (k : F3 M2 M3) : F3 M M3 := ⟨fun a h1 h2 h3 => (k.1 a h1 h2 h3).trans (h.1 a h1 h2 h3), fun b h1 h2 => (k.2 b h1 h2).trans (h.2 b h1 h2)⟩
theorem F3.V {M M2 : Mm} (h : F3 M M2) (hV : RV M) : RV M2 := hV.of (h.1 84 (by decide) (by decide) (by decide)) (h.1 85 (by decide) (by decide) (by decide)) (h.1 86 (by decide) (by decide) (by decide)) (h.2 10 (by decide) (by decide)) (h.2 12 (by decide) (by decide)) (h.2 15 (by decide) (by decide))
theorem F3.j {M M2 : Mm} (h : F3 M M2) : jbR M2 = jbR M := jbR_off (h.1 84 (by decide) (by decide) (by decide)) (h.1 85 (by decide) (by decide) (by decide))
theorem F3.s {M M2 : Mm} (h : F3 M M2) : sP M2 = sP M := by
  unfold sP
  rw [h.1 84 (by decide) (by decide) (by decide), h.2 15 (by decide) (by decide)]
theorem F3.DS {M M2 : Mm} {z : Int} (h : DS M z M2) : F3 M M2 := ⟨fun a h1 _ h3 => h.2.2.2.1 a h1 h3, fun b _ h2 => h.2.2.2.2 b h2⟩
theorem LN.DS {M M2 : Mm} {z : Int} {L : List Int} (hL : LN M L) (h : DS M z M2) : LN M2 L := hL.of (h.2.2.2.2 23 (by decide)) (h.2.2.2.1 89 (by decide) (by decide))
def FLX (M : Mm) (s : Nat) (M2 : Mm) : Prop := (∀ a, a ≠ 77 → a ≠ 89 → M2 a = M a) ∧ (∀ b, b ≠ 23 → M2 77 b = M 77 b) ∧ LN M2 (elB s (M 77 12).toNat)
def NLX (M : Mm) (L : List Int) (z : Int) (M2 : Mm) : Prop := (z = 0 ∧ nextP L = none ∧ M2 = M) ∨ (z = 1 ∧ ∃ L2, nextP L = some L2 ∧ LN M2 L2 ∧ ∀ a, a ≠ 89 → M2 a = M a)
def swM (M : Mm) (i k : Int) : Mm := stM (stM M 89 i.toNat (M 89 k.toNat)) 89 k.toNat (M 89 i.toNat)
theorem swM_at {M : Mm} {i k : Int} (hi : 0 ≤ i) (hk : 0 ≤ k) (j : Nat) : swM M i k 89 j = if j = k.toNat then M 89 i.toNat else if j = i.toNat then M 89 k.toNat else M 89 j := by
  unfold swM stM
  by_cases h1 : j = k.toNat
  · simp [h1]
  · by_cases h2 : j = i.toNat
    · simp [h1, h2]
    · simp [h1, h2]
theorem swM_off (M : Mm) (i k : Int) {a : Nat} (h : a ≠ 89) : swM M i k a = M a := by unfold swM; rw [stM_off h, stM_off h]
/-- all orders of a set -/
def pmM (M : Mm) (s : Nat) : List (List Int) := pmF (elB s (M 77 12).toNat).length (elB s (M 77 12).toNat)
theorem pmM_of {M M2 : Mm} (h : M2 77 12 = M 77 12) (s : Nat) : pmM M2 s = pmM M s := by unfold pmM; rw [h]
theorem pmM_chn (M : Mm) (s : Nat) : chnP none (pmM M s) := (pm_chain _ _ rfl (elB_sorted s _)).1
theorem pmM_head (M : Mm) (s : Nat) : ∃ t, pmM M s = elB s (M 77 12).toNat :: t := by
  have h := (pm_chain _ (elB s (M 77 12).toNat) rfl (elB_sorted s _)).2.1
  unfold pmM
  cases h2 : pmF (elB s (M 77 12).toNat).length (elB s (M 77 12).toNat) with
  | nil => rw [h2] at h; simp at h
  | cons a t =>
    rw [h2] at h
    simp at h
    exact ⟨t, by rw [h]⟩
theorem pmM_ok {M : Mm} (h8 : 0 ≤ M 77 12 ∧ M 77 12 ≤ 8) {s : Nat} {L : List Int} (h : L ∈ pmM M s) : L.Nodup ∧ (∀ x ∈ L, 0 ≤ x ∧ x < M 77 12 ∧ s.testBit x.toNat = true) ∧ L.length ≤ 8 := by
  have hp := pm_perm _ _ L rfl h
  have hlen := elB_len s (M 77 12).toNat
  refine ⟨hp.nodup_iff.mpr (sorted_nodup (elB_sorted s _)), fun x hx => ?_, ?_⟩
  · have := elB_mem (hp.mem_iff.mp hx)
    exact ⟨by omega, by omega, this.2.2⟩
  · rw [hp.length_eq]; omega
def LFX (M : Mm) (s : Nat) (z : Int) (M2 : Mm) : Prop := F3 M M2 ∧ ((z = 1 ∧ ∃ pre cur rest, pmM M s = pre ++ cur :: rest ∧ (∀ L ∈ pre, ¬ feL (jbR M) (sP M) L = true) ∧ feL (jbR M) (sP M) cur = true ∧ LN M2 cur ∧ ∀ k : Nat, k < cur.length → M2 90 k = doB (jbR M) (M2 89) (sP M) k) ∨ (z = 0 ∧ ∀ L ∈ pmM M s, ¬ feL (jbR M) (sP M) L = true))
def LFI (M : Mm) (s : Nat) (mo : Int) (w : Nat) (U : Mm) : Prop := F3 M U ∧ ((mo = 1 ∧ ∃ pre cur rest, pmM M s = pre ++ cur :: rest ∧ (∀ L ∈ pre, ¬ feL (jbR M) (sP M) L = true) ∧ LN U cur ∧ rest.length + 1 = w) ∨ (mo = 0 ∧ ∀ L ∈ pmM M s, ¬ feL (jbR M) (sP M) L = true))
/-- one order more -/
theorem LFI_next {M U T W : Mm} {s : Nat} {z : Int} {w : Nat} {pre rest : List (List Int)} {cur : List Int} (hF : F3 M U) (h1 : pmM M s = pre ++ cur :: rest) (h2 : ∀ L ∈ pre, ¬ feL (jbR M) (sP M) L = true) (hf : ¬ feL (jbR M) (sP M) cur = true) (hw : rest.length + 1 = w) (hT : F3 U T) (hN : NLX T cur z W) : LFI M s z (w - 1) W := by
  have hc := chn_mid (by rw [← h1]; exact pmM_chn M s : chnP none (pre ++ cur :: rest))
  rcases hN with ⟨q1, q2, q3⟩ | ⟨q1, L2, q2, q3, q4⟩
  · subst q3
    refine ⟨hF.trans hT, Or.inr ⟨q1, ?_⟩⟩
    cases rest with
    | nil =>
      intro L hL
      rw [h1, List.mem_append] at hL
      rcases hL with hL | hL
      · exact h2 L hL
      · have : L = cur := by simpa using hL
        rw [this]; exact hf
    | cons b t =>
      rw [q2] at hc
      exact absurd hc (by simp)
  · have hW : F3 T W := ⟨fun a _ h _ => q4 a h, fun b _ _ => by rw [q4 77 (by decide)]⟩
    refine ⟨(hF.trans hT).trans hW, Or.inl ⟨q1, ?_⟩⟩
    cases rest with
    | nil =>
      rw [q2] at hc
      exact absurd hc (by simp)
    | cons b t =>
      rw [q2] at hc
      have e : L2 = b := by injection hc
      subst e
      refine ⟨pre ++ [cur], L2, t, by rw [h1]; simp, fun L hL => ?_, q3, ?_⟩
      · rw [List.mem_append] at hL
        rcases hL with hL | hL
        · exact h2 L hL
        · have : L = cur := by simpa using hL
          rw [this]; exact hf
      · simp at hw; omega
def OCI (M : Mm) (s : Nat) (mo c : Int) (w : Nat) (U : Mm) : Prop := F3 M U ∧ ((mo = 1 ∧ ∃ pre cur rest, pmM M s = pre ++ cur :: rest ∧ c = ((pre.countP (feL (jbR M) (sP M)) : Nat) : Int) ∧ LN U cur ∧ rest.length + 1 = w) ∨ (mo = 0 ∧ c = (((pmM M s).countP (feL (jbR M) (sP M)) : Nat) : Int)))
theorem OCI_next {M U T W : Mm} {s : Nat} {z c : Int} {w : Nat} {pre rest : List (List Int)} {cur : List Int} (hF : F3 M U) (h1 : pmM M s = pre ++ cur :: rest) (h2 : c = ((pre.countP (feL (jbR M) (sP M)) : Nat) : Int)) (hw : rest.length + 1 = w) (hT : F3 U T) (hN : NLX T cur z W) : OCI M s z (c + if feL (jbR M) (sP M) cur = true then 1 else 0) (w - 1) W := by
  have hc := chn_mid (by rw [← h1]; exact pmM_chn M s : chnP none (pre ++ cur :: rest))
  have hcnt : ((pre ++ [cur]).countP (feL (jbR M) (sP M)) : Int) = c + if feL (jbR M) (sP M) cur = true then 1 else 0 := by
    rw [List.countP_append, h2, List.countP_cons, List.countP_nil]
    split <;> simp
  rcases hN with ⟨q1, q2, q3⟩ | ⟨q1, L2, q2, q3, q4⟩
  · subst q3
    refine ⟨hF.trans hT, Or.inr ⟨q1, ?_⟩⟩
    cases rest with
    | nil => rw [h1]; exact hcnt.symm
    | cons b t =>
      rw [q2] at hc
      exact absurd hc (by simp)
  · have hW : F3 T W := ⟨fun a _ h _ => q4 a h, fun b _ _ => by rw [q4 77 (by decide)]⟩
    refine ⟨(hF.trans hT).trans hW, Or.inl ⟨q1, ?_⟩⟩
    cases rest with
    | nil =>
      rw [q2] at hc
      exact absurd hc (by simp)
    | cons b t =>
      rw [q2] at hc
      have e : L2 = b := by injection hc
      subst e
      exact ⟨pre ++ [cur], L2, t, by rw [h1]; simp, hcnt.symm, q3, by simp at hw; omega⟩
def lrM (M : Mm) (r : Int) : Mm := fun a b => if a = 79 ∧ b = r.toNat then M 77 23 else if a = 80 ∧ 60 * r ≤ (b : Int) ∧ (b : Int) < 60 * r + 60 then (if (b : Int) - 60 * r < M 77 23 then M 89 ((b : Int) - 60 * r).toNat else 0) else M a b
def lrP (M : Mm) (r i : Int) : Mm := fun a b => if a = 79 ∧ b = r.toNat then M 77 23 else if a = 80 ∧ 60 * r ≤ (b : Int) ∧ (b : Int) < 60 * r + i then (if (b : Int) - 60 * r < M 77 23 then M 89 ((b : Int) - 60 * r).toNat else 0) else M a b
theorem lrP_0 (M : Mm) (r : Int) : stM M 79 r.toNat (M 77 23) = lrP M r 0 := by
  funext a b
  unfold stM lrP
  split
  · rfl
  · rw [if_neg (by omega)]
theorem lrP_s {M : Mm} {r i : Int} (hr : 0 ≤ r) (hi : 0 ≤ i) : stM (lrP M r i) 80 (60 * r + i).toNat (if i < M 77 23 then M 89 i.toNat else 0) = lrP M r (i + 1) := by
  funext a b
  unfold stM lrP
  by_cases h : a = 80 ∧ b = (60 * r + i).toNat
  · rw [if_pos h, if_neg (show ¬ (a = 79 ∧ b = r.toNat) by omega), if_pos (show a = 80 ∧ 60 * r ≤ (b : Int) ∧ (b : Int) < 60 * r + (i + 1) by omega), show (b : Int) - 60 * r = i by omega]
  · rw [if_neg h]
    by_cases h2 : a = 79 ∧ b = r.toNat
    · rw [if_pos h2, if_pos h2]
    · rw [if_neg h2, if_neg h2]
      by_cases h3 : a = 80 ∧ 60 * r ≤ (b : Int) ∧ (b : Int) < 60 * r + i
      · rw [if_pos h3, if_pos (show a = 80 ∧ 60 * r ≤ (b : Int) ∧ (b : Int) < 60 * r + (i + 1) by omega)]
      · rw [if_neg h3, if_neg (show ¬ (a = 80 ∧ 60 * r ≤ (b : Int) ∧ (b : Int) < 60 * r + (i + 1)) by omega)]
def xfiR (M : Mm) (s r z : Int) (M2 : Mm) : Prop := ((¬ SX M s ∨ ¬ R6 r) ∧ z = -1 ∧ M2 = M) ∨ ((SX M s ∧ R6 r) ∧ z = -9 ∧ LFX M s.toNat 0 M2) ∨ ((SX M s ∧ R6 r) ∧ z = 1 ∧ ∃ T, LFX M s.toNat 1 T ∧ M2 = lrM T r)
def xodR (M : Mm) (s z : Int) (M2 : Mm) : Prop := (¬ SX M s ∧ z = -1 ∧ M2 = M) ∨ (SX M s ∧ F3 M M2 ∧ z = (((pmM M s.toNat).countP (feL (jbR M) (sP M)) : Nat) : Int))
def wxF (J : Nat → Nat → Int) (l : Nat → Int) (p : Int) : Nat → Nat
  | 0 => 0
  | k + 1 => wxF J l p k ||| (2 ^ (J (l k).toNat 3).toNat - 1) * 2 ^ (doB J l p k).toNat
def xwoR (M : Mm) (s z : Int) (M2 : Mm) : Prop := (¬ SX M s ∧ z = -1 ∧ M2 = M) ∨ (SX M s ∧ z = -9 ∧ LFX M s.toNat 0 M2) ∨ (SX M s ∧ LFX M s.toNat 1 M2 ∧ z = ((wxF (jbR M) (M2 89) (sP M) (M2 77 23).toNat : Nat) : Int))
theorem wxB {J : Nat → Nat → Int} (hJ : JOK J) {l : Nat → Int} {p : Int} (hp : 0 ≤ p ∧ p ≤ 15) {n : Nat} (hl : ∀ j, j < n → 0 ≤ l j ∧ l j < 8) (hok : (doF J l p n).2.2 = true) {k : Nat} (hk : k < n) : 0 ≤ doB J l p k ∧ doB J l p k + J (l k).toNat 3 ≤ 28 := by
  have h0 : (doF J l p (k + 1)).2.2 = true := by
    rcases Decidable.em ((doF J l p (k + 1)).2.2 = true) with q | q
    · exact q
    · have e := doF_fix (by simpa using q : (doF J l p (k + 1)).2.2 = false) (n - (k + 1))
      rw [show k + 1 + (n - (k + 1)) = n by omega] at e
      rw [e] at hok
      exact hok
  rw [doF] at h0
  have h1 := doF_b hJ (l := l) hp (k := k) (fun j hj => hl j (by omega))
  have h2 := bnB_b hJ (i := (l k).toNat) (by have := hl k hk; omega) h1.1 h1.2.1
  have h3 := enB_b hJ (i := (l k).toNat) (by have := hl k hk; omega) h1.1 h1.2.1
  by_cases q : (doF J l p k).2.2 = true ∧ ¬ enB J (l k).toNat (doF J l p k).1 (doF J l p k).2.1 = -9
  · unfold doB
    omega
  · rw [if_neg q] at h0
    simp at h0
theorem wxF_b {J : Nat → Nat → Int} (hJ : JOK J) {l : Nat → Int} {p : Int} {n : Nat} (hl : ∀ j, j < n → 0 ≤ l j ∧ l j < 8) (h : ∀ k, k < n → 0 ≤ doB J l p k ∧ doB J l p k + J (l k).toNat 3 ≤ 28) : ∀ k, k ≤ n → wxF J l p k < 2 ^ 28
  | 0, _ => by simp [wxF]
  | k + 1, hk => by
    have h1 := wxF_b hJ hl h k (by omega)
    have h2 := h k (by omega)
    have h3 := hJ (l k).toNat (by have := hl k (by omega); omega)
    rw [wxF]
    refine Nat.or_lt_two_pow h1 ?_
    have h4 : 2 ^ (J (l k).toNat 3).toNat * 2 ^ (doB J l p k).toNat ≤ 2 ^ 28 := by
      rw [← Nat.pow_add]
      exact Nat.pow_le_pow_right (by decide) (by omega)
    have h5 : 0 < 2 ^ (doB J l p k).toNat := Nat.two_pow_pos _
    rw [Nat.sub_mul]
    omega
theorem NLX_of {M U : Mm} {Lx : List Int} {m : Nat} {i k a b : Int} (hm : m = Lx.length) (h23 : M 77 23 = (m : Int)) (hsg : sgL (M 89) 0 m = Lx) (hinj : ∀ i j : Nat, i < m → j < m → M 89 i = M 89 j → i = j) (hi : 0 ≤ i ∧ i ≤ (m : Int) - 2) (hd : ∀ j : Nat, i < (j : Int) → j + 1 < m → M 89 (j + 1) < M 89 j) (hk : i + 1 ≤ k) (hkm : k ≤ (m : Int) - 1) (hik : M 89 i.toNat < M 89 k.toNat) (hk2 : ∀ j : Nat, k < (j : Int) → j < m → M 89 j < M 89 i.toNat) (ha : i + 1 ≤ a) (hab : a + b = (m : Int) + i) (hge : b ≤ a) (hU : ∀ q, q ≠ 89 → U q = M q) (hU0 : ∀ j : Nat, (j : Int) ≤ i → U 89 j = swM M i k 89 j) (hUm : ∀ j : Nat, a ≤ (j : Int) → (j : Int) ≤ b → U 89 j = swM M i k 89 j) (hUo : ∀ j : Nat, i < (j : Int) → j < m → ((j : Int) < a ∨ b < (j : Int)) → U 89 j = swM M i k 89 ((m : Int) + i - (j : Int)).toNat) : NLX M Lx 1 U := by
  have hall : ∀ j : Nat, i < (j : Int) → j < m → U 89 j = swM M i k 89 ((m : Int) + i - (j : Int)).toNat := fun j h1 h2 => by
    by_cases q : a ≤ (j : Int) ∧ (j : Int) ≤ b
    · rw [hUm j q.1 q.2, show ((m : Int) + i - (j : Int)).toNat = j by omega]
    · exact hUo j h1 h2 (by omega)
  refine Or.inr ⟨rfl, sgL (U 89) 0 m, ?_, ⟨?_, ?_⟩, hU⟩
  · rw [← hsg]
    refine next_arr (i := i.toNat) (k := k.toNat) (by omega) (fun j h1 h2 => hd j (by omega) h2) (by omega) (by omega) hik (fun j h1 h2 => hk2 j (by omega) h2) (fun j hj => ?_) ?_ (fun t ht => ?_) (fun j h1 h2 e => hinj j k.toNat h2 (by omega) e)
    · rw [hU0 j (by omega), swM_at hi.1 (by omega), if_neg (by omega), if_neg (by omega)]
    · rw [hU0 i.toNat (by omega), swM_at hi.1 (by omega), if_neg (by omega), if_pos rfl]
    · rw [hall (i.toNat + 1 + t) (by omega) (by omega), show ((m : Int) + i - ((i.toNat + 1 + t : Nat) : Int)).toNat = m - 1 - t by omega, swM_at hi.1 (by omega)]
      by_cases q : m - 1 - t = k.toNat
      · rw [if_pos q, if_pos q]
      · rw [if_neg q, if_neg q, if_neg (by omega)]
  · rw [hU 77 (by decide), h23, sgL_len]
  · rw [sgL_len]
set_option maxHeartbeats 4000000 in
set_option maxRecDepth 100000 in
theorem c_X12_firstLine {n : Nat} (hn : NN n) {M : Mm} (hV : RV M) (s : Int) (hs : 0 ≤ s ∧ s ≤ 255) : CT yX12_firstLine cX12_firstLine 3 none ({ frames := 1, cells := 0, slots := 0, locals := 21 }) n [.ref 77, .int (iI s)] M (pV (fun M2 => FLX M s.toNat M2)) := by
  refine CT.of (lv0 := [(0, .ref 77), (1, .int (iI s))]) (by decide +kernel) hn (fun _ => rfl) (fun _ => Nat.le_of_ble_eq_true rfl) (fun X cx cs qx => ?_)
  have cx : Cx X cX12_firstLine RX12 ({ frames := 1, cells := 0, slots := 0, locals := 21 }) 3 n := cx
  have hv1 := hV.1
  refine g_aload_n cx (pc2 := 1) 0 rfl dX12_firstLine_0 rfl ?_
  refine g_iconst cx (pc2 := 2) dX12_firstLine_1 rfl ?_
  refine g_puti cx (pc2 := 5) (ci := 12) (k0 := 77) (j := 23) rfl iwX12 rfl (lt_lit hn (Nat.le_of_ble_eq_true rfl)) rfl (Nat.le_of_ble_eq_true rfl) kf_X12_217 rfl tyX12_ok nmX12 rfl rfl dX12_firstLine_2 rfl ?_
  refine g_iconst cx (pc2 := 6) dX12_firstLine_5 rfl ?_
  refine g_istore_n cx (pc2 := 7) (lv2 := [(0, .ref 77), (1, .int (iI s)), (2, .int (iI 0))]) rfl (Nat.le_of_ble_eq_true rfl) dX12_firstLine_6 rfl ?_
  have L7 : ∀ (fu : Nat) (i : Int) (U : Mm), (0 ≤ i ∧ i ≤ M 77 12) → (∀ a, a ≠ 77 → a ≠ 89 → U a = M a) → (∀ b, b ≠ 23 → U 77 b = M 77 b) → (LN U (elB s.toNat i.toNat)) → (M 77 12 - i).toNat ≤ fu → G X 7 [(0, .ref 77), (1, .int (iI s)), (2, .int (iI i))] [] U := by
    intro fu
    induction fu using Nat.strongRecOn with
    | _ fu ih7 =>
      intro i U hi hU1 hU2 hLN hk7
      have e12 := hU2 12 (by decide)
      have hlen := elB_len s.toNat i.toNat
      have h23 := hLN.1
      have hst : elB s.toNat (i + 1).toNat = if s.toNat.testBit i.toNat = true then elB s.toNat i.toNat ++ [i] else elB s.toNat i.toNat := by rw [show (i + 1).toNat = i.toNat + 1 by omega, elB, Int.toNat_of_nonneg hi.1]
      refine g_iload_n cx (pc2 := 8) 2 rfl dX12_firstLine_7 rfl ?_
      refine g_aload_n cx (pc2 := 9) 0 rfl dX12_firstLine_8 rfl ?_
      refine g_get cx (pc2 := 12) (ci := 12) (k0 := 77) (j := 12) (v := .int (iI (U 77 12))) rfl iwX12 rfl (lt_lit hn (Nat.le_of_ble_eq_true rfl)) rfl (Nat.le_of_ble_eq_true rfl) kf_X12_168 rfl rfl dX12_firstLine_9 rfl ?_
      refine g_rwi (y := iI (M 77 12)) (congrArg iI e12) ?_
      refine g_icmp_ge cx (pc2 := 15) (tgt := 49) ⟨(by first | assumption | omega), (by first | assumption | omega)⟩ dX12_firstLine_12 (by decide) rfl (fun h_1 => ?_) (fun h_1 => ?_)
      · skip
        exact g_vret cx qx dX12_firstLine_49 ⟨rfl, by refine ⟨hU1, hU2, ?_⟩; rw [show (M 77 12).toNat = i.toNat by omega]; exact hLN⟩
      · skip
        refine g_iload_n cx (pc2 := 16) 1 rfl dX12_firstLine_15 rfl ?_
        refine g_iload_n cx (pc2 := 17) 2 rfl dX12_firstLine_16 rfl ?_
        refine g_callS cx (pc2 := 20) (st := []) (As := [.int (iI s), .int (iI i)]) (c_X12_has (M := U) hn s i (by first | assumption | omega) (by first | assumption | omega)) wM_X12_has wS_X12_has kl_X12_220 ⟨rfl, rfl, Nat.le_of_ble_eq_true rfl, Nat.le_of_ble_eq_true rfl⟩ (Nat.le_of_ble_eq_true rfl) cs rfl rfl dX12_firstLine_17 rfl ?_
        rintro _ _ ⟨rfl, rfl⟩
        refine g_ifb_eq cx (pc2 := 23) (tgt := 43) dX12_firstLine_20 (by decide) rfl (fun h_2 => ?_) (fun h_2 => ?_)
        · skip
          refine g_iinc cx (pc2 := 46) 2 rfl (lv2 := [(0, .ref 77), (1, .int (iI s)), (2, .int (iI (i + 1)))]) rfl (Nat.le_of_ble_eq_true rfl) dX12_firstLine_43 rfl ?_
          refine g_goto cx (tgt := 7) dX12_firstLine_46 (by decide) ?_
          exact ih7 ((M 77 12 - (i + 1)).toNat) (by omega) (i + 1) U (by first | assumption | omega) (by intro a h1 h2; first | exact hU1 a h1 h2 | (rw [stM_off h1, stM_off h2]; exact hU1 a h1 h2)) (by intro b hb; first | exact hU2 b hb | (rw [stM_ne _ _ (Or.inr hb), stM_off (by decide)]; exact hU2 b hb)) (by rw [hst]; first | (rw [if_neg (by assumption)]; exact hLN) | (rw [if_pos (by assumption)]; refine ⟨?_, ?_⟩; (rw [stM_at, List.length_append]; simp; omega); (rw [List.length_append, List.length_singleton, sgL_snoc, stM_off (by decide), Nat.zero_add, show (elB s.toNat i.toNat).length = (U 77 23).toNat by omega, stM_at, sgL_cong (l2 := U 89) (fun j _ q => stM_ne _ _ (Or.inr (by omega))), show (U 77 23).toNat = (elB s.toNat i.toNat).length by omega, hLN.2]))) (Nat.le_refl _)
        · skip
          refine g_aload_n cx (pc2 := 24) 0 rfl dX12_firstLine_23 rfl ?_
          refine g_get cx (pc2 := 27) (ci := 12) (k0 := 77) (j := 22) (v := .ref 89) rfl iwX12 rfl (lt_lit hn (Nat.le_of_ble_eq_true rfl)) rfl (Nat.le_of_ble_eq_true rfl) kf_X12_44 rfl rfl dX12_firstLine_24 rfl ?_
          refine g_aload_n cx (pc2 := 28) 0 rfl dX12_firstLine_27 rfl ?_
          refine g_get cx (pc2 := 31) (ci := 12) (k0 := 77) (j := 23) (v := .int (iI (U 77 23))) rfl iwX12 rfl (lt_lit hn (Nat.le_of_ble_eq_true rfl)) rfl (Nat.le_of_ble_eq_true rfl) kf_X12_217 rfl rfl dX12_firstLine_28 rfl ?_
          refine g_iload_n cx (pc2 := 32) 2 rfl dX12_firstLine_31 rfl ?_
          refine g_iast cx (pc2 := 33) (k0 := 89) rfl (lt_lit hn (Nat.le_of_ble_eq_true rfl)) (by first | assumption | omega) (by first | assumption | omega) (Nat.le_of_ble_eq_true rfl) dX12_firstLine_32 rfl ?_
          refine g_aload_n cx (pc2 := 34) 0 rfl dX12_firstLine_33 rfl ?_
          refine g_dup cx (pc2 := 35) rfl dX12_firstLine_34 rfl ?_
          refine g_get cx (pc2 := 38) (ci := 12) (k0 := 77) (j := 23) (v := .int (iI (U 77 23))) rfl iwX12 rfl (lt_lit hn (Nat.le_of_ble_eq_true rfl)) rfl (Nat.le_of_ble_eq_true rfl) kf_X12_217 rfl (congrArg (fun q => Value.int (iI q)) (by simp [stM])) dX12_firstLine_35 rfl ?_
          refine g_iconst cx (pc2 := 39) dX12_firstLine_38 rfl ?_
          refine g_iadd cx (pc2 := 40) dX12_firstLine_39 rfl ?_
          refine g_puti cx (pc2 := 43) (ci := 12) (k0 := 77) (j := 23) rfl iwX12 rfl (lt_lit hn (Nat.le_of_ble_eq_true rfl)) rfl (Nat.le_of_ble_eq_true rfl) kf_X12_217 rfl tyX12_ok nmX12 rfl rfl dX12_firstLine_40 rfl ?_
          refine g_iinc cx (pc2 := 46) 2 rfl (lv2 := [(0, .ref 77), (1, .int (iI s)), (2, .int (iI (i + 1)))]) rfl (Nat.le_of_ble_eq_true rfl) dX12_firstLine_43 rfl ?_
          refine g_goto cx (tgt := 7) dX12_firstLine_46 (by decide) ?_
          exact ih7 ((M 77 12 - (i + 1)).toNat) (by omega) (i + 1) (stM (stM U 89 ((U 77 23)).toNat i) 77 23 ((U 77 23) + 1)) (by first | assumption | omega) (by intro a h1 h2; first | exact hU1 a h1 h2 | (rw [stM_off h1, stM_off h2]; exact hU1 a h1 h2)) (by intro b hb; first | exact hU2 b hb | (rw [stM_ne _ _ (Or.inr hb), stM_off (by decide)]; exact hU2 b hb)) (by rw [hst]; first | (rw [if_neg (by assumption)]; exact hLN) | (rw [if_pos (by assumption)]; refine ⟨?_, ?_⟩; (rw [stM_at, List.length_append]; simp; omega); (rw [List.length_append, List.length_singleton, sgL_snoc, stM_off (by decide), Nat.zero_add, show (elB s.toNat i.toNat).length = (U 77 23).toNat by omega, stM_at, sgL_cong (l2 := U 89) (fun j _ q => stM_ne _ _ (Or.inr (by omega))), show (U 77 23).toNat = (elB s.toNat i.toNat).length by omega, hLN.2]))) (Nat.le_refl _)
  exact L7 _ 0 (stM M 77 23 0) (by first | assumption | omega) (by intro a h1 _; rw [stM_off h1]) (by intro b hb; rw [stM_ne _ _ (Or.inr hb)]) (by exact ⟨by rw [stM_at]; rfl, rfl⟩) (Nat.le_refl _)
set_option maxHeartbeats 4000000 in
set_option maxRecDepth 100000 in
theorem c_X12_swap {n : Nat} (hn : NN n) {M : Mm} (i k : Int) (hi : 0 ≤ i ∧ i < 8) (hk : 0 ≤ k ∧ k < 8) : CT yX12_swap cX12_swap 4 none ({ frames := 0, cells := 0, slots := 0, locals := 0 }) n [.ref 77, .int (iI i), .int (iI k)] M (rV (swM M i k)) := by
  refine CT.of (lv0 := [(0, .ref 77), (1, .int (iI i)), (2, .int (iI k))]) (by decide +kernel) hn (fun _ => rfl) (fun _ => Nat.le_of_ble_eq_true rfl) (fun X cx cs qx => ?_)
  have cx : Cx X cX12_swap RX12 ({ frames := 0, cells := 0, slots := 0, locals := 0 }) 4 n := cx
  refine g_aload_n cx (pc2 := 1) 0 rfl dX12_swap_0 rfl ?_
  refine g_get cx (pc2 := 4) (ci := 12) (k0 := 77) (j := 22) (v := .ref 89) rfl iwX12 rfl (lt_lit hn (Nat.le_of_ble_eq_true rfl)) rfl (Nat.le_of_ble_eq_true rfl) kf_X12_44 rfl rfl dX12_swap_1 rfl ?_
  refine g_iload_n cx (pc2 := 5) 1 rfl dX12_swap_4 rfl ?_
  refine g_iald cx (pc2 := 6) (k0 := 89) rfl (lt_lit hn (Nat.le_of_ble_eq_true rfl)) (by first | assumption | omega) (by first | assumption | omega) (Nat.le_of_ble_eq_true rfl) dX12_swap_5 rfl ?_
  refine g_rwi (y := iI (M 89 ((i).toNat))) (congrArg iI (by simp [stM])) ?_
  refine g_istore_n cx (pc2 := 7) (lv2 := [(0, .ref 77), (1, .int (iI i)), (2, .int (iI k)), (3, .int (iI (M 89 ((i).toNat))))]) rfl (Nat.le_of_ble_eq_true rfl) dX12_swap_6 rfl ?_
  refine g_aload_n cx (pc2 := 8) 0 rfl dX12_swap_7 rfl ?_
  refine g_get cx (pc2 := 11) (ci := 12) (k0 := 77) (j := 22) (v := .ref 89) rfl iwX12 rfl (lt_lit hn (Nat.le_of_ble_eq_true rfl)) rfl (Nat.le_of_ble_eq_true rfl) kf_X12_44 rfl rfl dX12_swap_8 rfl ?_
  refine g_iload_n cx (pc2 := 12) 1 rfl dX12_swap_11 rfl ?_
  refine g_aload_n cx (pc2 := 13) 0 rfl dX12_swap_12 rfl ?_
  refine g_get cx (pc2 := 16) (ci := 12) (k0 := 77) (j := 22) (v := .ref 89) rfl iwX12 rfl (lt_lit hn (Nat.le_of_ble_eq_true rfl)) rfl (Nat.le_of_ble_eq_true rfl) kf_X12_44 rfl rfl dX12_swap_13 rfl ?_
  refine g_iload_n cx (pc2 := 17) 2 rfl dX12_swap_16 rfl ?_
  refine g_iald cx (pc2 := 18) (k0 := 89) rfl (lt_lit hn (Nat.le_of_ble_eq_true rfl)) (by first | assumption | omega) (by first | assumption | omega) (Nat.le_of_ble_eq_true rfl) dX12_swap_17 rfl ?_
  refine g_rwi (y := iI (M 89 ((k).toNat))) (congrArg iI (by simp [stM])) ?_
  refine g_iast cx (pc2 := 19) (k0 := 89) rfl (lt_lit hn (Nat.le_of_ble_eq_true rfl)) (by first | assumption | omega) (by first | assumption | omega) (Nat.le_of_ble_eq_true rfl) dX12_swap_18 rfl ?_
  refine g_aload_n cx (pc2 := 20) 0 rfl dX12_swap_19 rfl ?_
  refine g_get cx (pc2 := 23) (ci := 12) (k0 := 77) (j := 22) (v := .ref 89) rfl iwX12 rfl (lt_lit hn (Nat.le_of_ble_eq_true rfl)) rfl (Nat.le_of_ble_eq_true rfl) kf_X12_44 rfl rfl dX12_swap_20 rfl ?_
  refine g_iload_n cx (pc2 := 24) 2 rfl dX12_swap_23 rfl ?_
  refine g_iload_n cx (pc2 := 25) 3 rfl dX12_swap_24 rfl ?_
  refine g_iast cx (pc2 := 26) (k0 := 89) rfl (lt_lit hn (Nat.le_of_ble_eq_true rfl)) (by first | assumption | omega) (by first | assumption | omega) (Nat.le_of_ble_eq_true rfl) dX12_swap_25 rfl ?_
  exact g_vret cx qx dX12_swap_26 ⟨rfl, by rfl⟩
set_option maxHeartbeats 4000000 in
set_option maxRecDepth 100000 in
theorem c_X12_nextLine {n : Nat} (hn : NN n) {M : Mm} (Lx : List Int) (hL : LN M Lx) (h8 : Lx.length ≤ 8) (hnd : Lx.Nodup) (hin : ∀ x ∈ Lx, 0 ≤ x ∧ x < 8) : CT yX12_nextLine cX12_nextLine 5 (some .boolean) ({ frames := 1, cells := 0, slots := 0, locals := 23 }) n [.ref 77] M (pI (fun z M2 => NLX M Lx z M2)) := by
  refine CT.of (lv0 := [(0, .ref 77)]) (by decide +kernel) hn (fun _ => rfl) (fun _ => Nat.le_of_ble_eq_true rfl) (fun X cx cs qx => ?_)
  have cx : Cx X cX12_nextLine RX12 ({ frames := 1, cells := 0, slots := 0, locals := 23 }) 5 n := cx
  obtain ⟨m, hm⟩ : ∃ m : Nat, m = Lx.length := ⟨_, rfl⟩
  have h23 : M 77 23 = (m : Int) := by rw [hL.1, hm]
  have hsg : sgL (M 89) 0 m = Lx := by rw [hm]; exact hL.2
  rw [← hm] at h8
  have hv : ∀ j : Nat, j < m → 0 ≤ M 89 j ∧ M 89 j < 8 := fun j hj => hin _ (by rw [← hsg]; exact sgL_in _ (by omega) (by omega))
  have hinj : ∀ i j : Nat, i < m → j < m → M 89 i = M 89 j → i = j := fun i j h1 h2 e => sgL_inj (l := M 89) (m := m) (a := 0) (by rw [hsg]; exact hnd) i j (by omega) (by omega) (by omega) (by omega) e
  refine g_aload_n cx (pc2 := 1) 0 rfl dX12_nextLine_0 rfl ?_
  refine g_get cx (pc2 := 4) (ci := 12) (k0 := 77) (j := 23) (v := .int (iI (M 77 23))) rfl iwX12 rfl (lt_lit hn (Nat.le_of_ble_eq_true rfl)) rfl (Nat.le_of_ble_eq_true rfl) kf_X12_217 rfl rfl dX12_nextLine_1 rfl ?_
  refine g_rwi (y := iI (m : Int)) (congrArg iI h23) ?_
  refine g_iconst cx (pc2 := 5) dX12_nextLine_4 rfl ?_
  refine g_isub cx (pc2 := 6) dX12_nextLine_5 rfl ?_
  refine g_istore_n cx (pc2 := 7) (lv2 := [(0, .ref 77), (1, .int (iI ((m : Int) - 2)))]) rfl (Nat.le_of_ble_eq_true rfl) dX12_nextLine_6 rfl ?_
  have L7 : ∀ (fu : Nat) (i : Int), (-2 ≤ i ∧ i ≤ (m : Int) - 2) → (∀ j : Nat, i < (j : Int) → j + 1 < m → M 89 (j + 1) < M 89 j) → (i + 2).toNat ≤ fu → G X 7 [(0, .ref 77), (1, .int (iI i))] [] M := by
    intro fu
    induction fu using Nat.strongRecOn with
    | _ fu ih7 =>
      intro i hi hd hk7
      have hv1 := hv i.toNat
      have hv2 := hv (i + 1).toNat
      have L34 : (i < 0 ∨ (0 ≤ i ∧ ¬ M 89 (i + 1).toNat < M 89 i.toNat)) → G X 34 [(0, .ref 77), (1, .int (iI i))] [] M := by
        intro h34
        skip
        refine g_iload_n cx (pc2 := 35) 1 rfl dX12_nextLine_34 rfl ?_
        refine g_if_ge cx (pc2 := 38) (tgt := 40) (by first | assumption | omega) dX12_nextLine_35 (by decide) rfl (fun h_1 => ?_) (fun h_1 => ?_)
        · skip
          have hlt : M 89 i.toNat < M 89 (i + 1).toNat := by have e := hinj i.toNat (i + 1).toNat (by omega) (by omega); rcases (show M 89 i.toNat < M 89 (i + 1).toNat ∨ M 89 i.toNat = M 89 (i + 1).toNat by omega) with q | q; exact q; have := e q; omega
          refine g_aload_n cx (pc2 := 41) 0 rfl dX12_nextLine_40 rfl ?_
          refine g_get cx (pc2 := 44) (ci := 12) (k0 := 77) (j := 23) (v := .int (iI (M 77 23))) rfl iwX12 rfl (lt_lit hn (Nat.le_of_ble_eq_true rfl)) rfl (Nat.le_of_ble_eq_true rfl) kf_X12_217 rfl rfl dX12_nextLine_41 rfl ?_
          refine g_rwi (y := iI (m : Int)) (congrArg iI h23) ?_
          refine g_iconst cx (pc2 := 45) dX12_nextLine_44 rfl ?_
          refine g_isub cx (pc2 := 46) dX12_nextLine_45 rfl ?_
          refine g_istore_n cx (pc2 := 47) (lv2 := [(0, .ref 77), (1, .int (iI i)), (2, .int (iI ((m : Int) - 1)))]) rfl (Nat.le_of_ble_eq_true rfl) dX12_nextLine_46 rfl ?_
          have L47 : ∀ (fu : Nat) (k : Int), (i + 1 ≤ k ∧ k ≤ (m : Int) - 1) → (∀ j : Nat, k < (j : Int) → j < m → M 89 j < M 89 i.toNat) → k.toNat ≤ fu → G X 47 [(0, .ref 77), (1, .int (iI i)), (2, .int (iI k))] [] M := by
            intro fu
            induction fu using Nat.strongRecOn with
            | _ fu ih47 =>
              intro k hk hk2 hk47
              have hv3 := hv k.toNat (by omega)
              refine g_aload_n cx (pc2 := 48) 0 rfl dX12_nextLine_47 rfl ?_
              refine g_get cx (pc2 := 51) (ci := 12) (k0 := 77) (j := 22) (v := .ref 89) rfl iwX12 rfl (lt_lit hn (Nat.le_of_ble_eq_true rfl)) rfl (Nat.le_of_ble_eq_true rfl) kf_X12_44 rfl rfl dX12_nextLine_48 rfl ?_
              refine g_iload_n cx (pc2 := 52) 2 rfl dX12_nextLine_51 rfl ?_
              refine g_iald cx (pc2 := 53) (k0 := 89) rfl (lt_lit hn (Nat.le_of_ble_eq_true rfl)) (by first | assumption | omega) (by first | assumption | omega) (Nat.le_of_ble_eq_true rfl) dX12_nextLine_52 rfl ?_
              refine g_rwi (y := iI (M 89 ((k).toNat))) (congrArg iI (by simp [stM])) ?_
              refine g_aload_n cx (pc2 := 54) 0 rfl dX12_nextLine_53 rfl ?_
              refine g_get cx (pc2 := 57) (ci := 12) (k0 := 77) (j := 22) (v := .ref 89) rfl iwX12 rfl (lt_lit hn (Nat.le_of_ble_eq_true rfl)) rfl (Nat.le_of_ble_eq_true rfl) kf_X12_44 rfl rfl dX12_nextLine_54 rfl ?_
              refine g_iload_n cx (pc2 := 58) 1 rfl dX12_nextLine_57 rfl ?_
              refine g_iald cx (pc2 := 59) (k0 := 89) rfl (lt_lit hn (Nat.le_of_ble_eq_true rfl)) (by first | assumption | omega) (by first | assumption | omega) (Nat.le_of_ble_eq_true rfl) dX12_nextLine_58 rfl ?_
              refine g_rwi (y := iI (M 89 ((i).toNat))) (congrArg iI (by simp [stM])) ?_
              refine g_icmp_ge cx (pc2 := 62) (tgt := 68) ⟨(by first | assumption | omega), (by first | assumption | omega)⟩ dX12_nextLine_59 (by decide) rfl (fun h_2 => ?_) (fun h_2 => ?_)
              · skip
                have hik : M 89 i.toNat < M 89 k.toNat := by have e := hinj i.toNat k.toNat (by omega) (by omega); rcases (show M 89 i.toNat < M 89 k.toNat ∨ M 89 i.toNat = M 89 k.toNat by omega) with q | q; exact q; have := e q; omega
                refine g_aload_n cx (pc2 := 69) 0 rfl dX12_nextLine_68 rfl ?_
                refine g_iload_n cx (pc2 := 70) 1 rfl dX12_nextLine_69 rfl ?_
                refine g_iload_n cx (pc2 := 71) 2 rfl dX12_nextLine_70 rfl ?_
                refine g_callV cx (pc2 := 74) (st := []) (As := [.int (iI i), .int (iI k)]) (k0 := 77) (ci := 12) (c_X12_swap (M := M) hn i k (by first | assumption | omega) (by first | assumption | omega)) wM_X12_swap wV_X12_swap kl_X12_255 rfl (lt_lit hn (Nat.le_of_ble_eq_true rfl)) rfl ⟨rfl, rfl, Nat.le_of_ble_eq_true rfl, Nat.le_of_ble_eq_true rfl⟩ (Nat.le_of_ble_eq_true rfl) cs rfl rfl dX12_nextLine_71 rfl ?_
                rintro _ _ ⟨rfl, rfl⟩
                refine g_iload_n cx (pc2 := 75) 1 rfl dX12_nextLine_74 rfl ?_
                refine g_iconst cx (pc2 := 76) dX12_nextLine_75 rfl ?_
                refine g_iadd cx (pc2 := 77) dX12_nextLine_76 rfl ?_
                refine g_istore_n cx (pc2 := 78) (lv2 := [(0, .ref 77), (1, .int (iI i)), (2, .int (iI k)), (3, .int (iI (i + 1)))]) rfl (Nat.le_of_ble_eq_true rfl) dX12_nextLine_77 rfl ?_
                refine g_aload_n cx (pc2 := 79) 0 rfl dX12_nextLine_78 rfl ?_
                refine g_get cx (pc2 := 82) (ci := 12) (k0 := 77) (j := 23) (v := .int (iI ((swM M i k) 77 23))) rfl iwX12 rfl (lt_lit hn (Nat.le_of_ble_eq_true rfl)) rfl (Nat.le_of_ble_eq_true rfl) kf_X12_217 rfl rfl dX12_nextLine_79 rfl ?_
                refine g_rwi (y := iI (m : Int)) (congrArg iI (by rw [swM_off _ _ _ (by decide)]; exact h23)) ?_
                refine g_iconst cx (pc2 := 83) dX12_nextLine_82 rfl ?_
                refine g_isub cx (pc2 := 84) dX12_nextLine_83 rfl ?_
                skip
                refine g_istore cx (pc2 := 86) (lv2 := [(0, .ref 77), (1, .int (iI i)), (2, .int (iI k)), (3, .int (iI (i + 1))), (4, .int (iI ((m : Int) - 1)))]) rfl (Nat.le_of_ble_eq_true rfl) dX12_nextLine_84 rfl ?_
                have L86 : ∀ (fu : Nat) (a : Int) (b : Int) (U : Mm), (i + 1 ≤ a ∧ a ≤ b + 1 ∧ a + b = (m : Int) + i) → (∀ q, q ≠ 89 → U q = M q) → (∀ j : Nat, (j : Int) ≤ i → U 89 j = swM M i k 89 j) → (∀ j : Nat, a ≤ (j : Int) → (j : Int) ≤ b → U 89 j = swM M i k 89 j) → (∀ j : Nat, i < (j : Int) → j < m → ((j : Int) < a ∨ b < (j : Int)) → U 89 j = swM M i k 89 ((m : Int) + i - (j : Int)).toNat) → (b + 1 - a).toNat ≤ fu → G X 86 [(0, .ref 77), (1, .int (iI i)), (2, .int (iI k)), (3, .int (iI a)), (4, .int (iI b))] [] U := by
                  intro fu
                  induction fu using Nat.strongRecOn with
                  | _ fu ih86 =>
                    intro a b U hab hU hU0 hUm hUo hk86
                    refine g_iload_n cx (pc2 := 87) 3 rfl dX12_nextLine_86 rfl ?_
                    refine g_iload cx (pc2 := 89) 4 rfl dX12_nextLine_87 rfl ?_
                    refine g_icmp_ge cx (pc2 := 92) (tgt := 108) ⟨(by first | assumption | omega), (by first | assumption | omega)⟩ dX12_nextLine_89 (by decide) rfl (fun h_3 => ?_) (fun h_3 => ?_)
                    · skip
                      refine g_iconst cx (pc2 := 109) dX12_nextLine_108 rfl ?_
                      exact g_zret cx (Or.inr rfl) qx dX12_nextLine_109 ⟨_, rfl, by exact NLX_of hm h23 hsg hinj (by omega) hd (by omega) (by omega) hik hk2 hab.1 hab.2.2 (by omega) hU hU0 hUm hUo⟩
                    · skip
                      refine g_aload_n cx (pc2 := 93) 0 rfl dX12_nextLine_92 rfl ?_
                      refine g_iload_n cx (pc2 := 94) 3 rfl dX12_nextLine_93 rfl ?_
                      refine g_iload cx (pc2 := 96) 4 rfl dX12_nextLine_94 rfl ?_
                      refine g_callV cx (pc2 := 99) (st := []) (As := [.int (iI a), .int (iI b)]) (k0 := 77) (ci := 12) (c_X12_swap (M := U) hn a b (by first | assumption | omega) (by first | assumption | omega)) wM_X12_swap wV_X12_swap kl_X12_255 rfl (lt_lit hn (Nat.le_of_ble_eq_true rfl)) rfl ⟨rfl, rfl, Nat.le_of_ble_eq_true rfl, Nat.le_of_ble_eq_true rfl⟩ (Nat.le_of_ble_eq_true rfl) cs rfl rfl dX12_nextLine_96 rfl ?_
                      rintro _ _ ⟨rfl, rfl⟩
                      refine g_iinc cx (pc2 := 102) 3 rfl (lv2 := [(0, .ref 77), (1, .int (iI i)), (2, .int (iI k)), (3, .int (iI (a + 1))), (4, .int (iI b))]) rfl (Nat.le_of_ble_eq_true rfl) dX12_nextLine_99 rfl ?_
                      refine g_iinc cx (pc2 := 105) 4 rfl (lv2 := [(0, .ref 77), (1, .int (iI i)), (2, .int (iI k)), (3, .int (iI (a + 1))), (4, .int (iI (b + (-1))))]) rfl (Nat.le_of_ble_eq_true rfl) dX12_nextLine_102 rfl ?_
                      refine g_goto cx (tgt := 86) dX12_nextLine_105 (by decide) ?_
                      exact ih86 (((b + (-1)) + 1 - (a + 1)).toNat) (by omega) (a + 1) (b + (-1)) (swM U a b) (by first | assumption | omega) (by intro q hq; rw [swM_off _ _ _ hq]; exact hU q hq) (by intro j hj; rw [swM_at (by omega) (by omega), if_neg (by omega), if_neg (by omega)]; exact hU0 j hj) (by intro j h1 h2; rw [swM_at (by omega) (by omega), if_neg (by omega), if_neg (by omega)]; exact hUm j (by omega) (by omega)) (by intro j h1 h2 h3; rw [swM_at (by omega) (by omega)]; by_cases e1 : j = b.toNat; (rw [if_pos e1, hUm a.toNat (by omega) (by omega), show ((m : Int) + i - (j : Int)).toNat = a.toNat by omega]); (rw [if_neg e1]; by_cases e2 : j = a.toNat; (rw [if_pos e2, hUm b.toNat (by omega) (by omega), show ((m : Int) + i - (j : Int)).toNat = b.toNat by omega]); (rw [if_neg e2]; exact hUo j h1 h2 (by omega)))) (Nat.le_refl _)
                exact L86 _ (i + 1) ((m : Int) - 1) (swM M i k) (by first | assumption | omega) (by intro q hq; exact swM_off _ _ _ hq) (by intro j _; rfl) (by intro j _ _; rfl) (by intro j h1 h2 h3; omega) (Nat.le_refl _)
              · skip
                refine g_iinc cx (pc2 := 65) 2 rfl (lv2 := [(0, .ref 77), (1, .int (iI i)), (2, .int (iI (k + (-1))))]) rfl (Nat.le_of_ble_eq_true rfl) dX12_nextLine_62 rfl ?_
                refine g_goto cx (tgt := 47) dX12_nextLine_65 (by decide) ?_
                exact ih47 ((k + (-1)).toNat) (by omega) (k + (-1)) (by rcases (show k = i + 1 ∨ i + 2 ≤ k by omega) with q | q; (exfalso; have e9 : k.toNat = (i + 1).toNat := (by omega); rw [← e9] at hlt; omega); omega) (by intro j h1 h2; rcases (show k < (j : Int) ∨ j = k.toNat by omega) with q | q; exact hk2 j q h2; (subst q; omega)) (Nat.le_refl _)
          exact L47 _ ((m : Int) - 1) (by first | assumption | omega) (by intro j h1 h2; omega) (Nat.le_refl _)
        · skip
          refine g_iconst cx (pc2 := 39) dX12_nextLine_38 rfl ?_
          exact g_zret cx (Or.inl rfl) qx dX12_nextLine_39 ⟨_, rfl, by refine Or.inl ⟨rfl, ?_, rfl⟩; rw [← hsg]; exact (next_desc (l := M 89) (m := m) (a := 0) (fun j _ h => hd j (by omega) (by omega))).1⟩
      refine g_iload_n cx (pc2 := 8) 1 rfl dX12_nextLine_7 rfl ?_
      refine g_if_lt cx (pc2 := 11) (tgt := 34) (by first | assumption | omega) dX12_nextLine_8 (by decide) rfl (fun h_4 => ?_) (fun h_4 => ?_)
      · skip
        exact L34  (by first | exact Or.inl (by omega) | exact Or.inr ⟨by omega, by omega⟩)
      · skip
        refine g_aload_n cx (pc2 := 12) 0 rfl dX12_nextLine_11 rfl ?_
        refine g_get cx (pc2 := 15) (ci := 12) (k0 := 77) (j := 22) (v := .ref 89) rfl iwX12 rfl (lt_lit hn (Nat.le_of_ble_eq_true rfl)) rfl (Nat.le_of_ble_eq_true rfl) kf_X12_44 rfl rfl dX12_nextLine_12 rfl ?_
        refine g_iload_n cx (pc2 := 16) 1 rfl dX12_nextLine_15 rfl ?_
        refine g_iald cx (pc2 := 17) (k0 := 89) rfl (lt_lit hn (Nat.le_of_ble_eq_true rfl)) (by first | assumption | omega) (by first | assumption | omega) (Nat.le_of_ble_eq_true rfl) dX12_nextLine_16 rfl ?_
        refine g_rwi (y := iI (M 89 ((i).toNat))) (congrArg iI (by simp [stM])) ?_
        refine g_aload_n cx (pc2 := 18) 0 rfl dX12_nextLine_17 rfl ?_
        refine g_get cx (pc2 := 21) (ci := 12) (k0 := 77) (j := 22) (v := .ref 89) rfl iwX12 rfl (lt_lit hn (Nat.le_of_ble_eq_true rfl)) rfl (Nat.le_of_ble_eq_true rfl) kf_X12_44 rfl rfl dX12_nextLine_18 rfl ?_
        refine g_iload_n cx (pc2 := 22) 1 rfl dX12_nextLine_21 rfl ?_
        refine g_iconst cx (pc2 := 23) dX12_nextLine_22 rfl ?_
        refine g_iadd cx (pc2 := 24) dX12_nextLine_23 rfl ?_
        refine g_iald cx (pc2 := 25) (k0 := 89) rfl (lt_lit hn (Nat.le_of_ble_eq_true rfl)) (by first | assumption | omega) (by first | assumption | omega) (Nat.le_of_ble_eq_true rfl) dX12_nextLine_24 rfl ?_
        refine g_rwi (y := iI (M 89 ((i + 1).toNat))) (congrArg iI (by simp [stM])) ?_
        refine g_icmp_le cx (pc2 := 28) (tgt := 34) ⟨(by first | assumption | omega), (by first | assumption | omega)⟩ dX12_nextLine_25 (by decide) rfl (fun h_5 => ?_) (fun h_5 => ?_)
        · skip
          exact L34  (by first | exact Or.inl (by omega) | exact Or.inr ⟨by omega, by omega⟩)
        · skip
          refine g_iinc cx (pc2 := 31) 1 rfl (lv2 := [(0, .ref 77), (1, .int (iI (i + (-1))))]) rfl (Nat.le_of_ble_eq_true rfl) dX12_nextLine_28 rfl ?_
          refine g_goto cx (tgt := 7) dX12_nextLine_31 (by decide) ?_
          exact ih7 (((i + (-1)) + 2).toNat) (by omega) (i + (-1)) (by first | assumption | omega) (by intro j h1 h2; rcases (show i < (j : Int) ∨ j = i.toNat by omega) with q | q; exact hd j q h2; (subst q; rw [show i.toNat + 1 = (i + 1).toNat by omega]; omega)) (Nat.le_refl _)
  exact L7 _ ((m : Int) - 2) (by first | assumption | omega) (by intro j h1 h2; omega) (Nat.le_refl _)
set_option maxHeartbeats 4000000 in
set_option maxRecDepth 100000 in
theorem c_X12_layFirst {n : Nat} (hn : NN n) {M : Mm} (hV : RV M) (s : Int) (hs : SX M s) : CT yX12_layFirst cX12_layFirst 3 (some .boolean) ({ frames := 4, cells := 0, slots := 0, locals := 94 }) n [.ref 77, .int (iI s)] M (pI (fun z M2 => LFX M s.toNat z M2)) := by
  refine CT.of (lv0 := [(0, .ref 77), (1, .int (iI s))]) (by decide +kernel) hn (fun _ => rfl) (fun _ => Nat.le_of_ble_eq_true rfl) (fun X cx cs qx => ?_)
  have cx : Cx X cX12_layFirst RX12 ({ frames := 4, cells := 0, slots := 0, locals := 94 }) 3 n := cx
  have hv1 := hV.1
  have hfb := fX_255 hV
  refine g_aload_n cx (pc2 := 1) 0 rfl dX12_layFirst_0 rfl ?_
  refine g_iload_n cx (pc2 := 2) 1 rfl dX12_layFirst_1 rfl ?_
  refine g_callV cx (pc2 := 5) (st := []) (As := [.int (iI s)]) (k0 := 77) (ci := 12) (c_X12_firstLine (M := M) hn (by first | exact hVU | exact hV) s (by omega)) wM_X12_firstLine wV_X12_firstLine kl_X12_259 rfl (lt_lit hn (Nat.le_of_ble_eq_true rfl)) rfl ⟨rfl, rfl, Nat.le_of_ble_eq_true rfl, Nat.le_of_ble_eq_true rfl⟩ (Nat.le_of_ble_eq_true rfl) cs rfl rfl dX12_layFirst_2 rfl ?_
  rintro _ M_1 ⟨rfl, h_1⟩
  have hFL := h_1
  obtain ⟨tl, htl⟩ := pmM_head M s.toNat
  refine g_iconst cx (pc2 := 6) dX12_layFirst_5 rfl ?_
  refine g_istore_n cx (pc2 := 7) (lv2 := [(0, .ref 77), (1, .int (iI s)), (2, .int (iI 1))]) rfl (Nat.le_of_ble_eq_true rfl) dX12_layFirst_6 rfl ?_
  have L7 : ∀ (fu : Nat) (mo : Int) (w : Nat) (U : Mm), (mo = 0 ∨ mo = 1) → (LFI M s.toNat mo w U) → (if mo = 0 then 0 else w + 1) ≤ fu → G X 7 [(0, .ref 77), (1, .int (iI s)), (2, .int (iI mo))] [] U := by
    intro fu
    induction fu using Nat.strongRecOn with
    | _ fu ih7 =>
      intro mo w U hmo hI hk7
      skip
      refine g_iload_n cx (pc2 := 8) 2 rfl dX12_layFirst_7 rfl ?_
      refine g_if_eq cx (pc2 := 11) (tgt := 32) (by first | assumption | omega) dX12_layFirst_8 (by decide) rfl (fun h_2 => ?_) (fun h_2 => ?_)
      · skip
        obtain ⟨hF, hI2⟩ := hI
        have hI3 := hI2.resolve_left (fun q => by have := q.1; omega)
        refine g_iconst cx (pc2 := 33) dX12_layFirst_32 rfl ?_
        exact g_zret cx (Or.inl rfl) qx dX12_layFirst_33 ⟨_, rfl, by exact ⟨hF, Or.inr ⟨rfl, hI3.2⟩⟩⟩
      · skip
        obtain ⟨hF, hI2⟩ := hI
        have hI3 := hI2.resolve_right (fun q => by have := q.1; omega)
        obtain ⟨-, pre, cur, rest, hp1, hp2, hp3, hp4⟩ := hI3
        have hcm := pmM_ok hv1.2.1 (s := s.toNat) (L := cur) (by rw [hp1]; simp)
        have hVU := hF.V hV
        have eJ := hF.j
        have eS := hF.s
        have hvl : ∀ k : Nat, k < cur.length → 0 ≤ U 89 k ∧ U 89 k < 8 := fun k hk => by have q := hcm.2.1 (U 89 k) (by have q0 := sgL_in (U 89) (m := cur.length) (a := 0) (j := k) (by omega) (by omega); rw [hp3.2] at q0; exact q0); omega
        have hU23 := hp3.1
        refine g_aload_n cx (pc2 := 12) 0 rfl dX12_layFirst_11 rfl ?_
        refine g_callV cx (pc2 := 15) (st := []) (As := []) (k0 := 77) (ci := 12) (c_X12_does (M := U) hn (by first | exact hVU | exact hV) (by first | exact hLD | (refine ⟨by omega, fun k hk => hvl k (by omega)⟩))) wM_X12_does wV_X12_does kl_X12_226 rfl (lt_lit hn (Nat.le_of_ble_eq_true rfl)) rfl ⟨rfl, rfl, Nat.le_of_ble_eq_true rfl, Nat.le_of_ble_eq_true rfl⟩ (Nat.le_of_ble_eq_true rfl) cs rfl rfl dX12_layFirst_12 rfl ?_
        rintro _ M_3 ⟨z_3, rfl, h_3⟩
        have hD := h_3
        have hDF := F3.DS hD
        have hLD := hp3.DS hD
        have hzD := hD.1
        rw [eJ, eS] at hzD
        have hfe : feL (jbR M) (sP M) cur = (doF (jbR M) (lnF U) (sP M) cur.length).2.2 := feL_do hp3.2
        have hzi : z_3 = U 77 23 ↔ feL (jbR M) (sP M) cur = true := by rw [hfe, hzD, hU23, show ((cur.length : Int)).toNat = cur.length from rfl]; exact doN_iff
        have hznb := doN_b (jbR M) (lnF U) (sP M) (U 77 23).toNat
        rw [← hzD] at hznb
        have e23 := hD.2.2.2.2 23 (by decide)
        refine g_aload_n cx (pc2 := 16) 0 rfl dX12_layFirst_15 rfl ?_
        refine g_get cx (pc2 := 19) (ci := 12) (k0 := 77) (j := 23) (v := .int (iI (M_3 77 23))) rfl iwX12 rfl (lt_lit hn (Nat.le_of_ble_eq_true rfl)) rfl (Nat.le_of_ble_eq_true rfl) kf_X12_217 rfl rfl dX12_layFirst_16 rfl ?_
        refine g_rwi (y := iI (U 77 23)) (congrArg iI e23) ?_
        refine g_icmp_ne cx (pc2 := 22) (tgt := 24) ⟨(by first | assumption | omega), (by first | assumption | omega)⟩ dX12_layFirst_19 (by decide) rfl (fun h_4 => ?_) (fun h_4 => ?_)
        · skip
          have hfe1 := fun q => h_4 (hzi.mpr q)
          refine g_aload_n cx (pc2 := 25) 0 rfl dX12_layFirst_24 rfl ?_
          refine g_callV cx (pc2 := 28) (st := []) (As := []) (k0 := 77) (ci := 12) (c_X12_nextLine (M := M_3) hn cur (by first | exact hLD | (refine ⟨by omega, fun k hk => hvl k (by omega)⟩)) (by exact hcm.2.2) (by exact hcm.1) (by exact fun x hx => by have := hcm.2.1 x hx; omega)) wM_X12_nextLine wV_X12_nextLine kl_X12_262 rfl (lt_lit hn (Nat.le_of_ble_eq_true rfl)) rfl ⟨rfl, rfl, Nat.le_of_ble_eq_true rfl, Nat.le_of_ble_eq_true rfl⟩ (Nat.le_of_ble_eq_true rfl) cs rfl rfl dX12_layFirst_25 rfl ?_
          rintro _ M_5 ⟨z_5, rfl, h_5⟩
          have hN := h_5
          have zN : z_5 = 0 ∨ z_5 = 1 := by rcases h_5 with q | q; exact Or.inl q.1; exact Or.inr q.1
          refine g_istore_n cx (pc2 := 29) (lv2 := [(0, .ref 77), (1, .int (iI s)), (2, .int (iI z_5))]) rfl (Nat.le_of_ble_eq_true rfl) dX12_layFirst_28 rfl ?_
          refine g_goto cx (tgt := 7) dX12_layFirst_29 (by decide) ?_
          exact ih7 (if z_5 = 0 then 0 else (w - 1) + 1) (by have q9 := hk7; rw [if_neg (by assumption : ¬ mo = 0)] at q9; split <;> omega) z_5 (w - 1) M_5 (by first | assumption | omega) (by exact LFI_next hF hp1 hp2 hfe1 hp4 hDF hN) (Nat.le_refl _)
        · skip
          have hfe1 := hzi.mp h_4
          refine g_iconst cx (pc2 := 23) dX12_layFirst_22 rfl ?_
          exact g_zret cx (Or.inr rfl) qx dX12_layFirst_23 ⟨_, rfl, by refine ⟨hF.trans hDF, Or.inl ⟨rfl, pre, cur, rest, hp1, hp2, hfe1, hLD, fun k hk => ?_⟩⟩; rw [hD.2.2.1 k (by omega), hD.2.2.2.1 89 (by decide) (by decide), eJ, eS]; rfl⟩
  exact L7 _ 1 ((pmM M s.toNat).length) M_1 (by first | assumption | omega) (by exact ⟨⟨fun a h1 h2 _ => hFL.1 a h1 h2, fun b h1 _ => hFL.2.1 b h1⟩, Or.inl ⟨rfl, [], _, tl, htl, fun L hL => absurd hL (by simp), hFL.2.2, by rw [htl]; rfl⟩⟩) (Nat.le_refl _)
set_option maxHeartbeats 4000000 in
set_option maxRecDepth 100000 in
theorem c_X12_lineToRow {n : Nat} (hn : NN n) {M : Mm} (r : Int) (hr : R6 r) (hln : 0 ≤ M 77 23 ∧ M 77 23 ≤ 8) : CT yX12_lineToRow cX12_lineToRow 3 none ({ frames := 0, cells := 0, slots := 0, locals := 0 }) n [.ref 77, .int (iI r)] M (rV (lrM M r)) := by
  refine CT.of (lv0 := [(0, .ref 77), (1, .int (iI r))]) (by decide +kernel) hn (fun _ => rfl) (fun _ => Nat.le_of_ble_eq_true rfl) (fun X cx cs qx => ?_)
  have cx : Cx X cX12_lineToRow RX12 ({ frames := 0, cells := 0, slots := 0, locals := 0 }) 3 n := cx
  refine g_aload_n cx (pc2 := 1) 0 rfl dX12_lineToRow_0 rfl ?_
  refine g_get cx (pc2 := 4) (ci := 12) (k0 := 77) (j := 5) (v := .ref 79) rfl iwX12 rfl (lt_lit hn (Nat.le_of_ble_eq_true rfl)) rfl (Nat.le_of_ble_eq_true rfl) kf_X12_13 rfl rfl dX12_lineToRow_1 rfl ?_
  refine g_iload_n cx (pc2 := 5) 1 rfl dX12_lineToRow_4 rfl ?_
  refine g_aload_n cx (pc2 := 6) 0 rfl dX12_lineToRow_5 rfl ?_
  refine g_get cx (pc2 := 9) (ci := 12) (k0 := 77) (j := 23) (v := .int (iI (M 77 23))) rfl iwX12 rfl (lt_lit hn (Nat.le_of_ble_eq_true rfl)) rfl (Nat.le_of_ble_eq_true rfl) kf_X12_217 rfl rfl dX12_lineToRow_6 rfl ?_
  refine g_iast cx (pc2 := 10) (k0 := 79) rfl (lt_lit hn (Nat.le_of_ble_eq_true rfl)) (by first | assumption | omega) (by first | assumption | omega) (Nat.le_of_ble_eq_true rfl) dX12_lineToRow_9 rfl ?_
  refine g_iconst cx (pc2 := 11) dX12_lineToRow_10 rfl ?_
  refine g_istore_n cx (pc2 := 12) (lv2 := [(0, .ref 77), (1, .int (iI r)), (2, .int (iI 0))]) rfl (Nat.le_of_ble_eq_true rfl) dX12_lineToRow_11 rfl ?_
  have L12 : ∀ (fu : Nat) (i : Int), (0 ≤ i ∧ i ≤ 60) → (60 - i).toNat ≤ fu → G X 12 [(0, .ref 77), (1, .int (iI r)), (2, .int (iI i))] [] (lrP M r i) := by
    intro fu
    induction fu using Nat.strongRecOn with
    | _ fu ih12 =>
      intro i hi hk12
      refine g_iload_n cx (pc2 := 13) 2 rfl dX12_lineToRow_12 rfl ?_
      refine g_bipush cx (pc2 := 15) ⟨by decide, by decide⟩ dX12_lineToRow_13 rfl ?_
      refine g_icmp_ge cx (pc2 := 18) (tgt := 53) ⟨(by first | assumption | omega), ⟨by decide, by decide⟩⟩ dX12_lineToRow_15 (by decide) rfl (fun h_1 => ?_) (fun h_1 => ?_)
      · skip
        exact g_vret cx qx dX12_lineToRow_53 ⟨rfl, by rw [show i = 60 by omega]; rfl⟩
      · skip
        have L46 : ∀ (x : Int), (x = if i < M 77 23 then M 89 i.toNat else 0) → G X 46 [(0, .ref 77), (1, .int (iI r)), (2, .int (iI i))] [.int (iI x), .int (iI (60 * r + i)), .ref 80] (lrP M r i) := by
          intro x hx
          refine g_iast cx (pc2 := 47) (k0 := 80) rfl (lt_lit hn (Nat.le_of_ble_eq_true rfl)) (by first | assumption | omega) (by first | assumption | omega) (Nat.le_of_ble_eq_true rfl) dX12_lineToRow_46 rfl ?_
          refine g_iinc cx (pc2 := 50) 2 rfl (lv2 := [(0, .ref 77), (1, .int (iI r)), (2, .int (iI (i + 1)))]) rfl (Nat.le_of_ble_eq_true rfl) dX12_lineToRow_47 rfl ?_
          refine g_goto cx (tgt := 12) dX12_lineToRow_50 (by decide) ?_
          refine g_M (M2 := (lrP M r (i + 1))) (by rw [hx]; exact lrP_s (by omega) hi.1) ?_
          exact ih12 ((60 - (i + 1)).toNat) (by omega) (i + 1) (by first | assumption | omega) (Nat.le_refl _)
        refine g_aload_n cx (pc2 := 19) 0 rfl dX12_lineToRow_18 rfl ?_
        refine g_get cx (pc2 := 22) (ci := 12) (k0 := 77) (j := 6) (v := .ref 80) rfl iwX12 rfl (lt_lit hn (Nat.le_of_ble_eq_true rfl)) rfl (Nat.le_of_ble_eq_true rfl) kf_X12_16 rfl rfl dX12_lineToRow_19 rfl ?_
        refine g_bipush cx (pc2 := 24) ⟨by decide, by decide⟩ dX12_lineToRow_22 rfl ?_
        refine g_iload_n cx (pc2 := 25) 1 rfl dX12_lineToRow_24 rfl ?_
        refine g_imul cx (pc2 := 26) dX12_lineToRow_25 rfl ?_
        refine g_iload_n cx (pc2 := 27) 2 rfl dX12_lineToRow_26 rfl ?_
        refine g_iadd cx (pc2 := 28) dX12_lineToRow_27 rfl ?_
        refine g_iload_n cx (pc2 := 29) 2 rfl dX12_lineToRow_28 rfl ?_
        refine g_aload_n cx (pc2 := 30) 0 rfl dX12_lineToRow_29 rfl ?_
        refine g_get cx (pc2 := 33) (ci := 12) (k0 := 77) (j := 23) (v := .int (iI ((lrP M r i) 77 23))) rfl iwX12 rfl (lt_lit hn (Nat.le_of_ble_eq_true rfl)) rfl (Nat.le_of_ble_eq_true rfl) kf_X12_217 rfl rfl dX12_lineToRow_30 rfl ?_
        refine g_rwi (y := iI (M 77 23)) (congrArg iI (by show lrP M r i 77 23 = _; unfold lrP; rw [if_neg (by omega), if_neg (by omega)])) ?_
        refine g_icmp_ge cx (pc2 := 36) (tgt := 45) ⟨(by first | assumption | omega), (by first | assumption | omega)⟩ dX12_lineToRow_33 (by decide) rfl (fun h_2 => ?_) (fun h_2 => ?_)
        · skip
          refine g_iconst cx (pc2 := 46) dX12_lineToRow_45 rfl ?_
          exact L46 0 (by first | (rw [if_pos (by omega)]; done) | (rw [if_neg (by omega)]; done))
        · skip
          refine g_aload_n cx (pc2 := 37) 0 rfl dX12_lineToRow_36 rfl ?_
          refine g_get cx (pc2 := 40) (ci := 12) (k0 := 77) (j := 22) (v := .ref 89) rfl iwX12 rfl (lt_lit hn (Nat.le_of_ble_eq_true rfl)) rfl (Nat.le_of_ble_eq_true rfl) kf_X12_44 rfl rfl dX12_lineToRow_37 rfl ?_
          refine g_iload_n cx (pc2 := 41) 2 rfl dX12_lineToRow_40 rfl ?_
          refine g_iald cx (pc2 := 42) (k0 := 89) rfl (lt_lit hn (Nat.le_of_ble_eq_true rfl)) (by first | assumption | omega) (by first | assumption | omega) (Nat.le_of_ble_eq_true rfl) dX12_lineToRow_41 rfl ?_
          refine g_rwi (y := iI ((lrP M r i) 89 ((i).toNat))) (congrArg iI (by simp [stM])) ?_
          refine g_rwi (y := iI (M 89 i.toNat)) (congrArg iI (by show lrP M r i 89 i.toNat = _; unfold lrP; rw [if_neg (by omega), if_neg (by omega)])) ?_
          refine g_goto cx (tgt := 46) dX12_lineToRow_42 (by decide) ?_
          exact L46 (M 89 i.toNat) (by first | (rw [if_pos (by omega)]; done) | (rw [if_neg (by omega)]; done))
  refine g_M (M2 := (lrP M r 0)) (by exact lrP_0 M r) ?_
  exact L12 _ 0 (by first | assumption | omega) (Nat.le_refl _)
set_option maxHeartbeats 4000000 in
set_option maxRecDepth 100000 in
theorem c_X12_first {n : Nat} (hn : NN n) {M : Mm} (hV : RV M) (s r : Int) (hs : ir s) (hr : ir r) : CT yX12_first cX12_first 3 (some .int) ({ frames := 5, cells := 0, slots := 0, locals := 116 }) n [.ref 77, .int (iI s), .int (iI r)] M (pI (fun z M2 => xfiR M s r z M2)) := by
  refine CT.of (lv0 := [(0, .ref 77), (1, .int (iI s)), (2, .int (iI r))]) (by decide +kernel) hn (fun _ => rfl) (fun _ => Nat.le_of_ble_eq_true rfl) (fun X cx cs qx => ?_)
  have cx : Cx X cX12_first RX12 ({ frames := 5, cells := 0, slots := 0, locals := 116 }) 3 n := cx
  have hv1 := hV.1
  refine g_aload_n cx (pc2 := 1) 0 rfl dX12_first_0 rfl ?_
  refine g_iload_n cx (pc2 := 2) 1 rfl dX12_first_1 rfl ?_
  refine g_callV cx (pc2 := 5) (st := []) (As := [.int (iI s)]) (k0 := 77) (ci := 12) (c_X12_isSet (M := M) hn (by exact hV) s (by assumption)) wM_X12_isSet wV_X12_isSet kl_X12_239 rfl (lt_lit hn (Nat.le_of_ble_eq_true rfl)) rfl ⟨rfl, rfl, Nat.le_of_ble_eq_true rfl, Nat.le_of_ble_eq_true rfl⟩ (Nat.le_of_ble_eq_true rfl) cs rfl rfl dX12_first_2 rfl ?_
  rintro _ _ ⟨rfl, rfl⟩
  refine g_ifb_eq cx (pc2 := 8) (tgt := 15) dX12_first_5 (by decide) rfl (fun h_1 => ?_) (fun h_1 => ?_)
  · skip
    refine g_iconst cx (pc2 := 16) dX12_first_15 rfl ?_
    exact g_iret cx qx dX12_first_16 ⟨_, rfl, by exact Or.inl ⟨by first | exact Or.inl (by assumption) | exact Or.inr (by assumption), rfl, rfl⟩⟩
  · skip
    refine g_iload_n cx (pc2 := 9) 2 rfl dX12_first_8 rfl ?_
    refine g_callS cx (pc2 := 12) (st := []) (As := [.int (iI r)]) (c_X12_isRow (M := M) hn r (by first | assumption | omega)) wM_X12_isRow wS_X12_isRow kl_X12_107 ⟨rfl, rfl, Nat.le_of_ble_eq_true rfl, Nat.le_of_ble_eq_true rfl⟩ (Nat.le_of_ble_eq_true rfl) cs rfl rfl dX12_first_9 rfl ?_
    rintro _ _ ⟨rfl, rfl⟩
    refine g_ifb_ne cx (pc2 := 15) (tgt := 17) dX12_first_12 (by decide) rfl (fun h_2 => ?_) (fun h_2 => ?_)
    · skip
      refine g_aload_n cx (pc2 := 18) 0 rfl dX12_first_17 rfl ?_
      refine g_iload_n cx (pc2 := 19) 1 rfl dX12_first_18 rfl ?_
      refine g_callV cx (pc2 := 22) (st := []) (As := [.int (iI s)]) (k0 := 77) (ci := 12) (c_X12_layFirst (M := M) hn (by exact hV) s (by assumption)) wM_X12_layFirst wV_X12_layFirst kl_X12_266 rfl (lt_lit hn (Nat.le_of_ble_eq_true rfl)) rfl ⟨rfl, rfl, Nat.le_of_ble_eq_true rfl, Nat.le_of_ble_eq_true rfl⟩ (Nat.le_of_ble_eq_true rfl) cs rfl rfl dX12_first_19 rfl ?_
      rintro _ M_3 ⟨z_3, rfl, h_3⟩
      have h19 := h_3
      have z19 : z_3 = 0 ∨ z_3 = 1 := by rcases h_3.2 with q | q; exact Or.inr q.1; exact Or.inl q.1
      refine g_if_ne cx (pc2 := 25) (tgt := 28) (by first | assumption | omega) dX12_first_22 (by decide) rfl (fun h_4 => ?_) (fun h_4 => ?_)
      · skip
        have h1 : LFX M s.toNat 1 M_3 := by rcases z19 with q | q; omega; (rw [q] at h19; exact h19)
        have hln : 0 ≤ M_3 77 23 ∧ M_3 77 23 ≤ 8 := by rcases h1.2 with q | q; (obtain ⟨-, pre, cur, rest, hp1, -, -, hp4, -⟩ := q; have hcm := pmM_ok hv1.2.1 (s := s.toNat) (L := cur) (by rw [hp1]; simp); have := hp4.1; omega); (have := q.1; omega)
        refine g_aload_n cx (pc2 := 29) 0 rfl dX12_first_28 rfl ?_
        refine g_iload_n cx (pc2 := 30) 2 rfl dX12_first_29 rfl ?_
        refine g_callV cx (pc2 := 33) (st := []) (As := [.int (iI r)]) (k0 := 77) (ci := 12) (c_X12_lineToRow (M := M_3) hn r (by first | assumption | omega) (by first | assumption | omega)) wM_X12_lineToRow wV_X12_lineToRow kl_X12_269 rfl (lt_lit hn (Nat.le_of_ble_eq_true rfl)) rfl ⟨rfl, rfl, Nat.le_of_ble_eq_true rfl, Nat.le_of_ble_eq_true rfl⟩ (Nat.le_of_ble_eq_true rfl) cs rfl rfl dX12_first_30 rfl ?_
        rintro _ _ ⟨rfl, rfl⟩
        refine g_iconst cx (pc2 := 34) dX12_first_33 rfl ?_
        exact g_iret cx qx dX12_first_34 ⟨_, rfl, by exact Or.inr (Or.inr ⟨⟨by assumption, by assumption⟩, rfl, _, h1, rfl⟩)⟩
      · skip
        refine g_bipush cx (pc2 := 27) ⟨by decide, by decide⟩ dX12_first_25 rfl ?_
        exact g_iret cx qx dX12_first_27 ⟨_, rfl, by refine Or.inr (Or.inl ⟨⟨by assumption, by assumption⟩, rfl, ?_⟩); rcases z19 with q | q; (rw [q] at h19; exact h19); omega⟩
    · skip
      refine g_iconst cx (pc2 := 16) dX12_first_15 rfl ?_
      exact g_iret cx qx dX12_first_16 ⟨_, rfl, by exact Or.inl ⟨by first | exact Or.inl (by assumption) | exact Or.inr (by assumption), rfl, rfl⟩⟩
set_option maxHeartbeats 4000000 in
set_option maxRecDepth 100000 in
theorem c_X12_orders {n : Nat} (hn : NN n) {M : Mm} (hV : RV M) (s : Int) (hs : ir s) : CT yX12_orders cX12_orders 4 (some .int) ({ frames := 4, cells := 0, slots := 0, locals := 94 }) n [.ref 77, .int (iI s)] M (pI (fun z M2 => xodR M s z M2)) := by
  refine CT.of (lv0 := [(0, .ref 77), (1, .int (iI s))]) (by decide +kernel) hn (fun _ => rfl) (fun _ => Nat.le_of_ble_eq_true rfl) (fun X cx cs qx => ?_)
  have cx : Cx X cX12_orders RX12 ({ frames := 4, cells := 0, slots := 0, locals := 94 }) 4 n := cx
  have hv1 := hV.1
  have hfb := fX_255 hV
  refine g_aload_n cx (pc2 := 1) 0 rfl dX12_orders_0 rfl ?_
  refine g_iload_n cx (pc2 := 2) 1 rfl dX12_orders_1 rfl ?_
  refine g_callV cx (pc2 := 5) (st := []) (As := [.int (iI s)]) (k0 := 77) (ci := 12) (c_X12_isSet (M := M) hn (by first | exact hVU | exact hV) s (by first | assumption | omega)) wM_X12_isSet wV_X12_isSet kl_X12_239 rfl (lt_lit hn (Nat.le_of_ble_eq_true rfl)) rfl ⟨rfl, rfl, Nat.le_of_ble_eq_true rfl, Nat.le_of_ble_eq_true rfl⟩ (Nat.le_of_ble_eq_true rfl) cs rfl rfl dX12_orders_2 rfl ?_
  rintro _ _ ⟨rfl, rfl⟩
  refine g_ifb_ne cx (pc2 := 8) (tgt := 10) dX12_orders_5 (by decide) rfl (fun h_1 => ?_) (fun h_1 => ?_)
  · skip
    have hSX : SX M s := h_1
    refine g_aload_n cx (pc2 := 11) 0 rfl dX12_orders_10 rfl ?_
    refine g_iload_n cx (pc2 := 12) 1 rfl dX12_orders_11 rfl ?_
    refine g_callV cx (pc2 := 15) (st := []) (As := [.int (iI s)]) (k0 := 77) (ci := 12) (c_X12_firstLine (M := M) hn (by first | exact hVU | exact hV) s (by first | assumption | omega)) wM_X12_firstLine wV_X12_firstLine kl_X12_259 rfl (lt_lit hn (Nat.le_of_ble_eq_true rfl)) rfl ⟨rfl, rfl, Nat.le_of_ble_eq_true rfl, Nat.le_of_ble_eq_true rfl⟩ (Nat.le_of_ble_eq_true rfl) cs rfl rfl dX12_orders_12 rfl ?_
    rintro _ M_2 ⟨rfl, h_2⟩
    have hFL := h_2
    obtain ⟨tl, htl⟩ := pmM_head M s.toNat
    refine g_iconst cx (pc2 := 16) dX12_orders_15 rfl ?_
    refine g_istore_n cx (pc2 := 17) (lv2 := [(0, .ref 77), (1, .int (iI s)), (2, .int (iI 0))]) rfl (Nat.le_of_ble_eq_true rfl) dX12_orders_16 rfl ?_
    refine g_iconst cx (pc2 := 18) dX12_orders_17 rfl ?_
    refine g_istore_n cx (pc2 := 19) (lv2 := [(0, .ref 77), (1, .int (iI s)), (2, .int (iI 0)), (3, .int (iI 1))]) rfl (Nat.le_of_ble_eq_true rfl) dX12_orders_18 rfl ?_
    have L19 : ∀ (fu : Nat) (mo : Int) (c : Int) (w : Nat) (U : Mm), (mo = 0 ∨ mo = 1) → (OCI M s.toNat mo c w U) → (if mo = 0 then 0 else w + 1) ≤ fu → G X 19 [(0, .ref 77), (1, .int (iI s)), (2, .int (iI c)), (3, .int (iI mo))] [] U := by
      intro fu
      induction fu using Nat.strongRecOn with
      | _ fu ih19 =>
        intro mo c w U hmo hI hk19
        skip
        refine g_iload_n cx (pc2 := 20) 3 rfl dX12_orders_19 rfl ?_
        refine g_if_eq cx (pc2 := 23) (tgt := 50) (by first | assumption | omega) dX12_orders_20 (by decide) rfl (fun h_3 => ?_) (fun h_3 => ?_)
        · skip
          obtain ⟨hF, hI2⟩ := hI
          have hI3 := hI2.resolve_left (fun q => by have := q.1; omega)
          refine g_iload_n cx (pc2 := 51) 2 rfl dX12_orders_50 rfl ?_
          exact g_iret cx qx dX12_orders_51 ⟨_, rfl, by exact Or.inr ⟨hSX, hF, hI3.2⟩⟩
        · skip
          obtain ⟨hF, hI2⟩ := hI
          have hI3 := hI2.resolve_right (fun q => by have := q.1; omega)
          obtain ⟨-, pre, cur, rest, hp1, hp2, hp3, hp4⟩ := hI3
          have hcm := pmM_ok hv1.2.1 (s := s.toNat) (L := cur) (by rw [hp1]; simp)
          have hVU := hF.V hV
          have eJ := hF.j
          have eS := hF.s
          have hvl : ∀ k : Nat, k < cur.length → 0 ≤ U 89 k ∧ U 89 k < 8 := fun k hk => by have q := hcm.2.1 (U 89 k) (by have q0 := sgL_in (U 89) (m := cur.length) (a := 0) (j := k) (by omega) (by omega); rw [hp3.2] at q0; exact q0); omega
          have hU23 := hp3.1
          refine g_iload_n cx (pc2 := 24) 2 rfl dX12_orders_23 rfl ?_
          refine g_aload_n cx (pc2 := 25) 0 rfl dX12_orders_24 rfl ?_
          refine g_callV cx (pc2 := 28) (st := [.int (iI c)]) (As := []) (k0 := 77) (ci := 12) (c_X12_does (M := U) hn (by first | exact hVU | exact hV) (by first | exact hLD | (refine ⟨by omega, fun k hk => hvl k (by omega)⟩))) wM_X12_does wV_X12_does kl_X12_226 rfl (lt_lit hn (Nat.le_of_ble_eq_true rfl)) rfl ⟨rfl, rfl, Nat.le_of_ble_eq_true rfl, Nat.le_of_ble_eq_true rfl⟩ (Nat.le_of_ble_eq_true rfl) cs rfl rfl dX12_orders_25 rfl ?_
          rintro _ M_4 ⟨z_4, rfl, h_4⟩
          have hD := h_4
          have hDF := F3.DS hD
          have hLD := hp3.DS hD
          have hzD := hD.1
          rw [eJ, eS] at hzD
          have hfe : feL (jbR M) (sP M) cur = (doF (jbR M) (lnF U) (sP M) cur.length).2.2 := feL_do hp3.2
          have hzi : z_4 = U 77 23 ↔ feL (jbR M) (sP M) cur = true := by rw [hfe, hzD, hU23, show ((cur.length : Int)).toNat = cur.length from rfl]; exact doN_iff
          have hznb := doN_b (jbR M) (lnF U) (sP M) (U 77 23).toNat
          rw [← hzD] at hznb
          have e23 := hD.2.2.2.2 23 (by decide)
          obtain ⟨T, hT⟩ : ∃ T, T = M_4 := ⟨_, rfl⟩
          rw [← hT] at hD hDF hLD e23
          have L40 : ∀ (y : Int), (y = if feL (jbR M) (sP M) cur = true then 1 else 0) → G X 40 [(0, .ref 77), (1, .int (iI s))] [.int (iI y), .int (iI c)] T := by
            intro y hy
            refine g_iadd cx (pc2 := 41) dX12_orders_40 rfl ?_
            refine g_istore_n cx (pc2 := 42) (lv2 := [(0, .ref 77), (1, .int (iI s)), (2, .int (iI (c + y)))]) rfl (Nat.le_of_ble_eq_true rfl) dX12_orders_41 rfl ?_
            refine g_aload_n cx (pc2 := 43) 0 rfl dX12_orders_42 rfl ?_
            refine g_callV cx (pc2 := 46) (st := []) (As := []) (k0 := 77) (ci := 12) (c_X12_nextLine (M := T) hn cur (by first | exact hLD | (refine ⟨by omega, fun k hk => hvl k (by omega)⟩)) (by exact hcm.2.2) (by exact hcm.1) (by exact fun x hx => by have := hcm.2.1 x hx; omega)) wM_X12_nextLine wV_X12_nextLine kl_X12_262 rfl (lt_lit hn (Nat.le_of_ble_eq_true rfl)) rfl ⟨rfl, rfl, Nat.le_of_ble_eq_true rfl, Nat.le_of_ble_eq_true rfl⟩ (Nat.le_of_ble_eq_true rfl) cs rfl rfl dX12_orders_43 rfl ?_
            rintro _ M_5 ⟨z_5, rfl, h_5⟩
            have hN := h_5
            have zN : z_5 = 0 ∨ z_5 = 1 := by rcases h_5 with q | q; exact Or.inl q.1; exact Or.inr q.1
            refine g_istore_n cx (pc2 := 47) (lv2 := [(0, .ref 77), (1, .int (iI s)), (2, .int (iI (c + y))), (3, .int (iI z_5))]) rfl (Nat.le_of_ble_eq_true rfl) dX12_orders_46 rfl ?_
            refine g_goto cx (tgt := 19) dX12_orders_47 (by decide) ?_
            exact ih19 (if z_5 = 0 then 0 else (w - 1) + 1) (by have q9 := hk19; rw [if_neg (by assumption : ¬ mo = 0)] at q9; split <;> omega) z_5 (c + y) (w - 1) M_5 (by first | assumption | omega) (by rw [hy]; exact OCI_next hF hp1 hp2 hp4 hDF hN) (Nat.le_refl _)
          refine g_M (M2 := T) (by exact hT.symm) ?_
          refine g_aload_n cx (pc2 := 29) 0 rfl dX12_orders_28 rfl ?_
          refine g_get cx (pc2 := 32) (ci := 12) (k0 := 77) (j := 23) (v := .int (iI (T 77 23))) rfl iwX12 rfl (lt_lit hn (Nat.le_of_ble_eq_true rfl)) rfl (Nat.le_of_ble_eq_true rfl) kf_X12_217 rfl rfl dX12_orders_29 rfl ?_
          refine g_rwi (y := iI (U 77 23)) (congrArg iI e23) ?_
          refine g_icmp_ne cx (pc2 := 35) (tgt := 39) ⟨(by first | assumption | omega), (by first | assumption | omega)⟩ dX12_orders_32 (by decide) rfl (fun h_6 => ?_) (fun h_6 => ?_)
          · skip
            have hfe1 := fun q => h_6 (hzi.mpr q)
            refine g_iconst cx (pc2 := 40) dX12_orders_39 rfl ?_
            refine g_sub (lv2 := [(0, .ref 77), (1, .int (iI s))]) [0, 1] rfl ?_
            exact L40 0 (by first | (rw [if_pos hfe1]; done) | (rw [if_neg hfe1]; done))
          · skip
            have hfe1 := hzi.mp h_6
            refine g_iconst cx (pc2 := 36) dX12_orders_35 rfl ?_
            refine g_goto cx (tgt := 40) dX12_orders_36 (by decide) ?_
            refine g_sub (lv2 := [(0, .ref 77), (1, .int (iI s))]) [0, 1] rfl ?_
            exact L40 1 (by first | (rw [if_pos hfe1]; done) | (rw [if_neg hfe1]; done))
    exact L19 _ 1 0 ((pmM M s.toNat).length) M_2 (by first | assumption | omega) (by exact ⟨⟨fun a h1 h2 _ => hFL.1 a h1 h2, fun b h1 _ => hFL.2.1 b h1⟩, Or.inl ⟨rfl, [], _, tl, htl, rfl, hFL.2.2, by rw [htl]; rfl⟩⟩) (Nat.le_refl _)
  · skip
    refine g_iconst cx (pc2 := 9) dX12_orders_8 rfl ?_
    exact g_iret cx qx dX12_orders_9 ⟨_, rfl, by exact Or.inl ⟨by assumption, rfl, rfl⟩⟩
set_option maxHeartbeats 4000000 in
set_option maxRecDepth 100000 in
theorem c_X12_worn {n : Nat} (hn : NN n) {M : Mm} (hV : RV M) (s : Int) (hs : ir s) : CT yX12_worn cX12_worn 4 (some .int) ({ frames := 5, cells := 0, slots := 0, locals := 116 }) n [.ref 77, .int (iI s)] M (pI (fun z M2 => xwoR M s z M2)) := by
  refine CT.of (lv0 := [(0, .ref 77), (1, .int (iI s))]) (by decide +kernel) hn (fun _ => rfl) (fun _ => Nat.le_of_ble_eq_true rfl) (fun X cx cs qx => ?_)
  have cx : Cx X cX12_worn RX12 ({ frames := 5, cells := 0, slots := 0, locals := 116 }) 4 n := cx
  have hv1 := hV.1
  have hfb := fX_255 hV
  have hJo := jbR_ok hV
  have hsp := hV.2.1 (M 77 15).toNat (by omega)
  refine g_aload_n cx (pc2 := 1) 0 rfl dX12_worn_0 rfl ?_
  refine g_iload_n cx (pc2 := 2) 1 rfl dX12_worn_1 rfl ?_
  refine g_callV cx (pc2 := 5) (st := []) (As := [.int (iI s)]) (k0 := 77) (ci := 12) (c_X12_isSet (M := M) hn (by exact hV) s (by assumption)) wM_X12_isSet wV_X12_isSet kl_X12_239 rfl (lt_lit hn (Nat.le_of_ble_eq_true rfl)) rfl ⟨rfl, rfl, Nat.le_of_ble_eq_true rfl, Nat.le_of_ble_eq_true rfl⟩ (Nat.le_of_ble_eq_true rfl) cs rfl rfl dX12_worn_2 rfl ?_
  rintro _ _ ⟨rfl, rfl⟩
  refine g_ifb_ne cx (pc2 := 8) (tgt := 10) dX12_worn_5 (by decide) rfl (fun h_1 => ?_) (fun h_1 => ?_)
  · skip
    refine g_aload_n cx (pc2 := 11) 0 rfl dX12_worn_10 rfl ?_
    refine g_iload_n cx (pc2 := 12) 1 rfl dX12_worn_11 rfl ?_
    refine g_callV cx (pc2 := 15) (st := []) (As := [.int (iI s)]) (k0 := 77) (ci := 12) (c_X12_layFirst (M := M) hn (by exact hV) s (by assumption)) wM_X12_layFirst wV_X12_layFirst kl_X12_266 rfl (lt_lit hn (Nat.le_of_ble_eq_true rfl)) rfl ⟨rfl, rfl, Nat.le_of_ble_eq_true rfl, Nat.le_of_ble_eq_true rfl⟩ (Nat.le_of_ble_eq_true rfl) cs rfl rfl dX12_worn_12 rfl ?_
    rintro _ M_2 ⟨z_2, rfl, h_2⟩
    have h12 := h_2
    have z12 : z_2 = 0 ∨ z_2 = 1 := by rcases h_2.2 with q | q; exact Or.inr q.1; exact Or.inl q.1
    obtain ⟨T, hT⟩ : ∃ T, T = M_2 := ⟨_, rfl⟩
    rw [← hT] at h12
    refine g_M (M2 := T) (by exact hT.symm) ?_
    refine g_if_ne cx (pc2 := 18) (tgt := 21) (by first | assumption | omega) dX12_worn_15 (by decide) rfl (fun h_3 => ?_) (fun h_3 => ?_)
    · skip
      have h1 : LFX M s.toNat 1 T := by rcases z12 with q | q; omega; (rw [q] at h12; exact h12)
      have hI3 := h1.2.resolve_right (fun q => by have := q.1; omega)
      obtain ⟨-, pre, cur, rest, hp1, -, hfe, hp4, hbg⟩ := hI3
      have hcm := pmM_ok hv1.2.1 (s := s.toNat) (L := cur) (by rw [hp1]; simp)
      have hT23 := hp4.1
      have hvl : ∀ k : Nat, k < cur.length → 0 ≤ T 89 k ∧ T 89 k < 8 := fun k hk => by have q := hcm.2.1 (T 89 k) (by have q0 := sgL_in (T 89) (m := cur.length) (a := 0) (j := k) (by omega) (by omega); rw [hp4.2] at q0; exact q0); omega
      have hok : (doF (jbR M) (T 89) (sP M) cur.length).2.2 = true := by rw [← feL_do hp4.2]; exact hfe
      have hwx := fun (k : Nat) (hk : k < cur.length) => wxB (l := T 89) (p := sP M) hJo hsp hvl hok hk
      have e85 := h1.1.1 85 (by decide) (by decide) (by decide)
      have hc8 := hcm.2.2
      refine g_iconst cx (pc2 := 22) dX12_worn_21 rfl ?_
      refine g_istore_n cx (pc2 := 23) (lv2 := [(0, .ref 77), (1, .int (iI s)), (2, .int (iI 0))]) rfl (Nat.le_of_ble_eq_true rfl) dX12_worn_22 rfl ?_
      refine g_iconst cx (pc2 := 24) dX12_worn_23 rfl ?_
      refine g_istore_n cx (pc2 := 25) (lv2 := [(0, .ref 77), (1, .int (iI s)), (2, .int (iI 0)), (3, .int (iI 0))]) rfl (Nat.le_of_ble_eq_true rfl) dX12_worn_24 rfl ?_
      have L25 : ∀ (fu : Nat) (k : Int) (w : Int), (0 ≤ k ∧ k ≤ T 77 23) → (w = ((wxF (jbR M) (T 89) (sP M) k.toNat : Nat) : Int)) → (T 77 23 - k).toNat ≤ fu → G X 25 [(0, .ref 77), (1, .int (iI s)), (2, .int (iI w)), (3, .int (iI k))] [] T := by
        intro fu
        induction fu using Nat.strongRecOn with
        | _ fu ih25 =>
          intro k w hk hw hk25
          have hvk := hvl k.toNat
          have hwk := hwx k.toNat
          have hbk := hbg k.toNat
          have hwb := wxF_b hJo hvl hwx k.toNat (by omega)
          refine g_iload_n cx (pc2 := 26) 3 rfl dX12_worn_25 rfl ?_
          refine g_aload_n cx (pc2 := 27) 0 rfl dX12_worn_26 rfl ?_
          refine g_get cx (pc2 := 30) (ci := 12) (k0 := 77) (j := 23) (v := .int (iI (T 77 23))) rfl iwX12 rfl (lt_lit hn (Nat.le_of_ble_eq_true rfl)) rfl (Nat.le_of_ble_eq_true rfl) kf_X12_217 rfl rfl dX12_worn_27 rfl ?_
          refine g_icmp_ge cx (pc2 := 33) (tgt := 64) ⟨(by first | assumption | omega), (by first | assumption | omega)⟩ dX12_worn_30 (by decide) rfl (fun h_4 => ?_) (fun h_4 => ?_)
          · skip
            refine g_iload_n cx (pc2 := 65) 2 rfl dX12_worn_64 rfl ?_
            exact g_iret cx qx dX12_worn_65 ⟨_, rfl, by refine Or.inr (Or.inr ⟨by assumption, h1, ?_⟩); rw [hw, show k = T 77 23 by omega]⟩
          · skip
            have hvk1 := hvk (by omega)
            have hwk1 := hwk (by omega)
            have hbk1 := hbk (by omega)
            have hj3 : jbR M (T 89 k.toNat).toNat 3 = nA M (T 89 k.toNat) 4 := by show nA M (((T 89 k.toNat).toNat : Nat) : Int) 4 = _; rw [Int.toNat_of_nonneg hvk1.1]
            have hnb := nA_b hV (i := T 89 k.toNat) hvk1
            have hp0 := Nat.two_pow_pos (nA M (T 89 k.toNat) 4).toNat
            have hpl : (2 ^ (nA M (T 89 k.toNat) 4).toNat - 1) * 2 ^ (doB (jbR M) (T 89) (sP M) k.toNat).toNat < 2 ^ 28 := by have h4 : 2 ^ (nA M (T 89 k.toNat) 4).toNat * 2 ^ (doB (jbR M) (T 89) (sP M) k.toNat).toNat ≤ 2 ^ 28 := (by rw [← Nat.pow_add]; exact Nat.pow_le_pow_right (by decide) (by omega)); have h5 : 0 < 2 ^ (doB (jbR M) (T 89) (sP M) k.toNat).toNat := Nat.two_pow_pos _; rw [Nat.sub_mul]; omega
            have hp1 : ((2 ^ (nA M (T 89 k.toNat) 4).toNat : Nat) : Int) - 1 = ((2 ^ (nA M (T 89 k.toNat) 4).toNat - 1 : Nat) : Int) := by omega
            refine g_iload_n cx (pc2 := 34) 2 rfl dX12_worn_33 rfl ?_
            refine g_iconst cx (pc2 := 35) dX12_worn_34 rfl ?_
            refine g_aload_n cx (pc2 := 36) 0 rfl dX12_worn_35 rfl ?_
            refine g_aload_n cx (pc2 := 37) 0 rfl dX12_worn_36 rfl ?_
            refine g_get cx (pc2 := 40) (ci := 12) (k0 := 77) (j := 22) (v := .ref 89) rfl iwX12 rfl (lt_lit hn (Nat.le_of_ble_eq_true rfl)) rfl (Nat.le_of_ble_eq_true rfl) kf_X12_44 rfl rfl dX12_worn_37 rfl ?_
            refine g_iload_n cx (pc2 := 41) 3 rfl dX12_worn_40 rfl ?_
            refine g_iald cx (pc2 := 42) (k0 := 89) rfl (lt_lit hn (Nat.le_of_ble_eq_true rfl)) (by first | assumption | omega) (by first | assumption | omega) (Nat.le_of_ble_eq_true rfl) dX12_worn_41 rfl ?_
            refine g_rwi (y := iI (T 89 ((k).toNat))) (congrArg iI (by simp [stM])) ?_
            refine g_iconst cx (pc2 := 43) dX12_worn_42 rfl ?_
            refine g_callV cx (pc2 := 46) (st := [.int (iI 1), .int (iI w)]) (As := [.int (iI (T 89 ((k).toNat))), .int (iI 4)]) (k0 := 77) (ci := 12) (c_X12_needAt (M := T) hn (T 89 ((k).toNat)) 4 (by first | assumption | omega) (by first | assumption | omega)) wM_X12_needAt wV_X12_needAt kl_X12_195 rfl (lt_lit hn (Nat.le_of_ble_eq_true rfl)) rfl ⟨rfl, rfl, Nat.le_of_ble_eq_true rfl, Nat.le_of_ble_eq_true rfl⟩ (Nat.le_of_ble_eq_true rfl) cs rfl rfl dX12_worn_43 rfl ?_
            rintro _ _ ⟨rfl, rfl⟩
            refine g_rwi (y := iI (nA M (T 89 k.toNat) 4)) (congrArg iI (nA_off e85 _ _)) ?_
            refine g_ishl cx (pc2 := 47) dX12_worn_46 rfl ?_
            refine g_rwi (y := iI ((2 ^ (nA M (T 89 k.toNat) 4).toNat : Nat) : Int)) (sh1 (by omega) (by omega)) ?_
            refine g_iconst cx (pc2 := 48) dX12_worn_47 rfl ?_
            refine g_isub cx (pc2 := 49) dX12_worn_48 rfl ?_
            refine g_rwi (y := iI ((2 ^ (nA M (T 89 k.toNat) 4).toNat - 1 : Nat) : Int)) (congrArg iI hp1) ?_
            refine g_aload_n cx (pc2 := 50) 0 rfl dX12_worn_49 rfl ?_
            refine g_get cx (pc2 := 53) (ci := 12) (k0 := 77) (j := 24) (v := .ref 90) rfl iwX12 rfl (lt_lit hn (Nat.le_of_ble_eq_true rfl)) rfl (Nat.le_of_ble_eq_true rfl) kf_X12_47 rfl rfl dX12_worn_50 rfl ?_
            refine g_iload_n cx (pc2 := 54) 3 rfl dX12_worn_53 rfl ?_
            refine g_iald cx (pc2 := 55) (k0 := 90) rfl (lt_lit hn (Nat.le_of_ble_eq_true rfl)) (by first | assumption | omega) (by first | assumption | omega) (Nat.le_of_ble_eq_true rfl) dX12_worn_54 rfl ?_
            refine g_rwi (y := iI (T 90 ((k).toNat))) (congrArg iI (by simp [stM])) ?_
            refine g_rwi (y := iI (doB (jbR M) (T 89) (sP M) k.toNat)) (congrArg iI hbk1) ?_
            refine g_ishl cx (pc2 := 56) dX12_worn_55 rfl ?_
            refine g_rwi (y := iI (((2 ^ (nA M (T 89 k.toNat) 4).toNat - 1) * 2 ^ (doB (jbR M) (T 89) (sP M) k.toNat).toNat : Nat) : Int)) (shl_iI (Int.natCast_nonneg _) (by omega) (by omega) (by rw [Int.toNat_natCast]; omega)) ?_
            refine g_ior cx (pc2 := 57) dX12_worn_56 rfl ?_
            refine g_rwi (y := iI ((w.toNat ||| ((2 ^ (nA M (T 89 k.toNat) 4).toNat - 1) * 2 ^ (doB (jbR M) (T 89) (sP M) k.toNat).toNat) : Nat) : Int)) (or_iI (by omega) (Int.natCast_nonneg _)) ?_
            refine g_istore_n cx (pc2 := 58) (lv2 := [(0, .ref 77), (1, .int (iI s)), (2, .int (iI ((w.toNat ||| ((2 ^ (nA M (T 89 k.toNat) 4).toNat - 1) * 2 ^ (doB (jbR M) (T 89) (sP M) k.toNat).toNat) : Nat) : Int))), (3, .int (iI k))]) rfl (Nat.le_of_ble_eq_true rfl) dX12_worn_57 rfl ?_
            refine g_iinc cx (pc2 := 61) 3 rfl (lv2 := [(0, .ref 77), (1, .int (iI s)), (2, .int (iI ((w.toNat ||| ((2 ^ (nA M (T 89 k.toNat) 4).toNat - 1) * 2 ^ (doB (jbR M) (T 89) (sP M) k.toNat).toNat) : Nat) : Int))), (3, .int (iI (k + 1)))]) rfl (Nat.le_of_ble_eq_true rfl) dX12_worn_58 rfl ?_
            refine g_goto cx (tgt := 25) dX12_worn_61 (by decide) ?_
            exact ih25 ((T 77 23 - (k + 1)).toNat) (by omega) (k + 1) ((w.toNat ||| ((2 ^ (nA M (T 89 k.toNat) 4).toNat - 1) * 2 ^ (doB (jbR M) (T 89) (sP M) k.toNat).toNat) : Nat) : Int) (by first | assumption | omega) (by rw [hw, Int.toNat_natCast, show (k + 1).toNat = k.toNat + 1 by omega, wxF, hj3]) (Nat.le_refl _)
      exact L25 _ 0 0 (by omega) (by rfl) (Nat.le_refl _)
    · skip
      refine g_bipush cx (pc2 := 20) ⟨by decide, by decide⟩ dX12_worn_18 rfl ?_
      exact g_iret cx qx dX12_worn_20 ⟨_, rfl, by refine Or.inr (Or.inl ⟨by assumption, rfl, ?_⟩); rcases z12 with q | q; (rw [q] at h12; exact h12); omega⟩
  · skip
    refine g_iconst cx (pc2 := 9) dX12_worn_8 rfl ?_
    exact g_iret cx qx dX12_worn_9 ⟨_, rfl, by exact Or.inl ⟨by assumption, rfl, rfl⟩⟩
