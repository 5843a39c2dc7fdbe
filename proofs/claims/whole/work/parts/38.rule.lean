/-- how a need stands by a letter, the coat being at a place -/
def rkX (M : Mm) (l i p : Int) : Int := if l = 0 then -(nA M i 5) else if l = 1 then nA M i 3 else if l = 2 then nA M i 4 else if l = 3 then wap p (M 84 (nA M i 1).toNat) else if isAK (nA M i 0) 1 then 0 else 1
theorem rkX_b {M : Mm} (hV : RV M) {l i p : Int} (hi : 0 ≤ i ∧ i < 8) (hp : 0 ≤ p ∧ p ≤ 15) : -100 ≤ rkX M l i p ∧ rkX M l i p ≤ 100 := by
  have h1 := nA_b hV hi
  have h2 := wap_b hp (hV.2.1 (nA M i 1).toNat (by omega))
  unfold rkX
  (repeat' split) <;> omega
def axF (M : Mm) (ls : Nat → Int) (i k p : Int) : Nat → Nat → Bool
  | 0, _ => decide (i < k)
  | f + 1, l => if rkX M (ls l) i p = rkX M (ls l) k p then axF M ls i k p f (l + 1) else decide (rkX M (ls l) i p < rkX M (ls l) k p)
def axX (M : Mm) (ls : Nat → Int) (q : Nat) (i k p : Int) : Bool := axF M ls i k p q 0
/-- the next one by a rule -/
def nyF (M : Mm) (ls : Nat → Int) (q : Nat) (p f : Int) (met : Nat) : Nat → Int
  | 0 => -9
  | i + 1 => if (¬ met.testBit i = true ∧ ¬ bnB (jbR M) i p f = -9) ∧ (nyF M ls q p f met i = -9 ∨ axX M ls q (i : Int) (nyF M ls q p f met i) p = true) then (i : Int) else nyF M ls q p f met i
def nyX (M : Mm) (ls : Nat → Int) (q : Nat) (p f : Int) (met : Nat) : Int := nyF M ls q p f met (M 77 12).toNat
theorem nyF_b (M : Mm) (ls : Nat → Int) (q : Nat) (p f : Int) (met : Nat) : ∀ i : Nat, nyF M ls q p f met i = -9 ∨ (0 ≤ nyF M ls q p f met i ∧ nyF M ls q p f met i < (i : Int) ∧ ¬ met.testBit (nyF M ls q p f met i).toNat = true ∧ ¬ bnB (jbR M) (nyF M ls q p f met i).toNat p f = -9)
  | 0 => Or.inl rfl
  | i + 1 => by
    have h := nyF_b M ls q p f met i
    rw [nyF]
    split
    · rename_i z
      exact Or.inr ⟨by omega, by omega, by simpa using z.1.1, by simpa using z.1.2⟩
    · rcases h with h | h
      · exact Or.inl h
      · exact Or.inr ⟨h.1, by omega, h.2.2⟩
/-- a rule's way: place, free, met, the line -/
def rsS (M : Mm) (ls : Nat → Int) (q : Nat) (s : Int × Int × Nat × List Int) : Int × Int × Nat × List Int := if nyX M ls q s.1 s.2.1 s.2.2.1 = -9 then s else (jbR M (nyX M ls q s.1 s.2.1 s.2.2.1).toNat 0, enB (jbR M) (nyX M ls q s.1 s.2.1 s.2.2.1).toNat s.1 s.2.1, s.2.2.1 ||| 2 ^ (nyX M ls q s.1 s.2.1 s.2.2.1).toNat, s.2.2.2 ++ [nyX M ls q s.1 s.2.1 s.2.2.1])
def rsF (M : Mm) (ls : Nat → Int) (q : Nat) : Nat → Int × Int × Nat × List Int
  | 0 => (sP M, 0, 0, [])
  | k + 1 => rsS M ls q (rsF M ls q k)
theorem rsF_fix {M : Mm} {ls : Nat → Int} {q : Nat} {k : Nat} (h : nyX M ls q (rsF M ls q k).1 (rsF M ls q k).2.1 (rsF M ls q k).2.2.1 = -9) : ∀ j, rsF M ls q (k + j) = rsF M ls q k
  | 0 => rfl
  | j + 1 => by
    rw [← Nat.add_assoc, rsF, rsF_fix h j]
    unfold rsS
    rw [if_pos h]
theorem pop_add : ∀ s : Nat, s < 256 → ∀ i : Nat, i < 8 → s.testBit i = false → popZ (s ||| 2 ^ i) = popZ s + 1 ∧ s < s ||| 2 ^ i ∧ s ||| 2 ^ i < 256 := by decide +kernel
def RUX (M : Mm) (z : Int) (M2 : Mm) : Prop := F3 M M2 ∧ z = wsB (jbR M) (M 77 12).toNat (rsF M (M 93) (M 77 29).toNat 8).2.2.1 ∧ LN M2 (rsF M (M 93) (M 77 29).toNat 8).2.2.2 ∧ (rsF M (M 93) (M 77 29).toNat 8).2.2.2.length ≤ 8
abbrev vRX (M : Mm) (t : Int) : Prop := (1 ≤ M 82 t.toNat ∧ M 82 t.toNat ≤ 4) ∧ ∀ j : Nat, (j : Int) < M 82 t.toNat → ¬ ltO (M 83 (120 * t.toNat + j)) = -9
def ltP (M : Mm) (t i : Int) : Mm := fun a b => if a = 93 ∧ (b : Int) < i then ltO (M 83 (120 * t.toNat + b)) else M a b
theorem ltP_0 (M : Mm) (t : Int) : M = ltP M t 0 := by
  funext a b
  unfold ltP
  rw [if_neg (by omega)]
theorem ltP_s {M : Mm} {t i : Int} (h : 0 ≤ i) : stM (ltP M t i) 93 i.toNat (ltO (M 83 (120 * t.toNat + i.toNat))) = ltP M t (i + 1) := by
  funext a b
  unfold stM ltP
  by_cases hb : a = 93 ∧ b = i.toNat
  · rw [if_pos hb, if_pos (by omega), hb.2]
  · rw [if_neg hb]
    by_cases h2 : a = 93 ∧ (b : Int) < i
    · rw [if_pos h2, if_pos (by omega)]
    · rw [if_neg h2, if_neg (by omega)]
theorem ltP_off (M : Mm) (t i : Int) {a : Nat} (h : a ≠ 93) : ltP M t i a = M a := by
  funext b
  unfold ltP
  rw [if_neg (fun q => h q.1)]
def rdT (M : Mm) (t : Int) : Mm := stM (ltP M t (M 82 t.toNat)) 77 29 (M 82 t.toNat)
def xruR (M : Mm) (t r z : Int) (M2 : Mm) : Prop := ((¬ T4 t ∨ ¬ R6 r) ∧ z = -1 ∧ M2 = M) ∨ ((T4 t ∧ R6 r) ∧ M 82 t.toNat < 0 ∧ z = -3 ∧ M2 = mtM M 1) ∨ ((T4 t ∧ R6 r) ∧ ¬ M 82 t.toNat < 0 ∧ ¬ vRX M t ∧ z = -4 ∧ ∀ a, a ≠ 93 → M2 a = M a) ∨ ((T4 t ∧ R6 r) ∧ ¬ M 82 t.toNat < 0 ∧ vRX M t ∧ ∃ W, RUX (rdT M t) z W ∧ M2 = lrM W r)
/-- codes of rules -/
def cdA (c : Int) : Int := if c < 5 then c else c.tdiv 5 - 1
def cdB (c : Int) : Int := c - c.tdiv 5 * 5
abbrev cdO (c : Int) : Prop := c < 5 ∨ ¬ cdA c = cdB c
def cdL (c : Int) : Nat → Int := fun j => if j = 0 then cdA c else cdB c
def cdQ (c : Int) : Nat := if c < 5 then 1 else 2
def cdV (M : Mm) (c : Int) : Int := wsB (jbR M) (M 77 12).toNat (rsF M (cdL c) (cdQ c) 8).2.2.1
def wuF (M : Mm) : Nat → Int × Int
  | 0 => (-9, 0)
  | k + 1 => if cdO (k : Int) then (if (wuF M k).1 = -9 ∨ (wuF M k).2 < cdV M (k : Int) then (k : Int) else (wuF M k).1, max (wuF M k).2 (cdV M (k : Int))) else wuF M k
def xwiR (M : Mm) (z : Int) (M2 : Mm) : Prop := z = (wuF M 30).1 ∧ ∃ T, (∀ a, a ≠ 77 → a ≠ 89 → a ≠ 90 → a ≠ 93 → T a = M a) ∧ (∀ b, b ≠ 23 → b ≠ 25 → b ≠ 29 → T 77 b = M 77 b) ∧ M2 = tlM T (wuF M 30).2
theorem axF_cong {M : Mm} {l1 l2 : Nat → Int} {i k p : Int} : ∀ {f l : Nat}, (∀ j, l ≤ j → j < l + f → l1 j = l2 j) → axF M l1 i k p f l = axF M l2 i k p f l
  | 0, _, _ => rfl
  | f + 1, l, h => by rw [axF, axF, h l (by omega) (by omega), axF_cong (fun j q1 q2 => h j (by omega) (by omega))]
theorem nyF_cong {M M2 : Mm} {l1 l2 : Nat → Int} {q : Nat} (h4 : M2 84 = M 84) (h5 : M2 85 = M 85) (h : ∀ j, j < q → l2 j = l1 j) (p f : Int) (met : Nat) : ∀ i, nyF M2 l2 q p f met i = nyF M l1 q p f met i
  | 0 => rfl
  | i + 1 => by
    have e : axX M2 l2 q = axX M l1 q := by
      funext a b c
      unfold axX
      rw [axF_cong (l2 := l1) (fun j _ hj => h j (by omega))]
      have : ∀ f l, axF M2 l1 a b c f l = axF M l1 a b c f l := by
        intro f
        induction f with
        | zero => intro l; rfl
        | succ f ih =>
          intro l
          have e2 : ∀ x, rkX M2 (l1 l) x c = rkX M (l1 l) x c := fun x => by unfold rkX nA; rw [h4, h5]
          rw [axF, axF, e2, e2, ih]
      exact this _ _
    rw [nyF, nyF, nyF_cong h4 h5 h p f met i, jbR_off h4 h5, e]
theorem rsF_cong {M M2 : Mm} {l1 l2 : Nat → Int} {q : Nat} (h4 : M2 84 = M 84) (h5 : M2 85 = M 85) (h12 : M2 77 12 = M 77 12) (h15 : M2 77 15 = M 77 15) (h : ∀ j, j < q → l2 j = l1 j) : ∀ k, rsF M2 l2 q k = rsF M l1 q k
  | 0 => by
    show (sP M2, (0 : Int), (0 : Nat), ([] : List Int)) = (sP M, 0, 0, [])
    unfold sP
    rw [h4, h15]
  | k + 1 => by
    rw [rsF, rsF, rsF_cong h4 h5 h12 h15 h k]
    unfold rsS nyX
    rw [h12, nyF_cong h4 h5 h, jbR_off h4 h5]
theorem sub_step : ∀ (x s q : Nat), x &&& s = x → q &&& s = q → q < x → q ≤ (x - 1) &&& s := by
  intro x
  induction x using Nat.strongRecOn with
  | _ x ih =>
    intro s q hx hq hlt
    have a1 : ((x - 1) &&& s) / 2 = (x - 1) / 2 &&& s / 2 := Nat.and_div_two
    have a2 : ((x - 1) &&& s) % 2 = 1 ↔ (x - 1) % 2 = 1 ∧ s % 2 = 1 := Nat.and_mod_two_eq_one
    have x1 : x / 2 &&& s / 2 = x / 2 := by rw [← Nat.and_div_two, hx]
    have q1 : q / 2 &&& s / 2 = q / 2 := by rw [← Nat.and_div_two, hq]
    have q2 : q % 2 = 1 → s % 2 = 1 := fun z => by
      rw [← hq] at z
      exact (Nat.and_mod_two_eq_one.mp z).2
    rcases (show x % 2 = 1 ∨ x % 2 = 0 by omega) with z | z
    · rw [show (x - 1) / 2 = x / 2 by omega, x1] at a1
      omega
    · have h3 := ih (x / 2) (by omega) (s / 2) (q / 2) x1 q1 (by omega)
      rw [show (x - 1) / 2 = x / 2 - 1 by omega] at a1
      rw [← a1] at h3
      omega
abbrev shP (M : Mm) (s : Nat) : Prop := ∃ q, q < 256 ∧ (q &&& s = q ∧ M 94 q < 1000 ∧ M 92 (ndN s q) < 1000)
/-- the best that can be shared among the first sets -/
def scF (J : Nat → Nat → Int) (n : Nat) (T : Mm) (mu : Nat) : Nat → Int
  | 0 => -9
  | s + 1 => if (s &&& mu = mu ∧ (scF J n T mu s = -9 ∨ wsB J n (scF J n T mu s).toNat < wsB J n s)) ∧ shP T s then (s : Int) else scF J n T mu s
theorem scF_v (J : Nat → Nat → Int) (n : Nat) (T : Mm) (mu : Nat) : ∀ k : Nat, scF J n T mu k = -9 ∨ (0 ≤ scF J n T mu k ∧ scF J n T mu k < (k : Int))
  | 0 => Or.inl rfl
  | k + 1 => by
    have h := scF_v J n T mu k
    have key : ∀ (p : Prop) [Decidable p], (if p then (k : Int) else scF J n T mu k) = -9 ∨ (0 ≤ (if p then (k : Int) else scF J n T mu k) ∧ (if p then (k : Int) else scF J n T mu k) < ((k + 1 : Nat) : Int)) := by
      intro p _
      split <;> omega
    exact key _
def fcP (T : Mm) (k : Int) : Mm := fun a b => if a = 94 ∧ (b : Int) < k then T 92 b else T a b
theorem fcP_0 (T : Mm) : T = fcP T 0 := by
  funext a b
  unfold fcP
  rw [if_neg (by omega)]
theorem fcP_s {T : Mm} {k : Int} (h : 0 ≤ k) : stM (fcP T k) 94 k.toNat (T 92 k.toNat) = fcP T (k + 1) := by
  funext a b
  unfold stM fcP
  by_cases hb : a = 94 ∧ b = k.toNat
  · rw [if_pos hb, if_pos (by omega), hb.2]
  · rw [if_neg hb]
    by_cases h2 : a = 94 ∧ (b : Int) < k
    · rw [if_pos h2, if_pos (by omega)]
    · rw [if_neg h2, if_neg (by omega)]
theorem fcP_off (T : Mm) (k : Int) {a : Nat} (h : a ≠ 94) : fcP T k a = T a := by
  funext b
  unfold fcP
  rw [if_neg (fun q => h q.1)]
def xscR (M : Mm) (h z : Int) (M2 : Mm) : Prop := (¬ HX M h ∧ z = -1 ∧ M2 = M) ∨ (HX M h ∧ ∃ T U, LX M (sP M) T ∧ LX (fcP T (((allN (M 77 12) : Nat) : Int) + 1)) (M 84 h.toNat) U ∧
  ((scF (jbR M) (M 77 12).toNat U (mKx M 1) (allN (M 77 12) + 1) = -9 ∧ z = -9 ∧ M2 = U) ∨ (¬ scF (jbR M) (M 77 12).toNat U (mKx M 1) (allN (M 77 12) + 1) = -9 ∧ z = wsB (jbR M) (M 77 12).toNat (scF (jbR M) (M 77 12).toNat U (mKx M 1) (allN (M 77 12) + 1)).toNat ∧ M2 = tlM U (z - (if boX M T (mKx M 1) 0 = -9 then 0 else wsB (jbR M) (M 77 12).toNat (boX M T (mKx M 1) 0).toNat)))))
theorem axX_off {M U : Mm} (h : F3 M U) {i k p : Int} : axX U (U 93) (U 77 29).toNat i k p = axX M (M 93) (M 77 29).toNat i k p := by
  rw [h.1 93 (by decide) (by decide) (by decide), h.2 29 (by decide) (by decide)]
  unfold axX
  have h4 := h.1 84 (by decide) (by decide) (by decide)
  have h5 := h.1 85 (by decide) (by decide) (by decide)
  have : ∀ f l, axF U (M 93) i k p f l = axF M (M 93) i k p f l := by
    intro f
    induction f with
    | zero => intro l; rfl
    | succ f ih =>
      intro l
      have e2 : ∀ x, rkX U (M 93 l) x p = rkX M (M 93 l) x p := fun x => by unfold rkX nA; rw [h4, h5]
      rw [axF, axF, e2, e2, ih]
  exact this _ _
theorem LN_snoc {U : Mm} {L : List Int} {y : Int} (h : LN U L) : LN (stM (stM U 89 (U 77 23).toNat y) 77 23 (U 77 23 + 1)) (L ++ [y]) := by
  have h1 := h.1
  refine ⟨?_, ?_⟩
  · rw [stM_at, List.length_append, h1]; simp
  · rw [List.length_append, List.length_singleton, sgL_snoc, stM_off (by decide), Nat.zero_add, show L.length = (U 77 23).toNat by omega, stM_at, sgL_cong (l2 := U 89) (fun j _ q => stM_ne _ _ (Or.inr (by omega))), show (U 77 23).toNat = L.length by omega, h.2]
theorem rdT_ir {M : Mm} {t : Int} (h : vRX M t) (h93 : ∀ j : Nat, j < 4 → ir (M 93 j)) (j : Nat) (hj : j < 4) : ir (rdT M t 93 j) := by
  show ir (stM (ltP M t (M 82 t.toNat)) 77 29 (M 82 t.toNat) 93 j)
  rw [stM_off (by decide)]
  unfold ltP
  split
  · have := ltO_b (M 83 (120 * t.toNat + j))
    exact ⟨by omega, by omega⟩
  · exact h93 j hj
theorem cd_b {c : Int} (h : 0 ≤ c ∧ c < 30) : (0 ≤ cdA c ∧ cdA c ≤ 4) ∧ (0 ≤ cdB c ∧ cdB c ≤ 4) := by
  have e : c.tdiv 5 = c / 5 := Int.tdiv_eq_ediv_of_nonneg h.1
  unfold cdA cdB
  rw [e]
  refine ⟨?_, by omega⟩
  split <;> omega
set_option maxHeartbeats 4000000 in
set_option maxRecDepth 100000 in
theorem c_X12_letterOf {n : Nat} (hn : NN n) {M : Mm} (b : Int) (hb : ir b) : CT yX12_letterOf cX12_letterOf 1 (some .int) ({ frames := 0, cells := 0, slots := 0, locals := 0 }) n [.int (iI b)] M (rI (ltO b) M) := by
  refine CT.of (lv0 := [(0, .int (iI b))]) (by decide +kernel) hn (fun _ => rfl) (fun _ => Nat.le_of_ble_eq_true rfl) (fun X cx cs qx => ?_)
  have cx : Cx X cX12_letterOf RX12 ({ frames := 0, cells := 0, slots := 0, locals := 0 }) 1 n := cx
  refine g_iload_n cx (pc2 := 1) 0 rfl dX12_letterOf_0 rfl ?_
  refine g_bipush cx (pc2 := 3) ⟨by decide, by decide⟩ dX12_letterOf_1 rfl ?_
  refine g_icmp_ne cx (pc2 := 6) (tgt := 10) ⟨(by first | assumption | omega), ⟨by decide, by decide⟩⟩ dX12_letterOf_3 (by decide) rfl (fun h_1 => ?_) (fun h_1 => ?_)
  · skip
    refine g_iload_n cx (pc2 := 11) 0 rfl dX12_letterOf_10 rfl ?_
    refine g_bipush cx (pc2 := 13) ⟨by decide, by decide⟩ dX12_letterOf_11 rfl ?_
    refine g_icmp_ne cx (pc2 := 16) (tgt := 20) ⟨(by first | assumption | omega), ⟨by decide, by decide⟩⟩ dX12_letterOf_13 (by decide) rfl (fun h_2 => ?_) (fun h_2 => ?_)
    · skip
      refine g_iload_n cx (pc2 := 21) 0 rfl dX12_letterOf_20 rfl ?_
      refine g_bipush cx (pc2 := 23) ⟨by decide, by decide⟩ dX12_letterOf_21 rfl ?_
      refine g_icmp_ne cx (pc2 := 26) (tgt := 30) ⟨(by first | assumption | omega), ⟨by decide, by decide⟩⟩ dX12_letterOf_23 (by decide) rfl (fun h_3 => ?_) (fun h_3 => ?_)
      · skip
        refine g_iload_n cx (pc2 := 31) 0 rfl dX12_letterOf_30 rfl ?_
        refine g_bipush cx (pc2 := 33) ⟨by decide, by decide⟩ dX12_letterOf_31 rfl ?_
        refine g_icmp_ne cx (pc2 := 36) (tgt := 40) ⟨(by first | assumption | omega), ⟨by decide, by decide⟩⟩ dX12_letterOf_33 (by decide) rfl (fun h_4 => ?_) (fun h_4 => ?_)
        · skip
          refine g_iload_n cx (pc2 := 41) 0 rfl dX12_letterOf_40 rfl ?_
          refine g_bipush cx (pc2 := 43) ⟨by decide, by decide⟩ dX12_letterOf_41 rfl ?_
          refine g_icmp_ne cx (pc2 := 46) (tgt := 50) ⟨(by first | assumption | omega), ⟨by decide, by decide⟩⟩ dX12_letterOf_43 (by decide) rfl (fun h_5 => ?_) (fun h_5 => ?_)
          · skip
            refine g_bipush cx (pc2 := 52) ⟨by decide, by decide⟩ dX12_letterOf_50 rfl ?_
            exact g_iret cx qx dX12_letterOf_52 ⟨congrArg (fun q => some (Value.int (iI q))) (by unfold ltO; (repeat (first | rw [if_pos (by first | assumption | omega)] | rw [if_neg (by first | assumption | exact not_not_intro (by assumption) | omega)])); first | done | rfl | (symm; assumption)), by rfl⟩
          · skip
            refine g_iconst cx (pc2 := 47) dX12_letterOf_46 rfl ?_
            refine g_goto cx (tgt := 52) dX12_letterOf_47 (by decide) ?_
            exact g_iret cx qx dX12_letterOf_52 ⟨congrArg (fun q => some (Value.int (iI q))) (by unfold ltO; (repeat (first | rw [if_pos (by first | assumption | omega)] | rw [if_neg (by first | assumption | exact not_not_intro (by assumption) | omega)])); first | done | rfl | (symm; assumption)), by rfl⟩
        · skip
          refine g_iconst cx (pc2 := 37) dX12_letterOf_36 rfl ?_
          refine g_goto cx (tgt := 52) dX12_letterOf_37 (by decide) ?_
          exact g_iret cx qx dX12_letterOf_52 ⟨congrArg (fun q => some (Value.int (iI q))) (by unfold ltO; (repeat (first | rw [if_pos (by first | assumption | omega)] | rw [if_neg (by first | assumption | exact not_not_intro (by assumption) | omega)])); first | done | rfl | (symm; assumption)), by rfl⟩
      · skip
        refine g_iconst cx (pc2 := 27) dX12_letterOf_26 rfl ?_
        refine g_goto cx (tgt := 52) dX12_letterOf_27 (by decide) ?_
        exact g_iret cx qx dX12_letterOf_52 ⟨congrArg (fun q => some (Value.int (iI q))) (by unfold ltO; (repeat (first | rw [if_pos (by first | assumption | omega)] | rw [if_neg (by first | assumption | exact not_not_intro (by assumption) | omega)])); first | done | rfl | (symm; assumption)), by rfl⟩
    · skip
      refine g_iconst cx (pc2 := 17) dX12_letterOf_16 rfl ?_
      refine g_goto cx (tgt := 52) dX12_letterOf_17 (by decide) ?_
      exact g_iret cx qx dX12_letterOf_52 ⟨congrArg (fun q => some (Value.int (iI q))) (by unfold ltO; (repeat (first | rw [if_pos (by first | assumption | omega)] | rw [if_neg (by first | assumption | exact not_not_intro (by assumption) | omega)])); first | done | rfl | (symm; assumption)), by rfl⟩
  · skip
    refine g_iconst cx (pc2 := 7) dX12_letterOf_6 rfl ?_
    refine g_goto cx (tgt := 52) dX12_letterOf_7 (by decide) ?_
    exact g_iret cx qx dX12_letterOf_52 ⟨congrArg (fun q => some (Value.int (iI q))) (by unfold ltO; (repeat (first | rw [if_pos (by first | assumption | omega)] | rw [if_neg (by first | assumption | exact not_not_intro (by assumption) | omega)])); first | done | rfl | (symm; assumption)), by rfl⟩
set_option maxHeartbeats 4000000 in
set_option maxRecDepth 100000 in
theorem c_X12_rankOf {n : Nat} (hn : NN n) {M : Mm} (hV : RV M) (l i h : Int) (hl : ir l) (hi : 0 ≤ i ∧ i < 8) (hh : 0 ≤ h ∧ h < 8) : CT yX12_rankOf cX12_rankOf 4 (some .int) ({ frames := 2, cells := 0, slots := 0, locals := 43 }) n [.ref 77, .int (iI l), .int (iI i), .int (iI h)] M (rI (rkX M l i (M 84 h.toNat)) M) := by
  refine CT.of (lv0 := [(0, .ref 77), (1, .int (iI l)), (2, .int (iI i)), (3, .int (iI h))]) (by decide +kernel) hn (fun _ => rfl) (fun _ => Nat.le_of_ble_eq_true rfl) (fun X cx cs qx => ?_)
  have cx : Cx X cX12_rankOf RX12 ({ frames := 2, cells := 0, slots := 0, locals := 43 }) 4 n := cx
  have hb := nA_b hV hi
  refine g_iload_n cx (pc2 := 1) 1 rfl dX12_rankOf_0 rfl ?_
  rcases (show (l < 0 ∨ 3 < l) ∨ l = 0 ∨ l = 1 ∨ l = 2 ∨ l = 3 from by omega) with h_1 | h_1 | h_1 | h_1 | h_1
  · skip
    refine g_swOut cx (tgt := 66) (by first | assumption | omega) dX12_rankOf_1 h_1 (by decide) ?_
    refine g_aload_n cx (pc2 := 67) 0 rfl dX12_rankOf_66 rfl ?_
    refine g_iload_n cx (pc2 := 68) 2 rfl dX12_rankOf_67 rfl ?_
    refine g_callV cx (pc2 := 71) (st := []) (As := [.int (iI i)]) (k0 := 77) (ci := 12) (c_X12_isMust (M := M) hn (by exact hV) i (by first | assumption | omega)) wM_X12_isMust wV_X12_isMust kl_X12_198 rfl (lt_lit hn (Nat.le_of_ble_eq_true rfl)) rfl ⟨rfl, rfl, Nat.le_of_ble_eq_true rfl, Nat.le_of_ble_eq_true rfl⟩ (Nat.le_of_ble_eq_true rfl) cs rfl rfl dX12_rankOf_68 rfl ?_
    rintro _ _ ⟨rfl, rfl⟩
    refine g_ifb_eq cx (pc2 := 74) (tgt := 78) dX12_rankOf_71 (by decide) rfl (fun h_2 => ?_) (fun h_2 => ?_)
    · skip
      refine g_iconst cx (pc2 := 79) dX12_rankOf_78 rfl ?_
      exact g_iret cx qx dX12_rankOf_79 ⟨congrArg (fun q => some (Value.int (iI q))) (by unfold rkX; (repeat (first | rw [if_pos (by first | assumption | omega)] | rw [if_neg (by first | assumption | exact not_not_intro (by assumption) | omega)])); first | done | rfl | (symm; assumption)), by rfl⟩
    · skip
      refine g_iconst cx (pc2 := 75) dX12_rankOf_74 rfl ?_
      refine g_goto cx (tgt := 79) dX12_rankOf_75 (by decide) ?_
      exact g_iret cx qx dX12_rankOf_79 ⟨congrArg (fun q => some (Value.int (iI q))) (by unfold rkX; (repeat (first | rw [if_pos (by first | assumption | omega)] | rw [if_neg (by first | assumption | exact not_not_intro (by assumption) | omega)])); first | done | rfl | (symm; assumption)), by rfl⟩
  · skip
    refine g_swIn cx (tgt := 32) (by first | assumption | omega) dX12_rankOf_1 (by omega) (by omega) (by rw [h_1]; rfl) (by decide) ?_
    refine g_aload_n cx (pc2 := 33) 0 rfl dX12_rankOf_32 rfl ?_
    refine g_iload_n cx (pc2 := 34) 2 rfl dX12_rankOf_33 rfl ?_
    refine g_iconst cx (pc2 := 35) dX12_rankOf_34 rfl ?_
    refine g_callV cx (pc2 := 38) (st := []) (As := [.int (iI i), .int (iI 5)]) (k0 := 77) (ci := 12) (c_X12_needAt (M := M) hn i 5 (by first | assumption | omega) (by omega)) wM_X12_needAt wV_X12_needAt kl_X12_195 rfl (lt_lit hn (Nat.le_of_ble_eq_true rfl)) rfl ⟨rfl, rfl, Nat.le_of_ble_eq_true rfl, Nat.le_of_ble_eq_true rfl⟩ (Nat.le_of_ble_eq_true rfl) cs rfl rfl dX12_rankOf_35 rfl ?_
    rintro _ _ ⟨rfl, rfl⟩
    refine g_ineg cx (pc2 := 39) dX12_rankOf_38 rfl ?_
    exact g_iret cx qx dX12_rankOf_39 ⟨congrArg (fun q => some (Value.int (iI q))) (by unfold rkX; (repeat (first | rw [if_pos (by first | assumption | omega)] | rw [if_neg (by first | assumption | exact not_not_intro (by assumption) | omega)])); first | done | rfl | (symm; assumption)), by rfl⟩
  · skip
    refine g_swIn cx (tgt := 40) (by first | assumption | omega) dX12_rankOf_1 (by omega) (by omega) (by rw [h_1]; rfl) (by decide) ?_
    refine g_aload_n cx (pc2 := 41) 0 rfl dX12_rankOf_40 rfl ?_
    refine g_iload_n cx (pc2 := 42) 2 rfl dX12_rankOf_41 rfl ?_
    refine g_iconst cx (pc2 := 43) dX12_rankOf_42 rfl ?_
    refine g_callV cx (pc2 := 46) (st := []) (As := [.int (iI i), .int (iI 3)]) (k0 := 77) (ci := 12) (c_X12_needAt (M := M) hn i 3 (by first | assumption | omega) (by omega)) wM_X12_needAt wV_X12_needAt kl_X12_195 rfl (lt_lit hn (Nat.le_of_ble_eq_true rfl)) rfl ⟨rfl, rfl, Nat.le_of_ble_eq_true rfl, Nat.le_of_ble_eq_true rfl⟩ (Nat.le_of_ble_eq_true rfl) cs rfl rfl dX12_rankOf_43 rfl ?_
    rintro _ _ ⟨rfl, rfl⟩
    exact g_iret cx qx dX12_rankOf_46 ⟨congrArg (fun q => some (Value.int (iI q))) (by unfold rkX; (repeat (first | rw [if_pos (by first | assumption | omega)] | rw [if_neg (by first | assumption | exact not_not_intro (by assumption) | omega)])); first | done | rfl | (symm; assumption)), by rfl⟩
  · skip
    refine g_swIn cx (tgt := 47) (by first | assumption | omega) dX12_rankOf_1 (by omega) (by omega) (by rw [h_1]; rfl) (by decide) ?_
    refine g_aload_n cx (pc2 := 48) 0 rfl dX12_rankOf_47 rfl ?_
    refine g_iload_n cx (pc2 := 49) 2 rfl dX12_rankOf_48 rfl ?_
    refine g_iconst cx (pc2 := 50) dX12_rankOf_49 rfl ?_
    refine g_callV cx (pc2 := 53) (st := []) (As := [.int (iI i), .int (iI 4)]) (k0 := 77) (ci := 12) (c_X12_needAt (M := M) hn i 4 (by first | assumption | omega) (by omega)) wM_X12_needAt wV_X12_needAt kl_X12_195 rfl (lt_lit hn (Nat.le_of_ble_eq_true rfl)) rfl ⟨rfl, rfl, Nat.le_of_ble_eq_true rfl, Nat.le_of_ble_eq_true rfl⟩ (Nat.le_of_ble_eq_true rfl) cs rfl rfl dX12_rankOf_50 rfl ?_
    rintro _ _ ⟨rfl, rfl⟩
    exact g_iret cx qx dX12_rankOf_53 ⟨congrArg (fun q => some (Value.int (iI q))) (by unfold rkX; (repeat (first | rw [if_pos (by first | assumption | omega)] | rw [if_neg (by first | assumption | exact not_not_intro (by assumption) | omega)])); first | done | rfl | (symm; assumption)), by rfl⟩
  · skip
    refine g_swIn cx (tgt := 54) (by first | assumption | omega) dX12_rankOf_1 (by omega) (by omega) (by rw [h_1]; rfl) (by decide) ?_
    refine g_aload_n cx (pc2 := 55) 0 rfl dX12_rankOf_54 rfl ?_
    refine g_iload_n cx (pc2 := 56) 3 rfl dX12_rankOf_55 rfl ?_
    refine g_aload_n cx (pc2 := 57) 0 rfl dX12_rankOf_56 rfl ?_
    refine g_iload_n cx (pc2 := 58) 2 rfl dX12_rankOf_57 rfl ?_
    refine g_iconst cx (pc2 := 59) dX12_rankOf_58 rfl ?_
    refine g_callV cx (pc2 := 62) (st := [.int (iI h), .ref 77]) (As := [.int (iI i), .int (iI 1)]) (k0 := 77) (ci := 12) (c_X12_needAt (M := M) hn i 1 (by first | assumption | omega) (by omega)) wM_X12_needAt wV_X12_needAt kl_X12_195 rfl (lt_lit hn (Nat.le_of_ble_eq_true rfl)) rfl ⟨rfl, rfl, Nat.le_of_ble_eq_true rfl, Nat.le_of_ble_eq_true rfl⟩ (Nat.le_of_ble_eq_true rfl) cs rfl rfl dX12_rankOf_59 rfl ?_
    rintro _ _ ⟨rfl, rfl⟩
    refine g_callV cx (pc2 := 65) (st := []) (As := [.int (iI h), .int (iI (nA M i 1))]) (k0 := 77) (ci := 12) (c_X12_carryOf (M := M) hn (by exact hV) h (nA M i 1) (by first | assumption | omega) (by omega)) wM_X12_carryOf wV_X12_carryOf kl_X12_204 rfl (lt_lit hn (Nat.le_of_ble_eq_true rfl)) rfl ⟨rfl, rfl, Nat.le_of_ble_eq_true rfl, Nat.le_of_ble_eq_true rfl⟩ (Nat.le_of_ble_eq_true rfl) cs rfl rfl dX12_rankOf_62 rfl ?_
    rintro _ _ ⟨rfl, rfl⟩
    exact g_iret cx qx dX12_rankOf_65 ⟨congrArg (fun q => some (Value.int (iI q))) (by unfold rkX; (repeat (first | rw [if_pos (by first | assumption | omega)] | rw [if_neg (by first | assumption | exact not_not_intro (by assumption) | omega)])); first | done | rfl | (symm; assumption)), by rfl⟩
set_option maxHeartbeats 4000000 in
set_option maxRecDepth 100000 in
theorem c_X12_isAhead {n : Nat} (hn : NN n) {M : Mm} (hV : RV M) (hq : (0 ≤ M 77 29 ∧ M 77 29 ≤ 4) ∧ ∀ j : Nat, j < 4 → ir (M 93 j)) (i k h : Int) (hi : 0 ≤ i ∧ i < 8) (hk : 0 ≤ k ∧ k < 8) (hh : 0 ≤ h ∧ h < 8) : CT yX12_isAhead cX12_isAhead 7 (some .boolean) ({ frames := 3, cells := 0, slots := 0, locals := 66 }) n [.ref 77, .int (iI i), .int (iI k), .int (iI h)] M (rI (b2 (axX M (M 93) (M 77 29).toNat i k (M 84 h.toNat) = true)) M) := by
  refine CT.of (lv0 := [(0, .ref 77), (1, .int (iI i)), (2, .int (iI k)), (3, .int (iI h))]) (by decide +kernel) hn (fun _ => rfl) (fun _ => Nat.le_of_ble_eq_true rfl) (fun X cx cs qx => ?_)
  have cx : Cx X cX12_isAhead RX12 ({ frames := 3, cells := 0, slots := 0, locals := 66 }) 7 n := cx
  have hph := hV.2.1 h.toNat (by omega)
  refine g_iconst cx (pc2 := 1) dX12_isAhead_0 rfl ?_
  refine g_istore cx (pc2 := 3) (lv2 := [(0, .ref 77), (1, .int (iI i)), (2, .int (iI k)), (3, .int (iI h)), (4, .int (iI 0))]) rfl (Nat.le_of_ble_eq_true rfl) dX12_isAhead_1 rfl ?_
  have L3 : ∀ (fu : Nat) (l : Int), (0 ≤ l ∧ l ≤ M 77 29) → (axX M (M 93) (M 77 29).toNat i k (M 84 h.toNat) = axF M (M 93) i k (M 84 h.toNat) (M 77 29 - l).toNat l.toNat) → (M 77 29 - l).toNat ≤ fu → G X 3 [(0, .ref 77), (1, .int (iI i)), (2, .int (iI k)), (3, .int (iI h)), (4, .int (iI l))] [] M := by
    intro fu
    induction fu using Nat.strongRecOn with
    | _ fu ih3 =>
      intro l hl hah hk3
      have hb1 := rkX_b hV (l := M 93 l.toNat) hi hph
      have hb2 := rkX_b hV (l := M 93 l.toNat) hk hph
      have hst : l < M 77 29 → axF M (M 93) i k (M 84 h.toNat) (M 77 29 - l).toNat l.toNat = if rkX M (M 93 l.toNat) i (M 84 h.toNat) = rkX M (M 93 l.toNat) k (M 84 h.toNat) then axF M (M 93) i k (M 84 h.toNat) (M 77 29 - (l + 1)).toNat (l.toNat + 1) else decide (rkX M (M 93 l.toNat) i (M 84 h.toNat) < rkX M (M 93 l.toNat) k (M 84 h.toNat)) := fun q => by rw [show (M 77 29 - l).toNat = (M 77 29 - (l + 1)).toNat + 1 by omega, axF]
      refine g_iload cx (pc2 := 5) 4 rfl dX12_isAhead_3 rfl ?_
      refine g_aload_n cx (pc2 := 6) 0 rfl dX12_isAhead_5 rfl ?_
      refine g_get cx (pc2 := 9) (ci := 12) (k0 := 77) (j := 29) (v := .int (iI (M 77 29))) rfl iwX12 rfl (lt_lit hn (Nat.le_of_ble_eq_true rfl)) rfl (Nat.le_of_ble_eq_true rfl) kf_X12_272 rfl rfl dX12_isAhead_6 rfl ?_
      refine g_icmp_ge cx (pc2 := 12) (tgt := 68) ⟨(by first | assumption | omega), (by first | assumption | omega)⟩ dX12_isAhead_9 (by decide) rfl (fun h_1 => ?_) (fun h_1 => ?_)
      · skip
        refine g_iload_n cx (pc2 := 69) 1 rfl dX12_isAhead_68 rfl ?_
        refine g_iload_n cx (pc2 := 70) 2 rfl dX12_isAhead_69 rfl ?_
        refine g_icmp_ge cx (pc2 := 73) (tgt := 77) ⟨(by first | assumption | omega), (by first | assumption | omega)⟩ dX12_isAhead_70 (by decide) rfl (fun h_2 => ?_) (fun h_2 => ?_)
        · skip
          refine g_iconst cx (pc2 := 78) dX12_isAhead_77 rfl ?_
          exact g_zret cx (Or.inl rfl) qx dX12_isAhead_78 ⟨rb_f (by rw [hah, show (M 77 29 - l).toNat = 0 by omega, axF]; first | exact decide_eq_true (by omega) | (rw [decide_eq_false (by omega)]; exact Bool.false_ne_true)), by rfl⟩
        · skip
          refine g_iconst cx (pc2 := 74) dX12_isAhead_73 rfl ?_
          refine g_goto cx (tgt := 78) dX12_isAhead_74 (by decide) ?_
          exact g_zret cx (Or.inr rfl) qx dX12_isAhead_78 ⟨rb_t (by rw [hah, show (M 77 29 - l).toNat = 0 by omega, axF]; first | exact decide_eq_true (by omega) | (rw [decide_eq_false (by omega)]; exact Bool.false_ne_true)), by rfl⟩
      · skip
        have hlr := hq.2 l.toNat (by omega)
        refine g_aload_n cx (pc2 := 13) 0 rfl dX12_isAhead_12 rfl ?_
        refine g_aload_n cx (pc2 := 14) 0 rfl dX12_isAhead_13 rfl ?_
        refine g_get cx (pc2 := 17) (ci := 12) (k0 := 77) (j := 28) (v := .ref 93) rfl iwX12 rfl (lt_lit hn (Nat.le_of_ble_eq_true rfl)) rfl (Nat.le_of_ble_eq_true rfl) kf_X12_56 rfl rfl dX12_isAhead_14 rfl ?_
        refine g_iload cx (pc2 := 19) 4 rfl dX12_isAhead_17 rfl ?_
        refine g_iald cx (pc2 := 20) (k0 := 93) rfl (lt_lit hn (Nat.le_of_ble_eq_true rfl)) (by first | assumption | omega) (by first | assumption | omega) (Nat.le_of_ble_eq_true rfl) dX12_isAhead_19 rfl ?_
        refine g_rwi (y := iI (M 93 ((l).toNat))) (congrArg iI (by simp [stM])) ?_
        refine g_iload_n cx (pc2 := 21) 1 rfl dX12_isAhead_20 rfl ?_
        refine g_iload_n cx (pc2 := 22) 3 rfl dX12_isAhead_21 rfl ?_
        refine g_callV cx (pc2 := 25) (st := []) (As := [.int (iI (M 93 ((l).toNat))), .int (iI i), .int (iI h)]) (k0 := 77) (ci := 12) (c_X12_rankOf (M := M) hn (by exact hV) (M 93 ((l).toNat)) i h (by exact hlr) (by first | assumption | omega) (by first | assumption | omega)) wM_X12_rankOf wV_X12_rankOf kl_X12_275 rfl (lt_lit hn (Nat.le_of_ble_eq_true rfl)) rfl ⟨rfl, rfl, Nat.le_of_ble_eq_true rfl, Nat.le_of_ble_eq_true rfl⟩ (Nat.le_of_ble_eq_true rfl) cs rfl rfl dX12_isAhead_22 rfl ?_
        rintro _ _ ⟨rfl, rfl⟩
        refine g_istore cx (pc2 := 27) (lv2 := [(0, .ref 77), (1, .int (iI i)), (2, .int (iI k)), (3, .int (iI h)), (4, .int (iI l)), (5, .int (iI (rkX M (M 93 ((l).toNat)) i (M 84 h.toNat))))]) rfl (Nat.le_of_ble_eq_true rfl) dX12_isAhead_25 rfl ?_
        refine g_aload_n cx (pc2 := 28) 0 rfl dX12_isAhead_27 rfl ?_
        refine g_aload_n cx (pc2 := 29) 0 rfl dX12_isAhead_28 rfl ?_
        refine g_get cx (pc2 := 32) (ci := 12) (k0 := 77) (j := 28) (v := .ref 93) rfl iwX12 rfl (lt_lit hn (Nat.le_of_ble_eq_true rfl)) rfl (Nat.le_of_ble_eq_true rfl) kf_X12_56 rfl rfl dX12_isAhead_29 rfl ?_
        refine g_iload cx (pc2 := 34) 4 rfl dX12_isAhead_32 rfl ?_
        refine g_iald cx (pc2 := 35) (k0 := 93) rfl (lt_lit hn (Nat.le_of_ble_eq_true rfl)) (by first | assumption | omega) (by first | assumption | omega) (Nat.le_of_ble_eq_true rfl) dX12_isAhead_34 rfl ?_
        refine g_rwi (y := iI (M 93 ((l).toNat))) (congrArg iI (by simp [stM])) ?_
        refine g_iload_n cx (pc2 := 36) 2 rfl dX12_isAhead_35 rfl ?_
        refine g_iload_n cx (pc2 := 37) 3 rfl dX12_isAhead_36 rfl ?_
        refine g_callV cx (pc2 := 40) (st := []) (As := [.int (iI (M 93 ((l).toNat))), .int (iI k), .int (iI h)]) (k0 := 77) (ci := 12) (c_X12_rankOf (M := M) hn (by exact hV) (M 93 ((l).toNat)) k h (by exact hlr) (by first | assumption | omega) (by first | assumption | omega)) wM_X12_rankOf wV_X12_rankOf kl_X12_275 rfl (lt_lit hn (Nat.le_of_ble_eq_true rfl)) rfl ⟨rfl, rfl, Nat.le_of_ble_eq_true rfl, Nat.le_of_ble_eq_true rfl⟩ (Nat.le_of_ble_eq_true rfl) cs rfl rfl dX12_isAhead_37 rfl ?_
        rintro _ _ ⟨rfl, rfl⟩
        refine g_istore cx (pc2 := 42) (lv2 := [(0, .ref 77), (1, .int (iI i)), (2, .int (iI k)), (3, .int (iI h)), (4, .int (iI l)), (5, .int (iI (rkX M (M 93 ((l).toNat)) i (M 84 h.toNat)))), (6, .int (iI (rkX M (M 93 ((l).toNat)) k (M 84 h.toNat))))]) rfl (Nat.le_of_ble_eq_true rfl) dX12_isAhead_40 rfl ?_
        refine g_iload cx (pc2 := 44) 5 rfl dX12_isAhead_42 rfl ?_
        refine g_iload cx (pc2 := 46) 6 rfl dX12_isAhead_44 rfl ?_
        refine g_icmp_eq cx (pc2 := 49) (tgt := 62) ⟨(by first | assumption | omega), (by first | assumption | omega)⟩ dX12_isAhead_46 (by decide) rfl (fun h_3 => ?_) (fun h_3 => ?_)
        · skip
          refine g_iinc cx (pc2 := 65) 4 rfl (lv2 := [(0, .ref 77), (1, .int (iI i)), (2, .int (iI k)), (3, .int (iI h)), (4, .int (iI (l + 1))), (5, .int (iI (rkX M (M 93 ((l).toNat)) i (M 84 h.toNat)))), (6, .int (iI (rkX M (M 93 ((l).toNat)) k (M 84 h.toNat))))]) rfl (Nat.le_of_ble_eq_true rfl) dX12_isAhead_62 rfl ?_
          refine g_goto cx (tgt := 3) dX12_isAhead_65 (by decide) ?_
          refine g_sub (lv2 := [(0, .ref 77), (1, .int (iI i)), (2, .int (iI k)), (3, .int (iI h)), (4, .int (iI (l + 1)))]) [0, 1, 2, 3, 4] rfl ?_
          exact ih3 ((M 77 29 - (l + 1)).toNat) (by omega) (l + 1) (by first | assumption | omega) (by rw [hah, hst (by omega), if_pos (by assumption), show (l + 1).toNat = l.toNat + 1 by omega]) (Nat.le_refl _)
        · skip
          refine g_iload cx (pc2 := 51) 5 rfl dX12_isAhead_49 rfl ?_
          refine g_iload cx (pc2 := 53) 6 rfl dX12_isAhead_51 rfl ?_
          refine g_icmp_ge cx (pc2 := 56) (tgt := 60) ⟨(by first | assumption | omega), (by first | assumption | omega)⟩ dX12_isAhead_53 (by decide) rfl (fun h_4 => ?_) (fun h_4 => ?_)
          · skip
            refine g_iconst cx (pc2 := 61) dX12_isAhead_60 rfl ?_
            exact g_zret cx (Or.inl rfl) qx dX12_isAhead_61 ⟨rb_f (by rw [hah, hst (by omega), if_neg (by assumption)]; first | exact decide_eq_true (by omega) | (rw [decide_eq_false (by omega)]; exact Bool.false_ne_true)), by rfl⟩
          · skip
            refine g_iconst cx (pc2 := 57) dX12_isAhead_56 rfl ?_
            refine g_goto cx (tgt := 61) dX12_isAhead_57 (by decide) ?_
            exact g_zret cx (Or.inr rfl) qx dX12_isAhead_61 ⟨rb_t (by rw [hah, hst (by omega), if_neg (by assumption)]; first | exact decide_eq_true (by omega) | (rw [decide_eq_false (by omega)]; exact Bool.false_ne_true)), by rfl⟩
  exact L3 _ 0 (by first | assumption | omega) (by unfold axX; rw [Int.sub_zero]; rfl) (Nat.le_refl _)
set_option maxHeartbeats 4000000 in
set_option maxRecDepth 100000 in
theorem c_X12_ruled {n : Nat} (hn : NN n) {M : Mm} (hV : RV M) (hq : (0 ≤ M 77 29 ∧ M 77 29 ≤ 4) ∧ ∀ j : Nat, j < 4 → ir (M 93 j)) : CT yX12_ruled cX12_ruled 7 (some .int) ({ frames := 4, cells := 0, slots := 0, locals := 95 }) n [.ref 77] M (pI (fun z M2 => RUX M z M2)) := by
  refine CT.of (lv0 := [(0, .ref 77)]) (by decide +kernel) hn (fun _ => rfl) (fun _ => Nat.le_of_ble_eq_true rfl) (fun X cx cs qx => ?_)
  have cx : Cx X cX12_ruled RX12 ({ frames := 4, cells := 0, slots := 0, locals := 95 }) 7 n := cx
  have hv1 := hV.1
  have hJo := jbR_ok hV
  have hsp := hV.2.1 (M 77 15).toNat (by omega)
  refine g_aload_n cx (pc2 := 1) 0 rfl dX12_ruled_0 rfl ?_
  refine g_get cx (pc2 := 4) (ci := 12) (k0 := 77) (j := 15) (v := .int (iI (M 77 15))) rfl iwX12 rfl (lt_lit hn (Nat.le_of_ble_eq_true rfl)) rfl (Nat.le_of_ble_eq_true rfl) kf_X12_171 rfl rfl dX12_ruled_1 rfl ?_
  refine g_istore_n cx (pc2 := 5) (lv2 := [(0, .ref 77), (1, .int (iI (M 77 15)))]) rfl (Nat.le_of_ble_eq_true rfl) dX12_ruled_4 rfl ?_
  refine g_iconst cx (pc2 := 6) dX12_ruled_5 rfl ?_
  refine g_istore_n cx (pc2 := 7) (lv2 := [(0, .ref 77), (1, .int (iI (M 77 15))), (2, .int (iI 0))]) rfl (Nat.le_of_ble_eq_true rfl) dX12_ruled_6 rfl ?_
  refine g_iconst cx (pc2 := 8) dX12_ruled_7 rfl ?_
  refine g_istore_n cx (pc2 := 9) (lv2 := [(0, .ref 77), (1, .int (iI (M 77 15))), (2, .int (iI 0)), (3, .int (iI 0))]) rfl (Nat.le_of_ble_eq_true rfl) dX12_ruled_8 rfl ?_
  refine g_aload_n cx (pc2 := 10) 0 rfl dX12_ruled_9 rfl ?_
  refine g_iconst cx (pc2 := 11) dX12_ruled_10 rfl ?_
  refine g_puti cx (pc2 := 14) (ci := 12) (k0 := 77) (j := 23) rfl iwX12 rfl (lt_lit hn (Nat.le_of_ble_eq_true rfl)) rfl (Nat.le_of_ble_eq_true rfl) kf_X12_217 rfl tyX12_ok nmX12 rfl rfl dX12_ruled_11 rfl ?_
  refine g_iconst cx (pc2 := 15) dX12_ruled_14 rfl ?_
  refine g_istore cx (pc2 := 17) (lv2 := [(0, .ref 77), (1, .int (iI (M 77 15))), (2, .int (iI 0)), (3, .int (iI 0)), (4, .int (iI 0))]) rfl (Nat.le_of_ble_eq_true rfl) dX12_ruled_15 rfl ?_
  have L17 : ∀ (fu : Nat) (h : Int) (f : Int) (met : Int) (x : Int) (k : Nat) (U : Mm), (0 ≤ h ∧ h < 8) → (0 ≤ f ∧ f ≤ 28) → (0 ≤ met ∧ met ≤ 255) → (x = -9 ∨ (0 ≤ x ∧ x < 8)) → (F3 M U) → (M 84 h.toNat = (rsF M (M 93) (M 77 29).toNat k).1 ∧ f = (rsF M (M 93) (M 77 29).toNat k).2.1 ∧ met.toNat = (rsF M (M 93) (M 77 29).toNat k).2.2.1 ∧ LN U (rsF M (M 93) (M 77 29).toNat k).2.2.2) → (popZ met.toNat = (k : Int) ∧ (rsF M (M 93) (M 77 29).toNat k).2.2.2.length = k) → (x = -9 → nyX M (M 93) (M 77 29).toNat (M 84 h.toNat) f met.toNat = -9) → (if x = -9 then 0 else 256 - met.toNat) ≤ fu → G X 17 [(0, .ref 77), (1, .int (iI h)), (2, .int (iI f)), (3, .int (iI met)), (4, .int (iI x))] [] U := by
    intro fu
    induction fu using Nat.strongRecOn with
    | _ fu ih17 =>
      intro h f met x k U hh hf hmet hx hF hrs hpk hxn hk17
      have hVU := hF.V hV
      have eJ := hF.j
      have e12 := hF.2 12 (by decide) (by decide)
      have e84 := hF.1 84 (by decide) (by decide) (by decide)
      have e85 := hF.1 85 (by decide) (by decide) (by decide)
      have hqU : (0 ≤ U 77 29 ∧ U 77 29 ≤ 4) ∧ ∀ j : Nat, j < 4 → ir (U 93 j) := by rw [hF.2 29 (by decide) (by decide), hF.1 93 (by decide) (by decide) (by decide)]; exact hq
      have hph := hV.2.1 h.toNat (by omega)
      have hpop := popZ_b met.toNat
      have hln := hrs.2.2.2
      refine g_iload cx (pc2 := 19) 4 rfl dX12_ruled_17 rfl ?_
      refine g_bipush cx (pc2 := 21) ⟨by decide, by decide⟩ dX12_ruled_19 rfl ?_
      refine g_icmp_eq cx (pc2 := 24) (tgt := 163) ⟨(by first | assumption | omega), ⟨by decide, by decide⟩⟩ dX12_ruled_21 (by decide) rfl (fun h_1 => ?_) (fun h_1 => ?_)
      · skip
        refine g_aload_n cx (pc2 := 164) 0 rfl dX12_ruled_163 rfl ?_
        refine g_iload_n cx (pc2 := 165) 3 rfl dX12_ruled_164 rfl ?_
        refine g_callV cx (pc2 := 168) (st := []) (As := [.int (iI met)]) (k0 := 77) (ci := 12) (c_X12_worthOf (M := U) hn (by exact hVU) met (by omega)) wM_X12_worthOf wV_X12_worthOf kl_X12_246 rfl (lt_lit hn (Nat.le_of_ble_eq_true rfl)) rfl ⟨rfl, rfl, Nat.le_of_ble_eq_true rfl, Nat.le_of_ble_eq_true rfl⟩ (Nat.le_of_ble_eq_true rfl) cs rfl rfl dX12_ruled_165 rfl ?_
        rintro _ _ ⟨rfl, rfl⟩
        refine g_rwi (y := iI (wsB (jbR M) (M 77 12).toNat met.toNat)) (congrArg iI (by rw [eJ, e12])) ?_
        exact g_iret cx qx dX12_ruled_168 ⟨_, rfl, by have hfx := rsF_fix (M := M) (ls := M 93) (q := (M 77 29).toNat) (k := k) (by rw [← hrs.1, ← hrs.2.1, ← hrs.2.2.1]; exact hxn (by omega)) (8 - k); rw [show k + (8 - k) = 8 by omega] at hfx; refine ⟨hF, ?_, ?_, ?_⟩; (rw [hfx, ← hrs.2.2.1]); (rw [hfx]; exact hrs.2.2.2); (rw [hfx, hpk.2]; omega)⟩
      · skip
        refine g_bipush cx (pc2 := 26) ⟨by decide, by decide⟩ dX12_ruled_24 rfl ?_
        refine g_istore cx (pc2 := 28) (lv2 := [(0, .ref 77), (1, .int (iI h)), (2, .int (iI f)), (3, .int (iI met)), (4, .int (iI (-9)))]) rfl (Nat.le_of_ble_eq_true rfl) dX12_ruled_26 rfl ?_
        refine g_iconst cx (pc2 := 29) dX12_ruled_28 rfl ?_
        refine g_istore cx (pc2 := 31) (lv2 := [(0, .ref 77), (1, .int (iI h)), (2, .int (iI f)), (3, .int (iI met)), (4, .int (iI (-9))), (5, .int (iI 0))]) rfl (Nat.le_of_ble_eq_true rfl) dX12_ruled_29 rfl ?_
        have L31 : ∀ (fu : Nat) (i : Int) (y : Int), (0 ≤ i ∧ i ≤ M 77 12) → (y = nyF M (M 93) (M 77 29).toNat (M 84 h.toNat) f met.toNat i.toNat) → (M 77 12 - i).toNat ≤ fu → G X 31 [(0, .ref 77), (1, .int (iI h)), (2, .int (iI f)), (3, .int (iI met)), (4, .int (iI y)), (5, .int (iI i))] [] U := by
          intro fu
          induction fu using Nat.strongRecOn with
          | _ fu ih31 =>
            intro i y hi hy hk31
            have hyb := nyF_b M (M 93) (M 77 29).toNat (M 84 h.toNat) f met.toNat i.toNat
            rw [← hy] at hyb
            have hst : nyF M (M 93) (M 77 29).toNat (M 84 h.toNat) f met.toNat (i + 1).toNat = if (¬ hB met i ∧ ¬ bnB (jbR M) i.toNat (M 84 h.toNat) f = -9) ∧ (y = -9 ∨ axX M (M 93) (M 77 29).toNat i y (M 84 h.toNat) = true) then i else y := by rw [show (i + 1).toNat = i.toNat + 1 by omega, nyF, ← hy, Int.toNat_of_nonneg hi.1]
            have hbnb := fun q : i < 8 => bnB_b hJo (i := i.toNat) (by omega) hph hf.1
            refine g_iload cx (pc2 := 33) 5 rfl dX12_ruled_31 rfl ?_
            refine g_aload_n cx (pc2 := 34) 0 rfl dX12_ruled_33 rfl ?_
            refine g_get cx (pc2 := 37) (ci := 12) (k0 := 77) (j := 12) (v := .int (iI (U 77 12))) rfl iwX12 rfl (lt_lit hn (Nat.le_of_ble_eq_true rfl)) rfl (Nat.le_of_ble_eq_true rfl) kf_X12_168 rfl rfl dX12_ruled_34 rfl ?_
            refine g_rwi (y := iI (M 77 12)) (congrArg iI e12) ?_
            refine g_icmp_ge cx (pc2 := 40) (tgt := 108) ⟨(by first | assumption | omega), (by first | assumption | omega)⟩ dX12_ruled_37 (by decide) rfl (fun h_2 => ?_) (fun h_2 => ?_)
            · skip
              have hyN : y = nyX M (M 93) (M 77 29).toNat (M 84 h.toNat) f met.toNat := by rw [hy]; unfold nyX; rw [show i = M 77 12 by omega]
              refine g_iload cx (pc2 := 110) 4 rfl dX12_ruled_108 rfl ?_
              refine g_bipush cx (pc2 := 112) ⟨by decide, by decide⟩ dX12_ruled_110 rfl ?_
              refine g_icmp_eq cx (pc2 := 115) (tgt := 17) ⟨(by first | assumption | omega), ⟨by decide, by decide⟩⟩ dX12_ruled_112 (by decide) rfl (fun h_3 => ?_) (fun h_3 => ?_)
              · skip
                refine g_sub (lv2 := [(0, .ref 77), (1, .int (iI h)), (2, .int (iI f)), (3, .int (iI met)), (4, .int (iI y))]) [0, 1, 2, 3, 4] rfl ?_
                exact ih17 (if y = -9 then 0 else 256 - met.toNat) (by have q9 := hk17; rw [if_neg (by assumption : ¬ x = -9)] at q9; split <;> omega) h f met y k U (by omega) (by omega) (by omega) (by omega) (by first | exact hF | exact hF.trans ⟨fun a h1 h2 _ => by rw [stM_off h1, stM_off h2], fun b h1 _ => by rw [stM_ne _ _ (Or.inr h1), stM_off (by decide)]⟩) (by first | (rw [hrn]; refine ⟨?_, by rw [hex], by rw [Int.toNat_natCast], ?_⟩; (show _ = M 84 (nA M ((y.toNat : Nat) : Int) 1).toNat; rw [Int.toNat_of_nonneg hy9.1]); exact LN_snoc hln) | exact hrs) (by first | (refine ⟨by rw [Int.toNat_natCast, hpa.1, hpk.1]; omega, ?_⟩; rw [hrn]; simp [hpk.2]) | exact hpk) (by first | (intro q; omega) | (intro _; rw [← hyN]; assumption)) (Nat.le_refl _)
              · skip
                have hy9 : 0 ≤ y ∧ y < i ∧ ¬ met.toNat.testBit y.toNat = true ∧ ¬ bnB (jbR M) y.toNat (M 84 h.toNat) f = -9 := by rcases hyb with q | q; contradiction; exact ⟨q.1, by omega, q.2.2⟩
                have h23 : U 77 23 = (k : Int) := by rw [hln.1, hpk.2]
                have hbn2 := bnB_b hJo (i := y.toNat) (by omega) hph hf.1
                have hen2 := enB_b hJo (i := y.toNat) (by omega) hph hf.1
                have hex : exB (jbR M) y.toNat (M 84 h.toNat) f = enB (jbR M) y.toNat (M 84 h.toNat) f := by unfold exB; rw [if_neg (by omega)]
                have hpa := pop_add met.toNat (by omega) y.toNat (by omega) (by simpa using hy9.2.2.1)
                have hnb := nA_b hV (i := y) (by omega)
                have hrn : rsF M (M 93) (M 77 29).toNat (k + 1) = (jbR M y.toNat 0, enB (jbR M) y.toNat (M 84 h.toNat) f, met.toNat ||| 2 ^ y.toNat, (rsF M (M 93) (M 77 29).toNat k).2.2.2 ++ [y]) := by rw [rsF]; unfold rsS; rw [← hrs.1, ← hrs.2.1, ← hrs.2.2.1, ← hyN, if_neg (by assumption)]
                have hk8 : k < 8 := by have := popZ_b (met.toNat ||| 2 ^ y.toNat); omega
                refine g_aload_n cx (pc2 := 116) 0 rfl dX12_ruled_115 rfl ?_
                refine g_iload cx (pc2 := 118) 4 rfl dX12_ruled_116 rfl ?_
                refine g_iload_n cx (pc2 := 119) 1 rfl dX12_ruled_118 rfl ?_
                refine g_iload_n cx (pc2 := 120) 2 rfl dX12_ruled_119 rfl ?_
                refine g_callV cx (pc2 := 123) (st := []) (As := [.int (iI y), .int (iI h), .int (iI f)]) (k0 := 77) (ci := 12) (c_X12_endOf (M := U) hn (by exact hVU) y h f (by omega) (by omega) (by omega)) wM_X12_endOf wV_X12_endOf kl_X12_233 rfl (lt_lit hn (Nat.le_of_ble_eq_true rfl)) rfl ⟨rfl, rfl, Nat.le_of_ble_eq_true rfl, Nat.le_of_ble_eq_true rfl⟩ (Nat.le_of_ble_eq_true rfl) cs rfl rfl dX12_ruled_120 rfl ?_
                rintro _ _ ⟨rfl, rfl⟩
                refine g_rwi (y := iI (exB (jbR M) y.toNat (M 84 h.toNat) f)) (congrArg iI (by rw [eJ, e84])) ?_
                refine g_istore_n cx (pc2 := 124) (lv2 := [(0, .ref 77), (1, .int (iI h)), (2, .int (iI (exB (jbR M) y.toNat (M 84 h.toNat) f))), (3, .int (iI met)), (4, .int (iI y)), (5, .int (iI i))]) rfl (Nat.le_of_ble_eq_true rfl) dX12_ruled_123 rfl ?_
                refine g_aload_n cx (pc2 := 125) 0 rfl dX12_ruled_124 rfl ?_
                refine g_iload cx (pc2 := 127) 4 rfl dX12_ruled_125 rfl ?_
                refine g_iconst cx (pc2 := 128) dX12_ruled_127 rfl ?_
                refine g_callV cx (pc2 := 131) (st := []) (As := [.int (iI y), .int (iI 1)]) (k0 := 77) (ci := 12) (c_X12_needAt (M := U) hn y 1 (by omega) (by omega)) wM_X12_needAt wV_X12_needAt kl_X12_195 rfl (lt_lit hn (Nat.le_of_ble_eq_true rfl)) rfl ⟨rfl, rfl, Nat.le_of_ble_eq_true rfl, Nat.le_of_ble_eq_true rfl⟩ (Nat.le_of_ble_eq_true rfl) cs rfl rfl dX12_ruled_128 rfl ?_
                rintro _ _ ⟨rfl, rfl⟩
                refine g_rwi (y := iI (nA M y 1)) (congrArg iI (nA_off e85 _ _)) ?_
                refine g_istore_n cx (pc2 := 132) (lv2 := [(0, .ref 77), (1, .int (iI (nA M y 1))), (2, .int (iI (exB (jbR M) y.toNat (M 84 h.toNat) f))), (3, .int (iI met)), (4, .int (iI y)), (5, .int (iI i))]) rfl (Nat.le_of_ble_eq_true rfl) dX12_ruled_131 rfl ?_
                refine g_iload_n cx (pc2 := 133) 3 rfl dX12_ruled_132 rfl ?_
                refine g_iconst cx (pc2 := 134) dX12_ruled_133 rfl ?_
                refine g_iload cx (pc2 := 136) 4 rfl dX12_ruled_134 rfl ?_
                refine g_ishl cx (pc2 := 137) dX12_ruled_136 rfl ?_
                refine g_rwi (y := iI ((2 ^ y.toNat : Nat) : Int)) (sh1 (by omega) (by omega)) ?_
                refine g_ior cx (pc2 := 138) dX12_ruled_137 rfl ?_
                refine g_rwi (y := iI ((met.toNat ||| 2 ^ y.toNat : Nat) : Int)) (or_iI (by omega) (Int.natCast_nonneg _)) ?_
                refine g_istore_n cx (pc2 := 139) (lv2 := [(0, .ref 77), (1, .int (iI (nA M y 1))), (2, .int (iI (exB (jbR M) y.toNat (M 84 h.toNat) f))), (3, .int (iI ((met.toNat ||| 2 ^ y.toNat : Nat) : Int))), (4, .int (iI y)), (5, .int (iI i))]) rfl (Nat.le_of_ble_eq_true rfl) dX12_ruled_138 rfl ?_
                refine g_aload_n cx (pc2 := 140) 0 rfl dX12_ruled_139 rfl ?_
                refine g_get cx (pc2 := 143) (ci := 12) (k0 := 77) (j := 22) (v := .ref 89) rfl iwX12 rfl (lt_lit hn (Nat.le_of_ble_eq_true rfl)) rfl (Nat.le_of_ble_eq_true rfl) kf_X12_44 rfl rfl dX12_ruled_140 rfl ?_
                refine g_aload_n cx (pc2 := 144) 0 rfl dX12_ruled_143 rfl ?_
                refine g_get cx (pc2 := 147) (ci := 12) (k0 := 77) (j := 23) (v := .int (iI (U 77 23))) rfl iwX12 rfl (lt_lit hn (Nat.le_of_ble_eq_true rfl)) rfl (Nat.le_of_ble_eq_true rfl) kf_X12_217 rfl rfl dX12_ruled_144 rfl ?_
                refine g_iload cx (pc2 := 149) 4 rfl dX12_ruled_147 rfl ?_
                refine g_iast cx (pc2 := 150) (k0 := 89) rfl (lt_lit hn (Nat.le_of_ble_eq_true rfl)) (by first | assumption | omega) (by first | assumption | omega) (Nat.le_of_ble_eq_true rfl) dX12_ruled_149 rfl ?_
                refine g_aload_n cx (pc2 := 151) 0 rfl dX12_ruled_150 rfl ?_
                refine g_dup cx (pc2 := 152) rfl dX12_ruled_151 rfl ?_
                refine g_get cx (pc2 := 155) (ci := 12) (k0 := 77) (j := 23) (v := .int (iI (U 77 23))) rfl iwX12 rfl (lt_lit hn (Nat.le_of_ble_eq_true rfl)) rfl (Nat.le_of_ble_eq_true rfl) kf_X12_217 rfl (congrArg (fun q => Value.int (iI q)) (by simp [stM])) dX12_ruled_152 rfl ?_
                refine g_iconst cx (pc2 := 156) dX12_ruled_155 rfl ?_
                refine g_iadd cx (pc2 := 157) dX12_ruled_156 rfl ?_
                refine g_puti cx (pc2 := 160) (ci := 12) (k0 := 77) (j := 23) rfl iwX12 rfl (lt_lit hn (Nat.le_of_ble_eq_true rfl)) rfl (Nat.le_of_ble_eq_true rfl) kf_X12_217 rfl tyX12_ok nmX12 rfl rfl dX12_ruled_157 rfl ?_
                refine g_goto cx (tgt := 17) dX12_ruled_160 (by decide) ?_
                refine g_sub (lv2 := [(0, .ref 77), (1, .int (iI (nA M y 1))), (2, .int (iI (exB (jbR M) y.toNat (M 84 h.toNat) f))), (3, .int (iI ((met.toNat ||| 2 ^ y.toNat : Nat) : Int))), (4, .int (iI y))]) [0, 1, 2, 3, 4] rfl ?_
                exact ih17 (if y = -9 then 0 else 256 - ((met.toNat ||| 2 ^ y.toNat : Nat) : Int).toNat) (by have q9 := hk17; rw [if_neg (by assumption : ¬ x = -9)] at q9; split <;> omega) (nA M y 1) (exB (jbR M) y.toNat (M 84 h.toNat) f) ((met.toNat ||| 2 ^ y.toNat : Nat) : Int) y (k + 1) (stM (stM U 89 ((U 77 23)).toNat y) 77 23 ((U 77 23) + 1)) (by omega) (by omega) (by omega) (by omega) (by first | exact hF | exact hF.trans ⟨fun a h1 h2 _ => by rw [stM_off h1, stM_off h2], fun b h1 _ => by rw [stM_ne _ _ (Or.inr h1), stM_off (by decide)]⟩) (by first | (rw [hrn]; refine ⟨?_, by rw [hex], by rw [Int.toNat_natCast], ?_⟩; (show _ = M 84 (nA M ((y.toNat : Nat) : Int) 1).toNat; rw [Int.toNat_of_nonneg hy9.1]); exact LN_snoc hln) | exact hrs) (by first | (refine ⟨by rw [Int.toNat_natCast, hpa.1, hpk.1]; omega, ?_⟩; rw [hrn]; simp [hpk.2]) | exact hpk) (by first | (intro q; omega) | (intro _; rw [← hyN]; assumption)) (Nat.le_refl _)
            · skip
              have L67 : ∀ (g : Int), ((g = 1 ∧ (¬ hB met i ∧ ¬ bnB (jbR M) i.toNat (M 84 h.toNat) f = -9)) ∨ (g = 0 ∧ ¬ (¬ hB met i ∧ ¬ bnB (jbR M) i.toNat (M 84 h.toNat) f = -9))) → G X 67 [(0, .ref 77), (1, .int (iI h)), (2, .int (iI f)), (3, .int (iI met)), (4, .int (iI y)), (5, .int (iI i))] [.int (iI g)] U := by
                intro g hg
                refine g_istore cx (pc2 := 69) (lv2 := [(0, .ref 77), (1, .int (iI h)), (2, .int (iI f)), (3, .int (iI met)), (4, .int (iI y)), (5, .int (iI i)), (6, .int (iI g))]) rfl (Nat.le_of_ble_eq_true rfl) dX12_ruled_67 rfl ?_
                have L100 : ∀ (y2 : Int), (y2 = nyF M (M 93) (M 77 29).toNat (M 84 h.toNat) f met.toNat (i + 1).toNat) → G X 100 [(0, .ref 77), (1, .int (iI h)), (2, .int (iI f)), (3, .int (iI met)), (5, .int (iI i))] [.int (iI y2)] U := by
                  intro y2 hy2
                  refine g_istore cx (pc2 := 102) (lv2 := [(0, .ref 77), (1, .int (iI h)), (2, .int (iI f)), (3, .int (iI met)), (4, .int (iI y2)), (5, .int (iI i))]) rfl (Nat.le_of_ble_eq_true rfl) dX12_ruled_100 rfl ?_
                  refine g_iinc cx (pc2 := 105) 5 rfl (lv2 := [(0, .ref 77), (1, .int (iI h)), (2, .int (iI f)), (3, .int (iI met)), (4, .int (iI y2)), (5, .int (iI (i + 1)))]) rfl (Nat.le_of_ble_eq_true rfl) dX12_ruled_102 rfl ?_
                  refine g_goto cx (tgt := 31) dX12_ruled_105 (by decide) ?_
                  exact ih31 ((M 77 12 - (i + 1)).toNat) (by omega) (i + 1) y2 (by first | assumption | omega) (by exact hy2) (Nat.le_refl _)
                refine g_iload cx (pc2 := 71) 6 rfl dX12_ruled_69 rfl ?_
                refine g_if_eq cx (pc2 := 74) (tgt := 98) (by first | assumption | omega) dX12_ruled_71 (by decide) rfl (fun h_4 => ?_) (fun h_4 => ?_)
                · skip
                  refine g_iload cx (pc2 := 100) 4 rfl dX12_ruled_98 rfl ?_
                  refine g_sub (lv2 := [(0, .ref 77), (1, .int (iI h)), (2, .int (iI f)), (3, .int (iI met)), (5, .int (iI i))]) [0, 1, 2, 3, 5] rfl ?_
                  exact L100 y (by rw [hst]; rcases hg with ⟨q1, q2⟩ | ⟨q1, q2⟩ <;> first | omega | (rw [if_neg (fun z => q2 z.1)]; done) | (rw [if_pos ⟨q2, Or.inl (by assumption)⟩]; done) | (rw [if_pos ⟨q2, Or.inr (by assumption)⟩]; done) | (rw [if_neg (fun z => z.2.elim (fun w => absurd w (by assumption)) (fun w => absurd w (by assumption)))]; done))
                · skip
                  refine g_iload cx (pc2 := 76) 4 rfl dX12_ruled_74 rfl ?_
                  refine g_bipush cx (pc2 := 78) ⟨by decide, by decide⟩ dX12_ruled_76 rfl ?_
                  refine g_icmp_eq cx (pc2 := 81) (tgt := 93) ⟨(by first | assumption | omega), ⟨by decide, by decide⟩⟩ dX12_ruled_78 (by decide) rfl (fun h_5 => ?_) (fun h_5 => ?_)
                  · skip
                    refine g_iload cx (pc2 := 95) 5 rfl dX12_ruled_93 rfl ?_
                    refine g_goto cx (tgt := 100) dX12_ruled_95 (by decide) ?_
                    refine g_sub (lv2 := [(0, .ref 77), (1, .int (iI h)), (2, .int (iI f)), (3, .int (iI met)), (5, .int (iI i))]) [0, 1, 2, 3, 5] rfl ?_
                    exact L100 i (by rw [hst]; rcases hg with ⟨q1, q2⟩ | ⟨q1, q2⟩ <;> first | omega | (rw [if_neg (fun z => q2 z.1)]; done) | (rw [if_pos ⟨q2, Or.inl (by assumption)⟩]; done) | (rw [if_pos ⟨q2, Or.inr (by assumption)⟩]; done) | (rw [if_neg (fun z => z.2.elim (fun w => absurd w (by assumption)) (fun w => absurd w (by assumption)))]; done))
                  · skip
                    refine g_aload_n cx (pc2 := 82) 0 rfl dX12_ruled_81 rfl ?_
                    refine g_iload cx (pc2 := 84) 5 rfl dX12_ruled_82 rfl ?_
                    refine g_iload cx (pc2 := 86) 4 rfl dX12_ruled_84 rfl ?_
                    refine g_iload_n cx (pc2 := 87) 1 rfl dX12_ruled_86 rfl ?_
                    refine g_callV cx (pc2 := 90) (st := []) (As := [.int (iI i), .int (iI y), .int (iI h)]) (k0 := 77) (ci := 12) (c_X12_isAhead (M := U) hn (by exact hVU) (by exact hqU) i y h (by omega) (by omega) (by omega)) wM_X12_isAhead wV_X12_isAhead kl_X12_278 rfl (lt_lit hn (Nat.le_of_ble_eq_true rfl)) rfl ⟨rfl, rfl, Nat.le_of_ble_eq_true rfl, Nat.le_of_ble_eq_true rfl⟩ (Nat.le_of_ble_eq_true rfl) cs rfl rfl dX12_ruled_87 rfl ?_
                    rintro _ _ ⟨rfl, rfl⟩
                    refine g_rwi (y := iI (b2 (axX M (M 93) (M 77 29).toNat i y (M 84 h.toNat) = true))) (b2_iff (by rw [axX_off hF, e84])) ?_
                    refine g_ifb_eq cx (pc2 := 93) (tgt := 98) dX12_ruled_90 (by decide) rfl (fun h_6 => ?_) (fun h_6 => ?_)
                    · skip
                      refine g_iload cx (pc2 := 100) 4 rfl dX12_ruled_98 rfl ?_
                      refine g_sub (lv2 := [(0, .ref 77), (1, .int (iI h)), (2, .int (iI f)), (3, .int (iI met)), (5, .int (iI i))]) [0, 1, 2, 3, 5] rfl ?_
                      exact L100 y (by rw [hst]; rcases hg with ⟨q1, q2⟩ | ⟨q1, q2⟩ <;> first | omega | (rw [if_neg (fun z => q2 z.1)]; done) | (rw [if_pos ⟨q2, Or.inl (by assumption)⟩]; done) | (rw [if_pos ⟨q2, Or.inr (by assumption)⟩]; done) | (rw [if_neg (fun z => z.2.elim (fun w => absurd w (by assumption)) (fun w => absurd w (by assumption)))]; done))
                    · skip
                      refine g_iload cx (pc2 := 95) 5 rfl dX12_ruled_93 rfl ?_
                      refine g_goto cx (tgt := 100) dX12_ruled_95 (by decide) ?_
                      refine g_sub (lv2 := [(0, .ref 77), (1, .int (iI h)), (2, .int (iI f)), (3, .int (iI met)), (5, .int (iI i))]) [0, 1, 2, 3, 5] rfl ?_
                      exact L100 i (by rw [hst]; rcases hg with ⟨q1, q2⟩ | ⟨q1, q2⟩ <;> first | omega | (rw [if_neg (fun z => q2 z.1)]; done) | (rw [if_pos ⟨q2, Or.inl (by assumption)⟩]; done) | (rw [if_pos ⟨q2, Or.inr (by assumption)⟩]; done) | (rw [if_neg (fun z => z.2.elim (fun w => absurd w (by assumption)) (fun w => absurd w (by assumption)))]; done))
              refine g_iload_n cx (pc2 := 41) 3 rfl dX12_ruled_40 rfl ?_
              refine g_iload cx (pc2 := 43) 5 rfl dX12_ruled_41 rfl ?_
              refine g_callS cx (pc2 := 46) (st := []) (As := [.int (iI met), .int (iI i)]) (c_X12_has (M := U) hn met i (by omega) (by omega)) wM_X12_has wS_X12_has kl_X12_220 ⟨rfl, rfl, Nat.le_of_ble_eq_true rfl, Nat.le_of_ble_eq_true rfl⟩ (Nat.le_of_ble_eq_true rfl) cs rfl rfl dX12_ruled_43 rfl ?_
              rintro _ _ ⟨rfl, rfl⟩
              refine g_ifb_ne cx (pc2 := 49) (tgt := 66) dX12_ruled_46 (by decide) rfl (fun h_7 => ?_) (fun h_7 => ?_)
              · skip
                refine g_iconst cx (pc2 := 67) dX12_ruled_66 rfl ?_
                exact L67 0 (by first | exact Or.inl ⟨rfl, by assumption, by assumption⟩ | exact Or.inr ⟨rfl, fun q => q.2 (by assumption)⟩ | exact Or.inr ⟨rfl, fun q => q.1 (by assumption)⟩)
              · skip
                have hbn1 := hbnb (by omega)
                refine g_aload_n cx (pc2 := 50) 0 rfl dX12_ruled_49 rfl ?_
                refine g_iload cx (pc2 := 52) 5 rfl dX12_ruled_50 rfl ?_
                refine g_iload_n cx (pc2 := 53) 1 rfl dX12_ruled_52 rfl ?_
                refine g_iload_n cx (pc2 := 54) 2 rfl dX12_ruled_53 rfl ?_
                refine g_callV cx (pc2 := 57) (st := []) (As := [.int (iI i), .int (iI h), .int (iI f)]) (k0 := 77) (ci := 12) (c_X12_beginOf (M := U) hn (by exact hVU) i h f (by omega) (by omega) (by omega)) wM_X12_beginOf wV_X12_beginOf kl_X12_210 rfl (lt_lit hn (Nat.le_of_ble_eq_true rfl)) rfl ⟨rfl, rfl, Nat.le_of_ble_eq_true rfl, Nat.le_of_ble_eq_true rfl⟩ (Nat.le_of_ble_eq_true rfl) cs rfl rfl dX12_ruled_54 rfl ?_
                rintro _ _ ⟨rfl, rfl⟩
                refine g_rwi (y := iI (bnB (jbR M) i.toNat (M 84 h.toNat) f)) (congrArg iI (by rw [eJ, e84])) ?_
                refine g_bipush cx (pc2 := 59) ⟨by decide, by decide⟩ dX12_ruled_57 rfl ?_
                refine g_icmp_eq cx (pc2 := 62) (tgt := 66) ⟨(by first | assumption | omega), ⟨by decide, by decide⟩⟩ dX12_ruled_59 (by decide) rfl (fun h_8 => ?_) (fun h_8 => ?_)
                · skip
                  refine g_iconst cx (pc2 := 67) dX12_ruled_66 rfl ?_
                  exact L67 0 (by first | exact Or.inl ⟨rfl, by assumption, by assumption⟩ | exact Or.inr ⟨rfl, fun q => q.2 (by assumption)⟩ | exact Or.inr ⟨rfl, fun q => q.1 (by assumption)⟩)
                · skip
                  refine g_iconst cx (pc2 := 63) dX12_ruled_62 rfl ?_
                  refine g_goto cx (tgt := 67) dX12_ruled_63 (by decide) ?_
                  exact L67 1 (by first | exact Or.inl ⟨rfl, by assumption, by assumption⟩ | exact Or.inr ⟨rfl, fun q => q.2 (by assumption)⟩ | exact Or.inr ⟨rfl, fun q => q.1 (by assumption)⟩)
        exact L31 _ 0 (-9) (by first | assumption | omega) (by rfl) (Nat.le_refl _)
  exact L17 _ (M 77 15) 0 0 0 0 (stM M 77 23 0) (by first | assumption | omega) (by first | assumption | omega) (by first | assumption | omega) (by omega) (by exact ⟨fun a h1 _ _ => stM_off h1, fun b h1 _ => stM_ne _ _ (Or.inr h1)⟩) (by exact ⟨rfl, rfl, rfl, ⟨by rw [stM_at]; rfl, rfl⟩⟩) (by exact ⟨popZ_0, rfl⟩) (by intro q; omega) (Nat.le_refl _)
set_option maxHeartbeats 4000000 in
set_option maxRecDepth 100000 in
theorem c_X12_rule {n : Nat} (hn : NN n) {M : Mm} (hV : RV M) (hT : RT M) (h93 : ∀ j : Nat, j < 4 → ir (M 93 j)) (t r : Int) (ht : ir t) (hr : ir r) : CT yX12_rule cX12_rule 5 (some .int) ({ frames := 5, cells := 0, slots := 0, locals := 121 }) n [.ref 77, .int (iI t), .int (iI r)] M (pI (fun z M2 => xruR M t r z M2)) := by
  refine CT.of (lv0 := [(0, .ref 77), (1, .int (iI t)), (2, .int (iI r))]) (by decide +kernel) hn (fun _ => rfl) (fun _ => Nat.le_of_ble_eq_true rfl) (fun X cx cs qx => ?_)
  have cx : Cx X cX12_rule RX12 ({ frames := 5, cells := 0, slots := 0, locals := 121 }) 5 n := cx
  have hv1 := hV.1
  refine g_iload_n cx (pc2 := 1) 1 rfl dX12_rule_0 rfl ?_
  refine g_callS cx (pc2 := 4) (st := []) (As := [.int (iI t)]) (c_X12_isText (M := M) hn t (by first | assumption | omega)) wM_X12_isText wS_X12_isText kl_X12_122 ⟨rfl, rfl, Nat.le_of_ble_eq_true rfl, Nat.le_of_ble_eq_true rfl⟩ (Nat.le_of_ble_eq_true rfl) cs rfl rfl dX12_rule_1 rfl ?_
  rintro _ _ ⟨rfl, rfl⟩
  refine g_ifb_eq cx (pc2 := 7) (tgt := 14) dX12_rule_4 (by decide) rfl (fun h_1 => ?_) (fun h_1 => ?_)
  · skip
    refine g_iconst cx (pc2 := 15) dX12_rule_14 rfl ?_
    exact g_iret cx qx dX12_rule_15 ⟨_, rfl, by exact Or.inl ⟨by first | exact Or.inl (by assumption) | exact Or.inr (by assumption), rfl, rfl⟩⟩
  · skip
    refine g_iload_n cx (pc2 := 8) 2 rfl dX12_rule_7 rfl ?_
    refine g_callS cx (pc2 := 11) (st := []) (As := [.int (iI r)]) (c_X12_isRow (M := M) hn r (by first | assumption | omega)) wM_X12_isRow wS_X12_isRow kl_X12_107 ⟨rfl, rfl, Nat.le_of_ble_eq_true rfl, Nat.le_of_ble_eq_true rfl⟩ (Nat.le_of_ble_eq_true rfl) cs rfl rfl dX12_rule_8 rfl ?_
    rintro _ _ ⟨rfl, rfl⟩
    refine g_ifb_ne cx (pc2 := 14) (tgt := 16) dX12_rule_11 (by decide) rfl (fun h_2 => ?_) (fun h_2 => ?_)
    · skip
      have hT4 : T4 t := by assumption
      have hR6 : R6 r := by assumption
      have hq2 := hT t.toNat (by omega)
      refine g_aload_n cx (pc2 := 17) 0 rfl dX12_rule_16 rfl ?_
      refine g_get cx (pc2 := 20) (ci := 12) (k0 := 77) (j := 8) (v := .ref 82) rfl iwX12 rfl (lt_lit hn (Nat.le_of_ble_eq_true rfl)) rfl (Nat.le_of_ble_eq_true rfl) kf_X12_22 rfl rfl dX12_rule_17 rfl ?_
      refine g_iload_n cx (pc2 := 21) 1 rfl dX12_rule_20 rfl ?_
      refine g_iald cx (pc2 := 22) (k0 := 82) rfl (lt_lit hn (Nat.le_of_ble_eq_true rfl)) (by first | assumption | omega) (by first | assumption | omega) (Nat.le_of_ble_eq_true rfl) dX12_rule_21 rfl ?_
      refine g_rwi (y := iI (M 82 ((t).toNat))) (congrArg iI (by simp [stM])) ?_
      refine g_if_ge cx (pc2 := 25) (tgt := 31) (by first | assumption | omega) dX12_rule_22 (by decide) rfl (fun h_3 => ?_) (fun h_3 => ?_)
      · skip
        refine g_aload_n cx (pc2 := 32) 0 rfl dX12_rule_31 rfl ?_
        refine g_get cx (pc2 := 35) (ci := 12) (k0 := 77) (j := 8) (v := .ref 82) rfl iwX12 rfl (lt_lit hn (Nat.le_of_ble_eq_true rfl)) rfl (Nat.le_of_ble_eq_true rfl) kf_X12_22 rfl rfl dX12_rule_32 rfl ?_
        refine g_iload_n cx (pc2 := 36) 1 rfl dX12_rule_35 rfl ?_
        refine g_iald cx (pc2 := 37) (k0 := 82) rfl (lt_lit hn (Nat.le_of_ble_eq_true rfl)) (by first | assumption | omega) (by first | assumption | omega) (Nat.le_of_ble_eq_true rfl) dX12_rule_36 rfl ?_
        refine g_rwi (y := iI (M 82 ((t).toNat))) (congrArg iI (by simp [stM])) ?_
        refine g_iconst cx (pc2 := 38) dX12_rule_37 rfl ?_
        refine g_iconst cx (pc2 := 39) dX12_rule_38 rfl ?_
        refine g_callS cx (pc2 := 42) (st := []) (As := [.int (iI (M 82 ((t).toNat))), .int (iI 1), .int (iI 4)]) (c_X12_in (M := M) hn (M 82 ((t).toNat)) 1 4 (by first | assumption | omega) (by first | assumption | omega) (by first | assumption | omega)) wM_X12_in wS_X12_in kl_X12_97 ⟨rfl, rfl, Nat.le_of_ble_eq_true rfl, Nat.le_of_ble_eq_true rfl⟩ (Nat.le_of_ble_eq_true rfl) cs rfl rfl dX12_rule_39 rfl ?_
        rintro _ _ ⟨rfl, rfl⟩
        refine g_istore_n cx (pc2 := 43) (lv2 := [(0, .ref 77), (1, .int (iI t)), (2, .int (iI r)), (3, .int (iI (b2 (1 ≤ (M 82 ((t).toNat)) ∧ (M 82 ((t).toNat)) ≤ 4))))]) rfl (Nat.le_of_ble_eq_true rfl) dX12_rule_42 rfl ?_
        refine g_iconst cx (pc2 := 44) dX12_rule_43 rfl ?_
        refine g_istore cx (pc2 := 46) (lv2 := [(0, .ref 77), (1, .int (iI t)), (2, .int (iI r)), (3, .int (iI (b2 (1 ≤ (M 82 ((t).toNat)) ∧ (M 82 ((t).toNat)) ≤ 4)))), (4, .int (iI 0))]) rfl (Nat.le_of_ble_eq_true rfl) dX12_rule_44 rfl ?_
        have L46 : ∀ (fu : Nat) (k : Int) (g : Int), (0 ≤ k ∧ k ≤ (M 82 t.toNat)) → ((g = 1 ∧ (1 ≤ (M 82 t.toNat) ∧ (M 82 t.toNat) ≤ 4) ∧ ∀ j : Nat, (j : Int) < k → ¬ ltO (M 83 (120 * t.toNat + j)) = -9) ∨ (g = 0 ∧ ¬ vRX M t)) → ((M 82 t.toNat) - k).toNat ≤ fu → G X 46 [(0, .ref 77), (1, .int (iI t)), (2, .int (iI r)), (3, .int (iI g)), (4, .int (iI k))] [] (ltP M t k) := by
          intro fu
          induction fu using Nat.strongRecOn with
          | _ fu ih46 =>
            intro k g hk hg hk46
            have e82 : ltP M t k 82 t.toNat = (M 82 t.toNat) := by rw [ltP_off _ _ _ (by decide)]
            have hcb := hq2.2 k.toNat
            have hlb := ltO_b (M 83 (120 * t.toNat + k.toNat))
            have hgx : ¬ g = 0 → (1 ≤ (M 82 t.toNat) ∧ (M 82 t.toNat) ≤ 4) ∧ ∀ j : Nat, (j : Int) < k → ¬ ltO (M 83 (120 * t.toNat + j)) = -9 := fun w => by rcases hg with q | q; exact q.2; omega
            refine g_iload cx (pc2 := 48) 4 rfl dX12_rule_46 rfl ?_
            refine g_aload_n cx (pc2 := 49) 0 rfl dX12_rule_48 rfl ?_
            refine g_get cx (pc2 := 52) (ci := 12) (k0 := 77) (j := 8) (v := .ref 82) rfl iwX12 rfl (lt_lit hn (Nat.le_of_ble_eq_true rfl)) rfl (Nat.le_of_ble_eq_true rfl) kf_X12_22 rfl rfl dX12_rule_49 rfl ?_
            refine g_iload_n cx (pc2 := 53) 1 rfl dX12_rule_52 rfl ?_
            refine g_iald cx (pc2 := 54) (k0 := 82) rfl (lt_lit hn (Nat.le_of_ble_eq_true rfl)) (by first | assumption | omega) (by first | assumption | omega) (Nat.le_of_ble_eq_true rfl) dX12_rule_53 rfl ?_
            refine g_rwi (y := iI ((ltP M t k) 82 ((t).toNat))) (congrArg iI (by simp [stM])) ?_
            refine g_rwi (y := iI (M 82 t.toNat)) (congrArg iI e82) ?_
            refine g_icmp_ge cx (pc2 := 57) (tgt := 102) ⟨(by first | assumption | omega), (by first | assumption | omega)⟩ dX12_rule_54 (by decide) rfl (fun h_4 => ?_) (fun h_4 => ?_)
            · skip
              refine g_iload_n cx (pc2 := 103) 3 rfl dX12_rule_102 rfl ?_
              refine g_if_ne cx (pc2 := 106) (tgt := 109) (by first | assumption | omega) dX12_rule_103 (by decide) rfl (fun h_5 => ?_) (fun h_5 => ?_)
              · skip
                skip
                have hgd : vRX M t := by rcases hg with q | q; exact ⟨q.2.1, fun j hj => q.2.2 j (by omega)⟩; omega
                have hVT : RV (rdT M t) := hV.of rfl rfl rfl rfl rfl rfl
                have hqT : (0 ≤ rdT M t 77 29 ∧ rdT M t 77 29 ≤ 4) ∧ ∀ j : Nat, j < 4 → ir (rdT M t 93 j) := ⟨by show 0 ≤ (M 82 t.toNat) ∧ (M 82 t.toNat) ≤ 4; omega, fun j hj => rdT_ir hgd h93 j hj⟩
                refine g_aload_n cx (pc2 := 110) 0 rfl dX12_rule_109 rfl ?_
                refine g_aload_n cx (pc2 := 111) 0 rfl dX12_rule_110 rfl ?_
                refine g_get cx (pc2 := 114) (ci := 12) (k0 := 77) (j := 8) (v := .ref 82) rfl iwX12 rfl (lt_lit hn (Nat.le_of_ble_eq_true rfl)) rfl (Nat.le_of_ble_eq_true rfl) kf_X12_22 rfl rfl dX12_rule_111 rfl ?_
                refine g_iload_n cx (pc2 := 115) 1 rfl dX12_rule_114 rfl ?_
                refine g_iald cx (pc2 := 116) (k0 := 82) rfl (lt_lit hn (Nat.le_of_ble_eq_true rfl)) (by first | assumption | omega) (by first | assumption | omega) (Nat.le_of_ble_eq_true rfl) dX12_rule_115 rfl ?_
                refine g_rwi (y := iI ((ltP M t k) 82 ((t).toNat))) (congrArg iI (by simp [stM])) ?_
                refine g_rwi (y := iI (M 82 t.toNat)) (congrArg iI e82) ?_
                refine g_puti cx (pc2 := 119) (ci := 12) (k0 := 77) (j := 29) rfl iwX12 rfl (lt_lit hn (Nat.le_of_ble_eq_true rfl)) rfl (Nat.le_of_ble_eq_true rfl) kf_X12_272 rfl tyX12_ok nmX12 rfl rfl dX12_rule_116 rfl ?_
                refine g_M (M2 := (rdT M t)) (by rw [show k = (M 82 t.toNat) by omega]; rfl) ?_
                refine g_aload_n cx (pc2 := 120) 0 rfl dX12_rule_119 rfl ?_
                refine g_callV cx (pc2 := 123) (st := []) (As := []) (k0 := 77) (ci := 12) (c_X12_ruled (M := (rdT M t)) hn (by exact hVT) (by exact hqT)) wM_X12_ruled wV_X12_ruled kl_X12_284 rfl (lt_lit hn (Nat.le_of_ble_eq_true rfl)) rfl ⟨rfl, rfl, Nat.le_of_ble_eq_true rfl, Nat.le_of_ble_eq_true rfl⟩ (Nat.le_of_ble_eq_true rfl) cs rfl rfl dX12_rule_120 rfl ?_
                rintro _ M_6 ⟨z_6, rfl, h_6⟩
                have h120 := h_6
                have hwz := wsB_b (jbR_ok hVT) (n := (rdT M t 77 12).toNat) (by have := hV.1; show (M 77 12).toNat ≤ 8; omega) (rsF (rdT M t) (rdT M t 93) (rdT M t 77 29).toNat 8).2.2.1
                rw [← h120.2.1] at hwz
                refine g_istore cx (pc2 := 125) (lv2 := [(0, .ref 77), (1, .int (iI t)), (2, .int (iI r)), (3, .int (iI g)), (4, .int (iI z_6))]) rfl (Nat.le_of_ble_eq_true rfl) dX12_rule_123 rfl ?_
                refine g_aload_n cx (pc2 := 126) 0 rfl dX12_rule_125 rfl ?_
                refine g_iload_n cx (pc2 := 127) 2 rfl dX12_rule_126 rfl ?_
                refine g_callV cx (pc2 := 130) (st := []) (As := [.int (iI r)]) (k0 := 77) (ci := 12) (c_X12_lineToRow (M := M_6) hn r (by first | assumption | omega) (by have q := h120.2.2.1.1; have q2 := h120.2.2.2; omega)) wM_X12_lineToRow wV_X12_lineToRow kl_X12_269 rfl (lt_lit hn (Nat.le_of_ble_eq_true rfl)) rfl ⟨rfl, rfl, Nat.le_of_ble_eq_true rfl, Nat.le_of_ble_eq_true rfl⟩ (Nat.le_of_ble_eq_true rfl) cs rfl rfl dX12_rule_127 rfl ?_
                rintro _ _ ⟨rfl, rfl⟩
                refine g_iload cx (pc2 := 132) 4 rfl dX12_rule_130 rfl ?_
                exact g_iret cx qx dX12_rule_132 ⟨_, rfl, by exact Or.inr (Or.inr (Or.inr ⟨⟨hT4, hR6⟩, by omega, hgd, _, h120, rfl⟩))⟩
              · skip
                have hbad : ¬ vRX M t := by rcases hg with q | q; omega; exact q.2
                refine g_bipush cx (pc2 := 108) ⟨by decide, by decide⟩ dX12_rule_106 rfl ?_
                exact g_iret cx qx dX12_rule_108 ⟨_, rfl, by exact Or.inr (Or.inr (Or.inl ⟨⟨hT4, hR6⟩, by omega, hbad, rfl, fun a ha => ltP_off _ _ _ ha⟩))⟩
            · skip
              refine g_iload_n cx (pc2 := 58) 3 rfl dX12_rule_57 rfl ?_
              refine g_if_eq cx (pc2 := 61) (tgt := 102) (by first | assumption | omega) dX12_rule_58 (by decide) rfl (fun h_7 => ?_) (fun h_7 => ?_)
              · skip
                refine g_iload_n cx (pc2 := 103) 3 rfl dX12_rule_102 rfl ?_
                refine g_if_ne cx (pc2 := 106) (tgt := 109) (by first | assumption | omega) dX12_rule_103 (by decide) rfl (fun h_8 => ?_) (fun h_8 => ?_)
                · skip
                  skip
                  have hgd : vRX M t := by rcases hg with q | q; exact ⟨q.2.1, fun j hj => q.2.2 j (by omega)⟩; omega
                  have hVT : RV (rdT M t) := hV.of rfl rfl rfl rfl rfl rfl
                  have hqT : (0 ≤ rdT M t 77 29 ∧ rdT M t 77 29 ≤ 4) ∧ ∀ j : Nat, j < 4 → ir (rdT M t 93 j) := ⟨by show 0 ≤ (M 82 t.toNat) ∧ (M 82 t.toNat) ≤ 4; omega, fun j hj => rdT_ir hgd h93 j hj⟩
                  refine g_aload_n cx (pc2 := 110) 0 rfl dX12_rule_109 rfl ?_
                  refine g_aload_n cx (pc2 := 111) 0 rfl dX12_rule_110 rfl ?_
                  refine g_get cx (pc2 := 114) (ci := 12) (k0 := 77) (j := 8) (v := .ref 82) rfl iwX12 rfl (lt_lit hn (Nat.le_of_ble_eq_true rfl)) rfl (Nat.le_of_ble_eq_true rfl) kf_X12_22 rfl rfl dX12_rule_111 rfl ?_
                  refine g_iload_n cx (pc2 := 115) 1 rfl dX12_rule_114 rfl ?_
                  refine g_iald cx (pc2 := 116) (k0 := 82) rfl (lt_lit hn (Nat.le_of_ble_eq_true rfl)) (by first | assumption | omega) (by first | assumption | omega) (Nat.le_of_ble_eq_true rfl) dX12_rule_115 rfl ?_
                  refine g_rwi (y := iI ((ltP M t k) 82 ((t).toNat))) (congrArg iI (by simp [stM])) ?_
                  refine g_rwi (y := iI (M 82 t.toNat)) (congrArg iI e82) ?_
                  refine g_puti cx (pc2 := 119) (ci := 12) (k0 := 77) (j := 29) rfl iwX12 rfl (lt_lit hn (Nat.le_of_ble_eq_true rfl)) rfl (Nat.le_of_ble_eq_true rfl) kf_X12_272 rfl tyX12_ok nmX12 rfl rfl dX12_rule_116 rfl ?_
                  refine g_M (M2 := (rdT M t)) (by rw [show k = (M 82 t.toNat) by omega]; rfl) ?_
                  refine g_aload_n cx (pc2 := 120) 0 rfl dX12_rule_119 rfl ?_
                  refine g_callV cx (pc2 := 123) (st := []) (As := []) (k0 := 77) (ci := 12) (c_X12_ruled (M := (rdT M t)) hn (by exact hVT) (by exact hqT)) wM_X12_ruled wV_X12_ruled kl_X12_284 rfl (lt_lit hn (Nat.le_of_ble_eq_true rfl)) rfl ⟨rfl, rfl, Nat.le_of_ble_eq_true rfl, Nat.le_of_ble_eq_true rfl⟩ (Nat.le_of_ble_eq_true rfl) cs rfl rfl dX12_rule_120 rfl ?_
                  rintro _ M_9 ⟨z_9, rfl, h_9⟩
                  have h120 := h_9
                  have hwz := wsB_b (jbR_ok hVT) (n := (rdT M t 77 12).toNat) (by have := hV.1; show (M 77 12).toNat ≤ 8; omega) (rsF (rdT M t) (rdT M t 93) (rdT M t 77 29).toNat 8).2.2.1
                  rw [← h120.2.1] at hwz
                  refine g_istore cx (pc2 := 125) (lv2 := [(0, .ref 77), (1, .int (iI t)), (2, .int (iI r)), (3, .int (iI g)), (4, .int (iI z_9))]) rfl (Nat.le_of_ble_eq_true rfl) dX12_rule_123 rfl ?_
                  refine g_aload_n cx (pc2 := 126) 0 rfl dX12_rule_125 rfl ?_
                  refine g_iload_n cx (pc2 := 127) 2 rfl dX12_rule_126 rfl ?_
                  refine g_callV cx (pc2 := 130) (st := []) (As := [.int (iI r)]) (k0 := 77) (ci := 12) (c_X12_lineToRow (M := M_9) hn r (by first | assumption | omega) (by have q := h120.2.2.1.1; have q2 := h120.2.2.2; omega)) wM_X12_lineToRow wV_X12_lineToRow kl_X12_269 rfl (lt_lit hn (Nat.le_of_ble_eq_true rfl)) rfl ⟨rfl, rfl, Nat.le_of_ble_eq_true rfl, Nat.le_of_ble_eq_true rfl⟩ (Nat.le_of_ble_eq_true rfl) cs rfl rfl dX12_rule_127 rfl ?_
                  rintro _ _ ⟨rfl, rfl⟩
                  refine g_iload cx (pc2 := 132) 4 rfl dX12_rule_130 rfl ?_
                  exact g_iret cx qx dX12_rule_132 ⟨_, rfl, by exact Or.inr (Or.inr (Or.inr ⟨⟨hT4, hR6⟩, by omega, hgd, _, h120, rfl⟩))⟩
                · skip
                  have hbad : ¬ vRX M t := by rcases hg with q | q; omega; exact q.2
                  refine g_bipush cx (pc2 := 108) ⟨by decide, by decide⟩ dX12_rule_106 rfl ?_
                  exact g_iret cx qx dX12_rule_108 ⟨_, rfl, by exact Or.inr (Or.inr (Or.inl ⟨⟨hT4, hR6⟩, by omega, hbad, rfl, fun a ha => ltP_off _ _ _ ha⟩))⟩
              · skip
                have L95 : ∀ (g2 : Int), ((g2 = 1 ∧ ¬ ltO (M 83 (120 * t.toNat + k.toNat)) = -9) ∨ (g2 = 0 ∧ ltO (M 83 (120 * t.toNat + k.toNat)) = -9)) → G X 95 [(0, .ref 77), (1, .int (iI t)), (2, .int (iI r)), (4, .int (iI k))] [.int (iI g2)] (ltP M t (k + 1)) := by
                  intro g2 hg2
                  have hg1 := hgx (by assumption)
                  refine g_istore_n cx (pc2 := 96) (lv2 := [(0, .ref 77), (1, .int (iI t)), (2, .int (iI r)), (3, .int (iI g2)), (4, .int (iI k))]) rfl (Nat.le_of_ble_eq_true rfl) dX12_rule_95 rfl ?_
                  refine g_iinc cx (pc2 := 99) 4 rfl (lv2 := [(0, .ref 77), (1, .int (iI t)), (2, .int (iI r)), (3, .int (iI g2)), (4, .int (iI (k + 1)))]) rfl (Nat.le_of_ble_eq_true rfl) dX12_rule_96 rfl ?_
                  refine g_goto cx (tgt := 46) dX12_rule_99 (by decide) ?_
                  exact ih46 (((M 82 t.toNat) - (k + 1)).toNat) (by omega) (k + 1) g2 (by first | assumption | omega) (by rcases hg2 with q | q; (refine Or.inl ⟨q.1, hg1.1, fun j hj => ?_⟩; rcases (show (j : Int) < k ∨ j = k.toNat by omega) with w | w; exact hg1.2 j w; (rw [w]; exact q.2)); exact Or.inr ⟨q.1, fun w => w.2 k.toNat (by omega) q.2⟩) (Nat.le_refl _)
                have hcb1 := hcb (by omega)
                have hg1 := hgx (by assumption)
                refine g_aload_n cx (pc2 := 62) 0 rfl dX12_rule_61 rfl ?_
                refine g_get cx (pc2 := 65) (ci := 12) (k0 := 77) (j := 28) (v := .ref 93) rfl iwX12 rfl (lt_lit hn (Nat.le_of_ble_eq_true rfl)) rfl (Nat.le_of_ble_eq_true rfl) kf_X12_56 rfl rfl dX12_rule_62 rfl ?_
                refine g_iload cx (pc2 := 67) 4 rfl dX12_rule_65 rfl ?_
                refine g_aload_n cx (pc2 := 68) 0 rfl dX12_rule_67 rfl ?_
                refine g_iload_n cx (pc2 := 69) 1 rfl dX12_rule_68 rfl ?_
                refine g_iload cx (pc2 := 71) 4 rfl dX12_rule_69 rfl ?_
                refine g_callV cx (pc2 := 74) (st := [.int (iI k), .ref 93]) (As := [.int (iI t), .int (iI k)]) (k0 := 77) (ci := 12) (c_X12_byteAt (M := (ltP M t k)) hn t k (by assumption) (by omega) (by first | assumption | omega)) wM_X12_byteAt wV_X12_byteAt kl_X12_128 rfl (lt_lit hn (Nat.le_of_ble_eq_true rfl)) rfl ⟨rfl, rfl, Nat.le_of_ble_eq_true rfl, Nat.le_of_ble_eq_true rfl⟩ (Nat.le_of_ble_eq_true rfl) cs rfl rfl dX12_rule_71 rfl ?_
                rintro _ _ ⟨rfl, rfl⟩
                refine g_rwi (y := iI (M 83 (120 * t.toNat + k.toNat))) (congrArg iI (by unfold btA; rw [e82, if_pos (by omega), ltP_off _ _ _ (by decide), show (120 * t + k).toNat = 120 * t.toNat + k.toNat by omega])) ?_
                refine g_callS cx (pc2 := 77) (st := [.int (iI k), .ref 93]) (As := [.int (iI (M 83 (120 * t.toNat + k.toNat)))]) (c_X12_letterOf (M := (ltP M t k)) hn (M 83 (120 * t.toNat + k.toNat)) (by first | assumption | omega)) wM_X12_letterOf wS_X12_letterOf kl_X12_281 ⟨rfl, rfl, Nat.le_of_ble_eq_true rfl, Nat.le_of_ble_eq_true rfl⟩ (Nat.le_of_ble_eq_true rfl) cs rfl rfl dX12_rule_74 rfl ?_
                rintro _ _ ⟨rfl, rfl⟩
                refine g_iast cx (pc2 := 78) (k0 := 93) rfl (lt_lit hn (Nat.le_of_ble_eq_true rfl)) (by first | assumption | omega) (by first | assumption | omega) (Nat.le_of_ble_eq_true rfl) dX12_rule_77 rfl ?_
                refine g_M (M2 := (ltP M t (k + 1))) (by exact ltP_s hk.1) ?_
                refine g_aload_n cx (pc2 := 79) 0 rfl dX12_rule_78 rfl ?_
                refine g_get cx (pc2 := 82) (ci := 12) (k0 := 77) (j := 28) (v := .ref 93) rfl iwX12 rfl (lt_lit hn (Nat.le_of_ble_eq_true rfl)) rfl (Nat.le_of_ble_eq_true rfl) kf_X12_56 rfl rfl dX12_rule_79 rfl ?_
                refine g_iload cx (pc2 := 84) 4 rfl dX12_rule_82 rfl ?_
                refine g_iald cx (pc2 := 85) (k0 := 93) rfl (lt_lit hn (Nat.le_of_ble_eq_true rfl)) (by first | assumption | omega) (by first | assumption | omega) (Nat.le_of_ble_eq_true rfl) dX12_rule_84 rfl ?_
                refine g_rwi (y := iI ((ltP M t (k + 1)) 93 ((k).toNat))) (congrArg iI (by simp [stM])) ?_
                refine g_rwi (y := iI (ltO (M 83 (120 * t.toNat + k.toNat)))) (congrArg iI (by show ltP M t (k + 1) 93 k.toNat = _; unfold ltP; rw [if_pos (by omega)])) ?_
                refine g_bipush cx (pc2 := 87) ⟨by decide, by decide⟩ dX12_rule_85 rfl ?_
                refine g_icmp_eq cx (pc2 := 90) (tgt := 94) ⟨(by first | assumption | omega), ⟨by decide, by decide⟩⟩ dX12_rule_87 (by decide) rfl (fun h_10 => ?_) (fun h_10 => ?_)
                · skip
                  refine g_iconst cx (pc2 := 95) dX12_rule_94 rfl ?_
                  refine g_sub (lv2 := [(0, .ref 77), (1, .int (iI t)), (2, .int (iI r)), (4, .int (iI k))]) [0, 1, 2, 4] rfl ?_
                  exact L95 0 (by first | exact Or.inl ⟨rfl, by assumption⟩ | exact Or.inr ⟨rfl, by assumption⟩)
                · skip
                  refine g_iconst cx (pc2 := 91) dX12_rule_90 rfl ?_
                  refine g_goto cx (tgt := 95) dX12_rule_91 (by decide) ?_
                  refine g_sub (lv2 := [(0, .ref 77), (1, .int (iI t)), (2, .int (iI r)), (4, .int (iI k))]) [0, 1, 2, 4] rfl ?_
                  exact L95 1 (by first | exact Or.inl ⟨rfl, by assumption⟩ | exact Or.inr ⟨rfl, by assumption⟩)
        refine g_M (M2 := (ltP M t 0)) (by exact ltP_0 M t) ?_
        exact L46 _ 0 (b2 (1 ≤ (M 82 ((t).toNat)) ∧ (M 82 ((t).toNat)) ≤ 4)) (by first | assumption | omega) (by by_cases q : 1 ≤ (M 82 t.toNat) ∧ (M 82 t.toNat) ≤ 4; exact Or.inl ⟨by unfold b2; rw [if_pos q], q, fun j hj => by omega⟩; exact Or.inr ⟨by unfold b2; rw [if_neg q], fun w => q w.1⟩) (Nat.le_refl _)
      · skip
        refine g_aload_n cx (pc2 := 26) 0 rfl dX12_rule_25 rfl ?_
        refine g_iconst cx (pc2 := 27) dX12_rule_26 rfl ?_
        refine g_callV cx (pc2 := 30) (st := []) (As := [.int (iI 1)]) (k0 := 77) (ci := 12) (c_X12_meets (M := M) hn 1 (by first | assumption | omega)) wM_X12_meets wV_X12_meets kl_X12_111 rfl (lt_lit hn (Nat.le_of_ble_eq_true rfl)) rfl ⟨rfl, rfl, Nat.le_of_ble_eq_true rfl, Nat.le_of_ble_eq_true rfl⟩ (Nat.le_of_ble_eq_true rfl) cs rfl rfl dX12_rule_27 rfl ?_
        rintro _ _ ⟨rfl, rfl⟩
        exact g_iret cx qx dX12_rule_30 ⟨_, rfl, by exact Or.inr (Or.inl ⟨⟨hT4, hR6⟩, by omega, rfl, rfl⟩)⟩
    · skip
      refine g_iconst cx (pc2 := 15) dX12_rule_14 rfl ?_
      exact g_iret cx qx dX12_rule_15 ⟨_, rfl, by exact Or.inl ⟨by first | exact Or.inl (by assumption) | exact Or.inr (by assumption), rfl, rfl⟩⟩
set_option maxHeartbeats 4000000 in
set_option maxRecDepth 100000 in
theorem c_X12_wise {n : Nat} (hn : NN n) {M : Mm} (hV : RV M) (h93 : ∀ j : Nat, j < 4 → ir (M 93 j)) : CT yX12_wise cX12_wise 7 (some .int) ({ frames := 5, cells := 0, slots := 0, locals := 121 }) n [.ref 77] M (pI (fun z M2 => xwiR M z M2)) := by
  refine CT.of (lv0 := [(0, .ref 77)]) (by decide +kernel) hn (fun _ => rfl) (fun _ => Nat.le_of_ble_eq_true rfl) (fun X cx cs qx => ?_)
  have cx : Cx X cX12_wise RX12 ({ frames := 5, cells := 0, slots := 0, locals := 121 }) 7 n := cx
  have hv1 := hV.1
  have hJo := jbR_ok hV
  refine g_bipush cx (pc2 := 2) ⟨by decide, by decide⟩ dX12_wise_0 rfl ?_
  refine g_istore_n cx (pc2 := 3) (lv2 := [(0, .ref 77), (1, .int (iI (-9)))]) rfl (Nat.le_of_ble_eq_true rfl) dX12_wise_2 rfl ?_
  refine g_iconst cx (pc2 := 4) dX12_wise_3 rfl ?_
  refine g_istore_n cx (pc2 := 5) (lv2 := [(0, .ref 77), (1, .int (iI (-9))), (2, .int (iI 0))]) rfl (Nat.le_of_ble_eq_true rfl) dX12_wise_4 rfl ?_
  refine g_iconst cx (pc2 := 6) dX12_wise_5 rfl ?_
  refine g_istore_n cx (pc2 := 7) (lv2 := [(0, .ref 77), (1, .int (iI (-9))), (2, .int (iI 0)), (3, .int (iI 0))]) rfl (Nat.le_of_ble_eq_true rfl) dX12_wise_6 rfl ?_
  have L7 : ∀ (fu : Nat) (c : Int) (x : Int) (y : Int) (U : Mm), (0 ≤ c ∧ c ≤ 30) → (x = (wuF M c.toNat).1 ∧ y = (wuF M c.toNat).2) → ((-9 ≤ x ∧ x ≤ 30) ∧ (0 ≤ y ∧ y ≤ 144)) → (∀ a, a ≠ 77 → a ≠ 89 → a ≠ 90 → a ≠ 93 → U a = M a) → (∀ b, b ≠ 23 → b ≠ 25 → b ≠ 29 → U 77 b = M 77 b) → (∀ j : Nat, j < 4 → ir (U 93 j)) → (30 - c).toNat ≤ fu → G X 7 [(0, .ref 77), (1, .int (iI x)), (2, .int (iI y)), (3, .int (iI c))] [] U := by
    intro fu
    induction fu using Nat.strongRecOn with
    | _ fu ih7 =>
      intro c x y U hc hxy hb hU1 hU2 hU3 hk7
      have hcd := fun q : c < 30 => cd_b (c := c) ⟨hc.1, q⟩
      have hst : wuF M (c + 1).toNat = if cdO c then (if x = -9 ∨ y < cdV M c then c else x, max y (cdV M c)) else (x, y) := by rw [show (c + 1).toNat = c.toNat + 1 by omega, wuF, Int.toNat_of_nonneg hc.1, ← hxy.1, ← hxy.2]; split; rfl; exact Prod.ext hxy.1.symm hxy.2.symm
      have hwv := wsB_b hJo (n := (M 77 12).toNat) (by omega) (rsF M (cdL c) (cdQ c) 8).2.2.1
      have hcV : cdV M c = wsB (jbR M) (M 77 12).toNat (rsF M (cdL c) (cdQ c) 8).2.2.1 := rfl
      rw [← hcV] at hwv
      refine g_iload_n cx (pc2 := 8) 3 rfl dX12_wise_7 rfl ?_
      refine g_bipush cx (pc2 := 10) ⟨by decide, by decide⟩ dX12_wise_8 rfl ?_
      refine g_icmp_ge cx (pc2 := 13) (tgt := 113) ⟨(by first | assumption | omega), ⟨by decide, by decide⟩⟩ dX12_wise_10 (by decide) rfl (fun h_1 => ?_) (fun h_1 => ?_)
      · skip
        refine g_aload_n cx (pc2 := 114) 0 rfl dX12_wise_113 rfl ?_
        refine g_iload_n cx (pc2 := 115) 2 rfl dX12_wise_114 rfl ?_
        refine g_iload_n cx (pc2 := 116) 1 rfl dX12_wise_115 rfl ?_
        refine g_callV cx (pc2 := 119) (st := []) (As := [.int (iI y), .int (iI x)]) (k0 := 77) (ci := 12) (c_X12_tells (M := U) hn y x) wM_X12_tells wV_X12_tells kl_X12_119 rfl (lt_lit hn (Nat.le_of_ble_eq_true rfl)) rfl ⟨rfl, rfl, Nat.le_of_ble_eq_true rfl, Nat.le_of_ble_eq_true rfl⟩ (Nat.le_of_ble_eq_true rfl) cs rfl rfl dX12_wise_116 rfl ?_
        rintro _ _ ⟨rfl, rfl⟩
        exact g_iret cx qx dX12_wise_119 ⟨_, rfl, by have e : c.toNat = 30 := (by omega); rw [e] at hxy; exact ⟨hxy.1, U, hU1, hU2, by rw [hxy.2]⟩⟩
      · skip
        have L107 : ∀ (x3 : Int) (y3 : Int) (T : Mm), (x3 = (wuF M (c + 1).toNat).1 ∧ y3 = (wuF M (c + 1).toNat).2) → ((-9 ≤ x3 ∧ x3 ≤ 30) ∧ (0 ≤ y3 ∧ y3 ≤ 144)) → (∀ a, a ≠ 77 → a ≠ 89 → a ≠ 90 → a ≠ 93 → T a = M a) → (∀ b, b ≠ 23 → b ≠ 25 → b ≠ 29 → T 77 b = M 77 b) → (∀ j : Nat, j < 4 → ir (T 93 j)) → G X 107 [(0, .ref 77), (1, .int (iI x3)), (2, .int (iI y3)), (3, .int (iI c))] [] T := by
          intro x3 y3 T hxy3 hb3 hT1 hT2 hT3
          refine g_iinc cx (pc2 := 110) 3 rfl (lv2 := [(0, .ref 77), (1, .int (iI x3)), (2, .int (iI y3)), (3, .int (iI (c + 1)))]) rfl (Nat.le_of_ble_eq_true rfl) dX12_wise_107 rfl ?_
          refine g_goto cx (tgt := 7) dX12_wise_110 (by decide) ?_
          exact ih7 ((30 - (c + 1)).toNat) (by omega) (c + 1) x3 y3 T (by first | assumption | omega) (by exact hxy3) (by exact hb3) (by exact hT1) (by exact hT2) (by exact hT3) (Nat.le_refl _)
        have L27 : ∀ (a : Int), (a = cdA c) → G X 27 [(0, .ref 77), (1, .int (iI x)), (2, .int (iI y)), (3, .int (iI c))] [.int (iI a)] U := by
          intro a ha
          refine g_istore cx (pc2 := 29) (lv2 := [(0, .ref 77), (1, .int (iI x)), (2, .int (iI y)), (3, .int (iI c)), (4, .int (iI a))]) rfl (Nat.le_of_ble_eq_true rfl) dX12_wise_27 rfl ?_
          refine g_iload_n cx (pc2 := 30) 3 rfl dX12_wise_29 rfl ?_
          refine g_iconst cx (pc2 := 31) dX12_wise_30 rfl ?_
          refine g_irem cx (pc2 := 32) (by exact ⟨⟨by omega, by omega⟩, ⟨by decide, by decide⟩, by decide, Or.inr (by decide)⟩) dX12_wise_31 rfl ?_
          refine g_rwi (y := iI (cdB c)) (rfl) ?_
          refine g_istore cx (pc2 := 34) (lv2 := [(0, .ref 77), (1, .int (iI x)), (2, .int (iI y)), (3, .int (iI c)), (4, .int (iI a)), (5, .int (iI (cdB c)))]) rfl (Nat.le_of_ble_eq_true rfl) dX12_wise_32 rfl ?_
          refine g_iload_n cx (pc2 := 35) 3 rfl dX12_wise_34 rfl ?_
          refine g_iconst cx (pc2 := 36) dX12_wise_35 rfl ?_
          refine g_icmp_lt cx (pc2 := 39) (tgt := 46) ⟨(by first | assumption | omega), ⟨by decide, by decide⟩⟩ dX12_wise_36 (by decide) rfl (fun h_2 => ?_) (fun h_2 => ?_)
          · skip
            refine g_aload_n cx (pc2 := 47) 0 rfl dX12_wise_46 rfl ?_
            refine g_get cx (pc2 := 50) (ci := 12) (k0 := 77) (j := 28) (v := .ref 93) rfl iwX12 rfl (lt_lit hn (Nat.le_of_ble_eq_true rfl)) rfl (Nat.le_of_ble_eq_true rfl) kf_X12_56 rfl rfl dX12_wise_47 rfl ?_
            refine g_iconst cx (pc2 := 51) dX12_wise_50 rfl ?_
            refine g_iload cx (pc2 := 53) 4 rfl dX12_wise_51 rfl ?_
            refine g_iast cx (pc2 := 54) (k0 := 93) rfl (lt_lit hn (Nat.le_of_ble_eq_true rfl)) (by first | assumption | omega) (by first | assumption | omega) (Nat.le_of_ble_eq_true rfl) dX12_wise_53 rfl ?_
            refine g_aload_n cx (pc2 := 55) 0 rfl dX12_wise_54 rfl ?_
            refine g_get cx (pc2 := 58) (ci := 12) (k0 := 77) (j := 28) (v := .ref 93) rfl iwX12 rfl (lt_lit hn (Nat.le_of_ble_eq_true rfl)) rfl (Nat.le_of_ble_eq_true rfl) kf_X12_56 rfl rfl dX12_wise_55 rfl ?_
            refine g_iconst cx (pc2 := 59) dX12_wise_58 rfl ?_
            refine g_iload cx (pc2 := 61) 5 rfl dX12_wise_59 rfl ?_
            refine g_iast cx (pc2 := 62) (k0 := 93) rfl (lt_lit hn (Nat.le_of_ble_eq_true rfl)) (by first | assumption | omega) (by first | assumption | omega) (Nat.le_of_ble_eq_true rfl) dX12_wise_61 rfl ?_
            have L73 : ∀ (w : Int), (w = ((cdQ c : Nat) : Int)) → G X 73 [(0, .ref 77), (1, .int (iI x)), (2, .int (iI y)), (3, .int (iI c)), (4, .int (iI a)), (5, .int (iI (cdB c)))] [.int (iI w), .ref 77] (stM (stM U 93 0 a) 93 1 (cdB c)) := by
              intro w hw
              refine g_puti cx (pc2 := 76) (ci := 12) (k0 := 77) (j := 29) rfl iwX12 rfl (lt_lit hn (Nat.le_of_ble_eq_true rfl)) rfl (Nat.le_of_ble_eq_true rfl) kf_X12_272 rfl tyX12_ok nmX12 rfl rfl dX12_wise_73 rfl ?_
              obtain ⟨VC, hVCe⟩ : ∃ VC, VC = stM (stM (stM U 93 0 a) 93 1 (cdB c)) 77 29 w := ⟨_, rfl⟩
              have h1C : ∀ a, a ≠ 77 → a ≠ 93 → VC a = U a := fun a h1 h2 => by rw [hVCe, stM_off h1, stM_off h2, stM_off h2]
              have h2C : ∀ b, b ≠ 29 → VC 77 b = U 77 b := fun b hb => by rw [hVCe, stM_ne _ _ (Or.inr hb), stM_off (by decide), stM_off (by decide)]
              have hQb : cdQ c = 1 ∨ cdQ c = 2 := by unfold cdQ; split <;> simp
              have h93C : ∀ j, VC 93 j = if j = 1 then cdB c else if j = 0 then cdA c else U 93 j := fun j => by rw [hVCe, stM_off (by decide), ha]; unfold stM; simp
              have h29C : VC 77 29 = w := by rw [hVCe, stM_at]
              have hVC : RV VC := hV.of ((h1C 84 (by decide) (by decide)).trans (hU1 84 (by decide) (by decide) (by decide) (by decide))) ((h1C 85 (by decide) (by decide)).trans (hU1 85 (by decide) (by decide) (by decide) (by decide))) ((h1C 86 (by decide) (by decide)).trans (hU1 86 (by decide) (by decide) (by decide) (by decide))) ((h2C 10 (by decide)).trans (hU2 10 (by decide) (by decide) (by decide))) ((h2C 12 (by decide)).trans (hU2 12 (by decide) (by decide) (by decide))) ((h2C 15 (by decide)).trans (hU2 15 (by decide) (by decide) (by decide)))
              have hqC : (0 ≤ VC 77 29 ∧ VC 77 29 ≤ 4) ∧ ∀ j : Nat, j < 4 → ir (VC 93 j) := ⟨by rw [h29C, hw]; omega, fun j hj => by rw [h93C]; split; exact ⟨by omega, by omega⟩; split; exact ⟨by omega, by omega⟩; exact hU3 j hj⟩
              have hrsC := rsF_cong (M := M) (M2 := VC) (l1 := cdL c) (l2 := VC 93) (q := cdQ c) ((h1C 84 (by decide) (by decide)).trans (hU1 84 (by decide) (by decide) (by decide) (by decide))) ((h1C 85 (by decide) (by decide)).trans (hU1 85 (by decide) (by decide) (by decide) (by decide))) ((h2C 12 (by decide)).trans (hU2 12 (by decide) (by decide) (by decide))) ((h2C 15 (by decide)).trans (hU2 15 (by decide) (by decide) (by decide))) (fun j hj => by rw [h93C]; unfold cdL; rcases (show j = 0 ∨ j = 1 by omega) with z | z <;> subst z <;> simp) 8
              have hjC : jbR VC = jbR M := jbR_off ((h1C 84 (by decide) (by decide)).trans (hU1 84 (by decide) (by decide) (by decide) (by decide))) ((h1C 85 (by decide) (by decide)).trans (hU1 85 (by decide) (by decide) (by decide) (by decide)))
              have h12C := (h2C 12 (by decide)).trans (hU2 12 (by decide) (by decide) (by decide))
              refine g_M (M2 := VC) (by exact hVCe.symm) ?_
              refine g_aload_n cx (pc2 := 77) 0 rfl dX12_wise_76 rfl ?_
              refine g_callV cx (pc2 := 80) (st := []) (As := []) (k0 := 77) (ci := 12) (c_X12_ruled (M := VC) hn (by exact hVC) (by exact hqC)) wM_X12_ruled wV_X12_ruled kl_X12_284 rfl (lt_lit hn (Nat.le_of_ble_eq_true rfl)) rfl ⟨rfl, rfl, Nat.le_of_ble_eq_true rfl, Nat.le_of_ble_eq_true rfl⟩ (Nat.le_of_ble_eq_true rfl) cs rfl rfl dX12_wise_77 rfl ?_
              rintro _ M_3 ⟨z_3, rfl, h_3⟩
              have hW := h_3
              obtain ⟨W, hWe⟩ : ∃ W, W = M_3 := ⟨_, rfl⟩
              rw [← hWe] at hW
              have hzv : z_3 = cdV M c := by rw [hW.2.1, hjC, h12C, h29C, hw, show (((cdQ c : Nat) : Int)).toNat = cdQ c from rfl, hrsC]; rfl
              refine g_rwi (y := iI (cdV M c)) (congrArg iI hzv) ?_
              refine g_M (M2 := W) (by exact hWe.symm) ?_
              refine g_istore cx (pc2 := 82) (lv2 := [(0, .ref 77), (1, .int (iI x)), (2, .int (iI y)), (3, .int (iI c)), (4, .int (iI a)), (5, .int (iI (cdB c))), (6, .int (iI (cdV M c)))]) rfl (Nat.le_of_ble_eq_true rfl) dX12_wise_80 rfl ?_
              have L99 : ∀ (x2 : Int), (x2 = if x = -9 ∨ y < cdV M c then c else x) → G X 99 [(0, .ref 77), (1, .int (iI x)), (2, .int (iI y)), (3, .int (iI c)), (6, .int (iI (cdV M c)))] [.int (iI x2)] W := by
                intro x2 hx2
                refine g_istore_n cx (pc2 := 100) (lv2 := [(0, .ref 77), (1, .int (iI x2)), (2, .int (iI y)), (3, .int (iI c)), (6, .int (iI (cdV M c)))]) rfl (Nat.le_of_ble_eq_true rfl) dX12_wise_99 rfl ?_
                refine g_iload_n cx (pc2 := 101) 2 rfl dX12_wise_100 rfl ?_
                refine g_iload cx (pc2 := 103) 4 rfl dX12_wise_101 rfl ?_
                refine g_callS cx (pc2 := 106) (st := []) (As := [.int (iI y), .int (iI (cdV M c))]) (c_X12_greater (M := W) hn y (cdV M c) (by first | assumption | omega) (by first | assumption | omega)) wM_X12_greater wS_X12_greater kl_X12_207 ⟨rfl, rfl, Nat.le_of_ble_eq_true rfl, Nat.le_of_ble_eq_true rfl⟩ (Nat.le_of_ble_eq_true rfl) cs rfl rfl dX12_wise_103 rfl ?_
                rintro _ _ ⟨rfl, rfl⟩
                refine g_istore_n cx (pc2 := 107) (lv2 := [(0, .ref 77), (1, .int (iI x2)), (2, .int (iI (max y (cdV M c)))), (3, .int (iI c)), (6, .int (iI (cdV M c)))]) rfl (Nat.le_of_ble_eq_true rfl) dX12_wise_106 rfl ?_
                refine g_sub (lv2 := [(0, .ref 77), (1, .int (iI x2)), (2, .int (iI (max y (cdV M c)))), (3, .int (iI c))]) [0, 1, 2, 3] rfl ?_
                exact L107 x2 (max y (cdV M c)) W (by rw [hst]; first | (rw [if_neg (fun q => q.elim (fun w => by omega) (fun w => w (by omega)))]; exact ⟨rfl, rfl⟩) | (rw [if_pos (by first | exact Or.inl (by omega) | exact Or.inr (by omega))]; exact ⟨hx2, rfl⟩)) (by first | exact hb | (rw [hx2]; refine ⟨?_, by omega⟩; split <;> omega)) (by first | exact hU1 | (intro a q1 q2 q3 q4; rw [hW.1.1 a q1 q2 q3, h1C a q1 q4]; exact hU1 a q1 q2 q3 q4)) (by first | exact hU2 | (intro b q1 q2 q3; rw [hW.1.2 b q1 q2, h2C b q3]; exact hU2 b q1 q2 q3)) (by first | exact hU3 | (intro j hj; rw [hW.1.1 93 (by decide) (by decide) (by decide)]; exact hqC.2 j hj))
              refine g_iload_n cx (pc2 := 83) 1 rfl dX12_wise_82 rfl ?_
              refine g_bipush cx (pc2 := 85) ⟨by decide, by decide⟩ dX12_wise_83 rfl ?_
              refine g_icmp_eq cx (pc2 := 88) (tgt := 94) ⟨(by first | assumption | omega), ⟨by decide, by decide⟩⟩ dX12_wise_85 (by decide) rfl (fun h_4 => ?_) (fun h_4 => ?_)
              · skip
                refine g_iload_n cx (pc2 := 95) 3 rfl dX12_wise_94 rfl ?_
                refine g_goto cx (tgt := 99) dX12_wise_95 (by decide) ?_
                refine g_sub (lv2 := [(0, .ref 77), (1, .int (iI x)), (2, .int (iI y)), (3, .int (iI c)), (6, .int (iI (cdV M c)))]) [0, 1, 2, 3, 6] rfl ?_
                exact L99 c (by first | (rw [if_pos (by omega)]; done) | (rw [if_neg (by omega)]; done))
              · skip
                refine g_iload cx (pc2 := 90) 6 rfl dX12_wise_88 rfl ?_
                refine g_iload_n cx (pc2 := 91) 2 rfl dX12_wise_90 rfl ?_
                refine g_icmp_le cx (pc2 := 94) (tgt := 98) ⟨(by first | assumption | omega), (by first | assumption | omega)⟩ dX12_wise_91 (by decide) rfl (fun h_5 => ?_) (fun h_5 => ?_)
                · skip
                  refine g_iload_n cx (pc2 := 99) 1 rfl dX12_wise_98 rfl ?_
                  refine g_sub (lv2 := [(0, .ref 77), (1, .int (iI x)), (2, .int (iI y)), (3, .int (iI c)), (6, .int (iI (cdV M c)))]) [0, 1, 2, 3, 6] rfl ?_
                  exact L99 x (by first | (rw [if_pos (by omega)]; done) | (rw [if_neg (by omega)]; done))
                · skip
                  refine g_iload_n cx (pc2 := 95) 3 rfl dX12_wise_94 rfl ?_
                  refine g_goto cx (tgt := 99) dX12_wise_95 (by decide) ?_
                  refine g_sub (lv2 := [(0, .ref 77), (1, .int (iI x)), (2, .int (iI y)), (3, .int (iI c)), (6, .int (iI (cdV M c)))]) [0, 1, 2, 3, 6] rfl ?_
                  exact L99 c (by first | (rw [if_pos (by omega)]; done) | (rw [if_neg (by omega)]; done))
            refine g_aload_n cx (pc2 := 63) 0 rfl dX12_wise_62 rfl ?_
            refine g_iload_n cx (pc2 := 64) 3 rfl dX12_wise_63 rfl ?_
            refine g_iconst cx (pc2 := 65) dX12_wise_64 rfl ?_
            refine g_icmp_ge cx (pc2 := 68) (tgt := 72) ⟨(by first | assumption | omega), ⟨by decide, by decide⟩⟩ dX12_wise_65 (by decide) rfl (fun h_6 => ?_) (fun h_6 => ?_)
            · skip
              refine g_iconst cx (pc2 := 73) dX12_wise_72 rfl ?_
              exact L73 2 (by unfold cdQ; first | (rw [if_pos (by omega)]; rfl) | (rw [if_neg (by omega)]; rfl))
            · skip
              refine g_iconst cx (pc2 := 69) dX12_wise_68 rfl ?_
              refine g_goto cx (tgt := 73) dX12_wise_69 (by decide) ?_
              exact L73 1 (by unfold cdQ; first | (rw [if_pos (by omega)]; rfl) | (rw [if_neg (by omega)]; rfl))
          · skip
            refine g_iload cx (pc2 := 41) 4 rfl dX12_wise_39 rfl ?_
            refine g_iload cx (pc2 := 43) 5 rfl dX12_wise_41 rfl ?_
            refine g_icmp_eq cx (pc2 := 46) (tgt := 107) ⟨(by first | assumption | omega), (by first | assumption | omega)⟩ dX12_wise_43 (by decide) rfl (fun h_7 => ?_) (fun h_7 => ?_)
            · skip
              refine g_sub (lv2 := [(0, .ref 77), (1, .int (iI x)), (2, .int (iI y)), (3, .int (iI c))]) [0, 1, 2, 3] rfl ?_
              exact L107 x y U (by rw [hst]; first | (rw [if_neg (fun q => q.elim (fun w => by omega) (fun w => w (by omega)))]; exact ⟨rfl, rfl⟩) | (rw [if_pos (by first | exact Or.inl (by omega) | exact Or.inr (by omega))]; exact ⟨hx2, rfl⟩)) (by first | exact hb | (rw [hx2]; refine ⟨?_, by omega⟩; split <;> omega)) (by first | exact hU1 | (intro a q1 q2 q3 q4; rw [hW.1.1 a q1 q2 q3, h1C a q1 q4]; exact hU1 a q1 q2 q3 q4)) (by first | exact hU2 | (intro b q1 q2 q3; rw [hW.1.2 b q1 q2, h2C b q3]; exact hU2 b q1 q2 q3)) (by first | exact hU3 | (intro j hj; rw [hW.1.1 93 (by decide) (by decide) (by decide)]; exact hqC.2 j hj))
            · skip
              refine g_aload_n cx (pc2 := 47) 0 rfl dX12_wise_46 rfl ?_
              refine g_get cx (pc2 := 50) (ci := 12) (k0 := 77) (j := 28) (v := .ref 93) rfl iwX12 rfl (lt_lit hn (Nat.le_of_ble_eq_true rfl)) rfl (Nat.le_of_ble_eq_true rfl) kf_X12_56 rfl rfl dX12_wise_47 rfl ?_
              refine g_iconst cx (pc2 := 51) dX12_wise_50 rfl ?_
              refine g_iload cx (pc2 := 53) 4 rfl dX12_wise_51 rfl ?_
              refine g_iast cx (pc2 := 54) (k0 := 93) rfl (lt_lit hn (Nat.le_of_ble_eq_true rfl)) (by first | assumption | omega) (by first | assumption | omega) (Nat.le_of_ble_eq_true rfl) dX12_wise_53 rfl ?_
              refine g_aload_n cx (pc2 := 55) 0 rfl dX12_wise_54 rfl ?_
              refine g_get cx (pc2 := 58) (ci := 12) (k0 := 77) (j := 28) (v := .ref 93) rfl iwX12 rfl (lt_lit hn (Nat.le_of_ble_eq_true rfl)) rfl (Nat.le_of_ble_eq_true rfl) kf_X12_56 rfl rfl dX12_wise_55 rfl ?_
              refine g_iconst cx (pc2 := 59) dX12_wise_58 rfl ?_
              refine g_iload cx (pc2 := 61) 5 rfl dX12_wise_59 rfl ?_
              refine g_iast cx (pc2 := 62) (k0 := 93) rfl (lt_lit hn (Nat.le_of_ble_eq_true rfl)) (by first | assumption | omega) (by first | assumption | omega) (Nat.le_of_ble_eq_true rfl) dX12_wise_61 rfl ?_
              have L73 : ∀ (w : Int), (w = ((cdQ c : Nat) : Int)) → G X 73 [(0, .ref 77), (1, .int (iI x)), (2, .int (iI y)), (3, .int (iI c)), (4, .int (iI a)), (5, .int (iI (cdB c)))] [.int (iI w), .ref 77] (stM (stM U 93 0 a) 93 1 (cdB c)) := by
                intro w hw
                refine g_puti cx (pc2 := 76) (ci := 12) (k0 := 77) (j := 29) rfl iwX12 rfl (lt_lit hn (Nat.le_of_ble_eq_true rfl)) rfl (Nat.le_of_ble_eq_true rfl) kf_X12_272 rfl tyX12_ok nmX12 rfl rfl dX12_wise_73 rfl ?_
                obtain ⟨VC, hVCe⟩ : ∃ VC, VC = stM (stM (stM U 93 0 a) 93 1 (cdB c)) 77 29 w := ⟨_, rfl⟩
                have h1C : ∀ a, a ≠ 77 → a ≠ 93 → VC a = U a := fun a h1 h2 => by rw [hVCe, stM_off h1, stM_off h2, stM_off h2]
                have h2C : ∀ b, b ≠ 29 → VC 77 b = U 77 b := fun b hb => by rw [hVCe, stM_ne _ _ (Or.inr hb), stM_off (by decide), stM_off (by decide)]
                have hQb : cdQ c = 1 ∨ cdQ c = 2 := by unfold cdQ; split <;> simp
                have h93C : ∀ j, VC 93 j = if j = 1 then cdB c else if j = 0 then cdA c else U 93 j := fun j => by rw [hVCe, stM_off (by decide), ha]; unfold stM; simp
                have h29C : VC 77 29 = w := by rw [hVCe, stM_at]
                have hVC : RV VC := hV.of ((h1C 84 (by decide) (by decide)).trans (hU1 84 (by decide) (by decide) (by decide) (by decide))) ((h1C 85 (by decide) (by decide)).trans (hU1 85 (by decide) (by decide) (by decide) (by decide))) ((h1C 86 (by decide) (by decide)).trans (hU1 86 (by decide) (by decide) (by decide) (by decide))) ((h2C 10 (by decide)).trans (hU2 10 (by decide) (by decide) (by decide))) ((h2C 12 (by decide)).trans (hU2 12 (by decide) (by decide) (by decide))) ((h2C 15 (by decide)).trans (hU2 15 (by decide) (by decide) (by decide)))
                have hqC : (0 ≤ VC 77 29 ∧ VC 77 29 ≤ 4) ∧ ∀ j : Nat, j < 4 → ir (VC 93 j) := ⟨by rw [h29C, hw]; omega, fun j hj => by rw [h93C]; split; exact ⟨by omega, by omega⟩; split; exact ⟨by omega, by omega⟩; exact hU3 j hj⟩
                have hrsC := rsF_cong (M := M) (M2 := VC) (l1 := cdL c) (l2 := VC 93) (q := cdQ c) ((h1C 84 (by decide) (by decide)).trans (hU1 84 (by decide) (by decide) (by decide) (by decide))) ((h1C 85 (by decide) (by decide)).trans (hU1 85 (by decide) (by decide) (by decide) (by decide))) ((h2C 12 (by decide)).trans (hU2 12 (by decide) (by decide) (by decide))) ((h2C 15 (by decide)).trans (hU2 15 (by decide) (by decide) (by decide))) (fun j hj => by rw [h93C]; unfold cdL; rcases (show j = 0 ∨ j = 1 by omega) with z | z <;> subst z <;> simp) 8
                have hjC : jbR VC = jbR M := jbR_off ((h1C 84 (by decide) (by decide)).trans (hU1 84 (by decide) (by decide) (by decide) (by decide))) ((h1C 85 (by decide) (by decide)).trans (hU1 85 (by decide) (by decide) (by decide) (by decide)))
                have h12C := (h2C 12 (by decide)).trans (hU2 12 (by decide) (by decide) (by decide))
                refine g_M (M2 := VC) (by exact hVCe.symm) ?_
                refine g_aload_n cx (pc2 := 77) 0 rfl dX12_wise_76 rfl ?_
                refine g_callV cx (pc2 := 80) (st := []) (As := []) (k0 := 77) (ci := 12) (c_X12_ruled (M := VC) hn (by exact hVC) (by exact hqC)) wM_X12_ruled wV_X12_ruled kl_X12_284 rfl (lt_lit hn (Nat.le_of_ble_eq_true rfl)) rfl ⟨rfl, rfl, Nat.le_of_ble_eq_true rfl, Nat.le_of_ble_eq_true rfl⟩ (Nat.le_of_ble_eq_true rfl) cs rfl rfl dX12_wise_77 rfl ?_
                rintro _ M_8 ⟨z_8, rfl, h_8⟩
                have hW := h_8
                obtain ⟨W, hWe⟩ : ∃ W, W = M_8 := ⟨_, rfl⟩
                rw [← hWe] at hW
                have hzv : z_8 = cdV M c := by rw [hW.2.1, hjC, h12C, h29C, hw, show (((cdQ c : Nat) : Int)).toNat = cdQ c from rfl, hrsC]; rfl
                refine g_rwi (y := iI (cdV M c)) (congrArg iI hzv) ?_
                refine g_M (M2 := W) (by exact hWe.symm) ?_
                refine g_istore cx (pc2 := 82) (lv2 := [(0, .ref 77), (1, .int (iI x)), (2, .int (iI y)), (3, .int (iI c)), (4, .int (iI a)), (5, .int (iI (cdB c))), (6, .int (iI (cdV M c)))]) rfl (Nat.le_of_ble_eq_true rfl) dX12_wise_80 rfl ?_
                have L99 : ∀ (x2 : Int), (x2 = if x = -9 ∨ y < cdV M c then c else x) → G X 99 [(0, .ref 77), (1, .int (iI x)), (2, .int (iI y)), (3, .int (iI c)), (6, .int (iI (cdV M c)))] [.int (iI x2)] W := by
                  intro x2 hx2
                  refine g_istore_n cx (pc2 := 100) (lv2 := [(0, .ref 77), (1, .int (iI x2)), (2, .int (iI y)), (3, .int (iI c)), (6, .int (iI (cdV M c)))]) rfl (Nat.le_of_ble_eq_true rfl) dX12_wise_99 rfl ?_
                  refine g_iload_n cx (pc2 := 101) 2 rfl dX12_wise_100 rfl ?_
                  refine g_iload cx (pc2 := 103) 4 rfl dX12_wise_101 rfl ?_
                  refine g_callS cx (pc2 := 106) (st := []) (As := [.int (iI y), .int (iI (cdV M c))]) (c_X12_greater (M := W) hn y (cdV M c) (by first | assumption | omega) (by first | assumption | omega)) wM_X12_greater wS_X12_greater kl_X12_207 ⟨rfl, rfl, Nat.le_of_ble_eq_true rfl, Nat.le_of_ble_eq_true rfl⟩ (Nat.le_of_ble_eq_true rfl) cs rfl rfl dX12_wise_103 rfl ?_
                  rintro _ _ ⟨rfl, rfl⟩
                  refine g_istore_n cx (pc2 := 107) (lv2 := [(0, .ref 77), (1, .int (iI x2)), (2, .int (iI (max y (cdV M c)))), (3, .int (iI c)), (6, .int (iI (cdV M c)))]) rfl (Nat.le_of_ble_eq_true rfl) dX12_wise_106 rfl ?_
                  refine g_sub (lv2 := [(0, .ref 77), (1, .int (iI x2)), (2, .int (iI (max y (cdV M c)))), (3, .int (iI c))]) [0, 1, 2, 3] rfl ?_
                  exact L107 x2 (max y (cdV M c)) W (by rw [hst]; first | (rw [if_neg (fun q => q.elim (fun w => by omega) (fun w => w (by omega)))]; exact ⟨rfl, rfl⟩) | (rw [if_pos (by first | exact Or.inl (by omega) | exact Or.inr (by omega))]; exact ⟨hx2, rfl⟩)) (by first | exact hb | (rw [hx2]; refine ⟨?_, by omega⟩; split <;> omega)) (by first | exact hU1 | (intro a q1 q2 q3 q4; rw [hW.1.1 a q1 q2 q3, h1C a q1 q4]; exact hU1 a q1 q2 q3 q4)) (by first | exact hU2 | (intro b q1 q2 q3; rw [hW.1.2 b q1 q2, h2C b q3]; exact hU2 b q1 q2 q3)) (by first | exact hU3 | (intro j hj; rw [hW.1.1 93 (by decide) (by decide) (by decide)]; exact hqC.2 j hj))
                refine g_iload_n cx (pc2 := 83) 1 rfl dX12_wise_82 rfl ?_
                refine g_bipush cx (pc2 := 85) ⟨by decide, by decide⟩ dX12_wise_83 rfl ?_
                refine g_icmp_eq cx (pc2 := 88) (tgt := 94) ⟨(by first | assumption | omega), ⟨by decide, by decide⟩⟩ dX12_wise_85 (by decide) rfl (fun h_9 => ?_) (fun h_9 => ?_)
                · skip
                  refine g_iload_n cx (pc2 := 95) 3 rfl dX12_wise_94 rfl ?_
                  refine g_goto cx (tgt := 99) dX12_wise_95 (by decide) ?_
                  refine g_sub (lv2 := [(0, .ref 77), (1, .int (iI x)), (2, .int (iI y)), (3, .int (iI c)), (6, .int (iI (cdV M c)))]) [0, 1, 2, 3, 6] rfl ?_
                  exact L99 c (by first | (rw [if_pos (by omega)]; done) | (rw [if_neg (by omega)]; done))
                · skip
                  refine g_iload cx (pc2 := 90) 6 rfl dX12_wise_88 rfl ?_
                  refine g_iload_n cx (pc2 := 91) 2 rfl dX12_wise_90 rfl ?_
                  refine g_icmp_le cx (pc2 := 94) (tgt := 98) ⟨(by first | assumption | omega), (by first | assumption | omega)⟩ dX12_wise_91 (by decide) rfl (fun h_10 => ?_) (fun h_10 => ?_)
                  · skip
                    refine g_iload_n cx (pc2 := 99) 1 rfl dX12_wise_98 rfl ?_
                    refine g_sub (lv2 := [(0, .ref 77), (1, .int (iI x)), (2, .int (iI y)), (3, .int (iI c)), (6, .int (iI (cdV M c)))]) [0, 1, 2, 3, 6] rfl ?_
                    exact L99 x (by first | (rw [if_pos (by omega)]; done) | (rw [if_neg (by omega)]; done))
                  · skip
                    refine g_iload_n cx (pc2 := 95) 3 rfl dX12_wise_94 rfl ?_
                    refine g_goto cx (tgt := 99) dX12_wise_95 (by decide) ?_
                    refine g_sub (lv2 := [(0, .ref 77), (1, .int (iI x)), (2, .int (iI y)), (3, .int (iI c)), (6, .int (iI (cdV M c)))]) [0, 1, 2, 3, 6] rfl ?_
                    exact L99 c (by first | (rw [if_pos (by omega)]; done) | (rw [if_neg (by omega)]; done))
              refine g_aload_n cx (pc2 := 63) 0 rfl dX12_wise_62 rfl ?_
              refine g_iload_n cx (pc2 := 64) 3 rfl dX12_wise_63 rfl ?_
              refine g_iconst cx (pc2 := 65) dX12_wise_64 rfl ?_
              refine g_icmp_ge cx (pc2 := 68) (tgt := 72) ⟨(by first | assumption | omega), ⟨by decide, by decide⟩⟩ dX12_wise_65 (by decide) rfl (fun h_11 => ?_) (fun h_11 => ?_)
              · skip
                refine g_iconst cx (pc2 := 73) dX12_wise_72 rfl ?_
                exact L73 2 (by unfold cdQ; first | (rw [if_pos (by omega)]; rfl) | (rw [if_neg (by omega)]; rfl))
              · skip
                refine g_iconst cx (pc2 := 69) dX12_wise_68 rfl ?_
                refine g_goto cx (tgt := 73) dX12_wise_69 (by decide) ?_
                exact L73 1 (by unfold cdQ; first | (rw [if_pos (by omega)]; rfl) | (rw [if_neg (by omega)]; rfl))
        have hcd1 := hcd (by omega)
        have etd : c.tdiv 5 = c / 5 := Int.tdiv_eq_ediv_of_nonneg hc.1
        refine g_iload_n cx (pc2 := 14) 3 rfl dX12_wise_13 rfl ?_
        refine g_iconst cx (pc2 := 15) dX12_wise_14 rfl ?_
        refine g_icmp_ge cx (pc2 := 18) (tgt := 22) ⟨(by first | assumption | omega), ⟨by decide, by decide⟩⟩ dX12_wise_15 (by decide) rfl (fun h_12 => ?_) (fun h_12 => ?_)
        · skip
          refine g_iload_n cx (pc2 := 23) 3 rfl dX12_wise_22 rfl ?_
          refine g_iconst cx (pc2 := 24) dX12_wise_23 rfl ?_
          refine g_idiv cx (pc2 := 25) (by exact ⟨⟨by omega, by omega⟩, ⟨by decide, by decide⟩, by decide, Or.inr (by decide)⟩) dX12_wise_24 rfl ?_
          refine g_iconst cx (pc2 := 26) dX12_wise_25 rfl ?_
          refine g_isub cx (pc2 := 27) dX12_wise_26 rfl ?_
          exact L27 ((c.tdiv 5) - 1) (by unfold cdA; first | (rw [if_pos (by omega)]; done) | (rw [if_neg (by omega)]; done))
        · skip
          refine g_iload_n cx (pc2 := 19) 3 rfl dX12_wise_18 rfl ?_
          refine g_goto cx (tgt := 27) dX12_wise_19 (by decide) ?_
          exact L27 c (by unfold cdA; first | (rw [if_pos (by omega)]; done) | (rw [if_neg (by omega)]; done))
  exact L7 _ 0 (-9) 0 M (by first | assumption | omega) (by exact ⟨rfl, rfl⟩) (by first | assumption | omega) (by intro a _ _ _ _; rfl) (by intro b _ _ _; rfl) (by exact h93) (Nat.le_refl _)
