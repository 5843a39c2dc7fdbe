abbrev RV (M : Mm) : Prop := ((0 ≤ M 77 10 ∧ M 77 10 ≤ 8) ∧ (0 ≤ M 77 12 ∧ M 77 12 ≤ 8) ∧ (0 ≤ M 77 15 ∧ M 77 15 ≤ 7)) ∧ (∀ j : Nat, j < 8 → 0 ≤ M 84 j ∧ M 84 j ≤ 15) ∧ (∀ i : Nat, i < 8 → ND6 (fun k => M 85 (6 * i + k))) ∧ ∀ i : Nat, i < 8 → 0 ≤ M 86 i ∧ M 86 i ≤ 12
def nA (M : Mm) (i k : Int) : Int := M 85 (6 * i + k).toNat
theorem nA_nat (M : Mm) {i : Int} (hi : 0 ≤ i) (k : Nat) : nA M i (k : Int) = M 85 (6 * i.toNat + k) := by
  unfold nA
  rw [show (6 * i + (k : Int)).toNat = 6 * i.toNat + k by omega]
theorem nA_b {M : Mm} (h : RV M) {i : Int} (hi : 0 ≤ i ∧ i < 8) : (0 ≤ nA M i 0 ∧ nA M i 0 ≤ 5) ∧ (0 ≤ nA M i 1 ∧ nA M i 1 ≤ 7) ∧ (0 ≤ nA M i 2 ∧ nA M i 2 ≤ 27) ∧ (0 ≤ nA M i 3 ∧ nA M i 3 ≤ 27) ∧ (0 ≤ nA M i 4 ∧ nA M i 4 ≤ 4) ∧ (0 ≤ nA M i 5 ∧ nA M i 5 ≤ 18) := by
  have h1 := h.2.2.1 i.toNat (by omega)
  have e := fun k : Nat => nA_nat M hi.1 k
  have e0 := e 0
  have e1 := e 1
  have e2 := e 2
  have e3 := e 3
  have e4 := e 4
  have e5 := e 5
  refine ⟨?_, ?_, ?_, ?_, ?_, ?_⟩
  · rw [show nA M i 0 = M 85 (6 * i.toNat + 0) from e0]; exact h1.1
  · rw [show nA M i 1 = M 85 (6 * i.toNat + 1) from e1]; exact h1.2.1
  · rw [show nA M i 2 = M 85 (6 * i.toNat + 2) from e2]; exact h1.2.2.1
  · rw [show nA M i 3 = M 85 (6 * i.toNat + 3) from e3]; exact h1.2.2.2.1
  · rw [show nA M i 4 = M 85 (6 * i.toNat + 4) from e4]; exact h1.2.2.2.2.1
  · rw [show nA M i 5 = M 85 (6 * i.toNat + 5) from e5]; exact h1.2.2.2.2.2
theorem nA_ir {M : Mm} (h : RV M) {i : Int} (hi : 0 ≤ i ∧ i < 8) {k : Int} (hk : 0 ≤ k ∧ k ≤ 5) : 0 ≤ nA M i k ∧ nA M i k ≤ 27 := by
  have hb := nA_b h hi
  rcases (show k = 0 ∨ k = 1 ∨ k = 2 ∨ k = 3 ∨ k = 4 ∨ k = 5 by omega) with q | q | q | q | q | q <;> subst q <;> omega
/-- what the reference's way of a coat asks of needs: place, from, latest, length, worth -/
def jbR (M : Mm) : Nat → Nat → Int := fun i f => if f = 0 then M 84 (nA M (i : Int) 1).toNat else if f = 1 then nA M (i : Int) 2 else if f = 2 then ltB (nA M (i : Int) 0) (nA M (i : Int) 2) (nA M (i : Int) 3) (nA M (i : Int) 4) else if f = 3 then nA M (i : Int) 4 else nA M (i : Int) 5
def bgB (J : Nat → Nat → Int) (i : Nat) (p f : Int) : Int := if f + wap p (J i 0) < J i 1 then J i 1 else f + wap p (J i 0)
def enB (J : Nat → Nat → Int) (i : Nat) (p f : Int) : Int := if bgB J i p f ≤ J i 2 then bgB J i p f + J i 3 else -9
def bnB (J : Nat → Nat → Int) (i : Nat) (p f : Int) : Int := if bgB J i p f ≤ J i 2 then bgB J i p f else -9
def exB (J : Nat → Nat → Int) (i : Nat) (p f : Int) : Int := if enB J i p f = -9 then 1000 else enB J i p f
/-- jobs as they can be -/
abbrev JOK (J : Nat → Nat → Int) : Prop := ∀ i : Nat, i < 8 → (0 ≤ J i 0 ∧ J i 0 ≤ 15) ∧ (0 ≤ J i 1 ∧ J i 1 ≤ 27) ∧ (-10 ≤ J i 2 ∧ J i 2 ≤ 28) ∧ (0 ≤ J i 3 ∧ J i 3 ≤ 4) ∧ (0 ≤ J i 4 ∧ J i 4 ≤ 18) ∧ J i 2 + J i 3 ≤ 28
theorem jbR_ok {M : Mm} (h : RV M) : JOK (jbR M) := by
  intro i hi
  have hb := nA_b h (i := (i : Int)) (by omega)
  have hp := h.2.1 (nA M (i : Int) 1).toNat (by omega)
  show (0 ≤ M 84 (nA M (i : Int) 1).toNat ∧ M 84 (nA M (i : Int) 1).toNat ≤ 15) ∧ (0 ≤ nA M (i : Int) 2 ∧ nA M (i : Int) 2 ≤ 27) ∧ (-10 ≤ ltB (nA M (i : Int) 0) (nA M (i : Int) 2) (nA M (i : Int) 3) (nA M (i : Int) 4) ∧ ltB (nA M (i : Int) 0) (nA M (i : Int) 2) (nA M (i : Int) 3) (nA M (i : Int) 4) ≤ 28) ∧ (0 ≤ nA M (i : Int) 4 ∧ nA M (i : Int) 4 ≤ 4) ∧ (0 ≤ nA M (i : Int) 5 ∧ nA M (i : Int) 5 ≤ 18) ∧ ltB (nA M (i : Int) 0) (nA M (i : Int) 2) (nA M (i : Int) 3) (nA M (i : Int) 4) + nA M (i : Int) 4 ≤ 28
  have hl : -10 ≤ ltB (nA M (i : Int) 0) (nA M (i : Int) 2) (nA M (i : Int) 3) (nA M (i : Int) 4) ∧ ltB (nA M (i : Int) 0) (nA M (i : Int) 2) (nA M (i : Int) 3) (nA M (i : Int) 4) ≤ nA M (i : Int) 3 - nA M (i : Int) 4 + 1 := by
    unfold ltB
    (repeat' split) <;> omega
  exact ⟨hp, hb.2.2.1, by omega, hb.2.2.2.2.1, hb.2.2.2.2.2, by omega⟩
theorem bgB_b {J : Nat → Nat → Int} (hJ : JOK J) {i : Nat} (hi : i < 8) {p f : Int} (hp : 0 ≤ p ∧ p ≤ 15) (hf : 0 ≤ f) : 0 ≤ bgB J i p f ∧ f ≤ bgB J i p f ∧ (bgB J i p f ≤ f + 3 ∨ bgB J i p f ≤ 27) := by
  have h1 := hJ i hi
  have h2 := wap_b hp h1.1
  unfold bgB
  split <;> omega
theorem enB_b {J : Nat → Nat → Int} (hJ : JOK J) {i : Nat} (hi : i < 8) {p f : Int} (hp : 0 ≤ p ∧ p ≤ 15) (hf : 0 ≤ f) : enB J i p f = -9 ∨ (0 ≤ enB J i p f ∧ f ≤ enB J i p f ∧ enB J i p f ≤ 28) := by
  have h1 := hJ i hi
  have h2 := bgB_b hJ hi hp hf
  unfold enB
  split <;> omega
theorem bnB_b {J : Nat → Nat → Int} (hJ : JOK J) {i : Nat} (hi : i < 8) {p f : Int} (hp : 0 ≤ p ∧ p ≤ 15) (hf : 0 ≤ f) : (bnB J i p f = -9 ∧ enB J i p f = -9) ∨ (0 ≤ bnB J i p f ∧ bnB J i p f ≤ 28 ∧ ¬ enB J i p f = -9 ∧ enB J i p f = bnB J i p f + J i 3) := by
  have h1 := hJ i hi
  have h2 := bgB_b hJ hi hp hf
  unfold bnB enB
  split <;> omega
abbrev HX (M : Mm) (h : Int) : Prop := 0 ≤ h ∧ h ≤ M 77 10 - 1
abbrev NX (M : Mm) (i : Int) : Prop := 0 ≤ i ∧ i ≤ M 77 12 - 1
def xhouA (M : Mm) (h : Int) : Int := if ¬ HX M h then -1 else M 84 h.toNat
def xhouM (M : Mm) (h : Int) : Mm := if ¬ HX M h then M else tlM M (M 97 h.toNat)
def xneeA (M : Mm) (i w : Int) : Int := if ¬ NX M i ∨ w < 0 ∨ 5 < w then -1 else 1
def xneeM (M : Mm) (i w : Int) : Mm := if ¬ NX M i ∨ w < 0 ∨ 5 < w then M else tlM M (nA M i w)
def xmk (M : Mm) (i k : Int) : Int := if k = 1 then nA M i 5 else if k = 2 then M 86 i.toNat else if k = 3 then nA M i 2 + nA M i 4 - 1 else if k = 4 then (if nA M i 2 + nA M i 4 - 1 ≤ nA M i 3 then 1 else 0) + (if nA M i 2 + nA M i 4 ≤ nA M i 3 then 1 else 0) else if nA M i 2 + nA M i 4 - 1 ≤ nA M i 3 then nA M i 3 - (nA M i 2 + nA M i 4 - 1) else -9
def xmarA (M : Mm) (i k : Int) : Int := if ¬ NX M i ∨ k < 1 ∨ 5 < k then -1 else if ¬ isAK (nA M i 0) k then -3 else xmk M i k
def xmarM (M : Mm) (i k : Int) : Mm := if ¬ NX M i ∨ k < 1 ∨ 5 < k then M else if ¬ isAK (nA M i 0) k then mtM M 3 else M
def xstaA (M : Mm) (h : Int) : Int := if ¬ HX M h then -1 else M 77 15
def xstaM (M : Mm) (h : Int) : Mm := if ¬ HX M h then M else stM M 77 15 h
def xcarA (M : Mm) (h k : Int) : Int := if ¬ HX M h ∨ ¬ HX M k then -1 else wap (M 84 h.toNat) (M 84 k.toNat)
def xchaA (M : Mm) (i p : Int) : Int := if ¬ NX M i ∨ p < 0 ∨ 12 < p then -1 else if ¬ isAK (nA M i 0) 2 then -3 else M 86 i.toNat
def xchaM (M : Mm) (i p : Int) : Mm := if ¬ NX M i ∨ p < 0 ∨ 12 < p then M else if ¬ isAK (nA M i 0) 2 then mtM M 3 else stM M 86 i.toNat p
/-- along a line: place, free, whether all can be met -/
def doF (J : Nat → Nat → Int) (l : Nat → Int) (p : Int) : Nat → Int × Int × Bool
  | 0 => (p, 0, true)
  | k + 1 => if (doF J l p k).2.2 = true ∧ ¬ enB J (l k).toNat (doF J l p k).1 (doF J l p k).2.1 = -9 then (J (l k).toNat 0, enB J (l k).toNat (doF J l p k).1 (doF J l p k).2.1, true) else ((doF J l p k).1, (doF J l p k).2.1, false)
/-- how many of the first k can be done -/
def doN (J : Nat → Nat → Int) (l : Nat → Int) (p : Int) : Nat → Int
  | 0 => 0
  | k + 1 => if (doF J l p (k + 1)).2.2 = true then ((k + 1 : Nat) : Int) else doN J l p k
def doB (J : Nat → Nat → Int) (l : Nat → Int) (p : Int) (k : Nat) : Int := bnB J (l k).toNat (doF J l p k).1 (doF J l p k).2.1
theorem doF_b {J : Nat → Nat → Int} (hJ : JOK J) {l : Nat → Int} {p : Int} (hp : 0 ≤ p ∧ p ≤ 15) : ∀ {k : Nat}, (∀ j, j < k → 0 ≤ l j ∧ l j < 8) → (0 ≤ (doF J l p k).1 ∧ (doF J l p k).1 ≤ 15) ∧ (0 ≤ (doF J l p k).2.1 ∧ (doF J l p k).2.1 ≤ 28)
  | 0, _ => ⟨hp, by show (0 : Int) ≤ 0 ∧ (0 : Int) ≤ 28; omega⟩
  | k + 1, h => by
    have h1 := doF_b hJ (l := l) hp (k := k) (fun j hj => h j (by omega))
    have h2 := h k (by omega)
    have h3 := enB_b hJ (i := (l k).toNat) (by omega) h1.1 h1.2.1
    rw [doF]
    split
    · rename_i q
      exact ⟨(hJ (l k).toNat (by omega)).1, by simp only []; omega⟩
    · exact h1
theorem doF_fix {J : Nat → Nat → Int} {l : Nat → Int} {p : Int} {k : Nat} (h : (doF J l p k).2.2 = false) : ∀ j, doF J l p (k + j) = doF J l p k
  | 0 => rfl
  | j + 1 => by
    have e := doF_fix h j
    rw [← Nat.add_assoc, doF, e, if_neg (by rw [h]; simp)]
    exact Prod.ext rfl (Prod.ext rfl h.symm)
theorem doN_fix {J : Nat → Nat → Int} {l : Nat → Int} {p : Int} {k : Nat} (h : (doF J l p k).2.2 = false) : ∀ j, doN J l p (k + j) = doN J l p k
  | 0 => rfl
  | j + 1 => by
    rw [← Nat.add_assoc, doN, Nat.add_assoc, doF_fix h (j + 1), h, if_neg (by simp)]
    exact doN_fix h j
theorem doN_ok {J : Nat → Nat → Int} {l : Nat → Int} {p : Int} {k : Nat} (h : (doF J l p k).2.2 = true) : doN J l p k = (k : Int) := by
  cases k with
  | zero => rfl
  | succ k => rw [doN, if_pos h]
theorem doF_cong {J : Nat → Nat → Int} {l l2 : Nat → Int} {p : Int} : ∀ {k : Nat}, (∀ j, j < k → l j = l2 j) → doF J l p k = doF J l2 p k
  | 0, _ => rfl
  | k + 1, h => by rw [doF, doF, doF_cong (fun j hj => h j (by omega)), h k (by omega)]
def lnF (M : Mm) : Nat → Int := fun k => M 89 k
def sP (M : Mm) : Int := M 84 (M 77 15).toNat
def DS (M : Mm) (z : Int) (M2 : Mm) : Prop := z = doN (jbR M) (lnF M) (sP M) (M 77 23).toNat ∧ M2 77 25 = (doF (jbR M) (lnF M) (sP M) (M 77 23).toNat).2.1 ∧ (∀ k : Nat, (k : Int) < z → M2 90 k = doB (jbR M) (lnF M) (sP M) k) ∧ (∀ a, a ≠ 77 → a ≠ 90 → M2 a = M a) ∧ ∀ b, b ≠ 25 → M2 77 b = M 77 b
theorem nA_off {M M2 : Mm} (h : M2 85 = M 85) (i k : Int) : nA M2 i k = nA M i k := by unfold nA; rw [h]
theorem jbR_off {M M2 : Mm} (h4 : M2 84 = M 84) (h5 : M2 85 = M 85) : jbR M2 = jbR M := by
  funext i f
  unfold jbR nA
  rw [h4, h5]
theorem RV.of {M M2 : Mm} (h : RV M) (h4 : M2 84 = M 84) (h5 : M2 85 = M 85) (h6 : M2 86 = M 86) (h0 : M2 77 10 = M 77 10) (h2 : M2 77 12 = M 77 12) (hs : M2 77 15 = M 77 15) : RV M2 := by
  unfold RV
  rw [h4, h5, h6, h0, h2, hs]
  exact h
def xrw (M : Mm) (r : Int) : Nat → Int := fun k => M 80 (60 * r.toNat + k)
def lnM (M : Mm) (r : Int) : Mm := fun a b => if a = 77 ∧ b = 23 then M 79 r.toNat else if a = 89 ∧ (b : Int) < M 79 r.toNat then xrw M r b else M a b
def lnP (M : Mm) (r i : Int) : Mm := fun a b => if a = 77 ∧ b = 23 then M 79 r.toNat else if a = 89 ∧ (b : Int) < i then xrw M r b else M a b
theorem lnP_0 (M : Mm) (r : Int) : stM M 77 23 (M 79 r.toNat) = lnP M r 0 := by
  funext a b
  unfold stM lnP
  split
  · rfl
  · rw [if_neg (by omega)]
theorem lnP_s {M : Mm} {r i : Int} (h : 0 ≤ i) : stM (lnP M r i) 89 i.toNat (xrw M r i.toNat) = lnP M r (i + 1) := by
  funext a b
  unfold stM lnP
  by_cases hb : a = 89 ∧ b = i.toNat
  · rw [if_pos hb, if_neg (by omega), if_pos (by omega), hb.2]
  · rw [if_neg hb]
    by_cases h2 : a = 77 ∧ b = 23
    · rw [if_pos h2, if_pos h2]
    · rw [if_neg h2, if_neg h2]
      by_cases h3 : a = 89 ∧ (b : Int) < i
      · rw [if_pos h3, if_pos (by omega)]
      · rw [if_neg h3, if_neg (by omega)]
theorem lnP_off (M : Mm) (r i : Int) {a : Nat} (h1 : a ≠ 77) (h2 : a ≠ 89) : lnP M r i a = M a := by
  funext b
  unfold lnP
  rw [if_neg (fun q => h1 q.1), if_neg (fun q => h2 q.1)]
def nlR (M : Mm) (r z : Int) (M2 : Mm) : Prop := (M 79 r.toNat < 0 ∧ z = -3 ∧ M2 = mtM M 1) ∨ (¬ M 79 r.toNat < 0 ∧ M 77 12 < M 79 r.toNat ∧ z = -3 ∧ M2 = mtM M 5) ∨ (¬ M 79 r.toNat < 0 ∧ ¬ M 77 12 < M 79 r.toNat ∧ ¬ okL (xrw M r) (M 77 12) (M 79 r.toNat).toNat ∧ z = -3 ∧ M2 = mtM M 3) ∨ (¬ M 79 r.toNat < 0 ∧ ¬ M 77 12 < M 79 r.toNat ∧ okL (xrw M r) (M 77 12) (M 79 r.toNat).toNat ∧ z = 0 ∧ M2 = lnM M r)
theorem rcA_x {M : Mm} {r i : Int} (hr : R6 r) (hi : 0 ≤ i) : rcA M r i = xrw M r i.toNat := by
  unfold rcA xrw
  rw [show (60 * r + i).toNat = 60 * r.toNat + i.toNat by omega]
theorem okL_s {f : Nat → Int} {q : Int} {k : Nat} : okL f q (k + 1) ↔ okL f q k ∧ ((0 ≤ f k ∧ f k < q) ∧ ¬ inS (f k) ((mtG f k : Nat) : Int)) := by
  constructor
  · intro h; exact ⟨fun j hj => h j (by omega), h k (by omega)⟩
  · intro h j hj
    rcases (show j < k ∨ j = k by omega) with e | e
    · exact h.1 j e
    · subst e; exact h.2
theorem okL_no {f : Nat → Int} {q : Int} {k n : Nat} (h : ¬ okL f q k) (hk : k ≤ n) : ¬ okL f q n := fun z => h (fun j hj => z j (by omega))
def xorR (M : Mm) (r z : Int) (M2 : Mm) : Prop := (¬ R6 r ∧ z = -1 ∧ M2 = M) ∨ (R6 r ∧ z = -3 ∧ nlR M r (-3) M2) ∨ (R6 r ∧ nlR M r 0 (lnM M r) ∧ ∃ M3, DS (lnM M r) z M3 ∧ M2 = tlM M3 (M3 77 25))
def xbgR (M : Mm) (r i z : Int) (M2 : Mm) : Prop := ((¬ R6 r ∨ ¬ (0 ≤ i ∧ i ≤ 7)) ∧ z = -1 ∧ M2 = M) ∨ ((R6 r ∧ (0 ≤ i ∧ i ≤ 7)) ∧ z = -3 ∧ nlR M r (-3) M2) ∨ ((R6 r ∧ (0 ≤ i ∧ i ≤ 7)) ∧ nlR M r 0 (lnM M r) ∧ M 79 r.toNat ≤ i ∧ z = -3 ∧ M2 = mtM (lnM M r) 2) ∨ ((R6 r ∧ (0 ≤ i ∧ i ≤ 7)) ∧ nlR M r 0 (lnM M r) ∧ ¬ M 79 r.toNat ≤ i ∧ ∃ y, DS (lnM M r) y M2 ∧ z = if i < y then doB (jbR M) (xrw M r) (sP M) i.toNat else -9)
theorem lnL {M : Mm} (hV : RV M) {r : Int} (hR : R6 r) (h : nlR M r 0 (lnM M r)) : (0 ≤ lnM M r 77 23 ∧ lnM M r 77 23 ≤ 8) ∧ ∀ k : Nat, (k : Int) < lnM M r 77 23 → 0 ≤ lnM M r 89 k ∧ lnM M r 89 k < 8 := by
  have hv := hV.1.2.1
  rcases h with q | q | q | q
  · omega
  · omega
  · omega
  · have e : lnM M r 77 23 = M 79 r.toNat := rfl
    rw [e]
    refine ⟨by omega, fun k hk => ?_⟩
    have e2 : lnM M r 89 k = xrw M r k := by
      unfold lnM
      rw [if_neg (by omega), if_pos ⟨rfl, hk⟩]
    rw [e2]
    have := q.2.2.1 k (by omega)
    omega
theorem doN_b (J : Nat → Nat → Int) (l : Nat → Int) (p : Int) : ∀ k : Nat, 0 ≤ doN J l p k ∧ doN J l p k ≤ (k : Int)
  | 0 => by simp [doN]
  | k + 1 => by
    have h := doN_b J l p k
    rw [doN]
    split <;> omega
theorem doB_ln {M : Mm} {r : Int} (h : nlR M r 0 (lnM M r)) {k : Nat} (hk : (k : Int) < M 79 r.toNat) : doB (jbR (lnM M r)) (lnF (lnM M r)) (sP (lnM M r)) k = doB (jbR M) (xrw M r) (sP M) k := by
  have e1 : ∀ j : Nat, (j : Int) < M 79 r.toNat → lnF (lnM M r) j = xrw M r j := fun j hj => by
    unfold lnF lnM
    rw [if_neg (by omega), if_pos ⟨rfl, hj⟩]
  have e2 : jbR (lnM M r) = jbR M := jbR_off rfl rfl
  have e3 : sP (lnM M r) = sP M := rfl
  unfold doB
  rw [e1 k hk, e2, e3, doF_cong (fun j hj => e1 j (by omega))]
set_option maxHeartbeats 4000000 in
set_option maxRecDepth 100000 in
theorem c_X12_isHouse {n : Nat} (hn : NN n) {M : Mm} (hV : RV M) (h : Int) (hh : ir h) : CT yX12_isHouse cX12_isHouse 2 (some .boolean) ({ frames := 1, cells := 0, slots := 0, locals := 22 }) n [.ref 77, .int (iI h)] M (rI (b2 (HX M h)) M) := by
  refine CT.of (lv0 := [(0, .ref 77), (1, .int (iI h))]) (by decide +kernel) hn (fun _ => rfl) (fun _ => Nat.le_of_ble_eq_true rfl) (fun X cx cs qx => ?_)
  have cx : Cx X cX12_isHouse RX12 ({ frames := 1, cells := 0, slots := 0, locals := 22 }) 2 n := cx
  have hv1 := hV.1
  refine g_iload_n cx (pc2 := 1) 1 rfl dX12_isHouse_0 rfl ?_
  refine g_iconst cx (pc2 := 2) dX12_isHouse_1 rfl ?_
  refine g_aload_n cx (pc2 := 3) 0 rfl dX12_isHouse_2 rfl ?_
  refine g_get cx (pc2 := 6) (ci := 12) (k0 := 77) (j := 10) (v := .int (iI (M 77 10))) rfl iwX12 rfl (lt_lit hn (Nat.le_of_ble_eq_true rfl)) rfl (Nat.le_of_ble_eq_true rfl) kf_X12_165 rfl rfl dX12_isHouse_3 rfl ?_
  refine g_iconst cx (pc2 := 7) dX12_isHouse_6 rfl ?_
  refine g_isub cx (pc2 := 8) dX12_isHouse_7 rfl ?_
  refine g_callS cx (pc2 := 11) (st := []) (As := [.int (iI h), .int (iI 0), .int (iI ((M 77 10) - 1))]) (c_X12_in (M := M) hn h 0 ((M 77 10) - 1) (by first | assumption | omega) (by first | assumption | omega) (by first | assumption | omega)) wM_X12_in wS_X12_in kl_X12_97 ⟨rfl, rfl, Nat.le_of_ble_eq_true rfl, Nat.le_of_ble_eq_true rfl⟩ (Nat.le_of_ble_eq_true rfl) cs rfl rfl dX12_isHouse_8 rfl ?_
  rintro _ _ ⟨rfl, rfl⟩
  exact g_zret cx (b2_01 _) qx dX12_isHouse_11 ⟨rb_i (by unfold HX; first | exact Iff.rfl | omega), by rfl⟩
set_option maxHeartbeats 4000000 in
set_option maxRecDepth 100000 in
theorem c_X12_isNeed {n : Nat} (hn : NN n) {M : Mm} (hV : RV M) (i : Int) (hi : ir i) : CT yX12_isNeed cX12_isNeed 2 (some .boolean) ({ frames := 1, cells := 0, slots := 0, locals := 22 }) n [.ref 77, .int (iI i)] M (rI (b2 (NX M i)) M) := by
  refine CT.of (lv0 := [(0, .ref 77), (1, .int (iI i))]) (by decide +kernel) hn (fun _ => rfl) (fun _ => Nat.le_of_ble_eq_true rfl) (fun X cx cs qx => ?_)
  have cx : Cx X cX12_isNeed RX12 ({ frames := 1, cells := 0, slots := 0, locals := 22 }) 2 n := cx
  have hv1 := hV.1
  refine g_iload_n cx (pc2 := 1) 1 rfl dX12_isNeed_0 rfl ?_
  refine g_iconst cx (pc2 := 2) dX12_isNeed_1 rfl ?_
  refine g_aload_n cx (pc2 := 3) 0 rfl dX12_isNeed_2 rfl ?_
  refine g_get cx (pc2 := 6) (ci := 12) (k0 := 77) (j := 12) (v := .int (iI (M 77 12))) rfl iwX12 rfl (lt_lit hn (Nat.le_of_ble_eq_true rfl)) rfl (Nat.le_of_ble_eq_true rfl) kf_X12_168 rfl rfl dX12_isNeed_3 rfl ?_
  refine g_iconst cx (pc2 := 7) dX12_isNeed_6 rfl ?_
  refine g_isub cx (pc2 := 8) dX12_isNeed_7 rfl ?_
  refine g_callS cx (pc2 := 11) (st := []) (As := [.int (iI i), .int (iI 0), .int (iI ((M 77 12) - 1))]) (c_X12_in (M := M) hn i 0 ((M 77 12) - 1) (by first | assumption | omega) (by first | assumption | omega) (by first | assumption | omega)) wM_X12_in wS_X12_in kl_X12_97 ⟨rfl, rfl, Nat.le_of_ble_eq_true rfl, Nat.le_of_ble_eq_true rfl⟩ (Nat.le_of_ble_eq_true rfl) cs rfl rfl dX12_isNeed_8 rfl ?_
  rintro _ _ ⟨rfl, rfl⟩
  exact g_zret cx (b2_01 _) qx dX12_isNeed_11 ⟨rb_i (by unfold NX; first | exact Iff.rfl | omega), by rfl⟩
set_option maxHeartbeats 4000000 in
set_option maxRecDepth 100000 in
theorem c_X12_carryOf {n : Nat} (hn : NN n) {M : Mm} (hV : RV M) (h k : Int) (hh : 0 ≤ h ∧ h < 8) (hk : 0 ≤ k ∧ k < 8) : CT yX12_carryOf cX12_carryOf 3 (some .int) ({ frames := 1, cells := 0, slots := 0, locals := 21 }) n [.ref 77, .int (iI h), .int (iI k)] M (rI (wap (M 84 h.toNat) (M 84 k.toNat)) M) := by
  refine CT.of (lv0 := [(0, .ref 77), (1, .int (iI h)), (2, .int (iI k))]) (by decide +kernel) hn (fun _ => rfl) (fun _ => Nat.le_of_ble_eq_true rfl) (fun X cx cs qx => ?_)
  have cx : Cx X cX12_carryOf RX12 ({ frames := 1, cells := 0, slots := 0, locals := 21 }) 3 n := cx
  have q1 := hV.2.1 h.toNat (by omega)
  have q2 := hV.2.1 k.toNat (by omega)
  refine g_aload_n cx (pc2 := 1) 0 rfl dX12_carryOf_0 rfl ?_
  refine g_get cx (pc2 := 4) (ci := 12) (k0 := 77) (j := 11) (v := .ref 84) rfl iwX12 rfl (lt_lit hn (Nat.le_of_ble_eq_true rfl)) rfl (Nat.le_of_ble_eq_true rfl) kf_X12_29 rfl rfl dX12_carryOf_1 rfl ?_
  refine g_iload_n cx (pc2 := 5) 1 rfl dX12_carryOf_4 rfl ?_
  refine g_iald cx (pc2 := 6) (k0 := 84) rfl (lt_lit hn (Nat.le_of_ble_eq_true rfl)) (by first | assumption | omega) (by first | assumption | omega) (Nat.le_of_ble_eq_true rfl) dX12_carryOf_5 rfl ?_
  refine g_rwi (y := iI (M 84 ((h).toNat))) (congrArg iI (by simp [stM])) ?_
  refine g_aload_n cx (pc2 := 7) 0 rfl dX12_carryOf_6 rfl ?_
  refine g_get cx (pc2 := 10) (ci := 12) (k0 := 77) (j := 11) (v := .ref 84) rfl iwX12 rfl (lt_lit hn (Nat.le_of_ble_eq_true rfl)) rfl (Nat.le_of_ble_eq_true rfl) kf_X12_29 rfl rfl dX12_carryOf_7 rfl ?_
  refine g_iload_n cx (pc2 := 11) 2 rfl dX12_carryOf_10 rfl ?_
  refine g_iald cx (pc2 := 12) (k0 := 84) rfl (lt_lit hn (Nat.le_of_ble_eq_true rfl)) (by first | assumption | omega) (by first | assumption | omega) (Nat.le_of_ble_eq_true rfl) dX12_carryOf_11 rfl ?_
  refine g_rwi (y := iI (M 84 ((k).toNat))) (congrArg iI (by simp [stM])) ?_
  refine g_callS cx (pc2 := 15) (st := []) (As := [.int (iI (M 84 ((h).toNat))), .int (iI (M 84 ((k).toNat)))]) (c_X12_far (M := M) hn (M 84 ((h).toNat)) (M 84 ((k).toNat)) (by first | assumption | omega) (by first | assumption | omega)) wM_X12_far wS_X12_far kl_X12_183 ⟨rfl, rfl, Nat.le_of_ble_eq_true rfl, Nat.le_of_ble_eq_true rfl⟩ (Nat.le_of_ble_eq_true rfl) cs rfl rfl dX12_carryOf_12 rfl ?_
  rintro _ _ ⟨rfl, rfl⟩
  refine g_iconst cx (pc2 := 16) dX12_carryOf_15 rfl ?_
  refine g_idiv cx (pc2 := 17) (by exact ⟨⟨by split <;> omega, by split <;> omega⟩, ⟨by decide, by decide⟩, by decide, Or.inr (by decide)⟩) dX12_carryOf_16 rfl ?_
  exact g_iret cx qx dX12_carryOf_17 ⟨congrArg (fun q => some (Value.int (iI q))) (by unfold wap; rw [Int.tdiv_eq_ediv_of_nonneg (by split <;> omega)]), by rfl⟩
set_option maxHeartbeats 4000000 in
set_option maxRecDepth 100000 in
theorem c_X12_kind {n : Nat} (hn : NN n) {M : Mm} (i : Int) (hi : 0 ≤ i ∧ i < 8) : CT yX12_kind cX12_kind 2 (some .int) ({ frames := 0, cells := 0, slots := 0, locals := 0 }) n [.ref 77, .int (iI i)] M (rI (nA M i 0) M) := by
  refine CT.of (lv0 := [(0, .ref 77), (1, .int (iI i))]) (by decide +kernel) hn (fun _ => rfl) (fun _ => Nat.le_of_ble_eq_true rfl) (fun X cx cs qx => ?_)
  have cx : Cx X cX12_kind RX12 ({ frames := 0, cells := 0, slots := 0, locals := 0 }) 2 n := cx
  refine g_aload_n cx (pc2 := 1) 0 rfl dX12_kind_0 rfl ?_
  refine g_get cx (pc2 := 4) (ci := 12) (k0 := 77) (j := 13) (v := .ref 85) rfl iwX12 rfl (lt_lit hn (Nat.le_of_ble_eq_true rfl)) rfl (Nat.le_of_ble_eq_true rfl) kf_X12_32 rfl rfl dX12_kind_1 rfl ?_
  refine g_bipush cx (pc2 := 6) ⟨by decide, by decide⟩ dX12_kind_4 rfl ?_
  refine g_iload_n cx (pc2 := 7) 1 rfl dX12_kind_6 rfl ?_
  refine g_imul cx (pc2 := 8) dX12_kind_7 rfl ?_
  refine g_iald cx (pc2 := 9) (k0 := 85) rfl (lt_lit hn (Nat.le_of_ble_eq_true rfl)) (by first | assumption | omega) (by first | assumption | omega) (Nat.le_of_ble_eq_true rfl) dX12_kind_8 rfl ?_
  refine g_rwi (y := iI (M 85 ((6 * i).toNat))) (congrArg iI (by simp [stM])) ?_
  exact g_iret cx qx dX12_kind_9 ⟨congrArg (fun q => some (Value.int (iI q))) (by unfold nA; rw [Int.add_zero]), by rfl⟩
set_option maxHeartbeats 4000000 in
set_option maxRecDepth 100000 in
theorem c_X12_needAt {n : Nat} (hn : NN n) {M : Mm} (i k : Int) (hi : 0 ≤ i ∧ i < 8) (hk : 0 ≤ k ∧ k ≤ 5) : CT yX12_needAt cX12_needAt 3 (some .int) ({ frames := 0, cells := 0, slots := 0, locals := 0 }) n [.ref 77, .int (iI i), .int (iI k)] M (rI (nA M i k) M) := by
  refine CT.of (lv0 := [(0, .ref 77), (1, .int (iI i)), (2, .int (iI k))]) (by decide +kernel) hn (fun _ => rfl) (fun _ => Nat.le_of_ble_eq_true rfl) (fun X cx cs qx => ?_)
  have cx : Cx X cX12_needAt RX12 ({ frames := 0, cells := 0, slots := 0, locals := 0 }) 3 n := cx
  refine g_aload_n cx (pc2 := 1) 0 rfl dX12_needAt_0 rfl ?_
  refine g_get cx (pc2 := 4) (ci := 12) (k0 := 77) (j := 13) (v := .ref 85) rfl iwX12 rfl (lt_lit hn (Nat.le_of_ble_eq_true rfl)) rfl (Nat.le_of_ble_eq_true rfl) kf_X12_32 rfl rfl dX12_needAt_1 rfl ?_
  refine g_bipush cx (pc2 := 6) ⟨by decide, by decide⟩ dX12_needAt_4 rfl ?_
  refine g_iload_n cx (pc2 := 7) 1 rfl dX12_needAt_6 rfl ?_
  refine g_imul cx (pc2 := 8) dX12_needAt_7 rfl ?_
  refine g_iload_n cx (pc2 := 9) 2 rfl dX12_needAt_8 rfl ?_
  refine g_iadd cx (pc2 := 10) dX12_needAt_9 rfl ?_
  refine g_iald cx (pc2 := 11) (k0 := 85) rfl (lt_lit hn (Nat.le_of_ble_eq_true rfl)) (by first | assumption | omega) (by first | assumption | omega) (Nat.le_of_ble_eq_true rfl) dX12_needAt_10 rfl ?_
  refine g_rwi (y := iI (M 85 (((6 * i) + k).toNat))) (congrArg iI (by simp [stM])) ?_
  exact g_iret cx qx dX12_needAt_11 ⟨congrArg (fun q => some (Value.int (iI q))) (by first | rfl | omega), by rfl⟩
set_option maxHeartbeats 4000000 in
set_option maxRecDepth 100000 in
theorem c_X12_isMust {n : Nat} (hn : NN n) {M : Mm} (hV : RV M) (i : Int) (hi : 0 ≤ i ∧ i < 8) : CT yX12_isMust cX12_isMust 2 (some .boolean) ({ frames := 1, cells := 0, slots := 0, locals := 21 }) n [.ref 77, .int (iI i)] M (rI (b2 (isAK (nA M i 0) 1)) M) := by
  refine CT.of (lv0 := [(0, .ref 77), (1, .int (iI i))]) (by decide +kernel) hn (fun _ => rfl) (fun _ => Nat.le_of_ble_eq_true rfl) (fun X cx cs qx => ?_)
  have cx : Cx X cX12_isMust RX12 ({ frames := 1, cells := 0, slots := 0, locals := 21 }) 2 n := cx
  have hb := nA_b hV hi
  refine g_aload_n cx (pc2 := 1) 0 rfl dX12_isMust_0 rfl ?_
  refine g_iload_n cx (pc2 := 2) 1 rfl dX12_isMust_1 rfl ?_
  refine g_callV cx (pc2 := 5) (st := []) (As := [.int (iI i)]) (k0 := 77) (ci := 12) (c_X12_kind (M := M) hn i (by first | assumption | omega)) wM_X12_kind wV_X12_kind kl_X12_186 rfl (lt_lit hn (Nat.le_of_ble_eq_true rfl)) rfl ⟨rfl, rfl, Nat.le_of_ble_eq_true rfl, Nat.le_of_ble_eq_true rfl⟩ (Nat.le_of_ble_eq_true rfl) cs rfl rfl dX12_isMust_2 rfl ?_
  rintro _ _ ⟨rfl, rfl⟩
  refine g_iconst cx (pc2 := 6) dX12_isMust_5 rfl ?_
  refine g_icmp_eq cx (pc2 := 9) (tgt := 27) ⟨(by first | assumption | omega), ⟨by decide, by decide⟩⟩ dX12_isMust_6 (by decide) rfl (fun h_1 => ?_) (fun h_1 => ?_)
  · skip
    refine g_iconst cx (pc2 := 28) dX12_isMust_27 rfl ?_
    refine g_goto cx (tgt := 32) dX12_isMust_28 (by decide) ?_
    exact g_zret cx (Or.inr rfl) qx dX12_isMust_32 ⟨rb_t (by first | exact Or.inl ⟨rfl, by omega⟩ | (rintro (q | q | q); omega; omega; omega)), by rfl⟩
  · skip
    refine g_aload_n cx (pc2 := 10) 0 rfl dX12_isMust_9 rfl ?_
    refine g_iload_n cx (pc2 := 11) 1 rfl dX12_isMust_10 rfl ?_
    refine g_callV cx (pc2 := 14) (st := []) (As := [.int (iI i)]) (k0 := 77) (ci := 12) (c_X12_kind (M := M) hn i (by first | assumption | omega)) wM_X12_kind wV_X12_kind kl_X12_186 rfl (lt_lit hn (Nat.le_of_ble_eq_true rfl)) rfl ⟨rfl, rfl, Nat.le_of_ble_eq_true rfl, Nat.le_of_ble_eq_true rfl⟩ (Nat.le_of_ble_eq_true rfl) cs rfl rfl dX12_isMust_11 rfl ?_
    rintro _ _ ⟨rfl, rfl⟩
    refine g_iconst cx (pc2 := 15) dX12_isMust_14 rfl ?_
    refine g_icmp_eq cx (pc2 := 18) (tgt := 27) ⟨(by first | assumption | omega), ⟨by decide, by decide⟩⟩ dX12_isMust_15 (by decide) rfl (fun h_2 => ?_) (fun h_2 => ?_)
    · skip
      refine g_iconst cx (pc2 := 28) dX12_isMust_27 rfl ?_
      refine g_goto cx (tgt := 32) dX12_isMust_28 (by decide) ?_
      exact g_zret cx (Or.inr rfl) qx dX12_isMust_32 ⟨rb_t (by first | exact Or.inl ⟨rfl, by omega⟩ | (rintro (q | q | q); omega; omega; omega)), by rfl⟩
    · skip
      refine g_aload_n cx (pc2 := 19) 0 rfl dX12_isMust_18 rfl ?_
      refine g_iload_n cx (pc2 := 20) 1 rfl dX12_isMust_19 rfl ?_
      refine g_callV cx (pc2 := 23) (st := []) (As := [.int (iI i)]) (k0 := 77) (ci := 12) (c_X12_kind (M := M) hn i (by first | assumption | omega)) wM_X12_kind wV_X12_kind kl_X12_186 rfl (lt_lit hn (Nat.le_of_ble_eq_true rfl)) rfl ⟨rfl, rfl, Nat.le_of_ble_eq_true rfl, Nat.le_of_ble_eq_true rfl⟩ (Nat.le_of_ble_eq_true rfl) cs rfl rfl dX12_isMust_20 rfl ?_
      rintro _ _ ⟨rfl, rfl⟩
      refine g_iconst cx (pc2 := 24) dX12_isMust_23 rfl ?_
      refine g_icmp_ne cx (pc2 := 27) (tgt := 31) ⟨(by first | assumption | omega), ⟨by decide, by decide⟩⟩ dX12_isMust_24 (by decide) rfl (fun h_3 => ?_) (fun h_3 => ?_)
      · skip
        refine g_iconst cx (pc2 := 32) dX12_isMust_31 rfl ?_
        exact g_zret cx (Or.inl rfl) qx dX12_isMust_32 ⟨rb_f (by first | exact Or.inl ⟨rfl, by omega⟩ | (rintro (q | q | q); omega; omega; omega)), by rfl⟩
      · skip
        refine g_iconst cx (pc2 := 28) dX12_isMust_27 rfl ?_
        refine g_goto cx (tgt := 32) dX12_isMust_28 (by decide) ?_
        exact g_zret cx (Or.inr rfl) qx dX12_isMust_32 ⟨rb_t (by first | exact Or.inl ⟨rfl, by omega⟩ | (rintro (q | q | q); omega; omega; omega)), by rfl⟩
set_option maxHeartbeats 4000000 in
set_option maxRecDepth 100000 in
theorem c_X12_isLot {n : Nat} (hn : NN n) {M : Mm} (hV : RV M) (i : Int) (hi : 0 ≤ i ∧ i < 8) : CT yX12_isLot cX12_isLot 2 (some .boolean) ({ frames := 1, cells := 0, slots := 0, locals := 21 }) n [.ref 77, .int (iI i)] M (rI (b2 (isAK (nA M i 0) 2)) M) := by
  refine CT.of (lv0 := [(0, .ref 77), (1, .int (iI i))]) (by decide +kernel) hn (fun _ => rfl) (fun _ => Nat.le_of_ble_eq_true rfl) (fun X cx cs qx => ?_)
  have cx : Cx X cX12_isLot RX12 ({ frames := 1, cells := 0, slots := 0, locals := 21 }) 2 n := cx
  have hb := nA_b hV hi
  refine g_aload_n cx (pc2 := 1) 0 rfl dX12_isLot_0 rfl ?_
  refine g_iload_n cx (pc2 := 2) 1 rfl dX12_isLot_1 rfl ?_
  refine g_callV cx (pc2 := 5) (st := []) (As := [.int (iI i)]) (k0 := 77) (ci := 12) (c_X12_kind (M := M) hn i (by first | assumption | omega)) wM_X12_kind wV_X12_kind kl_X12_186 rfl (lt_lit hn (Nat.le_of_ble_eq_true rfl)) rfl ⟨rfl, rfl, Nat.le_of_ble_eq_true rfl, Nat.le_of_ble_eq_true rfl⟩ (Nat.le_of_ble_eq_true rfl) cs rfl rfl dX12_isLot_2 rfl ?_
  rintro _ _ ⟨rfl, rfl⟩
  refine g_iconst cx (pc2 := 6) dX12_isLot_5 rfl ?_
  refine g_icmp_eq cx (pc2 := 9) (tgt := 18) ⟨(by first | assumption | omega), ⟨by decide, by decide⟩⟩ dX12_isLot_6 (by decide) rfl (fun h_1 => ?_) (fun h_1 => ?_)
  · skip
    refine g_iconst cx (pc2 := 19) dX12_isLot_18 rfl ?_
    refine g_goto cx (tgt := 23) dX12_isLot_19 (by decide) ?_
    exact g_zret cx (Or.inr rfl) qx dX12_isLot_23 ⟨rb_t (by first | exact Or.inr (Or.inl ⟨rfl, by omega⟩) | (rintro (q | q | q); omega; omega; omega)), by rfl⟩
  · skip
    refine g_aload_n cx (pc2 := 10) 0 rfl dX12_isLot_9 rfl ?_
    refine g_iload_n cx (pc2 := 11) 1 rfl dX12_isLot_10 rfl ?_
    refine g_callV cx (pc2 := 14) (st := []) (As := [.int (iI i)]) (k0 := 77) (ci := 12) (c_X12_kind (M := M) hn i (by first | assumption | omega)) wM_X12_kind wV_X12_kind kl_X12_186 rfl (lt_lit hn (Nat.le_of_ble_eq_true rfl)) rfl ⟨rfl, rfl, Nat.le_of_ble_eq_true rfl, Nat.le_of_ble_eq_true rfl⟩ (Nat.le_of_ble_eq_true rfl) cs rfl rfl dX12_isLot_11 rfl ?_
    rintro _ _ ⟨rfl, rfl⟩
    refine g_iconst cx (pc2 := 15) dX12_isLot_14 rfl ?_
    refine g_icmp_ne cx (pc2 := 18) (tgt := 22) ⟨(by first | assumption | omega), ⟨by decide, by decide⟩⟩ dX12_isLot_15 (by decide) rfl (fun h_2 => ?_) (fun h_2 => ?_)
    · skip
      refine g_iconst cx (pc2 := 23) dX12_isLot_22 rfl ?_
      exact g_zret cx (Or.inl rfl) qx dX12_isLot_23 ⟨rb_f (by first | exact Or.inr (Or.inl ⟨rfl, by omega⟩) | (rintro (q | q | q); omega; omega; omega)), by rfl⟩
    · skip
      refine g_iconst cx (pc2 := 19) dX12_isLot_18 rfl ?_
      refine g_goto cx (tgt := 23) dX12_isLot_19 (by decide) ?_
      exact g_zret cx (Or.inr rfl) qx dX12_isLot_23 ⟨rb_t (by first | exact Or.inr (Or.inl ⟨rfl, by omega⟩) | (rintro (q | q | q); omega; omega; omega)), by rfl⟩
set_option maxHeartbeats 4000000 in
set_option maxRecDepth 100000 in
theorem c_X12_house {n : Nat} (hn : NN n) {M : Mm} (hV : RV M) (h : Int) (hh : ir h) : CT yX12_house cX12_house 2 (some .int) ({ frames := 2, cells := 0, slots := 0, locals := 43 }) n [.ref 77, .int (iI h)] M (rI (xhouA M h) (xhouM M h)) := by
  refine CT.of (lv0 := [(0, .ref 77), (1, .int (iI h))]) (by decide +kernel) hn (fun _ => rfl) (fun _ => Nat.le_of_ble_eq_true rfl) (fun X cx cs qx => ?_)
  have cx : Cx X cX12_house RX12 ({ frames := 2, cells := 0, slots := 0, locals := 43 }) 2 n := cx
  have hv1 := hV.1
  refine g_aload_n cx (pc2 := 1) 0 rfl dX12_house_0 rfl ?_
  refine g_iload_n cx (pc2 := 2) 1 rfl dX12_house_1 rfl ?_
  refine g_callV cx (pc2 := 5) (st := []) (As := [.int (iI h)]) (k0 := 77) (ci := 12) (c_X12_isHouse (M := M) hn (by exact hV) h (by first | assumption | omega)) wM_X12_isHouse wV_X12_isHouse kl_X12_189 rfl (lt_lit hn (Nat.le_of_ble_eq_true rfl)) rfl ⟨rfl, rfl, Nat.le_of_ble_eq_true rfl, Nat.le_of_ble_eq_true rfl⟩ (Nat.le_of_ble_eq_true rfl) cs rfl rfl dX12_house_2 rfl ?_
  rintro _ _ ⟨rfl, rfl⟩
  refine g_ifb_eq cx (pc2 := 8) (tgt := 27) dX12_house_5 (by decide) rfl (fun h_1 => ?_) (fun h_1 => ?_)
  · skip
    refine g_iconst cx (pc2 := 28) dX12_house_27 rfl ?_
    exact g_iret cx qx dX12_house_28 ⟨congrArg (fun q => some (Value.int (iI q))) (by unfold xhouA; (repeat (first | rw [if_pos (by first | assumption | omega)] | rw [if_neg (by first | assumption | exact not_not_intro (by assumption) | omega)])); first | done | rfl | (symm; assumption)), by unfold xhouM; (repeat (first | rw [if_pos (by first | assumption | omega)] | rw [if_neg (by first | assumption | exact not_not_intro (by assumption) | omega)])); first | done | rfl | (symm; assumption)⟩
  · skip
    refine g_aload_n cx (pc2 := 9) 0 rfl dX12_house_8 rfl ?_
    refine g_aload_n cx (pc2 := 10) 0 rfl dX12_house_9 rfl ?_
    refine g_get cx (pc2 := 13) (ci := 12) (k0 := 77) (j := 33) (v := .ref 97) rfl iwX12 rfl (lt_lit hn (Nat.le_of_ble_eq_true rfl)) rfl (Nat.le_of_ble_eq_true rfl) kf_X12_68 rfl rfl dX12_house_10 rfl ?_
    refine g_iload_n cx (pc2 := 14) 1 rfl dX12_house_13 rfl ?_
    refine g_iald cx (pc2 := 15) (k0 := 97) rfl (lt_lit hn (Nat.le_of_ble_eq_true rfl)) (by first | assumption | omega) (by first | assumption | omega) (Nat.le_of_ble_eq_true rfl) dX12_house_14 rfl ?_
    refine g_rwi (y := iI (M 97 ((h).toNat))) (congrArg iI (by simp [stM])) ?_
    refine g_aload_n cx (pc2 := 16) 0 rfl dX12_house_15 rfl ?_
    refine g_get cx (pc2 := 19) (ci := 12) (k0 := 77) (j := 11) (v := .ref 84) rfl iwX12 rfl (lt_lit hn (Nat.le_of_ble_eq_true rfl)) rfl (Nat.le_of_ble_eq_true rfl) kf_X12_29 rfl rfl dX12_house_16 rfl ?_
    refine g_iload_n cx (pc2 := 20) 1 rfl dX12_house_19 rfl ?_
    refine g_iald cx (pc2 := 21) (k0 := 84) rfl (lt_lit hn (Nat.le_of_ble_eq_true rfl)) (by first | assumption | omega) (by first | assumption | omega) (Nat.le_of_ble_eq_true rfl) dX12_house_20 rfl ?_
    refine g_rwi (y := iI (M 84 ((h).toNat))) (congrArg iI (by simp [stM])) ?_
    refine g_callV cx (pc2 := 24) (st := []) (As := [.int (iI (M 97 ((h).toNat))), .int (iI (M 84 ((h).toNat)))]) (k0 := 77) (ci := 12) (c_X12_tells (M := M) hn (M 97 ((h).toNat)) (M 84 ((h).toNat))) wM_X12_tells wV_X12_tells kl_X12_119 rfl (lt_lit hn (Nat.le_of_ble_eq_true rfl)) rfl ⟨rfl, rfl, Nat.le_of_ble_eq_true rfl, Nat.le_of_ble_eq_true rfl⟩ (Nat.le_of_ble_eq_true rfl) cs rfl rfl dX12_house_21 rfl ?_
    rintro _ _ ⟨rfl, rfl⟩
    refine g_goto cx (tgt := 28) dX12_house_24 (by decide) ?_
    exact g_iret cx qx dX12_house_28 ⟨congrArg (fun q => some (Value.int (iI q))) (by unfold xhouA; (repeat (first | rw [if_pos (by first | assumption | omega)] | rw [if_neg (by first | assumption | exact not_not_intro (by assumption) | omega)])); first | done | rfl | (symm; assumption)), by unfold xhouM; (repeat (first | rw [if_pos (by first | assumption | omega)] | rw [if_neg (by first | assumption | exact not_not_intro (by assumption) | omega)])); first | done | rfl | (symm; assumption)⟩
set_option maxHeartbeats 4000000 in
set_option maxRecDepth 100000 in
theorem c_X12_need {n : Nat} (hn : NN n) {M : Mm} (hV : RV M) (i w : Int) (hi : ir i) (hw : ir w) : CT yX12_need cX12_need 3 (some .int) ({ frames := 2, cells := 0, slots := 0, locals := 43 }) n [.ref 77, .int (iI i), .int (iI w)] M (rI (xneeA M i w) (xneeM M i w)) := by
  refine CT.of (lv0 := [(0, .ref 77), (1, .int (iI i)), (2, .int (iI w))]) (by decide +kernel) hn (fun _ => rfl) (fun _ => Nat.le_of_ble_eq_true rfl) (fun X cx cs qx => ?_)
  have cx : Cx X cX12_need RX12 ({ frames := 2, cells := 0, slots := 0, locals := 43 }) 3 n := cx
  have hv1 := hV.1
  refine g_aload_n cx (pc2 := 1) 0 rfl dX12_need_0 rfl ?_
  refine g_iload_n cx (pc2 := 2) 1 rfl dX12_need_1 rfl ?_
  refine g_callV cx (pc2 := 5) (st := []) (As := [.int (iI i)]) (k0 := 77) (ci := 12) (c_X12_isNeed (M := M) hn (by exact hV) i (by first | assumption | omega)) wM_X12_isNeed wV_X12_isNeed kl_X12_192 rfl (lt_lit hn (Nat.le_of_ble_eq_true rfl)) rfl ⟨rfl, rfl, Nat.le_of_ble_eq_true rfl, Nat.le_of_ble_eq_true rfl⟩ (Nat.le_of_ble_eq_true rfl) cs rfl rfl dX12_need_2 rfl ?_
  rintro _ _ ⟨rfl, rfl⟩
  refine g_ifb_eq cx (pc2 := 8) (tgt := 31) dX12_need_5 (by decide) rfl (fun h_1 => ?_) (fun h_1 => ?_)
  · skip
    refine g_iconst cx (pc2 := 32) dX12_need_31 rfl ?_
    exact g_iret cx qx dX12_need_32 ⟨congrArg (fun q => some (Value.int (iI q))) (by unfold xneeA; (repeat (first | rw [if_pos (by first | assumption | omega)] | rw [if_neg (by first | assumption | exact not_not_intro (by assumption) | omega)])); first | done | rfl | (symm; assumption)), by unfold xneeM; (repeat (first | rw [if_pos (by first | assumption | omega)] | rw [if_neg (by first | assumption | exact not_not_intro (by assumption) | omega)])); first | done | rfl | (symm; assumption)⟩
  · skip
    refine g_iload_n cx (pc2 := 9) 2 rfl dX12_need_8 rfl ?_
    refine g_iconst cx (pc2 := 10) dX12_need_9 rfl ?_
    refine g_iconst cx (pc2 := 11) dX12_need_10 rfl ?_
    refine g_callS cx (pc2 := 14) (st := []) (As := [.int (iI w), .int (iI 0), .int (iI 5)]) (c_X12_in (M := M) hn w 0 5 (by first | assumption | omega) (by first | assumption | omega) (by first | assumption | omega)) wM_X12_in wS_X12_in kl_X12_97 ⟨rfl, rfl, Nat.le_of_ble_eq_true rfl, Nat.le_of_ble_eq_true rfl⟩ (Nat.le_of_ble_eq_true rfl) cs rfl rfl dX12_need_11 rfl ?_
    rintro _ _ ⟨rfl, rfl⟩
    refine g_ifb_eq cx (pc2 := 17) (tgt := 31) dX12_need_14 (by decide) rfl (fun h_2 => ?_) (fun h_2 => ?_)
    · skip
      refine g_iconst cx (pc2 := 32) dX12_need_31 rfl ?_
      exact g_iret cx qx dX12_need_32 ⟨congrArg (fun q => some (Value.int (iI q))) (by unfold xneeA; (repeat (first | rw [if_pos (by first | assumption | omega)] | rw [if_neg (by first | assumption | exact not_not_intro (by assumption) | omega)])); first | done | rfl | (symm; assumption)), by unfold xneeM; (repeat (first | rw [if_pos (by first | assumption | omega)] | rw [if_neg (by first | assumption | exact not_not_intro (by assumption) | omega)])); first | done | rfl | (symm; assumption)⟩
    · skip
      refine g_aload_n cx (pc2 := 18) 0 rfl dX12_need_17 rfl ?_
      refine g_aload_n cx (pc2 := 19) 0 rfl dX12_need_18 rfl ?_
      refine g_iload_n cx (pc2 := 20) 1 rfl dX12_need_19 rfl ?_
      refine g_iload_n cx (pc2 := 21) 2 rfl dX12_need_20 rfl ?_
      refine g_callV cx (pc2 := 24) (st := [.ref 77]) (As := [.int (iI i), .int (iI w)]) (k0 := 77) (ci := 12) (c_X12_needAt (M := M) hn i w (by first | assumption | omega) (by first | assumption | omega)) wM_X12_needAt wV_X12_needAt kl_X12_195 rfl (lt_lit hn (Nat.le_of_ble_eq_true rfl)) rfl ⟨rfl, rfl, Nat.le_of_ble_eq_true rfl, Nat.le_of_ble_eq_true rfl⟩ (Nat.le_of_ble_eq_true rfl) cs rfl rfl dX12_need_21 rfl ?_
      rintro _ _ ⟨rfl, rfl⟩
      refine g_iconst cx (pc2 := 25) dX12_need_24 rfl ?_
      refine g_callV cx (pc2 := 28) (st := []) (As := [.int (iI (nA M i w)), .int (iI 1)]) (k0 := 77) (ci := 12) (c_X12_tells (M := M) hn (nA M i w) 1) wM_X12_tells wV_X12_tells kl_X12_119 rfl (lt_lit hn (Nat.le_of_ble_eq_true rfl)) rfl ⟨rfl, rfl, Nat.le_of_ble_eq_true rfl, Nat.le_of_ble_eq_true rfl⟩ (Nat.le_of_ble_eq_true rfl) cs rfl rfl dX12_need_25 rfl ?_
      rintro _ _ ⟨rfl, rfl⟩
      refine g_goto cx (tgt := 32) dX12_need_28 (by decide) ?_
      exact g_iret cx qx dX12_need_32 ⟨congrArg (fun q => some (Value.int (iI q))) (by unfold xneeA; (repeat (first | rw [if_pos (by first | assumption | omega)] | rw [if_neg (by first | assumption | exact not_not_intro (by assumption) | omega)])); first | done | rfl | (symm; assumption)), by unfold xneeM; (repeat (first | rw [if_pos (by first | assumption | omega)] | rw [if_neg (by first | assumption | exact not_not_intro (by assumption) | omega)])); first | done | rfl | (symm; assumption)⟩
set_option maxHeartbeats 4000000 in
set_option maxRecDepth 100000 in
theorem c_X12_mark {n : Nat} (hn : NN n) {M : Mm} (hV : RV M) (i k : Int) (hi : ir i) (hk : ir k) : CT yX12_mark cX12_mark 5 (some .int) ({ frames := 2, cells := 0, slots := 0, locals := 43 }) n [.ref 77, .int (iI i), .int (iI k)] M (rI (xmarA M i k) (xmarM M i k)) := by
  refine CT.of (lv0 := [(0, .ref 77), (1, .int (iI i)), (2, .int (iI k))]) (by decide +kernel) hn (fun _ => rfl) (fun _ => Nat.le_of_ble_eq_true rfl) (fun X cx cs qx => ?_)
  have cx : Cx X cX12_mark RX12 ({ frames := 2, cells := 0, slots := 0, locals := 43 }) 5 n := cx
  have hv1 := hV.1
  have hnb := fun q : NX M i => nA_b hV (i := i) (by omega)
  refine g_aload_n cx (pc2 := 1) 0 rfl dX12_mark_0 rfl ?_
  refine g_iload_n cx (pc2 := 2) 1 rfl dX12_mark_1 rfl ?_
  refine g_callV cx (pc2 := 5) (st := []) (As := [.int (iI i)]) (k0 := 77) (ci := 12) (c_X12_isNeed (M := M) hn (by exact hV) i (by first | assumption | omega)) wM_X12_isNeed wV_X12_isNeed kl_X12_192 rfl (lt_lit hn (Nat.le_of_ble_eq_true rfl)) rfl ⟨rfl, rfl, Nat.le_of_ble_eq_true rfl, Nat.le_of_ble_eq_true rfl⟩ (Nat.le_of_ble_eq_true rfl) cs rfl rfl dX12_mark_2 rfl ?_
  rintro _ _ ⟨rfl, rfl⟩
  refine g_ifb_eq cx (pc2 := 8) (tgt := 17) dX12_mark_5 (by decide) rfl (fun h_1 => ?_) (fun h_1 => ?_)
  · skip
    refine g_iconst cx (pc2 := 18) dX12_mark_17 rfl ?_
    exact g_iret cx qx dX12_mark_18 ⟨congrArg (fun q => some (Value.int (iI q))) (by unfold xmarA; first | (rw [if_pos (by omega)]; done) | (rw [if_neg (by omega), if_neg (not_not_intro hA)]; unfold xmk; first | (rw [if_pos (by omega)]; done) | (rw [if_neg (by omega), if_pos (by omega)]; done) | (rw [if_neg (by omega), if_neg (by omega), if_pos (by omega)]; done) | (rw [if_neg (by omega), if_neg (by omega), if_neg (by omega), if_pos (by omega)]; (repeat (first | rw [if_pos (by omega)] | rw [if_neg (by omega)])); first | done | omega) | (rw [if_neg (by omega), if_neg (by omega), if_neg (by omega), if_neg (by omega)]; first | (rw [if_pos (by omega)]; done) | (rw [if_neg (by omega)]; done))) | (rw [if_neg (by omega), if_pos (by omega)]; done)), by unfold xmarM; first | (rw [if_pos (by omega)]; done) | (rw [if_neg (by omega), if_neg (not_not_intro hA)]; done) | (rw [if_neg (by omega), if_pos (by omega)]; done)⟩
  · skip
    refine g_iload_n cx (pc2 := 9) 2 rfl dX12_mark_8 rfl ?_
    refine g_iconst cx (pc2 := 10) dX12_mark_9 rfl ?_
    refine g_iconst cx (pc2 := 11) dX12_mark_10 rfl ?_
    refine g_callS cx (pc2 := 14) (st := []) (As := [.int (iI k), .int (iI 1), .int (iI 5)]) (c_X12_in (M := M) hn k 1 5 (by first | assumption | omega) (by first | assumption | omega) (by first | assumption | omega)) wM_X12_in wS_X12_in kl_X12_97 ⟨rfl, rfl, Nat.le_of_ble_eq_true rfl, Nat.le_of_ble_eq_true rfl⟩ (Nat.le_of_ble_eq_true rfl) cs rfl rfl dX12_mark_11 rfl ?_
    rintro _ _ ⟨rfl, rfl⟩
    refine g_ifb_ne cx (pc2 := 17) (tgt := 19) dX12_mark_14 (by decide) rfl (fun h_2 => ?_) (fun h_2 => ?_)
    · skip
      have L60 : (isAK (nA M i 0) k) → G X 60 [(0, .ref 77), (1, .int (iI i)), (2, .int (iI k))] [] M := by
        intro hA
        skip
        refine g_aload_n cx (pc2 := 61) 0 rfl dX12_mark_60 rfl ?_
        refine g_iload_n cx (pc2 := 62) 1 rfl dX12_mark_61 rfl ?_
        refine g_iconst cx (pc2 := 63) dX12_mark_62 rfl ?_
        refine g_callV cx (pc2 := 66) (st := []) (As := [.int (iI i), .int (iI 2)]) (k0 := 77) (ci := 12) (c_X12_needAt (M := M) hn i 2 (by first | assumption | omega) (by first | assumption | omega)) wM_X12_needAt wV_X12_needAt kl_X12_195 rfl (lt_lit hn (Nat.le_of_ble_eq_true rfl)) rfl ⟨rfl, rfl, Nat.le_of_ble_eq_true rfl, Nat.le_of_ble_eq_true rfl⟩ (Nat.le_of_ble_eq_true rfl) cs rfl rfl dX12_mark_63 rfl ?_
        rintro _ _ ⟨rfl, rfl⟩
        refine g_aload_n cx (pc2 := 67) 0 rfl dX12_mark_66 rfl ?_
        refine g_iload_n cx (pc2 := 68) 1 rfl dX12_mark_67 rfl ?_
        refine g_iconst cx (pc2 := 69) dX12_mark_68 rfl ?_
        refine g_callV cx (pc2 := 72) (st := [.int (iI (nA M i 2))]) (As := [.int (iI i), .int (iI 4)]) (k0 := 77) (ci := 12) (c_X12_needAt (M := M) hn i 4 (by first | assumption | omega) (by first | assumption | omega)) wM_X12_needAt wV_X12_needAt kl_X12_195 rfl (lt_lit hn (Nat.le_of_ble_eq_true rfl)) rfl ⟨rfl, rfl, Nat.le_of_ble_eq_true rfl, Nat.le_of_ble_eq_true rfl⟩ (Nat.le_of_ble_eq_true rfl) cs rfl rfl dX12_mark_69 rfl ?_
        rintro _ _ ⟨rfl, rfl⟩
        refine g_iadd cx (pc2 := 73) dX12_mark_72 rfl ?_
        refine g_iconst cx (pc2 := 74) dX12_mark_73 rfl ?_
        refine g_isub cx (pc2 := 75) dX12_mark_74 rfl ?_
        refine g_istore_n cx (pc2 := 76) (lv2 := [(0, .ref 77), (1, .int (iI i)), (2, .int (iI k)), (3, .int (iI (((nA M i 2) + (nA M i 4)) - 1)))]) rfl (Nat.le_of_ble_eq_true rfl) dX12_mark_75 rfl ?_
        refine g_aload_n cx (pc2 := 77) 0 rfl dX12_mark_76 rfl ?_
        refine g_iload_n cx (pc2 := 78) 1 rfl dX12_mark_77 rfl ?_
        refine g_iconst cx (pc2 := 79) dX12_mark_78 rfl ?_
        refine g_callV cx (pc2 := 82) (st := []) (As := [.int (iI i), .int (iI 3)]) (k0 := 77) (ci := 12) (c_X12_needAt (M := M) hn i 3 (by first | assumption | omega) (by first | assumption | omega)) wM_X12_needAt wV_X12_needAt kl_X12_195 rfl (lt_lit hn (Nat.le_of_ble_eq_true rfl)) rfl ⟨rfl, rfl, Nat.le_of_ble_eq_true rfl, Nat.le_of_ble_eq_true rfl⟩ (Nat.le_of_ble_eq_true rfl) cs rfl rfl dX12_mark_79 rfl ?_
        rintro _ _ ⟨rfl, rfl⟩
        refine g_istore cx (pc2 := 84) (lv2 := [(0, .ref 77), (1, .int (iI i)), (2, .int (iI k)), (3, .int (iI (((nA M i 2) + (nA M i 4)) - 1))), (4, .int (iI (nA M i 3)))]) rfl (Nat.le_of_ble_eq_true rfl) dX12_mark_82 rfl ?_
        refine g_iload_n cx (pc2 := 85) 2 rfl dX12_mark_84 rfl ?_
        rcases (show (k < 1 ∨ 4 < k) ∨ k = 1 ∨ k = 2 ∨ k = 3 ∨ k = 4 from by omega) with h_3 | h_3 | h_3 | h_3 | h_3
        · skip
          refine g_swOut cx (tgt := 158) (by first | assumption | omega) dX12_mark_85 h_3 (by decide) ?_
          refine g_iload_n cx (pc2 := 159) 3 rfl dX12_mark_158 rfl ?_
          refine g_iload cx (pc2 := 161) 4 rfl dX12_mark_159 rfl ?_
          refine g_icmp_le cx (pc2 := 164) (tgt := 169) ⟨(by first | assumption | omega), (by first | assumption | omega)⟩ dX12_mark_161 (by decide) rfl (fun h_4 => ?_) (fun h_4 => ?_)
          · skip
            refine g_iload cx (pc2 := 171) 4 rfl dX12_mark_169 rfl ?_
            refine g_iload_n cx (pc2 := 172) 3 rfl dX12_mark_171 rfl ?_
            refine g_isub cx (pc2 := 173) dX12_mark_172 rfl ?_
            exact g_iret cx qx dX12_mark_173 ⟨congrArg (fun q => some (Value.int (iI q))) (by unfold xmarA; first | (rw [if_pos (by omega)]; done) | (rw [if_neg (by omega), if_neg (not_not_intro hA)]; unfold xmk; first | (rw [if_pos (by omega)]; done) | (rw [if_neg (by omega), if_pos (by omega)]; done) | (rw [if_neg (by omega), if_neg (by omega), if_pos (by omega)]; done) | (rw [if_neg (by omega), if_neg (by omega), if_neg (by omega), if_pos (by omega)]; (repeat (first | rw [if_pos (by omega)] | rw [if_neg (by omega)])); first | done | omega) | (rw [if_neg (by omega), if_neg (by omega), if_neg (by omega), if_neg (by omega)]; first | (rw [if_pos (by omega)]; done) | (rw [if_neg (by omega)]; done))) | (rw [if_neg (by omega), if_pos (by omega)]; done)), by unfold xmarM; first | (rw [if_pos (by omega)]; done) | (rw [if_neg (by omega), if_neg (not_not_intro hA)]; done) | (rw [if_neg (by omega), if_pos (by omega)]; done)⟩
          · skip
            refine g_bipush cx (pc2 := 166) ⟨by decide, by decide⟩ dX12_mark_164 rfl ?_
            refine g_goto cx (tgt := 173) dX12_mark_166 (by decide) ?_
            exact g_iret cx qx dX12_mark_173 ⟨congrArg (fun q => some (Value.int (iI q))) (by unfold xmarA; first | (rw [if_pos (by omega)]; done) | (rw [if_neg (by omega), if_neg (not_not_intro hA)]; unfold xmk; first | (rw [if_pos (by omega)]; done) | (rw [if_neg (by omega), if_pos (by omega)]; done) | (rw [if_neg (by omega), if_neg (by omega), if_pos (by omega)]; done) | (rw [if_neg (by omega), if_neg (by omega), if_neg (by omega), if_pos (by omega)]; (repeat (first | rw [if_pos (by omega)] | rw [if_neg (by omega)])); first | done | omega) | (rw [if_neg (by omega), if_neg (by omega), if_neg (by omega), if_neg (by omega)]; first | (rw [if_pos (by omega)]; done) | (rw [if_neg (by omega)]; done))) | (rw [if_neg (by omega), if_pos (by omega)]; done)), by unfold xmarM; first | (rw [if_pos (by omega)]; done) | (rw [if_neg (by omega), if_neg (not_not_intro hA)]; done) | (rw [if_neg (by omega), if_pos (by omega)]; done)⟩
        · skip
          refine g_swIn cx (tgt := 116) (by first | assumption | omega) dX12_mark_85 (by omega) (by omega) (by rw [h_3]; rfl) (by decide) ?_
          refine g_aload_n cx (pc2 := 117) 0 rfl dX12_mark_116 rfl ?_
          refine g_iload_n cx (pc2 := 118) 1 rfl dX12_mark_117 rfl ?_
          refine g_iconst cx (pc2 := 119) dX12_mark_118 rfl ?_
          refine g_callV cx (pc2 := 122) (st := []) (As := [.int (iI i), .int (iI 5)]) (k0 := 77) (ci := 12) (c_X12_needAt (M := M) hn i 5 (by first | assumption | omega) (by first | assumption | omega)) wM_X12_needAt wV_X12_needAt kl_X12_195 rfl (lt_lit hn (Nat.le_of_ble_eq_true rfl)) rfl ⟨rfl, rfl, Nat.le_of_ble_eq_true rfl, Nat.le_of_ble_eq_true rfl⟩ (Nat.le_of_ble_eq_true rfl) cs rfl rfl dX12_mark_119 rfl ?_
          rintro _ _ ⟨rfl, rfl⟩
          exact g_iret cx qx dX12_mark_122 ⟨congrArg (fun q => some (Value.int (iI q))) (by unfold xmarA; first | (rw [if_pos (by omega)]; done) | (rw [if_neg (by omega), if_neg (not_not_intro hA)]; unfold xmk; first | (rw [if_pos (by omega)]; done) | (rw [if_neg (by omega), if_pos (by omega)]; done) | (rw [if_neg (by omega), if_neg (by omega), if_pos (by omega)]; done) | (rw [if_neg (by omega), if_neg (by omega), if_neg (by omega), if_pos (by omega)]; (repeat (first | rw [if_pos (by omega)] | rw [if_neg (by omega)])); first | done | omega) | (rw [if_neg (by omega), if_neg (by omega), if_neg (by omega), if_neg (by omega)]; first | (rw [if_pos (by omega)]; done) | (rw [if_neg (by omega)]; done))) | (rw [if_neg (by omega), if_pos (by omega)]; done)), by unfold xmarM; first | (rw [if_pos (by omega)]; done) | (rw [if_neg (by omega), if_neg (not_not_intro hA)]; done) | (rw [if_neg (by omega), if_pos (by omega)]; done)⟩
        · skip
          refine g_swIn cx (tgt := 123) (by first | assumption | omega) dX12_mark_85 (by omega) (by omega) (by rw [h_3]; rfl) (by decide) ?_
          refine g_aload_n cx (pc2 := 124) 0 rfl dX12_mark_123 rfl ?_
          refine g_get cx (pc2 := 127) (ci := 12) (k0 := 77) (j := 14) (v := .ref 86) rfl iwX12 rfl (lt_lit hn (Nat.le_of_ble_eq_true rfl)) rfl (Nat.le_of_ble_eq_true rfl) kf_X12_35 rfl rfl dX12_mark_124 rfl ?_
          refine g_iload_n cx (pc2 := 128) 1 rfl dX12_mark_127 rfl ?_
          refine g_iald cx (pc2 := 129) (k0 := 86) rfl (lt_lit hn (Nat.le_of_ble_eq_true rfl)) (by first | assumption | omega) (by first | assumption | omega) (Nat.le_of_ble_eq_true rfl) dX12_mark_128 rfl ?_
          refine g_rwi (y := iI (M 86 ((i).toNat))) (congrArg iI (by simp [stM])) ?_
          exact g_iret cx qx dX12_mark_129 ⟨congrArg (fun q => some (Value.int (iI q))) (by unfold xmarA; first | (rw [if_pos (by omega)]; done) | (rw [if_neg (by omega), if_neg (not_not_intro hA)]; unfold xmk; first | (rw [if_pos (by omega)]; done) | (rw [if_neg (by omega), if_pos (by omega)]; done) | (rw [if_neg (by omega), if_neg (by omega), if_pos (by omega)]; done) | (rw [if_neg (by omega), if_neg (by omega), if_neg (by omega), if_pos (by omega)]; (repeat (first | rw [if_pos (by omega)] | rw [if_neg (by omega)])); first | done | omega) | (rw [if_neg (by omega), if_neg (by omega), if_neg (by omega), if_neg (by omega)]; first | (rw [if_pos (by omega)]; done) | (rw [if_neg (by omega)]; done))) | (rw [if_neg (by omega), if_pos (by omega)]; done)), by unfold xmarM; first | (rw [if_pos (by omega)]; done) | (rw [if_neg (by omega), if_neg (not_not_intro hA)]; done) | (rw [if_neg (by omega), if_pos (by omega)]; done)⟩
        · skip
          refine g_swIn cx (tgt := 130) (by first | assumption | omega) dX12_mark_85 (by omega) (by omega) (by rw [h_3]; rfl) (by decide) ?_
          refine g_iload_n cx (pc2 := 131) 3 rfl dX12_mark_130 rfl ?_
          exact g_iret cx qx dX12_mark_131 ⟨congrArg (fun q => some (Value.int (iI q))) (by unfold xmarA; first | (rw [if_pos (by omega)]; done) | (rw [if_neg (by omega), if_neg (not_not_intro hA)]; unfold xmk; first | (rw [if_pos (by omega)]; done) | (rw [if_neg (by omega), if_pos (by omega)]; done) | (rw [if_neg (by omega), if_neg (by omega), if_pos (by omega)]; done) | (rw [if_neg (by omega), if_neg (by omega), if_neg (by omega), if_pos (by omega)]; (repeat (first | rw [if_pos (by omega)] | rw [if_neg (by omega)])); first | done | omega) | (rw [if_neg (by omega), if_neg (by omega), if_neg (by omega), if_neg (by omega)]; first | (rw [if_pos (by omega)]; done) | (rw [if_neg (by omega)]; done))) | (rw [if_neg (by omega), if_pos (by omega)]; done)), by unfold xmarM; first | (rw [if_pos (by omega)]; done) | (rw [if_neg (by omega), if_neg (not_not_intro hA)]; done) | (rw [if_neg (by omega), if_pos (by omega)]; done)⟩
        · skip
          refine g_swIn cx (tgt := 132) (by first | assumption | omega) dX12_mark_85 (by omega) (by omega) (by rw [h_3]; rfl) (by decide) ?_
          refine g_iload_n cx (pc2 := 133) 3 rfl dX12_mark_132 rfl ?_
          refine g_iload cx (pc2 := 135) 4 rfl dX12_mark_133 rfl ?_
          refine g_icmp_gt cx (pc2 := 138) (tgt := 142) ⟨(by first | assumption | omega), (by first | assumption | omega)⟩ dX12_mark_135 (by decide) rfl (fun h_5 => ?_) (fun h_5 => ?_)
          · skip
            refine g_iconst cx (pc2 := 143) dX12_mark_142 rfl ?_
            refine g_iload_n cx (pc2 := 144) 3 rfl dX12_mark_143 rfl ?_
            refine g_iconst cx (pc2 := 145) dX12_mark_144 rfl ?_
            refine g_iadd cx (pc2 := 146) dX12_mark_145 rfl ?_
            refine g_iload cx (pc2 := 148) 4 rfl dX12_mark_146 rfl ?_
            refine g_icmp_gt cx (pc2 := 151) (tgt := 155) ⟨(by first | assumption | omega), (by first | assumption | omega)⟩ dX12_mark_148 (by decide) rfl (fun h_6 => ?_) (fun h_6 => ?_)
            · skip
              refine g_iconst cx (pc2 := 156) dX12_mark_155 rfl ?_
              refine g_iadd cx (pc2 := 157) dX12_mark_156 rfl ?_
              exact g_iret cx qx dX12_mark_157 ⟨congrArg (fun q => some (Value.int (iI q))) (by unfold xmarA; first | (rw [if_pos (by omega)]; done) | (rw [if_neg (by omega), if_neg (not_not_intro hA)]; unfold xmk; first | (rw [if_pos (by omega)]; done) | (rw [if_neg (by omega), if_pos (by omega)]; done) | (rw [if_neg (by omega), if_neg (by omega), if_pos (by omega)]; done) | (rw [if_neg (by omega), if_neg (by omega), if_neg (by omega), if_pos (by omega)]; (repeat (first | rw [if_pos (by omega)] | rw [if_neg (by omega)])); first | done | omega) | (rw [if_neg (by omega), if_neg (by omega), if_neg (by omega), if_neg (by omega)]; first | (rw [if_pos (by omega)]; done) | (rw [if_neg (by omega)]; done))) | (rw [if_neg (by omega), if_pos (by omega)]; done)), by unfold xmarM; first | (rw [if_pos (by omega)]; done) | (rw [if_neg (by omega), if_neg (not_not_intro hA)]; done) | (rw [if_neg (by omega), if_pos (by omega)]; done)⟩
            · skip
              refine g_iconst cx (pc2 := 152) dX12_mark_151 rfl ?_
              refine g_goto cx (tgt := 156) dX12_mark_152 (by decide) ?_
              refine g_iadd cx (pc2 := 157) dX12_mark_156 rfl ?_
              exact g_iret cx qx dX12_mark_157 ⟨congrArg (fun q => some (Value.int (iI q))) (by unfold xmarA; first | (rw [if_pos (by omega)]; done) | (rw [if_neg (by omega), if_neg (not_not_intro hA)]; unfold xmk; first | (rw [if_pos (by omega)]; done) | (rw [if_neg (by omega), if_pos (by omega)]; done) | (rw [if_neg (by omega), if_neg (by omega), if_pos (by omega)]; done) | (rw [if_neg (by omega), if_neg (by omega), if_neg (by omega), if_pos (by omega)]; (repeat (first | rw [if_pos (by omega)] | rw [if_neg (by omega)])); first | done | omega) | (rw [if_neg (by omega), if_neg (by omega), if_neg (by omega), if_neg (by omega)]; first | (rw [if_pos (by omega)]; done) | (rw [if_neg (by omega)]; done))) | (rw [if_neg (by omega), if_pos (by omega)]; done)), by unfold xmarM; first | (rw [if_pos (by omega)]; done) | (rw [if_neg (by omega), if_neg (not_not_intro hA)]; done) | (rw [if_neg (by omega), if_pos (by omega)]; done)⟩
          · skip
            refine g_iconst cx (pc2 := 139) dX12_mark_138 rfl ?_
            refine g_goto cx (tgt := 143) dX12_mark_139 (by decide) ?_
            refine g_iload_n cx (pc2 := 144) 3 rfl dX12_mark_143 rfl ?_
            refine g_iconst cx (pc2 := 145) dX12_mark_144 rfl ?_
            refine g_iadd cx (pc2 := 146) dX12_mark_145 rfl ?_
            refine g_iload cx (pc2 := 148) 4 rfl dX12_mark_146 rfl ?_
            refine g_icmp_gt cx (pc2 := 151) (tgt := 155) ⟨(by first | assumption | omega), (by first | assumption | omega)⟩ dX12_mark_148 (by decide) rfl (fun h_7 => ?_) (fun h_7 => ?_)
            · skip
              refine g_iconst cx (pc2 := 156) dX12_mark_155 rfl ?_
              refine g_iadd cx (pc2 := 157) dX12_mark_156 rfl ?_
              exact g_iret cx qx dX12_mark_157 ⟨congrArg (fun q => some (Value.int (iI q))) (by unfold xmarA; first | (rw [if_pos (by omega)]; done) | (rw [if_neg (by omega), if_neg (not_not_intro hA)]; unfold xmk; first | (rw [if_pos (by omega)]; done) | (rw [if_neg (by omega), if_pos (by omega)]; done) | (rw [if_neg (by omega), if_neg (by omega), if_pos (by omega)]; done) | (rw [if_neg (by omega), if_neg (by omega), if_neg (by omega), if_pos (by omega)]; (repeat (first | rw [if_pos (by omega)] | rw [if_neg (by omega)])); first | done | omega) | (rw [if_neg (by omega), if_neg (by omega), if_neg (by omega), if_neg (by omega)]; first | (rw [if_pos (by omega)]; done) | (rw [if_neg (by omega)]; done))) | (rw [if_neg (by omega), if_pos (by omega)]; done)), by unfold xmarM; first | (rw [if_pos (by omega)]; done) | (rw [if_neg (by omega), if_neg (not_not_intro hA)]; done) | (rw [if_neg (by omega), if_pos (by omega)]; done)⟩
            · skip
              refine g_iconst cx (pc2 := 152) dX12_mark_151 rfl ?_
              refine g_goto cx (tgt := 156) dX12_mark_152 (by decide) ?_
              refine g_iadd cx (pc2 := 157) dX12_mark_156 rfl ?_
              exact g_iret cx qx dX12_mark_157 ⟨congrArg (fun q => some (Value.int (iI q))) (by unfold xmarA; first | (rw [if_pos (by omega)]; done) | (rw [if_neg (by omega), if_neg (not_not_intro hA)]; unfold xmk; first | (rw [if_pos (by omega)]; done) | (rw [if_neg (by omega), if_pos (by omega)]; done) | (rw [if_neg (by omega), if_neg (by omega), if_pos (by omega)]; done) | (rw [if_neg (by omega), if_neg (by omega), if_neg (by omega), if_pos (by omega)]; (repeat (first | rw [if_pos (by omega)] | rw [if_neg (by omega)])); first | done | omega) | (rw [if_neg (by omega), if_neg (by omega), if_neg (by omega), if_neg (by omega)]; first | (rw [if_pos (by omega)]; done) | (rw [if_neg (by omega)]; done))) | (rw [if_neg (by omega), if_pos (by omega)]; done)), by unfold xmarM; first | (rw [if_pos (by omega)]; done) | (rw [if_neg (by omega), if_neg (not_not_intro hA)]; done) | (rw [if_neg (by omega), if_pos (by omega)]; done)⟩
      have hb := hnb (by omega)
      refine g_aload_n cx (pc2 := 20) 0 rfl dX12_mark_19 rfl ?_
      refine g_iload_n cx (pc2 := 21) 1 rfl dX12_mark_20 rfl ?_
      refine g_callV cx (pc2 := 24) (st := []) (As := [.int (iI i)]) (k0 := 77) (ci := 12) (c_X12_kind (M := M) hn i (by first | assumption | omega)) wM_X12_kind wV_X12_kind kl_X12_186 rfl (lt_lit hn (Nat.le_of_ble_eq_true rfl)) rfl ⟨rfl, rfl, Nat.le_of_ble_eq_true rfl, Nat.le_of_ble_eq_true rfl⟩ (Nat.le_of_ble_eq_true rfl) cs rfl rfl dX12_mark_21 rfl ?_
      rintro _ _ ⟨rfl, rfl⟩
      refine g_iload_n cx (pc2 := 25) 2 rfl dX12_mark_24 rfl ?_
      refine g_icmp_eq cx (pc2 := 28) (tgt := 60) ⟨(by first | assumption | omega), (by first | assumption | omega)⟩ dX12_mark_25 (by decide) rfl (fun h_8 => ?_) (fun h_8 => ?_)
      · skip
        exact L60  (by first | assumption | omega)
      · skip
        refine g_iload_n cx (pc2 := 29) 2 rfl dX12_mark_28 rfl ?_
        refine g_iconst cx (pc2 := 30) dX12_mark_29 rfl ?_
        refine g_icmp_ne cx (pc2 := 33) (tgt := 41) ⟨(by first | assumption | omega), ⟨by decide, by decide⟩⟩ dX12_mark_30 (by decide) rfl (fun h_9 => ?_) (fun h_9 => ?_)
        · skip
          refine g_iload_n cx (pc2 := 42) 2 rfl dX12_mark_41 rfl ?_
          refine g_iconst cx (pc2 := 43) dX12_mark_42 rfl ?_
          refine g_icmp_ne cx (pc2 := 46) (tgt := 54) ⟨(by first | assumption | omega), ⟨by decide, by decide⟩⟩ dX12_mark_43 (by decide) rfl (fun h_10 => ?_) (fun h_10 => ?_)
          · skip
            refine g_aload_n cx (pc2 := 55) 0 rfl dX12_mark_54 rfl ?_
            refine g_iconst cx (pc2 := 56) dX12_mark_55 rfl ?_
            refine g_callV cx (pc2 := 59) (st := []) (As := [.int (iI 3)]) (k0 := 77) (ci := 12) (c_X12_meets (M := M) hn 3 (by first | assumption | omega)) wM_X12_meets wV_X12_meets kl_X12_111 rfl (lt_lit hn (Nat.le_of_ble_eq_true rfl)) rfl ⟨rfl, rfl, Nat.le_of_ble_eq_true rfl, Nat.le_of_ble_eq_true rfl⟩ (Nat.le_of_ble_eq_true rfl) cs rfl rfl dX12_mark_56 rfl ?_
            rintro _ _ ⟨rfl, rfl⟩
            exact g_iret cx qx dX12_mark_59 ⟨congrArg (fun q => some (Value.int (iI q))) (by unfold xmarA; first | (rw [if_pos (by omega)]; done) | (rw [if_neg (by omega), if_neg (not_not_intro hA)]; unfold xmk; first | (rw [if_pos (by omega)]; done) | (rw [if_neg (by omega), if_pos (by omega)]; done) | (rw [if_neg (by omega), if_neg (by omega), if_pos (by omega)]; done) | (rw [if_neg (by omega), if_neg (by omega), if_neg (by omega), if_pos (by omega)]; (repeat (first | rw [if_pos (by omega)] | rw [if_neg (by omega)])); first | done | omega) | (rw [if_neg (by omega), if_neg (by omega), if_neg (by omega), if_neg (by omega)]; first | (rw [if_pos (by omega)]; done) | (rw [if_neg (by omega)]; done))) | (rw [if_neg (by omega), if_pos (by omega)]; done)), by unfold xmarM; first | (rw [if_pos (by omega)]; done) | (rw [if_neg (by omega), if_neg (not_not_intro hA)]; done) | (rw [if_neg (by omega), if_pos (by omega)]; done)⟩
          · skip
            refine g_aload_n cx (pc2 := 47) 0 rfl dX12_mark_46 rfl ?_
            refine g_iload_n cx (pc2 := 48) 1 rfl dX12_mark_47 rfl ?_
            refine g_callV cx (pc2 := 51) (st := []) (As := [.int (iI i)]) (k0 := 77) (ci := 12) (c_X12_isLot (M := M) hn (by exact hV) i (by first | assumption | omega)) wM_X12_isLot wV_X12_isLot kl_X12_201 rfl (lt_lit hn (Nat.le_of_ble_eq_true rfl)) rfl ⟨rfl, rfl, Nat.le_of_ble_eq_true rfl, Nat.le_of_ble_eq_true rfl⟩ (Nat.le_of_ble_eq_true rfl) cs rfl rfl dX12_mark_48 rfl ?_
            rintro _ _ ⟨rfl, rfl⟩
            refine g_ifb_ne cx (pc2 := 54) (tgt := 60) dX12_mark_51 (by decide) rfl (fun h_11 => ?_) (fun h_11 => ?_)
            · skip
              exact L60  (by first | assumption | omega)
            · skip
              refine g_aload_n cx (pc2 := 55) 0 rfl dX12_mark_54 rfl ?_
              refine g_iconst cx (pc2 := 56) dX12_mark_55 rfl ?_
              refine g_callV cx (pc2 := 59) (st := []) (As := [.int (iI 3)]) (k0 := 77) (ci := 12) (c_X12_meets (M := M) hn 3 (by first | assumption | omega)) wM_X12_meets wV_X12_meets kl_X12_111 rfl (lt_lit hn (Nat.le_of_ble_eq_true rfl)) rfl ⟨rfl, rfl, Nat.le_of_ble_eq_true rfl, Nat.le_of_ble_eq_true rfl⟩ (Nat.le_of_ble_eq_true rfl) cs rfl rfl dX12_mark_56 rfl ?_
              rintro _ _ ⟨rfl, rfl⟩
              exact g_iret cx qx dX12_mark_59 ⟨congrArg (fun q => some (Value.int (iI q))) (by unfold xmarA; first | (rw [if_pos (by omega)]; done) | (rw [if_neg (by omega), if_neg (not_not_intro hA)]; unfold xmk; first | (rw [if_pos (by omega)]; done) | (rw [if_neg (by omega), if_pos (by omega)]; done) | (rw [if_neg (by omega), if_neg (by omega), if_pos (by omega)]; done) | (rw [if_neg (by omega), if_neg (by omega), if_neg (by omega), if_pos (by omega)]; (repeat (first | rw [if_pos (by omega)] | rw [if_neg (by omega)])); first | done | omega) | (rw [if_neg (by omega), if_neg (by omega), if_neg (by omega), if_neg (by omega)]; first | (rw [if_pos (by omega)]; done) | (rw [if_neg (by omega)]; done))) | (rw [if_neg (by omega), if_pos (by omega)]; done)), by unfold xmarM; first | (rw [if_pos (by omega)]; done) | (rw [if_neg (by omega), if_neg (not_not_intro hA)]; done) | (rw [if_neg (by omega), if_pos (by omega)]; done)⟩
        · skip
          refine g_aload_n cx (pc2 := 34) 0 rfl dX12_mark_33 rfl ?_
          refine g_iload_n cx (pc2 := 35) 1 rfl dX12_mark_34 rfl ?_
          refine g_callV cx (pc2 := 38) (st := []) (As := [.int (iI i)]) (k0 := 77) (ci := 12) (c_X12_isMust (M := M) hn (by exact hV) i (by first | assumption | omega)) wM_X12_isMust wV_X12_isMust kl_X12_198 rfl (lt_lit hn (Nat.le_of_ble_eq_true rfl)) rfl ⟨rfl, rfl, Nat.le_of_ble_eq_true rfl, Nat.le_of_ble_eq_true rfl⟩ (Nat.le_of_ble_eq_true rfl) cs rfl rfl dX12_mark_35 rfl ?_
          rintro _ _ ⟨rfl, rfl⟩
          refine g_ifb_ne cx (pc2 := 41) (tgt := 60) dX12_mark_38 (by decide) rfl (fun h_12 => ?_) (fun h_12 => ?_)
          · skip
            exact L60  (by first | assumption | omega)
          · skip
            refine g_iload_n cx (pc2 := 42) 2 rfl dX12_mark_41 rfl ?_
            refine g_iconst cx (pc2 := 43) dX12_mark_42 rfl ?_
            refine g_icmp_ne cx (pc2 := 46) (tgt := 54) ⟨(by first | assumption | omega), ⟨by decide, by decide⟩⟩ dX12_mark_43 (by decide) rfl (fun h_13 => ?_) (fun h_13 => ?_)
            · skip
              refine g_aload_n cx (pc2 := 55) 0 rfl dX12_mark_54 rfl ?_
              refine g_iconst cx (pc2 := 56) dX12_mark_55 rfl ?_
              refine g_callV cx (pc2 := 59) (st := []) (As := [.int (iI 3)]) (k0 := 77) (ci := 12) (c_X12_meets (M := M) hn 3 (by first | assumption | omega)) wM_X12_meets wV_X12_meets kl_X12_111 rfl (lt_lit hn (Nat.le_of_ble_eq_true rfl)) rfl ⟨rfl, rfl, Nat.le_of_ble_eq_true rfl, Nat.le_of_ble_eq_true rfl⟩ (Nat.le_of_ble_eq_true rfl) cs rfl rfl dX12_mark_56 rfl ?_
              rintro _ _ ⟨rfl, rfl⟩
              exact g_iret cx qx dX12_mark_59 ⟨congrArg (fun q => some (Value.int (iI q))) (by unfold xmarA; first | (rw [if_pos (by omega)]; done) | (rw [if_neg (by omega), if_neg (not_not_intro hA)]; unfold xmk; first | (rw [if_pos (by omega)]; done) | (rw [if_neg (by omega), if_pos (by omega)]; done) | (rw [if_neg (by omega), if_neg (by omega), if_pos (by omega)]; done) | (rw [if_neg (by omega), if_neg (by omega), if_neg (by omega), if_pos (by omega)]; (repeat (first | rw [if_pos (by omega)] | rw [if_neg (by omega)])); first | done | omega) | (rw [if_neg (by omega), if_neg (by omega), if_neg (by omega), if_neg (by omega)]; first | (rw [if_pos (by omega)]; done) | (rw [if_neg (by omega)]; done))) | (rw [if_neg (by omega), if_pos (by omega)]; done)), by unfold xmarM; first | (rw [if_pos (by omega)]; done) | (rw [if_neg (by omega), if_neg (not_not_intro hA)]; done) | (rw [if_neg (by omega), if_pos (by omega)]; done)⟩
            · skip
              refine g_aload_n cx (pc2 := 47) 0 rfl dX12_mark_46 rfl ?_
              refine g_iload_n cx (pc2 := 48) 1 rfl dX12_mark_47 rfl ?_
              refine g_callV cx (pc2 := 51) (st := []) (As := [.int (iI i)]) (k0 := 77) (ci := 12) (c_X12_isLot (M := M) hn (by exact hV) i (by first | assumption | omega)) wM_X12_isLot wV_X12_isLot kl_X12_201 rfl (lt_lit hn (Nat.le_of_ble_eq_true rfl)) rfl ⟨rfl, rfl, Nat.le_of_ble_eq_true rfl, Nat.le_of_ble_eq_true rfl⟩ (Nat.le_of_ble_eq_true rfl) cs rfl rfl dX12_mark_48 rfl ?_
              rintro _ _ ⟨rfl, rfl⟩
              refine g_ifb_ne cx (pc2 := 54) (tgt := 60) dX12_mark_51 (by decide) rfl (fun h_14 => ?_) (fun h_14 => ?_)
              · skip
                exact L60  (by first | assumption | omega)
              · skip
                refine g_aload_n cx (pc2 := 55) 0 rfl dX12_mark_54 rfl ?_
                refine g_iconst cx (pc2 := 56) dX12_mark_55 rfl ?_
                refine g_callV cx (pc2 := 59) (st := []) (As := [.int (iI 3)]) (k0 := 77) (ci := 12) (c_X12_meets (M := M) hn 3 (by first | assumption | omega)) wM_X12_meets wV_X12_meets kl_X12_111 rfl (lt_lit hn (Nat.le_of_ble_eq_true rfl)) rfl ⟨rfl, rfl, Nat.le_of_ble_eq_true rfl, Nat.le_of_ble_eq_true rfl⟩ (Nat.le_of_ble_eq_true rfl) cs rfl rfl dX12_mark_56 rfl ?_
                rintro _ _ ⟨rfl, rfl⟩
                exact g_iret cx qx dX12_mark_59 ⟨congrArg (fun q => some (Value.int (iI q))) (by unfold xmarA; first | (rw [if_pos (by omega)]; done) | (rw [if_neg (by omega), if_neg (not_not_intro hA)]; unfold xmk; first | (rw [if_pos (by omega)]; done) | (rw [if_neg (by omega), if_pos (by omega)]; done) | (rw [if_neg (by omega), if_neg (by omega), if_pos (by omega)]; done) | (rw [if_neg (by omega), if_neg (by omega), if_neg (by omega), if_pos (by omega)]; (repeat (first | rw [if_pos (by omega)] | rw [if_neg (by omega)])); first | done | omega) | (rw [if_neg (by omega), if_neg (by omega), if_neg (by omega), if_neg (by omega)]; first | (rw [if_pos (by omega)]; done) | (rw [if_neg (by omega)]; done))) | (rw [if_neg (by omega), if_pos (by omega)]; done)), by unfold xmarM; first | (rw [if_pos (by omega)]; done) | (rw [if_neg (by omega), if_neg (not_not_intro hA)]; done) | (rw [if_neg (by omega), if_pos (by omega)]; done)⟩
    · skip
      refine g_iconst cx (pc2 := 18) dX12_mark_17 rfl ?_
      exact g_iret cx qx dX12_mark_18 ⟨congrArg (fun q => some (Value.int (iI q))) (by unfold xmarA; first | (rw [if_pos (by omega)]; done) | (rw [if_neg (by omega), if_neg (not_not_intro hA)]; unfold xmk; first | (rw [if_pos (by omega)]; done) | (rw [if_neg (by omega), if_pos (by omega)]; done) | (rw [if_neg (by omega), if_neg (by omega), if_pos (by omega)]; done) | (rw [if_neg (by omega), if_neg (by omega), if_neg (by omega), if_pos (by omega)]; (repeat (first | rw [if_pos (by omega)] | rw [if_neg (by omega)])); first | done | omega) | (rw [if_neg (by omega), if_neg (by omega), if_neg (by omega), if_neg (by omega)]; first | (rw [if_pos (by omega)]; done) | (rw [if_neg (by omega)]; done))) | (rw [if_neg (by omega), if_pos (by omega)]; done)), by unfold xmarM; first | (rw [if_pos (by omega)]; done) | (rw [if_neg (by omega), if_neg (not_not_intro hA)]; done) | (rw [if_neg (by omega), if_pos (by omega)]; done)⟩
set_option maxHeartbeats 4000000 in
set_option maxRecDepth 100000 in
theorem c_X12_start {n : Nat} (hn : NN n) {M : Mm} (hV : RV M) (h : Int) (hh : ir h) : CT yX12_start cX12_start 3 (some .int) ({ frames := 2, cells := 0, slots := 0, locals := 43 }) n [.ref 77, .int (iI h)] M (rI (xstaA M h) (xstaM M h)) := by
  refine CT.of (lv0 := [(0, .ref 77), (1, .int (iI h))]) (by decide +kernel) hn (fun _ => rfl) (fun _ => Nat.le_of_ble_eq_true rfl) (fun X cx cs qx => ?_)
  have cx : Cx X cX12_start RX12 ({ frames := 2, cells := 0, slots := 0, locals := 43 }) 3 n := cx
  have hv1 := hV.1
  refine g_aload_n cx (pc2 := 1) 0 rfl dX12_start_0 rfl ?_
  refine g_iload_n cx (pc2 := 2) 1 rfl dX12_start_1 rfl ?_
  refine g_callV cx (pc2 := 5) (st := []) (As := [.int (iI h)]) (k0 := 77) (ci := 12) (c_X12_isHouse (M := M) hn (by exact hV) h (by first | assumption | omega)) wM_X12_isHouse wV_X12_isHouse kl_X12_189 rfl (lt_lit hn (Nat.le_of_ble_eq_true rfl)) rfl ⟨rfl, rfl, Nat.le_of_ble_eq_true rfl, Nat.le_of_ble_eq_true rfl⟩ (Nat.le_of_ble_eq_true rfl) cs rfl rfl dX12_start_2 rfl ?_
  rintro _ _ ⟨rfl, rfl⟩
  refine g_ifb_ne cx (pc2 := 8) (tgt := 10) dX12_start_5 (by decide) rfl (fun h_1 => ?_) (fun h_1 => ?_)
  · skip
    refine g_aload_n cx (pc2 := 11) 0 rfl dX12_start_10 rfl ?_
    refine g_get cx (pc2 := 14) (ci := 12) (k0 := 77) (j := 15) (v := .int (iI (M 77 15))) rfl iwX12 rfl (lt_lit hn (Nat.le_of_ble_eq_true rfl)) rfl (Nat.le_of_ble_eq_true rfl) kf_X12_171 rfl rfl dX12_start_11 rfl ?_
    refine g_istore_n cx (pc2 := 15) (lv2 := [(0, .ref 77), (1, .int (iI h)), (2, .int (iI (M 77 15)))]) rfl (Nat.le_of_ble_eq_true rfl) dX12_start_14 rfl ?_
    refine g_aload_n cx (pc2 := 16) 0 rfl dX12_start_15 rfl ?_
    refine g_iload_n cx (pc2 := 17) 1 rfl dX12_start_16 rfl ?_
    refine g_puti cx (pc2 := 20) (ci := 12) (k0 := 77) (j := 15) rfl iwX12 rfl (lt_lit hn (Nat.le_of_ble_eq_true rfl)) rfl (Nat.le_of_ble_eq_true rfl) kf_X12_171 rfl tyX12_ok nmX12 rfl rfl dX12_start_17 rfl ?_
    refine g_iload_n cx (pc2 := 21) 2 rfl dX12_start_20 rfl ?_
    exact g_iret cx qx dX12_start_21 ⟨congrArg (fun q => some (Value.int (iI q))) (by unfold xstaA; (repeat (first | rw [if_pos (by first | assumption | omega)] | rw [if_neg (by first | assumption | exact not_not_intro (by assumption) | omega)])); first | done | rfl | (symm; assumption)), by unfold xstaM; (repeat (first | rw [if_pos (by first | assumption | omega)] | rw [if_neg (by first | assumption | exact not_not_intro (by assumption) | omega)])); first | done | rfl | (symm; assumption)⟩
  · skip
    refine g_iconst cx (pc2 := 9) dX12_start_8 rfl ?_
    exact g_iret cx qx dX12_start_9 ⟨congrArg (fun q => some (Value.int (iI q))) (by unfold xstaA; (repeat (first | rw [if_pos (by first | assumption | omega)] | rw [if_neg (by first | assumption | exact not_not_intro (by assumption) | omega)])); first | done | rfl | (symm; assumption)), by unfold xstaM; (repeat (first | rw [if_pos (by first | assumption | omega)] | rw [if_neg (by first | assumption | exact not_not_intro (by assumption) | omega)])); first | done | rfl | (symm; assumption)⟩
set_option maxHeartbeats 4000000 in
set_option maxRecDepth 100000 in
theorem c_X12_carry {n : Nat} (hn : NN n) {M : Mm} (hV : RV M) (h k : Int) (hh : ir h) (hk : ir k) : CT yX12_carry cX12_carry 3 (some .int) ({ frames := 2, cells := 0, slots := 0, locals := 43 }) n [.ref 77, .int (iI h), .int (iI k)] M (rI (xcarA M h k) M) := by
  refine CT.of (lv0 := [(0, .ref 77), (1, .int (iI h)), (2, .int (iI k))]) (by decide +kernel) hn (fun _ => rfl) (fun _ => Nat.le_of_ble_eq_true rfl) (fun X cx cs qx => ?_)
  have cx : Cx X cX12_carry RX12 ({ frames := 2, cells := 0, slots := 0, locals := 43 }) 3 n := cx
  have hv1 := hV.1
  refine g_aload_n cx (pc2 := 1) 0 rfl dX12_carry_0 rfl ?_
  refine g_iload_n cx (pc2 := 2) 1 rfl dX12_carry_1 rfl ?_
  refine g_callV cx (pc2 := 5) (st := []) (As := [.int (iI h)]) (k0 := 77) (ci := 12) (c_X12_isHouse (M := M) hn (by exact hV) h (by first | assumption | omega)) wM_X12_isHouse wV_X12_isHouse kl_X12_189 rfl (lt_lit hn (Nat.le_of_ble_eq_true rfl)) rfl ⟨rfl, rfl, Nat.le_of_ble_eq_true rfl, Nat.le_of_ble_eq_true rfl⟩ (Nat.le_of_ble_eq_true rfl) cs rfl rfl dX12_carry_2 rfl ?_
  rintro _ _ ⟨rfl, rfl⟩
  refine g_ifb_eq cx (pc2 := 8) (tgt := 25) dX12_carry_5 (by decide) rfl (fun h_1 => ?_) (fun h_1 => ?_)
  · skip
    refine g_iconst cx (pc2 := 26) dX12_carry_25 rfl ?_
    exact g_iret cx qx dX12_carry_26 ⟨congrArg (fun q => some (Value.int (iI q))) (by unfold xcarA; (repeat (first | rw [if_pos (by first | assumption | omega)] | rw [if_neg (by first | assumption | exact not_not_intro (by assumption) | omega)])); first | done | rfl | (symm; assumption)), by rfl⟩
  · skip
    refine g_aload_n cx (pc2 := 9) 0 rfl dX12_carry_8 rfl ?_
    refine g_iload_n cx (pc2 := 10) 2 rfl dX12_carry_9 rfl ?_
    refine g_callV cx (pc2 := 13) (st := []) (As := [.int (iI k)]) (k0 := 77) (ci := 12) (c_X12_isHouse (M := M) hn (by exact hV) k (by first | assumption | omega)) wM_X12_isHouse wV_X12_isHouse kl_X12_189 rfl (lt_lit hn (Nat.le_of_ble_eq_true rfl)) rfl ⟨rfl, rfl, Nat.le_of_ble_eq_true rfl, Nat.le_of_ble_eq_true rfl⟩ (Nat.le_of_ble_eq_true rfl) cs rfl rfl dX12_carry_10 rfl ?_
    rintro _ _ ⟨rfl, rfl⟩
    refine g_ifb_eq cx (pc2 := 16) (tgt := 25) dX12_carry_13 (by decide) rfl (fun h_2 => ?_) (fun h_2 => ?_)
    · skip
      refine g_iconst cx (pc2 := 26) dX12_carry_25 rfl ?_
      exact g_iret cx qx dX12_carry_26 ⟨congrArg (fun q => some (Value.int (iI q))) (by unfold xcarA; (repeat (first | rw [if_pos (by first | assumption | omega)] | rw [if_neg (by first | assumption | exact not_not_intro (by assumption) | omega)])); first | done | rfl | (symm; assumption)), by rfl⟩
    · skip
      refine g_aload_n cx (pc2 := 17) 0 rfl dX12_carry_16 rfl ?_
      refine g_iload_n cx (pc2 := 18) 1 rfl dX12_carry_17 rfl ?_
      refine g_iload_n cx (pc2 := 19) 2 rfl dX12_carry_18 rfl ?_
      refine g_callV cx (pc2 := 22) (st := []) (As := [.int (iI h), .int (iI k)]) (k0 := 77) (ci := 12) (c_X12_carryOf (M := M) hn (by exact hV) h k (by first | assumption | omega) (by first | assumption | omega)) wM_X12_carryOf wV_X12_carryOf kl_X12_204 rfl (lt_lit hn (Nat.le_of_ble_eq_true rfl)) rfl ⟨rfl, rfl, Nat.le_of_ble_eq_true rfl, Nat.le_of_ble_eq_true rfl⟩ (Nat.le_of_ble_eq_true rfl) cs rfl rfl dX12_carry_19 rfl ?_
      rintro _ _ ⟨rfl, rfl⟩
      refine g_goto cx (tgt := 26) dX12_carry_22 (by decide) ?_
      exact g_iret cx qx dX12_carry_26 ⟨congrArg (fun q => some (Value.int (iI q))) (by unfold xcarA; (repeat (first | rw [if_pos (by first | assumption | omega)] | rw [if_neg (by first | assumption | exact not_not_intro (by assumption) | omega)])); first | done | rfl | (symm; assumption)), by rfl⟩
set_option maxHeartbeats 4000000 in
set_option maxRecDepth 100000 in
theorem c_X12_chance {n : Nat} (hn : NN n) {M : Mm} (hV : RV M) (i p : Int) (hi : ir i) (hp : ir p) : CT yX12_chance cX12_chance 4 (some .int) ({ frames := 2, cells := 0, slots := 0, locals := 43 }) n [.ref 77, .int (iI i), .int (iI p)] M (rI (xchaA M i p) (xchaM M i p)) := by
  refine CT.of (lv0 := [(0, .ref 77), (1, .int (iI i)), (2, .int (iI p))]) (by decide +kernel) hn (fun _ => rfl) (fun _ => Nat.le_of_ble_eq_true rfl) (fun X cx cs qx => ?_)
  have cx : Cx X cX12_chance RX12 ({ frames := 2, cells := 0, slots := 0, locals := 43 }) 4 n := cx
  have hv1 := hV.1
  refine g_aload_n cx (pc2 := 1) 0 rfl dX12_chance_0 rfl ?_
  refine g_iload_n cx (pc2 := 2) 1 rfl dX12_chance_1 rfl ?_
  refine g_callV cx (pc2 := 5) (st := []) (As := [.int (iI i)]) (k0 := 77) (ci := 12) (c_X12_isNeed (M := M) hn (by exact hV) i (by first | assumption | omega)) wM_X12_isNeed wV_X12_isNeed kl_X12_192 rfl (lt_lit hn (Nat.le_of_ble_eq_true rfl)) rfl ⟨rfl, rfl, Nat.le_of_ble_eq_true rfl, Nat.le_of_ble_eq_true rfl⟩ (Nat.le_of_ble_eq_true rfl) cs rfl rfl dX12_chance_2 rfl ?_
  rintro _ _ ⟨rfl, rfl⟩
  refine g_ifb_eq cx (pc2 := 8) (tgt := 18) dX12_chance_5 (by decide) rfl (fun h_1 => ?_) (fun h_1 => ?_)
  · skip
    refine g_iconst cx (pc2 := 19) dX12_chance_18 rfl ?_
    exact g_iret cx qx dX12_chance_19 ⟨congrArg (fun q => some (Value.int (iI q))) (by unfold xchaA; (repeat (first | rw [if_pos (by first | assumption | omega)] | rw [if_neg (by first | assumption | exact not_not_intro (by assumption) | omega)])); first | done | rfl | (symm; assumption)), by unfold xchaM; (repeat (first | rw [if_pos (by first | assumption | omega)] | rw [if_neg (by first | assumption | exact not_not_intro (by assumption) | omega)])); first | done | rfl | (symm; assumption)⟩
  · skip
    refine g_iload_n cx (pc2 := 9) 2 rfl dX12_chance_8 rfl ?_
    refine g_iconst cx (pc2 := 10) dX12_chance_9 rfl ?_
    refine g_bipush cx (pc2 := 12) ⟨by decide, by decide⟩ dX12_chance_10 rfl ?_
    refine g_callS cx (pc2 := 15) (st := []) (As := [.int (iI p), .int (iI 0), .int (iI 12)]) (c_X12_in (M := M) hn p 0 12 (by first | assumption | omega) (by first | assumption | omega) (by first | assumption | omega)) wM_X12_in wS_X12_in kl_X12_97 ⟨rfl, rfl, Nat.le_of_ble_eq_true rfl, Nat.le_of_ble_eq_true rfl⟩ (Nat.le_of_ble_eq_true rfl) cs rfl rfl dX12_chance_12 rfl ?_
    rintro _ _ ⟨rfl, rfl⟩
    refine g_ifb_ne cx (pc2 := 18) (tgt := 20) dX12_chance_15 (by decide) rfl (fun h_2 => ?_) (fun h_2 => ?_)
    · skip
      refine g_aload_n cx (pc2 := 21) 0 rfl dX12_chance_20 rfl ?_
      refine g_iload_n cx (pc2 := 22) 1 rfl dX12_chance_21 rfl ?_
      refine g_callV cx (pc2 := 25) (st := []) (As := [.int (iI i)]) (k0 := 77) (ci := 12) (c_X12_isLot (M := M) hn (by exact hV) i (by first | assumption | omega)) wM_X12_isLot wV_X12_isLot kl_X12_201 rfl (lt_lit hn (Nat.le_of_ble_eq_true rfl)) rfl ⟨rfl, rfl, Nat.le_of_ble_eq_true rfl, Nat.le_of_ble_eq_true rfl⟩ (Nat.le_of_ble_eq_true rfl) cs rfl rfl dX12_chance_22 rfl ?_
      rintro _ _ ⟨rfl, rfl⟩
      refine g_ifb_ne cx (pc2 := 28) (tgt := 34) dX12_chance_25 (by decide) rfl (fun h_3 => ?_) (fun h_3 => ?_)
      · skip
        refine g_aload_n cx (pc2 := 35) 0 rfl dX12_chance_34 rfl ?_
        refine g_get cx (pc2 := 38) (ci := 12) (k0 := 77) (j := 14) (v := .ref 86) rfl iwX12 rfl (lt_lit hn (Nat.le_of_ble_eq_true rfl)) rfl (Nat.le_of_ble_eq_true rfl) kf_X12_35 rfl rfl dX12_chance_35 rfl ?_
        refine g_iload_n cx (pc2 := 39) 1 rfl dX12_chance_38 rfl ?_
        refine g_iald cx (pc2 := 40) (k0 := 86) rfl (lt_lit hn (Nat.le_of_ble_eq_true rfl)) (by first | assumption | omega) (by first | assumption | omega) (Nat.le_of_ble_eq_true rfl) dX12_chance_39 rfl ?_
        refine g_rwi (y := iI (M 86 ((i).toNat))) (congrArg iI (by simp [stM])) ?_
        refine g_istore_n cx (pc2 := 41) (lv2 := [(0, .ref 77), (1, .int (iI i)), (2, .int (iI p)), (3, .int (iI (M 86 ((i).toNat))))]) rfl (Nat.le_of_ble_eq_true rfl) dX12_chance_40 rfl ?_
        refine g_aload_n cx (pc2 := 42) 0 rfl dX12_chance_41 rfl ?_
        refine g_get cx (pc2 := 45) (ci := 12) (k0 := 77) (j := 14) (v := .ref 86) rfl iwX12 rfl (lt_lit hn (Nat.le_of_ble_eq_true rfl)) rfl (Nat.le_of_ble_eq_true rfl) kf_X12_35 rfl rfl dX12_chance_42 rfl ?_
        refine g_iload_n cx (pc2 := 46) 1 rfl dX12_chance_45 rfl ?_
        refine g_iload_n cx (pc2 := 47) 2 rfl dX12_chance_46 rfl ?_
        refine g_iast cx (pc2 := 48) (k0 := 86) rfl (lt_lit hn (Nat.le_of_ble_eq_true rfl)) (by first | assumption | omega) (by first | assumption | omega) (Nat.le_of_ble_eq_true rfl) dX12_chance_47 rfl ?_
        refine g_iload_n cx (pc2 := 49) 3 rfl dX12_chance_48 rfl ?_
        exact g_iret cx qx dX12_chance_49 ⟨congrArg (fun q => some (Value.int (iI q))) (by unfold xchaA; (repeat (first | rw [if_pos (by first | assumption | omega)] | rw [if_neg (by first | assumption | exact not_not_intro (by assumption) | omega)])); first | done | rfl | (symm; assumption)), by unfold xchaM; (repeat (first | rw [if_pos (by first | assumption | omega)] | rw [if_neg (by first | assumption | exact not_not_intro (by assumption) | omega)])); first | done | rfl | (symm; assumption)⟩
      · skip
        refine g_aload_n cx (pc2 := 29) 0 rfl dX12_chance_28 rfl ?_
        refine g_iconst cx (pc2 := 30) dX12_chance_29 rfl ?_
        refine g_callV cx (pc2 := 33) (st := []) (As := [.int (iI 3)]) (k0 := 77) (ci := 12) (c_X12_meets (M := M) hn 3 (by first | assumption | omega)) wM_X12_meets wV_X12_meets kl_X12_111 rfl (lt_lit hn (Nat.le_of_ble_eq_true rfl)) rfl ⟨rfl, rfl, Nat.le_of_ble_eq_true rfl, Nat.le_of_ble_eq_true rfl⟩ (Nat.le_of_ble_eq_true rfl) cs rfl rfl dX12_chance_30 rfl ?_
        rintro _ _ ⟨rfl, rfl⟩
        exact g_iret cx qx dX12_chance_33 ⟨congrArg (fun q => some (Value.int (iI q))) (by unfold xchaA; (repeat (first | rw [if_pos (by first | assumption | omega)] | rw [if_neg (by first | assumption | exact not_not_intro (by assumption) | omega)])); first | done | rfl | (symm; assumption)), by unfold xchaM; (repeat (first | rw [if_pos (by first | assumption | omega)] | rw [if_neg (by first | assumption | exact not_not_intro (by assumption) | omega)])); first | done | rfl | (symm; assumption)⟩
    · skip
      refine g_iconst cx (pc2 := 19) dX12_chance_18 rfl ?_
      exact g_iret cx qx dX12_chance_19 ⟨congrArg (fun q => some (Value.int (iI q))) (by unfold xchaA; (repeat (first | rw [if_pos (by first | assumption | omega)] | rw [if_neg (by first | assumption | exact not_not_intro (by assumption) | omega)])); first | done | rfl | (symm; assumption)), by unfold xchaM; (repeat (first | rw [if_pos (by first | assumption | omega)] | rw [if_neg (by first | assumption | exact not_not_intro (by assumption) | omega)])); first | done | rfl | (symm; assumption)⟩
set_option maxHeartbeats 4000000 in
set_option maxRecDepth 100000 in
theorem c_X12_beginOf {n : Nat} (hn : NN n) {M : Mm} (hV : RV M) (i h f : Int) (hi : 0 ≤ i ∧ i < 8) (hh : 0 ≤ h ∧ h < 8) (hf : 0 ≤ f ∧ f ≤ 1000) : CT yX12_beginOf cX12_beginOf 9 (some .int) ({ frames := 2, cells := 0, slots := 0, locals := 43 }) n [.ref 77, .int (iI i), .int (iI h), .int (iI f)] M (rI (bnB (jbR M) i.toNat (M 84 h.toNat) f) M) := by
  refine CT.of (lv0 := [(0, .ref 77), (1, .int (iI i)), (2, .int (iI h)), (3, .int (iI f))]) (by decide +kernel) hn (fun _ => rfl) (fun _ => Nat.le_of_ble_eq_true rfl) (fun X cx cs qx => ?_)
  have cx : Cx X cX12_beginOf RX12 ({ frames := 2, cells := 0, slots := 0, locals := 43 }) 9 n := cx
  have hb := nA_b hV hi
  have hp1 := hV.2.1 h.toNat (by omega)
  have hp2 := hV.2.1 (nA M i 1).toNat (by omega)
  have hwb := wap_b hp1 hp2
  have hib : ((i.toNat : Nat) : Int) = i := Int.toNat_of_nonneg hi.1
  have hj0 : jbR M i.toNat 0 = M 84 (nA M i 1).toNat := by show M 84 (nA M ((i.toNat : Nat) : Int) 1).toNat = _; rw [hib]
  have hj1 : jbR M i.toNat 1 = nA M i 2 := by show nA M ((i.toNat : Nat) : Int) 2 = _; rw [hib]
  have hj2 : jbR M i.toNat 2 = ltB (nA M i 0) (nA M i 2) (nA M i 3) (nA M i 4) := by show ltB (nA M ((i.toNat : Nat) : Int) 0) (nA M ((i.toNat : Nat) : Int) 2) (nA M ((i.toNat : Nat) : Int) 3) (nA M ((i.toNat : Nat) : Int) 4) = _; rw [hib]
  have hbg : bgB (jbR M) i.toNat (M 84 h.toNat) f = max (f + wap (M 84 h.toNat) (M 84 (nA M i 1).toNat)) (nA M i 2) := by unfold bgB; rw [hj0, hj1]; split <;> omega
  generalize hB : bgB (jbR M) i.toNat (M 84 h.toNat) f = B at hbg
  have hlt : B ≤ ltB (nA M i 0) (nA M i 2) (nA M i 3) (nA M i 4) ↔ (¬ (((nA M i 0 = 3 ∨ nA M i 0 = 5) ∧ nA M i 2 < B) ∨ (nA M i 0 = 4 ∧ nA M i 2 + 1 < B)) ∧ B + nA M i 4 - 1 ≤ nA M i 3) := by unfold ltB; (repeat' split) <;> omega
  refine g_iload_n cx (pc2 := 1) 3 rfl dX12_beginOf_0 rfl ?_
  refine g_aload_n cx (pc2 := 2) 0 rfl dX12_beginOf_1 rfl ?_
  refine g_iload_n cx (pc2 := 3) 2 rfl dX12_beginOf_2 rfl ?_
  refine g_aload_n cx (pc2 := 4) 0 rfl dX12_beginOf_3 rfl ?_
  refine g_iload_n cx (pc2 := 5) 1 rfl dX12_beginOf_4 rfl ?_
  refine g_iconst cx (pc2 := 6) dX12_beginOf_5 rfl ?_
  refine g_callV cx (pc2 := 9) (st := [.int (iI h), .ref 77, .int (iI f)]) (As := [.int (iI i), .int (iI 1)]) (k0 := 77) (ci := 12) (c_X12_needAt (M := M) hn i 1 (by first | assumption | omega) (by first | assumption | omega)) wM_X12_needAt wV_X12_needAt kl_X12_195 rfl (lt_lit hn (Nat.le_of_ble_eq_true rfl)) rfl ⟨rfl, rfl, Nat.le_of_ble_eq_true rfl, Nat.le_of_ble_eq_true rfl⟩ (Nat.le_of_ble_eq_true rfl) cs rfl rfl dX12_beginOf_6 rfl ?_
  rintro _ _ ⟨rfl, rfl⟩
  refine g_callV cx (pc2 := 12) (st := [.int (iI f)]) (As := [.int (iI h), .int (iI (nA M i 1))]) (k0 := 77) (ci := 12) (c_X12_carryOf (M := M) hn (by exact hV) h (nA M i 1) (by first | assumption | omega) (by first | assumption | omega)) wM_X12_carryOf wV_X12_carryOf kl_X12_204 rfl (lt_lit hn (Nat.le_of_ble_eq_true rfl)) rfl ⟨rfl, rfl, Nat.le_of_ble_eq_true rfl, Nat.le_of_ble_eq_true rfl⟩ (Nat.le_of_ble_eq_true rfl) cs rfl rfl dX12_beginOf_9 rfl ?_
  rintro _ _ ⟨rfl, rfl⟩
  refine g_iadd cx (pc2 := 13) dX12_beginOf_12 rfl ?_
  refine g_istore cx (pc2 := 15) (lv2 := [(0, .ref 77), (1, .int (iI i)), (2, .int (iI h)), (3, .int (iI f)), (4, .int (iI (f + (wap (M 84 h.toNat) (M 84 (nA M i 1).toNat)))))]) rfl (Nat.le_of_ble_eq_true rfl) dX12_beginOf_13 rfl ?_
  refine g_aload_n cx (pc2 := 16) 0 rfl dX12_beginOf_15 rfl ?_
  refine g_iload_n cx (pc2 := 17) 1 rfl dX12_beginOf_16 rfl ?_
  refine g_iconst cx (pc2 := 18) dX12_beginOf_17 rfl ?_
  refine g_callV cx (pc2 := 21) (st := []) (As := [.int (iI i), .int (iI 2)]) (k0 := 77) (ci := 12) (c_X12_needAt (M := M) hn i 2 (by first | assumption | omega) (by first | assumption | omega)) wM_X12_needAt wV_X12_needAt kl_X12_195 rfl (lt_lit hn (Nat.le_of_ble_eq_true rfl)) rfl ⟨rfl, rfl, Nat.le_of_ble_eq_true rfl, Nat.le_of_ble_eq_true rfl⟩ (Nat.le_of_ble_eq_true rfl) cs rfl rfl dX12_beginOf_18 rfl ?_
  rintro _ _ ⟨rfl, rfl⟩
  refine g_istore cx (pc2 := 23) (lv2 := [(0, .ref 77), (1, .int (iI i)), (2, .int (iI h)), (3, .int (iI f)), (4, .int (iI (f + (wap (M 84 h.toNat) (M 84 (nA M i 1).toNat))))), (5, .int (iI (nA M i 2)))]) rfl (Nat.le_of_ble_eq_true rfl) dX12_beginOf_21 rfl ?_
  refine g_aload_n cx (pc2 := 24) 0 rfl dX12_beginOf_23 rfl ?_
  refine g_iload_n cx (pc2 := 25) 1 rfl dX12_beginOf_24 rfl ?_
  refine g_callV cx (pc2 := 28) (st := []) (As := [.int (iI i)]) (k0 := 77) (ci := 12) (c_X12_kind (M := M) hn i (by first | assumption | omega)) wM_X12_kind wV_X12_kind kl_X12_186 rfl (lt_lit hn (Nat.le_of_ble_eq_true rfl)) rfl ⟨rfl, rfl, Nat.le_of_ble_eq_true rfl, Nat.le_of_ble_eq_true rfl⟩ (Nat.le_of_ble_eq_true rfl) cs rfl rfl dX12_beginOf_25 rfl ?_
  rintro _ _ ⟨rfl, rfl⟩
  refine g_istore cx (pc2 := 30) (lv2 := [(0, .ref 77), (1, .int (iI i)), (2, .int (iI h)), (3, .int (iI f)), (4, .int (iI (f + (wap (M 84 h.toNat) (M 84 (nA M i 1).toNat))))), (5, .int (iI (nA M i 2))), (6, .int (iI (nA M i 0)))]) rfl (Nat.le_of_ble_eq_true rfl) dX12_beginOf_28 rfl ?_
  refine g_iload cx (pc2 := 32) 4 rfl dX12_beginOf_30 rfl ?_
  refine g_iload cx (pc2 := 34) 5 rfl dX12_beginOf_32 rfl ?_
  refine g_callS cx (pc2 := 37) (st := []) (As := [.int (iI (f + (wap (M 84 h.toNat) (M 84 (nA M i 1).toNat)))), .int (iI (nA M i 2))]) (c_X12_greater (M := M) hn (f + (wap (M 84 h.toNat) (M 84 (nA M i 1).toNat))) (nA M i 2) (by first | assumption | omega) (by first | assumption | omega)) wM_X12_greater wS_X12_greater kl_X12_207 ⟨rfl, rfl, Nat.le_of_ble_eq_true rfl, Nat.le_of_ble_eq_true rfl⟩ (Nat.le_of_ble_eq_true rfl) cs rfl rfl dX12_beginOf_34 rfl ?_
  rintro _ _ ⟨rfl, rfl⟩
  refine g_rwi (y := iI B) (congrArg iI hbg.symm) ?_
  refine g_istore cx (pc2 := 39) (lv2 := [(0, .ref 77), (1, .int (iI i)), (2, .int (iI h)), (3, .int (iI f)), (4, .int (iI (f + (wap (M 84 h.toNat) (M 84 (nA M i 1).toNat))))), (5, .int (iI (nA M i 2))), (6, .int (iI (nA M i 0))), (7, .int (iI B))]) rfl (Nat.le_of_ble_eq_true rfl) dX12_beginOf_37 rfl ?_
  have L80 : ∀ (lt : Int), ((lt = 1 ∧ (((nA M i 0 = 3 ∨ nA M i 0 = 5) ∧ nA M i 2 < B) ∨ (nA M i 0 = 4 ∧ nA M i 2 + 1 < B))) ∨ (lt = 0 ∧ ¬ (((nA M i 0 = 3 ∨ nA M i 0 = 5) ∧ nA M i 2 < B) ∨ (nA M i 0 = 4 ∧ nA M i 2 + 1 < B)))) → G X 80 [(0, .ref 77), (1, .int (iI i)), (2, .int (iI h)), (3, .int (iI f)), (7, .int (iI B)), (8, .int (iI lt))] [] M := by
    intro lt hlate
    refine g_iload cx (pc2 := 82) 5 rfl dX12_beginOf_80 rfl ?_
    refine g_if_ne cx (pc2 := 85) (tgt := 105) (by first | assumption | omega) dX12_beginOf_82 (by decide) rfl (fun h_1 => ?_) (fun h_1 => ?_)
    · skip
      refine g_bipush cx (pc2 := 107) ⟨by decide, by decide⟩ dX12_beginOf_105 rfl ?_
      refine g_goto cx (tgt := 112) dX12_beginOf_107 (by decide) ?_
      exact g_iret cx qx dX12_beginOf_112 ⟨congrArg (fun q => some (Value.int (iI q))) (by unfold bnB; rw [hB, hj2]; first | (rw [if_pos (by rw [hlt]; omega)]; done) | (rw [if_neg (by rw [hlt]; omega)]; done)), by rfl⟩
    · skip
      refine g_iload cx (pc2 := 87) 4 rfl dX12_beginOf_85 rfl ?_
      refine g_aload_n cx (pc2 := 88) 0 rfl dX12_beginOf_87 rfl ?_
      refine g_iload_n cx (pc2 := 89) 1 rfl dX12_beginOf_88 rfl ?_
      refine g_iconst cx (pc2 := 90) dX12_beginOf_89 rfl ?_
      refine g_callV cx (pc2 := 93) (st := [.int (iI B)]) (As := [.int (iI i), .int (iI 4)]) (k0 := 77) (ci := 12) (c_X12_needAt (M := M) hn i 4 (by first | assumption | omega) (by first | assumption | omega)) wM_X12_needAt wV_X12_needAt kl_X12_195 rfl (lt_lit hn (Nat.le_of_ble_eq_true rfl)) rfl ⟨rfl, rfl, Nat.le_of_ble_eq_true rfl, Nat.le_of_ble_eq_true rfl⟩ (Nat.le_of_ble_eq_true rfl) cs rfl rfl dX12_beginOf_90 rfl ?_
      rintro _ _ ⟨rfl, rfl⟩
      refine g_iadd cx (pc2 := 94) dX12_beginOf_93 rfl ?_
      refine g_iconst cx (pc2 := 95) dX12_beginOf_94 rfl ?_
      refine g_isub cx (pc2 := 96) dX12_beginOf_95 rfl ?_
      refine g_aload_n cx (pc2 := 97) 0 rfl dX12_beginOf_96 rfl ?_
      refine g_iload_n cx (pc2 := 98) 1 rfl dX12_beginOf_97 rfl ?_
      refine g_iconst cx (pc2 := 99) dX12_beginOf_98 rfl ?_
      refine g_callV cx (pc2 := 102) (st := [.int (iI ((B + (nA M i 4)) - 1))]) (As := [.int (iI i), .int (iI 3)]) (k0 := 77) (ci := 12) (c_X12_needAt (M := M) hn i 3 (by first | assumption | omega) (by first | assumption | omega)) wM_X12_needAt wV_X12_needAt kl_X12_195 rfl (lt_lit hn (Nat.le_of_ble_eq_true rfl)) rfl ⟨rfl, rfl, Nat.le_of_ble_eq_true rfl, Nat.le_of_ble_eq_true rfl⟩ (Nat.le_of_ble_eq_true rfl) cs rfl rfl dX12_beginOf_99 rfl ?_
      rintro _ _ ⟨rfl, rfl⟩
      refine g_icmp_le cx (pc2 := 105) (tgt := 110) ⟨(by first | assumption | omega), (by first | assumption | omega)⟩ dX12_beginOf_102 (by decide) rfl (fun h_2 => ?_) (fun h_2 => ?_)
      · skip
        refine g_iload cx (pc2 := 112) 4 rfl dX12_beginOf_110 rfl ?_
        exact g_iret cx qx dX12_beginOf_112 ⟨congrArg (fun q => some (Value.int (iI q))) (by unfold bnB; rw [hB, hj2]; first | (rw [if_pos (by rw [hlt]; omega)]; done) | (rw [if_neg (by rw [hlt]; omega)]; done)), by rfl⟩
      · skip
        refine g_bipush cx (pc2 := 107) ⟨by decide, by decide⟩ dX12_beginOf_105 rfl ?_
        refine g_goto cx (tgt := 112) dX12_beginOf_107 (by decide) ?_
        exact g_iret cx qx dX12_beginOf_112 ⟨congrArg (fun q => some (Value.int (iI q))) (by unfold bnB; rw [hB, hj2]; first | (rw [if_pos (by rw [hlt]; omega)]; done) | (rw [if_neg (by rw [hlt]; omega)]; done)), by rfl⟩
  refine g_iload cx (pc2 := 41) 6 rfl dX12_beginOf_39 rfl ?_
  refine g_iconst cx (pc2 := 42) dX12_beginOf_41 rfl ?_
  refine g_icmp_eq cx (pc2 := 45) (tgt := 51) ⟨(by first | assumption | omega), ⟨by decide, by decide⟩⟩ dX12_beginOf_42 (by decide) rfl (fun h_3 => ?_) (fun h_3 => ?_)
  · skip
    refine g_iload cx (pc2 := 53) 7 rfl dX12_beginOf_51 rfl ?_
    refine g_iload cx (pc2 := 55) 5 rfl dX12_beginOf_53 rfl ?_
    refine g_icmp_gt cx (pc2 := 58) (tgt := 73) ⟨(by first | assumption | omega), (by first | assumption | omega)⟩ dX12_beginOf_55 (by decide) rfl (fun h_4 => ?_) (fun h_4 => ?_)
    · skip
      refine g_iconst cx (pc2 := 74) dX12_beginOf_73 rfl ?_
      refine g_goto cx (tgt := 78) dX12_beginOf_74 (by decide) ?_
      refine g_istore cx (pc2 := 80) (lv2 := [(0, .ref 77), (1, .int (iI i)), (2, .int (iI h)), (3, .int (iI f)), (4, .int (iI (f + (wap (M 84 h.toNat) (M 84 (nA M i 1).toNat))))), (5, .int (iI (nA M i 2))), (6, .int (iI (nA M i 0))), (7, .int (iI B)), (8, .int (iI 1))]) rfl (Nat.le_of_ble_eq_true rfl) dX12_beginOf_78 rfl ?_
      refine g_sub (lv2 := [(0, .ref 77), (1, .int (iI i)), (2, .int (iI h)), (3, .int (iI f)), (7, .int (iI B)), (8, .int (iI 1))]) [0, 1, 2, 3, 7, 8] rfl ?_
      exact L80 1 (by first | assumption | omega)
    · skip
      refine g_iload cx (pc2 := 60) 6 rfl dX12_beginOf_58 rfl ?_
      refine g_iconst cx (pc2 := 61) dX12_beginOf_60 rfl ?_
      refine g_icmp_ne cx (pc2 := 64) (tgt := 77) ⟨(by first | assumption | omega), ⟨by decide, by decide⟩⟩ dX12_beginOf_61 (by decide) rfl (fun h_5 => ?_) (fun h_5 => ?_)
      · skip
        refine g_iconst cx (pc2 := 78) dX12_beginOf_77 rfl ?_
        refine g_istore cx (pc2 := 80) (lv2 := [(0, .ref 77), (1, .int (iI i)), (2, .int (iI h)), (3, .int (iI f)), (4, .int (iI (f + (wap (M 84 h.toNat) (M 84 (nA M i 1).toNat))))), (5, .int (iI (nA M i 2))), (6, .int (iI (nA M i 0))), (7, .int (iI B)), (8, .int (iI 0))]) rfl (Nat.le_of_ble_eq_true rfl) dX12_beginOf_78 rfl ?_
        refine g_sub (lv2 := [(0, .ref 77), (1, .int (iI i)), (2, .int (iI h)), (3, .int (iI f)), (7, .int (iI B)), (8, .int (iI 0))]) [0, 1, 2, 3, 7, 8] rfl ?_
        exact L80 0 (by first | assumption | omega)
      · skip
        refine g_iload cx (pc2 := 66) 7 rfl dX12_beginOf_64 rfl ?_
        refine g_iload cx (pc2 := 68) 5 rfl dX12_beginOf_66 rfl ?_
        refine g_iconst cx (pc2 := 69) dX12_beginOf_68 rfl ?_
        refine g_iadd cx (pc2 := 70) dX12_beginOf_69 rfl ?_
        refine g_icmp_le cx (pc2 := 73) (tgt := 77) ⟨(by first | assumption | omega), (by first | assumption | omega)⟩ dX12_beginOf_70 (by decide) rfl (fun h_6 => ?_) (fun h_6 => ?_)
        · skip
          refine g_iconst cx (pc2 := 78) dX12_beginOf_77 rfl ?_
          refine g_istore cx (pc2 := 80) (lv2 := [(0, .ref 77), (1, .int (iI i)), (2, .int (iI h)), (3, .int (iI f)), (4, .int (iI (f + (wap (M 84 h.toNat) (M 84 (nA M i 1).toNat))))), (5, .int (iI (nA M i 2))), (6, .int (iI (nA M i 0))), (7, .int (iI B)), (8, .int (iI 0))]) rfl (Nat.le_of_ble_eq_true rfl) dX12_beginOf_78 rfl ?_
          refine g_sub (lv2 := [(0, .ref 77), (1, .int (iI i)), (2, .int (iI h)), (3, .int (iI f)), (7, .int (iI B)), (8, .int (iI 0))]) [0, 1, 2, 3, 7, 8] rfl ?_
          exact L80 0 (by first | assumption | omega)
        · skip
          refine g_iconst cx (pc2 := 74) dX12_beginOf_73 rfl ?_
          refine g_goto cx (tgt := 78) dX12_beginOf_74 (by decide) ?_
          refine g_istore cx (pc2 := 80) (lv2 := [(0, .ref 77), (1, .int (iI i)), (2, .int (iI h)), (3, .int (iI f)), (4, .int (iI (f + (wap (M 84 h.toNat) (M 84 (nA M i 1).toNat))))), (5, .int (iI (nA M i 2))), (6, .int (iI (nA M i 0))), (7, .int (iI B)), (8, .int (iI 1))]) rfl (Nat.le_of_ble_eq_true rfl) dX12_beginOf_78 rfl ?_
          refine g_sub (lv2 := [(0, .ref 77), (1, .int (iI i)), (2, .int (iI h)), (3, .int (iI f)), (7, .int (iI B)), (8, .int (iI 1))]) [0, 1, 2, 3, 7, 8] rfl ?_
          exact L80 1 (by first | assumption | omega)
  · skip
    refine g_iload cx (pc2 := 47) 6 rfl dX12_beginOf_45 rfl ?_
    refine g_iconst cx (pc2 := 48) dX12_beginOf_47 rfl ?_
    refine g_icmp_ne cx (pc2 := 51) (tgt := 58) ⟨(by first | assumption | omega), ⟨by decide, by decide⟩⟩ dX12_beginOf_48 (by decide) rfl (fun h_7 => ?_) (fun h_7 => ?_)
    · skip
      refine g_iload cx (pc2 := 60) 6 rfl dX12_beginOf_58 rfl ?_
      refine g_iconst cx (pc2 := 61) dX12_beginOf_60 rfl ?_
      refine g_icmp_ne cx (pc2 := 64) (tgt := 77) ⟨(by first | assumption | omega), ⟨by decide, by decide⟩⟩ dX12_beginOf_61 (by decide) rfl (fun h_8 => ?_) (fun h_8 => ?_)
      · skip
        refine g_iconst cx (pc2 := 78) dX12_beginOf_77 rfl ?_
        refine g_istore cx (pc2 := 80) (lv2 := [(0, .ref 77), (1, .int (iI i)), (2, .int (iI h)), (3, .int (iI f)), (4, .int (iI (f + (wap (M 84 h.toNat) (M 84 (nA M i 1).toNat))))), (5, .int (iI (nA M i 2))), (6, .int (iI (nA M i 0))), (7, .int (iI B)), (8, .int (iI 0))]) rfl (Nat.le_of_ble_eq_true rfl) dX12_beginOf_78 rfl ?_
        refine g_sub (lv2 := [(0, .ref 77), (1, .int (iI i)), (2, .int (iI h)), (3, .int (iI f)), (7, .int (iI B)), (8, .int (iI 0))]) [0, 1, 2, 3, 7, 8] rfl ?_
        exact L80 0 (by first | assumption | omega)
      · skip
        refine g_iload cx (pc2 := 66) 7 rfl dX12_beginOf_64 rfl ?_
        refine g_iload cx (pc2 := 68) 5 rfl dX12_beginOf_66 rfl ?_
        refine g_iconst cx (pc2 := 69) dX12_beginOf_68 rfl ?_
        refine g_iadd cx (pc2 := 70) dX12_beginOf_69 rfl ?_
        refine g_icmp_le cx (pc2 := 73) (tgt := 77) ⟨(by first | assumption | omega), (by first | assumption | omega)⟩ dX12_beginOf_70 (by decide) rfl (fun h_9 => ?_) (fun h_9 => ?_)
        · skip
          refine g_iconst cx (pc2 := 78) dX12_beginOf_77 rfl ?_
          refine g_istore cx (pc2 := 80) (lv2 := [(0, .ref 77), (1, .int (iI i)), (2, .int (iI h)), (3, .int (iI f)), (4, .int (iI (f + (wap (M 84 h.toNat) (M 84 (nA M i 1).toNat))))), (5, .int (iI (nA M i 2))), (6, .int (iI (nA M i 0))), (7, .int (iI B)), (8, .int (iI 0))]) rfl (Nat.le_of_ble_eq_true rfl) dX12_beginOf_78 rfl ?_
          refine g_sub (lv2 := [(0, .ref 77), (1, .int (iI i)), (2, .int (iI h)), (3, .int (iI f)), (7, .int (iI B)), (8, .int (iI 0))]) [0, 1, 2, 3, 7, 8] rfl ?_
          exact L80 0 (by first | assumption | omega)
        · skip
          refine g_iconst cx (pc2 := 74) dX12_beginOf_73 rfl ?_
          refine g_goto cx (tgt := 78) dX12_beginOf_74 (by decide) ?_
          refine g_istore cx (pc2 := 80) (lv2 := [(0, .ref 77), (1, .int (iI i)), (2, .int (iI h)), (3, .int (iI f)), (4, .int (iI (f + (wap (M 84 h.toNat) (M 84 (nA M i 1).toNat))))), (5, .int (iI (nA M i 2))), (6, .int (iI (nA M i 0))), (7, .int (iI B)), (8, .int (iI 1))]) rfl (Nat.le_of_ble_eq_true rfl) dX12_beginOf_78 rfl ?_
          refine g_sub (lv2 := [(0, .ref 77), (1, .int (iI i)), (2, .int (iI h)), (3, .int (iI f)), (7, .int (iI B)), (8, .int (iI 1))]) [0, 1, 2, 3, 7, 8] rfl ?_
          exact L80 1 (by first | assumption | omega)
    · skip
      refine g_iload cx (pc2 := 53) 7 rfl dX12_beginOf_51 rfl ?_
      refine g_iload cx (pc2 := 55) 5 rfl dX12_beginOf_53 rfl ?_
      refine g_icmp_gt cx (pc2 := 58) (tgt := 73) ⟨(by first | assumption | omega), (by first | assumption | omega)⟩ dX12_beginOf_55 (by decide) rfl (fun h_10 => ?_) (fun h_10 => ?_)
      · skip
        refine g_iconst cx (pc2 := 74) dX12_beginOf_73 rfl ?_
        refine g_goto cx (tgt := 78) dX12_beginOf_74 (by decide) ?_
        refine g_istore cx (pc2 := 80) (lv2 := [(0, .ref 77), (1, .int (iI i)), (2, .int (iI h)), (3, .int (iI f)), (4, .int (iI (f + (wap (M 84 h.toNat) (M 84 (nA M i 1).toNat))))), (5, .int (iI (nA M i 2))), (6, .int (iI (nA M i 0))), (7, .int (iI B)), (8, .int (iI 1))]) rfl (Nat.le_of_ble_eq_true rfl) dX12_beginOf_78 rfl ?_
        refine g_sub (lv2 := [(0, .ref 77), (1, .int (iI i)), (2, .int (iI h)), (3, .int (iI f)), (7, .int (iI B)), (8, .int (iI 1))]) [0, 1, 2, 3, 7, 8] rfl ?_
        exact L80 1 (by first | assumption | omega)
      · skip
        refine g_iload cx (pc2 := 60) 6 rfl dX12_beginOf_58 rfl ?_
        refine g_iconst cx (pc2 := 61) dX12_beginOf_60 rfl ?_
        refine g_icmp_ne cx (pc2 := 64) (tgt := 77) ⟨(by first | assumption | omega), ⟨by decide, by decide⟩⟩ dX12_beginOf_61 (by decide) rfl (fun h_11 => ?_) (fun h_11 => ?_)
        · skip
          refine g_iconst cx (pc2 := 78) dX12_beginOf_77 rfl ?_
          refine g_istore cx (pc2 := 80) (lv2 := [(0, .ref 77), (1, .int (iI i)), (2, .int (iI h)), (3, .int (iI f)), (4, .int (iI (f + (wap (M 84 h.toNat) (M 84 (nA M i 1).toNat))))), (5, .int (iI (nA M i 2))), (6, .int (iI (nA M i 0))), (7, .int (iI B)), (8, .int (iI 0))]) rfl (Nat.le_of_ble_eq_true rfl) dX12_beginOf_78 rfl ?_
          refine g_sub (lv2 := [(0, .ref 77), (1, .int (iI i)), (2, .int (iI h)), (3, .int (iI f)), (7, .int (iI B)), (8, .int (iI 0))]) [0, 1, 2, 3, 7, 8] rfl ?_
          exact L80 0 (by first | assumption | omega)
        · skip
          refine g_iload cx (pc2 := 66) 7 rfl dX12_beginOf_64 rfl ?_
          refine g_iload cx (pc2 := 68) 5 rfl dX12_beginOf_66 rfl ?_
          refine g_iconst cx (pc2 := 69) dX12_beginOf_68 rfl ?_
          refine g_iadd cx (pc2 := 70) dX12_beginOf_69 rfl ?_
          refine g_icmp_le cx (pc2 := 73) (tgt := 77) ⟨(by first | assumption | omega), (by first | assumption | omega)⟩ dX12_beginOf_70 (by decide) rfl (fun h_12 => ?_) (fun h_12 => ?_)
          · skip
            refine g_iconst cx (pc2 := 78) dX12_beginOf_77 rfl ?_
            refine g_istore cx (pc2 := 80) (lv2 := [(0, .ref 77), (1, .int (iI i)), (2, .int (iI h)), (3, .int (iI f)), (4, .int (iI (f + (wap (M 84 h.toNat) (M 84 (nA M i 1).toNat))))), (5, .int (iI (nA M i 2))), (6, .int (iI (nA M i 0))), (7, .int (iI B)), (8, .int (iI 0))]) rfl (Nat.le_of_ble_eq_true rfl) dX12_beginOf_78 rfl ?_
            refine g_sub (lv2 := [(0, .ref 77), (1, .int (iI i)), (2, .int (iI h)), (3, .int (iI f)), (7, .int (iI B)), (8, .int (iI 0))]) [0, 1, 2, 3, 7, 8] rfl ?_
            exact L80 0 (by first | assumption | omega)
          · skip
            refine g_iconst cx (pc2 := 74) dX12_beginOf_73 rfl ?_
            refine g_goto cx (tgt := 78) dX12_beginOf_74 (by decide) ?_
            refine g_istore cx (pc2 := 80) (lv2 := [(0, .ref 77), (1, .int (iI i)), (2, .int (iI h)), (3, .int (iI f)), (4, .int (iI (f + (wap (M 84 h.toNat) (M 84 (nA M i 1).toNat))))), (5, .int (iI (nA M i 2))), (6, .int (iI (nA M i 0))), (7, .int (iI B)), (8, .int (iI 1))]) rfl (Nat.le_of_ble_eq_true rfl) dX12_beginOf_78 rfl ?_
            refine g_sub (lv2 := [(0, .ref 77), (1, .int (iI i)), (2, .int (iI h)), (3, .int (iI f)), (7, .int (iI B)), (8, .int (iI 1))]) [0, 1, 2, 3, 7, 8] rfl ?_
            exact L80 1 (by first | assumption | omega)
set_option maxHeartbeats 4000000 in
set_option maxRecDepth 100000 in
theorem c_X12_endOf {n : Nat} (hn : NN n) {M : Mm} (hV : RV M) (i h f : Int) (hi : 0 ≤ i ∧ i < 8) (hh : 0 ≤ h ∧ h < 8) (hf : 0 ≤ f ∧ f ≤ 1000) : CT yX12_endOf cX12_endOf 5 (some .int) ({ frames := 3, cells := 0, slots := 0, locals := 71 }) n [.ref 77, .int (iI i), .int (iI h), .int (iI f)] M (rI (exB (jbR M) i.toNat (M 84 h.toNat) f) M) := by
  refine CT.of (lv0 := [(0, .ref 77), (1, .int (iI i)), (2, .int (iI h)), (3, .int (iI f))]) (by decide +kernel) hn (fun _ => rfl) (fun _ => Nat.le_of_ble_eq_true rfl) (fun X cx cs qx => ?_)
  have cx : Cx X cX12_endOf RX12 ({ frames := 3, cells := 0, slots := 0, locals := 71 }) 5 n := cx
  have hp1 := hV.2.1 h.toNat (by omega)
  have hbb := bnB_b (jbR_ok hV) (i := i.toNat) (by omega) hp1 hf.1
  have hj3 : jbR M i.toNat 3 = nA M i 4 := by show nA M ((i.toNat : Nat) : Int) 4 = _; rw [Int.toNat_of_nonneg hi.1]
  refine g_aload_n cx (pc2 := 1) 0 rfl dX12_endOf_0 rfl ?_
  refine g_iload_n cx (pc2 := 2) 1 rfl dX12_endOf_1 rfl ?_
  refine g_iload_n cx (pc2 := 3) 2 rfl dX12_endOf_2 rfl ?_
  refine g_iload_n cx (pc2 := 4) 3 rfl dX12_endOf_3 rfl ?_
  refine g_callV cx (pc2 := 7) (st := []) (As := [.int (iI i), .int (iI h), .int (iI f)]) (k0 := 77) (ci := 12) (c_X12_beginOf (M := M) hn (by exact hV) i h f (by first | assumption | omega) (by first | assumption | omega) (by first | assumption | omega)) wM_X12_beginOf wV_X12_beginOf kl_X12_210 rfl (lt_lit hn (Nat.le_of_ble_eq_true rfl)) rfl ⟨rfl, rfl, Nat.le_of_ble_eq_true rfl, Nat.le_of_ble_eq_true rfl⟩ (Nat.le_of_ble_eq_true rfl) cs rfl rfl dX12_endOf_4 rfl ?_
  rintro _ _ ⟨rfl, rfl⟩
  refine g_istore cx (pc2 := 9) (lv2 := [(0, .ref 77), (1, .int (iI i)), (2, .int (iI h)), (3, .int (iI f)), (4, .int (iI (bnB (jbR M) i.toNat (M 84 h.toNat) f)))]) rfl (Nat.le_of_ble_eq_true rfl) dX12_endOf_7 rfl ?_
  refine g_iload cx (pc2 := 11) 4 rfl dX12_endOf_9 rfl ?_
  refine g_bipush cx (pc2 := 13) ⟨by decide, by decide⟩ dX12_endOf_11 rfl ?_
  refine g_icmp_ne cx (pc2 := 16) (tgt := 22) ⟨(by first | assumption | omega), ⟨by decide, by decide⟩⟩ dX12_endOf_13 (by decide) rfl (fun h_1 => ?_) (fun h_1 => ?_)
  · skip
    refine g_iload cx (pc2 := 24) 4 rfl dX12_endOf_22 rfl ?_
    refine g_aload_n cx (pc2 := 25) 0 rfl dX12_endOf_24 rfl ?_
    refine g_iload_n cx (pc2 := 26) 1 rfl dX12_endOf_25 rfl ?_
    refine g_iconst cx (pc2 := 27) dX12_endOf_26 rfl ?_
    refine g_callV cx (pc2 := 30) (st := [.int (iI (bnB (jbR M) i.toNat (M 84 h.toNat) f))]) (As := [.int (iI i), .int (iI 4)]) (k0 := 77) (ci := 12) (c_X12_needAt (M := M) hn i 4 (by first | assumption | omega) (by first | assumption | omega)) wM_X12_needAt wV_X12_needAt kl_X12_195 rfl (lt_lit hn (Nat.le_of_ble_eq_true rfl)) rfl ⟨rfl, rfl, Nat.le_of_ble_eq_true rfl, Nat.le_of_ble_eq_true rfl⟩ (Nat.le_of_ble_eq_true rfl) cs rfl rfl dX12_endOf_27 rfl ?_
    rintro _ _ ⟨rfl, rfl⟩
    refine g_iadd cx (pc2 := 31) dX12_endOf_30 rfl ?_
    exact g_iret cx qx dX12_endOf_31 ⟨congrArg (fun q => some (Value.int (iI q))) (by unfold exB; first | (rw [if_pos (by omega)]; done) | (rw [if_neg (by omega)]; omega)), by rfl⟩
  · skip
    refine g_sipush cx (pc2 := 19) ⟨by decide, by decide⟩ dX12_endOf_16 rfl ?_
    refine g_goto cx (tgt := 31) dX12_endOf_19 (by decide) ?_
    exact g_iret cx qx dX12_endOf_31 ⟨congrArg (fun q => some (Value.int (iI q))) (by unfold exB; first | (rw [if_pos (by omega)]; done) | (rw [if_neg (by omega)]; omega)), by rfl⟩
set_option maxHeartbeats 4000000 in
set_option maxRecDepth 100000 in
theorem c_X12_does {n : Nat} (hn : NN n) {M : Mm} (hV : RV M) (hL : (0 ≤ M 77 23 ∧ M 77 23 ≤ 8) ∧ ∀ k : Nat, (k : Int) < M 77 23 → 0 ≤ M 89 k ∧ M 89 k < 8) : CT yX12_does cX12_does 4 (some .int) ({ frames := 3, cells := 0, slots := 0, locals := 71 }) n [.ref 77] M (pI (fun z M2 => DS M z M2)) := by
  refine CT.of (lv0 := [(0, .ref 77)]) (by decide +kernel) hn (fun _ => rfl) (fun _ => Nat.le_of_ble_eq_true rfl) (fun X cx cs qx => ?_)
  have cx : Cx X cX12_does RX12 ({ frames := 3, cells := 0, slots := 0, locals := 71 }) 4 n := cx
  have hv1 := hV.1
  have hJo := jbR_ok hV
  have hsp := hV.2.1 (M 77 15).toNat (by omega)
  refine g_aload_n cx (pc2 := 1) 0 rfl dX12_does_0 rfl ?_
  refine g_get cx (pc2 := 4) (ci := 12) (k0 := 77) (j := 15) (v := .int (iI (M 77 15))) rfl iwX12 rfl (lt_lit hn (Nat.le_of_ble_eq_true rfl)) rfl (Nat.le_of_ble_eq_true rfl) kf_X12_171 rfl rfl dX12_does_1 rfl ?_
  refine g_istore_n cx (pc2 := 5) (lv2 := [(0, .ref 77), (1, .int (iI (M 77 15)))]) rfl (Nat.le_of_ble_eq_true rfl) dX12_does_4 rfl ?_
  refine g_aload_n cx (pc2 := 6) 0 rfl dX12_does_5 rfl ?_
  refine g_iconst cx (pc2 := 7) dX12_does_6 rfl ?_
  refine g_puti cx (pc2 := 10) (ci := 12) (k0 := 77) (j := 25) rfl iwX12 rfl (lt_lit hn (Nat.le_of_ble_eq_true rfl)) rfl (Nat.le_of_ble_eq_true rfl) kf_X12_214 rfl tyX12_ok nmX12 rfl rfl dX12_does_7 rfl ?_
  refine g_iconst cx (pc2 := 11) dX12_does_10 rfl ?_
  refine g_istore_n cx (pc2 := 12) (lv2 := [(0, .ref 77), (1, .int (iI (M 77 15))), (2, .int (iI 0))]) rfl (Nat.le_of_ble_eq_true rfl) dX12_does_11 rfl ?_
  have L12 : ∀ (fu : Nat) (k : Int) (h : Int) (U : Mm), (0 ≤ k ∧ k ≤ M 77 23) → (0 ≤ h ∧ h < 8) → ((doF (jbR M) (lnF M) (sP M) k.toNat).2.2 = true) → (M 84 h.toNat = (doF (jbR M) (lnF M) (sP M) k.toNat).1) → (U 77 25 = (doF (jbR M) (lnF M) (sP M) k.toNat).2.1) → (∀ j : Nat, (j : Int) < k → U 90 j = doB (jbR M) (lnF M) (sP M) j) → (∀ a, a ≠ 77 → a ≠ 90 → U a = M a) → (∀ b, b ≠ 25 → U 77 b = M 77 b) → (M 77 23 - k).toNat ≤ fu → G X 12 [(0, .ref 77), (1, .int (iI h)), (2, .int (iI k))] [] U := by
    intro fu
    induction fu using Nat.strongRecOn with
    | _ fu ih12 =>
      intro k h U hk hh hok hpl hg hbg hU1 hU2 hk12
      have hVU : RV U := hV.of (hU1 84 (by decide) (by decide)) (hU1 85 (by decide) (by decide)) (hU1 86 (by decide) (by decide)) (hU2 10 (by decide)) (hU2 12 (by decide)) (hU2 15 (by decide))
      have e23 := hU2 23 (by decide)
      have e89 := hU1 89 (by decide) (by decide)
      have eJ : jbR U = jbR M := jbR_off (hU1 84 (by decide) (by decide)) (hU1 85 (by decide) (by decide))
      have e84 := hU1 84 (by decide) (by decide)
      have hdb := doF_b hJo (l := lnF M) (p := sP M) hsp (k := k.toNat) (fun j hj => hL.2 j (by omega))
      have hlk := hL.2 k.toNat
      have hst : doF (jbR M) (lnF M) (sP M) (k + 1).toNat = if ¬ enB (jbR M) (M 89 k.toNat).toNat (M 84 h.toNat) (U 77 25) = -9 then (jbR M (M 89 k.toNat).toNat 0, enB (jbR M) (M 89 k.toNat).toNat (M 84 h.toNat) (U 77 25), true) else (M 84 h.toNat, U 77 25, false) := by rw [show (k + 1).toNat = k.toNat + 1 by omega, doF, hok, ← hpl, ← hg]; simp [lnF]
      have hN : doN (jbR M) (lnF M) (sP M) k.toNat = k := by rw [doN_ok hok]; omega
      refine g_iload_n cx (pc2 := 13) 2 rfl dX12_does_12 rfl ?_
      refine g_aload_n cx (pc2 := 14) 0 rfl dX12_does_13 rfl ?_
      refine g_get cx (pc2 := 17) (ci := 12) (k0 := 77) (j := 23) (v := .int (iI (U 77 23))) rfl iwX12 rfl (lt_lit hn (Nat.le_of_ble_eq_true rfl)) rfl (Nat.le_of_ble_eq_true rfl) kf_X12_217 rfl rfl dX12_does_14 rfl ?_
      refine g_rwi (y := iI (M 77 23)) (congrArg iI e23) ?_
      refine g_icmp_ge cx (pc2 := 20) (tgt := 86) ⟨(by first | assumption | omega), (by first | assumption | omega)⟩ dX12_does_17 (by decide) rfl (fun h_1 => ?_) (fun h_1 => ?_)
      · skip
        refine g_aload_n cx (pc2 := 87) 0 rfl dX12_does_86 rfl ?_
        refine g_get cx (pc2 := 90) (ci := 12) (k0 := 77) (j := 23) (v := .int (iI (U 77 23))) rfl iwX12 rfl (lt_lit hn (Nat.le_of_ble_eq_true rfl)) rfl (Nat.le_of_ble_eq_true rfl) kf_X12_217 rfl rfl dX12_does_87 rfl ?_
        refine g_rwi (y := iI (M 77 23)) (congrArg iI e23) ?_
        exact g_iret cx qx dX12_does_90 ⟨_, rfl, by have e : k = M 77 23 := (by omega); unfold DS; rw [← e, hN]; exact ⟨rfl, hg, hbg, hU1, hU2⟩⟩
      · skip
        have hlk1 := hlk (by omega)
        have hbb := bnB_b hJo (i := (M 89 k.toNat).toNat) (by omega) hdb.1 hdb.2.1
        rw [← hpl, ← hg] at hbb
        have hdB : doB (jbR M) (lnF M) (sP M) k.toNat = bnB (jbR M) (M 89 k.toNat).toNat (M 84 h.toNat) (U 77 25) := by unfold doB; rw [← hpl, ← hg]; rfl
        rw [← hdB] at hbb
        have hnb := nA_b hV (i := M 89 k.toNat) hlk1
        have hj3 : jbR M (M 89 k.toNat).toNat 3 = nA M (M 89 k.toNat) 4 := by show nA M (((M 89 k.toNat).toNat : Nat) : Int) 4 = _; rw [Int.toNat_of_nonneg hlk1.1]
        have hj0 : jbR M (M 89 k.toNat).toNat 0 = M 84 (nA M (M 89 k.toNat) 1).toNat := by show M 84 (nA M (((M 89 k.toNat).toNat : Nat) : Int) 1).toNat = _; rw [Int.toNat_of_nonneg hlk1.1]
        refine g_aload_n cx (pc2 := 21) 0 rfl dX12_does_20 rfl ?_
        refine g_aload_n cx (pc2 := 22) 0 rfl dX12_does_21 rfl ?_
        refine g_get cx (pc2 := 25) (ci := 12) (k0 := 77) (j := 22) (v := .ref 89) rfl iwX12 rfl (lt_lit hn (Nat.le_of_ble_eq_true rfl)) rfl (Nat.le_of_ble_eq_true rfl) kf_X12_44 rfl rfl dX12_does_22 rfl ?_
        refine g_iload_n cx (pc2 := 26) 2 rfl dX12_does_25 rfl ?_
        refine g_iald cx (pc2 := 27) (k0 := 89) rfl (lt_lit hn (Nat.le_of_ble_eq_true rfl)) (by first | assumption | omega) (by first | assumption | omega) (Nat.le_of_ble_eq_true rfl) dX12_does_26 rfl ?_
        refine g_rwi (y := iI (U 89 ((k).toNat))) (congrArg iI (by simp [stM])) ?_
        refine g_rwi (y := iI (M 89 k.toNat)) (congrArg iI (by rw [e89])) ?_
        refine g_iload_n cx (pc2 := 28) 1 rfl dX12_does_27 rfl ?_
        refine g_aload_n cx (pc2 := 29) 0 rfl dX12_does_28 rfl ?_
        refine g_get cx (pc2 := 32) (ci := 12) (k0 := 77) (j := 25) (v := .int (iI (U 77 25))) rfl iwX12 rfl (lt_lit hn (Nat.le_of_ble_eq_true rfl)) rfl (Nat.le_of_ble_eq_true rfl) kf_X12_214 rfl rfl dX12_does_29 rfl ?_
        refine g_callV cx (pc2 := 35) (st := []) (As := [.int (iI (M 89 k.toNat)), .int (iI h), .int (iI (U 77 25))]) (k0 := 77) (ci := 12) (c_X12_beginOf (M := U) hn (by exact hVU) (M 89 k.toNat) h (U 77 25) (by first | assumption | omega) (by first | assumption | omega) (by first | assumption | omega)) wM_X12_beginOf wV_X12_beginOf kl_X12_210 rfl (lt_lit hn (Nat.le_of_ble_eq_true rfl)) rfl ⟨rfl, rfl, Nat.le_of_ble_eq_true rfl, Nat.le_of_ble_eq_true rfl⟩ (Nat.le_of_ble_eq_true rfl) cs rfl rfl dX12_does_32 rfl ?_
        rintro _ _ ⟨rfl, rfl⟩
        refine g_rwi (y := iI (doB (jbR M) (lnF M) (sP M) k.toNat)) (congrArg iI (by rw [eJ, e84, hpl, hg]; rfl)) ?_
        refine g_istore_n cx (pc2 := 36) (lv2 := [(0, .ref 77), (1, .int (iI h)), (2, .int (iI k)), (3, .int (iI (doB (jbR M) (lnF M) (sP M) k.toNat)))]) rfl (Nat.le_of_ble_eq_true rfl) dX12_does_35 rfl ?_
        refine g_iload_n cx (pc2 := 37) 3 rfl dX12_does_36 rfl ?_
        refine g_bipush cx (pc2 := 39) ⟨by decide, by decide⟩ dX12_does_37 rfl ?_
        refine g_icmp_ne cx (pc2 := 42) (tgt := 44) ⟨(by first | assumption | omega), ⟨by decide, by decide⟩⟩ dX12_does_39 (by decide) rfl (fun h_2 => ?_) (fun h_2 => ?_)
        · skip
          refine g_aload_n cx (pc2 := 45) 0 rfl dX12_does_44 rfl ?_
          refine g_get cx (pc2 := 48) (ci := 12) (k0 := 77) (j := 24) (v := .ref 90) rfl iwX12 rfl (lt_lit hn (Nat.le_of_ble_eq_true rfl)) rfl (Nat.le_of_ble_eq_true rfl) kf_X12_47 rfl rfl dX12_does_45 rfl ?_
          refine g_iload_n cx (pc2 := 49) 2 rfl dX12_does_48 rfl ?_
          refine g_iload_n cx (pc2 := 50) 3 rfl dX12_does_49 rfl ?_
          refine g_iast cx (pc2 := 51) (k0 := 90) rfl (lt_lit hn (Nat.le_of_ble_eq_true rfl)) (by first | assumption | omega) (by first | assumption | omega) (Nat.le_of_ble_eq_true rfl) dX12_does_50 rfl ?_
          refine g_aload_n cx (pc2 := 52) 0 rfl dX12_does_51 rfl ?_
          refine g_iload_n cx (pc2 := 53) 3 rfl dX12_does_52 rfl ?_
          refine g_aload_n cx (pc2 := 54) 0 rfl dX12_does_53 rfl ?_
          refine g_aload_n cx (pc2 := 55) 0 rfl dX12_does_54 rfl ?_
          refine g_get cx (pc2 := 58) (ci := 12) (k0 := 77) (j := 22) (v := .ref 89) rfl iwX12 rfl (lt_lit hn (Nat.le_of_ble_eq_true rfl)) rfl (Nat.le_of_ble_eq_true rfl) kf_X12_44 rfl rfl dX12_does_55 rfl ?_
          refine g_iload_n cx (pc2 := 59) 2 rfl dX12_does_58 rfl ?_
          refine g_iald cx (pc2 := 60) (k0 := 89) rfl (lt_lit hn (Nat.le_of_ble_eq_true rfl)) (by first | assumption | omega) (by first | assumption | omega) (Nat.le_of_ble_eq_true rfl) dX12_does_59 rfl ?_
          refine g_rwi (y := iI (U 89 ((k).toNat))) (congrArg iI (by simp [stM])) ?_
          refine g_rwi (y := iI (M 89 k.toNat)) (congrArg iI (by rw [e89])) ?_
          refine g_iconst cx (pc2 := 61) dX12_does_60 rfl ?_
          refine g_callV cx (pc2 := 64) (st := [.int (iI (doB (jbR M) (lnF M) (sP M) k.toNat)), .ref 77]) (As := [.int (iI (M 89 k.toNat)), .int (iI 4)]) (k0 := 77) (ci := 12) (c_X12_needAt (M := (stM U 90 (k).toNat (doB (jbR M) (lnF M) (sP M) k.toNat))) hn (M 89 k.toNat) 4 (by first | assumption | omega) (by first | assumption | omega)) wM_X12_needAt wV_X12_needAt kl_X12_195 rfl (lt_lit hn (Nat.le_of_ble_eq_true rfl)) rfl ⟨rfl, rfl, Nat.le_of_ble_eq_true rfl, Nat.le_of_ble_eq_true rfl⟩ (Nat.le_of_ble_eq_true rfl) cs rfl rfl dX12_does_61 rfl ?_
          rintro _ _ ⟨rfl, rfl⟩
          refine g_rwi (y := iI (nA M (M 89 k.toNat) 4)) (congrArg iI (nA_off (by rw [stM_off (by decide)]; exact hU1 85 (by decide) (by decide)) _ _)) ?_
          refine g_iadd cx (pc2 := 65) dX12_does_64 rfl ?_
          refine g_puti cx (pc2 := 68) (ci := 12) (k0 := 77) (j := 25) rfl iwX12 rfl (lt_lit hn (Nat.le_of_ble_eq_true rfl)) rfl (Nat.le_of_ble_eq_true rfl) kf_X12_214 rfl tyX12_ok nmX12 rfl rfl dX12_does_65 rfl ?_
          refine g_aload_n cx (pc2 := 69) 0 rfl dX12_does_68 rfl ?_
          refine g_aload_n cx (pc2 := 70) 0 rfl dX12_does_69 rfl ?_
          refine g_get cx (pc2 := 73) (ci := 12) (k0 := 77) (j := 22) (v := .ref 89) rfl iwX12 rfl (lt_lit hn (Nat.le_of_ble_eq_true rfl)) rfl (Nat.le_of_ble_eq_true rfl) kf_X12_44 rfl rfl dX12_does_70 rfl ?_
          refine g_iload_n cx (pc2 := 74) 2 rfl dX12_does_73 rfl ?_
          refine g_iald cx (pc2 := 75) (k0 := 89) rfl (lt_lit hn (Nat.le_of_ble_eq_true rfl)) (by first | assumption | omega) (by first | assumption | omega) (Nat.le_of_ble_eq_true rfl) dX12_does_74 rfl ?_
          refine g_rwi (y := iI (U 89 ((k).toNat))) (congrArg iI (by simp [stM])) ?_
          refine g_rwi (y := iI (M 89 k.toNat)) (congrArg iI (by rw [e89])) ?_
          refine g_iconst cx (pc2 := 76) dX12_does_75 rfl ?_
          refine g_callV cx (pc2 := 79) (st := []) (As := [.int (iI (M 89 k.toNat)), .int (iI 1)]) (k0 := 77) (ci := 12) (c_X12_needAt (M := (stM (stM U 90 (k).toNat (doB (jbR M) (lnF M) (sP M) k.toNat)) 77 25 ((doB (jbR M) (lnF M) (sP M) k.toNat) + (nA M (M 89 k.toNat) 4)))) hn (M 89 k.toNat) 1 (by first | assumption | omega) (by first | assumption | omega)) wM_X12_needAt wV_X12_needAt kl_X12_195 rfl (lt_lit hn (Nat.le_of_ble_eq_true rfl)) rfl ⟨rfl, rfl, Nat.le_of_ble_eq_true rfl, Nat.le_of_ble_eq_true rfl⟩ (Nat.le_of_ble_eq_true rfl) cs rfl rfl dX12_does_76 rfl ?_
          rintro _ _ ⟨rfl, rfl⟩
          refine g_rwi (y := iI (nA M (M 89 k.toNat) 1)) (congrArg iI (nA_off (by rw [stM_off (by decide), stM_off (by decide)]; exact hU1 85 (by decide) (by decide)) _ _)) ?_
          refine g_istore_n cx (pc2 := 80) (lv2 := [(0, .ref 77), (1, .int (iI (nA M (M 89 k.toNat) 1))), (2, .int (iI k)), (3, .int (iI (doB (jbR M) (lnF M) (sP M) k.toNat)))]) rfl (Nat.le_of_ble_eq_true rfl) dX12_does_79 rfl ?_
          refine g_iinc cx (pc2 := 83) 2 rfl (lv2 := [(0, .ref 77), (1, .int (iI (nA M (M 89 k.toNat) 1))), (2, .int (iI (k + 1))), (3, .int (iI (doB (jbR M) (lnF M) (sP M) k.toNat)))]) rfl (Nat.le_of_ble_eq_true rfl) dX12_does_80 rfl ?_
          refine g_goto cx (tgt := 12) dX12_does_83 (by decide) ?_
          refine g_sub (lv2 := [(0, .ref 77), (1, .int (iI (nA M (M 89 k.toNat) 1))), (2, .int (iI (k + 1)))]) [0, 1, 2] rfl ?_
          exact ih12 ((M 77 23 - (k + 1)).toNat) (by omega) (k + 1) (nA M (M 89 k.toNat) 1) (stM (stM U 90 (k).toNat (doB (jbR M) (lnF M) (sP M) k.toNat)) 77 25 ((doB (jbR M) (lnF M) (sP M) k.toNat) + (nA M (M 89 k.toNat) 4))) (by first | assumption | omega) (by first | assumption | omega) (by rw [hst, if_pos (by omega)]) (by rw [hst, if_pos (by omega)]; exact hj0.symm) (by rw [hst, if_pos (by omega), stM_at]; simp only []; omega) (by intro j hj; rw [stM_off (by decide)]; by_cases q : j = k.toNat; (rw [q, stM_at]); (rw [stM_ne _ _ (Or.inr q)]; exact hbg j (by omega))) (by intro a h1 h2; rw [stM_off h1, stM_off h2]; exact hU1 a h1 h2) (by intro b hb; rw [stM_ne _ _ (Or.inr hb), stM_off (by decide)]; exact hU2 b hb) (Nat.le_refl _)
        · skip
          refine g_iload_n cx (pc2 := 43) 2 rfl dX12_does_42 rfl ?_
          exact g_iret cx qx dX12_does_43 ⟨_, rfl, by have hf : (doF (jbR M) (lnF M) (sP M) (k + 1).toNat).2.2 = false := (by rw [hst, if_neg (by omega)]); have g1 := doF_fix hf ((M 77 23).toNat - (k + 1).toNat); have g2 := doN_fix hf ((M 77 23).toNat - (k + 1).toNat); rw [show (k + 1).toNat + ((M 77 23).toNat - (k + 1).toNat) = (M 77 23).toNat by omega] at g1 g2; refine ⟨?_, ?_, hbg, hU1, hU2⟩; (rw [g2, show (k + 1).toNat = k.toNat + 1 by omega, doN, show k.toNat + 1 = (k + 1).toNat by omega, hf, if_neg (by simp), hN]); (rw [g1, hst, if_neg (by omega)])⟩
  exact L12 _ 0 (M 77 15) (stM M 77 25 0) (by first | assumption | omega) (by first | assumption | omega) (by rfl) (by rfl) (by rw [stM_at]; rfl) (by intro j hj; omega) (by intro a h1 h2; rw [stM_off h1]) (by intro b hb; rw [stM_ne _ _ (Or.inr hb)]) (Nat.le_refl _)
set_option maxHeartbeats 4000000 in
set_option maxRecDepth 100000 in
theorem c_X12_needLine {n : Nat} (hn : NN n) {M : Mm} (hV : RV M) (hQ : RQ M) (r : Int) (hr : R6 r) : CT yX12_needLine cX12_needLine 6 (some .int) ({ frames := 2, cells := 0, slots := 0, locals := 43 }) n [.ref 77, .int (iI r)] M (pI (fun z M2 => nlR M r z M2)) := by
  refine CT.of (lv0 := [(0, .ref 77), (1, .int (iI r))]) (by decide +kernel) hn (fun _ => rfl) (fun _ => Nat.le_of_ble_eq_true rfl) (fun X cx cs qx => ?_)
  have cx : Cx X cX12_needLine RX12 ({ frames := 2, cells := 0, slots := 0, locals := 43 }) 6 n := cx
  have hv1 := hV.1
  have hq := hQ r.toNat (by omega)
  refine g_aload_n cx (pc2 := 1) 0 rfl dX12_needLine_0 rfl ?_
  refine g_get cx (pc2 := 4) (ci := 12) (k0 := 77) (j := 5) (v := .ref 79) rfl iwX12 rfl (lt_lit hn (Nat.le_of_ble_eq_true rfl)) rfl (Nat.le_of_ble_eq_true rfl) kf_X12_13 rfl rfl dX12_needLine_1 rfl ?_
  refine g_iload_n cx (pc2 := 5) 1 rfl dX12_needLine_4 rfl ?_
  refine g_iald cx (pc2 := 6) (k0 := 79) rfl (lt_lit hn (Nat.le_of_ble_eq_true rfl)) (by first | assumption | omega) (by first | assumption | omega) (Nat.le_of_ble_eq_true rfl) dX12_needLine_5 rfl ?_
  refine g_rwi (y := iI (M 79 ((r).toNat))) (congrArg iI (by simp [stM])) ?_
  refine g_if_ge cx (pc2 := 9) (tgt := 15) (by first | assumption | omega) dX12_needLine_6 (by decide) rfl (fun h_1 => ?_) (fun h_1 => ?_)
  · skip
    refine g_aload_n cx (pc2 := 16) 0 rfl dX12_needLine_15 rfl ?_
    refine g_get cx (pc2 := 19) (ci := 12) (k0 := 77) (j := 5) (v := .ref 79) rfl iwX12 rfl (lt_lit hn (Nat.le_of_ble_eq_true rfl)) rfl (Nat.le_of_ble_eq_true rfl) kf_X12_13 rfl rfl dX12_needLine_16 rfl ?_
    refine g_iload_n cx (pc2 := 20) 1 rfl dX12_needLine_19 rfl ?_
    refine g_iald cx (pc2 := 21) (k0 := 79) rfl (lt_lit hn (Nat.le_of_ble_eq_true rfl)) (by first | assumption | omega) (by first | assumption | omega) (Nat.le_of_ble_eq_true rfl) dX12_needLine_20 rfl ?_
    refine g_rwi (y := iI (M 79 ((r).toNat))) (congrArg iI (by simp [stM])) ?_
    refine g_aload_n cx (pc2 := 22) 0 rfl dX12_needLine_21 rfl ?_
    refine g_get cx (pc2 := 25) (ci := 12) (k0 := 77) (j := 12) (v := .int (iI (M 77 12))) rfl iwX12 rfl (lt_lit hn (Nat.le_of_ble_eq_true rfl)) rfl (Nat.le_of_ble_eq_true rfl) kf_X12_168 rfl rfl dX12_needLine_22 rfl ?_
    refine g_icmp_le cx (pc2 := 28) (tgt := 34) ⟨(by first | assumption | omega), (by first | assumption | omega)⟩ dX12_needLine_25 (by decide) rfl (fun h_2 => ?_) (fun h_2 => ?_)
    · skip
      refine g_iconst cx (pc2 := 35) dX12_needLine_34 rfl ?_
      refine g_istore_n cx (pc2 := 36) (lv2 := [(0, .ref 77), (1, .int (iI r)), (2, .int (iI 0))]) rfl (Nat.le_of_ble_eq_true rfl) dX12_needLine_35 rfl ?_
      refine g_iconst cx (pc2 := 37) dX12_needLine_36 rfl ?_
      refine g_istore_n cx (pc2 := 38) (lv2 := [(0, .ref 77), (1, .int (iI r)), (2, .int (iI 0)), (3, .int (iI 1))]) rfl (Nat.le_of_ble_eq_true rfl) dX12_needLine_37 rfl ?_
      refine g_iconst cx (pc2 := 39) dX12_needLine_38 rfl ?_
      refine g_istore cx (pc2 := 41) (lv2 := [(0, .ref 77), (1, .int (iI r)), (2, .int (iI 0)), (3, .int (iI 1)), (4, .int (iI 0))]) rfl (Nat.le_of_ble_eq_true rfl) dX12_needLine_39 rfl ?_
      have L41 : ∀ (fu : Nat) (k : Int) (u : Int) (g : Int), (0 ≤ k ∧ k ≤ M 79 r.toNat) → (0 ≤ u ∧ u ≤ 255) → ((g = 1 ∧ okL (xrw M r) (M 77 12) k.toNat ∧ u = ((mtG (xrw M r) k.toNat : Nat) : Int)) ∨ (g = 0 ∧ ¬ okL (xrw M r) (M 77 12) k.toNat)) → (M 79 r.toNat - k).toNat ≤ fu → G X 41 [(0, .ref 77), (1, .int (iI r)), (2, .int (iI u)), (3, .int (iI g)), (4, .int (iI k))] [] M := by
        intro fu
        induction fu using Nat.strongRecOn with
        | _ fu ih41 =>
          intro k u g hk hu hg hk41
          have hx : k < M 79 r.toNat → ir (xrw M r k.toNat) := fun q => hq.2 k.toNat (by omega)
          refine g_iload cx (pc2 := 43) 4 rfl dX12_needLine_41 rfl ?_
          refine g_aload_n cx (pc2 := 44) 0 rfl dX12_needLine_43 rfl ?_
          refine g_get cx (pc2 := 47) (ci := 12) (k0 := 77) (j := 5) (v := .ref 79) rfl iwX12 rfl (lt_lit hn (Nat.le_of_ble_eq_true rfl)) rfl (Nat.le_of_ble_eq_true rfl) kf_X12_13 rfl rfl dX12_needLine_44 rfl ?_
          refine g_iload_n cx (pc2 := 48) 1 rfl dX12_needLine_47 rfl ?_
          refine g_iald cx (pc2 := 49) (k0 := 79) rfl (lt_lit hn (Nat.le_of_ble_eq_true rfl)) (by first | assumption | omega) (by first | assumption | omega) (Nat.le_of_ble_eq_true rfl) dX12_needLine_48 rfl ?_
          refine g_rwi (y := iI (M 79 ((r).toNat))) (congrArg iI (by simp [stM])) ?_
          refine g_icmp_ge cx (pc2 := 52) (tgt := 110) ⟨(by first | assumption | omega), (by first | assumption | omega)⟩ dX12_needLine_49 (by decide) rfl (fun h_3 => ?_) (fun h_3 => ?_)
          · skip
            refine g_iload_n cx (pc2 := 111) 3 rfl dX12_needLine_110 rfl ?_
            refine g_if_ne cx (pc2 := 114) (tgt := 120) (by first | assumption | omega) dX12_needLine_111 (by decide) rfl (fun h_4 => ?_) (fun h_4 => ?_)
            · skip
              have hokF : okL (xrw M r) (M 77 12) (M 79 r.toNat).toNat := by rcases hg with y | y; (have e : k = M 79 r.toNat := (by omega); rw [← e]; exact y.2.1); omega
              refine g_aload_n cx (pc2 := 121) 0 rfl dX12_needLine_120 rfl ?_
              refine g_aload_n cx (pc2 := 122) 0 rfl dX12_needLine_121 rfl ?_
              refine g_get cx (pc2 := 125) (ci := 12) (k0 := 77) (j := 5) (v := .ref 79) rfl iwX12 rfl (lt_lit hn (Nat.le_of_ble_eq_true rfl)) rfl (Nat.le_of_ble_eq_true rfl) kf_X12_13 rfl rfl dX12_needLine_122 rfl ?_
              refine g_iload_n cx (pc2 := 126) 1 rfl dX12_needLine_125 rfl ?_
              refine g_iald cx (pc2 := 127) (k0 := 79) rfl (lt_lit hn (Nat.le_of_ble_eq_true rfl)) (by first | assumption | omega) (by first | assumption | omega) (Nat.le_of_ble_eq_true rfl) dX12_needLine_126 rfl ?_
              refine g_rwi (y := iI (M 79 ((r).toNat))) (congrArg iI (by simp [stM])) ?_
              refine g_puti cx (pc2 := 130) (ci := 12) (k0 := 77) (j := 23) rfl iwX12 rfl (lt_lit hn (Nat.le_of_ble_eq_true rfl)) rfl (Nat.le_of_ble_eq_true rfl) kf_X12_217 rfl tyX12_ok nmX12 rfl rfl dX12_needLine_127 rfl ?_
              refine g_iconst cx (pc2 := 131) dX12_needLine_130 rfl ?_
              refine g_istore cx (pc2 := 133) (lv2 := [(0, .ref 77), (1, .int (iI r)), (2, .int (iI u)), (3, .int (iI g)), (4, .int (iI 0))]) rfl (Nat.le_of_ble_eq_true rfl) dX12_needLine_131 rfl ?_
              have L133 : ∀ (fu : Nat) (k : Int), (0 ≤ k ∧ k ≤ M 79 r.toNat) → (M 79 r.toNat - k).toNat ≤ fu → G X 133 [(0, .ref 77), (1, .int (iI r)), (4, .int (iI k))] [] (lnP M r k) := by
                intro fu
                induction fu using Nat.strongRecOn with
                | _ fu ih133 =>
                  intro k hk hk133
                  refine g_iload cx (pc2 := 135) 2 rfl dX12_needLine_133 rfl ?_
                  refine g_aload_n cx (pc2 := 136) 0 rfl dX12_needLine_135 rfl ?_
                  refine g_get cx (pc2 := 139) (ci := 12) (k0 := 77) (j := 23) (v := .int (iI ((lnP M r k) 77 23))) rfl iwX12 rfl (lt_lit hn (Nat.le_of_ble_eq_true rfl)) rfl (Nat.le_of_ble_eq_true rfl) kf_X12_217 rfl rfl dX12_needLine_136 rfl ?_
                  refine g_rwi (y := iI (M 79 r.toNat)) (rfl) ?_
                  refine g_icmp_ge cx (pc2 := 142) (tgt := 162) ⟨(by first | assumption | omega), (by first | assumption | omega)⟩ dX12_needLine_139 (by decide) rfl (fun h_5 => ?_) (fun h_5 => ?_)
                  · skip
                    refine g_iconst cx (pc2 := 163) dX12_needLine_162 rfl ?_
                    exact g_iret cx qx dX12_needLine_163 ⟨_, rfl, by exact Or.inr (Or.inr (Or.inr ⟨by omega, by omega, hokF, rfl, by rw [show k = M 79 r.toNat by omega]; rfl⟩))⟩
                  · skip
                    refine g_aload_n cx (pc2 := 143) 0 rfl dX12_needLine_142 rfl ?_
                    refine g_get cx (pc2 := 146) (ci := 12) (k0 := 77) (j := 22) (v := .ref 89) rfl iwX12 rfl (lt_lit hn (Nat.le_of_ble_eq_true rfl)) rfl (Nat.le_of_ble_eq_true rfl) kf_X12_44 rfl rfl dX12_needLine_143 rfl ?_
                    refine g_iload cx (pc2 := 148) 2 rfl dX12_needLine_146 rfl ?_
                    refine g_aload_n cx (pc2 := 149) 0 rfl dX12_needLine_148 rfl ?_
                    refine g_iload_n cx (pc2 := 150) 1 rfl dX12_needLine_149 rfl ?_
                    refine g_iload cx (pc2 := 152) 2 rfl dX12_needLine_150 rfl ?_
                    refine g_callV cx (pc2 := 155) (st := [.int (iI k), .ref 89]) (As := [.int (iI r), .int (iI k)]) (k0 := 77) (ci := 12) (c_X12_rowAt (M := (lnP M r k)) hn r k (by exact hr) (by first | assumption | omega)) wM_X12_rowAt wV_X12_rowAt kl_X12_115 rfl (lt_lit hn (Nat.le_of_ble_eq_true rfl)) rfl ⟨rfl, rfl, Nat.le_of_ble_eq_true rfl, Nat.le_of_ble_eq_true rfl⟩ (Nat.le_of_ble_eq_true rfl) cs rfl rfl dX12_needLine_152 rfl ?_
                    rintro _ _ ⟨rfl, rfl⟩
                    refine g_rwi (y := iI (xrw M r k.toNat)) (congrArg iI ((show rcA (lnP M r k) r k = rcA M r k by unfold rcA; rw [lnP_off _ _ _ (by decide) (by decide)]).trans (rcA_x hr hk.1))) ?_
                    refine g_iast cx (pc2 := 156) (k0 := 89) rfl (lt_lit hn (Nat.le_of_ble_eq_true rfl)) (by first | assumption | omega) (by first | assumption | omega) (Nat.le_of_ble_eq_true rfl) dX12_needLine_155 rfl ?_
                    refine g_iinc cx (pc2 := 159) 2 rfl (lv2 := [(0, .ref 77), (1, .int (iI r)), (4, .int (iI (k + 1)))]) rfl (Nat.le_of_ble_eq_true rfl) dX12_needLine_156 rfl ?_
                    refine g_goto cx (tgt := 133) dX12_needLine_159 (by decide) ?_
                    refine g_M (M2 := (lnP M r (k + 1))) (by exact lnP_s hk.1) ?_
                    exact ih133 ((M 79 r.toNat - (k + 1)).toNat) (by omega) (k + 1) (by first | assumption | omega) (Nat.le_refl _)
              refine g_sub (lv2 := [(0, .ref 77), (1, .int (iI r)), (4, .int (iI 0))]) [0, 1, 4] rfl ?_
              refine g_M (M2 := (lnP M r 0)) (by exact lnP_0 M r) ?_
              exact L133 _ 0 (by omega) (Nat.le_refl _)
            · skip
              refine g_aload_n cx (pc2 := 115) 0 rfl dX12_needLine_114 rfl ?_
              refine g_iconst cx (pc2 := 116) dX12_needLine_115 rfl ?_
              refine g_callV cx (pc2 := 119) (st := []) (As := [.int (iI 3)]) (k0 := 77) (ci := 12) (c_X12_meets (M := M) hn 3 (by omega)) wM_X12_meets wV_X12_meets kl_X12_111 rfl (lt_lit hn (Nat.le_of_ble_eq_true rfl)) rfl ⟨rfl, rfl, Nat.le_of_ble_eq_true rfl, Nat.le_of_ble_eq_true rfl⟩ (Nat.le_of_ble_eq_true rfl) cs rfl rfl dX12_needLine_116 rfl ?_
              rintro _ _ ⟨rfl, rfl⟩
              exact g_iret cx qx dX12_needLine_119 ⟨_, rfl, by refine Or.inr (Or.inr (Or.inl ⟨by omega, by omega, ?_, rfl, rfl⟩)); rcases hg with y | y; omega; exact okL_no y.2 (by omega)⟩
          · skip
            refine g_aload_n cx (pc2 := 53) 0 rfl dX12_needLine_52 rfl ?_
            refine g_iload_n cx (pc2 := 54) 1 rfl dX12_needLine_53 rfl ?_
            refine g_iload cx (pc2 := 56) 4 rfl dX12_needLine_54 rfl ?_
            refine g_callV cx (pc2 := 59) (st := []) (As := [.int (iI r), .int (iI k)]) (k0 := 77) (ci := 12) (c_X12_rowAt (M := M) hn r k (by exact hr) (by first | assumption | omega)) wM_X12_rowAt wV_X12_rowAt kl_X12_115 rfl (lt_lit hn (Nat.le_of_ble_eq_true rfl)) rfl ⟨rfl, rfl, Nat.le_of_ble_eq_true rfl, Nat.le_of_ble_eq_true rfl⟩ (Nat.le_of_ble_eq_true rfl) cs rfl rfl dX12_needLine_56 rfl ?_
            rintro _ _ ⟨rfl, rfl⟩
            refine g_rwi (y := iI (xrw M r k.toNat)) (congrArg iI (rcA_x hr hk.1)) ?_
            refine g_istore cx (pc2 := 61) (lv2 := [(0, .ref 77), (1, .int (iI r)), (2, .int (iI u)), (3, .int (iI g)), (4, .int (iI k)), (5, .int (iI (xrw M r k.toNat)))]) rfl (Nat.le_of_ble_eq_true rfl) dX12_needLine_59 rfl ?_
            have L88 : ∀ (g2 : Int), ((g2 = 1 ∧ g = 1 ∧ NX M (xrw M r k.toNat) ∧ ¬ hB u (xrw M r k.toNat)) ∨ (g2 = 0 ∧ ¬ (g = 1 ∧ NX M (xrw M r k.toNat) ∧ ¬ hB u (xrw M r k.toNat)))) → G X 88 [(0, .ref 77), (1, .int (iI r)), (2, .int (iI u)), (4, .int (iI k)), (5, .int (iI (xrw M r k.toNat)))] [.int (iI g2)] M := by
              intro g2 hg2
              refine g_istore_n cx (pc2 := 89) (lv2 := [(0, .ref 77), (1, .int (iI r)), (2, .int (iI u)), (3, .int (iI g2)), (4, .int (iI k)), (5, .int (iI (xrw M r k.toNat)))]) rfl (Nat.le_of_ble_eq_true rfl) dX12_needLine_88 rfl ?_
              have hg20 : g2 = 0 ∨ g2 = 1 := by omega
              refine g_iload_n cx (pc2 := 90) 2 rfl dX12_needLine_89 rfl ?_
              refine g_iload_n cx (pc2 := 91) 3 rfl dX12_needLine_90 rfl ?_
              refine g_if_eq cx (pc2 := 94) (tgt := 101) (by first | assumption | omega) dX12_needLine_91 (by decide) rfl (fun h_6 => ?_) (fun h_6 => ?_)
              · skip
                have hu0 : u.toNat ||| 0 = u.toNat := Nat.or_zero _
                have hok2 : ¬ okL (xrw M r) (M 77 12) (k + 1).toNat := by rw [show (k + 1).toNat = k.toNat + 1 by omega, okL_s]; rintro ⟨q1, q2, q3⟩; rcases hg2 with z | z; omega; refine z.2 ⟨?_, by omega, fun w => q3 ?_⟩; (rcases hg with y | y; exact y.1; exact absurd q1 y.2); (rcases hg with y | y; (rw [← y.2.2]; exact ⟨q2.1, by omega, w⟩); exact absurd q1 y.2)
                refine g_iconst cx (pc2 := 102) dX12_needLine_101 rfl ?_
                refine g_ior cx (pc2 := 103) dX12_needLine_102 rfl ?_
                refine g_rwi (y := iI ((u.toNat ||| 0 : Nat) : Int)) (or_iI (by omega) (by decide)) ?_
                refine g_istore_n cx (pc2 := 104) (lv2 := [(0, .ref 77), (1, .int (iI r)), (2, .int (iI ((u.toNat ||| 0 : Nat) : Int))), (3, .int (iI g2)), (4, .int (iI k)), (5, .int (iI (xrw M r k.toNat)))]) rfl (Nat.le_of_ble_eq_true rfl) dX12_needLine_103 rfl ?_
                refine g_iinc cx (pc2 := 107) 4 rfl (lv2 := [(0, .ref 77), (1, .int (iI r)), (2, .int (iI ((u.toNat ||| 0 : Nat) : Int))), (3, .int (iI g2)), (4, .int (iI (k + 1))), (5, .int (iI (xrw M r k.toNat)))]) rfl (Nat.le_of_ble_eq_true rfl) dX12_needLine_104 rfl ?_
                refine g_goto cx (tgt := 41) dX12_needLine_107 (by decide) ?_
                refine g_sub (lv2 := [(0, .ref 77), (1, .int (iI r)), (2, .int (iI ((u.toNat ||| 0 : Nat) : Int))), (3, .int (iI g2)), (4, .int (iI (k + 1)))]) [0, 1, 2, 3, 4] rfl ?_
                exact ih41 ((M 79 r.toNat - (k + 1)).toNat) (by omega) (k + 1) ((u.toNat ||| 0 : Nat) : Int) g2 (by first | assumption | omega) (by first | omega | (rw [hmt] at hmb; omega)) (by first | exact Or.inl ⟨by omega, hok2, by rw [hmt]⟩ | exact Or.inr ⟨by omega, hok2⟩) (Nat.le_refl _)
              · skip
                have hgg : g = 1 ∧ NX M (xrw M r k.toNat) ∧ ¬ hB u (xrw M r k.toNat) := by rcases hg2 with z | z; exact z.2; omega
                have hgu : okL (xrw M r) (M 77 12) k.toNat ∧ u = ((mtG (xrw M r) k.toNat : Nat) : Int) := by rcases hg with y | y; exact y.2; omega
                have hmt : mtG (xrw M r) (k + 1).toNat = u.toNat ||| 2 ^ (xrw M r k.toNat).toNat := by rw [show (k + 1).toNat = k.toNat + 1 by omega, mtG, bitN_in (by omega), hgu.2, Int.toNat_natCast]
                have hmb := mtG_b (xrw M r) (k + 1).toNat
                have hok2 : okL (xrw M r) (M 77 12) (k + 1).toNat := by rw [show (k + 1).toNat = k.toNat + 1 by omega, okL_s]; refine ⟨hgu.1, by omega, fun w => hgg.2.2 ?_⟩; rw [← hgu.2] at w; exact w.2.2
                refine g_iconst cx (pc2 := 95) dX12_needLine_94 rfl ?_
                refine g_iload cx (pc2 := 97) 5 rfl dX12_needLine_95 rfl ?_
                refine g_ishl cx (pc2 := 98) dX12_needLine_97 rfl ?_
                refine g_rwi (y := iI ((2 ^ (xrw M r k.toNat).toNat : Nat) : Int)) (sh1 (by omega) (by omega)) ?_
                refine g_goto cx (tgt := 102) dX12_needLine_98 (by decide) ?_
                refine g_ior cx (pc2 := 103) dX12_needLine_102 rfl ?_
                refine g_rwi (y := iI ((u.toNat ||| 2 ^ (xrw M r k.toNat).toNat : Nat) : Int)) (or_iI (by omega) (Int.natCast_nonneg _)) ?_
                refine g_istore_n cx (pc2 := 104) (lv2 := [(0, .ref 77), (1, .int (iI r)), (2, .int (iI ((u.toNat ||| 2 ^ (xrw M r k.toNat).toNat : Nat) : Int))), (3, .int (iI g2)), (4, .int (iI k)), (5, .int (iI (xrw M r k.toNat)))]) rfl (Nat.le_of_ble_eq_true rfl) dX12_needLine_103 rfl ?_
                refine g_iinc cx (pc2 := 107) 4 rfl (lv2 := [(0, .ref 77), (1, .int (iI r)), (2, .int (iI ((u.toNat ||| 2 ^ (xrw M r k.toNat).toNat : Nat) : Int))), (3, .int (iI g2)), (4, .int (iI (k + 1))), (5, .int (iI (xrw M r k.toNat)))]) rfl (Nat.le_of_ble_eq_true rfl) dX12_needLine_104 rfl ?_
                refine g_goto cx (tgt := 41) dX12_needLine_107 (by decide) ?_
                refine g_sub (lv2 := [(0, .ref 77), (1, .int (iI r)), (2, .int (iI ((u.toNat ||| 2 ^ (xrw M r k.toNat).toNat : Nat) : Int))), (3, .int (iI g2)), (4, .int (iI (k + 1)))]) [0, 1, 2, 3, 4] rfl ?_
                exact ih41 ((M 79 r.toNat - (k + 1)).toNat) (by omega) (k + 1) ((u.toNat ||| 2 ^ (xrw M r k.toNat).toNat : Nat) : Int) g2 (by first | assumption | omega) (by first | omega | (rw [hmt] at hmb; omega)) (by first | exact Or.inl ⟨by omega, hok2, by rw [hmt]⟩ | exact Or.inr ⟨by omega, hok2⟩) (Nat.le_refl _)
            have hx1 := hx (by omega)
            refine g_iload_n cx (pc2 := 62) 3 rfl dX12_needLine_61 rfl ?_
            refine g_if_eq cx (pc2 := 65) (tgt := 87) (by first | assumption | omega) dX12_needLine_62 (by decide) rfl (fun h_7 => ?_) (fun h_7 => ?_)
            · skip
              refine g_iconst cx (pc2 := 88) dX12_needLine_87 rfl ?_
              refine g_sub (lv2 := [(0, .ref 77), (1, .int (iI r)), (2, .int (iI u)), (4, .int (iI k)), (5, .int (iI (xrw M r k.toNat)))]) [0, 1, 2, 4, 5] rfl ?_
              exact L88 0 (by first | exact Or.inl ⟨rfl, by omega, by assumption, by assumption⟩ | exact Or.inr ⟨rfl, fun q => q.2.2 (by assumption)⟩ | exact Or.inr ⟨rfl, fun q => absurd q.2.1 (by assumption)⟩ | exact Or.inr ⟨rfl, fun q => by omega⟩)
            · skip
              refine g_aload_n cx (pc2 := 66) 0 rfl dX12_needLine_65 rfl ?_
              refine g_iload cx (pc2 := 68) 5 rfl dX12_needLine_66 rfl ?_
              refine g_callV cx (pc2 := 71) (st := []) (As := [.int (iI (xrw M r k.toNat))]) (k0 := 77) (ci := 12) (c_X12_isNeed (M := M) hn (by exact hV) (xrw M r k.toNat) (by first | assumption | omega)) wM_X12_isNeed wV_X12_isNeed kl_X12_192 rfl (lt_lit hn (Nat.le_of_ble_eq_true rfl)) rfl ⟨rfl, rfl, Nat.le_of_ble_eq_true rfl, Nat.le_of_ble_eq_true rfl⟩ (Nat.le_of_ble_eq_true rfl) cs rfl rfl dX12_needLine_68 rfl ?_
              rintro _ _ ⟨rfl, rfl⟩
              refine g_ifb_eq cx (pc2 := 74) (tgt := 87) dX12_needLine_71 (by decide) rfl (fun h_8 => ?_) (fun h_8 => ?_)
              · skip
                refine g_iconst cx (pc2 := 88) dX12_needLine_87 rfl ?_
                refine g_sub (lv2 := [(0, .ref 77), (1, .int (iI r)), (2, .int (iI u)), (4, .int (iI k)), (5, .int (iI (xrw M r k.toNat)))]) [0, 1, 2, 4, 5] rfl ?_
                exact L88 0 (by first | exact Or.inl ⟨rfl, by omega, by assumption, by assumption⟩ | exact Or.inr ⟨rfl, fun q => q.2.2 (by assumption)⟩ | exact Or.inr ⟨rfl, fun q => absurd q.2.1 (by assumption)⟩ | exact Or.inr ⟨rfl, fun q => by omega⟩)
              · skip
                refine g_iload_n cx (pc2 := 75) 2 rfl dX12_needLine_74 rfl ?_
                refine g_iload cx (pc2 := 77) 5 rfl dX12_needLine_75 rfl ?_
                refine g_callS cx (pc2 := 80) (st := []) (As := [.int (iI u), .int (iI (xrw M r k.toNat))]) (c_X12_has (M := M) hn u (xrw M r k.toNat) (by first | assumption | omega) (by first | assumption | omega)) wM_X12_has wS_X12_has kl_X12_220 ⟨rfl, rfl, Nat.le_of_ble_eq_true rfl, Nat.le_of_ble_eq_true rfl⟩ (Nat.le_of_ble_eq_true rfl) cs rfl rfl dX12_needLine_77 rfl ?_
                rintro _ _ ⟨rfl, rfl⟩
                refine g_ifb_ne cx (pc2 := 83) (tgt := 87) dX12_needLine_80 (by decide) rfl (fun h_9 => ?_) (fun h_9 => ?_)
                · skip
                  refine g_iconst cx (pc2 := 88) dX12_needLine_87 rfl ?_
                  refine g_sub (lv2 := [(0, .ref 77), (1, .int (iI r)), (2, .int (iI u)), (4, .int (iI k)), (5, .int (iI (xrw M r k.toNat)))]) [0, 1, 2, 4, 5] rfl ?_
                  exact L88 0 (by first | exact Or.inl ⟨rfl, by omega, by assumption, by assumption⟩ | exact Or.inr ⟨rfl, fun q => q.2.2 (by assumption)⟩ | exact Or.inr ⟨rfl, fun q => absurd q.2.1 (by assumption)⟩ | exact Or.inr ⟨rfl, fun q => by omega⟩)
                · skip
                  refine g_iconst cx (pc2 := 84) dX12_needLine_83 rfl ?_
                  refine g_goto cx (tgt := 88) dX12_needLine_84 (by decide) ?_
                  refine g_sub (lv2 := [(0, .ref 77), (1, .int (iI r)), (2, .int (iI u)), (4, .int (iI k)), (5, .int (iI (xrw M r k.toNat)))]) [0, 1, 2, 4, 5] rfl ?_
                  exact L88 1 (by first | exact Or.inl ⟨rfl, by omega, by assumption, by assumption⟩ | exact Or.inr ⟨rfl, fun q => q.2.2 (by assumption)⟩ | exact Or.inr ⟨rfl, fun q => absurd q.2.1 (by assumption)⟩ | exact Or.inr ⟨rfl, fun q => by omega⟩)
      exact L41 _ 0 0 1 (by first | assumption | omega) (by first | assumption | omega) (by exact Or.inl ⟨rfl, fun j hj => absurd hj (Nat.not_lt_zero j), rfl⟩) (Nat.le_refl _)
    · skip
      refine g_aload_n cx (pc2 := 29) 0 rfl dX12_needLine_28 rfl ?_
      refine g_iconst cx (pc2 := 30) dX12_needLine_29 rfl ?_
      refine g_callV cx (pc2 := 33) (st := []) (As := [.int (iI 5)]) (k0 := 77) (ci := 12) (c_X12_meets (M := M) hn 5 (by omega)) wM_X12_meets wV_X12_meets kl_X12_111 rfl (lt_lit hn (Nat.le_of_ble_eq_true rfl)) rfl ⟨rfl, rfl, Nat.le_of_ble_eq_true rfl, Nat.le_of_ble_eq_true rfl⟩ (Nat.le_of_ble_eq_true rfl) cs rfl rfl dX12_needLine_30 rfl ?_
      rintro _ _ ⟨rfl, rfl⟩
      exact g_iret cx qx dX12_needLine_33 ⟨_, rfl, by exact Or.inr (Or.inl ⟨by omega, by omega, rfl, rfl⟩)⟩
  · skip
    refine g_aload_n cx (pc2 := 10) 0 rfl dX12_needLine_9 rfl ?_
    refine g_iconst cx (pc2 := 11) dX12_needLine_10 rfl ?_
    refine g_callV cx (pc2 := 14) (st := []) (As := [.int (iI 1)]) (k0 := 77) (ci := 12) (c_X12_meets (M := M) hn 1 (by omega)) wM_X12_meets wV_X12_meets kl_X12_111 rfl (lt_lit hn (Nat.le_of_ble_eq_true rfl)) rfl ⟨rfl, rfl, Nat.le_of_ble_eq_true rfl, Nat.le_of_ble_eq_true rfl⟩ (Nat.le_of_ble_eq_true rfl) cs rfl rfl dX12_needLine_11 rfl ?_
    rintro _ _ ⟨rfl, rfl⟩
    exact g_iret cx qx dX12_needLine_14 ⟨_, rfl, by exact Or.inl ⟨by omega, rfl, rfl⟩⟩
set_option maxHeartbeats 4000000 in
set_option maxRecDepth 100000 in
theorem c_X12_order {n : Nat} (hn : NN n) {M : Mm} (hV : RV M) (hQ : RQ M) (r : Int) (hr : ir r) : CT yX12_order cX12_order 4 (some .int) ({ frames := 4, cells := 0, slots := 0, locals := 94 }) n [.ref 77, .int (iI r)] M (pI (fun z M2 => xorR M r z M2)) := by
  refine CT.of (lv0 := [(0, .ref 77), (1, .int (iI r))]) (by decide +kernel) hn (fun _ => rfl) (fun _ => Nat.le_of_ble_eq_true rfl) (fun X cx cs qx => ?_)
  have cx : Cx X cX12_order RX12 ({ frames := 4, cells := 0, slots := 0, locals := 94 }) 4 n := cx
  have hv1 := hV.1
  refine g_iload_n cx (pc2 := 1) 1 rfl dX12_order_0 rfl ?_
  refine g_callS cx (pc2 := 4) (st := []) (As := [.int (iI r)]) (c_X12_isRow (M := M) hn r (by first | assumption | omega)) wM_X12_isRow wS_X12_isRow kl_X12_107 ⟨rfl, rfl, Nat.le_of_ble_eq_true rfl, Nat.le_of_ble_eq_true rfl⟩ (Nat.le_of_ble_eq_true rfl) cs rfl rfl dX12_order_1 rfl ?_
  rintro _ _ ⟨rfl, rfl⟩
  refine g_ifb_ne cx (pc2 := 7) (tgt := 9) dX12_order_4 (by decide) rfl (fun h_1 => ?_) (fun h_1 => ?_)
  · skip
    have hR := h_1
    refine g_aload_n cx (pc2 := 10) 0 rfl dX12_order_9 rfl ?_
    refine g_iload_n cx (pc2 := 11) 1 rfl dX12_order_10 rfl ?_
    refine g_callV cx (pc2 := 14) (st := []) (As := [.int (iI r)]) (k0 := 77) (ci := 12) (c_X12_needLine (M := M) hn (by first | exact hV | exact hV.of rfl rfl rfl rfl rfl rfl) (by first | assumption | omega) r (by first | assumption | omega)) wM_X12_needLine wV_X12_needLine kl_X12_223 rfl (lt_lit hn (Nat.le_of_ble_eq_true rfl)) rfl ⟨rfl, rfl, Nat.le_of_ble_eq_true rfl, Nat.le_of_ble_eq_true rfl⟩ (Nat.le_of_ble_eq_true rfl) cs rfl rfl dX12_order_11 rfl ?_
    rintro _ M_2 ⟨z_2, rfl, h_2⟩
    have h11 := h_2
    have z11 : z_2 = -3 ∨ z_2 = 0 := by rcases h_2 with q | q | q | q; exact Or.inl q.2.1; exact Or.inl q.2.2.1; exact Or.inl q.2.2.2.1; exact Or.inr q.2.2.2.1
    refine g_istore_n cx (pc2 := 15) (lv2 := [(0, .ref 77), (1, .int (iI r)), (2, .int (iI z_2))]) rfl (Nat.le_of_ble_eq_true rfl) dX12_order_14 rfl ?_
    refine g_iload_n cx (pc2 := 16) 2 rfl dX12_order_15 rfl ?_
    refine g_if_ge cx (pc2 := 19) (tgt := 21) (by first | assumption | omega) dX12_order_16 (by decide) rfl (fun h_3 => ?_) (fun h_3 => ?_)
    · skip
      have hnl : nlR M r 0 (lnM M r) := by rcases h11 with q | q | q | q; omega; omega; omega; exact Or.inr (Or.inr (Or.inr ⟨q.1, q.2.1, q.2.2.1, rfl, rfl⟩))
      refine g_M (M2 := (lnM M r)) (by rcases h11 with q | q | q | q; omega; omega; omega; exact q.2.2.2.2) ?_
      refine g_aload_n cx (pc2 := 22) 0 rfl dX12_order_21 rfl ?_
      refine g_callV cx (pc2 := 25) (st := []) (As := []) (k0 := 77) (ci := 12) (c_X12_does (M := (lnM M r)) hn (by first | exact hV | exact hV.of rfl rfl rfl rfl rfl rfl) (by exact lnL hV hR hnl)) wM_X12_does wV_X12_does kl_X12_226 rfl (lt_lit hn (Nat.le_of_ble_eq_true rfl)) rfl ⟨rfl, rfl, Nat.le_of_ble_eq_true rfl, Nat.le_of_ble_eq_true rfl⟩ (Nat.le_of_ble_eq_true rfl) cs rfl rfl dX12_order_22 rfl ?_
      rintro _ M_4 ⟨z_4, rfl, h_4⟩
      have h22 := h_4
      refine g_istore_n cx (pc2 := 26) (lv2 := [(0, .ref 77), (1, .int (iI r)), (2, .int (iI z_2)), (3, .int (iI z_4))]) rfl (Nat.le_of_ble_eq_true rfl) dX12_order_25 rfl ?_
      refine g_aload_n cx (pc2 := 27) 0 rfl dX12_order_26 rfl ?_
      refine g_aload_n cx (pc2 := 28) 0 rfl dX12_order_27 rfl ?_
      refine g_get cx (pc2 := 31) (ci := 12) (k0 := 77) (j := 25) (v := .int (iI (M_4 77 25))) rfl iwX12 rfl (lt_lit hn (Nat.le_of_ble_eq_true rfl)) rfl (Nat.le_of_ble_eq_true rfl) kf_X12_214 rfl rfl dX12_order_28 rfl ?_
      refine g_iload_n cx (pc2 := 32) 3 rfl dX12_order_31 rfl ?_
      refine g_callV cx (pc2 := 35) (st := []) (As := [.int (iI (M_4 77 25)), .int (iI z_4)]) (k0 := 77) (ci := 12) (c_X12_tells (M := M_4) hn (M_4 77 25) z_4) wM_X12_tells wV_X12_tells kl_X12_119 rfl (lt_lit hn (Nat.le_of_ble_eq_true rfl)) rfl ⟨rfl, rfl, Nat.le_of_ble_eq_true rfl, Nat.le_of_ble_eq_true rfl⟩ (Nat.le_of_ble_eq_true rfl) cs rfl rfl dX12_order_32 rfl ?_
      rintro _ _ ⟨rfl, rfl⟩
      exact g_iret cx qx dX12_order_35 ⟨_, rfl, by exact Or.inr (Or.inr ⟨hR, hnl, _, h22, rfl⟩)⟩
    · skip
      refine g_iload_n cx (pc2 := 20) 2 rfl dX12_order_19 rfl ?_
      exact g_iret cx qx dX12_order_20 ⟨_, rfl, by rcases z11 with q | q; (rw [q] at h11 ⊢; exact Or.inr (Or.inl ⟨hR, rfl, h11⟩)); omega⟩
  · skip
    refine g_iconst cx (pc2 := 8) dX12_order_7 rfl ?_
    exact g_iret cx qx dX12_order_8 ⟨_, rfl, by exact Or.inl ⟨by assumption, rfl, rfl⟩⟩
set_option maxHeartbeats 4000000 in
set_option maxRecDepth 100000 in
theorem c_X12_begins {n : Nat} (hn : NN n) {M : Mm} (hV : RV M) (hQ : RQ M) (r i : Int) (hr : ir r) (hi : ir i) : CT yX12_begins cX12_begins 4 (some .int) ({ frames := 4, cells := 0, slots := 0, locals := 94 }) n [.ref 77, .int (iI r), .int (iI i)] M (pI (fun z M2 => xbgR M r i z M2)) := by
  refine CT.of (lv0 := [(0, .ref 77), (1, .int (iI r)), (2, .int (iI i))]) (by decide +kernel) hn (fun _ => rfl) (fun _ => Nat.le_of_ble_eq_true rfl) (fun X cx cs qx => ?_)
  have cx : Cx X cX12_begins RX12 ({ frames := 4, cells := 0, slots := 0, locals := 94 }) 4 n := cx
  have hv1 := hV.1
  refine g_iload_n cx (pc2 := 1) 1 rfl dX12_begins_0 rfl ?_
  refine g_callS cx (pc2 := 4) (st := []) (As := [.int (iI r)]) (c_X12_isRow (M := M) hn r (by first | assumption | omega)) wM_X12_isRow wS_X12_isRow kl_X12_107 ⟨rfl, rfl, Nat.le_of_ble_eq_true rfl, Nat.le_of_ble_eq_true rfl⟩ (Nat.le_of_ble_eq_true rfl) cs rfl rfl dX12_begins_1 rfl ?_
  rintro _ _ ⟨rfl, rfl⟩
  refine g_ifb_eq cx (pc2 := 7) (tgt := 17) dX12_begins_4 (by decide) rfl (fun h_1 => ?_) (fun h_1 => ?_)
  · skip
    refine g_iconst cx (pc2 := 18) dX12_begins_17 rfl ?_
    exact g_iret cx qx dX12_begins_18 ⟨_, rfl, by exact Or.inl ⟨by first | exact Or.inl (by assumption) | exact Or.inr (by assumption), rfl, rfl⟩⟩
  · skip
    refine g_iload_n cx (pc2 := 8) 2 rfl dX12_begins_7 rfl ?_
    refine g_iconst cx (pc2 := 9) dX12_begins_8 rfl ?_
    refine g_bipush cx (pc2 := 11) ⟨by decide, by decide⟩ dX12_begins_9 rfl ?_
    refine g_callS cx (pc2 := 14) (st := []) (As := [.int (iI i), .int (iI 0), .int (iI 7)]) (c_X12_in (M := M) hn i 0 7 (by first | assumption | omega) (by first | assumption | omega) (by first | assumption | omega)) wM_X12_in wS_X12_in kl_X12_97 ⟨rfl, rfl, Nat.le_of_ble_eq_true rfl, Nat.le_of_ble_eq_true rfl⟩ (Nat.le_of_ble_eq_true rfl) cs rfl rfl dX12_begins_11 rfl ?_
    rintro _ _ ⟨rfl, rfl⟩
    refine g_ifb_ne cx (pc2 := 17) (tgt := 19) dX12_begins_14 (by decide) rfl (fun h_2 => ?_) (fun h_2 => ?_)
    · skip
      refine g_aload_n cx (pc2 := 20) 0 rfl dX12_begins_19 rfl ?_
      refine g_iload_n cx (pc2 := 21) 1 rfl dX12_begins_20 rfl ?_
      refine g_callV cx (pc2 := 24) (st := []) (As := [.int (iI r)]) (k0 := 77) (ci := 12) (c_X12_needLine (M := M) hn (by first | exact hV | exact hV.of rfl rfl rfl rfl rfl rfl) (by first | assumption | omega) r (by first | assumption | omega)) wM_X12_needLine wV_X12_needLine kl_X12_223 rfl (lt_lit hn (Nat.le_of_ble_eq_true rfl)) rfl ⟨rfl, rfl, Nat.le_of_ble_eq_true rfl, Nat.le_of_ble_eq_true rfl⟩ (Nat.le_of_ble_eq_true rfl) cs rfl rfl dX12_begins_21 rfl ?_
      rintro _ M_3 ⟨z_3, rfl, h_3⟩
      have h21 := h_3
      have z21 : z_3 = -3 ∨ z_3 = 0 := by rcases h_3 with q | q | q | q; exact Or.inl q.2.1; exact Or.inl q.2.2.1; exact Or.inl q.2.2.2.1; exact Or.inr q.2.2.2.1
      refine g_istore_n cx (pc2 := 25) (lv2 := [(0, .ref 77), (1, .int (iI r)), (2, .int (iI i)), (3, .int (iI z_3))]) rfl (Nat.le_of_ble_eq_true rfl) dX12_begins_24 rfl ?_
      refine g_iload_n cx (pc2 := 26) 3 rfl dX12_begins_25 rfl ?_
      refine g_if_ge cx (pc2 := 29) (tgt := 31) (by first | assumption | omega) dX12_begins_26 (by decide) rfl (fun h_4 => ?_) (fun h_4 => ?_)
      · skip
        have hnl : nlR M r 0 (lnM M r) := by rcases h21 with q | q | q | q; omega; omega; omega; exact Or.inr (Or.inr (Or.inr ⟨q.1, q.2.1, q.2.2.1, rfl, rfl⟩))
        have hln := lnL hV (by assumption) hnl
        have hne : lnM M r 77 23 = M 79 r.toNat := rfl
        refine g_M (M2 := (lnM M r)) (by rcases h21 with q | q | q | q; omega; omega; omega; exact q.2.2.2.2) ?_
        refine g_iload_n cx (pc2 := 32) 2 rfl dX12_begins_31 rfl ?_
        refine g_aload_n cx (pc2 := 33) 0 rfl dX12_begins_32 rfl ?_
        refine g_get cx (pc2 := 36) (ci := 12) (k0 := 77) (j := 23) (v := .int (iI ((lnM M r) 77 23))) rfl iwX12 rfl (lt_lit hn (Nat.le_of_ble_eq_true rfl)) rfl (Nat.le_of_ble_eq_true rfl) kf_X12_217 rfl rfl dX12_begins_33 rfl ?_
        refine g_rwi (y := iI (M 79 r.toNat)) (rfl) ?_
        refine g_icmp_lt cx (pc2 := 39) (tgt := 45) ⟨(by first | assumption | omega), (by first | assumption | omega)⟩ dX12_begins_36 (by decide) rfl (fun h_5 => ?_) (fun h_5 => ?_)
        · skip
          refine g_aload_n cx (pc2 := 46) 0 rfl dX12_begins_45 rfl ?_
          refine g_callV cx (pc2 := 49) (st := []) (As := []) (k0 := 77) (ci := 12) (c_X12_does (M := (lnM M r)) hn (by first | exact hV | exact hV.of rfl rfl rfl rfl rfl rfl) (by exact hln)) wM_X12_does wV_X12_does kl_X12_226 rfl (lt_lit hn (Nat.le_of_ble_eq_true rfl)) rfl ⟨rfl, rfl, Nat.le_of_ble_eq_true rfl, Nat.le_of_ble_eq_true rfl⟩ (Nat.le_of_ble_eq_true rfl) cs rfl rfl dX12_begins_46 rfl ?_
          rintro _ M_6 ⟨z_6, rfl, h_6⟩
          have h46 := h_6
          have zb := doN_b (jbR (lnM M r)) (lnF (lnM M r)) (sP (lnM M r)) (lnM M r 77 23).toNat
          rw [← h46.1] at zb
          refine g_iload_n cx (pc2 := 50) 2 rfl dX12_begins_49 rfl ?_
          refine g_icmp_le cx (pc2 := 53) (tgt := 62) ⟨(by first | assumption | omega), (by first | assumption | omega)⟩ dX12_begins_50 (by decide) rfl (fun h_7 => ?_) (fun h_7 => ?_)
          · skip
            refine g_bipush cx (pc2 := 64) ⟨by decide, by decide⟩ dX12_begins_62 rfl ?_
            exact g_iret cx qx dX12_begins_64 ⟨_, rfl, by refine Or.inr (Or.inr (Or.inr ⟨⟨by assumption, by assumption⟩, hnl, by omega, _, h46, ?_⟩)); first | (rw [if_neg (by omega)]; done) | (rw [if_pos (by omega), h46.2.2.1 i.toNat (by omega)]; exact doB_ln hnl (by omega))⟩
          · skip
            refine g_aload_n cx (pc2 := 54) 0 rfl dX12_begins_53 rfl ?_
            refine g_get cx (pc2 := 57) (ci := 12) (k0 := 77) (j := 24) (v := .ref 90) rfl iwX12 rfl (lt_lit hn (Nat.le_of_ble_eq_true rfl)) rfl (Nat.le_of_ble_eq_true rfl) kf_X12_47 rfl rfl dX12_begins_54 rfl ?_
            refine g_iload_n cx (pc2 := 58) 2 rfl dX12_begins_57 rfl ?_
            refine g_iald cx (pc2 := 59) (k0 := 90) rfl (lt_lit hn (Nat.le_of_ble_eq_true rfl)) (by first | assumption | omega) (by first | assumption | omega) (Nat.le_of_ble_eq_true rfl) dX12_begins_58 rfl ?_
            refine g_rwi (y := iI (M_6 90 ((i).toNat))) (congrArg iI (by simp [stM])) ?_
            refine g_goto cx (tgt := 64) dX12_begins_59 (by decide) ?_
            exact g_iret cx qx dX12_begins_64 ⟨_, rfl, by refine Or.inr (Or.inr (Or.inr ⟨⟨by assumption, by assumption⟩, hnl, by omega, _, h46, ?_⟩)); first | (rw [if_neg (by omega)]; done) | (rw [if_pos (by omega), h46.2.2.1 i.toNat (by omega)]; exact doB_ln hnl (by omega))⟩
        · skip
          refine g_aload_n cx (pc2 := 40) 0 rfl dX12_begins_39 rfl ?_
          refine g_iconst cx (pc2 := 41) dX12_begins_40 rfl ?_
          refine g_callV cx (pc2 := 44) (st := []) (As := [.int (iI 2)]) (k0 := 77) (ci := 12) (c_X12_meets (M := (lnM M r)) hn 2 (by first | assumption | omega)) wM_X12_meets wV_X12_meets kl_X12_111 rfl (lt_lit hn (Nat.le_of_ble_eq_true rfl)) rfl ⟨rfl, rfl, Nat.le_of_ble_eq_true rfl, Nat.le_of_ble_eq_true rfl⟩ (Nat.le_of_ble_eq_true rfl) cs rfl rfl dX12_begins_41 rfl ?_
          rintro _ _ ⟨rfl, rfl⟩
          exact g_iret cx qx dX12_begins_44 ⟨_, rfl, by exact Or.inr (Or.inr (Or.inl ⟨⟨by assumption, by assumption⟩, hnl, by omega, rfl, rfl⟩))⟩
      · skip
        refine g_iload_n cx (pc2 := 30) 3 rfl dX12_begins_29 rfl ?_
        exact g_iret cx qx dX12_begins_30 ⟨_, rfl, by rcases z21 with q | q; (rw [q] at h21 ⊢; exact Or.inr (Or.inl ⟨⟨by assumption, by assumption⟩, rfl, h21⟩)); omega⟩
    · skip
      refine g_iconst cx (pc2 := 18) dX12_begins_17 rfl ?_
      exact g_iret cx qx dX12_begins_18 ⟨_, rfl, by exact Or.inl ⟨by first | exact Or.inl (by assumption) | exact Or.inr (by assumption), rfl, rfl⟩⟩
set_option maxHeartbeats 4000000 in
set_option maxRecDepth 100000 in
theorem c_X12_full {n : Nat} (hn : NN n) {M : Mm} (hV : RV M) : CT yX12_full cX12_full 1 (some .int) ({ frames := 0, cells := 0, slots := 0, locals := 0 }) n [.ref 77] M (rI (((allN (M 77 12) : Nat) : Int)) M) := by
  refine CT.of (lv0 := [(0, .ref 77)]) (by decide +kernel) hn (fun _ => rfl) (fun _ => Nat.le_of_ble_eq_true rfl) (fun X cx cs qx => ?_)
  have cx : Cx X cX12_full RX12 ({ frames := 0, cells := 0, slots := 0, locals := 0 }) 1 n := cx
  have hv1 := hV.1
  have ha := allN_eq (M 77 12)
  have hp0 := Nat.two_pow_pos (M 77 12).toNat
  refine g_iconst cx (pc2 := 1) dX12_full_0 rfl ?_
  refine g_aload_n cx (pc2 := 2) 0 rfl dX12_full_1 rfl ?_
  refine g_get cx (pc2 := 5) (ci := 12) (k0 := 77) (j := 12) (v := .int (iI (M 77 12))) rfl iwX12 rfl (lt_lit hn (Nat.le_of_ble_eq_true rfl)) rfl (Nat.le_of_ble_eq_true rfl) kf_X12_168 rfl rfl dX12_full_2 rfl ?_
  refine g_ishl cx (pc2 := 6) dX12_full_5 rfl ?_
  refine g_rwi (y := iI ((2 ^ (M 77 12).toNat : Nat) : Int)) (sh1 (by omega) (by omega)) ?_
  refine g_iconst cx (pc2 := 7) dX12_full_6 rfl ?_
  refine g_isub cx (pc2 := 8) dX12_full_7 rfl ?_
  exact g_iret cx qx dX12_full_8 ⟨congrArg (fun q => some (Value.int (iI q))) (by rw [ha]; omega), by rfl⟩
