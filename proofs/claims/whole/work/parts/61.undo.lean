def duH (M : Mm) (q : Int) (x : Nat) (j : Nat) : Int := dhV (M 66 (q.toNat + j)) (M 67 (q.toNat + j)) (M 68 (q.toNat + j)) (-(M 69 (q.toNat + j))) x
def duO (M : Mm) (q : Int) (x : Nat) (j : Nat) : Int := doV (M 66 (q.toNat + j)) (M 67 (q.toNat + j)) (M 68 (q.toNat + j)) (-(M 69 (q.toNat + j))) x
theorem unM_v {q : Int} : ∀ (k : Nat) (M : Mm), (∀ j, 0 ≤ M 66 j ∧ M 66 j ≤ 4) → (∀ x, unM M q k 64 x = M 64 x + smZ (duH M q x) k) ∧ (∀ x, unM M q k 65 x = M 65 x + smZ (duO M q x) k) ∧ (∀ a b, a ≠ 64 → a ≠ 65 → ¬ (a = 63 ∧ b = 6) → unM M q k a b = M a b) ∧ unM M q k 63 6 = if k = 0 then M 63 6 else q
  | 0, M, _ => ⟨fun x => by simp [unM, smZ], fun x => by simp [unM, smZ], fun a b _ _ _ => rfl, rfl⟩
  | k + 1, M, h => by
    rw [unM]
    have e : ∀ a, a ≠ 63 → a ≠ 64 → a ≠ 65 → stM (seM M (M 66 (q.toNat + k)) (M 67 (q.toNat + k)) (M 68 (q.toNat + k)) (-(M 69 (q.toNat + k)))) 63 6 (q + (k : Int)) a = M a := fun a h1 h2 h3 => by rw [stM_off h1, seM_o h2 h3]
    have e4 : ∀ x, stM (seM M (M 66 (q.toNat + k)) (M 67 (q.toNat + k)) (M 68 (q.toNat + k)) (-(M 69 (q.toNat + k)))) 63 6 (q + (k : Int)) 64 x = M 64 x + duH M q x k := fun x => by rw [stM_off (by decide), seM_64 (h _)]; rfl
    have e5 : ∀ x, stM (seM M (M 66 (q.toNat + k)) (M 67 (q.toNat + k)) (M 68 (q.toNat + k)) (-(M 69 (q.toNat + k)))) 63 6 (q + (k : Int)) 65 x = M 65 x + duO M q x k := fun x => by rw [stM_off (by decide), seM_65 (h _)]; rfl
    have e6 : stM (seM M (M 66 (q.toNat + k)) (M 67 (q.toNat + k)) (M 68 (q.toNat + k)) (-(M 69 (q.toNat + k)))) 63 6 (q + (k : Int)) 63 6 = q + (k : Int) := stM_at _ _ _ _
    have e7 : ∀ b, b ≠ 6 → stM (seM M (M 66 (q.toNat + k)) (M 67 (q.toNat + k)) (M 68 (q.toNat + k)) (-(M 69 (q.toNat + k)))) 63 6 (q + (k : Int)) 63 b = M 63 b := fun b hb => by rw [stM_ne _ _ (by omega), seM_o (by decide) (by decide)]
    generalize stM (seM M (M 66 (q.toNat + k)) (M 67 (q.toNat + k)) (M 68 (q.toNat + k)) (-(M 69 (q.toNat + k)))) 63 6 (q + (k : Int)) = M2 at e e4 e5 e6 e7
    have r66 := e 66 (by decide) (by decide) (by decide)
    have r67 := e 67 (by decide) (by decide) (by decide)
    have r68 := e 68 (by decide) (by decide) (by decide)
    have r69 := e 69 (by decide) (by decide) (by decide)
    have dh : ∀ x, duH M2 q x = duH M q x := fun x => by unfold duH; rw [r66, r67, r68, r69]
    have dq : ∀ x, duO M2 q x = duO M q x := fun x => by unfold duO; rw [r66, r67, r68, r69]
    have ih := unM_v (q := q) k M2 (by rw [r66]; exact h)
    refine ⟨fun x => ?_, fun x => ?_, fun a b h1 h2 h3 => ?_, ?_⟩
    · rw [ih.1 x, e4, dh, smZ]
      omega
    · rw [ih.2.1 x, e5, dq, smZ]
      omega
    · rw [ih.2.2.1 a b h1 h2 h3]
      by_cases z : a = 63
      · subst z
        exact e7 b (by omega)
      · rw [e a z h1 h2]
    · rw [ih.2.2.2, e6, if_neg (by omega : ¬ k + 1 = 0)]
      by_cases z : k = 0
      · rw [if_pos z, z]
        simp
      · rw [if_neg z]
def xuH (M : Mm) (q : Int) (x : Nat) (j : Nat) : Int := dhV (xd M (q + (j : Int)) 0) (xd M (q + (j : Int)) 1) (xd M (q + (j : Int)) 2) (-(xd M (q + (j : Int)) 3)) x
def xuO (M : Mm) (q : Int) (x : Nat) (j : Nat) : Int := doV (xd M (q + (j : Int)) 0) (xd M (q + (j : Int)) 1) (xd M (q + (j : Int)) 2) (-(xd M (q + (j : Int)) 3)) x
theorem xunM_v {q : Int} : ∀ (k : Nat) (M : Mm), (∀ x, xunM M q k 97 x = M 97 x + smZ (xuH M q x) k) ∧ (∀ x, xunM M q k 98 x = M 98 x + smZ (xuO M q x) k) ∧ (∀ a b, a ≠ 97 → a ≠ 98 → ¬ (a = 77 ∧ b = 35) → xunM M q k a b = M a b) ∧ xunM M q k 77 35 = if k = 0 then M 77 35 else q
  | 0, M => ⟨fun x => by simp [xunM, smZ], fun x => by simp [xunM, smZ], fun a b _ _ _ => rfl, rfl⟩
  | k + 1, M => by
    rw [xunM]
    have e : ∀ a, a ≠ 77 → a ≠ 97 → a ≠ 98 → xseM (stM M 77 35 (q + (k : Int))) (xd M (q + (k : Int)) 0) (xd M (q + (k : Int)) 1) (xd M (q + (k : Int)) 2) (-(xd M (q + (k : Int)) 3)) a = M a := fun a h1 h2 h3 => by rw [xseM_off _ _ _ _ _ h2 h3, stM_off h1]
    have e4 : ∀ x, xseM (stM M 77 35 (q + (k : Int))) (xd M (q + (k : Int)) 0) (xd M (q + (k : Int)) 1) (xd M (q + (k : Int)) 2) (-(xd M (q + (k : Int)) 3)) 97 x = M 97 x + xuH M q x k := fun x => by rw [xseM_97, stM_off (by decide)]; rfl
    have e5 : ∀ x, xseM (stM M 77 35 (q + (k : Int))) (xd M (q + (k : Int)) 0) (xd M (q + (k : Int)) 1) (xd M (q + (k : Int)) 2) (-(xd M (q + (k : Int)) 3)) 98 x = M 98 x + xuO M q x k := fun x => by rw [xseM_98, stM_off (by decide)]; rfl
    have e6 : xseM (stM M 77 35 (q + (k : Int))) (xd M (q + (k : Int)) 0) (xd M (q + (k : Int)) 1) (xd M (q + (k : Int)) 2) (-(xd M (q + (k : Int)) 3)) 77 35 = q + (k : Int) := by rw [xseM_off _ _ _ _ _ (by decide) (by decide)]; exact stM_at _ _ _ _
    have e7 : ∀ b, b ≠ 35 → xseM (stM M 77 35 (q + (k : Int))) (xd M (q + (k : Int)) 0) (xd M (q + (k : Int)) 1) (xd M (q + (k : Int)) 2) (-(xd M (q + (k : Int)) 3)) 77 b = M 77 b := fun b hb => by rw [xseM_off _ _ _ _ _ (by decide) (by decide), stM_ne _ _ (by omega)]
    generalize xseM (stM M 77 35 (q + (k : Int))) (xd M (q + (k : Int)) 0) (xd M (q + (k : Int)) 1) (xd M (q + (k : Int)) 2) (-(xd M (q + (k : Int)) 3)) = M2 at e e4 e5 e6 e7
    have r99 : ∀ i j, xd M2 i j = xd M i j := fun i j => by unfold xd; rw [e 99 (by decide) (by decide) (by decide)]
    have dh : ∀ x, xuH M2 q x = xuH M q x := fun x => by funext j; unfold xuH; rw [r99, r99, r99, r99]
    have dq : ∀ x, xuO M2 q x = xuO M q x := fun x => by funext j; unfold xuO; rw [r99, r99, r99, r99]
    have ih := xunM_v (q := q) k M2
    refine ⟨fun x => ?_, fun x => ?_, fun a b h1 h2 h3 => ?_, ?_⟩
    · rw [ih.1 x, e4, dh, smZ]
      omega
    · rw [ih.2.1 x, e5, dq, smZ]
      omega
    · rw [ih.2.2.1 a b h1 h2 h3]
      by_cases z : a = 77
      · subst z
        exact e7 b (by omega)
      · rw [e a z h1 h2]
    · rw [ih.2.2.2, e6, if_neg (by omega : ¬ k + 1 = 0)]
      by_cases z : k = 0
      · rw [if_pos z, z]
        simp
      · rw [if_neg z]
theorem Rl.xi {M : Mm} (h : Rl M) {q : Int} (hq : 0 ≤ q) {j : Nat} (hj : q + (j : Int) < M 63 6) (x : Nat) : xuH M q x j = duH M q x j ∧ xuO M q x j = duO M q x j := by
  have hL := h.2.2.1.1.2.2 (q.toNat + j) (by omega)
  have y : ∀ i : Nat, xd M (q + (j : Int)) (i : Int) = M 99 (4 * (q.toNat + j) + i) := fun i => by
    unfold xd
    rw [show (4 * (q + (j : Int)) + (i : Int)).toNat = 4 * (q.toNat + j) + i by omega]
  have y0 := y 0
  have y1 := y 1
  have y2 := y 2
  have y3 := y 3
  simp only [show ((0 : Nat) : Int) = 0 from rfl, show ((1 : Nat) : Int) = 1 from rfl, show ((2 : Nat) : Int) = 2 from rfl, show ((3 : Nat) : Int) = 3 from rfl, Nat.add_zero] at y0 y1 y2 y3
  unfold xuH duH xuO duO
  rw [y0, y1, y2, y3, hL.1.1, hL.1.2.1, hL.1.2.2.1]
  rcases hL.2 with z | z
  · constructor
    · unfold dhV
      rw [if_pos z, if_pos z]
    · unfold doV
      rw [if_pos z, if_pos z]
  · rw [z.1]
    exact ⟨rfl, rfl⟩
theorem smZ_0 {f : Nat → Int} : ∀ {k : Nat}, (∀ j, j < k → f j = 0) → smZ f k = 0
  | 0, _ => rfl
  | k + 1, h => by
    rw [smZ, smZ_0 (fun j hj => h j (by omega)), h k (by omega)]
    rfl
theorem Rl.undo {M : Mm} (h : Rl M) {q : Int} (hq : 0 ≤ q ∧ q ≤ M 63 6) : Rl (xunM (unM M q (M 63 6 - q).toNat) q (M 63 6 - q).toNat) := by
  have hl := h.1.l
  have hD := h.1.d
  have hL := h.2.2.1.1
  have hX := h.2.2.2.1.2.1.1
  have hk : ∃ k, k = (M 63 6 - q).toNat := ⟨_, rfl⟩
  obtain ⟨k, hk⟩ := hk
  rw [← hk]
  have hu := unM_v (q := q) k M (fun j => (hD.2 j).1)
  generalize unM M q k = U at hu
  have hv := xunM_v (q := q) k U
  generalize xunM U q k = V at hv
  have u99 : ∀ i j, xd U i j = xd M i j := fun i j => by unfold xd; exact hu.2.2.1 99 _ (by decide) (by decide) (by omega)
  have f : ∀ a b, (a ≤ 62 ∨ (66 ≤ a ∧ a ≤ 76) ∨ (78 ≤ a ∧ a ≤ 96) ∨ (99 ≤ a ∧ a ≤ 103) ∨ (a = 77 ∧ ¬ b = 35)) → V a b = M a b := fun a b z => by rw [hv.2.2.1 a b (by omega) (by omega) (by omega), hu.2.2.1 a b (by omega) (by omega) (by omega)]
  have v64 : ∀ x, V 64 x = M 64 x + smZ (duH M q x) k := fun x => by rw [hv.2.2.1 64 x (by decide) (by decide) (by omega), hu.1 x]
  have v65 : ∀ x, V 65 x = M 65 x + smZ (duO M q x) k := fun x => by rw [hv.2.2.1 65 x (by decide) (by decide) (by omega), hu.2.1 x]
  have v97 : ∀ x, V 97 x = M 97 x + smZ (duH M q x) k := fun x => by
    rw [hv.1 x, hu.2.2.1 97 x (by decide) (by decide) (by omega)]
    congr 1
    refine smZ_eq (fun j hj => ?_)
    rw [← (h.xi (q := q) hq.1 (j := j) (by omega) x).1]
    unfold xuH
    rw [u99, u99, u99, u99]
  have v98 : ∀ x, V 98 x = M 98 x + smZ (duO M q x) k := fun x => by
    rw [hv.2.1 x, hu.2.2.1 98 x (by decide) (by decide) (by omega)]
    congr 1
    refine smZ_eq (fun j hj => ?_)
    rw [← (h.xi (q := q) hq.1 (j := j) (by omega) x).2]
    unfold xuO
    rw [u99, u99, u99, u99]
  have v63 : V 63 6 = q := by
    rw [hv.2.2.1 63 6 (by decide) (by decide) (by decide), hu.2.2.2]
    split <;> omega
  have v35 : V 77 35 = q := by
    rw [hv.2.2.2, hu.2.2.1 77 35 (by decide) (by decide) (by decide)]
    split
    · rw [hL.2.1]
      omega
    · rfl
  have v23 : V 23 3 = M 23 3 := f 23 3 (by omega)
  have hd := fun (j : Nat) (hj : j < k) => hL.2.2 (q.toNat + j) (by omega)
  have fa : ∀ a, (66 ≤ a ∧ a ≤ 69) ∨ a = 99 → V a = M a := fun a z => by funext b; exact f a b (by omega)
  refine h.led (fun a z => by funext b; exact f a b (by omega)) (fun b z => f 77 b (by omega)) ⟨by rw [v63]; omega, fun j => ?_⟩ ⟨⟨fun x hx => ?_, fun x hx => ?_, fun x hx z => ?_, fun x y hx hy z => ?_⟩, by rw [v35, v63], fun i hi => ?_⟩ ?_
  · rw [fa 66 (by decide), fa 67 (by decide), fa 68 (by decide), fa 69 (by decide)]
    exact hD.2 j
  · rw [v97, v64, hL.1.1 x hx]
  · rw [v98, v65, hL.1.2.1 x hx]
  · rw [v23] at z
    rw [v64, hL.1.2.2.1 x hx z, smZ_0 (f := duH M q x) (fun j hj => dhV_z (n := M 23 3) ⟨(hD.2 _).2.1.1, (hd j hj).1.2.2.2⟩ ((hd j hj).2.imp id (fun w => ⟨(hD.2 _).2.2.1.1, w.2.1⟩)) z)]
    rfl
  · rw [v23] at z
    rw [v65, hL.1.2.2.2 x y hx hy z, smZ_0 (f := duO M q (8 * x + y)) (fun j hj => doV_z (n := M 23 3) hl.2.1 ⟨(hD.2 _).2.1.1, (hd j hj).1.2.2.2⟩ ((hd j hj).2.imp id (fun w => ⟨⟨(hD.2 _).2.2.1.1, w.2.1⟩, fun e => w.2.2 e.symm⟩)) hx hy z)]
    rfl
  · rw [v63] at hi
    rw [v23, fa 66 (by decide), fa 67 (by decide), fa 68 (by decide), fa 69 (by decide), fa 99 (by decide)]
    exact hL.2.2 i (by omega)
  · have ex : ∀ i j, xd V i j = xd M i j := fun i j => by unfold xd; rw [fa 99 (by decide)]
    unfold DLX
    simp only [ex, v35]
    exact ⟨by omega, hX.2⟩
theorem pr_undo {M : Mm} (h : Rl M) (q : Int) : xunA (undM M q) q = undA M q ∧ Rl (xudM (undM M q) q) := by
  have hL := h.2.2.1.1
  have hD := h.1.d
  unfold xunA undA xudM undM
  by_cases c : q < 0 ∨ M 63 6 < q
  · have c2 : ¬ (0 ≤ q ∧ q ≤ M 77 35) := by rw [hL.2.1]; omega
    simp only [if_pos c, if_pos c2]
    exact ⟨trivial, h⟩
  · have k : unM M q (M 63 6 - q).toNat 77 35 = M 63 6 := by
      rw [(unM_v (q := q) (M 63 6 - q).toNat M (fun j => (hD.2 j).1)).2.2.1 77 35 (by decide) (by decide) (by decide)]
      exact hL.2.1
    have c2 : ¬ ¬ (0 ≤ q ∧ q ≤ M 63 6) := by omega
    simp only [if_neg c, k, if_neg c2]
    exact ⟨trivial, h.undo (by omega)⟩
