def shQ (M : Mm) (s : Nat) : Prop := shP M s
abbrev shG (M : Mm) (s q : Nat) : Prop := M 94 q < 1000 ∧ M 92 (ndN s q) < 1000
def ktP (M : Mm) (a k : Int) : Mm := fun x b => if x = 95 ∧ (b : Int) < k then nA M a (b : Int) else M x b
theorem ktP_0 (M : Mm) (a : Int) : M = ktP M a 0 := by
  funext x b
  unfold ktP
  rw [if_neg (by omega)]
theorem ktP_s {M : Mm} {a k : Int} (h : 0 ≤ k) : stM (ktP M a k) 95 k.toNat (nA M a k) = ktP M a (k + 1) := by
  funext x b
  unfold stM ktP
  by_cases hb : x = 95 ∧ b = k.toNat
  · rw [if_pos hb, if_pos (by omega), show (b : Int) = k by omega]
  · rw [if_neg hb]
    by_cases h2 : x = 95 ∧ (b : Int) < k
    · rw [if_pos h2, if_pos (by omega)]
    · rw [if_neg h2, if_neg (by omega)]
theorem ktP_off (M : Mm) (a k : Int) {x : Nat} (h : x ≠ 95) : ktP M a k x = M x := by
  funext b
  unfold ktP
  rw [if_neg (fun q => h q.1)]
def muB (M : Mm) (a b : Int) : Bool := decide (isAK (nA M a 0) 1 ∨ isAK (nA M b 0) 1)
abbrev muP (M : Mm) (a b : Int) : Prop := muB M a b = true
theorem muP_iff {M : Mm} {a b : Int} : muP M a b ↔ (isAK (nA M a 0) 1 ∨ isAK (nA M b 0) 1) := by unfold muP muB; exact decide_eq_true_iff
def tw1 (M : Mm) (a b : Int) : Mm := stM (ktP M a 6) 85 (6 * a).toNat (if muP M a b then 1 else 0)
def tw2 (M : Mm) (a b : Int) : Mm := stM (tw1 M a b) 85 (6 * a + 2).toNat (max (nA M a 2) (nA M b 2))
def tw3 (M : Mm) (a b : Int) : Mm := stM (tw2 M a b) 85 (6 * a + 3).toNat (min (nA M a 3) (nA M b 3))
def twX (M : Mm) (a b : Int) : Mm := stM (tw3 M a b) 85 (6 * a + 5).toNat (nA M a 5 + nA M b 5)
theorem nA_st {M : Mm} {a i k : Int} {j : Nat} {v : Int} (hj : j < 6) (ha : 0 ≤ a) (hi : 0 ≤ i) (hk : 0 ≤ k ∧ k < 6) : nA (stM M 85 (6 * a + (j : Int)).toNat v) i k = if i = a ∧ k = (j : Int) then v else nA M i k := by
  unfold nA
  by_cases h : i = a ∧ k = (j : Int)
  · rw [if_pos h, h.1, h.2, stM_at]
  · rw [if_neg h, stM_ne _ _ (Or.inr (by omega))]
theorem nA_t1 {M : Mm} {a b : Int} (ha : 0 ≤ a) {i k : Int} (hi : 0 ≤ i) (hk : 0 ≤ k ∧ k < 6) : nA (tw1 M a b) i k = if i = a ∧ k = 0 then (if muP M a b then 1 else 0) else nA M i k := by
  unfold tw1
  have e := nA_st (M := ktP M a 6) (a := a) (i := i) (k := k) (j := 0) (v := if muP M a b then 1 else 0) (by decide) ha hi hk
  rw [show 6 * a + ((0 : Nat) : Int) = 6 * a by omega] at e
  rw [e, nA_off (ktP_off M a 6 (by decide))]
  rfl
theorem nA_t2 {M : Mm} {a b : Int} (ha : 0 ≤ a) {i k : Int} (hi : 0 ≤ i) (hk : 0 ≤ k ∧ k < 6) : nA (tw2 M a b) i k = if i = a ∧ k = 2 then max (nA M a 2) (nA M b 2) else nA (tw1 M a b) i k := nA_st (j := 2) (by decide) ha hi hk
theorem nA_t3 {M : Mm} {a b : Int} (ha : 0 ≤ a) {i k : Int} (hi : 0 ≤ i) (hk : 0 ≤ k ∧ k < 6) : nA (tw3 M a b) i k = if i = a ∧ k = 3 then min (nA M a 3) (nA M b 3) else nA (tw2 M a b) i k := nA_st (j := 3) (by decide) ha hi hk
theorem nA_tx {M : Mm} {a b : Int} (ha : 0 ≤ a) {i k : Int} (hi : 0 ≤ i) (hk : 0 ≤ k ∧ k < 6) : nA (twX M a b) i k = if i = a ∧ k = 5 then nA M a 5 + nA M b 5 else nA (tw3 M a b) i k := nA_st (j := 5) (by decide) ha hi hk
theorem twX_off (M : Mm) (a b : Int) {x : Nat} (h1 : x ≠ 85) (h2 : x ≠ 95) : twX M a b x = M x := by
  unfold twX tw3 tw2 tw1
  rw [stM_off h1, stM_off h1, stM_off h1, stM_off h1, ktP_off _ _ _ h2]
theorem twX_V {M : Mm} (hV : RV M) (h9 : ∀ i : Int, 0 ≤ i ∧ i < 8 → nA M i 5 ≤ 9) {a b : Int} (ha : 0 ≤ a ∧ a < 8) (hb : 0 ≤ b ∧ b < 8) : RV (twX M a b) := by
  refine ⟨?_, ?_, ?_, ?_⟩
  · rw [twX_off _ _ _ (by decide) (by decide)]; exact hV.1
  · rw [twX_off _ _ _ (by decide) (by decide)]; exact hV.2.1
  · intro i hi
    have h0 := nA_b hV (i := (i : Int)) (by omega)
    have hA := nA_b hV ha
    have hB2 := nA_b hV hb
    have h9a := h9 a ha
    have h9b := h9 b hb
    have hia := h9 (i : Int) (by omega)
    have e := fun (k : Nat) (hk : k < 6) => (nA_nat (twX M a b) (i := (i : Int)) (by omega) k).symm
    have key := fun (k : Int) (hk : 0 ≤ k ∧ k < 6) => nA_tx (M := M) (b := b) ha.1 (i := (i : Int)) (k := k) (by omega) hk
    have k1 := fun (k : Int) (hk : 0 ≤ k ∧ k < 6) => nA_t1 (M := M) (b := b) ha.1 (i := (i : Int)) (k := k) (by omega) hk
    have k2 := fun (k : Int) (hk : 0 ≤ k ∧ k < 6) => nA_t2 (M := M) (b := b) ha.1 (i := (i : Int)) (k := k) (by omega) hk
    have k3 := fun (k : Int) (hk : 0 ≤ k ∧ k < 6) => nA_t3 (M := M) (b := b) ha.1 (i := (i : Int)) (k := k) (by omega) hk
    have f0 : nA (twX M a b) (i : Int) 0 = if (i : Int) = a then (if muP M a b then 1 else 0) else nA M (i : Int) 0 := by rw [key 0 (by decide), k3 0 (by decide), k2 0 (by decide), k1 0 (by decide)]; simp
    have f1 : nA (twX M a b) (i : Int) 1 = nA M (i : Int) 1 := by rw [key 1 (by decide), k3 1 (by decide), k2 1 (by decide), k1 1 (by decide)]; simp
    have f2 : nA (twX M a b) (i : Int) 2 = if (i : Int) = a then max (nA M a 2) (nA M b 2) else nA M (i : Int) 2 := by rw [key 2 (by decide), k3 2 (by decide), k2 2 (by decide), k1 2 (by decide)]; simp
    have f3 : nA (twX M a b) (i : Int) 3 = if (i : Int) = a then min (nA M a 3) (nA M b 3) else nA M (i : Int) 3 := by rw [key 3 (by decide), k3 3 (by decide), k2 3 (by decide), k1 3 (by decide)]; simp
    have f4 : nA (twX M a b) (i : Int) 4 = nA M (i : Int) 4 := by rw [key 4 (by decide), k3 4 (by decide), k2 4 (by decide), k1 4 (by decide)]; simp
    have f5 : nA (twX M a b) (i : Int) 5 = if (i : Int) = a then nA M a 5 + nA M b 5 else nA M (i : Int) 5 := by rw [key 5 (by decide), k3 5 (by decide), k2 5 (by decide), k1 5 (by decide)]; simp
    have g0 := e 0 (by decide)
    have g1 := e 1 (by decide)
    have g2 := e 2 (by decide)
    have g3 := e 3 (by decide)
    have g4 := e 4 (by decide)
    have g5 := e 5 (by decide)
    simp only [Int.toNat_natCast] at g0 g1 g2 g3 g4 g5
    show (0 ≤ twX M a b 85 (6 * i + 0) ∧ twX M a b 85 (6 * i + 0) ≤ 5) ∧ (0 ≤ twX M a b 85 (6 * i + 1) ∧ twX M a b 85 (6 * i + 1) ≤ 7) ∧ (0 ≤ twX M a b 85 (6 * i + 2) ∧ twX M a b 85 (6 * i + 2) ≤ 27) ∧ (0 ≤ twX M a b 85 (6 * i + 3) ∧ twX M a b 85 (6 * i + 3) ≤ 27) ∧ (0 ≤ twX M a b 85 (6 * i + 4) ∧ twX M a b 85 (6 * i + 4) ≤ 4) ∧ (0 ≤ twX M a b 85 (6 * i + 5) ∧ twX M a b 85 (6 * i + 5) ≤ 18)
    rw [g0, g1, g2, g3, g4, g5, show ((0 : Nat) : Int) = 0 from rfl, show ((1 : Nat) : Int) = 1 from rfl, show ((2 : Nat) : Int) = 2 from rfl, show ((3 : Nat) : Int) = 3 from rfl, show ((4 : Nat) : Int) = 4 from rfl, show ((5 : Nat) : Int) = 5 from rfl, f0, f1, f2, f3, f4, f5]
    by_cases q : (i : Int) = a
    · rw [if_pos q, if_pos q, if_pos q, if_pos q]
      refine ⟨?_, h0.2.1, by omega, by omega, h0.2.2.2.2.1, by omega⟩
      split <;> omega
    · rw [if_neg q, if_neg q, if_neg q, if_neg q]
      exact h0
  · rw [twX_off _ _ _ (by decide) (by decide)]; exact hV.2.2.2
def rsT (M T : Mm) (a k : Int) : Mm := fun x c => if x = 85 ∧ 6 * a ≤ (c : Int) ∧ (c : Int) < 6 * a + k then M 85 c else T x c
theorem rsT_0 (M T : Mm) (a : Int) : T = rsT M T a 0 := by
  funext x c
  unfold rsT
  rw [if_neg (by omega)]
theorem rsT_s {M T : Mm} {a k : Int} (ha : 0 ≤ a) (h : 0 ≤ k) : stM (rsT M T a k) 85 (6 * a + k).toNat (M 85 (6 * a + k).toNat) = rsT M T a (k + 1) := by
  funext x c
  unfold stM rsT
  by_cases hb : x = 85 ∧ c = (6 * a + k).toNat
  · rw [if_pos hb, if_pos (by omega), hb.2]
  · rw [if_neg hb]
    by_cases h2 : x = 85 ∧ 6 * a ≤ (c : Int) ∧ (c : Int) < 6 * a + k
    · rw [if_pos h2, if_pos (by omega)]
    · rw [if_neg h2, if_neg (by omega)]
theorem rsT_off (M T : Mm) (a k : Int) {x : Nat} (h : x ≠ 85) : rsT M T a k x = T x := by
  funext c
  unfold rsT
  rw [if_neg (fun q => h q.1)]
theorem twX_85 {M : Mm} {a b : Int} (ha : 0 ≤ a) {c : Nat} (h : ¬ (6 * a ≤ (c : Int) ∧ (c : Int) < 6 * a + 6)) : twX M a b 85 c = M 85 c := by
  unfold twX tw3 tw2 tw1
  rw [stM_ne _ _ (Or.inr (by omega)), stM_ne _ _ (Or.inr (by omega)), stM_ne _ _ (Or.inr (by omega)), stM_ne _ _ (Or.inr (by omega)), ktP_off _ _ _ (by decide)]
def twU (M : Mm) (a b : Int) : Nat := ndN (mKx M 1) (2 ^ b.toNat) ||| (if muP M a b then 2 ^ a.toNat else 0)
def twZ (M T : Mm) (a b : Int) : Int := boX (twX M a b) T (twU M a b) (2 ^ b.toNat)
def xtwR (M : Mm) (i j z : Int) (M2 : Mm) : Prop := ((¬ NX M i ∨ ¬ NX M j ∨ i = j) ∧ z = -1 ∧ M2 = M) ∨ ((NX M i ∧ NX M j ∧ ¬ i = j) ∧ (¬ nA M i 4 = nA M j 4 ∨ ¬ wap (M 84 (nA M i 1).toNat) (M 84 (nA M j 1).toNat) = 0) ∧ z = -9 ∧ M2 = M) ∨ ((NX M i ∧ NX M j ∧ ¬ i = j) ∧ (nA M i 4 = nA M j 4 ∧ wap (M 84 (nA M i 1).toNat) (M 84 (nA M j 1).toNat) = 0) ∧ ∃ T, LX (twX M (min i j) (max i j)) (sP M) T ∧ z = (if twZ M T (min i j) (max i j) = -9 then -9 else wsB (jbR (twX M (min i j) (max i j))) (M 77 12).toNat (twZ M T (min i j) (max i j)).toNat) ∧ ∀ x, x ≠ 91 → x ≠ 92 → x ≠ 95 → M2 x = M x)
set_option maxHeartbeats 4000000 in
set_option maxRecDepth 100000 in
theorem c_X12_isShared {n : Nat} (hn : NN n) {M : Mm} (hV : RV M) (hE : ∀ t : Nat, t ≤ allN (M 77 12) → exV (M 94 t) ∧ exV (M 92 t)) (s : Int) (hs : SX M s) : CT yX12_isShared cX12_isShared 4 (some .boolean) ({ frames := 0, cells := 0, slots := 0, locals := 0 }) n [.ref 77, .int (iI s)] M (rI (b2 (shP M s.toNat)) M) := by
  refine CT.of (lv0 := [(0, .ref 77), (1, .int (iI s))]) (by decide +kernel) hn (fun _ => rfl) (fun _ => Nat.le_of_ble_eq_true rfl) (fun X cx cs qx => ?_)
  have cx : Cx X cX12_isShared RX12 ({ frames := 0, cells := 0, slots := 0, locals := 0 }) 4 n := cx
  have hv1 := hV.1
  have hfb := fX_255 hV
  refine g_iconst cx (pc2 := 1) dX12_isShared_0 rfl ?_
  refine g_istore_n cx (pc2 := 2) (lv2 := [(0, .ref 77), (1, .int (iI s)), (2, .int (iI 0))]) rfl (Nat.le_of_ble_eq_true rfl) dX12_isShared_1 rfl ?_
  refine g_iload_n cx (pc2 := 3) 1 rfl dX12_isShared_2 rfl ?_
  refine g_istore_n cx (pc2 := 4) (lv2 := [(0, .ref 77), (1, .int (iI s)), (2, .int (iI 0)), (3, .int (iI s))]) rfl (Nat.le_of_ble_eq_true rfl) dX12_isShared_3 rfl ?_
  have L4 : ∀ (fu : Nat) (x : Int) (g : Int), (x = -1 ∨ (0 ≤ x ∧ x ≤ s ∧ x.toNat &&& s.toNat = x.toNat)) → ((g = 0 ∧ ∀ q : Nat, q &&& s.toNat = q → x < (q : Int) → ¬ shG M s.toNat q) ∨ (g = 1 ∧ shQ M s.toNat)) → (x + 1).toNat ≤ fu → G X 4 [(0, .ref 77), (1, .int (iI s)), (2, .int (iI g)), (3, .int (iI x))] [] M := by
    intro fu
    induction fu using Nat.strongRecOn with
    | _ fu ih4 =>
      intro x g hx hg hk4
      have hE1 := hE x.toNat
      have hE2 := hE (ndN s.toNat x.toNat)
      have hnl := ndN_le s.toNat x.toNat
      have hsub : x.toNat - 1 &&& s.toNat ≤ x.toNat - 1 := Nat.and_le_left
      refine g_iload_n cx (pc2 := 5) 3 rfl dX12_isShared_4 rfl ?_
      refine g_if_lt cx (pc2 := 8) (tgt := 63) (by first | assumption | omega) dX12_isShared_5 (by decide) rfl (fun h_1 => ?_) (fun h_1 => ?_)
      · skip
        refine g_iload_n cx (pc2 := 64) 2 rfl dX12_isShared_63 rfl ?_
        refine g_rwi (y := iI (b2 (shP M s.toNat))) (by rcases hg with ⟨q1, q2⟩ | ⟨q1, q2⟩; (first | (exfalso; omega) | (rw [q1]; unfold b2; rw [if_neg (fun w => by obtain ⟨q, -, w2, w3, w4⟩ := w; exact q2 q w2 (by omega) ⟨w3, w4⟩)])); (rw [q1]; unfold b2; rw [if_pos (show shP M s.toNat from q2)])) ?_
        exact g_zret cx (b2_01 _) qx dX12_isShared_64 ⟨rb_i (by exact Iff.rfl), by rfl⟩
      · skip
        refine g_iload_n cx (pc2 := 9) 2 rfl dX12_isShared_8 rfl ?_
        refine g_if_ne cx (pc2 := 12) (tgt := 63) (by first | assumption | omega) dX12_isShared_9 (by decide) rfl (fun h_2 => ?_) (fun h_2 => ?_)
        · skip
          refine g_iload_n cx (pc2 := 64) 2 rfl dX12_isShared_63 rfl ?_
          refine g_rwi (y := iI (b2 (shP M s.toNat))) (by rcases hg with ⟨q1, q2⟩ | ⟨q1, q2⟩; (first | (exfalso; omega) | (rw [q1]; unfold b2; rw [if_neg (fun w => by obtain ⟨q, -, w2, w3, w4⟩ := w; exact q2 q w2 (by omega) ⟨w3, w4⟩)])); (rw [q1]; unfold b2; rw [if_pos (show shP M s.toNat from q2)])) ?_
          exact g_zret cx (b2_01 _) qx dX12_isShared_64 ⟨rb_i (by exact Iff.rfl), by rfl⟩
        · skip
          have L45 : ∀ (g2 : Int), ((g2 = 1 ∧ shG M s.toNat x.toNat) ∨ (g2 = 0 ∧ ¬ shG M s.toNat x.toNat)) → G X 45 [(0, .ref 77), (1, .int (iI s)), (3, .int (iI x))] [.int (iI g2)] M := by
            intro g2 hg2
            have hx0 : 0 ≤ x ∧ x ≤ s ∧ x.toNat &&& s.toNat = x.toNat := by rcases hx with q | q; omega; exact q
            have hg0 : ∀ q : Nat, q &&& s.toNat = q → x < (q : Int) → ¬ shG M s.toNat q := by rcases hg with q | q; exact q.2; omega
            refine g_istore_n cx (pc2 := 46) (lv2 := [(0, .ref 77), (1, .int (iI s)), (2, .int (iI g2)), (3, .int (iI x))]) rfl (Nat.le_of_ble_eq_true rfl) dX12_isShared_45 rfl ?_
            refine g_iload_n cx (pc2 := 47) 3 rfl dX12_isShared_46 rfl ?_
            refine g_if_ne cx (pc2 := 50) (tgt := 54) (by first | assumption | omega) dX12_isShared_47 (by decide) rfl (fun h_3 => ?_) (fun h_3 => ?_)
            · skip
              refine g_iload_n cx (pc2 := 55) 3 rfl dX12_isShared_54 rfl ?_
              refine g_iconst cx (pc2 := 56) dX12_isShared_55 rfl ?_
              refine g_isub cx (pc2 := 57) dX12_isShared_56 rfl ?_
              refine g_iload_n cx (pc2 := 58) 1 rfl dX12_isShared_57 rfl ?_
              refine g_iand cx (pc2 := 59) dX12_isShared_58 rfl ?_
              refine g_rwi (y := iI ((x.toNat - 1 &&& s.toNat : Nat) : Int)) (by rw [and_iI (by omega) (by omega)]; congr 3; omega) ?_
              refine g_istore_n cx (pc2 := 60) (lv2 := [(0, .ref 77), (1, .int (iI s)), (2, .int (iI g2)), (3, .int (iI ((x.toNat - 1 &&& s.toNat : Nat) : Int)))]) rfl (Nat.le_of_ble_eq_true rfl) dX12_isShared_59 rfl ?_
              refine g_goto cx (tgt := 4) dX12_isShared_60 (by decide) ?_
              exact ih4 ((((x.toNat - 1 &&& s.toNat : Nat) : Int) + 1).toNat) (by omega) ((x.toNat - 1 &&& s.toNat : Nat) : Int) g2 (by first | exact Or.inl rfl | exact Or.inr ⟨by omega, by omega, by rw [Int.toNat_natCast, Nat.and_assoc, Nat.and_self]⟩) (by rcases hg2 with ⟨q1, q2⟩ | ⟨q1, q2⟩; exact Or.inr ⟨q1, x.toNat, by omega, hx0.2.2, q2⟩; (refine Or.inl ⟨q1, fun q h1 h2 => ?_⟩; rcases (show x < (q : Int) ∨ (q : Int) = x ∨ (q : Int) < x by omega) with w | w | w; exact hg0 q h1 w; (rw [show q = x.toNat by omega]; exact q2); (exfalso; have w2 := sub_step x.toNat s.toNat q hx0.2.2 h1 (by omega); omega))) (Nat.le_refl _)
            · skip
              refine g_iconst cx (pc2 := 51) dX12_isShared_50 rfl ?_
              refine g_goto cx (tgt := 59) dX12_isShared_51 (by decide) ?_
              refine g_istore_n cx (pc2 := 60) (lv2 := [(0, .ref 77), (1, .int (iI s)), (2, .int (iI g2)), (3, .int (iI (-1)))]) rfl (Nat.le_of_ble_eq_true rfl) dX12_isShared_59 rfl ?_
              refine g_goto cx (tgt := 4) dX12_isShared_60 (by decide) ?_
              exact ih4 (((-1) + 1).toNat) (by omega) (-1) g2 (by first | exact Or.inl rfl | exact Or.inr ⟨by omega, by omega, by rw [Int.toNat_natCast, Nat.and_assoc, Nat.and_self]⟩) (by rcases hg2 with ⟨q1, q2⟩ | ⟨q1, q2⟩; exact Or.inr ⟨q1, x.toNat, by omega, hx0.2.2, q2⟩; (refine Or.inl ⟨q1, fun q h1 h2 => ?_⟩; rcases (show x < (q : Int) ∨ (q : Int) = x ∨ (q : Int) < x by omega) with w | w | w; exact hg0 q h1 w; (rw [show q = x.toNat by omega]; exact q2); (exfalso; have w2 := sub_step x.toNat s.toNat q hx0.2.2 h1 (by omega); omega))) (Nat.le_refl _)
          have hx0 : 0 ≤ x ∧ x ≤ s ∧ x.toNat &&& s.toNat = x.toNat := by rcases hx with q | q; omega; exact q
          have hv1 := (hE1 (by omega)).1
          have hv2 := (hE2 (by omega)).2
          have hg0 : ∀ q : Nat, q &&& s.toNat = q → x < (q : Int) → ¬ shG M s.toNat q := by rcases hg with q | q; exact q.2; omega
          refine g_aload_n cx (pc2 := 13) 0 rfl dX12_isShared_12 rfl ?_
          refine g_get cx (pc2 := 16) (ci := 12) (k0 := 77) (j := 30) (v := .ref 94) rfl iwX12 rfl (lt_lit hn (Nat.le_of_ble_eq_true rfl)) rfl (Nat.le_of_ble_eq_true rfl) kf_X12_59 rfl rfl dX12_isShared_13 rfl ?_
          refine g_iload_n cx (pc2 := 17) 3 rfl dX12_isShared_16 rfl ?_
          refine g_iald cx (pc2 := 18) (k0 := 94) rfl (lt_lit hn (Nat.le_of_ble_eq_true rfl)) (by first | assumption | omega) (by first | assumption | omega) (Nat.le_of_ble_eq_true rfl) dX12_isShared_17 rfl ?_
          refine g_rwi (y := iI (M 94 ((x).toNat))) (congrArg iI (by simp [stM])) ?_
          refine g_sipush cx (pc2 := 21) ⟨by decide, by decide⟩ dX12_isShared_18 rfl ?_
          refine g_icmp_ge cx (pc2 := 24) (tgt := 44) ⟨(by first | assumption | omega), ⟨by decide, by decide⟩⟩ dX12_isShared_21 (by decide) rfl (fun h_4 => ?_) (fun h_4 => ?_)
          · skip
            refine g_iconst cx (pc2 := 45) dX12_isShared_44 rfl ?_
            refine g_sub (lv2 := [(0, .ref 77), (1, .int (iI s)), (3, .int (iI x))]) [0, 1, 3] rfl ?_
            exact L45 0 (by first | exact Or.inl ⟨rfl, by omega, by assumption⟩ | exact Or.inl ⟨rfl, by omega, by omega⟩ | exact Or.inr ⟨rfl, fun q => by omega⟩ | exact Or.inr ⟨rfl, fun q => absurd q.1 (by omega)⟩ | exact Or.inr ⟨rfl, fun q => absurd q.2 (by omega)⟩)
          · skip
            refine g_aload_n cx (pc2 := 25) 0 rfl dX12_isShared_24 rfl ?_
            refine g_get cx (pc2 := 28) (ci := 12) (k0 := 77) (j := 27) (v := .ref 92) rfl iwX12 rfl (lt_lit hn (Nat.le_of_ble_eq_true rfl)) rfl (Nat.le_of_ble_eq_true rfl) kf_X12_53 rfl rfl dX12_isShared_25 rfl ?_
            refine g_iload_n cx (pc2 := 29) 1 rfl dX12_isShared_28 rfl ?_
            refine g_iload_n cx (pc2 := 30) 3 rfl dX12_isShared_29 rfl ?_
            refine g_iconst cx (pc2 := 31) dX12_isShared_30 rfl ?_
            refine g_ixor cx (pc2 := 32) dX12_isShared_31 rfl ?_
            refine g_iand cx (pc2 := 33) dX12_isShared_32 rfl ?_
            refine g_rwi (y := iI ((ndN s.toNat x.toNat : Nat) : Int)) (nd_iI (by omega) (by omega)) ?_
            refine g_iald cx (pc2 := 34) (k0 := 92) rfl (lt_lit hn (Nat.le_of_ble_eq_true rfl)) (by first | assumption | omega) (by first | assumption | omega) (Nat.le_of_ble_eq_true rfl) dX12_isShared_33 rfl ?_
            refine g_rwi (y := iI (M 92 ((((ndN s.toNat x.toNat : Nat) : Int)).toNat))) (congrArg iI (by simp [stM])) ?_
            refine g_rwi (y := iI (M 92 (ndN s.toNat x.toNat))) (rfl) ?_
            refine g_sipush cx (pc2 := 37) ⟨by decide, by decide⟩ dX12_isShared_34 rfl ?_
            refine g_icmp_ge cx (pc2 := 40) (tgt := 44) ⟨(by first | assumption | omega), ⟨by decide, by decide⟩⟩ dX12_isShared_37 (by decide) rfl (fun h_5 => ?_) (fun h_5 => ?_)
            · skip
              refine g_iconst cx (pc2 := 45) dX12_isShared_44 rfl ?_
              refine g_sub (lv2 := [(0, .ref 77), (1, .int (iI s)), (3, .int (iI x))]) [0, 1, 3] rfl ?_
              exact L45 0 (by first | exact Or.inl ⟨rfl, by omega, by assumption⟩ | exact Or.inl ⟨rfl, by omega, by omega⟩ | exact Or.inr ⟨rfl, fun q => by omega⟩ | exact Or.inr ⟨rfl, fun q => absurd q.1 (by omega)⟩ | exact Or.inr ⟨rfl, fun q => absurd q.2 (by omega)⟩)
            · skip
              refine g_iconst cx (pc2 := 41) dX12_isShared_40 rfl ?_
              refine g_goto cx (tgt := 45) dX12_isShared_41 (by decide) ?_
              refine g_sub (lv2 := [(0, .ref 77), (1, .int (iI s)), (3, .int (iI x))]) [0, 1, 3] rfl ?_
              exact L45 1 (by first | exact Or.inl ⟨rfl, by omega, by assumption⟩ | exact Or.inl ⟨rfl, by omega, by omega⟩ | exact Or.inr ⟨rfl, fun q => by omega⟩ | exact Or.inr ⟨rfl, fun q => absurd q.1 (by omega)⟩ | exact Or.inr ⟨rfl, fun q => absurd q.2 (by omega)⟩)
  exact L4 _ s 0 (by exact Or.inr ⟨by omega, by omega, Nat.and_self _⟩) (by refine Or.inl ⟨rfl, fun q h1 h2 => ?_⟩; have q3 : q &&& s.toNat ≤ s.toNat := Nat.and_le_right; omega) (Nat.le_refl _)
set_option maxHeartbeats 4000000 in
set_option maxRecDepth 100000 in
theorem c_X12_second {n : Nat} (hn : NN n) {M : Mm} (hV : RV M) (h : Int) (hh : ir h) : CT yX12_second cX12_second 7 (some .int) ({ frames := 5, cells := 0, slots := 0, locals := 121 }) n [.ref 77, .int (iI h)] M (pI (fun z M2 => xscR M h z M2)) := by
  refine CT.of (lv0 := [(0, .ref 77), (1, .int (iI h))]) (by decide +kernel) hn (fun _ => rfl) (fun _ => Nat.le_of_ble_eq_true rfl) (fun X cx cs qx => ?_)
  have cx : Cx X cX12_second RX12 ({ frames := 5, cells := 0, slots := 0, locals := 121 }) 7 n := cx
  have hv1 := hV.1
  have hfb := fX_255 hV
  have hMu := mKx_255 hV 1
  have hJo := jbR_ok hV
  refine g_aload_n cx (pc2 := 1) 0 rfl dX12_second_0 rfl ?_
  refine g_iload_n cx (pc2 := 2) 1 rfl dX12_second_1 rfl ?_
  refine g_callV cx (pc2 := 5) (st := []) (As := [.int (iI h)]) (k0 := 77) (ci := 12) (c_X12_isHouse (M := M) hn (by first | exact hUV | exact hXV | exact hVf | exact hV) h (by first | assumption | omega)) wM_X12_isHouse wV_X12_isHouse kl_X12_189 rfl (lt_lit hn (Nat.le_of_ble_eq_true rfl)) rfl ⟨rfl, rfl, Nat.le_of_ble_eq_true rfl, Nat.le_of_ble_eq_true rfl⟩ (Nat.le_of_ble_eq_true rfl) cs rfl rfl dX12_second_2 rfl ?_
  rintro _ _ ⟨rfl, rfl⟩
  refine g_ifb_ne cx (pc2 := 8) (tgt := 10) dX12_second_5 (by decide) rfl (fun h_1 => ?_) (fun h_1 => ?_)
  · skip
    have hHX : HX M h := h_1
    refine g_aload_n cx (pc2 := 11) 0 rfl dX12_second_10 rfl ?_
    refine g_aload_n cx (pc2 := 12) 0 rfl dX12_second_11 rfl ?_
    refine g_get cx (pc2 := 15) (ci := 12) (k0 := 77) (j := 15) (v := .int (iI (M 77 15))) rfl iwX12 rfl (lt_lit hn (Nat.le_of_ble_eq_true rfl)) rfl (Nat.le_of_ble_eq_true rfl) kf_X12_171 rfl rfl dX12_second_12 rfl ?_
    refine g_callV cx (pc2 := 18) (st := []) (As := [.int (iI (M 77 15))]) (k0 := 77) (ci := 12) (c_X12_layEnds (M := M) hn (by first | exact hUV | exact hXV | exact hVf | exact hV) (M 77 15) (by first | assumption | omega)) wM_X12_layEnds wV_X12_layEnds kl_X12_242 rfl (lt_lit hn (Nat.le_of_ble_eq_true rfl)) rfl ⟨rfl, rfl, Nat.le_of_ble_eq_true rfl, Nat.le_of_ble_eq_true rfl⟩ (Nat.le_of_ble_eq_true rfl) cs rfl rfl dX12_second_15 rfl ?_
    rintro _ M_2 ⟨rfl, h_2⟩
    have hX := h_2
    have hXV := hX.V hV
    have hXe := hX.e
    have hXj := hX.j
    obtain ⟨T, hT⟩ : ∃ T, T = M_2 := ⟨_, rfl⟩
    rw [← hT] at hX hXV hXe hXj
    have e12 : T 77 12 = M 77 12 := by rw [hXe]
    have hXE : ∀ t : Nat, t ≤ allN (T 77 12) → exV (T 92 t) := fun t ht => (hX.2 t (by rw [e12] at ht; exact ht)).2
    have eBo : ∀ a b, boX T T a b = boX M T a b := fun a b => by unfold boX; rw [hXj, e12]
    have hbv := boF_v (jbR M) (M 77 12).toNat (T 92) (mKx M 1) 0 (allN (M 77 12) + 1)
    have hbo : boX M T (mKx M 1) 0 = -9 ∨ (0 ≤ boX M T (mKx M 1) 0 ∧ boX M T (mKx M 1) 0 ≤ 255) := by unfold boX; omega
    have hFoff : ∀ k a, a ≠ 94 → fcP T k a = T a := fun k a ha => fcP_off T k ha
    have f12 : ∀ k, fcP T k 77 12 = M 77 12 := fun k => by rw [hFoff _ _ (by decide), e12]
    have hVF : ∀ k, RV (fcP T k) := fun k => hXV.of (hFoff _ _ (by decide)) (hFoff _ _ (by decide)) (hFoff _ _ (by decide)) (by rw [hFoff _ _ (by decide)]) (by rw [hFoff _ _ (by decide)]) (by rw [hFoff _ _ (by decide)])
    refine g_M (M2 := T) (by exact hT.symm) ?_
    refine g_aload_n cx (pc2 := 19) 0 rfl dX12_second_18 rfl ?_
    refine g_aload_n cx (pc2 := 20) 0 rfl dX12_second_19 rfl ?_
    refine g_callV cx (pc2 := 23) (st := [.ref 77]) (As := []) (k0 := 77) (ci := 12) (c_X12_musts (M := T) hn (by first | exact hUV | exact hXV | exact hVf | exact hV)) wM_X12_musts wV_X12_musts kl_X12_249 rfl (lt_lit hn (Nat.le_of_ble_eq_true rfl)) rfl ⟨rfl, rfl, Nat.le_of_ble_eq_true rfl, Nat.le_of_ble_eq_true rfl⟩ (Nat.le_of_ble_eq_true rfl) cs rfl rfl dX12_second_20 rfl ?_
    rintro _ _ ⟨rfl, rfl⟩
    refine g_rwi (y := iI ((mKx M 1 : Nat) : Int)) (congrArg (fun q => iI ((q : Nat) : Int)) (mKx_off (hX.1 85 (by decide) (by decide)) e12 1)) ?_
    refine g_iconst cx (pc2 := 24) dX12_second_23 rfl ?_
    refine g_callV cx (pc2 := 27) (st := []) (As := [.int (iI ((mKx M 1 : Nat) : Int)), .int (iI 0)]) (k0 := 77) (ci := 12) (c_X12_bestOf (M := T) hn (by first | exact hUV | exact hXV | exact hVf | exact hV) (by first | exact hE2 | exact hXE) ((mKx M 1 : Nat) : Int) 0 (by first | assumption | omega) (by first | assumption | omega)) wM_X12_bestOf wV_X12_bestOf kl_X12_252 rfl (lt_lit hn (Nat.le_of_ble_eq_true rfl)) rfl ⟨rfl, rfl, Nat.le_of_ble_eq_true rfl, Nat.le_of_ble_eq_true rfl⟩ (Nat.le_of_ble_eq_true rfl) cs rfl rfl dX12_second_24 rfl ?_
    rintro _ _ ⟨rfl, rfl⟩
    refine g_rwi (y := iI (boX M T (mKx M 1) 0)) (congrArg iI (eBo _ _)) ?_
    refine g_istore_n cx (pc2 := 28) (lv2 := [(0, .ref 77), (1, .int (iI h)), (2, .int (iI (boX M T (mKx M 1) 0)))]) rfl (Nat.le_of_ble_eq_true rfl) dX12_second_27 rfl ?_
    refine g_iconst cx (pc2 := 29) dX12_second_28 rfl ?_
    refine g_istore_n cx (pc2 := 30) (lv2 := [(0, .ref 77), (1, .int (iI h)), (2, .int (iI (boX M T (mKx M 1) 0))), (3, .int (iI 0))]) rfl (Nat.le_of_ble_eq_true rfl) dX12_second_29 rfl ?_
    have L30 : ∀ (fu : Nat) (k : Int), (0 ≤ k ∧ k ≤ ((allN (M 77 12) : Nat) : Int) + 1) → (((allN (M 77 12) : Nat) : Int) + 1 - k).toNat ≤ fu → G X 30 [(0, .ref 77), (1, .int (iI h)), (2, .int (iI (boX M T (mKx M 1) 0))), (3, .int (iI k))] [] (fcP T k) := by
      intro fu
      induction fu using Nat.strongRecOn with
      | _ fu ih30 =>
        intro k hk hk30
        have hVf := hVF k
        refine g_iload_n cx (pc2 := 31) 3 rfl dX12_second_30 rfl ?_
        refine g_aload_n cx (pc2 := 32) 0 rfl dX12_second_31 rfl ?_
        refine g_callV cx (pc2 := 35) (st := [.int (iI k)]) (As := []) (k0 := 77) (ci := 12) (c_X12_full (M := (fcP T k)) hn (by first | exact hUV | exact hXV | exact hVf | exact hV)) wM_X12_full wV_X12_full kl_X12_230 rfl (lt_lit hn (Nat.le_of_ble_eq_true rfl)) rfl ⟨rfl, rfl, Nat.le_of_ble_eq_true rfl, Nat.le_of_ble_eq_true rfl⟩ (Nat.le_of_ble_eq_true rfl) cs rfl rfl dX12_second_32 rfl ?_
        rintro _ _ ⟨rfl, rfl⟩
        refine g_rwi (y := iI ((allN (M 77 12) : Nat) : Int)) (congrArg (fun q => iI ((allN q : Nat) : Int)) (f12 k)) ?_
        refine g_icmp_gt cx (pc2 := 38) (tgt := 56) ⟨(by first | assumption | omega), (by first | assumption | omega)⟩ dX12_second_35 (by decide) rfl (fun h_3 => ?_) (fun h_3 => ?_)
        · skip
          refine g_M (M2 := (fcP T (((allN (M 77 12) : Nat) : Int) + 1))) (by rw [show k = ((allN (M 77 12) : Nat) : Int) + 1 by omega]) ?_
          refine g_aload_n cx (pc2 := 57) 0 rfl dX12_second_56 rfl ?_
          refine g_iload_n cx (pc2 := 58) 1 rfl dX12_second_57 rfl ?_
          refine g_callV cx (pc2 := 61) (st := []) (As := [.int (iI h)]) (k0 := 77) (ci := 12) (c_X12_layEnds (M := (fcP T (((allN (M 77 12) : Nat) : Int) + 1))) hn (by exact hVF _) h (by first | assumption | omega)) wM_X12_layEnds wV_X12_layEnds kl_X12_242 rfl (lt_lit hn (Nat.le_of_ble_eq_true rfl)) rfl ⟨rfl, rfl, Nat.le_of_ble_eq_true rfl, Nat.le_of_ble_eq_true rfl⟩ (Nat.le_of_ble_eq_true rfl) cs rfl rfl dX12_second_58 rfl ?_
          rintro _ M_4 ⟨rfl, h_4⟩
          have hU0 := h_4
          have eP : fcP T (((allN (M 77 12) : Nat) : Int) + 1) 84 h.toNat = M 84 h.toNat := by rw [hFoff _ _ (by decide), hX.1 84 (by decide) (by decide)]
          rw [eP] at hU0
          obtain ⟨U, hUe⟩ : ∃ U, U = M_4 := ⟨_, rfl⟩
          rw [← hUe] at hU0
          have hUV := hU0.V (hVF _)
          have uj : jbR U = jbR M := by rw [hU0.j, jbR_off (hFoff _ _ (by decide)) (hFoff _ _ (by decide)), hXj]
          have u12 : U 77 12 = M 77 12 := by rw [hU0.e]; exact f12 _
          have u85 : U 85 = M 85 := by rw [hU0.1 85 (by decide) (by decide), hFoff _ _ (by decide), hX.1 85 (by decide) (by decide)]
          have hE2 : ∀ t : Nat, t ≤ allN (U 77 12) → exV (U 94 t) ∧ exV (U 92 t) := fun t ht => by rw [u12] at ht; refine ⟨?_, (hU0.2 t (by rw [f12]; exact ht)).2⟩; rw [hU0.1 94 (by decide) (by decide)]; unfold fcP; rw [if_pos ⟨rfl, by omega⟩]; exact (hX.2 t ht).2
          have hMKu : mKx U 1 = mKx M 1 := mKx_off u85 u12 1
          refine g_M (M2 := U) (by exact hUe.symm) ?_
          refine g_bipush cx (pc2 := 63) ⟨by decide, by decide⟩ dX12_second_61 rfl ?_
          refine g_istore_n cx (pc2 := 64) (lv2 := [(0, .ref 77), (1, .int (iI h)), (2, .int (iI (boX M T (mKx M 1) 0))), (3, .int (iI (-9)))]) rfl (Nat.le_of_ble_eq_true rfl) dX12_second_63 rfl ?_
          refine g_aload_n cx (pc2 := 65) 0 rfl dX12_second_64 rfl ?_
          refine g_callV cx (pc2 := 68) (st := []) (As := []) (k0 := 77) (ci := 12) (c_X12_musts (M := U) hn (by first | exact hUV | exact hXV | exact hVf | exact hV)) wM_X12_musts wV_X12_musts kl_X12_249 rfl (lt_lit hn (Nat.le_of_ble_eq_true rfl)) rfl ⟨rfl, rfl, Nat.le_of_ble_eq_true rfl, Nat.le_of_ble_eq_true rfl⟩ (Nat.le_of_ble_eq_true rfl) cs rfl rfl dX12_second_65 rfl ?_
          rintro _ _ ⟨rfl, rfl⟩
          refine g_rwi (y := iI ((mKx M 1 : Nat) : Int)) (congrArg (fun q => iI ((q : Nat) : Int)) hMKu) ?_
          refine g_istore cx (pc2 := 70) (lv2 := [(0, .ref 77), (1, .int (iI h)), (2, .int (iI (boX M T (mKx M 1) 0))), (3, .int (iI (-9))), (4, .int (iI ((mKx M 1 : Nat) : Int)))]) rfl (Nat.le_of_ble_eq_true rfl) dX12_second_68 rfl ?_
          refine g_iconst cx (pc2 := 71) dX12_second_70 rfl ?_
          refine g_istore cx (pc2 := 73) (lv2 := [(0, .ref 77), (1, .int (iI h)), (2, .int (iI (boX M T (mKx M 1) 0))), (3, .int (iI (-9))), (4, .int (iI ((mKx M 1 : Nat) : Int))), (5, .int (iI 0))]) rfl (Nat.le_of_ble_eq_true rfl) dX12_second_71 rfl ?_
          have L73 : ∀ (fu : Nat) (s : Int) (x : Int), (0 ≤ s ∧ s ≤ ((allN (M 77 12) : Nat) : Int) + 1) → (x = scF (jbR M) (M 77 12).toNat U (mKx M 1) s.toNat) → (((allN (M 77 12) : Nat) : Int) + 1 - s).toNat ≤ fu → G X 73 [(0, .ref 77), (1, .int (iI h)), (2, .int (iI (boX M T (mKx M 1) 0))), (3, .int (iI x)), (4, .int (iI ((mKx M 1 : Nat) : Int))), (5, .int (iI s))] [] U := by
            intro fu
            induction fu using Nat.strongRecOn with
            | _ fu ih73 =>
              intro s x hs hx hk73
              have hxv := scF_v (jbR M) (M 77 12).toNat U (mKx M 1) s.toNat
              rw [← hx] at hxv
              have ha1 : s.toNat &&& mKx M 1 ≤ s.toNat := Nat.and_le_left
              have hw1 := wsB_b hJo (n := (M 77 12).toNat) (by omega) s.toNat
              have hw2 := wsB_b hJo (n := (M 77 12).toNat) (by omega) x.toNat
              have hst : ∀ w : Nat, w = s.toNat + 1 → scF (jbR M) (M 77 12).toNat U (mKx M 1) w = if (s.toNat &&& mKx M 1 = mKx M 1 ∧ (x = -9 ∨ wsB (jbR M) (M 77 12).toNat x.toNat < wsB (jbR M) (M 77 12).toNat s.toNat)) ∧ shP U s.toNat then s else x := fun w hw => by rw [hw, scF, ← hx, Int.toNat_of_nonneg hs.1]
              refine g_iload cx (pc2 := 75) 5 rfl dX12_second_73 rfl ?_
              refine g_aload_n cx (pc2 := 76) 0 rfl dX12_second_75 rfl ?_
              refine g_callV cx (pc2 := 79) (st := [.int (iI s)]) (As := []) (k0 := 77) (ci := 12) (c_X12_full (M := U) hn (by first | exact hUV | exact hXV | exact hVf | exact hV)) wM_X12_full wV_X12_full kl_X12_230 rfl (lt_lit hn (Nat.le_of_ble_eq_true rfl)) rfl ⟨rfl, rfl, Nat.le_of_ble_eq_true rfl, Nat.le_of_ble_eq_true rfl⟩ (Nat.le_of_ble_eq_true rfl) cs rfl rfl dX12_second_76 rfl ?_
              rintro _ _ ⟨rfl, rfl⟩
              refine g_rwi (y := iI ((allN (M 77 12) : Nat) : Int)) (congrArg (fun q => iI ((allN q : Nat) : Int)) u12) ?_
              refine g_icmp_gt cx (pc2 := 82) (tgt := 146) ⟨(by first | assumption | omega), (by first | assumption | omega)⟩ dX12_second_79 (by decide) rfl (fun h_5 => ?_) (fun h_5 => ?_)
              · skip
                refine g_iload_n cx (pc2 := 147) 3 rfl dX12_second_146 rfl ?_
                refine g_bipush cx (pc2 := 149) ⟨by decide, by decide⟩ dX12_second_147 rfl ?_
                refine g_icmp_ne cx (pc2 := 152) (tgt := 155) ⟨(by first | assumption | omega), ⟨by decide, by decide⟩⟩ dX12_second_149 (by decide) rfl (fun h_6 => ?_) (fun h_6 => ?_)
                · skip
                  refine g_aload_n cx (pc2 := 156) 0 rfl dX12_second_155 rfl ?_
                  refine g_aload_n cx (pc2 := 157) 0 rfl dX12_second_156 rfl ?_
                  refine g_iload_n cx (pc2 := 158) 3 rfl dX12_second_157 rfl ?_
                  refine g_callV cx (pc2 := 161) (st := [.ref 77]) (As := [.int (iI x)]) (k0 := 77) (ci := 12) (c_X12_worthOf (M := U) hn (by first | exact hUV | exact hXV | exact hVf | exact hV) x (by first | assumption | omega)) wM_X12_worthOf wV_X12_worthOf kl_X12_246 rfl (lt_lit hn (Nat.le_of_ble_eq_true rfl)) rfl ⟨rfl, rfl, Nat.le_of_ble_eq_true rfl, Nat.le_of_ble_eq_true rfl⟩ (Nat.le_of_ble_eq_true rfl) cs rfl rfl dX12_second_158 rfl ?_
                  rintro _ _ ⟨rfl, rfl⟩
                  refine g_rwi (y := iI (wsB (jbR M) (M 77 12).toNat x.toNat)) (congrArg iI (by rw [uj, u12])) ?_
                  refine g_iload_n cx (pc2 := 162) 2 rfl dX12_second_161 rfl ?_
                  refine g_bipush cx (pc2 := 164) ⟨by decide, by decide⟩ dX12_second_162 rfl ?_
                  refine g_icmp_ne cx (pc2 := 167) (tgt := 171) ⟨(by first | assumption | omega), ⟨by decide, by decide⟩⟩ dX12_second_164 (by decide) rfl (fun h_7 => ?_) (fun h_7 => ?_)
                  · skip
                    refine g_aload_n cx (pc2 := 172) 0 rfl dX12_second_171 rfl ?_
                    refine g_iload_n cx (pc2 := 173) 2 rfl dX12_second_172 rfl ?_
                    refine g_callV cx (pc2 := 176) (st := [.int (iI (wsB (jbR M) (M 77 12).toNat x.toNat)), .ref 77]) (As := [.int (iI (boX M T (mKx M 1) 0))]) (k0 := 77) (ci := 12) (c_X12_worthOf (M := U) hn (by first | exact hUV | exact hXV | exact hVf | exact hV) (boX M T (mKx M 1) 0) (by first | assumption | omega)) wM_X12_worthOf wV_X12_worthOf kl_X12_246 rfl (lt_lit hn (Nat.le_of_ble_eq_true rfl)) rfl ⟨rfl, rfl, Nat.le_of_ble_eq_true rfl, Nat.le_of_ble_eq_true rfl⟩ (Nat.le_of_ble_eq_true rfl) cs rfl rfl dX12_second_173 rfl ?_
                    rintro _ _ ⟨rfl, rfl⟩
                    refine g_rwi (y := iI (wsB (jbR M) (M 77 12).toNat (boX M T (mKx M 1) 0).toNat)) (congrArg iI (by rw [uj, u12])) ?_
                    refine g_isub cx (pc2 := 177) dX12_second_176 rfl ?_
                    refine g_aload_n cx (pc2 := 178) 0 rfl dX12_second_177 rfl ?_
                    refine g_iload_n cx (pc2 := 179) 3 rfl dX12_second_178 rfl ?_
                    refine g_callV cx (pc2 := 182) (st := [.int (iI ((wsB (jbR M) (M 77 12).toNat x.toNat) - (wsB (jbR M) (M 77 12).toNat (boX M T (mKx M 1) 0).toNat))), .ref 77]) (As := [.int (iI x)]) (k0 := 77) (ci := 12) (c_X12_worthOf (M := U) hn (by first | exact hUV | exact hXV | exact hVf | exact hV) x (by first | assumption | omega)) wM_X12_worthOf wV_X12_worthOf kl_X12_246 rfl (lt_lit hn (Nat.le_of_ble_eq_true rfl)) rfl ⟨rfl, rfl, Nat.le_of_ble_eq_true rfl, Nat.le_of_ble_eq_true rfl⟩ (Nat.le_of_ble_eq_true rfl) cs rfl rfl dX12_second_179 rfl ?_
                    rintro _ _ ⟨rfl, rfl⟩
                    refine g_rwi (y := iI (wsB (jbR M) (M 77 12).toNat x.toNat)) (congrArg iI (by rw [uj, u12])) ?_
                    refine g_callV cx (pc2 := 185) (st := []) (As := [.int (iI ((wsB (jbR M) (M 77 12).toNat x.toNat) - (wsB (jbR M) (M 77 12).toNat (boX M T (mKx M 1) 0).toNat))), .int (iI (wsB (jbR M) (M 77 12).toNat x.toNat))]) (k0 := 77) (ci := 12) (c_X12_tells (M := U) hn ((wsB (jbR M) (M 77 12).toNat x.toNat) - (wsB (jbR M) (M 77 12).toNat (boX M T (mKx M 1) 0).toNat)) (wsB (jbR M) (M 77 12).toNat x.toNat)) wM_X12_tells wV_X12_tells kl_X12_119 rfl (lt_lit hn (Nat.le_of_ble_eq_true rfl)) rfl ⟨rfl, rfl, Nat.le_of_ble_eq_true rfl, Nat.le_of_ble_eq_true rfl⟩ (Nat.le_of_ble_eq_true rfl) cs rfl rfl dX12_second_182 rfl ?_
                    rintro _ _ ⟨rfl, rfl⟩
                    exact g_iret cx qx dX12_second_185 ⟨_, rfl, by refine Or.inr ⟨hHX, T, U, hX, hU0, Or.inr ?_⟩; rw [show allN (M 77 12) + 1 = s.toNat by omega, ← hx]; refine ⟨by assumption, rfl, ?_⟩; first | (rw [if_pos (by assumption)]; done) | (rw [if_neg (by assumption)]; done)⟩
                  · skip
                    refine g_iconst cx (pc2 := 168) dX12_second_167 rfl ?_
                    refine g_goto cx (tgt := 176) dX12_second_168 (by decide) ?_
                    refine g_isub cx (pc2 := 177) dX12_second_176 rfl ?_
                    refine g_aload_n cx (pc2 := 178) 0 rfl dX12_second_177 rfl ?_
                    refine g_iload_n cx (pc2 := 179) 3 rfl dX12_second_178 rfl ?_
                    refine g_callV cx (pc2 := 182) (st := [.int (iI ((wsB (jbR M) (M 77 12).toNat x.toNat) - 0)), .ref 77]) (As := [.int (iI x)]) (k0 := 77) (ci := 12) (c_X12_worthOf (M := U) hn (by first | exact hUV | exact hXV | exact hVf | exact hV) x (by first | assumption | omega)) wM_X12_worthOf wV_X12_worthOf kl_X12_246 rfl (lt_lit hn (Nat.le_of_ble_eq_true rfl)) rfl ⟨rfl, rfl, Nat.le_of_ble_eq_true rfl, Nat.le_of_ble_eq_true rfl⟩ (Nat.le_of_ble_eq_true rfl) cs rfl rfl dX12_second_179 rfl ?_
                    rintro _ _ ⟨rfl, rfl⟩
                    refine g_rwi (y := iI (wsB (jbR M) (M 77 12).toNat x.toNat)) (congrArg iI (by rw [uj, u12])) ?_
                    refine g_callV cx (pc2 := 185) (st := []) (As := [.int (iI ((wsB (jbR M) (M 77 12).toNat x.toNat) - 0)), .int (iI (wsB (jbR M) (M 77 12).toNat x.toNat))]) (k0 := 77) (ci := 12) (c_X12_tells (M := U) hn ((wsB (jbR M) (M 77 12).toNat x.toNat) - 0) (wsB (jbR M) (M 77 12).toNat x.toNat)) wM_X12_tells wV_X12_tells kl_X12_119 rfl (lt_lit hn (Nat.le_of_ble_eq_true rfl)) rfl ⟨rfl, rfl, Nat.le_of_ble_eq_true rfl, Nat.le_of_ble_eq_true rfl⟩ (Nat.le_of_ble_eq_true rfl) cs rfl rfl dX12_second_182 rfl ?_
                    rintro _ _ ⟨rfl, rfl⟩
                    exact g_iret cx qx dX12_second_185 ⟨_, rfl, by refine Or.inr ⟨hHX, T, U, hX, hU0, Or.inr ?_⟩; rw [show allN (M 77 12) + 1 = s.toNat by omega, ← hx]; refine ⟨by assumption, rfl, ?_⟩; first | (rw [if_pos (by assumption)]; done) | (rw [if_neg (by assumption)]; done)⟩
                · skip
                  refine g_bipush cx (pc2 := 154) ⟨by decide, by decide⟩ dX12_second_152 rfl ?_
                  exact g_iret cx qx dX12_second_154 ⟨_, rfl, by refine Or.inr ⟨hHX, T, U, hX, hU0, Or.inl ⟨?_, rfl, rfl⟩⟩; rw [show allN (M 77 12) + 1 = s.toNat by omega, ← hx]; assumption⟩
              · skip
                have L126 : ∀ (g : Int), ((g = 1 ∧ (s.toNat &&& mKx M 1 = mKx M 1 ∧ (x = -9 ∨ wsB (jbR M) (M 77 12).toNat x.toNat < wsB (jbR M) (M 77 12).toNat s.toNat)) ∧ (shP U s.toNat) = True) ∨ (g = 0 ∧ ¬ ((s.toNat &&& mKx M 1 = mKx M 1 ∧ (x = -9 ∨ wsB (jbR M) (M 77 12).toNat x.toNat < wsB (jbR M) (M 77 12).toNat s.toNat)) ∧ (shP U s.toNat) = True))) → G X 126 [(0, .ref 77), (1, .int (iI h)), (2, .int (iI (boX M T (mKx M 1) 0))), (3, .int (iI x)), (4, .int (iI ((mKx M 1 : Nat) : Int))), (5, .int (iI s))] [.int (iI g)] U := by
                  intro g hg
                  refine g_istore cx (pc2 := 128) (lv2 := [(0, .ref 77), (1, .int (iI h)), (2, .int (iI (boX M T (mKx M 1) 0))), (3, .int (iI x)), (4, .int (iI ((mKx M 1 : Nat) : Int))), (5, .int (iI s)), (6, .int (iI g))]) rfl (Nat.le_of_ble_eq_true rfl) dX12_second_126 rfl ?_
                  have L139 : ∀ (y : Int), (y = scF (jbR M) (M 77 12).toNat U (mKx M 1) (s.toNat + 1)) → G X 139 [(0, .ref 77), (1, .int (iI h)), (2, .int (iI (boX M T (mKx M 1) 0))), (4, .int (iI ((mKx M 1 : Nat) : Int))), (5, .int (iI s))] [.int (iI y)] U := by
                    intro y hy
                    refine g_istore_n cx (pc2 := 140) (lv2 := [(0, .ref 77), (1, .int (iI h)), (2, .int (iI (boX M T (mKx M 1) 0))), (3, .int (iI y)), (4, .int (iI ((mKx M 1 : Nat) : Int))), (5, .int (iI s))]) rfl (Nat.le_of_ble_eq_true rfl) dX12_second_139 rfl ?_
                    refine g_iinc cx (pc2 := 143) 5 rfl (lv2 := [(0, .ref 77), (1, .int (iI h)), (2, .int (iI (boX M T (mKx M 1) 0))), (3, .int (iI y)), (4, .int (iI ((mKx M 1 : Nat) : Int))), (5, .int (iI (s + 1)))]) rfl (Nat.le_of_ble_eq_true rfl) dX12_second_140 rfl ?_
                    refine g_goto cx (tgt := 73) dX12_second_143 (by decide) ?_
                    exact ih73 ((((allN (M 77 12) : Nat) : Int) + 1 - (s + 1)).toNat) (by omega) (s + 1) y (by first | assumption | omega) (by rw [show (s + 1).toNat = s.toNat + 1 by omega]; exact hy) (Nat.le_refl _)
                  refine g_iload cx (pc2 := 130) 6 rfl dX12_second_128 rfl ?_
                  refine g_if_eq cx (pc2 := 133) (tgt := 138) (by first | assumption | omega) dX12_second_130 (by decide) rfl (fun h_8 => ?_) (fun h_8 => ?_)
                  · skip
                    refine g_iload_n cx (pc2 := 139) 3 rfl dX12_second_138 rfl ?_
                    refine g_sub (lv2 := [(0, .ref 77), (1, .int (iI h)), (2, .int (iI (boX M T (mKx M 1) 0))), (4, .int (iI ((mKx M 1 : Nat) : Int))), (5, .int (iI s))]) [0, 1, 2, 4, 5] rfl ?_
                    exact L139 x (by rw [hst _ rfl]; rcases hg with ⟨q1, q2⟩ | ⟨q1, q2⟩ <;> first | (exfalso; clear q2; omega) | (rw [if_pos ⟨q2.1, of_eq_true q2.2⟩]; done) | (rw [if_neg (fun z => q2 ⟨z.1, eq_true z.2⟩)]; done))
                  · skip
                    refine g_iload cx (pc2 := 135) 5 rfl dX12_second_133 rfl ?_
                    refine g_goto cx (tgt := 139) dX12_second_135 (by decide) ?_
                    refine g_sub (lv2 := [(0, .ref 77), (1, .int (iI h)), (2, .int (iI (boX M T (mKx M 1) 0))), (4, .int (iI ((mKx M 1 : Nat) : Int))), (5, .int (iI s))]) [0, 1, 2, 4, 5] rfl ?_
                    exact L139 s (by rw [hst _ rfl]; rcases hg with ⟨q1, q2⟩ | ⟨q1, q2⟩ <;> first | (exfalso; clear q2; omega) | (rw [if_pos ⟨q2.1, of_eq_true q2.2⟩]; done) | (rw [if_neg (fun z => q2 ⟨z.1, eq_true z.2⟩)]; done))
                refine g_iload cx (pc2 := 84) 5 rfl dX12_second_82 rfl ?_
                refine g_iload cx (pc2 := 86) 4 rfl dX12_second_84 rfl ?_
                refine g_iand cx (pc2 := 87) dX12_second_86 rfl ?_
                refine g_rwi (y := iI ((s.toNat &&& mKx M 1 : Nat) : Int)) (and_iI (by omega) (by omega)) ?_
                refine g_iload cx (pc2 := 89) 4 rfl dX12_second_87 rfl ?_
                refine g_icmp_ne cx (pc2 := 92) (tgt := 125) ⟨(by first | assumption | omega), (by first | assumption | omega)⟩ dX12_second_89 (by decide) rfl (fun h_9 => ?_) (fun h_9 => ?_)
                · skip
                  refine g_iconst cx (pc2 := 126) dX12_second_125 rfl ?_
                  exact L126 0 (by first | exact Or.inl ⟨rfl, ⟨by omega, Or.inl (by assumption)⟩, hsh⟩ | exact Or.inl ⟨rfl, ⟨by omega, Or.inr (by omega)⟩, hsh⟩ | exact Or.inr ⟨rfl, fun q => hsh2 q.2⟩ | exact Or.inr ⟨rfl, fun q => by have w := q.1; omega⟩)
                · skip
                  refine g_iload_n cx (pc2 := 93) 3 rfl dX12_second_92 rfl ?_
                  refine g_bipush cx (pc2 := 95) ⟨by decide, by decide⟩ dX12_second_93 rfl ?_
                  refine g_icmp_eq cx (pc2 := 98) (tgt := 112) ⟨(by first | assumption | omega), ⟨by decide, by decide⟩⟩ dX12_second_95 (by decide) rfl (fun h_10 => ?_) (fun h_10 => ?_)
                  · skip
                    refine g_aload_n cx (pc2 := 113) 0 rfl dX12_second_112 rfl ?_
                    refine g_iload cx (pc2 := 115) 5 rfl dX12_second_113 rfl ?_
                    refine g_callV cx (pc2 := 118) (st := []) (As := [.int (iI s)]) (k0 := 77) (ci := 12) (c_X12_isShared (M := U) hn (by first | exact hUV | exact hXV | exact hVf | exact hV) (by first | exact hE2 | exact hXE) s (by unfold SX; rw [u12]; omega)) wM_X12_isShared wV_X12_isShared kl_X12_287 rfl (lt_lit hn (Nat.le_of_ble_eq_true rfl)) rfl ⟨rfl, rfl, Nat.le_of_ble_eq_true rfl, Nat.le_of_ble_eq_true rfl⟩ (Nat.le_of_ble_eq_true rfl) cs rfl rfl dX12_second_115 rfl ?_
                    rintro _ _ ⟨rfl, rfl⟩
                    refine g_ifb_eq cx (pc2 := 121) (tgt := 125) dX12_second_118 (by decide) rfl (fun h_11 => ?_) (fun h_11 => ?_)
                    · skip
                      have hsh := h_11
                      have hsh2 : ¬ (shP U s.toNat) = True := fun q => hsh (of_eq_true q)
                      clear hsh
                      clear h_11
                      refine g_iconst cx (pc2 := 126) dX12_second_125 rfl ?_
                      exact L126 0 (by first | exact Or.inl ⟨rfl, ⟨by omega, Or.inl (by assumption)⟩, hsh⟩ | exact Or.inl ⟨rfl, ⟨by omega, Or.inr (by omega)⟩, hsh⟩ | exact Or.inr ⟨rfl, fun q => hsh2 q.2⟩ | exact Or.inr ⟨rfl, fun q => by have w := q.1; omega⟩)
                    · skip
                      have hsh := eq_true h_11
                      clear h_11
                      refine g_iconst cx (pc2 := 122) dX12_second_121 rfl ?_
                      refine g_goto cx (tgt := 126) dX12_second_122 (by decide) ?_
                      exact L126 1 (by first | exact Or.inl ⟨rfl, ⟨by omega, Or.inl (by assumption)⟩, hsh⟩ | exact Or.inl ⟨rfl, ⟨by omega, Or.inr (by omega)⟩, hsh⟩ | exact Or.inr ⟨rfl, fun q => hsh2 q.2⟩ | exact Or.inr ⟨rfl, fun q => by have w := q.1; omega⟩)
                  · skip
                    refine g_aload_n cx (pc2 := 99) 0 rfl dX12_second_98 rfl ?_
                    refine g_iload cx (pc2 := 101) 5 rfl dX12_second_99 rfl ?_
                    refine g_callV cx (pc2 := 104) (st := []) (As := [.int (iI s)]) (k0 := 77) (ci := 12) (c_X12_worthOf (M := U) hn (by first | exact hUV | exact hXV | exact hVf | exact hV) s (by first | assumption | omega)) wM_X12_worthOf wV_X12_worthOf kl_X12_246 rfl (lt_lit hn (Nat.le_of_ble_eq_true rfl)) rfl ⟨rfl, rfl, Nat.le_of_ble_eq_true rfl, Nat.le_of_ble_eq_true rfl⟩ (Nat.le_of_ble_eq_true rfl) cs rfl rfl dX12_second_101 rfl ?_
                    rintro _ _ ⟨rfl, rfl⟩
                    refine g_rwi (y := iI (wsB (jbR M) (M 77 12).toNat s.toNat)) (congrArg iI (by rw [uj, u12])) ?_
                    refine g_aload_n cx (pc2 := 105) 0 rfl dX12_second_104 rfl ?_
                    refine g_iload_n cx (pc2 := 106) 3 rfl dX12_second_105 rfl ?_
                    refine g_callV cx (pc2 := 109) (st := [.int (iI (wsB (jbR M) (M 77 12).toNat s.toNat))]) (As := [.int (iI x)]) (k0 := 77) (ci := 12) (c_X12_worthOf (M := U) hn (by first | exact hUV | exact hXV | exact hVf | exact hV) x (by first | assumption | omega)) wM_X12_worthOf wV_X12_worthOf kl_X12_246 rfl (lt_lit hn (Nat.le_of_ble_eq_true rfl)) rfl ⟨rfl, rfl, Nat.le_of_ble_eq_true rfl, Nat.le_of_ble_eq_true rfl⟩ (Nat.le_of_ble_eq_true rfl) cs rfl rfl dX12_second_106 rfl ?_
                    rintro _ _ ⟨rfl, rfl⟩
                    refine g_rwi (y := iI (wsB (jbR M) (M 77 12).toNat x.toNat)) (congrArg iI (by rw [uj, u12])) ?_
                    refine g_icmp_le cx (pc2 := 112) (tgt := 125) ⟨(by first | assumption | omega), (by first | assumption | omega)⟩ dX12_second_109 (by decide) rfl (fun h_12 => ?_) (fun h_12 => ?_)
                    · skip
                      refine g_iconst cx (pc2 := 126) dX12_second_125 rfl ?_
                      exact L126 0 (by first | exact Or.inl ⟨rfl, ⟨by omega, Or.inl (by assumption)⟩, hsh⟩ | exact Or.inl ⟨rfl, ⟨by omega, Or.inr (by omega)⟩, hsh⟩ | exact Or.inr ⟨rfl, fun q => hsh2 q.2⟩ | exact Or.inr ⟨rfl, fun q => by have w := q.1; omega⟩)
                    · skip
                      refine g_aload_n cx (pc2 := 113) 0 rfl dX12_second_112 rfl ?_
                      refine g_iload cx (pc2 := 115) 5 rfl dX12_second_113 rfl ?_
                      refine g_callV cx (pc2 := 118) (st := []) (As := [.int (iI s)]) (k0 := 77) (ci := 12) (c_X12_isShared (M := U) hn (by first | exact hUV | exact hXV | exact hVf | exact hV) (by first | exact hE2 | exact hXE) s (by unfold SX; rw [u12]; omega)) wM_X12_isShared wV_X12_isShared kl_X12_287 rfl (lt_lit hn (Nat.le_of_ble_eq_true rfl)) rfl ⟨rfl, rfl, Nat.le_of_ble_eq_true rfl, Nat.le_of_ble_eq_true rfl⟩ (Nat.le_of_ble_eq_true rfl) cs rfl rfl dX12_second_115 rfl ?_
                      rintro _ _ ⟨rfl, rfl⟩
                      refine g_ifb_eq cx (pc2 := 121) (tgt := 125) dX12_second_118 (by decide) rfl (fun h_13 => ?_) (fun h_13 => ?_)
                      · skip
                        have hsh := h_13
                        have hsh2 : ¬ (shP U s.toNat) = True := fun q => hsh (of_eq_true q)
                        clear hsh
                        clear h_13
                        refine g_iconst cx (pc2 := 126) dX12_second_125 rfl ?_
                        exact L126 0 (by first | exact Or.inl ⟨rfl, ⟨by omega, Or.inl (by assumption)⟩, hsh⟩ | exact Or.inl ⟨rfl, ⟨by omega, Or.inr (by omega)⟩, hsh⟩ | exact Or.inr ⟨rfl, fun q => hsh2 q.2⟩ | exact Or.inr ⟨rfl, fun q => by have w := q.1; omega⟩)
                      · skip
                        have hsh := eq_true h_13
                        clear h_13
                        refine g_iconst cx (pc2 := 122) dX12_second_121 rfl ?_
                        refine g_goto cx (tgt := 126) dX12_second_122 (by decide) ?_
                        exact L126 1 (by first | exact Or.inl ⟨rfl, ⟨by omega, Or.inl (by assumption)⟩, hsh⟩ | exact Or.inl ⟨rfl, ⟨by omega, Or.inr (by omega)⟩, hsh⟩ | exact Or.inr ⟨rfl, fun q => hsh2 q.2⟩ | exact Or.inr ⟨rfl, fun q => by have w := q.1; omega⟩)
          exact L73 _ 0 (-9) (by first | assumption | omega) (by rfl) (Nat.le_refl _)
        · skip
          refine g_aload_n cx (pc2 := 39) 0 rfl dX12_second_38 rfl ?_
          refine g_get cx (pc2 := 42) (ci := 12) (k0 := 77) (j := 30) (v := .ref 94) rfl iwX12 rfl (lt_lit hn (Nat.le_of_ble_eq_true rfl)) rfl (Nat.le_of_ble_eq_true rfl) kf_X12_59 rfl rfl dX12_second_39 rfl ?_
          refine g_iload_n cx (pc2 := 43) 3 rfl dX12_second_42 rfl ?_
          refine g_aload_n cx (pc2 := 44) 0 rfl dX12_second_43 rfl ?_
          refine g_get cx (pc2 := 47) (ci := 12) (k0 := 77) (j := 27) (v := .ref 92) rfl iwX12 rfl (lt_lit hn (Nat.le_of_ble_eq_true rfl)) rfl (Nat.le_of_ble_eq_true rfl) kf_X12_53 rfl rfl dX12_second_44 rfl ?_
          refine g_iload_n cx (pc2 := 48) 3 rfl dX12_second_47 rfl ?_
          refine g_iald cx (pc2 := 49) (k0 := 92) rfl (lt_lit hn (Nat.le_of_ble_eq_true rfl)) (by first | assumption | omega) (by first | assumption | omega) (Nat.le_of_ble_eq_true rfl) dX12_second_48 rfl ?_
          refine g_rwi (y := iI ((fcP T k) 92 ((k).toNat))) (congrArg iI (by simp [stM])) ?_
          refine g_rwi (y := iI (T 92 k.toNat)) (congrArg iI (by show fcP T k 92 k.toNat = _; rw [hFoff _ _ (by decide)])) ?_
          refine g_iast cx (pc2 := 50) (k0 := 94) rfl (lt_lit hn (Nat.le_of_ble_eq_true rfl)) (by first | assumption | omega) (by first | assumption | omega) (Nat.le_of_ble_eq_true rfl) dX12_second_49 rfl ?_
          refine g_iinc cx (pc2 := 53) 3 rfl (lv2 := [(0, .ref 77), (1, .int (iI h)), (2, .int (iI (boX M T (mKx M 1) 0))), (3, .int (iI (k + 1)))]) rfl (Nat.le_of_ble_eq_true rfl) dX12_second_50 rfl ?_
          refine g_goto cx (tgt := 30) dX12_second_53 (by decide) ?_
          refine g_M (M2 := (fcP T (k + 1))) (by exact fcP_s hk.1) ?_
          exact ih30 ((((allN (M 77 12) : Nat) : Int) + 1 - (k + 1)).toNat) (by omega) (k + 1) (by first | assumption | omega) (Nat.le_refl _)
    refine g_M (M2 := (fcP T 0)) (by exact fcP_0 T) ?_
    exact L30 _ 0 (by first | assumption | omega) (Nat.le_refl _)
  · skip
    refine g_iconst cx (pc2 := 9) dX12_second_8 rfl ?_
    exact g_iret cx qx dX12_second_9 ⟨_, rfl, by exact Or.inl ⟨by assumption, rfl, rfl⟩⟩
set_option maxHeartbeats 4000000 in
set_option maxRecDepth 100000 in
theorem c_X12_two {n : Nat} (hn : NN n) {M : Mm} (hV : RV M) (h9 : ∀ i : Int, 0 ≤ i ∧ i < 8 → nA M i 5 ≤ 9) (i j : Int) (hi : ir i) (hj : ir j) : CT yX12_two cX12_two 10 (some .int) ({ frames := 5, cells := 0, slots := 0, locals := 121 }) n [.ref 77, .int (iI i), .int (iI j)] M (pI (fun z M2 => xtwR M i j z M2)) := by
  refine CT.of (lv0 := [(0, .ref 77), (1, .int (iI i)), (2, .int (iI j))]) (by decide +kernel) hn (fun _ => rfl) (fun _ => Nat.le_of_ble_eq_true rfl) (fun X cx cs qx => ?_)
  have cx : Cx X cX12_two RX12 ({ frames := 5, cells := 0, slots := 0, locals := 121 }) 10 n := cx
  have hv1 := hV.1
  have hfb := fX_255 hV
  have hMu := mKx_255 hV 1
  refine g_aload_n cx (pc2 := 1) 0 rfl dX12_two_0 rfl ?_
  refine g_iload_n cx (pc2 := 2) 1 rfl dX12_two_1 rfl ?_
  refine g_callV cx (pc2 := 5) (st := []) (As := [.int (iI i)]) (k0 := 77) (ci := 12) (c_X12_isNeed (M := M) hn (by first | exact hTV | exact hVX | exact hV) i (by first | assumption | omega)) wM_X12_isNeed wV_X12_isNeed kl_X12_192 rfl (lt_lit hn (Nat.le_of_ble_eq_true rfl)) rfl ⟨rfl, rfl, Nat.le_of_ble_eq_true rfl, Nat.le_of_ble_eq_true rfl⟩ (Nat.le_of_ble_eq_true rfl) cs rfl rfl dX12_two_2 rfl ?_
  rintro _ _ ⟨rfl, rfl⟩
  refine g_ifb_eq cx (pc2 := 8) (tgt := 21) dX12_two_5 (by decide) rfl (fun h_1 => ?_) (fun h_1 => ?_)
  · skip
    refine g_iconst cx (pc2 := 22) dX12_two_21 rfl ?_
    exact g_iret cx qx dX12_two_22 ⟨_, rfl, by exact Or.inl ⟨by omega, rfl, rfl⟩⟩
  · skip
    refine g_aload_n cx (pc2 := 9) 0 rfl dX12_two_8 rfl ?_
    refine g_iload_n cx (pc2 := 10) 2 rfl dX12_two_9 rfl ?_
    refine g_callV cx (pc2 := 13) (st := []) (As := [.int (iI j)]) (k0 := 77) (ci := 12) (c_X12_isNeed (M := M) hn (by first | exact hTV | exact hVX | exact hV) j (by first | assumption | omega)) wM_X12_isNeed wV_X12_isNeed kl_X12_192 rfl (lt_lit hn (Nat.le_of_ble_eq_true rfl)) rfl ⟨rfl, rfl, Nat.le_of_ble_eq_true rfl, Nat.le_of_ble_eq_true rfl⟩ (Nat.le_of_ble_eq_true rfl) cs rfl rfl dX12_two_10 rfl ?_
    rintro _ _ ⟨rfl, rfl⟩
    refine g_ifb_eq cx (pc2 := 16) (tgt := 21) dX12_two_13 (by decide) rfl (fun h_2 => ?_) (fun h_2 => ?_)
    · skip
      refine g_iconst cx (pc2 := 22) dX12_two_21 rfl ?_
      exact g_iret cx qx dX12_two_22 ⟨_, rfl, by exact Or.inl ⟨by omega, rfl, rfl⟩⟩
    · skip
      refine g_iload_n cx (pc2 := 17) 1 rfl dX12_two_16 rfl ?_
      refine g_iload_n cx (pc2 := 18) 2 rfl dX12_two_17 rfl ?_
      refine g_icmp_ne cx (pc2 := 21) (tgt := 23) ⟨(by first | assumption | omega), (by first | assumption | omega)⟩ dX12_two_18 (by decide) rfl (fun h_3 => ?_) (fun h_3 => ?_)
      · skip
        have hok3 : NX M i ∧ NX M j ∧ ¬ i = j := ⟨by assumption, by assumption, by assumption⟩
        have hii := nA_b hV (i := i) (by omega)
        have hjj := nA_b hV (i := j) (by omega)
        have hwij := wap_b (hV.2.1 (nA M i 1).toNat (by omega)) (hV.2.1 (nA M j 1).toNat (by omega))
        refine g_aload_n cx (pc2 := 24) 0 rfl dX12_two_23 rfl ?_
        refine g_iload_n cx (pc2 := 25) 1 rfl dX12_two_24 rfl ?_
        refine g_iconst cx (pc2 := 26) dX12_two_25 rfl ?_
        refine g_callV cx (pc2 := 29) (st := []) (As := [.int (iI i), .int (iI 4)]) (k0 := 77) (ci := 12) (c_X12_needAt (M := M) hn i 4 (by first | assumption | omega) (by first | omega | exact hk8)) wM_X12_needAt wV_X12_needAt kl_X12_195 rfl (lt_lit hn (Nat.le_of_ble_eq_true rfl)) rfl ⟨rfl, rfl, Nat.le_of_ble_eq_true rfl, Nat.le_of_ble_eq_true rfl⟩ (Nat.le_of_ble_eq_true rfl) cs rfl rfl dX12_two_26 rfl ?_
        rintro _ _ ⟨rfl, rfl⟩
        refine g_aload_n cx (pc2 := 30) 0 rfl dX12_two_29 rfl ?_
        refine g_iload_n cx (pc2 := 31) 2 rfl dX12_two_30 rfl ?_
        refine g_iconst cx (pc2 := 32) dX12_two_31 rfl ?_
        refine g_callV cx (pc2 := 35) (st := [.int (iI (nA M i 4))]) (As := [.int (iI j), .int (iI 4)]) (k0 := 77) (ci := 12) (c_X12_needAt (M := M) hn j 4 (by first | assumption | omega) (by first | omega | exact hk8)) wM_X12_needAt wV_X12_needAt kl_X12_195 rfl (lt_lit hn (Nat.le_of_ble_eq_true rfl)) rfl ⟨rfl, rfl, Nat.le_of_ble_eq_true rfl, Nat.le_of_ble_eq_true rfl⟩ (Nat.le_of_ble_eq_true rfl) cs rfl rfl dX12_two_32 rfl ?_
        rintro _ _ ⟨rfl, rfl⟩
        refine g_icmp_ne cx (pc2 := 38) (tgt := 57) ⟨(by first | assumption | omega), (by first | assumption | omega)⟩ dX12_two_35 (by decide) rfl (fun h_4 => ?_) (fun h_4 => ?_)
        · skip
          refine g_bipush cx (pc2 := 59) ⟨by decide, by decide⟩ dX12_two_57 rfl ?_
          exact g_iret cx qx dX12_two_59 ⟨_, rfl, by exact Or.inr (Or.inl ⟨hok3, by first | exact Or.inl (by assumption) | exact Or.inr (by assumption), rfl, rfl⟩)⟩
        · skip
          refine g_aload_n cx (pc2 := 39) 0 rfl dX12_two_38 rfl ?_
          refine g_aload_n cx (pc2 := 40) 0 rfl dX12_two_39 rfl ?_
          refine g_iload_n cx (pc2 := 41) 1 rfl dX12_two_40 rfl ?_
          refine g_iconst cx (pc2 := 42) dX12_two_41 rfl ?_
          refine g_callV cx (pc2 := 45) (st := [.ref 77]) (As := [.int (iI i), .int (iI 1)]) (k0 := 77) (ci := 12) (c_X12_needAt (M := M) hn i 1 (by first | assumption | omega) (by first | omega | exact hk8)) wM_X12_needAt wV_X12_needAt kl_X12_195 rfl (lt_lit hn (Nat.le_of_ble_eq_true rfl)) rfl ⟨rfl, rfl, Nat.le_of_ble_eq_true rfl, Nat.le_of_ble_eq_true rfl⟩ (Nat.le_of_ble_eq_true rfl) cs rfl rfl dX12_two_42 rfl ?_
          rintro _ _ ⟨rfl, rfl⟩
          refine g_aload_n cx (pc2 := 46) 0 rfl dX12_two_45 rfl ?_
          refine g_iload_n cx (pc2 := 47) 2 rfl dX12_two_46 rfl ?_
          refine g_iconst cx (pc2 := 48) dX12_two_47 rfl ?_
          refine g_callV cx (pc2 := 51) (st := [.int (iI (nA M i 1)), .ref 77]) (As := [.int (iI j), .int (iI 1)]) (k0 := 77) (ci := 12) (c_X12_needAt (M := M) hn j 1 (by first | assumption | omega) (by first | omega | exact hk8)) wM_X12_needAt wV_X12_needAt kl_X12_195 rfl (lt_lit hn (Nat.le_of_ble_eq_true rfl)) rfl ⟨rfl, rfl, Nat.le_of_ble_eq_true rfl, Nat.le_of_ble_eq_true rfl⟩ (Nat.le_of_ble_eq_true rfl) cs rfl rfl dX12_two_48 rfl ?_
          rintro _ _ ⟨rfl, rfl⟩
          refine g_callV cx (pc2 := 54) (st := []) (As := [.int (iI (nA M i 1)), .int (iI (nA M j 1))]) (k0 := 77) (ci := 12) (c_X12_carryOf (M := M) hn (by first | exact hTV | exact hVX | exact hV) (nA M i 1) (nA M j 1) (by first | omega | (have := nA_b hV (i := i) (by omega); omega)) (by first | omega | exact hk8)) wM_X12_carryOf wV_X12_carryOf kl_X12_204 rfl (lt_lit hn (Nat.le_of_ble_eq_true rfl)) rfl ⟨rfl, rfl, Nat.le_of_ble_eq_true rfl, Nat.le_of_ble_eq_true rfl⟩ (Nat.le_of_ble_eq_true rfl) cs rfl rfl dX12_two_51 rfl ?_
          rintro _ _ ⟨rfl, rfl⟩
          refine g_if_eq cx (pc2 := 57) (tgt := 60) (by first | assumption | omega) dX12_two_54 (by decide) rfl (fun h_5 => ?_) (fun h_5 => ?_)
          · skip
            obtain ⟨a, ha⟩ : ∃ a, a = min i j := ⟨_, rfl⟩
            obtain ⟨b, hb⟩ : ∃ b, b = max i j := ⟨_, rfl⟩
            have hmm : (0 ≤ a ∧ a ≤ M 77 12 - 1) ∧ (0 ≤ b ∧ b ≤ M 77 12 - 1) ∧ a < b := by omega
            have haa := nA_b hV (i := a) (by omega)
            have hbb := nA_b hV (i := b) (by omega)
            have hpa := p8 (i := a) (by omega)
            have hpb := p8 (i := b) (by omega)
            have hpa3 : (0 : Int) ≤ ((2 ^ a.toNat : Nat) : Int) := Int.natCast_nonneg _
            have hpb3 : (0 : Int) ≤ ((2 ^ b.toNat : Nat) : Int) := Int.natCast_nonneg _
            have hVX : RV (twX M a b) := twX_V hV h9 (by omega) (by omega)
            have hn1 := ndN_le (mKx M 1) (2 ^ b.toNat)
            have hUb : twU M a b ≤ 255 := by unfold twU; exact or255 (by omega) (by split <;> omega)
            have hcas : nA M i 4 = nA M j 4 ∧ wap (M 84 (nA M i 1).toNat) (M 84 (nA M j 1).toNat) = 0 := ⟨by assumption, by assumption⟩
            have hgo : ∀ (z : Int) (M2 : Mm), (∃ T, LX (twX M a b) (sP M) T ∧ z = (if twZ M T a b = -9 then -9 else wsB (jbR (twX M a b)) (M 77 12).toNat (twZ M T a b).toNat) ∧ ∀ x, x ≠ 91 → x ≠ 92 → x ≠ 95 → M2 x = M x) → xtwR M i j z M2 := fun z M2 h => by subst ha hb; exact Or.inr (Or.inr ⟨hok3, hcas, h⟩)
            have k1 := fun (x k : Int) (hx : 0 ≤ x) (hk : 0 ≤ k ∧ k < 6) => nA_t1 (M := M) (a := a) (b := b) hmm.1.1 hx hk
            have k2 := fun (x k : Int) (hx : 0 ≤ x) (hk : 0 ≤ k ∧ k < 6) => nA_t2 (M := M) (a := a) (b := b) hmm.1.1 hx hk
            have k3 := fun (x k : Int) (hx : 0 ≤ x) (hk : 0 ≤ k ∧ k < 6) => nA_t3 (M := M) (a := a) (b := b) hmm.1.1 hx hk
            refine g_iload_n cx (pc2 := 61) 1 rfl dX12_two_60 rfl ?_
            refine g_iload_n cx (pc2 := 62) 2 rfl dX12_two_61 rfl ?_
            refine g_callS cx (pc2 := 65) (st := []) (As := [.int (iI i), .int (iI j)]) (c_X12_lesser (M := M) hn i j (by first | assumption | omega) (by first | assumption | omega)) wM_X12_lesser wS_X12_lesser kl_X12_236 ⟨rfl, rfl, Nat.le_of_ble_eq_true rfl, Nat.le_of_ble_eq_true rfl⟩ (Nat.le_of_ble_eq_true rfl) cs rfl rfl dX12_two_62 rfl ?_
            rintro _ _ ⟨rfl, rfl⟩
            refine g_rwi (y := iI a) (congrArg iI ha.symm) ?_
            refine g_istore_n cx (pc2 := 66) (lv2 := [(0, .ref 77), (1, .int (iI i)), (2, .int (iI j)), (3, .int (iI a))]) rfl (Nat.le_of_ble_eq_true rfl) dX12_two_65 rfl ?_
            refine g_iload_n cx (pc2 := 67) 1 rfl dX12_two_66 rfl ?_
            refine g_iload_n cx (pc2 := 68) 2 rfl dX12_two_67 rfl ?_
            refine g_callS cx (pc2 := 71) (st := []) (As := [.int (iI i), .int (iI j)]) (c_X12_greater (M := M) hn i j (by first | assumption | omega) (by first | assumption | omega)) wM_X12_greater wS_X12_greater kl_X12_207 ⟨rfl, rfl, Nat.le_of_ble_eq_true rfl, Nat.le_of_ble_eq_true rfl⟩ (Nat.le_of_ble_eq_true rfl) cs rfl rfl dX12_two_68 rfl ?_
            rintro _ _ ⟨rfl, rfl⟩
            refine g_rwi (y := iI b) (congrArg iI hb.symm) ?_
            refine g_istore cx (pc2 := 73) (lv2 := [(0, .ref 77), (1, .int (iI i)), (2, .int (iI j)), (3, .int (iI a)), (4, .int (iI b))]) rfl (Nat.le_of_ble_eq_true rfl) dX12_two_71 rfl ?_
            clear ha hb
            refine g_aload_n cx (pc2 := 74) 0 rfl dX12_two_73 rfl ?_
            refine g_callV cx (pc2 := 77) (st := []) (As := []) (k0 := 77) (ci := 12) (c_X12_musts (M := M) hn (by first | exact hTV | exact hVX | exact hV)) wM_X12_musts wV_X12_musts kl_X12_249 rfl (lt_lit hn (Nat.le_of_ble_eq_true rfl)) rfl ⟨rfl, rfl, Nat.le_of_ble_eq_true rfl, Nat.le_of_ble_eq_true rfl⟩ (Nat.le_of_ble_eq_true rfl) cs rfl rfl dX12_two_74 rfl ?_
            rintro _ _ ⟨rfl, rfl⟩
            refine g_istore cx (pc2 := 79) (lv2 := [(0, .ref 77), (1, .int (iI i)), (2, .int (iI j)), (3, .int (iI a)), (4, .int (iI b)), (5, .int (iI ((mKx M 1 : Nat) : Int)))]) rfl (Nat.le_of_ble_eq_true rfl) dX12_two_77 rfl ?_
            have L101 : ∀ (mu : Int), ((mu = 1 ∧ muP M a b) ∨ (mu = 0 ∧ ¬ muP M a b)) → G X 101 [(0, .ref 77), (3, .int (iI a)), (4, .int (iI b)), (5, .int (iI ((mKx M 1 : Nat) : Int)))] [.int (iI mu)] M := by
              intro mu hmu
              have hmuE : mu = if muP M a b then 1 else 0 := by rcases hmu with q | q; (rw [if_pos q.2]; exact q.1); (rw [if_neg q.2]; exact q.1)
              refine g_istore cx (pc2 := 103) (lv2 := [(0, .ref 77), (3, .int (iI a)), (4, .int (iI b)), (5, .int (iI ((mKx M 1 : Nat) : Int))), (6, .int (iI mu))]) rfl (Nat.le_of_ble_eq_true rfl) dX12_two_101 rfl ?_
              refine g_iconst cx (pc2 := 104) dX12_two_103 rfl ?_
              refine g_istore cx (pc2 := 106) (lv2 := [(0, .ref 77), (3, .int (iI a)), (4, .int (iI b)), (5, .int (iI ((mKx M 1 : Nat) : Int))), (6, .int (iI mu)), (7, .int (iI 0))]) rfl (Nat.le_of_ble_eq_true rfl) dX12_two_104 rfl ?_
              have L106 : ∀ (fu : Nat) (k : Int), (0 ≤ k ∧ k ≤ 6) → (6 - k).toNat ≤ fu → G X 106 [(0, .ref 77), (3, .int (iI a)), (4, .int (iI b)), (5, .int (iI ((mKx M 1 : Nat) : Int))), (6, .int (iI mu)), (7, .int (iI k))] [] (ktP M a k) := by
                intro fu
                induction fu using Nat.strongRecOn with
                | _ fu ih106 =>
                  intro k hk hk106
                  have hk8 : 0 ≤ k ∧ (k ≤ 5 ∨ k = 6) := by omega
                  refine g_iload cx (pc2 := 108) 5 rfl dX12_two_106 rfl ?_
                  refine g_bipush cx (pc2 := 110) ⟨by decide, by decide⟩ dX12_two_108 rfl ?_
                  refine g_icmp_ge cx (pc2 := 113) (tgt := 133) ⟨(by first | assumption | omega), ⟨by decide, by decide⟩⟩ dX12_two_110 (by decide) rfl (fun h_6 => ?_) (fun h_6 => ?_)
                  · skip
                    have L151 : ∀ (v : Int), (v = mu) → G X 151 [(0, .ref 77), (3, .int (iI a)), (4, .int (iI b)), (5, .int (iI ((mKx M 1 : Nat) : Int))), (6, .int (iI mu))] [.int (iI v), .int (iI (6 * a)), .ref 85] (ktP M a 6) := by
                      intro v hv
                      refine g_iast cx (pc2 := 152) (k0 := 85) rfl (lt_lit hn (Nat.le_of_ble_eq_true rfl)) (by first | assumption | omega) (by first | assumption | omega) (Nat.le_of_ble_eq_true rfl) dX12_two_151 rfl ?_
                      refine g_M (M2 := (tw1 M a b)) (by rw [hv, hmuE]; rfl) ?_
                      refine g_aload_n cx (pc2 := 153) 0 rfl dX12_two_152 rfl ?_
                      refine g_get cx (pc2 := 156) (ci := 12) (k0 := 77) (j := 13) (v := .ref 85) rfl iwX12 rfl (lt_lit hn (Nat.le_of_ble_eq_true rfl)) rfl (Nat.le_of_ble_eq_true rfl) kf_X12_32 rfl rfl dX12_two_153 rfl ?_
                      refine g_bipush cx (pc2 := 158) ⟨by decide, by decide⟩ dX12_two_156 rfl ?_
                      refine g_iload_n cx (pc2 := 159) 1 rfl dX12_two_158 rfl ?_
                      refine g_imul cx (pc2 := 160) dX12_two_159 rfl ?_
                      refine g_iconst cx (pc2 := 161) dX12_two_160 rfl ?_
                      refine g_iadd cx (pc2 := 162) dX12_two_161 rfl ?_
                      refine g_aload_n cx (pc2 := 163) 0 rfl dX12_two_162 rfl ?_
                      refine g_iload_n cx (pc2 := 164) 1 rfl dX12_two_163 rfl ?_
                      refine g_iconst cx (pc2 := 165) dX12_two_164 rfl ?_
                      refine g_callV cx (pc2 := 168) (st := [.int (iI ((6 * a) + 2)), .ref 85]) (As := [.int (iI a), .int (iI 2)]) (k0 := 77) (ci := 12) (c_X12_needAt (M := (tw1 M a b)) hn a 2 (by first | assumption | omega) (by first | omega | exact hk8)) wM_X12_needAt wV_X12_needAt kl_X12_195 rfl (lt_lit hn (Nat.le_of_ble_eq_true rfl)) rfl ⟨rfl, rfl, Nat.le_of_ble_eq_true rfl, Nat.le_of_ble_eq_true rfl⟩ (Nat.le_of_ble_eq_true rfl) cs rfl rfl dX12_two_165 rfl ?_
                      rintro _ _ ⟨rfl, rfl⟩
                      refine g_rwi (y := iI (nA M a 2)) (congrArg iI (by rw [k1 _ _ (by omega) (by decide), if_neg (by omega)])) ?_
                      refine g_aload_n cx (pc2 := 169) 0 rfl dX12_two_168 rfl ?_
                      refine g_iload cx (pc2 := 171) 2 rfl dX12_two_169 rfl ?_
                      refine g_iconst cx (pc2 := 172) dX12_two_171 rfl ?_
                      refine g_callV cx (pc2 := 175) (st := [.int (iI (nA M a 2)), .int (iI ((6 * a) + 2)), .ref 85]) (As := [.int (iI b), .int (iI 2)]) (k0 := 77) (ci := 12) (c_X12_needAt (M := (tw1 M a b)) hn b 2 (by first | assumption | omega) (by first | omega | exact hk8)) wM_X12_needAt wV_X12_needAt kl_X12_195 rfl (lt_lit hn (Nat.le_of_ble_eq_true rfl)) rfl ⟨rfl, rfl, Nat.le_of_ble_eq_true rfl, Nat.le_of_ble_eq_true rfl⟩ (Nat.le_of_ble_eq_true rfl) cs rfl rfl dX12_two_172 rfl ?_
                      rintro _ _ ⟨rfl, rfl⟩
                      refine g_rwi (y := iI (nA M b 2)) (congrArg iI (by rw [k1 _ _ (by omega) (by decide), if_neg (by omega)])) ?_
                      refine g_callS cx (pc2 := 178) (st := [.int (iI ((6 * a) + 2)), .ref 85]) (As := [.int (iI (nA M a 2)), .int (iI (nA M b 2))]) (c_X12_greater (M := (tw1 M a b)) hn (nA M a 2) (nA M b 2) (by first | assumption | omega) (by first | assumption | omega)) wM_X12_greater wS_X12_greater kl_X12_207 ⟨rfl, rfl, Nat.le_of_ble_eq_true rfl, Nat.le_of_ble_eq_true rfl⟩ (Nat.le_of_ble_eq_true rfl) cs rfl rfl dX12_two_175 rfl ?_
                      rintro _ _ ⟨rfl, rfl⟩
                      refine g_iast cx (pc2 := 179) (k0 := 85) rfl (lt_lit hn (Nat.le_of_ble_eq_true rfl)) (by first | assumption | omega) (by first | assumption | omega) (Nat.le_of_ble_eq_true rfl) dX12_two_178 rfl ?_
                      refine g_M (M2 := (tw2 M a b)) (by rfl) ?_
                      refine g_aload_n cx (pc2 := 180) 0 rfl dX12_two_179 rfl ?_
                      refine g_get cx (pc2 := 183) (ci := 12) (k0 := 77) (j := 13) (v := .ref 85) rfl iwX12 rfl (lt_lit hn (Nat.le_of_ble_eq_true rfl)) rfl (Nat.le_of_ble_eq_true rfl) kf_X12_32 rfl rfl dX12_two_180 rfl ?_
                      refine g_bipush cx (pc2 := 185) ⟨by decide, by decide⟩ dX12_two_183 rfl ?_
                      refine g_iload_n cx (pc2 := 186) 1 rfl dX12_two_185 rfl ?_
                      refine g_imul cx (pc2 := 187) dX12_two_186 rfl ?_
                      refine g_iconst cx (pc2 := 188) dX12_two_187 rfl ?_
                      refine g_iadd cx (pc2 := 189) dX12_two_188 rfl ?_
                      refine g_aload_n cx (pc2 := 190) 0 rfl dX12_two_189 rfl ?_
                      refine g_iload_n cx (pc2 := 191) 1 rfl dX12_two_190 rfl ?_
                      refine g_iconst cx (pc2 := 192) dX12_two_191 rfl ?_
                      refine g_callV cx (pc2 := 195) (st := [.int (iI ((6 * a) + 3)), .ref 85]) (As := [.int (iI a), .int (iI 3)]) (k0 := 77) (ci := 12) (c_X12_needAt (M := (tw2 M a b)) hn a 3 (by first | assumption | omega) (by first | omega | exact hk8)) wM_X12_needAt wV_X12_needAt kl_X12_195 rfl (lt_lit hn (Nat.le_of_ble_eq_true rfl)) rfl ⟨rfl, rfl, Nat.le_of_ble_eq_true rfl, Nat.le_of_ble_eq_true rfl⟩ (Nat.le_of_ble_eq_true rfl) cs rfl rfl dX12_two_192 rfl ?_
                      rintro _ _ ⟨rfl, rfl⟩
                      refine g_rwi (y := iI (nA M a 3)) (congrArg iI (by rw [k2 _ _ (by omega) (by decide), if_neg (by omega), k1 _ _ (by omega) (by decide), if_neg (by omega)])) ?_
                      refine g_aload_n cx (pc2 := 196) 0 rfl dX12_two_195 rfl ?_
                      refine g_iload cx (pc2 := 198) 2 rfl dX12_two_196 rfl ?_
                      refine g_iconst cx (pc2 := 199) dX12_two_198 rfl ?_
                      refine g_callV cx (pc2 := 202) (st := [.int (iI (nA M a 3)), .int (iI ((6 * a) + 3)), .ref 85]) (As := [.int (iI b), .int (iI 3)]) (k0 := 77) (ci := 12) (c_X12_needAt (M := (tw2 M a b)) hn b 3 (by first | assumption | omega) (by first | omega | exact hk8)) wM_X12_needAt wV_X12_needAt kl_X12_195 rfl (lt_lit hn (Nat.le_of_ble_eq_true rfl)) rfl ⟨rfl, rfl, Nat.le_of_ble_eq_true rfl, Nat.le_of_ble_eq_true rfl⟩ (Nat.le_of_ble_eq_true rfl) cs rfl rfl dX12_two_199 rfl ?_
                      rintro _ _ ⟨rfl, rfl⟩
                      refine g_rwi (y := iI (nA M b 3)) (congrArg iI (by rw [k2 _ _ (by omega) (by decide), if_neg (by omega), k1 _ _ (by omega) (by decide), if_neg (by omega)])) ?_
                      refine g_callS cx (pc2 := 205) (st := [.int (iI ((6 * a) + 3)), .ref 85]) (As := [.int (iI (nA M a 3)), .int (iI (nA M b 3))]) (c_X12_lesser (M := (tw2 M a b)) hn (nA M a 3) (nA M b 3) (by first | assumption | omega) (by first | assumption | omega)) wM_X12_lesser wS_X12_lesser kl_X12_236 ⟨rfl, rfl, Nat.le_of_ble_eq_true rfl, Nat.le_of_ble_eq_true rfl⟩ (Nat.le_of_ble_eq_true rfl) cs rfl rfl dX12_two_202 rfl ?_
                      rintro _ _ ⟨rfl, rfl⟩
                      refine g_iast cx (pc2 := 206) (k0 := 85) rfl (lt_lit hn (Nat.le_of_ble_eq_true rfl)) (by first | assumption | omega) (by first | assumption | omega) (Nat.le_of_ble_eq_true rfl) dX12_two_205 rfl ?_
                      refine g_M (M2 := (tw3 M a b)) (by rfl) ?_
                      refine g_aload_n cx (pc2 := 207) 0 rfl dX12_two_206 rfl ?_
                      refine g_get cx (pc2 := 210) (ci := 12) (k0 := 77) (j := 13) (v := .ref 85) rfl iwX12 rfl (lt_lit hn (Nat.le_of_ble_eq_true rfl)) rfl (Nat.le_of_ble_eq_true rfl) kf_X12_32 rfl rfl dX12_two_207 rfl ?_
                      refine g_bipush cx (pc2 := 212) ⟨by decide, by decide⟩ dX12_two_210 rfl ?_
                      refine g_iload_n cx (pc2 := 213) 1 rfl dX12_two_212 rfl ?_
                      refine g_imul cx (pc2 := 214) dX12_two_213 rfl ?_
                      refine g_iconst cx (pc2 := 215) dX12_two_214 rfl ?_
                      refine g_iadd cx (pc2 := 216) dX12_two_215 rfl ?_
                      refine g_dup2 cx (pc2 := 217) rfl rfl dX12_two_216 rfl ?_
                      refine g_iald cx (pc2 := 218) (k0 := 85) rfl (lt_lit hn (Nat.le_of_ble_eq_true rfl)) (by first | assumption | omega) (by first | assumption | omega) (Nat.le_of_ble_eq_true rfl) dX12_two_217 rfl ?_
                      refine g_rwi (y := iI ((tw3 M a b) 85 (((6 * a) + 5).toNat))) (congrArg iI (by simp [stM])) ?_
                      refine g_rwi (y := iI (nA M a 5)) (congrArg iI (by show nA (tw3 M a b) a 5 = _; rw [k3 _ _ (by omega) (by decide), if_neg (by omega), k2 _ _ (by omega) (by decide), if_neg (by omega), k1 _ _ (by omega) (by decide), if_neg (by omega)])) ?_
                      refine g_aload_n cx (pc2 := 219) 0 rfl dX12_two_218 rfl ?_
                      refine g_iload cx (pc2 := 221) 2 rfl dX12_two_219 rfl ?_
                      refine g_iconst cx (pc2 := 222) dX12_two_221 rfl ?_
                      refine g_callV cx (pc2 := 225) (st := [.int (iI (nA M a 5)), .int (iI ((6 * a) + 5)), .ref 85]) (As := [.int (iI b), .int (iI 5)]) (k0 := 77) (ci := 12) (c_X12_needAt (M := (tw3 M a b)) hn b 5 (by first | assumption | omega) (by first | omega | exact hk8)) wM_X12_needAt wV_X12_needAt kl_X12_195 rfl (lt_lit hn (Nat.le_of_ble_eq_true rfl)) rfl ⟨rfl, rfl, Nat.le_of_ble_eq_true rfl, Nat.le_of_ble_eq_true rfl⟩ (Nat.le_of_ble_eq_true rfl) cs rfl rfl dX12_two_222 rfl ?_
                      rintro _ _ ⟨rfl, rfl⟩
                      refine g_rwi (y := iI (nA M b 5)) (congrArg iI (by rw [k3 _ _ (by omega) (by decide), if_neg (by omega), k2 _ _ (by omega) (by decide), if_neg (by omega), k1 _ _ (by omega) (by decide), if_neg (by omega)])) ?_
                      refine g_iadd cx (pc2 := 226) dX12_two_225 rfl ?_
                      refine g_iast cx (pc2 := 227) (k0 := 85) rfl (lt_lit hn (Nat.le_of_ble_eq_true rfl)) (by first | assumption | omega) (by first | assumption | omega) (Nat.le_of_ble_eq_true rfl) dX12_two_226 rfl ?_
                      refine g_M (M2 := (twX M a b)) (by rfl) ?_
                      refine g_aload_n cx (pc2 := 228) 0 rfl dX12_two_227 rfl ?_
                      refine g_aload_n cx (pc2 := 229) 0 rfl dX12_two_228 rfl ?_
                      refine g_get cx (pc2 := 232) (ci := 12) (k0 := 77) (j := 15) (v := .int (iI ((twX M a b) 77 15))) rfl iwX12 rfl (lt_lit hn (Nat.le_of_ble_eq_true rfl)) rfl (Nat.le_of_ble_eq_true rfl) kf_X12_171 rfl rfl dX12_two_229 rfl ?_
                      refine g_rwi (y := iI (M 77 15)) (rfl) ?_
                      refine g_callV cx (pc2 := 235) (st := []) (As := [.int (iI (M 77 15))]) (k0 := 77) (ci := 12) (c_X12_layEnds (M := (twX M a b)) hn (by first | exact hTV | exact hVX | exact hV) (M 77 15) (by first | omega | (have := nA_b hV (i := i) (by omega); omega))) wM_X12_layEnds wV_X12_layEnds kl_X12_242 rfl (lt_lit hn (Nat.le_of_ble_eq_true rfl)) rfl ⟨rfl, rfl, Nat.le_of_ble_eq_true rfl, Nat.le_of_ble_eq_true rfl⟩ (Nat.le_of_ble_eq_true rfl) cs rfl rfl dX12_two_232 rfl ?_
                      rintro _ M_7 ⟨rfl, h_7⟩
                      have hX := h_7
                      have eS : twX M a b 84 (M 77 15).toNat = sP M := by rw [twX_off _ _ _ (by decide) (by decide)]; rfl
                      rw [eS] at hX
                      have hTV := hX.V hVX
                      have hTe := hX.e
                      have hTj := hX.j
                      obtain ⟨T, hT⟩ : ∃ T, T = M_7 := ⟨_, rfl⟩
                      rw [← hT] at hX hTV hTe hTj
                      have e12 : T 77 12 = M 77 12 := by rw [hTe, twX_off _ _ _ (by decide) (by decide)]
                      have x12 : twX M a b 77 12 = M 77 12 := by rw [twX_off _ _ _ (by decide) (by decide)]
                      have hTE : ∀ t : Nat, t ≤ allN (T 77 12) → exV (T 92 t) := fun t ht => (hX.2 t (by rw [x12, ← e12]; exact ht)).2
                      have eBo : ∀ u v, boX T T u v = boX (twX M a b) T u v := fun u v => by unfold boX; rw [hTj, hTe]
                      have hbv := boF_v (jbR (twX M a b)) (twX M a b 77 12).toNat (T 92) (twU M a b) (2 ^ b.toNat) (allN (twX M a b 77 12) + 1)
                      have hbz : twZ M T a b = -9 ∨ (0 ≤ twZ M T a b ∧ twZ M T a b ≤ 255) := by unfold twZ boX; rw [x12] at hbv ⊢; omega
                      have hT95 : ∀ k : Int, 0 ≤ k ∧ k < 6 → T 95 k.toNat = M 85 (6 * a + k).toNat := fun k hk => by rw [hX.1 95 (by decide) (by decide)]; unfold twX tw3 tw2 tw1; rw [stM_off (by decide), stM_off (by decide), stM_off (by decide), stM_off (by decide)]; unfold ktP; rw [if_pos ⟨rfl, by omega⟩]; unfold nA; rw [Int.toNat_of_nonneg hk.1]
                      refine g_M (M2 := T) (by exact hT.symm) ?_
                      refine g_aload_n cx (pc2 := 236) 0 rfl dX12_two_235 rfl ?_
                      refine g_iload cx (pc2 := 238) 3 rfl dX12_two_236 rfl ?_
                      refine g_iconst cx (pc2 := 239) dX12_two_238 rfl ?_
                      refine g_iload cx (pc2 := 241) 2 rfl dX12_two_239 rfl ?_
                      refine g_ishl cx (pc2 := 242) dX12_two_241 rfl ?_
                      refine g_rwi (y := iI ((2 ^ b.toNat : Nat) : Int)) (sh1 (by omega) (by omega)) ?_
                      refine g_iconst cx (pc2 := 243) dX12_two_242 rfl ?_
                      refine g_ixor cx (pc2 := 244) dX12_two_243 rfl ?_
                      refine g_iand cx (pc2 := 245) dX12_two_244 rfl ?_
                      refine g_rwi (y := iI ((ndN (mKx M 1) (2 ^ b.toNat) : Nat) : Int)) (nd_iI (by omega) (by omega)) ?_
                      have L257 : ∀ (v : Int), (v = ((if muP M a b then 2 ^ a.toNat else 0 : Nat) : Int)) → G X 257 [(0, .ref 77), (3, .int (iI a)), (4, .int (iI b)), (6, .int (iI mu))] [.int (iI v), .int (iI ((ndN (mKx M 1) (2 ^ b.toNat) : Nat) : Int)), .ref 77] T := by
                        intro v hv
                        refine g_ior cx (pc2 := 258) dX12_two_257 rfl ?_
                        refine g_rwi (y := iI ((twU M a b : Nat) : Int)) (by rw [hv]; exact or_iI (by omega) (Int.natCast_nonneg _)) ?_
                        refine g_iconst cx (pc2 := 259) dX12_two_258 rfl ?_
                        refine g_iload cx (pc2 := 261) 2 rfl dX12_two_259 rfl ?_
                        refine g_ishl cx (pc2 := 262) dX12_two_261 rfl ?_
                        refine g_rwi (y := iI ((2 ^ b.toNat : Nat) : Int)) (sh1 (by omega) (by omega)) ?_
                        refine g_callV cx (pc2 := 265) (st := []) (As := [.int (iI ((twU M a b : Nat) : Int)), .int (iI ((2 ^ b.toNat : Nat) : Int))]) (k0 := 77) (ci := 12) (c_X12_bestOf (M := T) hn (by first | exact hTV | exact hVX | exact hV) (by exact hTE) ((twU M a b : Nat) : Int) ((2 ^ b.toNat : Nat) : Int) (by first | assumption | omega) (by first | assumption | omega)) wM_X12_bestOf wV_X12_bestOf kl_X12_252 rfl (lt_lit hn (Nat.le_of_ble_eq_true rfl)) rfl ⟨rfl, rfl, Nat.le_of_ble_eq_true rfl, Nat.le_of_ble_eq_true rfl⟩ (Nat.le_of_ble_eq_true rfl) cs rfl rfl dX12_two_262 rfl ?_
                        rintro _ _ ⟨rfl, rfl⟩
                        refine g_rwi (y := iI (twZ M T a b)) (congrArg iI (eBo _ _)) ?_
                        refine g_istore cx (pc2 := 267) (lv2 := [(0, .ref 77), (3, .int (iI a)), (4, .int (iI b)), (6, .int (iI mu)), (7, .int (iI (twZ M T a b)))]) rfl (Nat.le_of_ble_eq_true rfl) dX12_two_265 rfl ?_
                        have L285 : ∀ (w : Int), (w = if twZ M T a b = -9 then -9 else wsB (jbR (twX M a b)) (M 77 12).toNat (twZ M T a b).toNat) → G X 285 [(0, .ref 77), (3, .int (iI a))] [.int (iI w)] T := by
                          intro w hw
                          refine g_istore cx (pc2 := 287) (lv2 := [(0, .ref 77), (3, .int (iI a)), (8, .int (iI w))]) rfl (Nat.le_of_ble_eq_true rfl) dX12_two_285 rfl ?_
                          refine g_iconst cx (pc2 := 288) dX12_two_287 rfl ?_
                          refine g_istore cx (pc2 := 290) (lv2 := [(0, .ref 77), (3, .int (iI a)), (8, .int (iI w)), (9, .int (iI 0))]) rfl (Nat.le_of_ble_eq_true rfl) dX12_two_288 rfl ?_
                          have L290 : ∀ (fu : Nat) (k : Int), (0 ≤ k ∧ k ≤ 6) → (6 - k).toNat ≤ fu → G X 290 [(0, .ref 77), (3, .int (iI a)), (8, .int (iI w)), (9, .int (iI k))] [] (rsT M T a k) := by
                            intro fu
                            induction fu using Nat.strongRecOn with
                            | _ fu ih290 =>
                              intro k hk hk290
                              refine g_iload cx (pc2 := 292) 3 rfl dX12_two_290 rfl ?_
                              refine g_bipush cx (pc2 := 294) ⟨by decide, by decide⟩ dX12_two_292 rfl ?_
                              refine g_icmp_ge cx (pc2 := 297) (tgt := 322) ⟨(by first | assumption | omega), ⟨by decide, by decide⟩⟩ dX12_two_294 (by decide) rfl (fun h_8 => ?_) (fun h_8 => ?_)
                              · skip
                                refine g_iload cx (pc2 := 324) 2 rfl dX12_two_322 rfl ?_
                                exact g_iret cx qx dX12_two_324 ⟨_, rfl, by refine hgo _ _ ⟨T, hX, hw, fun x h1 h2 h3 => ?_⟩; rw [show k = 6 by omega]; by_cases q : x = 85; (subst q; funext c; unfold rsT; by_cases q2 : 6 * a ≤ (c : Int) ∧ (c : Int) < 6 * a + 6; (rw [if_pos ⟨rfl, q2⟩]); (rw [if_neg (fun z => q2 z.2), hX.1 85 (by decide) (by decide)]; exact twX_85 (by omega) q2)); (rw [rsT_off _ _ _ _ q, hX.1 x h1 h2, twX_off _ _ _ q h3])⟩
                              · skip
                                refine g_aload_n cx (pc2 := 298) 0 rfl dX12_two_297 rfl ?_
                                refine g_get cx (pc2 := 301) (ci := 12) (k0 := 77) (j := 13) (v := .ref 85) rfl iwX12 rfl (lt_lit hn (Nat.le_of_ble_eq_true rfl)) rfl (Nat.le_of_ble_eq_true rfl) kf_X12_32 rfl rfl dX12_two_298 rfl ?_
                                refine g_bipush cx (pc2 := 303) ⟨by decide, by decide⟩ dX12_two_301 rfl ?_
                                refine g_iload_n cx (pc2 := 304) 1 rfl dX12_two_303 rfl ?_
                                refine g_imul cx (pc2 := 305) dX12_two_304 rfl ?_
                                refine g_iload cx (pc2 := 307) 3 rfl dX12_two_305 rfl ?_
                                refine g_iadd cx (pc2 := 308) dX12_two_307 rfl ?_
                                refine g_aload_n cx (pc2 := 309) 0 rfl dX12_two_308 rfl ?_
                                refine g_get cx (pc2 := 312) (ci := 12) (k0 := 77) (j := 31) (v := .ref 95) rfl iwX12 rfl (lt_lit hn (Nat.le_of_ble_eq_true rfl)) rfl (Nat.le_of_ble_eq_true rfl) kf_X12_62 rfl rfl dX12_two_309 rfl ?_
                                refine g_iload cx (pc2 := 314) 3 rfl dX12_two_312 rfl ?_
                                refine g_iald cx (pc2 := 315) (k0 := 95) rfl (lt_lit hn (Nat.le_of_ble_eq_true rfl)) (by first | assumption | omega) (by first | assumption | omega) (Nat.le_of_ble_eq_true rfl) dX12_two_314 rfl ?_
                                refine g_rwi (y := iI ((rsT M T a k) 95 ((k).toNat))) (congrArg iI (by simp [stM])) ?_
                                refine g_rwi (y := iI (M 85 (6 * a + k).toNat)) (congrArg iI (by rw [rsT_off _ _ _ _ (by decide), hT95 k (by omega)])) ?_
                                refine g_iast cx (pc2 := 316) (k0 := 85) rfl (lt_lit hn (Nat.le_of_ble_eq_true rfl)) (by first | assumption | omega) (by first | assumption | omega) (Nat.le_of_ble_eq_true rfl) dX12_two_315 rfl ?_
                                refine g_iinc cx (pc2 := 319) 3 rfl (lv2 := [(0, .ref 77), (3, .int (iI a)), (8, .int (iI w)), (9, .int (iI (k + 1)))]) rfl (Nat.le_of_ble_eq_true rfl) dX12_two_316 rfl ?_
                                refine g_goto cx (tgt := 290) dX12_two_319 (by decide) ?_
                                refine g_M (M2 := (rsT M T a (k + 1))) (by exact rsT_s (by omega) hk.1) ?_
                                exact ih290 ((6 - (k + 1)).toNat) (by omega) (k + 1) (by first | assumption | omega) (Nat.le_refl _)
                          refine g_M (M2 := (rsT M T a 0)) (by exact rsT_0 M T _) ?_
                          exact L290 _ 0 (by first | assumption | omega) (Nat.le_refl _)
                        refine g_iload cx (pc2 := 269) 4 rfl dX12_two_267 rfl ?_
                        refine g_bipush cx (pc2 := 271) ⟨by decide, by decide⟩ dX12_two_269 rfl ?_
                        refine g_icmp_ne cx (pc2 := 274) (tgt := 279) ⟨(by first | assumption | omega), ⟨by decide, by decide⟩⟩ dX12_two_271 (by decide) rfl (fun h_9 => ?_) (fun h_9 => ?_)
                        · skip
                          refine g_aload_n cx (pc2 := 280) 0 rfl dX12_two_279 rfl ?_
                          refine g_iload cx (pc2 := 282) 4 rfl dX12_two_280 rfl ?_
                          refine g_callV cx (pc2 := 285) (st := []) (As := [.int (iI (twZ M T a b))]) (k0 := 77) (ci := 12) (c_X12_worthOf (M := T) hn (by first | exact hTV | exact hVX | exact hV) (twZ M T a b) (by first | assumption | omega)) wM_X12_worthOf wV_X12_worthOf kl_X12_246 rfl (lt_lit hn (Nat.le_of_ble_eq_true rfl)) rfl ⟨rfl, rfl, Nat.le_of_ble_eq_true rfl, Nat.le_of_ble_eq_true rfl⟩ (Nat.le_of_ble_eq_true rfl) cs rfl rfl dX12_two_282 rfl ?_
                          rintro _ _ ⟨rfl, rfl⟩
                          refine g_rwi (y := iI (wsB (jbR (twX M a b)) (M 77 12).toNat (twZ M T a b).toNat)) (congrArg iI (by rw [hTj, e12])) ?_
                          refine g_sub (lv2 := [(0, .ref 77), (3, .int (iI a))]) [0, 1] rfl ?_
                          exact L285 (wsB (jbR (twX M a b)) (M 77 12).toNat (twZ M T a b).toNat) (by first | (rw [if_pos (by assumption)]; done) | (rw [if_neg (by assumption)]; done))
                        · skip
                          refine g_bipush cx (pc2 := 276) ⟨by decide, by decide⟩ dX12_two_274 rfl ?_
                          refine g_goto cx (tgt := 285) dX12_two_276 (by decide) ?_
                          refine g_sub (lv2 := [(0, .ref 77), (3, .int (iI a))]) [0, 1] rfl ?_
                          exact L285 (-9) (by first | (rw [if_pos (by assumption)]; done) | (rw [if_neg (by assumption)]; done))
                      refine g_iload cx (pc2 := 247) 4 rfl dX12_two_245 rfl ?_
                      refine g_if_eq cx (pc2 := 250) (tgt := 256) (by first | assumption | omega) dX12_two_247 (by decide) rfl (fun h_10 => ?_) (fun h_10 => ?_)
                      · skip
                        refine g_iconst cx (pc2 := 257) dX12_two_256 rfl ?_
                        refine g_sub (lv2 := [(0, .ref 77), (3, .int (iI a)), (4, .int (iI b)), (6, .int (iI mu))]) [0, 1, 2, 4] rfl ?_
                        exact L257 0 (by rcases hmu with q | q <;> first | (exfalso; omega) | (rw [if_pos q.2]; done) | (rw [if_pos q.2]; rfl) | (rw [if_neg q.2]; done) | (rw [if_neg q.2]; rfl))
                      · skip
                        refine g_iconst cx (pc2 := 251) dX12_two_250 rfl ?_
                        refine g_iload_n cx (pc2 := 252) 1 rfl dX12_two_251 rfl ?_
                        refine g_ishl cx (pc2 := 253) dX12_two_252 rfl ?_
                        refine g_rwi (y := iI ((2 ^ a.toNat : Nat) : Int)) (sh1 (by omega) (by omega)) ?_
                        refine g_goto cx (tgt := 257) dX12_two_253 (by decide) ?_
                        refine g_sub (lv2 := [(0, .ref 77), (3, .int (iI a)), (4, .int (iI b)), (6, .int (iI mu))]) [0, 1, 2, 4] rfl ?_
                        exact L257 ((2 ^ a.toNat : Nat) : Int) (by rcases hmu with q | q <;> first | (exfalso; omega) | (rw [if_pos q.2]; done) | (rw [if_pos q.2]; rfl) | (rw [if_neg q.2]; done) | (rw [if_neg q.2]; rfl))
                    refine g_M (M2 := (ktP M a 6)) (by rw [show k = 6 by omega]) ?_
                    refine g_aload_n cx (pc2 := 134) 0 rfl dX12_two_133 rfl ?_
                    refine g_get cx (pc2 := 137) (ci := 12) (k0 := 77) (j := 13) (v := .ref 85) rfl iwX12 rfl (lt_lit hn (Nat.le_of_ble_eq_true rfl)) rfl (Nat.le_of_ble_eq_true rfl) kf_X12_32 rfl rfl dX12_two_134 rfl ?_
                    refine g_bipush cx (pc2 := 139) ⟨by decide, by decide⟩ dX12_two_137 rfl ?_
                    refine g_iload_n cx (pc2 := 140) 1 rfl dX12_two_139 rfl ?_
                    refine g_imul cx (pc2 := 141) dX12_two_140 rfl ?_
                    refine g_iload cx (pc2 := 143) 4 rfl dX12_two_141 rfl ?_
                    refine g_if_eq cx (pc2 := 146) (tgt := 150) (by first | assumption | omega) dX12_two_143 (by decide) rfl (fun h_11 => ?_) (fun h_11 => ?_)
                    · skip
                      refine g_iconst cx (pc2 := 151) dX12_two_150 rfl ?_
                      refine g_sub (lv2 := [(0, .ref 77), (3, .int (iI a)), (4, .int (iI b)), (5, .int (iI ((mKx M 1 : Nat) : Int))), (6, .int (iI mu))]) [0, 1, 2, 3, 4] rfl ?_
                      exact L151 0 (by omega)
                    · skip
                      refine g_iconst cx (pc2 := 147) dX12_two_146 rfl ?_
                      refine g_goto cx (tgt := 151) dX12_two_147 (by decide) ?_
                      refine g_sub (lv2 := [(0, .ref 77), (3, .int (iI a)), (4, .int (iI b)), (5, .int (iI ((mKx M 1 : Nat) : Int))), (6, .int (iI mu))]) [0, 1, 2, 3, 4] rfl ?_
                      exact L151 1 (by omega)
                  · skip
                    refine g_aload_n cx (pc2 := 114) 0 rfl dX12_two_113 rfl ?_
                    refine g_get cx (pc2 := 117) (ci := 12) (k0 := 77) (j := 31) (v := .ref 95) rfl iwX12 rfl (lt_lit hn (Nat.le_of_ble_eq_true rfl)) rfl (Nat.le_of_ble_eq_true rfl) kf_X12_62 rfl rfl dX12_two_114 rfl ?_
                    refine g_iload cx (pc2 := 119) 5 rfl dX12_two_117 rfl ?_
                    refine g_aload_n cx (pc2 := 120) 0 rfl dX12_two_119 rfl ?_
                    refine g_iload_n cx (pc2 := 121) 1 rfl dX12_two_120 rfl ?_
                    refine g_iload cx (pc2 := 123) 5 rfl dX12_two_121 rfl ?_
                    refine g_callV cx (pc2 := 126) (st := [.int (iI k), .ref 95]) (As := [.int (iI a), .int (iI k)]) (k0 := 77) (ci := 12) (c_X12_needAt (M := (ktP M a k)) hn a k (by first | assumption | omega) (by first | omega | exact hk8)) wM_X12_needAt wV_X12_needAt kl_X12_195 rfl (lt_lit hn (Nat.le_of_ble_eq_true rfl)) rfl ⟨rfl, rfl, Nat.le_of_ble_eq_true rfl, Nat.le_of_ble_eq_true rfl⟩ (Nat.le_of_ble_eq_true rfl) cs rfl rfl dX12_two_123 rfl ?_
                    rintro _ _ ⟨rfl, rfl⟩
                    refine g_rwi (y := iI (nA M a k)) (congrArg iI (nA_off (ktP_off _ _ _ (by decide)) _ _)) ?_
                    refine g_iast cx (pc2 := 127) (k0 := 95) rfl (lt_lit hn (Nat.le_of_ble_eq_true rfl)) (by first | assumption | omega) (by first | assumption | omega) (Nat.le_of_ble_eq_true rfl) dX12_two_126 rfl ?_
                    refine g_iinc cx (pc2 := 130) 5 rfl (lv2 := [(0, .ref 77), (3, .int (iI a)), (4, .int (iI b)), (5, .int (iI ((mKx M 1 : Nat) : Int))), (6, .int (iI mu)), (7, .int (iI (k + 1)))]) rfl (Nat.le_of_ble_eq_true rfl) dX12_two_127 rfl ?_
                    refine g_goto cx (tgt := 106) dX12_two_130 (by decide) ?_
                    refine g_M (M2 := (ktP M a (k + 1))) (by exact ktP_s hk.1) ?_
                    exact ih106 ((6 - (k + 1)).toNat) (by omega) (k + 1) (by first | assumption | omega) (Nat.le_refl _)
              refine g_M (M2 := (ktP M a 0)) (by exact ktP_0 M _) ?_
              exact L106 _ 0 (by first | assumption | omega) (Nat.le_refl _)
            refine g_aload_n cx (pc2 := 80) 0 rfl dX12_two_79 rfl ?_
            refine g_iload_n cx (pc2 := 81) 3 rfl dX12_two_80 rfl ?_
            refine g_callV cx (pc2 := 84) (st := []) (As := [.int (iI a)]) (k0 := 77) (ci := 12) (c_X12_isMust (M := M) hn (by first | exact hTV | exact hVX | exact hV) a (by first | assumption | omega)) wM_X12_isMust wV_X12_isMust kl_X12_198 rfl (lt_lit hn (Nat.le_of_ble_eq_true rfl)) rfl ⟨rfl, rfl, Nat.le_of_ble_eq_true rfl, Nat.le_of_ble_eq_true rfl⟩ (Nat.le_of_ble_eq_true rfl) cs rfl rfl dX12_two_81 rfl ?_
            rintro _ _ ⟨rfl, rfl⟩
            refine g_ifb_ne cx (pc2 := 87) (tgt := 96) dX12_two_84 (by decide) rfl (fun h_12 => ?_) (fun h_12 => ?_)
            · skip
              refine g_iconst cx (pc2 := 97) dX12_two_96 rfl ?_
              refine g_goto cx (tgt := 101) dX12_two_97 (by decide) ?_
              refine g_sub (lv2 := [(0, .ref 77), (3, .int (iI a)), (4, .int (iI b)), (5, .int (iI ((mKx M 1 : Nat) : Int)))]) [0, 3, 4, 5] rfl ?_
              exact L101 1 (by first | exact Or.inl ⟨rfl, muP_iff.mpr (Or.inl (by assumption))⟩ | exact Or.inl ⟨rfl, muP_iff.mpr (Or.inr (by assumption))⟩ | exact Or.inr ⟨rfl, fun q => (muP_iff.mp q).elim (fun w => absurd w (by assumption)) (fun w => absurd w (by assumption))⟩)
            · skip
              refine g_aload_n cx (pc2 := 88) 0 rfl dX12_two_87 rfl ?_
              refine g_iload cx (pc2 := 90) 4 rfl dX12_two_88 rfl ?_
              refine g_callV cx (pc2 := 93) (st := []) (As := [.int (iI b)]) (k0 := 77) (ci := 12) (c_X12_isMust (M := M) hn (by first | exact hTV | exact hVX | exact hV) b (by first | assumption | omega)) wM_X12_isMust wV_X12_isMust kl_X12_198 rfl (lt_lit hn (Nat.le_of_ble_eq_true rfl)) rfl ⟨rfl, rfl, Nat.le_of_ble_eq_true rfl, Nat.le_of_ble_eq_true rfl⟩ (Nat.le_of_ble_eq_true rfl) cs rfl rfl dX12_two_90 rfl ?_
              rintro _ _ ⟨rfl, rfl⟩
              refine g_ifb_eq cx (pc2 := 96) (tgt := 100) dX12_two_93 (by decide) rfl (fun h_13 => ?_) (fun h_13 => ?_)
              · skip
                refine g_iconst cx (pc2 := 101) dX12_two_100 rfl ?_
                refine g_sub (lv2 := [(0, .ref 77), (3, .int (iI a)), (4, .int (iI b)), (5, .int (iI ((mKx M 1 : Nat) : Int)))]) [0, 3, 4, 5] rfl ?_
                exact L101 0 (by first | exact Or.inl ⟨rfl, muP_iff.mpr (Or.inl (by assumption))⟩ | exact Or.inl ⟨rfl, muP_iff.mpr (Or.inr (by assumption))⟩ | exact Or.inr ⟨rfl, fun q => (muP_iff.mp q).elim (fun w => absurd w (by assumption)) (fun w => absurd w (by assumption))⟩)
              · skip
                refine g_iconst cx (pc2 := 97) dX12_two_96 rfl ?_
                refine g_goto cx (tgt := 101) dX12_two_97 (by decide) ?_
                refine g_sub (lv2 := [(0, .ref 77), (3, .int (iI a)), (4, .int (iI b)), (5, .int (iI ((mKx M 1 : Nat) : Int)))]) [0, 3, 4, 5] rfl ?_
                exact L101 1 (by first | exact Or.inl ⟨rfl, muP_iff.mpr (Or.inl (by assumption))⟩ | exact Or.inl ⟨rfl, muP_iff.mpr (Or.inr (by assumption))⟩ | exact Or.inr ⟨rfl, fun q => (muP_iff.mp q).elim (fun w => absurd w (by assumption)) (fun w => absurd w (by assumption))⟩)
          · skip
            refine g_bipush cx (pc2 := 59) ⟨by decide, by decide⟩ dX12_two_57 rfl ?_
            exact g_iret cx qx dX12_two_59 ⟨_, rfl, by exact Or.inr (Or.inl ⟨hok3, by first | exact Or.inl (by assumption) | exact Or.inr (by assumption), rfl, rfl⟩)⟩
      · skip
        refine g_iconst cx (pc2 := 22) dX12_two_21 rfl ?_
        exact g_iret cx qx dX12_two_22 ⟨_, rfl, by exact Or.inl ⟨by omega, rfl, rfl⟩⟩
