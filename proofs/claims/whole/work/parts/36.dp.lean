/-- the least ends, set after set -/
def lsX (J : Nat → Nat → Int) (p : Int) (F : Nat → Int) (r i : Nat) : Nat → Int
  | 0 => if r = 0 then exB J i p 0 else 1000
  | k + 1 => if r.testBit k = true ∧ F (8 * r + k) < 1000 then min (lsX J p F r i k) (exB J i (J k 0) (F (8 * r + k))) else lsX J p F r i k
def flX (J : Nat → Nat → Int) (p : Int) (F : Nat → Int) (n s i : Nat) : Int := if s.testBit i = true then lsX J p F (ndN s (2 ^ i)) i n else 1000
def elX (F : Nat → Int) (s : Nat) : Nat → Int
  | 0 => if s = 0 then 0 else 1000
  | i + 1 => if s.testBit i = true then min (elX F s i) (F (8 * s + i)) else elX F s i
def LQ (J : Nat → Nat → Int) (p : Int) (n : Nat) (F E : Nat → Int) (s : Nat) : Prop := (∀ i, i < n → F (8 * s + i) = flX J p F n s i) ∧ E s = elX F s n
abbrev exV (z : Int) : Prop := z = 1000 ∨ (0 ≤ z ∧ z ≤ 28)
theorem exB_v {J : Nat → Nat → Int} (hJ : JOK J) {i : Nat} (hi : i < 8) {p f : Int} (hp : 0 ≤ p ∧ p ≤ 15) (hf : 0 ≤ f) : exV (exB J i p f) := by
  have := enB_b hJ hi hp hf
  unfold exB
  split <;> omega
theorem ndN_lt {s i : Nat} (h : s.testBit i = true) : ndN s (2 ^ i) < s := by
  have h1 := ndN_le s (2 ^ i)
  have h2 : ndN s (2 ^ i) ≠ s := fun e => by
    have := ndN_bit s (2 ^ i) i
    rw [e, h, Nat.testBit_two_pow_self] at this
    simp at this
  omega
theorem lsX_cong {J : Nat → Nat → Int} {p : Int} {F F2 : Nat → Int} {r i : Nat} : ∀ {n : Nat}, (∀ k, k < n → F2 (8 * r + k) = F (8 * r + k)) → lsX J p F2 r i n = lsX J p F r i n
  | 0, _ => rfl
  | n + 1, h => by rw [lsX, lsX, lsX_cong (fun k hk => h k (by omega)), h n (by omega)]
theorem flX_cong {J : Nat → Nat → Int} {p : Int} {F F2 : Nat → Int} {n s i : Nat} (hn : n ≤ 8) (h : ∀ b, b < 8 * s → F2 b = F b) : flX J p F2 n s i = flX J p F n s i := by
  unfold flX
  split
  · rename_i q
    have := ndN_lt q
    exact lsX_cong (fun k hk => h _ (by omega))
  · rfl
theorem elX_cong {F F2 : Nat → Int} {s : Nat} : ∀ {n : Nat}, (∀ i, i < n → F2 (8 * s + i) = F (8 * s + i)) → elX F2 s n = elX F s n
  | 0, _ => rfl
  | n + 1, h => by rw [elX, elX, elX_cong (fun k hk => h k (by omega)), h n (by omega)]
theorem LQ_cong {J : Nat → Nat → Int} {p : Int} {n : Nat} {F F2 E E2 : Nat → Int} {s : Nat} (hn : n ≤ 8) (h : ∀ b, b < 8 * s + 8 → F2 b = F b) (hE : E2 s = E s) (hq : LQ J p n F E s) : LQ J p n F2 E2 s := by
  refine ⟨fun i hi => ?_, ?_⟩
  · rw [h _ (by omega), flX_cong hn (fun b hb => h b (by omega))]; exact hq.1 i hi
  · rw [hE, hq.2, elX_cong (fun i hi => h _ (by omega))]
theorem lsX_v {J : Nat → Nat → Int} (hJ : JOK J) {p : Int} (hp : 0 ≤ p ∧ p ≤ 15) {F : Nat → Int} {r i : Nat} (hi : i < 8) : ∀ {n : Nat}, n ≤ 8 → (∀ k, k < n → r.testBit k = true → exV (F (8 * r + k))) → exV (lsX J p F r i n)
  | 0, _, _ => by
    rw [lsX]
    split
    · exact exB_v hJ hi hp (by omega)
    · exact Or.inl rfl
  | n + 1, hn, h => by
    have h1 := lsX_v hJ hp (F := F) (r := r) hi (n := n) (by omega) (fun k hk q => h k (by omega) q)
    rw [lsX]
    split
    · rename_i q
      have h2 := h n (by omega) q.1
      have h3 := exB_v hJ hi (p := J n 0) (f := F (8 * r + n)) (hJ n (by omega)).1 (by omega)
      omega
    · exact h1
theorem elX_v {F : Nat → Int} {s : Nat} : ∀ {n : Nat}, (∀ i, i < n → exV (F (8 * s + i))) → exV (elX F s n)
  | 0, _ => by rw [elX]; split <;> omega
  | n + 1, h => by
    have h1 := elX_v (F := F) (s := s) (n := n) (fun i hi => h i (by omega))
    have h2 := h n (by omega)
    rw [elX]
    split <;> omega
def LX (M : Mm) (p : Int) (M2 : Mm) : Prop := (∀ a, a ≠ 91 → a ≠ 92 → M2 a = M a) ∧ ∀ t : Nat, t ≤ allN (M 77 12) → LQ (jbR M) p (M 77 12).toNat (M2 91) (M2 92) t ∧ exV (M2 92 t)
theorem LX.j {M M2 : Mm} {p : Int} (h : LX M p M2) : jbR M2 = jbR M := jbR_off (h.1 84 (by decide) (by decide)) (h.1 85 (by decide) (by decide))
theorem LX.e {M M2 : Mm} {p : Int} (h : LX M p M2) : M2 77 = M 77 := h.1 77 (by decide) (by decide)
theorem LX.V {M M2 : Mm} {p : Int} (h : LX M p M2) (hV : RV M) : RV M2 := hV.of (h.1 84 (by decide) (by decide)) (h.1 85 (by decide) (by decide)) (h.1 86 (by decide) (by decide)) (by rw [h.e]) (by rw [h.e]) (by rw [h.e])
abbrev SX (M : Mm) (s : Int) : Prop := 0 ≤ s ∧ s ≤ ((allN (M 77 12) : Nat) : Int)
theorem fX_255 {M : Mm} (h : RV M) : allN (M 77 12) ≤ 255 := bsum_255 _ (by have := h.1; omega)
def wsB (J : Nat → Nat → Int) (n s : Nat) : Int := smZ (fun i => if s.testBit i = true then J i 4 else 0) n
theorem wsB_b {J : Nat → Nat → Int} (hJ : JOK J) {n : Nat} (hn : n ≤ 8) (s : Nat) : 0 ≤ wsB J n s ∧ wsB J n s ≤ 144 := by
  have h := smZ_le (f := fun i => if s.testBit i = true then J i 4 else 0) (c := 18) n (fun j hj => by
    have := (hJ j (by omega)).2.2.2.2.1
    split <;> omega)
  unfold wsB
  omega
def mKx (M : Mm) (k : Int) : Nat := bsum (fun i => decide (isAK (nA M (i : Int) 0) k)) (M 77 12).toNat
theorem mKx_255 {M : Mm} (h : RV M) (k : Int) : mKx M k ≤ 255 := bsum_255 _ (by have := h.1; omega)
theorem mKx_off {M M2 : Mm} (h5 : M2 85 = M 85) (h7 : M2 77 12 = M 77 12) (k : Int) : mKx M2 k = mKx M k := by
  unfold mKx nA
  rw [h5, h7]
/-- the best plan among the first sets -/
def boF (J : Nat → Nat → Int) (n : Nat) (E : Nat → Int) (mu ba : Nat) : Nat → Int
  | 0 => -9
  | s + 1 => if (E s < 1000 ∧ s &&& mu = mu ∧ s &&& ba = 0) ∧ (boF J n E mu ba s = -9 ∨ wsB J n (boF J n E mu ba s).toNat < wsB J n s) then (s : Int) else boF J n E mu ba s
theorem boF_v (J : Nat → Nat → Int) (n : Nat) (E : Nat → Int) (mu ba : Nat) : ∀ k : Nat, boF J n E mu ba k = -9 ∨ (0 ≤ boF J n E mu ba k ∧ boF J n E mu ba k < (k : Int))
  | 0 => Or.inl rfl
  | k + 1 => by
    have h := boF_v J n E mu ba k
    rw [boF]
    split <;> omega
def boX (M T : Mm) (mu ba : Nat) : Int := boF (jbR M) (M 77 12).toNat (T 92) mu ba (allN (M 77 12) + 1)
def e9 (x : Int) : Int := if x < 1000 then x else -9
def xcaR (M : Mm) (s z : Int) (M2 : Mm) : Prop := (¬ SX M s ∧ z = -1 ∧ M2 = M) ∨ (SX M s ∧ LX M (sP M) M2 ∧ z = e9 (M2 92 s.toNat))
def xsF (J : Nat → Nat → Int) (n : Nat) (E : Nat → Int) : Nat → Int × Int
  | 0 => (0, 0)
  | s + 1 => if E s < 1000 then ((xsF J n E s).1 + 1, max (xsF J n E s).2 (wsB J n s)) else xsF J n E s
theorem xsF_b {J : Nat → Nat → Int} (hJ : JOK J) {n : Nat} (hn : n ≤ 8) (E : Nat → Int) : ∀ k : Nat, (0 ≤ (xsF J n E k).1 ∧ (xsF J n E k).1 ≤ (k : Int)) ∧ (0 ≤ (xsF J n E k).2 ∧ (xsF J n E k).2 ≤ 144)
  | 0 => by simp [xsF]
  | k + 1 => by
    have h1 := xsF_b hJ hn E k
    have h2 := wsB_b hJ hn k
    rw [xsF]
    split
    · simp only []; omega
    · omega
def xseR (M : Mm) (z : Int) (M2 : Mm) : Prop := ∃ T, LX M (sP M) T ∧ z = (xsF (jbR M) (M 77 12).toNat (T 92) (allN (M 77 12) + 1)).1 ∧ M2 = tlM T (xsF (jbR M) (M 77 12).toNat (T 92) (allN (M 77 12) + 1)).2
def xbeR (M : Mm) (z : Int) (M2 : Mm) : Prop := ∃ T, LX M (sP M) T ∧ z = boX M T (mKx M 1) 0 ∧ M2 = if z = -9 then T else tlM T (wsB (jbR M) (M 77 12).toNat z.toNat)
def xcoR (M : Mm) (i z : Int) (M2 : Mm) : Prop := (¬ NX M i ∧ z = -1 ∧ M2 = M) ∨ (NX M i ∧ LX M (sP M) M2 ∧ z = if boX M M2 (mKx M 1) 0 = -9 ∨ boX M M2 (ndN (mKx M 1) (2 ^ i.toNat)) (2 ^ i.toNat) = -9 then -9 else wsB (jbR M) (M 77 12).toNat (boX M M2 (ndN (mKx M 1) (2 ^ i.toNat)) (2 ^ i.toNat)).toNat - wsB (jbR M) (M 77 12).toNat (ndN (boX M M2 (mKx M 1) 0).toNat (2 ^ i.toNat)))
theorem p8 {i : Int} (hi : 0 ≤ i ∧ i < 8) : 2 ^ i.toNat ≤ 128 := by
  have h := bitN_le i
  rwa [bitN_in hi] at h
theorem LQ_sav {J : Nat → Nat → Int} {p : Int} {n : Nat} {W W2 : Mm} {s i v : Int} (hn : n ≤ 8) (h : ∀ t : Nat, (t : Int) < s → LQ J p n (W 91) (W 92) t) (hW2 : W2 = if hB s i then stM W 92 s.toNat (min (W 92 s.toNat) v) else W) (hi : 0 ≤ i) : ∀ t : Nat, (t : Int) < s → LQ J p n (stM W2 91 (8 * s + i).toNat v 91) (stM W2 91 (8 * s + i).toNat v 92) t := by
  intro t ht
  refine LQ_cong hn (fun b hb => ?_) ?_ (h t ht)
  · rw [stM_ne _ _ (Or.inr (by omega)), hW2]
    split
    · rw [stM_off (by decide)]
    · rfl
  · rw [stM_off (by decide), hW2]
    split
    · rw [stM_ne _ _ (Or.inr (by omega))]
    · rfl
theorem F_sav {J : Nat → Nat → Int} {p : Int} {n : Nat} {W W2 : Mm} {s i v : Int} (hn : n ≤ 8) (hs : 0 ≤ s ∧ 0 ≤ i) (h : ∀ j : Nat, (j : Int) < i → W 91 (8 * s.toNat + j) = flX J p (W 91) n s.toNat j ∧ exV (W 91 (8 * s.toNat + j))) (hv : v = flX J p (W 91) n s.toNat i.toNat ∧ exV v) (hW2 : W2 = if hB s i then stM W 92 s.toNat (min (W 92 s.toNat) v) else W) : ∀ j : Nat, (j : Int) < i + 1 → stM W2 91 (8 * s + i).toNat v 91 (8 * s.toNat + j) = flX J p (stM W2 91 (8 * s + i).toNat v 91) n s.toNat j ∧ exV (stM W2 91 (8 * s + i).toNat v 91 (8 * s.toNat + j)) := by
  intro j hj
  have e91 : W2 91 = W 91 := by
    rw [hW2]
    split
    · rw [stM_off (by decide)]
    · rfl
  have hc : flX J p (stM W2 91 (8 * s + i).toNat v 91) n s.toNat j = flX J p (W 91) n s.toNat j := flX_cong hn (fun b hb => by rw [stM_ne _ _ (Or.inr (by omega)), e91])
  rw [hc]
  by_cases q : j = i.toNat
  · rw [show 8 * s.toNat + j = (8 * s + i).toNat by omega, stM_at, q]
    exact hv
  · rw [stM_ne _ _ (Or.inr (by omega)), e91]
    exact h j (by omega)
theorem E_sav {W W2 : Mm} {s i v : Int} (hs : 0 ≤ s ∧ 0 ≤ i) (h : W 92 s.toNat = elX (W 91) s.toNat i.toNat) (hW2 : W2 = if hB s i then stM W 92 s.toNat (min (W 92 s.toNat) v) else W) (hi : 0 ≤ i) : stM W2 91 (8 * s + i).toNat v 92 s.toNat = elX (stM W2 91 (8 * s + i).toNat v 91) s.toNat (i + 1).toNat := by
  have e91 : W2 91 = W 91 := by
    rw [hW2]
    split
    · rw [stM_off (by decide)]
    · rfl
  have hc : elX (stM W2 91 (8 * s + i).toNat v 91) s.toNat i.toNat = elX (W 91) s.toNat i.toNat := elX_cong (fun j hj => by rw [stM_ne _ _ (Or.inr (by omega)), e91])
  rw [stM_off (by decide), show (i + 1).toNat = i.toNat + 1 by omega, elX, hc, ← h, show 8 * s.toNat + i.toNat = (8 * s + i).toNat by omega, stM_at, hW2]
  by_cases q : hB s i
  · rw [if_pos q, if_pos q, stM_at]
  · rw [if_neg q, if_neg q]
set_option maxHeartbeats 4000000 in
set_option maxRecDepth 100000 in
theorem c_X12_isSet {n : Nat} (hn : NN n) {M : Mm} (hV : RV M) (s : Int) (hs : ir s) : CT yX12_isSet cX12_isSet 2 (some .boolean) ({ frames := 1, cells := 0, slots := 0, locals := 22 }) n [.ref 77, .int (iI s)] M (rI (b2 (SX M s)) M) := by
  refine CT.of (lv0 := [(0, .ref 77), (1, .int (iI s))]) (by decide +kernel) hn (fun _ => rfl) (fun _ => Nat.le_of_ble_eq_true rfl) (fun X cx cs qx => ?_)
  have cx : Cx X cX12_isSet RX12 ({ frames := 1, cells := 0, slots := 0, locals := 22 }) 2 n := cx
  have hv1 := hV.1
  have hfb := fX_255 hV
  refine g_iload_n cx (pc2 := 1) 1 rfl dX12_isSet_0 rfl ?_
  refine g_iconst cx (pc2 := 2) dX12_isSet_1 rfl ?_
  refine g_aload_n cx (pc2 := 3) 0 rfl dX12_isSet_2 rfl ?_
  refine g_callV cx (pc2 := 6) (st := [.int (iI 0), .int (iI s)]) (As := []) (k0 := 77) (ci := 12) (c_X12_full (M := M) hn (by exact hV)) wM_X12_full wV_X12_full kl_X12_230 rfl (lt_lit hn (Nat.le_of_ble_eq_true rfl)) rfl ⟨rfl, rfl, Nat.le_of_ble_eq_true rfl, Nat.le_of_ble_eq_true rfl⟩ (Nat.le_of_ble_eq_true rfl) cs rfl rfl dX12_isSet_3 rfl ?_
  rintro _ _ ⟨rfl, rfl⟩
  refine g_callS cx (pc2 := 9) (st := []) (As := [.int (iI s), .int (iI 0), .int (iI ((allN (M 77 12) : Nat) : Int))]) (c_X12_in (M := M) hn s 0 ((allN (M 77 12) : Nat) : Int) (by first | assumption | omega) (by first | assumption | omega) (by first | assumption | omega)) wM_X12_in wS_X12_in kl_X12_97 ⟨rfl, rfl, Nat.le_of_ble_eq_true rfl, Nat.le_of_ble_eq_true rfl⟩ (Nat.le_of_ble_eq_true rfl) cs rfl rfl dX12_isSet_6 rfl ?_
  rintro _ _ ⟨rfl, rfl⟩
  exact g_zret cx (b2_01 _) qx dX12_isSet_9 ⟨rb_i (by unfold SX; first | exact Iff.rfl | omega), by rfl⟩
set_option maxHeartbeats 4000000 in
set_option maxRecDepth 100000 in
theorem c_X12_worthOf {n : Nat} (hn : NN n) {M : Mm} (hV : RV M) (s : Int) (hs : 0 ≤ s ∧ s ≤ 255) : CT yX12_worthOf cX12_worthOf 4 (some .int) ({ frames := 1, cells := 0, slots := 0, locals := 22 }) n [.ref 77, .int (iI s)] M (rI (wsB (jbR M) (M 77 12).toNat s.toNat) M) := by
  refine CT.of (lv0 := [(0, .ref 77), (1, .int (iI s))]) (by decide +kernel) hn (fun _ => rfl) (fun _ => Nat.le_of_ble_eq_true rfl) (fun X cx cs qx => ?_)
  have cx : Cx X cX12_worthOf RX12 ({ frames := 1, cells := 0, slots := 0, locals := 22 }) 4 n := cx
  have hv1 := hV.1
  refine g_iconst cx (pc2 := 1) dX12_worthOf_0 rfl ?_
  refine g_istore_n cx (pc2 := 2) (lv2 := [(0, .ref 77), (1, .int (iI s)), (2, .int (iI 0))]) rfl (Nat.le_of_ble_eq_true rfl) dX12_worthOf_1 rfl ?_
  refine g_iconst cx (pc2 := 3) dX12_worthOf_2 rfl ?_
  refine g_istore_n cx (pc2 := 4) (lv2 := [(0, .ref 77), (1, .int (iI s)), (2, .int (iI 0)), (3, .int (iI 0))]) rfl (Nat.le_of_ble_eq_true rfl) dX12_worthOf_3 rfl ?_
  have L4 : ∀ (fu : Nat) (i : Int) (t : Int), (0 ≤ i ∧ i ≤ M 77 12) → (t = smZ (fun i => if s.toNat.testBit i = true then jbR M i 4 else 0) i.toNat) → (M 77 12 - i).toNat ≤ fu → G X 4 [(0, .ref 77), (1, .int (iI s)), (2, .int (iI t)), (3, .int (iI i))] [] M := by
    intro fu
    induction fu using Nat.strongRecOn with
    | _ fu ih4 =>
      intro i t hi ht hk4
      have hj4 : jbR M i.toNat 4 = nA M i 5 := by show nA M ((i.toNat : Nat) : Int) 5 = _; rw [Int.toNat_of_nonneg hi.1]
      refine g_iload_n cx (pc2 := 5) 3 rfl dX12_worthOf_4 rfl ?_
      refine g_aload_n cx (pc2 := 6) 0 rfl dX12_worthOf_5 rfl ?_
      refine g_get cx (pc2 := 9) (ci := 12) (k0 := 77) (j := 12) (v := .int (iI (M 77 12))) rfl iwX12 rfl (lt_lit hn (Nat.le_of_ble_eq_true rfl)) rfl (Nat.le_of_ble_eq_true rfl) kf_X12_168 rfl rfl dX12_worthOf_6 rfl ?_
      refine g_icmp_ge cx (pc2 := 12) (tgt := 39) ⟨(by first | assumption | omega), (by first | assumption | omega)⟩ dX12_worthOf_9 (by decide) rfl (fun h_1 => ?_) (fun h_1 => ?_)
      · skip
        refine g_iload_n cx (pc2 := 40) 2 rfl dX12_worthOf_39 rfl ?_
        exact g_iret cx qx dX12_worthOf_40 ⟨congrArg (fun q => some (Value.int (iI q))) (by rw [ht]; unfold wsB; rw [show i = M 77 12 by omega]), by rfl⟩
      · skip
        refine g_iload_n cx (pc2 := 13) 2 rfl dX12_worthOf_12 rfl ?_
        refine g_iload_n cx (pc2 := 14) 1 rfl dX12_worthOf_13 rfl ?_
        refine g_iload_n cx (pc2 := 15) 3 rfl dX12_worthOf_14 rfl ?_
        refine g_callS cx (pc2 := 18) (st := [.int (iI t)]) (As := [.int (iI s), .int (iI i)]) (c_X12_has (M := M) hn s i (by first | assumption | omega) (by first | assumption | omega)) wM_X12_has wS_X12_has kl_X12_220 ⟨rfl, rfl, Nat.le_of_ble_eq_true rfl, Nat.le_of_ble_eq_true rfl⟩ (Nat.le_of_ble_eq_true rfl) cs rfl rfl dX12_worthOf_15 rfl ?_
        rintro _ _ ⟨rfl, rfl⟩
        refine g_ifb_eq cx (pc2 := 21) (tgt := 30) dX12_worthOf_18 (by decide) rfl (fun h_2 => ?_) (fun h_2 => ?_)
        · skip
          refine g_iconst cx (pc2 := 31) dX12_worthOf_30 rfl ?_
          refine g_iadd cx (pc2 := 32) dX12_worthOf_31 rfl ?_
          refine g_istore_n cx (pc2 := 33) (lv2 := [(0, .ref 77), (1, .int (iI s)), (2, .int (iI (t + 0))), (3, .int (iI i))]) rfl (Nat.le_of_ble_eq_true rfl) dX12_worthOf_32 rfl ?_
          refine g_iinc cx (pc2 := 36) 3 rfl (lv2 := [(0, .ref 77), (1, .int (iI s)), (2, .int (iI (t + 0))), (3, .int (iI (i + 1)))]) rfl (Nat.le_of_ble_eq_true rfl) dX12_worthOf_33 rfl ?_
          refine g_goto cx (tgt := 4) dX12_worthOf_36 (by decide) ?_
          exact ih4 ((M 77 12 - (i + 1)).toNat) (by omega) (i + 1) (t + 0) (by first | assumption | omega) (by rw [show (i + 1).toNat = i.toNat + 1 by omega, smZ, ht]; first | (rw [if_pos (by assumption), hj4]; done) | (rw [if_neg (by assumption)]; done)) (Nat.le_refl _)
        · skip
          refine g_aload_n cx (pc2 := 22) 0 rfl dX12_worthOf_21 rfl ?_
          refine g_iload_n cx (pc2 := 23) 3 rfl dX12_worthOf_22 rfl ?_
          refine g_iconst cx (pc2 := 24) dX12_worthOf_23 rfl ?_
          refine g_callV cx (pc2 := 27) (st := [.int (iI t)]) (As := [.int (iI i), .int (iI 5)]) (k0 := 77) (ci := 12) (c_X12_needAt (M := M) hn i 5 (by first | assumption | omega) (by first | assumption | omega)) wM_X12_needAt wV_X12_needAt kl_X12_195 rfl (lt_lit hn (Nat.le_of_ble_eq_true rfl)) rfl ⟨rfl, rfl, Nat.le_of_ble_eq_true rfl, Nat.le_of_ble_eq_true rfl⟩ (Nat.le_of_ble_eq_true rfl) cs rfl rfl dX12_worthOf_24 rfl ?_
          rintro _ _ ⟨rfl, rfl⟩
          refine g_goto cx (tgt := 31) dX12_worthOf_27 (by decide) ?_
          refine g_iadd cx (pc2 := 32) dX12_worthOf_31 rfl ?_
          refine g_istore_n cx (pc2 := 33) (lv2 := [(0, .ref 77), (1, .int (iI s)), (2, .int (iI (t + (nA M i 5)))), (3, .int (iI i))]) rfl (Nat.le_of_ble_eq_true rfl) dX12_worthOf_32 rfl ?_
          refine g_iinc cx (pc2 := 36) 3 rfl (lv2 := [(0, .ref 77), (1, .int (iI s)), (2, .int (iI (t + (nA M i 5)))), (3, .int (iI (i + 1)))]) rfl (Nat.le_of_ble_eq_true rfl) dX12_worthOf_33 rfl ?_
          refine g_goto cx (tgt := 4) dX12_worthOf_36 (by decide) ?_
          exact ih4 ((M 77 12 - (i + 1)).toNat) (by omega) (i + 1) (t + (nA M i 5)) (by first | assumption | omega) (by rw [show (i + 1).toNat = i.toNat + 1 by omega, smZ, ht]; first | (rw [if_pos (by assumption), hj4]; done) | (rw [if_neg (by assumption)]; done)) (Nat.le_refl _)
  exact L4 _ 0 0 (by first | assumption | omega) (by rfl) (Nat.le_refl _)
set_option maxHeartbeats 4000000 in
set_option maxRecDepth 100000 in
theorem c_X12_musts {n : Nat} (hn : NN n) {M : Mm} (hV : RV M) : CT yX12_musts cX12_musts 3 (some .int) ({ frames := 2, cells := 0, slots := 0, locals := 42 }) n [.ref 77] M (rI (((mKx M 1 : Nat) : Int)) M) := by
  refine CT.of (lv0 := [(0, .ref 77)]) (by decide +kernel) hn (fun _ => rfl) (fun _ => Nat.le_of_ble_eq_true rfl) (fun X cx cs qx => ?_)
  have cx : Cx X cX12_musts RX12 ({ frames := 2, cells := 0, slots := 0, locals := 42 }) 3 n := cx
  have hv1 := hV.1
  refine g_iconst cx (pc2 := 1) dX12_musts_0 rfl ?_
  refine g_istore_n cx (pc2 := 2) (lv2 := [(0, .ref 77), (1, .int (iI 0))]) rfl (Nat.le_of_ble_eq_true rfl) dX12_musts_1 rfl ?_
  refine g_iconst cx (pc2 := 3) dX12_musts_2 rfl ?_
  refine g_istore_n cx (pc2 := 4) (lv2 := [(0, .ref 77), (1, .int (iI 0)), (2, .int (iI 0))]) rfl (Nat.le_of_ble_eq_true rfl) dX12_musts_3 rfl ?_
  have L4 : ∀ (fu : Nat) (i : Int) (t : Int), (0 ≤ i ∧ i ≤ M 77 12) → (t = ((bsum (fun i => decide (isAK (nA M (i : Int) 0) 1)) i.toNat : Nat) : Int)) → (M 77 12 - i).toNat ≤ fu → G X 4 [(0, .ref 77), (1, .int (iI t)), (2, .int (iI i))] [] M := by
    intro fu
    induction fu using Nat.strongRecOn with
    | _ fu ih4 =>
      intro i t hi ht hk4
      have hbb := bsum_255 (fun i => decide (isAK (nA M (i : Int) 0) 1)) (k := i.toNat) (by omega)
      have hst : bsum (fun i => decide (isAK (nA M (i : Int) 0) 1)) (i + 1).toNat = t.toNat ||| (if isAK (nA M i 0) 1 then 2 ^ i.toNat else 0) := by rw [show (i + 1).toNat = i.toNat + 1 by omega, bsum, ht, Int.toNat_natCast, Int.toNat_of_nonneg hi.1]; by_cases q : isAK (nA M i 0) 1 <;> simp only [q, decide_true, decide_false, if_true, if_false] <;> rfl
      refine g_iload_n cx (pc2 := 5) 2 rfl dX12_musts_4 rfl ?_
      refine g_aload_n cx (pc2 := 6) 0 rfl dX12_musts_5 rfl ?_
      refine g_get cx (pc2 := 9) (ci := 12) (k0 := 77) (j := 12) (v := .int (iI (M 77 12))) rfl iwX12 rfl (lt_lit hn (Nat.le_of_ble_eq_true rfl)) rfl (Nat.le_of_ble_eq_true rfl) kf_X12_168 rfl rfl dX12_musts_6 rfl ?_
      refine g_icmp_ge cx (pc2 := 12) (tgt := 36) ⟨(by first | assumption | omega), (by first | assumption | omega)⟩ dX12_musts_9 (by decide) rfl (fun h_1 => ?_) (fun h_1 => ?_)
      · skip
        refine g_iload_n cx (pc2 := 37) 1 rfl dX12_musts_36 rfl ?_
        exact g_iret cx qx dX12_musts_37 ⟨congrArg (fun q => some (Value.int (iI q))) (by rw [ht]; unfold mKx; rw [show i = M 77 12 by omega]), by rfl⟩
      · skip
        have L28 : ∀ (y : Int), (y = ((if isAK (nA M i 0) 1 then 2 ^ i.toNat else 0 : Nat) : Int)) → G X 28 [(0, .ref 77), (1, .int (iI t)), (2, .int (iI i))] [.int (iI y), .int (iI t)] M := by
          intro y hy
          refine g_ior cx (pc2 := 29) dX12_musts_28 rfl ?_
          refine g_rwi (y := iI ((t.toNat ||| (if isAK (nA M i 0) 1 then 2 ^ i.toNat else 0) : Nat) : Int)) (by rw [hy]; exact or_iI (by omega) (Int.natCast_nonneg _)) ?_
          refine g_istore_n cx (pc2 := 30) (lv2 := [(0, .ref 77), (1, .int (iI ((t.toNat ||| (if isAK (nA M i 0) 1 then 2 ^ i.toNat else 0) : Nat) : Int))), (2, .int (iI i))]) rfl (Nat.le_of_ble_eq_true rfl) dX12_musts_29 rfl ?_
          refine g_iinc cx (pc2 := 33) 2 rfl (lv2 := [(0, .ref 77), (1, .int (iI ((t.toNat ||| (if isAK (nA M i 0) 1 then 2 ^ i.toNat else 0) : Nat) : Int))), (2, .int (iI (i + 1)))]) rfl (Nat.le_of_ble_eq_true rfl) dX12_musts_30 rfl ?_
          refine g_goto cx (tgt := 4) dX12_musts_33 (by decide) ?_
          exact ih4 ((M 77 12 - (i + 1)).toNat) (by omega) (i + 1) ((t.toNat ||| (if isAK (nA M i 0) 1 then 2 ^ i.toNat else 0) : Nat) : Int) (by first | assumption | omega) (by rw [hst]) (Nat.le_refl _)
        refine g_iload_n cx (pc2 := 13) 1 rfl dX12_musts_12 rfl ?_
        refine g_aload_n cx (pc2 := 14) 0 rfl dX12_musts_13 rfl ?_
        refine g_iload_n cx (pc2 := 15) 2 rfl dX12_musts_14 rfl ?_
        refine g_callV cx (pc2 := 18) (st := [.int (iI t)]) (As := [.int (iI i)]) (k0 := 77) (ci := 12) (c_X12_isMust (M := M) hn (by exact hV) i (by first | assumption | omega)) wM_X12_isMust wV_X12_isMust kl_X12_198 rfl (lt_lit hn (Nat.le_of_ble_eq_true rfl)) rfl ⟨rfl, rfl, Nat.le_of_ble_eq_true rfl, Nat.le_of_ble_eq_true rfl⟩ (Nat.le_of_ble_eq_true rfl) cs rfl rfl dX12_musts_15 rfl ?_
        rintro _ _ ⟨rfl, rfl⟩
        refine g_ifb_eq cx (pc2 := 21) (tgt := 27) dX12_musts_18 (by decide) rfl (fun h_2 => ?_) (fun h_2 => ?_)
        · skip
          refine g_iconst cx (pc2 := 28) dX12_musts_27 rfl ?_
          exact L28 0 (by first | (rw [if_pos (by assumption)]; done) | (rw [if_neg (by assumption)]; rfl))
        · skip
          refine g_iconst cx (pc2 := 22) dX12_musts_21 rfl ?_
          refine g_iload_n cx (pc2 := 23) 2 rfl dX12_musts_22 rfl ?_
          refine g_ishl cx (pc2 := 24) dX12_musts_23 rfl ?_
          refine g_rwi (y := iI ((2 ^ i.toNat : Nat) : Int)) (sh1 (by omega) (by omega)) ?_
          refine g_goto cx (tgt := 28) dX12_musts_24 (by decide) ?_
          exact L28 ((2 ^ i.toNat : Nat) : Int) (by first | (rw [if_pos (by assumption)]; done) | (rw [if_neg (by assumption)]; rfl))
  exact L4 _ 0 0 (by first | assumption | omega) (by rfl) (Nat.le_refl _)
set_option maxHeartbeats 4000000 in
set_option maxRecDepth 100000 in
theorem c_X12_layEnds {n : Nat} (hn : NN n) {M : Mm} (hV : RV M) (h : Int) (hh : 0 ≤ h ∧ h < 8) : CT yX12_layEnds cX12_layEnds 7 none ({ frames := 4, cells := 0, slots := 0, locals := 95 }) n [.ref 77, .int (iI h)] M (pV (fun M2 => LX M (M 84 h.toNat) M2)) := by
  refine CT.of (lv0 := [(0, .ref 77), (1, .int (iI h))]) (by decide +kernel) hn (fun _ => rfl) (fun _ => Nat.le_of_ble_eq_true rfl) (fun X cx cs qx => ?_)
  have cx : Cx X cX12_layEnds RX12 ({ frames := 4, cells := 0, slots := 0, locals := 95 }) 7 n := cx
  have hv1 := hV.1
  have hfb := fX_255 hV
  have hJo := jbR_ok hV
  have hph := hV.2.1 h.toNat (by omega)
  have hn8 : (M 77 12).toNat ≤ 8 := by omega
  refine g_iconst cx (pc2 := 1) dX12_layEnds_0 rfl ?_
  refine g_istore_n cx (pc2 := 2) (lv2 := [(0, .ref 77), (1, .int (iI h)), (2, .int (iI 0))]) rfl (Nat.le_of_ble_eq_true rfl) dX12_layEnds_1 rfl ?_
  have L2 : ∀ (fu : Nat) (s : Int) (U : Mm), (0 ≤ s ∧ s ≤ ((allN (M 77 12) : Nat) : Int) + 1) → (∀ a, a ≠ 91 → a ≠ 92 → U a = M a) → (∀ t : Nat, (t : Int) < s → LQ (jbR M) (M 84 h.toNat) (M 77 12).toNat (U 91) (U 92) t) → (∀ t : Nat, (t : Int) < s → ∀ i : Nat, i < (M 77 12).toNat → exV (U 91 (8 * t + i))) → (((allN (M 77 12) : Nat) : Int) + 1 - s).toNat ≤ fu → G X 2 [(0, .ref 77), (1, .int (iI h)), (2, .int (iI s))] [] U := by
    intro fu
    induction fu using Nat.strongRecOn with
    | _ fu ih2 =>
      intro s U hs hU hL hFv hk2
      have e77 := hU 77 (by decide) (by decide)
      have e12 : U 77 12 = M 77 12 := by rw [e77]
      have hVU : RV U := hV.of (hU 84 (by decide) (by decide)) (hU 85 (by decide) (by decide)) (hU 86 (by decide) (by decide)) (by rw [e77]) (by rw [e77]) (by rw [e77])
      refine g_iload_n cx (pc2 := 3) 2 rfl dX12_layEnds_2 rfl ?_
      refine g_aload_n cx (pc2 := 4) 0 rfl dX12_layEnds_3 rfl ?_
      refine g_callV cx (pc2 := 7) (st := [.int (iI s)]) (As := []) (k0 := 77) (ci := 12) (c_X12_full (M := U) hn (by first | exact hVW | exact hVU | exact hV)) wM_X12_full wV_X12_full kl_X12_230 rfl (lt_lit hn (Nat.le_of_ble_eq_true rfl)) rfl ⟨rfl, rfl, Nat.le_of_ble_eq_true rfl, Nat.le_of_ble_eq_true rfl⟩ (Nat.le_of_ble_eq_true rfl) cs rfl rfl dX12_layEnds_4 rfl ?_
      rintro _ _ ⟨rfl, rfl⟩
      refine g_rwi (y := iI ((allN (M 77 12) : Nat) : Int)) (congrArg (fun q => iI ((allN q : Nat) : Int)) e12) ?_
      refine g_icmp_gt cx (pc2 := 10) (tgt := 200) ⟨(by first | assumption | omega), (by first | assumption | omega)⟩ dX12_layEnds_7 (by decide) rfl (fun h_1 => ?_) (fun h_1 => ?_)
      · skip
        exact g_vret cx qx dX12_layEnds_200 ⟨rfl, by refine ⟨hU, fun t ht => ⟨hL t (by omega), ?_⟩⟩; rw [(hL t (by omega)).2]; exact elX_v (fun j hj => hFv t (by omega) j hj)⟩
      · skip
        refine g_aload_n cx (pc2 := 11) 0 rfl dX12_layEnds_10 rfl ?_
        refine g_get cx (pc2 := 14) (ci := 12) (k0 := 77) (j := 27) (v := .ref 92) rfl iwX12 rfl (lt_lit hn (Nat.le_of_ble_eq_true rfl)) rfl (Nat.le_of_ble_eq_true rfl) kf_X12_53 rfl rfl dX12_layEnds_11 rfl ?_
        refine g_iload_n cx (pc2 := 15) 2 rfl dX12_layEnds_14 rfl ?_
        refine g_iload_n cx (pc2 := 16) 2 rfl dX12_layEnds_15 rfl ?_
        refine g_if_ne cx (pc2 := 19) (tgt := 23) (by first | assumption | omega) dX12_layEnds_16 (by decide) rfl (fun h_2 => ?_) (fun h_2 => ?_)
        · skip
          refine g_sipush cx (pc2 := 26) ⟨by decide, by decide⟩ dX12_layEnds_23 rfl ?_
          refine g_iast cx (pc2 := 27) (k0 := 92) rfl (lt_lit hn (Nat.le_of_ble_eq_true rfl)) (by first | assumption | omega) (by first | assumption | omega) (Nat.le_of_ble_eq_true rfl) dX12_layEnds_26 rfl ?_
          refine g_iconst cx (pc2 := 28) dX12_layEnds_27 rfl ?_
          refine g_istore_n cx (pc2 := 29) (lv2 := [(0, .ref 77), (1, .int (iI h)), (2, .int (iI s)), (3, .int (iI 0))]) rfl (Nat.le_of_ble_eq_true rfl) dX12_layEnds_28 rfl ?_
          have L29 : ∀ (fu : Nat) (i : Int) (W : Mm), (0 ≤ i ∧ i ≤ M 77 12) → (∀ a, a ≠ 91 → a ≠ 92 → W a = M a) → (∀ t : Nat, (t : Int) < s → LQ (jbR M) (M 84 h.toNat) (M 77 12).toNat (W 91) (W 92) t) → (∀ t : Nat, (t : Int) < s → ∀ i : Nat, i < (M 77 12).toNat → exV (W 91 (8 * t + i))) → (∀ j : Nat, (j : Int) < i → W 91 (8 * s.toNat + j) = flX (jbR M) (M 84 h.toNat) (W 91) (M 77 12).toNat s.toNat j ∧ exV (W 91 (8 * s.toNat + j))) → (W 92 s.toNat = elX (W 91) s.toNat i.toNat) → (M 77 12 - i).toNat ≤ fu → G X 29 [(0, .ref 77), (1, .int (iI h)), (2, .int (iI s)), (3, .int (iI i))] [] W := by
            intro fu
            induction fu using Nat.strongRecOn with
            | _ fu ih29 =>
              intro i W hi hW hL2 hB2 hF hE hk29
              have w77 := hW 77 (by decide) (by decide)
              have w12 : W 77 12 = M 77 12 := by rw [w77]
              have hVW : RV W := hV.of (hW 84 (by decide) (by decide)) (hW 85 (by decide) (by decide)) (hW 86 (by decide) (by decide)) (by rw [w77]) (by rw [w77]) (by rw [w77])
              have eJ : jbR W = jbR M := jbR_off (hW 84 (by decide) (by decide)) (hW 85 (by decide) (by decide))
              have e84 := hW 84 (by decide) (by decide)
              have e85 := hW 85 (by decide) (by decide)
              have hEv : exV (W 92 s.toNat) := by rw [hE]; exact elX_v (fun j hj => (hF j (by omega)).2)
              have hrl := ndN_le s.toNat (2 ^ i.toNat)
              have hrt : hB s i → ∀ k : Nat, k < (M 77 12).toNat → (ndN s.toNat (2 ^ i.toNat)).testBit k = true → exV (W 91 (8 * ndN s.toNat (2 ^ i.toNat) + k)) := fun q k hk _ => by have := ndN_lt q; exact hB2 _ (by omega) k hk
              refine g_iload_n cx (pc2 := 30) 3 rfl dX12_layEnds_29 rfl ?_
              refine g_aload_n cx (pc2 := 31) 0 rfl dX12_layEnds_30 rfl ?_
              refine g_get cx (pc2 := 34) (ci := 12) (k0 := 77) (j := 12) (v := .int (iI (W 77 12))) rfl iwX12 rfl (lt_lit hn (Nat.le_of_ble_eq_true rfl)) rfl (Nat.le_of_ble_eq_true rfl) kf_X12_168 rfl rfl dX12_layEnds_31 rfl ?_
              refine g_rwi (y := iI (M 77 12)) (congrArg iI w12) ?_
              refine g_icmp_ge cx (pc2 := 37) (tgt := 194) ⟨(by first | assumption | omega), (by first | assumption | omega)⟩ dX12_layEnds_34 (by decide) rfl (fun h_3 => ?_) (fun h_3 => ?_)
              · skip
                refine g_iinc cx (pc2 := 197) 2 rfl (lv2 := [(0, .ref 77), (1, .int (iI h)), (2, .int (iI (s + 1))), (3, .int (iI i))]) rfl (Nat.le_of_ble_eq_true rfl) dX12_layEnds_194 rfl ?_
                refine g_goto cx (tgt := 2) dX12_layEnds_197 (by decide) ?_
                refine g_sub (lv2 := [(0, .ref 77), (1, .int (iI h)), (2, .int (iI (s + 1)))]) [0, 1, 2] rfl ?_
                exact ih2 ((((allN (M 77 12) : Nat) : Int) + 1 - (s + 1)).toNat) (by omega) (s + 1) W (by first | assumption | omega) (by exact hW) (by intro t ht; rcases (show (t : Int) < s ∨ t = s.toNat by omega) with q | q; exact hL2 t q; (subst q; refine ⟨fun j hj => (hF j (by omega)).1, ?_⟩; rw [hE, show i = M 77 12 by omega])) (by intro t ht j hj; rcases (show (t : Int) < s ∨ t = s.toNat by omega) with q | q; exact hB2 t q j hj; (subst q; exact (hF j (by omega)).2)) (Nat.le_refl _)
              · skip
                refine g_sipush cx (pc2 := 40) ⟨by decide, by decide⟩ dX12_layEnds_37 rfl ?_
                refine g_istore cx (pc2 := 42) (lv2 := [(0, .ref 77), (1, .int (iI h)), (2, .int (iI s)), (3, .int (iI i)), (4, .int (iI 1000))]) rfl (Nat.le_of_ble_eq_true rfl) dX12_layEnds_40 rfl ?_
                have L175 : ∀ (v : Int) (W2 : Mm), (v = flX (jbR M) (M 84 h.toNat) (W 91) (M 77 12).toNat s.toNat i.toNat ∧ exV v) → (W2 = if hB s i then stM W 92 s.toNat (min (W 92 s.toNat) v) else W) → G X 175 [(0, .ref 77), (1, .int (iI h)), (2, .int (iI s)), (3, .int (iI i)), (4, .int (iI v))] [] W2 := by
                  intro v W2 hv hW2
                  refine g_aload_n cx (pc2 := 176) 0 rfl dX12_layEnds_175 rfl ?_
                  refine g_get cx (pc2 := 179) (ci := 12) (k0 := 77) (j := 26) (v := .ref 91) rfl iwX12 rfl (lt_lit hn (Nat.le_of_ble_eq_true rfl)) rfl (Nat.le_of_ble_eq_true rfl) kf_X12_50 rfl rfl dX12_layEnds_176 rfl ?_
                  refine g_bipush cx (pc2 := 181) ⟨by decide, by decide⟩ dX12_layEnds_179 rfl ?_
                  refine g_iload_n cx (pc2 := 182) 2 rfl dX12_layEnds_181 rfl ?_
                  refine g_imul cx (pc2 := 183) dX12_layEnds_182 rfl ?_
                  refine g_iload_n cx (pc2 := 184) 3 rfl dX12_layEnds_183 rfl ?_
                  refine g_iadd cx (pc2 := 185) dX12_layEnds_184 rfl ?_
                  refine g_iload cx (pc2 := 187) 4 rfl dX12_layEnds_185 rfl ?_
                  refine g_iast cx (pc2 := 188) (k0 := 91) rfl (lt_lit hn (Nat.le_of_ble_eq_true rfl)) (by first | assumption | omega) (by first | assumption | omega) (Nat.le_of_ble_eq_true rfl) dX12_layEnds_187 rfl ?_
                  refine g_iinc cx (pc2 := 191) 3 rfl (lv2 := [(0, .ref 77), (1, .int (iI h)), (2, .int (iI s)), (3, .int (iI (i + 1))), (4, .int (iI v))]) rfl (Nat.le_of_ble_eq_true rfl) dX12_layEnds_188 rfl ?_
                  refine g_goto cx (tgt := 29) dX12_layEnds_191 (by decide) ?_
                  refine g_sub (lv2 := [(0, .ref 77), (1, .int (iI h)), (2, .int (iI s)), (3, .int (iI (i + 1)))]) [0, 1, 2, 3] rfl ?_
                  exact ih29 ((M 77 12 - (i + 1)).toNat) (by omega) (i + 1) (stM W2 91 (((8 * s) + i)).toNat v) (by first | assumption | omega) (by intro a h1 h2; rw [stM_off h1, hW2]; split; (rw [stM_off h2]; exact hW a h1 h2); exact hW a h1 h2) (by exact LQ_sav hn8 hL2 hW2 (by omega)) (by intro t ht j hj; rw [stM_ne _ _ (Or.inr (by omega)), hW2]; split; (rw [stM_off (by decide)]; exact hB2 t ht j hj); exact hB2 t ht j hj) (by exact F_sav hn8 (by omega) hF hv hW2) (by exact E_sav (by omega) hE hW2 (by omega)) (Nat.le_refl _)
                refine g_iload_n cx (pc2 := 43) 2 rfl dX12_layEnds_42 rfl ?_
                refine g_iload_n cx (pc2 := 44) 3 rfl dX12_layEnds_43 rfl ?_
                refine g_callS cx (pc2 := 47) (st := []) (As := [.int (iI s), .int (iI i)]) (c_X12_has (M := W) hn s i (by omega) (by omega)) wM_X12_has wS_X12_has kl_X12_220 ⟨rfl, rfl, Nat.le_of_ble_eq_true rfl, Nat.le_of_ble_eq_true rfl⟩ (Nat.le_of_ble_eq_true rfl) cs rfl rfl dX12_layEnds_44 rfl ?_
                rintro _ _ ⟨rfl, rfl⟩
                have hp2 := p8 (i := i) (by omega)
                have hp3 : (0 : Int) ≤ ((2 ^ i.toNat : Nat) : Int) := Int.natCast_nonneg _
                refine g_ifb_eq cx (pc2 := 50) (tgt := 175) dX12_layEnds_47 (by decide) rfl (fun h_4 => ?_) (fun h_4 => ?_)
                · skip
                  exact L175 1000 W (by first | (refine ⟨?_, Or.inl rfl⟩; unfold flX; rw [if_neg (by assumption)]) | (have ek : k = M 77 12 := (by omega); refine ⟨?_, hmv⟩; unfold flX; rw [if_pos (by assumption), hm, ek])) (by first | (rw [if_pos (by assumption)]; done) | (rw [if_neg (by assumption)]; done))
                · skip
                  have hrt1 := hrt (by assumption)
                  refine g_iload_n cx (pc2 := 51) 2 rfl dX12_layEnds_50 rfl ?_
                  refine g_iconst cx (pc2 := 52) dX12_layEnds_51 rfl ?_
                  refine g_iload_n cx (pc2 := 53) 3 rfl dX12_layEnds_52 rfl ?_
                  refine g_ishl cx (pc2 := 54) dX12_layEnds_53 rfl ?_
                  refine g_rwi (y := iI ((2 ^ i.toNat : Nat) : Int)) (sh1 (by omega) (by omega)) ?_
                  refine g_iconst cx (pc2 := 55) dX12_layEnds_54 rfl ?_
                  refine g_ixor cx (pc2 := 56) dX12_layEnds_55 rfl ?_
                  refine g_iand cx (pc2 := 57) dX12_layEnds_56 rfl ?_
                  refine g_rwi (y := iI ((ndN s.toNat (2 ^ i.toNat) : Nat) : Int)) (nd_iI (by omega) (by omega)) ?_
                  refine g_istore cx (pc2 := 59) (lv2 := [(0, .ref 77), (1, .int (iI h)), (2, .int (iI s)), (3, .int (iI i)), (4, .int (iI 1000)), (5, .int (iI ((ndN s.toNat (2 ^ i.toNat) : Nat) : Int)))]) rfl (Nat.le_of_ble_eq_true rfl) dX12_layEnds_57 rfl ?_
                  refine g_iload cx (pc2 := 61) 5 rfl dX12_layEnds_59 rfl ?_
                  refine g_if_ne cx (pc2 := 64) (tgt := 74) (by first | assumption | omega) dX12_layEnds_61 (by decide) rfl (fun h_5 => ?_) (fun h_5 => ?_)
                  · skip
                    refine g_sipush cx (pc2 := 77) ⟨by decide, by decide⟩ dX12_layEnds_74 rfl ?_
                    refine g_istore cx (pc2 := 79) (lv2 := [(0, .ref 77), (1, .int (iI h)), (2, .int (iI s)), (3, .int (iI i)), (4, .int (iI 1000)), (5, .int (iI ((ndN s.toNat (2 ^ i.toNat) : Nat) : Int)))]) rfl (Nat.le_of_ble_eq_true rfl) dX12_layEnds_77 rfl ?_
                    refine g_iconst cx (pc2 := 80) dX12_layEnds_79 rfl ?_
                    refine g_istore cx (pc2 := 82) (lv2 := [(0, .ref 77), (1, .int (iI h)), (2, .int (iI s)), (3, .int (iI i)), (4, .int (iI 1000)), (5, .int (iI ((ndN s.toNat (2 ^ i.toNat) : Nat) : Int))), (6, .int (iI 0))]) rfl (Nat.le_of_ble_eq_true rfl) dX12_layEnds_80 rfl ?_
                    have L82 : ∀ (fu : Nat) (k : Int) (m : Int), (0 ≤ k ∧ k ≤ M 77 12) → (m = lsX (jbR M) (M 84 h.toNat) (W 91) (ndN s.toNat (2 ^ i.toNat)) i.toNat k.toNat) → (M 77 12 - k).toNat ≤ fu → G X 82 [(0, .ref 77), (1, .int (iI h)), (2, .int (iI s)), (3, .int (iI i)), (4, .int (iI m)), (5, .int (iI ((ndN s.toNat (2 ^ i.toNat) : Nat) : Int))), (6, .int (iI k))] [] W := by
                      intro fu
                      induction fu using Nat.strongRecOn with
                      | _ fu ih82 =>
                        intro k m hk hm hk82
                        have hmv : exV m := by rw [hm]; exact lsX_v hJo hph (by omega) (by omega) (fun j hj q => hrt1 j (by omega) q)
                        have hidx : (8 * ((ndN s.toNat (2 ^ i.toNat) : Nat) : Int) + k).toNat = 8 * ndN s.toNat (2 ^ i.toNat) + k.toNat := by omega
                        have hst : lsX (jbR M) (M 84 h.toNat) (W 91) (ndN s.toNat (2 ^ i.toNat)) i.toNat (k + 1).toNat = if (ndN s.toNat (2 ^ i.toNat)).testBit k.toNat = true ∧ W 91 (8 * ndN s.toNat (2 ^ i.toNat) + k.toNat) < 1000 then min m (exB (jbR M) i.toNat (jbR M k.toNat 0) (W 91 (8 * ndN s.toNat (2 ^ i.toNat) + k.toNat))) else m := by rw [show (k + 1).toNat = k.toNat + 1 by omega, lsX, ← hm]
                        have hjk : jbR M k.toNat 0 = M 84 (nA M k 1).toNat := by show M 84 (nA M ((k.toNat : Nat) : Int) 1).toNat = _; rw [Int.toNat_of_nonneg hk.1]
                        refine g_iload cx (pc2 := 84) 6 rfl dX12_layEnds_82 rfl ?_
                        refine g_aload_n cx (pc2 := 85) 0 rfl dX12_layEnds_84 rfl ?_
                        refine g_get cx (pc2 := 88) (ci := 12) (k0 := 77) (j := 12) (v := .int (iI (W 77 12))) rfl iwX12 rfl (lt_lit hn (Nat.le_of_ble_eq_true rfl)) rfl (Nat.le_of_ble_eq_true rfl) kf_X12_168 rfl rfl dX12_layEnds_85 rfl ?_
                        refine g_rwi (y := iI (M 77 12)) (congrArg iI w12) ?_
                        refine g_icmp_ge cx (pc2 := 91) (tgt := 158) ⟨(by first | assumption | omega), (by first | assumption | omega)⟩ dX12_layEnds_88 (by decide) rfl (fun h_6 => ?_) (fun h_6 => ?_)
                        · skip
                          refine g_aload_n cx (pc2 := 159) 0 rfl dX12_layEnds_158 rfl ?_
                          refine g_get cx (pc2 := 162) (ci := 12) (k0 := 77) (j := 27) (v := .ref 92) rfl iwX12 rfl (lt_lit hn (Nat.le_of_ble_eq_true rfl)) rfl (Nat.le_of_ble_eq_true rfl) kf_X12_53 rfl rfl dX12_layEnds_159 rfl ?_
                          refine g_iload_n cx (pc2 := 163) 2 rfl dX12_layEnds_162 rfl ?_
                          refine g_aload_n cx (pc2 := 164) 0 rfl dX12_layEnds_163 rfl ?_
                          refine g_get cx (pc2 := 167) (ci := 12) (k0 := 77) (j := 27) (v := .ref 92) rfl iwX12 rfl (lt_lit hn (Nat.le_of_ble_eq_true rfl)) rfl (Nat.le_of_ble_eq_true rfl) kf_X12_53 rfl rfl dX12_layEnds_164 rfl ?_
                          refine g_iload_n cx (pc2 := 168) 2 rfl dX12_layEnds_167 rfl ?_
                          refine g_iald cx (pc2 := 169) (k0 := 92) rfl (lt_lit hn (Nat.le_of_ble_eq_true rfl)) (by first | assumption | omega) (by first | assumption | omega) (Nat.le_of_ble_eq_true rfl) dX12_layEnds_168 rfl ?_
                          refine g_rwi (y := iI (W 92 ((s).toNat))) (congrArg iI (by simp [stM])) ?_
                          refine g_iload cx (pc2 := 171) 4 rfl dX12_layEnds_169 rfl ?_
                          refine g_callS cx (pc2 := 174) (st := [.int (iI s), .ref 92]) (As := [.int (iI (W 92 ((s).toNat))), .int (iI m)]) (c_X12_lesser (M := W) hn (W 92 ((s).toNat)) m (by omega) (by omega)) wM_X12_lesser wS_X12_lesser kl_X12_236 ⟨rfl, rfl, Nat.le_of_ble_eq_true rfl, Nat.le_of_ble_eq_true rfl⟩ (Nat.le_of_ble_eq_true rfl) cs rfl rfl dX12_layEnds_171 rfl ?_
                          rintro _ _ ⟨rfl, rfl⟩
                          refine g_iast cx (pc2 := 175) (k0 := 92) rfl (lt_lit hn (Nat.le_of_ble_eq_true rfl)) (by first | assumption | omega) (by first | assumption | omega) (Nat.le_of_ble_eq_true rfl) dX12_layEnds_174 rfl ?_
                          refine g_sub (lv2 := [(0, .ref 77), (1, .int (iI h)), (2, .int (iI s)), (3, .int (iI i)), (4, .int (iI m))]) [0, 1, 2, 3, 4] rfl ?_
                          exact L175 m (stM W 92 (s).toNat (min (W 92 ((s).toNat)) m)) (by first | (refine ⟨?_, Or.inl rfl⟩; unfold flX; rw [if_neg (by assumption)]) | (have ek : k = M 77 12 := (by omega); refine ⟨?_, hmv⟩; unfold flX; rw [if_pos (by assumption), hm, ek])) (by first | (rw [if_pos (by assumption)]; done) | (rw [if_neg (by assumption)]; done))
                        · skip
                          have L152 : ∀ (m2 : Int), (m2 = lsX (jbR M) (M 84 h.toNat) (W 91) (ndN s.toNat (2 ^ i.toNat)) i.toNat (k + 1).toNat) → G X 152 [(0, .ref 77), (1, .int (iI h)), (2, .int (iI s)), (3, .int (iI i)), (4, .int (iI m2)), (5, .int (iI ((ndN s.toNat (2 ^ i.toNat) : Nat) : Int))), (6, .int (iI k))] [] W := by
                            intro m2 hm2
                            refine g_iinc cx (pc2 := 155) 6 rfl (lv2 := [(0, .ref 77), (1, .int (iI h)), (2, .int (iI s)), (3, .int (iI i)), (4, .int (iI m2)), (5, .int (iI ((ndN s.toNat (2 ^ i.toNat) : Nat) : Int))), (6, .int (iI (k + 1)))]) rfl (Nat.le_of_ble_eq_true rfl) dX12_layEnds_152 rfl ?_
                            refine g_goto cx (tgt := 82) dX12_layEnds_155 (by decide) ?_
                            exact ih82 ((M 77 12 - (k + 1)).toNat) (by omega) (k + 1) m2 (by first | assumption | omega) (by exact hm2) (Nat.le_refl _)
                          refine g_iload cx (pc2 := 93) 5 rfl dX12_layEnds_91 rfl ?_
                          refine g_iload cx (pc2 := 95) 6 rfl dX12_layEnds_93 rfl ?_
                          refine g_callS cx (pc2 := 98) (st := []) (As := [.int (iI ((ndN s.toNat (2 ^ i.toNat) : Nat) : Int)), .int (iI k)]) (c_X12_has (M := W) hn ((ndN s.toNat (2 ^ i.toNat) : Nat) : Int) k (by omega) (by omega)) wM_X12_has wS_X12_has kl_X12_220 ⟨rfl, rfl, Nat.le_of_ble_eq_true rfl, Nat.le_of_ble_eq_true rfl⟩ (Nat.le_of_ble_eq_true rfl) cs rfl rfl dX12_layEnds_95 rfl ?_
                          rintro _ _ ⟨rfl, rfl⟩
                          refine g_ifb_eq cx (pc2 := 101) (tgt := 152) dX12_layEnds_98 (by decide) rfl (fun h_7 => ?_) (fun h_7 => ?_)
                          · skip
                            exact L152 m (by rw [hst]; first | (rw [if_pos ⟨by assumption, by omega⟩]; done) | (rw [if_neg (fun q => absurd q.1 (by assumption))]; done) | (rw [if_neg (fun q => by omega)]; done))
                          · skip
                            have hWv := hrt1 k.toNat (by omega) (by assumption)
                            refine g_aload_n cx (pc2 := 102) 0 rfl dX12_layEnds_101 rfl ?_
                            refine g_get cx (pc2 := 105) (ci := 12) (k0 := 77) (j := 26) (v := .ref 91) rfl iwX12 rfl (lt_lit hn (Nat.le_of_ble_eq_true rfl)) rfl (Nat.le_of_ble_eq_true rfl) kf_X12_50 rfl rfl dX12_layEnds_102 rfl ?_
                            refine g_bipush cx (pc2 := 107) ⟨by decide, by decide⟩ dX12_layEnds_105 rfl ?_
                            refine g_iload cx (pc2 := 109) 5 rfl dX12_layEnds_107 rfl ?_
                            refine g_imul cx (pc2 := 110) dX12_layEnds_109 rfl ?_
                            refine g_iload cx (pc2 := 112) 6 rfl dX12_layEnds_110 rfl ?_
                            refine g_iadd cx (pc2 := 113) dX12_layEnds_112 rfl ?_
                            refine g_iald cx (pc2 := 114) (k0 := 91) rfl (lt_lit hn (Nat.le_of_ble_eq_true rfl)) (by first | assumption | omega) (by first | assumption | omega) (Nat.le_of_ble_eq_true rfl) dX12_layEnds_113 rfl ?_
                            refine g_rwi (y := iI (W 91 (((8 * ((ndN s.toNat (2 ^ i.toNat) : Nat) : Int)) + k).toNat))) (congrArg iI (by simp [stM])) ?_
                            refine g_rwi (y := iI (W 91 (8 * ndN s.toNat (2 ^ i.toNat) + k.toNat))) (congrArg (fun q => iI (W 91 q)) hidx) ?_
                            refine g_sipush cx (pc2 := 117) ⟨by decide, by decide⟩ dX12_layEnds_114 rfl ?_
                            refine g_icmp_ge cx (pc2 := 120) (tgt := 152) ⟨(by first | assumption | omega), ⟨by decide, by decide⟩⟩ dX12_layEnds_117 (by decide) rfl (fun h_8 => ?_) (fun h_8 => ?_)
                            · skip
                              exact L152 m (by rw [hst]; first | (rw [if_pos ⟨by assumption, by omega⟩]; done) | (rw [if_neg (fun q => absurd q.1 (by assumption))]; done) | (rw [if_neg (fun q => by omega)]; done))
                            · skip
                              refine g_iload cx (pc2 := 122) 4 rfl dX12_layEnds_120 rfl ?_
                              refine g_aload_n cx (pc2 := 123) 0 rfl dX12_layEnds_122 rfl ?_
                              refine g_iload_n cx (pc2 := 124) 3 rfl dX12_layEnds_123 rfl ?_
                              refine g_aload_n cx (pc2 := 125) 0 rfl dX12_layEnds_124 rfl ?_
                              refine g_iload cx (pc2 := 127) 6 rfl dX12_layEnds_125 rfl ?_
                              refine g_iconst cx (pc2 := 128) dX12_layEnds_127 rfl ?_
                              refine g_callV cx (pc2 := 131) (st := [.int (iI i), .ref 77, .int (iI m)]) (As := [.int (iI k), .int (iI 1)]) (k0 := 77) (ci := 12) (c_X12_needAt (M := W) hn k 1 (by omega) (by omega)) wM_X12_needAt wV_X12_needAt kl_X12_195 rfl (lt_lit hn (Nat.le_of_ble_eq_true rfl)) rfl ⟨rfl, rfl, Nat.le_of_ble_eq_true rfl, Nat.le_of_ble_eq_true rfl⟩ (Nat.le_of_ble_eq_true rfl) cs rfl rfl dX12_layEnds_128 rfl ?_
                              rintro _ _ ⟨rfl, rfl⟩
                              refine g_rwi (y := iI (nA M k 1)) (congrArg iI (nA_off e85 _ _)) ?_
                              refine g_aload_n cx (pc2 := 132) 0 rfl dX12_layEnds_131 rfl ?_
                              refine g_get cx (pc2 := 135) (ci := 12) (k0 := 77) (j := 26) (v := .ref 91) rfl iwX12 rfl (lt_lit hn (Nat.le_of_ble_eq_true rfl)) rfl (Nat.le_of_ble_eq_true rfl) kf_X12_50 rfl rfl dX12_layEnds_132 rfl ?_
                              refine g_bipush cx (pc2 := 137) ⟨by decide, by decide⟩ dX12_layEnds_135 rfl ?_
                              refine g_iload cx (pc2 := 139) 5 rfl dX12_layEnds_137 rfl ?_
                              refine g_imul cx (pc2 := 140) dX12_layEnds_139 rfl ?_
                              refine g_iload cx (pc2 := 142) 6 rfl dX12_layEnds_140 rfl ?_
                              refine g_iadd cx (pc2 := 143) dX12_layEnds_142 rfl ?_
                              refine g_iald cx (pc2 := 144) (k0 := 91) rfl (lt_lit hn (Nat.le_of_ble_eq_true rfl)) (by first | assumption | omega) (by first | assumption | omega) (Nat.le_of_ble_eq_true rfl) dX12_layEnds_143 rfl ?_
                              refine g_rwi (y := iI (W 91 (((8 * ((ndN s.toNat (2 ^ i.toNat) : Nat) : Int)) + k).toNat))) (congrArg iI (by simp [stM])) ?_
                              refine g_rwi (y := iI (W 91 (8 * ndN s.toNat (2 ^ i.toNat) + k.toNat))) (congrArg (fun q => iI (W 91 q)) hidx) ?_
                              refine g_callV cx (pc2 := 147) (st := [.int (iI m)]) (As := [.int (iI i), .int (iI (nA M k 1)), .int (iI (W 91 (8 * ndN s.toNat (2 ^ i.toNat) + k.toNat)))]) (k0 := 77) (ci := 12) (c_X12_endOf (M := W) hn (by first | exact hVW | exact hVU | exact hV) i (nA M k 1) (W 91 (8 * ndN s.toNat (2 ^ i.toNat) + k.toNat)) (by omega) (by first | omega | (have := nA_b hV (i := k) (by omega); omega)) (by omega)) wM_X12_endOf wV_X12_endOf kl_X12_233 rfl (lt_lit hn (Nat.le_of_ble_eq_true rfl)) rfl ⟨rfl, rfl, Nat.le_of_ble_eq_true rfl, Nat.le_of_ble_eq_true rfl⟩ (Nat.le_of_ble_eq_true rfl) cs rfl rfl dX12_layEnds_144 rfl ?_
                              rintro _ _ ⟨rfl, rfl⟩
                              refine g_rwi (y := iI (exB (jbR M) i.toNat (jbR M k.toNat 0) (W 91 (8 * ndN s.toNat (2 ^ i.toNat) + k.toNat)))) (congrArg iI (by rw [eJ, e84, hjk])) ?_
                              have hexv := exB_v hJo (i := i.toNat) (by omega) (p := jbR M k.toNat 0) (f := W 91 (8 * ndN s.toNat (2 ^ i.toNat) + k.toNat)) (hJo k.toNat (by omega)).1 (by omega)
                              refine g_callS cx (pc2 := 150) (st := []) (As := [.int (iI m), .int (iI (exB (jbR M) i.toNat (jbR M k.toNat 0) (W 91 (8 * ndN s.toNat (2 ^ i.toNat) + k.toNat))))]) (c_X12_lesser (M := W) hn m (exB (jbR M) i.toNat (jbR M k.toNat 0) (W 91 (8 * ndN s.toNat (2 ^ i.toNat) + k.toNat))) (by first | assumption | omega) (by first | assumption | omega)) wM_X12_lesser wS_X12_lesser kl_X12_236 ⟨rfl, rfl, Nat.le_of_ble_eq_true rfl, Nat.le_of_ble_eq_true rfl⟩ (Nat.le_of_ble_eq_true rfl) cs rfl rfl dX12_layEnds_147 rfl ?_
                              rintro _ _ ⟨rfl, rfl⟩
                              refine g_istore cx (pc2 := 152) (lv2 := [(0, .ref 77), (1, .int (iI h)), (2, .int (iI s)), (3, .int (iI i)), (4, .int (iI (min m (exB (jbR M) i.toNat (jbR M k.toNat 0) (W 91 (8 * ndN s.toNat (2 ^ i.toNat) + k.toNat)))))), (5, .int (iI ((ndN s.toNat (2 ^ i.toNat) : Nat) : Int))), (6, .int (iI k))]) rfl (Nat.le_of_ble_eq_true rfl) dX12_layEnds_150 rfl ?_
                              exact L152 (min m (exB (jbR M) i.toNat (jbR M k.toNat 0) (W 91 (8 * ndN s.toNat (2 ^ i.toNat) + k.toNat)))) (by rw [hst]; first | (rw [if_pos ⟨by assumption, by omega⟩]; done) | (rw [if_neg (fun q => absurd q.1 (by assumption))]; done) | (rw [if_neg (fun q => by omega)]; done))
                    exact L82 _ 0 1000 (by first | assumption | omega) (by show _ = lsX (jbR M) (M 84 h.toNat) (W 91) (ndN s.toNat (2 ^ i.toNat)) i.toNat 0; rw [lsX]; first | (rw [if_pos (by omega)]; done) | (rw [if_neg (by omega)]; done)) (Nat.le_refl _)
                  · skip
                    refine g_aload_n cx (pc2 := 65) 0 rfl dX12_layEnds_64 rfl ?_
                    refine g_iload_n cx (pc2 := 66) 3 rfl dX12_layEnds_65 rfl ?_
                    refine g_iload_n cx (pc2 := 67) 1 rfl dX12_layEnds_66 rfl ?_
                    refine g_iconst cx (pc2 := 68) dX12_layEnds_67 rfl ?_
                    refine g_callV cx (pc2 := 71) (st := []) (As := [.int (iI i), .int (iI h), .int (iI 0)]) (k0 := 77) (ci := 12) (c_X12_endOf (M := W) hn (by first | exact hVW | exact hVU | exact hV) i h 0 (by omega) (by first | omega | (have := nA_b hV (i := k) (by omega); omega)) (by omega)) wM_X12_endOf wV_X12_endOf kl_X12_233 rfl (lt_lit hn (Nat.le_of_ble_eq_true rfl)) rfl ⟨rfl, rfl, Nat.le_of_ble_eq_true rfl, Nat.le_of_ble_eq_true rfl⟩ (Nat.le_of_ble_eq_true rfl) cs rfl rfl dX12_layEnds_68 rfl ?_
                    rintro _ _ ⟨rfl, rfl⟩
                    refine g_rwi (y := iI (exB (jbR M) i.toNat (M 84 h.toNat) 0)) (congrArg iI (by rw [eJ, e84])) ?_
                    refine g_goto cx (tgt := 77) dX12_layEnds_71 (by decide) ?_
                    refine g_istore cx (pc2 := 79) (lv2 := [(0, .ref 77), (1, .int (iI h)), (2, .int (iI s)), (3, .int (iI i)), (4, .int (iI (exB (jbR M) i.toNat (M 84 h.toNat) 0))), (5, .int (iI ((ndN s.toNat (2 ^ i.toNat) : Nat) : Int)))]) rfl (Nat.le_of_ble_eq_true rfl) dX12_layEnds_77 rfl ?_
                    refine g_iconst cx (pc2 := 80) dX12_layEnds_79 rfl ?_
                    refine g_istore cx (pc2 := 82) (lv2 := [(0, .ref 77), (1, .int (iI h)), (2, .int (iI s)), (3, .int (iI i)), (4, .int (iI (exB (jbR M) i.toNat (M 84 h.toNat) 0))), (5, .int (iI ((ndN s.toNat (2 ^ i.toNat) : Nat) : Int))), (6, .int (iI 0))]) rfl (Nat.le_of_ble_eq_true rfl) dX12_layEnds_80 rfl ?_
                    have L82 : ∀ (fu : Nat) (k : Int) (m : Int), (0 ≤ k ∧ k ≤ M 77 12) → (m = lsX (jbR M) (M 84 h.toNat) (W 91) (ndN s.toNat (2 ^ i.toNat)) i.toNat k.toNat) → (M 77 12 - k).toNat ≤ fu → G X 82 [(0, .ref 77), (1, .int (iI h)), (2, .int (iI s)), (3, .int (iI i)), (4, .int (iI m)), (5, .int (iI ((ndN s.toNat (2 ^ i.toNat) : Nat) : Int))), (6, .int (iI k))] [] W := by
                      intro fu
                      induction fu using Nat.strongRecOn with
                      | _ fu ih82 =>
                        intro k m hk hm hk82
                        have hmv : exV m := by rw [hm]; exact lsX_v hJo hph (by omega) (by omega) (fun j hj q => hrt1 j (by omega) q)
                        have hidx : (8 * ((ndN s.toNat (2 ^ i.toNat) : Nat) : Int) + k).toNat = 8 * ndN s.toNat (2 ^ i.toNat) + k.toNat := by omega
                        have hst : lsX (jbR M) (M 84 h.toNat) (W 91) (ndN s.toNat (2 ^ i.toNat)) i.toNat (k + 1).toNat = if (ndN s.toNat (2 ^ i.toNat)).testBit k.toNat = true ∧ W 91 (8 * ndN s.toNat (2 ^ i.toNat) + k.toNat) < 1000 then min m (exB (jbR M) i.toNat (jbR M k.toNat 0) (W 91 (8 * ndN s.toNat (2 ^ i.toNat) + k.toNat))) else m := by rw [show (k + 1).toNat = k.toNat + 1 by omega, lsX, ← hm]
                        have hjk : jbR M k.toNat 0 = M 84 (nA M k 1).toNat := by show M 84 (nA M ((k.toNat : Nat) : Int) 1).toNat = _; rw [Int.toNat_of_nonneg hk.1]
                        refine g_iload cx (pc2 := 84) 6 rfl dX12_layEnds_82 rfl ?_
                        refine g_aload_n cx (pc2 := 85) 0 rfl dX12_layEnds_84 rfl ?_
                        refine g_get cx (pc2 := 88) (ci := 12) (k0 := 77) (j := 12) (v := .int (iI (W 77 12))) rfl iwX12 rfl (lt_lit hn (Nat.le_of_ble_eq_true rfl)) rfl (Nat.le_of_ble_eq_true rfl) kf_X12_168 rfl rfl dX12_layEnds_85 rfl ?_
                        refine g_rwi (y := iI (M 77 12)) (congrArg iI w12) ?_
                        refine g_icmp_ge cx (pc2 := 91) (tgt := 158) ⟨(by first | assumption | omega), (by first | assumption | omega)⟩ dX12_layEnds_88 (by decide) rfl (fun h_9 => ?_) (fun h_9 => ?_)
                        · skip
                          refine g_aload_n cx (pc2 := 159) 0 rfl dX12_layEnds_158 rfl ?_
                          refine g_get cx (pc2 := 162) (ci := 12) (k0 := 77) (j := 27) (v := .ref 92) rfl iwX12 rfl (lt_lit hn (Nat.le_of_ble_eq_true rfl)) rfl (Nat.le_of_ble_eq_true rfl) kf_X12_53 rfl rfl dX12_layEnds_159 rfl ?_
                          refine g_iload_n cx (pc2 := 163) 2 rfl dX12_layEnds_162 rfl ?_
                          refine g_aload_n cx (pc2 := 164) 0 rfl dX12_layEnds_163 rfl ?_
                          refine g_get cx (pc2 := 167) (ci := 12) (k0 := 77) (j := 27) (v := .ref 92) rfl iwX12 rfl (lt_lit hn (Nat.le_of_ble_eq_true rfl)) rfl (Nat.le_of_ble_eq_true rfl) kf_X12_53 rfl rfl dX12_layEnds_164 rfl ?_
                          refine g_iload_n cx (pc2 := 168) 2 rfl dX12_layEnds_167 rfl ?_
                          refine g_iald cx (pc2 := 169) (k0 := 92) rfl (lt_lit hn (Nat.le_of_ble_eq_true rfl)) (by first | assumption | omega) (by first | assumption | omega) (Nat.le_of_ble_eq_true rfl) dX12_layEnds_168 rfl ?_
                          refine g_rwi (y := iI (W 92 ((s).toNat))) (congrArg iI (by simp [stM])) ?_
                          refine g_iload cx (pc2 := 171) 4 rfl dX12_layEnds_169 rfl ?_
                          refine g_callS cx (pc2 := 174) (st := [.int (iI s), .ref 92]) (As := [.int (iI (W 92 ((s).toNat))), .int (iI m)]) (c_X12_lesser (M := W) hn (W 92 ((s).toNat)) m (by omega) (by omega)) wM_X12_lesser wS_X12_lesser kl_X12_236 ⟨rfl, rfl, Nat.le_of_ble_eq_true rfl, Nat.le_of_ble_eq_true rfl⟩ (Nat.le_of_ble_eq_true rfl) cs rfl rfl dX12_layEnds_171 rfl ?_
                          rintro _ _ ⟨rfl, rfl⟩
                          refine g_iast cx (pc2 := 175) (k0 := 92) rfl (lt_lit hn (Nat.le_of_ble_eq_true rfl)) (by first | assumption | omega) (by first | assumption | omega) (Nat.le_of_ble_eq_true rfl) dX12_layEnds_174 rfl ?_
                          refine g_sub (lv2 := [(0, .ref 77), (1, .int (iI h)), (2, .int (iI s)), (3, .int (iI i)), (4, .int (iI m))]) [0, 1, 2, 3, 4] rfl ?_
                          exact L175 m (stM W 92 (s).toNat (min (W 92 ((s).toNat)) m)) (by first | (refine ⟨?_, Or.inl rfl⟩; unfold flX; rw [if_neg (by assumption)]) | (have ek : k = M 77 12 := (by omega); refine ⟨?_, hmv⟩; unfold flX; rw [if_pos (by assumption), hm, ek])) (by first | (rw [if_pos (by assumption)]; done) | (rw [if_neg (by assumption)]; done))
                        · skip
                          have L152 : ∀ (m2 : Int), (m2 = lsX (jbR M) (M 84 h.toNat) (W 91) (ndN s.toNat (2 ^ i.toNat)) i.toNat (k + 1).toNat) → G X 152 [(0, .ref 77), (1, .int (iI h)), (2, .int (iI s)), (3, .int (iI i)), (4, .int (iI m2)), (5, .int (iI ((ndN s.toNat (2 ^ i.toNat) : Nat) : Int))), (6, .int (iI k))] [] W := by
                            intro m2 hm2
                            refine g_iinc cx (pc2 := 155) 6 rfl (lv2 := [(0, .ref 77), (1, .int (iI h)), (2, .int (iI s)), (3, .int (iI i)), (4, .int (iI m2)), (5, .int (iI ((ndN s.toNat (2 ^ i.toNat) : Nat) : Int))), (6, .int (iI (k + 1)))]) rfl (Nat.le_of_ble_eq_true rfl) dX12_layEnds_152 rfl ?_
                            refine g_goto cx (tgt := 82) dX12_layEnds_155 (by decide) ?_
                            exact ih82 ((M 77 12 - (k + 1)).toNat) (by omega) (k + 1) m2 (by first | assumption | omega) (by exact hm2) (Nat.le_refl _)
                          refine g_iload cx (pc2 := 93) 5 rfl dX12_layEnds_91 rfl ?_
                          refine g_iload cx (pc2 := 95) 6 rfl dX12_layEnds_93 rfl ?_
                          refine g_callS cx (pc2 := 98) (st := []) (As := [.int (iI ((ndN s.toNat (2 ^ i.toNat) : Nat) : Int)), .int (iI k)]) (c_X12_has (M := W) hn ((ndN s.toNat (2 ^ i.toNat) : Nat) : Int) k (by omega) (by omega)) wM_X12_has wS_X12_has kl_X12_220 ⟨rfl, rfl, Nat.le_of_ble_eq_true rfl, Nat.le_of_ble_eq_true rfl⟩ (Nat.le_of_ble_eq_true rfl) cs rfl rfl dX12_layEnds_95 rfl ?_
                          rintro _ _ ⟨rfl, rfl⟩
                          refine g_ifb_eq cx (pc2 := 101) (tgt := 152) dX12_layEnds_98 (by decide) rfl (fun h_10 => ?_) (fun h_10 => ?_)
                          · skip
                            exact L152 m (by rw [hst]; first | (rw [if_pos ⟨by assumption, by omega⟩]; done) | (rw [if_neg (fun q => absurd q.1 (by assumption))]; done) | (rw [if_neg (fun q => by omega)]; done))
                          · skip
                            have hWv := hrt1 k.toNat (by omega) (by assumption)
                            refine g_aload_n cx (pc2 := 102) 0 rfl dX12_layEnds_101 rfl ?_
                            refine g_get cx (pc2 := 105) (ci := 12) (k0 := 77) (j := 26) (v := .ref 91) rfl iwX12 rfl (lt_lit hn (Nat.le_of_ble_eq_true rfl)) rfl (Nat.le_of_ble_eq_true rfl) kf_X12_50 rfl rfl dX12_layEnds_102 rfl ?_
                            refine g_bipush cx (pc2 := 107) ⟨by decide, by decide⟩ dX12_layEnds_105 rfl ?_
                            refine g_iload cx (pc2 := 109) 5 rfl dX12_layEnds_107 rfl ?_
                            refine g_imul cx (pc2 := 110) dX12_layEnds_109 rfl ?_
                            refine g_iload cx (pc2 := 112) 6 rfl dX12_layEnds_110 rfl ?_
                            refine g_iadd cx (pc2 := 113) dX12_layEnds_112 rfl ?_
                            refine g_iald cx (pc2 := 114) (k0 := 91) rfl (lt_lit hn (Nat.le_of_ble_eq_true rfl)) (by first | assumption | omega) (by first | assumption | omega) (Nat.le_of_ble_eq_true rfl) dX12_layEnds_113 rfl ?_
                            refine g_rwi (y := iI (W 91 (((8 * ((ndN s.toNat (2 ^ i.toNat) : Nat) : Int)) + k).toNat))) (congrArg iI (by simp [stM])) ?_
                            refine g_rwi (y := iI (W 91 (8 * ndN s.toNat (2 ^ i.toNat) + k.toNat))) (congrArg (fun q => iI (W 91 q)) hidx) ?_
                            refine g_sipush cx (pc2 := 117) ⟨by decide, by decide⟩ dX12_layEnds_114 rfl ?_
                            refine g_icmp_ge cx (pc2 := 120) (tgt := 152) ⟨(by first | assumption | omega), ⟨by decide, by decide⟩⟩ dX12_layEnds_117 (by decide) rfl (fun h_11 => ?_) (fun h_11 => ?_)
                            · skip
                              exact L152 m (by rw [hst]; first | (rw [if_pos ⟨by assumption, by omega⟩]; done) | (rw [if_neg (fun q => absurd q.1 (by assumption))]; done) | (rw [if_neg (fun q => by omega)]; done))
                            · skip
                              refine g_iload cx (pc2 := 122) 4 rfl dX12_layEnds_120 rfl ?_
                              refine g_aload_n cx (pc2 := 123) 0 rfl dX12_layEnds_122 rfl ?_
                              refine g_iload_n cx (pc2 := 124) 3 rfl dX12_layEnds_123 rfl ?_
                              refine g_aload_n cx (pc2 := 125) 0 rfl dX12_layEnds_124 rfl ?_
                              refine g_iload cx (pc2 := 127) 6 rfl dX12_layEnds_125 rfl ?_
                              refine g_iconst cx (pc2 := 128) dX12_layEnds_127 rfl ?_
                              refine g_callV cx (pc2 := 131) (st := [.int (iI i), .ref 77, .int (iI m)]) (As := [.int (iI k), .int (iI 1)]) (k0 := 77) (ci := 12) (c_X12_needAt (M := W) hn k 1 (by omega) (by omega)) wM_X12_needAt wV_X12_needAt kl_X12_195 rfl (lt_lit hn (Nat.le_of_ble_eq_true rfl)) rfl ⟨rfl, rfl, Nat.le_of_ble_eq_true rfl, Nat.le_of_ble_eq_true rfl⟩ (Nat.le_of_ble_eq_true rfl) cs rfl rfl dX12_layEnds_128 rfl ?_
                              rintro _ _ ⟨rfl, rfl⟩
                              refine g_rwi (y := iI (nA M k 1)) (congrArg iI (nA_off e85 _ _)) ?_
                              refine g_aload_n cx (pc2 := 132) 0 rfl dX12_layEnds_131 rfl ?_
                              refine g_get cx (pc2 := 135) (ci := 12) (k0 := 77) (j := 26) (v := .ref 91) rfl iwX12 rfl (lt_lit hn (Nat.le_of_ble_eq_true rfl)) rfl (Nat.le_of_ble_eq_true rfl) kf_X12_50 rfl rfl dX12_layEnds_132 rfl ?_
                              refine g_bipush cx (pc2 := 137) ⟨by decide, by decide⟩ dX12_layEnds_135 rfl ?_
                              refine g_iload cx (pc2 := 139) 5 rfl dX12_layEnds_137 rfl ?_
                              refine g_imul cx (pc2 := 140) dX12_layEnds_139 rfl ?_
                              refine g_iload cx (pc2 := 142) 6 rfl dX12_layEnds_140 rfl ?_
                              refine g_iadd cx (pc2 := 143) dX12_layEnds_142 rfl ?_
                              refine g_iald cx (pc2 := 144) (k0 := 91) rfl (lt_lit hn (Nat.le_of_ble_eq_true rfl)) (by first | assumption | omega) (by first | assumption | omega) (Nat.le_of_ble_eq_true rfl) dX12_layEnds_143 rfl ?_
                              refine g_rwi (y := iI (W 91 (((8 * ((ndN s.toNat (2 ^ i.toNat) : Nat) : Int)) + k).toNat))) (congrArg iI (by simp [stM])) ?_
                              refine g_rwi (y := iI (W 91 (8 * ndN s.toNat (2 ^ i.toNat) + k.toNat))) (congrArg (fun q => iI (W 91 q)) hidx) ?_
                              refine g_callV cx (pc2 := 147) (st := [.int (iI m)]) (As := [.int (iI i), .int (iI (nA M k 1)), .int (iI (W 91 (8 * ndN s.toNat (2 ^ i.toNat) + k.toNat)))]) (k0 := 77) (ci := 12) (c_X12_endOf (M := W) hn (by first | exact hVW | exact hVU | exact hV) i (nA M k 1) (W 91 (8 * ndN s.toNat (2 ^ i.toNat) + k.toNat)) (by omega) (by first | omega | (have := nA_b hV (i := k) (by omega); omega)) (by omega)) wM_X12_endOf wV_X12_endOf kl_X12_233 rfl (lt_lit hn (Nat.le_of_ble_eq_true rfl)) rfl ⟨rfl, rfl, Nat.le_of_ble_eq_true rfl, Nat.le_of_ble_eq_true rfl⟩ (Nat.le_of_ble_eq_true rfl) cs rfl rfl dX12_layEnds_144 rfl ?_
                              rintro _ _ ⟨rfl, rfl⟩
                              refine g_rwi (y := iI (exB (jbR M) i.toNat (jbR M k.toNat 0) (W 91 (8 * ndN s.toNat (2 ^ i.toNat) + k.toNat)))) (congrArg iI (by rw [eJ, e84, hjk])) ?_
                              have hexv := exB_v hJo (i := i.toNat) (by omega) (p := jbR M k.toNat 0) (f := W 91 (8 * ndN s.toNat (2 ^ i.toNat) + k.toNat)) (hJo k.toNat (by omega)).1 (by omega)
                              refine g_callS cx (pc2 := 150) (st := []) (As := [.int (iI m), .int (iI (exB (jbR M) i.toNat (jbR M k.toNat 0) (W 91 (8 * ndN s.toNat (2 ^ i.toNat) + k.toNat))))]) (c_X12_lesser (M := W) hn m (exB (jbR M) i.toNat (jbR M k.toNat 0) (W 91 (8 * ndN s.toNat (2 ^ i.toNat) + k.toNat))) (by first | assumption | omega) (by first | assumption | omega)) wM_X12_lesser wS_X12_lesser kl_X12_236 ⟨rfl, rfl, Nat.le_of_ble_eq_true rfl, Nat.le_of_ble_eq_true rfl⟩ (Nat.le_of_ble_eq_true rfl) cs rfl rfl dX12_layEnds_147 rfl ?_
                              rintro _ _ ⟨rfl, rfl⟩
                              refine g_istore cx (pc2 := 152) (lv2 := [(0, .ref 77), (1, .int (iI h)), (2, .int (iI s)), (3, .int (iI i)), (4, .int (iI (min m (exB (jbR M) i.toNat (jbR M k.toNat 0) (W 91 (8 * ndN s.toNat (2 ^ i.toNat) + k.toNat)))))), (5, .int (iI ((ndN s.toNat (2 ^ i.toNat) : Nat) : Int))), (6, .int (iI k))]) rfl (Nat.le_of_ble_eq_true rfl) dX12_layEnds_150 rfl ?_
                              exact L152 (min m (exB (jbR M) i.toNat (jbR M k.toNat 0) (W 91 (8 * ndN s.toNat (2 ^ i.toNat) + k.toNat)))) (by rw [hst]; first | (rw [if_pos ⟨by assumption, by omega⟩]; done) | (rw [if_neg (fun q => absurd q.1 (by assumption))]; done) | (rw [if_neg (fun q => by omega)]; done))
                    exact L82 _ 0 (exB (jbR M) i.toNat (M 84 h.toNat) 0) (by first | assumption | omega) (by show _ = lsX (jbR M) (M 84 h.toNat) (W 91) (ndN s.toNat (2 ^ i.toNat)) i.toNat 0; rw [lsX]; first | (rw [if_pos (by omega)]; done) | (rw [if_neg (by omega)]; done)) (Nat.le_refl _)
          exact L29 _ 0 (stM U 92 (s).toNat 1000) (by first | assumption | omega) (by intro a h1 h2; rw [stM_off h2]; exact hU a h1 h2) (by intro t ht; refine LQ_cong hn8 (fun b _ => by rw [stM_off (by decide)]) ?_ (hL t ht); rw [stM_ne _ _ (Or.inr (by omega))]) (by intro t ht i hi; rw [stM_off (by decide)]; exact hFv t ht i hi) (by intro j hj; omega) (by rw [stM_at, show (0 : Int).toNat = 0 from rfl, elX]; first | (rw [if_pos (by omega)]; done) | (rw [if_neg (by omega)]; done)) (Nat.le_refl _)
        · skip
          refine g_iconst cx (pc2 := 20) dX12_layEnds_19 rfl ?_
          refine g_goto cx (tgt := 26) dX12_layEnds_20 (by decide) ?_
          refine g_iast cx (pc2 := 27) (k0 := 92) rfl (lt_lit hn (Nat.le_of_ble_eq_true rfl)) (by first | assumption | omega) (by first | assumption | omega) (Nat.le_of_ble_eq_true rfl) dX12_layEnds_26 rfl ?_
          refine g_iconst cx (pc2 := 28) dX12_layEnds_27 rfl ?_
          refine g_istore_n cx (pc2 := 29) (lv2 := [(0, .ref 77), (1, .int (iI h)), (2, .int (iI s)), (3, .int (iI 0))]) rfl (Nat.le_of_ble_eq_true rfl) dX12_layEnds_28 rfl ?_
          have L29 : ∀ (fu : Nat) (i : Int) (W : Mm), (0 ≤ i ∧ i ≤ M 77 12) → (∀ a, a ≠ 91 → a ≠ 92 → W a = M a) → (∀ t : Nat, (t : Int) < s → LQ (jbR M) (M 84 h.toNat) (M 77 12).toNat (W 91) (W 92) t) → (∀ t : Nat, (t : Int) < s → ∀ i : Nat, i < (M 77 12).toNat → exV (W 91 (8 * t + i))) → (∀ j : Nat, (j : Int) < i → W 91 (8 * s.toNat + j) = flX (jbR M) (M 84 h.toNat) (W 91) (M 77 12).toNat s.toNat j ∧ exV (W 91 (8 * s.toNat + j))) → (W 92 s.toNat = elX (W 91) s.toNat i.toNat) → (M 77 12 - i).toNat ≤ fu → G X 29 [(0, .ref 77), (1, .int (iI h)), (2, .int (iI s)), (3, .int (iI i))] [] W := by
            intro fu
            induction fu using Nat.strongRecOn with
            | _ fu ih29 =>
              intro i W hi hW hL2 hB2 hF hE hk29
              have w77 := hW 77 (by decide) (by decide)
              have w12 : W 77 12 = M 77 12 := by rw [w77]
              have hVW : RV W := hV.of (hW 84 (by decide) (by decide)) (hW 85 (by decide) (by decide)) (hW 86 (by decide) (by decide)) (by rw [w77]) (by rw [w77]) (by rw [w77])
              have eJ : jbR W = jbR M := jbR_off (hW 84 (by decide) (by decide)) (hW 85 (by decide) (by decide))
              have e84 := hW 84 (by decide) (by decide)
              have e85 := hW 85 (by decide) (by decide)
              have hEv : exV (W 92 s.toNat) := by rw [hE]; exact elX_v (fun j hj => (hF j (by omega)).2)
              have hrl := ndN_le s.toNat (2 ^ i.toNat)
              have hrt : hB s i → ∀ k : Nat, k < (M 77 12).toNat → (ndN s.toNat (2 ^ i.toNat)).testBit k = true → exV (W 91 (8 * ndN s.toNat (2 ^ i.toNat) + k)) := fun q k hk _ => by have := ndN_lt q; exact hB2 _ (by omega) k hk
              refine g_iload_n cx (pc2 := 30) 3 rfl dX12_layEnds_29 rfl ?_
              refine g_aload_n cx (pc2 := 31) 0 rfl dX12_layEnds_30 rfl ?_
              refine g_get cx (pc2 := 34) (ci := 12) (k0 := 77) (j := 12) (v := .int (iI (W 77 12))) rfl iwX12 rfl (lt_lit hn (Nat.le_of_ble_eq_true rfl)) rfl (Nat.le_of_ble_eq_true rfl) kf_X12_168 rfl rfl dX12_layEnds_31 rfl ?_
              refine g_rwi (y := iI (M 77 12)) (congrArg iI w12) ?_
              refine g_icmp_ge cx (pc2 := 37) (tgt := 194) ⟨(by first | assumption | omega), (by first | assumption | omega)⟩ dX12_layEnds_34 (by decide) rfl (fun h_12 => ?_) (fun h_12 => ?_)
              · skip
                refine g_iinc cx (pc2 := 197) 2 rfl (lv2 := [(0, .ref 77), (1, .int (iI h)), (2, .int (iI (s + 1))), (3, .int (iI i))]) rfl (Nat.le_of_ble_eq_true rfl) dX12_layEnds_194 rfl ?_
                refine g_goto cx (tgt := 2) dX12_layEnds_197 (by decide) ?_
                refine g_sub (lv2 := [(0, .ref 77), (1, .int (iI h)), (2, .int (iI (s + 1)))]) [0, 1, 2] rfl ?_
                exact ih2 ((((allN (M 77 12) : Nat) : Int) + 1 - (s + 1)).toNat) (by omega) (s + 1) W (by first | assumption | omega) (by exact hW) (by intro t ht; rcases (show (t : Int) < s ∨ t = s.toNat by omega) with q | q; exact hL2 t q; (subst q; refine ⟨fun j hj => (hF j (by omega)).1, ?_⟩; rw [hE, show i = M 77 12 by omega])) (by intro t ht j hj; rcases (show (t : Int) < s ∨ t = s.toNat by omega) with q | q; exact hB2 t q j hj; (subst q; exact (hF j (by omega)).2)) (Nat.le_refl _)
              · skip
                refine g_sipush cx (pc2 := 40) ⟨by decide, by decide⟩ dX12_layEnds_37 rfl ?_
                refine g_istore cx (pc2 := 42) (lv2 := [(0, .ref 77), (1, .int (iI h)), (2, .int (iI s)), (3, .int (iI i)), (4, .int (iI 1000))]) rfl (Nat.le_of_ble_eq_true rfl) dX12_layEnds_40 rfl ?_
                have L175 : ∀ (v : Int) (W2 : Mm), (v = flX (jbR M) (M 84 h.toNat) (W 91) (M 77 12).toNat s.toNat i.toNat ∧ exV v) → (W2 = if hB s i then stM W 92 s.toNat (min (W 92 s.toNat) v) else W) → G X 175 [(0, .ref 77), (1, .int (iI h)), (2, .int (iI s)), (3, .int (iI i)), (4, .int (iI v))] [] W2 := by
                  intro v W2 hv hW2
                  refine g_aload_n cx (pc2 := 176) 0 rfl dX12_layEnds_175 rfl ?_
                  refine g_get cx (pc2 := 179) (ci := 12) (k0 := 77) (j := 26) (v := .ref 91) rfl iwX12 rfl (lt_lit hn (Nat.le_of_ble_eq_true rfl)) rfl (Nat.le_of_ble_eq_true rfl) kf_X12_50 rfl rfl dX12_layEnds_176 rfl ?_
                  refine g_bipush cx (pc2 := 181) ⟨by decide, by decide⟩ dX12_layEnds_179 rfl ?_
                  refine g_iload_n cx (pc2 := 182) 2 rfl dX12_layEnds_181 rfl ?_
                  refine g_imul cx (pc2 := 183) dX12_layEnds_182 rfl ?_
                  refine g_iload_n cx (pc2 := 184) 3 rfl dX12_layEnds_183 rfl ?_
                  refine g_iadd cx (pc2 := 185) dX12_layEnds_184 rfl ?_
                  refine g_iload cx (pc2 := 187) 4 rfl dX12_layEnds_185 rfl ?_
                  refine g_iast cx (pc2 := 188) (k0 := 91) rfl (lt_lit hn (Nat.le_of_ble_eq_true rfl)) (by first | assumption | omega) (by first | assumption | omega) (Nat.le_of_ble_eq_true rfl) dX12_layEnds_187 rfl ?_
                  refine g_iinc cx (pc2 := 191) 3 rfl (lv2 := [(0, .ref 77), (1, .int (iI h)), (2, .int (iI s)), (3, .int (iI (i + 1))), (4, .int (iI v))]) rfl (Nat.le_of_ble_eq_true rfl) dX12_layEnds_188 rfl ?_
                  refine g_goto cx (tgt := 29) dX12_layEnds_191 (by decide) ?_
                  refine g_sub (lv2 := [(0, .ref 77), (1, .int (iI h)), (2, .int (iI s)), (3, .int (iI (i + 1)))]) [0, 1, 2, 3] rfl ?_
                  exact ih29 ((M 77 12 - (i + 1)).toNat) (by omega) (i + 1) (stM W2 91 (((8 * s) + i)).toNat v) (by first | assumption | omega) (by intro a h1 h2; rw [stM_off h1, hW2]; split; (rw [stM_off h2]; exact hW a h1 h2); exact hW a h1 h2) (by exact LQ_sav hn8 hL2 hW2 (by omega)) (by intro t ht j hj; rw [stM_ne _ _ (Or.inr (by omega)), hW2]; split; (rw [stM_off (by decide)]; exact hB2 t ht j hj); exact hB2 t ht j hj) (by exact F_sav hn8 (by omega) hF hv hW2) (by exact E_sav (by omega) hE hW2 (by omega)) (Nat.le_refl _)
                refine g_iload_n cx (pc2 := 43) 2 rfl dX12_layEnds_42 rfl ?_
                refine g_iload_n cx (pc2 := 44) 3 rfl dX12_layEnds_43 rfl ?_
                refine g_callS cx (pc2 := 47) (st := []) (As := [.int (iI s), .int (iI i)]) (c_X12_has (M := W) hn s i (by omega) (by omega)) wM_X12_has wS_X12_has kl_X12_220 ⟨rfl, rfl, Nat.le_of_ble_eq_true rfl, Nat.le_of_ble_eq_true rfl⟩ (Nat.le_of_ble_eq_true rfl) cs rfl rfl dX12_layEnds_44 rfl ?_
                rintro _ _ ⟨rfl, rfl⟩
                have hp2 := p8 (i := i) (by omega)
                have hp3 : (0 : Int) ≤ ((2 ^ i.toNat : Nat) : Int) := Int.natCast_nonneg _
                refine g_ifb_eq cx (pc2 := 50) (tgt := 175) dX12_layEnds_47 (by decide) rfl (fun h_13 => ?_) (fun h_13 => ?_)
                · skip
                  exact L175 1000 W (by first | (refine ⟨?_, Or.inl rfl⟩; unfold flX; rw [if_neg (by assumption)]) | (have ek : k = M 77 12 := (by omega); refine ⟨?_, hmv⟩; unfold flX; rw [if_pos (by assumption), hm, ek])) (by first | (rw [if_pos (by assumption)]; done) | (rw [if_neg (by assumption)]; done))
                · skip
                  have hrt1 := hrt (by assumption)
                  refine g_iload_n cx (pc2 := 51) 2 rfl dX12_layEnds_50 rfl ?_
                  refine g_iconst cx (pc2 := 52) dX12_layEnds_51 rfl ?_
                  refine g_iload_n cx (pc2 := 53) 3 rfl dX12_layEnds_52 rfl ?_
                  refine g_ishl cx (pc2 := 54) dX12_layEnds_53 rfl ?_
                  refine g_rwi (y := iI ((2 ^ i.toNat : Nat) : Int)) (sh1 (by omega) (by omega)) ?_
                  refine g_iconst cx (pc2 := 55) dX12_layEnds_54 rfl ?_
                  refine g_ixor cx (pc2 := 56) dX12_layEnds_55 rfl ?_
                  refine g_iand cx (pc2 := 57) dX12_layEnds_56 rfl ?_
                  refine g_rwi (y := iI ((ndN s.toNat (2 ^ i.toNat) : Nat) : Int)) (nd_iI (by omega) (by omega)) ?_
                  refine g_istore cx (pc2 := 59) (lv2 := [(0, .ref 77), (1, .int (iI h)), (2, .int (iI s)), (3, .int (iI i)), (4, .int (iI 1000)), (5, .int (iI ((ndN s.toNat (2 ^ i.toNat) : Nat) : Int)))]) rfl (Nat.le_of_ble_eq_true rfl) dX12_layEnds_57 rfl ?_
                  refine g_iload cx (pc2 := 61) 5 rfl dX12_layEnds_59 rfl ?_
                  refine g_if_ne cx (pc2 := 64) (tgt := 74) (by first | assumption | omega) dX12_layEnds_61 (by decide) rfl (fun h_14 => ?_) (fun h_14 => ?_)
                  · skip
                    refine g_sipush cx (pc2 := 77) ⟨by decide, by decide⟩ dX12_layEnds_74 rfl ?_
                    refine g_istore cx (pc2 := 79) (lv2 := [(0, .ref 77), (1, .int (iI h)), (2, .int (iI s)), (3, .int (iI i)), (4, .int (iI 1000)), (5, .int (iI ((ndN s.toNat (2 ^ i.toNat) : Nat) : Int)))]) rfl (Nat.le_of_ble_eq_true rfl) dX12_layEnds_77 rfl ?_
                    refine g_iconst cx (pc2 := 80) dX12_layEnds_79 rfl ?_
                    refine g_istore cx (pc2 := 82) (lv2 := [(0, .ref 77), (1, .int (iI h)), (2, .int (iI s)), (3, .int (iI i)), (4, .int (iI 1000)), (5, .int (iI ((ndN s.toNat (2 ^ i.toNat) : Nat) : Int))), (6, .int (iI 0))]) rfl (Nat.le_of_ble_eq_true rfl) dX12_layEnds_80 rfl ?_
                    have L82 : ∀ (fu : Nat) (k : Int) (m : Int), (0 ≤ k ∧ k ≤ M 77 12) → (m = lsX (jbR M) (M 84 h.toNat) (W 91) (ndN s.toNat (2 ^ i.toNat)) i.toNat k.toNat) → (M 77 12 - k).toNat ≤ fu → G X 82 [(0, .ref 77), (1, .int (iI h)), (2, .int (iI s)), (3, .int (iI i)), (4, .int (iI m)), (5, .int (iI ((ndN s.toNat (2 ^ i.toNat) : Nat) : Int))), (6, .int (iI k))] [] W := by
                      intro fu
                      induction fu using Nat.strongRecOn with
                      | _ fu ih82 =>
                        intro k m hk hm hk82
                        have hmv : exV m := by rw [hm]; exact lsX_v hJo hph (by omega) (by omega) (fun j hj q => hrt1 j (by omega) q)
                        have hidx : (8 * ((ndN s.toNat (2 ^ i.toNat) : Nat) : Int) + k).toNat = 8 * ndN s.toNat (2 ^ i.toNat) + k.toNat := by omega
                        have hst : lsX (jbR M) (M 84 h.toNat) (W 91) (ndN s.toNat (2 ^ i.toNat)) i.toNat (k + 1).toNat = if (ndN s.toNat (2 ^ i.toNat)).testBit k.toNat = true ∧ W 91 (8 * ndN s.toNat (2 ^ i.toNat) + k.toNat) < 1000 then min m (exB (jbR M) i.toNat (jbR M k.toNat 0) (W 91 (8 * ndN s.toNat (2 ^ i.toNat) + k.toNat))) else m := by rw [show (k + 1).toNat = k.toNat + 1 by omega, lsX, ← hm]
                        have hjk : jbR M k.toNat 0 = M 84 (nA M k 1).toNat := by show M 84 (nA M ((k.toNat : Nat) : Int) 1).toNat = _; rw [Int.toNat_of_nonneg hk.1]
                        refine g_iload cx (pc2 := 84) 6 rfl dX12_layEnds_82 rfl ?_
                        refine g_aload_n cx (pc2 := 85) 0 rfl dX12_layEnds_84 rfl ?_
                        refine g_get cx (pc2 := 88) (ci := 12) (k0 := 77) (j := 12) (v := .int (iI (W 77 12))) rfl iwX12 rfl (lt_lit hn (Nat.le_of_ble_eq_true rfl)) rfl (Nat.le_of_ble_eq_true rfl) kf_X12_168 rfl rfl dX12_layEnds_85 rfl ?_
                        refine g_rwi (y := iI (M 77 12)) (congrArg iI w12) ?_
                        refine g_icmp_ge cx (pc2 := 91) (tgt := 158) ⟨(by first | assumption | omega), (by first | assumption | omega)⟩ dX12_layEnds_88 (by decide) rfl (fun h_15 => ?_) (fun h_15 => ?_)
                        · skip
                          refine g_aload_n cx (pc2 := 159) 0 rfl dX12_layEnds_158 rfl ?_
                          refine g_get cx (pc2 := 162) (ci := 12) (k0 := 77) (j := 27) (v := .ref 92) rfl iwX12 rfl (lt_lit hn (Nat.le_of_ble_eq_true rfl)) rfl (Nat.le_of_ble_eq_true rfl) kf_X12_53 rfl rfl dX12_layEnds_159 rfl ?_
                          refine g_iload_n cx (pc2 := 163) 2 rfl dX12_layEnds_162 rfl ?_
                          refine g_aload_n cx (pc2 := 164) 0 rfl dX12_layEnds_163 rfl ?_
                          refine g_get cx (pc2 := 167) (ci := 12) (k0 := 77) (j := 27) (v := .ref 92) rfl iwX12 rfl (lt_lit hn (Nat.le_of_ble_eq_true rfl)) rfl (Nat.le_of_ble_eq_true rfl) kf_X12_53 rfl rfl dX12_layEnds_164 rfl ?_
                          refine g_iload_n cx (pc2 := 168) 2 rfl dX12_layEnds_167 rfl ?_
                          refine g_iald cx (pc2 := 169) (k0 := 92) rfl (lt_lit hn (Nat.le_of_ble_eq_true rfl)) (by first | assumption | omega) (by first | assumption | omega) (Nat.le_of_ble_eq_true rfl) dX12_layEnds_168 rfl ?_
                          refine g_rwi (y := iI (W 92 ((s).toNat))) (congrArg iI (by simp [stM])) ?_
                          refine g_iload cx (pc2 := 171) 4 rfl dX12_layEnds_169 rfl ?_
                          refine g_callS cx (pc2 := 174) (st := [.int (iI s), .ref 92]) (As := [.int (iI (W 92 ((s).toNat))), .int (iI m)]) (c_X12_lesser (M := W) hn (W 92 ((s).toNat)) m (by omega) (by omega)) wM_X12_lesser wS_X12_lesser kl_X12_236 ⟨rfl, rfl, Nat.le_of_ble_eq_true rfl, Nat.le_of_ble_eq_true rfl⟩ (Nat.le_of_ble_eq_true rfl) cs rfl rfl dX12_layEnds_171 rfl ?_
                          rintro _ _ ⟨rfl, rfl⟩
                          refine g_iast cx (pc2 := 175) (k0 := 92) rfl (lt_lit hn (Nat.le_of_ble_eq_true rfl)) (by first | assumption | omega) (by first | assumption | omega) (Nat.le_of_ble_eq_true rfl) dX12_layEnds_174 rfl ?_
                          refine g_sub (lv2 := [(0, .ref 77), (1, .int (iI h)), (2, .int (iI s)), (3, .int (iI i)), (4, .int (iI m))]) [0, 1, 2, 3, 4] rfl ?_
                          exact L175 m (stM W 92 (s).toNat (min (W 92 ((s).toNat)) m)) (by first | (refine ⟨?_, Or.inl rfl⟩; unfold flX; rw [if_neg (by assumption)]) | (have ek : k = M 77 12 := (by omega); refine ⟨?_, hmv⟩; unfold flX; rw [if_pos (by assumption), hm, ek])) (by first | (rw [if_pos (by assumption)]; done) | (rw [if_neg (by assumption)]; done))
                        · skip
                          have L152 : ∀ (m2 : Int), (m2 = lsX (jbR M) (M 84 h.toNat) (W 91) (ndN s.toNat (2 ^ i.toNat)) i.toNat (k + 1).toNat) → G X 152 [(0, .ref 77), (1, .int (iI h)), (2, .int (iI s)), (3, .int (iI i)), (4, .int (iI m2)), (5, .int (iI ((ndN s.toNat (2 ^ i.toNat) : Nat) : Int))), (6, .int (iI k))] [] W := by
                            intro m2 hm2
                            refine g_iinc cx (pc2 := 155) 6 rfl (lv2 := [(0, .ref 77), (1, .int (iI h)), (2, .int (iI s)), (3, .int (iI i)), (4, .int (iI m2)), (5, .int (iI ((ndN s.toNat (2 ^ i.toNat) : Nat) : Int))), (6, .int (iI (k + 1)))]) rfl (Nat.le_of_ble_eq_true rfl) dX12_layEnds_152 rfl ?_
                            refine g_goto cx (tgt := 82) dX12_layEnds_155 (by decide) ?_
                            exact ih82 ((M 77 12 - (k + 1)).toNat) (by omega) (k + 1) m2 (by first | assumption | omega) (by exact hm2) (Nat.le_refl _)
                          refine g_iload cx (pc2 := 93) 5 rfl dX12_layEnds_91 rfl ?_
                          refine g_iload cx (pc2 := 95) 6 rfl dX12_layEnds_93 rfl ?_
                          refine g_callS cx (pc2 := 98) (st := []) (As := [.int (iI ((ndN s.toNat (2 ^ i.toNat) : Nat) : Int)), .int (iI k)]) (c_X12_has (M := W) hn ((ndN s.toNat (2 ^ i.toNat) : Nat) : Int) k (by omega) (by omega)) wM_X12_has wS_X12_has kl_X12_220 ⟨rfl, rfl, Nat.le_of_ble_eq_true rfl, Nat.le_of_ble_eq_true rfl⟩ (Nat.le_of_ble_eq_true rfl) cs rfl rfl dX12_layEnds_95 rfl ?_
                          rintro _ _ ⟨rfl, rfl⟩
                          refine g_ifb_eq cx (pc2 := 101) (tgt := 152) dX12_layEnds_98 (by decide) rfl (fun h_16 => ?_) (fun h_16 => ?_)
                          · skip
                            exact L152 m (by rw [hst]; first | (rw [if_pos ⟨by assumption, by omega⟩]; done) | (rw [if_neg (fun q => absurd q.1 (by assumption))]; done) | (rw [if_neg (fun q => by omega)]; done))
                          · skip
                            have hWv := hrt1 k.toNat (by omega) (by assumption)
                            refine g_aload_n cx (pc2 := 102) 0 rfl dX12_layEnds_101 rfl ?_
                            refine g_get cx (pc2 := 105) (ci := 12) (k0 := 77) (j := 26) (v := .ref 91) rfl iwX12 rfl (lt_lit hn (Nat.le_of_ble_eq_true rfl)) rfl (Nat.le_of_ble_eq_true rfl) kf_X12_50 rfl rfl dX12_layEnds_102 rfl ?_
                            refine g_bipush cx (pc2 := 107) ⟨by decide, by decide⟩ dX12_layEnds_105 rfl ?_
                            refine g_iload cx (pc2 := 109) 5 rfl dX12_layEnds_107 rfl ?_
                            refine g_imul cx (pc2 := 110) dX12_layEnds_109 rfl ?_
                            refine g_iload cx (pc2 := 112) 6 rfl dX12_layEnds_110 rfl ?_
                            refine g_iadd cx (pc2 := 113) dX12_layEnds_112 rfl ?_
                            refine g_iald cx (pc2 := 114) (k0 := 91) rfl (lt_lit hn (Nat.le_of_ble_eq_true rfl)) (by first | assumption | omega) (by first | assumption | omega) (Nat.le_of_ble_eq_true rfl) dX12_layEnds_113 rfl ?_
                            refine g_rwi (y := iI (W 91 (((8 * ((ndN s.toNat (2 ^ i.toNat) : Nat) : Int)) + k).toNat))) (congrArg iI (by simp [stM])) ?_
                            refine g_rwi (y := iI (W 91 (8 * ndN s.toNat (2 ^ i.toNat) + k.toNat))) (congrArg (fun q => iI (W 91 q)) hidx) ?_
                            refine g_sipush cx (pc2 := 117) ⟨by decide, by decide⟩ dX12_layEnds_114 rfl ?_
                            refine g_icmp_ge cx (pc2 := 120) (tgt := 152) ⟨(by first | assumption | omega), ⟨by decide, by decide⟩⟩ dX12_layEnds_117 (by decide) rfl (fun h_17 => ?_) (fun h_17 => ?_)
                            · skip
                              exact L152 m (by rw [hst]; first | (rw [if_pos ⟨by assumption, by omega⟩]; done) | (rw [if_neg (fun q => absurd q.1 (by assumption))]; done) | (rw [if_neg (fun q => by omega)]; done))
                            · skip
                              refine g_iload cx (pc2 := 122) 4 rfl dX12_layEnds_120 rfl ?_
                              refine g_aload_n cx (pc2 := 123) 0 rfl dX12_layEnds_122 rfl ?_
                              refine g_iload_n cx (pc2 := 124) 3 rfl dX12_layEnds_123 rfl ?_
                              refine g_aload_n cx (pc2 := 125) 0 rfl dX12_layEnds_124 rfl ?_
                              refine g_iload cx (pc2 := 127) 6 rfl dX12_layEnds_125 rfl ?_
                              refine g_iconst cx (pc2 := 128) dX12_layEnds_127 rfl ?_
                              refine g_callV cx (pc2 := 131) (st := [.int (iI i), .ref 77, .int (iI m)]) (As := [.int (iI k), .int (iI 1)]) (k0 := 77) (ci := 12) (c_X12_needAt (M := W) hn k 1 (by omega) (by omega)) wM_X12_needAt wV_X12_needAt kl_X12_195 rfl (lt_lit hn (Nat.le_of_ble_eq_true rfl)) rfl ⟨rfl, rfl, Nat.le_of_ble_eq_true rfl, Nat.le_of_ble_eq_true rfl⟩ (Nat.le_of_ble_eq_true rfl) cs rfl rfl dX12_layEnds_128 rfl ?_
                              rintro _ _ ⟨rfl, rfl⟩
                              refine g_rwi (y := iI (nA M k 1)) (congrArg iI (nA_off e85 _ _)) ?_
                              refine g_aload_n cx (pc2 := 132) 0 rfl dX12_layEnds_131 rfl ?_
                              refine g_get cx (pc2 := 135) (ci := 12) (k0 := 77) (j := 26) (v := .ref 91) rfl iwX12 rfl (lt_lit hn (Nat.le_of_ble_eq_true rfl)) rfl (Nat.le_of_ble_eq_true rfl) kf_X12_50 rfl rfl dX12_layEnds_132 rfl ?_
                              refine g_bipush cx (pc2 := 137) ⟨by decide, by decide⟩ dX12_layEnds_135 rfl ?_
                              refine g_iload cx (pc2 := 139) 5 rfl dX12_layEnds_137 rfl ?_
                              refine g_imul cx (pc2 := 140) dX12_layEnds_139 rfl ?_
                              refine g_iload cx (pc2 := 142) 6 rfl dX12_layEnds_140 rfl ?_
                              refine g_iadd cx (pc2 := 143) dX12_layEnds_142 rfl ?_
                              refine g_iald cx (pc2 := 144) (k0 := 91) rfl (lt_lit hn (Nat.le_of_ble_eq_true rfl)) (by first | assumption | omega) (by first | assumption | omega) (Nat.le_of_ble_eq_true rfl) dX12_layEnds_143 rfl ?_
                              refine g_rwi (y := iI (W 91 (((8 * ((ndN s.toNat (2 ^ i.toNat) : Nat) : Int)) + k).toNat))) (congrArg iI (by simp [stM])) ?_
                              refine g_rwi (y := iI (W 91 (8 * ndN s.toNat (2 ^ i.toNat) + k.toNat))) (congrArg (fun q => iI (W 91 q)) hidx) ?_
                              refine g_callV cx (pc2 := 147) (st := [.int (iI m)]) (As := [.int (iI i), .int (iI (nA M k 1)), .int (iI (W 91 (8 * ndN s.toNat (2 ^ i.toNat) + k.toNat)))]) (k0 := 77) (ci := 12) (c_X12_endOf (M := W) hn (by first | exact hVW | exact hVU | exact hV) i (nA M k 1) (W 91 (8 * ndN s.toNat (2 ^ i.toNat) + k.toNat)) (by omega) (by first | omega | (have := nA_b hV (i := k) (by omega); omega)) (by omega)) wM_X12_endOf wV_X12_endOf kl_X12_233 rfl (lt_lit hn (Nat.le_of_ble_eq_true rfl)) rfl ⟨rfl, rfl, Nat.le_of_ble_eq_true rfl, Nat.le_of_ble_eq_true rfl⟩ (Nat.le_of_ble_eq_true rfl) cs rfl rfl dX12_layEnds_144 rfl ?_
                              rintro _ _ ⟨rfl, rfl⟩
                              refine g_rwi (y := iI (exB (jbR M) i.toNat (jbR M k.toNat 0) (W 91 (8 * ndN s.toNat (2 ^ i.toNat) + k.toNat)))) (congrArg iI (by rw [eJ, e84, hjk])) ?_
                              have hexv := exB_v hJo (i := i.toNat) (by omega) (p := jbR M k.toNat 0) (f := W 91 (8 * ndN s.toNat (2 ^ i.toNat) + k.toNat)) (hJo k.toNat (by omega)).1 (by omega)
                              refine g_callS cx (pc2 := 150) (st := []) (As := [.int (iI m), .int (iI (exB (jbR M) i.toNat (jbR M k.toNat 0) (W 91 (8 * ndN s.toNat (2 ^ i.toNat) + k.toNat))))]) (c_X12_lesser (M := W) hn m (exB (jbR M) i.toNat (jbR M k.toNat 0) (W 91 (8 * ndN s.toNat (2 ^ i.toNat) + k.toNat))) (by first | assumption | omega) (by first | assumption | omega)) wM_X12_lesser wS_X12_lesser kl_X12_236 ⟨rfl, rfl, Nat.le_of_ble_eq_true rfl, Nat.le_of_ble_eq_true rfl⟩ (Nat.le_of_ble_eq_true rfl) cs rfl rfl dX12_layEnds_147 rfl ?_
                              rintro _ _ ⟨rfl, rfl⟩
                              refine g_istore cx (pc2 := 152) (lv2 := [(0, .ref 77), (1, .int (iI h)), (2, .int (iI s)), (3, .int (iI i)), (4, .int (iI (min m (exB (jbR M) i.toNat (jbR M k.toNat 0) (W 91 (8 * ndN s.toNat (2 ^ i.toNat) + k.toNat)))))), (5, .int (iI ((ndN s.toNat (2 ^ i.toNat) : Nat) : Int))), (6, .int (iI k))]) rfl (Nat.le_of_ble_eq_true rfl) dX12_layEnds_150 rfl ?_
                              exact L152 (min m (exB (jbR M) i.toNat (jbR M k.toNat 0) (W 91 (8 * ndN s.toNat (2 ^ i.toNat) + k.toNat)))) (by rw [hst]; first | (rw [if_pos ⟨by assumption, by omega⟩]; done) | (rw [if_neg (fun q => absurd q.1 (by assumption))]; done) | (rw [if_neg (fun q => by omega)]; done))
                    exact L82 _ 0 1000 (by first | assumption | omega) (by show _ = lsX (jbR M) (M 84 h.toNat) (W 91) (ndN s.toNat (2 ^ i.toNat)) i.toNat 0; rw [lsX]; first | (rw [if_pos (by omega)]; done) | (rw [if_neg (by omega)]; done)) (Nat.le_refl _)
                  · skip
                    refine g_aload_n cx (pc2 := 65) 0 rfl dX12_layEnds_64 rfl ?_
                    refine g_iload_n cx (pc2 := 66) 3 rfl dX12_layEnds_65 rfl ?_
                    refine g_iload_n cx (pc2 := 67) 1 rfl dX12_layEnds_66 rfl ?_
                    refine g_iconst cx (pc2 := 68) dX12_layEnds_67 rfl ?_
                    refine g_callV cx (pc2 := 71) (st := []) (As := [.int (iI i), .int (iI h), .int (iI 0)]) (k0 := 77) (ci := 12) (c_X12_endOf (M := W) hn (by first | exact hVW | exact hVU | exact hV) i h 0 (by omega) (by first | omega | (have := nA_b hV (i := k) (by omega); omega)) (by omega)) wM_X12_endOf wV_X12_endOf kl_X12_233 rfl (lt_lit hn (Nat.le_of_ble_eq_true rfl)) rfl ⟨rfl, rfl, Nat.le_of_ble_eq_true rfl, Nat.le_of_ble_eq_true rfl⟩ (Nat.le_of_ble_eq_true rfl) cs rfl rfl dX12_layEnds_68 rfl ?_
                    rintro _ _ ⟨rfl, rfl⟩
                    refine g_rwi (y := iI (exB (jbR M) i.toNat (M 84 h.toNat) 0)) (congrArg iI (by rw [eJ, e84])) ?_
                    refine g_goto cx (tgt := 77) dX12_layEnds_71 (by decide) ?_
                    refine g_istore cx (pc2 := 79) (lv2 := [(0, .ref 77), (1, .int (iI h)), (2, .int (iI s)), (3, .int (iI i)), (4, .int (iI (exB (jbR M) i.toNat (M 84 h.toNat) 0))), (5, .int (iI ((ndN s.toNat (2 ^ i.toNat) : Nat) : Int)))]) rfl (Nat.le_of_ble_eq_true rfl) dX12_layEnds_77 rfl ?_
                    refine g_iconst cx (pc2 := 80) dX12_layEnds_79 rfl ?_
                    refine g_istore cx (pc2 := 82) (lv2 := [(0, .ref 77), (1, .int (iI h)), (2, .int (iI s)), (3, .int (iI i)), (4, .int (iI (exB (jbR M) i.toNat (M 84 h.toNat) 0))), (5, .int (iI ((ndN s.toNat (2 ^ i.toNat) : Nat) : Int))), (6, .int (iI 0))]) rfl (Nat.le_of_ble_eq_true rfl) dX12_layEnds_80 rfl ?_
                    have L82 : ∀ (fu : Nat) (k : Int) (m : Int), (0 ≤ k ∧ k ≤ M 77 12) → (m = lsX (jbR M) (M 84 h.toNat) (W 91) (ndN s.toNat (2 ^ i.toNat)) i.toNat k.toNat) → (M 77 12 - k).toNat ≤ fu → G X 82 [(0, .ref 77), (1, .int (iI h)), (2, .int (iI s)), (3, .int (iI i)), (4, .int (iI m)), (5, .int (iI ((ndN s.toNat (2 ^ i.toNat) : Nat) : Int))), (6, .int (iI k))] [] W := by
                      intro fu
                      induction fu using Nat.strongRecOn with
                      | _ fu ih82 =>
                        intro k m hk hm hk82
                        have hmv : exV m := by rw [hm]; exact lsX_v hJo hph (by omega) (by omega) (fun j hj q => hrt1 j (by omega) q)
                        have hidx : (8 * ((ndN s.toNat (2 ^ i.toNat) : Nat) : Int) + k).toNat = 8 * ndN s.toNat (2 ^ i.toNat) + k.toNat := by omega
                        have hst : lsX (jbR M) (M 84 h.toNat) (W 91) (ndN s.toNat (2 ^ i.toNat)) i.toNat (k + 1).toNat = if (ndN s.toNat (2 ^ i.toNat)).testBit k.toNat = true ∧ W 91 (8 * ndN s.toNat (2 ^ i.toNat) + k.toNat) < 1000 then min m (exB (jbR M) i.toNat (jbR M k.toNat 0) (W 91 (8 * ndN s.toNat (2 ^ i.toNat) + k.toNat))) else m := by rw [show (k + 1).toNat = k.toNat + 1 by omega, lsX, ← hm]
                        have hjk : jbR M k.toNat 0 = M 84 (nA M k 1).toNat := by show M 84 (nA M ((k.toNat : Nat) : Int) 1).toNat = _; rw [Int.toNat_of_nonneg hk.1]
                        refine g_iload cx (pc2 := 84) 6 rfl dX12_layEnds_82 rfl ?_
                        refine g_aload_n cx (pc2 := 85) 0 rfl dX12_layEnds_84 rfl ?_
                        refine g_get cx (pc2 := 88) (ci := 12) (k0 := 77) (j := 12) (v := .int (iI (W 77 12))) rfl iwX12 rfl (lt_lit hn (Nat.le_of_ble_eq_true rfl)) rfl (Nat.le_of_ble_eq_true rfl) kf_X12_168 rfl rfl dX12_layEnds_85 rfl ?_
                        refine g_rwi (y := iI (M 77 12)) (congrArg iI w12) ?_
                        refine g_icmp_ge cx (pc2 := 91) (tgt := 158) ⟨(by first | assumption | omega), (by first | assumption | omega)⟩ dX12_layEnds_88 (by decide) rfl (fun h_18 => ?_) (fun h_18 => ?_)
                        · skip
                          refine g_aload_n cx (pc2 := 159) 0 rfl dX12_layEnds_158 rfl ?_
                          refine g_get cx (pc2 := 162) (ci := 12) (k0 := 77) (j := 27) (v := .ref 92) rfl iwX12 rfl (lt_lit hn (Nat.le_of_ble_eq_true rfl)) rfl (Nat.le_of_ble_eq_true rfl) kf_X12_53 rfl rfl dX12_layEnds_159 rfl ?_
                          refine g_iload_n cx (pc2 := 163) 2 rfl dX12_layEnds_162 rfl ?_
                          refine g_aload_n cx (pc2 := 164) 0 rfl dX12_layEnds_163 rfl ?_
                          refine g_get cx (pc2 := 167) (ci := 12) (k0 := 77) (j := 27) (v := .ref 92) rfl iwX12 rfl (lt_lit hn (Nat.le_of_ble_eq_true rfl)) rfl (Nat.le_of_ble_eq_true rfl) kf_X12_53 rfl rfl dX12_layEnds_164 rfl ?_
                          refine g_iload_n cx (pc2 := 168) 2 rfl dX12_layEnds_167 rfl ?_
                          refine g_iald cx (pc2 := 169) (k0 := 92) rfl (lt_lit hn (Nat.le_of_ble_eq_true rfl)) (by first | assumption | omega) (by first | assumption | omega) (Nat.le_of_ble_eq_true rfl) dX12_layEnds_168 rfl ?_
                          refine g_rwi (y := iI (W 92 ((s).toNat))) (congrArg iI (by simp [stM])) ?_
                          refine g_iload cx (pc2 := 171) 4 rfl dX12_layEnds_169 rfl ?_
                          refine g_callS cx (pc2 := 174) (st := [.int (iI s), .ref 92]) (As := [.int (iI (W 92 ((s).toNat))), .int (iI m)]) (c_X12_lesser (M := W) hn (W 92 ((s).toNat)) m (by omega) (by omega)) wM_X12_lesser wS_X12_lesser kl_X12_236 ⟨rfl, rfl, Nat.le_of_ble_eq_true rfl, Nat.le_of_ble_eq_true rfl⟩ (Nat.le_of_ble_eq_true rfl) cs rfl rfl dX12_layEnds_171 rfl ?_
                          rintro _ _ ⟨rfl, rfl⟩
                          refine g_iast cx (pc2 := 175) (k0 := 92) rfl (lt_lit hn (Nat.le_of_ble_eq_true rfl)) (by first | assumption | omega) (by first | assumption | omega) (Nat.le_of_ble_eq_true rfl) dX12_layEnds_174 rfl ?_
                          refine g_sub (lv2 := [(0, .ref 77), (1, .int (iI h)), (2, .int (iI s)), (3, .int (iI i)), (4, .int (iI m))]) [0, 1, 2, 3, 4] rfl ?_
                          exact L175 m (stM W 92 (s).toNat (min (W 92 ((s).toNat)) m)) (by first | (refine ⟨?_, Or.inl rfl⟩; unfold flX; rw [if_neg (by assumption)]) | (have ek : k = M 77 12 := (by omega); refine ⟨?_, hmv⟩; unfold flX; rw [if_pos (by assumption), hm, ek])) (by first | (rw [if_pos (by assumption)]; done) | (rw [if_neg (by assumption)]; done))
                        · skip
                          have L152 : ∀ (m2 : Int), (m2 = lsX (jbR M) (M 84 h.toNat) (W 91) (ndN s.toNat (2 ^ i.toNat)) i.toNat (k + 1).toNat) → G X 152 [(0, .ref 77), (1, .int (iI h)), (2, .int (iI s)), (3, .int (iI i)), (4, .int (iI m2)), (5, .int (iI ((ndN s.toNat (2 ^ i.toNat) : Nat) : Int))), (6, .int (iI k))] [] W := by
                            intro m2 hm2
                            refine g_iinc cx (pc2 := 155) 6 rfl (lv2 := [(0, .ref 77), (1, .int (iI h)), (2, .int (iI s)), (3, .int (iI i)), (4, .int (iI m2)), (5, .int (iI ((ndN s.toNat (2 ^ i.toNat) : Nat) : Int))), (6, .int (iI (k + 1)))]) rfl (Nat.le_of_ble_eq_true rfl) dX12_layEnds_152 rfl ?_
                            refine g_goto cx (tgt := 82) dX12_layEnds_155 (by decide) ?_
                            exact ih82 ((M 77 12 - (k + 1)).toNat) (by omega) (k + 1) m2 (by first | assumption | omega) (by exact hm2) (Nat.le_refl _)
                          refine g_iload cx (pc2 := 93) 5 rfl dX12_layEnds_91 rfl ?_
                          refine g_iload cx (pc2 := 95) 6 rfl dX12_layEnds_93 rfl ?_
                          refine g_callS cx (pc2 := 98) (st := []) (As := [.int (iI ((ndN s.toNat (2 ^ i.toNat) : Nat) : Int)), .int (iI k)]) (c_X12_has (M := W) hn ((ndN s.toNat (2 ^ i.toNat) : Nat) : Int) k (by omega) (by omega)) wM_X12_has wS_X12_has kl_X12_220 ⟨rfl, rfl, Nat.le_of_ble_eq_true rfl, Nat.le_of_ble_eq_true rfl⟩ (Nat.le_of_ble_eq_true rfl) cs rfl rfl dX12_layEnds_95 rfl ?_
                          rintro _ _ ⟨rfl, rfl⟩
                          refine g_ifb_eq cx (pc2 := 101) (tgt := 152) dX12_layEnds_98 (by decide) rfl (fun h_19 => ?_) (fun h_19 => ?_)
                          · skip
                            exact L152 m (by rw [hst]; first | (rw [if_pos ⟨by assumption, by omega⟩]; done) | (rw [if_neg (fun q => absurd q.1 (by assumption))]; done) | (rw [if_neg (fun q => by omega)]; done))
                          · skip
                            have hWv := hrt1 k.toNat (by omega) (by assumption)
                            refine g_aload_n cx (pc2 := 102) 0 rfl dX12_layEnds_101 rfl ?_
                            refine g_get cx (pc2 := 105) (ci := 12) (k0 := 77) (j := 26) (v := .ref 91) rfl iwX12 rfl (lt_lit hn (Nat.le_of_ble_eq_true rfl)) rfl (Nat.le_of_ble_eq_true rfl) kf_X12_50 rfl rfl dX12_layEnds_102 rfl ?_
                            refine g_bipush cx (pc2 := 107) ⟨by decide, by decide⟩ dX12_layEnds_105 rfl ?_
                            refine g_iload cx (pc2 := 109) 5 rfl dX12_layEnds_107 rfl ?_
                            refine g_imul cx (pc2 := 110) dX12_layEnds_109 rfl ?_
                            refine g_iload cx (pc2 := 112) 6 rfl dX12_layEnds_110 rfl ?_
                            refine g_iadd cx (pc2 := 113) dX12_layEnds_112 rfl ?_
                            refine g_iald cx (pc2 := 114) (k0 := 91) rfl (lt_lit hn (Nat.le_of_ble_eq_true rfl)) (by first | assumption | omega) (by first | assumption | omega) (Nat.le_of_ble_eq_true rfl) dX12_layEnds_113 rfl ?_
                            refine g_rwi (y := iI (W 91 (((8 * ((ndN s.toNat (2 ^ i.toNat) : Nat) : Int)) + k).toNat))) (congrArg iI (by simp [stM])) ?_
                            refine g_rwi (y := iI (W 91 (8 * ndN s.toNat (2 ^ i.toNat) + k.toNat))) (congrArg (fun q => iI (W 91 q)) hidx) ?_
                            refine g_sipush cx (pc2 := 117) ⟨by decide, by decide⟩ dX12_layEnds_114 rfl ?_
                            refine g_icmp_ge cx (pc2 := 120) (tgt := 152) ⟨(by first | assumption | omega), ⟨by decide, by decide⟩⟩ dX12_layEnds_117 (by decide) rfl (fun h_20 => ?_) (fun h_20 => ?_)
                            · skip
                              exact L152 m (by rw [hst]; first | (rw [if_pos ⟨by assumption, by omega⟩]; done) | (rw [if_neg (fun q => absurd q.1 (by assumption))]; done) | (rw [if_neg (fun q => by omega)]; done))
                            · skip
                              refine g_iload cx (pc2 := 122) 4 rfl dX12_layEnds_120 rfl ?_
                              refine g_aload_n cx (pc2 := 123) 0 rfl dX12_layEnds_122 rfl ?_
                              refine g_iload_n cx (pc2 := 124) 3 rfl dX12_layEnds_123 rfl ?_
                              refine g_aload_n cx (pc2 := 125) 0 rfl dX12_layEnds_124 rfl ?_
                              refine g_iload cx (pc2 := 127) 6 rfl dX12_layEnds_125 rfl ?_
                              refine g_iconst cx (pc2 := 128) dX12_layEnds_127 rfl ?_
                              refine g_callV cx (pc2 := 131) (st := [.int (iI i), .ref 77, .int (iI m)]) (As := [.int (iI k), .int (iI 1)]) (k0 := 77) (ci := 12) (c_X12_needAt (M := W) hn k 1 (by omega) (by omega)) wM_X12_needAt wV_X12_needAt kl_X12_195 rfl (lt_lit hn (Nat.le_of_ble_eq_true rfl)) rfl ⟨rfl, rfl, Nat.le_of_ble_eq_true rfl, Nat.le_of_ble_eq_true rfl⟩ (Nat.le_of_ble_eq_true rfl) cs rfl rfl dX12_layEnds_128 rfl ?_
                              rintro _ _ ⟨rfl, rfl⟩
                              refine g_rwi (y := iI (nA M k 1)) (congrArg iI (nA_off e85 _ _)) ?_
                              refine g_aload_n cx (pc2 := 132) 0 rfl dX12_layEnds_131 rfl ?_
                              refine g_get cx (pc2 := 135) (ci := 12) (k0 := 77) (j := 26) (v := .ref 91) rfl iwX12 rfl (lt_lit hn (Nat.le_of_ble_eq_true rfl)) rfl (Nat.le_of_ble_eq_true rfl) kf_X12_50 rfl rfl dX12_layEnds_132 rfl ?_
                              refine g_bipush cx (pc2 := 137) ⟨by decide, by decide⟩ dX12_layEnds_135 rfl ?_
                              refine g_iload cx (pc2 := 139) 5 rfl dX12_layEnds_137 rfl ?_
                              refine g_imul cx (pc2 := 140) dX12_layEnds_139 rfl ?_
                              refine g_iload cx (pc2 := 142) 6 rfl dX12_layEnds_140 rfl ?_
                              refine g_iadd cx (pc2 := 143) dX12_layEnds_142 rfl ?_
                              refine g_iald cx (pc2 := 144) (k0 := 91) rfl (lt_lit hn (Nat.le_of_ble_eq_true rfl)) (by first | assumption | omega) (by first | assumption | omega) (Nat.le_of_ble_eq_true rfl) dX12_layEnds_143 rfl ?_
                              refine g_rwi (y := iI (W 91 (((8 * ((ndN s.toNat (2 ^ i.toNat) : Nat) : Int)) + k).toNat))) (congrArg iI (by simp [stM])) ?_
                              refine g_rwi (y := iI (W 91 (8 * ndN s.toNat (2 ^ i.toNat) + k.toNat))) (congrArg (fun q => iI (W 91 q)) hidx) ?_
                              refine g_callV cx (pc2 := 147) (st := [.int (iI m)]) (As := [.int (iI i), .int (iI (nA M k 1)), .int (iI (W 91 (8 * ndN s.toNat (2 ^ i.toNat) + k.toNat)))]) (k0 := 77) (ci := 12) (c_X12_endOf (M := W) hn (by first | exact hVW | exact hVU | exact hV) i (nA M k 1) (W 91 (8 * ndN s.toNat (2 ^ i.toNat) + k.toNat)) (by omega) (by first | omega | (have := nA_b hV (i := k) (by omega); omega)) (by omega)) wM_X12_endOf wV_X12_endOf kl_X12_233 rfl (lt_lit hn (Nat.le_of_ble_eq_true rfl)) rfl ⟨rfl, rfl, Nat.le_of_ble_eq_true rfl, Nat.le_of_ble_eq_true rfl⟩ (Nat.le_of_ble_eq_true rfl) cs rfl rfl dX12_layEnds_144 rfl ?_
                              rintro _ _ ⟨rfl, rfl⟩
                              refine g_rwi (y := iI (exB (jbR M) i.toNat (jbR M k.toNat 0) (W 91 (8 * ndN s.toNat (2 ^ i.toNat) + k.toNat)))) (congrArg iI (by rw [eJ, e84, hjk])) ?_
                              have hexv := exB_v hJo (i := i.toNat) (by omega) (p := jbR M k.toNat 0) (f := W 91 (8 * ndN s.toNat (2 ^ i.toNat) + k.toNat)) (hJo k.toNat (by omega)).1 (by omega)
                              refine g_callS cx (pc2 := 150) (st := []) (As := [.int (iI m), .int (iI (exB (jbR M) i.toNat (jbR M k.toNat 0) (W 91 (8 * ndN s.toNat (2 ^ i.toNat) + k.toNat))))]) (c_X12_lesser (M := W) hn m (exB (jbR M) i.toNat (jbR M k.toNat 0) (W 91 (8 * ndN s.toNat (2 ^ i.toNat) + k.toNat))) (by first | assumption | omega) (by first | assumption | omega)) wM_X12_lesser wS_X12_lesser kl_X12_236 ⟨rfl, rfl, Nat.le_of_ble_eq_true rfl, Nat.le_of_ble_eq_true rfl⟩ (Nat.le_of_ble_eq_true rfl) cs rfl rfl dX12_layEnds_147 rfl ?_
                              rintro _ _ ⟨rfl, rfl⟩
                              refine g_istore cx (pc2 := 152) (lv2 := [(0, .ref 77), (1, .int (iI h)), (2, .int (iI s)), (3, .int (iI i)), (4, .int (iI (min m (exB (jbR M) i.toNat (jbR M k.toNat 0) (W 91 (8 * ndN s.toNat (2 ^ i.toNat) + k.toNat)))))), (5, .int (iI ((ndN s.toNat (2 ^ i.toNat) : Nat) : Int))), (6, .int (iI k))]) rfl (Nat.le_of_ble_eq_true rfl) dX12_layEnds_150 rfl ?_
                              exact L152 (min m (exB (jbR M) i.toNat (jbR M k.toNat 0) (W 91 (8 * ndN s.toNat (2 ^ i.toNat) + k.toNat)))) (by rw [hst]; first | (rw [if_pos ⟨by assumption, by omega⟩]; done) | (rw [if_neg (fun q => absurd q.1 (by assumption))]; done) | (rw [if_neg (fun q => by omega)]; done))
                    exact L82 _ 0 (exB (jbR M) i.toNat (M 84 h.toNat) 0) (by first | assumption | omega) (by show _ = lsX (jbR M) (M 84 h.toNat) (W 91) (ndN s.toNat (2 ^ i.toNat)) i.toNat 0; rw [lsX]; first | (rw [if_pos (by omega)]; done) | (rw [if_neg (by omega)]; done)) (Nat.le_refl _)
          exact L29 _ 0 (stM U 92 (s).toNat 0) (by first | assumption | omega) (by intro a h1 h2; rw [stM_off h2]; exact hU a h1 h2) (by intro t ht; refine LQ_cong hn8 (fun b _ => by rw [stM_off (by decide)]) ?_ (hL t ht); rw [stM_ne _ _ (Or.inr (by omega))]) (by intro t ht i hi; rw [stM_off (by decide)]; exact hFv t ht i hi) (by intro j hj; omega) (by rw [stM_at, show (0 : Int).toNat = 0 from rfl, elX]; first | (rw [if_pos (by omega)]; done) | (rw [if_neg (by omega)]; done)) (Nat.le_refl _)
  exact L2 _ 0 M (by first | assumption | omega) (by intro a _ _; rfl) (by intro t ht; omega) (by intro t ht; omega) (Nat.le_refl _)
set_option maxHeartbeats 4000000 in
set_option maxRecDepth 100000 in
theorem c_X12_bestOf {n : Nat} (hn : NN n) {M : Mm} (hV : RV M) (hE : ∀ t : Nat, t ≤ allN (M 77 12) → exV (M 92 t)) (mu ba : Int) (hmu : 0 ≤ mu ∧ mu ≤ 255) (hba : 0 ≤ ba ∧ ba ≤ 255) : CT yX12_bestOf cX12_bestOf 6 (some .int) ({ frames := 2, cells := 0, slots := 0, locals := 45 }) n [.ref 77, .int (iI mu), .int (iI ba)] M (rI (boX M M mu.toNat ba.toNat) M) := by
  refine CT.of (lv0 := [(0, .ref 77), (1, .int (iI mu)), (2, .int (iI ba))]) (by decide +kernel) hn (fun _ => rfl) (fun _ => Nat.le_of_ble_eq_true rfl) (fun X cx cs qx => ?_)
  have cx : Cx X cX12_bestOf RX12 ({ frames := 2, cells := 0, slots := 0, locals := 45 }) 6 n := cx
  have hv1 := hV.1
  have hfb := fX_255 hV
  have hJo := jbR_ok hV
  refine g_bipush cx (pc2 := 2) ⟨by decide, by decide⟩ dX12_bestOf_0 rfl ?_
  refine g_istore_n cx (pc2 := 3) (lv2 := [(0, .ref 77), (1, .int (iI mu)), (2, .int (iI ba)), (3, .int (iI (-9)))]) rfl (Nat.le_of_ble_eq_true rfl) dX12_bestOf_2 rfl ?_
  refine g_iconst cx (pc2 := 4) dX12_bestOf_3 rfl ?_
  refine g_istore cx (pc2 := 6) (lv2 := [(0, .ref 77), (1, .int (iI mu)), (2, .int (iI ba)), (3, .int (iI (-9))), (4, .int (iI 0))]) rfl (Nat.le_of_ble_eq_true rfl) dX12_bestOf_4 rfl ?_
  have L6 : ∀ (fu : Nat) (s : Int) (x : Int), (0 ≤ s ∧ s ≤ ((allN (M 77 12) : Nat) : Int) + 1) → (x = boF (jbR M) (M 77 12).toNat (M 92) mu.toNat ba.toNat s.toNat) → (((allN (M 77 12) : Nat) : Int) + 1 - s).toNat ≤ fu → G X 6 [(0, .ref 77), (1, .int (iI mu)), (2, .int (iI ba)), (3, .int (iI x)), (4, .int (iI s))] [] M := by
    intro fu
    induction fu using Nat.strongRecOn with
    | _ fu ih6 =>
      intro s x hs hx hk6
      have hxv := boF_v (jbR M) (M 77 12).toNat (M 92) mu.toNat ba.toNat s.toNat
      rw [← hx] at hxv
      have hEs := hE s.toNat
      have ha1 : s.toNat &&& mu.toNat ≤ s.toNat := Nat.and_le_left
      have ha2 : s.toNat &&& ba.toNat ≤ s.toNat := Nat.and_le_left
      have hw1 := wsB_b hJo (n := (M 77 12).toNat) (by omega) s.toNat
      have hw2 := wsB_b hJo (n := (M 77 12).toNat) (by omega) x.toNat
      have hst : boF (jbR M) (M 77 12).toNat (M 92) mu.toNat ba.toNat (s + 1).toNat = if (M 92 s.toNat < 1000 ∧ s.toNat &&& mu.toNat = mu.toNat ∧ s.toNat &&& ba.toNat = 0) ∧ (x = -9 ∨ wsB (jbR M) (M 77 12).toNat x.toNat < wsB (jbR M) (M 77 12).toNat s.toNat) then s else x := by rw [show (s + 1).toNat = s.toNat + 1 by omega, boF, ← hx, Int.toNat_of_nonneg hs.1]
      refine g_iload cx (pc2 := 8) 4 rfl dX12_bestOf_6 rfl ?_
      refine g_aload_n cx (pc2 := 9) 0 rfl dX12_bestOf_8 rfl ?_
      refine g_callV cx (pc2 := 12) (st := [.int (iI s)]) (As := []) (k0 := 77) (ci := 12) (c_X12_full (M := M) hn (by exact hV)) wM_X12_full wV_X12_full kl_X12_230 rfl (lt_lit hn (Nat.le_of_ble_eq_true rfl)) rfl ⟨rfl, rfl, Nat.le_of_ble_eq_true rfl, Nat.le_of_ble_eq_true rfl⟩ (Nat.le_of_ble_eq_true rfl) cs rfl rfl dX12_bestOf_9 rfl ?_
      rintro _ _ ⟨rfl, rfl⟩
      refine g_icmp_gt cx (pc2 := 15) (tgt := 88) ⟨(by first | assumption | omega), (by first | assumption | omega)⟩ dX12_bestOf_12 (by decide) rfl (fun h_1 => ?_) (fun h_1 => ?_)
      · skip
        refine g_iload_n cx (pc2 := 89) 3 rfl dX12_bestOf_88 rfl ?_
        exact g_iret cx qx dX12_bestOf_89 ⟨congrArg (fun q => some (Value.int (iI q))) (by rw [hx]; unfold boX; rw [show s.toNat = allN (M 77 12) + 1 by omega]), by rfl⟩
      · skip
        have L48 : ∀ (g : Int), ((g = 1 ∧ (M 92 s.toNat < 1000 ∧ s.toNat &&& mu.toNat = mu.toNat ∧ s.toNat &&& ba.toNat = 0)) ∨ (g = 0 ∧ ¬ (M 92 s.toNat < 1000 ∧ s.toNat &&& mu.toNat = mu.toNat ∧ s.toNat &&& ba.toNat = 0))) → G X 48 [(0, .ref 77), (1, .int (iI mu)), (2, .int (iI ba)), (3, .int (iI x)), (4, .int (iI s))] [.int (iI g)] M := by
          intro g hg
          refine g_istore cx (pc2 := 50) (lv2 := [(0, .ref 77), (1, .int (iI mu)), (2, .int (iI ba)), (3, .int (iI x)), (4, .int (iI s)), (5, .int (iI g))]) rfl (Nat.le_of_ble_eq_true rfl) dX12_bestOf_48 rfl ?_
          have L81 : ∀ (y : Int), (y = boF (jbR M) (M 77 12).toNat (M 92) mu.toNat ba.toNat (s + 1).toNat) → G X 81 [(0, .ref 77), (1, .int (iI mu)), (2, .int (iI ba)), (4, .int (iI s))] [.int (iI y)] M := by
            intro y hy
            refine g_istore_n cx (pc2 := 82) (lv2 := [(0, .ref 77), (1, .int (iI mu)), (2, .int (iI ba)), (3, .int (iI y)), (4, .int (iI s))]) rfl (Nat.le_of_ble_eq_true rfl) dX12_bestOf_81 rfl ?_
            refine g_iinc cx (pc2 := 85) 4 rfl (lv2 := [(0, .ref 77), (1, .int (iI mu)), (2, .int (iI ba)), (3, .int (iI y)), (4, .int (iI (s + 1)))]) rfl (Nat.le_of_ble_eq_true rfl) dX12_bestOf_82 rfl ?_
            refine g_goto cx (tgt := 6) dX12_bestOf_85 (by decide) ?_
            exact ih6 ((((allN (M 77 12) : Nat) : Int) + 1 - (s + 1)).toNat) (by omega) (s + 1) y (by first | assumption | omega) (by exact hy) (Nat.le_refl _)
          refine g_iload cx (pc2 := 52) 5 rfl dX12_bestOf_50 rfl ?_
          refine g_if_eq cx (pc2 := 55) (tgt := 80) (by first | assumption | omega) dX12_bestOf_52 (by decide) rfl (fun h_2 => ?_) (fun h_2 => ?_)
          · skip
            refine g_iload_n cx (pc2 := 81) 3 rfl dX12_bestOf_80 rfl ?_
            refine g_sub (lv2 := [(0, .ref 77), (1, .int (iI mu)), (2, .int (iI ba)), (4, .int (iI s))]) [0, 1, 2, 4] rfl ?_
            exact L81 x (by rw [hst]; rcases hg with ⟨q1, q2⟩ | ⟨q1, q2⟩ <;> first | omega | (rw [if_neg (fun z => q2 z.1)]; done) | (rw [if_pos ⟨q2, Or.inl (by assumption)⟩]; done) | (rw [if_pos ⟨q2, Or.inr (by omega)⟩]; done) | (rw [if_neg (fun z => by have := z.2; omega)]; done))
          · skip
            refine g_iload_n cx (pc2 := 56) 3 rfl dX12_bestOf_55 rfl ?_
            refine g_bipush cx (pc2 := 58) ⟨by decide, by decide⟩ dX12_bestOf_56 rfl ?_
            refine g_icmp_eq cx (pc2 := 61) (tgt := 75) ⟨(by first | assumption | omega), ⟨by decide, by decide⟩⟩ dX12_bestOf_58 (by decide) rfl (fun h_3 => ?_) (fun h_3 => ?_)
            · skip
              refine g_iload cx (pc2 := 77) 4 rfl dX12_bestOf_75 rfl ?_
              refine g_goto cx (tgt := 81) dX12_bestOf_77 (by decide) ?_
              refine g_sub (lv2 := [(0, .ref 77), (1, .int (iI mu)), (2, .int (iI ba)), (4, .int (iI s))]) [0, 1, 2, 4] rfl ?_
              exact L81 s (by rw [hst]; rcases hg with ⟨q1, q2⟩ | ⟨q1, q2⟩ <;> first | omega | (rw [if_neg (fun z => q2 z.1)]; done) | (rw [if_pos ⟨q2, Or.inl (by assumption)⟩]; done) | (rw [if_pos ⟨q2, Or.inr (by omega)⟩]; done) | (rw [if_neg (fun z => by have := z.2; omega)]; done))
            · skip
              refine g_aload_n cx (pc2 := 62) 0 rfl dX12_bestOf_61 rfl ?_
              refine g_iload cx (pc2 := 64) 4 rfl dX12_bestOf_62 rfl ?_
              refine g_callV cx (pc2 := 67) (st := []) (As := [.int (iI s)]) (k0 := 77) (ci := 12) (c_X12_worthOf (M := M) hn (by exact hV) s (by first | assumption | omega)) wM_X12_worthOf wV_X12_worthOf kl_X12_246 rfl (lt_lit hn (Nat.le_of_ble_eq_true rfl)) rfl ⟨rfl, rfl, Nat.le_of_ble_eq_true rfl, Nat.le_of_ble_eq_true rfl⟩ (Nat.le_of_ble_eq_true rfl) cs rfl rfl dX12_bestOf_64 rfl ?_
              rintro _ _ ⟨rfl, rfl⟩
              refine g_aload_n cx (pc2 := 68) 0 rfl dX12_bestOf_67 rfl ?_
              refine g_iload_n cx (pc2 := 69) 3 rfl dX12_bestOf_68 rfl ?_
              refine g_callV cx (pc2 := 72) (st := [.int (iI (wsB (jbR M) (M 77 12).toNat s.toNat))]) (As := [.int (iI x)]) (k0 := 77) (ci := 12) (c_X12_worthOf (M := M) hn (by exact hV) x (by first | assumption | omega)) wM_X12_worthOf wV_X12_worthOf kl_X12_246 rfl (lt_lit hn (Nat.le_of_ble_eq_true rfl)) rfl ⟨rfl, rfl, Nat.le_of_ble_eq_true rfl, Nat.le_of_ble_eq_true rfl⟩ (Nat.le_of_ble_eq_true rfl) cs rfl rfl dX12_bestOf_69 rfl ?_
              rintro _ _ ⟨rfl, rfl⟩
              refine g_icmp_le cx (pc2 := 75) (tgt := 80) ⟨(by first | assumption | omega), (by first | assumption | omega)⟩ dX12_bestOf_72 (by decide) rfl (fun h_4 => ?_) (fun h_4 => ?_)
              · skip
                refine g_iload_n cx (pc2 := 81) 3 rfl dX12_bestOf_80 rfl ?_
                refine g_sub (lv2 := [(0, .ref 77), (1, .int (iI mu)), (2, .int (iI ba)), (4, .int (iI s))]) [0, 1, 2, 4] rfl ?_
                exact L81 x (by rw [hst]; rcases hg with ⟨q1, q2⟩ | ⟨q1, q2⟩ <;> first | omega | (rw [if_neg (fun z => q2 z.1)]; done) | (rw [if_pos ⟨q2, Or.inl (by assumption)⟩]; done) | (rw [if_pos ⟨q2, Or.inr (by omega)⟩]; done) | (rw [if_neg (fun z => by have := z.2; omega)]; done))
              · skip
                refine g_iload cx (pc2 := 77) 4 rfl dX12_bestOf_75 rfl ?_
                refine g_goto cx (tgt := 81) dX12_bestOf_77 (by decide) ?_
                refine g_sub (lv2 := [(0, .ref 77), (1, .int (iI mu)), (2, .int (iI ba)), (4, .int (iI s))]) [0, 1, 2, 4] rfl ?_
                exact L81 s (by rw [hst]; rcases hg with ⟨q1, q2⟩ | ⟨q1, q2⟩ <;> first | omega | (rw [if_neg (fun z => q2 z.1)]; done) | (rw [if_pos ⟨q2, Or.inl (by assumption)⟩]; done) | (rw [if_pos ⟨q2, Or.inr (by omega)⟩]; done) | (rw [if_neg (fun z => by have := z.2; omega)]; done))
        refine g_aload_n cx (pc2 := 16) 0 rfl dX12_bestOf_15 rfl ?_
        refine g_get cx (pc2 := 19) (ci := 12) (k0 := 77) (j := 27) (v := .ref 92) rfl iwX12 rfl (lt_lit hn (Nat.le_of_ble_eq_true rfl)) rfl (Nat.le_of_ble_eq_true rfl) kf_X12_53 rfl rfl dX12_bestOf_16 rfl ?_
        refine g_iload cx (pc2 := 21) 4 rfl dX12_bestOf_19 rfl ?_
        refine g_iald cx (pc2 := 22) (k0 := 92) rfl (lt_lit hn (Nat.le_of_ble_eq_true rfl)) (by first | assumption | omega) (by first | assumption | omega) (Nat.le_of_ble_eq_true rfl) dX12_bestOf_21 rfl ?_
        refine g_rwi (y := iI (M 92 ((s).toNat))) (congrArg iI (by simp [stM])) ?_
        have hEs1 := hEs (by omega)
        refine g_sipush cx (pc2 := 25) ⟨by decide, by decide⟩ dX12_bestOf_22 rfl ?_
        refine g_icmp_ge cx (pc2 := 28) (tgt := 47) ⟨(by first | assumption | omega), ⟨by decide, by decide⟩⟩ dX12_bestOf_25 (by decide) rfl (fun h_5 => ?_) (fun h_5 => ?_)
        · skip
          refine g_iconst cx (pc2 := 48) dX12_bestOf_47 rfl ?_
          exact L48 0 (by first | exact Or.inl ⟨rfl, by omega, by omega, by omega⟩ | exact Or.inr ⟨rfl, fun q => by omega⟩)
        · skip
          refine g_iload cx (pc2 := 30) 4 rfl dX12_bestOf_28 rfl ?_
          refine g_iload_n cx (pc2 := 31) 1 rfl dX12_bestOf_30 rfl ?_
          refine g_iand cx (pc2 := 32) dX12_bestOf_31 rfl ?_
          refine g_rwi (y := iI ((s.toNat &&& mu.toNat : Nat) : Int)) (and_iI (by omega) (by omega)) ?_
          refine g_iload_n cx (pc2 := 33) 1 rfl dX12_bestOf_32 rfl ?_
          refine g_icmp_ne cx (pc2 := 36) (tgt := 47) ⟨(by first | assumption | omega), (by first | assumption | omega)⟩ dX12_bestOf_33 (by decide) rfl (fun h_6 => ?_) (fun h_6 => ?_)
          · skip
            refine g_iconst cx (pc2 := 48) dX12_bestOf_47 rfl ?_
            exact L48 0 (by first | exact Or.inl ⟨rfl, by omega, by omega, by omega⟩ | exact Or.inr ⟨rfl, fun q => by omega⟩)
          · skip
            refine g_iload cx (pc2 := 38) 4 rfl dX12_bestOf_36 rfl ?_
            refine g_iload_n cx (pc2 := 39) 2 rfl dX12_bestOf_38 rfl ?_
            refine g_iand cx (pc2 := 40) dX12_bestOf_39 rfl ?_
            refine g_rwi (y := iI ((s.toNat &&& ba.toNat : Nat) : Int)) (and_iI (by omega) (by omega)) ?_
            refine g_if_ne cx (pc2 := 43) (tgt := 47) (by first | assumption | omega) dX12_bestOf_40 (by decide) rfl (fun h_7 => ?_) (fun h_7 => ?_)
            · skip
              refine g_iconst cx (pc2 := 48) dX12_bestOf_47 rfl ?_
              exact L48 0 (by first | exact Or.inl ⟨rfl, by omega, by omega, by omega⟩ | exact Or.inr ⟨rfl, fun q => by omega⟩)
            · skip
              refine g_iconst cx (pc2 := 44) dX12_bestOf_43 rfl ?_
              refine g_goto cx (tgt := 48) dX12_bestOf_44 (by decide) ?_
              exact L48 1 (by first | exact Or.inl ⟨rfl, by omega, by omega, by omega⟩ | exact Or.inr ⟨rfl, fun q => by omega⟩)
  exact L6 _ 0 (-9) (by first | assumption | omega) (by rfl) (Nat.le_refl _)
set_option maxHeartbeats 4000000 in
set_option maxRecDepth 100000 in
theorem c_X12_can {n : Nat} (hn : NN n) {M : Mm} (hV : RV M) (s : Int) (hs : ir s) : CT yX12_can cX12_can 2 (some .int) ({ frames := 5, cells := 0, slots := 0, locals := 121 }) n [.ref 77, .int (iI s)] M (pI (fun z M2 => xcaR M s z M2)) := by
  refine CT.of (lv0 := [(0, .ref 77), (1, .int (iI s))]) (by decide +kernel) hn (fun _ => rfl) (fun _ => Nat.le_of_ble_eq_true rfl) (fun X cx cs qx => ?_)
  have cx : Cx X cX12_can RX12 ({ frames := 5, cells := 0, slots := 0, locals := 121 }) 2 n := cx
  have hv1 := hV.1
  have hfb := fX_255 hV
  refine g_aload_n cx (pc2 := 1) 0 rfl dX12_can_0 rfl ?_
  refine g_iload_n cx (pc2 := 2) 1 rfl dX12_can_1 rfl ?_
  refine g_callV cx (pc2 := 5) (st := []) (As := [.int (iI s)]) (k0 := 77) (ci := 12) (c_X12_isSet (M := M) hn (by exact hV) s (by first | assumption | omega)) wM_X12_isSet wV_X12_isSet kl_X12_239 rfl (lt_lit hn (Nat.le_of_ble_eq_true rfl)) rfl ⟨rfl, rfl, Nat.le_of_ble_eq_true rfl, Nat.le_of_ble_eq_true rfl⟩ (Nat.le_of_ble_eq_true rfl) cs rfl rfl dX12_can_2 rfl ?_
  rintro _ _ ⟨rfl, rfl⟩
  refine g_ifb_ne cx (pc2 := 8) (tgt := 10) dX12_can_5 (by decide) rfl (fun h_1 => ?_) (fun h_1 => ?_)
  · skip
    refine g_aload_n cx (pc2 := 11) 0 rfl dX12_can_10 rfl ?_
    refine g_aload_n cx (pc2 := 12) 0 rfl dX12_can_11 rfl ?_
    refine g_get cx (pc2 := 15) (ci := 12) (k0 := 77) (j := 15) (v := .int (iI (M 77 15))) rfl iwX12 rfl (lt_lit hn (Nat.le_of_ble_eq_true rfl)) rfl (Nat.le_of_ble_eq_true rfl) kf_X12_171 rfl rfl dX12_can_12 rfl ?_
    refine g_callV cx (pc2 := 18) (st := []) (As := [.int (iI (M 77 15))]) (k0 := 77) (ci := 12) (c_X12_layEnds (M := M) hn (by exact hV) (M 77 15) (by first | assumption | omega)) wM_X12_layEnds wV_X12_layEnds kl_X12_242 rfl (lt_lit hn (Nat.le_of_ble_eq_true rfl)) rfl ⟨rfl, rfl, Nat.le_of_ble_eq_true rfl, Nat.le_of_ble_eq_true rfl⟩ (Nat.le_of_ble_eq_true rfl) cs rfl rfl dX12_can_15 rfl ?_
    rintro _ M_2 ⟨rfl, h_2⟩
    have hX := h_2
    have hXV := hX.V hV
    have hXe := hX.e
    have hXj := hX.j
    have hv92 := (hX.2 s.toNat (by omega)).2
    refine g_aload_n cx (pc2 := 19) 0 rfl dX12_can_18 rfl ?_
    refine g_get cx (pc2 := 22) (ci := 12) (k0 := 77) (j := 27) (v := .ref 92) rfl iwX12 rfl (lt_lit hn (Nat.le_of_ble_eq_true rfl)) rfl (Nat.le_of_ble_eq_true rfl) kf_X12_53 rfl rfl dX12_can_19 rfl ?_
    refine g_iload_n cx (pc2 := 23) 1 rfl dX12_can_22 rfl ?_
    refine g_iald cx (pc2 := 24) (k0 := 92) rfl (lt_lit hn (Nat.le_of_ble_eq_true rfl)) (by first | assumption | omega) (by first | assumption | omega) (Nat.le_of_ble_eq_true rfl) dX12_can_23 rfl ?_
    refine g_rwi (y := iI (M_2 92 ((s).toNat))) (congrArg iI (by simp [stM])) ?_
    refine g_sipush cx (pc2 := 27) ⟨by decide, by decide⟩ dX12_can_24 rfl ?_
    refine g_icmp_lt cx (pc2 := 30) (tgt := 35) ⟨(by first | assumption | omega), ⟨by decide, by decide⟩⟩ dX12_can_27 (by decide) rfl (fun h_3 => ?_) (fun h_3 => ?_)
    · skip
      refine g_aload_n cx (pc2 := 36) 0 rfl dX12_can_35 rfl ?_
      refine g_get cx (pc2 := 39) (ci := 12) (k0 := 77) (j := 27) (v := .ref 92) rfl iwX12 rfl (lt_lit hn (Nat.le_of_ble_eq_true rfl)) rfl (Nat.le_of_ble_eq_true rfl) kf_X12_53 rfl rfl dX12_can_36 rfl ?_
      refine g_iload_n cx (pc2 := 40) 1 rfl dX12_can_39 rfl ?_
      refine g_iald cx (pc2 := 41) (k0 := 92) rfl (lt_lit hn (Nat.le_of_ble_eq_true rfl)) (by first | assumption | omega) (by first | assumption | omega) (Nat.le_of_ble_eq_true rfl) dX12_can_40 rfl ?_
      refine g_rwi (y := iI (M_2 92 ((s).toNat))) (congrArg iI (by simp [stM])) ?_
      exact g_iret cx qx dX12_can_41 ⟨_, rfl, by refine Or.inr ⟨by assumption, hX, ?_⟩; unfold e9; first | (rw [if_pos (by omega)]; done) | (rw [if_neg (by omega)]; done)⟩
    · skip
      refine g_bipush cx (pc2 := 32) ⟨by decide, by decide⟩ dX12_can_30 rfl ?_
      refine g_goto cx (tgt := 41) dX12_can_32 (by decide) ?_
      exact g_iret cx qx dX12_can_41 ⟨_, rfl, by refine Or.inr ⟨by assumption, hX, ?_⟩; unfold e9; first | (rw [if_pos (by omega)]; done) | (rw [if_neg (by omega)]; done)⟩
  · skip
    refine g_iconst cx (pc2 := 9) dX12_can_8 rfl ?_
    exact g_iret cx qx dX12_can_9 ⟨_, rfl, by exact Or.inl ⟨by assumption, rfl, rfl⟩⟩
set_option maxHeartbeats 4000000 in
set_option maxRecDepth 100000 in
theorem c_X12_sets {n : Nat} (hn : NN n) {M : Mm} (hV : RV M) : CT yX12_sets cX12_sets 4 (some .int) ({ frames := 5, cells := 0, slots := 0, locals := 121 }) n [.ref 77] M (pI (fun z M2 => xseR M z M2)) := by
  refine CT.of (lv0 := [(0, .ref 77)]) (by decide +kernel) hn (fun _ => rfl) (fun _ => Nat.le_of_ble_eq_true rfl) (fun X cx cs qx => ?_)
  have cx : Cx X cX12_sets RX12 ({ frames := 5, cells := 0, slots := 0, locals := 121 }) 4 n := cx
  have hv1 := hV.1
  have hfb := fX_255 hV
  have hJo := jbR_ok hV
  refine g_aload_n cx (pc2 := 1) 0 rfl dX12_sets_0 rfl ?_
  refine g_aload_n cx (pc2 := 2) 0 rfl dX12_sets_1 rfl ?_
  refine g_get cx (pc2 := 5) (ci := 12) (k0 := 77) (j := 15) (v := .int (iI (M 77 15))) rfl iwX12 rfl (lt_lit hn (Nat.le_of_ble_eq_true rfl)) rfl (Nat.le_of_ble_eq_true rfl) kf_X12_171 rfl rfl dX12_sets_2 rfl ?_
  refine g_callV cx (pc2 := 8) (st := []) (As := [.int (iI (M 77 15))]) (k0 := 77) (ci := 12) (c_X12_layEnds (M := M) hn (by first | exact hXV | exact hV) (M 77 15) (by first | assumption | omega)) wM_X12_layEnds wV_X12_layEnds kl_X12_242 rfl (lt_lit hn (Nat.le_of_ble_eq_true rfl)) rfl ⟨rfl, rfl, Nat.le_of_ble_eq_true rfl, Nat.le_of_ble_eq_true rfl⟩ (Nat.le_of_ble_eq_true rfl) cs rfl rfl dX12_sets_5 rfl ?_
  rintro _ M_1 ⟨rfl, h_1⟩
  have hX := h_1
  have hXV := hX.V hV
  have hXe := hX.e
  have hXj := hX.j
  obtain ⟨T, hT⟩ : ∃ T, T = M_1 := ⟨_, rfl⟩
  rw [← hT] at hX hXV hXe hXj
  have e12 : T 77 12 = M 77 12 := by rw [hXe]
  refine g_M (M2 := T) (by exact hT.symm) ?_
  refine g_iconst cx (pc2 := 9) dX12_sets_8 rfl ?_
  refine g_istore_n cx (pc2 := 10) (lv2 := [(0, .ref 77), (1, .int (iI 0))]) rfl (Nat.le_of_ble_eq_true rfl) dX12_sets_9 rfl ?_
  refine g_iconst cx (pc2 := 11) dX12_sets_10 rfl ?_
  refine g_istore_n cx (pc2 := 12) (lv2 := [(0, .ref 77), (1, .int (iI 0)), (2, .int (iI 0))]) rfl (Nat.le_of_ble_eq_true rfl) dX12_sets_11 rfl ?_
  refine g_iconst cx (pc2 := 13) dX12_sets_12 rfl ?_
  refine g_istore_n cx (pc2 := 14) (lv2 := [(0, .ref 77), (1, .int (iI 0)), (2, .int (iI 0)), (3, .int (iI 0))]) rfl (Nat.le_of_ble_eq_true rfl) dX12_sets_13 rfl ?_
  have L14 : ∀ (fu : Nat) (s : Int) (y : Int) (w : Int), (0 ≤ s ∧ s ≤ ((allN (M 77 12) : Nat) : Int) + 1) → (y = (xsF (jbR M) (M 77 12).toNat (T 92) s.toNat).1 ∧ w = (xsF (jbR M) (M 77 12).toNat (T 92) s.toNat).2) → (((allN (M 77 12) : Nat) : Int) + 1 - s).toNat ≤ fu → G X 14 [(0, .ref 77), (1, .int (iI y)), (2, .int (iI w)), (3, .int (iI s))] [] T := by
    intro fu
    induction fu using Nat.strongRecOn with
    | _ fu ih14 =>
      intro s y w hs hyw hk14
      have hEs := hX.2 s.toNat
      have hb1 := xsF_b hJo (n := (M 77 12).toNat) (by omega) (T 92) s.toNat
      have hw1 := wsB_b hJo (n := (M 77 12).toNat) (by omega) s.toNat
      have hst : xsF (jbR M) (M 77 12).toNat (T 92) (s + 1).toNat = if T 92 s.toNat < 1000 then (y + 1, max w (wsB (jbR M) (M 77 12).toNat s.toNat)) else (y, w) := by rw [show (s + 1).toNat = s.toNat + 1 by omega, xsF, hyw.1, hyw.2]
      refine g_iload_n cx (pc2 := 15) 3 rfl dX12_sets_14 rfl ?_
      refine g_aload_n cx (pc2 := 16) 0 rfl dX12_sets_15 rfl ?_
      refine g_callV cx (pc2 := 19) (st := [.int (iI s)]) (As := []) (k0 := 77) (ci := 12) (c_X12_full (M := T) hn (by first | exact hXV | exact hV)) wM_X12_full wV_X12_full kl_X12_230 rfl (lt_lit hn (Nat.le_of_ble_eq_true rfl)) rfl ⟨rfl, rfl, Nat.le_of_ble_eq_true rfl, Nat.le_of_ble_eq_true rfl⟩ (Nat.le_of_ble_eq_true rfl) cs rfl rfl dX12_sets_16 rfl ?_
      rintro _ _ ⟨rfl, rfl⟩
      refine g_rwi (y := iI ((allN (M 77 12) : Nat) : Int)) (congrArg (fun q => iI ((allN q : Nat) : Int)) e12) ?_
      refine g_icmp_gt cx (pc2 := 22) (tgt := 53) ⟨(by first | assumption | omega), (by first | assumption | omega)⟩ dX12_sets_19 (by decide) rfl (fun h_2 => ?_) (fun h_2 => ?_)
      · skip
        refine g_aload_n cx (pc2 := 54) 0 rfl dX12_sets_53 rfl ?_
        refine g_iload_n cx (pc2 := 55) 2 rfl dX12_sets_54 rfl ?_
        refine g_iload_n cx (pc2 := 56) 1 rfl dX12_sets_55 rfl ?_
        refine g_callV cx (pc2 := 59) (st := []) (As := [.int (iI w), .int (iI y)]) (k0 := 77) (ci := 12) (c_X12_tells (M := T) hn w y) wM_X12_tells wV_X12_tells kl_X12_119 rfl (lt_lit hn (Nat.le_of_ble_eq_true rfl)) rfl ⟨rfl, rfl, Nat.le_of_ble_eq_true rfl, Nat.le_of_ble_eq_true rfl⟩ (Nat.le_of_ble_eq_true rfl) cs rfl rfl dX12_sets_56 rfl ?_
        rintro _ _ ⟨rfl, rfl⟩
        exact g_iret cx qx dX12_sets_59 ⟨_, rfl, by have e : s.toNat = allN (M 77 12) + 1 := (by omega); rw [e] at hyw; exact ⟨T, hX, hyw.1, by rw [hyw.2]⟩⟩
      · skip
        have L47 : ∀ (y2 : Int) (w2 : Int), (y2 = (xsF (jbR M) (M 77 12).toNat (T 92) (s + 1).toNat).1 ∧ w2 = (xsF (jbR M) (M 77 12).toNat (T 92) (s + 1).toNat).2) → G X 47 [(0, .ref 77), (1, .int (iI y2)), (2, .int (iI w2)), (3, .int (iI s))] [] T := by
          intro y2 w2 hyw2
          refine g_iinc cx (pc2 := 50) 3 rfl (lv2 := [(0, .ref 77), (1, .int (iI y2)), (2, .int (iI w2)), (3, .int (iI (s + 1)))]) rfl (Nat.le_of_ble_eq_true rfl) dX12_sets_47 rfl ?_
          refine g_goto cx (tgt := 14) dX12_sets_50 (by decide) ?_
          exact ih14 ((((allN (M 77 12) : Nat) : Int) + 1 - (s + 1)).toNat) (by omega) (s + 1) y2 w2 (by first | assumption | omega) (by exact hyw2) (Nat.le_refl _)
        refine g_aload_n cx (pc2 := 23) 0 rfl dX12_sets_22 rfl ?_
        refine g_get cx (pc2 := 26) (ci := 12) (k0 := 77) (j := 27) (v := .ref 92) rfl iwX12 rfl (lt_lit hn (Nat.le_of_ble_eq_true rfl)) rfl (Nat.le_of_ble_eq_true rfl) kf_X12_53 rfl rfl dX12_sets_23 rfl ?_
        refine g_iload_n cx (pc2 := 27) 3 rfl dX12_sets_26 rfl ?_
        have hEs1 := (hEs (by omega)).2
        refine g_iald cx (pc2 := 28) (k0 := 92) rfl (lt_lit hn (Nat.le_of_ble_eq_true rfl)) (by first | assumption | omega) (by first | assumption | omega) (Nat.le_of_ble_eq_true rfl) dX12_sets_27 rfl ?_
        refine g_rwi (y := iI (T 92 ((s).toNat))) (congrArg iI (by simp [stM])) ?_
        refine g_sipush cx (pc2 := 31) ⟨by decide, by decide⟩ dX12_sets_28 rfl ?_
        refine g_icmp_ge cx (pc2 := 34) (tgt := 47) ⟨(by first | assumption | omega), ⟨by decide, by decide⟩⟩ dX12_sets_31 (by decide) rfl (fun h_3 => ?_) (fun h_3 => ?_)
        · skip
          exact L47 y w (by rw [hst]; first | (rw [if_pos (by omega)]; exact ⟨rfl, rfl⟩) | (rw [if_neg (by omega)]; exact ⟨rfl, rfl⟩))
        · skip
          refine g_iinc cx (pc2 := 37) 1 rfl (lv2 := [(0, .ref 77), (1, .int (iI (y + 1))), (2, .int (iI w)), (3, .int (iI s))]) rfl (Nat.le_of_ble_eq_true rfl) dX12_sets_34 rfl ?_
          refine g_iload_n cx (pc2 := 38) 2 rfl dX12_sets_37 rfl ?_
          refine g_aload_n cx (pc2 := 39) 0 rfl dX12_sets_38 rfl ?_
          refine g_iload_n cx (pc2 := 40) 3 rfl dX12_sets_39 rfl ?_
          refine g_callV cx (pc2 := 43) (st := [.int (iI w)]) (As := [.int (iI s)]) (k0 := 77) (ci := 12) (c_X12_worthOf (M := T) hn (by first | exact hXV | exact hV) s (by first | assumption | omega)) wM_X12_worthOf wV_X12_worthOf kl_X12_246 rfl (lt_lit hn (Nat.le_of_ble_eq_true rfl)) rfl ⟨rfl, rfl, Nat.le_of_ble_eq_true rfl, Nat.le_of_ble_eq_true rfl⟩ (Nat.le_of_ble_eq_true rfl) cs rfl rfl dX12_sets_40 rfl ?_
          rintro _ _ ⟨rfl, rfl⟩
          refine g_rwi (y := iI (wsB (jbR M) (M 77 12).toNat s.toNat)) (congrArg iI (by rw [hXj, e12])) ?_
          refine g_callS cx (pc2 := 46) (st := []) (As := [.int (iI w), .int (iI (wsB (jbR M) (M 77 12).toNat s.toNat))]) (c_X12_greater (M := T) hn w (wsB (jbR M) (M 77 12).toNat s.toNat) (by first | assumption | omega) (by first | assumption | omega)) wM_X12_greater wS_X12_greater kl_X12_207 ⟨rfl, rfl, Nat.le_of_ble_eq_true rfl, Nat.le_of_ble_eq_true rfl⟩ (Nat.le_of_ble_eq_true rfl) cs rfl rfl dX12_sets_43 rfl ?_
          rintro _ _ ⟨rfl, rfl⟩
          refine g_istore_n cx (pc2 := 47) (lv2 := [(0, .ref 77), (1, .int (iI (y + 1))), (2, .int (iI (max w (wsB (jbR M) (M 77 12).toNat s.toNat)))), (3, .int (iI s))]) rfl (Nat.le_of_ble_eq_true rfl) dX12_sets_46 rfl ?_
          exact L47 (y + 1) (max w (wsB (jbR M) (M 77 12).toNat s.toNat)) (by rw [hst]; first | (rw [if_pos (by omega)]; exact ⟨rfl, rfl⟩) | (rw [if_neg (by omega)]; exact ⟨rfl, rfl⟩))
  exact L14 _ 0 0 0 (by first | assumption | omega) (by exact ⟨rfl, rfl⟩) (Nat.le_refl _)
set_option maxHeartbeats 4000000 in
set_option maxRecDepth 100000 in
theorem c_X12_best {n : Nat} (hn : NN n) {M : Mm} (hV : RV M) : CT yX12_best cX12_best 2 (some .int) ({ frames := 5, cells := 0, slots := 0, locals := 121 }) n [.ref 77] M (pI (fun z M2 => xbeR M z M2)) := by
  refine CT.of (lv0 := [(0, .ref 77)]) (by decide +kernel) hn (fun _ => rfl) (fun _ => Nat.le_of_ble_eq_true rfl) (fun X cx cs qx => ?_)
  have cx : Cx X cX12_best RX12 ({ frames := 5, cells := 0, slots := 0, locals := 121 }) 2 n := cx
  have hv1 := hV.1
  have hfb := fX_255 hV
  have hMu := mKx_255 hV 1
  refine g_aload_n cx (pc2 := 1) 0 rfl dX12_best_0 rfl ?_
  refine g_aload_n cx (pc2 := 2) 0 rfl dX12_best_1 rfl ?_
  refine g_get cx (pc2 := 5) (ci := 12) (k0 := 77) (j := 15) (v := .int (iI (M 77 15))) rfl iwX12 rfl (lt_lit hn (Nat.le_of_ble_eq_true rfl)) rfl (Nat.le_of_ble_eq_true rfl) kf_X12_171 rfl rfl dX12_best_2 rfl ?_
  refine g_callV cx (pc2 := 8) (st := []) (As := [.int (iI (M 77 15))]) (k0 := 77) (ci := 12) (c_X12_layEnds (M := M) hn (by first | exact hXV | exact hV) (M 77 15) (by first | assumption | omega)) wM_X12_layEnds wV_X12_layEnds kl_X12_242 rfl (lt_lit hn (Nat.le_of_ble_eq_true rfl)) rfl ⟨rfl, rfl, Nat.le_of_ble_eq_true rfl, Nat.le_of_ble_eq_true rfl⟩ (Nat.le_of_ble_eq_true rfl) cs rfl rfl dX12_best_5 rfl ?_
  rintro _ M_1 ⟨rfl, h_1⟩
  have hX := h_1
  have hXV := hX.V hV
  have hXe := hX.e
  have hXj := hX.j
  obtain ⟨T, hT⟩ : ∃ T, T = M_1 := ⟨_, rfl⟩
  rw [← hT] at hX hXV hXe hXj
  have e12 : T 77 12 = M 77 12 := by rw [hXe]
  have hXE : ∀ t : Nat, t ≤ allN (T 77 12) → exV (T 92 t) := fun t ht => (hX.2 t (by rw [e12] at ht; exact ht)).2
  have eBo : ∀ a b, boX T T a b = boX M T a b := fun a b => by unfold boX; rw [hXj, e12]
  have hbv := boF_v (jbR M) (M 77 12).toNat (T 92) (mKx M 1) 0 (allN (M 77 12) + 1)
  have hbo : boX M T (mKx M 1) 0 = -9 ∨ (0 ≤ boX M T (mKx M 1) 0 ∧ boX M T (mKx M 1) 0 ≤ 255) := by unfold boX; omega
  refine g_M (M2 := T) (by exact hT.symm) ?_
  refine g_aload_n cx (pc2 := 9) 0 rfl dX12_best_8 rfl ?_
  refine g_aload_n cx (pc2 := 10) 0 rfl dX12_best_9 rfl ?_
  refine g_callV cx (pc2 := 13) (st := [.ref 77]) (As := []) (k0 := 77) (ci := 12) (c_X12_musts (M := T) hn (by first | exact hXV | exact hV)) wM_X12_musts wV_X12_musts kl_X12_249 rfl (lt_lit hn (Nat.le_of_ble_eq_true rfl)) rfl ⟨rfl, rfl, Nat.le_of_ble_eq_true rfl, Nat.le_of_ble_eq_true rfl⟩ (Nat.le_of_ble_eq_true rfl) cs rfl rfl dX12_best_10 rfl ?_
  rintro _ _ ⟨rfl, rfl⟩
  refine g_rwi (y := iI ((mKx M 1 : Nat) : Int)) (congrArg (fun q => iI ((q : Nat) : Int)) (mKx_off (hX.1 85 (by decide) (by decide)) e12 1)) ?_
  refine g_iconst cx (pc2 := 14) dX12_best_13 rfl ?_
  refine g_callV cx (pc2 := 17) (st := []) (As := [.int (iI ((mKx M 1 : Nat) : Int)), .int (iI 0)]) (k0 := 77) (ci := 12) (c_X12_bestOf (M := T) hn (by first | exact hXV | exact hV) (by exact hXE) ((mKx M 1 : Nat) : Int) 0 (by first | assumption | omega) (by first | assumption | omega)) wM_X12_bestOf wV_X12_bestOf kl_X12_252 rfl (lt_lit hn (Nat.le_of_ble_eq_true rfl)) rfl ⟨rfl, rfl, Nat.le_of_ble_eq_true rfl, Nat.le_of_ble_eq_true rfl⟩ (Nat.le_of_ble_eq_true rfl) cs rfl rfl dX12_best_14 rfl ?_
  rintro _ _ ⟨rfl, rfl⟩
  refine g_rwi (y := iI (boX M T (mKx M 1) 0)) (congrArg iI (eBo _ _)) ?_
  refine g_istore_n cx (pc2 := 18) (lv2 := [(0, .ref 77), (1, .int (iI (boX M T (mKx M 1) 0)))]) rfl (Nat.le_of_ble_eq_true rfl) dX12_best_17 rfl ?_
  refine g_iload_n cx (pc2 := 19) 1 rfl dX12_best_18 rfl ?_
  refine g_bipush cx (pc2 := 21) ⟨by decide, by decide⟩ dX12_best_19 rfl ?_
  refine g_icmp_ne cx (pc2 := 24) (tgt := 29) ⟨(by first | assumption | omega), ⟨by decide, by decide⟩⟩ dX12_best_21 (by decide) rfl (fun h_2 => ?_) (fun h_2 => ?_)
  · skip
    refine g_aload_n cx (pc2 := 30) 0 rfl dX12_best_29 rfl ?_
    refine g_aload_n cx (pc2 := 31) 0 rfl dX12_best_30 rfl ?_
    refine g_iload_n cx (pc2 := 32) 1 rfl dX12_best_31 rfl ?_
    refine g_callV cx (pc2 := 35) (st := [.ref 77]) (As := [.int (iI (boX M T (mKx M 1) 0))]) (k0 := 77) (ci := 12) (c_X12_worthOf (M := T) hn (by first | exact hXV | exact hV) (boX M T (mKx M 1) 0) (by first | assumption | omega)) wM_X12_worthOf wV_X12_worthOf kl_X12_246 rfl (lt_lit hn (Nat.le_of_ble_eq_true rfl)) rfl ⟨rfl, rfl, Nat.le_of_ble_eq_true rfl, Nat.le_of_ble_eq_true rfl⟩ (Nat.le_of_ble_eq_true rfl) cs rfl rfl dX12_best_32 rfl ?_
    rintro _ _ ⟨rfl, rfl⟩
    refine g_rwi (y := iI (wsB (jbR M) (M 77 12).toNat (boX M T (mKx M 1) 0).toNat)) (congrArg iI (by rw [hXj, e12])) ?_
    refine g_iload_n cx (pc2 := 36) 1 rfl dX12_best_35 rfl ?_
    refine g_callV cx (pc2 := 39) (st := []) (As := [.int (iI (wsB (jbR M) (M 77 12).toNat (boX M T (mKx M 1) 0).toNat)), .int (iI (boX M T (mKx M 1) 0))]) (k0 := 77) (ci := 12) (c_X12_tells (M := T) hn (wsB (jbR M) (M 77 12).toNat (boX M T (mKx M 1) 0).toNat) (boX M T (mKx M 1) 0)) wM_X12_tells wV_X12_tells kl_X12_119 rfl (lt_lit hn (Nat.le_of_ble_eq_true rfl)) rfl ⟨rfl, rfl, Nat.le_of_ble_eq_true rfl, Nat.le_of_ble_eq_true rfl⟩ (Nat.le_of_ble_eq_true rfl) cs rfl rfl dX12_best_36 rfl ?_
    rintro _ _ ⟨rfl, rfl⟩
    exact g_iret cx qx dX12_best_39 ⟨_, rfl, by refine ⟨T, hX, (by first | omega | rfl), (by first | (rw [if_pos rfl]; done) | (rw [if_neg (by assumption)]; done))⟩⟩
  · skip
    refine g_bipush cx (pc2 := 26) ⟨by decide, by decide⟩ dX12_best_24 rfl ?_
    refine g_goto cx (tgt := 39) dX12_best_26 (by decide) ?_
    exact g_iret cx qx dX12_best_39 ⟨_, rfl, by refine ⟨T, hX, (by first | omega | rfl), (by first | (rw [if_pos rfl]; done) | (rw [if_neg (by assumption)]; done))⟩⟩
set_option maxHeartbeats 4000000 in
set_option maxRecDepth 100000 in
theorem c_X12_costs {n : Nat} (hn : NN n) {M : Mm} (hV : RV M) (i : Int) (hi : ir i) : CT yX12_costs cX12_costs 4 (some .int) ({ frames := 5, cells := 0, slots := 0, locals := 121 }) n [.ref 77, .int (iI i)] M (pI (fun z M2 => xcoR M i z M2)) := by
  refine CT.of (lv0 := [(0, .ref 77), (1, .int (iI i))]) (by decide +kernel) hn (fun _ => rfl) (fun _ => Nat.le_of_ble_eq_true rfl) (fun X cx cs qx => ?_)
  have cx : Cx X cX12_costs RX12 ({ frames := 5, cells := 0, slots := 0, locals := 121 }) 4 n := cx
  have hv1 := hV.1
  have hfb := fX_255 hV
  have hMu := mKx_255 hV 1
  refine g_aload_n cx (pc2 := 1) 0 rfl dX12_costs_0 rfl ?_
  refine g_iload_n cx (pc2 := 2) 1 rfl dX12_costs_1 rfl ?_
  refine g_callV cx (pc2 := 5) (st := []) (As := [.int (iI i)]) (k0 := 77) (ci := 12) (c_X12_isNeed (M := M) hn (by first | exact hXV | exact hV) i (by first | assumption | omega)) wM_X12_isNeed wV_X12_isNeed kl_X12_192 rfl (lt_lit hn (Nat.le_of_ble_eq_true rfl)) rfl ⟨rfl, rfl, Nat.le_of_ble_eq_true rfl, Nat.le_of_ble_eq_true rfl⟩ (Nat.le_of_ble_eq_true rfl) cs rfl rfl dX12_costs_2 rfl ?_
  rintro _ _ ⟨rfl, rfl⟩
  refine g_ifb_ne cx (pc2 := 8) (tgt := 10) dX12_costs_5 (by decide) rfl (fun h_1 => ?_) (fun h_1 => ?_)
  · skip
    refine g_aload_n cx (pc2 := 11) 0 rfl dX12_costs_10 rfl ?_
    refine g_aload_n cx (pc2 := 12) 0 rfl dX12_costs_11 rfl ?_
    refine g_get cx (pc2 := 15) (ci := 12) (k0 := 77) (j := 15) (v := .int (iI (M 77 15))) rfl iwX12 rfl (lt_lit hn (Nat.le_of_ble_eq_true rfl)) rfl (Nat.le_of_ble_eq_true rfl) kf_X12_171 rfl rfl dX12_costs_12 rfl ?_
    refine g_callV cx (pc2 := 18) (st := []) (As := [.int (iI (M 77 15))]) (k0 := 77) (ci := 12) (c_X12_layEnds (M := M) hn (by first | exact hXV | exact hV) (M 77 15) (by first | assumption | omega)) wM_X12_layEnds wV_X12_layEnds kl_X12_242 rfl (lt_lit hn (Nat.le_of_ble_eq_true rfl)) rfl ⟨rfl, rfl, Nat.le_of_ble_eq_true rfl, Nat.le_of_ble_eq_true rfl⟩ (Nat.le_of_ble_eq_true rfl) cs rfl rfl dX12_costs_15 rfl ?_
    rintro _ M_2 ⟨rfl, h_2⟩
    have hp2 := p8 (i := i) (by omega)
    have hp3 : (0 : Int) ≤ ((2 ^ i.toNat : Nat) : Int) := Int.natCast_nonneg _
    have hX := h_2
    have hXV := hX.V hV
    have hXe := hX.e
    have hXj := hX.j
    obtain ⟨T, hT⟩ : ∃ T, T = M_2 := ⟨_, rfl⟩
    rw [← hT] at hX hXV hXe hXj
    have e12 : T 77 12 = M 77 12 := by rw [hXe]
    have hXE : ∀ t : Nat, t ≤ allN (T 77 12) → exV (T 92 t) := fun t ht => (hX.2 t (by rw [e12] at ht; exact ht)).2
    have eBo : ∀ a b, boX T T a b = boX M T a b := fun a b => by unfold boX; rw [hXj, e12]
    have hbv := boF_v (jbR M) (M 77 12).toNat (T 92) (mKx M 1) 0 (allN (M 77 12) + 1)
    have hbo : boX M T (mKx M 1) 0 = -9 ∨ (0 ≤ boX M T (mKx M 1) 0 ∧ boX M T (mKx M 1) 0 ≤ 255) := by unfold boX; omega
    have hbv2 := boF_v (jbR M) (M 77 12).toNat (T 92) (ndN (mKx M 1) (2 ^ i.toNat)) (2 ^ i.toNat) (allN (M 77 12) + 1)
    have hbo2 : boX M T (ndN (mKx M 1) (2 ^ i.toNat)) (2 ^ i.toNat) = -9 ∨ (0 ≤ boX M T (ndN (mKx M 1) (2 ^ i.toNat)) (2 ^ i.toNat) ∧ boX M T (ndN (mKx M 1) (2 ^ i.toNat)) (2 ^ i.toNat) ≤ 255) := by unfold boX; omega
    have hn1 := ndN_le (mKx M 1) (2 ^ i.toNat)
    have hn2 := ndN_le (boX M T (mKx M 1) 0).toNat (2 ^ i.toNat)
    refine g_M (M2 := T) (by exact hT.symm) ?_
    refine g_aload_n cx (pc2 := 19) 0 rfl dX12_costs_18 rfl ?_
    refine g_aload_n cx (pc2 := 20) 0 rfl dX12_costs_19 rfl ?_
    refine g_callV cx (pc2 := 23) (st := [.ref 77]) (As := []) (k0 := 77) (ci := 12) (c_X12_musts (M := T) hn (by first | exact hXV | exact hV)) wM_X12_musts wV_X12_musts kl_X12_249 rfl (lt_lit hn (Nat.le_of_ble_eq_true rfl)) rfl ⟨rfl, rfl, Nat.le_of_ble_eq_true rfl, Nat.le_of_ble_eq_true rfl⟩ (Nat.le_of_ble_eq_true rfl) cs rfl rfl dX12_costs_20 rfl ?_
    rintro _ _ ⟨rfl, rfl⟩
    refine g_rwi (y := iI ((mKx M 1 : Nat) : Int)) (congrArg (fun q => iI ((q : Nat) : Int)) (mKx_off (hX.1 85 (by decide) (by decide)) e12 1)) ?_
    refine g_iconst cx (pc2 := 24) dX12_costs_23 rfl ?_
    refine g_callV cx (pc2 := 27) (st := []) (As := [.int (iI ((mKx M 1 : Nat) : Int)), .int (iI 0)]) (k0 := 77) (ci := 12) (c_X12_bestOf (M := T) hn (by first | exact hXV | exact hV) (by exact hXE) ((mKx M 1 : Nat) : Int) 0 (by first | assumption | omega) (by first | assumption | omega)) wM_X12_bestOf wV_X12_bestOf kl_X12_252 rfl (lt_lit hn (Nat.le_of_ble_eq_true rfl)) rfl ⟨rfl, rfl, Nat.le_of_ble_eq_true rfl, Nat.le_of_ble_eq_true rfl⟩ (Nat.le_of_ble_eq_true rfl) cs rfl rfl dX12_costs_24 rfl ?_
    rintro _ _ ⟨rfl, rfl⟩
    refine g_rwi (y := iI (boX M T (mKx M 1) 0)) (congrArg iI (eBo _ _)) ?_
    refine g_istore_n cx (pc2 := 28) (lv2 := [(0, .ref 77), (1, .int (iI i)), (2, .int (iI (boX M T (mKx M 1) 0)))]) rfl (Nat.le_of_ble_eq_true rfl) dX12_costs_27 rfl ?_
    refine g_aload_n cx (pc2 := 29) 0 rfl dX12_costs_28 rfl ?_
    refine g_aload_n cx (pc2 := 30) 0 rfl dX12_costs_29 rfl ?_
    refine g_callV cx (pc2 := 33) (st := [.ref 77]) (As := []) (k0 := 77) (ci := 12) (c_X12_musts (M := T) hn (by first | exact hXV | exact hV)) wM_X12_musts wV_X12_musts kl_X12_249 rfl (lt_lit hn (Nat.le_of_ble_eq_true rfl)) rfl ⟨rfl, rfl, Nat.le_of_ble_eq_true rfl, Nat.le_of_ble_eq_true rfl⟩ (Nat.le_of_ble_eq_true rfl) cs rfl rfl dX12_costs_30 rfl ?_
    rintro _ _ ⟨rfl, rfl⟩
    refine g_rwi (y := iI ((mKx M 1 : Nat) : Int)) (congrArg (fun q => iI ((q : Nat) : Int)) (mKx_off (hX.1 85 (by decide) (by decide)) e12 1)) ?_
    refine g_iconst cx (pc2 := 34) dX12_costs_33 rfl ?_
    refine g_iload_n cx (pc2 := 35) 1 rfl dX12_costs_34 rfl ?_
    refine g_ishl cx (pc2 := 36) dX12_costs_35 rfl ?_
    refine g_rwi (y := iI ((2 ^ i.toNat : Nat) : Int)) (sh1 (by omega) (by omega)) ?_
    refine g_iconst cx (pc2 := 37) dX12_costs_36 rfl ?_
    refine g_ixor cx (pc2 := 38) dX12_costs_37 rfl ?_
    refine g_iand cx (pc2 := 39) dX12_costs_38 rfl ?_
    refine g_rwi (y := iI ((ndN (mKx M 1) (2 ^ i.toNat) : Nat) : Int)) (nd_iI (by omega) (by omega)) ?_
    refine g_iconst cx (pc2 := 40) dX12_costs_39 rfl ?_
    refine g_iload_n cx (pc2 := 41) 1 rfl dX12_costs_40 rfl ?_
    refine g_ishl cx (pc2 := 42) dX12_costs_41 rfl ?_
    refine g_rwi (y := iI ((2 ^ i.toNat : Nat) : Int)) (sh1 (by omega) (by omega)) ?_
    refine g_callV cx (pc2 := 45) (st := []) (As := [.int (iI ((ndN (mKx M 1) (2 ^ i.toNat) : Nat) : Int)), .int (iI ((2 ^ i.toNat : Nat) : Int))]) (k0 := 77) (ci := 12) (c_X12_bestOf (M := T) hn (by first | exact hXV | exact hV) (by exact hXE) ((ndN (mKx M 1) (2 ^ i.toNat) : Nat) : Int) ((2 ^ i.toNat : Nat) : Int) (by first | assumption | omega) (by first | assumption | omega)) wM_X12_bestOf wV_X12_bestOf kl_X12_252 rfl (lt_lit hn (Nat.le_of_ble_eq_true rfl)) rfl ⟨rfl, rfl, Nat.le_of_ble_eq_true rfl, Nat.le_of_ble_eq_true rfl⟩ (Nat.le_of_ble_eq_true rfl) cs rfl rfl dX12_costs_42 rfl ?_
    rintro _ _ ⟨rfl, rfl⟩
    refine g_rwi (y := iI (boX M T (ndN (mKx M 1) (2 ^ i.toNat)) (2 ^ i.toNat))) (congrArg iI (eBo _ _)) ?_
    refine g_istore_n cx (pc2 := 46) (lv2 := [(0, .ref 77), (1, .int (iI i)), (2, .int (iI (boX M T (mKx M 1) 0))), (3, .int (iI (boX M T (ndN (mKx M 1) (2 ^ i.toNat)) (2 ^ i.toNat))))]) rfl (Nat.le_of_ble_eq_true rfl) dX12_costs_45 rfl ?_
    refine g_iload_n cx (pc2 := 47) 2 rfl dX12_costs_46 rfl ?_
    refine g_bipush cx (pc2 := 49) ⟨by decide, by decide⟩ dX12_costs_47 rfl ?_
    refine g_icmp_eq cx (pc2 := 52) (tgt := 58) ⟨(by first | assumption | omega), ⟨by decide, by decide⟩⟩ dX12_costs_49 (by decide) rfl (fun h_3 => ?_) (fun h_3 => ?_)
    · skip
      refine g_bipush cx (pc2 := 60) ⟨by decide, by decide⟩ dX12_costs_58 rfl ?_
      refine g_goto cx (tgt := 80) dX12_costs_60 (by decide) ?_
      exact g_iret cx qx dX12_costs_80 ⟨_, rfl, by refine Or.inr ⟨by assumption, hX, ?_⟩; first | (rw [if_pos (by omega)]; done) | (rw [if_neg (by omega)]; done)⟩
    · skip
      refine g_iload_n cx (pc2 := 53) 3 rfl dX12_costs_52 rfl ?_
      refine g_bipush cx (pc2 := 55) ⟨by decide, by decide⟩ dX12_costs_53 rfl ?_
      refine g_icmp_ne cx (pc2 := 58) (tgt := 63) ⟨(by first | assumption | omega), ⟨by decide, by decide⟩⟩ dX12_costs_55 (by decide) rfl (fun h_4 => ?_) (fun h_4 => ?_)
      · skip
        refine g_aload_n cx (pc2 := 64) 0 rfl dX12_costs_63 rfl ?_
        refine g_iload_n cx (pc2 := 65) 3 rfl dX12_costs_64 rfl ?_
        refine g_callV cx (pc2 := 68) (st := []) (As := [.int (iI (boX M T (ndN (mKx M 1) (2 ^ i.toNat)) (2 ^ i.toNat)))]) (k0 := 77) (ci := 12) (c_X12_worthOf (M := T) hn (by first | exact hXV | exact hV) (boX M T (ndN (mKx M 1) (2 ^ i.toNat)) (2 ^ i.toNat)) (by first | assumption | omega)) wM_X12_worthOf wV_X12_worthOf kl_X12_246 rfl (lt_lit hn (Nat.le_of_ble_eq_true rfl)) rfl ⟨rfl, rfl, Nat.le_of_ble_eq_true rfl, Nat.le_of_ble_eq_true rfl⟩ (Nat.le_of_ble_eq_true rfl) cs rfl rfl dX12_costs_65 rfl ?_
        rintro _ _ ⟨rfl, rfl⟩
        refine g_rwi (y := iI (wsB (jbR M) (M 77 12).toNat (boX M T (ndN (mKx M 1) (2 ^ i.toNat)) (2 ^ i.toNat)).toNat)) (congrArg iI (by rw [hXj, e12])) ?_
        refine g_aload_n cx (pc2 := 69) 0 rfl dX12_costs_68 rfl ?_
        refine g_iload_n cx (pc2 := 70) 2 rfl dX12_costs_69 rfl ?_
        refine g_iconst cx (pc2 := 71) dX12_costs_70 rfl ?_
        refine g_iload_n cx (pc2 := 72) 1 rfl dX12_costs_71 rfl ?_
        refine g_ishl cx (pc2 := 73) dX12_costs_72 rfl ?_
        refine g_rwi (y := iI ((2 ^ i.toNat : Nat) : Int)) (sh1 (by omega) (by omega)) ?_
        refine g_iconst cx (pc2 := 74) dX12_costs_73 rfl ?_
        refine g_ixor cx (pc2 := 75) dX12_costs_74 rfl ?_
        refine g_iand cx (pc2 := 76) dX12_costs_75 rfl ?_
        refine g_rwi (y := iI ((ndN (boX M T (mKx M 1) 0).toNat (2 ^ i.toNat) : Nat) : Int)) (nd_iI (by omega) (by omega)) ?_
        refine g_callV cx (pc2 := 79) (st := [.int (iI (wsB (jbR M) (M 77 12).toNat (boX M T (ndN (mKx M 1) (2 ^ i.toNat)) (2 ^ i.toNat)).toNat))]) (As := [.int (iI ((ndN (boX M T (mKx M 1) 0).toNat (2 ^ i.toNat) : Nat) : Int))]) (k0 := 77) (ci := 12) (c_X12_worthOf (M := T) hn (by first | exact hXV | exact hV) ((ndN (boX M T (mKx M 1) 0).toNat (2 ^ i.toNat) : Nat) : Int) (by first | assumption | omega)) wM_X12_worthOf wV_X12_worthOf kl_X12_246 rfl (lt_lit hn (Nat.le_of_ble_eq_true rfl)) rfl ⟨rfl, rfl, Nat.le_of_ble_eq_true rfl, Nat.le_of_ble_eq_true rfl⟩ (Nat.le_of_ble_eq_true rfl) cs rfl rfl dX12_costs_76 rfl ?_
        rintro _ _ ⟨rfl, rfl⟩
        refine g_rwi (y := iI (wsB (jbR M) (M 77 12).toNat (ndN (boX M T (mKx M 1) 0).toNat (2 ^ i.toNat)))) (congrArg iI (by rw [hXj, e12]; rfl)) ?_
        refine g_isub cx (pc2 := 80) dX12_costs_79 rfl ?_
        exact g_iret cx qx dX12_costs_80 ⟨_, rfl, by refine Or.inr ⟨by assumption, hX, ?_⟩; first | (rw [if_pos (by omega)]; done) | (rw [if_neg (by omega)]; done)⟩
      · skip
        refine g_bipush cx (pc2 := 60) ⟨by decide, by decide⟩ dX12_costs_58 rfl ?_
        refine g_goto cx (tgt := 80) dX12_costs_60 (by decide) ?_
        exact g_iret cx qx dX12_costs_80 ⟨_, rfl, by refine Or.inr ⟨by assumption, hX, ?_⟩; first | (rw [if_pos (by omega)]; done) | (rw [if_neg (by omega)]; done)⟩
  · skip
    refine g_iconst cx (pc2 := 9) dX12_costs_8 rfl ?_
    exact g_iret cx qx dX12_costs_9 ⟨_, rfl, by exact Or.inl ⟨by assumption, rfl, rfl⟩⟩
