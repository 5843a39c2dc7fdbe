/-- ways of one drawing -/
def xoW (M : Mm) (s : Nat) : Nat → Int
  | 0 => 1
  | i + 1 => xoW M s i * (if isAK (nA M (i : Int) 0) 2 then (if s.testBit i = true then M 86 i else 12 - M 86 i) else 1)
def xoA (M : Mm) : Nat → Int
  | 0 => 1
  | i + 1 => if isAK (nA M (i : Int) 0) 2 then xoA M i * 12 else xoA M i
theorem xoW_b {M : Mm} (h : RV M) (s : Nat) : ∀ k : Nat, k ≤ 8 → 0 ≤ xoW M s k ∧ xoW M s k ≤ 12 ^ k
  | 0, _ => by simp [xoW]
  | k + 1, hk => by
    have h1 := xoW_b h s k (by omega)
    have h2 := h.2.2.2 k (by omega)
    have h3 : 0 ≤ (if isAK (nA M (k : Int) 0) 2 then (if s.testBit k = true then M 86 k else 12 - M 86 k) else 1) ∧ (if isAK (nA M (k : Int) 0) 2 then (if s.testBit k = true then M 86 k else 12 - M 86 k) else 1) ≤ 12 := by
      split
      · split <;> omega
      · omega
    rw [xoW, Int.pow_succ]
    exact ⟨Int.mul_nonneg h1.1 h3.1, Int.mul_le_mul h1.2 h3.2 h3.1 (by omega)⟩
theorem xoA_b (M : Mm) : ∀ k : Nat, k ≤ 8 → 1 ≤ xoA M k ∧ xoA M k ≤ 12 ^ k
  | 0, _ => by simp [xoA]
  | k + 1, hk => by
    have h1 := xoA_b M k (by omega)
    rw [xoA, Int.pow_succ]
    split
    · exact ⟨by omega, by omega⟩
    · exact ⟨h1.1, by omega⟩
def xoF (M : Mm) (E : Nat → Int) (l m : Nat) : Nat → Int
  | 0 => 0
  | s + 1 => if ndN s l = 0 ∧ E (s ||| m) < 1000 then xoF M E l m s + xoW M s (M 77 12).toNat else xoF M E l m s
theorem xoF_b {M : Mm} (h : RV M) (E : Nat → Int) (l m : Nat) : ∀ k : Nat, 0 ≤ xoF M E l m k ∧ xoF M E l m k ≤ k * 429981696
  | 0 => by simp [xoF]
  | k + 1 => by
    have h1 := xoF_b h E l m k
    have hv := h.1
    have h2 := xoW_b h k (M 77 12).toNat (by omega)
    have h3 := pow12 (k := (M 77 12).toNat) (by omega)
    rw [xoF]
    split <;> omega
theorem mKx_lt (M : Mm) (k : Int) : mKx M k < 2 ^ (M 77 12).toNat := bsum_lt _ _
theorem allN_or {z : Int} (h0 : 0 ≤ z) {s m : Nat} (hs : s ≤ allN z) (hm : m < 2 ^ z.toNat) : s ||| m ≤ allN z := by
  have e := allN_eq z
  have hp := Nat.two_pow_pos z.toNat
  have := Nat.or_lt_two_pow (x := s) (y := m) (n := z.toNat) (by omega) hm
  omega
def xodT (M : Mm) (z : Int) (M2 : Mm) : Prop := z = 1 ∧ ∃ T, LX M (sP M) T ∧ M2 = rfM T (xoF M (T 92) (mKx M 2) (mKx M 1) (allN (M 77 12) + 1)) (xoA M (M 77 12).toNat)
def clX (M : Mm) (s : Int) (i : Nat) : Bool := decide (isAK (nA M (i : Int) 0) 2 ∧ nbF s (i + 1) % 12 < M 86 i)
def clN (M : Mm) (s : Int) (i : Nat) : Bool := decide (isAK (nA M (i : Int) 0) 2 ∧ ¬ nbF s (i + 1) % 12 < M 86 i)
def xclU (M : Mm) (s : Int) : Nat := bsum (clX M s) (M 77 12).toNat
def xclB (M : Mm) (s : Int) : Nat := bsum (clN M s) (M 77 12).toNat
def xclR (M : Mm) (s z : Int) (M2 : Mm) : Prop := (¬ (1 ≤ s ∧ s ≤ 2147483646) ∧ z = -1 ∧ M2 = M) ∨ ((1 ≤ s ∧ s ≤ 2147483646) ∧ z = ((xclU M s : Nat) : Int) ∧ ∃ T, LX M (sP M) T ∧ M2 = tlM T (if boX M T (mKx M 1) (xclB M s) = -9 then -9 else wsB (jbR M) (M 77 12).toNat (boX M T (mKx M 1) (xclB M s)).toNat))
def xkO (M : Mm) (r : Int) : Nat → Bool
  | 0 => true
  | i + 1 => xkO M r i && decide (0 ≤ rcA M r (i : Int) ∧ rcA M r (i : Int) ≤ 99)
theorem xkO_iff {M : Mm} {r : Int} : ∀ {k : Nat}, xkO M r k = true ↔ ∀ j : Nat, j < k → 0 ≤ rcA M r (j : Int) ∧ rcA M r (j : Int) ≤ 99
  | 0 => by simp [xkO]
  | k + 1 => by
    rw [xkO, Bool.and_eq_true, decide_eq_true_iff, xkO_iff (k := k)]
    constructor
    · intro h j hj
      rcases (show j < k ∨ j = k by omega) with q | q
      · exact h.1 j q
      · rw [q]; exact h.2
    · intro h
      exact ⟨fun j hj => h j (by omega), h k (by omega)⟩
def xkS (M : Mm) (r : Int) (k : Nat) : Int := smZ (fun i => rcA M r (i : Int)) k
def xkW (M : Mm) (r h : Int) (k : Nat) : Int := smZ (fun i => rcA M r (i : Int) * wap (M 84 h.toNat) (M 84 i)) k
def xkF (M : Mm) (r : Int) (n : Nat) : Nat → Int × Int
  | 0 => (-9, 0)
  | h + 1 => if (xkF M r n h).1 = -9 ∨ xkW M r (h : Int) n < (xkF M r n h).2 then ((h : Int), xkW M r (h : Int) n) else xkF M r n h
theorem xkW_b {M : Mm} (hV : RV M) {r h : Int} (hh : 0 ≤ h ∧ h < 8) {n : Nat} (hn : n ≤ 8) (hk : xkO M r n = true) : ∀ k : Nat, k ≤ n → 0 ≤ xkW M r h k ∧ xkW M r h k ≤ 2376 := by
  intro k hkn
  have h0 := xkO_iff.mp hk
  have key := smZ_le (f := fun i => rcA M r (i : Int) * wap (M 84 h.toNat) (M 84 i)) (c := 297) k (fun j hj => by
    have h1 := h0 j (by omega)
    have h2 := wap_b (hV.2.1 h.toNat (by omega)) (hV.2.1 j (by omega))
    refine ⟨Int.mul_nonneg h1.1 h2.1, ?_⟩
    have h3 := Int.mul_le_mul h1.2 h2.2 h2.1 (by omega)
    simpa using h3)
  unfold xkW
  omega
theorem xkF_b {M : Mm} (hV : RV M) {r : Int} {n : Nat} (hn : n ≤ 8) (hk : xkO M r n = true) : ∀ h : Nat, h ≤ n → ((xkF M r n h).1 = -9 ∨ (0 ≤ (xkF M r n h).1 ∧ (xkF M r n h).1 < (h : Int))) ∧ 0 ≤ (xkF M r n h).2 ∧ (xkF M r n h).2 ≤ 2376
  | 0, _ => by simp [xkF]
  | h + 1, hh => by
    have h1 := xkF_b hV hn hk h (by omega)
    have h2 := xkW_b hV (h := (h : Int)) (by omega) hn hk n (by omega)
    rw [xkF]
    split
    · exact ⟨Or.inr ⟨by simp only []; omega, by simp only []; omega⟩, h2⟩
    · exact ⟨by omega, h1.2⟩
theorem xkS_b {M : Mm} {r : Int} {k : Nat} (hk : xkO M r k = true) : 0 ≤ xkS M r k ∧ xkS M r k ≤ k * 99 := smZ_le (f := fun i => rcA M r (i : Int)) (c := 99) k (fun j hj => xkO_iff.mp hk j hj)
def xkeA (M : Mm) (r : Int) : Int := if ¬ R6 r then -1 else if M 79 r.toNat < 0 then -3 else if ¬ M 79 r.toNat = M 77 10 then -3 else if ¬ xkO M r (M 77 10).toNat = true then -3 else if xkS M r (M 77 10).toNat = 0 then -3 else (xkF M r (M 77 10).toNat (M 77 10).toNat).1
def xkeM (M : Mm) (r : Int) : Mm := if ¬ R6 r then M else if M 79 r.toNat < 0 then mtM M 1 else if ¬ M 79 r.toNat = M 77 10 then mtM M 5 else if ¬ xkO M r (M 77 10).toNat = true then mtM M 3 else if xkS M r (M 77 10).toNat = 0 then mtM M 4 else rfM M (xkF M r (M 77 10).toNat (M 77 10).toNat).2 (xkS M r (M 77 10).toNat)
set_option maxHeartbeats 4000000 in
set_option maxRecDepth 100000 in
theorem c_X12_odds {n : Nat} (hn : NN n) {M : Mm} (hV : RV M) : CT yX12_odds cX12_odds 11 (some .int) ({ frames := 5, cells := 0, slots := 0, locals := 121 }) n [.ref 77] M (pI (fun z M2 => xodT M z M2)) := by
  refine CT.of (lv0 := [(0, .ref 77)]) (by decide +kernel) hn (fun _ => rfl) (fun _ => Nat.le_of_ble_eq_true rfl) (fun X cx cs qx => ?_)
  have cx : Cx X cX12_odds RX12 ({ frames := 5, cells := 0, slots := 0, locals := 121 }) 11 n := cx
  have hv1 := hV.1
  have hfb := fX_255 hV
  have hJo := jbR_ok hV
  have hMu := mKx_255 hV 1
  have hLu := mKx_255 hV 2
  have hpw := pow12 (k := (M 77 12).toNat) (by omega)
  have hxA := xoA_b M (M 77 12).toNat (by omega)
  refine g_aload_n cx (pc2 := 1) 0 rfl dX12_odds_0 rfl ?_
  refine g_aload_n cx (pc2 := 2) 0 rfl dX12_odds_1 rfl ?_
  refine g_get cx (pc2 := 5) (ci := 12) (k0 := 77) (j := 15) (v := .int (iI (M 77 15))) rfl iwX12 rfl (lt_lit hn (Nat.le_of_ble_eq_true rfl)) rfl (Nat.le_of_ble_eq_true rfl) kf_X12_171 rfl rfl dX12_odds_2 rfl ?_
  refine g_callV cx (pc2 := 8) (st := []) (As := [.int (iI (M 77 15))]) (k0 := 77) (ci := 12) (c_X12_layEnds (M := M) hn (by first | exact hXV | exact hV) (M 77 15) (by first | assumption | omega)) wM_X12_layEnds wV_X12_layEnds kl_X12_242 rfl (lt_lit hn (Nat.le_of_ble_eq_true rfl)) rfl ⟨rfl, rfl, Nat.le_of_ble_eq_true rfl, Nat.le_of_ble_eq_true rfl⟩ (Nat.le_of_ble_eq_true rfl) cs rfl rfl dX12_odds_5 rfl ?_
  rintro _ M_1 ⟨rfl, h_1⟩
  have hX := h_1
  have hXV := hX.V hV
  have hXe := hX.e
  have hXj := hX.j
  obtain ⟨T, hT⟩ : ∃ T, T = M_1 := ⟨_, rfl⟩
  rw [← hT] at hX hXV hXe hXj
  have e12 : T 77 12 = M 77 12 := by rw [hXe]
  have hXE : ∀ t : Nat, t ≤ allN (T 77 12) → exV (T 92 t) := fun t ht => (hX.2 t (by rw [e12] at ht; exact ht)).2
  have eBo : ∀ a b, boX T T a b = boX M T a b := fun a b => by unfold boX; rw [hXj, e12]
  have hbv := boF_v (jbR M) (M 77 12).toNat (T 92) (mKx M 1) 0 (allN (M 77 12) + 1)
  refine g_M (M2 := T) (by exact hT.symm) ?_
  refine g_aload_n cx (pc2 := 9) 0 rfl dX12_odds_8 rfl ?_
  refine g_callV cx (pc2 := 12) (st := []) (As := []) (k0 := 77) (ci := 12) (c_X12_musts (M := T) hn (by first | exact hXV | exact hV)) wM_X12_musts wV_X12_musts kl_X12_249 rfl (lt_lit hn (Nat.le_of_ble_eq_true rfl)) rfl ⟨rfl, rfl, Nat.le_of_ble_eq_true rfl, Nat.le_of_ble_eq_true rfl⟩ (Nat.le_of_ble_eq_true rfl) cs rfl rfl dX12_odds_9 rfl ?_
  rintro _ _ ⟨rfl, rfl⟩
  refine g_rwi (y := iI ((mKx M 1 : Nat) : Int)) (congrArg (fun q => iI ((q : Nat) : Int)) (mKx_off (hX.1 85 (by decide) (by decide)) e12 1)) ?_
  refine g_istore_n cx (pc2 := 13) (lv2 := [(0, .ref 77), (1, .int (iI ((mKx M 1 : Nat) : Int)))]) rfl (Nat.le_of_ble_eq_true rfl) dX12_odds_12 rfl ?_
  refine g_lconst cx (pc2 := 14) 1 rfl dX12_odds_13 rfl ?_
  refine g_lstore_n cx (pc2 := 15) (lv2 := [(0, .ref 77), (1, .int (iI ((mKx M 1 : Nat) : Int))), (2, .long (lI 1))]) rfl (Nat.le_of_ble_eq_true rfl) dX12_odds_14 rfl ?_
  refine g_iconst cx (pc2 := 16) dX12_odds_15 rfl ?_
  refine g_istore cx (pc2 := 18) (lv2 := [(0, .ref 77), (1, .int (iI ((mKx M 1 : Nat) : Int))), (2, .long (lI 1)), (4, .int (iI 0))]) rfl (Nat.le_of_ble_eq_true rfl) dX12_odds_16 rfl ?_
  refine g_iconst cx (pc2 := 19) dX12_odds_18 rfl ?_
  refine g_istore cx (pc2 := 21) (lv2 := [(0, .ref 77), (1, .int (iI ((mKx M 1 : Nat) : Int))), (2, .long (lI 1)), (4, .int (iI 0)), (5, .int (iI 0))]) rfl (Nat.le_of_ble_eq_true rfl) dX12_odds_19 rfl ?_
  have L21 : ∀ (fu : Nat) (i : Int) (t : Int) (w : Int), (0 ≤ i ∧ i ≤ M 77 12) → (t = ((bsum (fun i => decide (isAK (nA M (i : Int) 0) 2)) i.toNat : Nat) : Int)) → (w = xoA M i.toNat) → (M 77 12 - i).toNat ≤ fu → G X 21 [(0, .ref 77), (1, .int (iI ((mKx M 1 : Nat) : Int))), (2, .long (lI w)), (4, .int (iI t)), (5, .int (iI i))] [] T := by
    intro fu
    induction fu using Nat.strongRecOn with
    | _ fu ih21 =>
      intro i t w hi ht hw hk21
      have en := nA_off (hX.1 85 (by decide) (by decide))
      have hbb := bsum_255 (fun i => decide (isAK (nA M (i : Int) 0) 2)) (k := i.toNat) (by omega)
      have hst : bsum (fun i => decide (isAK (nA M (i : Int) 0) 2)) (i + 1).toNat = t.toNat ||| (if isAK (nA M i 0) 2 then 2 ^ i.toNat else 0) := by rw [show (i + 1).toNat = i.toNat + 1 by omega, bsum, ht, Int.toNat_natCast, Int.toNat_of_nonneg hi.1]; by_cases q : isAK (nA M i 0) 2 <;> simp only [q, decide_true, decide_false, if_true, if_false] <;> rfl
      have hst2 : xoA M (i + 1).toNat = if isAK (nA M i 0) 2 then w * 12 else w := by rw [show (i + 1).toNat = i.toNat + 1 by omega, xoA, ← hw, Int.toNat_of_nonneg hi.1]
      refine g_iload cx (pc2 := 23) 4 rfl dX12_odds_21 rfl ?_
      refine g_aload_n cx (pc2 := 24) 0 rfl dX12_odds_23 rfl ?_
      refine g_get cx (pc2 := 27) (ci := 12) (k0 := 77) (j := 12) (v := .int (iI (T 77 12))) rfl iwX12 rfl (lt_lit hn (Nat.le_of_ble_eq_true rfl)) rfl (Nat.le_of_ble_eq_true rfl) kf_X12_168 rfl rfl dX12_odds_24 rfl ?_
      refine g_rwi (y := iI (M 77 12)) (congrArg iI e12) ?_
      refine g_icmp_ge cx (pc2 := 30) (tgt := 60) ⟨(by first | assumption | omega), (by first | assumption | omega)⟩ dX12_odds_27 (by decide) rfl (fun h_2 => ?_) (fun h_2 => ?_)
      · skip
        have hwE : w = xoA M (M 77 12).toNat := by rw [hw, show i = M 77 12 by omega]
        have htE : t = ((mKx M 2 : Nat) : Int) := by rw [ht, show i = M 77 12 by omega]; rfl
        refine g_lconst cx (pc2 := 61) 0 rfl dX12_odds_60 rfl ?_
        refine g_lstore cx (pc2 := 63) (lv2 := [(0, .ref 77), (1, .int (iI ((mKx M 1 : Nat) : Int))), (2, .long (lI w)), (4, .int (iI t)), (5, .long (lI 0))]) rfl (Nat.le_of_ble_eq_true rfl) dX12_odds_61 rfl ?_
        refine g_iconst cx (pc2 := 64) dX12_odds_63 rfl ?_
        refine g_istore cx (pc2 := 66) (lv2 := [(0, .ref 77), (1, .int (iI ((mKx M 1 : Nat) : Int))), (2, .long (lI w)), (4, .int (iI t)), (5, .long (lI 0)), (7, .int (iI 0))]) rfl (Nat.le_of_ble_eq_true rfl) dX12_odds_64 rfl ?_
        have L66 : ∀ (fu : Nat) (s : Int) (u : Int), (0 ≤ s ∧ s ≤ ((allN (M 77 12) : Nat) : Int) + 1) → (u = xoF M (T 92) (mKx M 2) (mKx M 1) s.toNat) → (((allN (M 77 12) : Nat) : Int) + 1 - s).toNat ≤ fu → G X 66 [(0, .ref 77), (1, .int (iI ((mKx M 1 : Nat) : Int))), (2, .long (lI w)), (4, .int (iI t)), (5, .long (lI u)), (7, .int (iI s))] [] T := by
          intro fu
          induction fu using Nat.strongRecOn with
          | _ fu ih66 =>
            intro s u hs hu hk66
            have hn1 := ndN_le s.toNat (mKx M 2)
            have hor : s ≤ 255 → s.toNat ||| mKx M 1 ≤ 255 := fun q => or255 (by omega) hMu
            have hub := xoF_b hV (T 92) (mKx M 2) (mKx M 1) s.toNat
            rw [← hu] at hub
            have hst3 : xoF M (T 92) (mKx M 2) (mKx M 1) (s + 1).toNat = if ndN s.toNat (mKx M 2) = 0 ∧ T 92 (s.toNat ||| mKx M 1) < 1000 then u + xoW M s.toNat (M 77 12).toNat else u := by rw [show (s + 1).toNat = s.toNat + 1 by omega, xoF, ← hu]
            refine g_iload cx (pc2 := 68) 5 rfl dX12_odds_66 rfl ?_
            refine g_aload_n cx (pc2 := 69) 0 rfl dX12_odds_68 rfl ?_
            refine g_callV cx (pc2 := 72) (st := [.int (iI s)]) (As := []) (k0 := 77) (ci := 12) (c_X12_full (M := T) hn (by first | exact hXV | exact hV)) wM_X12_full wV_X12_full kl_X12_230 rfl (lt_lit hn (Nat.le_of_ble_eq_true rfl)) rfl ⟨rfl, rfl, Nat.le_of_ble_eq_true rfl, Nat.le_of_ble_eq_true rfl⟩ (Nat.le_of_ble_eq_true rfl) cs rfl rfl dX12_odds_69 rfl ?_
            rintro _ _ ⟨rfl, rfl⟩
            refine g_rwi (y := iI ((allN (M 77 12) : Nat) : Int)) (congrArg (fun q => iI ((allN q : Nat) : Int)) e12) ?_
            refine g_icmp_gt cx (pc2 := 75) (tgt := 184) ⟨(by first | assumption | omega), (by first | assumption | omega)⟩ dX12_odds_72 (by decide) rfl (fun h_3 => ?_) (fun h_3 => ?_)
            · skip
              refine g_aload_n cx (pc2 := 185) 0 rfl dX12_odds_184 rfl ?_
              refine g_lload cx (pc2 := 187) 4 rfl dX12_odds_185 rfl ?_
              refine g_lload_n cx (pc2 := 188) 2 rfl dX12_odds_187 rfl ?_
              refine g_iconst cx (pc2 := 189) dX12_odds_188 rfl ?_
              refine g_callV cx (pc2 := 192) (st := []) (As := [.long (lI u), .long (lI w), .int (iI 1)]) (k0 := 77) (ci := 12) (c_X12_fraction (M := T) hn u w 1 (by first | assumption | omega) (by first | assumption | omega)) wM_X12_fraction wV_X12_fraction kl_X12_303 rfl (lt_lit hn (Nat.le_of_ble_eq_true rfl)) rfl ⟨rfl, rfl, Nat.le_of_ble_eq_true rfl, Nat.le_of_ble_eq_true rfl⟩ (Nat.le_of_ble_eq_true rfl) cs rfl rfl dX12_odds_189 rfl ?_
              rintro _ _ ⟨rfl, rfl⟩
              exact g_iret cx qx dX12_odds_192 ⟨_, rfl, by refine ⟨rfl, T, hX, ?_⟩; rw [← hwE, hu, show s.toNat = allN (M 77 12) + 1 by omega]⟩
            · skip
              have L178 : ∀ (u2 : Int), (u2 = xoF M (T 92) (mKx M 2) (mKx M 1) (s + 1).toNat) → G X 178 [(0, .ref 77), (1, .int (iI ((mKx M 1 : Nat) : Int))), (2, .long (lI w)), (4, .int (iI t)), (5, .long (lI u2)), (7, .int (iI s))] [] T := by
                intro u2 hu2
                refine g_iinc cx (pc2 := 181) 5 rfl (lv2 := [(0, .ref 77), (1, .int (iI ((mKx M 1 : Nat) : Int))), (2, .long (lI w)), (4, .int (iI t)), (5, .long (lI u2)), (7, .int (iI (s + 1)))]) rfl (Nat.le_of_ble_eq_true rfl) dX12_odds_178 rfl ?_
                refine g_goto cx (tgt := 66) dX12_odds_181 (by decide) ?_
                exact ih66 ((((allN (M 77 12) : Nat) : Int) + 1 - (s + 1)).toNat) (by omega) (s + 1) u2 (by first | assumption | omega) (by exact hu2) (Nat.le_refl _)
              refine g_iload cx (pc2 := 77) 5 rfl dX12_odds_75 rfl ?_
              refine g_iload cx (pc2 := 79) 3 rfl dX12_odds_77 rfl ?_
              refine g_iconst cx (pc2 := 80) dX12_odds_79 rfl ?_
              refine g_ixor cx (pc2 := 81) dX12_odds_80 rfl ?_
              refine g_iand cx (pc2 := 82) dX12_odds_81 rfl ?_
              refine g_rwi (y := iI ((ndN s.toNat (mKx M 2) : Nat) : Int)) (by rw [htE]; exact nd_iI (by omega) (by omega)) ?_
              refine g_if_ne cx (pc2 := 85) (tgt := 178) (by first | assumption | omega) dX12_odds_82 (by decide) rfl (fun h_4 => ?_) (fun h_4 => ?_)
              · skip
                exact L178 u (by rw [hst3]; first | (rw [if_neg (by omega)]; done) | (rw [if_pos ⟨by omega, by omega⟩, hp, show j = M 77 12 by omega]; done))
              · skip
                refine g_aload_n cx (pc2 := 86) 0 rfl dX12_odds_85 rfl ?_
                refine g_get cx (pc2 := 89) (ci := 12) (k0 := 77) (j := 27) (v := .ref 92) rfl iwX12 rfl (lt_lit hn (Nat.le_of_ble_eq_true rfl)) rfl (Nat.le_of_ble_eq_true rfl) kf_X12_53 rfl rfl dX12_odds_86 rfl ?_
                refine g_iload cx (pc2 := 91) 5 rfl dX12_odds_89 rfl ?_
                refine g_iload_n cx (pc2 := 92) 1 rfl dX12_odds_91 rfl ?_
                refine g_ior cx (pc2 := 93) dX12_odds_92 rfl ?_
                refine g_rwi (y := iI ((s.toNat ||| mKx M 1 : Nat) : Int)) (or_iI (by omega) (by omega)) ?_
                have hor2 := hor (by omega)
                have hEs := (hX.2 (s.toNat ||| mKx M 1) (allN_or (by omega) (by omega) (mKx_lt M 1))).2
                refine g_iald cx (pc2 := 94) (k0 := 92) rfl (lt_lit hn (Nat.le_of_ble_eq_true rfl)) (by first | assumption | omega) (by first | assumption | omega) (Nat.le_of_ble_eq_true rfl) dX12_odds_93 rfl ?_
                refine g_rwi (y := iI (T 92 ((((s.toNat ||| mKx M 1 : Nat) : Int)).toNat))) (congrArg iI (by simp [stM])) ?_
                refine g_rwi (y := iI (T 92 (s.toNat ||| mKx M 1))) (rfl) ?_
                skip
                refine g_sipush cx (pc2 := 97) ⟨by decide, by decide⟩ dX12_odds_94 rfl ?_
                refine g_icmp_ge cx (pc2 := 100) (tgt := 178) ⟨(by first | assumption | omega), ⟨by decide, by decide⟩⟩ dX12_odds_97 (by decide) rfl (fun h_5 => ?_) (fun h_5 => ?_)
                · skip
                  exact L178 u (by rw [hst3]; first | (rw [if_neg (by omega)]; done) | (rw [if_pos ⟨by omega, by omega⟩, hp, show j = M 77 12 by omega]; done))
                · skip
                  refine g_lconst cx (pc2 := 101) 1 rfl dX12_odds_100 rfl ?_
                  refine g_lstore cx (pc2 := 103) (lv2 := [(0, .ref 77), (1, .int (iI ((mKx M 1 : Nat) : Int))), (2, .long (lI w)), (4, .int (iI t)), (5, .long (lI u)), (7, .int (iI s)), (8, .long (lI 1))]) rfl (Nat.le_of_ble_eq_true rfl) dX12_odds_101 rfl ?_
                  refine g_iconst cx (pc2 := 104) dX12_odds_103 rfl ?_
                  refine g_istore cx (pc2 := 106) (lv2 := [(0, .ref 77), (1, .int (iI ((mKx M 1 : Nat) : Int))), (2, .long (lI w)), (4, .int (iI t)), (5, .long (lI u)), (7, .int (iI s)), (8, .long (lI 1)), (10, .int (iI 0))]) rfl (Nat.le_of_ble_eq_true rfl) dX12_odds_104 rfl ?_
                  have L106 : ∀ (fu : Nat) (j : Int) (p : Int), (0 ≤ j ∧ j ≤ M 77 12) → (p = xoW M s.toNat j.toNat) → (M 77 12 - j).toNat ≤ fu → G X 106 [(0, .ref 77), (1, .int (iI ((mKx M 1 : Nat) : Int))), (2, .long (lI w)), (4, .int (iI t)), (5, .long (lI u)), (7, .int (iI s)), (8, .long (lI p)), (10, .int (iI j))] [] T := by
                    intro fu
                    induction fu using Nat.strongRecOn with
                    | _ fu ih106 =>
                      intro j p hj hp hk106
                      have en2 := nA_off (hX.1 85 (by decide) (by decide))
                      have h86 := hV.2.2.2 j.toNat
                      have hst4 : xoW M s.toNat (j + 1).toNat = p * (if isAK (nA M j 0) 2 then (if s.toNat.testBit j.toNat = true then M 86 j.toNat else 12 - M 86 j.toNat) else 1) := by rw [show (j + 1).toNat = j.toNat + 1 by omega, xoW, ← hp, Int.toNat_of_nonneg hj.1]
                      refine g_iload cx (pc2 := 108) 7 rfl dX12_odds_106 rfl ?_
                      refine g_aload_n cx (pc2 := 109) 0 rfl dX12_odds_108 rfl ?_
                      refine g_get cx (pc2 := 112) (ci := 12) (k0 := 77) (j := 12) (v := .int (iI (T 77 12))) rfl iwX12 rfl (lt_lit hn (Nat.le_of_ble_eq_true rfl)) rfl (Nat.le_of_ble_eq_true rfl) kf_X12_168 rfl rfl dX12_odds_109 rfl ?_
                      refine g_rwi (y := iI (M 77 12)) (congrArg iI e12) ?_
                      refine g_icmp_ge cx (pc2 := 115) (tgt := 171) ⟨(by first | assumption | omega), (by first | assumption | omega)⟩ dX12_odds_112 (by decide) rfl (fun h_6 => ?_) (fun h_6 => ?_)
                      · skip
                        refine g_lload cx (pc2 := 173) 4 rfl dX12_odds_171 rfl ?_
                        refine g_lload cx (pc2 := 175) 6 rfl dX12_odds_173 rfl ?_
                        refine g_ladd cx (pc2 := 176) dX12_odds_175 rfl ?_
                        refine g_lstore cx (pc2 := 178) (lv2 := [(0, .ref 77), (1, .int (iI ((mKx M 1 : Nat) : Int))), (2, .long (lI w)), (4, .int (iI t)), (5, .long (lI (u + p))), (7, .int (iI s)), (8, .long (lI p)), (10, .int (iI j))]) rfl (Nat.le_of_ble_eq_true rfl) dX12_odds_176 rfl ?_
                        refine g_sub (lv2 := [(0, .ref 77), (1, .int (iI ((mKx M 1 : Nat) : Int))), (2, .long (lI w)), (4, .int (iI t)), (5, .long (lI (u + p))), (7, .int (iI s))]) [0, 1, 2, 3, 4, 5] rfl ?_
                        exact L178 (u + p) (by rw [hst3]; first | (rw [if_neg (by omega)]; done) | (rw [if_pos ⟨by omega, by omega⟩, hp, show j = M 77 12 by omega]; done))
                      · skip
                        have L162 : ∀ (x : Int), (x = if isAK (nA M j 0) 2 then (if s.toNat.testBit j.toNat = true then M 86 j.toNat else 12 - M 86 j.toNat) else 1) → G X 162 [(0, .ref 77), (1, .int (iI ((mKx M 1 : Nat) : Int))), (2, .long (lI w)), (4, .int (iI t)), (5, .long (lI u)), (7, .int (iI s)), (8, .long (lI p)), (10, .int (iI j))] [.long (lI x), .long (lI p)] T := by
                          intro x hx
                          refine g_lmul cx (pc2 := 163) dX12_odds_162 rfl ?_
                          refine g_lstore cx (pc2 := 165) (lv2 := [(0, .ref 77), (1, .int (iI ((mKx M 1 : Nat) : Int))), (2, .long (lI w)), (4, .int (iI t)), (5, .long (lI u)), (7, .int (iI s)), (8, .long (lI (p * x))), (10, .int (iI j))]) rfl (Nat.le_of_ble_eq_true rfl) dX12_odds_163 rfl ?_
                          refine g_iinc cx (pc2 := 168) 7 rfl (lv2 := [(0, .ref 77), (1, .int (iI ((mKx M 1 : Nat) : Int))), (2, .long (lI w)), (4, .int (iI t)), (5, .long (lI u)), (7, .int (iI s)), (8, .long (lI (p * x))), (10, .int (iI (j + 1)))]) rfl (Nat.le_of_ble_eq_true rfl) dX12_odds_165 rfl ?_
                          refine g_goto cx (tgt := 106) dX12_odds_168 (by decide) ?_
                          exact ih106 ((M 77 12 - (j + 1)).toNat) (by omega) (j + 1) (p * x) (by first | assumption | omega) (by rw [hst4, hx]) (Nat.le_refl _)
                        refine g_lload cx (pc2 := 117) 6 rfl dX12_odds_115 rfl ?_
                        refine g_aload_n cx (pc2 := 118) 0 rfl dX12_odds_117 rfl ?_
                        refine g_iload cx (pc2 := 120) 7 rfl dX12_odds_118 rfl ?_
                        refine g_callV cx (pc2 := 123) (st := [.long (lI p)]) (As := [.int (iI j)]) (k0 := 77) (ci := 12) (c_X12_isLot (M := T) hn (by first | exact hXV | exact hV) j (by first | assumption | omega)) wM_X12_isLot wV_X12_isLot kl_X12_201 rfl (lt_lit hn (Nat.le_of_ble_eq_true rfl)) rfl ⟨rfl, rfl, Nat.le_of_ble_eq_true rfl, Nat.le_of_ble_eq_true rfl⟩ (Nat.le_of_ble_eq_true rfl) cs rfl rfl dX12_odds_120 rfl ?_
                        rintro _ _ ⟨rfl, rfl⟩
                        have hj86 := h86 (by omega)
                        refine g_ifb_ne cx (pc2 := 126) (tgt := 130) dX12_odds_123 (by decide) rfl (fun h_7 => ?_) (fun h_7 => ?_)
                        · skip
                          refine g_iload cx (pc2 := 132) 5 rfl dX12_odds_130 rfl ?_
                          refine g_iload cx (pc2 := 134) 7 rfl dX12_odds_132 rfl ?_
                          refine g_callS cx (pc2 := 137) (st := [.long (lI p)]) (As := [.int (iI s), .int (iI j)]) (c_X12_has (M := T) hn s j (by omega) (by first | omega | exact hi8)) wM_X12_has wS_X12_has kl_X12_220 ⟨rfl, rfl, Nat.le_of_ble_eq_true rfl, Nat.le_of_ble_eq_true rfl⟩ (Nat.le_of_ble_eq_true rfl) cs rfl rfl dX12_odds_134 rfl ?_
                          rintro _ _ ⟨rfl, rfl⟩
                          refine g_ifb_eq cx (pc2 := 140) (tgt := 151) dX12_odds_137 (by decide) rfl (fun h_8 => ?_) (fun h_8 => ?_)
                          · skip
                            refine g_bipush cx (pc2 := 153) ⟨by decide, by decide⟩ dX12_odds_151 rfl ?_
                            refine g_aload_n cx (pc2 := 154) 0 rfl dX12_odds_153 rfl ?_
                            refine g_get cx (pc2 := 157) (ci := 12) (k0 := 77) (j := 14) (v := .ref 86) rfl iwX12 rfl (lt_lit hn (Nat.le_of_ble_eq_true rfl)) rfl (Nat.le_of_ble_eq_true rfl) kf_X12_35 rfl rfl dX12_odds_154 rfl ?_
                            refine g_iload cx (pc2 := 159) 7 rfl dX12_odds_157 rfl ?_
                            refine g_iald cx (pc2 := 160) (k0 := 86) rfl (lt_lit hn (Nat.le_of_ble_eq_true rfl)) (by first | assumption | omega) (by first | assumption | omega) (Nat.le_of_ble_eq_true rfl) dX12_odds_159 rfl ?_
                            refine g_rwi (y := iI (T 86 ((j).toNat))) (congrArg iI (by simp [stM])) ?_
                            refine g_rwi (y := iI (M 86 j.toNat)) (congrArg iI (by rw [hX.1 86 (by decide) (by decide)])) ?_
                            refine g_isub cx (pc2 := 161) dX12_odds_160 rfl ?_
                            refine g_i2l cx (pc2 := 162) (by first | assumption | omega) dX12_odds_161 rfl ?_
                            exact L162 (12 - (M 86 j.toNat)) (by first | (rw [if_neg (by rw [← en2]; assumption)]; done) | (rw [if_pos (by rw [← en2]; first | assumption | exact Decidable.not_not.mp (by assumption))]; first | (rw [if_pos (by assumption)]; done) | (rw [if_neg (by assumption)]; done)))
                          · skip
                            refine g_aload_n cx (pc2 := 141) 0 rfl dX12_odds_140 rfl ?_
                            refine g_get cx (pc2 := 144) (ci := 12) (k0 := 77) (j := 14) (v := .ref 86) rfl iwX12 rfl (lt_lit hn (Nat.le_of_ble_eq_true rfl)) rfl (Nat.le_of_ble_eq_true rfl) kf_X12_35 rfl rfl dX12_odds_141 rfl ?_
                            refine g_iload cx (pc2 := 146) 7 rfl dX12_odds_144 rfl ?_
                            refine g_iald cx (pc2 := 147) (k0 := 86) rfl (lt_lit hn (Nat.le_of_ble_eq_true rfl)) (by first | assumption | omega) (by first | assumption | omega) (Nat.le_of_ble_eq_true rfl) dX12_odds_146 rfl ?_
                            refine g_rwi (y := iI (T 86 ((j).toNat))) (congrArg iI (by simp [stM])) ?_
                            refine g_rwi (y := iI (M 86 j.toNat)) (congrArg iI (by rw [hX.1 86 (by decide) (by decide)])) ?_
                            refine g_i2l cx (pc2 := 148) (by first | assumption | omega) dX12_odds_147 rfl ?_
                            refine g_goto cx (tgt := 162) dX12_odds_148 (by decide) ?_
                            exact L162 (M 86 j.toNat) (by first | (rw [if_neg (by rw [← en2]; assumption)]; done) | (rw [if_pos (by rw [← en2]; first | assumption | exact Decidable.not_not.mp (by assumption))]; first | (rw [if_pos (by assumption)]; done) | (rw [if_neg (by assumption)]; done)))
                        · skip
                          refine g_lconst cx (pc2 := 127) 1 rfl dX12_odds_126 rfl ?_
                          refine g_goto cx (tgt := 162) dX12_odds_127 (by decide) ?_
                          exact L162 1 (by first | (rw [if_neg (by rw [← en2]; assumption)]; done) | (rw [if_pos (by rw [← en2]; first | assumption | exact Decidable.not_not.mp (by assumption))]; first | (rw [if_pos (by assumption)]; done) | (rw [if_neg (by assumption)]; done)))
                  exact L106 _ 0 1 (by first | assumption | omega) (by rfl) (Nat.le_refl _)
        exact L66 _ 0 0 (by first | assumption | omega) (by rfl) (Nat.le_refl _)
      · skip
        have L54 : ∀ (t2 : Int) (w2 : Int), (t2 = ((bsum (fun i => decide (isAK (nA M (i : Int) 0) 2)) (i + 1).toNat : Nat) : Int)) → (w2 = xoA M (i + 1).toNat) → G X 54 [(0, .ref 77), (1, .int (iI ((mKx M 1 : Nat) : Int))), (2, .long (lI w2)), (4, .int (iI t2)), (5, .int (iI i))] [] T := by
          intro t2 w2 ht2 hw2
          refine g_iinc cx (pc2 := 57) 4 rfl (lv2 := [(0, .ref 77), (1, .int (iI ((mKx M 1 : Nat) : Int))), (2, .long (lI w2)), (4, .int (iI t2)), (5, .int (iI (i + 1)))]) rfl (Nat.le_of_ble_eq_true rfl) dX12_odds_54 rfl ?_
          refine g_goto cx (tgt := 21) dX12_odds_57 (by decide) ?_
          exact ih21 ((M 77 12 - (i + 1)).toNat) (by omega) (i + 1) t2 w2 (by first | assumption | omega) (by exact ht2) (by exact hw2) (Nat.le_refl _)
        refine g_aload_n cx (pc2 := 31) 0 rfl dX12_odds_30 rfl ?_
        refine g_iload cx (pc2 := 33) 4 rfl dX12_odds_31 rfl ?_
        refine g_callV cx (pc2 := 36) (st := []) (As := [.int (iI i)]) (k0 := 77) (ci := 12) (c_X12_isLot (M := T) hn (by first | exact hXV | exact hV) i (by first | assumption | omega)) wM_X12_isLot wV_X12_isLot kl_X12_201 rfl (lt_lit hn (Nat.le_of_ble_eq_true rfl)) rfl ⟨rfl, rfl, Nat.le_of_ble_eq_true rfl, Nat.le_of_ble_eq_true rfl⟩ (Nat.le_of_ble_eq_true rfl) cs rfl rfl dX12_odds_33 rfl ?_
        rintro _ _ ⟨rfl, rfl⟩
        refine g_ifb_eq cx (pc2 := 39) (tgt := 54) dX12_odds_36 (by decide) rfl (fun h_9 => ?_) (fun h_9 => ?_)
        · skip
          exact L54 t w (by rw [hst]; first | (rw [if_pos (by rw [← en]; assumption)]; done) | (rw [if_neg (by rw [← en]; assumption), Nat.or_zero]; omega)) (by rw [hst2]; first | (rw [if_pos (by rw [← en]; assumption)]; done) | (rw [if_neg (by rw [← en]; assumption)]; done))
        · skip
          refine g_iload cx (pc2 := 41) 3 rfl dX12_odds_39 rfl ?_
          refine g_iconst cx (pc2 := 42) dX12_odds_41 rfl ?_
          refine g_iload cx (pc2 := 44) 4 rfl dX12_odds_42 rfl ?_
          refine g_ishl cx (pc2 := 45) dX12_odds_44 rfl ?_
          refine g_rwi (y := iI ((2 ^ i.toNat : Nat) : Int)) (sh1 (by omega) (by omega)) ?_
          refine g_ior cx (pc2 := 46) dX12_odds_45 rfl ?_
          refine g_rwi (y := iI ((t.toNat ||| 2 ^ i.toNat : Nat) : Int)) (or_iI (by omega) (Int.natCast_nonneg _)) ?_
          refine g_istore cx (pc2 := 48) (lv2 := [(0, .ref 77), (1, .int (iI ((mKx M 1 : Nat) : Int))), (2, .long (lI w)), (4, .int (iI ((t.toNat ||| 2 ^ i.toNat : Nat) : Int))), (5, .int (iI i))]) rfl (Nat.le_of_ble_eq_true rfl) dX12_odds_46 rfl ?_
          refine g_lload_n cx (pc2 := 49) 2 rfl dX12_odds_48 rfl ?_
          refine g_ldc2 cx (pc2 := 52) kk_X12_301 dX12_odds_49 rfl ?_
          refine g_lmul cx (pc2 := 53) dX12_odds_52 rfl ?_
          refine g_lstore_n cx (pc2 := 54) (lv2 := [(0, .ref 77), (1, .int (iI ((mKx M 1 : Nat) : Int))), (2, .long (lI (w * 12))), (4, .int (iI ((t.toNat ||| 2 ^ i.toNat : Nat) : Int))), (5, .int (iI i))]) rfl (Nat.le_of_ble_eq_true rfl) dX12_odds_53 rfl ?_
          exact L54 ((t.toNat ||| 2 ^ i.toNat : Nat) : Int) (w * 12) (by rw [hst]; first | (rw [if_pos (by rw [← en]; assumption)]; done) | (rw [if_neg (by rw [← en]; assumption), Nat.or_zero]; omega)) (by rw [hst2]; first | (rw [if_pos (by rw [← en]; assumption)]; done) | (rw [if_neg (by rw [← en]; assumption)]; done))
  exact L21 _ 0 0 1 (by first | assumption | omega) (by rfl) (by rfl) (Nat.le_refl _)
set_option maxHeartbeats 4000000 in
set_option maxRecDepth 100000 in
theorem c_X12_call {n : Nat} (hn : NN n) {M : Mm} (hV : RV M) (s : Int) (hs : ir s) : CT yX12_call cX12_call 8 (some .int) ({ frames := 5, cells := 0, slots := 0, locals := 121 }) n [.ref 77, .int (iI s)] M (pI (fun z M2 => xclR M s z M2)) := by
  refine CT.of (lv0 := [(0, .ref 77), (1, .int (iI s))]) (by decide +kernel) hn (fun _ => rfl) (fun _ => Nat.le_of_ble_eq_true rfl) (fun X cx cs qx => ?_)
  have cx : Cx X cX12_call RX12 ({ frames := 5, cells := 0, slots := 0, locals := 121 }) 8 n := cx
  have hv1 := hV.1
  have hfb := fX_255 hV
  have hJo := jbR_ok hV
  have hMu := mKx_255 hV 1
  have hLu := mKx_255 hV 2
  refine g_iload_n cx (pc2 := 1) 1 rfl dX12_call_0 rfl ?_
  refine g_iconst cx (pc2 := 2) dX12_call_1 rfl ?_
  refine g_ldcw cx (pc2 := 5) kk_X12_307 dX12_call_2 rfl ?_
  refine g_callS cx (pc2 := 8) (st := []) (As := [.int (iI s), .int (iI 1), .int (iI 2147483646)]) (c_X12_in (M := M) hn s 1 2147483646 (by first | assumption | omega) (by first | assumption | omega) (by first | assumption | omega)) wM_X12_in wS_X12_in kl_X12_97 ⟨rfl, rfl, Nat.le_of_ble_eq_true rfl, Nat.le_of_ble_eq_true rfl⟩ (Nat.le_of_ble_eq_true rfl) cs rfl rfl dX12_call_5 rfl ?_
  rintro _ _ ⟨rfl, rfl⟩
  refine g_ifb_ne cx (pc2 := 11) (tgt := 13) dX12_call_8 (by decide) rfl (fun h_1 => ?_) (fun h_1 => ?_)
  · skip
    refine g_iload_n cx (pc2 := 14) 1 rfl dX12_call_13 rfl ?_
    refine g_i2l cx (pc2 := 15) (by first | assumption | omega) dX12_call_14 rfl ?_
    refine g_lstore_n cx (pc2 := 16) (lv2 := [(0, .ref 77), (1, .int (iI s)), (2, .long (lI s))]) rfl (Nat.le_of_ble_eq_true rfl) dX12_call_15 rfl ?_
    refine g_iconst cx (pc2 := 17) dX12_call_16 rfl ?_
    refine g_istore cx (pc2 := 19) (lv2 := [(0, .ref 77), (1, .int (iI s)), (2, .long (lI s)), (4, .int (iI 0))]) rfl (Nat.le_of_ble_eq_true rfl) dX12_call_17 rfl ?_
    refine g_iconst cx (pc2 := 20) dX12_call_19 rfl ?_
    refine g_istore cx (pc2 := 22) (lv2 := [(0, .ref 77), (1, .int (iI s)), (2, .long (lI s)), (4, .int (iI 0)), (5, .int (iI 0))]) rfl (Nat.le_of_ble_eq_true rfl) dX12_call_20 rfl ?_
    refine g_iconst cx (pc2 := 23) dX12_call_22 rfl ?_
    refine g_istore cx (pc2 := 25) (lv2 := [(0, .ref 77), (1, .int (iI s)), (2, .long (lI s)), (4, .int (iI 0)), (5, .int (iI 0)), (6, .int (iI 0))]) rfl (Nat.le_of_ble_eq_true rfl) dX12_call_23 rfl ?_
    have L25 : ∀ (fu : Nat) (i : Int) (t : Int) (d : Int) (q : Int), (0 ≤ i ∧ i ≤ M 77 12) → (t = ((bsum (clX M s) i.toNat : Nat) : Int)) → (d = ((bsum (clN M s) i.toNat : Nat) : Int)) → (q = nbF s i.toNat) → (M 77 12 - i).toNat ≤ fu → G X 25 [(0, .ref 77), (1, .int (iI s)), (2, .long (lI q)), (4, .int (iI t)), (5, .int (iI d)), (6, .int (iI i))] [] M := by
      intro fu
      induction fu using Nat.strongRecOn with
      | _ fu ih25 =>
        intro i t d q hi ht hd hq hk25
        have hqb := nbF_b (s := s) (by omega) i.toNat
        rw [← hq] at hqb
        have hst : nbF s (i + 1).toNat = q * 48271 % 2147483647 := by rw [show (i + 1).toNat = i.toNat + 1 by omega, nbF, hq]
        have hst0 : nbF s (i.toNat + 1) = q * 48271 % 2147483647 := by rw [nbF, hq]
        have h86 := hV.2.2.2 i.toNat
        have hbb := bsum_255 (clX M s) (k := i.toNat) (by omega)
        have hbb2 := bsum_255 (clN M s) (k := i.toNat) (by omega)
        have hst1 : bsum (clX M s) (i + 1).toNat = t.toNat ||| (if isAK (nA M i 0) 2 ∧ q * 48271 % 2147483647 % 12 < M 86 i.toNat then 2 ^ i.toNat else 0) := by rw [show (i + 1).toNat = i.toNat + 1 by omega, bsum, ht, Int.toNat_natCast]; congr 1; unfold clX; rw [hst0, Int.toNat_of_nonneg hi.1]; by_cases z : isAK (nA M i 0) 2 ∧ q * 48271 % 2147483647 % 12 < M 86 i.toNat; (rw [if_pos z, decide_eq_true z]; rfl); (rw [if_neg z, decide_eq_false z]; rfl)
        have hst2 : bsum (clN M s) (i + 1).toNat = d.toNat ||| (if isAK (nA M i 0) 2 ∧ ¬ q * 48271 % 2147483647 % 12 < M 86 i.toNat then 2 ^ i.toNat else 0) := by rw [show (i + 1).toNat = i.toNat + 1 by omega, bsum, hd, Int.toNat_natCast]; congr 1; unfold clN; rw [hst0, Int.toNat_of_nonneg hi.1]; by_cases z : isAK (nA M i 0) 2 ∧ ¬ q * 48271 % 2147483647 % 12 < M 86 i.toNat; (rw [if_pos z, decide_eq_true z]; rfl); (rw [if_neg z, decide_eq_false z]; rfl)
        refine g_iload cx (pc2 := 27) 5 rfl dX12_call_25 rfl ?_
        refine g_aload_n cx (pc2 := 28) 0 rfl dX12_call_27 rfl ?_
        refine g_get cx (pc2 := 31) (ci := 12) (k0 := 77) (j := 12) (v := .int (iI (M 77 12))) rfl iwX12 rfl (lt_lit hn (Nat.le_of_ble_eq_true rfl)) rfl (Nat.le_of_ble_eq_true rfl) kf_X12_168 rfl rfl dX12_call_28 rfl ?_
        refine g_icmp_ge cx (pc2 := 34) (tgt := 128) ⟨(by first | assumption | omega), (by first | assumption | omega)⟩ dX12_call_31 (by decide) rfl (fun h_2 => ?_) (fun h_2 => ?_)
        · skip
          refine g_aload_n cx (pc2 := 129) 0 rfl dX12_call_128 rfl ?_
          refine g_aload_n cx (pc2 := 130) 0 rfl dX12_call_129 rfl ?_
          refine g_get cx (pc2 := 133) (ci := 12) (k0 := 77) (j := 15) (v := .int (iI (M 77 15))) rfl iwX12 rfl (lt_lit hn (Nat.le_of_ble_eq_true rfl)) rfl (Nat.le_of_ble_eq_true rfl) kf_X12_171 rfl rfl dX12_call_130 rfl ?_
          refine g_callV cx (pc2 := 136) (st := []) (As := [.int (iI (M 77 15))]) (k0 := 77) (ci := 12) (c_X12_layEnds (M := M) hn (by first | exact hXV | exact hV) (M 77 15) (by first | assumption | omega)) wM_X12_layEnds wV_X12_layEnds kl_X12_242 rfl (lt_lit hn (Nat.le_of_ble_eq_true rfl)) rfl ⟨rfl, rfl, Nat.le_of_ble_eq_true rfl, Nat.le_of_ble_eq_true rfl⟩ (Nat.le_of_ble_eq_true rfl) cs rfl rfl dX12_call_133 rfl ?_
          rintro _ M_3 ⟨rfl, h_3⟩
          have hX := h_3
          have hXV := hX.V hV
          have hXe := hX.e
          have hXj := hX.j
          obtain ⟨T, hT⟩ : ∃ T, T = M_3 := ⟨_, rfl⟩
          rw [← hT] at hX hXV hXe hXj
          have e12 : T 77 12 = M 77 12 := by rw [hXe]
          have hXE : ∀ t : Nat, t ≤ allN (T 77 12) → exV (T 92 t) := fun t ht => (hX.2 t (by rw [e12] at ht; exact ht)).2
          have eBo : ∀ a b, boX T T a b = boX M T a b := fun a b => by unfold boX; rw [hXj, e12]
          have hbv := boF_v (jbR M) (M 77 12).toNat (T 92) (mKx M 1) 0 (allN (M 77 12) + 1)
          have hub := bsum_255 (clX M s) (k := (M 77 12).toNat) (by omega)
          have hbb3 := bsum_255 (clN M s) (k := (M 77 12).toNat) (by omega)
          have hbv2 := boF_v (jbR M) (M 77 12).toNat (T 92) (mKx M 1) (xclB M s) (allN (M 77 12) + 1)
          have hbo : boX M T (mKx M 1) (xclB M s) = -9 ∨ (0 ≤ boX M T (mKx M 1) (xclB M s) ∧ boX M T (mKx M 1) (xclB M s) ≤ 255) := by unfold boX; omega
          have eU : t = ((xclU M s : Nat) : Int) := by rw [ht, show i = M 77 12 by omega]; rfl
          have eB : d = ((xclB M s : Nat) : Int) := by rw [hd, show i = M 77 12 by omega]; rfl
          have hxb : xclB M s ≤ 255 := hbb3
          refine g_M (M2 := T) (by exact hT.symm) ?_
          refine g_aload_n cx (pc2 := 137) 0 rfl dX12_call_136 rfl ?_
          refine g_aload_n cx (pc2 := 138) 0 rfl dX12_call_137 rfl ?_
          refine g_callV cx (pc2 := 141) (st := [.ref 77]) (As := []) (k0 := 77) (ci := 12) (c_X12_musts (M := T) hn (by first | exact hXV | exact hV)) wM_X12_musts wV_X12_musts kl_X12_249 rfl (lt_lit hn (Nat.le_of_ble_eq_true rfl)) rfl ⟨rfl, rfl, Nat.le_of_ble_eq_true rfl, Nat.le_of_ble_eq_true rfl⟩ (Nat.le_of_ble_eq_true rfl) cs rfl rfl dX12_call_138 rfl ?_
          rintro _ _ ⟨rfl, rfl⟩
          refine g_rwi (y := iI ((mKx M 1 : Nat) : Int)) (congrArg (fun q => iI ((q : Nat) : Int)) (mKx_off (hX.1 85 (by decide) (by decide)) e12 1)) ?_
          refine g_iload cx (pc2 := 143) 4 rfl dX12_call_141 rfl ?_
          refine g_callV cx (pc2 := 146) (st := []) (As := [.int (iI ((mKx M 1 : Nat) : Int)), .int (iI d)]) (k0 := 77) (ci := 12) (c_X12_bestOf (M := T) hn (by first | exact hXV | exact hV) (by exact hXE) ((mKx M 1 : Nat) : Int) d (by omega) (by omega)) wM_X12_bestOf wV_X12_bestOf kl_X12_252 rfl (lt_lit hn (Nat.le_of_ble_eq_true rfl)) rfl ⟨rfl, rfl, Nat.le_of_ble_eq_true rfl, Nat.le_of_ble_eq_true rfl⟩ (Nat.le_of_ble_eq_true rfl) cs rfl rfl dX12_call_143 rfl ?_
          rintro _ _ ⟨rfl, rfl⟩
          refine g_rwi (y := iI (boX M T (mKx M 1) (xclB M s))) (congrArg iI (by rw [eB, Int.toNat_natCast, Int.toNat_natCast]; exact eBo _ _)) ?_
          refine g_istore cx (pc2 := 148) (lv2 := [(0, .ref 77), (1, .int (iI s)), (2, .long (lI q)), (4, .int (iI t)), (5, .int (iI d)), (6, .int (iI (boX M T (mKx M 1) (xclB M s))))]) rfl (Nat.le_of_ble_eq_true rfl) dX12_call_146 rfl ?_
          have L167 : ∀ (w : Int), (w = if boX M T (mKx M 1) (xclB M s) = -9 then -9 else wsB (jbR M) (M 77 12).toNat (boX M T (mKx M 1) (xclB M s)).toNat) → G X 167 [(0, .ref 77), (4, .int (iI t))] [.int (iI w), .ref 77] T := by
            intro w hw
            refine g_iload cx (pc2 := 169) 1 rfl dX12_call_167 rfl ?_
            refine g_callV cx (pc2 := 172) (st := []) (As := [.int (iI w), .int (iI t)]) (k0 := 77) (ci := 12) (c_X12_tells (M := T) hn w t) wM_X12_tells wV_X12_tells kl_X12_119 rfl (lt_lit hn (Nat.le_of_ble_eq_true rfl)) rfl ⟨rfl, rfl, Nat.le_of_ble_eq_true rfl, Nat.le_of_ble_eq_true rfl⟩ (Nat.le_of_ble_eq_true rfl) cs rfl rfl dX12_call_169 rfl ?_
            rintro _ _ ⟨rfl, rfl⟩
            exact g_iret cx qx dX12_call_172 ⟨_, rfl, by exact Or.inr ⟨by assumption, eU, T, hX, by rw [hw]⟩⟩
          refine g_aload_n cx (pc2 := 149) 0 rfl dX12_call_148 rfl ?_
          refine g_iload cx (pc2 := 151) 5 rfl dX12_call_149 rfl ?_
          refine g_bipush cx (pc2 := 153) ⟨by decide, by decide⟩ dX12_call_151 rfl ?_
          refine g_icmp_ne cx (pc2 := 156) (tgt := 161) ⟨(by first | assumption | omega), ⟨by decide, by decide⟩⟩ dX12_call_153 (by decide) rfl (fun h_4 => ?_) (fun h_4 => ?_)
          · skip
            refine g_aload_n cx (pc2 := 162) 0 rfl dX12_call_161 rfl ?_
            refine g_iload cx (pc2 := 164) 5 rfl dX12_call_162 rfl ?_
            refine g_callV cx (pc2 := 167) (st := [.ref 77]) (As := [.int (iI (boX M T (mKx M 1) (xclB M s)))]) (k0 := 77) (ci := 12) (c_X12_worthOf (M := T) hn (by first | exact hXV | exact hV) (boX M T (mKx M 1) (xclB M s)) (by first | assumption | omega)) wM_X12_worthOf wV_X12_worthOf kl_X12_246 rfl (lt_lit hn (Nat.le_of_ble_eq_true rfl)) rfl ⟨rfl, rfl, Nat.le_of_ble_eq_true rfl, Nat.le_of_ble_eq_true rfl⟩ (Nat.le_of_ble_eq_true rfl) cs rfl rfl dX12_call_164 rfl ?_
            rintro _ _ ⟨rfl, rfl⟩
            refine g_rwi (y := iI (wsB (jbR M) (M 77 12).toNat (boX M T (mKx M 1) (xclB M s)).toNat)) (congrArg iI (by rw [hXj, e12])) ?_
            refine g_sub (lv2 := [(0, .ref 77), (4, .int (iI t))]) [0, 3] rfl ?_
            exact L167 (wsB (jbR M) (M 77 12).toNat (boX M T (mKx M 1) (xclB M s)).toNat) (by first | (rw [if_pos (by assumption)]; done) | (rw [if_neg (by assumption)]; done))
          · skip
            refine g_bipush cx (pc2 := 158) ⟨by decide, by decide⟩ dX12_call_156 rfl ?_
            refine g_goto cx (tgt := 167) dX12_call_158 (by decide) ?_
            refine g_sub (lv2 := [(0, .ref 77), (4, .int (iI t))]) [0, 3] rfl ?_
            exact L167 (-9) (by first | (rw [if_pos (by assumption)]; done) | (rw [if_neg (by assumption)]; done))
        · skip
          have L75 : ∀ (g : Int), ((g = 1 ∧ (isAK (nA M i 0) 2 ∧ q * 48271 % 2147483647 % 12 < M 86 i.toNat)) ∨ (g = 0 ∧ ¬ (isAK (nA M i 0) 2 ∧ q * 48271 % 2147483647 % 12 < M 86 i.toNat))) → G X 75 [(0, .ref 77), (1, .int (iI s)), (2, .long (lI (q * 48271 % 2147483647))), (4, .int (iI t)), (5, .int (iI d)), (6, .int (iI i))] [.int (iI g)] M := by
            intro g hg
            have hp2 := p8 (i := i) (by omega)
            have hp3 : (0 : Int) ≤ ((2 ^ i.toNat : Nat) : Int) := Int.natCast_nonneg _
            refine g_istore cx (pc2 := 77) (lv2 := [(0, .ref 77), (1, .int (iI s)), (2, .long (lI (q * 48271 % 2147483647))), (4, .int (iI t)), (5, .int (iI d)), (6, .int (iI i)), (7, .int (iI g))]) rfl (Nat.le_of_ble_eq_true rfl) dX12_call_75 rfl ?_
            have L92 : ∀ (y : Int), (y = ((if isAK (nA M i 0) 2 ∧ q * 48271 % 2147483647 % 12 < M 86 i.toNat then 2 ^ i.toNat else 0 : Nat) : Int)) → G X 92 [(0, .ref 77), (1, .int (iI s)), (2, .long (lI (q * 48271 % 2147483647))), (5, .int (iI d)), (6, .int (iI i)), (7, .int (iI g))] [.int (iI y), .int (iI t)] M := by
              intro y hy
              refine g_ior cx (pc2 := 93) dX12_call_92 rfl ?_
              refine g_rwi (y := iI ((bsum (clX M s) (i + 1).toNat : Nat) : Int)) (by rw [hy, hst1]; exact or_iI (by omega) (Int.natCast_nonneg _)) ?_
              refine g_istore cx (pc2 := 95) (lv2 := [(0, .ref 77), (1, .int (iI s)), (2, .long (lI (q * 48271 % 2147483647))), (4, .int (iI ((bsum (clX M s) (i + 1).toNat : Nat) : Int))), (5, .int (iI d)), (6, .int (iI i)), (7, .int (iI g))]) rfl (Nat.le_of_ble_eq_true rfl) dX12_call_93 rfl ?_
              have L119 : ∀ (y2 : Int), (y2 = ((if isAK (nA M i 0) 2 ∧ ¬ q * 48271 % 2147483647 % 12 < M 86 i.toNat then 2 ^ i.toNat else 0 : Nat) : Int)) → G X 119 [(0, .ref 77), (1, .int (iI s)), (2, .long (lI (q * 48271 % 2147483647))), (4, .int (iI ((bsum (clX M s) (i + 1).toNat : Nat) : Int))), (6, .int (iI i))] [.int (iI y2), .int (iI d)] M := by
                intro y2 hy2
                refine g_ior cx (pc2 := 120) dX12_call_119 rfl ?_
                refine g_rwi (y := iI ((bsum (clN M s) (i + 1).toNat : Nat) : Int)) (by rw [hy2, hst2]; exact or_iI (by omega) (Int.natCast_nonneg _)) ?_
                refine g_istore cx (pc2 := 122) (lv2 := [(0, .ref 77), (1, .int (iI s)), (2, .long (lI (q * 48271 % 2147483647))), (4, .int (iI ((bsum (clX M s) (i + 1).toNat : Nat) : Int))), (5, .int (iI ((bsum (clN M s) (i + 1).toNat : Nat) : Int))), (6, .int (iI i))]) rfl (Nat.le_of_ble_eq_true rfl) dX12_call_120 rfl ?_
                refine g_iinc cx (pc2 := 125) 5 rfl (lv2 := [(0, .ref 77), (1, .int (iI s)), (2, .long (lI (q * 48271 % 2147483647))), (4, .int (iI ((bsum (clX M s) (i + 1).toNat : Nat) : Int))), (5, .int (iI ((bsum (clN M s) (i + 1).toNat : Nat) : Int))), (6, .int (iI (i + 1)))]) rfl (Nat.le_of_ble_eq_true rfl) dX12_call_122 rfl ?_
                refine g_goto cx (tgt := 25) dX12_call_125 (by decide) ?_
                exact ih25 ((M 77 12 - (i + 1)).toNat) (by omega) (i + 1) ((bsum (clX M s) (i + 1).toNat : Nat) : Int) ((bsum (clN M s) (i + 1).toNat : Nat) : Int) (q * 48271 % 2147483647) (by first | assumption | omega) (by rfl) (by rfl) (by exact hst.symm) (Nat.le_refl _)
              refine g_iload cx (pc2 := 97) 4 rfl dX12_call_95 rfl ?_
              refine g_aload_n cx (pc2 := 98) 0 rfl dX12_call_97 rfl ?_
              refine g_iload cx (pc2 := 100) 5 rfl dX12_call_98 rfl ?_
              refine g_callV cx (pc2 := 103) (st := [.int (iI d)]) (As := [.int (iI i)]) (k0 := 77) (ci := 12) (c_X12_isLot (M := M) hn (by first | exact hXV | exact hV) i (by omega)) wM_X12_isLot wV_X12_isLot kl_X12_201 rfl (lt_lit hn (Nat.le_of_ble_eq_true rfl)) rfl ⟨rfl, rfl, Nat.le_of_ble_eq_true rfl, Nat.le_of_ble_eq_true rfl⟩ (Nat.le_of_ble_eq_true rfl) cs rfl rfl dX12_call_100 rfl ?_
              rintro _ _ ⟨rfl, rfl⟩
              refine g_ifb_eq cx (pc2 := 106) (tgt := 118) dX12_call_103 (by decide) rfl (fun h_5 => ?_) (fun h_5 => ?_)
              · skip
                refine g_iconst cx (pc2 := 119) dX12_call_118 rfl ?_
                refine g_sub (lv2 := [(0, .ref 77), (1, .int (iI s)), (2, .long (lI (q * 48271 % 2147483647))), (4, .int (iI ((bsum (clX M s) (i + 1).toNat : Nat) : Int))), (6, .int (iI i))]) [0, 1, 2, 3, 5] rfl ?_
                exact L119 0 (by by_cases w : isAK (nA M i 0) 2 ∧ ¬ q * 48271 % 2147483647 % 12 < M 86 i.toNat <;> first | (rw [if_pos w]; done) | (rw [if_neg w]; done) | (rw [if_neg w]; rfl) | (exfalso; rcases hg with z | z; (first | exact w.2 z.2.2 | omega); (first | exact absurd w.1 (by assumption) | omega | exact w ⟨by assumption, fun b => z.2 ⟨by assumption, b⟩⟩)))
              · skip
                refine g_iload cx (pc2 := 108) 6 rfl dX12_call_106 rfl ?_
                refine g_if_ne cx (pc2 := 111) (tgt := 118) (by first | assumption | omega) dX12_call_108 (by decide) rfl (fun h_6 => ?_) (fun h_6 => ?_)
                · skip
                  refine g_iconst cx (pc2 := 119) dX12_call_118 rfl ?_
                  refine g_sub (lv2 := [(0, .ref 77), (1, .int (iI s)), (2, .long (lI (q * 48271 % 2147483647))), (4, .int (iI ((bsum (clX M s) (i + 1).toNat : Nat) : Int))), (6, .int (iI i))]) [0, 1, 2, 3, 5] rfl ?_
                  exact L119 0 (by by_cases w : isAK (nA M i 0) 2 ∧ ¬ q * 48271 % 2147483647 % 12 < M 86 i.toNat <;> first | (rw [if_pos w]; done) | (rw [if_neg w]; done) | (rw [if_neg w]; rfl) | (exfalso; rcases hg with z | z; (first | exact w.2 z.2.2 | omega); (first | exact absurd w.1 (by assumption) | omega | exact w ⟨by assumption, fun b => z.2 ⟨by assumption, b⟩⟩)))
                · skip
                  refine g_iconst cx (pc2 := 112) dX12_call_111 rfl ?_
                  refine g_iload cx (pc2 := 114) 5 rfl dX12_call_112 rfl ?_
                  refine g_ishl cx (pc2 := 115) dX12_call_114 rfl ?_
                  refine g_rwi (y := iI ((2 ^ i.toNat : Nat) : Int)) (sh1 (by omega) (by omega)) ?_
                  refine g_goto cx (tgt := 119) dX12_call_115 (by decide) ?_
                  refine g_sub (lv2 := [(0, .ref 77), (1, .int (iI s)), (2, .long (lI (q * 48271 % 2147483647))), (4, .int (iI ((bsum (clX M s) (i + 1).toNat : Nat) : Int))), (6, .int (iI i))]) [0, 1, 2, 3, 5] rfl ?_
                  exact L119 ((2 ^ i.toNat : Nat) : Int) (by by_cases w : isAK (nA M i 0) 2 ∧ ¬ q * 48271 % 2147483647 % 12 < M 86 i.toNat <;> first | (rw [if_pos w]; done) | (rw [if_neg w]; done) | (rw [if_neg w]; rfl) | (exfalso; rcases hg with z | z; (first | exact w.2 z.2.2 | omega); (first | exact absurd w.1 (by assumption) | omega | exact w ⟨by assumption, fun b => z.2 ⟨by assumption, b⟩⟩)))
            refine g_iload cx (pc2 := 79) 3 rfl dX12_call_77 rfl ?_
            refine g_iload cx (pc2 := 81) 6 rfl dX12_call_79 rfl ?_
            refine g_if_eq cx (pc2 := 84) (tgt := 91) (by first | assumption | omega) dX12_call_81 (by decide) rfl (fun h_7 => ?_) (fun h_7 => ?_)
            · skip
              refine g_iconst cx (pc2 := 92) dX12_call_91 rfl ?_
              refine g_sub (lv2 := [(0, .ref 77), (1, .int (iI s)), (2, .long (lI (q * 48271 % 2147483647))), (5, .int (iI d)), (6, .int (iI i)), (7, .int (iI g))]) [0, 1, 2, 4, 5, 6] rfl ?_
              exact L92 0 (by rcases hg with z | z <;> first | (exfalso; omega) | (rw [if_pos z.2]; done) | (rw [if_neg z.2]; rfl))
            · skip
              refine g_iconst cx (pc2 := 85) dX12_call_84 rfl ?_
              refine g_iload cx (pc2 := 87) 5 rfl dX12_call_85 rfl ?_
              refine g_ishl cx (pc2 := 88) dX12_call_87 rfl ?_
              refine g_rwi (y := iI ((2 ^ i.toNat : Nat) : Int)) (sh1 (by omega) (by omega)) ?_
              refine g_goto cx (tgt := 92) dX12_call_88 (by decide) ?_
              refine g_sub (lv2 := [(0, .ref 77), (1, .int (iI s)), (2, .long (lI (q * 48271 % 2147483647))), (5, .int (iI d)), (6, .int (iI i)), (7, .int (iI g))]) [0, 1, 2, 4, 5, 6] rfl ?_
              exact L92 ((2 ^ i.toNat : Nat) : Int) (by rcases hg with z | z <;> first | (exfalso; omega) | (rw [if_pos z.2]; done) | (rw [if_neg z.2]; rfl))
          refine g_ldc2 cx (pc2 := 37) kk_X12_308 dX12_call_34 rfl ?_
          refine g_lload_n cx (pc2 := 38) 2 rfl dX12_call_37 rfl ?_
          refine g_lmul cx (pc2 := 39) dX12_call_38 rfl ?_
          refine g_ldc2 cx (pc2 := 42) kk_X12_310 dX12_call_39 rfl ?_
          refine g_lrem cx (pc2 := 43) (by first | assumption | omega) dX12_call_42 rfl ?_
          refine g_rwl (y := lI (q * 48271 % 2147483647)) (congrArg lI (by rw [Int.mul_comm 48271 q]; exact tdm (by omega) (by decide))) ?_
          refine g_lstore_n cx (pc2 := 44) (lv2 := [(0, .ref 77), (1, .int (iI s)), (2, .long (lI (q * 48271 % 2147483647))), (4, .int (iI t)), (5, .int (iI d)), (6, .int (iI i))]) rfl (Nat.le_of_ble_eq_true rfl) dX12_call_43 rfl ?_
          refine g_aload_n cx (pc2 := 45) 0 rfl dX12_call_44 rfl ?_
          refine g_iload cx (pc2 := 47) 5 rfl dX12_call_45 rfl ?_
          refine g_callV cx (pc2 := 50) (st := []) (As := [.int (iI i)]) (k0 := 77) (ci := 12) (c_X12_isLot (M := M) hn (by first | exact hXV | exact hV) i (by omega)) wM_X12_isLot wV_X12_isLot kl_X12_201 rfl (lt_lit hn (Nat.le_of_ble_eq_true rfl)) rfl ⟨rfl, rfl, Nat.le_of_ble_eq_true rfl, Nat.le_of_ble_eq_true rfl⟩ (Nat.le_of_ble_eq_true rfl) cs rfl rfl dX12_call_47 rfl ?_
          rintro _ _ ⟨rfl, rfl⟩
          refine g_ifb_eq cx (pc2 := 53) (tgt := 74) dX12_call_50 (by decide) rfl (fun h_8 => ?_) (fun h_8 => ?_)
          · skip
            refine g_iconst cx (pc2 := 75) dX12_call_74 rfl ?_
            exact L75 0 (by first | exact Or.inl ⟨rfl, by assumption, hcl⟩ | exact Or.inr ⟨rfl, fun z => hcl z.2⟩ | exact Or.inr ⟨rfl, fun z => absurd z.1 (by assumption)⟩)
          · skip
            refine g_lload_n cx (pc2 := 54) 2 rfl dX12_call_53 rfl ?_
            refine g_ldc2 cx (pc2 := 57) kk_X12_301 dX12_call_54 rfl ?_
            refine g_lrem cx (pc2 := 58) (by first | assumption | omega) dX12_call_57 rfl ?_
            refine g_rwl (y := lI (q * 48271 % 2147483647 % 12)) (congrArg lI (tdm (by omega) (by decide))) ?_
            refine g_aload_n cx (pc2 := 59) 0 rfl dX12_call_58 rfl ?_
            refine g_get cx (pc2 := 62) (ci := 12) (k0 := 77) (j := 14) (v := .ref 86) rfl iwX12 rfl (lt_lit hn (Nat.le_of_ble_eq_true rfl)) rfl (Nat.le_of_ble_eq_true rfl) kf_X12_35 rfl rfl dX12_call_59 rfl ?_
            refine g_iload cx (pc2 := 64) 5 rfl dX12_call_62 rfl ?_
            refine g_iald cx (pc2 := 65) (k0 := 86) rfl (lt_lit hn (Nat.le_of_ble_eq_true rfl)) (by first | assumption | omega) (by first | assumption | omega) (Nat.le_of_ble_eq_true rfl) dX12_call_64 rfl ?_
            refine g_rwi (y := iI (M 86 ((i).toNat))) (congrArg iI (by simp [stM])) ?_
            refine g_i2l cx (pc2 := 66) (by first | assumption | omega) dX12_call_65 rfl ?_
            refine g_lcmp cx (pc2 := 67) ⟨(by constructor <;> omega), (by constructor <;> omega)⟩ dX12_call_66 rfl ?_
            refine g_if_ge cx (pc2 := 70) (tgt := 74) (by constructor <;> (repeat' split) <;> omega) dX12_call_67 (by decide) rfl (fun h_9 => ?_) (fun h_9 => ?_)
            · skip
              have hcl : ¬ (q * 48271 % 2147483647 % 12 < M 86 i.toNat) := by (repeat' split at h_9) <;> omega
              refine g_iconst cx (pc2 := 75) dX12_call_74 rfl ?_
              exact L75 0 (by first | exact Or.inl ⟨rfl, by assumption, hcl⟩ | exact Or.inr ⟨rfl, fun z => hcl z.2⟩ | exact Or.inr ⟨rfl, fun z => absurd z.1 (by assumption)⟩)
            · skip
              have hcl : q * 48271 % 2147483647 % 12 < M 86 i.toNat := by (repeat' split at h_9) <;> omega
              refine g_iconst cx (pc2 := 71) dX12_call_70 rfl ?_
              refine g_goto cx (tgt := 75) dX12_call_71 (by decide) ?_
              exact L75 1 (by first | exact Or.inl ⟨rfl, by assumption, hcl⟩ | exact Or.inr ⟨rfl, fun z => hcl z.2⟩ | exact Or.inr ⟨rfl, fun z => absurd z.1 (by assumption)⟩)
    exact L25 _ 0 0 0 s (by first | assumption | omega) (by rfl) (by rfl) (by rfl) (Nat.le_refl _)
  · skip
    refine g_iconst cx (pc2 := 12) dX12_call_11 rfl ?_
    exact g_iret cx qx dX12_call_12 ⟨_, rfl, by exact Or.inl ⟨by assumption, rfl, rfl⟩⟩
set_option maxHeartbeats 4000000 in
set_option maxRecDepth 100000 in
theorem c_X12_keep {n : Nat} (hn : NN n) {M : Mm} (hV : RV M) (hQ : RQ M) (r : Int) (hr : ir r) : CT yX12_keep cX12_keep 9 (some .int) ({ frames := 2, cells := 0, slots := 0, locals := 43 }) n [.ref 77, .int (iI r)] M (rI (xkeA M r) (xkeM M r)) := by
  refine CT.of (lv0 := [(0, .ref 77), (1, .int (iI r))]) (by decide +kernel) hn (fun _ => rfl) (fun _ => Nat.le_of_ble_eq_true rfl) (fun X cx cs qx => ?_)
  have cx : Cx X cX12_keep RX12 ({ frames := 2, cells := 0, slots := 0, locals := 43 }) 9 n := cx
  have hv1 := hV.1
  have hq1 := fun q : R6 r => hQ r.toNat (by omega)
  refine g_iload_n cx (pc2 := 1) 1 rfl dX12_keep_0 rfl ?_
  refine g_callS cx (pc2 := 4) (st := []) (As := [.int (iI r)]) (c_X12_isRow (M := M) hn r (by first | assumption | omega)) wM_X12_isRow wS_X12_isRow kl_X12_107 ⟨rfl, rfl, Nat.le_of_ble_eq_true rfl, Nat.le_of_ble_eq_true rfl⟩ (Nat.le_of_ble_eq_true rfl) cs rfl rfl dX12_keep_1 rfl ?_
  rintro _ _ ⟨rfl, rfl⟩
  refine g_ifb_ne cx (pc2 := 7) (tgt := 9) dX12_keep_4 (by decide) rfl (fun h_1 => ?_) (fun h_1 => ?_)
  · skip
    have hRr : ¬ ¬ R6 r := not_not_intro (by assumption)
    have hq2 := hq1 (by assumption)
    refine g_aload_n cx (pc2 := 10) 0 rfl dX12_keep_9 rfl ?_
    refine g_get cx (pc2 := 13) (ci := 12) (k0 := 77) (j := 5) (v := .ref 79) rfl iwX12 rfl (lt_lit hn (Nat.le_of_ble_eq_true rfl)) rfl (Nat.le_of_ble_eq_true rfl) kf_X12_13 rfl rfl dX12_keep_10 rfl ?_
    refine g_iload_n cx (pc2 := 14) 1 rfl dX12_keep_13 rfl ?_
    refine g_iald cx (pc2 := 15) (k0 := 79) rfl (lt_lit hn (Nat.le_of_ble_eq_true rfl)) (by first | assumption | omega) (by first | assumption | omega) (Nat.le_of_ble_eq_true rfl) dX12_keep_14 rfl ?_
    refine g_rwi (y := iI (M 79 ((r).toNat))) (congrArg iI (by simp [stM])) ?_
    refine g_if_ge cx (pc2 := 18) (tgt := 24) (by first | assumption | omega) dX12_keep_15 (by decide) rfl (fun h_2 => ?_) (fun h_2 => ?_)
    · skip
      refine g_aload_n cx (pc2 := 25) 0 rfl dX12_keep_24 rfl ?_
      refine g_get cx (pc2 := 28) (ci := 12) (k0 := 77) (j := 5) (v := .ref 79) rfl iwX12 rfl (lt_lit hn (Nat.le_of_ble_eq_true rfl)) rfl (Nat.le_of_ble_eq_true rfl) kf_X12_13 rfl rfl dX12_keep_25 rfl ?_
      refine g_iload_n cx (pc2 := 29) 1 rfl dX12_keep_28 rfl ?_
      refine g_iald cx (pc2 := 30) (k0 := 79) rfl (lt_lit hn (Nat.le_of_ble_eq_true rfl)) (by first | assumption | omega) (by first | assumption | omega) (Nat.le_of_ble_eq_true rfl) dX12_keep_29 rfl ?_
      refine g_rwi (y := iI (M 79 ((r).toNat))) (congrArg iI (by simp [stM])) ?_
      refine g_aload_n cx (pc2 := 31) 0 rfl dX12_keep_30 rfl ?_
      refine g_get cx (pc2 := 34) (ci := 12) (k0 := 77) (j := 10) (v := .int (iI (M 77 10))) rfl iwX12 rfl (lt_lit hn (Nat.le_of_ble_eq_true rfl)) rfl (Nat.le_of_ble_eq_true rfl) kf_X12_165 rfl rfl dX12_keep_31 rfl ?_
      refine g_icmp_eq cx (pc2 := 37) (tgt := 43) ⟨(by first | assumption | omega), (by first | assumption | omega)⟩ dX12_keep_34 (by decide) rfl (fun h_3 => ?_) (fun h_3 => ?_)
      · skip
        refine g_iconst cx (pc2 := 44) dX12_keep_43 rfl ?_
        refine g_istore_n cx (pc2 := 45) (lv2 := [(0, .ref 77), (1, .int (iI r)), (2, .int (iI 1))]) rfl (Nat.le_of_ble_eq_true rfl) dX12_keep_44 rfl ?_
        refine g_iconst cx (pc2 := 46) dX12_keep_45 rfl ?_
        refine g_istore_n cx (pc2 := 47) (lv2 := [(0, .ref 77), (1, .int (iI r)), (2, .int (iI 1)), (3, .int (iI 0))]) rfl (Nat.le_of_ble_eq_true rfl) dX12_keep_46 rfl ?_
        refine g_iconst cx (pc2 := 48) dX12_keep_47 rfl ?_
        refine g_istore cx (pc2 := 50) (lv2 := [(0, .ref 77), (1, .int (iI r)), (2, .int (iI 1)), (3, .int (iI 0)), (4, .int (iI 0))]) rfl (Nat.le_of_ble_eq_true rfl) dX12_keep_48 rfl ?_
        have L50 : ∀ (fu : Nat) (i : Int) (g : Int) (t : Int), (0 ≤ i ∧ i ≤ M 77 10) → ((g = 1 ∧ xkO M r i.toNat = true) ∨ (g = 0 ∧ ¬ xkO M r i.toNat = true)) → (t = xkS M r i.toNat) → (M 77 10 - i).toNat ≤ fu → G X 50 [(0, .ref 77), (1, .int (iI r)), (2, .int (iI g)), (3, .int (iI t)), (4, .int (iI i))] [] M := by
          intro fu
          induction fu using Nat.strongRecOn with
          | _ fu ih50 =>
            intro i g t hi hg ht hk50
            have hrv : i < M 77 10 → ir (rcA M r i) := fun q => by have z := hq2.2 i.toNat (by omega); unfold rcA; rw [show (60 * r + i).toNat = 60 * r.toNat + i.toNat by omega]; exact z
            have hst : xkO M r (i + 1).toNat = (xkO M r i.toNat && decide (0 ≤ rcA M r i ∧ rcA M r i ≤ 99)) := by rw [show (i + 1).toNat = i.toNat + 1 by omega, xkO, Int.toNat_of_nonneg hi.1]
            have hst2 : xkS M r (i + 1).toNat = t + rcA M r i := by rw [show (i + 1).toNat = i.toNat + 1 by omega]; unfold xkS; rw [smZ, Int.toNat_of_nonneg hi.1, ht]; rfl
            refine g_iload cx (pc2 := 52) 4 rfl dX12_keep_50 rfl ?_
            refine g_aload_n cx (pc2 := 53) 0 rfl dX12_keep_52 rfl ?_
            refine g_get cx (pc2 := 56) (ci := 12) (k0 := 77) (j := 10) (v := .int (iI (M 77 10))) rfl iwX12 rfl (lt_lit hn (Nat.le_of_ble_eq_true rfl)) rfl (Nat.le_of_ble_eq_true rfl) kf_X12_165 rfl rfl dX12_keep_53 rfl ?_
            refine g_icmp_ge cx (pc2 := 59) (tgt := 101) ⟨(by first | assumption | omega), (by first | assumption | omega)⟩ dX12_keep_56 (by decide) rfl (fun h_4 => ?_) (fun h_4 => ?_)
            · skip
              refine g_iload_n cx (pc2 := 102) 2 rfl dX12_keep_101 rfl ?_
              refine g_if_ne cx (pc2 := 105) (tgt := 111) (by first | assumption | omega) dX12_keep_102 (by decide) rfl (fun h_5 => ?_) (fun h_5 => ?_)
              · skip
                have hSt : t = xkS M r (M 77 10).toNat := by rw [ht, show i = M 77 10 by omega]
                have hkO : xkO M r (M 77 10).toNat = true := by rcases hg with q | q; (rw [show M 77 10 = i by omega]; exact q.2); (exfalso; omega)
                have hSb := xkS_b hkO
                refine g_iload_n cx (pc2 := 112) 3 rfl dX12_keep_111 rfl ?_
                refine g_if_ne cx (pc2 := 115) (tgt := 121) (by first | assumption | omega) dX12_keep_112 (by decide) rfl (fun h_6 => ?_) (fun h_6 => ?_)
                · skip
                  refine g_bipush cx (pc2 := 123) ⟨by decide, by decide⟩ dX12_keep_121 rfl ?_
                  refine g_istore cx (pc2 := 125) (lv2 := [(0, .ref 77), (1, .int (iI r)), (2, .int (iI g)), (3, .int (iI t)), (4, .int (iI (-9)))]) rfl (Nat.le_of_ble_eq_true rfl) dX12_keep_123 rfl ?_
                  refine g_iconst cx (pc2 := 126) dX12_keep_125 rfl ?_
                  refine g_istore cx (pc2 := 128) (lv2 := [(0, .ref 77), (1, .int (iI r)), (2, .int (iI g)), (3, .int (iI t)), (4, .int (iI (-9))), (5, .int (iI 0))]) rfl (Nat.le_of_ble_eq_true rfl) dX12_keep_126 rfl ?_
                  refine g_iconst cx (pc2 := 129) dX12_keep_128 rfl ?_
                  refine g_istore cx (pc2 := 131) (lv2 := [(0, .ref 77), (1, .int (iI r)), (2, .int (iI g)), (3, .int (iI t)), (4, .int (iI (-9))), (5, .int (iI 0)), (6, .int (iI 0))]) rfl (Nat.le_of_ble_eq_true rfl) dX12_keep_129 rfl ?_
                  have L131 : ∀ (fu : Nat) (h : Int) (b : Int) (v : Int), (0 ≤ h ∧ h ≤ M 77 10) → (b = (xkF M r (M 77 10).toNat h.toNat).1 ∧ v = (xkF M r (M 77 10).toNat h.toNat).2) → (M 77 10 - h).toNat ≤ fu → G X 131 [(0, .ref 77), (1, .int (iI r)), (3, .int (iI t)), (4, .int (iI b)), (5, .int (iI v)), (6, .int (iI h))] [] M := by
                    intro fu
                    induction fu using Nat.strongRecOn with
                    | _ fu ih131 =>
                      intro h b v hh hb hk131
                      have hFb := xkF_b hV (r := r) (n := (M 77 10).toNat) (by omega) hkO h.toNat (by omega)
                      rw [← hb.1, ← hb.2] at hFb
                      have hst3 : xkF M r (M 77 10).toNat (h + 1).toNat = if b = -9 ∨ xkW M r h (M 77 10).toNat < v then (h, xkW M r h (M 77 10).toNat) else (b, v) := by rw [show (h + 1).toNat = h.toNat + 1 by omega, xkF, ← hb.1, ← hb.2, Int.toNat_of_nonneg hh.1]; rw [hb.1, hb.2]
                      refine g_iload cx (pc2 := 133) 5 rfl dX12_keep_131 rfl ?_
                      refine g_aload_n cx (pc2 := 134) 0 rfl dX12_keep_133 rfl ?_
                      refine g_get cx (pc2 := 137) (ci := 12) (k0 := 77) (j := 10) (v := .int (iI (M 77 10))) rfl iwX12 rfl (lt_lit hn (Nat.le_of_ble_eq_true rfl)) rfl (Nat.le_of_ble_eq_true rfl) kf_X12_165 rfl rfl dX12_keep_134 rfl ?_
                      refine g_icmp_ge cx (pc2 := 140) (tgt := 210) ⟨(by first | assumption | omega), (by first | assumption | omega)⟩ dX12_keep_137 (by decide) rfl (fun h_7 => ?_) (fun h_7 => ?_)
                      · skip
                        refine g_aload_n cx (pc2 := 211) 0 rfl dX12_keep_210 rfl ?_
                        refine g_iload cx (pc2 := 213) 4 rfl dX12_keep_211 rfl ?_
                        refine g_i2l cx (pc2 := 214) (by first | assumption | omega) dX12_keep_213 rfl ?_
                        refine g_iload_n cx (pc2 := 215) 2 rfl dX12_keep_214 rfl ?_
                        refine g_i2l cx (pc2 := 216) (by first | assumption | omega) dX12_keep_215 rfl ?_
                        refine g_iload cx (pc2 := 218) 3 rfl dX12_keep_216 rfl ?_
                        refine g_callV cx (pc2 := 221) (st := []) (As := [.long (lI v), .long (lI t), .int (iI b)]) (k0 := 77) (ci := 12) (c_X12_fraction (M := M) hn v t b (by omega) (by omega)) wM_X12_fraction wV_X12_fraction kl_X12_303 rfl (lt_lit hn (Nat.le_of_ble_eq_true rfl)) rfl ⟨rfl, rfl, Nat.le_of_ble_eq_true rfl, Nat.le_of_ble_eq_true rfl⟩ (Nat.le_of_ble_eq_true rfl) cs rfl rfl dX12_keep_218 rfl ?_
                        rintro _ _ ⟨rfl, rfl⟩
                        exact g_iret cx qx dX12_keep_221 ⟨congrArg (fun q => some (Value.int (iI q))) (by unfold xkeA; rw [if_neg (by assumption), if_neg (by omega), if_neg (by omega), if_neg (not_not_intro hkO), if_neg (by omega), hb.1, show h = M 77 10 by omega]), by unfold xkeM; rw [if_neg (by assumption), if_neg (by omega), if_neg (by omega), if_neg (not_not_intro hkO), if_neg (by omega), ← hSt, hb.2, show h = M 77 10 by omega]⟩
                      · skip
                        have L204 : ∀ (b2 : Int) (v2 : Int), (b2 = (xkF M r (M 77 10).toNat (h + 1).toNat).1 ∧ v2 = (xkF M r (M 77 10).toNat (h + 1).toNat).2) → G X 204 [(0, .ref 77), (1, .int (iI r)), (3, .int (iI t)), (4, .int (iI b2)), (5, .int (iI v2)), (6, .int (iI h))] [] M := by
                          intro b2 v2 hb2
                          refine g_iinc cx (pc2 := 207) 5 rfl (lv2 := [(0, .ref 77), (1, .int (iI r)), (3, .int (iI t)), (4, .int (iI b2)), (5, .int (iI v2)), (6, .int (iI (h + 1)))]) rfl (Nat.le_of_ble_eq_true rfl) dX12_keep_204 rfl ?_
                          refine g_goto cx (tgt := 131) dX12_keep_207 (by decide) ?_
                          exact ih131 ((M 77 10 - (h + 1)).toNat) (by omega) (h + 1) b2 v2 (by first | assumption | omega) (by exact hb2) (Nat.le_refl _)
                        refine g_iconst cx (pc2 := 141) dX12_keep_140 rfl ?_
                        refine g_istore cx (pc2 := 143) (lv2 := [(0, .ref 77), (1, .int (iI r)), (3, .int (iI t)), (4, .int (iI b)), (5, .int (iI v)), (6, .int (iI h)), (7, .int (iI 0))]) rfl (Nat.le_of_ble_eq_true rfl) dX12_keep_141 rfl ?_
                        refine g_iconst cx (pc2 := 144) dX12_keep_143 rfl ?_
                        refine g_istore cx (pc2 := 146) (lv2 := [(0, .ref 77), (1, .int (iI r)), (3, .int (iI t)), (4, .int (iI b)), (5, .int (iI v)), (6, .int (iI h)), (7, .int (iI 0)), (8, .int (iI 0))]) rfl (Nat.le_of_ble_eq_true rfl) dX12_keep_144 rfl ?_
                        have L146 : ∀ (fu : Nat) (k : Int) (c : Int), (0 ≤ k ∧ k ≤ M 77 10) → (c = xkW M r h k.toNat) → (M 77 10 - k).toNat ≤ fu → G X 146 [(0, .ref 77), (1, .int (iI r)), (3, .int (iI t)), (4, .int (iI b)), (5, .int (iI v)), (6, .int (iI h)), (7, .int (iI c)), (8, .int (iI k))] [] M := by
                          intro fu
                          induction fu using Nat.strongRecOn with
                          | _ fu ih146 =>
                            intro k c hk2 hc hk146
                            have hst4 : xkW M r h (k + 1).toNat = c + rcA M r k * wap (M 84 h.toNat) (M 84 k.toNat) := by rw [show (k + 1).toNat = k.toNat + 1 by omega]; unfold xkW; rw [smZ, Int.toNat_of_nonneg hk2.1, hc]; rfl
                            have hcb := xkW_b hV (r := r) (h := h) (n := (M 77 10).toNat) (by omega) (by omega) hkO k.toNat (by omega)
                            rw [← hc] at hcb
                            refine g_iload cx (pc2 := 148) 7 rfl dX12_keep_146 rfl ?_
                            refine g_aload_n cx (pc2 := 149) 0 rfl dX12_keep_148 rfl ?_
                            refine g_get cx (pc2 := 152) (ci := 12) (k0 := 77) (j := 10) (v := .int (iI (M 77 10))) rfl iwX12 rfl (lt_lit hn (Nat.le_of_ble_eq_true rfl)) rfl (Nat.le_of_ble_eq_true rfl) kf_X12_165 rfl rfl dX12_keep_149 rfl ?_
                            refine g_icmp_ge cx (pc2 := 155) (tgt := 182) ⟨(by first | assumption | omega), (by first | assumption | omega)⟩ dX12_keep_152 (by decide) rfl (fun h_8 => ?_) (fun h_8 => ?_)
                            · skip
                              refine g_iload cx (pc2 := 184) 3 rfl dX12_keep_182 rfl ?_
                              refine g_bipush cx (pc2 := 186) ⟨by decide, by decide⟩ dX12_keep_184 rfl ?_
                              refine g_icmp_eq cx (pc2 := 189) (tgt := 196) ⟨(by first | assumption | omega), ⟨by decide, by decide⟩⟩ dX12_keep_186 (by decide) rfl (fun h_9 => ?_) (fun h_9 => ?_)
                              · skip
                                refine g_iload cx (pc2 := 198) 5 rfl dX12_keep_196 rfl ?_
                                refine g_istore cx (pc2 := 200) (lv2 := [(0, .ref 77), (1, .int (iI r)), (3, .int (iI t)), (4, .int (iI h)), (5, .int (iI v)), (6, .int (iI h)), (7, .int (iI c)), (8, .int (iI k))]) rfl (Nat.le_of_ble_eq_true rfl) dX12_keep_198 rfl ?_
                                refine g_iload cx (pc2 := 202) 6 rfl dX12_keep_200 rfl ?_
                                refine g_istore cx (pc2 := 204) (lv2 := [(0, .ref 77), (1, .int (iI r)), (3, .int (iI t)), (4, .int (iI h)), (5, .int (iI c)), (6, .int (iI h)), (7, .int (iI c)), (8, .int (iI k))]) rfl (Nat.le_of_ble_eq_true rfl) dX12_keep_202 rfl ?_
                                refine g_sub (lv2 := [(0, .ref 77), (1, .int (iI r)), (3, .int (iI t)), (4, .int (iI h)), (5, .int (iI c)), (6, .int (iI h))]) [0, 1, 2, 3, 4, 5] rfl ?_
                                exact L204 h c (by rw [hst3]; have e0 : c = xkW M r h (M 77 10).toNat := (by rw [hc, show k = M 77 10 by omega]); first | (rw [if_pos (by omega), e0]; exact ⟨rfl, rfl⟩) | (rw [if_neg (by omega)]; exact ⟨rfl, rfl⟩))
                              · skip
                                refine g_iload cx (pc2 := 191) 6 rfl dX12_keep_189 rfl ?_
                                refine g_iload cx (pc2 := 193) 4 rfl dX12_keep_191 rfl ?_
                                refine g_icmp_ge cx (pc2 := 196) (tgt := 204) ⟨(by first | assumption | omega), (by first | assumption | omega)⟩ dX12_keep_193 (by decide) rfl (fun h_10 => ?_) (fun h_10 => ?_)
                                · skip
                                  refine g_sub (lv2 := [(0, .ref 77), (1, .int (iI r)), (3, .int (iI t)), (4, .int (iI b)), (5, .int (iI v)), (6, .int (iI h))]) [0, 1, 2, 3, 4, 5] rfl ?_
                                  exact L204 b v (by rw [hst3]; have e0 : c = xkW M r h (M 77 10).toNat := (by rw [hc, show k = M 77 10 by omega]); first | (rw [if_pos (by omega), e0]; exact ⟨rfl, rfl⟩) | (rw [if_neg (by omega)]; exact ⟨rfl, rfl⟩))
                                · skip
                                  refine g_iload cx (pc2 := 198) 5 rfl dX12_keep_196 rfl ?_
                                  refine g_istore cx (pc2 := 200) (lv2 := [(0, .ref 77), (1, .int (iI r)), (3, .int (iI t)), (4, .int (iI h)), (5, .int (iI v)), (6, .int (iI h)), (7, .int (iI c)), (8, .int (iI k))]) rfl (Nat.le_of_ble_eq_true rfl) dX12_keep_198 rfl ?_
                                  refine g_iload cx (pc2 := 202) 6 rfl dX12_keep_200 rfl ?_
                                  refine g_istore cx (pc2 := 204) (lv2 := [(0, .ref 77), (1, .int (iI r)), (3, .int (iI t)), (4, .int (iI h)), (5, .int (iI c)), (6, .int (iI h)), (7, .int (iI c)), (8, .int (iI k))]) rfl (Nat.le_of_ble_eq_true rfl) dX12_keep_202 rfl ?_
                                  refine g_sub (lv2 := [(0, .ref 77), (1, .int (iI r)), (3, .int (iI t)), (4, .int (iI h)), (5, .int (iI c)), (6, .int (iI h))]) [0, 1, 2, 3, 4, 5] rfl ?_
                                  exact L204 h c (by rw [hst3]; have e0 : c = xkW M r h (M 77 10).toNat := (by rw [hc, show k = M 77 10 by omega]); first | (rw [if_pos (by omega), e0]; exact ⟨rfl, rfl⟩) | (rw [if_neg (by omega)]; exact ⟨rfl, rfl⟩))
                            · skip
                              refine g_iload cx (pc2 := 157) 6 rfl dX12_keep_155 rfl ?_
                              refine g_aload_n cx (pc2 := 158) 0 rfl dX12_keep_157 rfl ?_
                              refine g_iload_n cx (pc2 := 159) 1 rfl dX12_keep_158 rfl ?_
                              refine g_iload cx (pc2 := 161) 7 rfl dX12_keep_159 rfl ?_
                              refine g_callV cx (pc2 := 164) (st := [.int (iI c)]) (As := [.int (iI r), .int (iI k)]) (k0 := 77) (ci := 12) (c_X12_rowAt (M := M) hn r k (by first | assumption | omega) (by omega)) wM_X12_rowAt wV_X12_rowAt kl_X12_115 rfl (lt_lit hn (Nat.le_of_ble_eq_true rfl)) rfl ⟨rfl, rfl, Nat.le_of_ble_eq_true rfl, Nat.le_of_ble_eq_true rfl⟩ (Nat.le_of_ble_eq_true rfl) cs rfl rfl dX12_keep_161 rfl ?_
                              rintro _ _ ⟨rfl, rfl⟩
                              refine g_aload_n cx (pc2 := 165) 0 rfl dX12_keep_164 rfl ?_
                              refine g_iload cx (pc2 := 167) 5 rfl dX12_keep_165 rfl ?_
                              refine g_iload cx (pc2 := 169) 7 rfl dX12_keep_167 rfl ?_
                              refine g_callV cx (pc2 := 172) (st := [.int (iI (rcA M r k)), .int (iI c)]) (As := [.int (iI h), .int (iI k)]) (k0 := 77) (ci := 12) (c_X12_carryOf (M := M) hn (by exact hV) h k (by omega) (by omega)) wM_X12_carryOf wV_X12_carryOf kl_X12_204 rfl (lt_lit hn (Nat.le_of_ble_eq_true rfl)) rfl ⟨rfl, rfl, Nat.le_of_ble_eq_true rfl, Nat.le_of_ble_eq_true rfl⟩ (Nat.le_of_ble_eq_true rfl) cs rfl rfl dX12_keep_169 rfl ?_
                              rintro _ _ ⟨rfl, rfl⟩
                              refine g_imul cx (pc2 := 173) dX12_keep_172 rfl ?_
                              refine g_iadd cx (pc2 := 174) dX12_keep_173 rfl ?_
                              refine g_istore cx (pc2 := 176) (lv2 := [(0, .ref 77), (1, .int (iI r)), (3, .int (iI t)), (4, .int (iI b)), (5, .int (iI v)), (6, .int (iI h)), (7, .int (iI (c + ((rcA M r k) * (wap (M 84 h.toNat) (M 84 k.toNat)))))), (8, .int (iI k))]) rfl (Nat.le_of_ble_eq_true rfl) dX12_keep_174 rfl ?_
                              refine g_iinc cx (pc2 := 179) 7 rfl (lv2 := [(0, .ref 77), (1, .int (iI r)), (3, .int (iI t)), (4, .int (iI b)), (5, .int (iI v)), (6, .int (iI h)), (7, .int (iI (c + ((rcA M r k) * (wap (M 84 h.toNat) (M 84 k.toNat)))))), (8, .int (iI (k + 1)))]) rfl (Nat.le_of_ble_eq_true rfl) dX12_keep_176 rfl ?_
                              refine g_goto cx (tgt := 146) dX12_keep_179 (by decide) ?_
                              exact ih146 ((M 77 10 - (k + 1)).toNat) (by omega) (k + 1) (c + ((rcA M r k) * (wap (M 84 h.toNat) (M 84 k.toNat)))) (by first | assumption | omega) (by rw [hst4]) (Nat.le_refl _)
                        exact L146 _ 0 0 (by first | assumption | omega) (by rfl) (Nat.le_refl _)
                  refine g_sub (lv2 := [(0, .ref 77), (1, .int (iI r)), (3, .int (iI t)), (4, .int (iI (-9))), (5, .int (iI 0)), (6, .int (iI 0))]) [0, 1, 3, 4, 5, 6] rfl ?_
                  exact L131 _ 0 (-9) 0 (by first | assumption | omega) (by exact ⟨rfl, rfl⟩) (Nat.le_refl _)
                · skip
                  refine g_aload_n cx (pc2 := 116) 0 rfl dX12_keep_115 rfl ?_
                  refine g_iconst cx (pc2 := 117) dX12_keep_116 rfl ?_
                  refine g_callV cx (pc2 := 120) (st := []) (As := [.int (iI 4)]) (k0 := 77) (ci := 12) (c_X12_meets (M := M) hn 4 (by decide)) wM_X12_meets wV_X12_meets kl_X12_111 rfl (lt_lit hn (Nat.le_of_ble_eq_true rfl)) rfl ⟨rfl, rfl, Nat.le_of_ble_eq_true rfl, Nat.le_of_ble_eq_true rfl⟩ (Nat.le_of_ble_eq_true rfl) cs rfl rfl dX12_keep_117 rfl ?_
                  rintro _ _ ⟨rfl, rfl⟩
                  exact g_iret cx qx dX12_keep_120 ⟨congrArg (fun q => some (Value.int (iI q))) (by unfold xkeA; rw [if_neg (by assumption), if_neg (by omega), if_neg (by omega), if_neg (not_not_intro hkO), if_pos (by omega)]), by unfold xkeM; rw [if_neg (by assumption), if_neg (by omega), if_neg (by omega), if_neg (not_not_intro hkO), if_pos (by omega)]⟩
              · skip
                have hnO : ¬ xkO M r (M 77 10).toNat = true := by rcases hg with q | q; (exfalso; omega); (rw [show M 77 10 = i by omega]; exact q.2)
                refine g_aload_n cx (pc2 := 106) 0 rfl dX12_keep_105 rfl ?_
                refine g_iconst cx (pc2 := 107) dX12_keep_106 rfl ?_
                refine g_callV cx (pc2 := 110) (st := []) (As := [.int (iI 3)]) (k0 := 77) (ci := 12) (c_X12_meets (M := M) hn 3 (by decide)) wM_X12_meets wV_X12_meets kl_X12_111 rfl (lt_lit hn (Nat.le_of_ble_eq_true rfl)) rfl ⟨rfl, rfl, Nat.le_of_ble_eq_true rfl, Nat.le_of_ble_eq_true rfl⟩ (Nat.le_of_ble_eq_true rfl) cs rfl rfl dX12_keep_107 rfl ?_
                rintro _ _ ⟨rfl, rfl⟩
                exact g_iret cx qx dX12_keep_110 ⟨congrArg (fun q => some (Value.int (iI q))) (by unfold xkeA; rw [if_neg (by assumption), if_neg (by omega), if_neg (by omega), if_pos hnO]), by unfold xkeM; rw [if_neg (by assumption), if_neg (by omega), if_neg (by omega), if_pos hnO]⟩
            · skip
              have L84 : ∀ (g2 : Int), ((g2 = 1 ∧ xkO M r (i + 1).toNat = true) ∨ (g2 = 0 ∧ ¬ xkO M r (i + 1).toNat = true)) → G X 84 [(0, .ref 77), (1, .int (iI r)), (3, .int (iI t)), (4, .int (iI i))] [.int (iI g2)] M := by
                intro g2 hg2
                refine g_istore_n cx (pc2 := 85) (lv2 := [(0, .ref 77), (1, .int (iI r)), (2, .int (iI g2)), (3, .int (iI t)), (4, .int (iI i))]) rfl (Nat.le_of_ble_eq_true rfl) dX12_keep_84 rfl ?_
                refine g_iload_n cx (pc2 := 86) 3 rfl dX12_keep_85 rfl ?_
                refine g_aload_n cx (pc2 := 87) 0 rfl dX12_keep_86 rfl ?_
                refine g_iload_n cx (pc2 := 88) 1 rfl dX12_keep_87 rfl ?_
                refine g_iload cx (pc2 := 90) 4 rfl dX12_keep_88 rfl ?_
                refine g_callV cx (pc2 := 93) (st := [.int (iI t)]) (As := [.int (iI r), .int (iI i)]) (k0 := 77) (ci := 12) (c_X12_rowAt (M := M) hn r i (by first | assumption | omega) (by omega)) wM_X12_rowAt wV_X12_rowAt kl_X12_115 rfl (lt_lit hn (Nat.le_of_ble_eq_true rfl)) rfl ⟨rfl, rfl, Nat.le_of_ble_eq_true rfl, Nat.le_of_ble_eq_true rfl⟩ (Nat.le_of_ble_eq_true rfl) cs rfl rfl dX12_keep_90 rfl ?_
                rintro _ _ ⟨rfl, rfl⟩
                refine g_iadd cx (pc2 := 94) dX12_keep_93 rfl ?_
                refine g_istore_n cx (pc2 := 95) (lv2 := [(0, .ref 77), (1, .int (iI r)), (2, .int (iI g2)), (3, .int (iI (t + (rcA M r i)))), (4, .int (iI i))]) rfl (Nat.le_of_ble_eq_true rfl) dX12_keep_94 rfl ?_
                refine g_iinc cx (pc2 := 98) 4 rfl (lv2 := [(0, .ref 77), (1, .int (iI r)), (2, .int (iI g2)), (3, .int (iI (t + (rcA M r i)))), (4, .int (iI (i + 1)))]) rfl (Nat.le_of_ble_eq_true rfl) dX12_keep_95 rfl ?_
                refine g_goto cx (tgt := 50) dX12_keep_98 (by decide) ?_
                exact ih50 ((M 77 10 - (i + 1)).toNat) (by omega) (i + 1) g2 (t + (rcA M r i)) (by first | assumption | omega) (by exact hg2) (by rw [hst2]) (Nat.le_refl _)
              refine g_iload_n cx (pc2 := 60) 2 rfl dX12_keep_59 rfl ?_
              refine g_if_eq cx (pc2 := 63) (tgt := 83) (by first | assumption | omega) dX12_keep_60 (by decide) rfl (fun h_11 => ?_) (fun h_11 => ?_)
              · skip
                refine g_iconst cx (pc2 := 84) dX12_keep_83 rfl ?_
                refine g_sub (lv2 := [(0, .ref 77), (1, .int (iI r)), (3, .int (iI t)), (4, .int (iI i))]) [0, 1, 3, 4] rfl ?_
                exact L84 0 (by rw [hst]; first | (rcases hg with q | q; (exact Or.inl ⟨rfl, by rw [q.2, decide_eq_true (by assumption)]; rfl⟩); (exfalso; omega)) | (rcases hg with q | q; (exact Or.inr ⟨rfl, by rw [decide_eq_false (by assumption), Bool.and_false]; decide⟩); (exfalso; omega)) | (rcases hg with q | q; (exfalso; omega); (exact Or.inr ⟨rfl, fun z => q.2 ((Bool.and_eq_true _ _).mp z).1⟩)))
              · skip
                refine g_aload_n cx (pc2 := 64) 0 rfl dX12_keep_63 rfl ?_
                refine g_iload_n cx (pc2 := 65) 1 rfl dX12_keep_64 rfl ?_
                refine g_iload cx (pc2 := 67) 4 rfl dX12_keep_65 rfl ?_
                refine g_callV cx (pc2 := 70) (st := []) (As := [.int (iI r), .int (iI i)]) (k0 := 77) (ci := 12) (c_X12_rowAt (M := M) hn r i (by first | assumption | omega) (by omega)) wM_X12_rowAt wV_X12_rowAt kl_X12_115 rfl (lt_lit hn (Nat.le_of_ble_eq_true rfl)) rfl ⟨rfl, rfl, Nat.le_of_ble_eq_true rfl, Nat.le_of_ble_eq_true rfl⟩ (Nat.le_of_ble_eq_true rfl) cs rfl rfl dX12_keep_67 rfl ?_
                rintro _ _ ⟨rfl, rfl⟩
                refine g_iconst cx (pc2 := 71) dX12_keep_70 rfl ?_
                refine g_bipush cx (pc2 := 73) ⟨by decide, by decide⟩ dX12_keep_71 rfl ?_
                refine g_callS cx (pc2 := 76) (st := []) (As := [.int (iI (rcA M r i)), .int (iI 0), .int (iI 99)]) (c_X12_in (M := M) hn (rcA M r i) 0 99 (by first | assumption | omega) (by first | assumption | omega) (by first | assumption | omega)) wM_X12_in wS_X12_in kl_X12_97 ⟨rfl, rfl, Nat.le_of_ble_eq_true rfl, Nat.le_of_ble_eq_true rfl⟩ (Nat.le_of_ble_eq_true rfl) cs rfl rfl dX12_keep_73 rfl ?_
                rintro _ _ ⟨rfl, rfl⟩
                refine g_ifb_eq cx (pc2 := 79) (tgt := 83) dX12_keep_76 (by decide) rfl (fun h_12 => ?_) (fun h_12 => ?_)
                · skip
                  refine g_iconst cx (pc2 := 84) dX12_keep_83 rfl ?_
                  refine g_sub (lv2 := [(0, .ref 77), (1, .int (iI r)), (3, .int (iI t)), (4, .int (iI i))]) [0, 1, 3, 4] rfl ?_
                  exact L84 0 (by rw [hst]; first | (rcases hg with q | q; (exact Or.inl ⟨rfl, by rw [q.2, decide_eq_true (by assumption)]; rfl⟩); (exfalso; omega)) | (rcases hg with q | q; (exact Or.inr ⟨rfl, by rw [decide_eq_false (by assumption), Bool.and_false]; decide⟩); (exfalso; omega)) | (rcases hg with q | q; (exfalso; omega); (exact Or.inr ⟨rfl, fun z => q.2 ((Bool.and_eq_true _ _).mp z).1⟩)))
                · skip
                  refine g_iconst cx (pc2 := 80) dX12_keep_79 rfl ?_
                  refine g_goto cx (tgt := 84) dX12_keep_80 (by decide) ?_
                  refine g_sub (lv2 := [(0, .ref 77), (1, .int (iI r)), (3, .int (iI t)), (4, .int (iI i))]) [0, 1, 3, 4] rfl ?_
                  exact L84 1 (by rw [hst]; first | (rcases hg with q | q; (exact Or.inl ⟨rfl, by rw [q.2, decide_eq_true (by assumption)]; rfl⟩); (exfalso; omega)) | (rcases hg with q | q; (exact Or.inr ⟨rfl, by rw [decide_eq_false (by assumption), Bool.and_false]; decide⟩); (exfalso; omega)) | (rcases hg with q | q; (exfalso; omega); (exact Or.inr ⟨rfl, fun z => q.2 ((Bool.and_eq_true _ _).mp z).1⟩)))
        exact L50 _ 0 1 0 (by first | assumption | omega) (by exact Or.inl ⟨rfl, rfl⟩) (by rfl) (Nat.le_refl _)
      · skip
        refine g_aload_n cx (pc2 := 38) 0 rfl dX12_keep_37 rfl ?_
        refine g_iconst cx (pc2 := 39) dX12_keep_38 rfl ?_
        refine g_callV cx (pc2 := 42) (st := []) (As := [.int (iI 5)]) (k0 := 77) (ci := 12) (c_X12_meets (M := M) hn 5 (by decide)) wM_X12_meets wV_X12_meets kl_X12_111 rfl (lt_lit hn (Nat.le_of_ble_eq_true rfl)) rfl ⟨rfl, rfl, Nat.le_of_ble_eq_true rfl, Nat.le_of_ble_eq_true rfl⟩ (Nat.le_of_ble_eq_true rfl) cs rfl rfl dX12_keep_39 rfl ?_
        rintro _ _ ⟨rfl, rfl⟩
        exact g_iret cx qx dX12_keep_42 ⟨congrArg (fun q => some (Value.int (iI q))) (by unfold xkeA; (repeat (first | rw [if_pos (by first | assumption | omega)] | rw [if_neg (by first | assumption | exact not_not_intro (by assumption) | omega)])); first | done | rfl | (symm; assumption)), by unfold xkeM; (repeat (first | rw [if_pos (by first | assumption | omega)] | rw [if_neg (by first | assumption | exact not_not_intro (by assumption) | omega)])); first | done | rfl | (symm; assumption)⟩
    · skip
      refine g_aload_n cx (pc2 := 19) 0 rfl dX12_keep_18 rfl ?_
      refine g_iconst cx (pc2 := 20) dX12_keep_19 rfl ?_
      refine g_callV cx (pc2 := 23) (st := []) (As := [.int (iI 1)]) (k0 := 77) (ci := 12) (c_X12_meets (M := M) hn 1 (by decide)) wM_X12_meets wV_X12_meets kl_X12_111 rfl (lt_lit hn (Nat.le_of_ble_eq_true rfl)) rfl ⟨rfl, rfl, Nat.le_of_ble_eq_true rfl, Nat.le_of_ble_eq_true rfl⟩ (Nat.le_of_ble_eq_true rfl) cs rfl rfl dX12_keep_20 rfl ?_
      rintro _ _ ⟨rfl, rfl⟩
      exact g_iret cx qx dX12_keep_23 ⟨congrArg (fun q => some (Value.int (iI q))) (by unfold xkeA; (repeat (first | rw [if_pos (by first | assumption | omega)] | rw [if_neg (by first | assumption | exact not_not_intro (by assumption) | omega)])); first | done | rfl | (symm; assumption)), by unfold xkeM; (repeat (first | rw [if_pos (by first | assumption | omega)] | rw [if_neg (by first | assumption | exact not_not_intro (by assumption) | omega)])); first | done | rfl | (symm; assumption)⟩
  · skip
    refine g_iconst cx (pc2 := 8) dX12_keep_7 rfl ?_
    exact g_iret cx qx dX12_keep_8 ⟨congrArg (fun q => some (Value.int (iI q))) (by unfold xkeA; (repeat (first | rw [if_pos (by first | assumption | omega)] | rw [if_neg (by first | assumption | exact not_not_intro (by assumption) | omega)])); first | done | rfl | (symm; assumption)), by unfold xkeM; (repeat (first | rw [if_pos (by first | assumption | omega)] | rw [if_neg (by first | assumption | exact not_not_intro (by assumption) | omega)])); first | done | rfl | (symm; assumption)⟩
