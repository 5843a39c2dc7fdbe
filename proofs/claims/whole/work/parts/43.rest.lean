def xcgB (M : Mm) (h w k v : Int) : Bool := decide (if w = v then h = k else max 1 (wap (M 84 h.toNat) (M 84 k.toNat)) ≤ (if w < v then v - w else w - v))
def xtz (M : Mm) : Nat → Bool
  | 0 => false
  | i + 1 => xtz M i || decide (M 103 i = 0)
def xcbB (M : Mm) (h w : Int) : Bool := xtz M (M 77 40).toNat || xcgB M h w (M 77 15) 0
def xgA (M : Mm) (h w : Int) : Nat → Bool
  | 0 => xcbB M h w
  | i + 1 => xgA M h w i && xcgB M h w (M 102 i) (M 103 i)
def xcuB (M : Mm) (w : Int) (h : Nat) : Bool := xgA M (h : Int) w (M 77 40).toNat
def xcuA (M : Mm) (w : Int) : Int := if ¬ (0 ≤ w ∧ w ≤ 27) then -1 else ((bsum (xcuB M w) (M 77 10).toNat : Nat) : Int)
def xlF (M : Mm) : Nat → Nat → Int
  | 0, _ => -9
  | f + 1, i => if xgA M (M 102 i) (M 103 i) i = true then xlF M f (i + 1) else (i : Int)
def xliA (M : Mm) : Int := xlF M (M 77 40).toNat 0
theorem xlF_b (M : Mm) : ∀ (f i : Nat), xlF M f i = -9 ∨ (0 ≤ xlF M f i ∧ xlF M f i < (f : Int) + i)
  | 0, _ => Or.inl rfl
  | f + 1, i => by
    have h := xlF_b M f (i + 1)
    rw [xlF]
    split
    · omega
    · omega
def xi1 (M : Mm) (r i : Int) : Mm := fun a b => if a = 80 ∧ 60 * r ≤ (b : Int) ∧ (b : Int) < 60 * r + i then (if (b : Int) - 60 * r < M 77 10 then M 97 ((b : Int) - 60 * r).toNat else 0) else if a = 79 ∧ b = r.toNat then M 77 10 * M 77 10 else M a b
theorem xi1_0 (M : Mm) (r : Int) : stM M 79 r.toNat (M 77 10 * M 77 10) = xi1 M r 0 := by
  funext a b
  unfold stM xi1
  by_cases h : a = 79 ∧ b = r.toNat
  · rw [if_pos h, if_neg (by omega)]
  · rw [if_neg h, if_neg (by omega)]
theorem xi1_s {M : Mm} {r i v : Int} (hr : 0 ≤ r) (hi : 0 ≤ i) (hv : v = if i < M 77 10 then M 97 i.toNat else 0) : stM (xi1 M r i) 80 (60 * r + i).toNat v = xi1 M r (i + 1) := by
  funext a b
  unfold stM xi1
  by_cases h : a = 80 ∧ b = (60 * r + i).toNat
  · rw [if_pos h, if_pos (by omega), hv, show (b : Int) - 60 * r = i by omega]
  · rw [if_neg h]
    by_cases h2 : a = 80 ∧ 60 * r ≤ (b : Int) ∧ (b : Int) < 60 * r + i
    · rw [if_pos h2, if_pos (by omega : a = 80 ∧ 60 * r ≤ (b : Int) ∧ (b : Int) < 60 * r + (i + 1))]
    · rw [if_neg h2, if_neg (by omega : ¬ (a = 80 ∧ 60 * r ≤ (b : Int) ∧ (b : Int) < 60 * r + (i + 1)))]
theorem xi1_off (M : Mm) (r i : Int) {a : Nat} (h1 : a ≠ 79) (h2 : a ≠ 80) : xi1 M r i a = M a := by
  funext b
  unfold xi1
  rw [if_neg (fun q => h2 q.1), if_neg (fun q => h1 q.1)]
def xiI (M T : Mm) (h p : Int) : Nat → Mm × Int
  | 0 => (T, p)
  | k + 1 => if h = (k : Int) then xiI M T h p k else (stM (xiI M T h p k).1 80 (xiI M T h p k).2.toNat (M 98 (8 * h + (k : Int)).toNat), (xiI M T h p k).2 + 1)
theorem xiI_b (M T : Mm) (h p : Int) : ∀ k : Nat, (∀ a, a ≠ 80 → (xiI M T h p k).1 a = T a) ∧ p ≤ (xiI M T h p k).2 ∧ (xiI M T h p k).2 ≤ p + k - (if 0 ≤ h ∧ h < (k : Int) then 1 else 0)
  | 0 => ⟨fun _ _ => rfl, by simp only [xiI]; omega, by simp only [xiI]; split <;> omega⟩
  | k + 1 => by
    have h1 := xiI_b M T h p k
    rw [xiI]
    split
    · exact ⟨h1.1, h1.2.1, by have := h1.2.2; split at this <;> split <;> omega⟩
    · exact ⟨fun a ha => by show stM _ _ _ _ a = T a; rw [stM_off ha]; exact h1.1 a ha, by have := h1.2.1; simp only []; omega, by have := h1.2.2; simp only []; split at this <;> split <;> omega⟩
def xiF (M : Mm) (r : Int) : Nat → Mm × Int
  | 0 => (xi1 M r 60, 60 * r + M 77 10)
  | h + 1 => xiI M (xiF M r h).1 (h : Int) (xiF M r h).2 (M 77 10).toNat
theorem xiF_b {M : Mm} (hv : 0 ≤ M 77 10 ∧ M 77 10 ≤ 7) {r : Int} : ∀ h : Nat, h ≤ (M 77 10).toNat → (∀ a, a ≠ 79 → a ≠ 80 → (xiF M r h).1 a = M a) ∧ 60 * r ≤ (xiF M r h).2 ∧ (xiF M r h).2 ≤ 60 * r + M 77 10 + 6 * h
  | 0, _ => ⟨fun a h1 h2 => xi1_off M r 60 h1 h2, by simp only [xiF]; omega, by simp only [xiF]; omega⟩
  | h + 1, hh => by
    have h1 := xiF_b hv (r := r) h (by omega)
    have h2 := xiI_b M (xiF M r h).1 (h : Int) (xiF M r h).2 (M 77 10).toNat
    have h3 := h2.2.2
    rw [if_pos (by omega)] at h3
    rw [xiF]
    exact ⟨fun a q1 q2 => by rw [h2.1 a q2]; exact h1.1 a q1 q2, by omega, by omega⟩
def ximA (M : Mm) (r : Int) : Int := if ¬ R6 r then -1 else if 7 < M 77 10 then -6 else M 77 10 * M 77 10
def ximM (M : Mm) (r : Int) : Mm := if ¬ R6 r then M else if 7 < M 77 10 then M else (xiF M r (M 77 10).toNat).1
def xk9 (M : Mm) (r : Int) : Nat → Bool
  | 0 => true
  | i + 1 => xk9 M r i && decide (0 ≤ rcA M r (i : Int) ∧ rcA M r (i : Int) ≤ 9999)
def xoI (M T : Mm) (r h p : Int) : Nat → Mm × Int
  | 0 => (T, p)
  | k + 1 => if h = (k : Int) then xoI M T r h p k else (stM (xoI M T r h p k).1 98 (8 * h + (k : Int)).toNat (rcA M r (xoI M T r h p k).2), (xoI M T r h p k).2 + 1)
theorem xoI_b (M T : Mm) (r h p : Int) : ∀ k : Nat, (∀ a, a ≠ 98 → (xoI M T r h p k).1 a = T a) ∧ p ≤ (xoI M T r h p k).2 ∧ (xoI M T r h p k).2 ≤ p + k - (if 0 ≤ h ∧ h < (k : Int) then 1 else 0)
  | 0 => ⟨fun _ _ => rfl, by simp only [xoI]; omega, by simp only [xoI]; split <;> omega⟩
  | k + 1 => by
    have h1 := xoI_b M T r h p k
    rw [xoI]
    split
    · exact ⟨h1.1, h1.2.1, by have := h1.2.2; split at this <;> split <;> omega⟩
    · exact ⟨fun a ha => by show stM _ _ _ _ a = T a; rw [stM_off ha]; exact h1.1 a ha, by have := h1.2.1; simp only []; omega, by have := h1.2.2; simp only []; split at this <;> split <;> omega⟩
def xoG (M : Mm) (r : Int) : Nat → Mm × Int
  | 0 => (M, M 77 10)
  | h + 1 => xoI M (stM (xoG M r h).1 97 h (rcA M r (h : Int))) r (h : Int) (xoG M r h).2 (M 77 10).toNat
theorem xoG_b {M : Mm} (hv : 0 ≤ M 77 10 ∧ M 77 10 ≤ 7) {r : Int} : ∀ h : Nat, h ≤ (M 77 10).toNat → (∀ a, a ≠ 97 → a ≠ 98 → (xoG M r h).1 a = M a) ∧ 0 ≤ (xoG M r h).2 ∧ (xoG M r h).2 ≤ M 77 10 + 6 * h
  | 0, _ => ⟨fun a h1 h2 => rfl, by simp only [xoG]; omega, by simp only [xoG]; omega⟩
  | h + 1, hh => by
    have h1 := xoG_b hv (r := r) h (by omega)
    have h2 := xoI_b M (stM (xoG M r h).1 97 h (rcA M r (h : Int))) r (h : Int) (xoG M r h).2 (M 77 10).toNat
    have h3 := h2.2.2
    rw [if_pos (by omega)] at h3
    rw [xoG]
    exact ⟨fun a q1 q2 => by rw [h2.1 a q2, stM_off q1]; exact h1.1 a q1 q2, by omega, by omega⟩
def xonA (M : Mm) (r : Int) : Int := if ¬ R6 r then -1 else if 7 < M 77 10 then -6 else if M 79 r.toNat < 0 then -3 else if ¬ M 79 r.toNat = M 77 10 * M 77 10 then -3 else if ¬ xk9 M r (M 79 r.toNat).toNat = true then -3 else 1
def xonM (M : Mm) (r : Int) : Mm := if ¬ R6 r then M else if 7 < M 77 10 then M else if M 79 r.toNat < 0 then mtM M 1 else if ¬ M 79 r.toNat = M 77 10 * M 77 10 then mtM M 5 else if ¬ xk9 M r (M 79 r.toNat).toNat = true then mtM M 3 else stM (xoG M r (M 77 10).toNat).1 77 35 0
def xnt (M : Mm) (a : Nat) : Nat → Int
  | 0 => 0
  | i + 1 => if M a i < 0 then xnt M a i else xnt M a i + 1
def xcnV (M : Mm) (w : Int) : Int := if w = 0 then M 77 10 else if w = 1 then M 77 12 else if w = 2 then popZ (mKx M 1) else if w = 3 then M 77 35 else if w = 4 then M 77 37 else if w = 5 then M 77 40 else if w = 6 then xnt M 79 6 else if w = 7 then xnt M 82 4 else 0
def xctA (M : Mm) (w : Int) : Int := if 0 ≤ w ∧ w ≤ 7 then xcnV M w else -1
def xmO (M : Mm) (i t : Int) : Nat → Int
  | 0 => t
  | k + 1 => if i = (k : Int) then xmO M i t k else 31 * xmO M i t k + wr (M 98 (8 * i + (k : Int)).toNat)
def xmH (M : Mm) (t : Int) : Nat → Int
  | 0 => t
  | i + 1 => xmO M (i : Int) (31 * (31 * xmH M t i + M 84 i) + wr (M 97 i)) (M 77 10).toNat
def xmN (M : Mm) (t : Int) : Nat → Int
  | 0 => t
  | i + 1 => 31 * mxF (fun w => nA M (i : Int) (w : Int)) (xmN M t i) 6 + M 86 i
def xmP (M : Mm) (a b : Nat) (t : Int) : Nat → Int
  | 0 => t
  | i + 1 => 31 * (31 * xmP M a b t i + M a i) + M b i
def xmR (M : Mm) (t : Int) : Nat → Int
  | 0 => t
  | r + 1 => mxF (fun i => rcA M (r : Int) (i : Int)) (31 * xmR M t r + M 79 r) (M 79 r).toNat
def xmT (M : Mm) (t : Int) : Nat → Int
  | 0 => t
  | r + 1 => mxF (fun i => btA M (r : Int) (i : Int)) (31 * xmT M t r + M 82 r) (M 82 r).toNat
def xmV (M : Mm) (t : Int) : Int := xmP M 102 103 (xmP M 100 101 (xmN M (xmH M (31 * t + M 77 15) (M 77 10).toNat) (M 77 12).toNat) (M 77 37).toNat) (M 77 40).toNat
def xdgV (M : Mm) : Int := xmT M (xmR M (xmV M (mxF (fun w => xcnV M (w : Int)) 17 8)) 6) 4
abbrev hM (M : Mm) (t : Int) : Mm := stM M 77 43 t
theorem hM_s (M : Mm) (t x : Int) : stM (stM M 77 43 t) 77 43 (31 * stM M 77 43 t 77 43 + x) = stM M 77 43 (31 * t + x) := by
  rw [stM_at]
  funext a b
  unfold stM
  by_cases h : a = 77 ∧ b = 43
  · rw [if_pos h, if_pos h]
  · rw [if_neg h, if_neg h, if_neg h]
theorem xmO_h (M : Mm) (u i t : Int) : ∀ k, xmO (stM M 77 43 u) i t k = xmO M i t k
  | 0 => rfl
  | k + 1 => by rw [xmO, xmO, xmO_h M u i t k, stM_off (by decide)]
theorem xmH_h (M : Mm) (u t : Int) : ∀ k, xmH (stM M 77 43 u) t k = xmH M t k
  | 0 => rfl
  | k + 1 => by rw [xmH, xmH, xmH_h M u t k, xmO_h, stM_off (by decide), stM_off (by decide), stM_ne _ _ (Or.inr (by decide))]
theorem xmN_h (M : Mm) (u t : Int) : ∀ k, xmN (stM M 77 43 u) t k = xmN M t k
  | 0 => rfl
  | k + 1 => by
    have e : (fun w : Nat => nA (stM M 77 43 u) (k : Int) (w : Int)) = fun w : Nat => nA M (k : Int) (w : Int) := by funext w; exact nA_off (stM_off (by decide)) _ _
    rw [xmN, xmN, xmN_h M u t k, e, stM_off (by decide)]
theorem xmP_h (M : Mm) {a b : Nat} (ha : a ≠ 77) (hb : b ≠ 77) (u t : Int) : ∀ k, xmP (stM M 77 43 u) a b t k = xmP M a b t k
  | 0 => rfl
  | k + 1 => by rw [xmP, xmP, xmP_h M ha hb u t k, stM_off ha, stM_off hb]
theorem xmV_h (M : Mm) (u t : Int) : xmV (stM M 77 43 u) t = xmV M t := by
  have e : ∀ j, j ≠ 43 → stM M 77 43 u 77 j = M 77 j := fun j hj => stM_ne _ _ (Or.inr hj)
  unfold xmV
  rw [xmP_h M (by decide) (by decide), xmP_h M (by decide) (by decide), xmN_h, xmH_h, e 15 (by decide), e 10 (by decide), e 12 (by decide), e 37 (by decide), e 40 (by decide)]
set_option maxHeartbeats 4000000 in
set_option maxRecDepth 100000 in
theorem c_X12_canGo {n : Nat} (hn : NN n) {M : Mm} (hV : RV M) (h w k v : Int) (hh : 0 ≤ h ∧ h < 8) (hw : 0 ≤ w ∧ w ≤ 27) (hk : 0 ≤ k ∧ k < 8) (hv : 0 ≤ v ∧ v ≤ 27) : CT yX12_canGo cX12_canGo 5 (some .boolean) ({ frames := 2, cells := 0, slots := 0, locals := 43 }) n [.ref 77, .int (iI h), .int (iI w), .int (iI k), .int (iI v)] M (rI (b2 (xcgB M h w k v = true)) M) := by
  refine CT.of (lv0 := [(0, .ref 77), (1, .int (iI h)), (2, .int (iI w)), (3, .int (iI k)), (4, .int (iI v))]) (by decide +kernel) hn (fun _ => rfl) (fun _ => Nat.le_of_ble_eq_true rfl) (fun X cx cs qx => ?_)
  have cx : Cx X cX12_canGo RX12 ({ frames := 2, cells := 0, slots := 0, locals := 43 }) 5 n := cx
  have hv1 := hV.1
  have hwb := wap_b (hV.2.1 h.toNat (by omega)) (hV.2.1 k.toNat (by omega))
  refine g_iload_n cx (pc2 := 1) 2 rfl dX12_canGo_0 rfl ?_
  refine g_iload cx (pc2 := 3) 4 rfl dX12_canGo_1 rfl ?_
  refine g_icmp_ne cx (pc2 := 6) (tgt := 19) ⟨(by first | assumption | omega), (by first | assumption | omega)⟩ dX12_canGo_3 (by decide) rfl (fun h_1 => ?_) (fun h_1 => ?_)
  · skip
    refine g_iload_n cx (pc2 := 20) 2 rfl dX12_canGo_19 rfl ?_
    refine g_iload cx (pc2 := 22) 4 rfl dX12_canGo_20 rfl ?_
    refine g_callS cx (pc2 := 25) (st := []) (As := [.int (iI w), .int (iI v)]) (c_X12_far (M := M) hn w v (by omega) (by omega)) wM_X12_far wS_X12_far kl_X12_183 ⟨rfl, rfl, Nat.le_of_ble_eq_true rfl, Nat.le_of_ble_eq_true rfl⟩ (Nat.le_of_ble_eq_true rfl) cs rfl rfl dX12_canGo_22 rfl ?_
    rintro _ _ ⟨rfl, rfl⟩
    refine g_iconst cx (pc2 := 26) dX12_canGo_25 rfl ?_
    refine g_aload_n cx (pc2 := 27) 0 rfl dX12_canGo_26 rfl ?_
    refine g_iload_n cx (pc2 := 28) 1 rfl dX12_canGo_27 rfl ?_
    refine g_iload_n cx (pc2 := 29) 3 rfl dX12_canGo_28 rfl ?_
    refine g_callV cx (pc2 := 32) (st := [.int (iI 1), .int (iI (if w < v then v - w else w - v))]) (As := [.int (iI h), .int (iI k)]) (k0 := 77) (ci := 12) (c_X12_carryOf (M := M) hn (by exact hV) h k (by omega) (by omega)) wM_X12_carryOf wV_X12_carryOf kl_X12_204 rfl (lt_lit hn (Nat.le_of_ble_eq_true rfl)) rfl ⟨rfl, rfl, Nat.le_of_ble_eq_true rfl, Nat.le_of_ble_eq_true rfl⟩ (Nat.le_of_ble_eq_true rfl) cs rfl rfl dX12_canGo_29 rfl ?_
    rintro _ _ ⟨rfl, rfl⟩
    refine g_callS cx (pc2 := 35) (st := [.int (iI (if w < v then v - w else w - v))]) (As := [.int (iI 1), .int (iI (wap (M 84 h.toNat) (M 84 k.toNat)))]) (c_X12_greater (M := M) hn 1 (wap (M 84 h.toNat) (M 84 k.toNat)) (by omega) (by omega)) wM_X12_greater wS_X12_greater kl_X12_207 ⟨rfl, rfl, Nat.le_of_ble_eq_true rfl, Nat.le_of_ble_eq_true rfl⟩ (Nat.le_of_ble_eq_true rfl) cs rfl rfl dX12_canGo_32 rfl ?_
    rintro _ _ ⟨rfl, rfl⟩
    refine g_icmp_lt cx (pc2 := 38) (tgt := 42) ⟨(by first | assumption | omega), (by first | assumption | omega)⟩ dX12_canGo_35 (by decide) rfl (fun h_2 => ?_) (fun h_2 => ?_)
    · skip
      refine g_iconst cx (pc2 := 43) dX12_canGo_42 rfl ?_
      exact g_zret cx (Or.inl rfl) qx dX12_canGo_43 ⟨rb_f (by unfold xcgB; first | exact decide_eq_true (by rw [if_pos (by assumption)]; assumption) | exact decide_eq_true (by rw [if_neg (by assumption)]; omega) | (intro q; have q := of_decide_eq_true q; rw [if_pos (by assumption)] at q; exact absurd q (by assumption)) | (intro q; have q := of_decide_eq_true q; rw [if_neg (by assumption)] at q; omega)), by rfl⟩
    · skip
      refine g_iconst cx (pc2 := 39) dX12_canGo_38 rfl ?_
      refine g_goto cx (tgt := 43) dX12_canGo_39 (by decide) ?_
      exact g_zret cx (Or.inr rfl) qx dX12_canGo_43 ⟨rb_t (by unfold xcgB; first | exact decide_eq_true (by rw [if_pos (by assumption)]; assumption) | exact decide_eq_true (by rw [if_neg (by assumption)]; omega) | (intro q; have q := of_decide_eq_true q; rw [if_pos (by assumption)] at q; exact absurd q (by assumption)) | (intro q; have q := of_decide_eq_true q; rw [if_neg (by assumption)] at q; omega)), by rfl⟩
  · skip
    refine g_iload_n cx (pc2 := 7) 1 rfl dX12_canGo_6 rfl ?_
    refine g_iload_n cx (pc2 := 8) 3 rfl dX12_canGo_7 rfl ?_
    refine g_icmp_ne cx (pc2 := 11) (tgt := 15) ⟨(by first | assumption | omega), (by first | assumption | omega)⟩ dX12_canGo_8 (by decide) rfl (fun h_3 => ?_) (fun h_3 => ?_)
    · skip
      refine g_iconst cx (pc2 := 16) dX12_canGo_15 rfl ?_
      refine g_goto cx (tgt := 43) dX12_canGo_16 (by decide) ?_
      exact g_zret cx (Or.inl rfl) qx dX12_canGo_43 ⟨rb_f (by unfold xcgB; first | exact decide_eq_true (by rw [if_pos (by assumption)]; assumption) | exact decide_eq_true (by rw [if_neg (by assumption)]; omega) | (intro q; have q := of_decide_eq_true q; rw [if_pos (by assumption)] at q; exact absurd q (by assumption)) | (intro q; have q := of_decide_eq_true q; rw [if_neg (by assumption)] at q; omega)), by rfl⟩
    · skip
      refine g_iconst cx (pc2 := 12) dX12_canGo_11 rfl ?_
      refine g_goto cx (tgt := 43) dX12_canGo_12 (by decide) ?_
      exact g_zret cx (Or.inr rfl) qx dX12_canGo_43 ⟨rb_t (by unfold xcgB; first | exact decide_eq_true (by rw [if_pos (by assumption)]; assumption) | exact decide_eq_true (by rw [if_neg (by assumption)]; omega) | (intro q; have q := of_decide_eq_true q; rw [if_pos (by assumption)] at q; exact absurd q (by assumption)) | (intro q; have q := of_decide_eq_true q; rw [if_neg (by assumption)] at q; omega)), by rfl⟩
set_option maxHeartbeats 4000000 in
set_option maxRecDepth 100000 in
theorem c_X12_canBegin {n : Nat} (hn : NN n) {M : Mm} (hV : RV M) (hR : TRX M) (h w : Int) (hh : 0 ≤ h ∧ h < 8) (hw : 0 ≤ w ∧ w ≤ 27) : CT yX12_canBegin cX12_canBegin 5 (some .boolean) ({ frames := 3, cells := 0, slots := 0, locals := 67 }) n [.ref 77, .int (iI h), .int (iI w)] M (rI (b2 (xcbB M h w = true)) M) := by
  refine CT.of (lv0 := [(0, .ref 77), (1, .int (iI h)), (2, .int (iI w))]) (by decide +kernel) hn (fun _ => rfl) (fun _ => Nat.le_of_ble_eq_true rfl) (fun X cx cs qx => ?_)
  have cx : Cx X cX12_canBegin RX12 ({ frames := 3, cells := 0, slots := 0, locals := 67 }) 5 n := cx
  have hv1 := hV.1
  have hr0 := hR.1
  refine g_iconst cx (pc2 := 1) dX12_canBegin_0 rfl ?_
  refine g_istore_n cx (pc2 := 2) (lv2 := [(0, .ref 77), (1, .int (iI h)), (2, .int (iI w)), (3, .int (iI 0))]) rfl (Nat.le_of_ble_eq_true rfl) dX12_canBegin_1 rfl ?_
  refine g_iconst cx (pc2 := 3) dX12_canBegin_2 rfl ?_
  refine g_istore cx (pc2 := 5) (lv2 := [(0, .ref 77), (1, .int (iI h)), (2, .int (iI w)), (3, .int (iI 0)), (4, .int (iI 0))]) rfl (Nat.le_of_ble_eq_true rfl) dX12_canBegin_3 rfl ?_
  have L5 : ∀ (fu : Nat) (i : Int) (g : Int), (0 ≤ i ∧ i ≤ M 77 40) → ((g = 1 ∧ xtz M i.toNat = true) ∨ (g = 0 ∧ xtz M i.toNat = false)) → (M 77 40 - i).toNat ≤ fu → G X 5 [(0, .ref 77), (1, .int (iI h)), (2, .int (iI w)), (3, .int (iI g)), (4, .int (iI i))] [] M := by
    intro fu
    induction fu using Nat.strongRecOn with
    | _ fu ih5 =>
      intro i g hi hg hk5
      have htj := hR.2 i.toNat
      have hst : xtz M (i + 1).toNat = (xtz M i.toNat || decide (M 103 i.toNat = 0)) := by rw [show (i + 1).toNat = i.toNat + 1 by omega, xtz]
      refine g_iload cx (pc2 := 7) 4 rfl dX12_canBegin_5 rfl ?_
      refine g_aload_n cx (pc2 := 8) 0 rfl dX12_canBegin_7 rfl ?_
      refine g_get cx (pc2 := 11) (ci := 12) (k0 := 77) (j := 40) (v := .int (iI (M 77 40))) rfl iwX12 rfl (lt_lit hn (Nat.le_of_ble_eq_true rfl)) rfl (Nat.le_of_ble_eq_true rfl) kf_X12_180 rfl rfl dX12_canBegin_8 rfl ?_
      refine g_icmp_ge cx (pc2 := 14) (tgt := 40) ⟨(by first | assumption | omega), (by first | assumption | omega)⟩ dX12_canBegin_11 (by decide) rfl (fun h_1 => ?_) (fun h_1 => ?_)
      · skip
        have hgE : (g = 1 ∧ xtz M (M 77 40).toNat = true) ∨ (g = 0 ∧ xtz M (M 77 40).toNat = false) := by rw [show M 77 40 = i by omega]; exact hg
        refine g_iload_n cx (pc2 := 41) 3 rfl dX12_canBegin_40 rfl ?_
        refine g_if_ne cx (pc2 := 44) (tgt := 58) (by first | assumption | omega) dX12_canBegin_41 (by decide) rfl (fun h_2 => ?_) (fun h_2 => ?_)
        · skip
          refine g_iconst cx (pc2 := 59) dX12_canBegin_58 rfl ?_
          refine g_goto cx (tgt := 63) dX12_canBegin_59 (by decide) ?_
          exact g_zret cx (Or.inr rfl) qx dX12_canBegin_63 ⟨rb_t (by unfold xcbB; rcases hgE with q | q <;> first | (exfalso; omega) | (rw [q.2]; rfl) | (rw [q.2, Bool.false_or]; assumption)), by rfl⟩
        · skip
          refine g_aload_n cx (pc2 := 45) 0 rfl dX12_canBegin_44 rfl ?_
          refine g_iload_n cx (pc2 := 46) 1 rfl dX12_canBegin_45 rfl ?_
          refine g_iload_n cx (pc2 := 47) 2 rfl dX12_canBegin_46 rfl ?_
          refine g_aload_n cx (pc2 := 48) 0 rfl dX12_canBegin_47 rfl ?_
          refine g_get cx (pc2 := 51) (ci := 12) (k0 := 77) (j := 15) (v := .int (iI (M 77 15))) rfl iwX12 rfl (lt_lit hn (Nat.le_of_ble_eq_true rfl)) rfl (Nat.le_of_ble_eq_true rfl) kf_X12_171 rfl rfl dX12_canBegin_48 rfl ?_
          refine g_iconst cx (pc2 := 52) dX12_canBegin_51 rfl ?_
          refine g_callV cx (pc2 := 55) (st := []) (As := [.int (iI h), .int (iI w), .int (iI (M 77 15)), .int (iI 0)]) (k0 := 77) (ci := 12) (c_X12_canGo (M := M) hn (by exact hV) h w (M 77 15) 0 (by omega) (by omega) (by omega) (by omega)) wM_X12_canGo wV_X12_canGo kl_X12_316 rfl (lt_lit hn (Nat.le_of_ble_eq_true rfl)) rfl ⟨rfl, rfl, Nat.le_of_ble_eq_true rfl, Nat.le_of_ble_eq_true rfl⟩ (Nat.le_of_ble_eq_true rfl) cs rfl rfl dX12_canBegin_52 rfl ?_
          rintro _ _ ⟨rfl, rfl⟩
          refine g_ifb_eq cx (pc2 := 58) (tgt := 62) dX12_canBegin_55 (by decide) rfl (fun h_3 => ?_) (fun h_3 => ?_)
          · skip
            refine g_iconst cx (pc2 := 63) dX12_canBegin_62 rfl ?_
            exact g_zret cx (Or.inl rfl) qx dX12_canBegin_63 ⟨rb_f (by unfold xcbB; rcases hgE with q | q <;> first | (exfalso; omega) | (rw [q.2]; rfl) | (rw [q.2, Bool.false_or]; assumption)), by rfl⟩
          · skip
            refine g_iconst cx (pc2 := 59) dX12_canBegin_58 rfl ?_
            refine g_goto cx (tgt := 63) dX12_canBegin_59 (by decide) ?_
            exact g_zret cx (Or.inr rfl) qx dX12_canBegin_63 ⟨rb_t (by unfold xcbB; rcases hgE with q | q <;> first | (exfalso; omega) | (rw [q.2]; rfl) | (rw [q.2, Bool.false_or]; assumption)), by rfl⟩
      · skip
        have L33 : ∀ (g2 : Int), ((g2 = 1 ∧ xtz M (i + 1).toNat = true) ∨ (g2 = 0 ∧ xtz M (i + 1).toNat = false)) → G X 33 [(0, .ref 77), (1, .int (iI h)), (2, .int (iI w)), (4, .int (iI i))] [.int (iI g2)] M := by
          intro g2 hg2
          refine g_istore_n cx (pc2 := 34) (lv2 := [(0, .ref 77), (1, .int (iI h)), (2, .int (iI w)), (3, .int (iI g2)), (4, .int (iI i))]) rfl (Nat.le_of_ble_eq_true rfl) dX12_canBegin_33 rfl ?_
          refine g_iinc cx (pc2 := 37) 4 rfl (lv2 := [(0, .ref 77), (1, .int (iI h)), (2, .int (iI w)), (3, .int (iI g2)), (4, .int (iI (i + 1)))]) rfl (Nat.le_of_ble_eq_true rfl) dX12_canBegin_34 rfl ?_
          refine g_goto cx (tgt := 5) dX12_canBegin_37 (by decide) ?_
          exact ih5 ((M 77 40 - (i + 1)).toNat) (by omega) (i + 1) g2 (by first | assumption | omega) (by exact hg2) (Nat.le_refl _)
        skip
        refine g_iload_n cx (pc2 := 15) 3 rfl dX12_canBegin_14 rfl ?_
        refine g_if_ne cx (pc2 := 18) (tgt := 28) (by first | assumption | omega) dX12_canBegin_15 (by decide) rfl (fun h_4 => ?_) (fun h_4 => ?_)
        · skip
          refine g_iconst cx (pc2 := 29) dX12_canBegin_28 rfl ?_
          refine g_goto cx (tgt := 33) dX12_canBegin_29 (by decide) ?_
          refine g_sub (lv2 := [(0, .ref 77), (1, .int (iI h)), (2, .int (iI w)), (4, .int (iI i))]) [0, 1, 2, 4] rfl ?_
          exact L33 1 (by rw [hst]; rcases hg with q | q <;> first | (exfalso; omega) | exact Or.inl ⟨rfl, by rw [q.2]; rfl⟩ | exact Or.inl ⟨rfl, by rw [decide_eq_true (by assumption), Bool.or_true]⟩ | exact Or.inr ⟨rfl, by rw [q.2, decide_eq_false (by assumption)]; rfl⟩)
        · skip
          have htk := htj (by omega)
          refine g_aload_n cx (pc2 := 19) 0 rfl dX12_canBegin_18 rfl ?_
          refine g_get cx (pc2 := 22) (ci := 12) (k0 := 77) (j := 42) (v := .ref 103) rfl iwX12 rfl (lt_lit hn (Nat.le_of_ble_eq_true rfl)) rfl (Nat.le_of_ble_eq_true rfl) kf_X12_86 rfl rfl dX12_canBegin_19 rfl ?_
          refine g_iload cx (pc2 := 24) 4 rfl dX12_canBegin_22 rfl ?_
          refine g_iald cx (pc2 := 25) (k0 := 103) rfl (lt_lit hn (Nat.le_of_ble_eq_true rfl)) (by first | assumption | omega) (by first | assumption | omega) (Nat.le_of_ble_eq_true rfl) dX12_canBegin_24 rfl ?_
          refine g_rwi (y := iI (M 103 ((i).toNat))) (congrArg iI (by simp [stM])) ?_
          refine g_if_ne cx (pc2 := 28) (tgt := 32) (by first | assumption | omega) dX12_canBegin_25 (by decide) rfl (fun h_5 => ?_) (fun h_5 => ?_)
          · skip
            refine g_iconst cx (pc2 := 33) dX12_canBegin_32 rfl ?_
            refine g_sub (lv2 := [(0, .ref 77), (1, .int (iI h)), (2, .int (iI w)), (4, .int (iI i))]) [0, 1, 2, 4] rfl ?_
            exact L33 0 (by rw [hst]; rcases hg with q | q <;> first | (exfalso; omega) | exact Or.inl ⟨rfl, by rw [q.2]; rfl⟩ | exact Or.inl ⟨rfl, by rw [decide_eq_true (by assumption), Bool.or_true]⟩ | exact Or.inr ⟨rfl, by rw [q.2, decide_eq_false (by assumption)]; rfl⟩)
          · skip
            refine g_iconst cx (pc2 := 29) dX12_canBegin_28 rfl ?_
            refine g_goto cx (tgt := 33) dX12_canBegin_29 (by decide) ?_
            refine g_sub (lv2 := [(0, .ref 77), (1, .int (iI h)), (2, .int (iI w)), (4, .int (iI i))]) [0, 1, 2, 4] rfl ?_
            exact L33 1 (by rw [hst]; rcases hg with q | q <;> first | (exfalso; omega) | exact Or.inl ⟨rfl, by rw [q.2]; rfl⟩ | exact Or.inl ⟨rfl, by rw [decide_eq_true (by assumption), Bool.or_true]⟩ | exact Or.inr ⟨rfl, by rw [q.2, decide_eq_false (by assumption)]; rfl⟩)
  exact L5 _ 0 0 (by first | assumption | omega) (by exact Or.inr ⟨rfl, rfl⟩) (Nat.le_refl _)
set_option maxHeartbeats 4000000 in
set_option maxRecDepth 100000 in
theorem c_X12_could {n : Nat} (hn : NN n) {M : Mm} (hV : RV M) (hR : TRX M) (w : Int) (hw : ir w) : CT yX12_could cX12_could 6 (some .int) ({ frames := 4, cells := 0, slots := 0, locals := 91 }) n [.ref 77, .int (iI w)] M (rI (xcuA M w) M) := by
  refine CT.of (lv0 := [(0, .ref 77), (1, .int (iI w))]) (by decide +kernel) hn (fun _ => rfl) (fun _ => Nat.le_of_ble_eq_true rfl) (fun X cx cs qx => ?_)
  have cx : Cx X cX12_could RX12 ({ frames := 4, cells := 0, slots := 0, locals := 91 }) 6 n := cx
  have hv1 := hV.1
  have hr0 := hR.1
  refine g_iload_n cx (pc2 := 1) 1 rfl dX12_could_0 rfl ?_
  refine g_iconst cx (pc2 := 2) dX12_could_1 rfl ?_
  refine g_bipush cx (pc2 := 4) ⟨by decide, by decide⟩ dX12_could_2 rfl ?_
  refine g_callS cx (pc2 := 7) (st := []) (As := [.int (iI w), .int (iI 0), .int (iI 27)]) (c_X12_in (M := M) hn w 0 27 (by omega) (by first | assumption | omega) (by first | assumption | omega)) wM_X12_in wS_X12_in kl_X12_97 ⟨rfl, rfl, Nat.le_of_ble_eq_true rfl, Nat.le_of_ble_eq_true rfl⟩ (Nat.le_of_ble_eq_true rfl) cs rfl rfl dX12_could_4 rfl ?_
  rintro _ _ ⟨rfl, rfl⟩
  refine g_ifb_ne cx (pc2 := 10) (tgt := 12) dX12_could_7 (by decide) rfl (fun h_1 => ?_) (fun h_1 => ?_)
  · skip
    refine g_iconst cx (pc2 := 13) dX12_could_12 rfl ?_
    refine g_istore_n cx (pc2 := 14) (lv2 := [(0, .ref 77), (1, .int (iI w)), (2, .int (iI 0))]) rfl (Nat.le_of_ble_eq_true rfl) dX12_could_13 rfl ?_
    refine g_iconst cx (pc2 := 15) dX12_could_14 rfl ?_
    refine g_istore_n cx (pc2 := 16) (lv2 := [(0, .ref 77), (1, .int (iI w)), (2, .int (iI 0)), (3, .int (iI 0))]) rfl (Nat.le_of_ble_eq_true rfl) dX12_could_15 rfl ?_
    have L16 : ∀ (fu : Nat) (h : Int) (t : Int), (0 ≤ h ∧ h ≤ M 77 10) → (t = ((bsum (xcuB M w) h.toNat : Nat) : Int)) → (M 77 10 - h).toNat ≤ fu → G X 16 [(0, .ref 77), (1, .int (iI w)), (2, .int (iI t)), (3, .int (iI h))] [] M := by
      intro fu
      induction fu using Nat.strongRecOn with
      | _ fu ih16 =>
        intro h t hh ht hk16
        have hbb := bsum_255 (xcuB M w) (k := h.toNat) (by omega)
        have hst : bsum (xcuB M w) (h + 1).toNat = t.toNat ||| (if xgA M h w (M 77 40).toNat = true then 2 ^ h.toNat else 0) := by rw [show (h + 1).toNat = h.toNat + 1 by omega, bsum, ht, Int.toNat_natCast]; unfold xcuB; rw [Int.toNat_of_nonneg hh.1]
        refine g_iload_n cx (pc2 := 17) 3 rfl dX12_could_16 rfl ?_
        refine g_aload_n cx (pc2 := 18) 0 rfl dX12_could_17 rfl ?_
        refine g_get cx (pc2 := 21) (ci := 12) (k0 := 77) (j := 10) (v := .int (iI (M 77 10))) rfl iwX12 rfl (lt_lit hn (Nat.le_of_ble_eq_true rfl)) rfl (Nat.le_of_ble_eq_true rfl) kf_X12_165 rfl rfl dX12_could_18 rfl ?_
        refine g_icmp_ge cx (pc2 := 24) (tgt := 106) ⟨(by first | assumption | omega), (by first | assumption | omega)⟩ dX12_could_21 (by decide) rfl (fun h_2 => ?_) (fun h_2 => ?_)
        · skip
          refine g_iload_n cx (pc2 := 107) 2 rfl dX12_could_106 rfl ?_
          exact g_iret cx qx dX12_could_107 ⟨congrArg (fun q => some (Value.int (iI q))) (by unfold xcuA; rw [if_neg (by omega), ht, show h = M 77 10 by omega]), by rfl⟩
        · skip
          refine g_aload_n cx (pc2 := 25) 0 rfl dX12_could_24 rfl ?_
          refine g_iload_n cx (pc2 := 26) 3 rfl dX12_could_25 rfl ?_
          refine g_iload_n cx (pc2 := 27) 1 rfl dX12_could_26 rfl ?_
          refine g_callV cx (pc2 := 30) (st := []) (As := [.int (iI h), .int (iI w)]) (k0 := 77) (ci := 12) (c_X12_canBegin (M := M) hn (by exact hV) (by exact hR) h w (by omega) (by omega)) wM_X12_canBegin wV_X12_canBegin kl_X12_320 rfl (lt_lit hn (Nat.le_of_ble_eq_true rfl)) rfl ⟨rfl, rfl, Nat.le_of_ble_eq_true rfl, Nat.le_of_ble_eq_true rfl⟩ (Nat.le_of_ble_eq_true rfl) cs rfl rfl dX12_could_27 rfl ?_
          rintro _ _ ⟨rfl, rfl⟩
          refine g_istore cx (pc2 := 32) (lv2 := [(0, .ref 77), (1, .int (iI w)), (2, .int (iI t)), (3, .int (iI h)), (4, .int (iI (b2 (xcbB M h w = true))))]) rfl (Nat.le_of_ble_eq_true rfl) dX12_could_30 rfl ?_
          refine g_iconst cx (pc2 := 33) dX12_could_32 rfl ?_
          refine g_istore cx (pc2 := 35) (lv2 := [(0, .ref 77), (1, .int (iI w)), (2, .int (iI t)), (3, .int (iI h)), (4, .int (iI (b2 (xcbB M h w = true)))), (5, .int (iI 0))]) rfl (Nat.le_of_ble_eq_true rfl) dX12_could_33 rfl ?_
          have L35 : ∀ (fu : Nat) (i : Int) (g : Int), (0 ≤ i ∧ i ≤ M 77 40) → ((g = 1 ∧ xgA M h w i.toNat = true) ∨ (g = 0 ∧ ¬ xgA M h w i.toNat = true)) → (M 77 40 - i).toNat ≤ fu → G X 35 [(0, .ref 77), (1, .int (iI w)), (2, .int (iI t)), (3, .int (iI h)), (4, .int (iI g)), (5, .int (iI i))] [] M := by
            intro fu
            induction fu using Nat.strongRecOn with
            | _ fu ih35 =>
              intro i g hi hg hk35
              have htj := hR.2 i.toNat
              have hst2 : xgA M h w (i + 1).toNat = (xgA M h w i.toNat && xcgB M h w (M 102 i.toNat) (M 103 i.toNat)) := by rw [show (i + 1).toNat = i.toNat + 1 by omega, xgA]
              refine g_iload cx (pc2 := 37) 5 rfl dX12_could_35 rfl ?_
              refine g_aload_n cx (pc2 := 38) 0 rfl dX12_could_37 rfl ?_
              refine g_get cx (pc2 := 41) (ci := 12) (k0 := 77) (j := 40) (v := .int (iI (M 77 40))) rfl iwX12 rfl (lt_lit hn (Nat.le_of_ble_eq_true rfl)) rfl (Nat.le_of_ble_eq_true rfl) kf_X12_180 rfl rfl dX12_could_38 rfl ?_
              refine g_icmp_ge cx (pc2 := 44) (tgt := 85) ⟨(by first | assumption | omega), (by first | assumption | omega)⟩ dX12_could_41 (by decide) rfl (fun h_3 => ?_) (fun h_3 => ?_)
              · skip
                have L98 : ∀ (y : Int), (y = ((if xgA M h w (M 77 40).toNat = true then 2 ^ h.toNat else 0 : Nat) : Int)) → G X 98 [(0, .ref 77), (1, .int (iI w)), (3, .int (iI h))] [.int (iI y), .int (iI t)] M := by
                  intro y hy
                  refine g_ior cx (pc2 := 99) dX12_could_98 rfl ?_
                  refine g_rwi (y := iI ((bsum (xcuB M w) (h + 1).toNat : Nat) : Int)) (by rw [hy, hst]; exact or_iI (by omega) (Int.natCast_nonneg _)) ?_
                  refine g_istore_n cx (pc2 := 100) (lv2 := [(0, .ref 77), (1, .int (iI w)), (2, .int (iI ((bsum (xcuB M w) (h + 1).toNat : Nat) : Int))), (3, .int (iI h))]) rfl (Nat.le_of_ble_eq_true rfl) dX12_could_99 rfl ?_
                  refine g_iinc cx (pc2 := 103) 3 rfl (lv2 := [(0, .ref 77), (1, .int (iI w)), (2, .int (iI ((bsum (xcuB M w) (h + 1).toNat : Nat) : Int))), (3, .int (iI (h + 1)))]) rfl (Nat.le_of_ble_eq_true rfl) dX12_could_100 rfl ?_
                  refine g_goto cx (tgt := 16) dX12_could_103 (by decide) ?_
                  exact ih16 ((M 77 10 - (h + 1)).toNat) (by omega) (h + 1) ((bsum (xcuB M w) (h + 1).toNat : Nat) : Int) (by first | assumption | omega) (by rfl) (Nat.le_refl _)
                have hgE : (g = 1 ∧ xgA M h w (M 77 40).toNat = true) ∨ (g = 0 ∧ ¬ xgA M h w (M 77 40).toNat = true) := by rw [show M 77 40 = i by omega]; exact hg
                have hp2 := p8 (i := h) (by omega)
                have hp3 : (0 : Int) ≤ ((2 ^ h.toNat : Nat) : Int) := Int.natCast_nonneg _
                refine g_iload_n cx (pc2 := 86) 2 rfl dX12_could_85 rfl ?_
                refine g_iload cx (pc2 := 88) 4 rfl dX12_could_86 rfl ?_
                refine g_if_eq cx (pc2 := 91) (tgt := 97) (by first | assumption | omega) dX12_could_88 (by decide) rfl (fun h_4 => ?_) (fun h_4 => ?_)
                · skip
                  refine g_iconst cx (pc2 := 98) dX12_could_97 rfl ?_
                  refine g_sub (lv2 := [(0, .ref 77), (1, .int (iI w)), (3, .int (iI h))]) [0, 1, 3] rfl ?_
                  exact L98 0 (by rcases hgE with q | q <;> first | (exfalso; omega) | (rw [if_pos q.2]; done) | (rw [if_neg q.2]; rfl))
                · skip
                  refine g_iconst cx (pc2 := 92) dX12_could_91 rfl ?_
                  refine g_iload_n cx (pc2 := 93) 3 rfl dX12_could_92 rfl ?_
                  refine g_ishl cx (pc2 := 94) dX12_could_93 rfl ?_
                  refine g_rwi (y := iI ((2 ^ h.toNat : Nat) : Int)) (sh1 (by omega) (by omega)) ?_
                  refine g_goto cx (tgt := 98) dX12_could_94 (by decide) ?_
                  refine g_sub (lv2 := [(0, .ref 77), (1, .int (iI w)), (3, .int (iI h))]) [0, 1, 3] rfl ?_
                  exact L98 ((2 ^ h.toNat : Nat) : Int) (by rcases hgE with q | q <;> first | (exfalso; omega) | (rw [if_pos q.2]; done) | (rw [if_neg q.2]; rfl))
              · skip
                have L77 : ∀ (g2 : Int), ((g2 = 1 ∧ xgA M h w (i + 1).toNat = true) ∨ (g2 = 0 ∧ ¬ xgA M h w (i + 1).toNat = true)) → G X 77 [(0, .ref 77), (1, .int (iI w)), (2, .int (iI t)), (3, .int (iI h)), (5, .int (iI i))] [.int (iI g2)] M := by
                  intro g2 hg2
                  refine g_istore cx (pc2 := 79) (lv2 := [(0, .ref 77), (1, .int (iI w)), (2, .int (iI t)), (3, .int (iI h)), (4, .int (iI g2)), (5, .int (iI i))]) rfl (Nat.le_of_ble_eq_true rfl) dX12_could_77 rfl ?_
                  refine g_iinc cx (pc2 := 82) 5 rfl (lv2 := [(0, .ref 77), (1, .int (iI w)), (2, .int (iI t)), (3, .int (iI h)), (4, .int (iI g2)), (5, .int (iI (i + 1)))]) rfl (Nat.le_of_ble_eq_true rfl) dX12_could_79 rfl ?_
                  refine g_goto cx (tgt := 35) dX12_could_82 (by decide) ?_
                  exact ih35 ((M 77 40 - (i + 1)).toNat) (by omega) (i + 1) g2 (by first | assumption | omega) (by exact hg2) (Nat.le_refl _)
                refine g_iload cx (pc2 := 46) 4 rfl dX12_could_44 rfl ?_
                refine g_if_eq cx (pc2 := 49) (tgt := 76) (by first | assumption | omega) dX12_could_46 (by decide) rfl (fun h_5 => ?_) (fun h_5 => ?_)
                · skip
                  refine g_iconst cx (pc2 := 77) dX12_could_76 rfl ?_
                  refine g_sub (lv2 := [(0, .ref 77), (1, .int (iI w)), (2, .int (iI t)), (3, .int (iI h)), (5, .int (iI i))]) [0, 1, 2, 3, 5] rfl ?_
                  exact L77 0 (by rw [hst2]; rcases hg with q | q <;> first | (exfalso; omega) | exact Or.inl ⟨rfl, by rw [q.2, Bool.true_and]; assumption⟩ | exact Or.inr ⟨rfl, by rw [q.2, Bool.true_and]; assumption⟩ | exact Or.inr ⟨rfl, fun z => q.2 ((Bool.and_eq_true _ _).mp z).1⟩)
                · skip
                  have htk := htj (by omega)
                  refine g_aload_n cx (pc2 := 50) 0 rfl dX12_could_49 rfl ?_
                  refine g_iload_n cx (pc2 := 51) 3 rfl dX12_could_50 rfl ?_
                  refine g_iload_n cx (pc2 := 52) 1 rfl dX12_could_51 rfl ?_
                  refine g_aload_n cx (pc2 := 53) 0 rfl dX12_could_52 rfl ?_
                  refine g_get cx (pc2 := 56) (ci := 12) (k0 := 77) (j := 41) (v := .ref 102) rfl iwX12 rfl (lt_lit hn (Nat.le_of_ble_eq_true rfl)) rfl (Nat.le_of_ble_eq_true rfl) kf_X12_83 rfl rfl dX12_could_53 rfl ?_
                  refine g_iload cx (pc2 := 58) 5 rfl dX12_could_56 rfl ?_
                  refine g_iald cx (pc2 := 59) (k0 := 102) rfl (lt_lit hn (Nat.le_of_ble_eq_true rfl)) (by first | assumption | omega) (by first | assumption | omega) (Nat.le_of_ble_eq_true rfl) dX12_could_58 rfl ?_
                  refine g_rwi (y := iI (M 102 ((i).toNat))) (congrArg iI (by simp [stM])) ?_
                  refine g_aload_n cx (pc2 := 60) 0 rfl dX12_could_59 rfl ?_
                  refine g_get cx (pc2 := 63) (ci := 12) (k0 := 77) (j := 42) (v := .ref 103) rfl iwX12 rfl (lt_lit hn (Nat.le_of_ble_eq_true rfl)) rfl (Nat.le_of_ble_eq_true rfl) kf_X12_86 rfl rfl dX12_could_60 rfl ?_
                  refine g_iload cx (pc2 := 65) 5 rfl dX12_could_63 rfl ?_
                  refine g_iald cx (pc2 := 66) (k0 := 103) rfl (lt_lit hn (Nat.le_of_ble_eq_true rfl)) (by first | assumption | omega) (by first | assumption | omega) (Nat.le_of_ble_eq_true rfl) dX12_could_65 rfl ?_
                  refine g_rwi (y := iI (M 103 ((i).toNat))) (congrArg iI (by simp [stM])) ?_
                  refine g_callV cx (pc2 := 69) (st := []) (As := [.int (iI h), .int (iI w), .int (iI (M 102 ((i).toNat))), .int (iI (M 103 ((i).toNat)))]) (k0 := 77) (ci := 12) (c_X12_canGo (M := M) hn (by exact hV) h w (M 102 ((i).toNat)) (M 103 ((i).toNat)) (by omega) (by omega) (by omega) (by omega)) wM_X12_canGo wV_X12_canGo kl_X12_316 rfl (lt_lit hn (Nat.le_of_ble_eq_true rfl)) rfl ⟨rfl, rfl, Nat.le_of_ble_eq_true rfl, Nat.le_of_ble_eq_true rfl⟩ (Nat.le_of_ble_eq_true rfl) cs rfl rfl dX12_could_66 rfl ?_
                  rintro _ _ ⟨rfl, rfl⟩
                  refine g_ifb_eq cx (pc2 := 72) (tgt := 76) dX12_could_69 (by decide) rfl (fun h_6 => ?_) (fun h_6 => ?_)
                  · skip
                    refine g_iconst cx (pc2 := 77) dX12_could_76 rfl ?_
                    refine g_sub (lv2 := [(0, .ref 77), (1, .int (iI w)), (2, .int (iI t)), (3, .int (iI h)), (5, .int (iI i))]) [0, 1, 2, 3, 5] rfl ?_
                    exact L77 0 (by rw [hst2]; rcases hg with q | q <;> first | (exfalso; omega) | exact Or.inl ⟨rfl, by rw [q.2, Bool.true_and]; assumption⟩ | exact Or.inr ⟨rfl, by rw [q.2, Bool.true_and]; assumption⟩ | exact Or.inr ⟨rfl, fun z => q.2 ((Bool.and_eq_true _ _).mp z).1⟩)
                  · skip
                    refine g_iconst cx (pc2 := 73) dX12_could_72 rfl ?_
                    refine g_goto cx (tgt := 77) dX12_could_73 (by decide) ?_
                    refine g_sub (lv2 := [(0, .ref 77), (1, .int (iI w)), (2, .int (iI t)), (3, .int (iI h)), (5, .int (iI i))]) [0, 1, 2, 3, 5] rfl ?_
                    exact L77 1 (by rw [hst2]; rcases hg with q | q <;> first | (exfalso; omega) | exact Or.inl ⟨rfl, by rw [q.2, Bool.true_and]; assumption⟩ | exact Or.inr ⟨rfl, by rw [q.2, Bool.true_and]; assumption⟩ | exact Or.inr ⟨rfl, fun z => q.2 ((Bool.and_eq_true _ _).mp z).1⟩)
          exact L35 _ 0 (b2 (xcbB M h w = true)) (by first | assumption | omega) (by by_cases q : xcbB M h w = true; exact Or.inl ⟨by unfold b2; rw [if_pos q], q⟩; exact Or.inr ⟨by unfold b2; rw [if_neg q], q⟩) (Nat.le_refl _)
    exact L16 _ 0 0 (by first | assumption | omega) (by rfl) (Nat.le_refl _)
  · skip
    refine g_iconst cx (pc2 := 11) dX12_could_10 rfl ?_
    exact g_iret cx qx dX12_could_11 ⟨congrArg (fun q => some (Value.int (iI q))) (by unfold xcuA; rw [if_pos (by assumption)]), by rfl⟩
set_option maxHeartbeats 4000000 in
set_option maxRecDepth 100000 in
theorem c_X12_liar {n : Nat} (hn : NN n) {M : Mm} (hV : RV M) (hR : TRX M) : CT yX12_liar cX12_liar 4 (some .int) ({ frames := 4, cells := 0, slots := 0, locals := 91 }) n [.ref 77] M (rI (xliA M) M) := by
  refine CT.of (lv0 := [(0, .ref 77)]) (by decide +kernel) hn (fun _ => rfl) (fun _ => Nat.le_of_ble_eq_true rfl) (fun X cx cs qx => ?_)
  have cx : Cx X cX12_liar RX12 ({ frames := 4, cells := 0, slots := 0, locals := 91 }) 4 n := cx
  have hv1 := hV.1
  have hr0 := hR.1
  refine g_iconst cx (pc2 := 1) dX12_liar_0 rfl ?_
  refine g_istore_n cx (pc2 := 2) (lv2 := [(0, .ref 77), (1, .int (iI 0))]) rfl (Nat.le_of_ble_eq_true rfl) dX12_liar_1 rfl ?_
  have L2 : ∀ (fu : Nat) (i : Int), (0 ≤ i ∧ i ≤ M 77 40) → (xlF M (M 77 40 - i).toNat i.toNat = xliA M) → (M 77 40 - i).toNat ≤ fu → G X 2 [(0, .ref 77), (1, .int (iI i))] [] M := by
    intro fu
    induction fu using Nat.strongRecOn with
    | _ fu ih2 =>
      intro i hi hl hk2
      have hti := hR.2 i.toNat
      have hst : i < M 77 40 → xlF M (M 77 40 - i).toNat i.toNat = if xgA M (M 102 i.toNat) (M 103 i.toNat) i.toNat = true then xlF M (M 77 40 - (i + 1)).toNat (i + 1).toNat else i := fun q => by rw [show (M 77 40 - i).toNat = (M 77 40 - (i + 1)).toNat + 1 by omega, xlF, Int.toNat_of_nonneg hi.1, show (i + 1).toNat = i.toNat + 1 by omega]
      refine g_iload_n cx (pc2 := 3) 1 rfl dX12_liar_2 rfl ?_
      refine g_aload_n cx (pc2 := 4) 0 rfl dX12_liar_3 rfl ?_
      refine g_get cx (pc2 := 7) (ci := 12) (k0 := 77) (j := 40) (v := .int (iI (M 77 40))) rfl iwX12 rfl (lt_lit hn (Nat.le_of_ble_eq_true rfl)) rfl (Nat.le_of_ble_eq_true rfl) kf_X12_180 rfl rfl dX12_liar_4 rfl ?_
      refine g_icmp_ge cx (pc2 := 10) (tgt := 93) ⟨(by first | assumption | omega), (by first | assumption | omega)⟩ dX12_liar_7 (by decide) rfl (fun h_1 => ?_) (fun h_1 => ?_)
      · skip
        refine g_bipush cx (pc2 := 95) ⟨by decide, by decide⟩ dX12_liar_93 rfl ?_
        exact g_iret cx qx dX12_liar_95 ⟨congrArg (fun q => some (Value.int (iI q))) (by rw [← hl, show (M 77 40 - i).toNat = 0 by omega]; rfl), by rfl⟩
      · skip
        have hti2 := hti (by omega)
        have hst1 := hst (by omega)
        refine g_aload_n cx (pc2 := 11) 0 rfl dX12_liar_10 rfl ?_
        refine g_aload_n cx (pc2 := 12) 0 rfl dX12_liar_11 rfl ?_
        refine g_get cx (pc2 := 15) (ci := 12) (k0 := 77) (j := 41) (v := .ref 102) rfl iwX12 rfl (lt_lit hn (Nat.le_of_ble_eq_true rfl)) rfl (Nat.le_of_ble_eq_true rfl) kf_X12_83 rfl rfl dX12_liar_12 rfl ?_
        refine g_iload_n cx (pc2 := 16) 1 rfl dX12_liar_15 rfl ?_
        refine g_iald cx (pc2 := 17) (k0 := 102) rfl (lt_lit hn (Nat.le_of_ble_eq_true rfl)) (by first | assumption | omega) (by first | assumption | omega) (Nat.le_of_ble_eq_true rfl) dX12_liar_16 rfl ?_
        refine g_rwi (y := iI (M 102 ((i).toNat))) (congrArg iI (by simp [stM])) ?_
        refine g_aload_n cx (pc2 := 18) 0 rfl dX12_liar_17 rfl ?_
        refine g_get cx (pc2 := 21) (ci := 12) (k0 := 77) (j := 42) (v := .ref 103) rfl iwX12 rfl (lt_lit hn (Nat.le_of_ble_eq_true rfl)) rfl (Nat.le_of_ble_eq_true rfl) kf_X12_86 rfl rfl dX12_liar_18 rfl ?_
        refine g_iload_n cx (pc2 := 22) 1 rfl dX12_liar_21 rfl ?_
        refine g_iald cx (pc2 := 23) (k0 := 103) rfl (lt_lit hn (Nat.le_of_ble_eq_true rfl)) (by first | assumption | omega) (by first | assumption | omega) (Nat.le_of_ble_eq_true rfl) dX12_liar_22 rfl ?_
        refine g_rwi (y := iI (M 103 ((i).toNat))) (congrArg iI (by simp [stM])) ?_
        refine g_callV cx (pc2 := 26) (st := []) (As := [.int (iI (M 102 ((i).toNat))), .int (iI (M 103 ((i).toNat)))]) (k0 := 77) (ci := 12) (c_X12_canBegin (M := M) hn (by exact hV) (by exact hR) (M 102 ((i).toNat)) (M 103 ((i).toNat)) (by omega) (by omega)) wM_X12_canBegin wV_X12_canBegin kl_X12_320 rfl (lt_lit hn (Nat.le_of_ble_eq_true rfl)) rfl ⟨rfl, rfl, Nat.le_of_ble_eq_true rfl, Nat.le_of_ble_eq_true rfl⟩ (Nat.le_of_ble_eq_true rfl) cs rfl rfl dX12_liar_23 rfl ?_
        rintro _ _ ⟨rfl, rfl⟩
        refine g_istore_n cx (pc2 := 27) (lv2 := [(0, .ref 77), (1, .int (iI i)), (2, .int (iI (b2 (xcbB M (M 102 ((i).toNat)) (M 103 ((i).toNat)) = true))))]) rfl (Nat.le_of_ble_eq_true rfl) dX12_liar_26 rfl ?_
        refine g_iconst cx (pc2 := 28) dX12_liar_27 rfl ?_
        refine g_istore_n cx (pc2 := 29) (lv2 := [(0, .ref 77), (1, .int (iI i)), (2, .int (iI (b2 (xcbB M (M 102 ((i).toNat)) (M 103 ((i).toNat)) = true)))), (3, .int (iI 0))]) rfl (Nat.le_of_ble_eq_true rfl) dX12_liar_28 rfl ?_
        have L29 : ∀ (fu : Nat) (j : Int) (g : Int), (0 ≤ j ∧ j ≤ i) → ((g = 1 ∧ xgA M (M 102 i.toNat) (M 103 i.toNat) j.toNat = true) ∨ (g = 0 ∧ ¬ xgA M (M 102 i.toNat) (M 103 i.toNat) j.toNat = true)) → (i - j).toNat ≤ fu → G X 29 [(0, .ref 77), (1, .int (iI i)), (2, .int (iI g)), (3, .int (iI j))] [] M := by
          intro fu
          induction fu using Nat.strongRecOn with
          | _ fu ih29 =>
            intro j g hj hg hk29
            have htj := hR.2 j.toNat
            have hst2 : xgA M (M 102 i.toNat) (M 103 i.toNat) (j + 1).toNat = (xgA M (M 102 i.toNat) (M 103 i.toNat) j.toNat && xcgB M (M 102 i.toNat) (M 103 i.toNat) (M 102 j.toNat) (M 103 j.toNat)) := by rw [show (j + 1).toNat = j.toNat + 1 by omega, xgA]
            refine g_iload_n cx (pc2 := 30) 3 rfl dX12_liar_29 rfl ?_
            refine g_iload_n cx (pc2 := 31) 1 rfl dX12_liar_30 rfl ?_
            refine g_icmp_ge cx (pc2 := 34) (tgt := 81) ⟨(by first | assumption | omega), (by first | assumption | omega)⟩ dX12_liar_31 (by decide) rfl (fun h_2 => ?_) (fun h_2 => ?_)
            · skip
              have hgE : (g = 1 ∧ xgA M (M 102 i.toNat) (M 103 i.toNat) i.toNat = true) ∨ (g = 0 ∧ ¬ xgA M (M 102 i.toNat) (M 103 i.toNat) i.toNat = true) := by rw [show i.toNat = j.toNat by omega] at hg ⊢; exact hg
              refine g_iload_n cx (pc2 := 82) 2 rfl dX12_liar_81 rfl ?_
              refine g_if_ne cx (pc2 := 85) (tgt := 87) (by first | assumption | omega) dX12_liar_82 (by decide) rfl (fun h_3 => ?_) (fun h_3 => ?_)
              · skip
                refine g_iinc cx (pc2 := 90) 1 rfl (lv2 := [(0, .ref 77), (1, .int (iI (i + 1))), (2, .int (iI g)), (3, .int (iI j))]) rfl (Nat.le_of_ble_eq_true rfl) dX12_liar_87 rfl ?_
                refine g_goto cx (tgt := 2) dX12_liar_90 (by decide) ?_
                refine g_sub (lv2 := [(0, .ref 77), (1, .int (iI (i + 1)))]) [0, 1] rfl ?_
                exact ih2 ((M 77 40 - (i + 1)).toNat) (by omega) (i + 1) (by first | assumption | omega) (by rw [← hl, hst1]; rcases hgE with q | q; (rw [if_pos q.2]); (exfalso; omega)) (Nat.le_refl _)
              · skip
                refine g_iload_n cx (pc2 := 86) 1 rfl dX12_liar_85 rfl ?_
                exact g_iret cx qx dX12_liar_86 ⟨congrArg (fun q => some (Value.int (iI q))) (by rw [← hl, hst1]; rcases hgE with q | q; (exfalso; omega); (rw [if_neg q.2])), by rfl⟩
            · skip
              have L74 : ∀ (g2 : Int), ((g2 = 1 ∧ xgA M (M 102 i.toNat) (M 103 i.toNat) (j + 1).toNat = true) ∨ (g2 = 0 ∧ ¬ xgA M (M 102 i.toNat) (M 103 i.toNat) (j + 1).toNat = true)) → G X 74 [(0, .ref 77), (1, .int (iI i)), (3, .int (iI j))] [.int (iI g2)] M := by
                intro g2 hg2
                refine g_istore_n cx (pc2 := 75) (lv2 := [(0, .ref 77), (1, .int (iI i)), (2, .int (iI g2)), (3, .int (iI j))]) rfl (Nat.le_of_ble_eq_true rfl) dX12_liar_74 rfl ?_
                refine g_iinc cx (pc2 := 78) 3 rfl (lv2 := [(0, .ref 77), (1, .int (iI i)), (2, .int (iI g2)), (3, .int (iI (j + 1)))]) rfl (Nat.le_of_ble_eq_true rfl) dX12_liar_75 rfl ?_
                refine g_goto cx (tgt := 29) dX12_liar_78 (by decide) ?_
                exact ih29 ((i - (j + 1)).toNat) (by omega) (j + 1) g2 (by first | assumption | omega) (by exact hg2) (Nat.le_refl _)
              refine g_iload_n cx (pc2 := 35) 2 rfl dX12_liar_34 rfl ?_
              refine g_if_eq cx (pc2 := 38) (tgt := 73) (by first | assumption | omega) dX12_liar_35 (by decide) rfl (fun h_4 => ?_) (fun h_4 => ?_)
              · skip
                refine g_iconst cx (pc2 := 74) dX12_liar_73 rfl ?_
                refine g_sub (lv2 := [(0, .ref 77), (1, .int (iI i)), (3, .int (iI j))]) [0, 1, 3] rfl ?_
                exact L74 0 (by rw [hst2]; rcases hg with q | q <;> first | (exfalso; omega) | exact Or.inl ⟨rfl, by rw [q.2, Bool.true_and]; assumption⟩ | exact Or.inr ⟨rfl, by rw [q.2, Bool.true_and]; assumption⟩ | exact Or.inr ⟨rfl, fun z => q.2 ((Bool.and_eq_true _ _).mp z).1⟩)
              · skip
                have htk := htj (by omega)
                refine g_aload_n cx (pc2 := 39) 0 rfl dX12_liar_38 rfl ?_
                refine g_aload_n cx (pc2 := 40) 0 rfl dX12_liar_39 rfl ?_
                refine g_get cx (pc2 := 43) (ci := 12) (k0 := 77) (j := 41) (v := .ref 102) rfl iwX12 rfl (lt_lit hn (Nat.le_of_ble_eq_true rfl)) rfl (Nat.le_of_ble_eq_true rfl) kf_X12_83 rfl rfl dX12_liar_40 rfl ?_
                refine g_iload_n cx (pc2 := 44) 1 rfl dX12_liar_43 rfl ?_
                refine g_iald cx (pc2 := 45) (k0 := 102) rfl (lt_lit hn (Nat.le_of_ble_eq_true rfl)) (by first | assumption | omega) (by first | assumption | omega) (Nat.le_of_ble_eq_true rfl) dX12_liar_44 rfl ?_
                refine g_rwi (y := iI (M 102 ((i).toNat))) (congrArg iI (by simp [stM])) ?_
                refine g_aload_n cx (pc2 := 46) 0 rfl dX12_liar_45 rfl ?_
                refine g_get cx (pc2 := 49) (ci := 12) (k0 := 77) (j := 42) (v := .ref 103) rfl iwX12 rfl (lt_lit hn (Nat.le_of_ble_eq_true rfl)) rfl (Nat.le_of_ble_eq_true rfl) kf_X12_86 rfl rfl dX12_liar_46 rfl ?_
                refine g_iload_n cx (pc2 := 50) 1 rfl dX12_liar_49 rfl ?_
                refine g_iald cx (pc2 := 51) (k0 := 103) rfl (lt_lit hn (Nat.le_of_ble_eq_true rfl)) (by first | assumption | omega) (by first | assumption | omega) (Nat.le_of_ble_eq_true rfl) dX12_liar_50 rfl ?_
                refine g_rwi (y := iI (M 103 ((i).toNat))) (congrArg iI (by simp [stM])) ?_
                refine g_aload_n cx (pc2 := 52) 0 rfl dX12_liar_51 rfl ?_
                refine g_get cx (pc2 := 55) (ci := 12) (k0 := 77) (j := 41) (v := .ref 102) rfl iwX12 rfl (lt_lit hn (Nat.le_of_ble_eq_true rfl)) rfl (Nat.le_of_ble_eq_true rfl) kf_X12_83 rfl rfl dX12_liar_52 rfl ?_
                refine g_iload_n cx (pc2 := 56) 3 rfl dX12_liar_55 rfl ?_
                refine g_iald cx (pc2 := 57) (k0 := 102) rfl (lt_lit hn (Nat.le_of_ble_eq_true rfl)) (by first | assumption | omega) (by first | assumption | omega) (Nat.le_of_ble_eq_true rfl) dX12_liar_56 rfl ?_
                refine g_rwi (y := iI (M 102 ((j).toNat))) (congrArg iI (by simp [stM])) ?_
                refine g_aload_n cx (pc2 := 58) 0 rfl dX12_liar_57 rfl ?_
                refine g_get cx (pc2 := 61) (ci := 12) (k0 := 77) (j := 42) (v := .ref 103) rfl iwX12 rfl (lt_lit hn (Nat.le_of_ble_eq_true rfl)) rfl (Nat.le_of_ble_eq_true rfl) kf_X12_86 rfl rfl dX12_liar_58 rfl ?_
                refine g_iload_n cx (pc2 := 62) 3 rfl dX12_liar_61 rfl ?_
                refine g_iald cx (pc2 := 63) (k0 := 103) rfl (lt_lit hn (Nat.le_of_ble_eq_true rfl)) (by first | assumption | omega) (by first | assumption | omega) (Nat.le_of_ble_eq_true rfl) dX12_liar_62 rfl ?_
                refine g_rwi (y := iI (M 103 ((j).toNat))) (congrArg iI (by simp [stM])) ?_
                refine g_callV cx (pc2 := 66) (st := []) (As := [.int (iI (M 102 ((i).toNat))), .int (iI (M 103 ((i).toNat))), .int (iI (M 102 ((j).toNat))), .int (iI (M 103 ((j).toNat)))]) (k0 := 77) (ci := 12) (c_X12_canGo (M := M) hn (by exact hV) (M 102 ((i).toNat)) (M 103 ((i).toNat)) (M 102 ((j).toNat)) (M 103 ((j).toNat)) (by omega) (by omega) (by omega) (by omega)) wM_X12_canGo wV_X12_canGo kl_X12_316 rfl (lt_lit hn (Nat.le_of_ble_eq_true rfl)) rfl ⟨rfl, rfl, Nat.le_of_ble_eq_true rfl, Nat.le_of_ble_eq_true rfl⟩ (Nat.le_of_ble_eq_true rfl) cs rfl rfl dX12_liar_63 rfl ?_
                rintro _ _ ⟨rfl, rfl⟩
                refine g_ifb_eq cx (pc2 := 69) (tgt := 73) dX12_liar_66 (by decide) rfl (fun h_5 => ?_) (fun h_5 => ?_)
                · skip
                  refine g_iconst cx (pc2 := 74) dX12_liar_73 rfl ?_
                  refine g_sub (lv2 := [(0, .ref 77), (1, .int (iI i)), (3, .int (iI j))]) [0, 1, 3] rfl ?_
                  exact L74 0 (by rw [hst2]; rcases hg with q | q <;> first | (exfalso; omega) | exact Or.inl ⟨rfl, by rw [q.2, Bool.true_and]; assumption⟩ | exact Or.inr ⟨rfl, by rw [q.2, Bool.true_and]; assumption⟩ | exact Or.inr ⟨rfl, fun z => q.2 ((Bool.and_eq_true _ _).mp z).1⟩)
                · skip
                  refine g_iconst cx (pc2 := 70) dX12_liar_69 rfl ?_
                  refine g_goto cx (tgt := 74) dX12_liar_70 (by decide) ?_
                  refine g_sub (lv2 := [(0, .ref 77), (1, .int (iI i)), (3, .int (iI j))]) [0, 1, 3] rfl ?_
                  exact L74 1 (by rw [hst2]; rcases hg with q | q <;> first | (exfalso; omega) | exact Or.inl ⟨rfl, by rw [q.2, Bool.true_and]; assumption⟩ | exact Or.inr ⟨rfl, by rw [q.2, Bool.true_and]; assumption⟩ | exact Or.inr ⟨rfl, fun z => q.2 ((Bool.and_eq_true _ _).mp z).1⟩)
        exact L29 _ 0 (b2 (xcbB M (M 102 ((i).toNat)) (M 103 ((i).toNat)) = true)) (by first | assumption | omega) (by by_cases q : xcbB M (M 102 i.toNat) (M 103 i.toNat) = true; exact Or.inl ⟨by unfold b2; rw [if_pos q], q⟩; exact Or.inr ⟨by unfold b2; rw [if_neg q], q⟩) (Nat.le_refl _)
  exact L2 _ 0 (by first | assumption | omega) (by unfold xliA; rw [show (M 77 40 - 0).toNat = (M 77 40).toNat by omega]; rfl) (Nat.le_refl _)
set_option maxHeartbeats 4000000 in
set_option maxRecDepth 100000 in
theorem c_X12_image {n : Nat} (hn : NN n) {M : Mm} (hV : RV M) (r : Int) (hr : ir r) : CT yX12_image cX12_image 6 (some .int) ({ frames := 2, cells := 0, slots := 0, locals := 42 }) n [.ref 77, .int (iI r)] M (rI (ximA M r) (ximM M r)) := by
  refine CT.of (lv0 := [(0, .ref 77), (1, .int (iI r))]) (by decide +kernel) hn (fun _ => rfl) (fun _ => Nat.le_of_ble_eq_true rfl) (fun X cx cs qx => ?_)
  have cx : Cx X cX12_image RX12 ({ frames := 2, cells := 0, slots := 0, locals := 42 }) 6 n := cx
  have hv1 := hV.1
  have hsq : M 77 10 ≤ 7 → 0 ≤ M 77 10 * M 77 10 ∧ M 77 10 * M 77 10 ≤ 49 := fun q => ⟨Int.mul_nonneg hv1.1.1 hv1.1.1, Int.mul_le_mul q q hv1.1.1 (by decide)⟩
  refine g_iload_n cx (pc2 := 1) 1 rfl dX12_image_0 rfl ?_
  refine g_callS cx (pc2 := 4) (st := []) (As := [.int (iI r)]) (c_X12_isRow (M := M) hn r (by first | assumption | omega)) wM_X12_isRow wS_X12_isRow kl_X12_107 ⟨rfl, rfl, Nat.le_of_ble_eq_true rfl, Nat.le_of_ble_eq_true rfl⟩ (Nat.le_of_ble_eq_true rfl) cs rfl rfl dX12_image_1 rfl ?_
  rintro _ _ ⟨rfl, rfl⟩
  refine g_ifb_ne cx (pc2 := 7) (tgt := 9) dX12_image_4 (by decide) rfl (fun h_1 => ?_) (fun h_1 => ?_)
  · skip
    refine g_aload_n cx (pc2 := 10) 0 rfl dX12_image_9 rfl ?_
    refine g_get cx (pc2 := 13) (ci := 12) (k0 := 77) (j := 10) (v := .int (iI (M 77 10))) rfl iwX12 rfl (lt_lit hn (Nat.le_of_ble_eq_true rfl)) rfl (Nat.le_of_ble_eq_true rfl) kf_X12_165 rfl rfl dX12_image_10 rfl ?_
    refine g_bipush cx (pc2 := 15) ⟨by decide, by decide⟩ dX12_image_13 rfl ?_
    refine g_icmp_le cx (pc2 := 18) (tgt := 21) ⟨(by first | assumption | omega), ⟨by decide, by decide⟩⟩ dX12_image_15 (by decide) rfl (fun h_2 => ?_) (fun h_2 => ?_)
    · skip
      have hsq2 := hsq (by omega)
      have hrr : 0 ≤ r ∧ r < 6 := by omega
      have hFo := xiF_b (M := M) (r := r) (by omega)
      refine g_aload_n cx (pc2 := 22) 0 rfl dX12_image_21 rfl ?_
      refine g_get cx (pc2 := 25) (ci := 12) (k0 := 77) (j := 10) (v := .int (iI (M 77 10))) rfl iwX12 rfl (lt_lit hn (Nat.le_of_ble_eq_true rfl)) rfl (Nat.le_of_ble_eq_true rfl) kf_X12_165 rfl rfl dX12_image_22 rfl ?_
      refine g_aload_n cx (pc2 := 26) 0 rfl dX12_image_25 rfl ?_
      refine g_get cx (pc2 := 29) (ci := 12) (k0 := 77) (j := 10) (v := .int (iI (M 77 10))) rfl iwX12 rfl (lt_lit hn (Nat.le_of_ble_eq_true rfl)) rfl (Nat.le_of_ble_eq_true rfl) kf_X12_165 rfl rfl dX12_image_26 rfl ?_
      refine g_imul cx (pc2 := 30) dX12_image_29 rfl ?_
      refine g_istore_n cx (pc2 := 31) (lv2 := [(0, .ref 77), (1, .int (iI r)), (2, .int (iI ((M 77 10) * (M 77 10))))]) rfl (Nat.le_of_ble_eq_true rfl) dX12_image_30 rfl ?_
      refine g_aload_n cx (pc2 := 32) 0 rfl dX12_image_31 rfl ?_
      refine g_get cx (pc2 := 35) (ci := 12) (k0 := 77) (j := 5) (v := .ref 79) rfl iwX12 rfl (lt_lit hn (Nat.le_of_ble_eq_true rfl)) rfl (Nat.le_of_ble_eq_true rfl) kf_X12_13 rfl rfl dX12_image_32 rfl ?_
      refine g_iload_n cx (pc2 := 36) 1 rfl dX12_image_35 rfl ?_
      refine g_iload_n cx (pc2 := 37) 2 rfl dX12_image_36 rfl ?_
      refine g_iast cx (pc2 := 38) (k0 := 79) rfl (lt_lit hn (Nat.le_of_ble_eq_true rfl)) (by first | assumption | omega) (by first | assumption | omega) (Nat.le_of_ble_eq_true rfl) dX12_image_37 rfl ?_
      refine g_M (M2 := (xi1 M r 0)) (by exact xi1_0 M r) ?_
      refine g_iconst cx (pc2 := 39) dX12_image_38 rfl ?_
      refine g_istore_n cx (pc2 := 40) (lv2 := [(0, .ref 77), (1, .int (iI r)), (2, .int (iI ((M 77 10) * (M 77 10)))), (3, .int (iI 0))]) rfl (Nat.le_of_ble_eq_true rfl) dX12_image_39 rfl ?_
      have L40 : ∀ (fu : Nat) (i : Int), (0 ≤ i ∧ i ≤ 60) → (60 - i).toNat ≤ fu → G X 40 [(0, .ref 77), (1, .int (iI r)), (2, .int (iI (M 77 10 * M 77 10))), (3, .int (iI i))] [] (xi1 M r i) := by
        intro fu
        induction fu using Nat.strongRecOn with
        | _ fu ih40 =>
          intro i hi hk40
          have e1 := xi1_off M r i (a := 77) (by decide) (by decide)
          have e9 := xi1_off M r i (a := 97) (by decide) (by decide)
          refine g_iload_n cx (pc2 := 41) 3 rfl dX12_image_40 rfl ?_
          refine g_bipush cx (pc2 := 43) ⟨by decide, by decide⟩ dX12_image_41 rfl ?_
          refine g_icmp_ge cx (pc2 := 46) (tgt := 81) ⟨(by first | assumption | omega), ⟨by decide, by decide⟩⟩ dX12_image_43 (by decide) rfl (fun h_3 => ?_) (fun h_3 => ?_)
          · skip
            refine g_bipush cx (pc2 := 83) ⟨by decide, by decide⟩ dX12_image_81 rfl ?_
            refine g_iload_n cx (pc2 := 84) 1 rfl dX12_image_83 rfl ?_
            refine g_imul cx (pc2 := 85) dX12_image_84 rfl ?_
            refine g_aload_n cx (pc2 := 86) 0 rfl dX12_image_85 rfl ?_
            refine g_get cx (pc2 := 89) (ci := 12) (k0 := 77) (j := 10) (v := .int (iI ((xi1 M r i) 77 10))) rfl iwX12 rfl (lt_lit hn (Nat.le_of_ble_eq_true rfl)) rfl (Nat.le_of_ble_eq_true rfl) kf_X12_165 rfl rfl dX12_image_86 rfl ?_
            refine g_rwi (y := iI (M 77 10)) (congrArg iI (by rw [e1])) ?_
            refine g_iadd cx (pc2 := 90) dX12_image_89 rfl ?_
            refine g_istore_n cx (pc2 := 91) (lv2 := [(0, .ref 77), (1, .int (iI r)), (2, .int (iI (M 77 10 * M 77 10))), (3, .int (iI ((60 * r) + (M 77 10))))]) rfl (Nat.le_of_ble_eq_true rfl) dX12_image_90 rfl ?_
            refine g_iconst cx (pc2 := 92) dX12_image_91 rfl ?_
            refine g_istore cx (pc2 := 94) (lv2 := [(0, .ref 77), (1, .int (iI r)), (2, .int (iI (M 77 10 * M 77 10))), (3, .int (iI ((60 * r) + (M 77 10)))), (4, .int (iI 0))]) rfl (Nat.le_of_ble_eq_true rfl) dX12_image_92 rfl ?_
            have L94 : ∀ (fu : Nat) (h : Int) (p : Int) (T : Mm), (0 ≤ h ∧ h ≤ M 77 10) → (T = (xiF M r h.toNat).1) → (p = (xiF M r h.toNat).2) → (M 77 10 - h).toNat ≤ fu → G X 94 [(0, .ref 77), (1, .int (iI r)), (2, .int (iI (M 77 10 * M 77 10))), (3, .int (iI p)), (4, .int (iI h))] [] T := by
              intro fu
              induction fu using Nat.strongRecOn with
              | _ fu ih94 =>
                intro h p T hh hT hp hk94
                have hF := hFo h.toNat (by omega)
                rw [← hT, ← hp] at hF
                have e2 := hF.1 77 (by decide) (by decide)
                have hst0 : h < M 77 10 → xiF M r (h + 1).toNat = xiI M T h p (M 77 10).toNat := fun _ => by rw [show (h + 1).toNat = h.toNat + 1 by omega, xiF, Int.toNat_of_nonneg hh.1, ← hT, ← hp]
                refine g_iload cx (pc2 := 96) 4 rfl dX12_image_94 rfl ?_
                refine g_aload_n cx (pc2 := 97) 0 rfl dX12_image_96 rfl ?_
                refine g_get cx (pc2 := 100) (ci := 12) (k0 := 77) (j := 10) (v := .int (iI (T 77 10))) rfl iwX12 rfl (lt_lit hn (Nat.le_of_ble_eq_true rfl)) rfl (Nat.le_of_ble_eq_true rfl) kf_X12_165 rfl rfl dX12_image_97 rfl ?_
                refine g_rwi (y := iI (M 77 10)) (congrArg iI (by rw [e2])) ?_
                refine g_icmp_ge cx (pc2 := 103) (tgt := 156) ⟨(by first | assumption | omega), (by first | assumption | omega)⟩ dX12_image_100 (by decide) rfl (fun h_4 => ?_) (fun h_4 => ?_)
                · skip
                  refine g_iload_n cx (pc2 := 157) 2 rfl dX12_image_156 rfl ?_
                  exact g_iret cx qx dX12_image_157 ⟨congrArg (fun q => some (Value.int (iI q))) (by unfold ximA; (repeat (first | rw [if_pos (by first | assumption | omega)] | rw [if_neg (by first | assumption | exact not_not_intro (by assumption) | omega)])); first | done | rfl | (symm; assumption)), by unfold ximM; rw [if_neg (by omega), if_neg (by omega), hT, show h = M 77 10 by omega]⟩
                · skip
                  refine g_iconst cx (pc2 := 104) dX12_image_103 rfl ?_
                  refine g_istore cx (pc2 := 106) (lv2 := [(0, .ref 77), (1, .int (iI r)), (2, .int (iI (M 77 10 * M 77 10))), (3, .int (iI p)), (4, .int (iI h)), (5, .int (iI 0))]) rfl (Nat.le_of_ble_eq_true rfl) dX12_image_104 rfl ?_
                  have L106 : ∀ (fu : Nat) (k : Int) (p2 : Int) (T2 : Mm), (0 ≤ k ∧ k ≤ M 77 10) → (T2 = (xiI M T h p k.toNat).1) → (p2 = (xiI M T h p k.toNat).2) → (M 77 10 - k).toNat ≤ fu → G X 106 [(0, .ref 77), (1, .int (iI r)), (2, .int (iI (M 77 10 * M 77 10))), (3, .int (iI p2)), (4, .int (iI h)), (5, .int (iI k))] [] T2 := by
                    intro fu
                    induction fu using Nat.strongRecOn with
                    | _ fu ih106 =>
                      intro k p2 T2 hk hT2 hp2 hk106
                      have hI := xiI_b M T h p k.toNat
                      rw [← hT2, ← hp2] at hI
                      have hI3 := hI.2.2
                      have e3 : T2 77 = M 77 := by rw [hI.1 77 (by decide), e2]
                      have e4 : T2 98 = M 98 := by rw [hI.1 98 (by decide)]; exact hF.1 98 (by decide) (by decide)
                      have hst : xiI M T h p (k + 1).toNat = if h = k then (T2, p2) else (stM T2 80 p2.toNat (M 98 (8 * h + k).toNat), p2 + 1) := by rw [show (k + 1).toNat = k.toNat + 1 by omega, xiI, Int.toNat_of_nonneg hk.1, hT2, hp2]
                      refine g_iload cx (pc2 := 108) 5 rfl dX12_image_106 rfl ?_
                      refine g_aload_n cx (pc2 := 109) 0 rfl dX12_image_108 rfl ?_
                      refine g_get cx (pc2 := 112) (ci := 12) (k0 := 77) (j := 10) (v := .int (iI (T2 77 10))) rfl iwX12 rfl (lt_lit hn (Nat.le_of_ble_eq_true rfl)) rfl (Nat.le_of_ble_eq_true rfl) kf_X12_165 rfl rfl dX12_image_109 rfl ?_
                      refine g_rwi (y := iI (M 77 10)) (congrArg iI (by rw [e3])) ?_
                      refine g_icmp_ge cx (pc2 := 115) (tgt := 150) ⟨(by first | assumption | omega), (by first | assumption | omega)⟩ dX12_image_112 (by decide) rfl (fun h_5 => ?_) (fun h_5 => ?_)
                      · skip
                        refine g_iinc cx (pc2 := 153) 4 rfl (lv2 := [(0, .ref 77), (1, .int (iI r)), (2, .int (iI (M 77 10 * M 77 10))), (3, .int (iI p2)), (4, .int (iI (h + 1))), (5, .int (iI k))]) rfl (Nat.le_of_ble_eq_true rfl) dX12_image_150 rfl ?_
                        refine g_goto cx (tgt := 94) dX12_image_153 (by decide) ?_
                        refine g_sub (lv2 := [(0, .ref 77), (1, .int (iI r)), (2, .int (iI (M 77 10 * M 77 10))), (3, .int (iI p2)), (4, .int (iI (h + 1)))]) [0, 1, 2, 3, 4] rfl ?_
                        exact ih94 ((M 77 10 - (h + 1)).toNat) (by omega) (h + 1) p2 T2 (by first | assumption | omega) (by rw [hst0 (by omega), hT2, show k = M 77 10 by omega]) (by rw [hst0 (by omega), hp2, show k = M 77 10 by omega]) (Nat.le_refl _)
                      · skip
                        have L144 : ∀ (p3 : Int) (T3 : Mm), (T3 = (xiI M T h p (k + 1).toNat).1) → (p3 = (xiI M T h p (k + 1).toNat).2) → G X 144 [(0, .ref 77), (1, .int (iI r)), (2, .int (iI (M 77 10 * M 77 10))), (3, .int (iI p3)), (4, .int (iI h)), (5, .int (iI k))] [] T3 := by
                          intro p3 T3 hT3 hp3
                          refine g_iinc cx (pc2 := 147) 5 rfl (lv2 := [(0, .ref 77), (1, .int (iI r)), (2, .int (iI (M 77 10 * M 77 10))), (3, .int (iI p3)), (4, .int (iI h)), (5, .int (iI (k + 1)))]) rfl (Nat.le_of_ble_eq_true rfl) dX12_image_144 rfl ?_
                          refine g_goto cx (tgt := 106) dX12_image_147 (by decide) ?_
                          exact ih106 ((M 77 10 - (k + 1)).toNat) (by omega) (k + 1) p3 T3 (by first | assumption | omega) (by exact hT3) (by exact hp3) (Nat.le_refl _)
                        refine g_iload cx (pc2 := 117) 4 rfl dX12_image_115 rfl ?_
                        refine g_iload cx (pc2 := 119) 5 rfl dX12_image_117 rfl ?_
                        refine g_icmp_eq cx (pc2 := 122) (tgt := 144) ⟨(by first | assumption | omega), (by first | assumption | omega)⟩ dX12_image_119 (by decide) rfl (fun h_6 => ?_) (fun h_6 => ?_)
                        · skip
                          exact L144 p2 T2 (by rw [hst]; first | (rw [if_pos (by omega)]; done) | (rw [if_neg (by omega)]; done)) (by rw [hst]; first | (rw [if_pos (by omega)]; done) | (rw [if_neg (by omega)]; done))
                        · skip
                          refine g_aload_n cx (pc2 := 123) 0 rfl dX12_image_122 rfl ?_
                          refine g_get cx (pc2 := 126) (ci := 12) (k0 := 77) (j := 6) (v := .ref 80) rfl iwX12 rfl (lt_lit hn (Nat.le_of_ble_eq_true rfl)) rfl (Nat.le_of_ble_eq_true rfl) kf_X12_16 rfl rfl dX12_image_123 rfl ?_
                          refine g_iload_n cx (pc2 := 127) 3 rfl dX12_image_126 rfl ?_
                          refine g_aload_n cx (pc2 := 128) 0 rfl dX12_image_127 rfl ?_
                          refine g_get cx (pc2 := 131) (ci := 12) (k0 := 77) (j := 34) (v := .ref 98) rfl iwX12 rfl (lt_lit hn (Nat.le_of_ble_eq_true rfl)) rfl (Nat.le_of_ble_eq_true rfl) kf_X12_71 rfl rfl dX12_image_128 rfl ?_
                          refine g_bipush cx (pc2 := 133) ⟨by decide, by decide⟩ dX12_image_131 rfl ?_
                          refine g_iload cx (pc2 := 135) 4 rfl dX12_image_133 rfl ?_
                          refine g_imul cx (pc2 := 136) dX12_image_135 rfl ?_
                          refine g_iload cx (pc2 := 138) 5 rfl dX12_image_136 rfl ?_
                          refine g_iadd cx (pc2 := 139) dX12_image_138 rfl ?_
                          refine g_iald cx (pc2 := 140) (k0 := 98) rfl (lt_lit hn (Nat.le_of_ble_eq_true rfl)) (by first | assumption | omega) (by first | assumption | omega) (Nat.le_of_ble_eq_true rfl) dX12_image_139 rfl ?_
                          refine g_rwi (y := iI (T2 98 (((8 * h) + k).toNat))) (congrArg iI (by simp [stM])) ?_
                          refine g_rwi (y := iI (M 98 (8 * h + k).toNat)) (congrArg iI (by rw [e4])) ?_
                          refine g_iast cx (pc2 := 141) (k0 := 80) rfl (lt_lit hn (Nat.le_of_ble_eq_true rfl)) (by first | assumption | omega) (by first | assumption | omega) (Nat.le_of_ble_eq_true rfl) dX12_image_140 rfl ?_
                          refine g_iinc cx (pc2 := 144) 3 rfl (lv2 := [(0, .ref 77), (1, .int (iI r)), (2, .int (iI (M 77 10 * M 77 10))), (3, .int (iI (p2 + 1))), (4, .int (iI h)), (5, .int (iI k))]) rfl (Nat.le_of_ble_eq_true rfl) dX12_image_141 rfl ?_
                          exact L144 (p2 + 1) (stM T2 80 (p2).toNat (M 98 (8 * h + k).toNat)) (by rw [hst]; first | (rw [if_pos (by omega)]; done) | (rw [if_neg (by omega)]; done)) (by rw [hst]; first | (rw [if_pos (by omega)]; done) | (rw [if_neg (by omega)]; done))
                  exact L106 _ 0 p T (by first | assumption | omega) (by rfl) (by rfl) (Nat.le_refl _)
            exact L94 _ 0 ((60 * r) + (M 77 10)) (xi1 M r i) (by first | assumption | omega) (by rw [show i = 60 by omega]; rfl) (by rfl) (Nat.le_refl _)
          · skip
            have L74 : ∀ (v : Int), (v = if i < M 77 10 then M 97 i.toNat else 0) → G X 74 [(0, .ref 77), (1, .int (iI r)), (2, .int (iI (M 77 10 * M 77 10))), (3, .int (iI i))] [.int (iI v), .int (iI (60 * r + i)), .ref 80] (xi1 M r i) := by
              intro v hv
              refine g_iast cx (pc2 := 75) (k0 := 80) rfl (lt_lit hn (Nat.le_of_ble_eq_true rfl)) (by first | assumption | omega) (by first | assumption | omega) (Nat.le_of_ble_eq_true rfl) dX12_image_74 rfl ?_
              refine g_iinc cx (pc2 := 78) 3 rfl (lv2 := [(0, .ref 77), (1, .int (iI r)), (2, .int (iI (M 77 10 * M 77 10))), (3, .int (iI (i + 1)))]) rfl (Nat.le_of_ble_eq_true rfl) dX12_image_75 rfl ?_
              refine g_goto cx (tgt := 40) dX12_image_78 (by decide) ?_
              refine g_M (M2 := (xi1 M r (i + 1))) (by exact xi1_s (by omega) (by omega) hv) ?_
              exact ih40 ((60 - (i + 1)).toNat) (by omega) (i + 1) (by first | assumption | omega) (Nat.le_refl _)
            refine g_aload_n cx (pc2 := 47) 0 rfl dX12_image_46 rfl ?_
            refine g_get cx (pc2 := 50) (ci := 12) (k0 := 77) (j := 6) (v := .ref 80) rfl iwX12 rfl (lt_lit hn (Nat.le_of_ble_eq_true rfl)) rfl (Nat.le_of_ble_eq_true rfl) kf_X12_16 rfl rfl dX12_image_47 rfl ?_
            refine g_bipush cx (pc2 := 52) ⟨by decide, by decide⟩ dX12_image_50 rfl ?_
            refine g_iload_n cx (pc2 := 53) 1 rfl dX12_image_52 rfl ?_
            refine g_imul cx (pc2 := 54) dX12_image_53 rfl ?_
            refine g_iload_n cx (pc2 := 55) 3 rfl dX12_image_54 rfl ?_
            refine g_iadd cx (pc2 := 56) dX12_image_55 rfl ?_
            refine g_iload_n cx (pc2 := 57) 3 rfl dX12_image_56 rfl ?_
            refine g_aload_n cx (pc2 := 58) 0 rfl dX12_image_57 rfl ?_
            refine g_get cx (pc2 := 61) (ci := 12) (k0 := 77) (j := 10) (v := .int (iI ((xi1 M r i) 77 10))) rfl iwX12 rfl (lt_lit hn (Nat.le_of_ble_eq_true rfl)) rfl (Nat.le_of_ble_eq_true rfl) kf_X12_165 rfl rfl dX12_image_58 rfl ?_
            refine g_rwi (y := iI (M 77 10)) (congrArg iI (by rw [e1])) ?_
            refine g_icmp_ge cx (pc2 := 64) (tgt := 73) ⟨(by first | assumption | omega), (by first | assumption | omega)⟩ dX12_image_61 (by decide) rfl (fun h_7 => ?_) (fun h_7 => ?_)
            · skip
              refine g_iconst cx (pc2 := 74) dX12_image_73 rfl ?_
              exact L74 0 (by first | (rw [if_pos (by omega)]; done) | (rw [if_neg (by omega)]; done))
            · skip
              refine g_aload_n cx (pc2 := 65) 0 rfl dX12_image_64 rfl ?_
              refine g_get cx (pc2 := 68) (ci := 12) (k0 := 77) (j := 33) (v := .ref 97) rfl iwX12 rfl (lt_lit hn (Nat.le_of_ble_eq_true rfl)) rfl (Nat.le_of_ble_eq_true rfl) kf_X12_68 rfl rfl dX12_image_65 rfl ?_
              refine g_iload_n cx (pc2 := 69) 3 rfl dX12_image_68 rfl ?_
              refine g_iald cx (pc2 := 70) (k0 := 97) rfl (lt_lit hn (Nat.le_of_ble_eq_true rfl)) (by first | assumption | omega) (by first | assumption | omega) (Nat.le_of_ble_eq_true rfl) dX12_image_69 rfl ?_
              refine g_rwi (y := iI ((xi1 M r i) 97 ((i).toNat))) (congrArg iI (by simp [stM])) ?_
              refine g_rwi (y := iI (M 97 i.toNat)) (congrArg iI (by rw [e9])) ?_
              refine g_goto cx (tgt := 74) dX12_image_70 (by decide) ?_
              exact L74 (M 97 i.toNat) (by first | (rw [if_pos (by omega)]; done) | (rw [if_neg (by omega)]; done))
      exact L40 _ 0 (by first | assumption | omega) (Nat.le_refl _)
    · skip
      refine g_bipush cx (pc2 := 20) ⟨by decide, by decide⟩ dX12_image_18 rfl ?_
      exact g_iret cx qx dX12_image_20 ⟨congrArg (fun q => some (Value.int (iI q))) (by unfold ximA; (repeat (first | rw [if_pos (by first | assumption | omega)] | rw [if_neg (by first | assumption | exact not_not_intro (by assumption) | omega)])); first | done | rfl | (symm; assumption)), by unfold ximM; (repeat (first | rw [if_pos (by first | assumption | omega)] | rw [if_neg (by first | assumption | exact not_not_intro (by assumption) | omega)])); first | done | rfl | (symm; assumption)⟩
  · skip
    refine g_iconst cx (pc2 := 8) dX12_image_7 rfl ?_
    exact g_iret cx qx dX12_image_8 ⟨congrArg (fun q => some (Value.int (iI q))) (by unfold ximA; (repeat (first | rw [if_pos (by first | assumption | omega)] | rw [if_neg (by first | assumption | exact not_not_intro (by assumption) | omega)])); first | done | rfl | (symm; assumption)), by unfold ximM; (repeat (first | rw [if_pos (by first | assumption | omega)] | rw [if_neg (by first | assumption | exact not_not_intro (by assumption) | omega)])); first | done | rfl | (symm; assumption)⟩
