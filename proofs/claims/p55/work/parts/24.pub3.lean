theorem aL_off {M M2 : Mm} (h : M2 23 = M 23) : ((allN (M2 23 4) : Nat) : Int) = ((allN (M 23 4) : Nat) : Int) := by rw [h]
theorem aL_255 {M : Mm} (h : LW M 23) : allN (M 23 4) ≤ 255 := bsum_255 _ (by omega)
theorem bitsK_255 {M : Mm} (h : LW M 23) (k : Int) : bitsK M k ≤ 255 := bsum_255 _ (by omega)
theorem bsum_congr {p q : Nat → Bool} : ∀ {n : Nat}, (∀ i, i < n → p i = q i) → bsum p n = bsum q n
  | 0, _ => rfl
  | n + 1, h => by rw [bsum, bsum, bsum_congr (fun i hi => h i (by omega)), h n (by omega)]
theorem bitsK_off {M M2 : Mm} (hl : LW M 23) (h23 : M2 23 = M 23) (h : ∀ a, 27 ≤ a → a ≤ 34 → M2 a = M a) (k : Int) : bitsK M2 k = bitsK M k := by
  unfold bitsK
  rw [h23]
  refine bsum_congr (fun i hi => ?_)
  unfold kdB
  rw [h (27 + i) (by omega) (by omega)]
theorem bK_off {M M2 : Mm} (hl : LW M 23) (h23 : M2 23 = M 23) (h : ∀ a, 27 ≤ a → a ≤ 34 → M2 a = M a) (k : Int) : ((bitsK M2 k : Nat) : Int) = ((bitsK M k : Nat) : Int) := by rw [bitsK_off hl h23 h k]
theorem plc_off {M M2 : Mm} (h23 : M2 23 = M 23) (h24 : M2 24 = M 24) (h : Int) : plc M2 23 h = plc M 23 h := by
  show (if 0 ≤ h ∧ h < M2 23 3 then M2 24 h.toNat else 0) = (if 0 ≤ h ∧ h < M 23 3 then M 24 h.toNat else 0)
  rw [h23, h24]
theorem bpF_v (M : Mm) (al du : Nat) : ∀ k : Nat, (bpF M al du k).1 = -9 ∨ (0 ≤ (bpF M al du k).1 ∧ (bpF M al du k).1 < (k : Int))
  | 0 => Or.inl rfl
  | k + 1 => by
    have h := bpF_v M al du k
    rw [bpF]
    split
    · right; exact ⟨by simp only []; omega, by simp only []; omega⟩
    · omega
theorem bpM_v (M : Mm) (al du : Int) : bpM M al du = -9 ∨ (0 ≤ bpM M al du ∧ bpM M al du ≤ 255) := by
  have h := bpF_v M al.toNat du.toNat 256
  unfold bpM
  omega
theorem CI.gf {M : Mm} (h : CI M) {w : Int} : CI (gfA M w) := h.ld.rc h.sp (Or.inr (by omega))
theorem CI.fr0 {M M2 : Mm} (h : CI M) (hf : ∀ a, 3 ≤ a → a ≤ 75 → M2 a = M a) : CI M2 := by
  refine ⟨⟨?_, NDA_of2 (fun a h1 h2 => hf a (by omega) (by omega)) h.nd, ?_, ?_⟩, ⟨JW_of (fun a _ _ => hf a (by omega) (by omega)) h.j, PW_fr (fun a _ _ => hf a (by omega) (by omega)) h.p, WW_fr (fun a _ _ => hf a (by omega) (by omega)) h.w, CW_fr (fun a _ _ => hf a (by omega) (by omega)) h.c⟩, ?_, ⟨?_, ?_⟩, ?_, ?_⟩
  · unfold LW; rw [hf 23 (by decide) (by decide)]; exact h.l
  · intro j; rw [hf 24 (by decide) (by decide)]; exact h.pl j
  · rw [hf 23 (by decide) (by decide)]; exact h.st
  · unfold DLW; rw [hf 63 (by decide) (by decide), hf 66 (by decide) (by decide), hf 67 (by decide) (by decide), hf 68 (by decide) (by decide), hf 69 (by decide) (by decide)]; exact h.d
  · intro o ho; rw [hf o (by omega) (by omega), hf (o + 1) (by omega) (by omega)]; exact h.rw o ho
  · intro o ho h15; rw [hf (o + 1) (by omega) (by omega)]; exact h.tw o ho h15
  · unfold PRW; rw [hf 70 (by decide) (by decide), hf 71 (by decide) (by decide), hf 72 (by decide) (by decide)]; exact h.p70
  · unfold PRW; rw [hf 73 (by decide) (by decide), hf 74 (by decide) (by decide), hf 75 (by decide) (by decide)]; exact h.p73
/-- the sets that can be met, and the greatest worth of these -/
def stF (T : Mm) : Nat → Int × Int
  | 0 => (0, 0)
  | k + 1 => if T 59 k = -9 then stF T k else ((stF T k).1 + 1, max (stF T k).2 (wsM T (k : Int)))
theorem stF_b {T : Mm} (hJ : JW T) : ∀ k : Nat, (0 ≤ (stF T k).1 ∧ (stF T k).1 ≤ (k : Int)) ∧ (0 ≤ (stF T k).2 ∧ (stF T k).2 ≤ 144)
  | 0 => by simp [stF]
  | k + 1 => by
    have h1 := stF_b hJ k
    have h2 := wsM_b hJ (k : Int)
    rw [stF]
    split
    · omega
    · simp only []; omega
def canA (M : Mm) (w : Int) : Int := if ¬ (0 ≤ w ∧ w ≤ ((allN (M 23 4) : Nat) : Int)) then -1 else gfA M w 59 w.toNat
def canM (M : Mm) (w : Int) : Mm := if ¬ (0 ≤ w ∧ w ≤ ((allN (M 23 4) : Nat) : Int)) then M else gfA M w
def setsM (M : Mm) : Mm := tdM (gfA M ((allN (M 23 4) : Nat) : Int)) (stF (gfA M ((allN (M 23 4) : Nat) : Int)) (allN (M 23 4) + 1)).2
def bstA (M : Mm) : Int := bpM (gfA M ((allN (M 23 4) : Nat) : Int)) ((allN (M 23 4) : Nat) : Int) ((bitsK M 1 : Nat) : Int)
def bstM (M : Mm) : Mm := if bstA M = -9 then (gfA M ((allN (M 23 4) : Nat) : Int)) else tdM (gfA M ((allN (M 23 4) : Nat) : Int)) (wsM (gfA M ((allN (M 23 4) : Nat) : Int)) (bstA M))
def gfX (M : Mm) (w : Int) : Mm := if gfA M w 59 w.toNat = -9 then gfA M w else (gfO M w).1
theorem CI.gx {M : Mm} (h : CI M) {w : Int} (hw : 0 ≤ w ∧ w ≤ 255) : CI (gfX M w) := by
  unfold gfX
  split
  · exact h.gf
  · exact (goO_W (h.gf.bg h.sp) hw 8).1
def fstA (M : Mm) (w r : Int) : Int := if ¬ R6 r ∨ ¬ (0 ≤ w ∧ w ≤ ((allN (M 23 4) : Nat) : Int)) then -1 else if ¬ (¬ gfA M w 59 w.toNat = -9 ∧ (gfO M w).2 = 0) then -9 else 1
def fstM (M : Mm) (w r : Int) : Mm := if ¬ R6 r ∨ ¬ (0 ≤ w ∧ w ≤ ((allN (M 23 4) : Nat) : Int)) then M else if ¬ (¬ gfA M w 59 w.toNat = -9 ∧ (gfO M w).2 = 0) then gfX M w else twM (gfX M w) (3 + 2 * r.toNat)
def wio1 (M : Mm) (i : Int) : Int := bpM (gfA M ((allN (M 23 4) : Nat) : Int)) ((ndN (allN (M 23 4)) (bitN i) : Nat) : Int) ((ndN (bitsK M 1) (bitN i) : Nat) : Int)
def cosA (M : Mm) (i : Int) : Int := if ¬ NS M i then -1 else if bstA M = -9 ∨ wio1 M i = -9 then -9 else wsM (gfA M ((allN (M 23 4) : Nat) : Int)) (wio1 M i) - wsM (gfA M ((allN (M 23 4) : Nat) : Int)) ((ndN (bstA M).toNat (bitN i) : Nat) : Int)
def cosM (M : Mm) (i : Int) : Mm := if ¬ NS M i then M else (gfA M ((allN (M 23 4) : Nat) : Int))
theorem okW_in {M : Mm} {i : Int} (ho : okW M i) : 0 ≤ i ∧ i < M 48 5 := by
  have := ho.1
  unfold endJ at this
  by_cases h : 0 ≤ i ∧ i < M 48 5
  · exact h
  · rw [if_neg h] at this
    exact absurd rfl this
theorem WS_me {M : Mm} (hJ : JW M) (hw : WW M) {i : Int} (ho : okW M i) (hS : WS M) : WS (meM M i) := by
  have hb := endJ_b hJ (i := i) (p := M 54 4) (f := M 54 5) hw.2.1 hw.2.2.1.1
  have hi := okW_in ho
  have hj := hJ.1
  have hw1 := hw.1
  have h9 := ho.1
  intro j hj
  have hsz : meM M i 54 3 = M 54 3 + 1 := rfl
  rw [hsz] at hj
  have e5 : meM M i 48 5 = M 48 5 := by rw [meM_off M i (by omega)]
  have e52 : meM M i 52 = M 52 := meM_off M i (by omega)
  have e55 : meM M i 55 j = if j = (M 54 3).toNat then i else M 55 j := by
    unfold meM
    rw [stM_off (by omega), stM_off (by omega), stM_off (by omega), stM_off (by omega)]
    by_cases q : j = (M 54 3).toNat
    · rw [if_pos q, q, stM_at]
    · rw [if_neg q, stM_ne _ _ (Or.inr q)]
  have e56 : meM M i 56 j = if j = (M 54 3).toNat then endJ M i (M 54 4) (M 54 5) - lnJ M i else M 56 j := by
    unfold meM
    rw [stM_off (by omega), stM_off (by omega), stM_off (by omega)]
    by_cases q : j = (M 54 3).toNat
    · rw [if_pos q, q, stM_at]
    · rw [if_neg q, stM_ne _ _ (Or.inr q), stM_off (by omega)]
  rw [e5, e52, e55, e56]
  by_cases q : j = (M 54 3).toNat
  · rw [if_pos q, if_pos q]
    have el : lnJ M i = M 52 i.toNat := by unfold lnJ; rw [if_pos hi]
    rw [el]
    exact ⟨hi, by omega⟩
  · rw [if_neg q, if_neg q]
    exact hS j (by omega)
theorem WS_fr {M M2 : Mm} (hf : ∀ a, a = 48 ∨ (52 ≤ a ∧ a ≤ 56) → M2 a = M a) (h : WS M) : WS M2 := by
  intro j hj
  rw [hf 54 (by omega)] at hj
  rw [hf 48 (by omega), hf 52 (by omega), hf 55 (by omega), hf 56 (by omega)]
  exact h j hj
theorem giS_S {T : Mm} (h : CI T) {r i : Int} (hr : 0 ≤ r ∧ r ≤ 255) (hS : WS T) : WS (giS T r i).1 := by
  have h1 := ndN_le r.toNat (bitN i)
  unfold giS
  split
  · exact hS
  · rename_i hq
    have hE := endJ_b h.j (i := i) (p := T 54 4) (f := T 54 5) h.w.2.1 h.w.2.2.1.1
    have hpl := plJ_b h.j i
    have hc := h.rc (w := ((ndN r.toNat (bitN i) : Nat) : Int)) hpl (f := endJ T i (T 54 4) (T 54 5)) (by omega)
    have hS2 : WS (rcM T ((ndN r.toNat (bitN i) : Nat) : Int) (plJ T i) (endJ T i (T 54 4) (T 54 5))) := WS_fr (fun a ha => rcM_off _ _ _ _ (by omega) (by omega)) hS
    split
    · rename_i hz
      exact WS_me hc.j hc.w hz.2 hS2
    · exact hS2
theorem giF_S {T : Mm} (h : CI T) {r : Int} (hr : 0 ≤ r ∧ r ≤ 255) (hS : WS T) : ∀ k, WS (giF T r k).1
  | 0 => hS
  | k + 1 => by
    rw [giF]
    split
    · exact giS_S (giF_W h hr k).1 hr (giF_S h hr hS k)
    · exact giF_S h hr hS k
theorem goO_S {T : Mm} (h : CI T) {w : Int} (hw : 0 ≤ w ∧ w ≤ 255) (hS : WS T) : ∀ k, WS (goO T w k).1
  | 0 => hS
  | k + 1 => by
    rw [goO]
    split
    · exact goO_S h hw hS k
    · exact giF_S (goO_W h hw k).1 (goO_W h hw k).2 (goO_S h hw hS k) 8
theorem gfX_S {M : Mm} (h : CI M) {w : Int} (hw : 0 ≤ w ∧ w ≤ 255) (h9 : ¬ gfA M w 59 w.toNat = -9) : WS (gfX M w) := by
  unfold gfX
  rw [if_neg h9]
  refine goO_S (h.gf.bg h.sp) hw ?_ 8
  intro j hj
  have e : bgM (gfA M w) (stp M) 54 3 = 0 := rfl
  rw [e] at hj
  omega
def worA (M : Mm) (w : Int) : Int := if ¬ (0 ≤ w ∧ w ≤ ((allN (M 23 4) : Nat) : Int)) then -1 else if ¬ (¬ gfA M w 59 w.toNat = -9 ∧ (gfO M w).2 = 0) then -9 else ((wwF (gfX M w) (gfX M w 54 3).toNat : Nat) : Int)
def worM (M : Mm) (w : Int) : Mm := if ¬ (0 ≤ w ∧ w ≤ ((allN (M 23 4) : Nat) : Int)) then M else gfX M w
set_option maxHeartbeats 4000000 in
set_option maxRecDepth 100000 in
theorem c_X11_can {n : Nat} (hn : NN n) {M : Mm} (hci : CI M) (w : Int) (hs : ir w) : CT yX11_can cX11_can 2 (some .int) ({ frames := 6, cells := 0, slots := 0, locals := 145 }) n [.ref 0, .int (iI w)] M (rI (canA M w) (canM M w)) := by
  refine CT.of (lv0 := [(0, .ref 0), (1, .int (iI w))]) (by decide +kernel) hn (fun _ => rfl) (fun _ => Nat.le_of_ble_eq_true rfl) (fun X cx cs qx => ?_)
  have cx : Cx X cX11_can RX11 ({ frames := 6, cells := 0, slots := 0, locals := 145 }) 2 n := cx
  have hl := hci.l
  have hAb := aL_255 hl
  have hMb := bitsK_255 hl 1
  have hLb := bitsK_255 hl 2
  refine g_aload_n cx (pc2 := 1) 0 rfl dX11_can_0 rfl ?_
  refine g_get cx (pc2 := 4) (ci := 11) (k0 := 0) (j := 2) (v := .ref 23) rfl iwX11 rfl (lt_lit hn (Nat.le_of_ble_eq_true rfl)) rfl (Nat.le_of_ble_eq_true rfl) kf_X11_21 rfl rfl dX11_can_1 rfl ?_
  refine g_iload_n cx (pc2 := 5) 1 rfl dX11_can_4 rfl ?_
  refine g_callV cx (pc2 := 8) (st := []) (As := [.int (iI w)]) (k0 := 23) (ci := 2) (c_X2_isSet (M := M) hn (by first | assumption | exact hci.l) w (by first | assumption | omega)) wM_X2_isSet wV_X2_isSet kl_X11_224 rfl (lt_lit hn (Nat.le_of_ble_eq_true rfl)) rfl ⟨rfl, rfl, Nat.le_of_ble_eq_true rfl, Nat.le_of_ble_eq_true rfl⟩ (Nat.le_of_ble_eq_true rfl) cs rfl rfl dX11_can_5 rfl ?_
  rintro _ _ ⟨rfl, rfl⟩
  refine g_ifb_ne cx (pc2 := 11) (tgt := 13) dX11_can_8 (by decide) rfl (fun h_1 => ?_) (fun h_1 => ?_)
  · skip
    refine g_aload_n cx (pc2 := 14) 0 rfl dX11_can_13 rfl ?_
    refine g_iload_n cx (pc2 := 15) 1 rfl dX11_can_14 rfl ?_
    refine g_callV cx (pc2 := 18) (st := []) (As := [.int (iI w)]) (k0 := 0) (ci := 11) (c_X11_reachFromStart (M := M) hn (by first | assumption | omega) w (by first | assumption | omega)) wM_X11_reachFromStart wV_X11_reachFromStart kl_X11_227 rfl (lt_lit hn (Nat.le_of_ble_eq_true rfl)) rfl ⟨rfl, rfl, Nat.le_of_ble_eq_true rfl, Nat.le_of_ble_eq_true rfl⟩ (Nat.le_of_ble_eq_true rfl) cs rfl rfl dX11_can_15 rfl ?_
    rintro _ _ ⟨rfl, rfl⟩
    refine g_M (M2 := (gfA M w)) (by rfl) ?_
    refine g_aload_n cx (pc2 := 19) 0 rfl dX11_can_18 rfl ?_
    refine g_get cx (pc2 := 22) (ci := 11) (k0 := 0) (j := 7) (v := .ref 57) rfl iwX11 rfl (lt_lit hn (Nat.le_of_ble_eq_true rfl)) rfl (Nat.le_of_ble_eq_true rfl) kf_X11_54 rfl rfl dX11_can_19 rfl ?_
    refine g_iload_n cx (pc2 := 23) 1 rfl dX11_can_22 rfl ?_
    refine g_callV cx (pc2 := 26) (st := []) (As := [.int (iI w)]) (k0 := 57) (ci := 6) (c_X6_endOf (M := (gfA M w)) hn w (by first | assumption | omega)) wM_X6_endOf wV_X6_endOf kl_X11_230 rfl (lt_lit hn (Nat.le_of_ble_eq_true rfl)) rfl ⟨rfl, rfl, Nat.le_of_ble_eq_true rfl, Nat.le_of_ble_eq_true rfl⟩ (Nat.le_of_ble_eq_true rfl) cs rfl rfl dX11_can_23 rfl ?_
    rintro _ _ ⟨rfl, rfl⟩
    refine g_rwi (y := iI (gfA M w 59 w.toNat)) (congrArg iI (if_pos (by omega))) ?_
    exact g_iret cx qx dX11_can_26 ⟨congrArg (fun q => some (Value.int (iI q))) (by unfold canA; (repeat (first | rw [if_pos (by first | assumption | omega)] | rw [if_neg (by first | assumption | exact not_not_intro (by assumption) | omega)])); first | done | rfl), by unfold canM; (repeat (first | rw [if_pos (by first | assumption | omega)] | rw [if_neg (by first | assumption | exact not_not_intro (by assumption) | omega)])); first | done | rfl⟩
  · skip
    refine g_iconst cx (pc2 := 12) dX11_can_11 rfl ?_
    exact g_iret cx qx dX11_can_12 ⟨congrArg (fun q => some (Value.int (iI q))) (by unfold canA; (repeat (first | rw [if_pos (by first | assumption | omega)] | rw [if_neg (by first | assumption | exact not_not_intro (by assumption) | omega)])); first | done | rfl), by unfold canM; (repeat (first | rw [if_pos (by first | assumption | omega)] | rw [if_neg (by first | assumption | exact not_not_intro (by assumption) | omega)])); first | done | rfl⟩
set_option maxHeartbeats 4000000 in
set_option maxRecDepth 100000 in
theorem c_X11_sets {n : Nat} (hn : NN n) {M : Mm} (hci : CI M) : CT yX11_sets cX11_sets 4 (some .int) ({ frames := 6, cells := 0, slots := 0, locals := 145 }) n [.ref 0] M (rI ((stF (gfA M ((allN (M 23 4) : Nat) : Int)) (allN (M 23 4) + 1)).1) (setsM M)) := by
  refine CT.of (lv0 := [(0, .ref 0)]) (by decide +kernel) hn (fun _ => rfl) (fun _ => Nat.le_of_ble_eq_true rfl) (fun X cx cs qx => ?_)
  have cx : Cx X cX11_sets RX11 ({ frames := 6, cells := 0, slots := 0, locals := 145 }) 4 n := cx
  have hl := hci.l
  have hAb := aL_255 hl
  have hMb := bitsK_255 hl 1
  have hLb := bitsK_255 hl 2
  have hcG : CI (gfA M ((allN (M 23 4) : Nat) : Int)) := hci.gf
  have eAL : ((allN ((gfA M ((allN (M 23 4) : Nat) : Int)) 23 4) : Nat) : Int) = ((allN (M 23 4) : Nat) : Int) := aL_off (gfA_off M _ (by omega))
  have eMB : ((bitsK (gfA M ((allN (M 23 4) : Nat) : Int)) 1 : Nat) : Int) = ((bitsK M 1 : Nat) : Int) := bK_off hl (gfA_off M _ (by omega)) (fun a _ _ => gfA_off M _ (by omega)) 1
  refine g_aload_n cx (pc2 := 1) 0 rfl dX11_sets_0 rfl ?_
  refine g_aload_n cx (pc2 := 2) 0 rfl dX11_sets_1 rfl ?_
  refine g_get cx (pc2 := 5) (ci := 11) (k0 := 0) (j := 2) (v := .ref 23) rfl iwX11 rfl (lt_lit hn (Nat.le_of_ble_eq_true rfl)) rfl (Nat.le_of_ble_eq_true rfl) kf_X11_21 rfl rfl dX11_sets_2 rfl ?_
  refine g_callV cx (pc2 := 8) (st := [.ref 0]) (As := []) (k0 := 23) (ci := 2) (c_X2_allNeeds (M := M) hn (by exact hci.l)) wM_X2_allNeeds wV_X2_allNeeds kl_X11_233 rfl (lt_lit hn (Nat.le_of_ble_eq_true rfl)) rfl ⟨rfl, rfl, Nat.le_of_ble_eq_true rfl, Nat.le_of_ble_eq_true rfl⟩ (Nat.le_of_ble_eq_true rfl) cs rfl rfl dX11_sets_5 rfl ?_
  rintro _ _ ⟨rfl, rfl⟩
  refine g_callV cx (pc2 := 11) (st := []) (As := [.int (iI ((allN (M 23 4) : Nat) : Int))]) (k0 := 0) (ci := 11) (c_X11_reachFromStart (M := M) hn (by exact hci) ((allN (M 23 4) : Nat) : Int) (by first | omega | exact hcG.w)) wM_X11_reachFromStart wV_X11_reachFromStart kl_X11_227 rfl (lt_lit hn (Nat.le_of_ble_eq_true rfl)) rfl ⟨rfl, rfl, Nat.le_of_ble_eq_true rfl, Nat.le_of_ble_eq_true rfl⟩ (Nat.le_of_ble_eq_true rfl) cs rfl rfl dX11_sets_8 rfl ?_
  rintro _ _ ⟨rfl, rfl⟩
  refine g_M (M2 := (gfA M ((allN (M 23 4) : Nat) : Int))) (by rfl) ?_
  refine g_iconst cx (pc2 := 12) dX11_sets_11 rfl ?_
  refine g_istore_n cx (pc2 := 13) (lv2 := [(0, .ref 0), (1, .int (iI 0))]) rfl (Nat.le_of_ble_eq_true rfl) dX11_sets_12 rfl ?_
  refine g_iconst cx (pc2 := 14) dX11_sets_13 rfl ?_
  refine g_istore_n cx (pc2 := 15) (lv2 := [(0, .ref 0), (1, .int (iI 0)), (2, .int (iI 0))]) rfl (Nat.le_of_ble_eq_true rfl) dX11_sets_14 rfl ?_
  refine g_iconst cx (pc2 := 16) dX11_sets_15 rfl ?_
  refine g_istore_n cx (pc2 := 17) (lv2 := [(0, .ref 0), (1, .int (iI 0)), (2, .int (iI 0)), (3, .int (iI 0))]) rfl (Nat.le_of_ble_eq_true rfl) dX11_sets_16 rfl ?_
  have L17 : ∀ (fu : Nat) (k : Int) (y : Int) (z : Int), (0 ≤ k ∧ k ≤ ((allN (M 23 4) : Nat) : Int) + 1) → (y = (stF (gfA M ((allN (M 23 4) : Nat) : Int)) k.toNat).1 ∧ z = (stF (gfA M ((allN (M 23 4) : Nat) : Int)) k.toNat).2) → (((allN (M 23 4) : Nat) : Int) + 1 - k).toNat ≤ fu → G X 17 [(0, .ref 0), (1, .int (iI y)), (2, .int (iI z)), (3, .int (iI k))] [] (gfA M ((allN (M 23 4) : Nat) : Int)) := by
    intro fu
    induction fu using Nat.strongRecOn with
    | _ fu ih17 =>
      intro k y z hk hyz hk17
      have hb1 := stF_b hcG.j k.toNat
      have hb2 := wsM_b hcG.j k
      have hE := (hcG.p k.toNat).2.1
      have hst : stF (gfA M ((allN (M 23 4) : Nat) : Int)) (k + 1).toNat = if (gfA M ((allN (M 23 4) : Nat) : Int)) 59 k.toNat = -9 then stF (gfA M ((allN (M 23 4) : Nat) : Int)) k.toNat else (y + 1, max z (wsM (gfA M ((allN (M 23 4) : Nat) : Int)) k)) := by rw [show (k + 1).toNat = k.toNat + 1 by omega, stF, Int.toNat_of_nonneg hk.1, ← hyz.1, ← hyz.2]
      refine g_iload_n cx (pc2 := 18) 3 rfl dX11_sets_17 rfl ?_
      refine g_aload_n cx (pc2 := 19) 0 rfl dX11_sets_18 rfl ?_
      refine g_get cx (pc2 := 22) (ci := 11) (k0 := 0) (j := 2) (v := .ref 23) rfl iwX11 rfl (lt_lit hn (Nat.le_of_ble_eq_true rfl)) rfl (Nat.le_of_ble_eq_true rfl) kf_X11_21 rfl rfl dX11_sets_19 rfl ?_
      refine g_callV cx (pc2 := 25) (st := [.int (iI k)]) (As := []) (k0 := 23) (ci := 2) (c_X2_allNeeds (M := (gfA M ((allN (M 23 4) : Nat) : Int))) hn (by first | assumption | exact hcG.l)) wM_X2_allNeeds wV_X2_allNeeds kl_X11_233 rfl (lt_lit hn (Nat.le_of_ble_eq_true rfl)) rfl ⟨rfl, rfl, Nat.le_of_ble_eq_true rfl, Nat.le_of_ble_eq_true rfl⟩ (Nat.le_of_ble_eq_true rfl) cs rfl rfl dX11_sets_22 rfl ?_
      rintro _ _ ⟨rfl, rfl⟩
      refine g_rwi (y := iI ((allN (M 23 4) : Nat) : Int)) (congrArg iI eAL) ?_
      refine g_icmp_gt cx (pc2 := 28) (tgt := 63) ⟨(by first | assumption | omega), (by first | assumption | omega)⟩ dX11_sets_25 (by decide) rfl (fun h_1 => ?_) (fun h_1 => ?_)
      · skip
        refine g_aload_n cx (pc2 := 64) 0 rfl dX11_sets_63 rfl ?_
        refine g_iload_n cx (pc2 := 65) 2 rfl dX11_sets_64 rfl ?_
        refine g_puti cx (pc2 := 68) (ci := 11) (k0 := 0) (j := 15) rfl iwX11 rfl (lt_lit hn (Nat.le_of_ble_eq_true rfl)) rfl (Nat.le_of_ble_eq_true rfl) kf_X11_98 rfl tyX11_ok nmX11 rfl rfl dX11_sets_65 rfl ?_
        refine g_iload_n cx (pc2 := 69) 1 rfl dX11_sets_68 rfl ?_
        exact g_iret cx qx dX11_sets_69 ⟨congrArg (fun q => some (Value.int (iI q))) (by rw [hyz.1, show k.toNat = allN (M 23 4) + 1 by omega]), by unfold setsM; rw [hyz.2, show k.toNat = allN (M 23 4) + 1 by omega]; rfl⟩
      · skip
        refine g_aload_n cx (pc2 := 29) 0 rfl dX11_sets_28 rfl ?_
        refine g_get cx (pc2 := 32) (ci := 11) (k0 := 0) (j := 7) (v := .ref 57) rfl iwX11 rfl (lt_lit hn (Nat.le_of_ble_eq_true rfl)) rfl (Nat.le_of_ble_eq_true rfl) kf_X11_54 rfl rfl dX11_sets_29 rfl ?_
        refine g_iload_n cx (pc2 := 33) 3 rfl dX11_sets_32 rfl ?_
        refine g_callV cx (pc2 := 36) (st := []) (As := [.int (iI k)]) (k0 := 57) (ci := 6) (c_X6_endOf (M := (gfA M ((allN (M 23 4) : Nat) : Int))) hn k (by first | assumption | omega)) wM_X6_endOf wV_X6_endOf kl_X11_230 rfl (lt_lit hn (Nat.le_of_ble_eq_true rfl)) rfl ⟨rfl, rfl, Nat.le_of_ble_eq_true rfl, Nat.le_of_ble_eq_true rfl⟩ (Nat.le_of_ble_eq_true rfl) cs rfl rfl dX11_sets_33 rfl ?_
        rintro _ _ ⟨rfl, rfl⟩
        refine g_rwi (y := iI ((gfA M ((allN (M 23 4) : Nat) : Int)) 59 k.toNat)) (congrArg iI (if_pos (by omega))) ?_
        have L57 : ∀ (y2 : Int) (z2 : Int), (y2 = (stF (gfA M ((allN (M 23 4) : Nat) : Int)) (k + 1).toNat).1 ∧ z2 = (stF (gfA M ((allN (M 23 4) : Nat) : Int)) (k + 1).toNat).2) → G X 57 [(0, .ref 0), (1, .int (iI y2)), (2, .int (iI z2)), (3, .int (iI k))] [] (gfA M ((allN (M 23 4) : Nat) : Int)) := by
          intro y2 z2 hyz2
          refine g_iinc cx (pc2 := 60) 3 rfl (lv2 := [(0, .ref 0), (1, .int (iI y2)), (2, .int (iI z2)), (3, .int (iI (k + 1)))]) rfl (Nat.le_of_ble_eq_true rfl) dX11_sets_57 rfl ?_
          refine g_goto cx (tgt := 17) dX11_sets_60 (by decide) ?_
          exact ih17 ((((allN (M 23 4) : Nat) : Int) + 1 - (k + 1)).toNat) (by omega) (k + 1) y2 z2 (by first | assumption | omega) (by exact hyz2) (Nat.le_refl _)
        refine g_bipush cx (pc2 := 38) ⟨by decide, by decide⟩ dX11_sets_36 rfl ?_
        refine g_icmp_eq cx (pc2 := 41) (tgt := 57) ⟨(by first | assumption | omega), ⟨by decide, by decide⟩⟩ dX11_sets_38 (by decide) rfl (fun h_2 => ?_) (fun h_2 => ?_)
        · skip
          exact L57 y z (by rw [hst]; first | (rw [if_pos (by assumption)]; exact hyz) | (rw [if_neg (by assumption)]; exact ⟨rfl, rfl⟩))
        · skip
          refine g_iinc cx (pc2 := 44) 1 rfl (lv2 := [(0, .ref 0), (1, .int (iI (y + 1))), (2, .int (iI z)), (3, .int (iI k))]) rfl (Nat.le_of_ble_eq_true rfl) dX11_sets_41 rfl ?_
          refine g_iload_n cx (pc2 := 45) 2 rfl dX11_sets_44 rfl ?_
          refine g_aload_n cx (pc2 := 46) 0 rfl dX11_sets_45 rfl ?_
          refine g_get cx (pc2 := 49) (ci := 11) (k0 := 0) (j := 5) (v := .ref 48) rfl iwX11 rfl (lt_lit hn (Nat.le_of_ble_eq_true rfl)) rfl (Nat.le_of_ble_eq_true rfl) kf_X11_38 rfl rfl dX11_sets_46 rfl ?_
          refine g_iload_n cx (pc2 := 50) 3 rfl dX11_sets_49 rfl ?_
          refine g_callV cx (pc2 := 53) (st := [.int (iI z)]) (As := [.int (iI k)]) (k0 := 48) (ci := 1) (c_X1_worthOf (M := (gfA M ((allN (M 23 4) : Nat) : Int))) hn (by exact hcG.j) k (by first | assumption | omega)) wM_X1_worthOf wV_X1_worthOf kl_X11_236 rfl (lt_lit hn (Nat.le_of_ble_eq_true rfl)) rfl ⟨rfl, rfl, Nat.le_of_ble_eq_true rfl, Nat.le_of_ble_eq_true rfl⟩ (Nat.le_of_ble_eq_true rfl) cs rfl rfl dX11_sets_50 rfl ?_
          rintro _ _ ⟨rfl, rfl⟩
          refine g_mmax cx (pc2 := 56) ⟨(by first | assumption | omega), (by first | assumption | omega)⟩ kl_X11_239 wJ_max ⟨Nat.le_of_ble_eq_true rfl, Nat.le_of_ble_eq_true rfl⟩ cs dX11_sets_53 rfl ?_
          refine g_istore_n cx (pc2 := 57) (lv2 := [(0, .ref 0), (1, .int (iI (y + 1))), (2, .int (iI (max z (wsM (gfA M ((allN (M 23 4) : Nat) : Int)) k)))), (3, .int (iI k))]) rfl (Nat.le_of_ble_eq_true rfl) dX11_sets_56 rfl ?_
          exact L57 (y + 1) (max z (wsM (gfA M ((allN (M 23 4) : Nat) : Int)) k)) (by rw [hst]; first | (rw [if_pos (by assumption)]; exact hyz) | (rw [if_neg (by assumption)]; exact ⟨rfl, rfl⟩))
  exact L17 _ 0 0 0 (by first | assumption | omega) (by exact ⟨rfl, rfl⟩) (Nat.le_refl _)
set_option maxHeartbeats 4000000 in
set_option maxRecDepth 100000 in
theorem c_X11_best {n : Nat} (hn : NN n) {M : Mm} (hci : CI M) : CT yX11_best cX11_best 2 (some .int) ({ frames := 6, cells := 0, slots := 0, locals := 145 }) n [.ref 0] M (rI (bstA M) (bstM M)) := by
  refine CT.of (lv0 := [(0, .ref 0)]) (by decide +kernel) hn (fun _ => rfl) (fun _ => Nat.le_of_ble_eq_true rfl) (fun X cx cs qx => ?_)
  have cx : Cx X cX11_best RX11 ({ frames := 6, cells := 0, slots := 0, locals := 145 }) 2 n := cx
  have hl := hci.l
  have hAb := aL_255 hl
  have hMb := bitsK_255 hl 1
  have hLb := bitsK_255 hl 2
  have hcG : CI (gfA M ((allN (M 23 4) : Nat) : Int)) := hci.gf
  have eAL : ((allN ((gfA M ((allN (M 23 4) : Nat) : Int)) 23 4) : Nat) : Int) = ((allN (M 23 4) : Nat) : Int) := aL_off (gfA_off M _ (by omega))
  have eMB : ((bitsK (gfA M ((allN (M 23 4) : Nat) : Int)) 1 : Nat) : Int) = ((bitsK M 1 : Nat) : Int) := bK_off hl (gfA_off M _ (by omega)) (fun a _ _ => gfA_off M _ (by omega)) 1
  have hbv := bpM_v (gfA M ((allN (M 23 4) : Nat) : Int)) ((allN (M 23 4) : Nat) : Int) ((bitsK M 1 : Nat) : Int)
  refine g_aload_n cx (pc2 := 1) 0 rfl dX11_best_0 rfl ?_
  refine g_aload_n cx (pc2 := 2) 0 rfl dX11_best_1 rfl ?_
  refine g_get cx (pc2 := 5) (ci := 11) (k0 := 0) (j := 2) (v := .ref 23) rfl iwX11 rfl (lt_lit hn (Nat.le_of_ble_eq_true rfl)) rfl (Nat.le_of_ble_eq_true rfl) kf_X11_21 rfl rfl dX11_best_2 rfl ?_
  refine g_callV cx (pc2 := 8) (st := [.ref 0]) (As := []) (k0 := 23) (ci := 2) (c_X2_allNeeds (M := M) hn (by exact hci.l)) wM_X2_allNeeds wV_X2_allNeeds kl_X11_233 rfl (lt_lit hn (Nat.le_of_ble_eq_true rfl)) rfl ⟨rfl, rfl, Nat.le_of_ble_eq_true rfl, Nat.le_of_ble_eq_true rfl⟩ (Nat.le_of_ble_eq_true rfl) cs rfl rfl dX11_best_5 rfl ?_
  rintro _ _ ⟨rfl, rfl⟩
  refine g_callV cx (pc2 := 11) (st := []) (As := [.int (iI ((allN (M 23 4) : Nat) : Int))]) (k0 := 0) (ci := 11) (c_X11_reachFromStart (M := M) hn (by exact hci) ((allN (M 23 4) : Nat) : Int) (by first | omega | exact hcG.w)) wM_X11_reachFromStart wV_X11_reachFromStart kl_X11_227 rfl (lt_lit hn (Nat.le_of_ble_eq_true rfl)) rfl ⟨rfl, rfl, Nat.le_of_ble_eq_true rfl, Nat.le_of_ble_eq_true rfl⟩ (Nat.le_of_ble_eq_true rfl) cs rfl rfl dX11_best_8 rfl ?_
  rintro _ _ ⟨rfl, rfl⟩
  refine g_M (M2 := (gfA M ((allN (M 23 4) : Nat) : Int))) (by rfl) ?_
  refine g_aload_n cx (pc2 := 12) 0 rfl dX11_best_11 rfl ?_
  refine g_get cx (pc2 := 15) (ci := 11) (k0 := 0) (j := 7) (v := .ref 57) rfl iwX11 rfl (lt_lit hn (Nat.le_of_ble_eq_true rfl)) rfl (Nat.le_of_ble_eq_true rfl) kf_X11_54 rfl rfl dX11_best_12 rfl ?_
  refine g_aload_n cx (pc2 := 16) 0 rfl dX11_best_15 rfl ?_
  refine g_get cx (pc2 := 19) (ci := 11) (k0 := 0) (j := 2) (v := .ref 23) rfl iwX11 rfl (lt_lit hn (Nat.le_of_ble_eq_true rfl)) rfl (Nat.le_of_ble_eq_true rfl) kf_X11_21 rfl rfl dX11_best_16 rfl ?_
  refine g_callV cx (pc2 := 22) (st := [.ref 57]) (As := []) (k0 := 23) (ci := 2) (c_X2_allNeeds (M := (gfA M ((allN (M 23 4) : Nat) : Int))) hn (by first | assumption | exact hcG.l)) wM_X2_allNeeds wV_X2_allNeeds kl_X11_233 rfl (lt_lit hn (Nat.le_of_ble_eq_true rfl)) rfl ⟨rfl, rfl, Nat.le_of_ble_eq_true rfl, Nat.le_of_ble_eq_true rfl⟩ (Nat.le_of_ble_eq_true rfl) cs rfl rfl dX11_best_19 rfl ?_
  rintro _ _ ⟨rfl, rfl⟩
  refine g_rwi (y := iI ((allN (M 23 4) : Nat) : Int)) (congrArg iI eAL) ?_
  refine g_aload_n cx (pc2 := 23) 0 rfl dX11_best_22 rfl ?_
  refine g_get cx (pc2 := 26) (ci := 11) (k0 := 0) (j := 2) (v := .ref 23) rfl iwX11 rfl (lt_lit hn (Nat.le_of_ble_eq_true rfl)) rfl (Nat.le_of_ble_eq_true rfl) kf_X11_21 rfl rfl dX11_best_23 rfl ?_
  refine g_callV cx (pc2 := 29) (st := [.int (iI ((allN (M 23 4) : Nat) : Int)), .ref 57]) (As := []) (k0 := 23) (ci := 2) (c_X2_mustBits (M := (gfA M ((allN (M 23 4) : Nat) : Int))) hn (by first | assumption | exact hcG.l) (by first | assumption | exact hcG.nd)) wM_X2_mustBits wV_X2_mustBits kl_X11_244 rfl (lt_lit hn (Nat.le_of_ble_eq_true rfl)) rfl ⟨rfl, rfl, Nat.le_of_ble_eq_true rfl, Nat.le_of_ble_eq_true rfl⟩ (Nat.le_of_ble_eq_true rfl) cs rfl rfl dX11_best_26 rfl ?_
  rintro _ _ ⟨rfl, rfl⟩
  refine g_rwi (y := iI ((bitsK M 1 : Nat) : Int)) (congrArg iI eMB) ?_
  refine g_callV cx (pc2 := 32) (st := []) (As := [.int (iI ((allN (M 23 4) : Nat) : Int)), .int (iI ((bitsK M 1 : Nat) : Int))]) (k0 := 57) (ci := 6) (c_X6_bestPlan (M := (gfA M ((allN (M 23 4) : Nat) : Int))) hn (by exact hcG.j) (by exact hcG.p) ((allN (M 23 4) : Nat) : Int) ((bitsK M 1 : Nat) : Int) (by first | assumption | omega) (by first | assumption | omega)) wM_X6_bestPlan wV_X6_bestPlan kl_X11_247 rfl (lt_lit hn (Nat.le_of_ble_eq_true rfl)) rfl ⟨rfl, rfl, Nat.le_of_ble_eq_true rfl, Nat.le_of_ble_eq_true rfl⟩ (Nat.le_of_ble_eq_true rfl) cs rfl rfl dX11_best_29 rfl ?_
  rintro _ _ ⟨rfl, rfl⟩
  refine g_istore_n cx (pc2 := 33) (lv2 := [(0, .ref 0), (1, .int (iI (bpM (gfA M ((allN (M 23 4) : Nat) : Int)) ((allN (M 23 4) : Nat) : Int) ((bitsK M 1 : Nat) : Int))))]) rfl (Nat.le_of_ble_eq_true rfl) dX11_best_32 rfl ?_
  refine g_iload_n cx (pc2 := 34) 1 rfl dX11_best_33 rfl ?_
  refine g_bipush cx (pc2 := 36) ⟨by decide, by decide⟩ dX11_best_34 rfl ?_
  refine g_icmp_ne cx (pc2 := 39) (tgt := 42) ⟨(by first | assumption | omega), ⟨by decide, by decide⟩⟩ dX11_best_36 (by decide) rfl (fun h_1 => ?_) (fun h_1 => ?_)
  · skip
    refine g_aload_n cx (pc2 := 43) 0 rfl dX11_best_42 rfl ?_
    refine g_aload_n cx (pc2 := 44) 0 rfl dX11_best_43 rfl ?_
    refine g_get cx (pc2 := 47) (ci := 11) (k0 := 0) (j := 5) (v := .ref 48) rfl iwX11 rfl (lt_lit hn (Nat.le_of_ble_eq_true rfl)) rfl (Nat.le_of_ble_eq_true rfl) kf_X11_38 rfl rfl dX11_best_44 rfl ?_
    refine g_iload_n cx (pc2 := 48) 1 rfl dX11_best_47 rfl ?_
    refine g_callV cx (pc2 := 51) (st := [.ref 0]) (As := [.int (iI (bpM (gfA M ((allN (M 23 4) : Nat) : Int)) ((allN (M 23 4) : Nat) : Int) ((bitsK M 1 : Nat) : Int)))]) (k0 := 48) (ci := 1) (c_X1_worthOf (M := (gfA M ((allN (M 23 4) : Nat) : Int))) hn (by exact hcG.j) (bpM (gfA M ((allN (M 23 4) : Nat) : Int)) ((allN (M 23 4) : Nat) : Int) ((bitsK M 1 : Nat) : Int)) (by first | assumption | omega)) wM_X1_worthOf wV_X1_worthOf kl_X11_236 rfl (lt_lit hn (Nat.le_of_ble_eq_true rfl)) rfl ⟨rfl, rfl, Nat.le_of_ble_eq_true rfl, Nat.le_of_ble_eq_true rfl⟩ (Nat.le_of_ble_eq_true rfl) cs rfl rfl dX11_best_48 rfl ?_
    rintro _ _ ⟨rfl, rfl⟩
    refine g_puti cx (pc2 := 54) (ci := 11) (k0 := 0) (j := 15) rfl iwX11 rfl (lt_lit hn (Nat.le_of_ble_eq_true rfl)) rfl (Nat.le_of_ble_eq_true rfl) kf_X11_98 rfl tyX11_ok nmX11 rfl rfl dX11_best_51 rfl ?_
    refine g_iload_n cx (pc2 := 55) 1 rfl dX11_best_54 rfl ?_
    exact g_iret cx qx dX11_best_55 ⟨congrArg (fun q => some (Value.int (iI q))) (by first | rfl | (unfold bstA; omega)), by unfold bstM bstA; first | (rw [if_pos (by assumption)]; done) | (rw [if_neg (by assumption)]; rfl)⟩
  · skip
    refine g_bipush cx (pc2 := 41) ⟨by decide, by decide⟩ dX11_best_39 rfl ?_
    exact g_iret cx qx dX11_best_41 ⟨congrArg (fun q => some (Value.int (iI q))) (by first | rfl | (unfold bstA; omega)), by unfold bstM bstA; first | (rw [if_pos (by assumption)]; done) | (rw [if_neg (by assumption)]; rfl)⟩
set_option maxHeartbeats 4000000 in
set_option maxRecDepth 100000 in
theorem c_X11_first {n : Nat} (hn : NN n) {M : Mm} (hci : CI M) (w r : Int) (hs : ir w) (hr : ir r) : CT yX11_first cX11_first 4 (some .int) ({ frames := 6, cells := 0, slots := 0, locals := 151 }) n [.ref 0, .int (iI w), .int (iI r)] M (rI (fstA M w r) (fstM M w r)) := by
  refine CT.of (lv0 := [(0, .ref 0), (1, .int (iI w)), (2, .int (iI r))]) (by decide +kernel) hn (fun _ => rfl) (fun _ => Nat.le_of_ble_eq_true rfl) (fun X cx cs qx => ?_)
  have cx : Cx X cX11_first RX11 ({ frames := 6, cells := 0, slots := 0, locals := 151 }) 4 n := cx
  have hl := hci.l
  have hAb := aL_255 hl
  have hMb := bitsK_255 hl 1
  have hLb := bitsK_255 hl 2
  by_cases hR : R6 r
  · skip
    refine g_aload_n cx (pc2 := 1) 0 rfl dX11_first_0 rfl ?_
    refine g_iload_n cx (pc2 := 2) 2 rfl dX11_first_1 rfl ?_
    refine g_callV cx (pc2 := 5) (st := []) (As := [.int (iI r)]) (k0 := 0) (ci := 11) (c_rowOf_in (M := M) hn r (by assumption)) wM_X11_rowOf wV_X11_rowOf kl_X11_109 rfl (lt_lit hn (Nat.le_of_ble_eq_true rfl)) rfl ⟨rfl, rfl, Nat.le_of_ble_eq_true rfl, Nat.le_of_ble_eq_true rfl⟩ (Nat.le_of_ble_eq_true rfl) cs rfl rfl dX11_first_2 rfl ?_
    rintro _ _ ⟨rfl, rfl⟩
    refine g_astore_n cx (pc2 := 6) (lv2 := [(0, .ref 0), (1, .int (iI w)), (2, .int (iI r)), (3, .ref (3 + 2 * r.toNat))]) rfl (Nat.le_of_ble_eq_true rfl) dX11_first_5 rfl ?_
    refine g_aload_n cx (pc2 := 7) 3 rfl dX11_first_6 rfl ?_
    refine g_ifnull cx (pc2 := 10) dX11_first_7 rfl ?_
    refine g_aload_n cx (pc2 := 11) 0 rfl dX11_first_10 rfl ?_
    refine g_get cx (pc2 := 14) (ci := 11) (k0 := 0) (j := 2) (v := .ref 23) rfl iwX11 rfl (lt_lit hn (Nat.le_of_ble_eq_true rfl)) rfl (Nat.le_of_ble_eq_true rfl) kf_X11_21 rfl rfl dX11_first_11 rfl ?_
    refine g_iload_n cx (pc2 := 15) 1 rfl dX11_first_14 rfl ?_
    refine g_callV cx (pc2 := 18) (st := []) (As := [.int (iI w)]) (k0 := 23) (ci := 2) (c_X2_isSet (M := M) hn (by first | assumption | exact hci.l) w (by first | assumption | omega)) wM_X2_isSet wV_X2_isSet kl_X11_224 rfl (lt_lit hn (Nat.le_of_ble_eq_true rfl)) rfl ⟨rfl, rfl, Nat.le_of_ble_eq_true rfl, Nat.le_of_ble_eq_true rfl⟩ (Nat.le_of_ble_eq_true rfl) cs rfl rfl dX11_first_15 rfl ?_
    rintro _ _ ⟨rfl, rfl⟩
    refine g_ifb_ne cx (pc2 := 21) (tgt := 23) dX11_first_18 (by decide) rfl (fun h_1 => ?_) (fun h_1 => ?_)
    · skip
      have hSS : (0 ≤ w ∧ w ≤ ((allN (M 23 4) : Nat) : Int)) := h_1
      have hgx := hci.gx (w := w) (by omega)
      refine g_aload_n cx (pc2 := 24) 0 rfl dX11_first_23 rfl ?_
      refine g_iload_n cx (pc2 := 25) 1 rfl dX11_first_24 rfl ?_
      refine g_callV cx (pc2 := 28) (st := []) (As := [.int (iI w)]) (k0 := 0) (ci := 11) (c_X11_goFirstOrder (M := M) hn (by first | assumption | omega) w (by omega)) wM_X11_goFirstOrder wV_X11_goFirstOrder kl_X11_250 rfl (lt_lit hn (Nat.le_of_ble_eq_true rfl)) rfl ⟨rfl, rfl, Nat.le_of_ble_eq_true rfl, Nat.le_of_ble_eq_true rfl⟩ (Nat.le_of_ble_eq_true rfl) cs rfl rfl dX11_first_25 rfl ?_
      rintro _ _ ⟨rfl, rfl⟩
      refine g_M (M2 := (gfX M w)) (by rfl) ?_
      refine g_ifb_ne cx (pc2 := 31) (tgt := 34) dX11_first_28 (by decide) rfl (fun h_2 => ?_) (fun h_2 => ?_)
      · skip
        refine g_aload_n cx (pc2 := 35) 0 rfl dX11_first_34 rfl ?_
        refine g_aload_n cx (pc2 := 36) 3 rfl dX11_first_35 rfl ?_
        refine g_callV cx (pc2 := 39) (st := []) (As := [.ref (3 + 2 * r.toNat)]) (k0 := 0) (ci := 11) (c_X11_tellWay (M := (gfX M w)) hn (by exact hgx) (by exact (rO_ok hR).1)) wM_X11_tellWay wV_X11_tellWay kl_X11_253 rfl (lt_lit hn (Nat.le_of_ble_eq_true rfl)) rfl ⟨rfl, rfl, Nat.le_of_ble_eq_true rfl, Nat.le_of_ble_eq_true rfl⟩ (Nat.le_of_ble_eq_true rfl) cs rfl rfl dX11_first_36 rfl ?_
        rintro _ _ ⟨rfl, rfl⟩
        refine g_iconst cx (pc2 := 40) dX11_first_39 rfl ?_
        exact g_iret cx qx dX11_first_40 ⟨congrArg (fun q => some (Value.int (iI q))) (by unfold fstA; (repeat (first | rw [if_pos (by first | assumption | omega)] | rw [if_neg (by first | assumption | exact not_not_intro (by assumption) | omega)])); first | done | rfl), by unfold fstM; (repeat (first | rw [if_pos (by first | assumption | omega)] | rw [if_neg (by first | assumption | exact not_not_intro (by assumption) | omega)])); first | done | rfl⟩
      · skip
        refine g_bipush cx (pc2 := 33) ⟨by decide, by decide⟩ dX11_first_31 rfl ?_
        exact g_iret cx qx dX11_first_33 ⟨congrArg (fun q => some (Value.int (iI q))) (by unfold fstA; (repeat (first | rw [if_pos (by first | assumption | omega)] | rw [if_neg (by first | assumption | exact not_not_intro (by assumption) | omega)])); first | done | rfl), by unfold fstM; (repeat (first | rw [if_pos (by first | assumption | omega)] | rw [if_neg (by first | assumption | exact not_not_intro (by assumption) | omega)])); first | done | rfl⟩
    · skip
      refine g_iconst cx (pc2 := 22) dX11_first_21 rfl ?_
      exact g_iret cx qx dX11_first_22 ⟨congrArg (fun q => some (Value.int (iI q))) (by unfold fstA; (repeat (first | rw [if_pos (by first | assumption | omega)] | rw [if_neg (by first | assumption | exact not_not_intro (by assumption) | omega)])); first | done | rfl), by unfold fstM; (repeat (first | rw [if_pos (by first | assumption | omega)] | rw [if_neg (by first | assumption | exact not_not_intro (by assumption) | omega)])); first | done | rfl⟩
  · skip
    refine g_aload_n cx (pc2 := 1) 0 rfl dX11_first_0 rfl ?_
    refine g_iload_n cx (pc2 := 2) 2 rfl dX11_first_1 rfl ?_
    refine g_callV cx (pc2 := 5) (st := []) (As := [.int (iI r)]) (k0 := 0) (ci := 11) (c_rowOf_out (M := M) hn r (by assumption) (by assumption)) wM_X11_rowOf wV_X11_rowOf kl_X11_109 rfl (lt_lit hn (Nat.le_of_ble_eq_true rfl)) rfl ⟨rfl, rfl, Nat.le_of_ble_eq_true rfl, Nat.le_of_ble_eq_true rfl⟩ (Nat.le_of_ble_eq_true rfl) cs rfl rfl dX11_first_2 rfl ?_
    rintro _ _ ⟨rfl, rfl⟩
    refine g_astore_nN cx (pc2 := 6) (lv2 := [(0, .ref 0), (1, .int (iI w)), (2, .int (iI r)), (3, .null)]) rfl (Nat.le_of_ble_eq_true rfl) dX11_first_5 rfl ?_
    refine g_aload_nN cx (pc2 := 7) 3 rfl dX11_first_6 rfl ?_
    refine g_ifnullN cx (tgt := 21) dX11_first_7 (by decide) ?_
    refine g_iconst cx (pc2 := 22) dX11_first_21 rfl ?_
    exact g_iret cx qx dX11_first_22 ⟨congrArg (fun q => some (Value.int (iI q))) (by unfold fstA; (repeat (first | rw [if_pos (by first | assumption | omega)] | rw [if_neg (by first | assumption | exact not_not_intro (by assumption) | omega)])); first | done | rfl), by unfold fstM; (repeat (first | rw [if_pos (by first | assumption | omega)] | rw [if_neg (by first | assumption | exact not_not_intro (by assumption) | omega)])); first | done | rfl⟩
set_option maxHeartbeats 4000000 in
set_option maxRecDepth 100000 in
theorem c_X11_costs {n : Nat} (hn : NN n) {M : Mm} (hci : CI M) (i : Int) (hi : ir i) : CT yX11_costs cX11_costs 4 (some .int) ({ frames := 6, cells := 0, slots := 0, locals := 145 }) n [.ref 0, .int (iI i)] M (rI (cosA M i) (cosM M i)) := by
  refine CT.of (lv0 := [(0, .ref 0), (1, .int (iI i))]) (by decide +kernel) hn (fun _ => rfl) (fun _ => Nat.le_of_ble_eq_true rfl) (fun X cx cs qx => ?_)
  have cx : Cx X cX11_costs RX11 ({ frames := 6, cells := 0, slots := 0, locals := 145 }) 4 n := cx
  have hl := hci.l
  have hAb := aL_255 hl
  have hMb := bitsK_255 hl 1
  have hLb := bitsK_255 hl 2
  have hcG : CI (gfA M ((allN (M 23 4) : Nat) : Int)) := hci.gf
  have eAL : ((allN ((gfA M ((allN (M 23 4) : Nat) : Int)) 23 4) : Nat) : Int) = ((allN (M 23 4) : Nat) : Int) := aL_off (gfA_off M _ (by omega))
  have eMB : ((bitsK (gfA M ((allN (M 23 4) : Nat) : Int)) 1 : Nat) : Int) = ((bitsK M 1 : Nat) : Int) := bK_off hl (gfA_off M _ (by omega)) (fun a _ _ => gfA_off M _ (by omega)) 1
  have hbv := bpM_v (gfA M ((allN (M 23 4) : Nat) : Int)) ((allN (M 23 4) : Nat) : Int) ((bitsK M 1 : Nat) : Int)
  have hn1 := ndN_le (allN (M 23 4)) (bitN i)
  have hn2 := ndN_le (bitsK M 1) (bitN i)
  have hwv := bpM_v (gfA M ((allN (M 23 4) : Nat) : Int)) ((ndN (allN (M 23 4)) (bitN i) : Nat) : Int) ((ndN (bitsK M 1) (bitN i) : Nat) : Int)
  have hn3 := ndN_le (bpM (gfA M ((allN (M 23 4) : Nat) : Int)) ((allN (M 23 4) : Nat) : Int) ((bitsK M 1 : Nat) : Int)).toNat (bitN i)
  have hbl := bitN_le i
  refine g_aload_n cx (pc2 := 1) 0 rfl dX11_costs_0 rfl ?_
  refine g_get cx (pc2 := 4) (ci := 11) (k0 := 0) (j := 2) (v := .ref 23) rfl iwX11 rfl (lt_lit hn (Nat.le_of_ble_eq_true rfl)) rfl (Nat.le_of_ble_eq_true rfl) kf_X11_21 rfl rfl dX11_costs_1 rfl ?_
  refine g_iload_n cx (pc2 := 5) 1 rfl dX11_costs_4 rfl ?_
  refine g_callV cx (pc2 := 8) (st := []) (As := [.int (iI i)]) (k0 := 23) (ci := 2) (c_X2_isNeed (M := M) hn (by exact Or.inl rfl) (by exact hci.l) i (by first | assumption | omega)) wM_X2_isNeed wV_X2_isNeed kl_X11_179 rfl (lt_lit hn (Nat.le_of_ble_eq_true rfl)) rfl ⟨rfl, rfl, Nat.le_of_ble_eq_true rfl, Nat.le_of_ble_eq_true rfl⟩ (Nat.le_of_ble_eq_true rfl) cs rfl rfl dX11_costs_5 rfl ?_
  rintro _ _ ⟨rfl, rfl⟩
  refine g_ifb_ne cx (pc2 := 11) (tgt := 13) dX11_costs_8 (by decide) rfl (fun h_1 => ?_) (fun h_1 => ?_)
  · skip
    refine g_aload_n cx (pc2 := 14) 0 rfl dX11_costs_13 rfl ?_
    refine g_aload_n cx (pc2 := 15) 0 rfl dX11_costs_14 rfl ?_
    refine g_get cx (pc2 := 18) (ci := 11) (k0 := 0) (j := 2) (v := .ref 23) rfl iwX11 rfl (lt_lit hn (Nat.le_of_ble_eq_true rfl)) rfl (Nat.le_of_ble_eq_true rfl) kf_X11_21 rfl rfl dX11_costs_15 rfl ?_
    refine g_callV cx (pc2 := 21) (st := [.ref 0]) (As := []) (k0 := 23) (ci := 2) (c_X2_allNeeds (M := M) hn (by exact hci.l)) wM_X2_allNeeds wV_X2_allNeeds kl_X11_233 rfl (lt_lit hn (Nat.le_of_ble_eq_true rfl)) rfl ⟨rfl, rfl, Nat.le_of_ble_eq_true rfl, Nat.le_of_ble_eq_true rfl⟩ (Nat.le_of_ble_eq_true rfl) cs rfl rfl dX11_costs_18 rfl ?_
    rintro _ _ ⟨rfl, rfl⟩
    refine g_callV cx (pc2 := 24) (st := []) (As := [.int (iI ((allN (M 23 4) : Nat) : Int))]) (k0 := 0) (ci := 11) (c_X11_reachFromStart (M := M) hn (by exact hci) ((allN (M 23 4) : Nat) : Int) (by first | omega | exact hcG.w)) wM_X11_reachFromStart wV_X11_reachFromStart kl_X11_227 rfl (lt_lit hn (Nat.le_of_ble_eq_true rfl)) rfl ⟨rfl, rfl, Nat.le_of_ble_eq_true rfl, Nat.le_of_ble_eq_true rfl⟩ (Nat.le_of_ble_eq_true rfl) cs rfl rfl dX11_costs_21 rfl ?_
    rintro _ _ ⟨rfl, rfl⟩
    refine g_M (M2 := (gfA M ((allN (M 23 4) : Nat) : Int))) (by rfl) ?_
    refine g_aload_n cx (pc2 := 25) 0 rfl dX11_costs_24 rfl ?_
    refine g_get cx (pc2 := 28) (ci := 11) (k0 := 0) (j := 7) (v := .ref 57) rfl iwX11 rfl (lt_lit hn (Nat.le_of_ble_eq_true rfl)) rfl (Nat.le_of_ble_eq_true rfl) kf_X11_54 rfl rfl dX11_costs_25 rfl ?_
    refine g_aload_n cx (pc2 := 29) 0 rfl dX11_costs_28 rfl ?_
    refine g_get cx (pc2 := 32) (ci := 11) (k0 := 0) (j := 2) (v := .ref 23) rfl iwX11 rfl (lt_lit hn (Nat.le_of_ble_eq_true rfl)) rfl (Nat.le_of_ble_eq_true rfl) kf_X11_21 rfl rfl dX11_costs_29 rfl ?_
    refine g_callV cx (pc2 := 35) (st := [.ref 57]) (As := []) (k0 := 23) (ci := 2) (c_X2_allNeeds (M := (gfA M ((allN (M 23 4) : Nat) : Int))) hn (by first | assumption | exact hcG.l)) wM_X2_allNeeds wV_X2_allNeeds kl_X11_233 rfl (lt_lit hn (Nat.le_of_ble_eq_true rfl)) rfl ⟨rfl, rfl, Nat.le_of_ble_eq_true rfl, Nat.le_of_ble_eq_true rfl⟩ (Nat.le_of_ble_eq_true rfl) cs rfl rfl dX11_costs_32 rfl ?_
    rintro _ _ ⟨rfl, rfl⟩
    refine g_rwi (y := iI ((allN (M 23 4) : Nat) : Int)) (congrArg iI eAL) ?_
    refine g_aload_n cx (pc2 := 36) 0 rfl dX11_costs_35 rfl ?_
    refine g_get cx (pc2 := 39) (ci := 11) (k0 := 0) (j := 2) (v := .ref 23) rfl iwX11 rfl (lt_lit hn (Nat.le_of_ble_eq_true rfl)) rfl (Nat.le_of_ble_eq_true rfl) kf_X11_21 rfl rfl dX11_costs_36 rfl ?_
    refine g_callV cx (pc2 := 42) (st := [.int (iI ((allN (M 23 4) : Nat) : Int)), .ref 57]) (As := []) (k0 := 23) (ci := 2) (c_X2_mustBits (M := (gfA M ((allN (M 23 4) : Nat) : Int))) hn (by first | assumption | exact hcG.l) (by first | assumption | exact hcG.nd)) wM_X2_mustBits wV_X2_mustBits kl_X11_244 rfl (lt_lit hn (Nat.le_of_ble_eq_true rfl)) rfl ⟨rfl, rfl, Nat.le_of_ble_eq_true rfl, Nat.le_of_ble_eq_true rfl⟩ (Nat.le_of_ble_eq_true rfl) cs rfl rfl dX11_costs_39 rfl ?_
    rintro _ _ ⟨rfl, rfl⟩
    refine g_rwi (y := iI ((bitsK M 1 : Nat) : Int)) (congrArg iI eMB) ?_
    refine g_callV cx (pc2 := 45) (st := []) (As := [.int (iI ((allN (M 23 4) : Nat) : Int)), .int (iI ((bitsK M 1 : Nat) : Int))]) (k0 := 57) (ci := 6) (c_X6_bestPlan (M := (gfA M ((allN (M 23 4) : Nat) : Int))) hn (by exact hcG.j) (by exact hcG.p) ((allN (M 23 4) : Nat) : Int) ((bitsK M 1 : Nat) : Int) (by first | assumption | omega) (by first | assumption | omega)) wM_X6_bestPlan wV_X6_bestPlan kl_X11_247 rfl (lt_lit hn (Nat.le_of_ble_eq_true rfl)) rfl ⟨rfl, rfl, Nat.le_of_ble_eq_true rfl, Nat.le_of_ble_eq_true rfl⟩ (Nat.le_of_ble_eq_true rfl) cs rfl rfl dX11_costs_42 rfl ?_
    rintro _ _ ⟨rfl, rfl⟩
    refine g_istore_n cx (pc2 := 46) (lv2 := [(0, .ref 0), (1, .int (iI i)), (2, .int (iI (bpM (gfA M ((allN (M 23 4) : Nat) : Int)) ((allN (M 23 4) : Nat) : Int) ((bitsK M 1 : Nat) : Int))))]) rfl (Nat.le_of_ble_eq_true rfl) dX11_costs_45 rfl ?_
    refine g_aload_n cx (pc2 := 47) 0 rfl dX11_costs_46 rfl ?_
    refine g_get cx (pc2 := 50) (ci := 11) (k0 := 0) (j := 7) (v := .ref 57) rfl iwX11 rfl (lt_lit hn (Nat.le_of_ble_eq_true rfl)) rfl (Nat.le_of_ble_eq_true rfl) kf_X11_54 rfl rfl dX11_costs_47 rfl ?_
    refine g_aload_n cx (pc2 := 51) 0 rfl dX11_costs_50 rfl ?_
    refine g_get cx (pc2 := 54) (ci := 11) (k0 := 0) (j := 2) (v := .ref 23) rfl iwX11 rfl (lt_lit hn (Nat.le_of_ble_eq_true rfl)) rfl (Nat.le_of_ble_eq_true rfl) kf_X11_21 rfl rfl dX11_costs_51 rfl ?_
    refine g_callV cx (pc2 := 57) (st := [.ref 57]) (As := []) (k0 := 23) (ci := 2) (c_X2_allNeeds (M := (gfA M ((allN (M 23 4) : Nat) : Int))) hn (by first | assumption | exact hcG.l)) wM_X2_allNeeds wV_X2_allNeeds kl_X11_233 rfl (lt_lit hn (Nat.le_of_ble_eq_true rfl)) rfl ⟨rfl, rfl, Nat.le_of_ble_eq_true rfl, Nat.le_of_ble_eq_true rfl⟩ (Nat.le_of_ble_eq_true rfl) cs rfl rfl dX11_costs_54 rfl ?_
    rintro _ _ ⟨rfl, rfl⟩
    refine g_rwi (y := iI ((allN (M 23 4) : Nat) : Int)) (congrArg iI eAL) ?_
    refine g_iload_n cx (pc2 := 58) 1 rfl dX11_costs_57 rfl ?_
    refine g_callS cx (pc2 := 61) (st := [.int (iI ((allN (M 23 4) : Nat) : Int)), .ref 57]) (As := [.int (iI i)]) (c_X11_bit (M := (gfA M ((allN (M 23 4) : Nat) : Int))) hn i (by first | assumption | omega)) wM_X11_bit wS_X11_bit kl_X11_269 ⟨rfl, rfl, Nat.le_of_ble_eq_true rfl, Nat.le_of_ble_eq_true rfl⟩ (Nat.le_of_ble_eq_true rfl) cs rfl rfl dX11_costs_58 rfl ?_
    rintro _ _ ⟨rfl, rfl⟩
    refine g_iconst cx (pc2 := 62) dX11_costs_61 rfl ?_
    refine g_ixor cx (pc2 := 63) dX11_costs_62 rfl ?_
    refine g_iand cx (pc2 := 64) dX11_costs_63 rfl ?_
    refine g_rwi (y := iI ((ndN (allN (M 23 4)) (bitN i) : Nat) : Int)) (nd_iI (by omega) (by omega)) ?_
    refine g_aload_n cx (pc2 := 65) 0 rfl dX11_costs_64 rfl ?_
    refine g_get cx (pc2 := 68) (ci := 11) (k0 := 0) (j := 2) (v := .ref 23) rfl iwX11 rfl (lt_lit hn (Nat.le_of_ble_eq_true rfl)) rfl (Nat.le_of_ble_eq_true rfl) kf_X11_21 rfl rfl dX11_costs_65 rfl ?_
    refine g_callV cx (pc2 := 71) (st := [.int (iI ((ndN (allN (M 23 4)) (bitN i) : Nat) : Int)), .ref 57]) (As := []) (k0 := 23) (ci := 2) (c_X2_mustBits (M := (gfA M ((allN (M 23 4) : Nat) : Int))) hn (by first | assumption | exact hcG.l) (by first | assumption | exact hcG.nd)) wM_X2_mustBits wV_X2_mustBits kl_X11_244 rfl (lt_lit hn (Nat.le_of_ble_eq_true rfl)) rfl ⟨rfl, rfl, Nat.le_of_ble_eq_true rfl, Nat.le_of_ble_eq_true rfl⟩ (Nat.le_of_ble_eq_true rfl) cs rfl rfl dX11_costs_68 rfl ?_
    rintro _ _ ⟨rfl, rfl⟩
    refine g_rwi (y := iI ((bitsK M 1 : Nat) : Int)) (congrArg iI eMB) ?_
    refine g_iload_n cx (pc2 := 72) 1 rfl dX11_costs_71 rfl ?_
    refine g_callS cx (pc2 := 75) (st := [.int (iI ((bitsK M 1 : Nat) : Int)), .int (iI ((ndN (allN (M 23 4)) (bitN i) : Nat) : Int)), .ref 57]) (As := [.int (iI i)]) (c_X11_bit (M := (gfA M ((allN (M 23 4) : Nat) : Int))) hn i (by first | assumption | omega)) wM_X11_bit wS_X11_bit kl_X11_269 ⟨rfl, rfl, Nat.le_of_ble_eq_true rfl, Nat.le_of_ble_eq_true rfl⟩ (Nat.le_of_ble_eq_true rfl) cs rfl rfl dX11_costs_72 rfl ?_
    rintro _ _ ⟨rfl, rfl⟩
    refine g_iconst cx (pc2 := 76) dX11_costs_75 rfl ?_
    refine g_ixor cx (pc2 := 77) dX11_costs_76 rfl ?_
    refine g_iand cx (pc2 := 78) dX11_costs_77 rfl ?_
    refine g_rwi (y := iI ((ndN (bitsK M 1) (bitN i) : Nat) : Int)) (nd_iI (by omega) (by omega)) ?_
    refine g_callV cx (pc2 := 81) (st := []) (As := [.int (iI ((ndN (allN (M 23 4)) (bitN i) : Nat) : Int)), .int (iI ((ndN (bitsK M 1) (bitN i) : Nat) : Int))]) (k0 := 57) (ci := 6) (c_X6_bestPlan (M := (gfA M ((allN (M 23 4) : Nat) : Int))) hn (by exact hcG.j) (by exact hcG.p) ((ndN (allN (M 23 4)) (bitN i) : Nat) : Int) ((ndN (bitsK M 1) (bitN i) : Nat) : Int) (by first | assumption | omega) (by first | assumption | omega)) wM_X6_bestPlan wV_X6_bestPlan kl_X11_247 rfl (lt_lit hn (Nat.le_of_ble_eq_true rfl)) rfl ⟨rfl, rfl, Nat.le_of_ble_eq_true rfl, Nat.le_of_ble_eq_true rfl⟩ (Nat.le_of_ble_eq_true rfl) cs rfl rfl dX11_costs_78 rfl ?_
    rintro _ _ ⟨rfl, rfl⟩
    refine g_istore_n cx (pc2 := 82) (lv2 := [(0, .ref 0), (1, .int (iI i)), (2, .int (iI (bpM (gfA M ((allN (M 23 4) : Nat) : Int)) ((allN (M 23 4) : Nat) : Int) ((bitsK M 1 : Nat) : Int)))), (3, .int (iI (bpM (gfA M ((allN (M 23 4) : Nat) : Int)) ((ndN (allN (M 23 4)) (bitN i) : Nat) : Int) ((ndN (bitsK M 1) (bitN i) : Nat) : Int))))]) rfl (Nat.le_of_ble_eq_true rfl) dX11_costs_81 rfl ?_
    refine g_iload_n cx (pc2 := 83) 2 rfl dX11_costs_82 rfl ?_
    refine g_bipush cx (pc2 := 85) ⟨by decide, by decide⟩ dX11_costs_83 rfl ?_
    refine g_icmp_eq cx (pc2 := 88) (tgt := 94) ⟨(by first | assumption | omega), ⟨by decide, by decide⟩⟩ dX11_costs_85 (by decide) rfl (fun h_2 => ?_) (fun h_2 => ?_)
    · skip
      refine g_bipush cx (pc2 := 96) ⟨by decide, by decide⟩ dX11_costs_94 rfl ?_
      exact g_iret cx qx dX11_costs_96 ⟨congrArg (fun q => some (Value.int (iI q))) (by unfold cosA bstA wio1; (repeat (first | rw [if_pos (by first | assumption | omega)] | rw [if_neg (by first | assumption | exact not_not_intro (by assumption) | omega)])); first | done | rfl), by unfold cosM; (repeat (first | rw [if_pos (by first | assumption | omega)] | rw [if_neg (by first | assumption | exact not_not_intro (by assumption) | omega)])); first | done | rfl⟩
    · skip
      refine g_iload_n cx (pc2 := 89) 3 rfl dX11_costs_88 rfl ?_
      refine g_bipush cx (pc2 := 91) ⟨by decide, by decide⟩ dX11_costs_89 rfl ?_
      refine g_icmp_ne cx (pc2 := 94) (tgt := 97) ⟨(by first | assumption | omega), ⟨by decide, by decide⟩⟩ dX11_costs_91 (by decide) rfl (fun h_3 => ?_) (fun h_3 => ?_)
      · skip
        refine g_aload_n cx (pc2 := 98) 0 rfl dX11_costs_97 rfl ?_
        refine g_get cx (pc2 := 101) (ci := 11) (k0 := 0) (j := 5) (v := .ref 48) rfl iwX11 rfl (lt_lit hn (Nat.le_of_ble_eq_true rfl)) rfl (Nat.le_of_ble_eq_true rfl) kf_X11_38 rfl rfl dX11_costs_98 rfl ?_
        refine g_iload_n cx (pc2 := 102) 3 rfl dX11_costs_101 rfl ?_
        refine g_callV cx (pc2 := 105) (st := []) (As := [.int (iI (bpM (gfA M ((allN (M 23 4) : Nat) : Int)) ((ndN (allN (M 23 4)) (bitN i) : Nat) : Int) ((ndN (bitsK M 1) (bitN i) : Nat) : Int)))]) (k0 := 48) (ci := 1) (c_X1_worthOf (M := (gfA M ((allN (M 23 4) : Nat) : Int))) hn (by exact hcG.j) (bpM (gfA M ((allN (M 23 4) : Nat) : Int)) ((ndN (allN (M 23 4)) (bitN i) : Nat) : Int) ((ndN (bitsK M 1) (bitN i) : Nat) : Int)) (by first | assumption | omega)) wM_X1_worthOf wV_X1_worthOf kl_X11_236 rfl (lt_lit hn (Nat.le_of_ble_eq_true rfl)) rfl ⟨rfl, rfl, Nat.le_of_ble_eq_true rfl, Nat.le_of_ble_eq_true rfl⟩ (Nat.le_of_ble_eq_true rfl) cs rfl rfl dX11_costs_102 rfl ?_
        rintro _ _ ⟨rfl, rfl⟩
        refine g_aload_n cx (pc2 := 106) 0 rfl dX11_costs_105 rfl ?_
        refine g_get cx (pc2 := 109) (ci := 11) (k0 := 0) (j := 5) (v := .ref 48) rfl iwX11 rfl (lt_lit hn (Nat.le_of_ble_eq_true rfl)) rfl (Nat.le_of_ble_eq_true rfl) kf_X11_38 rfl rfl dX11_costs_106 rfl ?_
        refine g_iload_n cx (pc2 := 110) 2 rfl dX11_costs_109 rfl ?_
        refine g_iload_n cx (pc2 := 111) 1 rfl dX11_costs_110 rfl ?_
        refine g_callS cx (pc2 := 114) (st := [.int (iI (bpM (gfA M ((allN (M 23 4) : Nat) : Int)) ((allN (M 23 4) : Nat) : Int) ((bitsK M 1 : Nat) : Int))), .ref 48, .int (iI (wsM (gfA M ((allN (M 23 4) : Nat) : Int)) (bpM (gfA M ((allN (M 23 4) : Nat) : Int)) ((ndN (allN (M 23 4)) (bitN i) : Nat) : Int) ((ndN (bitsK M 1) (bitN i) : Nat) : Int))))]) (As := [.int (iI i)]) (c_X11_bit (M := (gfA M ((allN (M 23 4) : Nat) : Int))) hn i (by first | assumption | omega)) wM_X11_bit wS_X11_bit kl_X11_269 ⟨rfl, rfl, Nat.le_of_ble_eq_true rfl, Nat.le_of_ble_eq_true rfl⟩ (Nat.le_of_ble_eq_true rfl) cs rfl rfl dX11_costs_111 rfl ?_
        rintro _ _ ⟨rfl, rfl⟩
        refine g_iconst cx (pc2 := 115) dX11_costs_114 rfl ?_
        refine g_ixor cx (pc2 := 116) dX11_costs_115 rfl ?_
        refine g_iand cx (pc2 := 117) dX11_costs_116 rfl ?_
        refine g_rwi (y := iI ((ndN (bpM (gfA M ((allN (M 23 4) : Nat) : Int)) ((allN (M 23 4) : Nat) : Int) ((bitsK M 1 : Nat) : Int)).toNat (bitN i) : Nat) : Int)) (nd_iI (by omega) (by omega)) ?_
        refine g_callV cx (pc2 := 120) (st := [.int (iI (wsM (gfA M ((allN (M 23 4) : Nat) : Int)) (bpM (gfA M ((allN (M 23 4) : Nat) : Int)) ((ndN (allN (M 23 4)) (bitN i) : Nat) : Int) ((ndN (bitsK M 1) (bitN i) : Nat) : Int))))]) (As := [.int (iI ((ndN (bpM (gfA M ((allN (M 23 4) : Nat) : Int)) ((allN (M 23 4) : Nat) : Int) ((bitsK M 1 : Nat) : Int)).toNat (bitN i) : Nat) : Int))]) (k0 := 48) (ci := 1) (c_X1_worthOf (M := (gfA M ((allN (M 23 4) : Nat) : Int))) hn (by exact hcG.j) ((ndN (bpM (gfA M ((allN (M 23 4) : Nat) : Int)) ((allN (M 23 4) : Nat) : Int) ((bitsK M 1 : Nat) : Int)).toNat (bitN i) : Nat) : Int) (by first | assumption | omega)) wM_X1_worthOf wV_X1_worthOf kl_X11_236 rfl (lt_lit hn (Nat.le_of_ble_eq_true rfl)) rfl ⟨rfl, rfl, Nat.le_of_ble_eq_true rfl, Nat.le_of_ble_eq_true rfl⟩ (Nat.le_of_ble_eq_true rfl) cs rfl rfl dX11_costs_117 rfl ?_
        rintro _ _ ⟨rfl, rfl⟩
        refine g_isub cx (pc2 := 121) dX11_costs_120 rfl ?_
        exact g_iret cx qx dX11_costs_121 ⟨congrArg (fun q => some (Value.int (iI q))) (by unfold cosA bstA wio1; (repeat (first | rw [if_pos (by first | assumption | omega)] | rw [if_neg (by first | assumption | exact not_not_intro (by assumption) | omega)])); first | done | rfl), by unfold cosM; (repeat (first | rw [if_pos (by first | assumption | omega)] | rw [if_neg (by first | assumption | exact not_not_intro (by assumption) | omega)])); first | done | rfl⟩
      · skip
        refine g_bipush cx (pc2 := 96) ⟨by decide, by decide⟩ dX11_costs_94 rfl ?_
        exact g_iret cx qx dX11_costs_96 ⟨congrArg (fun q => some (Value.int (iI q))) (by unfold cosA bstA wio1; (repeat (first | rw [if_pos (by first | assumption | omega)] | rw [if_neg (by first | assumption | exact not_not_intro (by assumption) | omega)])); first | done | rfl), by unfold cosM; (repeat (first | rw [if_pos (by first | assumption | omega)] | rw [if_neg (by first | assumption | exact not_not_intro (by assumption) | omega)])); first | done | rfl⟩
  · skip
    refine g_iconst cx (pc2 := 12) dX11_costs_11 rfl ?_
    exact g_iret cx qx dX11_costs_12 ⟨congrArg (fun q => some (Value.int (iI q))) (by unfold cosA bstA wio1; (repeat (first | rw [if_pos (by first | assumption | omega)] | rw [if_neg (by first | assumption | exact not_not_intro (by assumption) | omega)])); first | done | rfl), by unfold cosM; (repeat (first | rw [if_pos (by first | assumption | omega)] | rw [if_neg (by first | assumption | exact not_not_intro (by assumption) | omega)])); first | done | rfl⟩
set_option maxHeartbeats 4000000 in
set_option maxRecDepth 100000 in
theorem c_X11_worn {n : Nat} (hn : NN n) {M : Mm} (hci : CI M) (w : Int) (hs : ir w) : CT yX11_worn cX11_worn 2 (some .int) ({ frames := 6, cells := 0, slots := 0, locals := 151 }) n [.ref 0, .int (iI w)] M (rI (worA M w) (worM M w)) := by
  refine CT.of (lv0 := [(0, .ref 0), (1, .int (iI w))]) (by decide +kernel) hn (fun _ => rfl) (fun _ => Nat.le_of_ble_eq_true rfl) (fun X cx cs qx => ?_)
  have cx : Cx X cX11_worn RX11 ({ frames := 6, cells := 0, slots := 0, locals := 151 }) 2 n := cx
  have hl := hci.l
  have hAb := aL_255 hl
  have hMb := bitsK_255 hl 1
  have hLb := bitsK_255 hl 2
  refine g_aload_n cx (pc2 := 1) 0 rfl dX11_worn_0 rfl ?_
  refine g_get cx (pc2 := 4) (ci := 11) (k0 := 0) (j := 2) (v := .ref 23) rfl iwX11 rfl (lt_lit hn (Nat.le_of_ble_eq_true rfl)) rfl (Nat.le_of_ble_eq_true rfl) kf_X11_21 rfl rfl dX11_worn_1 rfl ?_
  refine g_iload_n cx (pc2 := 5) 1 rfl dX11_worn_4 rfl ?_
  refine g_callV cx (pc2 := 8) (st := []) (As := [.int (iI w)]) (k0 := 23) (ci := 2) (c_X2_isSet (M := M) hn (by first | assumption | exact hci.l) w (by first | assumption | omega)) wM_X2_isSet wV_X2_isSet kl_X11_224 rfl (lt_lit hn (Nat.le_of_ble_eq_true rfl)) rfl ⟨rfl, rfl, Nat.le_of_ble_eq_true rfl, Nat.le_of_ble_eq_true rfl⟩ (Nat.le_of_ble_eq_true rfl) cs rfl rfl dX11_worn_5 rfl ?_
  rintro _ _ ⟨rfl, rfl⟩
  refine g_ifb_ne cx (pc2 := 11) (tgt := 13) dX11_worn_8 (by decide) rfl (fun h_1 => ?_) (fun h_1 => ?_)
  · skip
    have hSS : (0 ≤ w ∧ w ≤ ((allN (M 23 4) : Nat) : Int)) := h_1
    have hgx := hci.gx (w := w) (by omega)
    refine g_aload_n cx (pc2 := 14) 0 rfl dX11_worn_13 rfl ?_
    refine g_iload_n cx (pc2 := 15) 1 rfl dX11_worn_14 rfl ?_
    refine g_callV cx (pc2 := 18) (st := []) (As := [.int (iI w)]) (k0 := 0) (ci := 11) (c_X11_goFirstOrder (M := M) hn (by first | assumption | omega) w (by first | omega | exact hgx.w)) wM_X11_goFirstOrder wV_X11_goFirstOrder kl_X11_250 rfl (lt_lit hn (Nat.le_of_ble_eq_true rfl)) rfl ⟨rfl, rfl, Nat.le_of_ble_eq_true rfl, Nat.le_of_ble_eq_true rfl⟩ (Nat.le_of_ble_eq_true rfl) cs rfl rfl dX11_worn_15 rfl ?_
    rintro _ _ ⟨rfl, rfl⟩
    refine g_M (M2 := (gfX M w)) (by rfl) ?_
    refine g_ifb_eq cx (pc2 := 21) (tgt := 31) dX11_worn_18 (by decide) rfl (fun h_2 => ?_) (fun h_2 => ?_)
    · skip
      have hgo := h_2
      refine g_bipush cx (pc2 := 33) ⟨by decide, by decide⟩ dX11_worn_31 rfl ?_
      exact g_iret cx qx dX11_worn_33 ⟨congrArg (fun q => some (Value.int (iI q))) (by unfold worA; (repeat (first | rw [if_pos (by first | assumption | omega)] | rw [if_neg (by first | assumption | exact not_not_intro (by assumption) | omega)])); first | done | rfl), by unfold worM; (repeat (first | rw [if_pos (by first | assumption | omega)] | rw [if_neg (by first | assumption | exact not_not_intro (by assumption) | omega)])); first | done | rfl⟩
    · skip
      have hgo := h_2
      refine g_aload_n cx (pc2 := 22) 0 rfl dX11_worn_21 rfl ?_
      refine g_get cx (pc2 := 25) (ci := 11) (k0 := 0) (j := 6) (v := .ref 54) rfl iwX11 rfl (lt_lit hn (Nat.le_of_ble_eq_true rfl)) rfl (Nat.le_of_ble_eq_true rfl) kf_X11_47 rfl rfl dX11_worn_22 rfl ?_
      refine g_callV cx (pc2 := 28) (st := []) (As := []) (k0 := 54) (ci := 10) (c_X10_watchesWorn (M := (gfX M w)) hn (by exact hgx.j) (by first | omega | exact hgx.w) (by exact gfX_S hci (by omega) (by exact hgo.1))) wM_X10_watchesWorn wV_X10_watchesWorn kl_X11_272 rfl (lt_lit hn (Nat.le_of_ble_eq_true rfl)) rfl ⟨rfl, rfl, Nat.le_of_ble_eq_true rfl, Nat.le_of_ble_eq_true rfl⟩ (Nat.le_of_ble_eq_true rfl) cs rfl rfl dX11_worn_25 rfl ?_
      rintro _ _ ⟨rfl, rfl⟩
      refine g_goto cx (tgt := 33) dX11_worn_28 (by decide) ?_
      exact g_iret cx qx dX11_worn_33 ⟨congrArg (fun q => some (Value.int (iI q))) (by unfold worA; (repeat (first | rw [if_pos (by first | assumption | omega)] | rw [if_neg (by first | assumption | exact not_not_intro (by assumption) | omega)])); first | done | rfl), by unfold worM; (repeat (first | rw [if_pos (by first | assumption | omega)] | rw [if_neg (by first | assumption | exact not_not_intro (by assumption) | omega)])); first | done | rfl⟩
  · skip
    refine g_iconst cx (pc2 := 12) dX11_worn_11 rfl ?_
    exact g_iret cx qx dX11_worn_12 ⟨congrArg (fun q => some (Value.int (iI q))) (by unfold worA; (repeat (first | rw [if_pos (by first | assumption | omega)] | rw [if_neg (by first | assumption | exact not_not_intro (by assumption) | omega)])); first | done | rfl), by unfold worM; (repeat (first | rw [if_pos (by first | assumption | omega)] | rw [if_neg (by first | assumption | exact not_not_intro (by assumption) | omega)])); first | done | rfl⟩
