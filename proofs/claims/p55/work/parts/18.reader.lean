/-- a text whose signs are c -/
abbrev TX (M : Mm) (o : Nat) (c : Int → Int) : Prop := (-1 ≤ M o 1 ∧ M o 1 ≤ capO o) ∧ (∀ j, -128 ≤ M (o + 1) j ∧ M (o + 1) j ≤ 127) ∧ ∀ i : Int, (if 0 ≤ i ∧ i < M o 1 then M (o + 1) i.toNat else 0) = c i
theorem TX_b {M : Mm} {o : Nat} {c : Int → Int} (h : TX M o c) (i : Int) : -128 ≤ c i ∧ c i ≤ 127 := by
  rw [← h.2.2 i]
  have := h.2.1 i.toNat
  split <;> omega
theorem TX_of {M M2 : Mm} {o : Nat} {c : Int → Int} (h : TX M o c) (h1 : M2 o = M o) (h2 : M2 (o + 1) = M (o + 1)) : TX M2 o c := by
  unfold TX
  rw [h1, h2]
  exact h
theorem TX_st {M : Mm} {o : Nat} (ho : isRowO o) {c : Int → Int} (h : TX M o c) {k i : Nat} {v : Int} (hk : 22 < k) : TX (stM M k i v) o c := TX_of h (stM_off (by omega)) (stM_off (by omega))
theorem stM_ss (M : Mm) (k i : Nat) (v w : Int) : stM (stM M k i v) k i w = stM M k i w := by
  funext a b
  unfold stM
  split <;> rfl
theorem stM_self (M : Mm) (k i : Nat) : stM M k i (M k i) = M := by
  funext a b
  unfold stM
  split
  · rename_i h; rw [h.1, h.2]
  · rfl
def fgH (s : Int) : Int := if 48 ≤ s ∧ s ≤ 57 then s - 48 else -9
theorem fgH_b (s : Int) : fgH s = -9 ∨ (0 ≤ fgH s ∧ fgH s ≤ 9) := by unfold fgH; split <;> omega
def rn0 (c : Int → Int) (p : Int) : Int := if fgH (c (p + 1)) = -9 then fgH (c p) else 10 * fgH (c p) + fgH (c (p + 1))
def rnP (c : Int → Int) (p : Int) : Int := if fgH (c p) = -9 then p else if fgH (c (p + 1)) = -9 then p + 1 else p + 2
def rnV (c : Int → Int) (p q : Int) : Int := if fgH (c p) = -9 then -9 else if rn0 c p ≤ q then rn0 c p else -9
def rfV (c : Int → Int) (p q : Int) : Int := if 1 ≤ fgH (c p) ∧ fgH (c p) ≤ q then fgH (c p) else -9
theorem rnP_b (c : Int → Int) (p : Int) : p ≤ rnP c p ∧ rnP c p ≤ p + 2 := by unfold rnP; (repeat split) <;> omega
theorem rnV_b (c : Int → Int) (p q : Int) : rnV c p q = -9 ∨ (0 ≤ rnV c p q ∧ rnV c p q ≤ q ∧ rnV c p q ≤ 99) := by
  have h1 := fgH_b (c p)
  have h2 := fgH_b (c (p + 1))
  unfold rnV rn0
  (repeat split) <;> omega
theorem rfV_b (c : Int → Int) (p q : Int) : rfV c p q = -9 ∨ (1 ≤ rfV c p q ∧ rfV c p q ≤ q ∧ rfV c p q ≤ 9) := by
  have h1 := fgH_b (c p)
  unfold rfV
  split <;> omega
/-- the place moves on to p; a number that is none is a fault -/
def rdM (M : Mm) (z p : Int) : Mm := if z = -9 then stM (stM M 47 0 p) 47 1 p else stM M 47 0 p
theorem rdM_t {M : Mm} {z p : Int} (h : z = -9) : rdM M z p = stM (stM M 47 0 p) 47 1 p := by unfold rdM; rw [if_pos h]
theorem rdM_f {M : Mm} {z p : Int} (h : ¬ z = -9) : rdM M z p = stM M 47 0 p := by unfold rdM; rw [if_neg h]
theorem rdM_2 {M : Mm} {z p q : Int} : rdM (stM M 47 0 q) z p = rdM M z p := by unfold rdM; rw [stM_ss]
def sgM (c : Int → Int) (T : Mm) (s : Int) : Mm := if c (T 47 0) = s then stM T 47 0 (T 47 0 + 1) else stM T 47 1 (T 47 0)
theorem sgM_t {M : Mm} {c : Int → Int} {s p : Int} (h : c p = s) : sgM c (stM M 47 0 p) s = stM M 47 0 (p + 1) := by
  unfold sgM
  rw [stM_at, if_pos h, stM_ss]
theorem sgM_f {M : Mm} {c : Int → Int} {s p : Int} (h : ¬ c p = s) : sgM c (stM M 47 0 p) s = stM (stM M 47 0 p) 47 1 p := by
  unfold sgM
  rw [stM_at, if_neg h]
def kdO (c : Int) : Int := if c = 110 then 0 else if c = 109 then 1 else if c = 108 then 2 else if c = 119 then 3 else if c = 102 then 4 else if c = 116 then 5 else -9
theorem kdO_at {i : Nat} (hi : i < 6) : kdO (NLt i) = (i : Int) := by
  rcases (show i = 0 ∨ i = 1 ∨ i = 2 ∨ i = 3 ∨ i = 4 ∨ i = 5 by omega) with rfl | rfl | rfl | rfl | rfl | rfl <;> rfl
theorem kdO_no {c : Int} (h : ∀ j : Nat, j < 6 → ¬ NLt j = c) : kdO c = -9 := by
  have h0 : ¬ c = 110 := fun q => h 0 (by omega) q.symm
  have h1 : ¬ c = 109 := fun q => h 1 (by omega) q.symm
  have h2 : ¬ c = 108 := fun q => h 2 (by omega) q.symm
  have h3 : ¬ c = 119 := fun q => h 3 (by omega) q.symm
  have h4 : ¬ c = 102 := fun q => h 4 (by omega) q.symm
  have h5 : ¬ c = 116 := fun q => h 5 (by omega) q.symm
  unfold kdO
  rw [if_neg h0, if_neg h1, if_neg h2, if_neg h3, if_neg h4, if_neg h5]
theorem kdO_b (c : Int) : kdO c = -9 ∨ (0 ≤ kdO c ∧ kdO c ≤ 5) := by unfold kdO; (repeat split) <;> omega
theorem NLt_b (i : Nat) : 0 ≤ NLt i ∧ NLt i ≤ 119 := by
  by_cases h : i < 6
  · rcases (show i = 0 ∨ i = 1 ∨ i = 2 ∨ i = 3 ∨ i = 4 ∨ i = 5 by omega) with rfl | rfl | rfl | rfl | rfl | rfl <;> decide
  · have e : NLt i = 0 := by
      unfold NLt
      rw [List.getD_eq_getElem?_getD, List.getElem?_eq_none (by simpa using h)]
      rfl
    rw [e]; omega
abbrev Nd6 : Type := Int × Int × Int × Int × Int × Int
/-- a need is read from place p on, with hc houses, nc needs so far: the place behind, and it -/
def pNd (c : Int → Int) (p hc nc : Int) : Int × Option Nd6 :=
  if kdO (c p) = -9 ∨ 8 ≤ nc then (p, none) else
  if ¬ (0 ≤ c (p + 1) - 65 ∧ c (p + 1) - 65 < hc) then (p + 1, none) else
  if ¬ c (p + 2) = 58 then (p + 2, none) else
  if rnV c (p + 3) 27 = -9 then (rnP c (p + 3), none) else
  if ¬ c (rnP c (p + 3)) = 45 then (rnP c (p + 3), none) else
  if rnV c (rnP c (p + 3) + 1) 27 = -9 ∨ rnV c (rnP c (p + 3) + 1) 27 < rnV c (p + 3) 27 then (rnP c (rnP c (p + 3) + 1), none) else
  if ¬ c (rnP c (rnP c (p + 3) + 1)) = 58 then (rnP c (rnP c (p + 3) + 1), none) else
  if rfV c (rnP c (rnP c (p + 3) + 1) + 1) 4 = -9 then (rnP c (rnP c (p + 3) + 1) + 1, none) else
  if ¬ c (rnP c (rnP c (p + 3) + 1) + 2) = 58 then (rnP c (rnP c (p + 3) + 1) + 2, none) else
  if rfV c (rnP c (rnP c (p + 3) + 1) + 3) 9 = -9 then (rnP c (rnP c (p + 3) + 1) + 3, none) else
  (rnP c (rnP c (p + 3) + 1) + 4, some (kdO (c p), c (p + 1) - 65, rnV c (p + 3) 27, rnV c (rnP c (p + 3) + 1) 27, rfV c (rnP c (rnP c (p + 3) + 1) + 1) 4, rfV c (rnP c (rnP c (p + 3) + 1) + 3) 9))
def nid (T : Mm) (la : Nat) : Nat := la + 4 + (T la 4).toNat
def anM (T : Mm) (la : Nat) (d : Nd6) : Mm := stM (stM (stM (stM (stM (stM (stM (stM T la 4 (T la 4 + 1)) (nid T la) 0 d.1) (nid T la) 1 d.2.1) (nid T la) 2 d.2.2.1) (nid T la) 3 d.2.2.2.1) (nid T la) 4 d.2.2.2.2.1) (nid T la) 5 d.2.2.2.2.2) (nid T la) 6 12
def rnK (M : Mm) (la : Nat) (r : Int × Option Nd6) : Mm := match r with
  | (p, none) => stM (stM M 47 0 p) 47 1 p
  | (p, some d) => anM (stM M 47 0 p) la d
def rnM (c : Int → Int) (la : Nat) (M : Mm) : Mm := rnK M la (pNd c (M 47 0) (M la 3) (M la 4))
def adH (M : Mm) (la : Nat) (v : Int) : Mm := stM (stM M (la + 1) (M la 3).toNat v) la 3 (M la 3 + 1)
def rhM (c : Int → Int) (la : Nat) (M : Mm) : Mm := if 8 ≤ M la 3 then stM M 47 1 (M 47 0) else if rnV c (M 47 0 + 1) 15 = -9 then stM (stM M 47 0 (rnP c (M 47 0 + 1))) 47 1 (rnP c (M 47 0 + 1)) else adH (stM M 47 0 (rnP c (M 47 0 + 1))) la (rnV c (M 47 0 + 1) 15)
def rsM (c : Int → Int) (la : Nat) (M : Mm) : Mm := if c (M 47 0) = 32 then stM M 47 0 (M 47 0 + 1) else if c (M 47 0) = 104 then rhM c la M else rnM c la M
def rdL (c : Int → Int) (sz : Int) (la : Nat) : Nat → Mm → Mm
  | 0, M => M
  | k + 1, M => if M 47 1 = -9 ∧ M 47 0 < sz then rdL c sz la k (rsM c la M) else M
def rd0 (M : Mm) (la : Nat) : Mm := stM (stM (stM (stM (stM M 47 0 0) 47 1 (-9)) la 3 0) la 4 0) la 5 0
def rdA (c : Int → Int) (la : Nat) (M : Mm) (sz : Int) : Mm := rdL c sz la 121 (rd0 M la)
theorem rnA {c : Int → Int} {p : Int} (q : Int) (h : fgH (c p) = -9) : rnV c p q = -9 ∧ rnP c p = p := by unfold rnV rnP; rw [if_pos h, if_pos h]; exact ⟨rfl, rfl⟩
theorem rnB {c : Int → Int} {p q : Int} (h : ¬ fgH (c p) = -9) (h2 : fgH (c (p + 1)) = -9) : rnV c p q = (if fgH (c p) ≤ q then fgH (c p) else -9) ∧ rnP c p = p + 1 := by unfold rnV rnP rn0; rw [if_neg h, if_neg h, if_pos h2, if_pos h2]; exact ⟨rfl, rfl⟩
theorem rnC {c : Int → Int} {p q : Int} (h : ¬ fgH (c p) = -9) (h2 : ¬ fgH (c (p + 1)) = -9) : rnV c p q = (if 10 * fgH (c p) + fgH (c (p + 1)) ≤ q then 10 * fgH (c p) + fgH (c (p + 1)) else -9) ∧ rnP c p = p + 2 := by unfold rnV rnP rn0; rw [if_neg h, if_neg h, if_neg h2, if_neg h2]; exact ⟨rfl, rfl⟩
set_option maxHeartbeats 4000000 in
set_option maxRecDepth 100000 in
theorem c_X7_stop {n : Nat} (hn : NN n) {M : Mm} : CT yX7_stop cX7_stop 1 none ({ frames := 0, cells := 0, slots := 0, locals := 0 }) n [.ref 47] M (rV (stM M 47 1 (M 47 0))) := by
  refine CT.of (lv0 := [(0, .ref 47)]) (by decide +kernel) hn (fun _ => rfl) (fun _ => Nat.le_of_ble_eq_true rfl) (fun X cx cs qx => ?_)
  have cx : Cx X cX7_stop RX7 ({ frames := 0, cells := 0, slots := 0, locals := 0 }) 1 n := cx
  refine g_aload_n cx (pc2 := 1) 0 rfl dX7_stop_0 rfl ?_
  refine g_aload_n cx (pc2 := 2) 0 rfl dX7_stop_1 rfl ?_
  refine g_get cx (pc2 := 5) (ci := 7) (k0 := 47) (j := 0) (v := .int (iI (M 47 0))) rfl iwX7 rfl (lt_lit hn (Nat.le_of_ble_eq_true rfl)) rfl (Nat.le_of_ble_eq_true rfl) kf_X7_9 rfl rfl dX7_stop_2 rfl ?_
  refine g_puti cx (pc2 := 8) (ci := 7) (k0 := 47) (j := 1) rfl iwX7 rfl (lt_lit hn (Nat.le_of_ble_eq_true rfl)) rfl (Nat.le_of_ble_eq_true rfl) kf_X7_15 rfl tyX7_ok nmX7 rfl rfl dX7_stop_5 rfl ?_
  exact g_vret cx qx dX7_stop_8 ⟨rfl, by rfl⟩
set_option maxHeartbeats 4000000 in
set_option maxRecDepth 100000 in
theorem c_X7_kindOf {n : Nat} (hn : NN n) {M : Mm} (s : Int) (hs : ir s) : CT yX7_kindOf cX7_kindOf 2 (some .int) ({ frames := 0, cells := 0, slots := 0, locals := 0 }) n [.int (iI s)] M (rI (kdO s) M) := by
  refine CT.of (lv0 := [(0, .int (iI s))]) (by decide +kernel) hn (fun _ => rfl) (fun _ => Nat.le_of_ble_eq_true rfl) (fun X cx cs qx => ?_)
  have cx : Cx X cX7_kindOf RX7 ({ frames := 0, cells := 0, slots := 0, locals := 0 }) 2 n := cx
  refine g_iconst cx (pc2 := 1) dX7_kindOf_0 rfl ?_
  refine g_istore_n cx (pc2 := 2) (lv2 := [(0, .int (iI s)), (1, .int (iI 0))]) rfl (Nat.le_of_ble_eq_true rfl) dX7_kindOf_1 rfl ?_
  have L2 : ∀ (fu : Nat) (i : Int), (0 ≤ i ∧ i ≤ 6) → (∀ j : Nat, (j : Int) < i → ¬ NLt j = s) → (6 - i).toNat ≤ fu → G X 2 [(0, .int (iI s)), (1, .int (iI i))] [] M := by
    intro fu
    induction fu using Nat.strongRecOn with
    | _ fu ih2 =>
      intro i hi hno hk2
      have hrb := NLt_b i.toNat
      refine g_iload_n cx (pc2 := 3) 1 rfl dX7_kindOf_2 rfl ?_
      refine g_getsNLN cx (pc2 := 6) kf_X7_97 dX7_kindOf_3 rfl ?_
      refine g_slenNL cx (pc2 := 7) dX7_kindOf_6 rfl ?_
      refine g_icmp_ge cx (pc2 := 10) (tgt := 27) ⟨(by first | assumption | omega), ⟨by decide, by decide⟩⟩ dX7_kindOf_7 (by decide) rfl (fun h_1 => ?_) (fun h_1 => ?_)
      · skip
        refine g_bipush cx (pc2 := 29) ⟨by decide, by decide⟩ dX7_kindOf_27 rfl ?_
        exact g_iret cx qx dX7_kindOf_29 ⟨congrArg (fun q => some (Value.int (iI q))) (by rw [kdO_no (fun j hj => hno j (by omega))]), by rfl⟩
      · skip
        refine g_getsNLN cx (pc2 := 13) kf_X7_97 dX7_kindOf_10 rfl ?_
        refine g_iload_n cx (pc2 := 14) 1 rfl dX7_kindOf_13 rfl ?_
        refine g_caldNL cx (pc2 := 15) (by first | assumption | omega) (by first | assumption | omega) dX7_kindOf_14 rfl ?_
        refine g_iload_n cx (pc2 := 16) 0 rfl dX7_kindOf_15 rfl ?_
        refine g_icmp_ne cx (pc2 := 19) (tgt := 21) ⟨(by first | assumption | omega), (by first | assumption | omega)⟩ dX7_kindOf_16 (by decide) rfl (fun h_2 => ?_) (fun h_2 => ?_)
        · skip
          refine g_iinc cx (pc2 := 24) 1 rfl (lv2 := [(0, .int (iI s)), (1, .int (iI (i + 1)))]) rfl (Nat.le_of_ble_eq_true rfl) dX7_kindOf_21 rfl ?_
          refine g_goto cx (tgt := 2) dX7_kindOf_24 (by decide) ?_
          exact ih2 ((6 - (i + 1)).toNat) (by omega) (i + 1) (by first | assumption | omega) (by intro j hj; rcases (show (j : Int) < i ∨ j = i.toNat by omega) with q | q; exact hno j q; subst q; assumption) (Nat.le_refl _)
        · skip
          refine g_iload_n cx (pc2 := 20) 1 rfl dX7_kindOf_19 rfl ?_
          exact g_iret cx qx dX7_kindOf_20 ⟨congrArg (fun q => some (Value.int (iI q))) (by have e := h_2; have e2 := kdO_at (i := i.toNat) (by omega); rw [e] at e2; omega), by rfl⟩
  exact L2 _ 0 (by first | assumption | omega) (by intro j hj; omega) (Nat.le_refl _)
set_option maxHeartbeats 4000000 in
set_option maxRecDepth 100000 in
theorem c_X7_figureHere {n : Nat} (hn : NN n) {M : Mm} {o : Nat} (ho : isRowO o) {c : Int → Int} (hx : TX M o c) (hpl : 0 ≤ M 47 0 ∧ M 47 0 ≤ 2000) : CT yX7_figureHere cX7_figureHere 3 (some .int) ({ frames := 2, cells := 0, slots := 0, locals := 42 }) n [.ref 47, .ref o] M (rI (fgH (c (M 47 0))) M) := by
  refine CT.of (lv0 := [(0, .ref 47), (1, .ref o)]) (by decide +kernel) hn (fun _ => rfl) (fun _ => Nat.le_of_ble_eq_true rfl) (fun X cx cs qx => ?_)
  have cx : Cx X cX7_figureHere RX7 ({ frames := 2, cells := 0, slots := 0, locals := 42 }) 3 n := cx
  have hcx := hx.2.2 (M 47 0)
  have hcb := TX_b hx (M 47 0)
  refine g_aload_n cx (pc2 := 1) 1 rfl dX7_figureHere_0 rfl ?_
  refine g_aload_n cx (pc2 := 2) 0 rfl dX7_figureHere_1 rfl ?_
  refine g_get cx (pc2 := 5) (ci := 7) (k0 := 47) (j := 0) (v := .int (iI (M 47 0))) rfl iwX7 rfl (lt_lit hn (Nat.le_of_ble_eq_true rfl)) rfl (Nat.le_of_ble_eq_true rfl) kf_X7_9 rfl rfl dX7_figureHere_2 rfl ?_
  refine g_callV cx (pc2 := 8) (st := []) (As := [.int (iI (M 47 0))]) (k0 := o) (ci := 8) (c_X8_cell (M := M) hn (by first | assumption | omega) (by first | assumption | omega) (M 47 0) (by first | assumption | omega)) wM_X8_cell wV_X8_cell kl_X7_29 (sh_row ho) (by first | (exact kn_row hn ho) | (exact kn_row1 hn ho) | omega) rfl ⟨rfl, rfl, Nat.le_of_ble_eq_true rfl, Nat.le_of_ble_eq_true rfl⟩ (Nat.le_of_ble_eq_true rfl) cs rfl rfl dX7_figureHere_5 rfl ?_
  rintro _ _ ⟨rfl, rfl⟩
  refine g_rwi (y := iI (c (M 47 0))) (congrArg iI (hx.2.2 _)) ?_
  refine g_istore_n cx (pc2 := 9) (lv2 := [(0, .ref 47), (1, .ref o), (2, .int (iI (c (M 47 0))))]) rfl (Nat.le_of_ble_eq_true rfl) dX7_figureHere_8 rfl ?_
  refine g_iload_n cx (pc2 := 10) 2 rfl dX7_figureHere_9 rfl ?_
  refine g_bipush cx (pc2 := 12) ⟨by decide, by decide⟩ dX7_figureHere_10 rfl ?_
  refine g_icmp_lt cx (pc2 := 15) (tgt := 28) ⟨(by first | assumption | omega), ⟨by decide, by decide⟩⟩ dX7_figureHere_12 (by decide) rfl (fun h_1 => ?_) (fun h_1 => ?_)
  · skip
    refine g_bipush cx (pc2 := 30) ⟨by decide, by decide⟩ dX7_figureHere_28 rfl ?_
    exact g_iret cx qx dX7_figureHere_30 ⟨congrArg (fun q => some (Value.int (iI q))) (by unfold fgH; first | (rw [if_pos (by omega)]; done) | (rw [if_neg (by omega)]; done)), by rfl⟩
  · skip
    refine g_iload_n cx (pc2 := 16) 2 rfl dX7_figureHere_15 rfl ?_
    refine g_bipush cx (pc2 := 18) ⟨by decide, by decide⟩ dX7_figureHere_16 rfl ?_
    refine g_icmp_gt cx (pc2 := 21) (tgt := 28) ⟨(by first | assumption | omega), ⟨by decide, by decide⟩⟩ dX7_figureHere_18 (by decide) rfl (fun h_2 => ?_) (fun h_2 => ?_)
    · skip
      refine g_bipush cx (pc2 := 30) ⟨by decide, by decide⟩ dX7_figureHere_28 rfl ?_
      exact g_iret cx qx dX7_figureHere_30 ⟨congrArg (fun q => some (Value.int (iI q))) (by unfold fgH; first | (rw [if_pos (by omega)]; done) | (rw [if_neg (by omega)]; done)), by rfl⟩
    · skip
      refine g_iload_n cx (pc2 := 22) 2 rfl dX7_figureHere_21 rfl ?_
      refine g_bipush cx (pc2 := 24) ⟨by decide, by decide⟩ dX7_figureHere_22 rfl ?_
      refine g_isub cx (pc2 := 25) dX7_figureHere_24 rfl ?_
      refine g_goto cx (tgt := 30) dX7_figureHere_25 (by decide) ?_
      exact g_iret cx qx dX7_figureHere_30 ⟨congrArg (fun q => some (Value.int (iI q))) (by unfold fgH; first | (rw [if_pos (by omega)]; done) | (rw [if_neg (by omega)]; done)), by rfl⟩
set_option maxHeartbeats 4000000 in
set_option maxRecDepth 100000 in
theorem c_X7_readSign {n : Nat} (hn : NN n) {M : Mm} {o : Nat} (ho : isRowO o) {c : Int → Int} (hx : TX M o c) (hpl : 0 ≤ M 47 0 ∧ M 47 0 ≤ 2000) (s : Int) (hs : ir s) : CT yX7_readSign cX7_readSign 3 (some .boolean) ({ frames := 2, cells := 0, slots := 0, locals := 42 }) n [.ref 47, .ref o, .int (iI s)] M (rI (b2 (c (M 47 0) = s)) (sgM c M s)) := by
  refine CT.of (lv0 := [(0, .ref 47), (1, .ref o), (2, .int (iI s))]) (by decide +kernel) hn (fun _ => rfl) (fun _ => Nat.le_of_ble_eq_true rfl) (fun X cx cs qx => ?_)
  have cx : Cx X cX7_readSign RX7 ({ frames := 2, cells := 0, slots := 0, locals := 42 }) 3 n := cx
  have hcx := hx.2.2 (M 47 0)
  have hcb := TX_b hx (M 47 0)
  refine g_aload_n cx (pc2 := 1) 1 rfl dX7_readSign_0 rfl ?_
  refine g_aload_n cx (pc2 := 2) 0 rfl dX7_readSign_1 rfl ?_
  refine g_get cx (pc2 := 5) (ci := 7) (k0 := 47) (j := 0) (v := .int (iI (M 47 0))) rfl iwX7 rfl (lt_lit hn (Nat.le_of_ble_eq_true rfl)) rfl (Nat.le_of_ble_eq_true rfl) kf_X7_9 rfl rfl dX7_readSign_2 rfl ?_
  refine g_callV cx (pc2 := 8) (st := []) (As := [.int (iI (M 47 0))]) (k0 := o) (ci := 8) (c_X8_cell (M := M) hn (by first | assumption | omega) (by first | assumption | omega) (M 47 0) (by first | assumption | omega)) wM_X8_cell wV_X8_cell kl_X7_29 (sh_row ho) (by first | (exact kn_row hn ho) | (exact kn_row1 hn ho) | omega) rfl ⟨rfl, rfl, Nat.le_of_ble_eq_true rfl, Nat.le_of_ble_eq_true rfl⟩ (Nat.le_of_ble_eq_true rfl) cs rfl rfl dX7_readSign_5 rfl ?_
  rintro _ _ ⟨rfl, rfl⟩
  refine g_rwi (y := iI (c (M 47 0))) (congrArg iI (hx.2.2 _)) ?_
  refine g_iload_n cx (pc2 := 9) 2 rfl dX7_readSign_8 rfl ?_
  refine g_icmp_eq cx (pc2 := 12) (tgt := 18) ⟨(by first | assumption | omega), (by first | assumption | omega)⟩ dX7_readSign_9 (by decide) rfl (fun h_1 => ?_) (fun h_1 => ?_)
  · skip
    refine g_aload_n cx (pc2 := 19) 0 rfl dX7_readSign_18 rfl ?_
    refine g_dup cx (pc2 := 20) rfl dX7_readSign_19 rfl ?_
    refine g_get cx (pc2 := 23) (ci := 7) (k0 := 47) (j := 0) (v := .int (iI (M 47 0))) rfl iwX7 rfl (lt_lit hn (Nat.le_of_ble_eq_true rfl)) rfl (Nat.le_of_ble_eq_true rfl) kf_X7_9 rfl rfl dX7_readSign_20 rfl ?_
    refine g_iconst cx (pc2 := 24) dX7_readSign_23 rfl ?_
    refine g_iadd cx (pc2 := 25) dX7_readSign_24 rfl ?_
    refine g_puti cx (pc2 := 28) (ci := 7) (k0 := 47) (j := 0) rfl iwX7 rfl (lt_lit hn (Nat.le_of_ble_eq_true rfl)) rfl (Nat.le_of_ble_eq_true rfl) kf_X7_9 rfl tyX7_ok nmX7 rfl rfl dX7_readSign_25 rfl ?_
    refine g_iconst cx (pc2 := 29) dX7_readSign_28 rfl ?_
    exact g_zret cx (Or.inr rfl) qx dX7_readSign_29 ⟨rb_t (by first | assumption | omega), by unfold sgM; first | (rw [if_pos (by assumption)]; done) | (rw [if_neg (by assumption)]; done)⟩
  · skip
    refine g_aload_n cx (pc2 := 13) 0 rfl dX7_readSign_12 rfl ?_
    refine g_callV cx (pc2 := 16) (st := []) (As := []) (k0 := 47) (ci := 7) (c_X7_stop (M := M) hn) wM_X7_stop wV_X7_stop kl_X7_43 rfl (lt_lit hn (Nat.le_of_ble_eq_true rfl)) rfl ⟨rfl, rfl, Nat.le_of_ble_eq_true rfl, Nat.le_of_ble_eq_true rfl⟩ (Nat.le_of_ble_eq_true rfl) cs rfl rfl dX7_readSign_13 rfl ?_
    rintro _ _ ⟨rfl, rfl⟩
    refine g_iconst cx (pc2 := 17) dX7_readSign_16 rfl ?_
    exact g_zret cx (Or.inl rfl) qx dX7_readSign_17 ⟨rb_f (by first | assumption | omega), by unfold sgM; first | (rw [if_pos (by assumption)]; done) | (rw [if_neg (by assumption)]; done)⟩
set_option maxHeartbeats 4000000 in
set_option maxRecDepth 100000 in
theorem c_X7_readFigure {n : Nat} (hn : NN n) {M : Mm} {o : Nat} (ho : isRowO o) {c : Int → Int} (hx : TX M o c) (hpl : 0 ≤ M 47 0 ∧ M 47 0 ≤ 1000) (q : Int) (hq : ir q) : CT yX7_readFigure cX7_readFigure 4 (some .int) ({ frames := 3, cells := 0, slots := 0, locals := 64 }) n [.ref 47, .ref o, .int (iI q)] M (pI (fun z M2 => z = rfV c (M 47 0) q ∧ M2 = rdM M z (if z = -9 then M 47 0 else M 47 0 + 1))) := by
  refine CT.of (lv0 := [(0, .ref 47), (1, .ref o), (2, .int (iI q))]) (by decide +kernel) hn (fun _ => rfl) (fun _ => Nat.le_of_ble_eq_true rfl) (fun X cx cs qx => ?_)
  have cx : Cx X cX7_readFigure RX7 ({ frames := 3, cells := 0, slots := 0, locals := 64 }) 4 n := cx
  have hf1 := fgH_b (c (M 47 0))
  have hf2 := fgH_b (c (M 47 0 + 1))
  refine g_aload_n cx (pc2 := 1) 0 rfl dX7_readFigure_0 rfl ?_
  refine g_aload_n cx (pc2 := 2) 1 rfl dX7_readFigure_1 rfl ?_
  refine g_callV cx (pc2 := 5) (st := []) (As := [.ref o]) (k0 := 47) (ci := 7) (c_X7_figureHere (M := M) hn (by first | assumption | omega) (by first | assumption | omega) (by first | assumption | omega)) wM_X7_figureHere wV_X7_figureHere kl_X7_101 rfl (lt_lit hn (Nat.le_of_ble_eq_true rfl)) rfl ⟨rfl, rfl, Nat.le_of_ble_eq_true rfl, Nat.le_of_ble_eq_true rfl⟩ (Nat.le_of_ble_eq_true rfl) cs rfl rfl dX7_readFigure_2 rfl ?_
  rintro _ _ ⟨rfl, rfl⟩
  refine g_istore_n cx (pc2 := 6) (lv2 := [(0, .ref 47), (1, .ref o), (2, .int (iI q)), (3, .int (iI (fgH (c (M 47 0)))))]) rfl (Nat.le_of_ble_eq_true rfl) dX7_readFigure_5 rfl ?_
  refine g_iload_n cx (pc2 := 7) 3 rfl dX7_readFigure_6 rfl ?_
  refine g_iconst cx (pc2 := 8) dX7_readFigure_7 rfl ?_
  refine g_icmp_lt cx (pc2 := 11) (tgt := 16) ⟨(by first | assumption | omega), ⟨by decide, by decide⟩⟩ dX7_readFigure_8 (by decide) rfl (fun h_1 => ?_) (fun h_1 => ?_)
  · skip
    refine g_aload_n cx (pc2 := 17) 0 rfl dX7_readFigure_16 rfl ?_
    refine g_callV cx (pc2 := 20) (st := []) (As := []) (k0 := 47) (ci := 7) (c_X7_stop (M := M) hn) wM_X7_stop wV_X7_stop kl_X7_43 rfl (lt_lit hn (Nat.le_of_ble_eq_true rfl)) rfl ⟨rfl, rfl, Nat.le_of_ble_eq_true rfl, Nat.le_of_ble_eq_true rfl⟩ (Nat.le_of_ble_eq_true rfl) cs rfl rfl dX7_readFigure_17 rfl ?_
    rintro _ _ ⟨rfl, rfl⟩
    refine g_bipush cx (pc2 := 22) ⟨by decide, by decide⟩ dX7_readFigure_20 rfl ?_
    exact g_iret cx qx dX7_readFigure_22 ⟨_, rfl, by first | (refine ⟨by unfold rfV; rw [if_neg (by omega)], ?_⟩; rw [rdM_t rfl, if_pos rfl, stM_self]; done) | (refine ⟨by unfold rfV; rw [if_pos (by omega)], ?_⟩; rw [rdM_f (by omega), if_neg (by omega)]; done)⟩
  · skip
    refine g_iload_n cx (pc2 := 12) 3 rfl dX7_readFigure_11 rfl ?_
    refine g_iload_n cx (pc2 := 13) 2 rfl dX7_readFigure_12 rfl ?_
    refine g_icmp_le cx (pc2 := 16) (tgt := 23) ⟨(by first | assumption | omega), (by first | assumption | omega)⟩ dX7_readFigure_13 (by decide) rfl (fun h_2 => ?_) (fun h_2 => ?_)
    · skip
      refine g_aload_n cx (pc2 := 24) 0 rfl dX7_readFigure_23 rfl ?_
      refine g_dup cx (pc2 := 25) rfl dX7_readFigure_24 rfl ?_
      refine g_get cx (pc2 := 28) (ci := 7) (k0 := 47) (j := 0) (v := .int (iI (M 47 0))) rfl iwX7 rfl (lt_lit hn (Nat.le_of_ble_eq_true rfl)) rfl (Nat.le_of_ble_eq_true rfl) kf_X7_9 rfl rfl dX7_readFigure_25 rfl ?_
      refine g_iconst cx (pc2 := 29) dX7_readFigure_28 rfl ?_
      refine g_iadd cx (pc2 := 30) dX7_readFigure_29 rfl ?_
      refine g_puti cx (pc2 := 33) (ci := 7) (k0 := 47) (j := 0) rfl iwX7 rfl (lt_lit hn (Nat.le_of_ble_eq_true rfl)) rfl (Nat.le_of_ble_eq_true rfl) kf_X7_9 rfl tyX7_ok nmX7 rfl rfl dX7_readFigure_30 rfl ?_
      refine g_iload_n cx (pc2 := 34) 3 rfl dX7_readFigure_33 rfl ?_
      exact g_iret cx qx dX7_readFigure_34 ⟨_, rfl, by first | (refine ⟨by unfold rfV; rw [if_neg (by omega)], ?_⟩; rw [rdM_t rfl, if_pos rfl, stM_self]; done) | (refine ⟨by unfold rfV; rw [if_pos (by omega)], ?_⟩; rw [rdM_f (by omega), if_neg (by omega)]; done)⟩
    · skip
      refine g_aload_n cx (pc2 := 17) 0 rfl dX7_readFigure_16 rfl ?_
      refine g_callV cx (pc2 := 20) (st := []) (As := []) (k0 := 47) (ci := 7) (c_X7_stop (M := M) hn) wM_X7_stop wV_X7_stop kl_X7_43 rfl (lt_lit hn (Nat.le_of_ble_eq_true rfl)) rfl ⟨rfl, rfl, Nat.le_of_ble_eq_true rfl, Nat.le_of_ble_eq_true rfl⟩ (Nat.le_of_ble_eq_true rfl) cs rfl rfl dX7_readFigure_17 rfl ?_
      rintro _ _ ⟨rfl, rfl⟩
      refine g_bipush cx (pc2 := 22) ⟨by decide, by decide⟩ dX7_readFigure_20 rfl ?_
      exact g_iret cx qx dX7_readFigure_22 ⟨_, rfl, by first | (refine ⟨by unfold rfV; rw [if_neg (by omega)], ?_⟩; rw [rdM_t rfl, if_pos rfl, stM_self]; done) | (refine ⟨by unfold rfV; rw [if_pos (by omega)], ?_⟩; rw [rdM_f (by omega), if_neg (by omega)]; done)⟩
set_option maxHeartbeats 4000000 in
set_option maxRecDepth 100000 in
theorem c_X7_readNumber {n : Nat} (hn : NN n) {M : Mm} {o : Nat} (ho : isRowO o) {c : Int → Int} (hx : TX M o c) (hpl : 0 ≤ M 47 0 ∧ M 47 0 ≤ 1000) (q : Int) (hq : ir q) : CT yX7_readNumber cX7_readNumber 5 (some .int) ({ frames := 3, cells := 0, slots := 0, locals := 64 }) n [.ref 47, .ref o, .int (iI q)] M (pI (fun z M2 => z = rnV c (M 47 0) q ∧ M2 = rdM M z (rnP c (M 47 0)))) := by
  refine CT.of (lv0 := [(0, .ref 47), (1, .ref o), (2, .int (iI q))]) (by decide +kernel) hn (fun _ => rfl) (fun _ => Nat.le_of_ble_eq_true rfl) (fun X cx cs qx => ?_)
  have cx : Cx X cX7_readNumber RX7 ({ frames := 3, cells := 0, slots := 0, locals := 64 }) 5 n := cx
  have hf1 := fgH_b (c (M 47 0))
  have hf2 := fgH_b (c (M 47 0 + 1))
  refine g_aload_n cx (pc2 := 1) 0 rfl dX7_readNumber_0 rfl ?_
  refine g_aload_n cx (pc2 := 2) 1 rfl dX7_readNumber_1 rfl ?_
  refine g_callV cx (pc2 := 5) (st := []) (As := [.ref o]) (k0 := 47) (ci := 7) (c_X7_figureHere (M := M) hn (by first | assumption | omega) (by first | exact hx | exact TX_st ho hx (by decide)) (by first | assumption | omega | (rw [stM_at]; omega))) wM_X7_figureHere wV_X7_figureHere kl_X7_101 rfl (lt_lit hn (Nat.le_of_ble_eq_true rfl)) rfl ⟨rfl, rfl, Nat.le_of_ble_eq_true rfl, Nat.le_of_ble_eq_true rfl⟩ (Nat.le_of_ble_eq_true rfl) cs rfl rfl dX7_readNumber_2 rfl ?_
  rintro _ _ ⟨rfl, rfl⟩
  refine g_istore_n cx (pc2 := 6) (lv2 := [(0, .ref 47), (1, .ref o), (2, .int (iI q)), (3, .int (iI (fgH (c (M 47 0)))))]) rfl (Nat.le_of_ble_eq_true rfl) dX7_readNumber_5 rfl ?_
  refine g_iload_n cx (pc2 := 7) 3 rfl dX7_readNumber_6 rfl ?_
  refine g_bipush cx (pc2 := 9) ⟨by decide, by decide⟩ dX7_readNumber_7 rfl ?_
  refine g_icmp_ne cx (pc2 := 12) (tgt := 19) ⟨(by first | assumption | omega), ⟨by decide, by decide⟩⟩ dX7_readNumber_9 (by decide) rfl (fun h_1 => ?_) (fun h_1 => ?_)
  · skip
    refine g_aload_n cx (pc2 := 20) 0 rfl dX7_readNumber_19 rfl ?_
    refine g_dup cx (pc2 := 21) rfl dX7_readNumber_20 rfl ?_
    refine g_get cx (pc2 := 24) (ci := 7) (k0 := 47) (j := 0) (v := .int (iI (M 47 0))) rfl iwX7 rfl (lt_lit hn (Nat.le_of_ble_eq_true rfl)) rfl (Nat.le_of_ble_eq_true rfl) kf_X7_9 rfl rfl dX7_readNumber_21 rfl ?_
    refine g_iconst cx (pc2 := 25) dX7_readNumber_24 rfl ?_
    refine g_iadd cx (pc2 := 26) dX7_readNumber_25 rfl ?_
    refine g_puti cx (pc2 := 29) (ci := 7) (k0 := 47) (j := 0) rfl iwX7 rfl (lt_lit hn (Nat.le_of_ble_eq_true rfl)) rfl (Nat.le_of_ble_eq_true rfl) kf_X7_9 rfl tyX7_ok nmX7 rfl rfl dX7_readNumber_26 rfl ?_
    refine g_aload_n cx (pc2 := 30) 0 rfl dX7_readNumber_29 rfl ?_
    refine g_aload_n cx (pc2 := 31) 1 rfl dX7_readNumber_30 rfl ?_
    refine g_callV cx (pc2 := 34) (st := []) (As := [.ref o]) (k0 := 47) (ci := 7) (c_X7_figureHere (M := (stM M 47 0 ((M 47 0) + 1))) hn (by first | assumption | omega) (by first | exact hx | exact TX_st ho hx (by decide)) (by first | assumption | omega | (rw [stM_at]; omega))) wM_X7_figureHere wV_X7_figureHere kl_X7_101 rfl (lt_lit hn (Nat.le_of_ble_eq_true rfl)) rfl ⟨rfl, rfl, Nat.le_of_ble_eq_true rfl, Nat.le_of_ble_eq_true rfl⟩ (Nat.le_of_ble_eq_true rfl) cs rfl rfl dX7_readNumber_31 rfl ?_
    rintro _ _ ⟨rfl, rfl⟩
    refine g_rwi (y := iI (fgH (c (M 47 0 + 1)))) (congrArg (fun q => iI (fgH (c q))) (stM_at _ _ _ _)) ?_
    refine g_istore cx (pc2 := 36) (lv2 := [(0, .ref 47), (1, .ref o), (2, .int (iI q)), (3, .int (iI (fgH (c (M 47 0))))), (4, .int (iI (fgH (c (M 47 0 + 1)))))]) rfl (Nat.le_of_ble_eq_true rfl) dX7_readNumber_34 rfl ?_
    refine g_iload cx (pc2 := 38) 4 rfl dX7_readNumber_36 rfl ?_
    refine g_bipush cx (pc2 := 40) ⟨by decide, by decide⟩ dX7_readNumber_38 rfl ?_
    refine g_icmp_eq cx (pc2 := 43) (tgt := 61) ⟨(by first | assumption | omega), ⟨by decide, by decide⟩⟩ dX7_readNumber_40 (by decide) rfl (fun h_2 => ?_) (fun h_2 => ?_)
    · skip
      refine g_iload_n cx (pc2 := 62) 3 rfl dX7_readNumber_61 rfl ?_
      refine g_iload_n cx (pc2 := 63) 2 rfl dX7_readNumber_62 rfl ?_
      refine g_icmp_le cx (pc2 := 66) (tgt := 73) ⟨(by first | assumption | omega), (by first | assumption | omega)⟩ dX7_readNumber_63 (by decide) rfl (fun h_3 => ?_) (fun h_3 => ?_)
      · skip
        refine g_iload_n cx (pc2 := 74) 3 rfl dX7_readNumber_73 rfl ?_
        exact g_iret cx qx dX7_readNumber_74 ⟨_, rfl, by first | (have g := rnA (p := M 47 0) q (by assumption); rw [g.1, g.2]; exact ⟨rfl, by rw [rdM_t rfl, stM_self]⟩) | (have g := rnB (p := M 47 0) (q := q) (by assumption) (by assumption); rw [g.1, g.2]; first | (rw [if_neg (by omega)]; exact ⟨rfl, (rdM_t rfl).symm⟩) | (rw [if_pos (by omega)]; exact ⟨rfl, (rdM_f (by omega)).symm⟩)) | (have g := rnC (p := M 47 0) (q := q) (by assumption) (by assumption); rw [g.1, g.2]; first | (rw [if_neg (by omega)]; exact ⟨rfl, (rdM_t rfl).symm⟩) | (rw [if_pos (by omega)]; exact ⟨rfl, (rdM_f (by omega)).symm⟩))⟩
      · skip
        refine g_aload_n cx (pc2 := 67) 0 rfl dX7_readNumber_66 rfl ?_
        refine g_callV cx (pc2 := 70) (st := []) (As := []) (k0 := 47) (ci := 7) (c_X7_stop (M := (stM M 47 0 ((M 47 0) + 1))) hn) wM_X7_stop wV_X7_stop kl_X7_43 rfl (lt_lit hn (Nat.le_of_ble_eq_true rfl)) rfl ⟨rfl, rfl, Nat.le_of_ble_eq_true rfl, Nat.le_of_ble_eq_true rfl⟩ (Nat.le_of_ble_eq_true rfl) cs rfl rfl dX7_readNumber_67 rfl ?_
        rintro _ _ ⟨rfl, rfl⟩
        refine g_bipush cx (pc2 := 72) ⟨by decide, by decide⟩ dX7_readNumber_70 rfl ?_
        exact g_iret cx qx dX7_readNumber_72 ⟨_, rfl, by first | (have g := rnA (p := M 47 0) q (by assumption); rw [g.1, g.2]; exact ⟨rfl, by rw [rdM_t rfl, stM_self]⟩) | (have g := rnB (p := M 47 0) (q := q) (by assumption) (by assumption); rw [g.1, g.2]; first | (rw [if_neg (by omega)]; exact ⟨rfl, (rdM_t rfl).symm⟩) | (rw [if_pos (by omega)]; exact ⟨rfl, (rdM_f (by omega)).symm⟩)) | (have g := rnC (p := M 47 0) (q := q) (by assumption) (by assumption); rw [g.1, g.2]; first | (rw [if_neg (by omega)]; exact ⟨rfl, (rdM_t rfl).symm⟩) | (rw [if_pos (by omega)]; exact ⟨rfl, (rdM_f (by omega)).symm⟩))⟩
    · skip
      refine g_bipush cx (pc2 := 45) ⟨by decide, by decide⟩ dX7_readNumber_43 rfl ?_
      refine g_iload_n cx (pc2 := 46) 3 rfl dX7_readNumber_45 rfl ?_
      refine g_imul cx (pc2 := 47) dX7_readNumber_46 rfl ?_
      refine g_iload cx (pc2 := 49) 4 rfl dX7_readNumber_47 rfl ?_
      refine g_iadd cx (pc2 := 50) dX7_readNumber_49 rfl ?_
      refine g_istore_n cx (pc2 := 51) (lv2 := [(0, .ref 47), (1, .ref o), (2, .int (iI q)), (3, .int (iI ((10 * (fgH (c (M 47 0)))) + (fgH (c (M 47 0 + 1)))))), (4, .int (iI (fgH (c (M 47 0 + 1)))))]) rfl (Nat.le_of_ble_eq_true rfl) dX7_readNumber_50 rfl ?_
      refine g_aload_n cx (pc2 := 52) 0 rfl dX7_readNumber_51 rfl ?_
      refine g_dup cx (pc2 := 53) rfl dX7_readNumber_52 rfl ?_
      refine g_get cx (pc2 := 56) (ci := 7) (k0 := 47) (j := 0) (v := .int (iI ((M 47 0) + 1))) rfl iwX7 rfl (lt_lit hn (Nat.le_of_ble_eq_true rfl)) rfl (Nat.le_of_ble_eq_true rfl) kf_X7_9 rfl (congrArg (fun q => Value.int (iI q)) (by simp [stM])) dX7_readNumber_53 rfl ?_
      refine g_iconst cx (pc2 := 57) dX7_readNumber_56 rfl ?_
      refine g_iadd cx (pc2 := 58) dX7_readNumber_57 rfl ?_
      refine g_puti cx (pc2 := 61) (ci := 7) (k0 := 47) (j := 0) rfl iwX7 rfl (lt_lit hn (Nat.le_of_ble_eq_true rfl)) rfl (Nat.le_of_ble_eq_true rfl) kf_X7_9 rfl tyX7_ok nmX7 rfl rfl dX7_readNumber_58 rfl ?_
      refine g_M (M2 := (stM M 47 0 (M 47 0 + 2))) (by rw [stM_ss, show M 47 0 + 1 + 1 = M 47 0 + 2 by omega]) ?_
      refine g_iload_n cx (pc2 := 62) 3 rfl dX7_readNumber_61 rfl ?_
      refine g_iload_n cx (pc2 := 63) 2 rfl dX7_readNumber_62 rfl ?_
      refine g_icmp_le cx (pc2 := 66) (tgt := 73) ⟨(by first | assumption | omega), (by first | assumption | omega)⟩ dX7_readNumber_63 (by decide) rfl (fun h_4 => ?_) (fun h_4 => ?_)
      · skip
        refine g_iload_n cx (pc2 := 74) 3 rfl dX7_readNumber_73 rfl ?_
        exact g_iret cx qx dX7_readNumber_74 ⟨_, rfl, by first | (have g := rnA (p := M 47 0) q (by assumption); rw [g.1, g.2]; exact ⟨rfl, by rw [rdM_t rfl, stM_self]⟩) | (have g := rnB (p := M 47 0) (q := q) (by assumption) (by assumption); rw [g.1, g.2]; first | (rw [if_neg (by omega)]; exact ⟨rfl, (rdM_t rfl).symm⟩) | (rw [if_pos (by omega)]; exact ⟨rfl, (rdM_f (by omega)).symm⟩)) | (have g := rnC (p := M 47 0) (q := q) (by assumption) (by assumption); rw [g.1, g.2]; first | (rw [if_neg (by omega)]; exact ⟨rfl, (rdM_t rfl).symm⟩) | (rw [if_pos (by omega)]; exact ⟨rfl, (rdM_f (by omega)).symm⟩))⟩
      · skip
        refine g_aload_n cx (pc2 := 67) 0 rfl dX7_readNumber_66 rfl ?_
        refine g_callV cx (pc2 := 70) (st := []) (As := []) (k0 := 47) (ci := 7) (c_X7_stop (M := (stM M 47 0 (M 47 0 + 2))) hn) wM_X7_stop wV_X7_stop kl_X7_43 rfl (lt_lit hn (Nat.le_of_ble_eq_true rfl)) rfl ⟨rfl, rfl, Nat.le_of_ble_eq_true rfl, Nat.le_of_ble_eq_true rfl⟩ (Nat.le_of_ble_eq_true rfl) cs rfl rfl dX7_readNumber_67 rfl ?_
        rintro _ _ ⟨rfl, rfl⟩
        refine g_bipush cx (pc2 := 72) ⟨by decide, by decide⟩ dX7_readNumber_70 rfl ?_
        exact g_iret cx qx dX7_readNumber_72 ⟨_, rfl, by first | (have g := rnA (p := M 47 0) q (by assumption); rw [g.1, g.2]; exact ⟨rfl, by rw [rdM_t rfl, stM_self]⟩) | (have g := rnB (p := M 47 0) (q := q) (by assumption) (by assumption); rw [g.1, g.2]; first | (rw [if_neg (by omega)]; exact ⟨rfl, (rdM_t rfl).symm⟩) | (rw [if_pos (by omega)]; exact ⟨rfl, (rdM_f (by omega)).symm⟩)) | (have g := rnC (p := M 47 0) (q := q) (by assumption) (by assumption); rw [g.1, g.2]; first | (rw [if_neg (by omega)]; exact ⟨rfl, (rdM_t rfl).symm⟩) | (rw [if_pos (by omega)]; exact ⟨rfl, (rdM_f (by omega)).symm⟩))⟩
  · skip
    refine g_aload_n cx (pc2 := 13) 0 rfl dX7_readNumber_12 rfl ?_
    refine g_callV cx (pc2 := 16) (st := []) (As := []) (k0 := 47) (ci := 7) (c_X7_stop (M := M) hn) wM_X7_stop wV_X7_stop kl_X7_43 rfl (lt_lit hn (Nat.le_of_ble_eq_true rfl)) rfl ⟨rfl, rfl, Nat.le_of_ble_eq_true rfl, Nat.le_of_ble_eq_true rfl⟩ (Nat.le_of_ble_eq_true rfl) cs rfl rfl dX7_readNumber_13 rfl ?_
    rintro _ _ ⟨rfl, rfl⟩
    refine g_bipush cx (pc2 := 18) ⟨by decide, by decide⟩ dX7_readNumber_16 rfl ?_
    exact g_iret cx qx dX7_readNumber_18 ⟨_, rfl, by first | (have g := rnA (p := M 47 0) q (by assumption); rw [g.1, g.2]; exact ⟨rfl, by rw [rdM_t rfl, stM_self]⟩) | (have g := rnB (p := M 47 0) (q := q) (by assumption) (by assumption); rw [g.1, g.2]; first | (rw [if_neg (by omega)]; exact ⟨rfl, (rdM_t rfl).symm⟩) | (rw [if_pos (by omega)]; exact ⟨rfl, (rdM_f (by omega)).symm⟩)) | (have g := rnC (p := M 47 0) (q := q) (by assumption) (by assumption); rw [g.1, g.2]; first | (rw [if_neg (by omega)]; exact ⟨rfl, (rdM_t rfl).symm⟩) | (rw [if_pos (by omega)]; exact ⟨rfl, (rdM_f (by omega)).symm⟩))⟩
set_option maxHeartbeats 4000000 in
set_option maxRecDepth 100000 in
theorem c_X7_readHouse {n : Nat} (hn : NN n) {M : Mm} {o : Nat} (ho : isRowO o) {c : Int → Int} (hx : TX M o c) (hpl : 0 ≤ M 47 0 ∧ M 47 0 ≤ 200) {la : Nat} (hla : isLaneO la) (hl : LW M la) : CT yX7_readHouse cX7_readHouse 4 none ({ frames := 4, cells := 0, slots := 0, locals := 88 }) n [.ref 47, .ref o, .ref la] M (rV (rhM c la M)) := by
  refine CT.of (lv0 := [(0, .ref 47), (1, .ref o), (2, .ref la)]) (by decide +kernel) hn (fun _ => rfl) (fun _ => Nat.le_of_ble_eq_true rfl) (fun X cx cs qx => ?_)
  have cx : Cx X cX7_readHouse RX7 ({ frames := 4, cells := 0, slots := 0, locals := 88 }) 4 n := cx
  have e0 := rnV_b c (M 47 0 + 1) 15
  refine g_aload_n cx (pc2 := 1) 2 rfl dX7_readHouse_0 rfl ?_
  refine g_getN cx (pc2 := 4) (ci := 2) (k0 := la) (j := 3) (v := .int (iI (M la 3))) rfl iwX2 (sh_lane hla) (by omega) rfl (Nat.le_of_ble_eq_true rfl) kf_X7_40 rfl rfl dX7_readHouse_1 rfl ?_
  refine g_bipush cx (pc2 := 6) ⟨by decide, by decide⟩ dX7_readHouse_4 rfl ?_
  refine g_icmp_lt cx (pc2 := 9) (tgt := 14) ⟨(by first | assumption | omega), ⟨by decide, by decide⟩⟩ dX7_readHouse_6 (by decide) rfl (fun h_1 => ?_) (fun h_1 => ?_)
  · skip
    refine g_aload_n cx (pc2 := 15) 0 rfl dX7_readHouse_14 rfl ?_
    refine g_dup cx (pc2 := 16) rfl dX7_readHouse_15 rfl ?_
    refine g_get cx (pc2 := 19) (ci := 7) (k0 := 47) (j := 0) (v := .int (iI (M 47 0))) rfl iwX7 rfl (lt_lit hn (Nat.le_of_ble_eq_true rfl)) rfl (Nat.le_of_ble_eq_true rfl) kf_X7_9 rfl rfl dX7_readHouse_16 rfl ?_
    refine g_iconst cx (pc2 := 20) dX7_readHouse_19 rfl ?_
    refine g_iadd cx (pc2 := 21) dX7_readHouse_20 rfl ?_
    refine g_puti cx (pc2 := 24) (ci := 7) (k0 := 47) (j := 0) rfl iwX7 rfl (lt_lit hn (Nat.le_of_ble_eq_true rfl)) rfl (Nat.le_of_ble_eq_true rfl) kf_X7_9 rfl tyX7_ok nmX7 rfl rfl dX7_readHouse_21 rfl ?_
    refine g_aload_n cx (pc2 := 25) 0 rfl dX7_readHouse_24 rfl ?_
    refine g_aload_n cx (pc2 := 26) 1 rfl dX7_readHouse_25 rfl ?_
    refine g_bipush cx (pc2 := 28) ⟨by decide, by decide⟩ dX7_readHouse_26 rfl ?_
    refine g_callV cx (pc2 := 31) (st := []) (As := [.ref o, .int (iI 15)]) (k0 := 47) (ci := 7) (c_X7_readNumber (M := (stM M 47 0 ((M 47 0) + 1))) hn (by first | assumption | omega) (by exact TX_st ho hx (by decide)) (by rw [stM_at]; omega) 15 (by first | assumption | omega)) wM_X7_readNumber wV_X7_readNumber kl_X7_46 rfl (lt_lit hn (Nat.le_of_ble_eq_true rfl)) rfl ⟨rfl, rfl, Nat.le_of_ble_eq_true rfl, Nat.le_of_ble_eq_true rfl⟩ (Nat.le_of_ble_eq_true rfl) cs rfl rfl dX7_readHouse_28 rfl ?_
    rintro _ M_2 ⟨z_2, rfl, h_2⟩
    have e28 := h_2
    rw [stM_at, rdM_2] at e28
    have e29 := e28.1
    refine g_istore_n cx (pc2 := 32) (lv2 := [(0, .ref 47), (1, .ref o), (2, .ref la), (3, .int (iI z_2))]) rfl (Nat.le_of_ble_eq_true rfl) dX7_readHouse_31 rfl ?_
    refine g_iload_n cx (pc2 := 33) 3 rfl dX7_readHouse_32 rfl ?_
    refine g_bipush cx (pc2 := 35) ⟨by decide, by decide⟩ dX7_readHouse_33 rfl ?_
    refine g_icmp_eq cx (pc2 := 38) (tgt := 43) ⟨(by first | assumption | omega), ⟨by decide, by decide⟩⟩ dX7_readHouse_35 (by decide) rfl (fun h_3 => ?_) (fun h_3 => ?_)
    · skip
      refine g_M (M2 := (stM (stM M 47 0 (rnP c (M 47 0 + 1))) 47 1 (rnP c (M 47 0 + 1)))) (by rw [e28.2, rdM_t h_3]) ?_
      exact g_vret cx qx dX7_readHouse_43 ⟨rfl, by unfold rhM; first | (rw [if_pos (by omega)]; done) | (rw [if_neg (by omega), if_pos (by omega)]; done) | (rw [if_neg (by omega), if_neg (by omega)]; unfold adH; rw [stM_off (by omega), if_pos (by omega), ← e29]; done)⟩
    · skip
      refine g_M (M2 := (stM M 47 0 (rnP c (M 47 0 + 1)))) (by rw [e28.2, rdM_f h_3]) ?_
      refine g_aload_n cx (pc2 := 39) 2 rfl dX7_readHouse_38 rfl ?_
      refine g_iload_n cx (pc2 := 40) 3 rfl dX7_readHouse_39 rfl ?_
      refine g_callV cx (pc2 := 43) (st := []) (As := [.int (iI z_2)]) (k0 := la) (ci := 2) (c_X2_addHouse (M := (stM M 47 0 (rnP c (M 47 0 + 1)))) hn (by exact hla) (by unfold LW; rw [stM_off (by omega)]; exact hl) z_2) wM_X2_addHouse wV_X2_addHouse kl_X7_50 (sh_lane hla) (by omega) rfl ⟨rfl, rfl, Nat.le_of_ble_eq_true rfl, Nat.le_of_ble_eq_true rfl⟩ (Nat.le_of_ble_eq_true rfl) cs rfl rfl dX7_readHouse_40 rfl ?_
      rintro _ _ ⟨rfl, rfl⟩
      exact g_vret cx qx dX7_readHouse_43 ⟨rfl, by unfold rhM; first | (rw [if_pos (by omega)]; done) | (rw [if_neg (by omega), if_pos (by omega)]; done) | (rw [if_neg (by omega), if_neg (by omega)]; unfold adH; rw [stM_off (by omega), if_pos (by omega), ← e29]; done)⟩
  · skip
    refine g_aload_n cx (pc2 := 10) 0 rfl dX7_readHouse_9 rfl ?_
    refine g_callV cx (pc2 := 13) (st := []) (As := []) (k0 := 47) (ci := 7) (c_X7_stop (M := M) hn) wM_X7_stop wV_X7_stop kl_X7_43 rfl (lt_lit hn (Nat.le_of_ble_eq_true rfl)) rfl ⟨rfl, rfl, Nat.le_of_ble_eq_true rfl, Nat.le_of_ble_eq_true rfl⟩ (Nat.le_of_ble_eq_true rfl) cs rfl rfl dX7_readHouse_10 rfl ?_
    rintro _ _ ⟨rfl, rfl⟩
    exact g_vret cx qx dX7_readHouse_13 ⟨rfl, by unfold rhM; first | (rw [if_pos (by omega)]; done) | (rw [if_neg (by omega), if_pos (by omega)]; done) | (rw [if_neg (by omega), if_neg (by omega)]; unfold adH; rw [stM_off (by omega), if_pos (by omega), ← e29]; done)⟩
set_option maxHeartbeats 4000000 in
set_option maxRecDepth 100000 in
theorem c_X7_readNeed {n : Nat} (hn : NN n) {M : Mm} {o : Nat} (ho : isRowO o) {c : Int → Int} (hx : TX M o c) (hpl : 0 ≤ M 47 0 ∧ M 47 0 ≤ 200) {la : Nat} (hla : isLaneO la) (hl : LW M la) : CT yX7_readNeed cX7_readNeed 10 none ({ frames := 4, cells := 0, slots := 0, locals := 88 }) n [.ref 47, .ref o, .ref la] M (rV (rnM c la M)) := by
  refine CT.of (lv0 := [(0, .ref 47), (1, .ref o), (2, .ref la)]) (by decide +kernel) hn (fun _ => rfl) (fun _ => Nat.le_of_ble_eq_true rfl) (fun X cx cs qx => ?_)
  have cx : Cx X cX7_readNeed RX7 ({ frames := 4, cells := 0, slots := 0, locals := 88 }) 10 n := cx
  have hk0 := kdO_b (c (M 47 0))
  have hcb := TX_b hx (M 47 0)
  have hcb1 := TX_b hx (M 47 0 + 1)
  have hp1 := rnP_b c (M 47 0 + 3)
  have hp2 := rnP_b c (rnP c (M 47 0 + 3) + 1)
  have hv1 := rnV_b c (M 47 0 + 3) 27
  have hv2 := rnV_b c (rnP c (M 47 0 + 3) + 1) 27
  have hv3 := rfV_b c (rnP c (rnP c (M 47 0 + 3) + 1) + 1) 4
  have hv4 := rfV_b c (rnP c (rnP c (M 47 0 + 3) + 1) + 3) 9
  have hlaO : ∀ p, stM M 47 0 p la = M la := fun p => stM_off (by omega)
  refine g_aload_n cx (pc2 := 1) 1 rfl dX7_readNeed_0 rfl ?_
  refine g_aload_n cx (pc2 := 2) 0 rfl dX7_readNeed_1 rfl ?_
  refine g_get cx (pc2 := 5) (ci := 7) (k0 := 47) (j := 0) (v := .int (iI (M 47 0))) rfl iwX7 rfl (lt_lit hn (Nat.le_of_ble_eq_true rfl)) rfl (Nat.le_of_ble_eq_true rfl) kf_X7_9 rfl rfl dX7_readNeed_2 rfl ?_
  refine g_callV cx (pc2 := 8) (st := []) (As := [.int (iI (M 47 0))]) (k0 := o) (ci := 8) (c_X8_cell (M := M) hn (by first | assumption | exact hla) (by first | omega | exact hx.1 | exact (TX_st ho hx (k := 47) (by decide)).1) (M 47 0) (by first | assumption | omega)) wM_X8_cell wV_X8_cell kl_X7_29 (sh_row ho) (by omega) rfl ⟨rfl, rfl, Nat.le_of_ble_eq_true rfl, Nat.le_of_ble_eq_true rfl⟩ (Nat.le_of_ble_eq_true rfl) cs rfl rfl dX7_readNeed_5 rfl ?_
  rintro _ _ ⟨rfl, rfl⟩
  refine g_rwi (y := iI (c (M 47 0))) (congrArg iI (hx.2.2 _)) ?_
  refine g_callS cx (pc2 := 11) (st := []) (As := [.int (iI (c (M 47 0)))]) (c_X7_kindOf (M := M) hn (c (M 47 0)) (by first | omega | exact hx.1 | exact (TX_st ho hx (k := 47) (by decide)).1)) wM_X7_kindOf wS_X7_kindOf kl_X7_54 ⟨rfl, rfl, Nat.le_of_ble_eq_true rfl, Nat.le_of_ble_eq_true rfl⟩ (Nat.le_of_ble_eq_true rfl) cs rfl rfl dX7_readNeed_8 rfl ?_
  rintro _ _ ⟨rfl, rfl⟩
  refine g_istore_n cx (pc2 := 12) (lv2 := [(0, .ref 47), (1, .ref o), (2, .ref la), (3, .int (iI (kdO (c (M 47 0)))))]) rfl (Nat.le_of_ble_eq_true rfl) dX7_readNeed_11 rfl ?_
  refine g_iload_n cx (pc2 := 13) 3 rfl dX7_readNeed_12 rfl ?_
  refine g_bipush cx (pc2 := 15) ⟨by decide, by decide⟩ dX7_readNeed_13 rfl ?_
  refine g_icmp_eq cx (pc2 := 18) (tgt := 27) ⟨(by first | assumption | omega), ⟨by decide, by decide⟩⟩ dX7_readNeed_15 (by decide) rfl (fun h_1 => ?_) (fun h_1 => ?_)
  · skip
    refine g_aload_n cx (pc2 := 28) 0 rfl dX7_readNeed_27 rfl ?_
    refine g_callV cx (pc2 := 31) (st := []) (As := []) (k0 := 47) (ci := 7) (c_X7_stop (M := M) hn) wM_X7_stop wV_X7_stop kl_X7_43 rfl (lt_lit hn (Nat.le_of_ble_eq_true rfl)) rfl ⟨rfl, rfl, Nat.le_of_ble_eq_true rfl, Nat.le_of_ble_eq_true rfl⟩ (Nat.le_of_ble_eq_true rfl) cs rfl rfl dX7_readNeed_28 rfl ?_
    rintro _ _ ⟨rfl, rfl⟩
    exact g_vret cx qx dX7_readNeed_31 ⟨rfl, by unfold rnM pNd; (repeat (first | rw [if_pos (by first | assumption | omega)] | rw [if_neg (by first | assumption | omega)])); first | rfl | (show stM (stM M 47 0 (M 47 0)) 47 1 (M 47 0) = _; rw [stM_self]; done) | (unfold rnK anM nid; simp only []; rw [hlaO]; subst_vars; rfl)⟩
  · skip
    refine g_aload_n cx (pc2 := 19) 2 rfl dX7_readNeed_18 rfl ?_
    refine g_getN cx (pc2 := 22) (ci := 2) (k0 := la) (j := 4) (v := .int (iI (M la 4))) rfl iwX2 (sh_lane hla) (by omega) rfl (Nat.le_of_ble_eq_true rfl) kf_X7_57 rfl rfl dX7_readNeed_19 rfl ?_
    refine g_bipush cx (pc2 := 24) ⟨by decide, by decide⟩ dX7_readNeed_22 rfl ?_
    refine g_icmp_lt cx (pc2 := 27) (tgt := 32) ⟨(by first | assumption | omega), ⟨by decide, by decide⟩⟩ dX7_readNeed_24 (by decide) rfl (fun h_2 => ?_) (fun h_2 => ?_)
    · skip
      refine g_aload_n cx (pc2 := 33) 0 rfl dX7_readNeed_32 rfl ?_
      refine g_dup cx (pc2 := 34) rfl dX7_readNeed_33 rfl ?_
      refine g_get cx (pc2 := 37) (ci := 7) (k0 := 47) (j := 0) (v := .int (iI (M 47 0))) rfl iwX7 rfl (lt_lit hn (Nat.le_of_ble_eq_true rfl)) rfl (Nat.le_of_ble_eq_true rfl) kf_X7_9 rfl rfl dX7_readNeed_34 rfl ?_
      refine g_iconst cx (pc2 := 38) dX7_readNeed_37 rfl ?_
      refine g_iadd cx (pc2 := 39) dX7_readNeed_38 rfl ?_
      refine g_puti cx (pc2 := 42) (ci := 7) (k0 := 47) (j := 0) rfl iwX7 rfl (lt_lit hn (Nat.le_of_ble_eq_true rfl)) rfl (Nat.le_of_ble_eq_true rfl) kf_X7_9 rfl tyX7_ok nmX7 rfl rfl dX7_readNeed_39 rfl ?_
      refine g_aload_n cx (pc2 := 43) 1 rfl dX7_readNeed_42 rfl ?_
      refine g_aload_n cx (pc2 := 44) 0 rfl dX7_readNeed_43 rfl ?_
      refine g_get cx (pc2 := 47) (ci := 7) (k0 := 47) (j := 0) (v := .int (iI ((M 47 0) + 1))) rfl iwX7 rfl (lt_lit hn (Nat.le_of_ble_eq_true rfl)) rfl (Nat.le_of_ble_eq_true rfl) kf_X7_9 rfl (congrArg (fun q => Value.int (iI q)) (by simp [stM])) dX7_readNeed_44 rfl ?_
      refine g_callV cx (pc2 := 50) (st := []) (As := [.int (iI ((M 47 0) + 1))]) (k0 := o) (ci := 8) (c_X8_cell (M := (stM M 47 0 ((M 47 0) + 1))) hn (by first | assumption | exact hla) (by first | omega | exact hx.1 | exact (TX_st ho hx (k := 47) (by decide)).1) ((M 47 0) + 1) (by first | assumption | omega)) wM_X8_cell wV_X8_cell kl_X7_29 (sh_row ho) (by omega) rfl ⟨rfl, rfl, Nat.le_of_ble_eq_true rfl, Nat.le_of_ble_eq_true rfl⟩ (Nat.le_of_ble_eq_true rfl) cs rfl rfl dX7_readNeed_47 rfl ?_
      rintro _ _ ⟨rfl, rfl⟩
      refine g_rwi (y := iI (c (M 47 0 + 1))) (congrArg iI ((TX_st ho hx (by decide)).2.2 _)) ?_
      refine g_bipush cx (pc2 := 52) ⟨by decide, by decide⟩ dX7_readNeed_50 rfl ?_
      refine g_isub cx (pc2 := 53) dX7_readNeed_52 rfl ?_
      refine g_istore cx (pc2 := 55) (lv2 := [(0, .ref 47), (1, .ref o), (2, .ref la), (3, .int (iI (kdO (c (M 47 0))))), (4, .int (iI ((c (M 47 0 + 1)) - 65)))]) rfl (Nat.le_of_ble_eq_true rfl) dX7_readNeed_53 rfl ?_
      refine g_aload_n cx (pc2 := 56) 2 rfl dX7_readNeed_55 rfl ?_
      refine g_iload cx (pc2 := 58) 4 rfl dX7_readNeed_56 rfl ?_
      refine g_callV cx (pc2 := 61) (st := []) (As := [.int (iI ((c (M 47 0 + 1)) - 65))]) (k0 := la) (ci := 2) (c_X2_isHouse (M := (stM M 47 0 ((M 47 0) + 1))) hn (by first | assumption | exact hla) (by unfold LW; rw [hlaO]; exact hl) ((c (M 47 0 + 1)) - 65) (by first | assumption | omega)) wM_X2_isHouse wV_X2_isHouse kl_X7_60 (sh_lane hla) (by omega) rfl ⟨rfl, rfl, Nat.le_of_ble_eq_true rfl, Nat.le_of_ble_eq_true rfl⟩ (Nat.le_of_ble_eq_true rfl) cs rfl rfl dX7_readNeed_58 rfl ?_
      rintro _ _ ⟨rfl, rfl⟩
      refine g_rwi (y := iI (b2 (0 ≤ c (M 47 0 + 1) - 65 ∧ c (M 47 0 + 1) - 65 < M la 3))) (b2_iff (by rw [hlaO])) ?_
      refine g_ifb_ne cx (pc2 := 64) (tgt := 69) dX7_readNeed_61 (by decide) rfl (fun h_3 => ?_) (fun h_3 => ?_)
      · skip
        refine g_aload_n cx (pc2 := 70) 0 rfl dX7_readNeed_69 rfl ?_
        refine g_dup cx (pc2 := 71) rfl dX7_readNeed_70 rfl ?_
        refine g_get cx (pc2 := 74) (ci := 7) (k0 := 47) (j := 0) (v := .int (iI ((M 47 0) + 1))) rfl iwX7 rfl (lt_lit hn (Nat.le_of_ble_eq_true rfl)) rfl (Nat.le_of_ble_eq_true rfl) kf_X7_9 rfl (congrArg (fun q => Value.int (iI q)) (by simp [stM])) dX7_readNeed_71 rfl ?_
        refine g_iconst cx (pc2 := 75) dX7_readNeed_74 rfl ?_
        refine g_iadd cx (pc2 := 76) dX7_readNeed_75 rfl ?_
        refine g_puti cx (pc2 := 79) (ci := 7) (k0 := 47) (j := 0) rfl iwX7 rfl (lt_lit hn (Nat.le_of_ble_eq_true rfl)) rfl (Nat.le_of_ble_eq_true rfl) kf_X7_9 rfl tyX7_ok nmX7 rfl rfl dX7_readNeed_76 rfl ?_
        refine g_M (M2 := (stM M 47 0 (M 47 0 + 2))) (by rw [stM_ss, show M 47 0 + 1 + 1 = M 47 0 + 2 by omega]) ?_
        refine g_aload_n cx (pc2 := 80) 0 rfl dX7_readNeed_79 rfl ?_
        refine g_aload_n cx (pc2 := 81) 1 rfl dX7_readNeed_80 rfl ?_
        refine g_bipush cx (pc2 := 83) ⟨by decide, by decide⟩ dX7_readNeed_81 rfl ?_
        refine g_callV cx (pc2 := 86) (st := []) (As := [.ref o, .int (iI 58)]) (k0 := 47) (ci := 7) (c_X7_readSign (M := (stM M 47 0 (M 47 0 + 2))) hn (by first | assumption | exact hla) (by first | exact hx | exact TX_st ho hx (by decide)) (by first | assumption | omega | (rw [stM_at]; omega)) 58 (by first | omega | exact hx.1 | exact (TX_st ho hx (k := 47) (by decide)).1)) wM_X7_readSign wV_X7_readSign kl_X7_64 rfl (lt_lit hn (Nat.le_of_ble_eq_true rfl)) rfl ⟨rfl, rfl, Nat.le_of_ble_eq_true rfl, Nat.le_of_ble_eq_true rfl⟩ (Nat.le_of_ble_eq_true rfl) cs rfl rfl dX7_readNeed_83 rfl ?_
        rintro _ _ ⟨rfl, rfl⟩
        refine g_rwi (y := iI (b2 (c (M 47 0 + 2) = 58))) (b2_iff (by rw [stM_at])) ?_
        refine g_ifb_eq cx (pc2 := 89) (tgt := 99) dX7_readNeed_86 (by decide) rfl (fun h_4 => ?_) (fun h_4 => ?_)
        · skip
          refine g_M (M2 := (stM (stM M 47 0 (M 47 0 + 2)) 47 1 (M 47 0 + 2))) (by exact sgM_f h_4) ?_
          refine g_bipush cx (pc2 := 101) ⟨by decide, by decide⟩ dX7_readNeed_99 rfl ?_
          refine g_istore cx (pc2 := 103) (lv2 := [(0, .ref 47), (1, .ref o), (2, .ref la), (3, .int (iI (kdO (c (M 47 0))))), (4, .int (iI ((c (M 47 0 + 1)) - 65))), (5, .int (iI (-9)))]) rfl (Nat.le_of_ble_eq_true rfl) dX7_readNeed_101 rfl ?_
          refine g_iload cx (pc2 := 105) 5 rfl dX7_readNeed_103 rfl ?_
          refine g_bipush cx (pc2 := 107) ⟨by decide, by decide⟩ dX7_readNeed_105 rfl ?_
          refine g_icmp_eq cx (pc2 := 110) (tgt := 130) ⟨⟨by decide, by decide⟩, ⟨by decide, by decide⟩⟩ dX7_readNeed_107 (by decide) rfl (fun h_5 => ?_) (fun h_5 => ?_)
          · skip
            refine g_bipush cx (pc2 := 132) ⟨by decide, by decide⟩ dX7_readNeed_130 rfl ?_
            refine g_istore cx (pc2 := 134) (lv2 := [(0, .ref 47), (1, .ref o), (2, .ref la), (3, .int (iI (kdO (c (M 47 0))))), (4, .int (iI ((c (M 47 0 + 1)) - 65))), (5, .int (iI (-9))), (6, .int (iI (-9)))]) rfl (Nat.le_of_ble_eq_true rfl) dX7_readNeed_132 rfl ?_
            refine g_iload cx (pc2 := 136) 6 rfl dX7_readNeed_134 rfl ?_
            refine g_bipush cx (pc2 := 138) ⟨by decide, by decide⟩ dX7_readNeed_136 rfl ?_
            refine g_icmp_eq cx (pc2 := 141) (tgt := 153) ⟨⟨by decide, by decide⟩, ⟨by decide, by decide⟩⟩ dX7_readNeed_138 (by decide) rfl (fun h_6 => ?_) (fun h_6 => ?_)
            · skip
              refine g_iload cx (pc2 := 155) 6 rfl dX7_readNeed_153 rfl ?_
              refine g_bipush cx (pc2 := 157) ⟨by decide, by decide⟩ dX7_readNeed_155 rfl ?_
              refine g_icmp_eq cx (pc2 := 160) (tgt := 179) ⟨⟨by decide, by decide⟩, ⟨by decide, by decide⟩⟩ dX7_readNeed_157 (by decide) rfl (fun h_7 => ?_) (fun h_7 => ?_)
              · skip
                refine g_bipush cx (pc2 := 181) ⟨by decide, by decide⟩ dX7_readNeed_179 rfl ?_
                refine g_istore cx (pc2 := 183) (lv2 := [(0, .ref 47), (1, .ref o), (2, .ref la), (3, .int (iI (kdO (c (M 47 0))))), (4, .int (iI ((c (M 47 0 + 1)) - 65))), (5, .int (iI (-9))), (6, .int (iI (-9))), (7, .int (iI (-9)))]) rfl (Nat.le_of_ble_eq_true rfl) dX7_readNeed_181 rfl ?_
                refine g_iload cx (pc2 := 185) 7 rfl dX7_readNeed_183 rfl ?_
                refine g_bipush cx (pc2 := 187) ⟨by decide, by decide⟩ dX7_readNeed_185 rfl ?_
                refine g_icmp_eq cx (pc2 := 190) (tgt := 210) ⟨⟨by decide, by decide⟩, ⟨by decide, by decide⟩⟩ dX7_readNeed_187 (by decide) rfl (fun h_8 => ?_) (fun h_8 => ?_)
                · skip
                  refine g_bipush cx (pc2 := 212) ⟨by decide, by decide⟩ dX7_readNeed_210 rfl ?_
                  refine g_istore cx (pc2 := 214) (lv2 := [(0, .ref 47), (1, .ref o), (2, .ref la), (3, .int (iI (kdO (c (M 47 0))))), (4, .int (iI ((c (M 47 0 + 1)) - 65))), (5, .int (iI (-9))), (6, .int (iI (-9))), (7, .int (iI (-9))), (8, .int (iI (-9)))]) rfl (Nat.le_of_ble_eq_true rfl) dX7_readNeed_212 rfl ?_
                  refine g_iload cx (pc2 := 216) 8 rfl dX7_readNeed_214 rfl ?_
                  refine g_bipush cx (pc2 := 218) ⟨by decide, by decide⟩ dX7_readNeed_216 rfl ?_
                  refine g_icmp_eq cx (pc2 := 221) (tgt := 275) ⟨⟨by decide, by decide⟩, ⟨by decide, by decide⟩⟩ dX7_readNeed_218 (by decide) rfl (fun h_9 => ?_) (fun h_9 => ?_)
                  · skip
                    exact g_vret cx qx dX7_readNeed_275 ⟨rfl, by unfold rnM pNd; (repeat (first | rw [if_pos (by first | assumption | omega)] | rw [if_neg (by first | assumption | omega)])); first | rfl | (show stM (stM M 47 0 (M 47 0)) 47 1 (M 47 0) = _; rw [stM_self]; done) | (unfold rnK anM nid; simp only []; rw [hlaO]; subst_vars; rfl)⟩
                  · skip
                    omega
                · skip
                  omega
              · skip
                omega
            · skip
              omega
          · skip
            omega
        · skip
          refine g_M (M2 := (stM M 47 0 (M 47 0 + 3))) (by rw [sgM_t h_4, show M 47 0 + 2 + 1 = M 47 0 + 3 by omega]) ?_
          refine g_aload_n cx (pc2 := 90) 0 rfl dX7_readNeed_89 rfl ?_
          refine g_aload_n cx (pc2 := 91) 1 rfl dX7_readNeed_90 rfl ?_
          refine g_bipush cx (pc2 := 93) ⟨by decide, by decide⟩ dX7_readNeed_91 rfl ?_
          refine g_callV cx (pc2 := 96) (st := []) (As := [.ref o, .int (iI 27)]) (k0 := 47) (ci := 7) (c_X7_readNumber (M := (stM M 47 0 (M 47 0 + 3))) hn (by first | assumption | exact hla) (by first | exact hx | exact TX_st ho hx (by decide)) (by first | assumption | omega | (rw [stM_at]; omega)) 27 (by first | assumption | omega)) wM_X7_readNumber wV_X7_readNumber kl_X7_46 rfl (lt_lit hn (Nat.le_of_ble_eq_true rfl)) rfl ⟨rfl, rfl, Nat.le_of_ble_eq_true rfl, Nat.le_of_ble_eq_true rfl⟩ (Nat.le_of_ble_eq_true rfl) cs rfl rfl dX7_readNeed_93 rfl ?_
          rintro _ M_10 ⟨z_10, rfl, h_10⟩
          have e93 := h_10
          rw [stM_at, rdM_2] at e93
          have e94 := e93.1
          refine g_goto cx (tgt := 101) dX7_readNeed_96 (by decide) ?_
          refine g_istore cx (pc2 := 103) (lv2 := [(0, .ref 47), (1, .ref o), (2, .ref la), (3, .int (iI (kdO (c (M 47 0))))), (4, .int (iI ((c (M 47 0 + 1)) - 65))), (5, .int (iI z_10))]) rfl (Nat.le_of_ble_eq_true rfl) dX7_readNeed_101 rfl ?_
          refine g_iload cx (pc2 := 105) 5 rfl dX7_readNeed_103 rfl ?_
          refine g_bipush cx (pc2 := 107) ⟨by decide, by decide⟩ dX7_readNeed_105 rfl ?_
          refine g_icmp_eq cx (pc2 := 110) (tgt := 130) ⟨(by first | assumption | omega), ⟨by decide, by decide⟩⟩ dX7_readNeed_107 (by decide) rfl (fun h_11 => ?_) (fun h_11 => ?_)
          · skip
            refine g_M (M2 := (stM (stM M 47 0 (rnP c (M 47 0 + 3))) 47 1 (rnP c (M 47 0 + 3)))) (by rw [e93.2, rdM_t h_11]) ?_
            refine g_bipush cx (pc2 := 132) ⟨by decide, by decide⟩ dX7_readNeed_130 rfl ?_
            refine g_istore cx (pc2 := 134) (lv2 := [(0, .ref 47), (1, .ref o), (2, .ref la), (3, .int (iI (kdO (c (M 47 0))))), (4, .int (iI ((c (M 47 0 + 1)) - 65))), (5, .int (iI z_10)), (6, .int (iI (-9)))]) rfl (Nat.le_of_ble_eq_true rfl) dX7_readNeed_132 rfl ?_
            refine g_iload cx (pc2 := 136) 6 rfl dX7_readNeed_134 rfl ?_
            refine g_bipush cx (pc2 := 138) ⟨by decide, by decide⟩ dX7_readNeed_136 rfl ?_
            refine g_icmp_eq cx (pc2 := 141) (tgt := 153) ⟨⟨by decide, by decide⟩, ⟨by decide, by decide⟩⟩ dX7_readNeed_138 (by decide) rfl (fun h_12 => ?_) (fun h_12 => ?_)
            · skip
              refine g_iload cx (pc2 := 155) 6 rfl dX7_readNeed_153 rfl ?_
              refine g_bipush cx (pc2 := 157) ⟨by decide, by decide⟩ dX7_readNeed_155 rfl ?_
              refine g_icmp_eq cx (pc2 := 160) (tgt := 179) ⟨⟨by decide, by decide⟩, ⟨by decide, by decide⟩⟩ dX7_readNeed_157 (by decide) rfl (fun h_13 => ?_) (fun h_13 => ?_)
              · skip
                refine g_bipush cx (pc2 := 181) ⟨by decide, by decide⟩ dX7_readNeed_179 rfl ?_
                refine g_istore cx (pc2 := 183) (lv2 := [(0, .ref 47), (1, .ref o), (2, .ref la), (3, .int (iI (kdO (c (M 47 0))))), (4, .int (iI ((c (M 47 0 + 1)) - 65))), (5, .int (iI z_10)), (6, .int (iI (-9))), (7, .int (iI (-9)))]) rfl (Nat.le_of_ble_eq_true rfl) dX7_readNeed_181 rfl ?_
                refine g_iload cx (pc2 := 185) 7 rfl dX7_readNeed_183 rfl ?_
                refine g_bipush cx (pc2 := 187) ⟨by decide, by decide⟩ dX7_readNeed_185 rfl ?_
                refine g_icmp_eq cx (pc2 := 190) (tgt := 210) ⟨⟨by decide, by decide⟩, ⟨by decide, by decide⟩⟩ dX7_readNeed_187 (by decide) rfl (fun h_14 => ?_) (fun h_14 => ?_)
                · skip
                  refine g_bipush cx (pc2 := 212) ⟨by decide, by decide⟩ dX7_readNeed_210 rfl ?_
                  refine g_istore cx (pc2 := 214) (lv2 := [(0, .ref 47), (1, .ref o), (2, .ref la), (3, .int (iI (kdO (c (M 47 0))))), (4, .int (iI ((c (M 47 0 + 1)) - 65))), (5, .int (iI z_10)), (6, .int (iI (-9))), (7, .int (iI (-9))), (8, .int (iI (-9)))]) rfl (Nat.le_of_ble_eq_true rfl) dX7_readNeed_212 rfl ?_
                  refine g_iload cx (pc2 := 216) 8 rfl dX7_readNeed_214 rfl ?_
                  refine g_bipush cx (pc2 := 218) ⟨by decide, by decide⟩ dX7_readNeed_216 rfl ?_
                  refine g_icmp_eq cx (pc2 := 221) (tgt := 275) ⟨⟨by decide, by decide⟩, ⟨by decide, by decide⟩⟩ dX7_readNeed_218 (by decide) rfl (fun h_15 => ?_) (fun h_15 => ?_)
                  · skip
                    exact g_vret cx qx dX7_readNeed_275 ⟨rfl, by unfold rnM pNd; (repeat (first | rw [if_pos (by first | assumption | omega)] | rw [if_neg (by first | assumption | omega)])); first | rfl | (show stM (stM M 47 0 (M 47 0)) 47 1 (M 47 0) = _; rw [stM_self]; done) | (unfold rnK anM nid; simp only []; rw [hlaO]; subst_vars; rfl)⟩
                  · skip
                    omega
                · skip
                  omega
              · skip
                omega
            · skip
              omega
          · skip
            refine g_M (M2 := (stM M 47 0 (rnP c (M 47 0 + 3)))) (by rw [e93.2, rdM_f h_11]) ?_
            refine g_aload_n cx (pc2 := 111) 0 rfl dX7_readNeed_110 rfl ?_
            refine g_aload_n cx (pc2 := 112) 1 rfl dX7_readNeed_111 rfl ?_
            refine g_bipush cx (pc2 := 114) ⟨by decide, by decide⟩ dX7_readNeed_112 rfl ?_
            refine g_callV cx (pc2 := 117) (st := []) (As := [.ref o, .int (iI 45)]) (k0 := 47) (ci := 7) (c_X7_readSign (M := (stM M 47 0 (rnP c (M 47 0 + 3)))) hn (by first | assumption | exact hla) (by first | exact hx | exact TX_st ho hx (by decide)) (by first | assumption | omega | (rw [stM_at]; omega)) 45 (by first | omega | exact hx.1 | exact (TX_st ho hx (k := 47) (by decide)).1)) wM_X7_readSign wV_X7_readSign kl_X7_64 rfl (lt_lit hn (Nat.le_of_ble_eq_true rfl)) rfl ⟨rfl, rfl, Nat.le_of_ble_eq_true rfl, Nat.le_of_ble_eq_true rfl⟩ (Nat.le_of_ble_eq_true rfl) cs rfl rfl dX7_readNeed_114 rfl ?_
            rintro _ _ ⟨rfl, rfl⟩
            refine g_rwi (y := iI (b2 (c (rnP c (M 47 0 + 3)) = 45))) (b2_iff (by rw [stM_at])) ?_
            refine g_ifb_eq cx (pc2 := 120) (tgt := 130) dX7_readNeed_117 (by decide) rfl (fun h_16 => ?_) (fun h_16 => ?_)
            · skip
              refine g_M (M2 := (stM (stM M 47 0 (rnP c (M 47 0 + 3))) 47 1 (rnP c (M 47 0 + 3)))) (by exact sgM_f h_16) ?_
              refine g_bipush cx (pc2 := 132) ⟨by decide, by decide⟩ dX7_readNeed_130 rfl ?_
              refine g_istore cx (pc2 := 134) (lv2 := [(0, .ref 47), (1, .ref o), (2, .ref la), (3, .int (iI (kdO (c (M 47 0))))), (4, .int (iI ((c (M 47 0 + 1)) - 65))), (5, .int (iI z_10)), (6, .int (iI (-9)))]) rfl (Nat.le_of_ble_eq_true rfl) dX7_readNeed_132 rfl ?_
              refine g_iload cx (pc2 := 136) 6 rfl dX7_readNeed_134 rfl ?_
              refine g_bipush cx (pc2 := 138) ⟨by decide, by decide⟩ dX7_readNeed_136 rfl ?_
              refine g_icmp_eq cx (pc2 := 141) (tgt := 153) ⟨⟨by decide, by decide⟩, ⟨by decide, by decide⟩⟩ dX7_readNeed_138 (by decide) rfl (fun h_17 => ?_) (fun h_17 => ?_)
              · skip
                refine g_iload cx (pc2 := 155) 6 rfl dX7_readNeed_153 rfl ?_
                refine g_bipush cx (pc2 := 157) ⟨by decide, by decide⟩ dX7_readNeed_155 rfl ?_
                refine g_icmp_eq cx (pc2 := 160) (tgt := 179) ⟨⟨by decide, by decide⟩, ⟨by decide, by decide⟩⟩ dX7_readNeed_157 (by decide) rfl (fun h_18 => ?_) (fun h_18 => ?_)
                · skip
                  refine g_bipush cx (pc2 := 181) ⟨by decide, by decide⟩ dX7_readNeed_179 rfl ?_
                  refine g_istore cx (pc2 := 183) (lv2 := [(0, .ref 47), (1, .ref o), (2, .ref la), (3, .int (iI (kdO (c (M 47 0))))), (4, .int (iI ((c (M 47 0 + 1)) - 65))), (5, .int (iI z_10)), (6, .int (iI (-9))), (7, .int (iI (-9)))]) rfl (Nat.le_of_ble_eq_true rfl) dX7_readNeed_181 rfl ?_
                  refine g_iload cx (pc2 := 185) 7 rfl dX7_readNeed_183 rfl ?_
                  refine g_bipush cx (pc2 := 187) ⟨by decide, by decide⟩ dX7_readNeed_185 rfl ?_
                  refine g_icmp_eq cx (pc2 := 190) (tgt := 210) ⟨⟨by decide, by decide⟩, ⟨by decide, by decide⟩⟩ dX7_readNeed_187 (by decide) rfl (fun h_19 => ?_) (fun h_19 => ?_)
                  · skip
                    refine g_bipush cx (pc2 := 212) ⟨by decide, by decide⟩ dX7_readNeed_210 rfl ?_
                    refine g_istore cx (pc2 := 214) (lv2 := [(0, .ref 47), (1, .ref o), (2, .ref la), (3, .int (iI (kdO (c (M 47 0))))), (4, .int (iI ((c (M 47 0 + 1)) - 65))), (5, .int (iI z_10)), (6, .int (iI (-9))), (7, .int (iI (-9))), (8, .int (iI (-9)))]) rfl (Nat.le_of_ble_eq_true rfl) dX7_readNeed_212 rfl ?_
                    refine g_iload cx (pc2 := 216) 8 rfl dX7_readNeed_214 rfl ?_
                    refine g_bipush cx (pc2 := 218) ⟨by decide, by decide⟩ dX7_readNeed_216 rfl ?_
                    refine g_icmp_eq cx (pc2 := 221) (tgt := 275) ⟨⟨by decide, by decide⟩, ⟨by decide, by decide⟩⟩ dX7_readNeed_218 (by decide) rfl (fun h_20 => ?_) (fun h_20 => ?_)
                    · skip
                      exact g_vret cx qx dX7_readNeed_275 ⟨rfl, by unfold rnM pNd; (repeat (first | rw [if_pos (by first | assumption | omega)] | rw [if_neg (by first | assumption | omega)])); first | rfl | (show stM (stM M 47 0 (M 47 0)) 47 1 (M 47 0) = _; rw [stM_self]; done) | (unfold rnK anM nid; simp only []; rw [hlaO]; subst_vars; rfl)⟩
                    · skip
                      omega
                  · skip
                    omega
                · skip
                  omega
              · skip
                omega
            · skip
              refine g_M (M2 := (stM M 47 0 (rnP c (M 47 0 + 3) + 1))) (by exact sgM_t h_16) ?_
              refine g_aload_n cx (pc2 := 121) 0 rfl dX7_readNeed_120 rfl ?_
              refine g_aload_n cx (pc2 := 122) 1 rfl dX7_readNeed_121 rfl ?_
              refine g_bipush cx (pc2 := 124) ⟨by decide, by decide⟩ dX7_readNeed_122 rfl ?_
              refine g_callV cx (pc2 := 127) (st := []) (As := [.ref o, .int (iI 27)]) (k0 := 47) (ci := 7) (c_X7_readNumber (M := (stM M 47 0 (rnP c (M 47 0 + 3) + 1))) hn (by first | assumption | exact hla) (by first | exact hx | exact TX_st ho hx (by decide)) (by first | assumption | omega | (rw [stM_at]; omega)) 27 (by first | assumption | omega)) wM_X7_readNumber wV_X7_readNumber kl_X7_46 rfl (lt_lit hn (Nat.le_of_ble_eq_true rfl)) rfl ⟨rfl, rfl, Nat.le_of_ble_eq_true rfl, Nat.le_of_ble_eq_true rfl⟩ (Nat.le_of_ble_eq_true rfl) cs rfl rfl dX7_readNeed_124 rfl ?_
              rintro _ M_21 ⟨z_21, rfl, h_21⟩
              have e124 := h_21
              rw [stM_at, rdM_2] at e124
              have e125 := e124.1
              refine g_goto cx (tgt := 132) dX7_readNeed_127 (by decide) ?_
              refine g_istore cx (pc2 := 134) (lv2 := [(0, .ref 47), (1, .ref o), (2, .ref la), (3, .int (iI (kdO (c (M 47 0))))), (4, .int (iI ((c (M 47 0 + 1)) - 65))), (5, .int (iI z_10)), (6, .int (iI z_21))]) rfl (Nat.le_of_ble_eq_true rfl) dX7_readNeed_132 rfl ?_
              refine g_iload cx (pc2 := 136) 6 rfl dX7_readNeed_134 rfl ?_
              refine g_bipush cx (pc2 := 138) ⟨by decide, by decide⟩ dX7_readNeed_136 rfl ?_
              refine g_icmp_eq cx (pc2 := 141) (tgt := 153) ⟨(by first | assumption | omega), ⟨by decide, by decide⟩⟩ dX7_readNeed_138 (by decide) rfl (fun h_22 => ?_) (fun h_22 => ?_)
              · skip
                refine g_M (M2 := (stM (stM M 47 0 (rnP c (rnP c (M 47 0 + 3) + 1))) 47 1 (rnP c (rnP c (M 47 0 + 3) + 1)))) (by rw [e124.2, rdM_t h_22]) ?_
                refine g_iload cx (pc2 := 155) 6 rfl dX7_readNeed_153 rfl ?_
                refine g_bipush cx (pc2 := 157) ⟨by decide, by decide⟩ dX7_readNeed_155 rfl ?_
                refine g_icmp_eq cx (pc2 := 160) (tgt := 179) ⟨(by first | assumption | omega), ⟨by decide, by decide⟩⟩ dX7_readNeed_157 (by decide) rfl (fun h_23 => ?_) (fun h_23 => ?_)
                · skip
                  refine g_bipush cx (pc2 := 181) ⟨by decide, by decide⟩ dX7_readNeed_179 rfl ?_
                  refine g_istore cx (pc2 := 183) (lv2 := [(0, .ref 47), (1, .ref o), (2, .ref la), (3, .int (iI (kdO (c (M 47 0))))), (4, .int (iI ((c (M 47 0 + 1)) - 65))), (5, .int (iI z_10)), (6, .int (iI z_21)), (7, .int (iI (-9)))]) rfl (Nat.le_of_ble_eq_true rfl) dX7_readNeed_181 rfl ?_
                  refine g_iload cx (pc2 := 185) 7 rfl dX7_readNeed_183 rfl ?_
                  refine g_bipush cx (pc2 := 187) ⟨by decide, by decide⟩ dX7_readNeed_185 rfl ?_
                  refine g_icmp_eq cx (pc2 := 190) (tgt := 210) ⟨⟨by decide, by decide⟩, ⟨by decide, by decide⟩⟩ dX7_readNeed_187 (by decide) rfl (fun h_24 => ?_) (fun h_24 => ?_)
                  · skip
                    refine g_bipush cx (pc2 := 212) ⟨by decide, by decide⟩ dX7_readNeed_210 rfl ?_
                    refine g_istore cx (pc2 := 214) (lv2 := [(0, .ref 47), (1, .ref o), (2, .ref la), (3, .int (iI (kdO (c (M 47 0))))), (4, .int (iI ((c (M 47 0 + 1)) - 65))), (5, .int (iI z_10)), (6, .int (iI z_21)), (7, .int (iI (-9))), (8, .int (iI (-9)))]) rfl (Nat.le_of_ble_eq_true rfl) dX7_readNeed_212 rfl ?_
                    refine g_iload cx (pc2 := 216) 8 rfl dX7_readNeed_214 rfl ?_
                    refine g_bipush cx (pc2 := 218) ⟨by decide, by decide⟩ dX7_readNeed_216 rfl ?_
                    refine g_icmp_eq cx (pc2 := 221) (tgt := 275) ⟨⟨by decide, by decide⟩, ⟨by decide, by decide⟩⟩ dX7_readNeed_218 (by decide) rfl (fun h_25 => ?_) (fun h_25 => ?_)
                    · skip
                      exact g_vret cx qx dX7_readNeed_275 ⟨rfl, by unfold rnM pNd; (repeat (first | rw [if_pos (by first | assumption | omega)] | rw [if_neg (by first | assumption | omega)])); first | rfl | (show stM (stM M 47 0 (M 47 0)) 47 1 (M 47 0) = _; rw [stM_self]; done) | (unfold rnK anM nid; simp only []; rw [hlaO]; subst_vars; rfl)⟩
                    · skip
                      omega
                  · skip
                    omega
                · skip
                  omega
              · skip
                refine g_M (M2 := (stM M 47 0 (rnP c (rnP c (M 47 0 + 3) + 1)))) (by rw [e124.2, rdM_f h_22]) ?_
                refine g_iload cx (pc2 := 143) 6 rfl dX7_readNeed_141 rfl ?_
                refine g_iload cx (pc2 := 145) 5 rfl dX7_readNeed_143 rfl ?_
                refine g_icmp_ge cx (pc2 := 148) (tgt := 153) ⟨(by first | assumption | omega), (by first | assumption | omega)⟩ dX7_readNeed_145 (by decide) rfl (fun h_26 => ?_) (fun h_26 => ?_)
                · skip
                  refine g_iload cx (pc2 := 155) 6 rfl dX7_readNeed_153 rfl ?_
                  refine g_bipush cx (pc2 := 157) ⟨by decide, by decide⟩ dX7_readNeed_155 rfl ?_
                  refine g_icmp_eq cx (pc2 := 160) (tgt := 179) ⟨(by first | assumption | omega), ⟨by decide, by decide⟩⟩ dX7_readNeed_157 (by decide) rfl (fun h_27 => ?_) (fun h_27 => ?_)
                  · skip
                    omega
                  · skip
                    refine g_aload_n cx (pc2 := 161) 0 rfl dX7_readNeed_160 rfl ?_
                    refine g_aload_n cx (pc2 := 162) 1 rfl dX7_readNeed_161 rfl ?_
                    refine g_bipush cx (pc2 := 164) ⟨by decide, by decide⟩ dX7_readNeed_162 rfl ?_
                    refine g_callV cx (pc2 := 167) (st := []) (As := [.ref o, .int (iI 58)]) (k0 := 47) (ci := 7) (c_X7_readSign (M := (stM M 47 0 (rnP c (rnP c (M 47 0 + 3) + 1)))) hn (by first | assumption | exact hla) (by first | exact hx | exact TX_st ho hx (by decide)) (by first | assumption | omega | (rw [stM_at]; omega)) 58 (by first | omega | exact hx.1 | exact (TX_st ho hx (k := 47) (by decide)).1)) wM_X7_readSign wV_X7_readSign kl_X7_64 rfl (lt_lit hn (Nat.le_of_ble_eq_true rfl)) rfl ⟨rfl, rfl, Nat.le_of_ble_eq_true rfl, Nat.le_of_ble_eq_true rfl⟩ (Nat.le_of_ble_eq_true rfl) cs rfl rfl dX7_readNeed_164 rfl ?_
                    rintro _ _ ⟨rfl, rfl⟩
                    refine g_rwi (y := iI (b2 (c (rnP c (rnP c (M 47 0 + 3) + 1)) = 58))) (b2_iff (by rw [stM_at])) ?_
                    refine g_ifb_eq cx (pc2 := 170) (tgt := 179) dX7_readNeed_167 (by decide) rfl (fun h_28 => ?_) (fun h_28 => ?_)
                    · skip
                      refine g_M (M2 := (stM (stM M 47 0 (rnP c (rnP c (M 47 0 + 3) + 1))) 47 1 (rnP c (rnP c (M 47 0 + 3) + 1)))) (by exact sgM_f h_28) ?_
                      refine g_bipush cx (pc2 := 181) ⟨by decide, by decide⟩ dX7_readNeed_179 rfl ?_
                      refine g_istore cx (pc2 := 183) (lv2 := [(0, .ref 47), (1, .ref o), (2, .ref la), (3, .int (iI (kdO (c (M 47 0))))), (4, .int (iI ((c (M 47 0 + 1)) - 65))), (5, .int (iI z_10)), (6, .int (iI z_21)), (7, .int (iI (-9)))]) rfl (Nat.le_of_ble_eq_true rfl) dX7_readNeed_181 rfl ?_
                      refine g_iload cx (pc2 := 185) 7 rfl dX7_readNeed_183 rfl ?_
                      refine g_bipush cx (pc2 := 187) ⟨by decide, by decide⟩ dX7_readNeed_185 rfl ?_
                      refine g_icmp_eq cx (pc2 := 190) (tgt := 210) ⟨⟨by decide, by decide⟩, ⟨by decide, by decide⟩⟩ dX7_readNeed_187 (by decide) rfl (fun h_29 => ?_) (fun h_29 => ?_)
                      · skip
                        refine g_bipush cx (pc2 := 212) ⟨by decide, by decide⟩ dX7_readNeed_210 rfl ?_
                        refine g_istore cx (pc2 := 214) (lv2 := [(0, .ref 47), (1, .ref o), (2, .ref la), (3, .int (iI (kdO (c (M 47 0))))), (4, .int (iI ((c (M 47 0 + 1)) - 65))), (5, .int (iI z_10)), (6, .int (iI z_21)), (7, .int (iI (-9))), (8, .int (iI (-9)))]) rfl (Nat.le_of_ble_eq_true rfl) dX7_readNeed_212 rfl ?_
                        refine g_iload cx (pc2 := 216) 8 rfl dX7_readNeed_214 rfl ?_
                        refine g_bipush cx (pc2 := 218) ⟨by decide, by decide⟩ dX7_readNeed_216 rfl ?_
                        refine g_icmp_eq cx (pc2 := 221) (tgt := 275) ⟨⟨by decide, by decide⟩, ⟨by decide, by decide⟩⟩ dX7_readNeed_218 (by decide) rfl (fun h_30 => ?_) (fun h_30 => ?_)
                        · skip
                          exact g_vret cx qx dX7_readNeed_275 ⟨rfl, by unfold rnM pNd; (repeat (first | rw [if_pos (by first | assumption | omega)] | rw [if_neg (by first | assumption | omega)])); first | rfl | (show stM (stM M 47 0 (M 47 0)) 47 1 (M 47 0) = _; rw [stM_self]; done) | (unfold rnK anM nid; simp only []; rw [hlaO]; subst_vars; rfl)⟩
                        · skip
                          omega
                      · skip
                        omega
                    · skip
                      refine g_M (M2 := (stM M 47 0 (rnP c (rnP c (M 47 0 + 3) + 1) + 1))) (by exact sgM_t h_28) ?_
                      refine g_aload_n cx (pc2 := 171) 0 rfl dX7_readNeed_170 rfl ?_
                      refine g_aload_n cx (pc2 := 172) 1 rfl dX7_readNeed_171 rfl ?_
                      refine g_iconst cx (pc2 := 173) dX7_readNeed_172 rfl ?_
                      refine g_callV cx (pc2 := 176) (st := []) (As := [.ref o, .int (iI 4)]) (k0 := 47) (ci := 7) (c_X7_readFigure (M := (stM M 47 0 (rnP c (rnP c (M 47 0 + 3) + 1) + 1))) hn (by first | assumption | exact hla) (by first | exact hx | exact TX_st ho hx (by decide)) (by first | assumption | omega | (rw [stM_at]; omega)) 4 (by first | assumption | omega)) wM_X7_readFigure wV_X7_readFigure kl_X7_68 rfl (lt_lit hn (Nat.le_of_ble_eq_true rfl)) rfl ⟨rfl, rfl, Nat.le_of_ble_eq_true rfl, Nat.le_of_ble_eq_true rfl⟩ (Nat.le_of_ble_eq_true rfl) cs rfl rfl dX7_readNeed_173 rfl ?_
                      rintro _ M_31 ⟨z_31, rfl, h_31⟩
                      have e173 := h_31
                      rw [stM_at, rdM_2] at e173
                      have e174 := e173.1
                      refine g_goto cx (tgt := 181) dX7_readNeed_176 (by decide) ?_
                      refine g_istore cx (pc2 := 183) (lv2 := [(0, .ref 47), (1, .ref o), (2, .ref la), (3, .int (iI (kdO (c (M 47 0))))), (4, .int (iI ((c (M 47 0 + 1)) - 65))), (5, .int (iI z_10)), (6, .int (iI z_21)), (7, .int (iI z_31))]) rfl (Nat.le_of_ble_eq_true rfl) dX7_readNeed_181 rfl ?_
                      refine g_iload cx (pc2 := 185) 7 rfl dX7_readNeed_183 rfl ?_
                      refine g_bipush cx (pc2 := 187) ⟨by decide, by decide⟩ dX7_readNeed_185 rfl ?_
                      refine g_icmp_eq cx (pc2 := 190) (tgt := 210) ⟨(by first | assumption | omega), ⟨by decide, by decide⟩⟩ dX7_readNeed_187 (by decide) rfl (fun h_32 => ?_) (fun h_32 => ?_)
                      · skip
                        refine g_M (M2 := (stM (stM M 47 0 (rnP c (rnP c (M 47 0 + 3) + 1) + 1)) 47 1 (rnP c (rnP c (M 47 0 + 3) + 1) + 1))) (by rw [e173.2, rdM_t h_32, if_pos h_32]) ?_
                        refine g_bipush cx (pc2 := 212) ⟨by decide, by decide⟩ dX7_readNeed_210 rfl ?_
                        refine g_istore cx (pc2 := 214) (lv2 := [(0, .ref 47), (1, .ref o), (2, .ref la), (3, .int (iI (kdO (c (M 47 0))))), (4, .int (iI ((c (M 47 0 + 1)) - 65))), (5, .int (iI z_10)), (6, .int (iI z_21)), (7, .int (iI z_31)), (8, .int (iI (-9)))]) rfl (Nat.le_of_ble_eq_true rfl) dX7_readNeed_212 rfl ?_
                        refine g_iload cx (pc2 := 216) 8 rfl dX7_readNeed_214 rfl ?_
                        refine g_bipush cx (pc2 := 218) ⟨by decide, by decide⟩ dX7_readNeed_216 rfl ?_
                        refine g_icmp_eq cx (pc2 := 221) (tgt := 275) ⟨⟨by decide, by decide⟩, ⟨by decide, by decide⟩⟩ dX7_readNeed_218 (by decide) rfl (fun h_33 => ?_) (fun h_33 => ?_)
                        · skip
                          exact g_vret cx qx dX7_readNeed_275 ⟨rfl, by unfold rnM pNd; (repeat (first | rw [if_pos (by first | assumption | omega)] | rw [if_neg (by first | assumption | omega)])); first | rfl | (show stM (stM M 47 0 (M 47 0)) 47 1 (M 47 0) = _; rw [stM_self]; done) | (unfold rnK anM nid; simp only []; rw [hlaO]; subst_vars; rfl)⟩
                        · skip
                          omega
                      · skip
                        refine g_M (M2 := (stM M 47 0 (rnP c (rnP c (M 47 0 + 3) + 1) + 2))) (by rw [e173.2, rdM_f h_32, if_neg h_32, show rnP c (rnP c (M 47 0 + 3) + 1) + 1 + 1 = rnP c (rnP c (M 47 0 + 3) + 1) + 2 by omega]) ?_
                        refine g_aload_n cx (pc2 := 191) 0 rfl dX7_readNeed_190 rfl ?_
                        refine g_aload_n cx (pc2 := 192) 1 rfl dX7_readNeed_191 rfl ?_
                        refine g_bipush cx (pc2 := 194) ⟨by decide, by decide⟩ dX7_readNeed_192 rfl ?_
                        refine g_callV cx (pc2 := 197) (st := []) (As := [.ref o, .int (iI 58)]) (k0 := 47) (ci := 7) (c_X7_readSign (M := (stM M 47 0 (rnP c (rnP c (M 47 0 + 3) + 1) + 2))) hn (by first | assumption | exact hla) (by first | exact hx | exact TX_st ho hx (by decide)) (by first | assumption | omega | (rw [stM_at]; omega)) 58 (by first | omega | exact hx.1 | exact (TX_st ho hx (k := 47) (by decide)).1)) wM_X7_readSign wV_X7_readSign kl_X7_64 rfl (lt_lit hn (Nat.le_of_ble_eq_true rfl)) rfl ⟨rfl, rfl, Nat.le_of_ble_eq_true rfl, Nat.le_of_ble_eq_true rfl⟩ (Nat.le_of_ble_eq_true rfl) cs rfl rfl dX7_readNeed_194 rfl ?_
                        rintro _ _ ⟨rfl, rfl⟩
                        refine g_rwi (y := iI (b2 (c (rnP c (rnP c (M 47 0 + 3) + 1) + 2) = 58))) (b2_iff (by rw [stM_at])) ?_
                        refine g_ifb_eq cx (pc2 := 200) (tgt := 210) dX7_readNeed_197 (by decide) rfl (fun h_34 => ?_) (fun h_34 => ?_)
                        · skip
                          refine g_M (M2 := (stM (stM M 47 0 (rnP c (rnP c (M 47 0 + 3) + 1) + 2)) 47 1 (rnP c (rnP c (M 47 0 + 3) + 1) + 2))) (by exact sgM_f h_34) ?_
                          refine g_bipush cx (pc2 := 212) ⟨by decide, by decide⟩ dX7_readNeed_210 rfl ?_
                          refine g_istore cx (pc2 := 214) (lv2 := [(0, .ref 47), (1, .ref o), (2, .ref la), (3, .int (iI (kdO (c (M 47 0))))), (4, .int (iI ((c (M 47 0 + 1)) - 65))), (5, .int (iI z_10)), (6, .int (iI z_21)), (7, .int (iI z_31)), (8, .int (iI (-9)))]) rfl (Nat.le_of_ble_eq_true rfl) dX7_readNeed_212 rfl ?_
                          refine g_iload cx (pc2 := 216) 8 rfl dX7_readNeed_214 rfl ?_
                          refine g_bipush cx (pc2 := 218) ⟨by decide, by decide⟩ dX7_readNeed_216 rfl ?_
                          refine g_icmp_eq cx (pc2 := 221) (tgt := 275) ⟨⟨by decide, by decide⟩, ⟨by decide, by decide⟩⟩ dX7_readNeed_218 (by decide) rfl (fun h_35 => ?_) (fun h_35 => ?_)
                          · skip
                            exact g_vret cx qx dX7_readNeed_275 ⟨rfl, by unfold rnM pNd; (repeat (first | rw [if_pos (by first | assumption | omega)] | rw [if_neg (by first | assumption | omega)])); first | rfl | (show stM (stM M 47 0 (M 47 0)) 47 1 (M 47 0) = _; rw [stM_self]; done) | (unfold rnK anM nid; simp only []; rw [hlaO]; subst_vars; rfl)⟩
                          · skip
                            omega
                        · skip
                          refine g_M (M2 := (stM M 47 0 (rnP c (rnP c (M 47 0 + 3) + 1) + 3))) (by rw [sgM_t h_34, show rnP c (rnP c (M 47 0 + 3) + 1) + 2 + 1 = rnP c (rnP c (M 47 0 + 3) + 1) + 3 by omega]) ?_
                          refine g_aload_n cx (pc2 := 201) 0 rfl dX7_readNeed_200 rfl ?_
                          refine g_aload_n cx (pc2 := 202) 1 rfl dX7_readNeed_201 rfl ?_
                          refine g_bipush cx (pc2 := 204) ⟨by decide, by decide⟩ dX7_readNeed_202 rfl ?_
                          refine g_callV cx (pc2 := 207) (st := []) (As := [.ref o, .int (iI 9)]) (k0 := 47) (ci := 7) (c_X7_readFigure (M := (stM M 47 0 (rnP c (rnP c (M 47 0 + 3) + 1) + 3))) hn (by first | assumption | exact hla) (by first | exact hx | exact TX_st ho hx (by decide)) (by first | assumption | omega | (rw [stM_at]; omega)) 9 (by first | assumption | omega)) wM_X7_readFigure wV_X7_readFigure kl_X7_68 rfl (lt_lit hn (Nat.le_of_ble_eq_true rfl)) rfl ⟨rfl, rfl, Nat.le_of_ble_eq_true rfl, Nat.le_of_ble_eq_true rfl⟩ (Nat.le_of_ble_eq_true rfl) cs rfl rfl dX7_readNeed_204 rfl ?_
                          rintro _ M_36 ⟨z_36, rfl, h_36⟩
                          have e204 := h_36
                          rw [stM_at, rdM_2] at e204
                          have e205 := e204.1
                          refine g_goto cx (tgt := 212) dX7_readNeed_207 (by decide) ?_
                          refine g_istore cx (pc2 := 214) (lv2 := [(0, .ref 47), (1, .ref o), (2, .ref la), (3, .int (iI (kdO (c (M 47 0))))), (4, .int (iI ((c (M 47 0 + 1)) - 65))), (5, .int (iI z_10)), (6, .int (iI z_21)), (7, .int (iI z_31)), (8, .int (iI z_36))]) rfl (Nat.le_of_ble_eq_true rfl) dX7_readNeed_212 rfl ?_
                          refine g_iload cx (pc2 := 216) 8 rfl dX7_readNeed_214 rfl ?_
                          refine g_bipush cx (pc2 := 218) ⟨by decide, by decide⟩ dX7_readNeed_216 rfl ?_
                          refine g_icmp_eq cx (pc2 := 221) (tgt := 275) ⟨(by first | assumption | omega), ⟨by decide, by decide⟩⟩ dX7_readNeed_218 (by decide) rfl (fun h_37 => ?_) (fun h_37 => ?_)
                          · skip
                            refine g_M (M2 := (stM (stM M 47 0 (rnP c (rnP c (M 47 0 + 3) + 1) + 3)) 47 1 (rnP c (rnP c (M 47 0 + 3) + 1) + 3))) (by rw [e204.2, rdM_t h_37, if_pos h_37]) ?_
                            exact g_vret cx qx dX7_readNeed_275 ⟨rfl, by unfold rnM pNd; (repeat (first | rw [if_pos (by first | assumption | omega)] | rw [if_neg (by first | assumption | omega)])); first | rfl | (show stM (stM M 47 0 (M 47 0)) 47 1 (M 47 0) = _; rw [stM_self]; done) | (unfold rnK anM nid; simp only []; rw [hlaO]; subst_vars; rfl)⟩
                          · skip
                            refine g_M (M2 := (stM M 47 0 (rnP c (rnP c (M 47 0 + 3) + 1) + 4))) (by rw [e204.2, rdM_f h_37, if_neg h_37, show rnP c (rnP c (M 47 0 + 3) + 1) + 3 + 1 = rnP c (rnP c (M 47 0 + 3) + 1) + 4 by omega]) ?_
                            refine g_aload_n cx (pc2 := 222) 2 rfl dX7_readNeed_221 rfl ?_
                            refine g_callV cx (pc2 := 225) (st := []) (As := []) (k0 := la) (ci := 2) (c_X2_addNeed (M := (stM M 47 0 (rnP c (rnP c (M 47 0 + 3) + 1) + 4))) hn (by first | assumption | exact hla) (by unfold LW; rw [hlaO]; exact hl) (by rw [hlaO]; omega)) wM_X2_addNeed wV_X2_addNeed kl_X7_71 (sh_lane hla) (by omega) rfl ⟨rfl, rfl, Nat.le_of_ble_eq_true rfl, Nat.le_of_ble_eq_true rfl⟩ (Nat.le_of_ble_eq_true rfl) cs rfl rfl dX7_readNeed_222 rfl ?_
                            rintro _ _ ⟨rfl, rfl⟩
                            refine g_rwa (y := (la + 4 + (M la 4).toNat)) (by rw [hlaO]) ?_
                            refine g_astore cx (pc2 := 227) (lv2 := [(0, .ref 47), (1, .ref o), (2, .ref la), (3, .int (iI (kdO (c (M 47 0))))), (4, .int (iI ((c (M 47 0 + 1)) - 65))), (5, .int (iI z_10)), (6, .int (iI z_21)), (7, .int (iI z_31)), (8, .int (iI z_36)), (9, .ref (la + 4 + (M la 4).toNat))]) rfl (Nat.le_of_ble_eq_true rfl) dX7_readNeed_225 rfl ?_
                            refine g_aload cx (pc2 := 229) 9 rfl dX7_readNeed_227 rfl ?_
                            refine g_iload_n cx (pc2 := 230) 3 rfl dX7_readNeed_229 rfl ?_
                            refine g_putiN cx (pc2 := 233) (ci := 4) (k0 := (la + 4 + (M la 4).toNat)) (j := 0) rfl iwX4 (sh_need (by omega)) (by omega) rfl (Nat.le_of_ble_eq_true rfl) kf_X7_75 rfl tyX4_ok nmX4 rfl rfl dX7_readNeed_230 rfl ?_
                            refine g_aload cx (pc2 := 235) 9 rfl dX7_readNeed_233 rfl ?_
                            refine g_iload cx (pc2 := 237) 4 rfl dX7_readNeed_235 rfl ?_
                            refine g_putiN cx (pc2 := 240) (ci := 4) (k0 := (la + 4 + (M la 4).toNat)) (j := 1) rfl iwX4 (sh_need (by omega)) (by omega) rfl (Nat.le_of_ble_eq_true rfl) kf_X7_80 rfl tyX4_ok nmX4 rfl rfl dX7_readNeed_237 rfl ?_
                            refine g_aload cx (pc2 := 242) 9 rfl dX7_readNeed_240 rfl ?_
                            refine g_iload cx (pc2 := 244) 5 rfl dX7_readNeed_242 rfl ?_
                            refine g_putiN cx (pc2 := 247) (ci := 4) (k0 := (la + 4 + (M la 4).toNat)) (j := 2) rfl iwX4 (sh_need (by omega)) (by omega) rfl (Nat.le_of_ble_eq_true rfl) kf_X7_83 rfl tyX4_ok nmX4 rfl rfl dX7_readNeed_244 rfl ?_
                            refine g_aload cx (pc2 := 249) 9 rfl dX7_readNeed_247 rfl ?_
                            refine g_iload cx (pc2 := 251) 6 rfl dX7_readNeed_249 rfl ?_
                            refine g_putiN cx (pc2 := 254) (ci := 4) (k0 := (la + 4 + (M la 4).toNat)) (j := 3) rfl iwX4 (sh_need (by omega)) (by omega) rfl (Nat.le_of_ble_eq_true rfl) kf_X7_86 rfl tyX4_ok nmX4 rfl rfl dX7_readNeed_251 rfl ?_
                            refine g_aload cx (pc2 := 256) 9 rfl dX7_readNeed_254 rfl ?_
                            refine g_iload cx (pc2 := 258) 7 rfl dX7_readNeed_256 rfl ?_
                            refine g_putiN cx (pc2 := 261) (ci := 4) (k0 := (la + 4 + (M la 4).toNat)) (j := 4) rfl iwX4 (sh_need (by omega)) (by omega) rfl (Nat.le_of_ble_eq_true rfl) kf_X7_89 rfl tyX4_ok nmX4 rfl rfl dX7_readNeed_258 rfl ?_
                            refine g_aload cx (pc2 := 263) 9 rfl dX7_readNeed_261 rfl ?_
                            refine g_iload cx (pc2 := 265) 8 rfl dX7_readNeed_263 rfl ?_
                            refine g_putiN cx (pc2 := 268) (ci := 4) (k0 := (la + 4 + (M la 4).toNat)) (j := 5) rfl iwX4 (sh_need (by omega)) (by omega) rfl (Nat.le_of_ble_eq_true rfl) kf_X7_91 rfl tyX4_ok nmX4 rfl rfl dX7_readNeed_265 rfl ?_
                            refine g_aload cx (pc2 := 270) 9 rfl dX7_readNeed_268 rfl ?_
                            refine g_bipush cx (pc2 := 272) ⟨by decide, by decide⟩ dX7_readNeed_270 rfl ?_
                            refine g_putiN cx (pc2 := 275) (ci := 4) (k0 := (la + 4 + (M la 4).toNat)) (j := 6) rfl iwX4 (sh_need (by omega)) (by omega) rfl (Nat.le_of_ble_eq_true rfl) kf_X7_94 rfl tyX4_ok nmX4 rfl rfl dX7_readNeed_272 rfl ?_
                            exact g_vret cx qx dX7_readNeed_275 ⟨rfl, by unfold rnM pNd; (repeat (first | rw [if_pos (by first | assumption | omega)] | rw [if_neg (by first | assumption | omega)])); first | rfl | (show stM (stM M 47 0 (M 47 0)) 47 1 (M 47 0) = _; rw [stM_self]; done) | (unfold rnK anM nid; simp only []; rw [hlaO]; subst_vars; rfl)⟩
                · skip
                  refine g_aload_n cx (pc2 := 149) 0 rfl dX7_readNeed_148 rfl ?_
                  refine g_callV cx (pc2 := 152) (st := []) (As := []) (k0 := 47) (ci := 7) (c_X7_stop (M := (stM M 47 0 (rnP c (rnP c (M 47 0 + 3) + 1)))) hn) wM_X7_stop wV_X7_stop kl_X7_43 rfl (lt_lit hn (Nat.le_of_ble_eq_true rfl)) rfl ⟨rfl, rfl, Nat.le_of_ble_eq_true rfl, Nat.le_of_ble_eq_true rfl⟩ (Nat.le_of_ble_eq_true rfl) cs rfl rfl dX7_readNeed_149 rfl ?_
                  rintro _ _ ⟨rfl, rfl⟩
                  exact g_vret cx qx dX7_readNeed_152 ⟨rfl, by unfold rnM pNd; (repeat (first | rw [if_pos (by first | assumption | omega)] | rw [if_neg (by first | assumption | omega)])); first | rfl | (show stM (stM M 47 0 (M 47 0)) 47 1 (M 47 0) = _; rw [stM_self]; done) | (unfold rnK anM nid; simp only []; rw [hlaO]; subst_vars; rfl)⟩
      · skip
        refine g_aload_n cx (pc2 := 65) 0 rfl dX7_readNeed_64 rfl ?_
        refine g_callV cx (pc2 := 68) (st := []) (As := []) (k0 := 47) (ci := 7) (c_X7_stop (M := (stM M 47 0 ((M 47 0) + 1))) hn) wM_X7_stop wV_X7_stop kl_X7_43 rfl (lt_lit hn (Nat.le_of_ble_eq_true rfl)) rfl ⟨rfl, rfl, Nat.le_of_ble_eq_true rfl, Nat.le_of_ble_eq_true rfl⟩ (Nat.le_of_ble_eq_true rfl) cs rfl rfl dX7_readNeed_65 rfl ?_
        rintro _ _ ⟨rfl, rfl⟩
        exact g_vret cx qx dX7_readNeed_68 ⟨rfl, by unfold rnM pNd; (repeat (first | rw [if_pos (by first | assumption | omega)] | rw [if_neg (by first | assumption | omega)])); first | rfl | (show stM (stM M 47 0 (M 47 0)) 47 1 (M 47 0) = _; rw [stM_self]; done) | (unfold rnK anM nid; simp only []; rw [hlaO]; subst_vars; rfl)⟩
    · skip
      refine g_aload_n cx (pc2 := 28) 0 rfl dX7_readNeed_27 rfl ?_
      refine g_callV cx (pc2 := 31) (st := []) (As := []) (k0 := 47) (ci := 7) (c_X7_stop (M := M) hn) wM_X7_stop wV_X7_stop kl_X7_43 rfl (lt_lit hn (Nat.le_of_ble_eq_true rfl)) rfl ⟨rfl, rfl, Nat.le_of_ble_eq_true rfl, Nat.le_of_ble_eq_true rfl⟩ (Nat.le_of_ble_eq_true rfl) cs rfl rfl dX7_readNeed_28 rfl ?_
      rintro _ _ ⟨rfl, rfl⟩
      exact g_vret cx qx dX7_readNeed_31 ⟨rfl, by unfold rnM pNd; (repeat (first | rw [if_pos (by first | assumption | omega)] | rw [if_neg (by first | assumption | omega)])); first | rfl | (show stM (stM M 47 0 (M 47 0)) 47 1 (M 47 0) = _; rw [stM_self]; done) | (unfold rnK anM nid; simp only []; rw [hlaO]; subst_vars; rfl)⟩
/-- what stays while a text is read -/
abbrev RI (M : Mm) (la : Nat) : Prop := LW M la ∧ (0 ≤ M 47 0 ∧ M 47 0 ≤ 150) ∧ (-9 ≤ M 47 1 ∧ M 47 1 ≤ 150)
theorem pNd_b (c : Int → Int) (p hc nc : Int) : (p ≤ (pNd c p hc nc).1 ∧ (pNd c p hc nc).1 ≤ p + 12) ∧ ((pNd c p hc nc).2 ≠ none → p + 1 ≤ (pNd c p hc nc).1 ∧ nc < 8) := by
  have h1 := rnP_b c (p + 3)
  have h2 := rnP_b c (rnP c (p + 3) + 1)
  unfold pNd
  (repeat' split) <;> refine ⟨⟨?_, ?_⟩, fun q => ?_⟩ <;> simp only [] <;> first | omega | exact absurd rfl q
theorem anM_hi (T : Mm) {la : Nat} (hla : isLaneO la) (d : Nd6) {a : Nat} (ha : a < la ∨ la + 11 < a) (h4 : 0 ≤ T la 4 ∧ T la 4 < 8) : anM T la d a = T a := by
  have hn : a ≠ nid T la := by unfold nid; omega
  unfold anM
  rw [stM_off hn, stM_off hn, stM_off hn, stM_off hn, stM_off hn, stM_off hn, stM_off hn, stM_off (by omega)]
theorem anM_la (T : Mm) (la : Nat) (d : Nd6) (b : Nat) : anM T la d la b = if b = 4 then T la 4 + 1 else T la b := by
  have hn : la ≠ nid T la := by unfold nid; omega
  unfold anM
  rw [stM_off hn, stM_off hn, stM_off hn, stM_off hn, stM_off hn, stM_off hn, stM_off hn]
  unfold stM
  by_cases h : b = 4
  · rw [if_pos ⟨rfl, h⟩, if_pos h]
  · rw [if_neg (fun q => h q.2), if_neg h]
/-- cells that reading leaves -/
theorem rsM_off (c : Int → Int) {la : Nat} (hla : isLaneO la) {M : Mm} (hl : LW M la) {a : Nat} (h47 : a ≠ 47) (ha : a < la ∨ la + 11 < a) : rsM c la M a = M a := by
  unfold rsM
  split
  · rw [stM_off h47]
  · split
    · unfold rhM
      split
      · rw [stM_off h47]
      · split
        · rw [stM_off h47, stM_off h47]
        · unfold adH
          rw [stM_off (by omega), stM_off (by omega), stM_off h47]
    · unfold rnM
      have hb := pNd_b c (M 47 0) (M la 3) (M la 4)
      obtain ⟨p, od, e⟩ : ∃ p od, pNd c (M 47 0) (M la 3) (M la 4) = (p, od) := ⟨_, _, rfl⟩
      rw [e]
      cases od with
      | none =>
        show stM (stM M 47 0 p) 47 1 p a = M a
        rw [stM_off h47, stM_off h47]
      | some d =>
        show anM (stM M 47 0 p) la d a = M a
        have e2 : (pNd c (M 47 0) (M la 3) (M la 4)).2 = some d := by rw [e]
        have h8 := (hb.2 (by rw [e2]; exact fun q => by cases q)).2
        rw [anM_hi _ hla d ha (by rw [stM_off (by omega)]; exact ⟨hl.2.2.1, h8⟩), stM_off h47]
theorem rsM_R (c : Int → Int) {la : Nat} (hla : isLaneO la) {M : Mm} (hR : RI M la) (h9 : M 47 1 = -9) (hp : M 47 0 ≤ 120) : RI (rsM c la M) la ∧ ((rsM c la M) 47 1 = -9 → M 47 0 + 1 ≤ (rsM c la M) 47 0) := by
  obtain ⟨hl, hp0, hf0⟩ := hR
  have hn47 : la ≠ 47 := by omega
  have hn48 : la + 1 ≠ 47 := by omega
  have h1 := rnP_b c (M 47 0 + 1)
  have hb := pNd_b c (M 47 0) (M la 3) (M la 4)
  unfold rsM
  split
  · refine ⟨⟨by unfold LW; rw [stM_off hn47]; exact hl, by rw [stM_at]; omega, ?_⟩, fun _ => by rw [stM_at]; omega⟩
    rw [stM_ne _ _ (Or.inr (by decide))]; exact hf0
  · split
    · unfold rhM
      split
      · refine ⟨⟨by unfold LW; rw [stM_off hn47]; exact hl, by rw [stM_ne _ _ (Or.inr (by decide))]; exact hp0, by rw [stM_at]; omega⟩, fun q => ?_⟩
        rw [stM_at] at q; omega
      · split
        · refine ⟨⟨by unfold LW; rw [stM_off hn47, stM_off hn47]; exact hl, by rw [stM_ne _ _ (Or.inr (by decide)), stM_at]; omega, by rw [stM_at]; omega⟩, fun q => ?_⟩
          rw [stM_at] at q; omega
        · unfold adH
          rw [stM_off hn47]
          refine ⟨⟨?_, ?_, ?_⟩, fun _ => ?_⟩
          · unfold LW
            rw [stM_at, stM_ne _ _ (Or.inr (by decide)), stM_off (by omega), stM_off hn47]
            omega
          · rw [stM_ne _ _ (Or.inl (by omega)), stM_ne _ _ (Or.inl (by omega)), stM_at]; omega
          · rw [stM_ne _ _ (Or.inl (by omega)), stM_ne _ _ (Or.inl (by omega)), stM_ne _ _ (Or.inr (by decide))]; exact hf0
          · rw [stM_ne _ _ (Or.inl (by omega)), stM_ne _ _ (Or.inl (by omega)), stM_at]; omega
    · unfold rnM
      obtain ⟨p, od, e⟩ : ∃ p od, pNd c (M 47 0) (M la 3) (M la 4) = (p, od) := ⟨_, _, rfl⟩
      rw [e]
      cases od with
      | none =>
        show RI (stM (stM M 47 0 p) 47 1 p) la ∧ (stM (stM M 47 0 p) 47 1 p 47 1 = -9 → M 47 0 + 1 ≤ stM (stM M 47 0 p) 47 1 p 47 0)
        have e2 : (pNd c (M 47 0) (M la 3) (M la 4)).1 = p := by rw [e]
        refine ⟨⟨by unfold LW; rw [stM_off hn47, stM_off hn47]; exact hl, by rw [stM_ne _ _ (Or.inr (by decide)), stM_at]; omega, by rw [stM_at]; omega⟩, fun q => ?_⟩
        rw [stM_at] at q; omega
      | some d =>
        show RI (anM (stM M 47 0 p) la d) la ∧ (anM (stM M 47 0 p) la d 47 1 = -9 → M 47 0 + 1 ≤ anM (stM M 47 0 p) la d 47 0)
        have e1 : (pNd c (M 47 0) (M la 3) (M la 4)).1 = p := by rw [e]
        have e2 : (pNd c (M 47 0) (M la 3) (M la 4)).2 = some d := by rw [e]
        have h8 := hb.2 (by rw [e2]; exact fun q => by cases q)
        have o47 : anM (stM M 47 0 p) la d 47 = stM M 47 0 p 47 := anM_hi _ hla d (by omega) (by rw [stM_off hn47]; omega)
        refine ⟨⟨?_, ?_, ?_⟩, fun _ => ?_⟩
        · unfold LW
          rw [anM_la, anM_la, if_neg (by decide), if_pos rfl, stM_off hn47]
          omega
        · rw [o47, stM_at]; omega
        · rw [o47, stM_ne _ _ (Or.inr (by decide))]; exact hf0
        · rw [o47, stM_at]; omega
theorem rd0_off (M : Mm) {la : Nat} (hla : isLaneO la) {a : Nat} (h1 : a ≠ 47) (h2 : a ≠ la) : rd0 M la a = M a := by
  unfold rd0
  rw [stM_off h2, stM_off h2, stM_off h2, stM_off h1, stM_off h1]
theorem rd0_47 (M : Mm) {la : Nat} (hla : isLaneO la) : rd0 M la 47 0 = 0 := by
  unfold rd0
  rw [stM_off (by omega), stM_off (by omega), stM_off (by omega), stM_ne _ _ (Or.inr (by decide)), stM_at]
theorem rd0_R (M : Mm) {la : Nat} (hla : isLaneO la) : RI (rd0 M la) la := by
  refine ⟨?_, ?_, ?_⟩
  · have e3 : rd0 M la la 3 = 0 := by
      unfold rd0
      rw [stM_ne _ _ (Or.inr (by decide)), stM_ne _ _ (Or.inr (by decide)), stM_at]
    have e4 : rd0 M la la 4 = 0 := by
      unfold rd0
      rw [stM_ne _ _ (Or.inr (by decide)), stM_at]
    unfold LW
    rw [e3, e4]
    decide
  · rw [rd0_47 M hla]; decide
  · unfold rd0
    rw [stM_off (by omega), stM_off (by omega), stM_off (by omega), stM_at]
    decide
set_option maxHeartbeats 4000000 in
set_option maxRecDepth 100000 in
theorem c_X7_read {n : Nat} (hn : NN n) {M : Mm} {o : Nat} (ho : isRowO o) {c : Int → Int} (hx : TX M o c) {la : Nat} (hla : isLaneO la) : CT yX7_read cX7_read 4 (some .int) ({ frames := 5, cells := 0, slots := 0, locals := 117 }) n [.ref 47, .ref o, .ref la] M (rI (rdA c la M (M o 1) 47 1) (rdA c la M (M o 1))) := by
  refine CT.of (lv0 := [(0, .ref 47), (1, .ref o), (2, .ref la)]) (by decide +kernel) hn (fun _ => rfl) (fun _ => Nat.le_of_ble_eq_true rfl) (fun X cx cs qx => ?_)
  have cx : Cx X cX7_read RX7 ({ frames := 5, cells := 0, slots := 0, locals := 117 }) 4 n := cx
  have hcap := capO_b o
  refine g_aload_n cx (pc2 := 1) 0 rfl dX7_read_0 rfl ?_
  refine g_iconst cx (pc2 := 2) dX7_read_1 rfl ?_
  refine g_puti cx (pc2 := 5) (ci := 7) (k0 := 47) (j := 0) rfl iwX7 rfl (lt_lit hn (Nat.le_of_ble_eq_true rfl)) rfl (Nat.le_of_ble_eq_true rfl) kf_X7_9 rfl tyX7_ok nmX7 rfl rfl dX7_read_2 rfl ?_
  refine g_aload_n cx (pc2 := 6) 0 rfl dX7_read_5 rfl ?_
  refine g_bipush cx (pc2 := 8) ⟨by decide, by decide⟩ dX7_read_6 rfl ?_
  refine g_puti cx (pc2 := 11) (ci := 7) (k0 := 47) (j := 1) rfl iwX7 rfl (lt_lit hn (Nat.le_of_ble_eq_true rfl)) rfl (Nat.le_of_ble_eq_true rfl) kf_X7_15 rfl tyX7_ok nmX7 rfl rfl dX7_read_8 rfl ?_
  refine g_aload_n cx (pc2 := 12) 2 rfl dX7_read_11 rfl ?_
  refine g_callV cx (pc2 := 15) (st := []) (As := []) (k0 := la) (ci := 2) (c_X2_clear (M := (stM (stM M 47 0 0) 47 1 (-9))) hn (by exact hla)) wM_X2_clear wV_X2_clear kl_X7_18 (sh_lane hla) (by omega) rfl ⟨rfl, rfl, Nat.le_of_ble_eq_true rfl, Nat.le_of_ble_eq_true rfl⟩ (Nat.le_of_ble_eq_true rfl) cs rfl rfl dX7_read_12 rfl ?_
  rintro _ _ ⟨rfl, rfl⟩
  refine g_iconst cx (pc2 := 16) dX7_read_15 rfl ?_
  refine g_istore_n cx (pc2 := 17) (lv2 := [(0, .ref 47), (1, .ref o), (2, .ref la), (3, .int (iI 0))]) rfl (Nat.le_of_ble_eq_true rfl) dX7_read_16 rfl ?_
  have L17 : ∀ (fu : Nat) (i : Int) (T : Mm), (0 ≤ i ∧ i ≤ 121) → (rdL c (M o 1) la (121 - i).toNat T = rdA c la M (M o 1)) → (RI T la) → (T 47 1 = -9 → i ≤ T 47 0) → (TX T o c) → (T o = M o) → (121 - i).toNat ≤ fu → G X 17 [(0, .ref 47), (1, .ref o), (2, .ref la), (3, .int (iI i))] [] T := by
    intro fu
    induction fu using Nat.strongRecOn with
    | _ fu ih17 =>
      intro i T hi hT hR hp hxT hoT hk17
      have hst : i ≤ 120 → rdL c (M o 1) la (121 - i).toNat T = if T 47 1 = -9 ∧ T 47 0 < M o 1 then rdL c (M o 1) la (121 - (i + 1)).toNat (rsM c la T) else T := fun q => by rw [show (121 - i).toNat = (121 - (i + 1)).toNat + 1 by omega, rdL]
      have hcb := TX_b hxT (T 47 0)
      have hoT1 : T o 1 = M o 1 := by rw [hoT]
      have hlT := hR.1
      refine g_iload_n cx (pc2 := 18) 3 rfl dX7_read_17 rfl ?_
      refine g_bipush cx (pc2 := 20) ⟨by decide, by decide⟩ dX7_read_18 rfl ?_
      refine g_icmp_gt cx (pc2 := 23) (tgt := 103) ⟨(by first | assumption | omega), ⟨by decide, by decide⟩⟩ dX7_read_20 (by decide) rfl (fun h_1 => ?_) (fun h_1 => ?_)
      · skip
        refine g_aload_n cx (pc2 := 104) 0 rfl dX7_read_103 rfl ?_
        refine g_get cx (pc2 := 107) (ci := 7) (k0 := 47) (j := 1) (v := .int (iI (T 47 1))) rfl iwX7 rfl (lt_lit hn (Nat.le_of_ble_eq_true rfl)) rfl (Nat.le_of_ble_eq_true rfl) kf_X7_15 rfl rfl dX7_read_104 rfl ?_
        exact g_iret cx qx dX7_read_107 ⟨congrArg (fun q => some (Value.int (iI q))) (by rw [← hT]; first | (rw [show (121 - i).toNat = 0 by omega]; rfl) | (rw [hst (by omega), if_neg (by omega)]; done)), by rw [← hT]; first | (rw [show (121 - i).toNat = 0 by omega]; rfl) | (rw [hst (by omega), if_neg (by omega)]; done)⟩
      · skip
        refine g_aload_n cx (pc2 := 24) 0 rfl dX7_read_23 rfl ?_
        refine g_get cx (pc2 := 27) (ci := 7) (k0 := 47) (j := 1) (v := .int (iI (T 47 1))) rfl iwX7 rfl (lt_lit hn (Nat.le_of_ble_eq_true rfl)) rfl (Nat.le_of_ble_eq_true rfl) kf_X7_15 rfl rfl dX7_read_24 rfl ?_
        refine g_bipush cx (pc2 := 29) ⟨by decide, by decide⟩ dX7_read_27 rfl ?_
        refine g_icmp_ne cx (pc2 := 32) (tgt := 103) ⟨(by first | assumption | omega), ⟨by decide, by decide⟩⟩ dX7_read_29 (by decide) rfl (fun h_2 => ?_) (fun h_2 => ?_)
        · skip
          refine g_aload_n cx (pc2 := 104) 0 rfl dX7_read_103 rfl ?_
          refine g_get cx (pc2 := 107) (ci := 7) (k0 := 47) (j := 1) (v := .int (iI (T 47 1))) rfl iwX7 rfl (lt_lit hn (Nat.le_of_ble_eq_true rfl)) rfl (Nat.le_of_ble_eq_true rfl) kf_X7_15 rfl rfl dX7_read_104 rfl ?_
          exact g_iret cx qx dX7_read_107 ⟨congrArg (fun q => some (Value.int (iI q))) (by rw [← hT]; first | (rw [show (121 - i).toNat = 0 by omega]; rfl) | (rw [hst (by omega), if_neg (by omega)]; done)), by rw [← hT]; first | (rw [show (121 - i).toNat = 0 by omega]; rfl) | (rw [hst (by omega), if_neg (by omega)]; done)⟩
        · skip
          refine g_aload_n cx (pc2 := 33) 0 rfl dX7_read_32 rfl ?_
          refine g_get cx (pc2 := 36) (ci := 7) (k0 := 47) (j := 0) (v := .int (iI (T 47 0))) rfl iwX7 rfl (lt_lit hn (Nat.le_of_ble_eq_true rfl)) rfl (Nat.le_of_ble_eq_true rfl) kf_X7_9 rfl rfl dX7_read_33 rfl ?_
          refine g_aload_n cx (pc2 := 37) 1 rfl dX7_read_36 rfl ?_
          refine g_callV cx (pc2 := 40) (st := [.int (iI (T 47 0))]) (As := []) (k0 := o) (ci := 8) (c_X8_length (M := T) hn (by first | exact ho | exact hla)) wM_X8_length wV_X8_length kl_X7_23 (sh_row ho) (by omega) rfl ⟨rfl, rfl, Nat.le_of_ble_eq_true rfl, Nat.le_of_ble_eq_true rfl⟩ (Nat.le_of_ble_eq_true rfl) cs rfl rfl dX7_read_37 rfl ?_
          rintro _ _ ⟨rfl, rfl⟩
          refine g_rwi (y := iI (M o 1)) (congrArg iI hoT1) ?_
          refine g_icmp_ge cx (pc2 := 43) (tgt := 103) ⟨(by first | assumption | omega), (by first | assumption | omega)⟩ dX7_read_40 (by decide) rfl (fun h_3 => ?_) (fun h_3 => ?_)
          · skip
            refine g_aload_n cx (pc2 := 104) 0 rfl dX7_read_103 rfl ?_
            refine g_get cx (pc2 := 107) (ci := 7) (k0 := 47) (j := 1) (v := .int (iI (T 47 1))) rfl iwX7 rfl (lt_lit hn (Nat.le_of_ble_eq_true rfl)) rfl (Nat.le_of_ble_eq_true rfl) kf_X7_15 rfl rfl dX7_read_104 rfl ?_
            exact g_iret cx qx dX7_read_107 ⟨congrArg (fun q => some (Value.int (iI q))) (by rw [← hT]; first | (rw [show (121 - i).toNat = 0 by omega]; rfl) | (rw [hst (by omega), if_neg (by omega)]; done)), by rw [← hT]; first | (rw [show (121 - i).toNat = 0 by omega]; rfl) | (rw [hst (by omega), if_neg (by omega)]; done)⟩
          · skip
            have L97 : ∀ (T2 : Mm), (T2 = rsM c la T) → G X 97 [(0, .ref 47), (1, .ref o), (2, .ref la), (3, .int (iI i))] [] T2 := by
              intro T2 hT2
              have hRR := rsM_R c hla hR (by omega) (by omega)
              have e1 := rsM_off c hla hR.1 (a := o) (by omega) (by omega)
              have e2 := rsM_off c hla hR.1 (a := o + 1) (by omega) (by omega)
              refine g_iinc cx (pc2 := 100) 3 rfl (lv2 := [(0, .ref 47), (1, .ref o), (2, .ref la), (3, .int (iI (i + 1)))]) rfl (Nat.le_of_ble_eq_true rfl) dX7_read_97 rfl ?_
              refine g_goto cx (tgt := 17) dX7_read_100 (by decide) ?_
              exact ih17 ((121 - (i + 1)).toNat) (by omega) (i + 1) T2 (by first | assumption | omega) (by rw [hT2, ← hT, hst (by omega), if_pos (by omega)]) (by rw [hT2]; exact hRR.1) (by intro q; rw [hT2] at q ⊢; have := hRR.2 q; have := hp (by omega); omega) (by rw [hT2]; exact TX_of hxT e1 e2) (by rw [hT2, e1, hoT]) (Nat.le_refl _)
            refine g_aload_n cx (pc2 := 44) 1 rfl dX7_read_43 rfl ?_
            refine g_aload_n cx (pc2 := 45) 0 rfl dX7_read_44 rfl ?_
            refine g_get cx (pc2 := 48) (ci := 7) (k0 := 47) (j := 0) (v := .int (iI (T 47 0))) rfl iwX7 rfl (lt_lit hn (Nat.le_of_ble_eq_true rfl)) rfl (Nat.le_of_ble_eq_true rfl) kf_X7_9 rfl rfl dX7_read_45 rfl ?_
            refine g_callV cx (pc2 := 51) (st := []) (As := [.int (iI (T 47 0))]) (k0 := o) (ci := 8) (c_X8_cell (M := T) hn (by first | exact ho | exact hla) (by exact hxT.1) (T 47 0) (by first | assumption | omega)) wM_X8_cell wV_X8_cell kl_X7_29 (sh_row ho) (by omega) rfl ⟨rfl, rfl, Nat.le_of_ble_eq_true rfl, Nat.le_of_ble_eq_true rfl⟩ (Nat.le_of_ble_eq_true rfl) cs rfl rfl dX7_read_48 rfl ?_
            rintro _ _ ⟨rfl, rfl⟩
            refine g_rwi (y := iI (c (T 47 0))) (congrArg iI (hxT.2.2 _)) ?_
            refine g_bipush cx (pc2 := 53) ⟨by decide, by decide⟩ dX7_read_51 rfl ?_
            refine g_icmp_ne cx (pc2 := 56) (tgt := 69) ⟨(by first | assumption | omega), ⟨by decide, by decide⟩⟩ dX7_read_53 (by decide) rfl (fun h_4 => ?_) (fun h_4 => ?_)
            · skip
              refine g_aload_n cx (pc2 := 70) 1 rfl dX7_read_69 rfl ?_
              refine g_aload_n cx (pc2 := 71) 0 rfl dX7_read_70 rfl ?_
              refine g_get cx (pc2 := 74) (ci := 7) (k0 := 47) (j := 0) (v := .int (iI (T 47 0))) rfl iwX7 rfl (lt_lit hn (Nat.le_of_ble_eq_true rfl)) rfl (Nat.le_of_ble_eq_true rfl) kf_X7_9 rfl rfl dX7_read_71 rfl ?_
              refine g_callV cx (pc2 := 77) (st := []) (As := [.int (iI (T 47 0))]) (k0 := o) (ci := 8) (c_X8_cell (M := T) hn (by first | exact ho | exact hla) (by exact hxT.1) (T 47 0) (by first | assumption | omega)) wM_X8_cell wV_X8_cell kl_X7_29 (sh_row ho) (by omega) rfl ⟨rfl, rfl, Nat.le_of_ble_eq_true rfl, Nat.le_of_ble_eq_true rfl⟩ (Nat.le_of_ble_eq_true rfl) cs rfl rfl dX7_read_74 rfl ?_
              rintro _ _ ⟨rfl, rfl⟩
              refine g_rwi (y := iI (c (T 47 0))) (congrArg iI (hxT.2.2 _)) ?_
              refine g_bipush cx (pc2 := 79) ⟨by decide, by decide⟩ dX7_read_77 rfl ?_
              refine g_icmp_ne cx (pc2 := 82) (tgt := 91) ⟨(by first | assumption | omega), ⟨by decide, by decide⟩⟩ dX7_read_79 (by decide) rfl (fun h_5 => ?_) (fun h_5 => ?_)
              · skip
                refine g_aload_n cx (pc2 := 92) 0 rfl dX7_read_91 rfl ?_
                refine g_aload_n cx (pc2 := 93) 1 rfl dX7_read_92 rfl ?_
                refine g_aload_n cx (pc2 := 94) 2 rfl dX7_read_93 rfl ?_
                refine g_callV cx (pc2 := 97) (st := []) (As := [.ref o, .ref la]) (k0 := 47) (ci := 7) (c_X7_readNeed (M := T) hn (by first | exact ho | exact hla) (by exact hxT) (by omega) (by exact hla) (by exact hlT)) wM_X7_readNeed wV_X7_readNeed kl_X7_37 rfl (lt_lit hn (Nat.le_of_ble_eq_true rfl)) rfl ⟨rfl, rfl, Nat.le_of_ble_eq_true rfl, Nat.le_of_ble_eq_true rfl⟩ (Nat.le_of_ble_eq_true rfl) cs rfl rfl dX7_read_94 rfl ?_
                rintro _ _ ⟨rfl, rfl⟩
                exact L97 (rnM c la T) (by unfold rsM; first | (rw [if_pos (by assumption)]; done) | (rw [if_neg (by assumption), if_pos (by assumption)]; done) | (rw [if_neg (by assumption), if_neg (by assumption)]; done))
              · skip
                refine g_aload_n cx (pc2 := 83) 0 rfl dX7_read_82 rfl ?_
                refine g_aload_n cx (pc2 := 84) 1 rfl dX7_read_83 rfl ?_
                refine g_aload_n cx (pc2 := 85) 2 rfl dX7_read_84 rfl ?_
                refine g_callV cx (pc2 := 88) (st := []) (As := [.ref o, .ref la]) (k0 := 47) (ci := 7) (c_X7_readHouse (M := T) hn (by first | exact ho | exact hla) (by exact hxT) (by omega) (by exact hla) (by exact hlT)) wM_X7_readHouse wV_X7_readHouse kl_X7_33 rfl (lt_lit hn (Nat.le_of_ble_eq_true rfl)) rfl ⟨rfl, rfl, Nat.le_of_ble_eq_true rfl, Nat.le_of_ble_eq_true rfl⟩ (Nat.le_of_ble_eq_true rfl) cs rfl rfl dX7_read_85 rfl ?_
                rintro _ _ ⟨rfl, rfl⟩
                refine g_goto cx (tgt := 97) dX7_read_88 (by decide) ?_
                exact L97 (rhM c la T) (by unfold rsM; first | (rw [if_pos (by assumption)]; done) | (rw [if_neg (by assumption), if_pos (by assumption)]; done) | (rw [if_neg (by assumption), if_neg (by assumption)]; done))
            · skip
              refine g_aload_n cx (pc2 := 57) 0 rfl dX7_read_56 rfl ?_
              refine g_dup cx (pc2 := 58) rfl dX7_read_57 rfl ?_
              refine g_get cx (pc2 := 61) (ci := 7) (k0 := 47) (j := 0) (v := .int (iI (T 47 0))) rfl iwX7 rfl (lt_lit hn (Nat.le_of_ble_eq_true rfl)) rfl (Nat.le_of_ble_eq_true rfl) kf_X7_9 rfl rfl dX7_read_58 rfl ?_
              refine g_iconst cx (pc2 := 62) dX7_read_61 rfl ?_
              refine g_iadd cx (pc2 := 63) dX7_read_62 rfl ?_
              refine g_puti cx (pc2 := 66) (ci := 7) (k0 := 47) (j := 0) rfl iwX7 rfl (lt_lit hn (Nat.le_of_ble_eq_true rfl)) rfl (Nat.le_of_ble_eq_true rfl) kf_X7_9 rfl tyX7_ok nmX7 rfl rfl dX7_read_63 rfl ?_
              refine g_goto cx (tgt := 97) dX7_read_66 (by decide) ?_
              exact L97 (stM T 47 0 ((T 47 0) + 1)) (by unfold rsM; first | (rw [if_pos (by assumption)]; done) | (rw [if_neg (by assumption), if_pos (by assumption)]; done) | (rw [if_neg (by assumption), if_neg (by assumption)]; done))
  exact L17 _ 0 (stM (stM (stM (stM (stM M 47 0 0) 47 1 (-9)) la 3 0) la 4 0) la 5 0) (by first | assumption | omega) (by rfl) (by exact rd0_R M hla) (by intro _; show 0 ≤ rd0 M la 47 0; rw [rd0_47 M hla]; exact Int.le_refl 0) (by exact TX_of hx (rd0_off M hla (by omega) (by omega)) (rd0_off M hla (by omega) (by omega))) (by exact rd0_off M hla (by omega) (by omega)) (Nat.le_refl _)
