theorem rdL_R (c : Int → Int) {sz : Int} (hsz : sz ≤ 120) {la : Nat} (hla : isLaneO la) : ∀ (k : Nat) {T : Mm}, RI T la → RI (rdL c sz la k T) la
  | 0, _, h => h
  | k + 1, T, h => by
    rw [rdL]
    split
    · rename_i q
      exact rdL_R c hsz hla k (rsM_R c hla h q.1 (by omega)).1
    · exact h
theorem rdL_off (c : Int → Int) {sz : Int} (hsz : sz ≤ 120) {la : Nat} (hla : isLaneO la) {a : Nat} (h47 : a ≠ 47) (ha : a < la ∨ la + 11 < a) : ∀ (k : Nat) {T : Mm}, RI T la → rdL c sz la k T a = T a
  | 0, _, _ => rfl
  | k + 1, T, h => by
    rw [rdL]
    split
    · rename_i q
      rw [rdL_off c hsz hla h47 ha k (rsM_R c hla h q.1 (by omega)).1, rsM_off c hla h.1 h47 ha]
    · rfl
theorem rdA_R (c : Int → Int) {la : Nat} (hla : isLaneO la) (M : Mm) {sz : Int} (hsz : sz ≤ 120) : RI (rdA c la M sz) la := rdL_R c hsz hla 121 (rd0_R M hla)
theorem rdA_off (c : Int → Int) {la : Nat} (hla : isLaneO la) (M : Mm) {sz : Int} (hsz : sz ≤ 120) {a : Nat} (h47 : a ≠ 47) (ha : a < la ∨ la + 11 < a) : rdA c la M sz a = M a := by
  unfold rdA
  rw [rdL_off c hsz hla h47 ha 121 (rd0_R M hla), rd0_off M hla h47 (by omega)]
theorem CI.sz {M : Mm} (h : CI M) {o : Nat} (ho : isRowO o) : M o 1 ≤ 120 := by
  have h1 := (h.rw o ho).1
  have h2 := capO_b o
  omega
theorem dfM_off {M : Mm} (h : CI M) {r : Int} (hT : T4 r) {a : Nat} (h1 : a < 35 ∨ 47 < a) : dfM M r a = M a := rdA_off _ (Or.inr rfl) M (h.sz (tO_ok hT).1) (by omega) (by omega)
def vlM (M : Mm) (r : Int) : Mm := rdA (sgn M (15 + 2 * r.toNat)) 23 (dfM M r) (M (15 + 2 * r.toNat) 1)
theorem vlM_off {M : Mm} (h : CI M) {r : Int} (hT : T4 r) {a : Nat} (h1 : a < 23 ∨ 47 < a) : vlM M r a = M a := by
  unfold vlM
  rw [rdA_off _ (Or.inl rfl) _ (h.sz (tO_ok hT).1) (by omega) (by omega), dfM_off h hT (by omega)]
theorem ct0_eq {M : Mm} {o : Nat} (h : 0 ≤ M o 2) : (if (0 : Int) ≤ 0 ∧ 0 < M o 2 then stM M o 2 0 else M) = stM M o 2 0 := by
  by_cases q : 0 < M o 2
  · rw [if_pos ⟨by omega, q⟩]
  · rw [if_neg (fun z => q z.2)]
    have e : M o 2 = 0 := by omega
    rw [← e, stM_self]
def vilM (M : Mm) (r : Int) : Mm := stM (stM (clM (vlM M r)) 70 2 0) 73 2 0
theorem clM_off (M : Mm) {a : Nat} (h : a < 63 ∨ 65 < a) : clM M a = M a := by
  funext b
  unfold clM
  rw [if_neg (by omega), if_neg (by omega), if_neg (by omega)]
def villA (M : Mm) (r : Int) : Int := if ¬ T4 r then -1 else if M (15 + 2 * r.toNat) 1 < 0 then -3 else if ¬ dfM M r 47 1 = -9 then -4 else vilM M r 23 3
def villM (M : Mm) (r : Int) : Mm := if ¬ T4 r then M else if M (15 + 2 * r.toNat) 1 < 0 then fdM M 1 else if ¬ dfM M r 47 1 = -9 then dfM M r else vilM M r
abbrev HS (M : Mm) (h : Int) : Prop := 0 ≤ h ∧ h < M 23 3
abbrev NS (M : Mm) (i : Int) : Prop := 0 ≤ i ∧ i < M 23 4
def houA (M : Mm) (h : Int) : Int := if ¬ HS M h then -1 else plc M 23 h
def houM (M : Mm) (h : Int) : Mm := if ¬ HS M h then M else tdM M (M 64 h.toNat)
def neeA (M : Mm) (i w : Int) : Int := if ¬ NS M i ∨ w < 0 ∨ 5 < w then -1 else 1
def neeM (M : Mm) (i w : Int) : Mm := if ¬ NS M i ∨ w < 0 ∨ 5 < w then M else tdM M (M (27 + i.toNat) (tlf w))
def marA (M : Mm) (i k : Int) : Int := if ¬ NS M i ∨ k < 1 ∨ 5 < k then -1 else if ¬ isAK (M (27 + i.toNat) 0) k then -3 else mkO M (27 + i.toNat) k
def marM (M : Mm) (i k : Int) : Mm := if ¬ NS M i ∨ k < 1 ∨ 5 < k then M else if ¬ isAK (M (27 + i.toNat) 0) k then fdM M 3 else M
def staA (M : Mm) (h : Int) : Int := if ¬ HS M h then -1 else M 23 5
def staM (M : Mm) (h : Int) : Mm := if ¬ HS M h then M else stM M 23 5 h
def carA (M : Mm) (h k : Int) : Int := if ¬ HS M h ∨ ¬ HS M k then -1 else wap (plc M 23 h) (plc M 23 k)
def chaA (M : Mm) (i p : Int) : Int := if ¬ NS M i ∨ p < 0 ∨ 12 < p then -1 else if ¬ isAK (M (27 + i.toNat) 0) 2 then -3 else M (27 + i.toNat) 6
def chaM (M : Mm) (i p : Int) : Mm := if ¬ NS M i ∨ p < 0 ∨ 12 < p then M else if ¬ isAK (M (27 + i.toNat) 0) 2 then fdM M 3 else stM M (27 + i.toNat) 6 p
theorem wio_v (M : Mm) (o : Nat) : wioV M o = 0 ∨ wioV M o = 1 ∨ wioV M o = 3 ∨ wioV M o = 5 := by unfold wioV; (repeat split) <;> omega
theorem gaM_CI {M : Mm} (h : CI M) (o : Nat) : CI (gaM M o) := gaF_CI (h.ld.bg h.sp) _
def ordA (M : Mm) (r : Int) : Int := if ¬ R6 r then -1 else if ¬ wioV M (3 + 2 * r.toNat) = 0 then -3 else gaM M (3 + 2 * r.toNat) 54 3
def ordM (M : Mm) (r : Int) : Mm := if ¬ R6 r then M else if ¬ wioV M (3 + 2 * r.toNat) = 0 then fdM M (wioV M (3 + 2 * r.toNat)) else tdM (gaM M (3 + 2 * r.toNat)) (gaM M (3 + 2 * r.toNat) 54 5)
def bgnA (T : Mm) (i : Int) : Int := if 0 ≤ i ∧ i < T 54 3 then T 56 i.toNat else -9
def begA (M : Mm) (r i : Int) : Int := if ¬ R6 r ∨ i < 0 ∨ 8 ≤ i then -1 else if ¬ wioV M (3 + 2 * r.toNat) = 0 then -3 else if ¬ hsR M (3 + 2 * r.toNat) i then -3 else bgnA (gaM M (3 + 2 * r.toNat)) i
def begM (M : Mm) (r i : Int) : Mm := if ¬ R6 r ∨ i < 0 ∨ 8 ≤ i then M else if ¬ wioV M (3 + 2 * r.toNat) = 0 then fdM M (wioV M (3 + 2 * r.toNat)) else if ¬ hsR M (3 + 2 * r.toNat) i then fdM M 2 else gaM M (3 + 2 * r.toNat)
set_option maxHeartbeats 4000000 in
set_option maxRecDepth 100000 in
theorem c_X11_village {n : Nat} (hn : NN n) {M : Mm} (hci : CI M) (r : Int) (hr : ir r) : CT yX11_village cX11_village 3 (some .int) ({ frames := 6, cells := 0, slots := 0, locals := 140 }) n [.ref 0, .int (iI r)] M (rI (villA M r) (villM M r)) := by
  refine CT.of (lv0 := [(0, .ref 0), (1, .int (iI r))]) (by decide +kernel) hn (fun _ => rfl) (fun _ => Nat.le_of_ble_eq_true rfl) (fun X cx cs qx => ?_)
  have cx : Cx X cX11_village RX11 ({ frames := 6, cells := 0, slots := 0, locals := 140 }) 3 n := cx
  have hrow := fun q : T4 r => hci.rw (15 + 2 * r.toNat) (tO_ok q).1
  have hcap := capO_b (15 + 2 * r.toNat)
  have hcp := fun q : T4 r => (capO_120 (tO_ok q).2 : capO (15 + 2 * r.toNat) = 120)
  have hl := hci.l
  have hsz := fun q : T4 r => hci.sz (tO_ok q).1
  have h70 := hci.p70
  have h73 := hci.p73
  by_cases hR : T4 r
  · skip
    refine g_aload_n cx (pc2 := 1) 0 rfl dX11_village_0 rfl ?_
    refine g_iload_n cx (pc2 := 2) 1 rfl dX11_village_1 rfl ?_
    refine g_callV cx (pc2 := 5) (st := []) (As := [.int (iI r)]) (k0 := 0) (ci := 11) (c_textOf_in (M := M) hn r (by assumption)) wM_X11_textOf wV_X11_textOf kl_X11_154 rfl (lt_lit hn (Nat.le_of_ble_eq_true rfl)) rfl ⟨rfl, rfl, Nat.le_of_ble_eq_true rfl, Nat.le_of_ble_eq_true rfl⟩ (Nat.le_of_ble_eq_true rfl) cs rfl rfl dX11_village_2 rfl ?_
    rintro _ _ ⟨rfl, rfl⟩
    refine g_astore_n cx (pc2 := 6) (lv2 := [(0, .ref 0), (1, .int (iI r)), (2, .ref (15 + 2 * r.toNat))]) rfl (Nat.le_of_ble_eq_true rfl) dX11_village_5 rfl ?_
    refine g_aload_n cx (pc2 := 7) 2 rfl dX11_village_6 rfl ?_
    refine g_ifnonnull cx (tgt := 12) dX11_village_7 (by decide) ?_
    refine g_aload_n cx (pc2 := 13) 2 rfl dX11_village_12 rfl ?_
    refine g_callV cx (pc2 := 16) (st := []) (As := []) (k0 := (15 + 2 * r.toNat)) (ci := 8) (c_X8_isMissing (M := M) hn (by exact (tO_ok hR).1) (by first | exact (hrow hR).1 | (rw [clM_off _ (by omega), vlM_off hci hR (by omega)]; exact h70.1) | (rw [stM_off (by omega), clM_off _ (by omega), vlM_off hci hR (by omega)]; exact h73.1))) wM_X8_isMissing wV_X8_isMissing kl_X11_121 (sh_row ((tO_ok hR).1)) (by have := (tO_ok hR).1; omega) rfl ⟨rfl, rfl, Nat.le_of_ble_eq_true rfl, Nat.le_of_ble_eq_true rfl⟩ (Nat.le_of_ble_eq_true rfl) cs rfl rfl dX11_village_13 rfl ?_
    rintro _ _ ⟨rfl, rfl⟩
    refine g_ifb_eq cx (pc2 := 19) (tgt := 25) dX11_village_16 (by decide) rfl (fun h_1 => ?_) (fun h_1 => ?_)
    · skip
      refine g_aload_n cx (pc2 := 26) 0 rfl dX11_village_25 rfl ?_
      refine g_get cx (pc2 := 29) (ci := 11) (k0 := 0) (j := 4) (v := .ref 47) rfl iwX11 rfl (lt_lit hn (Nat.le_of_ble_eq_true rfl)) rfl (Nat.le_of_ble_eq_true rfl) kf_X11_31 rfl rfl dX11_village_26 rfl ?_
      refine g_aload_n cx (pc2 := 30) 2 rfl dX11_village_29 rfl ?_
      refine g_aload_n cx (pc2 := 31) 0 rfl dX11_village_30 rfl ?_
      refine g_get cx (pc2 := 34) (ci := 11) (k0 := 0) (j := 3) (v := .ref 35) rfl iwX11 rfl (lt_lit hn (Nat.le_of_ble_eq_true rfl)) rfl (Nat.le_of_ble_eq_true rfl) kf_X11_25 rfl rfl dX11_village_31 rfl ?_
      refine g_callV cx (pc2 := 37) (st := []) (As := [.ref (15 + 2 * r.toNat), .ref 35]) (k0 := 47) (ci := 7) (c_X7_read (M := M) hn (by exact (tO_ok hR).1) (by first | exact hci.tx (tO_ok hR).1 (tO_ok hR).2 | exact TX_of (hci.tx (tO_ok hR).1 (tO_ok hR).2) (dfM_off hci hR (by omega)) (dfM_off hci hR (by omega))) (by exact Or.inr rfl)) wM_X7_read wV_X7_read kl_X11_157 rfl (lt_lit hn (Nat.le_of_ble_eq_true rfl)) rfl ⟨rfl, rfl, Nat.le_of_ble_eq_true rfl, Nat.le_of_ble_eq_true rfl⟩ (Nat.le_of_ble_eq_true rfl) cs rfl rfl dX11_village_34 rfl ?_
      rintro _ _ ⟨rfl, rfl⟩
      have hR2 : RI (rdA (sgn M (15 + 2 * r.toNat)) 35 M (M (15 + 2 * r.toNat) 1)) 35 := rdA_R (sgn M (tO r)) (Or.inr rfl : isLaneO 35) M (hsz hR)
      refine g_M (M2 := (dfM M r)) (by rfl) ?_
      refine g_bipush cx (pc2 := 39) ⟨by decide, by decide⟩ dX11_village_37 rfl ?_
      refine g_icmp_eq cx (pc2 := 42) (tgt := 45) ⟨(by have q := hR2.2.2; exact ⟨by omega, by omega⟩), ⟨by decide, by decide⟩⟩ dX11_village_39 (by decide) rfl (fun h_2 => ?_) (fun h_2 => ?_)
      · skip
        refine g_aload_n cx (pc2 := 46) 0 rfl dX11_village_45 rfl ?_
        refine g_get cx (pc2 := 49) (ci := 11) (k0 := 0) (j := 4) (v := .ref 47) rfl iwX11 rfl (lt_lit hn (Nat.le_of_ble_eq_true rfl)) rfl (Nat.le_of_ble_eq_true rfl) kf_X11_31 rfl rfl dX11_village_46 rfl ?_
        refine g_aload_n cx (pc2 := 50) 2 rfl dX11_village_49 rfl ?_
        refine g_aload_n cx (pc2 := 51) 0 rfl dX11_village_50 rfl ?_
        refine g_get cx (pc2 := 54) (ci := 11) (k0 := 0) (j := 2) (v := .ref 23) rfl iwX11 rfl (lt_lit hn (Nat.le_of_ble_eq_true rfl)) rfl (Nat.le_of_ble_eq_true rfl) kf_X11_21 rfl rfl dX11_village_51 rfl ?_
        refine g_callV cx (pc2 := 57) (st := []) (As := [.ref (15 + 2 * r.toNat), .ref 23]) (k0 := 47) (ci := 7) (c_X7_read (M := (dfM M r)) hn (by exact (tO_ok hR).1) (by first | exact hci.tx (tO_ok hR).1 (tO_ok hR).2 | exact TX_of (hci.tx (tO_ok hR).1 (tO_ok hR).2) (dfM_off hci hR (by omega)) (dfM_off hci hR (by omega))) (by exact Or.inl rfl)) wM_X7_read wV_X7_read kl_X11_157 rfl (lt_lit hn (Nat.le_of_ble_eq_true rfl)) rfl ⟨rfl, rfl, Nat.le_of_ble_eq_true rfl, Nat.le_of_ble_eq_true rfl⟩ (Nat.le_of_ble_eq_true rfl) cs rfl rfl dX11_village_54 rfl ?_
        rintro _ _ ⟨rfl, rfl⟩
        refine g_M (M2 := (vlM M r)) (by rw [dfM_off hci hR (by omega)]; rfl) ?_
        refine g_pop cx (pc2 := 58) rfl dX11_village_57 rfl ?_
        refine g_aload_n cx (pc2 := 59) 0 rfl dX11_village_58 rfl ?_
        refine g_get cx (pc2 := 62) (ci := 11) (k0 := 0) (j := 9) (v := .ref 63) rfl iwX11 rfl (lt_lit hn (Nat.le_of_ble_eq_true rfl)) rfl (Nat.le_of_ble_eq_true rfl) kf_X11_70 rfl rfl dX11_village_59 rfl ?_
        refine g_callV cx (pc2 := 65) (st := []) (As := []) (k0 := 63) (ci := 3) (c_X3_clear (M := (vlM M r)) hn) wM_X3_clear wV_X3_clear kl_X11_161 rfl (lt_lit hn (Nat.le_of_ble_eq_true rfl)) rfl ⟨rfl, rfl, Nat.le_of_ble_eq_true rfl, Nat.le_of_ble_eq_true rfl⟩ (Nat.le_of_ble_eq_true rfl) cs rfl rfl dX11_village_62 rfl ?_
        rintro _ _ ⟨rfl, rfl⟩
        refine g_aload_n cx (pc2 := 66) 0 rfl dX11_village_65 rfl ?_
        refine g_get cx (pc2 := 69) (ci := 11) (k0 := 0) (j := 10) (v := .ref 70) rfl iwX11 rfl (lt_lit hn (Nat.le_of_ble_eq_true rfl)) rfl (Nat.le_of_ble_eq_true rfl) kf_X11_79 rfl rfl dX11_village_66 rfl ?_
        refine g_iconst cx (pc2 := 70) dX11_village_69 rfl ?_
        refine g_callV cx (pc2 := 73) (st := []) (As := [.int (iI 0)]) (k0 := 70) (ci := 5) (c_X5_cutTo (M := (clM (vlM M r))) hn (by exact Or.inl rfl) (by first | exact (hrow hR).1 | (rw [clM_off _ (by omega), vlM_off hci hR (by omega)]; exact h70.1) | (rw [stM_off (by omega), clM_off _ (by omega), vlM_off hci hR (by omega)]; exact h73.1)) 0 (by first | assumption | omega)) wM_X5_cutTo wV_X5_cutTo kl_X11_164 rfl (lt_lit hn (Nat.le_of_ble_eq_true rfl)) rfl ⟨rfl, rfl, Nat.le_of_ble_eq_true rfl, Nat.le_of_ble_eq_true rfl⟩ (Nat.le_of_ble_eq_true rfl) cs rfl rfl dX11_village_70 rfl ?_
        rintro _ _ ⟨rfl, rfl⟩
        refine g_M (M2 := (stM (clM (vlM M r)) 70 2 0)) (by exact ct0_eq (by rw [clM_off _ (by omega), vlM_off hci hR (by omega)]; omega)) ?_
        refine g_aload_n cx (pc2 := 74) 0 rfl dX11_village_73 rfl ?_
        refine g_get cx (pc2 := 77) (ci := 11) (k0 := 0) (j := 11) (v := .ref 73) rfl iwX11 rfl (lt_lit hn (Nat.le_of_ble_eq_true rfl)) rfl (Nat.le_of_ble_eq_true rfl) kf_X11_83 rfl rfl dX11_village_74 rfl ?_
        refine g_iconst cx (pc2 := 78) dX11_village_77 rfl ?_
        refine g_callV cx (pc2 := 81) (st := []) (As := [.int (iI 0)]) (k0 := 73) (ci := 5) (c_X5_cutTo (M := (stM (clM (vlM M r)) 70 2 0)) hn (by exact Or.inr rfl) (by first | exact (hrow hR).1 | (rw [clM_off _ (by omega), vlM_off hci hR (by omega)]; exact h70.1) | (rw [stM_off (by omega), clM_off _ (by omega), vlM_off hci hR (by omega)]; exact h73.1)) 0 (by first | assumption | omega)) wM_X5_cutTo wV_X5_cutTo kl_X11_164 rfl (lt_lit hn (Nat.le_of_ble_eq_true rfl)) rfl ⟨rfl, rfl, Nat.le_of_ble_eq_true rfl, Nat.le_of_ble_eq_true rfl⟩ (Nat.le_of_ble_eq_true rfl) cs rfl rfl dX11_village_78 rfl ?_
        rintro _ _ ⟨rfl, rfl⟩
        refine g_M (M2 := (vilM M r)) (by exact ct0_eq (by rw [stM_off (by omega), clM_off _ (by omega), vlM_off hci hR (by omega)]; omega)) ?_
        refine g_aload_n cx (pc2 := 82) 0 rfl dX11_village_81 rfl ?_
        refine g_get cx (pc2 := 85) (ci := 11) (k0 := 0) (j := 2) (v := .ref 23) rfl iwX11 rfl (lt_lit hn (Nat.le_of_ble_eq_true rfl)) rfl (Nat.le_of_ble_eq_true rfl) kf_X11_21 rfl rfl dX11_village_82 rfl ?_
        refine g_getN cx (pc2 := 88) (ci := 2) (k0 := 23) (j := 3) (v := .int (iI ((vilM M r) 23 3))) rfl iwX2 rfl (lt_lit hn (Nat.le_of_ble_eq_true rfl)) rfl (Nat.le_of_ble_eq_true rfl) kf_X11_167 rfl rfl dX11_village_85 rfl ?_
        exact g_iret cx qx dX11_village_88 ⟨congrArg (fun q => some (Value.int (iI q))) (by unfold villA; (repeat (first | rw [if_pos (by first | assumption | omega)] | rw [if_neg (by first | assumption | exact not_not_intro (by assumption) | omega)])); first | done | rfl), by unfold villM; (repeat (first | rw [if_pos (by first | assumption | omega)] | rw [if_neg (by first | assumption | exact not_not_intro (by assumption) | omega)])); first | done | rfl⟩
      · skip
        refine g_bipush cx (pc2 := 44) ⟨by decide, by decide⟩ dX11_village_42 rfl ?_
        exact g_iret cx qx dX11_village_44 ⟨congrArg (fun q => some (Value.int (iI q))) (by unfold villA; (repeat (first | rw [if_pos (by first | assumption | omega)] | rw [if_neg (by first | assumption | exact not_not_intro (by assumption) | omega)])); first | done | rfl), by unfold villM; (repeat (first | rw [if_pos (by first | assumption | omega)] | rw [if_neg (by first | assumption | exact not_not_intro (by assumption) | omega)])); first | done | rfl⟩
    · skip
      refine g_aload_n cx (pc2 := 20) 0 rfl dX11_village_19 rfl ?_
      refine g_iconst cx (pc2 := 21) dX11_village_20 rfl ?_
      refine g_callV cx (pc2 := 24) (st := []) (As := [.int (iI 1)]) (k0 := 0) (ci := 11) (c_X11_found (M := M) hn 1 (by first | assumption | omega)) wM_X11_found wV_X11_found kl_X11_113 rfl (lt_lit hn (Nat.le_of_ble_eq_true rfl)) rfl ⟨rfl, rfl, Nat.le_of_ble_eq_true rfl, Nat.le_of_ble_eq_true rfl⟩ (Nat.le_of_ble_eq_true rfl) cs rfl rfl dX11_village_21 rfl ?_
      rintro _ _ ⟨rfl, rfl⟩
      exact g_iret cx qx dX11_village_24 ⟨congrArg (fun q => some (Value.int (iI q))) (by unfold villA; (repeat (first | rw [if_pos (by first | assumption | omega)] | rw [if_neg (by first | assumption | exact not_not_intro (by assumption) | omega)])); first | done | rfl), by unfold villM; (repeat (first | rw [if_pos (by first | assumption | omega)] | rw [if_neg (by first | assumption | exact not_not_intro (by assumption) | omega)])); first | done | rfl⟩
  · skip
    refine g_aload_n cx (pc2 := 1) 0 rfl dX11_village_0 rfl ?_
    refine g_iload_n cx (pc2 := 2) 1 rfl dX11_village_1 rfl ?_
    refine g_callV cx (pc2 := 5) (st := []) (As := [.int (iI r)]) (k0 := 0) (ci := 11) (c_textOf_out (M := M) hn r (by assumption) (by assumption)) wM_X11_textOf wV_X11_textOf kl_X11_154 rfl (lt_lit hn (Nat.le_of_ble_eq_true rfl)) rfl ⟨rfl, rfl, Nat.le_of_ble_eq_true rfl, Nat.le_of_ble_eq_true rfl⟩ (Nat.le_of_ble_eq_true rfl) cs rfl rfl dX11_village_2 rfl ?_
    rintro _ _ ⟨rfl, rfl⟩
    refine g_astore_nN cx (pc2 := 6) (lv2 := [(0, .ref 0), (1, .int (iI r)), (2, .null)]) rfl (Nat.le_of_ble_eq_true rfl) dX11_village_5 rfl ?_
    refine g_aload_nN cx (pc2 := 7) 2 rfl dX11_village_6 rfl ?_
    refine g_ifnonnullN cx (pc2 := 10) dX11_village_7 rfl ?_
    refine g_iconst cx (pc2 := 11) dX11_village_10 rfl ?_
    exact g_iret cx qx dX11_village_11 ⟨congrArg (fun q => some (Value.int (iI q))) (by unfold villA; (repeat (first | rw [if_pos (by first | assumption | omega)] | rw [if_neg (by first | assumption | exact not_not_intro (by assumption) | omega)])); first | done | rfl), by unfold villM; (repeat (first | rw [if_pos (by first | assumption | omega)] | rw [if_neg (by first | assumption | exact not_not_intro (by assumption) | omega)])); first | done | rfl⟩
set_option maxHeartbeats 4000000 in
set_option maxRecDepth 100000 in
theorem c_X11_house {n : Nat} (hn : NN n) {M : Mm} (hci : CI M) (h : Int) (hh : ir h) : CT yX11_house cX11_house 2 (some .int) ({ frames := 2, cells := 0, slots := 0, locals := 42 }) n [.ref 0, .int (iI h)] M (rI (houA M h) (houM M h)) := by
  refine CT.of (lv0 := [(0, .ref 0), (1, .int (iI h))]) (by decide +kernel) hn (fun _ => rfl) (fun _ => Nat.le_of_ble_eq_true rfl) (fun X cx cs qx => ?_)
  have cx : Cx X cX11_house RX11 ({ frames := 2, cells := 0, slots := 0, locals := 42 }) 2 n := cx
  have hl := hci.l
  refine g_aload_n cx (pc2 := 1) 0 rfl dX11_house_0 rfl ?_
  refine g_get cx (pc2 := 4) (ci := 11) (k0 := 0) (j := 2) (v := .ref 23) rfl iwX11 rfl (lt_lit hn (Nat.le_of_ble_eq_true rfl)) rfl (Nat.le_of_ble_eq_true rfl) kf_X11_21 rfl rfl dX11_house_1 rfl ?_
  refine g_iload_n cx (pc2 := 5) 1 rfl dX11_house_4 rfl ?_
  refine g_callV cx (pc2 := 8) (st := []) (As := [.int (iI h)]) (k0 := 23) (ci := 2) (c_X2_isHouse (M := M) hn (by exact Or.inl rfl) (by first | assumption | exact hci.l) h (by first | assumption | omega)) wM_X2_isHouse wV_X2_isHouse kl_X11_170 rfl (lt_lit hn (Nat.le_of_ble_eq_true rfl)) rfl ⟨rfl, rfl, Nat.le_of_ble_eq_true rfl, Nat.le_of_ble_eq_true rfl⟩ (Nat.le_of_ble_eq_true rfl) cs rfl rfl dX11_house_5 rfl ?_
  rintro _ _ ⟨rfl, rfl⟩
  refine g_ifb_ne cx (pc2 := 11) (tgt := 13) dX11_house_8 (by decide) rfl (fun h_1 => ?_) (fun h_1 => ?_)
  · skip
    refine g_aload_n cx (pc2 := 14) 0 rfl dX11_house_13 rfl ?_
    refine g_aload_n cx (pc2 := 15) 0 rfl dX11_house_14 rfl ?_
    refine g_get cx (pc2 := 18) (ci := 11) (k0 := 0) (j := 9) (v := .ref 63) rfl iwX11 rfl (lt_lit hn (Nat.le_of_ble_eq_true rfl)) rfl (Nat.le_of_ble_eq_true rfl) kf_X11_70 rfl rfl dX11_house_15 rfl ?_
    refine g_iload_n cx (pc2 := 19) 1 rfl dX11_house_18 rfl ?_
    refine g_callV cx (pc2 := 22) (st := [.ref 0]) (As := [.int (iI h)]) (k0 := 63) (ci := 3) (c_X3_hoursOf (M := M) hn h (by unfold H8; omega)) wM_X3_hoursOf wV_X3_hoursOf kl_X11_173 rfl (lt_lit hn (Nat.le_of_ble_eq_true rfl)) rfl ⟨rfl, rfl, Nat.le_of_ble_eq_true rfl, Nat.le_of_ble_eq_true rfl⟩ (Nat.le_of_ble_eq_true rfl) cs rfl rfl dX11_house_19 rfl ?_
    rintro _ _ ⟨rfl, rfl⟩
    refine g_puti cx (pc2 := 25) (ci := 11) (k0 := 0) (j := 15) rfl iwX11 rfl (lt_lit hn (Nat.le_of_ble_eq_true rfl)) rfl (Nat.le_of_ble_eq_true rfl) kf_X11_98 rfl tyX11_ok nmX11 rfl rfl dX11_house_22 rfl ?_
    refine g_aload_n cx (pc2 := 26) 0 rfl dX11_house_25 rfl ?_
    refine g_get cx (pc2 := 29) (ci := 11) (k0 := 0) (j := 2) (v := .ref 23) rfl iwX11 rfl (lt_lit hn (Nat.le_of_ble_eq_true rfl)) rfl (Nat.le_of_ble_eq_true rfl) kf_X11_21 rfl rfl dX11_house_26 rfl ?_
    refine g_iload_n cx (pc2 := 30) 1 rfl dX11_house_29 rfl ?_
    refine g_callV cx (pc2 := 33) (st := []) (As := [.int (iI h)]) (k0 := 23) (ci := 2) (c_X2_placeOf (M := (stM M 0 15 (M 64 h.toNat))) hn (by exact Or.inl rfl) (by first | assumption | exact hci.l) h (by first | assumption | omega)) wM_X2_placeOf wV_X2_placeOf kl_X11_176 rfl (lt_lit hn (Nat.le_of_ble_eq_true rfl)) rfl ⟨rfl, rfl, Nat.le_of_ble_eq_true rfl, Nat.le_of_ble_eq_true rfl⟩ (Nat.le_of_ble_eq_true rfl) cs rfl rfl dX11_house_30 rfl ?_
    rintro _ _ ⟨rfl, rfl⟩
    refine g_rwi (y := iI (plc M 23 h)) (rfl) ?_
    exact g_iret cx qx dX11_house_33 ⟨congrArg (fun q => some (Value.int (iI q))) (by unfold houA; (repeat (first | rw [if_pos (by first | assumption | omega)] | rw [if_neg (by first | assumption | exact not_not_intro (by assumption) | omega)])); first | done | rfl), by unfold houM; (repeat (first | rw [if_pos (by first | assumption | omega)] | rw [if_neg (by first | assumption | exact not_not_intro (by assumption) | omega)])); first | done | rfl⟩
  · skip
    refine g_iconst cx (pc2 := 12) dX11_house_11 rfl ?_
    exact g_iret cx qx dX11_house_12 ⟨congrArg (fun q => some (Value.int (iI q))) (by unfold houA; (repeat (first | rw [if_pos (by first | assumption | omega)] | rw [if_neg (by first | assumption | exact not_not_intro (by assumption) | omega)])); first | done | rfl), by unfold houM; (repeat (first | rw [if_pos (by first | assumption | omega)] | rw [if_neg (by first | assumption | exact not_not_intro (by assumption) | omega)])); first | done | rfl⟩
set_option maxHeartbeats 4000000 in
set_option maxRecDepth 100000 in
theorem c_X11_chance {n : Nat} (hn : NN n) {M : Mm} (hci : CI M) (i p : Int) (hi : ir i) (hp : ir p) : CT yX11_chance cX11_chance 5 (some .int) ({ frames := 2, cells := 0, slots := 0, locals := 43 }) n [.ref 0, .int (iI i), .int (iI p)] M (rI (chaA M i p) (chaM M i p)) := by
  refine CT.of (lv0 := [(0, .ref 0), (1, .int (iI i)), (2, .int (iI p))]) (by decide +kernel) hn (fun _ => rfl) (fun _ => Nat.le_of_ble_eq_true rfl) (fun X cx cs qx => ?_)
  have cx : Cx X cX11_chance RX11 ({ frames := 2, cells := 0, slots := 0, locals := 43 }) 5 n := cx
  have hl := hci.l
  have hndi : NS M i → NDR (M (27 + i.toNat)) := fun q => hci.nd.2 i.toNat (by omega)
  refine g_aload_n cx (pc2 := 1) 0 rfl dX11_chance_0 rfl ?_
  refine g_get cx (pc2 := 4) (ci := 11) (k0 := 0) (j := 2) (v := .ref 23) rfl iwX11 rfl (lt_lit hn (Nat.le_of_ble_eq_true rfl)) rfl (Nat.le_of_ble_eq_true rfl) kf_X11_21 rfl rfl dX11_chance_1 rfl ?_
  refine g_iload_n cx (pc2 := 5) 1 rfl dX11_chance_4 rfl ?_
  refine g_callV cx (pc2 := 8) (st := []) (As := [.int (iI i)]) (k0 := 23) (ci := 2) (c_X2_isNeed (M := M) hn (by first | exact Or.inl rfl | omega) (by first | assumption | exact hci.l) i (by first | assumption | omega)) wM_X2_isNeed wV_X2_isNeed kl_X11_179 rfl (lt_lit hn (Nat.le_of_ble_eq_true rfl)) rfl ⟨rfl, rfl, Nat.le_of_ble_eq_true rfl, Nat.le_of_ble_eq_true rfl⟩ (Nat.le_of_ble_eq_true rfl) cs rfl rfl dX11_chance_5 rfl ?_
  rintro _ _ ⟨rfl, rfl⟩
  refine g_ifb_eq cx (pc2 := 11) (tgt := 21) dX11_chance_8 (by decide) rfl (fun h_1 => ?_) (fun h_1 => ?_)
  · skip
    refine g_iconst cx (pc2 := 22) dX11_chance_21 rfl ?_
    exact g_iret cx qx dX11_chance_22 ⟨congrArg (fun q => some (Value.int (iI q))) (by unfold chaA; (repeat (first | rw [if_pos (by first | assumption | omega)] | rw [if_neg (by first | assumption | exact not_not_intro (by assumption) | omega)])); first | done | rfl), by unfold chaM; (repeat (first | rw [if_pos (by first | assumption | omega)] | rw [if_neg (by first | assumption | exact not_not_intro (by assumption) | omega)])); first | done | rfl⟩
  · skip
    refine g_iload_n cx (pc2 := 12) 2 rfl dX11_chance_11 rfl ?_
    refine g_if_lt cx (pc2 := 15) (tgt := 21) (by first | assumption | omega) dX11_chance_12 (by decide) rfl (fun h_2 => ?_) (fun h_2 => ?_)
    · skip
      refine g_iconst cx (pc2 := 22) dX11_chance_21 rfl ?_
      exact g_iret cx qx dX11_chance_22 ⟨congrArg (fun q => some (Value.int (iI q))) (by unfold chaA; (repeat (first | rw [if_pos (by first | assumption | omega)] | rw [if_neg (by first | assumption | exact not_not_intro (by assumption) | omega)])); first | done | rfl), by unfold chaM; (repeat (first | rw [if_pos (by first | assumption | omega)] | rw [if_neg (by first | assumption | exact not_not_intro (by assumption) | omega)])); first | done | rfl⟩
    · skip
      refine g_iload_n cx (pc2 := 16) 2 rfl dX11_chance_15 rfl ?_
      refine g_bipush cx (pc2 := 18) ⟨by decide, by decide⟩ dX11_chance_16 rfl ?_
      refine g_icmp_le cx (pc2 := 21) (tgt := 23) ⟨(by first | assumption | omega), ⟨by decide, by decide⟩⟩ dX11_chance_18 (by decide) rfl (fun h_3 => ?_) (fun h_3 => ?_)
      · skip
        refine g_aload_n cx (pc2 := 24) 0 rfl dX11_chance_23 rfl ?_
        refine g_get cx (pc2 := 27) (ci := 11) (k0 := 0) (j := 2) (v := .ref 23) rfl iwX11 rfl (lt_lit hn (Nat.le_of_ble_eq_true rfl)) rfl (Nat.le_of_ble_eq_true rfl) kf_X11_21 rfl rfl dX11_chance_24 rfl ?_
        refine g_iload_n cx (pc2 := 28) 1 rfl dX11_chance_27 rfl ?_
        refine g_callV cx (pc2 := 31) (st := []) (As := [.int (iI i)]) (k0 := 23) (ci := 2) (c_X2_needOf (M := M) hn (by first | exact Or.inl rfl | omega) (by first | assumption | exact hci.l) i (by first | assumption | omega)) wM_X2_needOf wV_X2_needOf kl_X11_182 rfl (lt_lit hn (Nat.le_of_ble_eq_true rfl)) rfl ⟨rfl, rfl, Nat.le_of_ble_eq_true rfl, Nat.le_of_ble_eq_true rfl⟩ (Nat.le_of_ble_eq_true rfl) cs rfl rfl dX11_chance_28 rfl ?_
        rintro _ _ ⟨rfl, rfl⟩
        refine g_rwa (y := (27 + i.toNat)) ((ndO_in (M := M) (o := 23) (i := i) (by assumption)).trans (by omega)) ?_
        refine g_astore_n cx (pc2 := 32) (lv2 := [(0, .ref 0), (1, .int (iI i)), (2, .int (iI p)), (3, .ref (27 + i.toNat))]) rfl (Nat.le_of_ble_eq_true rfl) dX11_chance_31 rfl ?_
        refine g_aload_n cx (pc2 := 33) 3 rfl dX11_chance_32 rfl ?_
        refine g_iconst cx (pc2 := 34) dX11_chance_33 rfl ?_
        refine g_callV cx (pc2 := 37) (st := []) (As := [.int (iI 2)]) (k0 := (27 + i.toNat)) (ci := 4) (c_X4_isA (M := M) hn (by first | exact Or.inl rfl | omega) (by exact hndi (by assumption)) 2 (by exact ⟨by decide, by decide⟩)) wM_X4_isA wV_X4_isA kl_X11_191 (sh_need (by omega)) (by omega) rfl ⟨rfl, rfl, Nat.le_of_ble_eq_true rfl, Nat.le_of_ble_eq_true rfl⟩ (Nat.le_of_ble_eq_true rfl) cs rfl rfl dX11_chance_34 rfl ?_
        rintro _ _ ⟨rfl, rfl⟩
        refine g_ifb_ne cx (pc2 := 40) (tgt := 46) dX11_chance_37 (by decide) rfl (fun h_4 => ?_) (fun h_4 => ?_)
        · skip
          refine g_aload_n cx (pc2 := 47) 3 rfl dX11_chance_46 rfl ?_
          refine g_getN cx (pc2 := 50) (ci := 4) (k0 := (27 + i.toNat)) (j := 6) (v := .int (iI (M (27 + i.toNat) 6))) rfl iwX4 (sh_need (by omega)) (by omega) rfl (Nat.le_of_ble_eq_true rfl) kf_X11_204 rfl rfl dX11_chance_47 rfl ?_
          refine g_istore cx (pc2 := 52) (lv2 := [(0, .ref 0), (1, .int (iI i)), (2, .int (iI p)), (3, .ref (27 + i.toNat)), (4, .int (iI (M (27 + i.toNat) 6)))]) rfl (Nat.le_of_ble_eq_true rfl) dX11_chance_50 rfl ?_
          refine g_aload_n cx (pc2 := 53) 3 rfl dX11_chance_52 rfl ?_
          refine g_iload_n cx (pc2 := 54) 2 rfl dX11_chance_53 rfl ?_
          refine g_putiN cx (pc2 := 57) (ci := 4) (k0 := (27 + i.toNat)) (j := 6) rfl iwX4 (sh_need (by omega)) (by omega) rfl (Nat.le_of_ble_eq_true rfl) kf_X11_204 rfl tyX4_ok nmX4 rfl rfl dX11_chance_54 rfl ?_
          refine g_iload cx (pc2 := 59) 4 rfl dX11_chance_57 rfl ?_
          exact g_iret cx qx dX11_chance_59 ⟨congrArg (fun q => some (Value.int (iI q))) (by unfold chaA; (repeat (first | rw [if_pos (by first | assumption | omega)] | rw [if_neg (by first | assumption | exact not_not_intro (by assumption) | omega)])); first | done | rfl), by unfold chaM; (repeat (first | rw [if_pos (by first | assumption | omega)] | rw [if_neg (by first | assumption | exact not_not_intro (by assumption) | omega)])); first | done | rfl⟩
        · skip
          refine g_aload_n cx (pc2 := 41) 0 rfl dX11_chance_40 rfl ?_
          refine g_iconst cx (pc2 := 42) dX11_chance_41 rfl ?_
          refine g_callV cx (pc2 := 45) (st := []) (As := [.int (iI 3)]) (k0 := 0) (ci := 11) (c_X11_found (M := M) hn 3 (by first | assumption | omega)) wM_X11_found wV_X11_found kl_X11_113 rfl (lt_lit hn (Nat.le_of_ble_eq_true rfl)) rfl ⟨rfl, rfl, Nat.le_of_ble_eq_true rfl, Nat.le_of_ble_eq_true rfl⟩ (Nat.le_of_ble_eq_true rfl) cs rfl rfl dX11_chance_42 rfl ?_
          rintro _ _ ⟨rfl, rfl⟩
          exact g_iret cx qx dX11_chance_45 ⟨congrArg (fun q => some (Value.int (iI q))) (by unfold chaA; (repeat (first | rw [if_pos (by first | assumption | omega)] | rw [if_neg (by first | assumption | exact not_not_intro (by assumption) | omega)])); first | done | rfl), by unfold chaM; (repeat (first | rw [if_pos (by first | assumption | omega)] | rw [if_neg (by first | assumption | exact not_not_intro (by assumption) | omega)])); first | done | rfl⟩
      · skip
        refine g_iconst cx (pc2 := 22) dX11_chance_21 rfl ?_
        exact g_iret cx qx dX11_chance_22 ⟨congrArg (fun q => some (Value.int (iI q))) (by unfold chaA; (repeat (first | rw [if_pos (by first | assumption | omega)] | rw [if_neg (by first | assumption | exact not_not_intro (by assumption) | omega)])); first | done | rfl), by unfold chaM; (repeat (first | rw [if_pos (by first | assumption | omega)] | rw [if_neg (by first | assumption | exact not_not_intro (by assumption) | omega)])); first | done | rfl⟩
set_option maxHeartbeats 4000000 in
set_option maxRecDepth 100000 in
theorem c_X11_order {n : Nat} (hn : NN n) {M : Mm} (hci : CI M) (r : Int) (hr : ir r) : CT yX11_order cX11_order 4 (some .int) ({ frames := 4, cells := 0, slots := 0, locals := 90 }) n [.ref 0, .int (iI r)] M (rI (ordA M r) (ordM M r)) := by
  refine CT.of (lv0 := [(0, .ref 0), (1, .int (iI r))]) (by decide +kernel) hn (fun _ => rfl) (fun _ => Nat.le_of_ble_eq_true rfl) (fun X cx cs qx => ?_)
  have cx : Cx X cX11_order RX11 ({ frames := 4, cells := 0, slots := 0, locals := 90 }) 4 n := cx
  have hrow := fun q : R6 r => hci.rw (3 + 2 * r.toNat) (rO_ok q).1
  have hcap := capO_b (3 + 2 * r.toNat)
  have hcp := fun q : R6 r => (capO_60 (rO_ok q).2 : capO (3 + 2 * r.toNat) = 60)
  have hwv := wio_v M (3 + 2 * r.toNat)
  by_cases hR : R6 r
  · skip
    refine g_aload_n cx (pc2 := 1) 0 rfl dX11_order_0 rfl ?_
    refine g_iload_n cx (pc2 := 2) 1 rfl dX11_order_1 rfl ?_
    refine g_callV cx (pc2 := 5) (st := []) (As := [.int (iI r)]) (k0 := 0) (ci := 11) (c_rowOf_in (M := M) hn r (by assumption)) wM_X11_rowOf wV_X11_rowOf kl_X11_109 rfl (lt_lit hn (Nat.le_of_ble_eq_true rfl)) rfl ⟨rfl, rfl, Nat.le_of_ble_eq_true rfl, Nat.le_of_ble_eq_true rfl⟩ (Nat.le_of_ble_eq_true rfl) cs rfl rfl dX11_order_2 rfl ?_
    rintro _ _ ⟨rfl, rfl⟩
    refine g_astore_n cx (pc2 := 6) (lv2 := [(0, .ref 0), (1, .int (iI r)), (2, .ref (3 + 2 * r.toNat))]) rfl (Nat.le_of_ble_eq_true rfl) dX11_order_5 rfl ?_
    refine g_aload_n cx (pc2 := 7) 2 rfl dX11_order_6 rfl ?_
    refine g_ifnonnull cx (tgt := 12) dX11_order_7 (by decide) ?_
    refine g_aload_n cx (pc2 := 13) 0 rfl dX11_order_12 rfl ?_
    refine g_aload_n cx (pc2 := 14) 2 rfl dX11_order_13 rfl ?_
    refine g_callV cx (pc2 := 17) (st := []) (As := [.ref (3 + 2 * r.toNat)]) (k0 := 0) (ci := 11) (c_X11_wrongInOrder (M := M) hn (by first | assumption | omega) (by exact (rO_ok hR).1)) wM_X11_wrongInOrder wV_X11_wrongInOrder kl_X11_207 rfl (lt_lit hn (Nat.le_of_ble_eq_true rfl)) rfl ⟨rfl, rfl, Nat.le_of_ble_eq_true rfl, Nat.le_of_ble_eq_true rfl⟩ (Nat.le_of_ble_eq_true rfl) cs rfl rfl dX11_order_14 rfl ?_
    rintro _ _ ⟨rfl, rfl⟩
    refine g_istore_n cx (pc2 := 18) (lv2 := [(0, .ref 0), (1, .int (iI r)), (2, .ref (3 + 2 * r.toNat)), (3, .int (iI (wioV M (3 + 2 * r.toNat))))]) rfl (Nat.le_of_ble_eq_true rfl) dX11_order_17 rfl ?_
    refine g_iload_n cx (pc2 := 19) 3 rfl dX11_order_18 rfl ?_
    refine g_if_eq cx (pc2 := 22) (tgt := 28) (by first | assumption | omega) dX11_order_19 (by decide) rfl (fun h_1 => ?_) (fun h_1 => ?_)
    · skip
      refine g_aload_n cx (pc2 := 29) 0 rfl dX11_order_28 rfl ?_
      refine g_aload_n cx (pc2 := 30) 2 rfl dX11_order_29 rfl ?_
      refine g_callV cx (pc2 := 33) (st := []) (As := [.ref (3 + 2 * r.toNat)]) (k0 := 0) (ci := 11) (c_X11_goAlong (M := M) hn (by first | assumption | omega) (by exact (rO_ok hR).1)) wM_X11_goAlong wV_X11_goAlong kl_X11_211 rfl (lt_lit hn (Nat.le_of_ble_eq_true rfl)) rfl ⟨rfl, rfl, Nat.le_of_ble_eq_true rfl, Nat.le_of_ble_eq_true rfl⟩ (Nat.le_of_ble_eq_true rfl) cs rfl rfl dX11_order_30 rfl ?_
      rintro _ _ ⟨rfl, rfl⟩
      refine g_aload_n cx (pc2 := 34) 0 rfl dX11_order_33 rfl ?_
      refine g_aload_n cx (pc2 := 35) 0 rfl dX11_order_34 rfl ?_
      refine g_get cx (pc2 := 38) (ci := 11) (k0 := 0) (j := 6) (v := .ref 54) rfl iwX11 rfl (lt_lit hn (Nat.le_of_ble_eq_true rfl)) rfl (Nat.le_of_ble_eq_true rfl) kf_X11_47 rfl rfl dX11_order_35 rfl ?_
      refine g_getN cx (pc2 := 41) (ci := 10) (k0 := 54) (j := 5) (v := .int (iI ((gaM M (3 + 2 * r.toNat)) 54 5))) rfl iwX10 rfl (lt_lit hn (Nat.le_of_ble_eq_true rfl)) rfl (Nat.le_of_ble_eq_true rfl) kf_X11_215 rfl rfl dX11_order_38 rfl ?_
      refine g_puti cx (pc2 := 44) (ci := 11) (k0 := 0) (j := 15) rfl iwX11 rfl (lt_lit hn (Nat.le_of_ble_eq_true rfl)) rfl (Nat.le_of_ble_eq_true rfl) kf_X11_98 rfl tyX11_ok nmX11 rfl rfl dX11_order_41 rfl ?_
      refine g_aload_n cx (pc2 := 45) 0 rfl dX11_order_44 rfl ?_
      refine g_get cx (pc2 := 48) (ci := 11) (k0 := 0) (j := 6) (v := .ref 54) rfl iwX11 rfl (lt_lit hn (Nat.le_of_ble_eq_true rfl)) rfl (Nat.le_of_ble_eq_true rfl) kf_X11_47 rfl rfl dX11_order_45 rfl ?_
      refine g_getN cx (pc2 := 51) (ci := 10) (k0 := 54) (j := 3) (v := .int (iI ((gaM M (3 + 2 * r.toNat)) 54 3))) rfl iwX10 rfl (lt_lit hn (Nat.le_of_ble_eq_true rfl)) rfl (Nat.le_of_ble_eq_true rfl) kf_X11_218 rfl (congrArg (fun q => Value.int (iI q)) (by simp [stM])) dX11_order_48 rfl ?_
      exact g_iret cx qx dX11_order_51 ⟨congrArg (fun q => some (Value.int (iI q))) (by unfold ordA; (repeat (first | rw [if_pos (by first | assumption | omega)] | rw [if_neg (by first | assumption | exact not_not_intro (by assumption) | omega)])); first | done | rfl), by unfold ordM; (repeat (first | rw [if_pos (by first | assumption | omega)] | rw [if_neg (by first | assumption | exact not_not_intro (by assumption) | omega)])); first | done | rfl⟩
    · skip
      refine g_aload_n cx (pc2 := 23) 0 rfl dX11_order_22 rfl ?_
      refine g_iload_n cx (pc2 := 24) 3 rfl dX11_order_23 rfl ?_
      refine g_callV cx (pc2 := 27) (st := []) (As := [.int (iI (wioV M (3 + 2 * r.toNat)))]) (k0 := 0) (ci := 11) (c_X11_found (M := M) hn (wioV M (3 + 2 * r.toNat)) (by first | assumption | omega)) wM_X11_found wV_X11_found kl_X11_113 rfl (lt_lit hn (Nat.le_of_ble_eq_true rfl)) rfl ⟨rfl, rfl, Nat.le_of_ble_eq_true rfl, Nat.le_of_ble_eq_true rfl⟩ (Nat.le_of_ble_eq_true rfl) cs rfl rfl dX11_order_24 rfl ?_
      rintro _ _ ⟨rfl, rfl⟩
      exact g_iret cx qx dX11_order_27 ⟨congrArg (fun q => some (Value.int (iI q))) (by unfold ordA; (repeat (first | rw [if_pos (by first | assumption | omega)] | rw [if_neg (by first | assumption | exact not_not_intro (by assumption) | omega)])); first | done | rfl), by unfold ordM; (repeat (first | rw [if_pos (by first | assumption | omega)] | rw [if_neg (by first | assumption | exact not_not_intro (by assumption) | omega)])); first | done | rfl⟩
  · skip
    refine g_aload_n cx (pc2 := 1) 0 rfl dX11_order_0 rfl ?_
    refine g_iload_n cx (pc2 := 2) 1 rfl dX11_order_1 rfl ?_
    refine g_callV cx (pc2 := 5) (st := []) (As := [.int (iI r)]) (k0 := 0) (ci := 11) (c_rowOf_out (M := M) hn r (by assumption) (by assumption)) wM_X11_rowOf wV_X11_rowOf kl_X11_109 rfl (lt_lit hn (Nat.le_of_ble_eq_true rfl)) rfl ⟨rfl, rfl, Nat.le_of_ble_eq_true rfl, Nat.le_of_ble_eq_true rfl⟩ (Nat.le_of_ble_eq_true rfl) cs rfl rfl dX11_order_2 rfl ?_
    rintro _ _ ⟨rfl, rfl⟩
    refine g_astore_nN cx (pc2 := 6) (lv2 := [(0, .ref 0), (1, .int (iI r)), (2, .null)]) rfl (Nat.le_of_ble_eq_true rfl) dX11_order_5 rfl ?_
    refine g_aload_nN cx (pc2 := 7) 2 rfl dX11_order_6 rfl ?_
    refine g_ifnonnullN cx (pc2 := 10) dX11_order_7 rfl ?_
    refine g_iconst cx (pc2 := 11) dX11_order_10 rfl ?_
    exact g_iret cx qx dX11_order_11 ⟨congrArg (fun q => some (Value.int (iI q))) (by unfold ordA; (repeat (first | rw [if_pos (by first | assumption | omega)] | rw [if_neg (by first | assumption | exact not_not_intro (by assumption) | omega)])); first | done | rfl), by unfold ordM; (repeat (first | rw [if_pos (by first | assumption | omega)] | rw [if_neg (by first | assumption | exact not_not_intro (by assumption) | omega)])); first | done | rfl⟩
