abbrev JW (M : Mm) : Prop := (0 ≤ M 48 5 ∧ M 48 5 ≤ 8) ∧ ∀ j, (0 ≤ M 49 j ∧ M 49 j ≤ 15) ∧ (0 ≤ M 50 j ∧ M 50 j ≤ 27) ∧ (-10 ≤ M 51 j ∧ M 51 j ≤ 28) ∧ (0 ≤ M 52 j ∧ M 52 j ≤ 4) ∧ (0 ≤ M 53 j ∧ M 53 j ≤ 18) ∧ M 51 j + M 52 j ≤ 28
theorem stM_lo {M : Mm} {k i a b : Nat} {v : Int} (h : a < k) : stM M k i v a b = M a b := stM_ne M v (Or.inl (by omega))
/-- what the way of a coat asks of a need of lane 23 -/
def jv (M : Mm) (a b : Nat) : Int := if a = 49 then plc M 23 (M (27 + b) 1) else if a = 50 then M (27 + b) 2 else if a = 51 then ltB (M (27 + b) 0) (M (27 + b) 2) (M (27 + b) 3) (M (27 + b) 4) else if a = 52 then M (27 + b) 4 else M (27 + b) 5
def ldP (M : Mm) (i : Int) : Mm := fun a b => if a = 48 ∧ b = 5 then M 23 4 else if (49 ≤ a ∧ a ≤ 53) ∧ (b : Int) < i then jv M a b else M a b
def ldM (M : Mm) : Mm := ldP M (M 23 4)
theorem ldP_off {M : Mm} {i : Int} {a : Nat} (h : a < 48 ∨ 53 < a) : ldP M i a = M a := by
  funext b
  unfold ldP
  rw [if_neg (by omega), if_neg (by omega)]
theorem ldP_0 (M : Mm) : stM M 48 5 (M 23 4) = ldP M 0 := by
  funext a b
  unfold stM ldP
  split
  · rfl
  · rw [if_neg (by omega)]
theorem ldP_s (M : Mm) {i : Int} (h0 : 0 ≤ i) : stM (stM (stM (stM (stM (ldP M i) 49 i.toNat (jv M 49 i.toNat)) 50 i.toNat (jv M 50 i.toNat)) 51 i.toNat (jv M 51 i.toNat)) 52 i.toNat (jv M 52 i.toNat)) 53 i.toNat (jv M 53 i.toNat) = ldP M (i + 1) := by
  funext a b
  unfold stM ldP
  by_cases hb : b = i.toNat
  · subst hb
    by_cases h1 : a = 49
    · subst h1; simp; omega
    · by_cases h2 : a = 50
      · subst h2; simp; omega
      · by_cases h3 : a = 51
        · subst h3; simp; omega
        · by_cases h4 : a = 52
          · subst h4; simp; omega
          · by_cases h5 : a = 53
            · subst h5; simp; omega
            · simp only [h1, h2, h3, h4, h5, false_and, if_false]
              split
              · rfl
              · rw [if_neg (by omega), if_neg (by omega)]
  · simp only [hb, and_false, if_false]
    split
    · rfl
    · by_cases h6 : (49 ≤ a ∧ a ≤ 53) ∧ (b : Int) < i
      · rw [if_pos h6, if_pos (by omega)]
      · rw [if_neg h6, if_neg (by omega)]
def bgJ (M : Mm) (i p f : Int) : Int := if f + wap p (M 49 i.toNat) < M 50 i.toNat then M 50 i.toNat else f + wap p (M 49 i.toNat)
/-- when a need ends by a coat that is free at a place; -9: it can't be met -/
def endJ (M : Mm) (i p f : Int) : Int := if 0 ≤ i ∧ i < M 48 5 then (if bgJ M i p f ≤ M 51 i.toNat then bgJ M i p f + M 52 i.toNat else -9) else -9
def wsM (M : Mm) (s : Int) : Int := smZ (fun j => if s.toNat.testBit j then M 53 j else 0) (M 48 5).toNat
theorem endJ_b {M : Mm} (hJ : JW M) {i p f : Int} (hp : 0 ≤ p ∧ p ≤ 15) (hf : 0 ≤ f) : endJ M i p f = -9 ∨ (0 ≤ endJ M i p f ∧ endJ M i p f ≤ 28) := by
  have h1 := hJ.2 i.toNat
  have h2 := wap_b hp h1.1
  unfold endJ bgJ
  (repeat split) <;> omega
abbrev plJ (M : Mm) (i : Int) : Int := if 0 ≤ i ∧ i < M 48 5 then M 49 i.toNat else 0
abbrev lnJ (M : Mm) (i : Int) : Int := if 0 ≤ i ∧ i < M 48 5 then M 52 i.toNat else 0
theorem plJ_b {M : Mm} (hJ : JW M) (i : Int) : 0 ≤ plJ M i ∧ plJ M i ≤ 15 := by
  have h1 := hJ.2 i.toNat
  unfold plJ
  split <;> omega
theorem lnJ_b {M : Mm} (hJ : JW M) (i : Int) : 0 ≤ lnJ M i ∧ lnJ M i ≤ 4 := by
  have h1 := hJ.2 i.toNat
  unfold lnJ
  split <;> omega
theorem smZ_b {f : Nat → Int} {c : Int} (hc : ∀ j, 0 ≤ f j ∧ f j ≤ c) : ∀ k : Nat, 0 ≤ smZ f k ∧ smZ f k ≤ k * c
  | 0 => by simp [smZ]
  | k + 1 => by
    have h1 := smZ_b hc k
    have h2 := hc k
    rw [smZ, show ((k + 1 : Nat) : Int) * c = k * c + c by rw [Int.natCast_add, Int.add_mul]; simp]
    omega
set_option maxHeartbeats 4000000 in
set_option maxRecDepth 100000 in
theorem c_X1_load {n : Nat} (hn : NN n) {M : Mm} (hl : LW M 23) (hnd : NDA M) (hp : PLW M 23) : CT yX1_load cX1_load 4 none ({ frames := 2, cells := 0, slots := 0, locals := 43 }) n [.ref 48, .ref 23] M (rV (ldM M)) := by
  refine CT.of (lv0 := [(0, .ref 48), (1, .ref 23)]) (by decide +kernel) hn (fun _ => rfl) (fun _ => Nat.le_of_ble_eq_true rfl) (fun X cx cs qx => ?_)
  have cx : Cx X cX1_load RX1 ({ frames := 2, cells := 0, slots := 0, locals := 43 }) 4 n := cx
  refine g_aload_n cx (pc2 := 1) 0 rfl dX1_load_0 rfl ?_
  refine g_aload_n cx (pc2 := 2) 1 rfl dX1_load_1 rfl ?_
  refine g_getN cx (pc2 := 5) (ci := 2) (k0 := 23) (j := 4) (v := .int (iI (M 23 4))) rfl iwX2 rfl (lt_lit hn (Nat.le_of_ble_eq_true rfl)) rfl (Nat.le_of_ble_eq_true rfl) kf_X1_31 rfl rfl dX1_load_2 rfl ?_
  refine g_bipush cx (pc2 := 7) ⟨by decide, by decide⟩ dX1_load_5 rfl ?_
  refine g_mmin cx (pc2 := 10) ⟨(by first | assumption | omega), ⟨by decide, by decide⟩⟩ kl_X1_36 wJ_min ⟨Nat.le_of_ble_eq_true rfl, Nat.le_of_ble_eq_true rfl⟩ cs dX1_load_7 rfl ?_
  refine g_rwi (y := iI (M 23 4)) (congrArg iI (by omega)) ?_
  refine g_puti cx (pc2 := 13) (ci := 1) (k0 := 48) (j := 5) rfl iwX1 rfl (lt_lit hn (Nat.le_of_ble_eq_true rfl)) rfl (Nat.le_of_ble_eq_true rfl) kf_X1_27 rfl tyX1_ok nmX1 rfl rfl dX1_load_10 rfl ?_
  refine g_iconst cx (pc2 := 14) dX1_load_13 rfl ?_
  refine g_istore_n cx (pc2 := 15) (lv2 := [(0, .ref 48), (1, .ref 23), (2, .int (iI 0))]) rfl (Nat.le_of_ble_eq_true rfl) dX1_load_14 rfl ?_
  have L15 : ∀ (fu : Nat) (i : Int), (0 ≤ i ∧ i ≤ M 23 4) → (M 23 4 - i).toNat ≤ fu → G X 15 [(0, .ref 48), (1, .ref 23), (2, .int (iI i))] [] (ldP M i) := by
    intro fu
    induction fu using Nat.strongRecOn with
    | _ fu ih15 =>
      intro i hi0 hk15
      refine g_iload_n cx (pc2 := 16) 2 rfl dX1_load_15 rfl ?_
      refine g_aload_n cx (pc2 := 17) 0 rfl dX1_load_16 rfl ?_
      refine g_get cx (pc2 := 20) (ci := 1) (k0 := 48) (j := 5) (v := .int (iI ((ldP M i) 48 5))) rfl iwX1 rfl (lt_lit hn (Nat.le_of_ble_eq_true rfl)) rfl (Nat.le_of_ble_eq_true rfl) kf_X1_27 rfl rfl dX1_load_17 rfl ?_
      refine g_rwi (y := iI (M 23 4)) (rfl) ?_
      refine g_icmp_ge cx (pc2 := 23) (tgt := 89) ⟨(by first | assumption | omega), (by first | assumption | omega)⟩ dX1_load_20 (by decide) rfl (fun h_1 => ?_) (fun h_1 => ?_)
      · skip
        exact g_vret cx qx dX1_load_89 ⟨rfl, by unfold ldM; rw [show i = M 23 4 by omega]⟩
      · skip
        refine g_aload_n cx (pc2 := 24) 1 rfl dX1_load_23 rfl ?_
        refine g_iload_n cx (pc2 := 25) 2 rfl dX1_load_24 rfl ?_
        refine g_callV cx (pc2 := 28) (st := []) (As := [.int (iI i)]) (k0 := 23) (ci := 2) (c_X2_needOf (M := (ldP M i)) hn (by exact Or.inl rfl) (by exact hl) i (by first | assumption | omega)) wM_X2_needOf wV_X2_needOf kl_X1_42 rfl (lt_lit hn (Nat.le_of_ble_eq_true rfl)) rfl ⟨rfl, rfl, Nat.le_of_ble_eq_true rfl, Nat.le_of_ble_eq_true rfl⟩ (Nat.le_of_ble_eq_true rfl) cs rfl rfl dX1_load_25 rfl ?_
        rintro _ _ ⟨rfl, rfl⟩
        refine g_rwa (y := (27 + i.toNat)) ((ndO_in (M := ldP M i) (o := 23) (i := i) ⟨hi0.1, by show i < M 23 4; omega⟩).trans (by omega)) ?_
        refine g_astore_n cx (pc2 := 29) (lv2 := [(0, .ref 48), (1, .ref 23), (2, .int (iI i)), (3, .ref (27 + i.toNat))]) rfl (Nat.le_of_ble_eq_true rfl) dX1_load_28 rfl ?_
        refine g_aload_n cx (pc2 := 30) 0 rfl dX1_load_29 rfl ?_
        refine g_get cx (pc2 := 33) (ci := 1) (k0 := 48) (j := 0) (v := .ref 49) rfl iwX1 rfl (lt_lit hn (Nat.le_of_ble_eq_true rfl)) rfl (Nat.le_of_ble_eq_true rfl) kf_X1_9 rfl rfl dX1_load_30 rfl ?_
        refine g_iload_n cx (pc2 := 34) 2 rfl dX1_load_33 rfl ?_
        refine g_aload_n cx (pc2 := 35) 1 rfl dX1_load_34 rfl ?_
        have e9 : (ldP M i) (27 + i.toNat) = M (27 + i.toNat) := by repeat (first | rw [stM_off (by omega)] | rw [ldP_off (by omega)])
        refine g_aload_n cx (pc2 := 36) 3 rfl dX1_load_35 rfl ?_
        refine g_getN cx (pc2 := 39) (ci := 4) (k0 := (27 + i.toNat)) (j := 1) (v := .int (iI ((ldP M i) (27 + i.toNat) 1))) rfl iwX4 (sh_need (by omega)) (by omega) rfl (Nat.le_of_ble_eq_true rfl) kf_X1_46 rfl rfl dX1_load_36 rfl ?_
        refine g_rwi (y := iI (M (27 + i.toNat) 1)) (congrArg iI (by rw [e9])) ?_
        refine g_callV cx (pc2 := 42) (st := [.int (iI i), .ref 49]) (As := [.int (iI (M (27 + i.toNat) 1))]) (k0 := 23) (ci := 2) (c_X2_placeOf (M := (ldP M i)) hn (by exact Or.inl rfl) (by exact hl) (M (27 + i.toNat) 1) (by have := hnd.2 i.toNat (by omega); omega)) wM_X2_placeOf wV_X2_placeOf kl_X1_51 rfl (lt_lit hn (Nat.le_of_ble_eq_true rfl)) rfl ⟨rfl, rfl, Nat.le_of_ble_eq_true rfl, Nat.le_of_ble_eq_true rfl⟩ (Nat.le_of_ble_eq_true rfl) cs rfl rfl dX1_load_39 rfl ?_
        rintro _ _ ⟨rfl, rfl⟩
        refine g_rwi (y := iI (jv M 49 i.toNat)) (rfl) ?_
        refine g_iast cx (pc2 := 43) (k0 := 49) rfl (lt_lit hn (Nat.le_of_ble_eq_true rfl)) (by first | assumption | omega) (by first | assumption | omega) (Nat.le_of_ble_eq_true rfl) dX1_load_42 rfl ?_
        refine g_aload_n cx (pc2 := 44) 0 rfl dX1_load_43 rfl ?_
        refine g_get cx (pc2 := 47) (ci := 1) (k0 := 48) (j := 1) (v := .ref 50) rfl iwX1 rfl (lt_lit hn (Nat.le_of_ble_eq_true rfl)) rfl (Nat.le_of_ble_eq_true rfl) kf_X1_15 rfl rfl dX1_load_44 rfl ?_
        refine g_iload_n cx (pc2 := 48) 2 rfl dX1_load_47 rfl ?_
        have e9 : (stM (ldP M i) 49 (i).toNat (jv M 49 i.toNat)) (27 + i.toNat) = M (27 + i.toNat) := by repeat (first | rw [stM_off (by omega)] | rw [ldP_off (by omega)])
        refine g_aload_n cx (pc2 := 49) 3 rfl dX1_load_48 rfl ?_
        refine g_getN cx (pc2 := 52) (ci := 4) (k0 := (27 + i.toNat)) (j := 2) (v := .int (iI ((stM (ldP M i) 49 (i).toNat (jv M 49 i.toNat)) (27 + i.toNat) 2))) rfl iwX4 (sh_need (by omega)) (by omega) rfl (Nat.le_of_ble_eq_true rfl) kf_X1_55 rfl rfl dX1_load_49 rfl ?_
        refine g_rwi (y := iI (jv M 50 i.toNat)) (congrArg iI (by rw [e9]; rfl)) ?_
        refine g_iast cx (pc2 := 53) (k0 := 50) rfl (lt_lit hn (Nat.le_of_ble_eq_true rfl)) (by first | assumption | omega) (by first | assumption | omega) (Nat.le_of_ble_eq_true rfl) dX1_load_52 rfl ?_
        refine g_aload_n cx (pc2 := 54) 0 rfl dX1_load_53 rfl ?_
        refine g_get cx (pc2 := 57) (ci := 1) (k0 := 48) (j := 2) (v := .ref 51) rfl iwX1 rfl (lt_lit hn (Nat.le_of_ble_eq_true rfl)) rfl (Nat.le_of_ble_eq_true rfl) kf_X1_18 rfl rfl dX1_load_54 rfl ?_
        refine g_iload_n cx (pc2 := 58) 2 rfl dX1_load_57 rfl ?_
        have e9 : (stM (stM (ldP M i) 49 (i).toNat (jv M 49 i.toNat)) 50 (i).toNat (jv M 50 i.toNat)) (27 + i.toNat) = M (27 + i.toNat) := by repeat (first | rw [stM_off (by omega)] | rw [ldP_off (by omega)])
        refine g_aload_n cx (pc2 := 59) 3 rfl dX1_load_58 rfl ?_
        refine g_callV cx (pc2 := 62) (st := [.int (iI i), .ref 51]) (As := []) (k0 := (27 + i.toNat)) (ci := 4) (c_X4_latestBeginning (M := (stM (stM (ldP M i) 49 (i).toNat (jv M 49 i.toNat)) 50 (i).toNat (jv M 50 i.toNat))) hn (by omega) (by show NDR ((stM (stM (ldP M i) 49 (i).toNat (jv M 49 i.toNat)) 50 (i).toNat (jv M 50 i.toNat)) (27 + i.toNat)); rw [e9]; exact hnd.2 i.toNat (by omega))) wM_X4_latestBeginning wV_X4_latestBeginning kl_X1_58 (sh_need (by omega)) (by omega) rfl ⟨rfl, rfl, Nat.le_of_ble_eq_true rfl, Nat.le_of_ble_eq_true rfl⟩ (Nat.le_of_ble_eq_true rfl) cs rfl rfl dX1_load_59 rfl ?_
        rintro _ _ ⟨rfl, rfl⟩
        refine g_rwi (y := iI (jv M 51 i.toNat)) (congrArg iI (by rw [e9]; rfl)) ?_
        refine g_iast cx (pc2 := 63) (k0 := 51) rfl (lt_lit hn (Nat.le_of_ble_eq_true rfl)) (by first | assumption | omega) (by first | assumption | omega) (Nat.le_of_ble_eq_true rfl) dX1_load_62 rfl ?_
        refine g_aload_n cx (pc2 := 64) 0 rfl dX1_load_63 rfl ?_
        refine g_get cx (pc2 := 67) (ci := 1) (k0 := 48) (j := 3) (v := .ref 52) rfl iwX1 rfl (lt_lit hn (Nat.le_of_ble_eq_true rfl)) rfl (Nat.le_of_ble_eq_true rfl) kf_X1_21 rfl rfl dX1_load_64 rfl ?_
        refine g_iload_n cx (pc2 := 68) 2 rfl dX1_load_67 rfl ?_
        have e9 : (stM (stM (stM (ldP M i) 49 (i).toNat (jv M 49 i.toNat)) 50 (i).toNat (jv M 50 i.toNat)) 51 (i).toNat (jv M 51 i.toNat)) (27 + i.toNat) = M (27 + i.toNat) := by repeat (first | rw [stM_off (by omega)] | rw [ldP_off (by omega)])
        refine g_aload_n cx (pc2 := 69) 3 rfl dX1_load_68 rfl ?_
        refine g_getN cx (pc2 := 72) (ci := 4) (k0 := (27 + i.toNat)) (j := 4) (v := .int (iI ((stM (stM (stM (ldP M i) 49 (i).toNat (jv M 49 i.toNat)) 50 (i).toNat (jv M 50 i.toNat)) 51 (i).toNat (jv M 51 i.toNat)) (27 + i.toNat) 4))) rfl iwX4 (sh_need (by omega)) (by omega) rfl (Nat.le_of_ble_eq_true rfl) kf_X1_62 rfl rfl dX1_load_69 rfl ?_
        refine g_rwi (y := iI (jv M 52 i.toNat)) (congrArg iI (by rw [e9]; rfl)) ?_
        refine g_iast cx (pc2 := 73) (k0 := 52) rfl (lt_lit hn (Nat.le_of_ble_eq_true rfl)) (by first | assumption | omega) (by first | assumption | omega) (Nat.le_of_ble_eq_true rfl) dX1_load_72 rfl ?_
        refine g_aload_n cx (pc2 := 74) 0 rfl dX1_load_73 rfl ?_
        refine g_get cx (pc2 := 77) (ci := 1) (k0 := 48) (j := 4) (v := .ref 53) rfl iwX1 rfl (lt_lit hn (Nat.le_of_ble_eq_true rfl)) rfl (Nat.le_of_ble_eq_true rfl) kf_X1_24 rfl rfl dX1_load_74 rfl ?_
        refine g_iload_n cx (pc2 := 78) 2 rfl dX1_load_77 rfl ?_
        have e9 : (stM (stM (stM (stM (ldP M i) 49 (i).toNat (jv M 49 i.toNat)) 50 (i).toNat (jv M 50 i.toNat)) 51 (i).toNat (jv M 51 i.toNat)) 52 (i).toNat (jv M 52 i.toNat)) (27 + i.toNat) = M (27 + i.toNat) := by repeat (first | rw [stM_off (by omega)] | rw [ldP_off (by omega)])
        refine g_aload_n cx (pc2 := 79) 3 rfl dX1_load_78 rfl ?_
        refine g_getN cx (pc2 := 82) (ci := 4) (k0 := (27 + i.toNat)) (j := 5) (v := .int (iI ((stM (stM (stM (stM (ldP M i) 49 (i).toNat (jv M 49 i.toNat)) 50 (i).toNat (jv M 50 i.toNat)) 51 (i).toNat (jv M 51 i.toNat)) 52 (i).toNat (jv M 52 i.toNat)) (27 + i.toNat) 5))) rfl iwX4 (sh_need (by omega)) (by omega) rfl (Nat.le_of_ble_eq_true rfl) kf_X1_65 rfl rfl dX1_load_79 rfl ?_
        refine g_rwi (y := iI (jv M 53 i.toNat)) (congrArg iI (by rw [e9]; rfl)) ?_
        refine g_iast cx (pc2 := 83) (k0 := 53) rfl (lt_lit hn (Nat.le_of_ble_eq_true rfl)) (by first | assumption | omega) (by first | assumption | omega) (Nat.le_of_ble_eq_true rfl) dX1_load_82 rfl ?_
        refine g_iinc cx (pc2 := 86) 2 rfl (lv2 := [(0, .ref 48), (1, .ref 23), (2, .int (iI (i + 1))), (3, .ref (27 + i.toNat))]) rfl (Nat.le_of_ble_eq_true rfl) dX1_load_83 rfl ?_
        refine g_goto cx (tgt := 15) dX1_load_86 (by decide) ?_
        refine g_M (M2 := (ldP M (i + 1))) (by exact ldP_s M (by omega)) ?_
        refine g_sub (lv2 := [(0, .ref 48), (1, .ref 23), (2, .int (iI (i + 1)))]) [0, 1, 2] rfl ?_
        exact ih15 ((M 23 4 - (i + 1)).toNat) (by omega) (i + 1) (by first | assumption | omega) (Nat.le_refl _)
  refine g_M (M2 := (ldP M 0)) (by exact ldP_0 M) ?_
  exact L15 _ 0 (by first | assumption | omega) (Nat.le_refl _)
set_option maxHeartbeats 4000000 in
set_option maxRecDepth 100000 in
theorem c_X1_placeOf {n : Nat} (hn : NN n) {M : Mm} (hJ : JW M) (i : Int) (hi : ir i) : CT yX1_placeOf cX1_placeOf 2 (some .int) ({ frames := 0, cells := 0, slots := 0, locals := 0 }) n [.ref 48, .int (iI i)] M (rI (plJ M i) M) := by
  refine CT.of (lv0 := [(0, .ref 48), (1, .int (iI i))]) (by decide +kernel) hn (fun _ => rfl) (fun _ => Nat.le_of_ble_eq_true rfl) (fun X cx cs qx => ?_)
  have cx : Cx X cX1_placeOf RX1 ({ frames := 0, cells := 0, slots := 0, locals := 0 }) 2 n := cx
  have hs := hJ.1
  refine g_iload_n cx (pc2 := 1) 1 rfl dX1_placeOf_0 rfl ?_
  refine g_if_lt cx (pc2 := 4) (tgt := 27) (by first | assumption | omega) dX1_placeOf_1 (by decide) rfl (fun h_1 => ?_) (fun h_1 => ?_)
  · skip
    refine g_iconst cx (pc2 := 28) dX1_placeOf_27 rfl ?_
    exact g_iret cx qx dX1_placeOf_28 ⟨congrArg (fun q => some (Value.int (iI q))) (by unfold plJ; first | (rw [if_pos (by omega)]; done) | (rw [if_neg (by omega)]; done)), by rfl⟩
  · skip
    refine g_iload_n cx (pc2 := 5) 1 rfl dX1_placeOf_4 rfl ?_
    refine g_aload_n cx (pc2 := 6) 0 rfl dX1_placeOf_5 rfl ?_
    refine g_get cx (pc2 := 9) (ci := 1) (k0 := 48) (j := 5) (v := .int (iI (M 48 5))) rfl iwX1 rfl (lt_lit hn (Nat.le_of_ble_eq_true rfl)) rfl (Nat.le_of_ble_eq_true rfl) kf_X1_27 rfl rfl dX1_placeOf_6 rfl ?_
    refine g_icmp_ge cx (pc2 := 12) (tgt := 27) ⟨(by first | assumption | omega), (by first | assumption | omega)⟩ dX1_placeOf_9 (by decide) rfl (fun h_2 => ?_) (fun h_2 => ?_)
    · skip
      refine g_iconst cx (pc2 := 28) dX1_placeOf_27 rfl ?_
      exact g_iret cx qx dX1_placeOf_28 ⟨congrArg (fun q => some (Value.int (iI q))) (by unfold plJ; first | (rw [if_pos (by omega)]; done) | (rw [if_neg (by omega)]; done)), by rfl⟩
    · skip
      refine g_iload_n cx (pc2 := 13) 1 rfl dX1_placeOf_12 rfl ?_
      refine g_bipush cx (pc2 := 15) ⟨by decide, by decide⟩ dX1_placeOf_13 rfl ?_
      refine g_icmp_ge cx (pc2 := 18) (tgt := 27) ⟨(by first | assumption | omega), ⟨by decide, by decide⟩⟩ dX1_placeOf_15 (by decide) rfl (fun h_3 => ?_) (fun h_3 => ?_)
      · skip
        refine g_iconst cx (pc2 := 28) dX1_placeOf_27 rfl ?_
        exact g_iret cx qx dX1_placeOf_28 ⟨congrArg (fun q => some (Value.int (iI q))) (by unfold plJ; first | (rw [if_pos (by omega)]; done) | (rw [if_neg (by omega)]; done)), by rfl⟩
      · skip
        refine g_aload_n cx (pc2 := 19) 0 rfl dX1_placeOf_18 rfl ?_
        refine g_get cx (pc2 := 22) (ci := 1) (k0 := 48) (j := 0) (v := .ref 49) rfl iwX1 rfl (lt_lit hn (Nat.le_of_ble_eq_true rfl)) rfl (Nat.le_of_ble_eq_true rfl) kf_X1_9 rfl rfl dX1_placeOf_19 rfl ?_
        refine g_iload_n cx (pc2 := 23) 1 rfl dX1_placeOf_22 rfl ?_
        refine g_iald cx (pc2 := 24) (k0 := 49) rfl (lt_lit hn (Nat.le_of_ble_eq_true rfl)) (by first | assumption | omega) (by first | assumption | omega) (Nat.le_of_ble_eq_true rfl) dX1_placeOf_23 rfl ?_
        refine g_rwi (y := iI (M 49 ((i).toNat))) (congrArg iI (by simp [stM])) ?_
        refine g_goto cx (tgt := 28) dX1_placeOf_24 (by decide) ?_
        exact g_iret cx qx dX1_placeOf_28 ⟨congrArg (fun q => some (Value.int (iI q))) (by unfold plJ; first | (rw [if_pos (by omega)]; done) | (rw [if_neg (by omega)]; done)), by rfl⟩
set_option maxHeartbeats 4000000 in
set_option maxRecDepth 100000 in
theorem c_X1_lengthOf {n : Nat} (hn : NN n) {M : Mm} (hJ : JW M) (i : Int) (hi : ir i) : CT yX1_lengthOf cX1_lengthOf 2 (some .int) ({ frames := 0, cells := 0, slots := 0, locals := 0 }) n [.ref 48, .int (iI i)] M (rI (lnJ M i) M) := by
  refine CT.of (lv0 := [(0, .ref 48), (1, .int (iI i))]) (by decide +kernel) hn (fun _ => rfl) (fun _ => Nat.le_of_ble_eq_true rfl) (fun X cx cs qx => ?_)
  have cx : Cx X cX1_lengthOf RX1 ({ frames := 0, cells := 0, slots := 0, locals := 0 }) 2 n := cx
  have hs := hJ.1
  refine g_iload_n cx (pc2 := 1) 1 rfl dX1_lengthOf_0 rfl ?_
  refine g_if_lt cx (pc2 := 4) (tgt := 27) (by first | assumption | omega) dX1_lengthOf_1 (by decide) rfl (fun h_1 => ?_) (fun h_1 => ?_)
  · skip
    refine g_iconst cx (pc2 := 28) dX1_lengthOf_27 rfl ?_
    exact g_iret cx qx dX1_lengthOf_28 ⟨congrArg (fun q => some (Value.int (iI q))) (by unfold lnJ; first | (rw [if_pos (by omega)]; done) | (rw [if_neg (by omega)]; done)), by rfl⟩
  · skip
    refine g_iload_n cx (pc2 := 5) 1 rfl dX1_lengthOf_4 rfl ?_
    refine g_aload_n cx (pc2 := 6) 0 rfl dX1_lengthOf_5 rfl ?_
    refine g_get cx (pc2 := 9) (ci := 1) (k0 := 48) (j := 5) (v := .int (iI (M 48 5))) rfl iwX1 rfl (lt_lit hn (Nat.le_of_ble_eq_true rfl)) rfl (Nat.le_of_ble_eq_true rfl) kf_X1_27 rfl rfl dX1_lengthOf_6 rfl ?_
    refine g_icmp_ge cx (pc2 := 12) (tgt := 27) ⟨(by first | assumption | omega), (by first | assumption | omega)⟩ dX1_lengthOf_9 (by decide) rfl (fun h_2 => ?_) (fun h_2 => ?_)
    · skip
      refine g_iconst cx (pc2 := 28) dX1_lengthOf_27 rfl ?_
      exact g_iret cx qx dX1_lengthOf_28 ⟨congrArg (fun q => some (Value.int (iI q))) (by unfold lnJ; first | (rw [if_pos (by omega)]; done) | (rw [if_neg (by omega)]; done)), by rfl⟩
    · skip
      refine g_iload_n cx (pc2 := 13) 1 rfl dX1_lengthOf_12 rfl ?_
      refine g_bipush cx (pc2 := 15) ⟨by decide, by decide⟩ dX1_lengthOf_13 rfl ?_
      refine g_icmp_ge cx (pc2 := 18) (tgt := 27) ⟨(by first | assumption | omega), ⟨by decide, by decide⟩⟩ dX1_lengthOf_15 (by decide) rfl (fun h_3 => ?_) (fun h_3 => ?_)
      · skip
        refine g_iconst cx (pc2 := 28) dX1_lengthOf_27 rfl ?_
        exact g_iret cx qx dX1_lengthOf_28 ⟨congrArg (fun q => some (Value.int (iI q))) (by unfold lnJ; first | (rw [if_pos (by omega)]; done) | (rw [if_neg (by omega)]; done)), by rfl⟩
      · skip
        refine g_aload_n cx (pc2 := 19) 0 rfl dX1_lengthOf_18 rfl ?_
        refine g_get cx (pc2 := 22) (ci := 1) (k0 := 48) (j := 3) (v := .ref 52) rfl iwX1 rfl (lt_lit hn (Nat.le_of_ble_eq_true rfl)) rfl (Nat.le_of_ble_eq_true rfl) kf_X1_21 rfl rfl dX1_lengthOf_19 rfl ?_
        refine g_iload_n cx (pc2 := 23) 1 rfl dX1_lengthOf_22 rfl ?_
        refine g_iald cx (pc2 := 24) (k0 := 52) rfl (lt_lit hn (Nat.le_of_ble_eq_true rfl)) (by first | assumption | omega) (by first | assumption | omega) (Nat.le_of_ble_eq_true rfl) dX1_lengthOf_23 rfl ?_
        refine g_rwi (y := iI (M 52 ((i).toNat))) (congrArg iI (by simp [stM])) ?_
        refine g_goto cx (tgt := 28) dX1_lengthOf_24 (by decide) ?_
        exact g_iret cx qx dX1_lengthOf_28 ⟨congrArg (fun q => some (Value.int (iI q))) (by unfold lnJ; first | (rw [if_pos (by omega)]; done) | (rw [if_neg (by omega)]; done)), by rfl⟩
set_option maxHeartbeats 4000000 in
set_option maxRecDepth 100000 in
theorem c_X1_ending {n : Nat} (hn : NN n) {M : Mm} (hJ : JW M) (i p f : Int) (hi : ir i) (hp : 0 ≤ p ∧ p ≤ 15) (hf : 0 ≤ f ∧ f ≤ 100) : CT yX1_ending cX1_ending 5 (some .int) ({ frames := 1, cells := 0, slots := 0, locals := 21 }) n [.ref 48, .int (iI i), .int (iI p), .int (iI f)] M (rI (endJ M i p f) M) := by
  refine CT.of (lv0 := [(0, .ref 48), (1, .int (iI i)), (2, .int (iI p)), (3, .int (iI f))]) (by decide +kernel) hn (fun _ => rfl) (fun _ => Nat.le_of_ble_eq_true rfl) (fun X cx cs qx => ?_)
  have cx : Cx X cX1_ending RX1 ({ frames := 1, cells := 0, slots := 0, locals := 21 }) 5 n := cx
  have hs := hJ.1
  have hj := hJ.2 i.toNat
  have hw := wap_b hp hj.1
  refine g_iload_n cx (pc2 := 1) 1 rfl dX1_ending_0 rfl ?_
  refine g_if_lt cx (pc2 := 4) (tgt := 18) (by first | assumption | omega) dX1_ending_1 (by decide) rfl (fun h_1 => ?_) (fun h_1 => ?_)
  · skip
    refine g_bipush cx (pc2 := 20) ⟨by decide, by decide⟩ dX1_ending_18 rfl ?_
    exact g_iret cx qx dX1_ending_20 ⟨congrArg (fun q => some (Value.int (iI q))) (by unfold endJ bgJ; (repeat split) <;> omega), by rfl⟩
  · skip
    refine g_iload_n cx (pc2 := 5) 1 rfl dX1_ending_4 rfl ?_
    refine g_aload_n cx (pc2 := 6) 0 rfl dX1_ending_5 rfl ?_
    refine g_get cx (pc2 := 9) (ci := 1) (k0 := 48) (j := 5) (v := .int (iI (M 48 5))) rfl iwX1 rfl (lt_lit hn (Nat.le_of_ble_eq_true rfl)) rfl (Nat.le_of_ble_eq_true rfl) kf_X1_27 rfl rfl dX1_ending_6 rfl ?_
    refine g_icmp_ge cx (pc2 := 12) (tgt := 18) ⟨(by first | assumption | omega), (by first | assumption | omega)⟩ dX1_ending_9 (by decide) rfl (fun h_2 => ?_) (fun h_2 => ?_)
    · skip
      refine g_bipush cx (pc2 := 20) ⟨by decide, by decide⟩ dX1_ending_18 rfl ?_
      exact g_iret cx qx dX1_ending_20 ⟨congrArg (fun q => some (Value.int (iI q))) (by unfold endJ bgJ; (repeat split) <;> omega), by rfl⟩
    · skip
      refine g_iload_n cx (pc2 := 13) 1 rfl dX1_ending_12 rfl ?_
      refine g_bipush cx (pc2 := 15) ⟨by decide, by decide⟩ dX1_ending_13 rfl ?_
      refine g_icmp_lt cx (pc2 := 18) (tgt := 21) ⟨(by first | assumption | omega), ⟨by decide, by decide⟩⟩ dX1_ending_15 (by decide) rfl (fun h_3 => ?_) (fun h_3 => ?_)
      · skip
        refine g_iload_n cx (pc2 := 22) 3 rfl dX1_ending_21 rfl ?_
        refine g_iload_n cx (pc2 := 23) 2 rfl dX1_ending_22 rfl ?_
        refine g_aload_n cx (pc2 := 24) 0 rfl dX1_ending_23 rfl ?_
        refine g_get cx (pc2 := 27) (ci := 1) (k0 := 48) (j := 0) (v := .ref 49) rfl iwX1 rfl (lt_lit hn (Nat.le_of_ble_eq_true rfl)) rfl (Nat.le_of_ble_eq_true rfl) kf_X1_9 rfl rfl dX1_ending_24 rfl ?_
        refine g_iload_n cx (pc2 := 28) 1 rfl dX1_ending_27 rfl ?_
        refine g_iald cx (pc2 := 29) (k0 := 49) rfl (lt_lit hn (Nat.le_of_ble_eq_true rfl)) (by first | assumption | omega) (by first | assumption | omega) (Nat.le_of_ble_eq_true rfl) dX1_ending_28 rfl ?_
        refine g_rwi (y := iI (M 49 ((i).toNat))) (congrArg iI (by simp [stM])) ?_
        refine g_callSN cx (pc2 := 32) (st := [.int (iI f)]) (As := [.int (iI p), .int (iI (M 49 ((i).toNat)))]) (c_X11_watchesApart (M := M) hn p (M 49 ((i).toNat)) (by first | assumption | omega) (by first | assumption | omega)) wM_X11_watchesApart wS_X11_watchesApart kl_X1_78 ⟨rfl, rfl, Nat.le_of_ble_eq_true rfl, Nat.le_of_ble_eq_true rfl⟩ (Nat.le_of_ble_eq_true rfl) cs rfl rfl dX1_ending_29 rfl ?_
        rintro _ _ ⟨rfl, rfl⟩
        refine g_iadd cx (pc2 := 33) dX1_ending_32 rfl ?_
        refine g_istore cx (pc2 := 35) (lv2 := [(0, .ref 48), (1, .int (iI i)), (2, .int (iI p)), (3, .int (iI f)), (4, .int (iI (f + (wap p (M 49 ((i).toNat))))))]) rfl (Nat.le_of_ble_eq_true rfl) dX1_ending_33 rfl ?_
        refine g_iload cx (pc2 := 37) 4 rfl dX1_ending_35 rfl ?_
        refine g_aload_n cx (pc2 := 38) 0 rfl dX1_ending_37 rfl ?_
        refine g_get cx (pc2 := 41) (ci := 1) (k0 := 48) (j := 1) (v := .ref 50) rfl iwX1 rfl (lt_lit hn (Nat.le_of_ble_eq_true rfl)) rfl (Nat.le_of_ble_eq_true rfl) kf_X1_15 rfl rfl dX1_ending_38 rfl ?_
        refine g_iload_n cx (pc2 := 42) 1 rfl dX1_ending_41 rfl ?_
        refine g_iald cx (pc2 := 43) (k0 := 50) rfl (lt_lit hn (Nat.le_of_ble_eq_true rfl)) (by first | assumption | omega) (by first | assumption | omega) (Nat.le_of_ble_eq_true rfl) dX1_ending_42 rfl ?_
        refine g_rwi (y := iI (M 50 ((i).toNat))) (congrArg iI (by simp [stM])) ?_
        refine g_icmp_ge cx (pc2 := 46) (tgt := 54) ⟨(by first | assumption | omega), (by first | assumption | omega)⟩ dX1_ending_43 (by decide) rfl (fun h_4 => ?_) (fun h_4 => ?_)
        · skip
          refine g_iload cx (pc2 := 56) 4 rfl dX1_ending_54 rfl ?_
          refine g_aload_n cx (pc2 := 57) 0 rfl dX1_ending_56 rfl ?_
          refine g_get cx (pc2 := 60) (ci := 1) (k0 := 48) (j := 2) (v := .ref 51) rfl iwX1 rfl (lt_lit hn (Nat.le_of_ble_eq_true rfl)) rfl (Nat.le_of_ble_eq_true rfl) kf_X1_18 rfl rfl dX1_ending_57 rfl ?_
          refine g_iload_n cx (pc2 := 61) 1 rfl dX1_ending_60 rfl ?_
          refine g_iald cx (pc2 := 62) (k0 := 51) rfl (lt_lit hn (Nat.le_of_ble_eq_true rfl)) (by first | assumption | omega) (by first | assumption | omega) (Nat.le_of_ble_eq_true rfl) dX1_ending_61 rfl ?_
          refine g_rwi (y := iI (M 51 ((i).toNat))) (congrArg iI (by simp [stM])) ?_
          refine g_icmp_gt cx (pc2 := 65) (tgt := 77) ⟨(by first | assumption | omega), (by first | assumption | omega)⟩ dX1_ending_62 (by decide) rfl (fun h_5 => ?_) (fun h_5 => ?_)
          · skip
            refine g_bipush cx (pc2 := 79) ⟨by decide, by decide⟩ dX1_ending_77 rfl ?_
            exact g_iret cx qx dX1_ending_79 ⟨congrArg (fun q => some (Value.int (iI q))) (by unfold endJ bgJ; (repeat split) <;> omega), by rfl⟩
          · skip
            refine g_iload cx (pc2 := 67) 4 rfl dX1_ending_65 rfl ?_
            refine g_aload_n cx (pc2 := 68) 0 rfl dX1_ending_67 rfl ?_
            refine g_get cx (pc2 := 71) (ci := 1) (k0 := 48) (j := 3) (v := .ref 52) rfl iwX1 rfl (lt_lit hn (Nat.le_of_ble_eq_true rfl)) rfl (Nat.le_of_ble_eq_true rfl) kf_X1_21 rfl rfl dX1_ending_68 rfl ?_
            refine g_iload_n cx (pc2 := 72) 1 rfl dX1_ending_71 rfl ?_
            refine g_iald cx (pc2 := 73) (k0 := 52) rfl (lt_lit hn (Nat.le_of_ble_eq_true rfl)) (by first | assumption | omega) (by first | assumption | omega) (Nat.le_of_ble_eq_true rfl) dX1_ending_72 rfl ?_
            refine g_rwi (y := iI (M 52 ((i).toNat))) (congrArg iI (by simp [stM])) ?_
            refine g_iadd cx (pc2 := 74) dX1_ending_73 rfl ?_
            refine g_goto cx (tgt := 79) dX1_ending_74 (by decide) ?_
            exact g_iret cx qx dX1_ending_79 ⟨congrArg (fun q => some (Value.int (iI q))) (by unfold endJ bgJ; (repeat split) <;> omega), by rfl⟩
        · skip
          refine g_aload_n cx (pc2 := 47) 0 rfl dX1_ending_46 rfl ?_
          refine g_get cx (pc2 := 50) (ci := 1) (k0 := 48) (j := 1) (v := .ref 50) rfl iwX1 rfl (lt_lit hn (Nat.le_of_ble_eq_true rfl)) rfl (Nat.le_of_ble_eq_true rfl) kf_X1_15 rfl rfl dX1_ending_47 rfl ?_
          refine g_iload_n cx (pc2 := 51) 1 rfl dX1_ending_50 rfl ?_
          refine g_iald cx (pc2 := 52) (k0 := 50) rfl (lt_lit hn (Nat.le_of_ble_eq_true rfl)) (by first | assumption | omega) (by first | assumption | omega) (Nat.le_of_ble_eq_true rfl) dX1_ending_51 rfl ?_
          refine g_rwi (y := iI (M 50 ((i).toNat))) (congrArg iI (by simp [stM])) ?_
          refine g_istore cx (pc2 := 54) (lv2 := [(0, .ref 48), (1, .int (iI i)), (2, .int (iI p)), (3, .int (iI f)), (4, .int (iI (M 50 ((i).toNat))))]) rfl (Nat.le_of_ble_eq_true rfl) dX1_ending_52 rfl ?_
          refine g_iload cx (pc2 := 56) 4 rfl dX1_ending_54 rfl ?_
          refine g_aload_n cx (pc2 := 57) 0 rfl dX1_ending_56 rfl ?_
          refine g_get cx (pc2 := 60) (ci := 1) (k0 := 48) (j := 2) (v := .ref 51) rfl iwX1 rfl (lt_lit hn (Nat.le_of_ble_eq_true rfl)) rfl (Nat.le_of_ble_eq_true rfl) kf_X1_18 rfl rfl dX1_ending_57 rfl ?_
          refine g_iload_n cx (pc2 := 61) 1 rfl dX1_ending_60 rfl ?_
          refine g_iald cx (pc2 := 62) (k0 := 51) rfl (lt_lit hn (Nat.le_of_ble_eq_true rfl)) (by first | assumption | omega) (by first | assumption | omega) (Nat.le_of_ble_eq_true rfl) dX1_ending_61 rfl ?_
          refine g_rwi (y := iI (M 51 ((i).toNat))) (congrArg iI (by simp [stM])) ?_
          refine g_icmp_gt cx (pc2 := 65) (tgt := 77) ⟨(by first | assumption | omega), (by first | assumption | omega)⟩ dX1_ending_62 (by decide) rfl (fun h_6 => ?_) (fun h_6 => ?_)
          · skip
            refine g_bipush cx (pc2 := 79) ⟨by decide, by decide⟩ dX1_ending_77 rfl ?_
            exact g_iret cx qx dX1_ending_79 ⟨congrArg (fun q => some (Value.int (iI q))) (by unfold endJ bgJ; (repeat split) <;> omega), by rfl⟩
          · skip
            refine g_iload cx (pc2 := 67) 4 rfl dX1_ending_65 rfl ?_
            refine g_aload_n cx (pc2 := 68) 0 rfl dX1_ending_67 rfl ?_
            refine g_get cx (pc2 := 71) (ci := 1) (k0 := 48) (j := 3) (v := .ref 52) rfl iwX1 rfl (lt_lit hn (Nat.le_of_ble_eq_true rfl)) rfl (Nat.le_of_ble_eq_true rfl) kf_X1_21 rfl rfl dX1_ending_68 rfl ?_
            refine g_iload_n cx (pc2 := 72) 1 rfl dX1_ending_71 rfl ?_
            refine g_iald cx (pc2 := 73) (k0 := 52) rfl (lt_lit hn (Nat.le_of_ble_eq_true rfl)) (by first | assumption | omega) (by first | assumption | omega) (Nat.le_of_ble_eq_true rfl) dX1_ending_72 rfl ?_
            refine g_rwi (y := iI (M 52 ((i).toNat))) (congrArg iI (by simp [stM])) ?_
            refine g_iadd cx (pc2 := 74) dX1_ending_73 rfl ?_
            refine g_goto cx (tgt := 79) dX1_ending_74 (by decide) ?_
            exact g_iret cx qx dX1_ending_79 ⟨congrArg (fun q => some (Value.int (iI q))) (by unfold endJ bgJ; (repeat split) <;> omega), by rfl⟩
      · skip
        refine g_bipush cx (pc2 := 20) ⟨by decide, by decide⟩ dX1_ending_18 rfl ?_
        exact g_iret cx qx dX1_ending_20 ⟨congrArg (fun q => some (Value.int (iI q))) (by unfold endJ bgJ; (repeat split) <;> omega), by rfl⟩
set_option maxHeartbeats 4000000 in
set_option maxRecDepth 100000 in
theorem c_X1_worthOf {n : Nat} (hn : NN n) {M : Mm} (hJ : JW M) (s : Int) (hs : 0 ≤ s ∧ s ≤ 255) : CT yX1_worthOf cX1_worthOf 4 (some .int) ({ frames := 2, cells := 0, slots := 0, locals := 41 }) n [.ref 48, .int (iI s)] M (rI (wsM M s) M) := by
  refine CT.of (lv0 := [(0, .ref 48), (1, .int (iI s))]) (by decide +kernel) hn (fun _ => rfl) (fun _ => Nat.le_of_ble_eq_true rfl) (fun X cx cs qx => ?_)
  have cx : Cx X cX1_worthOf RX1 ({ frames := 2, cells := 0, slots := 0, locals := 41 }) 4 n := cx
  have hz := hJ.1
  refine g_iconst cx (pc2 := 1) dX1_worthOf_0 rfl ?_
  refine g_istore_n cx (pc2 := 2) (lv2 := [(0, .ref 48), (1, .int (iI s)), (2, .int (iI 0))]) rfl (Nat.le_of_ble_eq_true rfl) dX1_worthOf_1 rfl ?_
  refine g_iconst cx (pc2 := 3) dX1_worthOf_2 rfl ?_
  refine g_istore_n cx (pc2 := 4) (lv2 := [(0, .ref 48), (1, .int (iI s)), (2, .int (iI 0)), (3, .int (iI 0))]) rfl (Nat.le_of_ble_eq_true rfl) dX1_worthOf_3 rfl ?_
  have L4 : ∀ (fu : Nat) (i : Int) (t : Int), (0 ≤ i ∧ i ≤ M 48 5) → (t = smZ (fun j => if s.toNat.testBit j then M 53 j else 0) i.toNat) → (M 48 5 - i).toNat ≤ fu → G X 4 [(0, .ref 48), (1, .int (iI s)), (2, .int (iI t)), (3, .int (iI i))] [] M := by
    intro fu
    induction fu using Nat.strongRecOn with
    | _ fu ih4 =>
      intro i t hi0 ht hk4
      refine g_iload_n cx (pc2 := 5) 3 rfl dX1_worthOf_4 rfl ?_
      refine g_aload_n cx (pc2 := 6) 0 rfl dX1_worthOf_5 rfl ?_
      refine g_get cx (pc2 := 9) (ci := 1) (k0 := 48) (j := 5) (v := .int (iI (M 48 5))) rfl iwX1 rfl (lt_lit hn (Nat.le_of_ble_eq_true rfl)) rfl (Nat.le_of_ble_eq_true rfl) kf_X1_27 rfl rfl dX1_worthOf_6 rfl ?_
      refine g_icmp_ge cx (pc2 := 12) (tgt := 35) ⟨(by first | assumption | omega), (by first | assumption | omega)⟩ dX1_worthOf_9 (by decide) rfl (fun h_1 => ?_) (fun h_1 => ?_)
      · skip
        refine g_iload_n cx (pc2 := 36) 2 rfl dX1_worthOf_35 rfl ?_
        exact g_iret cx qx dX1_worthOf_36 ⟨congrArg (fun q => some (Value.int (iI q))) (by rw [ht]; unfold wsM; rw [show i = M 48 5 by omega]), by rfl⟩
      · skip
        have L29 : ∀ (t2 : Int), (t2 = smZ (fun j => if s.toNat.testBit j then M 53 j else 0) (i + 1).toNat) → G X 29 [(0, .ref 48), (1, .int (iI s)), (2, .int (iI t2)), (3, .int (iI i))] [] M := by
          intro t2 ht2
          refine g_iinc cx (pc2 := 32) 3 rfl (lv2 := [(0, .ref 48), (1, .int (iI s)), (2, .int (iI t2)), (3, .int (iI (i + 1)))]) rfl (Nat.le_of_ble_eq_true rfl) dX1_worthOf_29 rfl ?_
          refine g_goto cx (tgt := 4) dX1_worthOf_32 (by decide) ?_
          exact ih4 ((M 48 5 - (i + 1)).toNat) (by omega) (i + 1) t2 (by first | assumption | omega) (by exact ht2) (Nat.le_refl _)
        refine g_iload_n cx (pc2 := 13) 3 rfl dX1_worthOf_12 rfl ?_
        refine g_iload_n cx (pc2 := 14) 1 rfl dX1_worthOf_13 rfl ?_
        refine g_callSN cx (pc2 := 17) (st := []) (As := [.int (iI i), .int (iI s)]) (c_X11_isIn (M := M) hn i s (by first | assumption | omega) (by first | assumption | omega)) wM_X11_isIn wS_X11_isIn kl_X1_74 ⟨rfl, rfl, Nat.le_of_ble_eq_true rfl, Nat.le_of_ble_eq_true rfl⟩ (Nat.le_of_ble_eq_true rfl) cs rfl rfl dX1_worthOf_14 rfl ?_
        rintro _ _ ⟨rfl, rfl⟩
        refine g_ifb_eq cx (pc2 := 20) (tgt := 29) dX1_worthOf_17 (by decide) rfl (fun h_2 => ?_) (fun h_2 => ?_)
        · skip
          exact L29 t (by rw [show (i + 1).toNat = i.toNat + 1 by omega, smZ, ht]; first | (rw [if_pos (by have := h_2; exact this.2.2)]; done) | (rw [if_neg (fun q => h_2 ⟨by omega, by omega, q⟩), Int.add_zero]; done))
        · skip
          refine g_iload_n cx (pc2 := 21) 2 rfl dX1_worthOf_20 rfl ?_
          refine g_aload_n cx (pc2 := 22) 0 rfl dX1_worthOf_21 rfl ?_
          refine g_get cx (pc2 := 25) (ci := 1) (k0 := 48) (j := 4) (v := .ref 53) rfl iwX1 rfl (lt_lit hn (Nat.le_of_ble_eq_true rfl)) rfl (Nat.le_of_ble_eq_true rfl) kf_X1_24 rfl rfl dX1_worthOf_22 rfl ?_
          refine g_iload_n cx (pc2 := 26) 3 rfl dX1_worthOf_25 rfl ?_
          refine g_iald cx (pc2 := 27) (k0 := 53) rfl (lt_lit hn (Nat.le_of_ble_eq_true rfl)) (by first | assumption | omega) (by first | assumption | omega) (Nat.le_of_ble_eq_true rfl) dX1_worthOf_26 rfl ?_
          refine g_rwi (y := iI (M 53 ((i).toNat))) (congrArg iI (by simp [stM])) ?_
          refine g_iadd cx (pc2 := 28) dX1_worthOf_27 rfl ?_
          refine g_istore_n cx (pc2 := 29) (lv2 := [(0, .ref 48), (1, .int (iI s)), (2, .int (iI (t + (M 53 ((i).toNat))))), (3, .int (iI i))]) rfl (Nat.le_of_ble_eq_true rfl) dX1_worthOf_28 rfl ?_
          exact L29 (t + (M 53 ((i).toNat))) (by rw [show (i + 1).toNat = i.toNat + 1 by omega, smZ, ht]; first | (rw [if_pos (by have := h_2; exact this.2.2)]; done) | (rw [if_neg (fun q => h_2 ⟨by omega, by omega, q⟩), Int.add_zero]; done))
  exact L4 _ 0 0 (by first | assumption | omega) (by rfl) (Nat.le_refl _)
abbrev WW (M : Mm) : Prop := (0 ≤ M 54 3 ∧ M 54 3 ≤ 8) ∧ (0 ≤ M 54 4 ∧ M 54 4 ≤ 15) ∧ (0 ≤ M 54 5 ∧ M 54 5 ≤ 100) ∧ ∀ j, (0 ≤ M 55 j ∧ M 55 j ≤ 7) ∧ (0 ≤ M 56 j ∧ M 56 j ≤ 28)
abbrev WS (M : Mm) : Prop := ∀ j : Nat, (j : Int) < M 54 3 → (0 ≤ M 55 j ∧ M 55 j < M 48 5) ∧ M 56 j + M 52 (M 55 j).toNat ≤ 28
abbrev okW (M : Mm) (i : Int) : Prop := ¬ endJ M i (M 54 4) (M 54 5) = -9 ∧ M 54 3 < 8
def meM (M : Mm) (i : Int) : Mm := stM (stM (stM (stM (stM M 55 (M 54 3).toNat i) 56 (M 54 3).toNat (endJ M i (M 54 4) (M 54 5) - lnJ M i)) 54 3 (M 54 3 + 1)) 54 4 (plJ M i)) 54 5 (endJ M i (M 54 4) (M 54 5))
def mtF (M : Mm) : Nat → Nat
  | 0 => 0
  | k + 1 => mtF M k ||| bitN (M 55 k)
theorem mtF_b (M : Mm) : ∀ k, mtF M k ≤ 255
  | 0 => by simp [mtF]
  | k + 1 => by
    have h1 := mtF_b M k
    have h2 := bitN_le (M 55 k)
    have := Nat.or_lt_two_pow (n := 8) (show mtF M k < 2 ^ 8 by omega) (show bitN (M 55 k) < 2 ^ 8 by omega)
    rw [mtF]
    omega
def wwF (M : Mm) : Nat → Nat
  | 0 => 0
  | k + 1 => wwF M k ||| (2 ^ (lnJ M (M 55 k)).toNat - 1) * 2 ^ (M 56 k).toNat
theorem shl_iI {a i : Int} (ha : 0 ≤ a) (h0 : 0 ≤ i) (h1 : i < 31) (h2 : a.toNat * 2 ^ i.toNat < 2 ^ 31) : iI a <<< (iI i &&& 31) = iI ((a.toNat * 2 ^ i.toNat : Nat) : Int) := by
  have key : ∀ k : Nat, k < 31 → ((Int32.ofInt (k : Int) &&& 31).toBitVec.smod 32).toNat = k := by decide +kernel
  have hk := key i.toNat (by omega)
  rw [Int.toNat_of_nonneg h0] at hk
  rw [iI_nat, show iI a = nI a.toNat by rw [← iI_nat, Int.toNat_of_nonneg ha]]
  exact pk_shlN _ i.toNat hk (by omega)
theorem wwB {M : Mm} (hJ : JW M) (hW : WW M) (hS : WS M) {k : Nat} (hk : (k : Int) < M 54 3) : (2 ^ (lnJ M (M 55 k)).toNat - 1) * 2 ^ (M 56 k).toNat < 2 ^ 28 ∧ (lnJ M (M 55 k)).toNat ≤ 4 ∧ (M 56 k).toNat ≤ 28 := by
  have h1 := hS k hk
  have h2 := hW.2.2.2 k
  have h3 := hJ.2 (M 55 k).toNat
  have e : lnJ M (M 55 k) = M 52 (M 55 k).toNat := by unfold lnJ; rw [if_pos h1.1]
  rw [e]
  refine ⟨?_, by omega, by omega⟩
  have h4 : 2 ^ (M 52 (M 55 k).toNat).toNat * 2 ^ (M 56 k).toNat ≤ 2 ^ 28 := by
    rw [← Nat.pow_add]
    exact Nat.pow_le_pow_right (by decide) (by omega)
  have h5 : 0 < 2 ^ (M 56 k).toNat := Nat.two_pow_pos _
  rw [Nat.sub_mul]
  omega
theorem wwF_b {M : Mm} (hJ : JW M) (hW : WW M) (hS : WS M) : ∀ k : Nat, (k : Int) ≤ M 54 3 → wwF M k < 2 ^ 28
  | 0, _ => by simp [wwF]
  | k + 1, h => by
    have h1 := wwF_b hJ hW hS k (by omega)
    have h2 := (wwB hJ hW hS (k := k) (by omega)).1
    rw [wwF]
    exact Nat.or_lt_two_pow h1 h2
set_option maxHeartbeats 4000000 in
set_option maxRecDepth 100000 in
theorem c_X10_beginAt {n : Nat} (hn : NN n) {M : Mm} (p : Int) : CT yX10_beginAt cX10_beginAt 2 none ({ frames := 0, cells := 0, slots := 0, locals := 0 }) n [.ref 54, .int (iI p)] M (rV (stM (stM (stM M 54 3 0) 54 4 p) 54 5 0)) := by
  refine CT.of (lv0 := [(0, .ref 54), (1, .int (iI p))]) (by decide +kernel) hn (fun _ => rfl) (fun _ => Nat.le_of_ble_eq_true rfl) (fun X cx cs qx => ?_)
  have cx : Cx X cX10_beginAt RX10 ({ frames := 0, cells := 0, slots := 0, locals := 0 }) 2 n := cx
  refine g_aload_n cx (pc2 := 1) 0 rfl dX10_beginAt_0 rfl ?_
  refine g_iconst cx (pc2 := 2) dX10_beginAt_1 rfl ?_
  refine g_puti cx (pc2 := 5) (ci := 10) (k0 := 54) (j := 3) rfl iwX10 rfl (lt_lit hn (Nat.le_of_ble_eq_true rfl)) rfl (Nat.le_of_ble_eq_true rfl) kf_X10_18 rfl tyX10_ok nmX10 rfl rfl dX10_beginAt_2 rfl ?_
  refine g_aload_n cx (pc2 := 6) 0 rfl dX10_beginAt_5 rfl ?_
  refine g_iload_n cx (pc2 := 7) 1 rfl dX10_beginAt_6 rfl ?_
  refine g_puti cx (pc2 := 10) (ci := 10) (k0 := 54) (j := 4) rfl iwX10 rfl (lt_lit hn (Nat.le_of_ble_eq_true rfl)) rfl (Nat.le_of_ble_eq_true rfl) kf_X10_22 rfl tyX10_ok nmX10 rfl rfl dX10_beginAt_7 rfl ?_
  refine g_aload_n cx (pc2 := 11) 0 rfl dX10_beginAt_10 rfl ?_
  refine g_iconst cx (pc2 := 12) dX10_beginAt_11 rfl ?_
  refine g_puti cx (pc2 := 15) (ci := 10) (k0 := 54) (j := 5) rfl iwX10 rfl (lt_lit hn (Nat.le_of_ble_eq_true rfl)) rfl (Nat.le_of_ble_eq_true rfl) kf_X10_25 rfl tyX10_ok nmX10 rfl rfl dX10_beginAt_12 rfl ?_
  exact g_vret cx qx dX10_beginAt_15 ⟨rfl, by rfl⟩
set_option maxHeartbeats 4000000 in
set_option maxRecDepth 100000 in
theorem c_X10_has {n : Nat} (hn : NN n) {M : Mm} (hw : WW M) (i : Int) (hi : ir i) : CT yX10_has cX10_has 2 (some .boolean) ({ frames := 0, cells := 0, slots := 0, locals := 0 }) n [.ref 54, .int (iI i)] M (rI (b2 (0 ≤ i ∧ i < M 54 3)) M) := by
  refine CT.of (lv0 := [(0, .ref 54), (1, .int (iI i))]) (by decide +kernel) hn (fun _ => rfl) (fun _ => Nat.le_of_ble_eq_true rfl) (fun X cx cs qx => ?_)
  have cx : Cx X cX10_has RX10 ({ frames := 0, cells := 0, slots := 0, locals := 0 }) 2 n := cx
  have h3 := hw.1
  refine g_iload_n cx (pc2 := 1) 1 rfl dX10_has_0 rfl ?_
  refine g_if_lt cx (pc2 := 4) (tgt := 22) (by first | assumption | omega) dX10_has_1 (by decide) rfl (fun h_1 => ?_) (fun h_1 => ?_)
  · skip
    refine g_iconst cx (pc2 := 23) dX10_has_22 rfl ?_
    exact g_zret cx (Or.inl rfl) qx dX10_has_23 ⟨rb_f (by first | assumption | omega), by rfl⟩
  · skip
    refine g_iload_n cx (pc2 := 5) 1 rfl dX10_has_4 rfl ?_
    refine g_aload_n cx (pc2 := 6) 0 rfl dX10_has_5 rfl ?_
    refine g_get cx (pc2 := 9) (ci := 10) (k0 := 54) (j := 3) (v := .int (iI (M 54 3))) rfl iwX10 rfl (lt_lit hn (Nat.le_of_ble_eq_true rfl)) rfl (Nat.le_of_ble_eq_true rfl) kf_X10_18 rfl rfl dX10_has_6 rfl ?_
    refine g_icmp_ge cx (pc2 := 12) (tgt := 22) ⟨(by first | assumption | omega), (by first | assumption | omega)⟩ dX10_has_9 (by decide) rfl (fun h_2 => ?_) (fun h_2 => ?_)
    · skip
      refine g_iconst cx (pc2 := 23) dX10_has_22 rfl ?_
      exact g_zret cx (Or.inl rfl) qx dX10_has_23 ⟨rb_f (by first | assumption | omega), by rfl⟩
    · skip
      refine g_iload_n cx (pc2 := 13) 1 rfl dX10_has_12 rfl ?_
      refine g_bipush cx (pc2 := 15) ⟨by decide, by decide⟩ dX10_has_13 rfl ?_
      refine g_icmp_ge cx (pc2 := 18) (tgt := 22) ⟨(by first | assumption | omega), ⟨by decide, by decide⟩⟩ dX10_has_15 (by decide) rfl (fun h_3 => ?_) (fun h_3 => ?_)
      · skip
        refine g_iconst cx (pc2 := 23) dX10_has_22 rfl ?_
        exact g_zret cx (Or.inl rfl) qx dX10_has_23 ⟨rb_f (by first | assumption | omega), by rfl⟩
      · skip
        refine g_iconst cx (pc2 := 19) dX10_has_18 rfl ?_
        refine g_goto cx (tgt := 23) dX10_has_19 (by decide) ?_
        exact g_zret cx (Or.inr rfl) qx dX10_has_23 ⟨rb_t (by first | assumption | omega), by rfl⟩
set_option maxHeartbeats 4000000 in
set_option maxRecDepth 100000 in
theorem c_X10_needOf {n : Nat} (hn : NN n) {M : Mm} (hw : WW M) (i : Int) (hi : ir i) : CT yX10_needOf cX10_needOf 2 (some .int) ({ frames := 1, cells := 0, slots := 0, locals := 21 }) n [.ref 54, .int (iI i)] M (rI (if 0 ≤ i ∧ i < M 54 3 then M 55 i.toNat else -9) M) := by
  refine CT.of (lv0 := [(0, .ref 54), (1, .int (iI i))]) (by decide +kernel) hn (fun _ => rfl) (fun _ => Nat.le_of_ble_eq_true rfl) (fun X cx cs qx => ?_)
  have cx : Cx X cX10_needOf RX10 ({ frames := 1, cells := 0, slots := 0, locals := 21 }) 2 n := cx
  have h3 := hw.1
  refine g_aload_n cx (pc2 := 1) 0 rfl dX10_needOf_0 rfl ?_
  refine g_iload_n cx (pc2 := 2) 1 rfl dX10_needOf_1 rfl ?_
  refine g_callV cx (pc2 := 5) (st := []) (As := [.int (iI i)]) (k0 := 54) (ci := 10) (c_X10_has (M := M) hn (by first | assumption | omega) i (by first | assumption | omega)) wM_X10_has wV_X10_has kl_X10_45 rfl (lt_lit hn (Nat.le_of_ble_eq_true rfl)) rfl ⟨rfl, rfl, Nat.le_of_ble_eq_true rfl, Nat.le_of_ble_eq_true rfl⟩ (Nat.le_of_ble_eq_true rfl) cs rfl rfl dX10_needOf_2 rfl ?_
  rintro _ _ ⟨rfl, rfl⟩
  refine g_ifb_eq cx (pc2 := 8) (tgt := 17) dX10_needOf_5 (by decide) rfl (fun h_1 => ?_) (fun h_1 => ?_)
  · skip
    refine g_bipush cx (pc2 := 19) ⟨by decide, by decide⟩ dX10_needOf_17 rfl ?_
    exact g_iret cx qx dX10_needOf_19 ⟨congrArg (fun q => some (Value.int (iI q))) (by first | (rw [if_pos (by omega)]; done) | (rw [if_neg (by omega)]; done)), by rfl⟩
  · skip
    refine g_aload_n cx (pc2 := 9) 0 rfl dX10_needOf_8 rfl ?_
    refine g_get cx (pc2 := 12) (ci := 10) (k0 := 54) (j := 1) (v := .ref 55) rfl iwX10 rfl (lt_lit hn (Nat.le_of_ble_eq_true rfl)) rfl (Nat.le_of_ble_eq_true rfl) kf_X10_9 rfl rfl dX10_needOf_9 rfl ?_
    refine g_iload_n cx (pc2 := 13) 1 rfl dX10_needOf_12 rfl ?_
    refine g_iald cx (pc2 := 14) (k0 := 55) rfl (lt_lit hn (Nat.le_of_ble_eq_true rfl)) (by first | assumption | omega) (by first | assumption | omega) (Nat.le_of_ble_eq_true rfl) dX10_needOf_13 rfl ?_
    refine g_rwi (y := iI (M 55 ((i).toNat))) (congrArg iI (by simp [stM])) ?_
    refine g_goto cx (tgt := 19) dX10_needOf_14 (by decide) ?_
    exact g_iret cx qx dX10_needOf_19 ⟨congrArg (fun q => some (Value.int (iI q))) (by first | (rw [if_pos (by omega)]; done) | (rw [if_neg (by omega)]; done)), by rfl⟩
set_option maxHeartbeats 4000000 in
set_option maxRecDepth 100000 in
theorem c_X10_beginningOf {n : Nat} (hn : NN n) {M : Mm} (hw : WW M) (i : Int) (hi : ir i) : CT yX10_beginningOf cX10_beginningOf 2 (some .int) ({ frames := 1, cells := 0, slots := 0, locals := 21 }) n [.ref 54, .int (iI i)] M (rI (if 0 ≤ i ∧ i < M 54 3 then M 56 i.toNat else -9) M) := by
  refine CT.of (lv0 := [(0, .ref 54), (1, .int (iI i))]) (by decide +kernel) hn (fun _ => rfl) (fun _ => Nat.le_of_ble_eq_true rfl) (fun X cx cs qx => ?_)
  have cx : Cx X cX10_beginningOf RX10 ({ frames := 1, cells := 0, slots := 0, locals := 21 }) 2 n := cx
  have h3 := hw.1
  refine g_aload_n cx (pc2 := 1) 0 rfl dX10_beginningOf_0 rfl ?_
  refine g_iload_n cx (pc2 := 2) 1 rfl dX10_beginningOf_1 rfl ?_
  refine g_callV cx (pc2 := 5) (st := []) (As := [.int (iI i)]) (k0 := 54) (ci := 10) (c_X10_has (M := M) hn (by first | assumption | omega) i (by first | assumption | omega)) wM_X10_has wV_X10_has kl_X10_45 rfl (lt_lit hn (Nat.le_of_ble_eq_true rfl)) rfl ⟨rfl, rfl, Nat.le_of_ble_eq_true rfl, Nat.le_of_ble_eq_true rfl⟩ (Nat.le_of_ble_eq_true rfl) cs rfl rfl dX10_beginningOf_2 rfl ?_
  rintro _ _ ⟨rfl, rfl⟩
  refine g_ifb_eq cx (pc2 := 8) (tgt := 17) dX10_beginningOf_5 (by decide) rfl (fun h_1 => ?_) (fun h_1 => ?_)
  · skip
    refine g_bipush cx (pc2 := 19) ⟨by decide, by decide⟩ dX10_beginningOf_17 rfl ?_
    exact g_iret cx qx dX10_beginningOf_19 ⟨congrArg (fun q => some (Value.int (iI q))) (by first | (rw [if_pos (by omega)]; done) | (rw [if_neg (by omega)]; done)), by rfl⟩
  · skip
    refine g_aload_n cx (pc2 := 9) 0 rfl dX10_beginningOf_8 rfl ?_
    refine g_get cx (pc2 := 12) (ci := 10) (k0 := 54) (j := 2) (v := .ref 56) rfl iwX10 rfl (lt_lit hn (Nat.le_of_ble_eq_true rfl)) rfl (Nat.le_of_ble_eq_true rfl) kf_X10_15 rfl rfl dX10_beginningOf_9 rfl ?_
    refine g_iload_n cx (pc2 := 13) 1 rfl dX10_beginningOf_12 rfl ?_
    refine g_iald cx (pc2 := 14) (k0 := 56) rfl (lt_lit hn (Nat.le_of_ble_eq_true rfl)) (by first | assumption | omega) (by first | assumption | omega) (Nat.le_of_ble_eq_true rfl) dX10_beginningOf_13 rfl ?_
    refine g_rwi (y := iI (M 56 ((i).toNat))) (congrArg iI (by simp [stM])) ?_
    refine g_goto cx (tgt := 19) dX10_beginningOf_14 (by decide) ?_
    exact g_iret cx qx dX10_beginningOf_19 ⟨congrArg (fun q => some (Value.int (iI q))) (by first | (rw [if_pos (by omega)]; done) | (rw [if_neg (by omega)]; done)), by rfl⟩
set_option maxHeartbeats 4000000 in
set_option maxRecDepth 100000 in
theorem c_X10_meet {n : Nat} (hn : NN n) {M : Mm} (hJ : JW M) (hw : WW M) (i : Int) (hi : ir i) : CT yX10_meet cX10_meet 3 (some .boolean) ({ frames := 2, cells := 0, slots := 0, locals := 45 }) n [.ref 54, .int (iI i)] M (rI (b2 (okW M i)) (if okW M i then meM M i else M)) := by
  refine CT.of (lv0 := [(0, .ref 54), (1, .int (iI i))]) (by decide +kernel) hn (fun _ => rfl) (fun _ => Nat.le_of_ble_eq_true rfl) (fun X cx cs qx => ?_)
  have cx : Cx X cX10_meet RX10 ({ frames := 2, cells := 0, slots := 0, locals := 45 }) 3 n := cx
  have hw1 := hw.1
  have hw2 := hw.2.1
  have hw3 := hw.2.2.1
  have hEb := endJ_b hJ (i := i) (p := M 54 4) (f := M 54 5) hw2 hw3.1
  refine g_aload_n cx (pc2 := 1) 0 rfl dX10_meet_0 rfl ?_
  refine g_get cx (pc2 := 4) (ci := 10) (k0 := 54) (j := 0) (v := .ref 48) rfl iwX10 rfl (lt_lit hn (Nat.le_of_ble_eq_true rfl)) rfl (Nat.le_of_ble_eq_true rfl) kf_X10_28 rfl rfl dX10_meet_1 rfl ?_
  refine g_iload_n cx (pc2 := 5) 1 rfl dX10_meet_4 rfl ?_
  refine g_aload_n cx (pc2 := 6) 0 rfl dX10_meet_5 rfl ?_
  refine g_get cx (pc2 := 9) (ci := 10) (k0 := 54) (j := 4) (v := .int (iI (M 54 4))) rfl iwX10 rfl (lt_lit hn (Nat.le_of_ble_eq_true rfl)) rfl (Nat.le_of_ble_eq_true rfl) kf_X10_22 rfl rfl dX10_meet_6 rfl ?_
  refine g_aload_n cx (pc2 := 10) 0 rfl dX10_meet_9 rfl ?_
  refine g_get cx (pc2 := 13) (ci := 10) (k0 := 54) (j := 5) (v := .int (iI (M 54 5))) rfl iwX10 rfl (lt_lit hn (Nat.le_of_ble_eq_true rfl)) rfl (Nat.le_of_ble_eq_true rfl) kf_X10_25 rfl rfl dX10_meet_10 rfl ?_
  refine g_callV cx (pc2 := 16) (st := []) (As := [.int (iI i), .int (iI (M 54 4)), .int (iI (M 54 5))]) (k0 := 48) (ci := 1) (c_X1_ending (M := M) hn (by first | assumption | omega) i (M 54 4) (M 54 5) (by first | assumption | omega) (by first | assumption | omega) (by first | assumption | omega)) wM_X1_ending wV_X1_ending kl_X10_32 rfl (lt_lit hn (Nat.le_of_ble_eq_true rfl)) rfl ⟨rfl, rfl, Nat.le_of_ble_eq_true rfl, Nat.le_of_ble_eq_true rfl⟩ (Nat.le_of_ble_eq_true rfl) cs rfl rfl dX10_meet_13 rfl ?_
  rintro _ _ ⟨rfl, rfl⟩
  refine g_istore_n cx (pc2 := 17) (lv2 := [(0, .ref 54), (1, .int (iI i)), (2, .int (iI (endJ M i (M 54 4) (M 54 5))))]) rfl (Nat.le_of_ble_eq_true rfl) dX10_meet_16 rfl ?_
  refine g_iload_n cx (pc2 := 18) 2 rfl dX10_meet_17 rfl ?_
  refine g_bipush cx (pc2 := 20) ⟨by decide, by decide⟩ dX10_meet_18 rfl ?_
  refine g_icmp_eq cx (pc2 := 23) (tgt := 39) ⟨(by first | assumption | omega), ⟨by decide, by decide⟩⟩ dX10_meet_20 (by decide) rfl (fun h_1 => ?_) (fun h_1 => ?_)
  · skip
    refine g_iconst cx (pc2 := 40) dX10_meet_39 rfl ?_
    exact g_zret cx (Or.inl rfl) qx dX10_meet_40 ⟨rb_f (by first | assumption | omega), by first | (rw [if_neg (by omega)]; done) | (rw [if_pos (by omega)]; rfl)⟩
  · skip
    refine g_aload_n cx (pc2 := 24) 0 rfl dX10_meet_23 rfl ?_
    refine g_get cx (pc2 := 27) (ci := 10) (k0 := 54) (j := 3) (v := .int (iI (M 54 3))) rfl iwX10 rfl (lt_lit hn (Nat.le_of_ble_eq_true rfl)) rfl (Nat.le_of_ble_eq_true rfl) kf_X10_18 rfl rfl dX10_meet_24 rfl ?_
    refine g_if_lt cx (pc2 := 30) (tgt := 39) (by first | assumption | omega) dX10_meet_27 (by decide) rfl (fun h_2 => ?_) (fun h_2 => ?_)
    · skip
      refine g_iconst cx (pc2 := 40) dX10_meet_39 rfl ?_
      exact g_zret cx (Or.inl rfl) qx dX10_meet_40 ⟨rb_f (by first | assumption | omega), by first | (rw [if_neg (by omega)]; done) | (rw [if_pos (by omega)]; rfl)⟩
    · skip
      refine g_aload_n cx (pc2 := 31) 0 rfl dX10_meet_30 rfl ?_
      refine g_get cx (pc2 := 34) (ci := 10) (k0 := 54) (j := 3) (v := .int (iI (M 54 3))) rfl iwX10 rfl (lt_lit hn (Nat.le_of_ble_eq_true rfl)) rfl (Nat.le_of_ble_eq_true rfl) kf_X10_18 rfl rfl dX10_meet_31 rfl ?_
      refine g_bipush cx (pc2 := 36) ⟨by decide, by decide⟩ dX10_meet_34 rfl ?_
      refine g_icmp_lt cx (pc2 := 39) (tgt := 41) ⟨(by first | assumption | omega), ⟨by decide, by decide⟩⟩ dX10_meet_36 (by decide) rfl (fun h_3 => ?_) (fun h_3 => ?_)
      · skip
        refine g_aload_n cx (pc2 := 42) 0 rfl dX10_meet_41 rfl ?_
        refine g_get cx (pc2 := 45) (ci := 10) (k0 := 54) (j := 1) (v := .ref 55) rfl iwX10 rfl (lt_lit hn (Nat.le_of_ble_eq_true rfl)) rfl (Nat.le_of_ble_eq_true rfl) kf_X10_9 rfl rfl dX10_meet_42 rfl ?_
        refine g_aload_n cx (pc2 := 46) 0 rfl dX10_meet_45 rfl ?_
        refine g_get cx (pc2 := 49) (ci := 10) (k0 := 54) (j := 3) (v := .int (iI (M 54 3))) rfl iwX10 rfl (lt_lit hn (Nat.le_of_ble_eq_true rfl)) rfl (Nat.le_of_ble_eq_true rfl) kf_X10_18 rfl rfl dX10_meet_46 rfl ?_
        refine g_iload_n cx (pc2 := 50) 1 rfl dX10_meet_49 rfl ?_
        refine g_iast cx (pc2 := 51) (k0 := 55) rfl (lt_lit hn (Nat.le_of_ble_eq_true rfl)) (by first | assumption | omega) (by first | assumption | omega) (Nat.le_of_ble_eq_true rfl) dX10_meet_50 rfl ?_
        refine g_aload_n cx (pc2 := 52) 0 rfl dX10_meet_51 rfl ?_
        refine g_get cx (pc2 := 55) (ci := 10) (k0 := 54) (j := 2) (v := .ref 56) rfl iwX10 rfl (lt_lit hn (Nat.le_of_ble_eq_true rfl)) rfl (Nat.le_of_ble_eq_true rfl) kf_X10_15 rfl rfl dX10_meet_52 rfl ?_
        refine g_aload_n cx (pc2 := 56) 0 rfl dX10_meet_55 rfl ?_
        refine g_get cx (pc2 := 59) (ci := 10) (k0 := 54) (j := 3) (v := .int (iI (M 54 3))) rfl iwX10 rfl (lt_lit hn (Nat.le_of_ble_eq_true rfl)) rfl (Nat.le_of_ble_eq_true rfl) kf_X10_18 rfl (congrArg (fun q => Value.int (iI q)) (by simp [stM])) dX10_meet_56 rfl ?_
        refine g_iload_n cx (pc2 := 60) 2 rfl dX10_meet_59 rfl ?_
        refine g_aload_n cx (pc2 := 61) 0 rfl dX10_meet_60 rfl ?_
        refine g_get cx (pc2 := 64) (ci := 10) (k0 := 54) (j := 0) (v := .ref 48) rfl iwX10 rfl (lt_lit hn (Nat.le_of_ble_eq_true rfl)) rfl (Nat.le_of_ble_eq_true rfl) kf_X10_28 rfl rfl dX10_meet_61 rfl ?_
        refine g_iload_n cx (pc2 := 65) 1 rfl dX10_meet_64 rfl ?_
        refine g_callV cx (pc2 := 68) (st := [.int (iI (endJ M i (M 54 4) (M 54 5))), .int (iI (M 54 3)), .ref 56]) (As := [.int (iI i)]) (k0 := 48) (ci := 1) (c_X1_lengthOf (M := (stM M 55 ((M 54 3)).toNat i)) hn (by exact hJ) i (by first | assumption | omega)) wM_X1_lengthOf wV_X1_lengthOf kl_X10_38 rfl (lt_lit hn (Nat.le_of_ble_eq_true rfl)) rfl ⟨rfl, rfl, Nat.le_of_ble_eq_true rfl, Nat.le_of_ble_eq_true rfl⟩ (Nat.le_of_ble_eq_true rfl) cs rfl rfl dX10_meet_65 rfl ?_
        rintro _ _ ⟨rfl, rfl⟩
        refine g_rwi (y := iI (lnJ M i)) (rfl) ?_
        refine g_isub cx (pc2 := 69) dX10_meet_68 rfl ?_
        refine g_iast cx (pc2 := 70) (k0 := 56) rfl (lt_lit hn (Nat.le_of_ble_eq_true rfl)) (by first | assumption | omega) (by first | assumption | omega) (Nat.le_of_ble_eq_true rfl) dX10_meet_69 rfl ?_
        refine g_aload_n cx (pc2 := 71) 0 rfl dX10_meet_70 rfl ?_
        refine g_dup cx (pc2 := 72) rfl dX10_meet_71 rfl ?_
        refine g_get cx (pc2 := 75) (ci := 10) (k0 := 54) (j := 3) (v := .int (iI (M 54 3))) rfl iwX10 rfl (lt_lit hn (Nat.le_of_ble_eq_true rfl)) rfl (Nat.le_of_ble_eq_true rfl) kf_X10_18 rfl (congrArg (fun q => Value.int (iI q)) (by simp [stM])) dX10_meet_72 rfl ?_
        refine g_iconst cx (pc2 := 76) dX10_meet_75 rfl ?_
        refine g_iadd cx (pc2 := 77) dX10_meet_76 rfl ?_
        refine g_puti cx (pc2 := 80) (ci := 10) (k0 := 54) (j := 3) rfl iwX10 rfl (lt_lit hn (Nat.le_of_ble_eq_true rfl)) rfl (Nat.le_of_ble_eq_true rfl) kf_X10_18 rfl tyX10_ok nmX10 rfl rfl dX10_meet_77 rfl ?_
        refine g_aload_n cx (pc2 := 81) 0 rfl dX10_meet_80 rfl ?_
        refine g_aload_n cx (pc2 := 82) 0 rfl dX10_meet_81 rfl ?_
        refine g_get cx (pc2 := 85) (ci := 10) (k0 := 54) (j := 0) (v := .ref 48) rfl iwX10 rfl (lt_lit hn (Nat.le_of_ble_eq_true rfl)) rfl (Nat.le_of_ble_eq_true rfl) kf_X10_28 rfl rfl dX10_meet_82 rfl ?_
        refine g_iload_n cx (pc2 := 86) 1 rfl dX10_meet_85 rfl ?_
        refine g_callV cx (pc2 := 89) (st := [.ref 54]) (As := [.int (iI i)]) (k0 := 48) (ci := 1) (c_X1_placeOf (M := (stM (stM (stM M 55 ((M 54 3)).toNat i) 56 ((M 54 3)).toNat ((endJ M i (M 54 4) (M 54 5)) - (lnJ M i))) 54 3 ((M 54 3) + 1))) hn (by exact hJ) i (by first | assumption | omega)) wM_X1_placeOf wV_X1_placeOf kl_X10_42 rfl (lt_lit hn (Nat.le_of_ble_eq_true rfl)) rfl ⟨rfl, rfl, Nat.le_of_ble_eq_true rfl, Nat.le_of_ble_eq_true rfl⟩ (Nat.le_of_ble_eq_true rfl) cs rfl rfl dX10_meet_86 rfl ?_
        rintro _ _ ⟨rfl, rfl⟩
        refine g_rwi (y := iI (plJ M i)) (rfl) ?_
        refine g_puti cx (pc2 := 92) (ci := 10) (k0 := 54) (j := 4) rfl iwX10 rfl (lt_lit hn (Nat.le_of_ble_eq_true rfl)) rfl (Nat.le_of_ble_eq_true rfl) kf_X10_22 rfl tyX10_ok nmX10 rfl rfl dX10_meet_89 rfl ?_
        refine g_aload_n cx (pc2 := 93) 0 rfl dX10_meet_92 rfl ?_
        refine g_iload_n cx (pc2 := 94) 2 rfl dX10_meet_93 rfl ?_
        refine g_puti cx (pc2 := 97) (ci := 10) (k0 := 54) (j := 5) rfl iwX10 rfl (lt_lit hn (Nat.le_of_ble_eq_true rfl)) rfl (Nat.le_of_ble_eq_true rfl) kf_X10_25 rfl tyX10_ok nmX10 rfl rfl dX10_meet_94 rfl ?_
        refine g_iconst cx (pc2 := 98) dX10_meet_97 rfl ?_
        exact g_zret cx (Or.inr rfl) qx dX10_meet_98 ⟨rb_t (by first | assumption | omega), by first | (rw [if_neg (by omega)]; done) | (rw [if_pos (by omega)]; rfl)⟩
      · skip
        refine g_iconst cx (pc2 := 40) dX10_meet_39 rfl ?_
        exact g_zret cx (Or.inl rfl) qx dX10_meet_40 ⟨rb_f (by first | assumption | omega), by first | (rw [if_neg (by omega)]; done) | (rw [if_pos (by omega)]; rfl)⟩
set_option maxHeartbeats 4000000 in
set_option maxRecDepth 100000 in
theorem c_X10_metBits {n : Nat} (hn : NN n) {M : Mm} (hw : WW M) : CT yX10_metBits cX10_metBits 3 (some .int) ({ frames := 2, cells := 0, slots := 0, locals := 42 }) n [.ref 54] M (rI (((mtF M (M 54 3).toNat : Nat) : Int)) M) := by
  refine CT.of (lv0 := [(0, .ref 54)]) (by decide +kernel) hn (fun _ => rfl) (fun _ => Nat.le_of_ble_eq_true rfl) (fun X cx cs qx => ?_)
  have cx : Cx X cX10_metBits RX10 ({ frames := 2, cells := 0, slots := 0, locals := 42 }) 3 n := cx
  have h3 := hw.1
  refine g_iconst cx (pc2 := 1) dX10_metBits_0 rfl ?_
  refine g_istore_n cx (pc2 := 2) (lv2 := [(0, .ref 54), (1, .int (iI 0))]) rfl (Nat.le_of_ble_eq_true rfl) dX10_metBits_1 rfl ?_
  refine g_iconst cx (pc2 := 3) dX10_metBits_2 rfl ?_
  refine g_istore_n cx (pc2 := 4) (lv2 := [(0, .ref 54), (1, .int (iI 0)), (2, .int (iI 0))]) rfl (Nat.le_of_ble_eq_true rfl) dX10_metBits_3 rfl ?_
  have L4 : ∀ (fu : Nat) (i : Int) (s : Int), (0 ≤ i ∧ i ≤ M 54 3) → (s = ((mtF M i.toNat : Nat) : Int)) → (M 54 3 - i).toNat ≤ fu → G X 4 [(0, .ref 54), (1, .int (iI s)), (2, .int (iI i))] [] M := by
    intro fu
    induction fu using Nat.strongRecOn with
    | _ fu ih4 =>
      intro i s hi hs hk4
      have h4 := hw.2.2.2 i.toNat
      refine g_iload_n cx (pc2 := 5) 2 rfl dX10_metBits_4 rfl ?_
      refine g_aload_n cx (pc2 := 6) 0 rfl dX10_metBits_5 rfl ?_
      refine g_get cx (pc2 := 9) (ci := 10) (k0 := 54) (j := 3) (v := .int (iI (M 54 3))) rfl iwX10 rfl (lt_lit hn (Nat.le_of_ble_eq_true rfl)) rfl (Nat.le_of_ble_eq_true rfl) kf_X10_18 rfl rfl dX10_metBits_6 rfl ?_
      refine g_icmp_ge cx (pc2 := 12) (tgt := 29) ⟨(by first | assumption | omega), (by first | assumption | omega)⟩ dX10_metBits_9 (by decide) rfl (fun h_1 => ?_) (fun h_1 => ?_)
      · skip
        refine g_iload_n cx (pc2 := 30) 1 rfl dX10_metBits_29 rfl ?_
        exact g_iret cx qx dX10_metBits_30 ⟨congrArg (fun q => some (Value.int (iI q))) (by rw [hs, show i = M 54 3 by omega]), by rfl⟩
      · skip
        refine g_iload_n cx (pc2 := 13) 1 rfl dX10_metBits_12 rfl ?_
        refine g_aload_n cx (pc2 := 14) 0 rfl dX10_metBits_13 rfl ?_
        refine g_iload_n cx (pc2 := 15) 2 rfl dX10_metBits_14 rfl ?_
        refine g_callV cx (pc2 := 18) (st := [.int (iI s)]) (As := [.int (iI i)]) (k0 := 54) (ci := 10) (c_X10_needOf (M := M) hn (by first | assumption | omega) i (by first | assumption | omega)) wM_X10_needOf wV_X10_needOf kl_X10_49 rfl (lt_lit hn (Nat.le_of_ble_eq_true rfl)) rfl ⟨rfl, rfl, Nat.le_of_ble_eq_true rfl, Nat.le_of_ble_eq_true rfl⟩ (Nat.le_of_ble_eq_true rfl) cs rfl rfl dX10_metBits_15 rfl ?_
        rintro _ _ ⟨rfl, rfl⟩
        refine g_rwi (y := iI (M 55 i.toNat)) (congrArg iI (by rw [if_pos (by omega)])) ?_
        refine g_callSN cx (pc2 := 21) (st := [.int (iI s)]) (As := [.int (iI (M 55 i.toNat))]) (c_X11_bit (M := M) hn (M 55 i.toNat) (by first | assumption | omega)) wM_X11_bit wS_X11_bit kl_X10_52 ⟨rfl, rfl, Nat.le_of_ble_eq_true rfl, Nat.le_of_ble_eq_true rfl⟩ (Nat.le_of_ble_eq_true rfl) cs rfl rfl dX10_metBits_18 rfl ?_
        rintro _ _ ⟨rfl, rfl⟩
        refine g_ior cx (pc2 := 22) dX10_metBits_21 rfl ?_
        refine g_rwi (y := iI ((s.toNat ||| bitN (M 55 i.toNat) : Nat) : Int)) (or_iI (by omega) (by omega)) ?_
        refine g_istore_n cx (pc2 := 23) (lv2 := [(0, .ref 54), (1, .int (iI ((s.toNat ||| bitN (M 55 i.toNat) : Nat) : Int))), (2, .int (iI i))]) rfl (Nat.le_of_ble_eq_true rfl) dX10_metBits_22 rfl ?_
        refine g_iinc cx (pc2 := 26) 2 rfl (lv2 := [(0, .ref 54), (1, .int (iI ((s.toNat ||| bitN (M 55 i.toNat) : Nat) : Int))), (2, .int (iI (i + 1)))]) rfl (Nat.le_of_ble_eq_true rfl) dX10_metBits_23 rfl ?_
        refine g_goto cx (tgt := 4) dX10_metBits_26 (by decide) ?_
        exact ih4 ((M 54 3 - (i + 1)).toNat) (by omega) (i + 1) ((s.toNat ||| bitN (M 55 i.toNat) : Nat) : Int) (by first | assumption | omega) (by rw [hs, Int.toNat_natCast, show (i + 1).toNat = i.toNat + 1 by omega, mtF]) (Nat.le_refl _)
  exact L4 _ 0 0 (by first | assumption | omega) (by rfl) (Nat.le_refl _)
set_option maxHeartbeats 4000000 in
set_option maxRecDepth 100000 in
theorem c_X10_worth {n : Nat} (hn : NN n) {M : Mm} (hJ : JW M) (hw : WW M) : CT yX10_worth cX10_worth 1 (some .int) ({ frames := 3, cells := 0, slots := 0, locals := 64 }) n [.ref 54] M (rI (wsM M ((mtF M (M 54 3).toNat : Nat) : Int)) M) := by
  refine CT.of (lv0 := [(0, .ref 54)]) (by decide +kernel) hn (fun _ => rfl) (fun _ => Nat.le_of_ble_eq_true rfl) (fun X cx cs qx => ?_)
  have cx : Cx X cX10_worth RX10 ({ frames := 3, cells := 0, slots := 0, locals := 64 }) 1 n := cx
  have hb := mtF_b M (M 54 3).toNat
  refine g_aload_n cx (pc2 := 1) 0 rfl dX10_worth_0 rfl ?_
  refine g_get cx (pc2 := 4) (ci := 10) (k0 := 54) (j := 0) (v := .ref 48) rfl iwX10 rfl (lt_lit hn (Nat.le_of_ble_eq_true rfl)) rfl (Nat.le_of_ble_eq_true rfl) kf_X10_28 rfl rfl dX10_worth_1 rfl ?_
  refine g_aload_n cx (pc2 := 5) 0 rfl dX10_worth_4 rfl ?_
  refine g_callV cx (pc2 := 8) (st := [.ref 48]) (As := []) (k0 := 54) (ci := 10) (c_X10_metBits (M := M) hn (by first | assumption | omega)) wM_X10_metBits wV_X10_metBits kl_X10_55 rfl (lt_lit hn (Nat.le_of_ble_eq_true rfl)) rfl ⟨rfl, rfl, Nat.le_of_ble_eq_true rfl, Nat.le_of_ble_eq_true rfl⟩ (Nat.le_of_ble_eq_true rfl) cs rfl rfl dX10_worth_5 rfl ?_
  rintro _ _ ⟨rfl, rfl⟩
  refine g_callV cx (pc2 := 11) (st := []) (As := [.int (iI ((mtF M (M 54 3).toNat : Nat) : Int))]) (k0 := 48) (ci := 1) (c_X1_worthOf (M := M) hn (by first | assumption | omega) ((mtF M (M 54 3).toNat : Nat) : Int) (by first | assumption | omega)) wM_X1_worthOf wV_X1_worthOf kl_X10_59 rfl (lt_lit hn (Nat.le_of_ble_eq_true rfl)) rfl ⟨rfl, rfl, Nat.le_of_ble_eq_true rfl, Nat.le_of_ble_eq_true rfl⟩ (Nat.le_of_ble_eq_true rfl) cs rfl rfl dX10_worth_8 rfl ?_
  rintro _ _ ⟨rfl, rfl⟩
  exact g_iret cx qx dX10_worth_11 ⟨congrArg (fun q => some (Value.int (iI q))) (by first | rfl | omega), by rfl⟩
set_option maxHeartbeats 4000000 in
set_option maxRecDepth 100000 in
theorem c_X10_watchesWorn {n : Nat} (hn : NN n) {M : Mm} (hJ : JW M) (hw : WW M) (hS : WS M) : CT yX10_watchesWorn cX10_watchesWorn 4 (some .int) ({ frames := 2, cells := 0, slots := 0, locals := 42 }) n [.ref 54] M (rI (((wwF M (M 54 3).toNat : Nat) : Int)) M) := by
  refine CT.of (lv0 := [(0, .ref 54)]) (by decide +kernel) hn (fun _ => rfl) (fun _ => Nat.le_of_ble_eq_true rfl) (fun X cx cs qx => ?_)
  have cx : Cx X cX10_watchesWorn RX10 ({ frames := 2, cells := 0, slots := 0, locals := 42 }) 4 n := cx
  have h3 := hw.1
  refine g_iconst cx (pc2 := 1) dX10_watchesWorn_0 rfl ?_
  refine g_istore_n cx (pc2 := 2) (lv2 := [(0, .ref 54), (1, .int (iI 0))]) rfl (Nat.le_of_ble_eq_true rfl) dX10_watchesWorn_1 rfl ?_
  refine g_iconst cx (pc2 := 3) dX10_watchesWorn_2 rfl ?_
  refine g_istore_n cx (pc2 := 4) (lv2 := [(0, .ref 54), (1, .int (iI 0)), (2, .int (iI 0))]) rfl (Nat.le_of_ble_eq_true rfl) dX10_watchesWorn_3 rfl ?_
  have L4 : ∀ (fu : Nat) (i : Int) (s : Int), (0 ≤ i ∧ i ≤ M 54 3) → (s = ((wwF M i.toNat : Nat) : Int)) → (M 54 3 - i).toNat ≤ fu → G X 4 [(0, .ref 54), (1, .int (iI s)), (2, .int (iI i))] [] M := by
    intro fu
    induction fu using Nat.strongRecOn with
    | _ fu ih4 =>
      intro i s hi hs hk4
      have h4 := hw.2.2.2 i.toNat
      have hlb := lnJ_b hJ (M 55 i.toNat)
      refine g_iload_n cx (pc2 := 5) 2 rfl dX10_watchesWorn_4 rfl ?_
      refine g_aload_n cx (pc2 := 6) 0 rfl dX10_watchesWorn_5 rfl ?_
      refine g_get cx (pc2 := 9) (ci := 10) (k0 := 54) (j := 3) (v := .int (iI (M 54 3))) rfl iwX10 rfl (lt_lit hn (Nat.le_of_ble_eq_true rfl)) rfl (Nat.le_of_ble_eq_true rfl) kf_X10_18 rfl rfl dX10_watchesWorn_6 rfl ?_
      refine g_icmp_ge cx (pc2 := 12) (tgt := 45) ⟨(by first | assumption | omega), (by first | assumption | omega)⟩ dX10_watchesWorn_9 (by decide) rfl (fun h_1 => ?_) (fun h_1 => ?_)
      · skip
        refine g_iload_n cx (pc2 := 46) 1 rfl dX10_watchesWorn_45 rfl ?_
        exact g_iret cx qx dX10_watchesWorn_46 ⟨congrArg (fun q => some (Value.int (iI q))) (by rw [hs, show i = M 54 3 by omega]), by rfl⟩
      · skip
        refine g_aload_n cx (pc2 := 13) 0 rfl dX10_watchesWorn_12 rfl ?_
        refine g_get cx (pc2 := 16) (ci := 10) (k0 := 54) (j := 0) (v := .ref 48) rfl iwX10 rfl (lt_lit hn (Nat.le_of_ble_eq_true rfl)) rfl (Nat.le_of_ble_eq_true rfl) kf_X10_28 rfl rfl dX10_watchesWorn_13 rfl ?_
        refine g_aload_n cx (pc2 := 17) 0 rfl dX10_watchesWorn_16 rfl ?_
        refine g_iload_n cx (pc2 := 18) 2 rfl dX10_watchesWorn_17 rfl ?_
        refine g_callV cx (pc2 := 21) (st := [.ref 48]) (As := [.int (iI i)]) (k0 := 54) (ci := 10) (c_X10_needOf (M := M) hn (by first | assumption | omega) i (by first | assumption | omega)) wM_X10_needOf wV_X10_needOf kl_X10_49 rfl (lt_lit hn (Nat.le_of_ble_eq_true rfl)) rfl ⟨rfl, rfl, Nat.le_of_ble_eq_true rfl, Nat.le_of_ble_eq_true rfl⟩ (Nat.le_of_ble_eq_true rfl) cs rfl rfl dX10_watchesWorn_18 rfl ?_
        rintro _ _ ⟨rfl, rfl⟩
        refine g_rwi (y := iI (M 55 i.toNat)) (congrArg iI (by rw [if_pos (by omega)])) ?_
        refine g_callV cx (pc2 := 24) (st := []) (As := [.int (iI (M 55 i.toNat))]) (k0 := 48) (ci := 1) (c_X1_lengthOf (M := M) hn (by first | assumption | omega) (M 55 i.toNat) (by first | assumption | omega)) wM_X1_lengthOf wV_X1_lengthOf kl_X10_38 rfl (lt_lit hn (Nat.le_of_ble_eq_true rfl)) rfl ⟨rfl, rfl, Nat.le_of_ble_eq_true rfl, Nat.le_of_ble_eq_true rfl⟩ (Nat.le_of_ble_eq_true rfl) cs rfl rfl dX10_watchesWorn_21 rfl ?_
        rintro _ _ ⟨rfl, rfl⟩
        refine g_istore_n cx (pc2 := 25) (lv2 := [(0, .ref 54), (1, .int (iI s)), (2, .int (iI i)), (3, .int (iI (lnJ M (M 55 i.toNat))))]) rfl (Nat.le_of_ble_eq_true rfl) dX10_watchesWorn_24 rfl ?_
        refine g_iload_n cx (pc2 := 26) 1 rfl dX10_watchesWorn_25 rfl ?_
        refine g_iconst cx (pc2 := 27) dX10_watchesWorn_26 rfl ?_
        refine g_iload_n cx (pc2 := 28) 3 rfl dX10_watchesWorn_27 rfl ?_
        refine g_ishl cx (pc2 := 29) dX10_watchesWorn_28 rfl ?_
        refine g_rwi (y := iI ((2 ^ (lnJ M (M 55 i.toNat)).toNat : Nat) : Int)) (sh1 (by omega) (by omega)) ?_
        refine g_iconst cx (pc2 := 30) dX10_watchesWorn_29 rfl ?_
        refine g_isub cx (pc2 := 31) dX10_watchesWorn_30 rfl ?_
        refine g_aload_n cx (pc2 := 32) 0 rfl dX10_watchesWorn_31 rfl ?_
        refine g_iload_n cx (pc2 := 33) 2 rfl dX10_watchesWorn_32 rfl ?_
        refine g_callV cx (pc2 := 36) (st := [.int (iI (((2 ^ (lnJ M (M 55 i.toNat)).toNat : Nat) : Int) - 1)), .int (iI s)]) (As := [.int (iI i)]) (k0 := 54) (ci := 10) (c_X10_beginningOf (M := M) hn (by first | assumption | omega) i (by first | assumption | omega)) wM_X10_beginningOf wV_X10_beginningOf kl_X10_62 rfl (lt_lit hn (Nat.le_of_ble_eq_true rfl)) rfl ⟨rfl, rfl, Nat.le_of_ble_eq_true rfl, Nat.le_of_ble_eq_true rfl⟩ (Nat.le_of_ble_eq_true rfl) cs rfl rfl dX10_watchesWorn_33 rfl ?_
        rintro _ _ ⟨rfl, rfl⟩
        refine g_rwi (y := iI (M 56 i.toNat)) (congrArg iI (by rw [if_pos (by omega)])) ?_
        refine g_ishl cx (pc2 := 37) dX10_watchesWorn_36 rfl ?_
        refine g_rwi (y := iI (((2 ^ (lnJ M (M 55 i.toNat)).toNat - 1) * 2 ^ (M 56 i.toNat).toNat : Nat) : Int)) (by have q := wwB hJ hw hS (k := i.toNat) (by omega); have e : ((2 ^ (lnJ M (M 55 i.toNat)).toNat : Nat) : Int) - 1 = ((2 ^ (lnJ M (M 55 i.toNat)).toNat - 1 : Nat) : Int) := (by have := Nat.two_pow_pos (lnJ M (M 55 i.toNat)).toNat; omega); rw [e]; exact shl_iI (by omega) (by omega) (by omega) (by rw [Int.toNat_natCast]; omega)) ?_
        refine g_ior cx (pc2 := 38) dX10_watchesWorn_37 rfl ?_
        refine g_rwi (y := iI ((s.toNat ||| ((2 ^ (lnJ M (M 55 i.toNat)).toNat - 1) * 2 ^ (M 56 i.toNat).toNat) : Nat) : Int)) (or_iI (by omega) (by omega)) ?_
        refine g_istore_n cx (pc2 := 39) (lv2 := [(0, .ref 54), (1, .int (iI ((s.toNat ||| ((2 ^ (lnJ M (M 55 i.toNat)).toNat - 1) * 2 ^ (M 56 i.toNat).toNat) : Nat) : Int))), (2, .int (iI i)), (3, .int (iI (lnJ M (M 55 i.toNat))))]) rfl (Nat.le_of_ble_eq_true rfl) dX10_watchesWorn_38 rfl ?_
        refine g_iinc cx (pc2 := 42) 2 rfl (lv2 := [(0, .ref 54), (1, .int (iI ((s.toNat ||| ((2 ^ (lnJ M (M 55 i.toNat)).toNat - 1) * 2 ^ (M 56 i.toNat).toNat) : Nat) : Int))), (2, .int (iI (i + 1))), (3, .int (iI (lnJ M (M 55 i.toNat))))]) rfl (Nat.le_of_ble_eq_true rfl) dX10_watchesWorn_39 rfl ?_
        refine g_goto cx (tgt := 4) dX10_watchesWorn_42 (by decide) ?_
        refine g_sub (lv2 := [(0, .ref 54), (1, .int (iI ((s.toNat ||| ((2 ^ (lnJ M (M 55 i.toNat)).toNat - 1) * 2 ^ (M 56 i.toNat).toNat) : Nat) : Int))), (2, .int (iI (i + 1)))]) [0, 1, 2] rfl ?_
        exact ih4 ((M 54 3 - (i + 1)).toNat) (by omega) (i + 1) ((s.toNat ||| ((2 ^ (lnJ M (M 55 i.toNat)).toNat - 1) * 2 ^ (M 56 i.toNat).toNat) : Nat) : Int) (by first | assumption | omega) (by rw [hs, Int.toNat_natCast, show (i + 1).toNat = i.toNat + 1 by omega, wwF]) (Nat.le_refl _)
  exact L4 _ 0 0 (by first | assumption | omega) (by rfl) (Nat.le_refl _)
