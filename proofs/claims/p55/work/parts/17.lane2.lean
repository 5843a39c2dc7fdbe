theorem tdm {a b : Int} (ha : 0 ≤ a) (hb : 0 < b) : a - a.tdiv b * b = a % b := by
  rw [Int.tdiv_eq_ediv_of_nonneg ha, Int.emod_def, Int.mul_comm]
/-- in how many ways just these lots are called -/
def wyF (M : Mm) (s : Int) : Nat → Int
  | 0 => 1
  | k + 1 => if isAK (M (27 + k) 0) 2 then wyF M s k * (if inS (k : Int) s then M (27 + k) 6 else 12 - M (27 + k) 6) else wyF M s k
def waF (M : Mm) : Nat → Int
  | 0 => 1
  | k + 1 => if isAK (M (27 + k) 0) 2 then waF M k * 12 else waF M k
/-- the numbers that come from a seed -/
def nbF (s : Int) : Nat → Int
  | 0 => s
  | k + 1 => nbF s k * 48271 % 2147483647
theorem nbF_b {s : Int} (hs : 0 ≤ s ∧ s < 2147483648) : ∀ k, 0 ≤ nbF s k ∧ nbF s k < 2147483648
  | 0 => hs
  | k + 1 => by rw [nbF]; omega
def clB (M : Mm) (s : Int) (i : Nat) : Bool := decide (isAK (M (27 + i) 0) 2 ∧ nbF s (i + 1) % 12 < M (27 + i) 6)
set_option maxHeartbeats 4000000 in
set_option maxRecDepth 100000 in
theorem c_X2_clear {n : Nat} (hn : NN n) {M : Mm} {o : Nat} (ho : isLaneO o) : CT yX2_clear cX2_clear 1 none ({ frames := 0, cells := 0, slots := 0, locals := 0 }) n [.ref o] M (rV (stM (stM (stM M o 3 0) o 4 0) o 5 0)) := by
  refine CT.of (lv0 := [(0, .ref o)]) (by decide +kernel) hn (fun _ => rfl) (fun _ => Nat.le_of_ble_eq_true rfl) (fun X cx cs qx => ?_)
  have cx : Cx X cX2_clear RX2 ({ frames := 0, cells := 0, slots := 0, locals := 0 }) 1 n := cx
  refine g_aload_n cx (pc2 := 1) 0 rfl dX2_clear_0 rfl ?_
  refine g_iconst cx (pc2 := 2) dX2_clear_1 rfl ?_
  refine g_puti cx (pc2 := 5) (ci := 2) (k0 := o) (j := 3) rfl iwX2 (sh_lane ho) (by omega) rfl (Nat.le_of_ble_eq_true rfl) kf_X2_26 rfl tyX2_ok nmX2 rfl rfl dX2_clear_2 rfl ?_
  refine g_aload_n cx (pc2 := 6) 0 rfl dX2_clear_5 rfl ?_
  refine g_iconst cx (pc2 := 7) dX2_clear_6 rfl ?_
  refine g_puti cx (pc2 := 10) (ci := 2) (k0 := o) (j := 4) rfl iwX2 (sh_lane ho) (by omega) rfl (Nat.le_of_ble_eq_true rfl) kf_X2_30 rfl tyX2_ok nmX2 rfl rfl dX2_clear_7 rfl ?_
  refine g_aload_n cx (pc2 := 11) 0 rfl dX2_clear_10 rfl ?_
  refine g_iconst cx (pc2 := 12) dX2_clear_11 rfl ?_
  refine g_puti cx (pc2 := 15) (ci := 2) (k0 := o) (j := 5) rfl iwX2 (sh_lane ho) (by omega) rfl (Nat.le_of_ble_eq_true rfl) kf_X2_33 rfl tyX2_ok nmX2 rfl rfl dX2_clear_12 rfl ?_
  exact g_vret cx qx dX2_clear_15 ⟨rfl, by rfl⟩
set_option maxHeartbeats 4000000 in
set_option maxRecDepth 100000 in
theorem c_X2_addHouse {n : Nat} (hn : NN n) {M : Mm} {o : Nat} (ho : isLaneO o) (hl : LW M o) (v : Int) : CT yX2_addHouse cX2_addHouse 2 none ({ frames := 0, cells := 0, slots := 0, locals := 0 }) n [.ref o, .int (iI v)] M (rV (if M o 3 < 8 then stM (stM M (o + 1) (M o 3).toNat v) o 3 (M o 3 + 1) else M)) := by
  refine CT.of (lv0 := [(0, .ref o), (1, .int (iI v))]) (by decide +kernel) hn (fun _ => rfl) (fun _ => Nat.le_of_ble_eq_true rfl) (fun X cx cs qx => ?_)
  have cx : Cx X cX2_addHouse RX2 ({ frames := 0, cells := 0, slots := 0, locals := 0 }) 2 n := cx
  refine g_aload_n cx (pc2 := 1) 0 rfl dX2_addHouse_0 rfl ?_
  refine g_get cx (pc2 := 4) (ci := 2) (k0 := o) (j := 3) (v := .int (iI (M o 3))) rfl iwX2 (sh_lane ho) (by omega) rfl (Nat.le_of_ble_eq_true rfl) kf_X2_26 rfl rfl dX2_addHouse_1 rfl ?_
  refine g_aload_n cx (pc2 := 5) 0 rfl dX2_addHouse_4 rfl ?_
  refine g_get cx (pc2 := 8) (ci := 2) (k0 := o) (j := 0) (v := .ref (o + 1)) rfl iwX2 (sh_lane ho) (by omega) rfl (Nat.le_of_ble_eq_true rfl) kf_X2_9 rfl rfl dX2_addHouse_5 rfl ?_
  refine g_alen cx (pc2 := 9) (k0 := (o + 1)) (v := 8) (sh_places ho) (by decide) (by omega) rfl dX2_addHouse_8 rfl ?_
  refine g_icmp_ge cx (pc2 := 12) (tgt := 32) ⟨(by first | assumption | omega), ⟨by decide, by decide⟩⟩ dX2_addHouse_9 (by decide) rfl (fun h_1 => ?_) (fun h_1 => ?_)
  · skip
    exact g_vret cx qx dX2_addHouse_32 ⟨rfl, by first | (rw [if_neg (by omega)]; done) | (rw [if_pos (by omega)]; done)⟩
  · skip
    refine g_aload_n cx (pc2 := 13) 0 rfl dX2_addHouse_12 rfl ?_
    refine g_get cx (pc2 := 16) (ci := 2) (k0 := o) (j := 0) (v := .ref (o + 1)) rfl iwX2 (sh_lane ho) (by omega) rfl (Nat.le_of_ble_eq_true rfl) kf_X2_9 rfl rfl dX2_addHouse_13 rfl ?_
    refine g_aload_n cx (pc2 := 17) 0 rfl dX2_addHouse_16 rfl ?_
    refine g_get cx (pc2 := 20) (ci := 2) (k0 := o) (j := 3) (v := .int (iI (M o 3))) rfl iwX2 (sh_lane ho) (by omega) rfl (Nat.le_of_ble_eq_true rfl) kf_X2_26 rfl rfl dX2_addHouse_17 rfl ?_
    refine g_iload_n cx (pc2 := 21) 1 rfl dX2_addHouse_20 rfl ?_
    refine g_iast cx (pc2 := 22) (k0 := (o + 1)) (sh_places ho) (by omega) (by first | assumption | omega) (by first | assumption | omega) (Nat.le_of_ble_eq_true rfl) dX2_addHouse_21 rfl ?_
    refine g_aload_n cx (pc2 := 23) 0 rfl dX2_addHouse_22 rfl ?_
    refine g_dup cx (pc2 := 24) rfl dX2_addHouse_23 rfl ?_
    refine g_get cx (pc2 := 27) (ci := 2) (k0 := o) (j := 3) (v := .int (iI ((stM M (o + 1) ((M o 3)).toNat v) o 3))) rfl iwX2 (sh_lane ho) (by omega) rfl (Nat.le_of_ble_eq_true rfl) kf_X2_26 rfl rfl dX2_addHouse_24 rfl ?_
    refine g_rwi (y := iI (M o 3)) (congrArg iI (stM_ne _ _ (Or.inl (by omega)))) ?_
    refine g_iconst cx (pc2 := 28) dX2_addHouse_27 rfl ?_
    refine g_iadd cx (pc2 := 29) dX2_addHouse_28 rfl ?_
    refine g_puti cx (pc2 := 32) (ci := 2) (k0 := o) (j := 3) rfl iwX2 (sh_lane ho) (by omega) rfl (Nat.le_of_ble_eq_true rfl) kf_X2_26 rfl tyX2_ok nmX2 rfl rfl dX2_addHouse_29 rfl ?_
    exact g_vret cx qx dX2_addHouse_32 ⟨rfl, by first | (rw [if_neg (by omega)]; done) | (rw [if_pos (by omega)]; done)⟩
set_option maxHeartbeats 4000000 in
set_option maxRecDepth 100000 in
theorem c_X2_addNeed {n : Nat} (hn : NN n) {M : Mm} {o : Nat} (ho : isLaneO o) (hl : LW M o) (h8 : M o 4 < 8) : CT yX2_addNeed cX2_addNeed 1 (some (.object "CoatBetween$Need")) ({ frames := 2, cells := 0, slots := 0, locals := 43 }) n [.ref o] M (rA (.ref (o + 4 + (M o 4).toNat)) (stM M o 4 (M o 4 + 1))) := by
  refine CT.of (lv0 := [(0, .ref o)]) (by decide +kernel) hn (fun _ => rfl) (fun _ => Nat.le_of_ble_eq_true rfl) (fun X cx cs qx => ?_)
  have cx : Cx X cX2_addNeed RX2 ({ frames := 2, cells := 0, slots := 0, locals := 43 }) 1 n := cx
  refine g_aload_n cx (pc2 := 1) 0 rfl dX2_addNeed_0 rfl ?_
  refine g_get cx (pc2 := 4) (ci := 2) (k0 := o) (j := 4) (v := .int (iI (M o 4))) rfl iwX2 (sh_lane ho) (by omega) rfl (Nat.le_of_ble_eq_true rfl) kf_X2_30 rfl rfl dX2_addNeed_1 rfl ?_
  refine g_aload_n cx (pc2 := 5) 0 rfl dX2_addNeed_4 rfl ?_
  refine g_get cx (pc2 := 8) (ci := 2) (k0 := o) (j := 1) (v := .ref (o + 2)) rfl iwX2 (sh_lane ho) (by omega) rfl (Nat.le_of_ble_eq_true rfl) kf_X2_17 rfl rfl dX2_addNeed_5 rfl ?_
  refine g_alen cx (pc2 := 9) (k0 := (o + 2)) (v := 8) (sh_list ho) (by decide) (by omega) rfl dX2_addNeed_8 rfl ?_
  refine g_icmp_lt cx (pc2 := 12) (tgt := 17) ⟨(by first | assumption | omega), ⟨by decide, by decide⟩⟩ dX2_addNeed_9 (by decide) rfl (fun h_1 => ?_) (fun h_1 => ?_)
  · skip
    refine g_aload_n cx (pc2 := 18) 0 rfl dX2_addNeed_17 rfl ?_
    refine g_dup cx (pc2 := 19) rfl dX2_addNeed_18 rfl ?_
    refine g_get cx (pc2 := 22) (ci := 2) (k0 := o) (j := 4) (v := .int (iI (M o 4))) rfl iwX2 (sh_lane ho) (by omega) rfl (Nat.le_of_ble_eq_true rfl) kf_X2_30 rfl rfl dX2_addNeed_19 rfl ?_
    refine g_iconst cx (pc2 := 23) dX2_addNeed_22 rfl ?_
    refine g_iadd cx (pc2 := 24) dX2_addNeed_23 rfl ?_
    refine g_puti cx (pc2 := 27) (ci := 2) (k0 := o) (j := 4) rfl iwX2 (sh_lane ho) (by omega) rfl (Nat.le_of_ble_eq_true rfl) kf_X2_30 rfl tyX2_ok nmX2 rfl rfl dX2_addNeed_24 rfl ?_
    refine g_aload_n cx (pc2 := 28) 0 rfl dX2_addNeed_27 rfl ?_
    refine g_aload_n cx (pc2 := 29) 0 rfl dX2_addNeed_28 rfl ?_
    refine g_get cx (pc2 := 32) (ci := 2) (k0 := o) (j := 4) (v := .int (iI ((M o 4) + 1))) rfl iwX2 (sh_lane ho) (by omega) rfl (Nat.le_of_ble_eq_true rfl) kf_X2_30 rfl (congrArg (fun q => Value.int (iI q)) (by simp [stM])) dX2_addNeed_29 rfl ?_
    refine g_iconst cx (pc2 := 33) dX2_addNeed_32 rfl ?_
    refine g_isub cx (pc2 := 34) dX2_addNeed_33 rfl ?_
    refine g_callV cx (pc2 := 37) (st := []) (As := [.int (iI (((M o 4) + 1) - 1))]) (k0 := o) (ci := 2) (c_X2_needOf (M := (stM M o 4 ((M o 4) + 1))) hn (by first | assumption | omega) (by unfold LW; rw [stM_ne _ _ (Or.inr (by decide)), stM_at]; omega) (((M o 4) + 1) - 1) (by first | assumption | omega)) wM_X2_needOf wV_X2_needOf kl_X2_36 (sh_lane ho) (by omega) rfl ⟨rfl, rfl, Nat.le_of_ble_eq_true rfl, Nat.le_of_ble_eq_true rfl⟩ (Nat.le_of_ble_eq_true rfl) cs rfl rfl dX2_addNeed_34 rfl ?_
    rintro _ _ ⟨rfl, rfl⟩
    exact g_aret cx (Or.inr ⟨_, rfl⟩) qx dX2_addNeed_37 ⟨congrArg (fun q => some (Value.ref q)) (by rw [ndO_in (by rw [stM_at]; omega), show M o 4 + 1 - 1 = M o 4 by omega]), by rfl⟩
  · skip
    omega
set_option maxHeartbeats 4000000 in
set_option maxRecDepth 100000 in
theorem c_X2_waysToCall {n : Nat} (hn : NN n) {M : Mm} (hl : LW M 23) (hnd : NDA M) (s : Int) (hs : 0 ≤ s ∧ s ≤ 255) : CT yX2_waysToCall cX2_waysToCall 6 (some .long) ({ frames := 2, cells := 0, slots := 0, locals := 43 }) n [.ref 23, .int (iI s)] M (rL (wyF M s (M 23 4).toNat) M) := by
  refine CT.of (lv0 := [(0, .ref 23), (1, .int (iI s))]) (by decide +kernel) hn (fun _ => rfl) (fun _ => Nat.le_of_ble_eq_true rfl) (fun X cx cs qx => ?_)
  have cx : Cx X cX2_waysToCall RX2 ({ frames := 2, cells := 0, slots := 0, locals := 43 }) 6 n := cx
  refine g_lconst cx (pc2 := 1) 1 rfl dX2_waysToCall_0 rfl ?_
  refine g_lstore_n cx (pc2 := 2) (lv2 := [(0, .ref 23), (1, .int (iI s)), (2, .long (lI 1))]) rfl (Nat.le_of_ble_eq_true rfl) dX2_waysToCall_1 rfl ?_
  refine g_iconst cx (pc2 := 3) dX2_waysToCall_2 rfl ?_
  refine g_istore cx (pc2 := 5) (lv2 := [(0, .ref 23), (1, .int (iI s)), (2, .long (lI 1)), (4, .int (iI 0))]) rfl (Nat.le_of_ble_eq_true rfl) dX2_waysToCall_3 rfl ?_
  have L5 : ∀ (fu : Nat) (i : Int) (w : Int), (0 ≤ i ∧ i ≤ M 23 4) → (w = wyF M s i.toNat) → (M 23 4 - i).toNat ≤ fu → G X 5 [(0, .ref 23), (1, .int (iI s)), (2, .long (lI w)), (4, .int (iI i))] [] M := by
    intro fu
    induction fu using Nat.strongRecOn with
    | _ fu ih5 =>
      intro i w hi hw hk5
      have hst : wyF M s (i + 1).toNat = if isAK (M (27 + i.toNat) 0) 2 then wyF M s i.toNat * (if inS i s then M (27 + i.toNat) 6 else 12 - M (27 + i.toNat) 6) else wyF M s i.toNat := by rw [show (i + 1).toNat = i.toNat + 1 by omega, wyF, Int.toNat_of_nonneg hi.1]
      refine g_iload cx (pc2 := 7) 3 rfl dX2_waysToCall_5 rfl ?_
      refine g_aload_n cx (pc2 := 8) 0 rfl dX2_waysToCall_7 rfl ?_
      refine g_get cx (pc2 := 11) (ci := 2) (k0 := 23) (j := 4) (v := .int (iI (M 23 4))) rfl iwX2 rfl (lt_lit hn (Nat.le_of_ble_eq_true rfl)) rfl (Nat.le_of_ble_eq_true rfl) kf_X2_30 rfl rfl dX2_waysToCall_8 rfl ?_
      refine g_icmp_ge cx (pc2 := 14) (tgt := 67) ⟨(by first | assumption | omega), (by first | assumption | omega)⟩ dX2_waysToCall_11 (by decide) rfl (fun h_1 => ?_) (fun h_1 => ?_)
      · skip
        refine g_lload_n cx (pc2 := 68) 2 rfl dX2_waysToCall_67 rfl ?_
        exact g_lret cx qx dX2_waysToCall_68 ⟨congrArg (fun q => some (Value.long (lI q))) (by rw [hw, show i = M 23 4 by omega]), by rfl⟩
      · skip
        have L61 : ∀ (w2 : Int), (w2 = wyF M s (i + 1).toNat) → G X 61 [(0, .ref 23), (1, .int (iI s)), (2, .long (lI w2)), (4, .int (iI i))] [] M := by
          intro w2 hw2
          refine g_iinc cx (pc2 := 64) 3 rfl (lv2 := [(0, .ref 23), (1, .int (iI s)), (2, .long (lI w2)), (4, .int (iI (i + 1)))]) rfl (Nat.le_of_ble_eq_true rfl) dX2_waysToCall_61 rfl ?_
          refine g_goto cx (tgt := 5) dX2_waysToCall_64 (by decide) ?_
          exact ih5 ((M 23 4 - (i + 1)).toNat) (by omega) (i + 1) w2 (by first | assumption | omega) (by exact hw2) (Nat.le_refl _)
        refine g_aload_n cx (pc2 := 15) 0 rfl dX2_waysToCall_14 rfl ?_
        refine g_iload cx (pc2 := 17) 3 rfl dX2_waysToCall_15 rfl ?_
        refine g_callV cx (pc2 := 20) (st := []) (As := [.int (iI i)]) (k0 := 23) (ci := 2) (c_X2_needOf (M := M) hn (by first | exact Or.inl rfl | omega) (by first | assumption | omega) i (by first | assumption | omega)) wM_X2_needOf wV_X2_needOf kl_X2_36 rfl (lt_lit hn (Nat.le_of_ble_eq_true rfl)) rfl ⟨rfl, rfl, Nat.le_of_ble_eq_true rfl, Nat.le_of_ble_eq_true rfl⟩ (Nat.le_of_ble_eq_true rfl) cs rfl rfl dX2_waysToCall_17 rfl ?_
        rintro _ _ ⟨rfl, rfl⟩
        refine g_rwa (y := (27 + i.toNat)) ((ndO_in (M := M) (o := 23) (i := i) ⟨by omega, by omega⟩).trans (by omega)) ?_
        refine g_astore cx (pc2 := 22) (lv2 := [(0, .ref 23), (1, .int (iI s)), (2, .long (lI w)), (4, .int (iI i)), (5, .ref (27 + i.toNat))]) rfl (Nat.le_of_ble_eq_true rfl) dX2_waysToCall_20 rfl ?_
        have hndi := hnd.2 i.toNat (by omega)
        refine g_aload cx (pc2 := 24) 4 rfl dX2_waysToCall_22 rfl ?_
        refine g_iconst cx (pc2 := 25) dX2_waysToCall_24 rfl ?_
        refine g_callV cx (pc2 := 28) (st := []) (As := [.int (iI 2)]) (k0 := (27 + i.toNat)) (ci := 4) (c_X4_isA (M := M) hn (by first | exact Or.inl rfl | omega) (by exact hnd.2 i.toNat (by omega)) 2 (by first | assumption | omega)) wM_X4_isA wV_X4_isA kl_X2_65 (sh_need (by omega)) (by omega) rfl ⟨rfl, rfl, Nat.le_of_ble_eq_true rfl, Nat.le_of_ble_eq_true rfl⟩ (Nat.le_of_ble_eq_true rfl) cs rfl rfl dX2_waysToCall_25 rfl ?_
        rintro _ _ ⟨rfl, rfl⟩
        refine g_ifb_eq cx (pc2 := 31) (tgt := 61) dX2_waysToCall_28 (by decide) rfl (fun h_2 => ?_) (fun h_2 => ?_)
        · skip
          refine g_sub (lv2 := [(0, .ref 23), (1, .int (iI s)), (2, .long (lI w)), (4, .int (iI i))]) [0, 1, 2, 3] rfl ?_
          exact L61 w (by rw [hst]; first | (rw [if_neg (by assumption)]; exact hw) | (rw [if_pos (by assumption), hw, hx]; done))
        · skip
          have L59 : ∀ (x : Int), (x = if inS i s then M (27 + i.toNat) 6 else 12 - M (27 + i.toNat) 6) → G X 59 [(0, .ref 23), (1, .int (iI s)), (2, .long (lI w)), (4, .int (iI i))] [.long (lI x), .long (lI w)] M := by
            intro x hx
            refine g_lmul cx (pc2 := 60) dX2_waysToCall_59 rfl ?_
            refine g_lstore_n cx (pc2 := 61) (lv2 := [(0, .ref 23), (1, .int (iI s)), (2, .long (lI (w * x))), (4, .int (iI i))]) rfl (Nat.le_of_ble_eq_true rfl) dX2_waysToCall_60 rfl ?_
            exact L61 (w * x) (by rw [hst]; first | (rw [if_neg (by assumption)]; exact hw) | (rw [if_pos (by assumption), hw, hx]; done))
          refine g_lload_n cx (pc2 := 32) 2 rfl dX2_waysToCall_31 rfl ?_
          refine g_iload cx (pc2 := 34) 3 rfl dX2_waysToCall_32 rfl ?_
          refine g_iload_n cx (pc2 := 35) 1 rfl dX2_waysToCall_34 rfl ?_
          refine g_callSN cx (pc2 := 38) (st := [.long (lI w)]) (As := [.int (iI i), .int (iI s)]) (c_X11_isIn (M := M) hn i s (by first | assumption | omega) (by first | assumption | omega)) wM_X11_isIn wS_X11_isIn kl_X2_68 ⟨rfl, rfl, Nat.le_of_ble_eq_true rfl, Nat.le_of_ble_eq_true rfl⟩ (Nat.le_of_ble_eq_true rfl) cs rfl rfl dX2_waysToCall_35 rfl ?_
          rintro _ _ ⟨rfl, rfl⟩
          refine g_ifb_eq cx (pc2 := 41) (tgt := 50) dX2_waysToCall_38 (by decide) rfl (fun h_3 => ?_) (fun h_3 => ?_)
          · skip
            refine g_bipush cx (pc2 := 52) ⟨by decide, by decide⟩ dX2_waysToCall_50 rfl ?_
            refine g_aload cx (pc2 := 54) 4 rfl dX2_waysToCall_52 rfl ?_
            refine g_getN cx (pc2 := 57) (ci := 4) (k0 := (27 + i.toNat)) (j := 6) (v := .int (iI (M (27 + i.toNat) 6))) rfl iwX4 (sh_need (by omega)) (by omega) rfl (Nat.le_of_ble_eq_true rfl) kf_X2_72 rfl rfl dX2_waysToCall_54 rfl ?_
            refine g_isub cx (pc2 := 58) dX2_waysToCall_57 rfl ?_
            refine g_i2l cx (pc2 := 59) (by first | assumption | omega) dX2_waysToCall_58 rfl ?_
            refine g_sub (lv2 := [(0, .ref 23), (1, .int (iI s)), (2, .long (lI w)), (4, .int (iI i))]) [0, 1, 2, 3] rfl ?_
            exact L59 (12 - (M (27 + i.toNat) 6)) (by first | (rw [if_pos (by assumption)]; done) | (rw [if_neg (by assumption)]; done))
          · skip
            refine g_aload cx (pc2 := 43) 4 rfl dX2_waysToCall_41 rfl ?_
            refine g_getN cx (pc2 := 46) (ci := 4) (k0 := (27 + i.toNat)) (j := 6) (v := .int (iI (M (27 + i.toNat) 6))) rfl iwX4 (sh_need (by omega)) (by omega) rfl (Nat.le_of_ble_eq_true rfl) kf_X2_72 rfl rfl dX2_waysToCall_43 rfl ?_
            refine g_i2l cx (pc2 := 47) (by first | assumption | omega) dX2_waysToCall_46 rfl ?_
            refine g_goto cx (tgt := 59) dX2_waysToCall_47 (by decide) ?_
            refine g_sub (lv2 := [(0, .ref 23), (1, .int (iI s)), (2, .long (lI w)), (4, .int (iI i))]) [0, 1, 2, 3] rfl ?_
            exact L59 (M (27 + i.toNat) 6) (by first | (rw [if_pos (by assumption)]; done) | (rw [if_neg (by assumption)]; done))
  exact L5 _ 0 1 (by first | assumption | omega) (by rfl) (Nat.le_refl _)
set_option maxHeartbeats 4000000 in
set_option maxRecDepth 100000 in
theorem c_X2_waysInAll {n : Nat} (hn : NN n) {M : Mm} (hl : LW M 23) (hnd : NDA M) : CT yX2_waysInAll cX2_waysInAll 4 (some .long) ({ frames := 2, cells := 0, slots := 0, locals := 43 }) n [.ref 23] M (rL (waF M (M 23 4).toNat) M) := by
  refine CT.of (lv0 := [(0, .ref 23)]) (by decide +kernel) hn (fun _ => rfl) (fun _ => Nat.le_of_ble_eq_true rfl) (fun X cx cs qx => ?_)
  have cx : Cx X cX2_waysInAll RX2 ({ frames := 2, cells := 0, slots := 0, locals := 43 }) 4 n := cx
  refine g_lconst cx (pc2 := 1) 1 rfl dX2_waysInAll_0 rfl ?_
  refine g_lstore_n cx (pc2 := 2) (lv2 := [(0, .ref 23), (1, .long (lI 1))]) rfl (Nat.le_of_ble_eq_true rfl) dX2_waysInAll_1 rfl ?_
  refine g_iconst cx (pc2 := 3) dX2_waysInAll_2 rfl ?_
  refine g_istore_n cx (pc2 := 4) (lv2 := [(0, .ref 23), (1, .long (lI 1)), (3, .int (iI 0))]) rfl (Nat.le_of_ble_eq_true rfl) dX2_waysInAll_3 rfl ?_
  have L4 : ∀ (fu : Nat) (i : Int) (w : Int), (0 ≤ i ∧ i ≤ M 23 4) → (w = waF M i.toNat) → (M 23 4 - i).toNat ≤ fu → G X 4 [(0, .ref 23), (1, .long (lI w)), (3, .int (iI i))] [] M := by
    intro fu
    induction fu using Nat.strongRecOn with
    | _ fu ih4 =>
      intro i w hi hw hk4
      have hst : waF M (i + 1).toNat = if isAK (M (27 + i.toNat) 0) 2 then waF M i.toNat * 12 else waF M i.toNat := by rw [show (i + 1).toNat = i.toNat + 1 by omega, waF]
      refine g_iload_n cx (pc2 := 5) 2 rfl dX2_waysInAll_4 rfl ?_
      refine g_aload_n cx (pc2 := 6) 0 rfl dX2_waysInAll_5 rfl ?_
      refine g_get cx (pc2 := 9) (ci := 2) (k0 := 23) (j := 4) (v := .int (iI (M 23 4))) rfl iwX2 rfl (lt_lit hn (Nat.le_of_ble_eq_true rfl)) rfl (Nat.le_of_ble_eq_true rfl) kf_X2_30 rfl rfl dX2_waysInAll_6 rfl ?_
      refine g_icmp_ge cx (pc2 := 12) (tgt := 36) ⟨(by first | assumption | omega), (by first | assumption | omega)⟩ dX2_waysInAll_9 (by decide) rfl (fun h_1 => ?_) (fun h_1 => ?_)
      · skip
        refine g_lload_n cx (pc2 := 37) 1 rfl dX2_waysInAll_36 rfl ?_
        exact g_lret cx qx dX2_waysInAll_37 ⟨congrArg (fun q => some (Value.long (lI q))) (by rw [hw, show i = M 23 4 by omega]), by rfl⟩
      · skip
        have L30 : ∀ (w2 : Int), (w2 = waF M (i + 1).toNat) → G X 30 [(0, .ref 23), (1, .long (lI w2)), (3, .int (iI i))] [] M := by
          intro w2 hw2
          refine g_iinc cx (pc2 := 33) 2 rfl (lv2 := [(0, .ref 23), (1, .long (lI w2)), (3, .int (iI (i + 1)))]) rfl (Nat.le_of_ble_eq_true rfl) dX2_waysInAll_30 rfl ?_
          refine g_goto cx (tgt := 4) dX2_waysInAll_33 (by decide) ?_
          exact ih4 ((M 23 4 - (i + 1)).toNat) (by omega) (i + 1) w2 (by first | assumption | omega) (by exact hw2) (Nat.le_refl _)
        refine g_aload_n cx (pc2 := 13) 0 rfl dX2_waysInAll_12 rfl ?_
        refine g_iload_n cx (pc2 := 14) 2 rfl dX2_waysInAll_13 rfl ?_
        refine g_callV cx (pc2 := 17) (st := []) (As := [.int (iI i)]) (k0 := 23) (ci := 2) (c_X2_needOf (M := M) hn (by first | exact Or.inl rfl | omega) (by first | assumption | omega) i (by first | assumption | omega)) wM_X2_needOf wV_X2_needOf kl_X2_36 rfl (lt_lit hn (Nat.le_of_ble_eq_true rfl)) rfl ⟨rfl, rfl, Nat.le_of_ble_eq_true rfl, Nat.le_of_ble_eq_true rfl⟩ (Nat.le_of_ble_eq_true rfl) cs rfl rfl dX2_waysInAll_14 rfl ?_
        rintro _ _ ⟨rfl, rfl⟩
        refine g_rwa (y := (27 + i.toNat)) ((ndO_in (M := M) (o := 23) (i := i) ⟨by omega, by omega⟩).trans (by omega)) ?_
        refine g_iconst cx (pc2 := 18) dX2_waysInAll_17 rfl ?_
        refine g_callV cx (pc2 := 21) (st := []) (As := [.int (iI 2)]) (k0 := (27 + i.toNat)) (ci := 4) (c_X4_isA (M := M) hn (by first | exact Or.inl rfl | omega) (by exact hnd.2 i.toNat (by omega)) 2 (by first | assumption | omega)) wM_X4_isA wV_X4_isA kl_X2_65 (sh_need (by omega)) (by omega) rfl ⟨rfl, rfl, Nat.le_of_ble_eq_true rfl, Nat.le_of_ble_eq_true rfl⟩ (Nat.le_of_ble_eq_true rfl) cs rfl rfl dX2_waysInAll_18 rfl ?_
        rintro _ _ ⟨rfl, rfl⟩
        refine g_ifb_eq cx (pc2 := 24) (tgt := 30) dX2_waysInAll_21 (by decide) rfl (fun h_2 => ?_) (fun h_2 => ?_)
        · skip
          exact L30 w (by rw [hst]; first | (rw [if_neg (by assumption)]; exact hw) | (rw [if_pos (by assumption), hw]; done))
        · skip
          refine g_lload_n cx (pc2 := 25) 1 rfl dX2_waysInAll_24 rfl ?_
          refine g_ldc2 cx (pc2 := 28) kk_X2_75 dX2_waysInAll_25 rfl ?_
          refine g_lmul cx (pc2 := 29) dX2_waysInAll_28 rfl ?_
          refine g_lstore_n cx (pc2 := 30) (lv2 := [(0, .ref 23), (1, .long (lI (w * 12))), (3, .int (iI i))]) rfl (Nat.le_of_ble_eq_true rfl) dX2_waysInAll_29 rfl ?_
          exact L30 (w * 12) (by rw [hst]; first | (rw [if_neg (by assumption)]; exact hw) | (rw [if_pos (by assumption), hw]; done))
  exact L4 _ 0 1 (by first | assumption | omega) (by rfl) (Nat.le_refl _)
set_option maxHeartbeats 4000000 in
set_option maxRecDepth 100000 in
theorem c_X2_lotsCalledBy {n : Nat} (hn : NN n) {M : Mm} (hl : LW M 23) (hnd : NDA M) (s : Int) (hs : 0 ≤ s ∧ s < 2147483648) : CT yX2_lotsCalledBy cX2_lotsCalledBy 6 (some .int) ({ frames := 2, cells := 0, slots := 0, locals := 43 }) n [.ref 23, .int (iI s)] M (rI (((bsum (clB M s) (M 23 4).toNat : Nat) : Int)) M) := by
  refine CT.of (lv0 := [(0, .ref 23), (1, .int (iI s))]) (by decide +kernel) hn (fun _ => rfl) (fun _ => Nat.le_of_ble_eq_true rfl) (fun X cx cs qx => ?_)
  have cx : Cx X cX2_lotsCalledBy RX2 ({ frames := 2, cells := 0, slots := 0, locals := 43 }) 6 n := cx
  refine g_iconst cx (pc2 := 1) dX2_lotsCalledBy_0 rfl ?_
  refine g_istore_n cx (pc2 := 2) (lv2 := [(0, .ref 23), (1, .int (iI s)), (2, .int (iI 0))]) rfl (Nat.le_of_ble_eq_true rfl) dX2_lotsCalledBy_1 rfl ?_
  refine g_iload_n cx (pc2 := 3) 1 rfl dX2_lotsCalledBy_2 rfl ?_
  refine g_i2l cx (pc2 := 4) (by first | assumption | omega) dX2_lotsCalledBy_3 rfl ?_
  refine g_lstore_n cx (pc2 := 5) (lv2 := [(0, .ref 23), (1, .int (iI s)), (2, .int (iI 0)), (3, .long (lI s))]) rfl (Nat.le_of_ble_eq_true rfl) dX2_lotsCalledBy_4 rfl ?_
  refine g_iconst cx (pc2 := 6) dX2_lotsCalledBy_5 rfl ?_
  refine g_istore cx (pc2 := 8) (lv2 := [(0, .ref 23), (1, .int (iI s)), (2, .int (iI 0)), (3, .long (lI s)), (5, .int (iI 0))]) rfl (Nat.le_of_ble_eq_true rfl) dX2_lotsCalledBy_6 rfl ?_
  have L8 : ∀ (fu : Nat) (i : Int) (t : Int) (q : Int), (0 ≤ i ∧ i ≤ M 23 4) → (t = ((bsum (clB M s) i.toNat : Nat) : Int)) → (q = nbF s i.toNat) → (M 23 4 - i).toNat ≤ fu → G X 8 [(0, .ref 23), (1, .int (iI s)), (2, .int (iI t)), (3, .long (lI q)), (5, .int (iI i))] [] M := by
    intro fu
    induction fu using Nat.strongRecOn with
    | _ fu ih8 =>
      intro i t q hi ht hq hk8
      have hqb := nbF_b hs i.toNat
      rw [← hq] at hqb
      have hst : nbF s (i + 1).toNat = q * 48271 % 2147483647 := by rw [show (i + 1).toNat = i.toNat + 1 by omega, nbF, hq]
      refine g_iload cx (pc2 := 10) 4 rfl dX2_lotsCalledBy_8 rfl ?_
      refine g_aload_n cx (pc2 := 11) 0 rfl dX2_lotsCalledBy_10 rfl ?_
      refine g_get cx (pc2 := 14) (ci := 2) (k0 := 23) (j := 4) (v := .int (iI (M 23 4))) rfl iwX2 rfl (lt_lit hn (Nat.le_of_ble_eq_true rfl)) rfl (Nat.le_of_ble_eq_true rfl) kf_X2_30 rfl rfl dX2_lotsCalledBy_11 rfl ?_
      refine g_icmp_ge cx (pc2 := 17) (tgt := 73) ⟨(by first | assumption | omega), (by first | assumption | omega)⟩ dX2_lotsCalledBy_14 (by decide) rfl (fun h_1 => ?_) (fun h_1 => ?_)
      · skip
        refine g_iload_n cx (pc2 := 74) 2 rfl dX2_lotsCalledBy_73 rfl ?_
        exact g_iret cx qx dX2_lotsCalledBy_74 ⟨congrArg (fun q => some (Value.int (iI q))) (by rw [ht, show i = M 23 4 by omega]), by rfl⟩
      · skip
        refine g_lload_n cx (pc2 := 18) 3 rfl dX2_lotsCalledBy_17 rfl ?_
        refine g_ldc2 cx (pc2 := 21) kk_X2_77 dX2_lotsCalledBy_18 rfl ?_
        refine g_lmul cx (pc2 := 22) dX2_lotsCalledBy_21 rfl ?_
        refine g_ldc2 cx (pc2 := 25) kk_X2_79 dX2_lotsCalledBy_22 rfl ?_
        refine g_lrem cx (pc2 := 26) (by exact ⟨⟨by omega, by omega⟩, ⟨by decide, by decide⟩, by decide, by omega⟩) dX2_lotsCalledBy_25 rfl ?_
        refine g_rwl (y := lI (q * 48271 % 2147483647)) (congrArg lI (tdm (by omega) (by decide))) ?_
        refine g_lstore_n cx (pc2 := 27) (lv2 := [(0, .ref 23), (1, .int (iI s)), (2, .int (iI t)), (3, .long (lI (q * 48271 % 2147483647))), (5, .int (iI i))]) rfl (Nat.le_of_ble_eq_true rfl) dX2_lotsCalledBy_26 rfl ?_
        have L67 : ∀ (t2 : Int), (t2 = ((bsum (clB M s) (i + 1).toNat : Nat) : Int)) → G X 67 [(0, .ref 23), (1, .int (iI s)), (2, .int (iI t2)), (3, .long (lI (q * 48271 % 2147483647))), (5, .int (iI i))] [] M := by
          intro t2 ht2
          refine g_iinc cx (pc2 := 70) 4 rfl (lv2 := [(0, .ref 23), (1, .int (iI s)), (2, .int (iI t2)), (3, .long (lI (q * 48271 % 2147483647))), (5, .int (iI (i + 1)))]) rfl (Nat.le_of_ble_eq_true rfl) dX2_lotsCalledBy_67 rfl ?_
          refine g_goto cx (tgt := 8) dX2_lotsCalledBy_70 (by decide) ?_
          exact ih8 ((M 23 4 - (i + 1)).toNat) (by omega) (i + 1) t2 (q * 48271 % 2147483647) (by first | assumption | omega) (by exact ht2) (by exact hst.symm) (Nat.le_refl _)
        have hndi : i < M 23 4 → NDR (M (27 + i.toNat)) := fun q => hnd.2 i.toNat (by omega)
        have hndj := hndi (by omega)
        refine g_aload_n cx (pc2 := 28) 0 rfl dX2_lotsCalledBy_27 rfl ?_
        refine g_iload cx (pc2 := 30) 4 rfl dX2_lotsCalledBy_28 rfl ?_
        refine g_callV cx (pc2 := 33) (st := []) (As := [.int (iI i)]) (k0 := 23) (ci := 2) (c_X2_needOf (M := M) hn (by first | exact Or.inl rfl | omega) (by first | assumption | omega) i (by first | assumption | omega)) wM_X2_needOf wV_X2_needOf kl_X2_36 rfl (lt_lit hn (Nat.le_of_ble_eq_true rfl)) rfl ⟨rfl, rfl, Nat.le_of_ble_eq_true rfl, Nat.le_of_ble_eq_true rfl⟩ (Nat.le_of_ble_eq_true rfl) cs rfl rfl dX2_lotsCalledBy_30 rfl ?_
        rintro _ _ ⟨rfl, rfl⟩
        refine g_rwa (y := (27 + i.toNat)) ((ndO_in (M := M) (o := 23) (i := i) ⟨by omega, by omega⟩).trans (by omega)) ?_
        refine g_iconst cx (pc2 := 34) dX2_lotsCalledBy_33 rfl ?_
        refine g_callV cx (pc2 := 37) (st := []) (As := [.int (iI 2)]) (k0 := (27 + i.toNat)) (ci := 4) (c_X4_isA (M := M) hn (by first | exact Or.inl rfl | omega) (by exact hnd.2 i.toNat (by omega)) 2 (by first | assumption | omega)) wM_X4_isA wV_X4_isA kl_X2_65 (sh_need (by omega)) (by omega) rfl ⟨rfl, rfl, Nat.le_of_ble_eq_true rfl, Nat.le_of_ble_eq_true rfl⟩ (Nat.le_of_ble_eq_true rfl) cs rfl rfl dX2_lotsCalledBy_34 rfl ?_
        rintro _ _ ⟨rfl, rfl⟩
        refine g_ifb_eq cx (pc2 := 40) (tgt := 67) dX2_lotsCalledBy_37 (by decide) rfl (fun h_2 => ?_) (fun h_2 => ?_)
        · skip
          exact L67 t (by rw [ht]; first | (rw [Int.toNat_natCast, or_step (clB M s) hi.1 (by omega)]; unfold clB; exact decide_eq_true ⟨by assumption, by rw [show i.toNat + 1 = (i + 1).toNat by omega, hst]; exact hcl⟩) | (rw [or_skip (clB M s) hi.1]; unfold clB; exact decide_eq_false (fun q2 => hcl (by have q3 := q2.2; rw [show i.toNat + 1 = (i + 1).toNat by omega, hst] at q3; exact q3))) | (rw [or_skip (clB M s) hi.1]; unfold clB; exact decide_eq_false (fun q2 => absurd q2.1 (by assumption))))
        · skip
          refine g_lload_n cx (pc2 := 41) 3 rfl dX2_lotsCalledBy_40 rfl ?_
          refine g_ldc2 cx (pc2 := 44) kk_X2_75 dX2_lotsCalledBy_41 rfl ?_
          refine g_lrem cx (pc2 := 45) (by exact ⟨⟨by omega, by omega⟩, ⟨by decide, by decide⟩, by decide, by omega⟩) dX2_lotsCalledBy_44 rfl ?_
          refine g_rwl (y := lI (q * 48271 % 2147483647 % 12)) (congrArg lI (tdm (by omega) (by decide))) ?_
          refine g_aload_n cx (pc2 := 46) 0 rfl dX2_lotsCalledBy_45 rfl ?_
          refine g_iload cx (pc2 := 48) 4 rfl dX2_lotsCalledBy_46 rfl ?_
          refine g_callV cx (pc2 := 51) (st := [.long (lI (q * 48271 % 2147483647 % 12))]) (As := [.int (iI i)]) (k0 := 23) (ci := 2) (c_X2_needOf (M := M) hn (by first | exact Or.inl rfl | omega) (by first | assumption | omega) i (by first | assumption | omega)) wM_X2_needOf wV_X2_needOf kl_X2_36 rfl (lt_lit hn (Nat.le_of_ble_eq_true rfl)) rfl ⟨rfl, rfl, Nat.le_of_ble_eq_true rfl, Nat.le_of_ble_eq_true rfl⟩ (Nat.le_of_ble_eq_true rfl) cs rfl rfl dX2_lotsCalledBy_48 rfl ?_
          rintro _ _ ⟨rfl, rfl⟩
          refine g_rwa (y := (27 + i.toNat)) ((ndO_in (M := M) (o := 23) (i := i) ⟨by omega, by omega⟩).trans (by omega)) ?_
          refine g_getN cx (pc2 := 54) (ci := 4) (k0 := (27 + i.toNat)) (j := 6) (v := .int (iI (M (27 + i.toNat) 6))) rfl iwX4 (sh_need (by omega)) (by omega) rfl (Nat.le_of_ble_eq_true rfl) kf_X2_72 rfl rfl dX2_lotsCalledBy_51 rfl ?_
          refine g_i2l cx (pc2 := 55) (by first | assumption | omega) dX2_lotsCalledBy_54 rfl ?_
          refine g_lcmp cx (pc2 := 56) ⟨(by constructor <;> omega), (by constructor <;> omega)⟩ dX2_lotsCalledBy_55 rfl ?_
          refine g_if_ge cx (pc2 := 59) (tgt := 67) (by constructor <;> (repeat' split) <;> omega) dX2_lotsCalledBy_56 (by decide) rfl (fun h_3 => ?_) (fun h_3 => ?_)
          · skip
            have hcl : ¬ (q * 48271 % 2147483647 % 12 < M (27 + i.toNat) 6) := by (repeat' split at h_3) <;> omega
            exact L67 t (by rw [ht]; first | (rw [Int.toNat_natCast, or_step (clB M s) hi.1 (by omega)]; unfold clB; exact decide_eq_true ⟨by assumption, by rw [show i.toNat + 1 = (i + 1).toNat by omega, hst]; exact hcl⟩) | (rw [or_skip (clB M s) hi.1]; unfold clB; exact decide_eq_false (fun q2 => hcl (by have q3 := q2.2; rw [show i.toNat + 1 = (i + 1).toNat by omega, hst] at q3; exact q3))) | (rw [or_skip (clB M s) hi.1]; unfold clB; exact decide_eq_false (fun q2 => absurd q2.1 (by assumption))))
          · skip
            have hcl : q * 48271 % 2147483647 % 12 < M (27 + i.toNat) 6 := by (repeat' split at h_3) <;> omega
            refine g_iload_n cx (pc2 := 60) 2 rfl dX2_lotsCalledBy_59 rfl ?_
            refine g_iload cx (pc2 := 62) 4 rfl dX2_lotsCalledBy_60 rfl ?_
            refine g_callSN cx (pc2 := 65) (st := [.int (iI t)]) (As := [.int (iI i)]) (c_X11_bit (M := M) hn i (by first | assumption | omega)) wM_X11_bit wS_X11_bit kl_X2_59 ⟨rfl, rfl, Nat.le_of_ble_eq_true rfl, Nat.le_of_ble_eq_true rfl⟩ (Nat.le_of_ble_eq_true rfl) cs rfl rfl dX2_lotsCalledBy_62 rfl ?_
            rintro _ _ ⟨rfl, rfl⟩
            refine g_ior cx (pc2 := 66) dX2_lotsCalledBy_65 rfl ?_
            refine g_rwi (y := iI ((t.toNat ||| bitN i : Nat) : Int)) (or_iI (by omega) (by omega)) ?_
            refine g_istore_n cx (pc2 := 67) (lv2 := [(0, .ref 23), (1, .int (iI s)), (2, .int (iI ((t.toNat ||| bitN i : Nat) : Int))), (3, .long (lI (q * 48271 % 2147483647))), (5, .int (iI i))]) rfl (Nat.le_of_ble_eq_true rfl) dX2_lotsCalledBy_66 rfl ?_
            exact L67 ((t.toNat ||| bitN i : Nat) : Int) (by rw [ht]; first | (rw [Int.toNat_natCast, or_step (clB M s) hi.1 (by omega)]; unfold clB; exact decide_eq_true ⟨by assumption, by rw [show i.toNat + 1 = (i + 1).toNat by omega, hst]; exact hcl⟩) | (rw [or_skip (clB M s) hi.1]; unfold clB; exact decide_eq_false (fun q2 => hcl (by have q3 := q2.2; rw [show i.toNat + 1 = (i + 1).toNat by omega, hst] at q3; exact q3))) | (rw [or_skip (clB M s) hi.1]; unfold clB; exact decide_eq_false (fun q2 => absurd q2.1 (by assumption))))
  exact L8 _ 0 0 s (by first | assumption | omega) (by rfl) (by rfl) (Nat.le_refl _)
