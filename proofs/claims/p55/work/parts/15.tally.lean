abbrev thP (s l e : Int) : Prop := (0 ≤ s ∧ s < 256) ∧ (0 ≤ l ∧ l < 8) ∧ (0 ≤ e ∧ e < 29)
def tix (s l e : Int) : Nat := ((s * 8 + l) * 29 + e).toNat
def nbO (M : Mm) (s l e : Int) : Int := if thP s l e then M 78 (tix s l e) else 0
def snM (M : Mm) (s l e v : Int) : Mm := if thP s l e then stM M 78 (tix s l e) v else M
theorem snM_off (M : Mm) (s l e v : Int) {a : Nat} (h : a ≠ 78) : snM M s l e v a = M a := by
  unfold snM
  split
  · rw [stM_off h]
  · rfl
def smO (M : Mm) (s l : Int) : Int := smZ (fun e => nbO M s l (e : Int)) 29
/-- one set's numbers, by the need that is last, one behind the other as the code does it -/
def ntZ (M : Mm) (s l : Int) : Nat → Mm
  | 0 => M
  | e + 1 => snM (ntZ M s l e) s l (e : Int) 0
def ntR (s l : Int) : Int := ((ndN s.toNat (bitN l) : Nat) : Int)
def nt1 (M : Mm) (s l p : Int) : Mm := if ntR s l = 0 then snM (ntZ M s l 29) s l (endJ M l p 0) 1 else ntZ M s l 29
def ntF (T : Mm) (s l i : Int) : Nat → Mm
  | 0 => T
  | f + 1 => if 0 < wr (nbO (ntF T s l i f) (ntR s l) i (f : Int)) then snM (ntF T s l i f) s l (endJ T l (plJ T i) (f : Int)) (nbO (ntF T s l i f) s l (endJ T l (plJ T i) (f : Int)) + wr (nbO (ntF T s l i f) (ntR s l) i (f : Int))) else ntF T s l i f
def ntO (M : Mm) (s l p : Int) : Nat → Mm
  | 0 => nt1 M s l p
  | i + 1 => if inS (i : Int) (ntR s l) then ntF (ntO M s l p i) s l (i : Int) 29 else ntO M s l p i
def ntM (M : Mm) (s l p : Int) : Mm := ntO M s l p 8
theorem ntZ_off (M : Mm) (s l : Int) {a : Nat} (h : a ≠ 78) : ∀ e, ntZ M s l e a = M a
  | 0 => rfl
  | e + 1 => by rw [ntZ, snM_off _ _ _ _ _ h, ntZ_off M s l h e]
theorem nt1_off (M : Mm) (s l p : Int) {a : Nat} (h : a ≠ 78) : nt1 M s l p a = M a := by
  unfold nt1
  split
  · rw [snM_off _ _ _ _ _ h, ntZ_off M s l h]
  · rw [ntZ_off M s l h]
theorem ntF_off (M : Mm) (s l i : Int) {a : Nat} (h : a ≠ 78) : ∀ f, ntF M s l i f a = M a
  | 0 => rfl
  | f + 1 => by
    rw [ntF]
    split
    · rw [snM_off _ _ _ _ _ h, ntF_off M s l i h f]
    · rw [ntF_off M s l i h f]
theorem ntO_off (M : Mm) (s l p : Int) {a : Nat} (h : a ≠ 78) : ∀ i, ntO M s l p i a = M a
  | 0 => nt1_off M s l p h
  | i + 1 => by
    rw [ntO]
    split
    · rw [ntF_off _ _ _ _ h, ntO_off M s l p h i]
    · rw [ntO_off M s l p h i]
theorem JW_105 {M M2 : Mm} (h : ∀ a, a ≠ 78 → M2 a = M a) (hJ : JW M) : JW M2 := JW_of (fun a _ _ => h a (by omega)) hJ
theorem endJ_105 {M M2 : Mm} (h : ∀ a, a ≠ 78 → M2 a = M a) (i p f : Int) : endJ M2 i p f = endJ M i p f := by
  unfold endJ bgJ
  rw [h 48 (by decide), h 49 (by decide), h 50 (by decide), h 51 (by decide), h 52 (by decide)]
theorem plJ_105 {M M2 : Mm} (h : ∀ a, a ≠ 78 → M2 a = M a) (i : Int) : plJ M2 i = plJ M i := by
  unfold plJ
  rw [h 48 (by decide), h 49 (by decide)]
/-- the orders of a set: the numbers so far, and the state -/
def noI (T : Mm) (w p s acc : Int) : Nat → Mm × Int
  | 0 => (T, acc)
  | l + 1 => if inS (l : Int) s then (ntM (noI T w p s acc l).1 s (l : Int) p, (noI T w p s acc l).2 + (if s = w then smO (ntM (noI T w p s acc l).1 s (l : Int) p) s (l : Int) else 0)) else noI T w p s acc l
def noS (M : Mm) (w p : Int) : Nat → Mm × Int
  | 0 => (M, 0)
  | 1 => (M, 0)
  | k + 2 => if ndN (k + 1) w.toNat = 0 then noI (noS M w p (k + 1)).1 w p ((k + 1 : Nat) : Int) (noS M w p (k + 1)).2 8 else noS M w p (k + 1)
theorem noI_off (T : Mm) (w p s acc : Int) {a : Nat} (h : a ≠ 78) : ∀ l, (noI T w p s acc l).1 a = T a
  | 0 => rfl
  | l + 1 => by
    rw [noI]
    split
    · show ntM _ _ _ _ a = _
      unfold ntM
      rw [ntO_off _ _ _ _ h, noI_off T w p s acc h l]
    · exact noI_off T w p s acc h l
theorem noS_off (M : Mm) (w p : Int) {a : Nat} (h : a ≠ 78) : ∀ k, (noS M w p k).1 a = M a
  | 0 => rfl
  | 1 => rfl
  | k + 2 => by
    rw [noS]
    split
    · rw [noI_off _ _ _ _ _ h, noS_off M w p h (k + 1)]
    · exact noS_off M w p h (k + 1)
set_option maxHeartbeats 4000000 in
set_option maxRecDepth 100000 in
theorem c_X9_isThere {n : Nat} (hn : NN n) {M : Mm} (s l e : Int) (hs : ir s) (hl : ir l) (he : ir e) : CT yX9_isThere cX9_isThere 3 (some .boolean) ({ frames := 0, cells := 0, slots := 0, locals := 0 }) n [.int (iI s), .int (iI l), .int (iI e)] M (rI (b2 (thP s l e)) M) := by
  refine CT.of (lv0 := [(0, .int (iI s)), (1, .int (iI l)), (2, .int (iI e))]) (by decide +kernel) hn (fun _ => rfl) (fun _ => Nat.le_of_ble_eq_true rfl) (fun X cx cs qx => ?_)
  have cx : Cx X cX9_isThere RX9 ({ frames := 0, cells := 0, slots := 0, locals := 0 }) 3 n := cx
  refine g_iload_n cx (pc2 := 1) 0 rfl dX9_isThere_0 rfl ?_
  refine g_if_lt cx (pc2 := 4) (tgt := 35) (by first | assumption | omega) dX9_isThere_1 (by decide) rfl (fun h_1 => ?_) (fun h_1 => ?_)
  · skip
    refine g_iconst cx (pc2 := 36) dX9_isThere_35 rfl ?_
    exact g_zret cx (Or.inl rfl) qx dX9_isThere_36 ⟨rb_f (by first | assumption | omega), by rfl⟩
  · skip
    refine g_iload_n cx (pc2 := 5) 0 rfl dX9_isThere_4 rfl ?_
    refine g_sipush cx (pc2 := 8) ⟨by decide, by decide⟩ dX9_isThere_5 rfl ?_
    refine g_icmp_ge cx (pc2 := 11) (tgt := 35) ⟨(by first | assumption | omega), ⟨by decide, by decide⟩⟩ dX9_isThere_8 (by decide) rfl (fun h_2 => ?_) (fun h_2 => ?_)
    · skip
      refine g_iconst cx (pc2 := 36) dX9_isThere_35 rfl ?_
      exact g_zret cx (Or.inl rfl) qx dX9_isThere_36 ⟨rb_f (by first | assumption | omega), by rfl⟩
    · skip
      refine g_iload_n cx (pc2 := 12) 1 rfl dX9_isThere_11 rfl ?_
      refine g_if_lt cx (pc2 := 15) (tgt := 35) (by first | assumption | omega) dX9_isThere_12 (by decide) rfl (fun h_3 => ?_) (fun h_3 => ?_)
      · skip
        refine g_iconst cx (pc2 := 36) dX9_isThere_35 rfl ?_
        exact g_zret cx (Or.inl rfl) qx dX9_isThere_36 ⟨rb_f (by first | assumption | omega), by rfl⟩
      · skip
        refine g_iload_n cx (pc2 := 16) 1 rfl dX9_isThere_15 rfl ?_
        refine g_bipush cx (pc2 := 18) ⟨by decide, by decide⟩ dX9_isThere_16 rfl ?_
        refine g_icmp_ge cx (pc2 := 21) (tgt := 35) ⟨(by first | assumption | omega), ⟨by decide, by decide⟩⟩ dX9_isThere_18 (by decide) rfl (fun h_4 => ?_) (fun h_4 => ?_)
        · skip
          refine g_iconst cx (pc2 := 36) dX9_isThere_35 rfl ?_
          exact g_zret cx (Or.inl rfl) qx dX9_isThere_36 ⟨rb_f (by first | assumption | omega), by rfl⟩
        · skip
          refine g_iload_n cx (pc2 := 22) 2 rfl dX9_isThere_21 rfl ?_
          refine g_if_lt cx (pc2 := 25) (tgt := 35) (by first | assumption | omega) dX9_isThere_22 (by decide) rfl (fun h_5 => ?_) (fun h_5 => ?_)
          · skip
            refine g_iconst cx (pc2 := 36) dX9_isThere_35 rfl ?_
            exact g_zret cx (Or.inl rfl) qx dX9_isThere_36 ⟨rb_f (by first | assumption | omega), by rfl⟩
          · skip
            refine g_iload_n cx (pc2 := 26) 2 rfl dX9_isThere_25 rfl ?_
            refine g_bipush cx (pc2 := 28) ⟨by decide, by decide⟩ dX9_isThere_26 rfl ?_
            refine g_icmp_ge cx (pc2 := 31) (tgt := 35) ⟨(by first | assumption | omega), ⟨by decide, by decide⟩⟩ dX9_isThere_28 (by decide) rfl (fun h_6 => ?_) (fun h_6 => ?_)
            · skip
              refine g_iconst cx (pc2 := 36) dX9_isThere_35 rfl ?_
              exact g_zret cx (Or.inl rfl) qx dX9_isThere_36 ⟨rb_f (by first | assumption | omega), by rfl⟩
            · skip
              refine g_iconst cx (pc2 := 32) dX9_isThere_31 rfl ?_
              refine g_goto cx (tgt := 36) dX9_isThere_32 (by decide) ?_
              exact g_zret cx (Or.inr rfl) qx dX9_isThere_36 ⟨rb_t (by first | assumption | omega), by rfl⟩
set_option maxHeartbeats 4000000 in
set_option maxRecDepth 100000 in
theorem c_X9_numberOf {n : Nat} (hn : NN n) (h106 : n = 79) {M : Mm} (s l e : Int) (hs : ir s) (hl : ir l) (he : ir e) : CT yX9_numberOf cX9_numberOf 4 (some .int) ({ frames := 1, cells := 0, slots := 0, locals := 22 }) n [.ref 77, .int (iI s), .int (iI l), .int (iI e)] M (rI (nbO M s l e) M) := by
  refine CT.of (lv0 := [(0, .ref 77), (1, .int (iI s)), (2, .int (iI l)), (3, .int (iI e))]) (by decide +kernel) hn (fun _ => rfl) (fun _ => Nat.le_of_ble_eq_true rfl) (fun X cx cs qx => ?_)
  have cx : Cx X cX9_numberOf RX9 ({ frames := 1, cells := 0, slots := 0, locals := 22 }) 4 n := cx
  refine g_iload_n cx (pc2 := 1) 1 rfl dX9_numberOf_0 rfl ?_
  refine g_iload_n cx (pc2 := 2) 2 rfl dX9_numberOf_1 rfl ?_
  refine g_iload_n cx (pc2 := 3) 3 rfl dX9_numberOf_2 rfl ?_
  refine g_callS cx (pc2 := 6) (st := []) (As := [.int (iI s), .int (iI l), .int (iI e)]) (c_X9_isThere (M := M) hn s l e (by first | assumption | omega) (by first | assumption | omega) (by first | assumption | omega)) wM_X9_isThere wS_X9_isThere kl_X9_52 ⟨rfl, rfl, Nat.le_of_ble_eq_true rfl, Nat.le_of_ble_eq_true rfl⟩ (Nat.le_of_ble_eq_true rfl) cs rfl rfl dX9_numberOf_3 rfl ?_
  rintro _ _ ⟨rfl, rfl⟩
  refine g_ifb_eq cx (pc2 := 9) (tgt := 28) dX9_numberOf_6 (by decide) rfl (fun h_1 => ?_) (fun h_1 => ?_)
  · skip
    refine g_iconst cx (pc2 := 29) dX9_numberOf_28 rfl ?_
    exact g_iret cx qx dX9_numberOf_29 ⟨congrArg (fun q => some (Value.int (iI q))) (by unfold nbO; first | (rw [if_pos (by assumption)]; rfl) | (rw [if_neg (by assumption)]; done)), by rfl⟩
  · skip
    refine g_aload_n cx (pc2 := 10) 0 rfl dX9_numberOf_9 rfl ?_
    refine g_get cx (pc2 := 13) (ci := 9) (k0 := 77) (j := 1) (v := .ref 78) rfl iwX9 rfl (by omega) rfl (Nat.le_of_ble_eq_true rfl) kf_X9_12 rfl rfl dX9_numberOf_10 rfl ?_
    refine g_iload_n cx (pc2 := 14) 1 rfl dX9_numberOf_13 rfl ?_
    refine g_bipush cx (pc2 := 16) ⟨by decide, by decide⟩ dX9_numberOf_14 rfl ?_
    refine g_imul cx (pc2 := 17) dX9_numberOf_16 rfl ?_
    refine g_iload_n cx (pc2 := 18) 2 rfl dX9_numberOf_17 rfl ?_
    refine g_iadd cx (pc2 := 19) dX9_numberOf_18 rfl ?_
    refine g_bipush cx (pc2 := 21) ⟨by decide, by decide⟩ dX9_numberOf_19 rfl ?_
    refine g_imul cx (pc2 := 22) dX9_numberOf_21 rfl ?_
    refine g_iload_n cx (pc2 := 23) 3 rfl dX9_numberOf_22 rfl ?_
    refine g_iadd cx (pc2 := 24) dX9_numberOf_23 rfl ?_
    refine g_iald cx (pc2 := 25) (k0 := 78) rfl (by omega) (by first | assumption | omega) (by first | assumption | omega) (Nat.le_of_ble_eq_true rfl) dX9_numberOf_24 rfl ?_
    refine g_rwi (y := iI (M 78 (((((s * 8) + l) * 29) + e).toNat))) (congrArg iI (by simp [stM])) ?_
    refine g_goto cx (tgt := 29) dX9_numberOf_25 (by decide) ?_
    exact g_iret cx qx dX9_numberOf_29 ⟨congrArg (fun q => some (Value.int (iI q))) (by unfold nbO; first | (rw [if_pos (by assumption)]; rfl) | (rw [if_neg (by assumption)]; done)), by rfl⟩
set_option maxHeartbeats 4000000 in
set_option maxRecDepth 100000 in
theorem c_X9_setNumber {n : Nat} (hn : NN n) (h106 : n = 79) {M : Mm} (s l e v : Int) (hs : ir s) (hl : ir l) (he : ir e) : CT yX9_setNumber cX9_setNumber 5 none ({ frames := 1, cells := 0, slots := 0, locals := 22 }) n [.ref 77, .int (iI s), .int (iI l), .int (iI e), .int (iI v)] M (rV (snM M s l e v)) := by
  refine CT.of (lv0 := [(0, .ref 77), (1, .int (iI s)), (2, .int (iI l)), (3, .int (iI e)), (4, .int (iI v))]) (by decide +kernel) hn (fun _ => rfl) (fun _ => Nat.le_of_ble_eq_true rfl) (fun X cx cs qx => ?_)
  have cx : Cx X cX9_setNumber RX9 ({ frames := 1, cells := 0, slots := 0, locals := 22 }) 5 n := cx
  refine g_iload_n cx (pc2 := 1) 1 rfl dX9_setNumber_0 rfl ?_
  refine g_iload_n cx (pc2 := 2) 2 rfl dX9_setNumber_1 rfl ?_
  refine g_iload_n cx (pc2 := 3) 3 rfl dX9_setNumber_2 rfl ?_
  refine g_callS cx (pc2 := 6) (st := []) (As := [.int (iI s), .int (iI l), .int (iI e)]) (c_X9_isThere (M := M) hn s l e (by first | assumption | omega) (by first | assumption | omega) (by first | assumption | omega)) wM_X9_isThere wS_X9_isThere kl_X9_52 ⟨rfl, rfl, Nat.le_of_ble_eq_true rfl, Nat.le_of_ble_eq_true rfl⟩ (Nat.le_of_ble_eq_true rfl) cs rfl rfl dX9_setNumber_3 rfl ?_
  rintro _ _ ⟨rfl, rfl⟩
  refine g_ifb_eq cx (pc2 := 9) (tgt := 27) dX9_setNumber_6 (by decide) rfl (fun h_1 => ?_) (fun h_1 => ?_)
  · skip
    exact g_vret cx qx dX9_setNumber_27 ⟨rfl, by unfold snM; first | (rw [if_pos (by assumption)]; rfl) | (rw [if_neg (by assumption)]; done)⟩
  · skip
    refine g_aload_n cx (pc2 := 10) 0 rfl dX9_setNumber_9 rfl ?_
    refine g_get cx (pc2 := 13) (ci := 9) (k0 := 77) (j := 1) (v := .ref 78) rfl iwX9 rfl (by omega) rfl (Nat.le_of_ble_eq_true rfl) kf_X9_12 rfl rfl dX9_setNumber_10 rfl ?_
    refine g_iload_n cx (pc2 := 14) 1 rfl dX9_setNumber_13 rfl ?_
    refine g_bipush cx (pc2 := 16) ⟨by decide, by decide⟩ dX9_setNumber_14 rfl ?_
    refine g_imul cx (pc2 := 17) dX9_setNumber_16 rfl ?_
    refine g_iload_n cx (pc2 := 18) 2 rfl dX9_setNumber_17 rfl ?_
    refine g_iadd cx (pc2 := 19) dX9_setNumber_18 rfl ?_
    refine g_bipush cx (pc2 := 21) ⟨by decide, by decide⟩ dX9_setNumber_19 rfl ?_
    refine g_imul cx (pc2 := 22) dX9_setNumber_21 rfl ?_
    refine g_iload_n cx (pc2 := 23) 3 rfl dX9_setNumber_22 rfl ?_
    refine g_iadd cx (pc2 := 24) dX9_setNumber_23 rfl ?_
    refine g_iload cx (pc2 := 26) 4 rfl dX9_setNumber_24 rfl ?_
    refine g_iast cx (pc2 := 27) (k0 := 78) rfl (by omega) (by first | assumption | omega) (by first | assumption | omega) (Nat.le_of_ble_eq_true rfl) dX9_setNumber_26 rfl ?_
    exact g_vret cx qx dX9_setNumber_27 ⟨rfl, by unfold snM; first | (rw [if_pos (by assumption)]; rfl) | (rw [if_neg (by assumption)]; done)⟩
set_option maxHeartbeats 4000000 in
set_option maxRecDepth 100000 in
theorem c_X9_sumOf {n : Nat} (hn : NN n) (h106 : n = 79) {M : Mm} (s l : Int) (hs : 0 ≤ s ∧ s ≤ 255) (hl : 0 ≤ l ∧ l < 8) : CT yX9_sumOf cX9_sumOf 5 (some .int) ({ frames := 2, cells := 0, slots := 0, locals := 45 }) n [.ref 77, .int (iI s), .int (iI l)] M (rI (smO M s l) M) := by
  refine CT.of (lv0 := [(0, .ref 77), (1, .int (iI s)), (2, .int (iI l))]) (by decide +kernel) hn (fun _ => rfl) (fun _ => Nat.le_of_ble_eq_true rfl) (fun X cx cs qx => ?_)
  have cx : Cx X cX9_sumOf RX9 ({ frames := 2, cells := 0, slots := 0, locals := 45 }) 5 n := cx
  refine g_iconst cx (pc2 := 1) dX9_sumOf_0 rfl ?_
  refine g_istore_n cx (pc2 := 2) (lv2 := [(0, .ref 77), (1, .int (iI s)), (2, .int (iI l)), (3, .int (iI 0))]) rfl (Nat.le_of_ble_eq_true rfl) dX9_sumOf_1 rfl ?_
  refine g_iconst cx (pc2 := 3) dX9_sumOf_2 rfl ?_
  refine g_istore cx (pc2 := 5) (lv2 := [(0, .ref 77), (1, .int (iI s)), (2, .int (iI l)), (3, .int (iI 0)), (4, .int (iI 0))]) rfl (Nat.le_of_ble_eq_true rfl) dX9_sumOf_3 rfl ?_
  have L5 : ∀ (fu : Nat) (e : Int) (t : Int), (0 ≤ e ∧ e ≤ 29) → (t = smZ (fun e => nbO M s l (e : Int)) e.toNat) → (29 - e).toNat ≤ fu → G X 5 [(0, .ref 77), (1, .int (iI s)), (2, .int (iI l)), (3, .int (iI t)), (4, .int (iI e))] [] M := by
    intro fu
    induction fu using Nat.strongRecOn with
    | _ fu ih5 =>
      intro e t he ht hk5
      refine g_iload cx (pc2 := 7) 4 rfl dX9_sumOf_5 rfl ?_
      refine g_bipush cx (pc2 := 9) ⟨by decide, by decide⟩ dX9_sumOf_7 rfl ?_
      refine g_icmp_ge cx (pc2 := 12) (tgt := 29) ⟨(by first | assumption | omega), ⟨by decide, by decide⟩⟩ dX9_sumOf_9 (by decide) rfl (fun h_1 => ?_) (fun h_1 => ?_)
      · skip
        refine g_iload_n cx (pc2 := 30) 3 rfl dX9_sumOf_29 rfl ?_
        exact g_iret cx qx dX9_sumOf_30 ⟨congrArg (fun q => some (Value.int (iI q))) (by rw [ht, show e = 29 by omega]; rfl), by rfl⟩
      · skip
        refine g_iload_n cx (pc2 := 13) 3 rfl dX9_sumOf_12 rfl ?_
        refine g_aload_n cx (pc2 := 14) 0 rfl dX9_sumOf_13 rfl ?_
        refine g_iload_n cx (pc2 := 15) 1 rfl dX9_sumOf_14 rfl ?_
        refine g_iload_n cx (pc2 := 16) 2 rfl dX9_sumOf_15 rfl ?_
        refine g_iload cx (pc2 := 18) 4 rfl dX9_sumOf_16 rfl ?_
        refine g_callV cx (pc2 := 21) (st := [.int (iI t)]) (As := [.int (iI s), .int (iI l), .int (iI e)]) (k0 := 77) (ci := 9) (c_X9_numberOf (M := M) hn (by first | assumption | omega) s l e (by first | assumption | omega) (by first | assumption | omega) (by first | assumption | omega)) wM_X9_numberOf wV_X9_numberOf kl_X9_46 rfl (by omega) rfl ⟨rfl, rfl, Nat.le_of_ble_eq_true rfl, Nat.le_of_ble_eq_true rfl⟩ (Nat.le_of_ble_eq_true rfl) cs rfl rfl dX9_sumOf_18 rfl ?_
        rintro _ _ ⟨rfl, rfl⟩
        refine g_iadd cx (pc2 := 22) dX9_sumOf_21 rfl ?_
        refine g_istore_n cx (pc2 := 23) (lv2 := [(0, .ref 77), (1, .int (iI s)), (2, .int (iI l)), (3, .int (iI (t + (nbO M s l e)))), (4, .int (iI e))]) rfl (Nat.le_of_ble_eq_true rfl) dX9_sumOf_22 rfl ?_
        refine g_iinc cx (pc2 := 26) 4 rfl (lv2 := [(0, .ref 77), (1, .int (iI s)), (2, .int (iI l)), (3, .int (iI (t + (nbO M s l e)))), (4, .int (iI (e + 1)))]) rfl (Nat.le_of_ble_eq_true rfl) dX9_sumOf_23 rfl ?_
        refine g_goto cx (tgt := 5) dX9_sumOf_26 (by decide) ?_
        exact ih5 ((29 - (e + 1)).toNat) (by omega) (e + 1) (t + (nbO M s l e)) (by first | assumption | omega) (by rw [show (e + 1).toNat = e.toNat + 1 by omega, smZ, ht, Int.toNat_of_nonneg he.1]) (Nat.le_refl _)
  exact L5 _ 0 0 (by first | assumption | omega) (by rfl) (Nat.le_refl _)
set_option maxHeartbeats 4000000 in
set_option maxRecDepth 100000 in
theorem c_X9_numberTo {n : Nat} (hn : NN n) (h106 : n = 79) {M : Mm} (hJ : JW M) (s l p : Int) (hs : 0 ≤ s ∧ s ≤ 255) (hl : 0 ≤ l ∧ l < 8) (hp : 0 ≤ p ∧ p ≤ 15) : CT yX9_numberTo cX9_numberTo 10 none ({ frames := 2, cells := 0, slots := 0, locals := 46 }) n [.ref 77, .int (iI s), .int (iI l), .int (iI p)] M (rV (ntM M s l p)) := by
  refine CT.of (lv0 := [(0, .ref 77), (1, .int (iI s)), (2, .int (iI l)), (3, .int (iI p))]) (by decide +kernel) hn (fun _ => rfl) (fun _ => Nat.le_of_ble_eq_true rfl) (fun X cx cs qx => ?_)
  have cx : Cx X cX9_numberTo RX9 ({ frames := 2, cells := 0, slots := 0, locals := 46 }) 10 n := cx
  have hnb := ndN_le s.toNat (bitN l)
  have hR : 0 ≤ ntR s l ∧ ntR s l ≤ 255 := by unfold ntR; omega
  have hE0 := endJ_b hJ (i := l) (p := p) (f := 0) hp (by omega)
  refine g_iload_n cx (pc2 := 1) 1 rfl dX9_numberTo_0 rfl ?_
  refine g_iload_n cx (pc2 := 2) 2 rfl dX9_numberTo_1 rfl ?_
  refine g_callSN cx (pc2 := 5) (st := [.int (iI s)]) (As := [.int (iI l)]) (c_X11_bit (M := M) hn l (by first | assumption | omega)) wM_X11_bit wS_X11_bit kl_X9_32 ⟨rfl, rfl, Nat.le_of_ble_eq_true rfl, Nat.le_of_ble_eq_true rfl⟩ (Nat.le_of_ble_eq_true rfl) cs rfl rfl dX9_numberTo_2 rfl ?_
  rintro _ _ ⟨rfl, rfl⟩
  refine g_iconst cx (pc2 := 6) dX9_numberTo_5 rfl ?_
  refine g_ixor cx (pc2 := 7) dX9_numberTo_6 rfl ?_
  refine g_iand cx (pc2 := 8) dX9_numberTo_7 rfl ?_
  refine g_rwi (y := iI (ntR s l)) (nd_iI (by omega) (by omega)) ?_
  refine g_istore cx (pc2 := 10) (lv2 := [(0, .ref 77), (1, .int (iI s)), (2, .int (iI l)), (3, .int (iI p)), (4, .int (iI (ntR s l)))]) rfl (Nat.le_of_ble_eq_true rfl) dX9_numberTo_8 rfl ?_
  refine g_iconst cx (pc2 := 11) dX9_numberTo_10 rfl ?_
  refine g_istore cx (pc2 := 13) (lv2 := [(0, .ref 77), (1, .int (iI s)), (2, .int (iI l)), (3, .int (iI p)), (4, .int (iI (ntR s l))), (5, .int (iI 0))]) rfl (Nat.le_of_ble_eq_true rfl) dX9_numberTo_11 rfl ?_
  have L13 : ∀ (fu : Nat) (e : Int) (Z : Mm), (0 ≤ e ∧ e ≤ 29) → (Z = ntZ M s l e.toNat) → (29 - e).toNat ≤ fu → G X 13 [(0, .ref 77), (1, .int (iI s)), (2, .int (iI l)), (3, .int (iI p)), (4, .int (iI (ntR s l))), (5, .int (iI e))] [] Z := by
    intro fu
    induction fu using Nat.strongRecOn with
    | _ fu ih13 =>
      intro e Z he hZ hk13
      refine g_iload cx (pc2 := 15) 5 rfl dX9_numberTo_13 rfl ?_
      refine g_bipush cx (pc2 := 17) ⟨by decide, by decide⟩ dX9_numberTo_15 rfl ?_
      refine g_icmp_ge cx (pc2 := 20) (tgt := 35) ⟨(by first | assumption | omega), ⟨by decide, by decide⟩⟩ dX9_numberTo_17 (by decide) rfl (fun h_1 => ?_) (fun h_1 => ?_)
      · skip
        refine g_iload cx (pc2 := 37) 4 rfl dX9_numberTo_35 rfl ?_
        refine g_if_ne cx (pc2 := 40) (tgt := 57) (by first | assumption | omega) dX9_numberTo_37 (by decide) rfl (fun h_2 => ?_) (fun h_2 => ?_)
        · skip
          refine g_iconst cx (pc2 := 58) dX9_numberTo_57 rfl ?_
          refine g_istore cx (pc2 := 60) (lv2 := [(0, .ref 77), (1, .int (iI s)), (2, .int (iI l)), (3, .int (iI p)), (4, .int (iI (ntR s l))), (5, .int (iI 0))]) rfl (Nat.le_of_ble_eq_true rfl) dX9_numberTo_58 rfl ?_
          have L60 : ∀ (fu : Nat) (i : Int) (T : Mm), (0 ≤ i ∧ i ≤ 8) → (T = ntO M s l p i.toNat) → (8 - i).toNat ≤ fu → G X 60 [(0, .ref 77), (1, .int (iI s)), (2, .int (iI l)), (3, .int (iI p)), (4, .int (iI (ntR s l))), (5, .int (iI i))] [] T := by
            intro fu
            induction fu using Nat.strongRecOn with
            | _ fu ih60 =>
              intro i T hi hT hk60
              have hTo : ∀ a, a ≠ 78 → T a = M a := fun a h => by rw [hT]; exact ntO_off M s l p h _
              have hJT := JW_105 hTo hJ
              have hpb := plJ_b hJT i
              refine g_iload cx (pc2 := 62) 5 rfl dX9_numberTo_60 rfl ?_
              refine g_bipush cx (pc2 := 64) ⟨by decide, by decide⟩ dX9_numberTo_62 rfl ?_
              refine g_icmp_ge cx (pc2 := 67) (tgt := 160) ⟨(by first | assumption | omega), ⟨by decide, by decide⟩⟩ dX9_numberTo_64 (by decide) rfl (fun h_3 => ?_) (fun h_3 => ?_)
              · skip
                exact g_vret cx qx dX9_numberTo_160 ⟨rfl, by unfold ntM; rw [hT, show i = 8 by omega]; rfl⟩
              · skip
                refine g_iload cx (pc2 := 69) 5 rfl dX9_numberTo_67 rfl ?_
                refine g_iload cx (pc2 := 71) 4 rfl dX9_numberTo_69 rfl ?_
                refine g_callSN cx (pc2 := 74) (st := []) (As := [.int (iI i), .int (iI (ntR s l))]) (c_X11_isIn (M := T) hn i (ntR s l) (by first | assumption | omega) (by first | assumption | omega)) wM_X11_isIn wS_X11_isIn kl_X9_20 ⟨rfl, rfl, Nat.le_of_ble_eq_true rfl, Nat.le_of_ble_eq_true rfl⟩ (Nat.le_of_ble_eq_true rfl) cs rfl rfl dX9_numberTo_71 rfl ?_
                rintro _ _ ⟨rfl, rfl⟩
                refine g_istore cx (pc2 := 76) (lv2 := [(0, .ref 77), (1, .int (iI s)), (2, .int (iI l)), (3, .int (iI p)), (4, .int (iI (ntR s l))), (5, .int (iI i)), (6, .int (iI (b2 (inS i (ntR s l)))))]) rfl (Nat.le_of_ble_eq_true rfl) dX9_numberTo_74 rfl ?_
                refine g_iconst cx (pc2 := 77) dX9_numberTo_76 rfl ?_
                refine g_istore cx (pc2 := 79) (lv2 := [(0, .ref 77), (1, .int (iI s)), (2, .int (iI l)), (3, .int (iI p)), (4, .int (iI (ntR s l))), (5, .int (iI i)), (6, .int (iI (b2 (inS i (ntR s l))))), (7, .int (iI 0))]) rfl (Nat.le_of_ble_eq_true rfl) dX9_numberTo_77 rfl ?_
                have L79 : ∀ (fu : Nat) (f : Int) (F : Mm), (0 ≤ f ∧ f ≤ 29) → (F = if inS i (ntR s l) then ntF T s l i f.toNat else T) → (29 - f).toNat ≤ fu → G X 79 [(0, .ref 77), (1, .int (iI s)), (2, .int (iI l)), (3, .int (iI p)), (4, .int (iI (ntR s l))), (5, .int (iI i)), (6, .int (iI (b2 (inS i (ntR s l))))), (7, .int (iI f))] [] F := by
                  intro fu
                  induction fu using Nat.strongRecOn with
                  | _ fu ih79 =>
                    intro f F hf hF hk79
                    have hFo : ∀ a, a ≠ 78 → F a = T a := fun a h => by rw [hF]; split; exact ntF_off T s l i h _; rfl
                    have hJF := JW_105 hFo hJT
                    have hpb2 := plJ_b hJF i
                    have hwc := ir_wr (nbO F (ntR s l) i f)
                    have hEb := endJ_b hJT (i := l) (p := plJ T i) (f := f) hpb
                    refine g_iload cx (pc2 := 81) 7 rfl dX9_numberTo_79 rfl ?_
                    refine g_bipush cx (pc2 := 83) ⟨by decide, by decide⟩ dX9_numberTo_81 rfl ?_
                    refine g_icmp_ge cx (pc2 := 86) (tgt := 154) ⟨(by first | assumption | omega), ⟨by decide, by decide⟩⟩ dX9_numberTo_83 (by decide) rfl (fun h_4 => ?_) (fun h_4 => ?_)
                    · skip
                      refine g_iinc cx (pc2 := 157) 5 rfl (lv2 := [(0, .ref 77), (1, .int (iI s)), (2, .int (iI l)), (3, .int (iI p)), (4, .int (iI (ntR s l))), (5, .int (iI (i + 1))), (6, .int (iI (b2 (inS i (ntR s l))))), (7, .int (iI f))]) rfl (Nat.le_of_ble_eq_true rfl) dX9_numberTo_154 rfl ?_
                      refine g_goto cx (tgt := 60) dX9_numberTo_157 (by decide) ?_
                      refine g_sub (lv2 := [(0, .ref 77), (1, .int (iI s)), (2, .int (iI l)), (3, .int (iI p)), (4, .int (iI (ntR s l))), (5, .int (iI (i + 1)))]) [0, 1, 2, 3, 4, 5] rfl ?_
                      exact ih60 ((8 - (i + 1)).toNat) (by omega) (i + 1) F (by first | assumption | omega) (by rw [hF, show (i + 1).toNat = i.toNat + 1 by omega, ntO, Int.toNat_of_nonneg hi.1, ← hT]; first | (rw [if_neg (by assumption), if_neg (by assumption)]; done) | (rw [show f = 29 by omega]; rfl)) (Nat.le_refl _)
                    · skip
                      refine g_iload cx (pc2 := 88) 6 rfl dX9_numberTo_86 rfl ?_
                      refine g_ifb_eq cx (pc2 := 91) (tgt := 154) dX9_numberTo_88 (by decide) rfl (fun h_5 => ?_) (fun h_5 => ?_)
                      · skip
                        refine g_iinc cx (pc2 := 157) 5 rfl (lv2 := [(0, .ref 77), (1, .int (iI s)), (2, .int (iI l)), (3, .int (iI p)), (4, .int (iI (ntR s l))), (5, .int (iI (i + 1))), (6, .int (iI (b2 (inS i (ntR s l))))), (7, .int (iI f))]) rfl (Nat.le_of_ble_eq_true rfl) dX9_numberTo_154 rfl ?_
                        refine g_goto cx (tgt := 60) dX9_numberTo_157 (by decide) ?_
                        refine g_sub (lv2 := [(0, .ref 77), (1, .int (iI s)), (2, .int (iI l)), (3, .int (iI p)), (4, .int (iI (ntR s l))), (5, .int (iI (i + 1)))]) [0, 1, 2, 3, 4, 5] rfl ?_
                        exact ih60 ((8 - (i + 1)).toNat) (by omega) (i + 1) F (by first | assumption | omega) (by rw [hF, show (i + 1).toNat = i.toNat + 1 by omega, ntO, Int.toNat_of_nonneg hi.1, ← hT]; first | (rw [if_neg (by assumption), if_neg (by assumption)]; done) | (rw [show f = 29 by omega]; rfl)) (Nat.le_refl _)
                      · skip
                        refine g_aload_n cx (pc2 := 92) 0 rfl dX9_numberTo_91 rfl ?_
                        refine g_iload cx (pc2 := 94) 4 rfl dX9_numberTo_92 rfl ?_
                        refine g_iload cx (pc2 := 96) 5 rfl dX9_numberTo_94 rfl ?_
                        refine g_iload cx (pc2 := 98) 7 rfl dX9_numberTo_96 rfl ?_
                        refine g_callV cx (pc2 := 101) (st := []) (As := [.int (iI (ntR s l)), .int (iI i), .int (iI f)]) (k0 := 77) (ci := 9) (c_X9_numberOf (M := F) hn (by first | assumption | omega) (ntR s l) i f (by first | assumption | omega) (by first | assumption | omega) (by first | assumption | omega)) wM_X9_numberOf wV_X9_numberOf kl_X9_46 rfl (by omega) rfl ⟨rfl, rfl, Nat.le_of_ble_eq_true rfl, Nat.le_of_ble_eq_true rfl⟩ (Nat.le_of_ble_eq_true rfl) cs rfl rfl dX9_numberTo_98 rfl ?_
                        rintro _ _ ⟨rfl, rfl⟩
                        refine g_rwi (y := iI (wr (nbO F (ntR s l) i f))) ((iI_wr _).symm) ?_
                        refine g_istore cx (pc2 := 103) (lv2 := [(0, .ref 77), (1, .int (iI s)), (2, .int (iI l)), (3, .int (iI p)), (4, .int (iI (ntR s l))), (5, .int (iI i)), (6, .int (iI (b2 (inS i (ntR s l))))), (7, .int (iI f)), (8, .int (iI (wr (nbO F (ntR s l) i f))))]) rfl (Nat.le_of_ble_eq_true rfl) dX9_numberTo_101 rfl ?_
                        refine g_iload cx (pc2 := 105) 8 rfl dX9_numberTo_103 rfl ?_
                        refine g_if_le cx (pc2 := 108) (tgt := 148) (by first | assumption | omega) dX9_numberTo_105 (by decide) rfl (fun h_6 => ?_) (fun h_6 => ?_)
                        · skip
                          refine g_iinc cx (pc2 := 151) 7 rfl (lv2 := [(0, .ref 77), (1, .int (iI s)), (2, .int (iI l)), (3, .int (iI p)), (4, .int (iI (ntR s l))), (5, .int (iI i)), (6, .int (iI (b2 (inS i (ntR s l))))), (7, .int (iI (f + 1))), (8, .int (iI (wr (nbO F (ntR s l) i f))))]) rfl (Nat.le_of_ble_eq_true rfl) dX9_numberTo_148 rfl ?_
                          refine g_goto cx (tgt := 79) dX9_numberTo_151 (by decide) ?_
                          refine g_sub (lv2 := [(0, .ref 77), (1, .int (iI s)), (2, .int (iI l)), (3, .int (iI p)), (4, .int (iI (ntR s l))), (5, .int (iI i)), (6, .int (iI (b2 (inS i (ntR s l))))), (7, .int (iI (f + 1)))]) [0, 1, 2, 3, 4, 5, 6, 7] rfl ?_
                          exact ih79 ((29 - (f + 1)).toNat) (by omega) (f + 1) F (by first | assumption | omega) (by rw [if_pos (by assumption), show (f + 1).toNat = f.toNat + 1 by omega, ntF, Int.toNat_of_nonneg hf.1]; rw [if_pos (by assumption)] at hF; rw [← hF]; first | (rw [if_neg (by omega)]; done) | (rw [if_pos (by omega)]; done)) (Nat.le_refl _)
                        · skip
                          refine g_aload_n cx (pc2 := 109) 0 rfl dX9_numberTo_108 rfl ?_
                          refine g_get cx (pc2 := 112) (ci := 9) (k0 := 77) (j := 0) (v := .ref 48) rfl iwX9 rfl (by omega) rfl (Nat.le_of_ble_eq_true rfl) kf_X9_16 rfl rfl dX9_numberTo_109 rfl ?_
                          refine g_iload_n cx (pc2 := 113) 2 rfl dX9_numberTo_112 rfl ?_
                          refine g_aload_n cx (pc2 := 114) 0 rfl dX9_numberTo_113 rfl ?_
                          refine g_get cx (pc2 := 117) (ci := 9) (k0 := 77) (j := 0) (v := .ref 48) rfl iwX9 rfl (by omega) rfl (Nat.le_of_ble_eq_true rfl) kf_X9_16 rfl rfl dX9_numberTo_114 rfl ?_
                          refine g_iload cx (pc2 := 119) 5 rfl dX9_numberTo_117 rfl ?_
                          refine g_callV cx (pc2 := 122) (st := [.int (iI l), .ref 48]) (As := [.int (iI i)]) (k0 := 48) (ci := 1) (c_X1_placeOf (M := F) hn (by exact hJF) i (by first | assumption | omega)) wM_X1_placeOf wV_X1_placeOf kl_X9_49 rfl (lt_lit hn (Nat.le_of_ble_eq_true rfl)) rfl ⟨rfl, rfl, Nat.le_of_ble_eq_true rfl, Nat.le_of_ble_eq_true rfl⟩ (Nat.le_of_ble_eq_true rfl) cs rfl rfl dX9_numberTo_119 rfl ?_
                          rintro _ _ ⟨rfl, rfl⟩
                          refine g_rwi (y := iI (plJ T i)) (congrArg iI (plJ_105 hFo i)) ?_
                          refine g_iload cx (pc2 := 124) 7 rfl dX9_numberTo_122 rfl ?_
                          refine g_callV cx (pc2 := 127) (st := []) (As := [.int (iI l), .int (iI (plJ T i)), .int (iI f)]) (k0 := 48) (ci := 1) (c_X1_ending (M := F) hn (by exact hJF) l (plJ T i) f (by first | assumption | omega) (by first | assumption | omega) (by first | assumption | omega)) wM_X1_ending wV_X1_ending kl_X9_40 rfl (lt_lit hn (Nat.le_of_ble_eq_true rfl)) rfl ⟨rfl, rfl, Nat.le_of_ble_eq_true rfl, Nat.le_of_ble_eq_true rfl⟩ (Nat.le_of_ble_eq_true rfl) cs rfl rfl dX9_numberTo_124 rfl ?_
                          rintro _ _ ⟨rfl, rfl⟩
                          refine g_rwi (y := iI (endJ T l (plJ T i) f)) (congrArg iI (endJ_105 hFo l (plJ T i) f)) ?_
                          refine g_istore cx (pc2 := 129) (lv2 := [(0, .ref 77), (1, .int (iI s)), (2, .int (iI l)), (3, .int (iI p)), (4, .int (iI (ntR s l))), (5, .int (iI i)), (6, .int (iI (b2 (inS i (ntR s l))))), (7, .int (iI f)), (8, .int (iI (wr (nbO F (ntR s l) i f)))), (9, .int (iI (endJ T l (plJ T i) f)))]) rfl (Nat.le_of_ble_eq_true rfl) dX9_numberTo_127 rfl ?_
                          refine g_aload_n cx (pc2 := 130) 0 rfl dX9_numberTo_129 rfl ?_
                          refine g_iload_n cx (pc2 := 131) 1 rfl dX9_numberTo_130 rfl ?_
                          refine g_iload_n cx (pc2 := 132) 2 rfl dX9_numberTo_131 rfl ?_
                          refine g_iload cx (pc2 := 134) 9 rfl dX9_numberTo_132 rfl ?_
                          refine g_aload_n cx (pc2 := 135) 0 rfl dX9_numberTo_134 rfl ?_
                          refine g_iload_n cx (pc2 := 136) 1 rfl dX9_numberTo_135 rfl ?_
                          refine g_iload_n cx (pc2 := 137) 2 rfl dX9_numberTo_136 rfl ?_
                          refine g_iload cx (pc2 := 139) 9 rfl dX9_numberTo_137 rfl ?_
                          refine g_callV cx (pc2 := 142) (st := [.int (iI (endJ T l (plJ T i) f)), .int (iI l), .int (iI s), .ref 77]) (As := [.int (iI s), .int (iI l), .int (iI (endJ T l (plJ T i) f))]) (k0 := 77) (ci := 9) (c_X9_numberOf (M := F) hn (by first | assumption | omega) s l (endJ T l (plJ T i) f) (by first | assumption | omega) (by first | assumption | omega) (by first | assumption | omega)) wM_X9_numberOf wV_X9_numberOf kl_X9_46 rfl (by omega) rfl ⟨rfl, rfl, Nat.le_of_ble_eq_true rfl, Nat.le_of_ble_eq_true rfl⟩ (Nat.le_of_ble_eq_true rfl) cs rfl rfl dX9_numberTo_139 rfl ?_
                          rintro _ _ ⟨rfl, rfl⟩
                          refine g_iload cx (pc2 := 144) 8 rfl dX9_numberTo_142 rfl ?_
                          refine g_iadd cx (pc2 := 145) dX9_numberTo_144 rfl ?_
                          refine g_callV cx (pc2 := 148) (st := []) (As := [.int (iI s), .int (iI l), .int (iI (endJ T l (plJ T i) f)), .int (iI ((nbO F s l (endJ T l (plJ T i) f)) + (wr (nbO F (ntR s l) i f))))]) (k0 := 77) (ci := 9) (c_X9_setNumber (M := F) hn (by first | assumption | omega) s l (endJ T l (plJ T i) f) ((nbO F s l (endJ T l (plJ T i) f)) + (wr (nbO F (ntR s l) i f))) (by first | assumption | omega) (by first | assumption | omega) (by first | assumption | omega)) wM_X9_setNumber wV_X9_setNumber kl_X9_36 rfl (by omega) rfl ⟨rfl, rfl, Nat.le_of_ble_eq_true rfl, Nat.le_of_ble_eq_true rfl⟩ (Nat.le_of_ble_eq_true rfl) cs rfl rfl dX9_numberTo_145 rfl ?_
                          rintro _ _ ⟨rfl, rfl⟩
                          refine g_iinc cx (pc2 := 151) 7 rfl (lv2 := [(0, .ref 77), (1, .int (iI s)), (2, .int (iI l)), (3, .int (iI p)), (4, .int (iI (ntR s l))), (5, .int (iI i)), (6, .int (iI (b2 (inS i (ntR s l))))), (7, .int (iI (f + 1))), (8, .int (iI (wr (nbO F (ntR s l) i f)))), (9, .int (iI (endJ T l (plJ T i) f)))]) rfl (Nat.le_of_ble_eq_true rfl) dX9_numberTo_148 rfl ?_
                          refine g_goto cx (tgt := 79) dX9_numberTo_151 (by decide) ?_
                          refine g_sub (lv2 := [(0, .ref 77), (1, .int (iI s)), (2, .int (iI l)), (3, .int (iI p)), (4, .int (iI (ntR s l))), (5, .int (iI i)), (6, .int (iI (b2 (inS i (ntR s l))))), (7, .int (iI (f + 1)))]) [0, 1, 2, 3, 4, 5, 6, 7] rfl ?_
                          exact ih79 ((29 - (f + 1)).toNat) (by omega) (f + 1) (snM F s l (endJ T l (plJ T i) f) ((nbO F s l (endJ T l (plJ T i) f)) + (wr (nbO F (ntR s l) i f)))) (by first | assumption | omega) (by rw [if_pos (by assumption), show (f + 1).toNat = f.toNat + 1 by omega, ntF, Int.toNat_of_nonneg hf.1]; rw [if_pos (by assumption)] at hF; rw [← hF]; first | (rw [if_neg (by omega)]; done) | (rw [if_pos (by omega)]; done)) (Nat.le_refl _)
                exact L79 _ 0 T (by first | assumption | omega) (by split <;> rfl) (Nat.le_refl _)
          exact L60 _ 0 Z (by first | assumption | omega) (by show _ = nt1 M s l p; unfold nt1; rw [hZ, show e = 29 by omega]; first | (rw [if_neg (by assumption)]; rfl) | (rw [if_pos (by assumption)]; rfl)) (Nat.le_refl _)
        · skip
          refine g_aload_n cx (pc2 := 41) 0 rfl dX9_numberTo_40 rfl ?_
          refine g_iload_n cx (pc2 := 42) 1 rfl dX9_numberTo_41 rfl ?_
          refine g_iload_n cx (pc2 := 43) 2 rfl dX9_numberTo_42 rfl ?_
          refine g_aload_n cx (pc2 := 44) 0 rfl dX9_numberTo_43 rfl ?_
          refine g_get cx (pc2 := 47) (ci := 9) (k0 := 77) (j := 0) (v := .ref 48) rfl iwX9 rfl (by omega) rfl (Nat.le_of_ble_eq_true rfl) kf_X9_16 rfl rfl dX9_numberTo_44 rfl ?_
          refine g_iload_n cx (pc2 := 48) 2 rfl dX9_numberTo_47 rfl ?_
          refine g_iload_n cx (pc2 := 49) 3 rfl dX9_numberTo_48 rfl ?_
          refine g_iconst cx (pc2 := 50) dX9_numberTo_49 rfl ?_
          refine g_callV cx (pc2 := 53) (st := [.int (iI l), .int (iI s), .ref 77]) (As := [.int (iI l), .int (iI p), .int (iI 0)]) (k0 := 48) (ci := 1) (c_X1_ending (M := Z) hn (by exact JW_105 (fun a h => by rw [hZ]; exact ntZ_off M s l h _) hJ) l p 0 (by first | assumption | omega) (by first | assumption | omega) (by first | assumption | omega)) wM_X1_ending wV_X1_ending kl_X9_40 rfl (lt_lit hn (Nat.le_of_ble_eq_true rfl)) rfl ⟨rfl, rfl, Nat.le_of_ble_eq_true rfl, Nat.le_of_ble_eq_true rfl⟩ (Nat.le_of_ble_eq_true rfl) cs rfl rfl dX9_numberTo_50 rfl ?_
          rintro _ _ ⟨rfl, rfl⟩
          refine g_rwi (y := iI (endJ M l p 0)) (congrArg iI (endJ_105 (fun a h => by rw [hZ]; exact ntZ_off M s l h _) l p 0)) ?_
          refine g_iconst cx (pc2 := 54) dX9_numberTo_53 rfl ?_
          refine g_callV cx (pc2 := 57) (st := []) (As := [.int (iI s), .int (iI l), .int (iI (endJ M l p 0)), .int (iI 1)]) (k0 := 77) (ci := 9) (c_X9_setNumber (M := Z) hn (by first | assumption | omega) s l (endJ M l p 0) 1 (by first | assumption | omega) (by first | assumption | omega) (by first | assumption | omega)) wM_X9_setNumber wV_X9_setNumber kl_X9_36 rfl (by omega) rfl ⟨rfl, rfl, Nat.le_of_ble_eq_true rfl, Nat.le_of_ble_eq_true rfl⟩ (Nat.le_of_ble_eq_true rfl) cs rfl rfl dX9_numberTo_54 rfl ?_
          rintro _ _ ⟨rfl, rfl⟩
          refine g_iconst cx (pc2 := 58) dX9_numberTo_57 rfl ?_
          refine g_istore cx (pc2 := 60) (lv2 := [(0, .ref 77), (1, .int (iI s)), (2, .int (iI l)), (3, .int (iI p)), (4, .int (iI (ntR s l))), (5, .int (iI 0))]) rfl (Nat.le_of_ble_eq_true rfl) dX9_numberTo_58 rfl ?_
          have L60 : ∀ (fu : Nat) (i : Int) (T : Mm), (0 ≤ i ∧ i ≤ 8) → (T = ntO M s l p i.toNat) → (8 - i).toNat ≤ fu → G X 60 [(0, .ref 77), (1, .int (iI s)), (2, .int (iI l)), (3, .int (iI p)), (4, .int (iI (ntR s l))), (5, .int (iI i))] [] T := by
            intro fu
            induction fu using Nat.strongRecOn with
            | _ fu ih60 =>
              intro i T hi hT hk60
              have hTo : ∀ a, a ≠ 78 → T a = M a := fun a h => by rw [hT]; exact ntO_off M s l p h _
              have hJT := JW_105 hTo hJ
              have hpb := plJ_b hJT i
              refine g_iload cx (pc2 := 62) 5 rfl dX9_numberTo_60 rfl ?_
              refine g_bipush cx (pc2 := 64) ⟨by decide, by decide⟩ dX9_numberTo_62 rfl ?_
              refine g_icmp_ge cx (pc2 := 67) (tgt := 160) ⟨(by first | assumption | omega), ⟨by decide, by decide⟩⟩ dX9_numberTo_64 (by decide) rfl (fun h_7 => ?_) (fun h_7 => ?_)
              · skip
                exact g_vret cx qx dX9_numberTo_160 ⟨rfl, by unfold ntM; rw [hT, show i = 8 by omega]; rfl⟩
              · skip
                refine g_iload cx (pc2 := 69) 5 rfl dX9_numberTo_67 rfl ?_
                refine g_iload cx (pc2 := 71) 4 rfl dX9_numberTo_69 rfl ?_
                refine g_callSN cx (pc2 := 74) (st := []) (As := [.int (iI i), .int (iI (ntR s l))]) (c_X11_isIn (M := T) hn i (ntR s l) (by first | assumption | omega) (by first | assumption | omega)) wM_X11_isIn wS_X11_isIn kl_X9_20 ⟨rfl, rfl, Nat.le_of_ble_eq_true rfl, Nat.le_of_ble_eq_true rfl⟩ (Nat.le_of_ble_eq_true rfl) cs rfl rfl dX9_numberTo_71 rfl ?_
                rintro _ _ ⟨rfl, rfl⟩
                refine g_istore cx (pc2 := 76) (lv2 := [(0, .ref 77), (1, .int (iI s)), (2, .int (iI l)), (3, .int (iI p)), (4, .int (iI (ntR s l))), (5, .int (iI i)), (6, .int (iI (b2 (inS i (ntR s l)))))]) rfl (Nat.le_of_ble_eq_true rfl) dX9_numberTo_74 rfl ?_
                refine g_iconst cx (pc2 := 77) dX9_numberTo_76 rfl ?_
                refine g_istore cx (pc2 := 79) (lv2 := [(0, .ref 77), (1, .int (iI s)), (2, .int (iI l)), (3, .int (iI p)), (4, .int (iI (ntR s l))), (5, .int (iI i)), (6, .int (iI (b2 (inS i (ntR s l))))), (7, .int (iI 0))]) rfl (Nat.le_of_ble_eq_true rfl) dX9_numberTo_77 rfl ?_
                have L79 : ∀ (fu : Nat) (f : Int) (F : Mm), (0 ≤ f ∧ f ≤ 29) → (F = if inS i (ntR s l) then ntF T s l i f.toNat else T) → (29 - f).toNat ≤ fu → G X 79 [(0, .ref 77), (1, .int (iI s)), (2, .int (iI l)), (3, .int (iI p)), (4, .int (iI (ntR s l))), (5, .int (iI i)), (6, .int (iI (b2 (inS i (ntR s l))))), (7, .int (iI f))] [] F := by
                  intro fu
                  induction fu using Nat.strongRecOn with
                  | _ fu ih79 =>
                    intro f F hf hF hk79
                    have hFo : ∀ a, a ≠ 78 → F a = T a := fun a h => by rw [hF]; split; exact ntF_off T s l i h _; rfl
                    have hJF := JW_105 hFo hJT
                    have hpb2 := plJ_b hJF i
                    have hwc := ir_wr (nbO F (ntR s l) i f)
                    have hEb := endJ_b hJT (i := l) (p := plJ T i) (f := f) hpb
                    refine g_iload cx (pc2 := 81) 7 rfl dX9_numberTo_79 rfl ?_
                    refine g_bipush cx (pc2 := 83) ⟨by decide, by decide⟩ dX9_numberTo_81 rfl ?_
                    refine g_icmp_ge cx (pc2 := 86) (tgt := 154) ⟨(by first | assumption | omega), ⟨by decide, by decide⟩⟩ dX9_numberTo_83 (by decide) rfl (fun h_8 => ?_) (fun h_8 => ?_)
                    · skip
                      refine g_iinc cx (pc2 := 157) 5 rfl (lv2 := [(0, .ref 77), (1, .int (iI s)), (2, .int (iI l)), (3, .int (iI p)), (4, .int (iI (ntR s l))), (5, .int (iI (i + 1))), (6, .int (iI (b2 (inS i (ntR s l))))), (7, .int (iI f))]) rfl (Nat.le_of_ble_eq_true rfl) dX9_numberTo_154 rfl ?_
                      refine g_goto cx (tgt := 60) dX9_numberTo_157 (by decide) ?_
                      refine g_sub (lv2 := [(0, .ref 77), (1, .int (iI s)), (2, .int (iI l)), (3, .int (iI p)), (4, .int (iI (ntR s l))), (5, .int (iI (i + 1)))]) [0, 1, 2, 3, 4, 5] rfl ?_
                      exact ih60 ((8 - (i + 1)).toNat) (by omega) (i + 1) F (by first | assumption | omega) (by rw [hF, show (i + 1).toNat = i.toNat + 1 by omega, ntO, Int.toNat_of_nonneg hi.1, ← hT]; first | (rw [if_neg (by assumption), if_neg (by assumption)]; done) | (rw [show f = 29 by omega]; rfl)) (Nat.le_refl _)
                    · skip
                      refine g_iload cx (pc2 := 88) 6 rfl dX9_numberTo_86 rfl ?_
                      refine g_ifb_eq cx (pc2 := 91) (tgt := 154) dX9_numberTo_88 (by decide) rfl (fun h_9 => ?_) (fun h_9 => ?_)
                      · skip
                        refine g_iinc cx (pc2 := 157) 5 rfl (lv2 := [(0, .ref 77), (1, .int (iI s)), (2, .int (iI l)), (3, .int (iI p)), (4, .int (iI (ntR s l))), (5, .int (iI (i + 1))), (6, .int (iI (b2 (inS i (ntR s l))))), (7, .int (iI f))]) rfl (Nat.le_of_ble_eq_true rfl) dX9_numberTo_154 rfl ?_
                        refine g_goto cx (tgt := 60) dX9_numberTo_157 (by decide) ?_
                        refine g_sub (lv2 := [(0, .ref 77), (1, .int (iI s)), (2, .int (iI l)), (3, .int (iI p)), (4, .int (iI (ntR s l))), (5, .int (iI (i + 1)))]) [0, 1, 2, 3, 4, 5] rfl ?_
                        exact ih60 ((8 - (i + 1)).toNat) (by omega) (i + 1) F (by first | assumption | omega) (by rw [hF, show (i + 1).toNat = i.toNat + 1 by omega, ntO, Int.toNat_of_nonneg hi.1, ← hT]; first | (rw [if_neg (by assumption), if_neg (by assumption)]; done) | (rw [show f = 29 by omega]; rfl)) (Nat.le_refl _)
                      · skip
                        refine g_aload_n cx (pc2 := 92) 0 rfl dX9_numberTo_91 rfl ?_
                        refine g_iload cx (pc2 := 94) 4 rfl dX9_numberTo_92 rfl ?_
                        refine g_iload cx (pc2 := 96) 5 rfl dX9_numberTo_94 rfl ?_
                        refine g_iload cx (pc2 := 98) 7 rfl dX9_numberTo_96 rfl ?_
                        refine g_callV cx (pc2 := 101) (st := []) (As := [.int (iI (ntR s l)), .int (iI i), .int (iI f)]) (k0 := 77) (ci := 9) (c_X9_numberOf (M := F) hn (by first | assumption | omega) (ntR s l) i f (by first | assumption | omega) (by first | assumption | omega) (by first | assumption | omega)) wM_X9_numberOf wV_X9_numberOf kl_X9_46 rfl (by omega) rfl ⟨rfl, rfl, Nat.le_of_ble_eq_true rfl, Nat.le_of_ble_eq_true rfl⟩ (Nat.le_of_ble_eq_true rfl) cs rfl rfl dX9_numberTo_98 rfl ?_
                        rintro _ _ ⟨rfl, rfl⟩
                        refine g_rwi (y := iI (wr (nbO F (ntR s l) i f))) ((iI_wr _).symm) ?_
                        refine g_istore cx (pc2 := 103) (lv2 := [(0, .ref 77), (1, .int (iI s)), (2, .int (iI l)), (3, .int (iI p)), (4, .int (iI (ntR s l))), (5, .int (iI i)), (6, .int (iI (b2 (inS i (ntR s l))))), (7, .int (iI f)), (8, .int (iI (wr (nbO F (ntR s l) i f))))]) rfl (Nat.le_of_ble_eq_true rfl) dX9_numberTo_101 rfl ?_
                        refine g_iload cx (pc2 := 105) 8 rfl dX9_numberTo_103 rfl ?_
                        refine g_if_le cx (pc2 := 108) (tgt := 148) (by first | assumption | omega) dX9_numberTo_105 (by decide) rfl (fun h_10 => ?_) (fun h_10 => ?_)
                        · skip
                          refine g_iinc cx (pc2 := 151) 7 rfl (lv2 := [(0, .ref 77), (1, .int (iI s)), (2, .int (iI l)), (3, .int (iI p)), (4, .int (iI (ntR s l))), (5, .int (iI i)), (6, .int (iI (b2 (inS i (ntR s l))))), (7, .int (iI (f + 1))), (8, .int (iI (wr (nbO F (ntR s l) i f))))]) rfl (Nat.le_of_ble_eq_true rfl) dX9_numberTo_148 rfl ?_
                          refine g_goto cx (tgt := 79) dX9_numberTo_151 (by decide) ?_
                          refine g_sub (lv2 := [(0, .ref 77), (1, .int (iI s)), (2, .int (iI l)), (3, .int (iI p)), (4, .int (iI (ntR s l))), (5, .int (iI i)), (6, .int (iI (b2 (inS i (ntR s l))))), (7, .int (iI (f + 1)))]) [0, 1, 2, 3, 4, 5, 6, 7] rfl ?_
                          exact ih79 ((29 - (f + 1)).toNat) (by omega) (f + 1) F (by first | assumption | omega) (by rw [if_pos (by assumption), show (f + 1).toNat = f.toNat + 1 by omega, ntF, Int.toNat_of_nonneg hf.1]; rw [if_pos (by assumption)] at hF; rw [← hF]; first | (rw [if_neg (by omega)]; done) | (rw [if_pos (by omega)]; done)) (Nat.le_refl _)
                        · skip
                          refine g_aload_n cx (pc2 := 109) 0 rfl dX9_numberTo_108 rfl ?_
                          refine g_get cx (pc2 := 112) (ci := 9) (k0 := 77) (j := 0) (v := .ref 48) rfl iwX9 rfl (by omega) rfl (Nat.le_of_ble_eq_true rfl) kf_X9_16 rfl rfl dX9_numberTo_109 rfl ?_
                          refine g_iload_n cx (pc2 := 113) 2 rfl dX9_numberTo_112 rfl ?_
                          refine g_aload_n cx (pc2 := 114) 0 rfl dX9_numberTo_113 rfl ?_
                          refine g_get cx (pc2 := 117) (ci := 9) (k0 := 77) (j := 0) (v := .ref 48) rfl iwX9 rfl (by omega) rfl (Nat.le_of_ble_eq_true rfl) kf_X9_16 rfl rfl dX9_numberTo_114 rfl ?_
                          refine g_iload cx (pc2 := 119) 5 rfl dX9_numberTo_117 rfl ?_
                          refine g_callV cx (pc2 := 122) (st := [.int (iI l), .ref 48]) (As := [.int (iI i)]) (k0 := 48) (ci := 1) (c_X1_placeOf (M := F) hn (by exact hJF) i (by first | assumption | omega)) wM_X1_placeOf wV_X1_placeOf kl_X9_49 rfl (lt_lit hn (Nat.le_of_ble_eq_true rfl)) rfl ⟨rfl, rfl, Nat.le_of_ble_eq_true rfl, Nat.le_of_ble_eq_true rfl⟩ (Nat.le_of_ble_eq_true rfl) cs rfl rfl dX9_numberTo_119 rfl ?_
                          rintro _ _ ⟨rfl, rfl⟩
                          refine g_rwi (y := iI (plJ T i)) (congrArg iI (plJ_105 hFo i)) ?_
                          refine g_iload cx (pc2 := 124) 7 rfl dX9_numberTo_122 rfl ?_
                          refine g_callV cx (pc2 := 127) (st := []) (As := [.int (iI l), .int (iI (plJ T i)), .int (iI f)]) (k0 := 48) (ci := 1) (c_X1_ending (M := F) hn (by exact hJF) l (plJ T i) f (by first | assumption | omega) (by first | assumption | omega) (by first | assumption | omega)) wM_X1_ending wV_X1_ending kl_X9_40 rfl (lt_lit hn (Nat.le_of_ble_eq_true rfl)) rfl ⟨rfl, rfl, Nat.le_of_ble_eq_true rfl, Nat.le_of_ble_eq_true rfl⟩ (Nat.le_of_ble_eq_true rfl) cs rfl rfl dX9_numberTo_124 rfl ?_
                          rintro _ _ ⟨rfl, rfl⟩
                          refine g_rwi (y := iI (endJ T l (plJ T i) f)) (congrArg iI (endJ_105 hFo l (plJ T i) f)) ?_
                          refine g_istore cx (pc2 := 129) (lv2 := [(0, .ref 77), (1, .int (iI s)), (2, .int (iI l)), (3, .int (iI p)), (4, .int (iI (ntR s l))), (5, .int (iI i)), (6, .int (iI (b2 (inS i (ntR s l))))), (7, .int (iI f)), (8, .int (iI (wr (nbO F (ntR s l) i f)))), (9, .int (iI (endJ T l (plJ T i) f)))]) rfl (Nat.le_of_ble_eq_true rfl) dX9_numberTo_127 rfl ?_
                          refine g_aload_n cx (pc2 := 130) 0 rfl dX9_numberTo_129 rfl ?_
                          refine g_iload_n cx (pc2 := 131) 1 rfl dX9_numberTo_130 rfl ?_
                          refine g_iload_n cx (pc2 := 132) 2 rfl dX9_numberTo_131 rfl ?_
                          refine g_iload cx (pc2 := 134) 9 rfl dX9_numberTo_132 rfl ?_
                          refine g_aload_n cx (pc2 := 135) 0 rfl dX9_numberTo_134 rfl ?_
                          refine g_iload_n cx (pc2 := 136) 1 rfl dX9_numberTo_135 rfl ?_
                          refine g_iload_n cx (pc2 := 137) 2 rfl dX9_numberTo_136 rfl ?_
                          refine g_iload cx (pc2 := 139) 9 rfl dX9_numberTo_137 rfl ?_
                          refine g_callV cx (pc2 := 142) (st := [.int (iI (endJ T l (plJ T i) f)), .int (iI l), .int (iI s), .ref 77]) (As := [.int (iI s), .int (iI l), .int (iI (endJ T l (plJ T i) f))]) (k0 := 77) (ci := 9) (c_X9_numberOf (M := F) hn (by first | assumption | omega) s l (endJ T l (plJ T i) f) (by first | assumption | omega) (by first | assumption | omega) (by first | assumption | omega)) wM_X9_numberOf wV_X9_numberOf kl_X9_46 rfl (by omega) rfl ⟨rfl, rfl, Nat.le_of_ble_eq_true rfl, Nat.le_of_ble_eq_true rfl⟩ (Nat.le_of_ble_eq_true rfl) cs rfl rfl dX9_numberTo_139 rfl ?_
                          rintro _ _ ⟨rfl, rfl⟩
                          refine g_iload cx (pc2 := 144) 8 rfl dX9_numberTo_142 rfl ?_
                          refine g_iadd cx (pc2 := 145) dX9_numberTo_144 rfl ?_
                          refine g_callV cx (pc2 := 148) (st := []) (As := [.int (iI s), .int (iI l), .int (iI (endJ T l (plJ T i) f)), .int (iI ((nbO F s l (endJ T l (plJ T i) f)) + (wr (nbO F (ntR s l) i f))))]) (k0 := 77) (ci := 9) (c_X9_setNumber (M := F) hn (by first | assumption | omega) s l (endJ T l (plJ T i) f) ((nbO F s l (endJ T l (plJ T i) f)) + (wr (nbO F (ntR s l) i f))) (by first | assumption | omega) (by first | assumption | omega) (by first | assumption | omega)) wM_X9_setNumber wV_X9_setNumber kl_X9_36 rfl (by omega) rfl ⟨rfl, rfl, Nat.le_of_ble_eq_true rfl, Nat.le_of_ble_eq_true rfl⟩ (Nat.le_of_ble_eq_true rfl) cs rfl rfl dX9_numberTo_145 rfl ?_
                          rintro _ _ ⟨rfl, rfl⟩
                          refine g_iinc cx (pc2 := 151) 7 rfl (lv2 := [(0, .ref 77), (1, .int (iI s)), (2, .int (iI l)), (3, .int (iI p)), (4, .int (iI (ntR s l))), (5, .int (iI i)), (6, .int (iI (b2 (inS i (ntR s l))))), (7, .int (iI (f + 1))), (8, .int (iI (wr (nbO F (ntR s l) i f)))), (9, .int (iI (endJ T l (plJ T i) f)))]) rfl (Nat.le_of_ble_eq_true rfl) dX9_numberTo_148 rfl ?_
                          refine g_goto cx (tgt := 79) dX9_numberTo_151 (by decide) ?_
                          refine g_sub (lv2 := [(0, .ref 77), (1, .int (iI s)), (2, .int (iI l)), (3, .int (iI p)), (4, .int (iI (ntR s l))), (5, .int (iI i)), (6, .int (iI (b2 (inS i (ntR s l))))), (7, .int (iI (f + 1)))]) [0, 1, 2, 3, 4, 5, 6, 7] rfl ?_
                          exact ih79 ((29 - (f + 1)).toNat) (by omega) (f + 1) (snM F s l (endJ T l (plJ T i) f) ((nbO F s l (endJ T l (plJ T i) f)) + (wr (nbO F (ntR s l) i f)))) (by first | assumption | omega) (by rw [if_pos (by assumption), show (f + 1).toNat = f.toNat + 1 by omega, ntF, Int.toNat_of_nonneg hf.1]; rw [if_pos (by assumption)] at hF; rw [← hF]; first | (rw [if_neg (by omega)]; done) | (rw [if_pos (by omega)]; done)) (Nat.le_refl _)
                exact L79 _ 0 T (by first | assumption | omega) (by split <;> rfl) (Nat.le_refl _)
          exact L60 _ 0 (snM Z s l (endJ M l p 0) 1) (by first | assumption | omega) (by show _ = nt1 M s l p; unfold nt1; rw [hZ, show e = 29 by omega]; first | (rw [if_neg (by assumption)]; rfl) | (rw [if_pos (by assumption)]; rfl)) (Nat.le_refl _)
      · skip
        refine g_aload_n cx (pc2 := 21) 0 rfl dX9_numberTo_20 rfl ?_
        refine g_iload_n cx (pc2 := 22) 1 rfl dX9_numberTo_21 rfl ?_
        refine g_iload_n cx (pc2 := 23) 2 rfl dX9_numberTo_22 rfl ?_
        refine g_iload cx (pc2 := 25) 5 rfl dX9_numberTo_23 rfl ?_
        refine g_iconst cx (pc2 := 26) dX9_numberTo_25 rfl ?_
        refine g_callV cx (pc2 := 29) (st := []) (As := [.int (iI s), .int (iI l), .int (iI e), .int (iI 0)]) (k0 := 77) (ci := 9) (c_X9_setNumber (M := Z) hn (by first | assumption | omega) s l e 0 (by first | assumption | omega) (by first | assumption | omega) (by first | assumption | omega)) wM_X9_setNumber wV_X9_setNumber kl_X9_36 rfl (by omega) rfl ⟨rfl, rfl, Nat.le_of_ble_eq_true rfl, Nat.le_of_ble_eq_true rfl⟩ (Nat.le_of_ble_eq_true rfl) cs rfl rfl dX9_numberTo_26 rfl ?_
        rintro _ _ ⟨rfl, rfl⟩
        refine g_iinc cx (pc2 := 32) 5 rfl (lv2 := [(0, .ref 77), (1, .int (iI s)), (2, .int (iI l)), (3, .int (iI p)), (4, .int (iI (ntR s l))), (5, .int (iI (e + 1)))]) rfl (Nat.le_of_ble_eq_true rfl) dX9_numberTo_29 rfl ?_
        refine g_goto cx (tgt := 13) dX9_numberTo_32 (by decide) ?_
        exact ih13 ((29 - (e + 1)).toNat) (by omega) (e + 1) (snM Z s l e 0) (by first | assumption | omega) (by rw [hZ, show (e + 1).toNat = e.toNat + 1 by omega, ntZ, Int.toNat_of_nonneg he.1]) (Nat.le_refl _)
  exact L13 _ 0 M (by first | assumption | omega) (by rfl) (Nat.le_refl _)
set_option maxHeartbeats 4000000 in
set_option maxRecDepth 100000 in
theorem c_X9_numberOfOrders {n : Nat} (hn : NN n) (h106 : n = 79) {M : Mm} (hJ : JW M) (w p : Int) (hw : 0 ≤ w ∧ w ≤ 255) (hp : 0 ≤ p ∧ p ≤ 15) : CT yX9_numberOfOrders cX9_numberOfOrders 7 (some .int) ({ frames := 3, cells := 0, slots := 0, locals := 75 }) n [.ref 77, .int (iI w), .int (iI p)] M (rI (if w = 0 then 1 else (noS M w p (w.toNat + 1)).2) ((noS M w p (w.toNat + 1)).1)) := by
  refine CT.of (lv0 := [(0, .ref 77), (1, .int (iI w)), (2, .int (iI p))]) (by decide +kernel) hn (fun _ => rfl) (fun _ => Nat.le_of_ble_eq_true rfl) (fun X cx cs qx => ?_)
  have cx : Cx X cX9_numberOfOrders RX9 ({ frames := 3, cells := 0, slots := 0, locals := 75 }) 7 n := cx
  refine g_iconst cx (pc2 := 1) dX9_numberOfOrders_0 rfl ?_
  refine g_istore_n cx (pc2 := 2) (lv2 := [(0, .ref 77), (1, .int (iI w)), (2, .int (iI p)), (3, .int (iI 0))]) rfl (Nat.le_of_ble_eq_true rfl) dX9_numberOfOrders_1 rfl ?_
  refine g_iconst cx (pc2 := 3) dX9_numberOfOrders_2 rfl ?_
  refine g_istore cx (pc2 := 5) (lv2 := [(0, .ref 77), (1, .int (iI w)), (2, .int (iI p)), (3, .int (iI 0)), (4, .int (iI 1))]) rfl (Nat.le_of_ble_eq_true rfl) dX9_numberOfOrders_3 rfl ?_
  have L5 : ∀ (fu : Nat) (s : Int) (m : Int) (T : Mm), (1 ≤ s ∧ (s ≤ w + 1)) → (T = (noS M w p s.toNat).1 ∧ m = (noS M w p s.toNat).2) → (w + 1 - s).toNat ≤ fu → G X 5 [(0, .ref 77), (1, .int (iI w)), (2, .int (iI p)), (3, .int (iI m)), (4, .int (iI s))] [] T := by
    intro fu
    induction fu using Nat.strongRecOn with
    | _ fu ih5 =>
      intro s m T hs hT hk5
      have hTo : ∀ a, a ≠ 78 → T a = M a := fun a h => by rw [hT.1]; exact noS_off M w p h _
      have hJT := JW_105 hTo hJ
      have hnd := ndN_le s.toNat w.toNat
      refine g_iload cx (pc2 := 7) 4 rfl dX9_numberOfOrders_5 rfl ?_
      refine g_iload_n cx (pc2 := 8) 1 rfl dX9_numberOfOrders_7 rfl ?_
      refine g_icmp_gt cx (pc2 := 11) (tgt := 102) ⟨(by first | assumption | omega), (by first | assumption | omega)⟩ dX9_numberOfOrders_8 (by decide) rfl (fun h_1 => ?_) (fun h_1 => ?_)
      · skip
        refine g_iload_n cx (pc2 := 103) 1 rfl dX9_numberOfOrders_102 rfl ?_
        refine g_if_ne cx (pc2 := 106) (tgt := 110) (by first | assumption | omega) dX9_numberOfOrders_103 (by decide) rfl (fun h_2 => ?_) (fun h_2 => ?_)
        · skip
          refine g_iload_n cx (pc2 := 111) 3 rfl dX9_numberOfOrders_110 rfl ?_
          exact g_iret cx qx dX9_numberOfOrders_111 ⟨congrArg (fun q => some (Value.int (iI q))) (by first | (rw [if_pos (by assumption)]; done) | (rw [if_neg (by assumption), hT.2, show s = w + 1 by omega, show (w + 1).toNat = w.toNat + 1 by omega]; done)), by rw [hT.1, show s = w + 1 by omega, show (w + 1).toNat = w.toNat + 1 by omega]⟩
        · skip
          refine g_iconst cx (pc2 := 107) dX9_numberOfOrders_106 rfl ?_
          refine g_goto cx (tgt := 111) dX9_numberOfOrders_107 (by decide) ?_
          exact g_iret cx qx dX9_numberOfOrders_111 ⟨congrArg (fun q => some (Value.int (iI q))) (by first | (rw [if_pos (by assumption)]; done) | (rw [if_neg (by assumption), hT.2, show s = w + 1 by omega, show (w + 1).toNat = w.toNat + 1 by omega]; done)), by rw [hT.1, show s = w + 1 by omega, show (w + 1).toNat = w.toNat + 1 by omega]⟩
      · skip
        refine g_iload cx (pc2 := 13) 4 rfl dX9_numberOfOrders_11 rfl ?_
        refine g_sipush cx (pc2 := 16) ⟨by decide, by decide⟩ dX9_numberOfOrders_13 rfl ?_
        refine g_icmp_ge cx (pc2 := 19) (tgt := 102) ⟨(by first | assumption | omega), ⟨by decide, by decide⟩⟩ dX9_numberOfOrders_16 (by decide) rfl (fun h_3 => ?_) (fun h_3 => ?_)
        · skip
          omega
        · skip
          refine g_iload cx (pc2 := 21) 4 rfl dX9_numberOfOrders_19 rfl ?_
          refine g_iload_n cx (pc2 := 22) 1 rfl dX9_numberOfOrders_21 rfl ?_
          refine g_iconst cx (pc2 := 23) dX9_numberOfOrders_22 rfl ?_
          refine g_ixor cx (pc2 := 24) dX9_numberOfOrders_23 rfl ?_
          refine g_iand cx (pc2 := 25) dX9_numberOfOrders_24 rfl ?_
          refine g_rwi (y := iI ((ndN s.toNat w.toNat : Nat) : Int)) (nd_iI (by omega) (by omega)) ?_
          refine g_if_ne cx (pc2 := 28) (tgt := 32) (by first | assumption | omega) dX9_numberOfOrders_25 (by decide) rfl (fun h_4 => ?_) (fun h_4 => ?_)
          · skip
            refine g_iconst cx (pc2 := 33) dX9_numberOfOrders_32 rfl ?_
            refine g_istore cx (pc2 := 35) (lv2 := [(0, .ref 77), (1, .int (iI w)), (2, .int (iI p)), (3, .int (iI m)), (4, .int (iI s)), (5, .int (iI 0))]) rfl (Nat.le_of_ble_eq_true rfl) dX9_numberOfOrders_33 rfl ?_
            refine g_iconst cx (pc2 := 36) dX9_numberOfOrders_35 rfl ?_
            refine g_istore cx (pc2 := 38) (lv2 := [(0, .ref 77), (1, .int (iI w)), (2, .int (iI p)), (3, .int (iI m)), (4, .int (iI s)), (5, .int (iI 0)), (6, .int (iI 0))]) rfl (Nat.le_of_ble_eq_true rfl) dX9_numberOfOrders_36 rfl ?_
            refine g_iload cx (pc2 := 40) 6 rfl dX9_numberOfOrders_38 rfl ?_
            refine g_bipush cx (pc2 := 42) ⟨by decide, by decide⟩ dX9_numberOfOrders_40 rfl ?_
            refine g_icmp_ge cx (pc2 := 45) (tgt := 96) ⟨⟨by decide, by decide⟩, ⟨by decide, by decide⟩⟩ dX9_numberOfOrders_42 (by decide) rfl (fun h_5 => ?_) (fun h_5 => ?_)
            · skip
              omega
            · skip
              refine g_iload cx (pc2 := 47) 5 rfl dX9_numberOfOrders_45 rfl ?_
              refine g_if_eq cx (pc2 := 50) (tgt := 96) ⟨by decide, by decide⟩ dX9_numberOfOrders_47 (by decide) rfl (fun h_6 => ?_) (fun h_6 => ?_)
              · skip
                refine g_iinc cx (pc2 := 99) 4 rfl (lv2 := [(0, .ref 77), (1, .int (iI w)), (2, .int (iI p)), (3, .int (iI m)), (4, .int (iI (s + 1))), (5, .int (iI 0)), (6, .int (iI 0))]) rfl (Nat.le_of_ble_eq_true rfl) dX9_numberOfOrders_96 rfl ?_
                refine g_goto cx (tgt := 5) dX9_numberOfOrders_99 (by decide) ?_
                refine g_sub (lv2 := [(0, .ref 77), (1, .int (iI w)), (2, .int (iI p)), (3, .int (iI m)), (4, .int (iI (s + 1)))]) [0, 1, 2, 3, 4] rfl ?_
                exact ih5 ((w + 1 - (s + 1)).toNat) (by omega) (s + 1) m T (by first | assumption | omega) (by rw [show (s + 1).toNat = (s.toNat - 1) + 2 by omega, noS, show s.toNat - 1 + 1 = s.toNat by omega, ← hT.1, ← hT.2, Int.toNat_of_nonneg (show 0 ≤ s by omega)]; first | (rw [if_neg (by omega)]; exact hT) | (rw [if_pos (by omega), show (8 : Nat) = l.toNat by omega]; exact hF)) (Nat.le_refl _)
              · skip
                omega
          · skip
            refine g_iconst cx (pc2 := 29) dX9_numberOfOrders_28 rfl ?_
            refine g_goto cx (tgt := 33) dX9_numberOfOrders_29 (by decide) ?_
            refine g_istore cx (pc2 := 35) (lv2 := [(0, .ref 77), (1, .int (iI w)), (2, .int (iI p)), (3, .int (iI m)), (4, .int (iI s)), (5, .int (iI 1))]) rfl (Nat.le_of_ble_eq_true rfl) dX9_numberOfOrders_33 rfl ?_
            refine g_iconst cx (pc2 := 36) dX9_numberOfOrders_35 rfl ?_
            refine g_istore cx (pc2 := 38) (lv2 := [(0, .ref 77), (1, .int (iI w)), (2, .int (iI p)), (3, .int (iI m)), (4, .int (iI s)), (5, .int (iI 1)), (6, .int (iI 0))]) rfl (Nat.le_of_ble_eq_true rfl) dX9_numberOfOrders_36 rfl ?_
            have L38 : ∀ (fu : Nat) (l : Int) (q : Int) (F : Mm), (0 ≤ l ∧ l ≤ 8) → (F = (noI T w p s m l.toNat).1 ∧ q = (noI T w p s m l.toNat).2) → (8 - l).toNat ≤ fu → G X 38 [(0, .ref 77), (1, .int (iI w)), (2, .int (iI p)), (3, .int (iI q)), (4, .int (iI s)), (5, .int (iI 1)), (6, .int (iI l))] [] F := by
              intro fu
              induction fu using Nat.strongRecOn with
              | _ fu ih38 =>
                intro l q F hl hF hk38
                have hFo : ∀ a, a ≠ 78 → F a = T a := fun a h => by rw [hF.1]; exact noI_off T w p s m h _
                have hJF := JW_105 hFo hJT
                refine g_iload cx (pc2 := 40) 6 rfl dX9_numberOfOrders_38 rfl ?_
                refine g_bipush cx (pc2 := 42) ⟨by decide, by decide⟩ dX9_numberOfOrders_40 rfl ?_
                refine g_icmp_ge cx (pc2 := 45) (tgt := 96) ⟨(by first | assumption | omega), ⟨by decide, by decide⟩⟩ dX9_numberOfOrders_42 (by decide) rfl (fun h_7 => ?_) (fun h_7 => ?_)
                · skip
                  refine g_iinc cx (pc2 := 99) 4 rfl (lv2 := [(0, .ref 77), (1, .int (iI w)), (2, .int (iI p)), (3, .int (iI q)), (4, .int (iI (s + 1))), (5, .int (iI 1)), (6, .int (iI l))]) rfl (Nat.le_of_ble_eq_true rfl) dX9_numberOfOrders_96 rfl ?_
                  refine g_goto cx (tgt := 5) dX9_numberOfOrders_99 (by decide) ?_
                  refine g_sub (lv2 := [(0, .ref 77), (1, .int (iI w)), (2, .int (iI p)), (3, .int (iI q)), (4, .int (iI (s + 1)))]) [0, 1, 2, 3, 4] rfl ?_
                  exact ih5 ((w + 1 - (s + 1)).toNat) (by omega) (s + 1) q F (by first | assumption | omega) (by rw [show (s + 1).toNat = (s.toNat - 1) + 2 by omega, noS, show s.toNat - 1 + 1 = s.toNat by omega, ← hT.1, ← hT.2, Int.toNat_of_nonneg (show 0 ≤ s by omega)]; first | (rw [if_neg (by omega)]; exact hT) | (rw [if_pos (by omega), show (8 : Nat) = l.toNat by omega]; exact hF)) (Nat.le_refl _)
                · skip
                  refine g_iload cx (pc2 := 47) 5 rfl dX9_numberOfOrders_45 rfl ?_
                  refine g_if_eq cx (pc2 := 50) (tgt := 96) ⟨by decide, by decide⟩ dX9_numberOfOrders_47 (by decide) rfl (fun h_8 => ?_) (fun h_8 => ?_)
                  · skip
                    omega
                  · skip
                    have L90 : ∀ (q2 : Int) (F2 : Mm), (F2 = (noI T w p s m (l + 1).toNat).1 ∧ q2 = (noI T w p s m (l + 1).toNat).2) → G X 90 [(0, .ref 77), (1, .int (iI w)), (2, .int (iI p)), (3, .int (iI q2)), (4, .int (iI s)), (5, .int (iI 1)), (6, .int (iI l))] [] F2 := by
                      intro q2 F2 hF2
                      refine g_iinc cx (pc2 := 93) 6 rfl (lv2 := [(0, .ref 77), (1, .int (iI w)), (2, .int (iI p)), (3, .int (iI q2)), (4, .int (iI s)), (5, .int (iI 1)), (6, .int (iI (l + 1)))]) rfl (Nat.le_of_ble_eq_true rfl) dX9_numberOfOrders_90 rfl ?_
                      refine g_goto cx (tgt := 38) dX9_numberOfOrders_93 (by decide) ?_
                      exact ih38 ((8 - (l + 1)).toNat) (by omega) (l + 1) q2 F2 (by first | assumption | omega) (by exact hF2) (Nat.le_refl _)
                    refine g_iload cx (pc2 := 52) 6 rfl dX9_numberOfOrders_50 rfl ?_
                    refine g_iload cx (pc2 := 54) 4 rfl dX9_numberOfOrders_52 rfl ?_
                    refine g_callSN cx (pc2 := 57) (st := []) (As := [.int (iI l), .int (iI s)]) (c_X11_isIn (M := F) hn l s (by first | assumption | omega) (by first | assumption | omega)) wM_X11_isIn wS_X11_isIn kl_X9_20 ⟨rfl, rfl, Nat.le_of_ble_eq_true rfl, Nat.le_of_ble_eq_true rfl⟩ (Nat.le_of_ble_eq_true rfl) cs rfl rfl dX9_numberOfOrders_54 rfl ?_
                    rintro _ _ ⟨rfl, rfl⟩
                    refine g_ifb_eq cx (pc2 := 60) (tgt := 90) dX9_numberOfOrders_57 (by decide) rfl (fun h_9 => ?_) (fun h_9 => ?_)
                    · skip
                      exact L90 q F (by rw [show (l + 1).toNat = l.toNat + 1 by omega, noI, Int.toNat_of_nonneg hl.1, ← hF.1, ← hF.2]; first | (rw [if_neg (by assumption)]; exact hF) | (rw [if_pos (by assumption)]; refine ⟨rfl, ?_⟩; first | (rw [if_pos (by assumption)]; done) | (rw [if_neg (by assumption)]; done)))
                    · skip
                      refine g_aload_n cx (pc2 := 61) 0 rfl dX9_numberOfOrders_60 rfl ?_
                      refine g_iload cx (pc2 := 63) 4 rfl dX9_numberOfOrders_61 rfl ?_
                      refine g_iload cx (pc2 := 65) 6 rfl dX9_numberOfOrders_63 rfl ?_
                      refine g_iload_n cx (pc2 := 66) 2 rfl dX9_numberOfOrders_65 rfl ?_
                      refine g_callV cx (pc2 := 69) (st := []) (As := [.int (iI s), .int (iI l), .int (iI p)]) (k0 := 77) (ci := 9) (c_X9_numberTo (M := F) hn (by first | assumption | omega) (by exact hJF) s l p (by first | assumption | omega) (by first | assumption | omega) (by first | assumption | omega)) wM_X9_numberTo wV_X9_numberTo kl_X9_24 rfl (by omega) rfl ⟨rfl, rfl, Nat.le_of_ble_eq_true rfl, Nat.le_of_ble_eq_true rfl⟩ (Nat.le_of_ble_eq_true rfl) cs rfl rfl dX9_numberOfOrders_66 rfl ?_
                      rintro _ _ ⟨rfl, rfl⟩
                      refine g_iload_n cx (pc2 := 70) 3 rfl dX9_numberOfOrders_69 rfl ?_
                      refine g_iload cx (pc2 := 72) 4 rfl dX9_numberOfOrders_70 rfl ?_
                      refine g_iload_n cx (pc2 := 73) 1 rfl dX9_numberOfOrders_72 rfl ?_
                      refine g_icmp_ne cx (pc2 := 76) (tgt := 87) ⟨(by first | assumption | omega), (by first | assumption | omega)⟩ dX9_numberOfOrders_73 (by decide) rfl (fun h_10 => ?_) (fun h_10 => ?_)
                      · skip
                        refine g_iconst cx (pc2 := 88) dX9_numberOfOrders_87 rfl ?_
                        refine g_iadd cx (pc2 := 89) dX9_numberOfOrders_88 rfl ?_
                        refine g_istore_n cx (pc2 := 90) (lv2 := [(0, .ref 77), (1, .int (iI w)), (2, .int (iI p)), (3, .int (iI (q + 0))), (4, .int (iI s)), (5, .int (iI 1)), (6, .int (iI l))]) rfl (Nat.le_of_ble_eq_true rfl) dX9_numberOfOrders_89 rfl ?_
                        exact L90 (q + 0) (ntM F s l p) (by rw [show (l + 1).toNat = l.toNat + 1 by omega, noI, Int.toNat_of_nonneg hl.1, ← hF.1, ← hF.2]; first | (rw [if_neg (by assumption)]; exact hF) | (rw [if_pos (by assumption)]; refine ⟨rfl, ?_⟩; first | (rw [if_pos (by assumption)]; done) | (rw [if_neg (by assumption)]; done)))
                      · skip
                        refine g_aload_n cx (pc2 := 77) 0 rfl dX9_numberOfOrders_76 rfl ?_
                        refine g_iload cx (pc2 := 79) 4 rfl dX9_numberOfOrders_77 rfl ?_
                        refine g_iload cx (pc2 := 81) 6 rfl dX9_numberOfOrders_79 rfl ?_
                        refine g_callV cx (pc2 := 84) (st := [.int (iI q)]) (As := [.int (iI s), .int (iI l)]) (k0 := 77) (ci := 9) (c_X9_sumOf (M := (ntM F s l p)) hn (by first | assumption | omega) s l (by first | assumption | omega) (by first | assumption | omega)) wM_X9_sumOf wV_X9_sumOf kl_X9_28 rfl (by omega) rfl ⟨rfl, rfl, Nat.le_of_ble_eq_true rfl, Nat.le_of_ble_eq_true rfl⟩ (Nat.le_of_ble_eq_true rfl) cs rfl rfl dX9_numberOfOrders_81 rfl ?_
                        rintro _ _ ⟨rfl, rfl⟩
                        refine g_goto cx (tgt := 88) dX9_numberOfOrders_84 (by decide) ?_
                        refine g_iadd cx (pc2 := 89) dX9_numberOfOrders_88 rfl ?_
                        refine g_istore_n cx (pc2 := 90) (lv2 := [(0, .ref 77), (1, .int (iI w)), (2, .int (iI p)), (3, .int (iI (q + (smO (ntM F s l p) s l)))), (4, .int (iI s)), (5, .int (iI 1)), (6, .int (iI l))]) rfl (Nat.le_of_ble_eq_true rfl) dX9_numberOfOrders_89 rfl ?_
                        exact L90 (q + (smO (ntM F s l p) s l)) (ntM F s l p) (by rw [show (l + 1).toNat = l.toNat + 1 by omega, noI, Int.toNat_of_nonneg hl.1, ← hF.1, ← hF.2]; first | (rw [if_neg (by assumption)]; exact hF) | (rw [if_pos (by assumption)]; refine ⟨rfl, ?_⟩; first | (rw [if_pos (by assumption)]; done) | (rw [if_neg (by assumption)]; done)))
            exact L38 _ 0 m T (by first | assumption | omega) (by exact ⟨rfl, rfl⟩) (Nat.le_refl _)
  exact L5 _ 1 0 M (by first | assumption | omega) (by exact ⟨rfl, rfl⟩) (Nat.le_refl _)
