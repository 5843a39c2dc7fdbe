theorem g_astoreN {X : Cq} {cc : ByteArray} {own : String} {R0 : Room} {nL n : Nat} (cx : Cx X cc own R0 nL n) {pc pc2 : Nat} {lv : List (Nat × Value)} {st : List Value} {M : Mm} {i : Nat} {lv2 : List (Nat × Value)} (hl2 : lset1 lv i (.null) = lv2) (hi : i < nL) (hd : decode cc pc = .ok (.astore i, 2)) (hp : pc + 2 = pc2) (k : G X pc2 lv2 st M) : G X pc lv (.null :: st) M := by
  obtain ⟨p, l, e, R, s, m, args, below, meth, c, nL2, P, n2, A, cells, slots, Q⟩ := X
  obtain ⟨⟨hx, hb, hml, hown, hts⟩, hK, hA, hAw, hiP, hSg, hlk, hR, hnL, hn, hn1, hn2, hnw⟩ := cx
  subst hp
  subst hl2
  subst hnL
  intro H locs ls hl hP hS
  exact lv_astoreN hx hb hd hl hi rfl (fun ls2 hl2 => k H locs ls2 (lset_mem hl2 lset1_in) hP hS)
abbrev R6 (r : Int) : Prop := 0 ≤ r ∧ r < 6
abbrev T4 (r : Int) : Prop := 0 ≤ r ∧ r < 4
abbrev rO (r : Int) : Nat := 3 + 2 * r.toNat
abbrev tO (r : Int) : Nat := 15 + 2 * r.toNat
abbrev hsR (M : Mm) (o : Nat) (i : Int) : Prop := 0 ≤ i ∧ i < M o 1
abbrev hpR (M : Mm) (o : Nat) (i q : Int) : Prop := 0 ≤ i ∧ i ≤ M o 1 ∧ 0 ≤ q ∧ q ≤ M o 1 - i
theorem rO_ok {r : Int} (h : R6 r) : isRowO (rO r) ∧ rO r < 15 := by unfold rO; omega
theorem tO_ok {r : Int} (h : T4 r) : isRowO (tO r) ∧ ¬ tO r < 15 := by unfold tO; omega
def by8 (v : Int) : Int := ((iI v).toInt8.toInt32).toInt
theorem by8_b (v : Int) : -128 ≤ by8 v ∧ by8 v ≤ 127 := by
  unfold by8
  rw [Int8.toInt_toInt32]
  have h1 := Int8.le_toInt (iI v).toInt8
  have h2 := Int8.toInt_lt (iI v).toInt8
  omega
theorem smZ_ir {f : Nat → Int} (h : ∀ j, ir (f j)) : ∀ k : Nat, -2147483648 * (k : Int) ≤ smZ f k ∧ smZ f k ≤ 2147483648 * (k : Int)
  | 0 => by simp [smZ]
  | k + 1 => by
    have h1 := smZ_ir h k
    have h2 := h k
    rw [smZ]
    omega
/-- told; a finding -/
def tdM (M : Mm) (v : Int) : Mm := stM M 0 15 v
def sgn (M : Mm) (o : Nat) : Int → Int := fun i => if 0 ≤ i ∧ i < M o 1 then M (o + 1) i.toNat else 0
theorem CI.tx {M : Mm} (h : CI M) {o : Nat} (ho : isRowO o) (h15 : ¬ o < 15) : TX M o (sgn M o) := ⟨(h.rw o ho).1, h.tw o ho (by omega), fun _ => rfl⟩
def rowA (r n : Int) : Int := if ¬ R6 r ∨ 60 < n then -1 else if n < 0 then -3 else n
def rowM (M : Mm) (r n : Int) : Mm := if ¬ R6 r ∨ 60 < n then M else if n < 0 then fdM M 5 else mkM M (3 + 2 * r.toNat) n 0
def layA (M : Mm) (r i : Int) : Int := if ¬ R6 r then -1 else if M (3 + 2 * r.toNat) 1 < 0 then -3 else if ¬ hsR M (3 + 2 * r.toNat) i then -3 else 1
def layM (M : Mm) (r i v : Int) : Mm := if ¬ R6 r then M else if M (3 + 2 * r.toNat) 1 < 0 then fdM M 1 else if ¬ hsR M (3 + 2 * r.toNat) i then fdM M 2 else stM (tdM M (M (3 + 2 * r.toNat + 1) i.toNat)) (3 + 2 * r.toNat + 1) i.toNat v
def atM (M : Mm) (r i : Int) : Mm := if ¬ R6 r then M else if M (3 + 2 * r.toNat) 1 < 0 then fdM M 1 else if ¬ hsR M (3 + 2 * r.toNat) i then fdM M 2 else tdM M (M (3 + 2 * r.toNat + 1) i.toNat)
def tearA (M : Mm) (r : Int) : Int := if ¬ R6 r then -1 else if M (3 + 2 * r.toNat) 1 < 0 then -3 else 1
def tearM (M : Mm) (r : Int) : Mm := if ¬ R6 r then M else if M (3 + 2 * r.toNat) 1 < 0 then fdM M 1 else stM M (3 + 2 * r.toNat) 1 (-1)
def copyA (M : Mm) (r i t j n : Int) : Int := if ¬ R6 r ∨ ¬ R6 t then -1 else if n < 0 then -3 else if M (3 + 2 * r.toNat) 1 < 0 ∨ M (3 + 2 * t.toNat) 1 < 0 then -3 else if ¬ hpR M (3 + 2 * r.toNat) i n ∨ ¬ hpR M (3 + 2 * t.toNat) j n then -3 else 1
def copyM (M : Mm) (r i t j n : Int) : Mm := if ¬ R6 r ∨ ¬ R6 t then M else if n < 0 then fdM M 5 else if M (3 + 2 * r.toNat) 1 < 0 ∨ M (3 + 2 * t.toNat) 1 < 0 then fdM M 1 else if ¬ hpR M (3 + 2 * r.toNat) i n ∨ ¬ hpR M (3 + 2 * t.toNat) j n then fdM M 2 else cpM M (3 + 2 * r.toNat + 1) (3 + 2 * t.toNat + 1) i.toNat j.toNat n.toNat
def meanA (M : Mm) (r : Int) : Int := if ¬ R6 r then -1 else if M (3 + 2 * r.toNat) 1 < 0 then -3 else if M (3 + 2 * r.toNat) 1 ≤ 0 then -3 else 1
def meanM (M : Mm) (r : Int) : Mm := if ¬ R6 r then M else if M (3 + 2 * r.toNat) 1 < 0 then fdM M 1 else if M (3 + 2 * r.toNat) 1 ≤ 0 then fdM M 4 else tdM M ((smZ (M (3 + 2 * r.toNat + 1)) (M (3 + 2 * r.toNat) 1).toNat).tdiv (M (3 + 2 * r.toNat) 1))
def textA (r n : Int) : Int := if ¬ T4 r ∨ 120 < n then -1 else if n < 0 then -3 else n
def textM (M : Mm) (r n : Int) : Mm := if ¬ T4 r ∨ 120 < n then M else if n < 0 then fdM M 5 else mkM M (15 + 2 * r.toNat) n 32
def putA (M : Mm) (r i : Int) : Int := if ¬ T4 r then -1 else if M (15 + 2 * r.toNat) 1 < 0 then -3 else if ¬ hsR M (15 + 2 * r.toNat) i then -3 else M (15 + 2 * r.toNat + 1) i.toNat + 1000
def putM (M : Mm) (r i v : Int) : Mm := if ¬ T4 r then M else if M (15 + 2 * r.toNat) 1 < 0 then fdM M 1 else if ¬ hsR M (15 + 2 * r.toNat) i then fdM M 2 else stM M (15 + 2 * r.toNat + 1) i.toNat (by8 v)
def dfM (M : Mm) (r : Int) : Mm := rdA (sgn M (15 + 2 * r.toNat)) 35 M (M (15 + 2 * r.toNat) 1)
def fauA (M : Mm) (r : Int) : Int := if ¬ T4 r then -1 else if M (15 + 2 * r.toNat) 1 < 0 then -3 else dfM M r 47 1
def fauM (M : Mm) (r : Int) : Mm := if ¬ T4 r then M else if M (15 + 2 * r.toNat) 1 < 0 then fdM M 1 else dfM M r
set_option maxHeartbeats 4000000 in
set_option maxRecDepth 100000 in
theorem c_X11_text {n : Nat} (hn : NN n) {M : Mm} (hci : CI M) (r q : Int) (hr : ir r) (hq : ir q) : CT yX11_text cX11_text 4 (some .int) ({ frames := 1, cells := 0, slots := 0, locals := 23 }) n [.ref 0, .int (iI r), .int (iI q)] M (rI (textA r q) (textM M r q)) := by
  refine CT.of (lv0 := [(0, .ref 0), (1, .int (iI r)), (2, .int (iI q))]) (by decide +kernel) hn (fun _ => rfl) (fun _ => Nat.le_of_ble_eq_true rfl) (fun X cx cs qx => ?_)
  have cx : Cx X cX11_text RX11 ({ frames := 1, cells := 0, slots := 0, locals := 23 }) 4 n := cx
  have hrow := fun q : T4 r => hci.rw (15 + 2 * r.toNat) (tO_ok q).1
  have hcap := capO_b (15 + 2 * r.toNat)
  have hcp := fun q : T4 r => (capO_120 (tO_ok q).2 : capO (15 + 2 * r.toNat) = 120)
  by_cases hR : T4 r
  · skip
    refine g_aload_n cx (pc2 := 1) 0 rfl dX11_text_0 rfl ?_
    refine g_iload_n cx (pc2 := 2) 1 rfl dX11_text_1 rfl ?_
    refine g_callV cx (pc2 := 5) (st := []) (As := [.int (iI r)]) (k0 := 0) (ci := 11) (c_textOf_in (M := M) hn r (by assumption)) wM_X11_textOf wV_X11_textOf kl_X11_154 rfl (lt_lit hn (Nat.le_of_ble_eq_true rfl)) rfl ⟨rfl, rfl, Nat.le_of_ble_eq_true rfl, Nat.le_of_ble_eq_true rfl⟩ (Nat.le_of_ble_eq_true rfl) cs rfl rfl dX11_text_2 rfl ?_
    rintro _ _ ⟨rfl, rfl⟩
    refine g_astore_n cx (pc2 := 6) (lv2 := [(0, .ref 0), (1, .int (iI r)), (2, .int (iI q)), (3, .ref (15 + 2 * r.toNat))]) rfl (Nat.le_of_ble_eq_true rfl) dX11_text_5 rfl ?_
    refine g_aload_n cx (pc2 := 7) 3 rfl dX11_text_6 rfl ?_
    refine g_ifnull cx (pc2 := 10) dX11_text_7 rfl ?_
    refine g_iload_n cx (pc2 := 11) 2 rfl dX11_text_10 rfl ?_
    refine g_bipush cx (pc2 := 13) ⟨by decide, by decide⟩ dX11_text_11 rfl ?_
    refine g_icmp_le cx (pc2 := 16) (tgt := 18) ⟨(by first | assumption | omega), ⟨by decide, by decide⟩⟩ dX11_text_13 (by decide) rfl (fun h_1 => ?_) (fun h_1 => ?_)
    · skip
      refine g_iload_n cx (pc2 := 19) 2 rfl dX11_text_18 rfl ?_
      refine g_if_ge cx (pc2 := 22) (tgt := 28) (by first | assumption | omega) dX11_text_19 (by decide) rfl (fun h_2 => ?_) (fun h_2 => ?_)
      · skip
        refine g_aload_n cx (pc2 := 29) 3 rfl dX11_text_28 rfl ?_
        refine g_iload_n cx (pc2 := 30) 2 rfl dX11_text_29 rfl ?_
        refine g_bipush cx (pc2 := 32) ⟨by decide, by decide⟩ dX11_text_30 rfl ?_
        refine g_callV cx (pc2 := 35) (st := []) (As := [.int (iI q), .int (iI 32)]) (k0 := (15 + 2 * r.toNat)) (ci := 8) (c_X8_make (M := M) hn (by exact (tO_ok hR).1) q 32 (by first | assumption | omega)) wM_X8_make wV_X8_make kl_X11_117 (sh_row ((tO_ok hR).1)) (by have := (tO_ok hR).1; omega) rfl ⟨rfl, rfl, Nat.le_of_ble_eq_true rfl, Nat.le_of_ble_eq_true rfl⟩ (Nat.le_of_ble_eq_true rfl) cs rfl rfl dX11_text_32 rfl ?_
        rintro _ _ ⟨rfl, rfl⟩
        have hq9 := hcp hR
        refine g_iload_n cx (pc2 := 36) 2 rfl dX11_text_35 rfl ?_
        exact g_iret cx qx dX11_text_36 ⟨congrArg (fun q => some (Value.int (iI q))) (by unfold textA; (repeat (first | rw [if_pos (by first | assumption | omega)] | rw [if_neg (by first | assumption | exact not_not_intro (by assumption) | omega)])); first | done | rfl), by unfold textM; first | (rw [if_neg (by omega), if_neg (by omega), if_neg (by omega)]; done) | ((repeat (first | rw [if_pos (by first | assumption | omega)] | rw [if_neg (by first | assumption | exact not_not_intro (by assumption) | omega)])); first | done | rfl)⟩
      · skip
        refine g_aload_n cx (pc2 := 23) 0 rfl dX11_text_22 rfl ?_
        refine g_iconst cx (pc2 := 24) dX11_text_23 rfl ?_
        refine g_callV cx (pc2 := 27) (st := []) (As := [.int (iI 5)]) (k0 := 0) (ci := 11) (c_X11_found (M := M) hn 5 (by first | assumption | omega)) wM_X11_found wV_X11_found kl_X11_113 rfl (lt_lit hn (Nat.le_of_ble_eq_true rfl)) rfl ⟨rfl, rfl, Nat.le_of_ble_eq_true rfl, Nat.le_of_ble_eq_true rfl⟩ (Nat.le_of_ble_eq_true rfl) cs rfl rfl dX11_text_24 rfl ?_
        rintro _ _ ⟨rfl, rfl⟩
        exact g_iret cx qx dX11_text_27 ⟨congrArg (fun q => some (Value.int (iI q))) (by unfold textA; (repeat (first | rw [if_pos (by first | assumption | omega)] | rw [if_neg (by first | assumption | exact not_not_intro (by assumption) | omega)])); first | done | rfl), by unfold textM; first | (rw [if_neg (by omega), if_neg (by omega), if_neg (by omega)]; done) | ((repeat (first | rw [if_pos (by first | assumption | omega)] | rw [if_neg (by first | assumption | exact not_not_intro (by assumption) | omega)])); first | done | rfl)⟩
    · skip
      refine g_iconst cx (pc2 := 17) dX11_text_16 rfl ?_
      exact g_iret cx qx dX11_text_17 ⟨congrArg (fun q => some (Value.int (iI q))) (by unfold textA; (repeat (first | rw [if_pos (by first | assumption | omega)] | rw [if_neg (by first | assumption | exact not_not_intro (by assumption) | omega)])); first | done | rfl), by unfold textM; first | (rw [if_neg (by omega), if_neg (by omega), if_neg (by omega)]; done) | ((repeat (first | rw [if_pos (by first | assumption | omega)] | rw [if_neg (by first | assumption | exact not_not_intro (by assumption) | omega)])); first | done | rfl)⟩
  · skip
    refine g_aload_n cx (pc2 := 1) 0 rfl dX11_text_0 rfl ?_
    refine g_iload_n cx (pc2 := 2) 1 rfl dX11_text_1 rfl ?_
    refine g_callV cx (pc2 := 5) (st := []) (As := [.int (iI r)]) (k0 := 0) (ci := 11) (c_textOf_out (M := M) hn r (by assumption) (by assumption)) wM_X11_textOf wV_X11_textOf kl_X11_154 rfl (lt_lit hn (Nat.le_of_ble_eq_true rfl)) rfl ⟨rfl, rfl, Nat.le_of_ble_eq_true rfl, Nat.le_of_ble_eq_true rfl⟩ (Nat.le_of_ble_eq_true rfl) cs rfl rfl dX11_text_2 rfl ?_
    rintro _ _ ⟨rfl, rfl⟩
    refine g_astore_nN cx (pc2 := 6) (lv2 := [(0, .ref 0), (1, .int (iI r)), (2, .int (iI q)), (3, .null)]) rfl (Nat.le_of_ble_eq_true rfl) dX11_text_5 rfl ?_
    refine g_aload_nN cx (pc2 := 7) 3 rfl dX11_text_6 rfl ?_
    refine g_ifnullN cx (tgt := 16) dX11_text_7 (by decide) ?_
    refine g_iconst cx (pc2 := 17) dX11_text_16 rfl ?_
    exact g_iret cx qx dX11_text_17 ⟨congrArg (fun q => some (Value.int (iI q))) (by unfold textA; (repeat (first | rw [if_pos (by first | assumption | omega)] | rw [if_neg (by first | assumption | exact not_not_intro (by assumption) | omega)])); first | done | rfl), by unfold textM; first | (rw [if_neg (by omega), if_neg (by omega), if_neg (by omega)]; done) | ((repeat (first | rw [if_pos (by first | assumption | omega)] | rw [if_neg (by first | assumption | exact not_not_intro (by assumption) | omega)])); first | done | rfl)⟩
set_option maxHeartbeats 4000000 in
set_option maxRecDepth 100000 in
theorem c_X11_put {n : Nat} (hn : NN n) {M : Mm} (hci : CI M) (r i v : Int) (hr : ir r) (hi : ir i) : CT yX11_put cX11_put 6 (some .int) ({ frames := 2, cells := 0, slots := 0, locals := 43 }) n [.ref 0, .int (iI r), .int (iI i), .int (iI v)] M (rI (putA M r i) (putM M r i v)) := by
  refine CT.of (lv0 := [(0, .ref 0), (1, .int (iI r)), (2, .int (iI i)), (3, .int (iI v))]) (by decide +kernel) hn (fun _ => rfl) (fun _ => Nat.le_of_ble_eq_true rfl) (fun X cx cs qx => ?_)
  have cx : Cx X cX11_put RX11 ({ frames := 2, cells := 0, slots := 0, locals := 43 }) 6 n := cx
  have hrow := fun q : T4 r => hci.rw (15 + 2 * r.toNat) (tO_ok q).1
  have hcap := capO_b (15 + 2 * r.toNat)
  have hcp := fun q : T4 r => (capO_120 (tO_ok q).2 : capO (15 + 2 * r.toNat) = 120)
  by_cases hR : T4 r
  · skip
    refine g_aload_n cx (pc2 := 1) 0 rfl dX11_put_0 rfl ?_
    refine g_iload_n cx (pc2 := 2) 1 rfl dX11_put_1 rfl ?_
    refine g_callV cx (pc2 := 5) (st := []) (As := [.int (iI r)]) (k0 := 0) (ci := 11) (c_textOf_in (M := M) hn r (by assumption)) wM_X11_textOf wV_X11_textOf kl_X11_154 rfl (lt_lit hn (Nat.le_of_ble_eq_true rfl)) rfl ⟨rfl, rfl, Nat.le_of_ble_eq_true rfl, Nat.le_of_ble_eq_true rfl⟩ (Nat.le_of_ble_eq_true rfl) cs rfl rfl dX11_put_2 rfl ?_
    rintro _ _ ⟨rfl, rfl⟩
    refine g_astore cx (pc2 := 7) (lv2 := [(0, .ref 0), (1, .int (iI r)), (2, .int (iI i)), (3, .int (iI v)), (4, .ref (15 + 2 * r.toNat))]) rfl (Nat.le_of_ble_eq_true rfl) dX11_put_5 rfl ?_
    refine g_aload cx (pc2 := 9) 4 rfl dX11_put_7 rfl ?_
    refine g_ifnonnull cx (tgt := 14) dX11_put_9 (by decide) ?_
    refine g_aload cx (pc2 := 16) 4 rfl dX11_put_14 rfl ?_
    refine g_callV cx (pc2 := 19) (st := []) (As := []) (k0 := (15 + 2 * r.toNat)) (ci := 8) (c_X8_isMissing (M := M) hn (by exact (tO_ok hR).1) (by exact (hrow hR).1)) wM_X8_isMissing wV_X8_isMissing kl_X11_121 (sh_row ((tO_ok hR).1)) (by have := (tO_ok hR).1; omega) rfl ⟨rfl, rfl, Nat.le_of_ble_eq_true rfl, Nat.le_of_ble_eq_true rfl⟩ (Nat.le_of_ble_eq_true rfl) cs rfl rfl dX11_put_16 rfl ?_
    rintro _ _ ⟨rfl, rfl⟩
    refine g_ifb_eq cx (pc2 := 22) (tgt := 28) dX11_put_19 (by decide) rfl (fun h_1 => ?_) (fun h_1 => ?_)
    · skip
      refine g_aload cx (pc2 := 30) 4 rfl dX11_put_28 rfl ?_
      refine g_iload_n cx (pc2 := 31) 2 rfl dX11_put_30 rfl ?_
      refine g_callV cx (pc2 := 34) (st := []) (As := [.int (iI i)]) (k0 := (15 + 2 * r.toNat)) (ci := 8) (c_X8_has (M := M) hn (by exact (tO_ok hR).1) (by exact (hrow hR).1) i (by first | assumption | omega)) wM_X8_has wV_X8_has kl_X11_125 (sh_row ((tO_ok hR).1)) (by have := (tO_ok hR).1; omega) rfl ⟨rfl, rfl, Nat.le_of_ble_eq_true rfl, Nat.le_of_ble_eq_true rfl⟩ (Nat.le_of_ble_eq_true rfl) cs rfl rfl dX11_put_31 rfl ?_
      rintro _ _ ⟨rfl, rfl⟩
      refine g_ifb_ne cx (pc2 := 37) (tgt := 43) dX11_put_34 (by decide) rfl (fun h_2 => ?_) (fun h_2 => ?_)
      · skip
        refine g_aload cx (pc2 := 45) 4 rfl dX11_put_43 rfl ?_
        refine g_iload_n cx (pc2 := 46) 2 rfl dX11_put_45 rfl ?_
        refine g_callV cx (pc2 := 49) (st := []) (As := [.int (iI i)]) (k0 := (15 + 2 * r.toNat)) (ci := 8) (c_X8_cell (M := M) hn (by exact (tO_ok hR).1) (by exact (hrow hR).1) i (by first | assumption | omega)) wM_X8_cell wV_X8_cell kl_X11_129 (sh_row ((tO_ok hR).1)) (by have := (tO_ok hR).1; omega) rfl ⟨rfl, rfl, Nat.le_of_ble_eq_true rfl, Nat.le_of_ble_eq_true rfl⟩ (Nat.le_of_ble_eq_true rfl) cs rfl rfl dX11_put_46 rfl ?_
        rintro _ _ ⟨rfl, rfl⟩
        refine g_rwi (y := iI (M (15 + 2 * r.toNat + 1) i.toNat)) (congrArg iI (if_pos (by assumption))) ?_
        refine g_istore cx (pc2 := 51) (lv2 := [(0, .ref 0), (1, .int (iI r)), (2, .int (iI i)), (3, .int (iI v)), (4, .ref (15 + 2 * r.toNat)), (5, .int (iI (M (15 + 2 * r.toNat + 1) i.toNat)))]) rfl (Nat.le_of_ble_eq_true rfl) dX11_put_49 rfl ?_
        refine g_aload cx (pc2 := 53) 4 rfl dX11_put_51 rfl ?_
        refine g_iload_n cx (pc2 := 54) 2 rfl dX11_put_53 rfl ?_
        refine g_iload_n cx (pc2 := 55) 3 rfl dX11_put_54 rfl ?_
        refine g_i2b cx (pc2 := 56) dX11_put_55 rfl ?_
        refine g_rwi (y := iI (by8 v)) ((iI_of _).symm) ?_
        refine g_callV cx (pc2 := 59) (st := []) (As := [.int (iI i), .int (iI (by8 v))]) (k0 := (15 + 2 * r.toNat)) (ci := 8) (c_X8_set (M := M) hn (by exact (tO_ok hR).1) (by exact (hrow hR).1) i (by8 v) (by first | assumption | omega)) wM_X8_set wV_X8_set kl_X11_132 (sh_row ((tO_ok hR).1)) (by have := (tO_ok hR).1; omega) rfl ⟨rfl, rfl, Nat.le_of_ble_eq_true rfl, Nat.le_of_ble_eq_true rfl⟩ (Nat.le_of_ble_eq_true rfl) cs rfl rfl dX11_put_56 rfl ?_
        rintro _ _ ⟨rfl, rfl⟩
        refine g_M (M2 := (stM M (15 + 2 * r.toNat + 1) i.toNat (by8 v))) (by rw [if_pos (by assumption)]) ?_
        refine g_iload cx (pc2 := 61) 5 rfl dX11_put_59 rfl ?_
        refine g_sipush cx (pc2 := 64) ⟨by decide, by decide⟩ dX11_put_61 rfl ?_
        refine g_iadd cx (pc2 := 65) dX11_put_64 rfl ?_
        exact g_iret cx qx dX11_put_65 ⟨congrArg (fun q => some (Value.int (iI q))) (by unfold putA; (repeat (first | rw [if_pos (by first | assumption | omega)] | rw [if_neg (by first | assumption | exact not_not_intro (by assumption) | omega)])); first | done | rfl), by unfold putM; (repeat (first | rw [if_pos (by first | assumption | omega)] | rw [if_neg (by first | assumption | exact not_not_intro (by assumption) | omega)])); first | done | rfl⟩
      · skip
        refine g_aload_n cx (pc2 := 38) 0 rfl dX11_put_37 rfl ?_
        refine g_iconst cx (pc2 := 39) dX11_put_38 rfl ?_
        refine g_callV cx (pc2 := 42) (st := []) (As := [.int (iI 2)]) (k0 := 0) (ci := 11) (c_X11_found (M := M) hn 2 (by first | assumption | omega)) wM_X11_found wV_X11_found kl_X11_113 rfl (lt_lit hn (Nat.le_of_ble_eq_true rfl)) rfl ⟨rfl, rfl, Nat.le_of_ble_eq_true rfl, Nat.le_of_ble_eq_true rfl⟩ (Nat.le_of_ble_eq_true rfl) cs rfl rfl dX11_put_39 rfl ?_
        rintro _ _ ⟨rfl, rfl⟩
        exact g_iret cx qx dX11_put_42 ⟨congrArg (fun q => some (Value.int (iI q))) (by unfold putA; (repeat (first | rw [if_pos (by first | assumption | omega)] | rw [if_neg (by first | assumption | exact not_not_intro (by assumption) | omega)])); first | done | rfl), by unfold putM; (repeat (first | rw [if_pos (by first | assumption | omega)] | rw [if_neg (by first | assumption | exact not_not_intro (by assumption) | omega)])); first | done | rfl⟩
    · skip
      refine g_aload_n cx (pc2 := 23) 0 rfl dX11_put_22 rfl ?_
      refine g_iconst cx (pc2 := 24) dX11_put_23 rfl ?_
      refine g_callV cx (pc2 := 27) (st := []) (As := [.int (iI 1)]) (k0 := 0) (ci := 11) (c_X11_found (M := M) hn 1 (by first | assumption | omega)) wM_X11_found wV_X11_found kl_X11_113 rfl (lt_lit hn (Nat.le_of_ble_eq_true rfl)) rfl ⟨rfl, rfl, Nat.le_of_ble_eq_true rfl, Nat.le_of_ble_eq_true rfl⟩ (Nat.le_of_ble_eq_true rfl) cs rfl rfl dX11_put_24 rfl ?_
      rintro _ _ ⟨rfl, rfl⟩
      exact g_iret cx qx dX11_put_27 ⟨congrArg (fun q => some (Value.int (iI q))) (by unfold putA; (repeat (first | rw [if_pos (by first | assumption | omega)] | rw [if_neg (by first | assumption | exact not_not_intro (by assumption) | omega)])); first | done | rfl), by unfold putM; (repeat (first | rw [if_pos (by first | assumption | omega)] | rw [if_neg (by first | assumption | exact not_not_intro (by assumption) | omega)])); first | done | rfl⟩
  · skip
    refine g_aload_n cx (pc2 := 1) 0 rfl dX11_put_0 rfl ?_
    refine g_iload_n cx (pc2 := 2) 1 rfl dX11_put_1 rfl ?_
    refine g_callV cx (pc2 := 5) (st := []) (As := [.int (iI r)]) (k0 := 0) (ci := 11) (c_textOf_out (M := M) hn r (by first | assumption | omega) (by assumption)) wM_X11_textOf wV_X11_textOf kl_X11_154 rfl (lt_lit hn (Nat.le_of_ble_eq_true rfl)) rfl ⟨rfl, rfl, Nat.le_of_ble_eq_true rfl, Nat.le_of_ble_eq_true rfl⟩ (Nat.le_of_ble_eq_true rfl) cs rfl rfl dX11_put_2 rfl ?_
    rintro _ _ ⟨rfl, rfl⟩
    refine g_astoreN cx (pc2 := 7) (lv2 := [(0, .ref 0), (1, .int (iI r)), (2, .int (iI i)), (3, .int (iI v)), (4, .null)]) rfl (Nat.le_of_ble_eq_true rfl) dX11_put_5 rfl ?_
    refine g_aloadN cx (pc2 := 9) 4 rfl dX11_put_7 rfl ?_
    refine g_ifnonnullN cx (pc2 := 12) dX11_put_9 rfl ?_
    refine g_iconst cx (pc2 := 13) dX11_put_12 rfl ?_
    exact g_iret cx qx dX11_put_13 ⟨congrArg (fun q => some (Value.int (iI q))) (by unfold putA; (repeat (first | rw [if_pos (by first | assumption | omega)] | rw [if_neg (by first | assumption | exact not_not_intro (by assumption) | omega)])); first | done | rfl), by unfold putM; (repeat (first | rw [if_pos (by first | assumption | omega)] | rw [if_neg (by first | assumption | exact not_not_intro (by assumption) | omega)])); first | done | rfl⟩
set_option maxHeartbeats 4000000 in
set_option maxRecDepth 100000 in
theorem c_X11_fault {n : Nat} (hn : NN n) {M : Mm} (hci : CI M) (r : Int) (hr : ir r) : CT yX11_fault cX11_fault 3 (some .int) ({ frames := 6, cells := 0, slots := 0, locals := 140 }) n [.ref 0, .int (iI r)] M (rI (fauA M r) (fauM M r)) := by
  refine CT.of (lv0 := [(0, .ref 0), (1, .int (iI r))]) (by decide +kernel) hn (fun _ => rfl) (fun _ => Nat.le_of_ble_eq_true rfl) (fun X cx cs qx => ?_)
  have cx : Cx X cX11_fault RX11 ({ frames := 6, cells := 0, slots := 0, locals := 140 }) 3 n := cx
  have hrow := fun q : T4 r => hci.rw (15 + 2 * r.toNat) (tO_ok q).1
  have hcap := capO_b (15 + 2 * r.toNat)
  have hcp := fun q : T4 r => (capO_120 (tO_ok q).2 : capO (15 + 2 * r.toNat) = 120)
  by_cases hR : T4 r
  · skip
    refine g_aload_n cx (pc2 := 1) 0 rfl dX11_fault_0 rfl ?_
    refine g_iload_n cx (pc2 := 2) 1 rfl dX11_fault_1 rfl ?_
    refine g_callV cx (pc2 := 5) (st := []) (As := [.int (iI r)]) (k0 := 0) (ci := 11) (c_textOf_in (M := M) hn r (by assumption)) wM_X11_textOf wV_X11_textOf kl_X11_154 rfl (lt_lit hn (Nat.le_of_ble_eq_true rfl)) rfl ⟨rfl, rfl, Nat.le_of_ble_eq_true rfl, Nat.le_of_ble_eq_true rfl⟩ (Nat.le_of_ble_eq_true rfl) cs rfl rfl dX11_fault_2 rfl ?_
    rintro _ _ ⟨rfl, rfl⟩
    refine g_astore_n cx (pc2 := 6) (lv2 := [(0, .ref 0), (1, .int (iI r)), (2, .ref (15 + 2 * r.toNat))]) rfl (Nat.le_of_ble_eq_true rfl) dX11_fault_5 rfl ?_
    refine g_aload_n cx (pc2 := 7) 2 rfl dX11_fault_6 rfl ?_
    refine g_ifnonnull cx (tgt := 12) dX11_fault_7 (by decide) ?_
    refine g_aload_n cx (pc2 := 13) 2 rfl dX11_fault_12 rfl ?_
    refine g_callV cx (pc2 := 16) (st := []) (As := []) (k0 := (15 + 2 * r.toNat)) (ci := 8) (c_X8_isMissing (M := M) hn (by exact (tO_ok hR).1) (by exact (hrow hR).1)) wM_X8_isMissing wV_X8_isMissing kl_X11_121 (sh_row ((tO_ok hR).1)) (by have := (tO_ok hR).1; omega) rfl ⟨rfl, rfl, Nat.le_of_ble_eq_true rfl, Nat.le_of_ble_eq_true rfl⟩ (Nat.le_of_ble_eq_true rfl) cs rfl rfl dX11_fault_13 rfl ?_
    rintro _ _ ⟨rfl, rfl⟩
    refine g_ifb_eq cx (pc2 := 19) (tgt := 25) dX11_fault_16 (by decide) rfl (fun h_1 => ?_) (fun h_1 => ?_)
    · skip
      refine g_aload_n cx (pc2 := 26) 0 rfl dX11_fault_25 rfl ?_
      refine g_get cx (pc2 := 29) (ci := 11) (k0 := 0) (j := 4) (v := .ref 47) rfl iwX11 rfl (lt_lit hn (Nat.le_of_ble_eq_true rfl)) rfl (Nat.le_of_ble_eq_true rfl) kf_X11_31 rfl rfl dX11_fault_26 rfl ?_
      refine g_aload_n cx (pc2 := 30) 2 rfl dX11_fault_29 rfl ?_
      refine g_aload_n cx (pc2 := 31) 0 rfl dX11_fault_30 rfl ?_
      refine g_get cx (pc2 := 34) (ci := 11) (k0 := 0) (j := 3) (v := .ref 35) rfl iwX11 rfl (lt_lit hn (Nat.le_of_ble_eq_true rfl)) rfl (Nat.le_of_ble_eq_true rfl) kf_X11_25 rfl rfl dX11_fault_31 rfl ?_
      refine g_callV cx (pc2 := 37) (st := []) (As := [.ref (15 + 2 * r.toNat), .ref 35]) (k0 := 47) (ci := 7) (c_X7_read (M := M) hn (by exact (tO_ok hR).1) (by exact hci.tx (tO_ok hR).1 (tO_ok hR).2) (by exact Or.inr rfl)) wM_X7_read wV_X7_read kl_X11_157 rfl (lt_lit hn (Nat.le_of_ble_eq_true rfl)) rfl ⟨rfl, rfl, Nat.le_of_ble_eq_true rfl, Nat.le_of_ble_eq_true rfl⟩ (Nat.le_of_ble_eq_true rfl) cs rfl rfl dX11_fault_34 rfl ?_
      rintro _ _ ⟨rfl, rfl⟩
      exact g_iret cx qx dX11_fault_37 ⟨congrArg (fun q => some (Value.int (iI q))) (by unfold fauA; (repeat (first | rw [if_pos (by first | assumption | omega)] | rw [if_neg (by first | assumption | exact not_not_intro (by assumption) | omega)])); first | done | rfl), by unfold fauM; (repeat (first | rw [if_pos (by first | assumption | omega)] | rw [if_neg (by first | assumption | exact not_not_intro (by assumption) | omega)])); first | done | rfl⟩
    · skip
      refine g_aload_n cx (pc2 := 20) 0 rfl dX11_fault_19 rfl ?_
      refine g_iconst cx (pc2 := 21) dX11_fault_20 rfl ?_
      refine g_callV cx (pc2 := 24) (st := []) (As := [.int (iI 1)]) (k0 := 0) (ci := 11) (c_X11_found (M := M) hn 1 (by first | assumption | omega)) wM_X11_found wV_X11_found kl_X11_113 rfl (lt_lit hn (Nat.le_of_ble_eq_true rfl)) rfl ⟨rfl, rfl, Nat.le_of_ble_eq_true rfl, Nat.le_of_ble_eq_true rfl⟩ (Nat.le_of_ble_eq_true rfl) cs rfl rfl dX11_fault_21 rfl ?_
      rintro _ _ ⟨rfl, rfl⟩
      exact g_iret cx qx dX11_fault_24 ⟨congrArg (fun q => some (Value.int (iI q))) (by unfold fauA; (repeat (first | rw [if_pos (by first | assumption | omega)] | rw [if_neg (by first | assumption | exact not_not_intro (by assumption) | omega)])); first | done | rfl), by unfold fauM; (repeat (first | rw [if_pos (by first | assumption | omega)] | rw [if_neg (by first | assumption | exact not_not_intro (by assumption) | omega)])); first | done | rfl⟩
  · skip
    refine g_aload_n cx (pc2 := 1) 0 rfl dX11_fault_0 rfl ?_
    refine g_iload_n cx (pc2 := 2) 1 rfl dX11_fault_1 rfl ?_
    refine g_callV cx (pc2 := 5) (st := []) (As := [.int (iI r)]) (k0 := 0) (ci := 11) (c_textOf_out (M := M) hn r (by assumption) (by assumption)) wM_X11_textOf wV_X11_textOf kl_X11_154 rfl (lt_lit hn (Nat.le_of_ble_eq_true rfl)) rfl ⟨rfl, rfl, Nat.le_of_ble_eq_true rfl, Nat.le_of_ble_eq_true rfl⟩ (Nat.le_of_ble_eq_true rfl) cs rfl rfl dX11_fault_2 rfl ?_
    rintro _ _ ⟨rfl, rfl⟩
    refine g_astore_nN cx (pc2 := 6) (lv2 := [(0, .ref 0), (1, .int (iI r)), (2, .null)]) rfl (Nat.le_of_ble_eq_true rfl) dX11_fault_5 rfl ?_
    refine g_aload_nN cx (pc2 := 7) 2 rfl dX11_fault_6 rfl ?_
    refine g_ifnonnullN cx (pc2 := 10) dX11_fault_7 rfl ?_
    refine g_iconst cx (pc2 := 11) dX11_fault_10 rfl ?_
    exact g_iret cx qx dX11_fault_11 ⟨congrArg (fun q => some (Value.int (iI q))) (by unfold fauA; (repeat (first | rw [if_pos (by first | assumption | omega)] | rw [if_neg (by first | assumption | exact not_not_intro (by assumption) | omega)])); first | done | rfl), by unfold fauM; (repeat (first | rw [if_pos (by first | assumption | omega)] | rw [if_neg (by first | assumption | exact not_not_intro (by assumption) | omega)])); first | done | rfl⟩
