theorem st_K {s : State} {args : Array Value} (hts : ∀ w ∈ gw, w.before args s = true) (h1 : va_AO RX8 s) (h2 : va_AO RX4 s) : ∃ (D : va_G) (cA : Nat → ClassId), ∀ ad : Nat → Nat, va_K D vwCl (tysP (D, ad, cA)) s := by
  obtain ⟨c0, i0, k0⟩ := u_known hts iwX0 (hts _ kN_X0.1)
  obtain ⟨c1, i1, k1⟩ := u_known hts iwX1 (hts _ kN_X1.1)
  obtain ⟨c2, i2, k2⟩ := u_known hts iwX2 (hts _ kN_X2.1)
  obtain ⟨c3, i3, k3⟩ := u_known hts iwX3 (hts _ kN_X3.1)
  obtain ⟨c4, i4, k4⟩ := u_known hts iwX4 (hts _ kN_X4.1)
  obtain ⟨c5, i5, k5⟩ := u_known hts iwX5 (hts _ kN_X5.1)
  obtain ⟨c6, i6, k6⟩ := u_known hts iwX6 (hts _ kN_X6.1)
  obtain ⟨c7, i7, k7⟩ := u_known hts iwX7 (hts _ kN_X7.1)
  obtain ⟨c8, i8, k8⟩ := u_known hts iwX8 (hts _ kN_X8.1)
  obtain ⟨c9, i9, k9⟩ := u_known hts iwX9 (hts _ kN_X9.1)
  obtain ⟨c10, i10, k10⟩ := u_known hts iwX10 (hts _ kN_X10.1)
  obtain ⟨c11, i11, k11⟩ := u_known hts iwX11 (hts _ kN_X11.1)
  obtain ⟨c12, i12, k12⟩ := u_known hts iwX12 (hts _ kN_X12.1)
  obtain ⟨a0, ka0, p0, x0, y0, z0⟩ := Cond.arrayClass_spec (hts _ kA_i)
  obtain ⟨a1, ka1, p1, x1, y1, z1⟩ := Cond.arrayClass_spec (hts _ kA_b)
  obtain ⟨p2, a2, ka2, v2, w2, y2, z2, x2⟩ := Cond.arrayOver_spec h1
  obtain ⟨p3, a3, ka3, v3, w3, y3, z3, x3⟩ := Cond.arrayOver_spec h2
  refine ⟨(fun c => ([c0, c1, c2, c3, c4, c5, c6, c7, c8, c9, c10, c11, c12] : List ClassId).getD c c0, fun c => ([i0, i1, i2, i3, i4, i5, i6, i7, i8, i9, i10, i11, i12] : List (Nat → Nat)).getD c i0), fun c => ([a0, a1, a2, a3] : List ClassId).getD c a0, fun ad => ⟨fun c q hq => ?_, fun k q hk => ?_⟩⟩
  · have hc : c < 13 := (List.getElem?_eq_some_iff.mp hq).1
    rcases (show c = 0 ∨ c = 1 ∨ c = 2 ∨ c = 3 ∨ c = 4 ∨ c = 5 ∨ c = 6 ∨ c = 7 ∨ c = 8 ∨ c = 9 ∨ c = 10 ∨ c = 11 ∨ c = 12 by omega) with rfl | rfl | rfl | rfl | rfl | rfl | rfl | rfl | rfl | rfl | rfl | rfl | rfl
    · cases hq
      exact k0
    · cases hq
      exact k1
    · cases hq
      exact k2
    · cases hq
      exact k3
    · cases hq
      exact k4
    · cases hq
      exact k5
    · cases hq
      exact k6
    · cases hq
      exact k7
    · cases hq
      exact k8
    · cases hq
      exact k9
    · cases hq
      exact k10
    · cases hq
      exact k11
    · cases hq
      exact k12
  · have hc : k < 4 := (List.getElem?_eq_some_iff.mp hk).1
    rcases (show k = 0 ∨ k = 1 ∨ k = 2 ∨ k = 3 by omega) with rfl | rfl | rfl | rfl
    · cases hk
      exact ⟨fun n z => ⟨fun k h => (by cases h), ka0, y0, p0, z0⟩, x0⟩
    · cases hk
      exact ⟨fun n z => ⟨fun k h => (by cases h), ka1, y1, p1, z1⟩, x1⟩
    · cases hk
      exact ⟨fun n z => ⟨fun k h => (by cases h), ka2, y2, p2, z2⟩, ka2, p2, y2, z2, v2, x2⟩
    · cases hk
      exact ⟨fun n z => ⟨fun k h => (by cases h), ka3, y3, p3, z3⟩, ka3, p3, y3, z3, v3, x3⟩
theorem st_NL {s : State} {args : Array Value} {A : Nat → Prop} (hgv : (Jvm.Cond.and given_1 narrow_1).before args s = true) (hts : ∀ w ∈ lw_tbl, w.before args s = true) (hA : ∀ a : Nat, a < s.heap.size → ¬ A a) : ∃ t : Nat, va_Z "CoatBetween" "NEED_LETTERS" "[C" (.ref t) A s s.heap ∧ va_T .char t 6 (fun j => .int (iI (NLt j))) A s s.heap := by
  have hs := flat_of_before _ hgv
  have hel : ∀ j : Nat, j < 6 → (Term.elem (Term.static "CoatBetween" "NEED_LETTERS" "[C") (.int (Int32.ofNat j))).eval args s none [] s = some (.int (iI (NLt j))) := by
    intro j hj
    rcases (show j = 0 ∨ j = 1 ∨ j = 2 ∨ j = 3 ∨ j = 4 ∨ j = 5 by omega) with rfl | rfl | rfl | rfl | rfl | rfl
    · exact va_eqt (hs (Cond.eq (.elem (Term.static "CoatBetween" "NEED_LETTERS" "[C") (.int 0)) (.int 110)) (by decide +kernel))
    · exact va_eqt (hs (Cond.eq (.elem (Term.static "CoatBetween" "NEED_LETTERS" "[C") (.int 1)) (.int 109)) (by decide +kernel))
    · exact va_eqt (hs (Cond.eq (.elem (Term.static "CoatBetween" "NEED_LETTERS" "[C") (.int 2)) (.int 108)) (by decide +kernel))
    · exact va_eqt (hs (Cond.eq (.elem (Term.static "CoatBetween" "NEED_LETTERS" "[C") (.int 3)) (.int 119)) (by decide +kernel))
    · exact va_eqt (hs (Cond.eq (.elem (Term.static "CoatBetween" "NEED_LETTERS" "[C") (.int 4)) (.int 102)) (by decide +kernel))
    · exact va_eqt (hs (Cond.eq (.elem (Term.static "CoatBetween" "NEED_LETTERS" "[C") (.int 5)) (.int 116)) (by decide +kernel))
  obtain ⟨t, ht, hT⟩ := va_Tof (tm := (Term.static "CoatBetween" "NEED_LETTERS" "[C")) (ty := .char) (N := 6) (f := fun j => .int (iI (NLt j))) (A := A) (by decide) (hs (Cond.arrayOf (Term.static "CoatBetween" "NEED_LETTERS" "[C") .char) (by decide +kernel)) (va_eqt (hs (Cond.eq (.length (Term.static "CoatBetween" "NEED_LETTERS" "[C")) (.int 6)) (by decide +kernel))) hel hA
  exact ⟨t, va_Zof (hts (.laysStatic "CoatBetween" "NEED_LETTERS" "[C") (by decide +kernel)) (hts (.initialized "CoatBetween") (by decide +kernel)) ht hA, hT⟩
theorem st_RL {s : State} {args : Array Value} {A : Nat → Prop} (hgv : (Jvm.Cond.and given_1 narrow_1).before args s = true) (hts : ∀ w ∈ lw_tbl, w.before args s = true) (hA : ∀ a : Nat, a < s.heap.size → ¬ A a) : ∃ t : Nat, va_Z "CoatBetween" "RULE_LETTERS" "[C" (.ref t) A s s.heap ∧ va_T .char t 5 (fun j => .int (iI (RLt j))) A s s.heap := by
  have hs := flat_of_before _ hgv
  have hel : ∀ j : Nat, j < 5 → (Term.elem (Term.static "CoatBetween" "RULE_LETTERS" "[C") (.int (Int32.ofNat j))).eval args s none [] s = some (.int (iI (RLt j))) := by
    intro j hj
    rcases (show j = 0 ∨ j = 1 ∨ j = 2 ∨ j = 3 ∨ j = 4 by omega) with rfl | rfl | rfl | rfl | rfl
    · exact va_eqt (hs (Cond.eq (.elem (Term.static "CoatBetween" "RULE_LETTERS" "[C") (.int 0)) (.int 118)) (by decide +kernel))
    · exact va_eqt (hs (Cond.eq (.elem (Term.static "CoatBetween" "RULE_LETTERS" "[C") (.int 1)) (.int 98)) (by decide +kernel))
    · exact va_eqt (hs (Cond.eq (.elem (Term.static "CoatBetween" "RULE_LETTERS" "[C") (.int 2)) (.int 110)) (by decide +kernel))
    · exact va_eqt (hs (Cond.eq (.elem (Term.static "CoatBetween" "RULE_LETTERS" "[C") (.int 3)) (.int 99)) (by decide +kernel))
    · exact va_eqt (hs (Cond.eq (.elem (Term.static "CoatBetween" "RULE_LETTERS" "[C") (.int 4)) (.int 109)) (by decide +kernel))
  obtain ⟨t, ht, hT⟩ := va_Tof (tm := (Term.static "CoatBetween" "RULE_LETTERS" "[C")) (ty := .char) (N := 5) (f := fun j => .int (iI (RLt j))) (A := A) (by decide) (hs (Cond.arrayOf (Term.static "CoatBetween" "RULE_LETTERS" "[C") .char) (by decide +kernel)) (va_eqt (hs (Cond.eq (.length (Term.static "CoatBetween" "RULE_LETTERS" "[C")) (.int 5)) (by decide +kernel))) hel hA
  exact ⟨t, va_Zof (hts (.laysStatic "CoatBetween" "RULE_LETTERS" "[C") (by decide +kernel)) (hts (.initialized "CoatBetween") (by decide +kernel)) ht hA, hT⟩
theorem st_nw : ∀ w ∈ nw, w ∈ lw_tbl := by
  intro w hw
  have h := List.all_eq_true.mp (show nw.all (fun w => decide (w ∈ lw_tbl)) = true by decide +kernel) w hw
  exact of_decide_eq_true h
theorem wdC_P {P : Pl} {hC hM a6 a7 a8 : Nat} {uC uM : Nat → Nat} {H : Heap} (h : va_P P.1 vwCl (wCoat P hC uC ++ wModel P hM uM) H) : va_P P.1 vwCl (wld (P.1, adS hC hM a6 a7 a8 uC uM, P.2.2) 104 M0) H := fun k x hx => by
  obtain ⟨hk, rfl⟩ := wld_of hx
  obtain ⟨e, h1, h2⟩ := st_get (P := P) (hC := hC) (hM := hM) (a6 := a6) (a7 := a7) (a8 := a8) (uC := uC) (uM := uM) hk
  exact h2 _ _ _ _ (h k _ h1)
theorem wdC_i {P : Pl} {hC hM a6 a7 a8 : Nat} {uC uM : Nat → Nat} {A : Nat → Prop} (h : va_D A (wCoat P hC uC ++ wModel P hM uM)) : iP (P.1, adS hC hM a6 a7 a8 uC uM, P.2.2) 104 ∧ ∀ k, k < 104 → A (adS hC hM a6 a7 a8 uC uM k) := by
  refine ⟨fun i j hi hj e => ?_, fun k hk => ?_⟩
  · obtain ⟨x, h1, -⟩ := st_get (P := P) (hC := hC) (hM := hM) (a6 := a6) (a7 := a7) (a8 := a8) (uC := uC) (uM := uM) hi
    obtain ⟨y, h2, -⟩ := st_get (P := P) (hC := hC) (hM := hM) (a6 := a6) (a7 := a7) (a8 := a8) (uC := uC) (uM := uM) hj
    exact h.1 i j _ _ h1 h2 e
  · obtain ⟨x, h1, -⟩ := st_get (P := P) (hC := hC) (hM := hM) (a6 := a6) (a7 := a7) (a8 := a8) (uC := uC) (uM := uM) hk
    exact h.2 k _ h1
set_option maxHeartbeats 4000000 in
set_option maxRecDepth 100000 in
theorem whole_start {p : Program} {e : Env} {s : State} {m : MethodId} {below : List Frame} {meth : Method} {c : Code} (l : Launch) (hflags : l.flags = flags0) {b L : Nat} {xs : Nat → Int32} (hL : L ≤ 3072) (C0 : lw_At p s m meth c b L xs) : W p l e room_1 s m #[Value.ref b] below meth c s.heap [] 0 0 (lw_Z below #[Value.ref b] s) (entryFrame m ([Value.ref b] : List Value).toArray 4) := by
  obtain ⟨hx, hb, hret, hml, hown, htb, hX, hbl, hlk, hgv⟩ := C0
  have hts : ∀ w ∈ gw, w.before #[Value.ref b] s = true := fun w hw => htb w (List.mem_filter.mp hw).1
  have hnw : ∀ w ∈ nw, w.before #[Value.ref b] s = true := fun w hw => htb w (st_nw w hw)
  have hNw : NwU s := NwU_of hnw
  have hao1 : va_AO RX8 s := va_AO.of (htb (.arrayOver (.object RX8)) (by decide +kernel))
  have hao2 : va_AO RX4 s := va_AO.of (htb (.arrayOver (.object RX4)) (by decide +kernel))
  obtain ⟨A, hAe⟩ : ∃ A : Nat → Prop, A = fun q => s.heap.size ≤ q := ⟨_, rfl⟩
  have hA : ∀ q, s.heap.size ≤ q → A q := fun q h => by rw [hAe]; exact h
  have hAs : ∀ q, A q → s.heap.size ≤ q := fun q h => by rw [hAe] at h; exact h
  have hAn : ∀ a : Nat, a < s.heap.size → ¬ A a := fun a h q => by have := hAs a q; omega
  obtain ⟨t6, hZ6, hT6⟩ := st_NL hgv htb hAn
  obtain ⟨t7, hZ7, hT7⟩ := st_RL hgv htb hAn
  obtain ⟨D, cA, hKK⟩ := st_K hts hao1 hao2
  have hK : va_K (D, (fun _ => 0 : Nat → Nat), cA).1 vwCl (tysP (D, (fun _ => 0), cA)) s := hKK _
  rw [lg_entry_eq]
  have hl := lv_entry ([.ref b]) (n := 4) (Nat.le_of_ble_eq_true rfl)
  generalize (lg_sl ([.ref b]) ++ List.replicate (4 - (lg_sl ([.ref b])).length) Slot.unset).toArray = ls at hl ⊢
  have hl : lv_has ls 4 [(0, .ref b)] := hl
  have hS : va_S A s.heap s.heap [] := va_S.rf
  have hP : va_P (D, (fun _ => 0 : Nat → Nat), cA).1 vwCl [] s.heap := fun k q h => by simp at h
  have hD : va_D A [] := ⟨fun i j x y h => by simp at h, fun k q h => by simp at h⟩
  refine va_new (ci := 11) (fs := [.null, .null, .null, .null, .null, .null, .null, .null, .null, .null, .null, .null, .null, .null, .int (iI 0), .int (iI 0), .long (lI 0), .long (lI 0)]) hx hb hts iwX11 tyX11 tyX11_ok hown (hts _ kc_L_7) (hts _ kN_X11.1) (hts _ kN_X11.2) hK hP hD hS hA rfl (by decide +kernel) (Nat.le_of_ble_eq_true rfl) (Nat.le_of_ble_eq_true rfl) dL_law_0 (fun q11 H11 hP11 hD11 hS => ?_)
  refine lv_dup hx hb dL_law_3 rfl ?_
  have hF11 := y_free hD11 hS hA
  have hgd11 : ∀ w ∈ Cond.code yX11_init cX11_init 2 none :: gw, w ∈ gw := fun w h => by
    rcases List.mem_cons.mp h with rfl | h
    · exact wC_X11.1.1.2
    · exact h
  refine va_callv (va_runI (As := []) (rest := [.ref q11]) ⟨hx, hb, hml, hown, hts⟩ (n_X11 l (D, (fun _ => 0), cA) q11 H11.size) (cwI 0 hts (gw_good (ws := Cond.code yX11_init cX11_init 2 none :: gw) hgd11) rfl rfl rfl (hts _ wC_X11.1.1.1) (hts _ kl_L_9) (hts _ wC_X11.2.1) rfl wC_X11.1.2 ⟨Nat.le_of_ble_eq_true rfl, Nat.le_of_ble_eq_true rfl⟩) ⟨cpn_blind, fun U hU hW => ⟨rfl, by rw [hU], by rw [hU]; exact y_one hP11, va_K.moved hW.alike hK, ⟨va_AO.moved hW.alike hao1, va_AO.moved hW.alike hao2⟩, NwU_warm hW hNw⟩⟩ rfl rfl hl.1 rfl (lv_room (Nat.le_of_ble_eq_true rfl)) dL_law_4 ⟨Nat.le_of_ble_eq_true rfl, Nat.le_of_ble_eq_true rfl⟩) hS (fun a _ h => hF11 a h) hF11 (fun u11 t H11b locs11 ht hvm _ hB hz1 hk1 hS => ?_)
  obtain ⟨hP11b, hD11b⟩ := hB
  rw [ht] at hP11b
  obtain ⟨hP11c, hD11c⟩ := y_join hP11 hD11 hk1 hF11 hP11b hD11b
  refine lv_astore_n hx hb dL_law_7 rfl hl (by decide) (lv' := [(1, .ref q11), (0, .ref b)]) rfl (fun ls hl => ?_)
  refine va_new (ci := 12) (fs := [.int (iI 0), .null, .int (iI 0), .long (lI 0), .long (lI 0), .null, .null, .null, .null, .null, .int (iI 0), .null, .int (iI 0), .null, .null, .int (iI 0), .int (iI 0), .int (iI 0), .int (iI 0), .int (iI 0), .null, .null, .null, .int (iI 0), .null, .int (iI 0), .null, .null, .null, .int (iI 0), .null, .null, .null, .null, .null, .int (iI 0), .null, .int (iI 0), .null, .null, .int (iI 0), .null, .null, .long (lI 0)]) hx hb hts iwX12 tyX12 tyX12_ok hown (hts _ kc_L_10) (hts _ kN_X12.1) (hts _ kN_X12.2) hK hP11c hD11c hS hA rfl (by decide +kernel) (Nat.le_of_ble_eq_true rfl) (Nat.le_of_ble_eq_true rfl) dL_law_8 (fun q12 H12 hP12 hD12 hS => ?_)
  refine lv_dup hx hb dL_law_11 rfl ?_
  have hF12 := y_free hD12 hS hA
  have hgd12 : ∀ w ∈ Cond.code yX12_init cX12_init 2 none :: gw, w ∈ gw := fun w h => by
    rcases List.mem_cons.mp h with rfl | h
    · exact wC_X12.1.1.2
    · exact h
  refine va_callv (va_runI (As := []) (rest := [.ref q12]) ⟨hx, hb, hml, hown, hts⟩ (n_X12 l (D, (fun _ => 0), cA) q12 H12.size) (cwI 0 hts (gw_good (ws := Cond.code yX12_init cX12_init 2 none :: gw) hgd12) rfl rfl rfl (hts _ wC_X12.1.1.1) (hts _ kl_L_12) (hts _ wC_X12.2.1) rfl wC_X12.1.2 ⟨Nat.le_of_ble_eq_true rfl, Nat.le_of_ble_eq_true rfl⟩) ⟨cpn_blind, fun U hU hW => ⟨rfl, by rw [hU], by rw [hU]; exact y_one hP12, va_K.moved hW.alike hK, ⟨va_AO.moved hW.alike hao1, va_AO.moved hW.alike hao2⟩, NwU_warm hW hNw⟩⟩ rfl rfl hl.1 rfl (lv_room (Nat.le_of_ble_eq_true rfl)) dL_law_12 ⟨Nat.le_of_ble_eq_true rfl, Nat.le_of_ble_eq_true rfl⟩) hS (fun a _ h => hF12 a h) hF12 (fun u12 t H12b locs12 ht hvm _ hB hz1 hk1 hS => ?_)
  obtain ⟨hP12b, hD12b⟩ := hB
  rw [ht] at hP12b
  obtain ⟨hP12c, hD12c⟩ := y_join hP12 hD12 hk1 hF12 hP12b hD12b
  refine lv_astore_n hx hb dL_law_15 rfl hl (by decide) (lv' := [(2, .ref q12), (1, .ref q11), (0, .ref b)]) rfl (fun ls hl => ?_)
  refine lv_iconst hx hb (v := iI 0) dL_law_16 rfl ?_
  refine lv_istore_n hx hb dL_law_17 rfl hl (by decide) (lv' := [(3, .int (iI 0)), (2, .ref q12), (1, .ref q11), (0, .ref b)]) rfl (fun ls hl => ?_)
  have hP5 := wdC_P (P := (D, (fun _ => 0), cA)) (hC := q11) (hM := q12) (a6 := t6) (a7 := t7) (a8 := b) (uC := u11) (uM := u12) hP12c
  obtain ⟨hi5, hA5⟩ := wdC_i (P := (D, (fun _ => 0), cA)) (hC := q11) (hM := q12) (a6 := t6) (a7 := t7) (a8 := b) (uC := u11) (uM := u12) hD12c
  have lq : Lq (p, l, e, room_1, s, m, #[Value.ref b], below, meth, c, 4, (D, adS q11 q12 t6 t7 b u11 u12, cA), 104, A, 104, 28745, lw_Z below #[Value.ref b] s) 104 L xs :=
    ⟨⟨⟨hx, hb, hml, hown, hts⟩, hKK _, hA, hA5, hi5, ⟨⟨hZ6, hT6⟩, hZ7, hT7⟩, hlk, rfl, rfl, rfl, by decide, by decide, hnw⟩, Or.inl ⟨rfl, by decide, by decide⟩, ⟨hX, hbl, hAn b hbl, hL⟩, ⟨hao1, hao2⟩, hret, hAs, b, rfl, rfl⟩
  exact law_loop (L + 6) _ 104 M0 0 lq Rl_M0 (by decide) (by omega) (by omega) _ _ ls (lset_mem hl (fun q hq => by
    rcases List.mem_cons.mp hq with rfl | hq
    · exact List.mem_cons_of_mem _ (List.mem_cons_of_mem _ (List.mem_cons_of_mem _ List.mem_cons_self))
    rcases List.mem_cons.mp hq with rfl | hq
    · exact List.mem_cons_of_mem _ (List.mem_cons_of_mem _ List.mem_cons_self)
    rcases List.mem_cons.mp hq with rfl | hq
    · exact List.mem_cons_of_mem _ List.mem_cons_self
    rcases List.mem_cons.mp hq with rfl | hq
    · exact List.mem_cons_self
    · cases hq)) hP5 hS
set_option maxHeartbeats 4000000 in
theorem lw_walk (l : Launch) (hflags : l.flags = flags0) (b : Addr) (xs : List Int32) : MetFree l x (headSpec (Jvm.Cond.code x code maxLocals ret :: tables_1) room_1) (lw_P b xs) (fun _ _ _ _ _ => True) lw_Q := by
  refine MetFree.of_bodyS (code := code) (maxLocals := maxLocals) (ret := ret) (by decide) ?_ ?_
  · intro args s m h hn
    obtain ⟨meth, c, h1, h2, h3, h4, h5, h6, -, -⟩ := Cond.code_spec hn (atoms_spec (ws := Jvm.Cond.code x code maxLocals ret :: tables_1) h _ List.mem_cons_self)
    exact ⟨meth, c, h1, h2, h3, h4, h5, h6⟩
  · intro p e s m args below meth c s₁ B hml0 hP _
    obtain ⟨rfl, hx, hbd, hgv⟩ := hP
    obtain ⟨scr, harrAt, hlist, hof, hsmall⟩ := hx
    obtain ⟨hcb, hkn, -, -⟩ := State.arrayAt?_spec harrAt
    have hown : s.vm.findClass R_law = some m.cls := findClass_of_methodNamed B.named
    have hts0 : ∀ c ∈ (Jvm.Cond.code x code maxLocals ret :: tables_1), c.before #[Value.ref b] s = true := atoms_spec (ws := Jvm.Cond.code x code maxLocals ret :: tables_1) B.pre
    have hts : ∀ w ∈ lw_tbl, w.before #[Value.ref b] s = true := k2_hts_sels lw_privs (fun w hw => hts0 w (List.mem_cons_of_mem _ hw)) lw_privs_ok
    have hml : c.maxLocals = 4 := B.maxLocals_eq (hts0 _ List.mem_cons_self)
    have X₀ : Stand p l e room_1 s m #[Value.ref b] below meth c s₁ [] 0 0 := Stand.of_body B
    have hh0 : s₁.heap = s.heap := by rw [B.state]; rfl
    have hsz : scr.slots.size = xs.length := by rw [← Array.length_toList, hlist, List.length_map]
    have hval : ∀ j : Nat, j < xs.length → scr.slots[j]? = some (.int (xs.getD j 0)) := fun j hj => by
      rw [← Array.getElem?_toList, hlist]
      simp [hj]
    have hbl : b < s.heap.size := (Array.getElem?_eq_some_iff.mp hcb).1
    have hX : va_X b xs.length (fun j => xs.getD j 0) s s.heap := ⟨scr, hcb, hof, hkn, hsz, hval⟩
    have K : W p l e room_1 s m #[Value.ref b] below meth c s₁.heap [] 0 0 (lw_Z below #[Value.ref b] s) (entryFrame m ([Value.ref b] : List Value).toArray 4) := by
      rw [hh0]
      exact whole_start l hflags hbd ⟨B.exec, B.bytes, B.returns, hml, hown, hts, hX, hbl, B.notSynchronized, hgv⟩
    obtain ⟨t, a1, o, b1, b2, b3⟩ := K s₁ rfl X₀
    exact ⟨t, o, a1, b1, b2, b3⟩
theorem lw_pre_spec {args : Array Value} {s : State} (h : (Jvm.Cond.and given_1 narrow_1).before args s = true) (hr : rest_1_c.before args s = true) : ∃ (b : Addr) (xs : List Int32), lw_P b xs args s := by
  have hs := flat_of_before _ h
  have hq := flat_of_before _ hr
  have hc : (Cond.count 1).before args s = true := hs _ (by decide +kernel)
  have harr : (Cond.arrayOf (.arg 0) .int).before args s = true := hs _ (by decide +kernel)
  have hle : (Cond.le (.length (.arg 0)) (.int 3072)).before args s = true := hs _ (by decide +kernel)
  have hlen : (Cond.isInt (.length (.arg 0))).before args s = true := hq _ (by decide +kernel)
  have hall : (Cond.all (.arg 0) (.isInt (.elem (.arg 0) (.index 0)))).before args s = true := hq _ (by decide +kernel)
  obtain ⟨b, xs, hb, hx⟩ := State.ints_of_pre rfl harr hlen hall
  have hsm : xs.length < 2 ^ 31 := hx.choose_spec.2.2.2
  have hev : (Term.length (.arg 0)).eval args s none [] s = some (.int xs.length.toInt32) := hx.length_eval hb
  have hv := Cond.le_ints hev (show (Term.int 3072).eval args s none [] s = some (.int 3072) from rfl)
  have hd : xs.length.toInt32 ≤ 3072 := by
    simpa [Cond.before, Cond.holds, hv] using hle
  have hN : xs.length ≤ 3072 := (Int32.ofNat_le_ofNat hsm (by decide)).mp (show Int32.ofNat xs.length ≤ Int32.ofNat 3072 from hd)
  exact ⟨b, xs, Cond.one_arg hc (show args[0]? = some (.ref b) from hb), hx, hN, h⟩
theorem lw_comes (l : Launch) (hflags : l.flags = flags0) : Comes l x (Jvm.Cond.code x code maxLocals ret :: tables_1) room_1 (fun tb e args s => Calls_1 tb e args s ∧ rest_1 tb e args s ∧ Pre_1 tb e args s)
    (fun _ _ args s o t => lw_Q args s o t) := by
  intro p e ha hc hk s m args below hf hfit hheap happ hpre
  obtain ⟨b, xs, hP⟩ := lw_pre_spec hpre.2.2 hpre.2.1
  obtain ⟨k, o, h1, h2, h3, hQ⟩ := lw_walk l hflags b xs p e ha hc hk s m args below hf ((Spec.applies_iff_loose hf).mp happ).1 hP trivial
  exact ⟨k, o, h1, h2, h3, hQ⟩
theorem lw_frame {s t : State} {o : Outcome} {args : Array Value} (h : Framed s o t [] 600000 7302250) :
    Framed s o t (fieldLocs frame_1_writes args s ++ arrayLocs frame_1_arrays args s ++ staticLocs frame_1_statics s) 600000 7302250 := h
theorem lw_limb (L : Cond) (hL : ∀ (args : Array Value) (s t : State), L.after args s (.returned (some (.int 1))) t = true) :
    ArmFor flags0 classFile x code maxLocals ret World_1 tables_1 room_1 Calls_1 rest_1 Pre_1
      (fun tb e a s o t => postC L tb e a s o t ∧ Framed s o t (fieldLocs frame_1_writes a s ++ arrayLocs frame_1_arrays a s ++ staticLocs frame_1_statics s) 600000 7302250) := by
  intro l hflags _ _ p e ha hc hk s m args below hf hfit hheap happ hpre
  obtain ⟨k, o, h1, h2, h3, rfl, hF⟩ := lw_comes l hflags p e ha hc hk s m args below hf hfit hheap happ hpre
  exact ⟨k, _, h1, h2, h3, hL args s _, lw_frame hF⟩
theorem i_vc : Claimed_1_1 ∧ Claimed_1_2 := ⟨lw_limb limb_1_1 (fun args s t => by simp [limb_1_1, Cond.after, Cond.holds, Cond.value]), lw_limb limb_1_2 (fun args s t => Cond.after_iff.mpr (by
  first | (rw [show limb_1_2 = Cond.eq .result (.int 1) from rfl, Cond.eq_ints (x := 1) (y := 1) rfl rfl]; simp; done) | (simp [limb_1_2, Cond.value, Term.eval]; done)))⟩
