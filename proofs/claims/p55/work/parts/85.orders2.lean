theorem c_X11_orders {n : Nat} (hn : NN n) {M : Mm} (hci : CI M) (w : Int) (hw : ir w) (h : n = 79 ∨ ¬ (0 ≤ w ∧ w ≤ ((allN (M 23 4) : Nat) : Int))) : CT yX11_orders cX11_orders 2 (some .int) ({ frames := 5, cells := 0, slots := 0, locals := 110 }) n [.ref 0, .int (iI w)] M (rI (osA M w) (osM M w)) := by
  refine CT.of (lv0 := [(0, .ref 0), (1, .int (iI w))]) (by decide +kernel) hn (fun _ => rfl) (fun _ => Nat.le_of_ble_eq_true rfl) (fun X cx cs qx => ?_)
  have cx : Cx X cX11_orders RX11 ({ frames := 5, cells := 0, slots := 0, locals := 110 }) 2 n := cx
  refine o_head hn cx cs ⟨by decide, by decide⟩ hci w hw (fun hv => ?_) (fun hv => ?_)
  · rcases h with rfl | h
    · refine g_aload_n cx (pc2 := 14) 0 rfl dX11_orders_13 rfl ?_
      refine g_get cx (pc2 := 17) (ci := 11) (k0 := 0) (j := 13) (v := .ref 77) rfl iwX11 rfl (lt_lit hn (Nat.le_of_ble_eq_true rfl)) rfl (Nat.le_of_ble_eq_true rfl) kf_X11_90 rfl rfl dX11_orders_14 rfl ?_
      refine g_ifnonnull cx (tgt := 35) dX11_orders_17 rfl ?_
      refine o_tail cx cs ⟨by decide, by decide⟩ hci w hv ?_
      exact g_iret cx qx dX11_orders_61 ⟨rfl, rfl⟩
    · exact absurd hv h
  · refine g_iret cx qx dX11_orders_12 ⟨?_, ?_⟩
    · unfold osA
      rw [if_pos hv]
    · unfold osM
      rw [if_pos hv]
/-- the memory behind the new Tally -/
def tl0 (M : Mm) : Mm := fun a b => if a = 78 then 0 else M a b
def tlP (P : Pl) (q r : Nat) : Pl := (P.1, (fun k => if k = 77 then q else if k = 78 then r else P.2.1 k), P.2.2)
def QO (P : Pl) (sz : Nat) (M : Mm) (w : Int) : Array Value → State → Outcome → State → Prop := fun _ st oc t => (∃ q r : Nat, oc = .returned (some (.int (iI (osA (tl0 M) w)))) ∧ iP (tlP P q r) 79 ∧ (∀ k, k < 79 → aA P 77 sz ((tlP P q r).2.1 k)) ∧ va_P P.1 vwCl (wld (tlP P q r) 79 (osM (tl0 M) w)) t.heap) ∧ va_F (aA P 77 sz) st t
def OCpre (P : Pl) (M : Mm) (sz : Nat) : State → Prop := fun U => CPre P 77 M sz U ∧ va_AO RX8 U ∧ va_AO RX4 U
theorem tlP_lt {P : Pl} {q r i : Nat} (h : i < 77) : (tlP P q r).2.1 i = P.2.1 i := by
  show (if i = 77 then q else if i = 78 then r else P.2.1 i) = P.2.1 i
  rw [if_neg (by omega), if_neg (by omega)]
theorem tl0_ne {M : Mm} {a : Nat} (h : a ≠ 78) : tl0 M a = M a := by
  funext b
  unfold tl0
  rw [if_neg h]
def tlW (P : Pl) (M : Mm) (q : Nat) (u : Nat → Nat) : va_W := (wld P 77 M ++ wTall (P.2.1 48) P q u).set 0 (P.2.1 0, .inr (11, (fvs P M 0 0 (obj0 77)).set 13 (.ref q)))
theorem tlW_get {P : Pl} {M : Mm} {q : Nat} {u : Nat → Nat} {k : Nat} (hk : k < 79) : ∃ e, (tlW P M q u)[k]? = some ((tlP P q (u 0)).2.1 k, e) ∧ sE e (wc (tlP P q (u 0)) 79 (tl0 M) k) := by
  have hl : (wld P 77 M).length = 77 := by unfold wld; simp
  unfold tlW
  by_cases h0 : k = 0
  · subst h0
    refine ⟨.inr (11, (fvs P M 0 0 (obj0 77)).set 13 (.ref q)), ?_, ?_⟩
    · rw [List.getElem?_set_self (by rw [List.length_append, hl]; omega)]
      rfl
    · exact sE.rf rfl
  · rw [List.getElem?_set_ne (by omega)]
    by_cases h1 : k < 77
    · rw [List.getElem?_append_left (by omega), wld_get h1]
      refine ⟨wc P 77 M k, by rw [tlP_lt h1], ?_⟩
      have e1 : wc P 77 M k = wcS P M k (shL.getD k (.inl (0, 0, 0, 0))) := by unfold wc shp; rw [if_neg h0]
      have e2 : wc (tlP P q (u 0)) 79 (tl0 M) k = wcS (tlP P q (u 0)) (tl0 M) k (shL.getD k (.inl (0, 0, 0, 0))) := by unfold wc shp; rw [if_neg h0]
      rw [e1, e2]
      exact wcS_to (P := P) (M := M) (P' := tlP P q (u 0)) (M' := tl0 M) (m := 77) rfl (fun i hi => tlP_lt hi) (tl0_ne (by omega)) _ (okS_all k h1)
    · rw [List.getElem?_append_right (by omega), hl]
      rcases (show k = 77 ∨ k = 78 by omega) with rfl | rfl
      · exact ⟨_, rfl, sE.rf rfl⟩
      · exact ⟨_, rfl, sE.rf rfl⟩
theorem tlW_P {P : Pl} {M : Mm} {q : Nat} {u : Nat → Nat} {H : Heap} (hP : va_P P.1 vwCl (tlW P M q u) H) : va_P P.1 vwCl (wld (tlP P q (u 0)) 79 (tl0 M)) H := fun k x hx => by
  obtain ⟨hk, rfl⟩ := wld_of hx
  obtain ⟨e, h1, h2⟩ := tlW_get (P := P) (M := M) (q := q) (u := u) hk
  exact h2 _ _ _ _ (hP k _ h1)
theorem tlW_i {P : Pl} {M : Mm} {q : Nat} {u : Nat → Nat} {A : Nat → Prop} (hD : va_D A (tlW P M q u)) : iP (tlP P q (u 0)) 79 ∧ ∀ k, k < 79 → A ((tlP P q (u 0)).2.1 k) := by
  refine ⟨fun i j hi hj e => ?_, fun k hk => ?_⟩
  · obtain ⟨x, h1, -⟩ := tlW_get (P := P) (M := M) (q := q) (u := u) hi
    obtain ⟨y, h2, -⟩ := tlW_get (P := P) (M := M) (q := q) (u := u) hj
    exact hD.1 i j _ _ h1 h2 e
  · obtain ⟨x, h1, -⟩ := tlW_get (P := P) (M := M) (q := q) (u := u) hk
    exact hD.2 k _ h1
theorem CI.tly {M : Mm} (h : CI M) : CI (tl0 M) := by
  have e : ∀ a, a < 77 → tl0 M a = M a := fun a ha => tl0_ne (by omega)
  exact h.fr (fun a h1 h2 => e a (by omega)) (JW_of (fun a _ _ => e a (by omega)) h.j) (PW_fr (fun a _ _ => e a (by omega)) h.p) (WW_fr (fun a _ _ => e a (by omega)) h.w) (by
    have := h.c
    unfold CW at this ⊢
    rw [e 61 (by decide), e 62 (by decide)]
    exact this)
set_option maxHeartbeats 4000000 in
set_option maxRecDepth 100000 in
theorem o_X11_orders {M : Mm} (hci : CI M) (w : Int) (hw : ir w) (hv : 0 ≤ w ∧ w ≤ ((allN (M 23 4) : Nat) : Int)) (l : Launch) (P : Pl) (sz : Nat) (hiP : iP P 77) : Met l yX11_orders (.code yX11_orders cX11_orders 2 (some .int) :: gw) ({ frames := 5, cells := 2, slots := 59394, locals := 110 }) (va_Pc [.ref (P.2.1 0), .int (iI w)] (OCpre P M sz)) (QO P sz M w) 2 59394 (aA P 77 sz) := by
  refine Met.ofW (cc := cX11_orders) (maxL := 2) (ret := some .int) (by decide +kernel) rfl ?_
  intro p e s m args below meth c s₁ B hml hvv
  obtain ⟨rfl, ⟨hsz, hP, hK, hSg, hNw⟩, hao1, hao2⟩ := hvv
  have hts0 := atoms_spec (ws := Cond.code yX11_orders cX11_orders 2 (some .int) :: gw) B.pre
  have hts : ∀ c ∈ gw, c.before #[Value.ref (P.2.1 0), .int (iI w)] s = true := fun c hc => hts0 c (List.mem_cons_of_mem _ hc)
  have hown : s.vm.findClass RX11 = some m.cls := findClass_of_methodNamed B.named
  have hx := B.exec
  have hb := B.bytes
  have hlk := B.notSynchronized
  have hret := B.returns
  subst hsz
  rw [lg_entry_eq]
  have hl := lv_entry ([.ref (P.2.1 0), .int (iI w)]) (n := 2) (Nat.le_of_ble_eq_true rfl)
  have hn : NN 77 := ⟨by decide, by decide⟩
  have hn6 : NN 79 := ⟨by decide, by decide⟩
  have hA : ∀ q, s.heap.size ≤ q → aA P 77 s.heap.size q := fun q h => Or.inr h
  have cx : Cx (p, l, e, ({ frames := 5, cells := 2, slots := 59394, locals := 110 } : Room), s, m, #[Value.ref (P.2.1 0), .int (iI w)], below, meth, c, 2, P, 77, aA P 77 s.heap.size, 0, 0, MQ below (QO P s.heap.size M w) #[Value.ref (P.2.1 0), .int (iI w)] s 2 59394 (aA P 77 s.heap.size)) cX11_orders RX11 ({ frames := 5, cells := 2, slots := 59394, locals := 110 }) 2 77 :=
    ⟨⟨hx, hb, hml, hown, hts⟩, hK, hA, fun k hk => Or.inl ⟨k, hk, rfl⟩, hiP, hSg, hlk, rfl, rfl, rfl, hn.1, hn.2, NwU_use hNw⟩
  refine o_head hn cx ⟨Nat.zero_le _, Nat.zero_le _⟩ ⟨by decide, by decide⟩ hci w hw (fun _ => ?_) (fun h => absurd hv h) s.heap [] _ hl hP va_S.rf
  refine g_aload_n cx (pc2 := 14) 0 rfl dX11_orders_13 rfl ?_
  refine g_get cx (pc2 := 17) (ci := 11) (k0 := 0) (j := 13) (v := .null) rfl iwX11 rfl (lt_lit hn (Nat.le_of_ble_eq_true rfl)) rfl (Nat.le_of_ble_eq_true rfl) kf_X11_90 rfl rfl dX11_orders_14 rfl ?_
  refine g_ifnonnullN cx (pc2 := 20) dX11_orders_17 rfl ?_
  refine g_aload_n cx (pc2 := 21) 0 rfl dX11_orders_20 rfl ?_
  intro H locs ls hl hP hS
  have hD := wld_D hiP (A := aA P 77 s.heap.size) (fun k hk => Or.inl ⟨k, hk, rfl⟩) M
  refine va_new (ci := 9) (fs := [.null, .null]) hx hb hts iwX9 tyX9 tyX9_ok hown (hts _ kc_X11_256) (hts _ kN_X9.1) (hts _ kN_X9.2) hK hP hD hS hA rfl (by decide +kernel) (Nat.le_of_ble_eq_true rfl) (Nat.le_of_ble_eq_true rfl) dX11_orders_21 (fun q H hP hD hS => ?_)
  refine lv_dup hx hb dX11_orders_24 rfl ?_
  refine lv_aload_n hx hb dX11_orders_25 rfl (lv_at hl 0 rfl) ?_
  refine va_get (v := .ref (P.2.1 48)) (fs := fvs P M 0 0 (obj0 77)) (ci := 11) hx hb hts iwX11 hown hK hP 0 rfl rfl 5 (Nat.le_of_ble_eq_true rfl) (hts _ kf_X11_38) (fun x h => h) rfl dX11_orders_26 ?_
  have hF := y_free hD hS hA
  have hgd : ∀ w ∈ Cond.code yX9_init cX9_init 2 none :: gw, w ∈ gw := fun w h => by
    rcases List.mem_cons.mp h with rfl | h
    · exact wC_X9.1.1.2
    · exact h
  refine va_callv (va_runI (As := [.ref (P.2.1 48)]) (rest := [.ref q, .ref (P.2.1 0)]) ⟨hx, hb, hml, hown, hts⟩ (n_X9 (P.2.1 48) l P q H.size) (cwI 1 hts (gw_good (ws := Cond.code yX9_init cX9_init 2 none :: gw) hgd) rfl rfl rfl (hts _ wC_X9.1.1.1) (hts _ kl_X11_258) (hts _ wC_X9.2.1) rfl wC_X9.1.2 ⟨Nat.le_of_ble_eq_true rfl, Nat.le_of_ble_eq_true rfl⟩) ⟨cpn_blind, fun U hU hW => ⟨rfl, by rw [hU], by rw [hU]; exact y_one hP, va_K.moved hW.alike hK, ⟨va_AO.moved hW.alike hao1, va_AO.moved hW.alike hao2⟩, NwU_warm hW hNw⟩⟩ rfl rfl hl.1 rfl (lv_room (Nat.le_of_ble_eq_true rfl)) dX11_orders_29 ⟨Nat.le_of_ble_eq_true rfl, Nat.le_of_ble_eq_true rfl⟩) hS (fun a _ h => hF a h) hF (fun u t H1 locs1 ht hvm _ hB hz1 hk1 hS1 => ?_)
  obtain ⟨hP1, hD1⟩ := hB
  rw [ht] at hP1
  obtain ⟨hP2, hD2⟩ := y_join hP hD hk1 hF hP1 hD1
  refine va_put (ci := 11) (fs := fvs P M 0 0 (obj0 77)) (ty := tyX11 13) hx hb hts iwX11 tyX11 tyX11_ok nmX11 hown hK hP2 hD2 hS1 0 rfl rfl 13 (Nat.le_of_ble_eq_true rfl) (hts _ kf_X11_90) (fun x h => h) rfl rfl rfl rfl (Nat.le_of_ble_eq_true rfl) dX11_orders_32 (fun H2 locs2 hP3 hD3 hS3 => ?_)
  have hP4 := tlW_P (P := P) (M := M) (q := q) (u := u) hP3
  obtain ⟨hi4, hA4⟩ := tlW_i (P := P) (M := M) (q := q) (u := u) hD3
  have cx2 : Cx (p, l, e, ({ frames := 5, cells := 2, slots := 59394, locals := 110 } : Room), s, m, #[Value.ref (P.2.1 0), .int (iI w)], below, meth, c, 2, tlP P q (u 0), 79, aA P 77 s.heap.size, 2, 59394, MQ below (QO P s.heap.size M w) #[Value.ref (P.2.1 0), .int (iI w)] s 2 59394 (aA P 77 s.heap.size)) cX11_orders RX11 ({ frames := 5, cells := 2, slots := 59394, locals := 110 }) 2 79 :=
    ⟨⟨hx, hb, hml, hown, hts⟩, hK, hA, hA4, hi4, hSg, hlk, rfl, rfl, rfl, hn6.1, hn6.2, NwU_use hNw⟩
  have e4 : tl0 M 23 = M 23 := tl0_ne (by decide)
  refine o_tail cx2 ⟨by decide, by decide⟩ ⟨by decide, by decide⟩ hci.tly w (by rw [e4]; exact hv) ?_ H2 locs2 ls hl hP4 hS3
  intro H5 locs5 ls5 hl5 hP5 hS5
  exact W.iret hx hb hret (fun t ht hW => ⟨⟨q, u 0, rfl, hi4, hA4, by rw [ht]; exact hP5⟩, hS5.F ht⟩) hS5.2.2 dX11_orders_61 hlk
