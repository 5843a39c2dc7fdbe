/-! THE CLAIM OUT OF ONE WALK OF THE LAW'S BODY. Your part is whole_start (and what it stands on); all else here is the same for every law, but numbers. -/
def R_law : String := "CoatBetweenLaw"
def lw_P (b : Addr) (xs : List Int32) (args : Array Value) (s : State) : Prop := args = #[.ref b] ∧ s.IntsAt b xs ∧ xs.length ≤ 3072 ∧ (Jvm.Cond.and given_1 narrow_1).before args s = true
def lw_Q (_ : Array Value) (s : State) (o : Outcome) (t : State) : Prop := o = .returned (some (.int 1)) ∧ Framed s o t [] 600000 7302250
def lw_Z (below : List Frame) (a : Array Value) (s : State) : State → Prop := fun t => ∃ o, t.status = .running ∧ Ended t below o ∧ lw_Q a s o t
/-- the law's own end, with 1 on the stack, nothing written that was there before, its room as the claim has it -/
theorem lw_ret {p : Program} {l : Launch} {e : Env} {s : State} {m : MethodId} {below : List Frame} {meth : Method} {c : Code} {b : Nat} (hx : p.tables.exec = Jvm.exec) (hb : c.code = code) (hr : meth.sig.returnType = ret) (hlocks : meth.locks = false) {pc : Nat} {H : Heap} {ls : Array Slot} (hdg : decode code pc = .ok (.ireturn, 1)) : W p l e room_1 s m #[Value.ref b] below meth c H [] 600000 7302250 (lw_Z below #[Value.ref b] s) (F0 m pc ls [.int 1]) := by
  intro T hT X
  obtain ⟨fs, hret, hrun, hended, hW, hframe⟩ := X.leave (v := some (.int 1)) (hlocks := hlocks) (fun h => by rw [hr] at h; cases h)
  have hmeth' : T.vm.method? m = some meth := X.method'
  refine ⟨T.setFrames fs, ?_, .returned (some (.int 1)), hrun, hended, rfl, ⟨_, rfl⟩, hW, hframe⟩
  jvm_step X.here [X.here.top, hx, hb, hdg, hmeth', hr, ret, narrow_b1]
  (try refine ⟨rfl, ?_⟩); (try refine ⟨rfl, ?_⟩)
  first | (intro acts; rw [hret _ acts rfl rfl rfl]) | rw [hret _ _ rfl rfl rfl]
  exact Steps.refl _
/-- what holds at the law's entry: the machine, the code, the tables' words (any of lw_tbl by 'hts w (by decide +kernel)'), the script of L ints xs at the cell b, what the Statement gives of the start (any of its parts by flat_of_before) -/
def lw_At (p : Program) (s : State) (m : MethodId) (meth : Method) (c : Code) (b L : Nat) (xs : Nat → Int32) : Prop :=
  p.tables.exec = Jvm.exec ∧ c.code = code ∧ meth.sig.returnType = ret ∧ c.maxLocals = 4 ∧ s.vm.findClass R_law = some m.cls ∧ (∀ w ∈ lw_tbl, w.before #[Value.ref b] s = true) ∧ va_X b L xs s s.heap ∧ b < s.heap.size ∧ meth.locks = false ∧ (Jvm.Cond.and given_1 narrow_1).before #[Value.ref b] s = true
theorem ord_b {X : Cq} {n : Nat} (hn : NN n) (cx : Cx X cL_law RL room_1 4 n) (cs : Cs X) {L : Nat} {xs : Nat → Int32} (sx : Sx X L xs) {M : Mm} (h : Rl M) {i : Int} (hi : 0 ≤ i ∧ i + 6 ≤ (L : Int)) (k : ∀ M2, Rl M2 → G X 1605 (lvL i) [] M2) : G X 921 (lvL i) [.int (iI (osA M (Zx xs (i + 1))))] (osM M (Zx xs (i + 1))) := by
  have v := h.k7 (k7_orders h.1 (Zx xs (i + 1)))
  refine g_aload_n cx (pc2 := 922) 2 rfl dL_law_921 rfl ?_
  refine g_arg cx sx (pc2 := 927) 1 (by decide) hi dL_law_922 dL_law_923 dL_law_924 dL_law_925 dL_law_926 rfl ?_
  refine g_callV cx (pc2 := 930) (st := [.int (iI (osA M (Zx xs (i + 1))))]) (As := [.int (iI (Zx xs (i + 1)))]) (k0 := 77) (ci := 12) (c_X12_orders (M := osM M (Zx xs (i + 1))) hn v.1.1.1 (Zx xs (i + 1)) (Zx_ir _ _)) wM_X12_orders wV_X12_orders kl_L_109 rfl (lt_lit hn (Nat.le_of_ble_eq_true rfl)) rfl ⟨rfl, rfl, (Nat.le_of_ble_eq_true rfl), (Nat.le_of_ble_eq_true rfl)⟩ (Nat.le_of_ble_eq_true rfl) cs rfl rfl dL_law_927 rfl ?_
  rintro _ M2 ⟨zx, rfl, hx⟩
  obtain ⟨e, hr⟩ := pr_orders h hx
  exact g_eqT cx (tgt := 1605) e dL_law_930 rfl (k _ hr)
theorem ord_a {X : Cq} {n : Nat} (hn : NN n) (cx : Cx X cL_law RL room_1 4 n) (cs : Cs X) {L : Nat} {xs : Nat → Int32} (sx : Sx X L xs) {M : Mm} (h : Rl M) {i : Int} (hi : 0 ≤ i ∧ i + 6 ≤ (L : Int)) (k : ∀ M2, Rl M2 → G X 1605 (lvL i) [] M2) (hcase : n = 106 ∨ ¬ (0 ≤ (Zx xs (i + 1)) ∧ (Zx xs (i + 1)) ≤ ((allN (M 23 4) : Nat) : Int))) : G X 912 (lvL i) [] M := by
  refine g_aload_n cx (pc2 := 913) 1 rfl dL_law_912 rfl ?_
  refine g_arg cx sx (pc2 := 918) 1 (by decide) hi dL_law_913 dL_law_914 dL_law_915 dL_law_916 dL_law_917 rfl ?_
  refine g_callV cx (pc2 := 921) (st := []) (As := [.int (iI (Zx xs (i + 1)))]) (k0 := 0) (ci := 11) (c_X11_orders (M := M) hn h.1 (Zx xs (i + 1)) (Zx_ir _ _) hcase) wM_X11_orders wV_X11_orders kl_L_106 rfl (lt_lit hn (Nat.le_of_ble_eq_true rfl)) rfl ⟨rfl, rfl, (Nat.le_of_ble_eq_true rfl), (Nat.le_of_ble_eq_true rfl)⟩ (Nat.le_of_ble_eq_true rfl) cs rfl rfl dL_law_918 rfl ?_
  rintro _ _ ⟨rfl, rfl⟩
  exact ord_b hn cx cs sx h hi k
theorem Rl.tly {M : Mm} (h : Rl M) : Rl (tl0 M) := by
  have e : ∀ a, a ≠ 105 → tl0 M a = M a := fun a ha => tl0_ne ha
  refine h.ke (fun a b q => ?_) h.1.tly ?_ (RB_of h.2.2.2.2 (e 87 (by decide)) (e 88 (by decide)))
  · rw [e a (by unfold keC at q; omega)]
  · have h1 := h.2.2.1.2.2
    unfold RlO at h1 ⊢
    rw [e 77 (by decide), e 0 (by decide), e 78 (by decide), e 76 (by decide)]
    exact h1
theorem oc_blind {P : Pl} {sz : Nat} {M : Mm} {av : List Value} : FrameBlind (va_Pc av (OCpre P M sz)) := fun a U g mk q => ⟨q.1, (cp_blind (P := P) (n := 104) (sz := sz) (M := M) (av := av) a U g mk ⟨q.1, q.2.1⟩).2, va_AO.moved (u := U) (U := U.calling g mk a) (Vm.Alike.refl U.vm) q.2.2.1, va_AO.moved (u := U) (U := U.calling g mk a) (Vm.Alike.refl U.vm) q.2.2.2⟩
theorem g_contO {p : Program} {l : Launch} {e : Env} {R : Room} {s : State} {m : MethodId} {args : Array Value} {below : List Frame} {meth : Method} {c : Code} {H : Heap} {locs : List Loc} {cells slots mc ms : Nat} {Q : State → Prop} {pc : Nat} {P : Pl} {A : Nat → Prop} {ls : Array Slot} {rest st0 : List Value} {a : Array Value} {M : Mm} {w : Int}
    (hr : va_Run p l e R s m args below meth c H locs cells slots mc ms (F0 m pc ls st0) rest (QO P H.size M w a) (aA P 104 H.size)) (hS : va_S A s.heap H locs) (hAA : ∀ q, aA P 104 H.size q → A q)
    (kk : ∀ (q r : Nat) (H1 : Heap) (locs1 : List Loc), iP (tlP P q r) 106 → (∀ k, k < 106 → A ((tlP P q r).2.1 k)) → va_P P.1 vwCl (wld (tlP P q r) 106 (osM (tl0 M) w)) H1 → va_S A s.heap H1 locs1 → W p l e R s m args below meth c H1 locs1 (cells + mc) (slots + ms) Q (F0 m (pc + 3) ls (.int (iI (osA (tl0 M) w)) :: rest))) : W p l e R s m args below meth c H locs cells slots Q (F0 m pc ls st0) := by
  intro T hT X
  obtain ⟨v, st₀, t, T', L, h0, X', hL, e1, e2, ⟨⟨q, r, hv, hi, ha, hb⟩, hz, hk⟩, st⟩ := hr T hT X
  cases hv
  rw [h0] at hz hk
  obtain ⟨t2, a1, b1⟩ := kk q r T'.heap (locs ++ L) hi (fun k hk => hAA _ (ha k hk)) (by rw [e1]; exact hb)
    ⟨Nat.le_trans hS.1 (by rw [e1]; exact hz), fun q h1 h2 => by rw [e1, hk q (Nat.lt_of_lt_of_le h1 hS.1) (fun z => h2 (hAA q z))]; exact hS.2.1 q h1 h2, fun q hq => by
      rcases List.mem_append.mp hq with h | h
      · exact hS.2.2 q h
      · exact hAA _ (hL q h)⟩ T' rfl X'
  exact ⟨t2, st t2 a1, b1⟩
/-- the law's context -/
def Lq : Cq → Nat → Nat → (Nat → Int32) → Prop
  | (p, l, e, R, s, m, args, below, meth, c, nL, P, n, A, cells, slots, Q), n0, L, xs => Cx (p, l, e, R, s, m, args, below, meth, c, nL, P, n, A, cells, slots, Q) cL_law RL room_1 4 n0 ∧ ((n0 = 104 ∧ cells ≤ 104 ∧ slots ≤ 28745) ∨ (n0 = 106 ∧ cells ≤ 106 ∧ slots ≤ 88139)) ∧ Sx (p, l, e, R, s, m, args, below, meth, c, nL, P, n, A, cells, slots, Q) L xs ∧ (va_AO RX8 s ∧ va_AO RX4 s) ∧ meth.sig.returnType = ret ∧ (∀ q, A q → s.heap.size ≤ q) ∧ ∃ b : Nat, args = #[Value.ref b] ∧ Q = lw_Z below #[Value.ref b] s
theorem Lq.x {X : Cq} {n L : Nat} {xs : Nat → Int32} (h : Lq X n L xs) : Cx X cL_law RL room_1 4 n ∧ Cs X ∧ Sx X L xs ∧ NN n := by
  obtain ⟨p, l, e, R, s, m, args, below, meth, c, nL2, P, n2, A, cells, slots, Q⟩ := X
  obtain ⟨h1, h2, h3, -⟩ := h
  have hR : R = room_1 := h1.2.2.2.2.2.2.2.1
  refine ⟨h1, ?_, h3, by rcases h2 with ⟨rfl, _⟩ | ⟨rfl, _⟩ <;> exact ⟨by decide, by decide⟩⟩
  show cells ≤ R.cells ∧ slots ≤ R.slots
  rw [hR]
  show cells ≤ 600000 ∧ slots ≤ 7302250
  omega
set_option maxHeartbeats 4000000 in
theorem arm_orders {X : Cq} {n L : Nat} {xs : Nat → Int32} (lq : Lq X n L xs) {M : Mm} (h : Rl M) {i : Int} (hi : 0 ≤ i ∧ i + 6 ≤ (L : Int)) (k : ∀ (X2 : Cq) (n2 : Nat), Lq X2 n2 L xs → ∀ M2, Rl M2 → G X2 1605 (lvL i) [] M2) : G X 912 (lvL i) [] M := by
  obtain ⟨cx, cs, sx, hn⟩ := lq.x
  by_cases hcase : n = 106 ∨ ¬ (0 ≤ (Zx xs (i + 1)) ∧ (Zx xs (i + 1)) ≤ ((allN (M 23 4) : Nat) : Int))
  · exact ord_a hn cx cs sx h hi (k X n lq) hcase
  have hv : 0 ≤ (Zx xs (i + 1)) ∧ (Zx xs (i + 1)) ≤ ((allN (M 23 4) : Nat) : Int) := Classical.byContradiction fun q => hcase (Or.inr q)
  have h104 : ¬ n = 106 := fun q => hcase (Or.inl q)
  refine g_aload_n cx (pc2 := 913) 1 rfl dL_law_912 rfl ?_
  refine g_arg cx sx (pc2 := 918) 1 (by decide) hi dL_law_913 dL_law_914 dL_law_915 dL_law_916 dL_law_917 rfl ?_
  obtain ⟨p, l, e, R, s, m, args, below, meth, c, nL2, P, n2, A, cells, slots, Q⟩ := X
  obtain ⟨cx1, hb, sx1, hao, hret, hAs, b, rfl, rfl⟩ := lq
  have hcl : n = 104 ∧ cells ≤ 104 ∧ slots ≤ 28745 := by
    rcases hb with q | q
    · exact q
    · exact absurd q.1 h104
  obtain ⟨rfl, hcells, hslots⟩ := hcl
  obtain ⟨⟨hx, hb2, hml, hown, hts⟩, hK, hA, hAw, hiP, hSg, hlk, hR, hnL, hn0, hn1, hn2, hnw⟩ := cx
  subst hR
  subst hnL
  subst hn0
  intro H locs ls hl hP hS
  have hAA := aA_sub hA hAw hS
  refine g_contO (M := M) (w := (Zx xs (i + 1))) (mc := 2) (ms := 59394) (rest := []) (va_runV (As := [.int (iI (Zx xs (i + 1)))]) (b := P.2.1 0) (C := RX11) ⟨hx, hb2, hml, hown, hts⟩ (o_X11_orders h.1 (Zx xs (i + 1)) (Zx_ir _ _) hv l P H.size hiP) (cwV 1 hts (gw_good (ws := wsV RL 106 RX11 yX11_orders (Cond.code yX11_orders cX11_orders 2 (some .int) :: gw)) ?_) rfl rfl rfl ⟨rfl, wM_X11_orders.2⟩ ⟨Nat.le_of_ble_eq_true rfl, Nat.le_of_ble_eq_true rfl⟩) ⟨oc_blind, va_recv hK hP (ci := 11) rfl (q0 := 0) rfl, fun U hU hW => ⟨rfl, g_pre hK hSg (NwU_of hnw) hP hS hAA U hU hW, va_AO.moved hW.alike hao.1, va_AO.moved hW.alike hao.2⟩⟩ rfl rfl hl.1 rfl (lv_room (Nat.le_of_ble_eq_true rfl)) dL_law_918 ⟨by show cells + 2 ≤ 600000; omega, by show slots + 59394 ≤ 7302250; omega⟩) hS hAA (fun q r H1 locs1 hi4 hA4 hP4 hS4 => ?_)
  · intro w hw2
    simp only [wsV, List.cons_append, List.nil_append, List.mem_cons] at hw2
    rcases hw2 with rfl | rfl | rfl | rfl | rfl | hw2
    · exact kl_L_106
    · exact wV_X11_orders.1
    · exact wV_X11_orders.2
    · exact wM_X11_orders.1.1
    · exact wM_X11_orders.1.2
    · exact hw2
  have lq2 : Lq (p, l, e, room_1, s, m, #[Value.ref b], below, meth, c, 4, tlP P q r, 106, A, cells + 2, slots + 59394, lw_Z below #[Value.ref b] s) 106 L xs :=
    ⟨⟨⟨hx, hb2, hml, hown, hts⟩, hK, hA, hA4, hi4, hSg, hlk, rfl, rfl, rfl, by decide, by decide, hnw⟩, Or.inr ⟨rfl, by omega, by omega⟩, sx1, hao, hret, hAs, b, rfl, rfl⟩
  obtain ⟨cx3, cs3, sx3, hn3⟩ := lq2.x
  exact ord_b hn3 cx3 cs3 sx3 h.tly hi (k _ _ lq2) H1 locs1 ls hl hP4 hS4
