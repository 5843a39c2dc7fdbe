theorem oc_blind {P : Pl} {sz : Nat} {M : Mm} {av : List Value} : FrameBlind (va_Pc av (OCpre P M sz)) := fun a U g mk q => ⟨q.1, (cp_blind (P := P) (n := 77) (sz := sz) (M := M) (av := av) a U g mk ⟨q.1, q.2.1⟩).2, va_AO.moved (u := U) (U := U.calling g mk a) (Vm.Alike.refl U.vm) q.2.2.1, va_AO.moved (u := U) (U := U.calling g mk a) (Vm.Alike.refl U.vm) q.2.2.2⟩
theorem tl_join {D : va_G} {P P' : Pl} {M M2 : Mm} {w : va_W} {A : Nat → Prop} {H H1 : Heap} (hP : va_P D vwCl (wld P 77 M ++ w) H) (hD : va_D A (wld P 77 M ++ w)) (hAA : ∀ q, aA P 77 H.size q → A q) (hk : ∀ a : Nat, a < H.size → ¬ aA P 77 H.size a → H1[a]? = H[a]?) (hi : iP P' 79) (ha : ∀ k, k < 79 → aA P 77 H.size (P'.2.1 k)) (h2 : va_P D vwCl (wld P' 79 M2) H1) : va_P D vwCl (wld P' 79 M2 ++ w) H1 ∧ va_D A (wld P' 79 M2 ++ w) := by
  have l1 : (wld P 77 M).length = 77 := by unfold wld; simp
  have l2 : (wld P' 79 M2).length = 79 := by unfold wld; simp
  have away : ∀ (k : Nat) (q : Nat × va_E), w[k]? = some q → (wld P 77 M ++ w)[77 + k]? = some q ∧ q.1 < H.size ∧ ¬ aA P 77 H.size q.1 := fun k q hq => by
    have hk2 : (wld P 77 M ++ w)[77 + k]? = some q := by
      rw [List.getElem?_append_right (by omega), l1, show 77 + k - 77 = k by omega]
      exact hq
    have hlt := (hP _ q hk2).lt
    refine ⟨hk2, hlt, fun z => ?_⟩
    rcases z with ⟨j, hj, e⟩ | z
    · have hj2 : (wld P 77 M ++ w)[j]? = some (P.2.1 j, wc P 77 M j) := by rw [List.getElem?_append_left (by omega), wld_get hj]
      have := hD.1 _ _ q _ hk2 hj2 e
      omega
    · omega
  have gt : ∀ (k : Nat) (q : Nat × va_E), (wld P' 79 M2 ++ w)[k]? = some q → (k < 79 ∧ q.1 = P'.2.1 k) ∨ (79 ≤ k ∧ w[k - 79]? = some q) := fun k q hq => by
    by_cases h : k < 79
    · rw [List.getElem?_append_left (by omega), wld_get h] at hq
      cases hq
      exact Or.inl ⟨h, rfl⟩
    · rw [List.getElem?_append_right (by omega), l2] at hq
      exact Or.inr ⟨by omega, hq⟩
  refine ⟨va_P.app h2 (fun k q hq => ?_), fun i j x y hx hy e => ?_, fun k q hq => ?_⟩
  · obtain ⟨h3, h4, h5⟩ := away k q hq
    exact (hP _ q h3).kept (hk q.1 h4 h5)
  · rcases gt i x hx with ⟨a1, a2⟩ | ⟨a1, a2⟩
    · rcases gt j y hy with ⟨b1, b2⟩ | ⟨b1, b2⟩
      · exact hi i j a1 b1 (by rw [← a2, ← b2]; exact e)
      · obtain ⟨_, _, h5⟩ := away _ y b2
        exact absurd (by rw [← e, a2]; exact ha i a1) h5
    · rcases gt j y hy with ⟨b1, b2⟩ | ⟨b1, b2⟩
      · obtain ⟨_, _, h5⟩ := away _ x a2
        exact absurd (by rw [e, b2]; exact ha j b1) h5
      · obtain ⟨h3, _, _⟩ := away _ x a2
        obtain ⟨h4, _, _⟩ := away _ y b2
        have := hD.1 _ _ x y h3 h4 e
        omega
  · rcases gt k q hq with ⟨a1, a2⟩ | ⟨a1, a2⟩
    · rw [a2]
      exact hAA _ (ha k a1)
    · obtain ⟨h3, _, _⟩ := away _ q a2
      exact hD.2 _ q h3
set_option maxHeartbeats 4000000 in
set_option maxRecDepth 100000 in
/-- the first call of orders makes the Tally -/
theorem l_orders0 {X : Yq} {P0 : Pl} (cx : Yx X cL_law RL room_1 18 P0) {P : Pl} (ys : Ys X P) {lv : List (Nat × Value)} {k d : Int} {M : Mm} (hci : CI M) (hv : 0 ≤ k ∧ k ≤ ((allN (M 23 4) : Nat) : Int)) (hw : ir k) {w : va_W} {cs ss : Nat} (hcs : cs + 2 ≤ 600000 ∧ ss + 59394 ≤ 7302250) (kk : ∀ q r : Nat, Ys X (tlP P q r) → YG X 269 lv [.int (iI (osA (tl0 M) k)), .int (iI d)] (wld (tlP P q r) 79 (osM (tl0 M) k) ++ w) (cs + 2) (ss + 59394)) : YG X 266 lv [.int (iI k), .ref (P.2.1 0), .int (iI d)] (wld P 77 M ++ w) cs ss := by
  obtain ⟨p, l, e, R, s, m, args, below, meth, c, nL2, P2, A, Q⟩ := X
  obtain ⟨⟨hx, hb, hml, hown, hts⟩, hK, hA, hlk, hR, hnL, hPP, hnw, hao, hnm2⟩ := cx
  obtain ⟨hSg, e1, e2⟩ := ys
  subst hR
  subst hPP
  subst hnL
  intro H locs ls hl hP hD hS
  rw [← e1] at hP
  have hK1 : va_K P.1 vwCl (tysP P) s := by
    have : tysP P = tysP P2 := by unfold tysP; rw [e2]
    rw [this, e1]
    exact hK
  obtain ⟨hi, hAw⟩ := wldR_i hD
  have hAA := aA_sub hA hAw hS
  have hPo := wldR_l hP
  have hr : va_Run p l e room_1 s m args below meth c H locs cs ss 2 59394 (F0 m 266 ls [.int (iI k), .ref (P.2.1 0), .int (iI d)]) [.int (iI d)] (QO P H.size M k (Value.ref (P.2.1 0) :: [Value.int (iI k)]).toArray) (aA P 77 H.size) :=
    va_runV (As := [.int (iI k)]) (b := P.2.1 0) (C := RX11) ⟨hx, hb, hml, hown, hts⟩ (o_X11_orders hci k hw hv l P H.size hi) (cwV 1 hts (gw_good (ws := wsV RL 92 RX11 yX11_orders (Cond.code yX11_orders cX11_orders 2 (some .int) :: gw)) (fun w hw2 => by
      simp only [wsV, List.cons_append, List.nil_append, List.mem_cons] at hw2
      rcases hw2 with rfl | rfl | rfl | rfl | rfl | hw2
      · exact kl_L_92
      · exact wV_X11_orders.1
      · exact wV_X11_orders.2
      · exact wM_X11_orders.1.1
      · exact wM_X11_orders.1.2
      · exact hw2)) rfl rfl rfl ⟨rfl, wM_X11_orders.2⟩ ⟨Nat.le_of_ble_eq_true rfl, Nat.le_of_ble_eq_true rfl⟩) ⟨oc_blind, va_recv hK1 hPo (ci := 11) rfl (q0 := 0) rfl, fun U hU hW => ⟨rfl, g_pre hK1 hSg (NwU_of hnw) hPo hS hAA U hU hW, va_AO.moved hW.alike hao.1, va_AO.moved hW.alike hao.2⟩⟩ rfl rfl hl.1 rfl (lv_room (Nat.le_of_ble_eq_true rfl)) dL_law_266 ⟨by show cs + 2 ≤ 600000; omega, by show ss + 59394 ≤ 7302250; omega⟩
  intro T hT Xx
  obtain ⟨v, st₀, t, T', L, h0, X', hL, q1, q2, ⟨⟨q, r, hv2, hi2, ha2, hb2⟩, hz, hk⟩, st1⟩ := hr T hT Xx
  cases hv2
  rw [h0] at hz hk
  have hk1 : ∀ a : Nat, a < H.size → ¬ aA P 77 H.size a → T'.heap[a]? = H[a]? := fun a h1 h2 => by rw [q1, hk a h1 h2]
  obtain ⟨hP1, hD1⟩ := tl_join hP hD hAA hk1 hi2 ha2 (by rw [q1]; exact hb2)
  rw [e1] at hP1
  obtain ⟨t2, a1, b1⟩ := kk q r ⟨hSg, e1, e2⟩ T'.heap (locs ++ L) ls hl hP1 hD1
    ⟨Nat.le_trans hS.1 (by rw [q1]; exact hz), fun q h1 h2 => by rw [hk1 q (Nat.lt_of_lt_of_le h1 hS.1) (fun z => h2 (hAA q z))]; exact hS.2.1 q h1 h2, fun q hq => by
      rcases List.mem_append.mp hq with h | h
      · exact hS.2.2 q h
      · exact hAA _ (hL q h)⟩ T' rfl X'
  exact ⟨t2, st1 t2 a1, b1⟩
set_option maxHeartbeats 4000000 in
set_option maxRecDepth 100000 in
theorem law_S1 {X : Yq} {P : Pl} (cx : Yx X cL_law RL room_1 18 P) {b L : Nat} {xs : Nat → Int32} (sx : Sy X b L xs) (ez : Ez X) {P1 P2 : Pl} (ys : Ys X P1) (ysq : Ys X P2) {n : Nat} (hn : NN n) {R : va_W} {av : Nat} {V U : Nat → Int} (q0 : Nat) (hV : R[q0]? = some (ar P av 64 V)) (hg : GV V) (hmi : MI V U) {cs ss : Nat} (hcs : cs ≤ 599000 ∧ ss ≤ 7300000) {b0 most ws c0 st : Int} {k : Int} (hk : 0 ≤ k ∧ k ≤ 32) {M N : Mm} (hM : VOK V M) (hN : VOK U N) (k476 : ¬ k < ((2 ^ nN V : Nat) : Int) → YG X 476 [(0, .ref b), (1, .ref (P1.2.1 0)), (2, .ref (P2.2.1 0)), (3, .ref av), (5, .int (iI (V 9))), (6, .int (iI b0)), (7, .int (iI most)), (8, .int (iI ws)), (9, .int (iI c0)), (10, .int (iI st)), (11, .int (iI (CNT V k.toNat))), (12, .int (iI k))] [] (wld P1 n M ++ (wld P2 77 N ++ R)) cs ss) (k266 : ∀ (M2 N2 : Mm) (d : Int), k < ((2 ^ nN V : Nat) : Int) → VOK V M2 → VOK U N2 → ((d = 0 ∧ ENV V k.toNat < 0) ∨ (d = 1 ∧ ¬ ENV V k.toNat < 0)) → YG X 266 [(0, .ref b), (1, .ref (P1.2.1 0)), (2, .ref (P2.2.1 0)), (3, .ref av), (5, .int (iI (V 9))), (6, .int (iI b0)), (7, .int (iI most)), (8, .int (iI ws)), (9, .int (iI c0)), (10, .int (iI st)), (11, .int (iI (CNT V (k + 1).toNat))), (12, .int (iI k)), (13, .int (iI (ENV V k.toNat)))] [.int (iI k), .ref (P1.2.1 0), .int (iI d)] (wld P1 n M2 ++ (wld P2 77 N2 ++ R)) cs ss) : YG X 210 [(0, .ref b), (1, .ref (P1.2.1 0)), (2, .ref (P2.2.1 0)), (3, .ref av), (5, .int (iI (V 9))), (6, .int (iI b0)), (7, .int (iI most)), (8, .int (iI ws)), (9, .int (iI c0)), (10, .int (iI st)), (11, .int (iI (CNT V k.toNat))), (12, .int (iI k))] [] (wld P1 n M ++ (wld P2 77 N ++ R)) cs ss := by
  have hcr := hcr_of hcs
  have h9 := hg.2.1
  have h32 := (nN_5 hg).2
  have hn77 : NN 77 := ⟨by decide, by decide⟩
  have hnn : ((nN V : Nat) : Int) = V 9 := Int.toNat_of_nonneg h9.1
  have hcb := CNT_b V k.toNat
  have hpp := Nat.two_pow_pos (nN V)
  have hgU := MI_GV hg hmi
  have hnU : nN U = nN V := MI_n hg hmi
  refine l_iload cx (pc2 := 212) 11 rfl dL_law_210 rfl ?_
  refine l_iconst cx (pc2 := 213) dL_law_212 rfl ?_
  refine l_iload cx (pc2 := 215) 4 rfl dL_law_213 rfl ?_
  refine l_ishl cx (pc2 := 216) dL_law_215 rfl ?_
  refine l_rwi (y := iI ((2 ^ nN V : Nat) : Int)) (sh1 (by omega) (by omega)) ?_
  refine l_icmp_ge cx (pc2 := 219) (tgt := 476) ⟨(by first | assumption | omega | exact hg.1.1 _ | exact ⟨by omega, by omega⟩), (by first | assumption | omega | exact hg.1.1 _ | exact ⟨by omega, by omega⟩)⟩ dL_law_216 (by decide) rfl (fun h_1 => ?_) (fun h_1 => ?_)
  · skip
    exact k476 (by omega)
  · skip
    have hkn : k.toNat < 2 ^ nN V := by omega
    have heb := ENV_b hg hkn
    have heU := ENV_mi hg hmi hkn
    have hM2 := VOK_kp hM (KP_can hM.2.2 k)
    have hN2 := VOK_kp hN (KP_can hN.2.2 k)
    refine l_aload_n cx (pc2 := 220) 1 rfl dL_law_219 rfl ?_
    refine l_iload cx (pc2 := 222) 11 rfl dL_law_220 rfl ?_
    refine l_ctI cx (pc2 := 225) (st := []) ys hn (M := M) (As := [.int (iI k)]) (c_canL (M := M) hn hg hM.1.w hM.2.2 k (by omega)) wM_X11_can wV_X11_can rfl kl_L_89 ⟨rfl, rfl, Nat.le_of_ble_eq_true rfl, Nat.le_of_ble_eq_true rfl⟩ (Nat.le_of_ble_eq_true rfl) hcr rfl rfl rfl dL_law_222 rfl ?_
    refine l_istore cx (pc2 := 227) (lv2 := [(0, .ref b), (1, .ref (P1.2.1 0)), (2, .ref (P2.2.1 0)), (3, .ref av), (5, .int (iI (V 9))), (6, .int (iI b0)), (7, .int (iI most)), (8, .int (iI ws)), (9, .int (iI c0)), (10, .int (iI st)), (11, .int (iI (CNT V k.toNat))), (12, .int (iI k)), (13, .int (iI (ENV V k.toNat)))]) rfl (Nat.le_of_ble_eq_true rfl) dL_law_225 rfl ?_
    refine l_iload cx (pc2 := 229) 10 rfl dL_law_227 rfl ?_
    refine l_iload cx (pc2 := 231) 12 rfl dL_law_229 rfl ?_
    refine l_if_ge cx (pc2 := 234) (tgt := 238) (by first | assumption | omega | exact hg.1.1 _ | exact ⟨by omega, by omega⟩) dL_law_231 (by decide) rfl (fun h_2 => ?_) (fun h_2 => ?_)
    · skip
      refine l_iconst cx (pc2 := 239) dL_law_238 rfl ?_
      refine l_iadd cx (pc2 := 240) dL_law_239 rfl ?_
      refine l_rwi (y := iI (CNT V (k + 1).toNat)) (by first | (rw [CNT_s V hk.1, if_neg (by omega)]; done) | (rw [CNT_s V hk.1, if_pos (by omega)]; done)) ?_
      refine l_istore cx (pc2 := 242) (lv2 := [(0, .ref b), (1, .ref (P1.2.1 0)), (2, .ref (P2.2.1 0)), (3, .ref av), (5, .int (iI (V 9))), (6, .int (iI b0)), (7, .int (iI most)), (8, .int (iI ws)), (9, .int (iI c0)), (10, .int (iI st)), (11, .int (iI (CNT V (k + 1).toNat))), (12, .int (iI k)), (13, .int (iI (ENV V k.toNat)))]) rfl (Nat.le_of_ble_eq_true rfl) dL_law_240 rfl ?_
      refine l_iload cx (pc2 := 244) 12 rfl dL_law_242 rfl ?_
      refine l_aload_n cx (pc2 := 245) 2 rfl dL_law_244 rfl ?_
      refine l_iload cx (pc2 := 247) 11 rfl dL_law_245 rfl ?_
      refine l_swp ?_
      refine l_ctI cx (pc2 := 250) (st := [.int (iI (ENV V k.toNat))]) ysq hn77 (M := N) (As := [.int (iI k)]) (c_canL (M := N) hn77 hgU hN.1.w hN.2.2 k (by rw [hnU]; omega)) wM_X11_can wV_X11_can rfl kl_L_89 ⟨rfl, rfl, Nat.le_of_ble_eq_true rfl, Nat.le_of_ble_eq_true rfl⟩ (Nat.le_of_ble_eq_true rfl) hcr rfl rfl rfl dL_law_247 rfl ?_
      refine l_swp ?_
      refine l_rwi (y := iI (ENV V k.toNat)) (congrArg iI heU) ?_
      refine l_icmp_ne cx (pc2 := 253) (tgt := 287) ⟨(by first | assumption | omega | exact hg.1.1 _ | exact ⟨by omega, by omega⟩), (by first | assumption | omega | exact hg.1.1 _ | exact ⟨by omega, by omega⟩)⟩ dL_law_250 (by decide) rfl (fun h_3 => ?_) (fun h_3 => ?_)
      · skip
        omega
      · skip
        refine l_iload cx (pc2 := 255) 12 rfl dL_law_253 rfl ?_
        refine l_if_lt cx (pc2 := 258) (tgt := 262) (by first | assumption | omega | exact hg.1.1 _ | exact ⟨by omega, by omega⟩) dL_law_255 (by decide) rfl (fun h_4 => ?_) (fun h_4 => ?_)
        · skip
          refine l_iconst cx (pc2 := 263) dL_law_262 rfl ?_
          refine l_aload_n cx (pc2 := 264) 1 rfl dL_law_263 rfl ?_
          refine l_iload cx (pc2 := 266) 11 rfl dL_law_264 rfl ?_
          first | exact k266 _ _ _ (by omega) hM2 hN2 (Or.inl ⟨rfl, by omega⟩) | exact k266 _ _ _ (by omega) hM2 hN2 (Or.inr ⟨rfl, by omega⟩) | (exfalso; omega)
        · skip
          refine l_iconst cx (pc2 := 259) dL_law_258 rfl ?_
          refine l_goto cx (tgt := 263) dL_law_259 (by decide) ?_
          refine l_aload_n cx (pc2 := 264) 1 rfl dL_law_263 rfl ?_
          refine l_iload cx (pc2 := 266) 11 rfl dL_law_264 rfl ?_
          first | exact k266 _ _ _ (by omega) hM2 hN2 (Or.inl ⟨rfl, by omega⟩) | exact k266 _ _ _ (by omega) hM2 hN2 (Or.inr ⟨rfl, by omega⟩) | (exfalso; omega)
    · skip
      refine l_iconst cx (pc2 := 235) dL_law_234 rfl ?_
      refine l_goto cx (tgt := 239) dL_law_235 (by decide) ?_
      refine l_iadd cx (pc2 := 240) dL_law_239 rfl ?_
      refine l_rwi (y := iI (CNT V (k + 1).toNat)) (by first | (rw [CNT_s V hk.1, if_neg (by omega)]; done) | (rw [CNT_s V hk.1, if_pos (by omega)]; done)) ?_
      refine l_istore cx (pc2 := 242) (lv2 := [(0, .ref b), (1, .ref (P1.2.1 0)), (2, .ref (P2.2.1 0)), (3, .ref av), (5, .int (iI (V 9))), (6, .int (iI b0)), (7, .int (iI most)), (8, .int (iI ws)), (9, .int (iI c0)), (10, .int (iI st)), (11, .int (iI (CNT V (k + 1).toNat))), (12, .int (iI k)), (13, .int (iI (ENV V k.toNat)))]) rfl (Nat.le_of_ble_eq_true rfl) dL_law_240 rfl ?_
      refine l_iload cx (pc2 := 244) 12 rfl dL_law_242 rfl ?_
      refine l_aload_n cx (pc2 := 245) 2 rfl dL_law_244 rfl ?_
      refine l_iload cx (pc2 := 247) 11 rfl dL_law_245 rfl ?_
      refine l_swp ?_
      refine l_ctI cx (pc2 := 250) (st := [.int (iI (ENV V k.toNat))]) ysq hn77 (M := N) (As := [.int (iI k)]) (c_canL (M := N) hn77 hgU hN.1.w hN.2.2 k (by rw [hnU]; omega)) wM_X11_can wV_X11_can rfl kl_L_89 ⟨rfl, rfl, Nat.le_of_ble_eq_true rfl, Nat.le_of_ble_eq_true rfl⟩ (Nat.le_of_ble_eq_true rfl) hcr rfl rfl rfl dL_law_247 rfl ?_
      refine l_swp ?_
      refine l_rwi (y := iI (ENV V k.toNat)) (congrArg iI heU) ?_
      refine l_icmp_ne cx (pc2 := 253) (tgt := 287) ⟨(by first | assumption | omega | exact hg.1.1 _ | exact ⟨by omega, by omega⟩), (by first | assumption | omega | exact hg.1.1 _ | exact ⟨by omega, by omega⟩)⟩ dL_law_250 (by decide) rfl (fun h_5 => ?_) (fun h_5 => ?_)
      · skip
        omega
      · skip
        refine l_iload cx (pc2 := 255) 12 rfl dL_law_253 rfl ?_
        refine l_if_lt cx (pc2 := 258) (tgt := 262) (by first | assumption | omega | exact hg.1.1 _ | exact ⟨by omega, by omega⟩) dL_law_255 (by decide) rfl (fun h_6 => ?_) (fun h_6 => ?_)
        · skip
          refine l_iconst cx (pc2 := 263) dL_law_262 rfl ?_
          refine l_aload_n cx (pc2 := 264) 1 rfl dL_law_263 rfl ?_
          refine l_iload cx (pc2 := 266) 11 rfl dL_law_264 rfl ?_
          first | exact k266 _ _ _ (by omega) hM2 hN2 (Or.inl ⟨rfl, by omega⟩) | exact k266 _ _ _ (by omega) hM2 hN2 (Or.inr ⟨rfl, by omega⟩) | (exfalso; omega)
        · skip
          refine l_iconst cx (pc2 := 259) dL_law_258 rfl ?_
          refine l_goto cx (tgt := 263) dL_law_259 (by decide) ?_
          refine l_aload_n cx (pc2 := 264) 1 rfl dL_law_263 rfl ?_
          refine l_iload cx (pc2 := 266) 11 rfl dL_law_264 rfl ?_
          first | exact k266 _ _ _ (by omega) hM2 hN2 (Or.inl ⟨rfl, by omega⟩) | exact k266 _ _ _ (by omega) hM2 hN2 (Or.inr ⟨rfl, by omega⟩) | (exfalso; omega)
theorem law_S2 {X : Yq} {P : Pl} (cx : Yx X cL_law RL room_1 18 P) {b L : Nat} {xs : Nat → Int32} (sx : Sy X b L xs) (ez : Ez X) {P1 P2 : Pl} (ys : Ys X P1) (ysq : Ys X P2) {n : Nat} (hn : NN n) {R : va_W} {av : Nat} {V U : Nat → Int} (q0 : Nat) (hV : R[q0]? = some (ar P av 64 V)) (hg : GV V) (hmi : MI V U) {cs ss : Nat} (hcs : cs ≤ 599000 ∧ ss ≤ 7300000) {b0 most ws c0 st : Int} (hb : BST V b0) (hbq : ∀ N, HW V N → bstA N = b0) (hm : ¬ b0 = -9 → most = WV V b0.toNat) (hc0 : c0 = CNT V (2 ^ nN V)) (hws : (-9 ≤ ws ∧ ws ≤ st) ∧ st ≤ 144) (hst : ∀ j : Nat, j < 2 ^ nN V → ¬ ENV V j = -9 → WV V j ≤ st) {k : Int} (hk : 0 ≤ k ∧ k ≤ 32) (hkE : k = ((2 ^ nN V : Nat) : Int)) {M N : Mm} (hM : VOK V M) : YG X 476 [(0, .ref b), (1, .ref (P1.2.1 0)), (2, .ref (P2.2.1 0)), (3, .ref av), (5, .int (iI (V 9))), (6, .int (iI b0)), (7, .int (iI most)), (8, .int (iI ws)), (9, .int (iI c0)), (10, .int (iI st)), (11, .int (iI (CNT V k.toNat))), (12, .int (iI k))] [] (wld P1 n M ++ (wld P2 77 N ++ R)) cs ss := by
  have hb2 := CNT_b V (2 ^ nN V)
  have h32 := (nN_5 hg).2
  have e : k.toNat = 2 ^ nN V := by omega
  rw [e, hc0]
  refine l_sub (lv2 := [(0, .ref b), (1, .ref (P1.2.1 0)), (3, .ref av), (5, .int (iI (V 9))), (6, .int (iI b0)), (7, .int (iI most)), (8, .int (iI ws)), (9, .int (iI (CNT V (2 ^ nN V)))), (10, .int (iI st)), (11, .int (iI (CNT V (2 ^ nN V))))]) [0, 1, 3, 4, 5, 6, 7, 8, 9, 10] rfl ?_
  exact law_C1 cx sx ez ys hn (77 + q0) (wR_get hV) hg hcs hb hbq hm ⟨by omega, by omega⟩ hws hst hM
set_option maxHeartbeats 4000000 in
theorem law_SL {X : Yq} {P : Pl} (cx : Yx X cL_law RL room_1 18 P) {b L : Nat} {xs : Nat → Int32} (sx : Sy X b L xs) (ez : Ez X) {P1 P2 : Pl} (ys : Ys X P1) (ysq : Ys X P2) {R : va_W} {av : Nat} {V U : Nat → Int} (q0 : Nat) (hV : R[q0]? = some (ar P av 64 V)) (hg : GV V) (hmi : MI V U) {cs ss : Nat} (hcs : cs ≤ 599000 ∧ ss ≤ 7300000) {b0 most ws c0 st : Int} (hb : BST V b0) (hbq : ∀ N, HW V N → bstA N = b0) (hm : ¬ b0 = -9 → most = WV V b0.toNat) (hc0 : c0 = CNT V (2 ^ nN V)) (hws : (-9 ≤ ws ∧ ws ≤ st) ∧ st ≤ 144) (hst : ∀ j : Nat, j < 2 ^ nN V → ¬ ENV V j = -9 → WV V j ≤ st) : ∀ (fu : Nat) (M N : Mm) (k : Int), VOK V M → VOK U N → (0 ≤ k ∧ k ≤ ((2 ^ nN V : Nat) : Int)) → (((2 ^ nN V : Nat) : Int) - k).toNat ≤ fu → YG X 210 [(0, .ref b), (1, .ref (P1.2.1 0)), (2, .ref (P2.2.1 0)), (3, .ref av), (5, .int (iI (V 9))), (6, .int (iI b0)), (7, .int (iI most)), (8, .int (iI ws)), (9, .int (iI c0)), (10, .int (iI st)), (11, .int (iI (CNT V k.toNat))), (12, .int (iI k))] [] (wld P1 79 M ++ (wld P2 77 N ++ R)) cs ss := by
  intro fu
  induction fu using Nat.strongRecOn with
  | _ fu ih =>
    intro M N k hM hN hk hfu
    have hn : NN 79 := ⟨by decide, by decide⟩
    have h32 := (nN_5 hg).2
    refine law_S1 cx sx ez ys ysq hn q0 hV hg hmi hcs ⟨hk.1, by omega⟩ hM hN (fun h => ?_) (fun M2 N2 d hlt hM2 hN2 hd => ?_)
    · exact law_S2 cx sx ez ys ysq hn q0 hV hg hmi hcs hb hbq hm hc0 hws hst ⟨hk.1, by omega⟩ (by omega) hM
    · have hkn : k.toNat < 2 ^ nN V := by omega
      have ho := ors_V hg hM2.1.w hkn
      rw [Int.toNat_of_nonneg hk.1] at ho
      refine l_ctI cx (pc2 := 269) (st := [.int (iI d)]) ys hn (M := M2) (As := [.int (iI k)]) (c_X11_orders (M := M2) hn hM2.2.2 k ⟨by omega, by omega⟩ (Or.inl rfl)) wM_X11_orders wV_X11_orders rfl kl_L_92 ⟨rfl, rfl, Nat.le_of_ble_eq_true rfl, Nat.le_of_ble_eq_true rfl⟩ (Nat.le_of_ble_eq_true rfl) (hcr_of hcs) rfl rfl rfl dL_law_266 rfl ?_
      refine law_S3 cx sx ez ys ysq q0 hV hg hmi hcs ⟨hk.1, hlt⟩ (fun M3 N3 hM3 hN3 => ?_) (VOK_kp hM2 (KP_orders hM2.2.2 k)) hN2 ho hd
      exact ih _ (by omega) M3 N3 (k + 1) hM3 hN3 ⟨by omega, by omega⟩ (Nat.le_refl _)
set_option maxHeartbeats 4000000 in
/-- from the loop's start: the first set's orders make the Tally -/
theorem law_S0 {X : Yq} {P : Pl} (cx : Yx X cL_law RL room_1 18 P) {b L : Nat} {xs : Nat → Int32} (sx : Sy X b L xs) (ez : Ez X) {P1 P2 : Pl} (ys : Ys X P1) (ysq : Ys X P2) {R : va_W} {av : Nat} {V U : Nat → Int} (q0 : Nat) (hV : R[q0]? = some (ar P av 64 V)) (hg : GV V) (hmi : MI V U) {cs ss : Nat} (hcs : cs ≤ 1000 ∧ ss ≤ 1000000) {b0 most ws c0 st : Int} (hb : BST V b0) (hbq : ∀ N, HW V N → bstA N = b0) (hm : ¬ b0 = -9 → most = WV V b0.toNat) (hc0 : c0 = CNT V (2 ^ nN V)) (hws : (-9 ≤ ws ∧ ws ≤ st) ∧ st ≤ 144) (hst : ∀ j : Nat, j < 2 ^ nN V → ¬ ENV V j = -9 → WV V j ≤ st) {M N : Mm} (hM : VOK V M) (hN : VOK U N) : YG X 210 [(0, .ref b), (1, .ref (P1.2.1 0)), (2, .ref (P2.2.1 0)), (3, .ref av), (5, .int (iI (V 9))), (6, .int (iI b0)), (7, .int (iI most)), (8, .int (iI ws)), (9, .int (iI c0)), (10, .int (iI st)), (11, .int (iI (CNT V (0 : Int).toNat))), (12, .int (iI 0))] [] (wld P1 77 M ++ (wld P2 77 N ++ R)) cs ss := by
  have hn : NN 77 := ⟨by decide, by decide⟩
  have h32 := (nN_5 hg).2
  have hpp := Nat.two_pow_pos (nN V)
  refine law_S1 (k := 0) cx sx ez ys ysq hn q0 hV hg hmi ⟨by omega, by omega⟩ ⟨by decide, by decide⟩ hM hN (fun h => ?_) (fun M2 N2 d hlt hM2 hN2 hd => ?_)
  · exact absurd (show (0 : Int) < ((2 ^ nN V : Nat) : Int) by omega) h
  · have hT2 := VOK_kp hM2 (KP_tl hM2.2.2)
    have ho := ors_V hg hT2.1.w (w := 0) hpp
    refine l_orders0 cx ys hM2.2.2 ⟨Int.le_refl _, Int.natCast_nonneg _⟩ ⟨by decide, by decide⟩ ⟨by omega, by omega⟩ (fun q r ys2 => ?_)
    have hcs2 : cs + 2 ≤ 599000 ∧ ss + 59394 ≤ 7300000 := ⟨by omega, by omega⟩
    refine law_S3 (P1 := tlP P1 q r) (k := 0) (c1 := CNT V (0 + 1 : Int).toNat) cx sx ez ys2 ysq q0 hV hg hmi hcs2 ⟨Int.le_refl _, by omega⟩ (fun M3 N3 hM3 hN3 => ?_) (VOK_kp hT2 (KP_orders hT2.2.2 0)) hN2 ho hd
    exact law_SL (P1 := tlP P1 q r) cx sx ez ys2 ysq q0 hV hg hmi hcs2 hb hbq hm hc0 hws hst _ M3 N3 (0 + 1) hM3 hN3 ⟨by decide, by omega⟩ (Nat.le_refl _)
