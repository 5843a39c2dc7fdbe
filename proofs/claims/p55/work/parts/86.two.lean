/-! the law over two objects: a call on one of them leaves the rest of the world -/
/-- a placement of the law: its classes are the context's, the statics' places too -/
def Ys : Yq → Pl → Prop
  | (p, l, e, R, s, m, args, below, meth, c, nL, P, A, Q), P1 => Sg P1 A s ∧ P1.1 = P.1 ∧ P1.2.2 = P.2.2
theorem wldR_at {P : Pl} {n : Nat} {M M2 : Mm} {w : va_W} {k : Nat} {q : Nat × va_E} (h : (wld P n M2 ++ w)[k]? = some q) : ∃ q0, (wld P n M ++ w)[k]? = some q0 ∧ q0.1 = q.1 := by
  have l1 : (wld P n M).length = n := by unfold wld; simp
  have l2 : (wld P n M2).length = n := by unfold wld; simp
  by_cases hk : k < n
  · rw [List.getElem?_append_left (by omega), wld_get hk] at h
    cases h
    exact ⟨(P.2.1 k, wc P n M k), by rw [List.getElem?_append_left (by omega), wld_get hk], rfl⟩
  · rw [List.getElem?_append_right (by omega), l2] at h
    exact ⟨q, by rw [List.getElem?_append_right (by omega), l1]; exact h, rfl⟩
theorem wldR_D {P : Pl} {n : Nat} {M M2 : Mm} {w : va_W} {A : Nat → Prop} (h : va_D A (wld P n M ++ w)) : va_D A (wld P n M2 ++ w) := by
  refine ⟨fun i j x y hx hy e => ?_, fun k q hk => ?_⟩
  · obtain ⟨x0, h1, h2⟩ := wldR_at (M := M) hx
    obtain ⟨y0, h3, h4⟩ := wldR_at (M := M) hy
    exact h.1 i j x0 y0 h1 h3 (h2.trans (e.trans h4.symm))
  · obtain ⟨q0, h1, h2⟩ := wldR_at (M := M) hk
    rw [← h2]
    exact h.2 k q0 h1
theorem wldR_i {P : Pl} {n : Nat} {M : Mm} {w : va_W} {A : Nat → Prop} (h : va_D A (wld P n M ++ w)) : iP P n ∧ ∀ k, k < n → A (P.2.1 k) := by
  have l1 : (wld P n M).length = n := by unfold wld; simp
  have g : ∀ k, k < n → (wld P n M ++ w)[k]? = some (P.2.1 k, wc P n M k) := fun k hk => by rw [List.getElem?_append_left (by omega), wld_get hk]
  exact ⟨fun i j hi hj e => h.1 i j _ _ (g i hi) (g j hj) e, fun k hk => h.2 k _ (g k hk)⟩
theorem wldR_l {D : va_G} {P : Pl} {n : Nat} {M : Mm} {w : va_W} {H : Heap} (h : va_P D vwCl (wld P n M ++ w) H) : va_P D vwCl (wld P n M) H := fun k q hk => by
  have hl := (List.getElem?_eq_some_iff.mp hk).1
  exact h k q (by rw [List.getElem?_append_left hl]; exact hk)
/-- behind a call on one object: the rest is as it was -/
theorem wldR_join {D : va_G} {P : Pl} {n : Nat} {M M2 : Mm} {w : va_W} {A : Nat → Prop} {H H1 : Heap} (hP : va_P D vwCl (wld P n M ++ w) H) (hD : va_D A (wld P n M ++ w)) (hk : ∀ a : Nat, a < H.size → ¬ aA P n H.size a → H1[a]? = H[a]?) (h2 : va_P D vwCl (wld P n M2) H1) : va_P D vwCl (wld P n M2 ++ w) H1 := by
  have l1 : (wld P n M).length = n := by unfold wld; simp
  refine va_P.app h2 (fun k q hq => ?_)
  have hk2 : (wld P n M ++ w)[n + k]? = some q := by
    rw [List.getElem?_append_right (by omega), l1, show n + k - n = k by omega]
    exact hq
  have hlt := (hP _ q hk2).lt
  refine (hP _ q hk2).kept (hk q.1 hlt (fun z => ?_))
  rcases z with ⟨j, hj, e⟩ | z
  · have hj2 : (wld P n M ++ w)[j]? = some (P.2.1 j, wc P n M j) := by rw [List.getElem?_append_left (by omega), wld_get hj]
    have := hD.1 _ _ q _ hk2 hj2 e
    omega
  · omega
theorem y_ctV {X : Yq} {cc : ByteArray} {own : String} {R0 : Room} {nL : Nat} {P0 : Pl} (cx : Yx X cc own R0 nL P0) {pc pc2 : Nat} {lv : List (Nat × Value)} {st : List Value} {w : va_W} {cs ss : Nat} {P1 : Pl} (ys : Ys X P1) {n : Nat} (hn : NN n) {M : Mm} {y : MethodName} {b : ByteArray} {mL cnt idx : Nat} {rt : Option FieldType} {rm : Room} {post : Option Value → Mm → Prop} {As st0 : List Value} (hC : CT y b mL rt rm n (.ref 0 :: As) M post) (hw : wM y b mL rt cnt) (hv : wV y) (hcl : y.cls = RX11) (hl0 : Cond.methodLink own idx y ∈ gw) (hrm : rm.cells = 0 ∧ rm.slots = 0 ∧ rm.frames + 1 ≤ R0.frames ∧ 8 + (mL + 11) + rm.locals ≤ R0.locals) (hcat : (st.map fun v => v.category).sum ≤ 8) (hcs : cs ≤ R0.cells ∧ ss ≤ R0.slots) (hcnt : As.length = cnt) (hst : st0 = (As.map (cz P1)).reverse ++ .ref (P1.2.1 0) :: st) (hd : decode cc pc = .ok (.invokevirtual idx, 3)) (hp : pc + 3 = pc2) (k : ∀ (r : Option Value) (M2 : Mm), post r M2 → YG X pc2 lv ((r.map (cz P1)).toList ++ st) (wld P1 n M2 ++ w) cs ss) : YG X pc lv st0 (wld P1 n M ++ w) cs ss := by
  obtain ⟨p, l, e, R, s, m, args, below, meth, c, nL2, P, A, Q⟩ := X
  obtain ⟨⟨hx, hb, hml, hown, hts⟩, hK, hA, hlk, hR, hnL, hPP, hnw, hao, hnm2⟩ := cx
  obtain ⟨hSg, e1, e2⟩ := ys
  subst hR
  subst hPP
  subst hnL
  subst hp
  subst hst
  intro H locs ls hl hP hD hS
  rw [← e1] at hP
  have hK1 : va_K P1.1 vwCl (tysP P1) s := by
    have : tysP P1 = tysP P := by unfold tysP; rw [e2]
    rw [this, e1]
    exact hK
  obtain ⟨hi, hAw⟩ := wldR_i hD
  have hAA := aA_sub hA hAw hS
  have hPo := wldR_l hP
  have h0 : 0 < n := by have := hn.1; omega
  have hr : va_Run p l e R s m args below meth c H locs cs ss 0 0 (F0 m pc ls ((As.map (cz P1)).reverse ++ .ref (P1.2.1 0) :: st)) st (QC P1 n H.size post (Value.ref (P1.2.1 0) :: As.map (cz P1)).toArray) (aA P1 n H.size) :=
    va_runV (As := As.map (cz P1)) (b := P1.2.1 0) (C := RX11) ⟨hx, hb, hml, hown, hts⟩ (hC l P1 H.size hi) (cwV cnt hts (gw_good (ws := wsV own idx RX11 y (Cond.code y b mL rt :: gw)) (fun w hw2 => by
      simp only [wsV, List.cons_append, List.nil_append, List.mem_cons] at hw2
      rcases hw2 with rfl | rfl | rfl | rfl | rfl | hw2
      · exact hl0
      · exact hv.1
      · exact hcl ▸ hv.2
      · exact hcl ▸ hw.1.1
      · exact hw.1.2
      · exact hw2)) rfl hrm.1 hrm.2.1 ⟨hcl, hw.2⟩ hrm.2.2) ⟨cp_blind, va_recv hK1 hPo (ci := 11) rfl (q0 := 0) (by rw [wld_get h0]; rfl), fun U hU hW => ⟨rfl, g_pre hK1 hSg (NwU_of hnw) hPo hS hAA U hU hW⟩⟩ rfl (by rw [List.length_map]; exact hcnt) hl.1 rfl (lv_room hcat) hd ⟨by omega, by omega⟩
  intro T hT X
  obtain ⟨v, st₀, t, T', L, h0, X', hL, q1, q2, ⟨⟨r, M2, hv2, hp2, hb2⟩, hz, hk⟩, st1⟩ := hr T hT X
  cases hv2
  rw [h0] at hz hk
  have hk1 : ∀ a : Nat, a < H.size → ¬ aA P1 n H.size a → T'.heap[a]? = H[a]? := fun a h1 h2 => by rw [q1, hk a h1 h2]
  have hP1 : va_P P1.1 vwCl (wld P1 n M2 ++ w) T'.heap := wldR_join hP hD hk1 (by rw [q1]; exact hb2)
  rw [e1] at hP1
  obtain ⟨t2, a1, b1⟩ := k r M2 hp2 T'.heap (locs ++ L) ls hl hP1 (wldR_D hD)
    ⟨Nat.le_trans hS.1 (by rw [q1]; exact hz), fun q h1 h2 => by rw [hk1 q (Nat.lt_of_lt_of_le h1 hS.1) (fun z => h2 (hAA q z))]; exact hS.2.1 q h1 h2, fun q hq => by
      rcases List.mem_append.mp hq with h | h
      · exact hS.2.2 q h
      · exact hAA _ (hL q h)⟩ T' rfl X'
  exact ⟨t2, st1 t2 a1, b1⟩
