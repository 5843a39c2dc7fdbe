
/-! the other way about -/
/-- the PLACES the other way about -/
def MI (V U : Nat → Int) : Prop := ∀ j : Nat, U j = if 1 ≤ j ∧ (j : Int) ≤ V 0 then 15 - V j else V j
theorem MI_GV {V U : Nat → Int} (hg : GV V) (hm : MI V U) : GV U := by
  have hv0 := hg.1.2.1
  have e0 : U 0 = V 0 := by rw [hm 0, if_neg (by omega)]
  have eh : ∀ j : Nat, 6 ≤ j → U j = V j := fun j hj => by rw [hm j, if_neg (by omega)]
  refine ⟨⟨fun j => ?_, by rw [e0]; exact hv0, fun h hh => ?_⟩, by rw [eh 9 (by decide)]; exact hg.2.1, fun k hk => ?_⟩
  · rw [hm j]
    split
    · have := hg.1.2.2 (j - 1) (by omega)
      rw [show 1 + (j - 1) = j by omega] at this
      exact ⟨by omega, by omega⟩
    · exact hg.1.1 j
  · have := hg.1.2.2 h hh
    rw [hm (1 + h)]
    split
    · omega
    · exact this
  · rw [eh 9 (by decide)] at hk
    have := hg.2.2 k hk
    unfold GN at this ⊢
    rw [eh (10 + 6 * k) (by omega), eh (11 + 6 * k) (by omega), eh (12 + 6 * k) (by omega), eh (13 + 6 * k) (by omega), eh (14 + 6 * k) (by omega), eh (15 + 6 * k) (by omega), e0]
    exact this
theorem MI_9 {V U : Nat → Int} (hg : GV V) (hm : MI V U) : U 9 = V 9 ∧ U 0 = V 0 ∧ ∀ j : Nat, 6 ≤ j → U j = V j := by
  have hv0 := hg.1.2.1
  have eh : ∀ j : Nat, 6 ≤ j → U j = V j := fun j hj => by rw [hm j, if_neg (by omega)]
  exact ⟨eh 9 (by decide), by rw [hm 0, if_neg (by omega)], eh⟩
theorem MI_n {V U : Nat → Int} (hg : GV V) (hm : MI V U) : nN U = nN V := by unfold nN; rw [(MI_9 hg hm).1]
theorem MI_J {V U : Nat → Int} (hg : GV V) (hm : MI V U) {i : Nat} (hi : i < nN V) : jV U i 0 = 15 - jV V i 0 ∧ jV U i 1 = jV V i 1 ∧ jV U i 2 = jV V i 2 ∧ jV U i 3 = jV V i 3 ∧ jV U i 4 = jV V i 4 := by
  obtain ⟨e9, e0, eh⟩ := MI_9 hg hm
  have hi9 : (i : Int) < V 9 := by have : i < (V 9).toNat := hi; omega
  have hn := hg.2.2 i hi9
  unfold jV
  rw [e9]
  simp only [if_pos hi9]
  simp only [if_true, show (¬ (1 : Nat) = 0) by decide, show (¬ (2 : Nat) = 0) by decide, show (¬ (3 : Nat) = 0) by decide, show (¬ (4 : Nat) = 0) by decide, show (¬ (2 : Nat) = 1) by decide, show (¬ (3 : Nat) = 1) by decide, show (¬ (4 : Nat) = 1) by decide, show (¬ (3 : Nat) = 2) by decide, show (¬ (4 : Nat) = 2) by decide, show (¬ (4 : Nat) = 3) by decide, if_false]
  rw [eh (11 + 6 * i) (by omega), eh (12 + 6 * i) (by omega), eh (10 + 6 * i) (by omega), eh (13 + 6 * i) (by omega), eh (14 + 6 * i) (by omega), eh (15 + 6 * i) (by omega)]
  refine ⟨?_, rfl, rfl, rfl, rfl⟩
  rw [hm (1 + (V (11 + 6 * i)).toNat), if_pos (by have := hn.2.1; omega)]
theorem wap_mi (a b : Int) : wap (15 - a) (15 - b) = wap a b := by
  unfold wap
  by_cases h : a < b
  · rw [if_pos h, if_neg (by omega)]
    congr 1
    omega
  · rw [if_neg h]
    by_cases h2 : 15 - a < 15 - b
    · rw [if_pos h2]
      congr 1
      omega
    · rw [if_neg h2]
      congr 1
      omega
theorem enB_mi {J K : Nat → Nat → Int} {i : Nat} (h : K i 0 = 15 - J i 0 ∧ K i 1 = J i 1 ∧ K i 2 = J i 2 ∧ K i 3 = J i 3) (p f : Int) : enB K i (15 - p) f = enB J i p f := by
  have eb : bgB K i (15 - p) f = bgB J i p f := by
    unfold bgB
    rw [h.1, h.2.1, wap_mi]
  unfold enB
  rw [eb, h.2.2.1, h.2.2.2]
theorem ru_mi {J K : Nat → Nat → Int} {n : Nat} (h : ∀ i : Nat, i < n → K i 0 = 15 - J i 0 ∧ K i 1 = J i 1 ∧ K i 2 = J i 2 ∧ K i 3 = J i 3) : ∀ (L : List Int), (∀ x ∈ L, 0 ≤ x ∧ x < (n : Int)) → ∀ (p f : Int), ruS K (some (15 - p, f)) L = (ruS J (some (p, f)) L).map (fun q => (15 - q.1, q.2))
  | [], _, p, f => rfl
  | x :: L, hL, p, f => by
    have hx := hL x (List.mem_cons_self ..)
    have hi := h x.toNat (by omega)
    rw [ruS_cons, ruS_cons]
    have e1 : stp1 K (some (15 - p, f)) x = if enB K x.toNat (15 - p) f = -9 then none else some (K x.toNat 0, enB K x.toNat (15 - p) f) := rfl
    have e2 : stp1 J (some (p, f)) x = if enB J x.toNat p f = -9 then none else some (J x.toNat 0, enB J x.toNat p f) := rfl
    rw [e1, e2, enB_mi hi]
    by_cases q : enB J x.toNat p f = -9
    · rw [if_pos q, if_pos q, ruS_none, ruS_none]
      rfl
    · rw [if_neg q, if_neg q, hi.1]
      exact ru_mi h L (fun y hy => hL y (List.mem_cons_of_mem _ hy)) _ _
theorem MI_1 {V U : Nat → Int} (hg : GV V) (hm : MI V U) : U 1 = 15 - V 1 := by
  have hv0 := hg.1.2.1
  rw [hm 1, if_pos (by omega)]
theorem ENV_mi {V U : Nat → Int} (hg : GV V) (hm : MI V U) {s : Nat} (hs : s < 2 ^ nN V) : ENV U s = ENV V s := by
  have hgU := MI_GV hg hm
  have hJ := fun i hi => (MI_J hg hm (i := i) hi)
  have hsU : s < 2 ^ nN U := by rw [MI_n hg hm]; exact hs
  have h1 := ENV_E hgU hsU
  have h2 := ENV_E hg hs
  rw [MI_1 hg hm] at h1
  have key : ∀ L, ordS L s → ruS (jV U) (some (15 - V 1, 0)) L = (ruS (jV V) (some (V 1, 0)) L).map (fun q => (15 - q.1, q.2)) := fun L hL => ru_mi (n := nN V) (fun i hi => ⟨(hJ i hi).1, (hJ i hi).2.1, (hJ i hi).2.2.1, (hJ i hi).2.2.2.1⟩) L (ordS_lt hL hs) _ _
  have h3 : IsE (jV U) (15 - V 1) 0 s (ENV V s) := by
    rcases h2 with ⟨a1, a2⟩ | ⟨⟨a0, L, q, l1, l2, l3⟩, a2⟩
    · refine Or.inl ⟨a1, fun L q hL hq => ?_⟩
      rw [key L hL] at hq
      cases z : ruS (jV V) (some (V 1, 0)) L with
      | none => rw [z] at hq; cases hq
      | some r => exact a2 L r hL z
    · refine Or.inr ⟨⟨a0, L, (15 - q.1, q.2), l1, by rw [key L l1, l2]; rfl, l3⟩, fun L2 q2 hL2 hq2 => ?_⟩
      rw [key L2 hL2] at hq2
      cases z : ruS (jV V) (some (V 1, 0)) L2 with
      | none => rw [z] at hq2; cases hq2
      | some r =>
        rw [z] at hq2
        have := a2 L2 r hL2 z
        have e : q2 = (15 - r.1, r.2) := (Option.some.inj hq2).symm
        rw [e]
        exact this
  exact h1.uniq h3
theorem WV_mi {V U : Nat → Int} (hg : GV V) (hm : MI V U) (k : Nat) : WV U k = WV V k := by
  unfold WV
  rw [MI_n hg hm]
  exact smZ_eq (fun j hj => by rw [(MI_9 hg hm).2.2 _ (by omega)])
theorem mu_mi {V U : Nat → Int} (hg : GV V) (hm : MI V U) : muN U = muN V := by
  unfold muN
  rw [(MI_9 hg hm).1]
  refine bsum_eq _ (fun j hj => ?_)
  unfold muB mustP
  rw [show (10 + 6 * (j : Int)).toNat = 10 + 6 * j by omega, (MI_9 hg hm).2.2 _ (by omega)]
theorem bpF_eq2 {T S : Mm} {al du : Nat} (h : ∀ j : Nat, ndN j al = 0 → T 59 j = S 59 j) (hw : ∀ j : Nat, wsM T (j : Int) = wsM S (j : Int)) : ∀ k : Nat, bpF T al du k = bpF S al du k
  | 0 => rfl
  | k + 1 => by
    rw [bpF, bpF, bpF_eq2 h hw k, hw k]
    by_cases q : ndN k al = 0
    · rw [h k q]
    · rw [if_neg (fun z => q z.1.1), if_neg (fun z => q z.1.1)]
theorem stF_eq2 {T S : Mm} (hw : ∀ j : Nat, wsM T (j : Int) = wsM S (j : Int)) : ∀ k : Nat, (∀ j, j < k → T 59 j = S 59 j) → stF T k = stF S k
  | 0, _ => rfl
  | k + 1, h => by rw [stF, stF, stF_eq2 hw k (fun j hj => h j (by omega)), h k (by omega), hw k]
theorem AL_mi {V U : Nat → Int} (hg : GV V) (hm : MI V U) : AL U = AL V := by unfold AL; rw [MI_n hg hm]
theorem bst_mi {V U : Nat → Int} {M N : Mm} (hg : GV V) (hm : MI V U) (hM : HW V M) (hN : HW U N) : bstA N = bstA M := by
  have hgU := MI_GV hg hm
  unfold bstA bpM
  rw [HW_al hM, HW_al hN, HW_mu hM, HW_mu hN, mu_mi hg hm, AL_mi hg hm]
  rw [bpF_eq2 (T := gfA N ((AL V : Nat) : Int)) (S := gfA M ((AL V : Nat) : Int)) (fun j hj => ?_) (fun j => ?_)]
  · rw [Int.toNat_natCast] at hj
    have hlt := nd_AL.mp hj
    rw [gf_ENV hg hM hlt (by rw [Int.toNat_natCast]; exact hj), gf_ENV hgU hN (by rw [MI_n hg hm]; exact hlt) (by rw [Int.toNat_natCast]; exact hj), ENV_mi hg hm hlt]
  · rw [ws_WV (gf_J hg hM _), ws_WV (gf_J hgU hN _), WV_mi hg hm]
theorem sets_mi {V U : Nat → Int} {M N : Mm} (hg : GV V) (hm : MI V U) (hM : HW V M) (hN : HW U N) : stF (gfA N ((allN (N 23 4) : Nat) : Int)) (allN (N 23 4) + 1) = stF (gfA M ((allN (M 23 4) : Nat) : Int)) (allN (M 23 4) + 1) := by
  have hgU := MI_GV hg hm
  have hpos := Nat.two_pow_pos (nN V)
  rw [HW_al hM, HW_al hN, AL_mi hg hm]
  refine stF_eq2 (fun j => by rw [ws_WV (gf_J hg hM _), ws_WV (gf_J hgU hN _), WV_mi hg hm]) _ (fun j hj => ?_)
  have hlt : j < 2 ^ nN V := by unfold AL at hj; omega
  have hj2 := nd_AL.mpr hlt
  rw [gf_ENV hg hM hlt (by rw [Int.toNat_natCast]; exact hj2), gf_ENV hgU hN (by rw [MI_n hg hm]; exact hlt) (by rw [Int.toNat_natCast]; exact hj2), ENV_mi hg hm hlt]
theorem setsM_15 (M : Mm) : setsM M 0 15 = (stF (gfA M ((allN (M 23 4) : Nat) : Int)) (allN (M 23 4) + 1)).2 := by
  unfold setsM
  exact stM_at _ _ _ _
/-! by rules -/
theorem mtF_me {T : Mm} (h3 : 0 ≤ T 54 3) (i : Int) : mtF (meM T i) ((T 54 3).toNat + 1) = mtF T (T 54 3).toNat ||| bitN i := by
  obtain ⟨-, e55, -⟩ := meM_v T i
  have lo : ∀ k, k ≤ (T 54 3).toNat → mtF (meM T i) k = mtF T k := by
    intro k
    induction k with
    | zero => intro _; rfl
    | succ k ih => intro hk; rw [mtF, mtF, ih (by omega), e55, if_neg (by omega)]
  rw [mtF, lo _ (Nat.le_refl _), e55, if_pos rfl]
theorem nxF_v {T : Mm} : ∀ k : Nat, nxF T k = -9 ∨ ∃ i : Nat, i < k ∧ nxF T k = (i : Int) ∧ ¬ inS (i : Int) ((mtF T (T 54 3).toNat : Nat) : Int)
  | 0 => Or.inl rfl
  | k + 1 => by
    rw [nxF]
    split
    · rename_i h
      exact Or.inr ⟨k, Nat.lt_succ_self _, rfl, h.1.1⟩
    · rcases nxF_v (T := T) k with h | ⟨i, h1, h2, h3⟩
      · exact Or.inl h
      · exact Or.inr ⟨i, by omega, h2, h3⟩
/-- a way that can be gone -/
def GO (J : Nat → Nat → Int) (p : Int) (n : Nat) (T : Mm) : Prop := (0 ≤ T 54 3 ∧ T 54 3 ≤ 8) ∧ mtF T (T 54 3).toNat < 2 ^ n ∧ ∃ L, ordS L (mtF T (T 54 3).toNat) ∧ ruS J (some (p, 0)) L = some (T 54 4, T 54 5)
theorem GO_me {J : Nat → Nat → Int} {p : Int} {n : Nat} {T : Mm} (hJ : JE T J n) (h : GO J p n T) {i : Nat} (hi : i < n) (ho : okW T (i : Int)) (hni : ¬ (mtF T (T 54 3).toNat).testBit i = true) : GO J p n (meM T (i : Int)) := by
  obtain ⟨h3, hlt, L, l1, l2⟩ := h
  have h8 := hJ.1.2.1
  obtain ⟨⟨m3, m4, m5⟩, -, -⟩ := meM_v T (i : Int)
  have hb : bitN (i : Int) = 2 ^ i := by rw [bitN_in ⟨by omega, by omega⟩, Int.toNat_natCast]
  have em : mtF (meM T (i : Int)) (meM T (i : Int) 54 3).toNat = mtF T (T 54 3).toNat ||| 2 ^ i := by
    rw [m3, show (T 54 3 + 1).toNat = (T 54 3).toNat + 1 by omega, mtF_me h3.1, hb]
  refine ⟨by rw [m3]; have := ho.2; omega, by rw [em]; exact Nat.or_lt_two_pow hlt (Nat.pow_lt_pow_right (by decide) hi), L ++ [(i : Int)], ?_, ?_⟩
  · rw [em]
    refine ordS_snoc.mpr ⟨by rw [Nat.testBit_or, Nat.testBit_two_pow]; simp, ?_⟩
    have e : ndN (mtF T (T 54 3).toNat ||| 2 ^ i) (2 ^ i) = mtF T (T 54 3).toNat := by
      apply Nat.eq_of_testBit_eq
      intro k
      rw [nd_bit2, Nat.testBit_or, Nat.testBit_two_pow]
      by_cases z : i = k
      · subst z
        simp [hni]
      · simp [z]
    rw [e]
    exact l1
  · rw [ruS_snoc, l2, m4, m5]
    have e1 : stp1 J (some (T 54 4, T 54 5)) (i : Int) = if enB J (i : Int).toNat (T 54 4) (T 54 5) = -9 then none else some (J (i : Int).toNat 0, enB J (i : Int).toNat (T 54 4) (T 54 5)) := rfl
    rw [e1, Int.toNat_natCast, ← (hJ.2 i hi).1, if_neg ho.1, (hJ.2 i hi).2.1]
theorem GO_s {J : Nat → Nat → Int} {p : Int} {n : Nat} {T : Mm} (hJ : JE T J n) (h4 : T 23 4 = (n : Int)) (h : GO J p n T) : GO J p n (goS T) := by
  unfold goS
  by_cases ho : okW T (nxM T)
  · rw [if_pos ho]
    have h8 := hJ.1.2.1
    rcases nxF_v (T := T) (T 23 4).toNat with e | ⟨i, i1, i2, i3⟩
    · exfalso
      have e2 : nxM T = -9 := e
      rw [e2] at ho
      refine ho.1 ?_
      unfold endJ
      rw [if_neg (by omega)]
    · have e2 : nxM T = (i : Int) := i2
      rw [e2] at ho ⊢
      refine GO_me hJ h (by omega) ho (fun z => i3 ⟨by omega, by omega, ?_⟩)
      rw [Int.toNat_natCast, Int.toNat_natCast]
      exact z
  · rw [if_neg ho]
    exact h
theorem GO_F {J : Nat → Nat → Int} {p : Int} {n : Nat} {T : Mm} (hJ : JE T J n) (h4 : T 23 4 = (n : Int)) (h : GO J p n T) : ∀ k : Nat, GO J p n (goF T k)
  | 0 => h
  | k + 1 => by
    rw [goF]
    exact GO_s (hJ.of (fun a h1 h2 => goF_off T ⟨by omega, by omega, by omega⟩ k)) (by rw [goF_off T ⟨by decide, by decide, by decide⟩ k]; exact h4) (GO_F hJ h4 h k)
/-- where a way begins -/
def g0M (T : Mm) : Mm := stM (stM (stM T 54 3 0) 54 4 (plc T 23 (T 23 5))) 54 5 0
theorem g0M_v (T : Mm) : (∀ a, a ≠ 54 → g0M T a = T a) ∧ g0M T 54 3 = 0 ∧ g0M T 54 4 = plc T 23 (T 23 5) ∧ g0M T 54 5 = 0 := by
  unfold g0M
  exact ⟨fun a ha => by rw [stM_off ha, stM_off ha, stM_off ha], by rw [stM_ne _ _ (Or.inr (by decide)), stM_ne _ _ (Or.inr (by decide)), stM_at], by rw [stM_ne _ _ (Or.inr (by decide)), stM_at], stM_at _ _ _ _⟩
theorem goM_g (T : Mm) : goM T = goF (g0M T) 8 := rfl
theorem goM_J {J : Nat → Nat → Int} {n : Nat} {T : Mm} (hJ : JE T J n) : JE (goM T) J n := hJ.of (fun a h1 h2 => by rw [goM_g, goF_off _ ⟨by omega, by omega, by omega⟩ 8]; exact (g0M_v T).1 a (by omega))
theorem HW_n {V : Nat → Int} {T : Mm} (hg : GV V) (hw : HW V T) : T 23 4 = ((nN V : Nat) : Int) := by
  rw [hw.1.2.1]
  show V 9 = (((V 9).toNat : Nat) : Int)
  have := hg.2.1
  omega
theorem go_V {V : Nat → Int} {T : Mm} (hg : GV V) (hJ : JE T (jV V) (nN V)) (hw : HW V T) : ∃ s, s < 2 ^ nN V ∧ ¬ ENV V s = -9 ∧ wwM (goM T) = WV V s := by
  have hn := HW_n hg hw
  have hp : plc T 23 (T 23 5) = V 1 := HV_sp hg hw
  obtain ⟨e0, e3, e4, e5⟩ := g0M_v T
  have hJ0 : JE (g0M T) (jV V) (nN V) := hJ.of (fun a h1 h2 => e0 a (by omega))
  have g0 : GO (jV V) (V 1) (nN V) (g0M T) := ⟨by rw [e3]; decide, by rw [e3]; exact Nat.two_pow_pos _, [], by rw [e3]; exact ordS_nil.mpr rfl, by rw [e4, e5, hp]; rfl⟩
  have g : GO (jV V) (V 1) (nN V) (goM T) := GO_F hJ0 (by rw [e0 23 (by decide)]; exact hn) g0 8
  obtain ⟨-, hlt, L, l1, l2⟩ := g
  refine ⟨mtF (goM T) (goM T 54 3).toNat, hlt, fun z => ?_, ?_⟩
  · rcases ENV_E hg hlt with ⟨a1, a2⟩ | ⟨⟨a0, _⟩, _⟩
    · exact a2 L _ l1 l2
    · omega
  · unfold wwM
    exact ws_WV (goM_J hJ) _
theorem wi_J {M : Mm} {a : Nat} (ha : 48 ≤ a ∧ a ≤ 53) : ∀ k : Nat, (wiF M k).1 a = ldM M a
  | 0 => rfl
  | k + 1 => by
    have e : tnM (wiF M k).1 (k : Int) a = ldM M a := by rw [tnM_off _ _ (by omega) (by omega)]; exact wi_J ha k
    have e2 : goM (tnM (wiF M k).1 (k : Int)) a = ldM M a := by
      rw [goM_g, goF_off _ ⟨by omega, by omega, by omega⟩ 8, (g0M_v _).1 a (by omega)]
      exact e
    rw [wiF]
    split
    · split
      · exact e2
      · exact e2
    · exact e
theorem wi_T {V : Nat → Int} {M : Mm} (hg : GV V) (hw : HW V M) (k : Nat) : JE (tnM (wiF M k).1 (k : Int)) (jV V) (nN V) ∧ HW V (tnM (wiF M k).1 (k : Int)) := by
  have h5 := (nN_5 hg).1
  have e : ∀ a, a < 48 → tnM (wiF M k).1 (k : Int) a = M a := fun a ha => by rw [tnM_off _ _ (by omega) (by omega)]; exact wi_off (Or.inl ha) k
  refine ⟨(HV_J hg hw).of (fun a h1 h2 => by rw [tnM_off _ _ (by omega) (by omega)]; exact wi_J ⟨h1, h2⟩ k), by rw [e 23 (by decide)]; exact hw.1, by rw [e 24 (by decide)]; exact hw.2.1, fun q hq j hj => ?_⟩
  rw [e (27 + q) (by have : q < (V 9).toNat := by omega
                     have : (V 9).toNat ≤ 5 := h5
                     omega)]
  exact hw.2.2 q hq j hj
/-- RULES are worth no more than the best set -/
theorem wi_le {V : Nat → Int} {M : Mm} (hg : GV V) (hw : HW V M) {A : Int} (hA : ∀ s, s < 2 ^ nN V → ¬ ENV V s = -9 → WV V s ≤ A) : ∀ k : Nat, (wiF M k).2.2 ≤ A
  | 0 => by
    have h0 := hA 0 (Nat.two_pow_pos _) (by rw [ENV_0 hg]; decide)
    have := (WV_b hg 0).1
    show (-9 : Int) ≤ A
    omega
  | k + 1 => by
    have ih := wi_le hg hw hA k
    obtain ⟨t1, t2⟩ := wi_T hg hw k
    obtain ⟨s, s1, s2, s3⟩ := go_V hg t1 t2
    have hs := hA s s1 s2
    rw [wiF]
    split
    · split
      · show wwM (goM (tnM (wiF M k).1 (k : Int))) ≤ A
        rw [s3]
        exact hs
      · exact ih
    · exact ih
/-! by rules, the other way about -/
def WR (T S : Mm) : Prop := S 54 3 = T 54 3 ∧ S 54 4 = 15 - T 54 4 ∧ S 54 5 = T 54 5 ∧ ∀ j : Nat, (j : Int) < T 54 3 → S 55 j = T 55 j
def LR (T S : Mm) : Prop := S 61 3 = T 61 3 ∧ ∀ j : Nat, (j : Int) < T 61 3 → S 62 j = T 62 j
theorem mtF_eq {T S : Mm} : ∀ k : Nat, (∀ j, j < k → S 55 j = T 55 j) → mtF S k = mtF T k
  | 0, _ => rfl
  | k + 1, h => by rw [mtF, mtF, mtF_eq k (fun j hj => h j (by omega)), h k (by omega)]
theorem WR.mt {T S : Mm} (h : WR T S) : mtF S (S 54 3).toNat = mtF T (T 54 3).toNat := by
  rw [h.1]
  exact mtF_eq _ (fun j hj => h.2.2.2 j (by omega))
theorem HW_plc {V : Nat → Int} {T : Mm} (hg : GV V) (hw : HW V T) {h : Int} (hh : 0 ≤ h ∧ h < V 0) : plc T 23 h = V (1 + h.toNat) := by
  unfold plc
  rw [if_pos (by rw [hw.1.1]; exact hh)]
  exact hw.2.1 _ (by omega)
theorem rk_mi {V U : Nat → Int} {T S : Mm} (hg : GV V) (hm : MI V U) (hT : HW V T) (hS : HW U S) (h4 : S 54 4 = 15 - T 54 4) {i : Int} (hi : 0 ≤ i ∧ i < V 9) (l : Int) : rkM S i l = rkM T i l := by
  obtain ⟨e9, e0, eh⟩ := MI_9 hg hm
  have f : ∀ j : Nat, j < 6 → S (27 + i.toNat) j = T (27 + i.toNat) j := fun j hj => by
    rw [hS.2.2 i.toNat (by rw [e9]; omega) j hj, hT.2.2 i.toNat (by omega) j hj]
    exact eh _ (by omega)
  have hn := hg.2.2 i.toNat (by omega)
  have h1 : T (27 + i.toNat) 1 = V (11 + 6 * i.toNat) := by
    have := hT.2.2 i.toNat (by omega) 1 (by decide)
    rw [this]
    exact congrArg V (by omega)
  have ep : plc S 23 (T (27 + i.toNat) 1) = 15 - plc T 23 (T (27 + i.toNat) 1) := by
    rw [h1, HW_plc hg hT hn.2.1, HW_plc (MI_GV hg hm) hS (by rw [e0]; exact hn.2.1), hm, if_pos (by have := hn.2.1; omega)]
  unfold rkM
  rw [f 5 (by decide), f 3 (by decide), f 4 (by decide), f 1 (by decide), f 0 (by decide), h4, ep, wap_mi]
theorem ahF_mi {V U : Nat → Int} {T S : Mm} (hg : GV V) (hm : MI V U) (hT : HW V T) (hS : HW U S) (h4 : S 54 4 = 15 - T 54 4) (hL : LR T S) {i j : Int} (hi : 0 ≤ i ∧ i < V 9) (hj : 0 ≤ j ∧ j < V 9) : ∀ (f l : Nat), ((l + f : Nat) : Int) ≤ T 61 3 → ahF S i j f l = ahF T i j f l
  | 0, _, _ => rfl
  | f + 1, l, h => by
    rw [ahF, ahF, hL.2 l (by omega), rk_mi hg hm hT hS h4 hi, rk_mi hg hm hT hS h4 hj, ahF_mi hg hm hT hS h4 hL hi hj f (l + 1) (by omega)]
theorem endJ_mi {V U : Nat → Int} {T S : Mm} (hg : GV V) (hm : MI V U) (hJ : JE T (jV V) (nN V)) (hK : JE S (jV U) (nN V)) {i : Nat} (hi : i < nN V) (p f : Int) : endJ S (i : Int) (15 - p) f = endJ T (i : Int) p f := by
  have h := MI_J hg hm hi
  rw [(hJ.2 i hi).1, (hK.2 i hi).1]
  exact enB_mi ⟨h.1, h.2.1, h.2.2.1, h.2.2.2.1⟩ p f
theorem nxF_mi {V U : Nat → Int} {T S : Mm} (hg : GV V) (hm : MI V U) (hT : HW V T) (hS : HW U S) (hJ : JE T (jV V) (nN V)) (hK : JE S (jV U) (nN V)) (hW : WR T S) (hL : LR T S) (h61 : 0 ≤ T 61 3) : ∀ k : Nat, k ≤ nN V → nxF S k = nxF T k
  | 0, _ => rfl
  | k + 1, hk => by
    have ih := nxF_mi hg hm hT hS hJ hK hW hL h61 k (by omega)
    have h9 : ((nN V : Nat) : Int) = V 9 := by show (((V 9).toNat : Nat) : Int) = V 9; have := hg.2.1; omega
    have ee := endJ_mi hg hm hJ hK (i := k) (by omega) (T 54 4) (T 54 5)
    rw [nxF, nxF, hW.mt, hW.2.1, hW.2.2.1, ee, ih]
    rcases nxF_v (T := T) k with q | ⟨i, i1, i2, i3⟩
    · rw [q]
      by_cases c : ¬ inS (k : Int) ((mtF T (T 54 3).toNat : Nat) : Int) ∧ ¬ endJ T (k : Int) (T 54 4) (T 54 5) = -9
      · rw [if_pos ⟨c, Or.inl rfl⟩, if_pos ⟨c, Or.inl rfl⟩]
      · rw [if_neg (fun z => c z.1), if_neg (fun z => c z.1)]
    · rw [i2]
      have ea : ahM S (k : Int) (i : Int) = ahM T (k : Int) (i : Int) := by
        unfold ahM
        rw [hL.1]
        exact ahF_mi hg hm hT hS hW.2.1 hL ⟨by omega, by omega⟩ ⟨by omega, by omega⟩ _ 0 (by omega)
      rw [ea]
theorem goS_mi {V U : Nat → Int} {T S : Mm} (hg : GV V) (hm : MI V U) (hT : HW V T) (hS : HW U S) (hJ : JE T (jV V) (nN V)) (hK : JE S (jV U) (nN V)) (hW : WR T S) (hL : LR T S) (h61 : 0 ≤ T 61 3) (h3 : 0 ≤ T 54 3) : WR (goS T) (goS S) := by
  have h9 : ((nN V : Nat) : Int) = V 9 := by show (((V 9).toNat : Nat) : Int) = V 9; have := hg.2.1; omega
  have en : nxM S = nxM T := by
    unfold nxM
    rw [hS.1.2.1, (MI_9 hg hm).1, hT.1.2.1]
    exact nxF_mi hg hm hT hS hJ hK hW hL h61 _ (Nat.le_refl _)
  unfold goS
  rw [en]
  rcases nxF_v (T := T) (T 23 4).toNat with e | ⟨i, i1, i2, i3⟩
  · have e2 : nxM T = -9 := e
    rw [e2]
    have n1 : ¬ okW T (-9) := fun h => h.1 (by unfold endJ; rw [if_neg (by omega)])
    have n2 : ¬ okW S (-9) := fun h => h.1 (by unfold endJ; rw [if_neg (by omega)])
    rw [if_neg n1, if_neg n2]
    exact hW
  · have e2 : nxM T = (i : Int) := i2
    have hi : i < nN V := by rw [hT.1.2.1] at i1; exact i1
    have ee := endJ_mi hg hm hJ hK hi (T 54 4) (T 54 5)
    have ok : okW S (i : Int) ↔ okW T (i : Int) := by
      unfold okW
      rw [hW.2.1, hW.2.2.1, ee, hW.1]
    rw [e2]
    by_cases c : okW T (i : Int)
    · rw [if_pos c, if_pos (ok.mpr c)]
      obtain ⟨⟨t3, t4, t5⟩, t55, -⟩ := meM_v T (i : Int)
      obtain ⟨⟨s3, s4, s5⟩, s55, -⟩ := meM_v S (i : Int)
      refine ⟨by rw [s3, t3, hW.1], ?_, by rw [s5, t5, hW.2.1, hW.2.2.1, ee], fun j hj => ?_⟩
      · rw [s4, t4, (hJ.2 i hi).2.1, (hK.2 i hi).2.1]
        exact (MI_J hg hm hi).1
      · rw [s55, t55, hW.1]
        rw [t3] at hj
        by_cases z : j = (T 54 3).toNat
        · rw [if_pos z, if_pos z]
        · rw [if_neg z, if_neg z]
          exact hW.2.2.2 j (by omega)
    · rw [if_neg c, if_neg (fun z => c (ok.mp z))]
      exact hW
theorem HW_of {V : Nat → Int} {T S : Mm} (hg : GV V) (h : HW V T) (e : ∀ a, 23 ≤ a → a ≤ 34 → S a = T a) : HW V S := by
  have h5 := (nN_5 hg).1
  refine ⟨by rw [e 23 (by decide) (by decide)]; exact h.1, by rw [e 24 (by decide) (by decide)]; exact h.2.1, fun q hq j hj => ?_⟩
  have : q < (V 9).toNat := by omega
  have : (V 9).toNat ≤ 5 := h5
  rw [e (27 + q) (by omega) (by omega)]
  exact h.2.2 q hq j hj
theorem goF_mi {V U : Nat → Int} {T S : Mm} (hg : GV V) (hm : MI V U) (hT : HW V T) (hS : HW U S) (hJ : JE T (jV V) (nN V)) (hK : JE S (jV U) (nN V)) (hW : WR T S) (hL : LR T S) (h61 : 0 ≤ T 61 3) (h3 : 0 ≤ T 54 3) : ∀ k : Nat, WR (goF T k) (goF S k) ∧ 0 ≤ goF T k 54 3
  | 0 => ⟨hW, h3⟩
  | k + 1 => by
    obtain ⟨ih, ih3⟩ := goF_mi hg hm hT hS hJ hK hW hL h61 h3 k
    have eT : ∀ a, a ≠ 54 → a ≠ 55 → a ≠ 56 → goF T k a = T a := fun a h1 h2 h3 => goF_off T ⟨h1, h2, h3⟩ k
    have eS : ∀ a, a ≠ 54 → a ≠ 55 → a ≠ 56 → goF S k a = S a := fun a h1 h2 h3 => goF_off S ⟨h1, h2, h3⟩ k
    rw [goF, goF]
    refine ⟨goS_mi hg hm (HW_of hg hT (fun a h1 h2 => eT a (by omega) (by omega) (by omega))) (HW_of (MI_GV hg hm) hS (fun a h1 h2 => eS a (by omega) (by omega) (by omega))) (hJ.of (fun a h1 h2 => eT a (by omega) (by omega) (by omega))) (hK.of (fun a h1 h2 => eS a (by omega) (by omega) (by omega))) ih ?_ (by rw [eT 61 (by decide) (by decide) (by decide)]; exact h61) ih3, ?_⟩
    · unfold LR
      rw [eT 61 (by decide) (by decide) (by decide), eT 62 (by decide) (by decide) (by decide), eS 61 (by decide) (by decide) (by decide), eS 62 (by decide) (by decide) (by decide)]
      exact hL
    · unfold goS
      split
      · rw [(meM_v _ _).1.1]
        omega
      · exact ih3
theorem goM_mi {V U : Nat → Int} {T S : Mm} (hg : GV V) (hm : MI V U) (hT : HW V T) (hS : HW U S) (hJ : JE T (jV V) (nN V)) (hK : JE S (jV U) (nN V)) (hL : LR T S) (h61 : 0 ≤ T 61 3) : wwM (goM S) = wwM (goM T) := by
  obtain ⟨t0, t3, t4, t5⟩ := g0M_v T
  obtain ⟨s0, s3, s4, s5⟩ := g0M_v S
  have pT : plc T 23 (T 23 5) = V 1 := HV_sp hg hT
  have pS : plc S 23 (S 23 5) = U 1 := HV_sp (MI_GV hg hm) hS
  have h := goF_mi hg hm (T := g0M T) (S := g0M S) (HW_of hg hT (fun a h1 h2 => t0 a (by omega))) (HW_of (MI_GV hg hm) hS (fun a h1 h2 => s0 a (by omega))) (hJ.of (fun a h1 h2 => t0 a (by omega))) (hK.of (fun a h1 h2 => s0 a (by omega)))
    ⟨by rw [s3, t3], by rw [s4, t4, pT, pS, MI_1 hg hm], by rw [s5, t5], fun j hj => by rw [t3] at hj; omega⟩ (by unfold LR; rw [t0 61 (by decide), t0 62 (by decide), s0 61 (by decide), s0 62 (by decide)]; exact hL) (by rw [t0 61 (by decide)]; exact h61) (by rw [t3]; decide) 8
  have hW : WR (goM T) (goM S) := h.1
  unfold wwM
  rw [hW.mt, ws_WV (goM_J hJ)]
  have hK2 : JE S (jV U) (nN U) := by rw [MI_n hg hm]; exact hK
  rw [ws_WV (goM_J hK2), WV_mi hg hm]
theorem adL_v {M : Mm} (h : M 61 3 < 4) (l : Int) : adL M l 61 3 = M 61 3 + 1 ∧ ∀ j, adL M l 62 j = if j = (M 61 3).toNat then l else M 62 j := by
  unfold adL
  rw [if_pos h]
  refine ⟨stM_at _ _ _ _, fun j => ?_⟩
  rw [stM_off (by decide)]
  by_cases z : j = (M 61 3).toNat
  · rw [if_pos z, z, stM_at]
  · rw [if_neg z, stM_ne _ _ (Or.inr z)]
theorem tn_LR (T S : Mm) (q : Int) : LR (tnM T q) (tnM S q) ∧ 0 ≤ tnM T q 61 3 := by
  have t0 : stM T 61 3 0 61 3 = 0 := stM_at _ _ _ _
  have s0 : stM S 61 3 0 61 3 = 0 := stM_at _ _ _ _
  unfold tnM
  by_cases c : q < 5
  · rw [if_pos c, if_pos c]
    obtain ⟨a1, a2⟩ := adL_v (M := stM T 61 3 0) (by rw [t0]; decide) q
    obtain ⟨b1, b2⟩ := adL_v (M := stM S 61 3 0) (by rw [s0]; decide) q
    refine ⟨⟨by rw [a1, b1, t0, s0], fun j hj => ?_⟩, by rw [a1, t0]; decide⟩
    rw [a1, t0] at hj
    rw [a2, b2, t0, s0, if_pos (by omega), if_pos (by omega)]
  · rw [if_neg c, if_neg c]
    obtain ⟨a1, a2⟩ := adL_v (M := stM T 61 3 0) (by rw [t0]; decide) ((q - 5).tdiv 5)
    obtain ⟨b1, b2⟩ := adL_v (M := stM S 61 3 0) (by rw [s0]; decide) ((q - 5).tdiv 5)
    obtain ⟨c1, c2⟩ := adL_v (M := adL (stM T 61 3 0) ((q - 5).tdiv 5)) (by rw [a1, t0]; decide) (q - 5 - (q - 5).tdiv 5 * 5)
    obtain ⟨d1, d2⟩ := adL_v (M := adL (stM S 61 3 0) ((q - 5).tdiv 5)) (by rw [b1, s0]; decide) (q - 5 - (q - 5).tdiv 5 * 5)
    refine ⟨⟨by rw [c1, d1, a1, b1, t0, s0], fun j hj => ?_⟩, by rw [c1, a1, t0]; decide⟩
    rw [c1, a1, t0] at hj
    rw [c2, d2, a1, b1, t0, s0]
    by_cases z : j = (0 + 1 : Int).toNat
    · rw [if_pos z, if_pos z]
    · rw [if_neg z, if_neg z, a2, b2, t0, s0, if_pos (by omega), if_pos (by omega)]
theorem wise_mi {V U : Nat → Int} {M N : Mm} (hg : GV V) (hm : MI V U) (hM : HW V M) (hN : HW U N) : ∀ k : Nat, (wiF N k).2 = (wiF M k).2
  | 0 => rfl
  | k + 1 => by
    have ih := wise_mi hg hm hM hN k
    obtain ⟨t1, t2⟩ := wi_T hg hM k
    obtain ⟨s1, s2⟩ := wi_T (MI_GV hg hm) hN k
    obtain ⟨l1, l2⟩ := tn_LR (wiF M k).1 (wiF N k).1 (k : Int)
    rw [MI_n hg hm] at s1
    have e := goM_mi hg hm t2 s2 t1 s1 l1 l2
    rw [wiF, wiF, e, ih]
    by_cases c : tnO (k : Int)
    · rw [if_pos c, if_pos c]
      split <;> rfl
    · rw [if_neg c, if_neg c]

