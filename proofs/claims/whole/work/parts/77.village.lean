theorem CI.o35 {M M2 : Mm} (h : CI M) (e : ∀ a, (3 ≤ a ∧ a ≤ 34) ∨ (48 ≤ a ∧ a ≤ 75) → M2 a = M a) : CI M2 := by
  refine ⟨⟨?_, NDA_of2 (fun a _ _ => e a (by omega)) h.nd, ?_, ?_⟩, ⟨JW_of (fun a _ _ => e a (by omega)) h.j, PW_fr (fun a _ _ => e a (by omega)) h.p, WW_fr (fun a _ _ => e a (by omega)) h.w, CW_fr (fun a _ _ => e a (by omega)) h.c⟩, ?_, ⟨?_, ?_⟩, ?_, ?_⟩
  · unfold LW; rw [e 23 (by decide)]; exact h.l
  · intro j; rw [e 24 (by decide)]; exact h.pl j
  · rw [e 23 (by decide)]; exact h.st
  · unfold DLW; rw [e 63 (by decide), e 66 (by decide), e 67 (by decide), e 68 (by decide), e 69 (by decide)]; exact h.d
  · intro o ho; rw [e o (by omega), e (o + 1) (by omega)]; exact h.rw o ho
  · intro o ho h15; rw [e (o + 1) (by omega)]; exact h.tw o ho h15
  · unfold PRW; rw [e 70 (by decide), e 71 (by decide), e 72 (by decide)]; exact h.p70
  · unfold PRW; rw [e 73 (by decide), e 74 (by decide), e 75 (by decide)]; exact h.p73
/-- both sides read the same text -/
theorem Rl.ty {M M1 : Mm} (h : Rl M) {t : Int} (ht : T4 t) (e82 : M1 82 = M 82) (e83 : M1 83 = M 83) : TY M1 t (sgn M (15 + 2 * t.toNat)) := by
  have e1 := h.t1 ht
  have htx := h.1.tx (o := 15 + 2 * t.toNat) (by unfold isRowO; omega) (by omega)
  refine ⟨fun i h0 h1 => ?_, ?_, fun i => TX_b htx i⟩
  · unfold btA sgn
    rw [e82, e1, e83]
    by_cases q : i < M (15 + 2 * t.toNat) 1
    · rw [if_pos q, if_pos ⟨h0, q⟩]
      exact h.t2 ht ⟨h0, q⟩
    · rw [if_neg q, if_neg (fun z => q z.2)]
  · rw [e82]
    exact (h.2.2.2.1.1.2.2 t.toNat (by omega)).1
/-- the reader's own words have changed, and the reference's -/
theorem Rl.rd {M M1 M2 : Mm} (h : Rl M) (e : ∀ a, a < 35 ∨ 47 < a → M1 a = M a) (hx : XO M1 M2) (hB : RB M2) : Rl M2 := by
  have hM0 : ∃ M0 : Mm, M0 = fun a => if a = 87 ∨ a = 88 then M1 a else M2 a := ⟨_, rfl⟩
  obtain ⟨M0, hM0⟩ := hM0
  have m1 : ∀ a, (a = 87 ∨ a = 88) → M0 a = M1 a := fun a q => by rw [hM0]; exact if_pos q
  have m2 : ∀ a, ¬ (a = 87 ∨ a = 88) → M0 a = M2 a := fun a q => by rw [hM0]; exact if_neg q
  have f : ∀ a, a ≠ 77 → M0 a = M1 a := fun a ha => by
    by_cases q : a = 87 ∨ a = 88
    · exact m1 a q
    · rw [m2 a q]
      exact hx.1 a ha (by omega) (by omega)
  have h0 : Rl M0 := by
    refine h.kq (KQ.sc (fun a ha => e a (by omega))) (h.1.o35 (fun a ha => e a (by omega))) (KQ.x (fun a h1 h2 h3 => f a h1) (fun b hb => by rw [m2 77 (by decide)]; exact hx.2 b (by omega))) (fun a h1 h2 => f a (by omega)) ?_ ?_
    · rw [m2 77 (by decide), hx.2 2 (by decide), f 0 (by decide), e 77 (by decide), e 0 (by decide)]
      exact h.2.2.1.2.2.1.1
    · rw [f 93 (by decide), e 93 (by decide)]
      exact h.i93
  have k : ∀ a, a ≠ 87 → a ≠ 88 → M2 a = M0 a := fun a h1 h2 => (m2 a (by omega)).symm
  refine h0.ke (fun a b q => by unfold keC at q; rw [k a (by omega) (by omega)]) (h0.1.fr0 (fun a h1 h2 => k a (by omega) (by omega))) (h0.2.2.1.2.2.of2 (fun b _ => by rw [k 0 (by decide) (by decide)]) (k 76 (by decide) (by decide)) (k 78 (by decide) (by decide)) (fun b _ => by rw [k 77 (by decide) (by decide)])) hB
theorem pr_fault {M M2 : Mm} {t z : Int} (h : Rl M) (hx : xfaR (sgn M (15 + 2 * t.toNat)) M 35 (fauM M t) t z M2) : z = fauA M t ∧ Rl M2 := by
  unfold fauM at hx
  unfold fauA
  by_cases c : T4 t
  · have e1 := h.t1 c
    rw [if_neg (not_not_intro c)] at hx ⊢
    by_cases c1 : M (15 + 2 * t.toNat) 1 < 0
    · rw [if_pos c1] at hx ⊢
      have e82 : fdM M 1 82 = M 82 := fdM_o (by decide) (by decide)
      rcases hx with ⟨q, _⟩ | ⟨_, _, hz, e⟩ | ⟨_, q, _⟩
      · exact absurd c q
      · rw [e]
        exact ⟨hz, h.meet 1 (by decide)⟩
      · exact absurd (by rw [e82, e1]; exact c1) q
    · rw [if_neg c1] at hx ⊢
      have o := fun a ha => dfM_off h.1 c (a := a) ha
      rcases hx with ⟨q, _⟩ | ⟨_, q, _⟩ | ⟨_, _, hz, _, hX, hB⟩
      · exact absurd c q
      · exfalso
        rw [o 82 (by decide), e1] at q
        exact c1 q
      · rw [o 82 (by decide), e1] at hz
        exact ⟨hz, h.rd o hX hB⟩
  · rw [if_pos c] at hx ⊢
    rcases hx with ⟨_, hz, e⟩ | ⟨q, _⟩ | ⟨q, _⟩
    · rw [e]
      exact ⟨hz, h⟩
    · exact absurd q c
    · exact absurd q c
/-- what reading goes by -/
def rs4 (c : Int → Int) (s : Int × Int × Int × Int) : Int × Int × Int × Int :=
  if c s.1 = 32 then (s.1 + 1, s.2) else if c s.1 = 104 then (if 8 ≤ s.2.2.1 then (s.1, s.1, s.2.2) else if rnV c (s.1 + 1) 15 = -9 then (rnP c (s.1 + 1), rnP c (s.1 + 1), s.2.2) else (rnP c (s.1 + 1), s.2.1, s.2.2.1 + 1, s.2.2.2)) else match pNd c s.1 s.2.2.1 s.2.2.2 with
    | (q, none) => (q, q, s.2.2)
    | (q, some _) => (q, s.2.1, s.2.2.1, s.2.2.2 + 1)
def q4 (T : Mm) (la : Nat) : Int × Int × Int × Int := (T 47 0, T 47 1, T la 3, T la 4)
theorem rs4_eq (c : Int → Int) {la : Nat} (hla : isLaneO la) {T : Mm} (hR : RI T la) : q4 (rsM c la T) la = rs4 c (q4 T la) := by
  have l47 : la ≠ 47 := by rcases hla with e | e <;> omega
  unfold rsM rs4
  show q4 (if c (T 47 0) = 32 then _ else _) la = if c (T 47 0) = 32 then _ else _
  by_cases q1 : c (T 47 0) = 32
  · rw [if_pos q1, if_pos q1]
    unfold q4
    rw [stM_at, stM_ne _ _ (Or.inr (by decide)), stM_off l47]
  · rw [if_neg q1, if_neg q1]
    show q4 (if c (T 47 0) = 104 then _ else _) la = if c (T 47 0) = 104 then _ else _
    by_cases q2 : c (T 47 0) = 104
    · rw [if_pos q2, if_pos q2]
      unfold rhM
      show q4 (if 8 ≤ T la 3 then _ else _) la = if 8 ≤ T la 3 then _ else _
      by_cases q3 : 8 ≤ T la 3
      · rw [if_pos q3, if_pos q3]
        unfold q4
        rw [stM_at, stM_ne _ _ (Or.inr (by decide)), stM_off l47]
      · rw [if_neg q3, if_neg q3]
        show q4 (if rnV c (T 47 0 + 1) 15 = -9 then _ else _) la = if rnV c (T 47 0 + 1) 15 = -9 then _ else _
        by_cases q5 : rnV c (T 47 0 + 1) 15 = -9
        · rw [if_pos q5, if_pos q5]
          unfold q4
          rw [stM_at, stM_ne _ _ (Or.inr (by decide)), stM_at, stM_off l47, stM_off l47]
        · rw [if_neg q5, if_neg q5]
          unfold q4 adH
          have l1 : la + 1 ≠ 47 := by rcases hla with e | e <;> omega
          rw [stM_off (Ne.symm l47), stM_off (Ne.symm l1), stM_at, stM_ne _ _ (Or.inr (by decide)), stM_at, stM_ne _ _ (Or.inr (show 4 ≠ 3 by decide)), stM_off (show la ≠ la + 1 by omega), stM_off l47]
    · rw [if_neg q2, if_neg q2]
      unfold rnM
      show q4 (rnK T la (pNd c (T 47 0) (T la 3) (T la 4))) la = match pNd c (T 47 0) (T la 3) (T la 4) with
        | (q, none) => (q, q, (q4 T la).2.2)
        | (q, some _) => (q, (q4 T la).2.1, (q4 T la).2.2.1, (q4 T la).2.2.2 + 1)
      have hb := pNd_b c (T 47 0) (T la 3) (T la 4)
      cases hp : pNd c (T 47 0) (T la 3) (T la 4) with
      | mk q o =>
        cases o with
        | none =>
          show q4 (stM (stM T 47 0 q) 47 1 q) la = (q, q, T la 3, T la 4)
          unfold q4
          rw [stM_at, stM_ne _ _ (Or.inr (by decide)), stM_at, stM_off l47, stM_off l47]
        | some d =>
          rw [hp] at hb
          have h8 := (hb.2 (by simp)).2
          show q4 (anM (stM T 47 0 q) la d) la = (q, T 47 1, T la 3, T la 4 + 1)
          have e4 : stM T 47 0 q la 4 = T la 4 := by rw [stM_off l47]
          have hl := hR.1
          have eh := anM_hi (stM T 47 0 q) hla d (a := 47) (by rcases hla with e | e <;> omega) (by rw [e4]; omega)
          unfold q4
          rw [eh, anM_la, anM_la, if_neg (by decide), if_pos rfl, stM_at, stM_ne _ _ (Or.inr (by decide)), stM_off l47]
def r4L (c : Int → Int) (sz : Int) : Nat → Int × Int × Int × Int → Int × Int × Int × Int
  | 0, s => s
  | k + 1, s => if s.2.1 = -9 ∧ s.1 < sz then r4L c sz k (rs4 c s) else s
theorem r4L_eq (c : Int → Int) {sz : Int} (hsz : sz ≤ 120) {la : Nat} (hla : isLaneO la) : ∀ (k : Nat) {T : Mm}, RI T la → q4 (rdL c sz la k T) la = r4L c sz k (q4 T la)
  | 0, _, _ => rfl
  | k + 1, T, hR => by
    rw [rdL, r4L]
    by_cases q : T 47 1 = -9 ∧ T 47 0 < sz
    · rw [if_pos q, if_pos (show (q4 T la).2.1 = -9 ∧ (q4 T la).1 < sz from q), r4L_eq c hsz hla k (rsM_R c hla hR q.1 (by omega)).1, rs4_eq c hla hR]
    · rw [if_neg q, if_neg (show ¬ ((q4 T la).2.1 = -9 ∧ (q4 T la).1 < sz) from q)]
theorem q4_rd0 (T : Mm) {la : Nat} (hla : isLaneO la) : q4 (rd0 T la) la = (0, -9, 0, 0) := by
  unfold q4
  rw [rd0_47 T hla, rd0_9 T hla, rd0_3, rd0_4]
theorem rdA_4 (c : Int → Int) {sz : Int} (hsz : sz ≤ 120) {la lb : Nat} (hla : isLaneO la) (hlb : isLaneO lb) (T V : Mm) : (rdA c la T sz) 47 1 = (rdA c lb V sz) 47 1 := by
  have h1 := r4L_eq c hsz hla 121 (rd0_R T hla)
  have h2 := r4L_eq c hsz hlb 121 (rd0_R V hlb)
  rw [q4_rd0 T hla] at h1
  rw [q4_rd0 V hlb, ← h1] at h2
  have := congrArg (fun s => s.2.1) h2
  exact this.symm
/-- what a village is that is read -/
def VI (T : Mm) : Prop := NDA T ∧ PLW T 23 ∧ T 23 5 = 0 ∧ ∀ i : Nat, i < 8 → (i : Int) < T 23 4 → T (27 + i) 1 < T 23 3
theorem VI.of {T V : Mm} (h : VI T) (e : ∀ a, 23 ≤ a → a ≤ 34 → V a = T a) : VI V := by
  refine ⟨NDA_of2 (fun a h1 h2 => e a (by omega) (by omega)) h.1, ?_, ?_, ?_⟩
  · intro j
    rw [e 24 (by decide) (by decide)]
    exact h.2.1 j
  · rw [e 23 (by decide) (by decide)]
    exact h.2.2.1
  · intro i hi
    rw [e 23 (by decide) (by decide), e (27 + i) (by omega) (by omega)]
    exact h.2.2.2 i hi
theorem VI_rs (c : Int → Int) {T : Mm} (hR : RI T 23) (h : VI T) : VI (rsM c 23 T) := by
  have hl := hR.1
  have o47 : ∀ (b : Nat) (v : Int), VI (stM T 47 b v) := fun b v => h.of (fun a h1 h2 => stM_off (by omega))
  unfold rsM
  by_cases q1 : c (T 47 0) = 32
  · rw [if_pos q1]
    exact o47 _ _
  · rw [if_neg q1]
    by_cases q2 : c (T 47 0) = 104
    · rw [if_pos q2]
      unfold rhM
      by_cases q3 : 8 ≤ T 23 3
      · rw [if_pos q3]
        exact o47 _ _
      · rw [if_neg q3]
        by_cases q5 : rnV c (T 47 0 + 1) 15 = -9
        · rw [if_pos q5]
          exact h.of (fun a h1 h2 => by rw [stM_off (by omega), stM_off (by omega)])
        · rw [if_neg q5]
          have hv := rnV_b c (T 47 0 + 1) 15
          have hU : VI (stM T 47 0 (rnP c (T 47 0 + 1))) := o47 _ _
          generalize stM T 47 0 (rnP c (T 47 0 + 1)) = U at hU
          unfold adH
          refine ⟨NDA_of2 (fun a h1 h2 => by rw [stM_off (by omega), stM_off (by omega)]) hU.1, ?_, ?_, ?_⟩
          · intro j
            rw [stM_off (by decide)]
            by_cases y : j = (U 23 3).toNat
            · rw [y, stM_at]
              omega
            · rw [stM_ne _ _ (Or.inr y)]
              exact hU.2.1 j
          · rw [stM_ne _ _ (Or.inr (by decide)), stM_off (by decide)]
            exact hU.2.2.1
          · intro i hi hi4
            rw [stM_ne _ _ (Or.inr (by decide)), stM_off (by decide)] at hi4
            rw [stM_at, stM_off (by omega), stM_off (by omega)]
            have := hU.2.2.2 i hi hi4
            omega
    · rw [if_neg q2]
      unfold rnM
      cases hp : pNd c (T 47 0) (T 23 3) (T 23 4) with
      | mk q o =>
        cases o with
        | none => exact h.of (fun a h1 h2 => by
            show stM (stM T 47 0 q) 47 1 q a = T a
            rw [stM_off (by omega), stM_off (by omega)])
        | some d =>
          have hd := pNd_ok hp
          have hU : VI (stM T 47 0 q) := o47 _ _
          have e23 : stM T 47 0 q 23 = T 23 := stM_off (by decide)
          show VI (anM (stM T 47 0 q) 23 d)
          unfold LW at hl
          rw [← e23] at hd hl
          generalize stM T 47 0 q = U at *
          have hN : nid U 23 = 27 + (U 23 4).toNat := by unfold nid; omega
          have ha := anM_at U 23 d
          have hl2 := hl.2.2
          refine ⟨⟨?_, fun i hi => ?_⟩, ?_, ?_, ?_⟩
          · unfold NDW
            rw [anM_ne U d (by omega) (by omega)]
            exact hU.1.1
          · unfold NDW NDR
            by_cases y : 27 + i = nid U 23
            · rw [y, ha.1, ha.2.1, ha.2.2.1, ha.2.2.2.1, ha.2.2.2.2.1, ha.2.2.2.2.2.1, ha.2.2.2.2.2.2]
              omega
            · rw [anM_ne U d y (by omega)]
              exact hU.1.2 i hi
          · intro j
            rw [anM_ne U d (by omega) (by omega)]
            exact hU.2.1 j
          · rw [anM_la, if_neg (by decide)]
            exact hU.2.2.1
          · intro i hi hi4
            rw [anM_la, if_pos rfl] at hi4
            rw [anM_la, if_neg (by decide)]
            by_cases y : 27 + i = nid U 23
            · rw [y, ha.2.1]
              omega
            · rw [anM_ne U d y (by omega)]
              exact hU.2.2.2 i hi (by omega)
theorem VI_rdL (c : Int → Int) {sz : Int} (hsz : sz ≤ 120) : ∀ (k : Nat) {T : Mm}, RI T 23 → VI T → VI (rdL c sz 23 k T)
  | 0, _, _, h => h
  | k + 1, T, hR, h => by
    rw [rdL]
    by_cases q : T 47 1 = -9 ∧ T 47 0 < sz
    · rw [if_pos q]
      exact VI_rdL c hsz k (rsM_R c (Or.inl rfl) hR q.1 (by omega)).1 (VI_rs c hR h)
    · rw [if_neg q]
      exact h
theorem VI_rd0 {T : Mm} (hn : NDA T) (hp : PLW T 23) : VI (rd0 T 23) := by
  have o := fun a h1 h2 => rd0_off T (la := 23) (Or.inl rfl) (a := a) h1 h2
  refine ⟨NDA_of2 (fun a h1 h2 => o a (by omega) (by omega)) hn, ?_, ?_, ?_⟩
  · intro j
    rw [o 24 (by decide) (by decide)]
    exact hp j
  · unfold rd0
    exact stM_at _ _ _ _
  · intro i hi hi4
    rw [rd0_4] at hi4
    omega
theorem Rl.vi {M : Mm} (h : Rl M) {t : Int} (ht : T4 t) : VI (vlM M t) := by
  have o := fun a ha => dfM_off h.1 ht (a := a) ha
  unfold vlM rdA
  refine VI_rdL _ (h.1.sz (tO_ok ht).1) 121 (rd0_R _ (Or.inl rfl)) (VI_rd0 (NDA_of2 (fun a h1 h2 => o a (by omega)) h.1.nd) ?_)
  intro j
  rw [o 24 (by decide)]
  exact h.1.pl j
theorem vgM_off (U : Mm) {a : Nat} (h : a ≠ 77 ∧ a ≠ 84 ∧ a ≠ 85 ∧ a ≠ 86 ∧ a ≠ 97 ∧ a ≠ 98) : vgM U a = U a := by
  unfold vgM
  rw [stM_off h.1, stM_off h.1, stM_off h.1, stM_off h.1]
  funext b
  unfold vg3 vg2 vg1 vg0
  rw [if_neg (by omega), if_neg (by omega), if_neg (by omega), if_neg (by omega), if_neg (by omega), stM_off h.1, stM_off h.1]
theorem vgM_77 (U : Mm) : (vgM U 77 10 = U 77 18 ∧ vgM U 77 12 = U 77 19 ∧ vgM U 77 15 = 0 ∧ vgM U 77 35 = 0 ∧ vgM U 77 37 = 0 ∧ vgM U 77 40 = 0) ∧ ∀ b, b ≠ 10 → b ≠ 12 → b ≠ 15 → b ≠ 35 → b ≠ 37 → b ≠ 40 → vgM U 77 b = U 77 b := by
  have g : ∀ b, vg3 U 64 77 b = vg0 U 77 b := fun b => by
    unfold vg3 vg2 vg1
    rw [if_neg (by omega), if_neg (by omega), if_neg (by omega), if_neg (by omega), if_neg (by omega)]
  unfold vgM
  refine ⟨⟨?_, ?_, ?_, ?_, ?_, ?_⟩, fun b h1 h2 h3 h4 h5 h6 => ?_⟩
  · rw [stM_ne _ _ (by omega), stM_ne _ _ (by omega), stM_ne _ _ (by omega), stM_ne _ _ (by omega), g]
    unfold vg0
    rw [stM_ne _ _ (by omega), stM_at]
  · rw [stM_ne _ _ (by omega), stM_ne _ _ (by omega), stM_ne _ _ (by omega), stM_ne _ _ (by omega), g]
    unfold vg0
    exact stM_at _ _ _ _
  · rw [stM_ne _ _ (by omega), stM_ne _ _ (by omega), stM_ne _ _ (by omega), stM_at]
  · rw [stM_ne _ _ (by omega), stM_ne _ _ (by omega), stM_at]
  · rw [stM_ne _ _ (by omega), stM_at]
  · exact stM_at _ _ _ _
  · rw [stM_ne _ _ (by omega), stM_ne _ _ (by omega), stM_ne _ _ (by omega), stM_ne _ _ (by omega), g]
    unfold vg0
    rw [stM_ne _ _ (by omega), stM_ne _ _ (by omega)]
theorem vgM_v (U : Mm) : (∀ h : Nat, h < 8 → vgM U 84 h = U 87 h ∧ vgM U 86 h = 12 ∧ vgM U 97 h = 0) ∧ (∀ b : Nat, b < 48 → vgM U 85 b = U 88 b) ∧ ∀ j : Nat, j < 64 → vgM U 98 j = 0 := by
  refine ⟨fun h hh => ⟨?_, ?_, ?_⟩, fun b hb => ?_, fun j hj => ?_⟩
  · unfold vgM vg3 vg2 vg1
    rw [stM_off (by decide), stM_off (by decide), stM_off (by decide), stM_off (by decide), if_neg (by omega), if_neg (by omega), if_pos ⟨rfl, by omega⟩]
  · unfold vgM vg3 vg2 vg1
    rw [stM_off (by decide), stM_off (by decide), stM_off (by decide), stM_off (by decide), if_neg (by omega), if_neg (by omega), if_neg (by omega), if_pos ⟨rfl, by omega⟩]
  · unfold vgM vg3 vg2 vg1
    rw [stM_off (by decide), stM_off (by decide), stM_off (by decide), stM_off (by decide), if_neg (by omega), if_neg (by omega), if_neg (by omega), if_neg (by omega), if_pos ⟨rfl, by omega⟩]
  · unfold vgM vg3 vg2
    rw [stM_off (by decide), stM_off (by decide), stM_off (by decide), stM_off (by decide), if_neg (by omega), if_pos ⟨rfl, by omega⟩]
  · unfold vgM vg3
    rw [stM_off (by decide), stM_off (by decide), stM_off (by decide), stM_off (by decide), if_pos ⟨rfl, by omega⟩]
theorem pr_village {M M2 : Mm} {t z : Int} (h : Rl M) (hx : xviR (sgn M (15 + 2 * t.toNat)) (dfM M t) 23 (villM M t) t z M2) : z = villA M t ∧ Rl M2 := by
  unfold villM at hx
  unfold villA
  by_cases c : T4 t
  · have e1 := h.t1 c
    rw [if_neg (not_not_intro c)] at hx ⊢
    by_cases c1 : M (15 + 2 * t.toNat) 1 < 0
    · rw [if_pos c1] at hx ⊢
      have e82 : fdM M 1 82 = M 82 := fdM_o (by decide) (by decide)
      rcases hx with ⟨q, _⟩ | ⟨_, _, hz, e⟩ | ⟨_, q, _⟩ | ⟨_, q, _⟩
      · exact absurd c q
      · rw [e]
        exact ⟨hz, h.meet 1 (by decide)⟩
      · exact absurd (by rw [e82, e1]; exact c1) q
      · exact absurd (by rw [e82, e1]; exact c1) q
    · rw [if_neg c1] at hx ⊢
      have hsz := h.1.sz (tO_ok c).1
      have same : ∀ T, (rdA (sgn M (15 + 2 * t.toNat)) 23 T (M (15 + 2 * t.toNat) 1)) 47 1 = dfM M t 47 1 := fun T => rdA_4 _ hsz (Or.inl rfl) (Or.inr rfl) T M
      have o := fun a ha => dfM_off h.1 c (a := a) ha
      have oV := fun a ha => vlM_off h.1 c (a := a) ha
      by_cases c2 : dfM M t 47 1 = -9
      · rw [if_neg (not_not_intro c2)] at hx ⊢
        have oM : ∀ a, (a < 23 ∨ 47 < a) → ¬ (63 ≤ a ∧ a ≤ 65) → a ≠ 70 → a ≠ 73 → vilM M t a = M a := fun a h1 h2 h3 h4 => by
          unfold vilM
          rw [stM_off h4, stM_off h3, clM_off _ (by omega), oV a h1]
        have oL : ∀ a, 23 ≤ a → a ≤ 34 → vilM M t a = vlM M t a := fun a h1 h2 => by
          unfold vilM
          rw [stM_off (by omega), stM_off (by omega), clM_off _ (by omega)]
        have v63 : ∀ b, vilM M t 63 b = if b = 6 then 0 else M 63 b := fun b => by
          unfold vilM
          rw [stM_off (by decide), stM_off (by decide)]
          unfold clM
          by_cases y : b = 6
          · rw [if_pos ⟨rfl, y⟩, if_pos y]
          · rw [if_neg (fun u => y u.2), if_neg (by omega), if_neg (by omega), if_neg y, oV 63 (by decide)]
        have v64 : ∀ x : Nat, x < 8 → vilM M t 64 x = 0 := fun x hx => by
          unfold vilM
          rw [stM_off (by decide), stM_off (by decide)]
          unfold clM
          rw [if_neg (by omega), if_pos ⟨rfl, by omega⟩]
        have v65 : ∀ x : Nat, x < 64 → vilM M t 65 x = 0 := fun x hx => by
          unfold vilM
          rw [stM_off (by decide), stM_off (by decide)]
          unfold clM
          rw [if_neg (by omega), if_neg (by omega), if_pos ⟨rfl, by omega⟩]
        have v70 : ∀ b, vilM M t 70 b = if b = 2 then 0 else M 70 b := fun b => by
          unfold vilM
          rw [stM_off (by decide)]
          by_cases y : b = 2
          · rw [if_pos y, y, stM_at]
          · rw [if_neg y, stM_ne _ _ (Or.inr y), clM_off _ (by decide), oV 70 (by decide)]
        have v73 : ∀ b, vilM M t 73 b = if b = 2 then 0 else M 73 b := fun b => by
          unfold vilM
          by_cases y : b = 2
          · rw [if_pos y, y, stM_at]
          · rw [if_neg y, stM_ne _ _ (Or.inr y), stM_off (by decide), clM_off _ (by decide), oV 73 (by decide)]
        have hvi := h.vi c
        have hRI : RI (vlM M t) 23 := rdA_R _ (Or.inl rfl) _ hsz
        have eV : rdA (sgn M (15 + 2 * t.toNat)) 23 (dfM M t) (M (15 + 2 * t.toNat) 1) = vlM M t := rfl
        rcases hx with ⟨q, _⟩ | ⟨_, q, _⟩ | ⟨_, _, q, _⟩ | ⟨_, _, _, U, hP, hX, hB, hz, e⟩
        · exact absurd c q
        · exfalso
          rw [oM 82 (by decide) (by decide) (by decide) (by decide), e1] at q
          exact c1 q
        · exfalso
          rw [oM 82 (by decide) (by decide) (by decide) (by decide), e1, same] at q
          exact q c2
        · rw [oM 82 (by decide) (by decide) (by decide) (by decide), e1, eV] at hP
          obtain ⟨p1, p2, p3, p4, p5⟩ := hP
          have w23 : ∀ b, vilM M t 23 b = vlM M t 23 b := fun b => by rw [oL 23 (by decide) (by decide)]
          refine ⟨by rw [hz, w23, p2], ?_⟩
          generalize hV : vlM M t = V at *
          have hl := hRI.1
          have g0 : ∀ a, a ≠ 77 → a ≠ 84 → a ≠ 85 → a ≠ 86 → a ≠ 97 → a ≠ 98 → a ≠ 87 → a ≠ 88 → M2 a = vilM M t a := fun a h1 h2 h3 h4 h5 h6 h7 h8 => by
            rw [e, vgM_off U ⟨h1, h2, h3, h4, h5, h6⟩, hX.1 a h1 h7 h8]
          have gM : ∀ a, (a < 23 ∨ 47 < a) → ¬ (63 ≤ a ∧ a ≤ 65) → a ≠ 70 → a ≠ 73 → a ≠ 77 → a ≠ 84 → a ≠ 85 → a ≠ 86 → a ≠ 97 → a ≠ 98 → a ≠ 87 → a ≠ 88 → M2 a = M a := fun a i1 i2 i3 i4 h1 h2 h3 h4 h5 h6 h7 h8 => by
            rw [g0 a h1 h2 h3 h4 h5 h6 h7 h8, oM a i1 i2 i3 i4]
          have gL : ∀ a, 23 ≤ a → a ≤ 34 → M2 a = V a := fun a h1 h2 => by
            rw [g0 a (by omega) (by omega) (by omega) (by omega) (by omega) (by omega) (by omega) (by omega), oL a h1 h2]
          have v77 := vgM_77 U
          rw [← e] at v77
          have vv := vgM_v U
          rw [← e] at vv
          have s77 : ∀ b, (b < 10 ∨ 20 ≤ b) → b ≠ 35 → b ≠ 37 → b ≠ 40 → M2 77 b = M 77 b := fun b h1 h2 h3 h4 => by
            rw [v77.2 b (by omega) (by omega) (by omega) h2 h3 h4, hX.2 b (by omega), oM 77 (by decide) (by decide) (by decide) (by decide)]
          have h5 := hvi.2.2.1
          obtain ⟨hc0, ⟨hR, hT, _⟩, ⟨_, _, hO⟩, ⟨⟨_, i2, i3⟩, ⟨i4, i5, i6⟩, i7, _⟩, _⟩ := h
          have g67 := gM 67 (by decide) (by decide) (by decide) (by decide) (by decide) (by decide) (by decide) (by decide) (by decide) (by decide) (by decide) (by decide)
          have gC : ∀ a, (3 ≤ a ∧ a ≤ 22) ∨ (48 ≤ a ∧ a ≤ 62) ∨ (66 ≤ a ∧ a ≤ 69) ∨ a = 71 ∨ a = 72 ∨ a = 74 ∨ a = 75 ∨ a = 0 ∨ a = 76 ∨ a = 78 ∨ a = 79 ∨ a = 80 ∨ a = 82 ∨ a = 83 ∨ a = 93 ∨ (99 ≤ a ∧ a ≤ 103) → M2 a = M a := fun a ha => gM a (by omega) (by omega) (by omega) (by omega) (by omega) (by omega) (by omega) (by omega) (by omega) (by omega) (by omega) (by omega)
          have m63 : M2 63 6 = 0 := by
            rw [g0 63 (by decide) (by decide) (by decide) (by decide) (by decide) (by decide) (by decide) (by decide), v63, if_pos rfl]
          have m70 : M2 70 2 = 0 := by
            rw [g0 70 (by decide) (by decide) (by decide) (by decide) (by decide) (by decide) (by decide) (by decide), v70, if_pos rfl]
          have m73 : M2 73 2 = 0 := by
            rw [g0 73 (by decide) (by decide) (by decide) (by decide) (by decide) (by decide) (by decide) (by decide), v73, if_pos rfl]
          have m23 : M2 23 = V 23 := gL 23 (by decide) (by decide)
          have nd85 : ∀ i : Nat, i < 8 → N9 (fun k => M2 85 (6 * i + k)) := fun i hi => by
            have := hB.2 i hi
            unfold N9 at this ⊢
            simp only [] at this ⊢
            rw [vv.2.1 (6 * i + 0) (by omega), vv.2.1 (6 * i + 1) (by omega), vv.2.1 (6 * i + 2) (by omega), vv.2.1 (6 * i + 3) (by omega), vv.2.1 (6 * i + 4) (by omega), vv.2.1 (6 * i + 5) (by omega)]
            exact this
          have dd := hc0.d
          have hRB2 : RB M2 := by
            have e87 : M2 87 = U 87 := by rw [e]; exact vgM_off U (by decide)
            have e88 : M2 88 = U 88 := by rw [e]; exact vgM_off U (by decide)
            exact RB_of hB e87 e88
          refine ⟨⟨⟨?_, NDA_of2 (fun a h1 h2 => gL a (by omega) (by omega)) hvi.1, ?_, ?_⟩, ⟨JW_of (fun a _ _ => gC a (by omega)) hc0.j, PW_fr (fun a _ _ => gC a (by omega)) hc0.p, WW_fr (fun a _ _ => gC a (by omega)) hc0.w, CW_fr (fun a _ _ => gC a (by omega)) hc0.c⟩, ?_, ⟨?_, ?_⟩, ?_, ?_⟩, ⟨hR.of (fun a q => gC a (by omega)), hT.of (fun a q => gC a (by omega)), ?_⟩, ⟨⟨⟨?_, ?_, ?_, ?_⟩, ?_, ?_⟩, ⟨⟨?_, ?_⟩, ?_, ?_⟩, ?_⟩, ⟨⟨⟨⟨?_, ?_, ?_⟩, ?_, ?_, ?_⟩, i2.of (gC 79 (by decide)) (gC 80 (by decide)), i3.of (gC 82 (by decide)) (gC 83 (by decide))⟩, ⟨?_, ?_, ?_⟩, ?_, ?_⟩, hRB2⟩
          · unfold LW
            rw [m23]
            exact hl
          · intro j
            rw [gL 24 (by decide) (by decide)]
            exact hvi.2.1 j
          · rw [m23, h5]
            omega
          · unfold DLW
            rw [m63, gC 66 (by decide), gC 67 (by decide), gC 68 (by decide), gC 69 (by decide)]
            exact ⟨by omega, dd.2⟩
          · intro o ho
            rw [gC o (by omega), gC (o + 1) (by omega)]
            exact hc0.rw o ho
          · intro o ho h15
            rw [gC (o + 1) (by omega)]
            exact hc0.tw o ho h15
          · unfold PRW
            rw [m70, gC 71 (by decide), gC 72 (by decide)]
            exact ⟨by omega, hc0.p70.2⟩
          · unfold PRW
            rw [m73, gC 74 (by decide), gC 75 (by decide)]
            exact ⟨by omega, hc0.p73.2⟩
          · unfold RlV
            rw [v77.1.1, v77.1.2.1, v77.1.2.2.1, m23, gL 24 (by decide) (by decide), h5]
            refine ⟨⟨p2.symm, p3.symm, rfl⟩, fun x hx => ?_, fun i hi => ?_, ?_⟩
            · rw [(vv.1 x (by omega)).1]
              exact (p4 x hx).symm
            · rw [gL (27 + i) (by omega) (by omega), (vv.1 i (by omega)).2.1]
              have := p5 i hi
              refine ⟨fun k hk => ?_, ?_, hvi.2.2.2 i (by omega) hi⟩
              · rw [vv.2.1 (6 * i + k) (by omega)]
                exact (this.1 k hk).symm
              · exact this.2.symm
            · by_cases y : V 23 3 = 0
              · exact Or.inl ⟨y, rfl⟩
              · right
                omega
          · intro x hx
            rw [(vv.1 x hx).2.2, g0 64 (by decide) (by decide) (by decide) (by decide) (by decide) (by decide) (by decide) (by decide), v64 x hx]
          · intro j hj
            rw [vv.2.2 j hj, g0 65 (by decide) (by decide) (by decide) (by decide) (by decide) (by decide) (by decide) (by decide), v65 j hj]
          · intro x hx _
            rw [g0 64 (by decide) (by decide) (by decide) (by decide) (by decide) (by decide) (by decide) (by decide), v64 x hx]
          · intro x y hx hy _
            rw [g0 65 (by decide) (by decide) (by decide) (by decide) (by decide) (by decide) (by decide) (by decide), v65 _ (by omega)]
          · rw [v77.1.2.2.2.1, m63]
          · intro i hi
            rw [m63] at hi
            omega
          · rw [v77.1.2.2.2.2.1, m70]
          · rw [v77.1.2.2.2.2.2, m73]
          · intro j hj
            rw [m70] at hj
            omega
          · intro j hj
            rw [m73] at hj
            omega
          · exact hO.of2 (fun b _ => by rw [gC 0 (by decide)]) (gC 76 (by decide)) (gC 78 (by decide)) (fun b hb => s77 b (by omega) (by omega) (by omega) (by omega))
          · rw [v77.1.1, ← p2]
            omega
          · rw [v77.1.2.1, ← p3]
            omega
          · rw [v77.1.2.2.1]
            omega
          · intro j hj
            rw [(vv.1 j hj).1]
            exact hB.1 j hj
          · intro i hi
            have := nd85 i hi
            unfold N9 at this
            unfold ND6
            simp only [] at this ⊢
            omega
          · intro i hi
            rw [(vv.1 i hi).2.1]
            omega
          · have ex : ∀ i k, xd M2 i k = xd M i k := fun i k => by unfold xd; rw [gC 99 (by decide)]
            unfold DLX at i4 ⊢
            simp only [ex, v77.1.2.2.2.1]
            exact ⟨by omega, i4.2⟩
          · unfold TNX at i5 ⊢
            rw [v77.1.2.2.2.2.1, gC 100 (by decide), gC 101 (by decide)]
            exact ⟨by omega, i5.2⟩
          · unfold TRX at i6 ⊢
            rw [v77.1.2.2.2.2.2, gC 102 (by decide), gC 103 (by decide)]
            exact ⟨by omega, i6.2⟩
          · rw [gC 93 (by decide)]
            exact i7
          · intro i hi
            exact (nd85 i hi).2.2.2.2.2.2
      · rw [if_pos c2] at hx ⊢
        rcases hx with ⟨q, _⟩ | ⟨_, q, _⟩ | ⟨_, _, _, hz, hX, hB⟩ | ⟨_, _, q, _⟩
        · exact absurd c q
        · exfalso
          rw [o 82 (by decide), e1] at q
          exact c1 q
        · exact ⟨hz, h.rd o hX hB⟩
        · exfalso
          rw [o 82 (by decide), e1, same] at q
          exact c2 q
  · rw [if_pos c] at hx ⊢
    rcases hx with ⟨_, hz, e⟩ | ⟨q, _⟩ | ⟨q, _⟩ | ⟨q, _⟩
    · rw [e]
      exact ⟨hz, h⟩
    · exact absurd q c
    · exact absurd q c
    · exact absurd q c
