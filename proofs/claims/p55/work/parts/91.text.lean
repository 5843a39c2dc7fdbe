theorem anM_at (T : Mm) (la : Nat) (d : Nd6) : anM T la d (nid T la) 0 = d.1 ∧ anM T la d (nid T la) 1 = d.2.1 ∧ anM T la d (nid T la) 2 = d.2.2.1 ∧ anM T la d (nid T la) 3 = d.2.2.2.1 ∧ anM T la d (nid T la) 4 = d.2.2.2.2.1 ∧ anM T la d (nid T la) 5 = d.2.2.2.2.2 ∧ anM T la d (nid T la) 6 = 12 := by
  unfold anM
  refine ⟨?_, ?_, ?_, ?_, ?_, ?_, ?_⟩ <;> simp [stM]
theorem anM_ne (T : Mm) {la : Nat} (d : Nd6) {a : Nat} (h1 : a ≠ nid T la) (h2 : a ≠ la) : anM T la d a = T a := by
  unfold anM
  rw [stM_off h1, stM_off h1, stM_off h1, stM_off h1, stM_off h1, stM_off h1, stM_off h1, stM_off h2]
theorem pNd_ok {c : Int → Int} {p hc nc q : Int} {d : Nd6} (h : pNd c p hc nc = (q, some d)) : (0 ≤ d.1 ∧ d.1 ≤ 5) ∧ (0 ≤ d.2.1 ∧ d.2.1 < hc) ∧ (0 ≤ d.2.2.1 ∧ d.2.2.1 ≤ 27) ∧ (0 ≤ d.2.2.2.1 ∧ d.2.2.2.1 ≤ 27) ∧ (1 ≤ d.2.2.2.2.1 ∧ d.2.2.2.2.1 ≤ 4) ∧ (1 ≤ d.2.2.2.2.2 ∧ d.2.2.2.2.2 ≤ 9) ∧ nc < 8 ∧ p + 1 ≤ q ∧ q ≤ p + 12 ∧ ¬ kdO (c p) = -9 := by
  have hb := pNd_b c p hc nc
  rw [h] at hb
  have hb2 := hb.2 (by simp)
  have h1 := kdO_b (c p)
  have h2 := rnV_b c (p + 3) 27
  have h3 := rnV_b c (rnP c (p + 3) + 1) 27
  have h4 := rfV_b c (rnP c (rnP c (p + 3) + 1) + 1) 4
  have h5 := rfV_b c (rnP c (rnP c (p + 3) + 1) + 3) 9
  have hq1 : p + 1 ≤ q := hb2.1
  have hq2 : q ≤ p + 12 := hb.1.2
  unfold pNd at h
  split at h
  · simp at h
  · split at h
    · simp at h
    · split at h
      · simp at h
      · split at h
        · simp at h
        · split at h
          · simp at h
          · split at h
            · simp at h
            · split at h
              · simp at h
              · split at h
                · simp at h
                · split at h
                  · simp at h
                  · split at h
                    · simp at h
                    · injection h with e1 e2
                      injection e2 with e2
                      subst e2
                      simp only []
                      omega
theorem rd0_4 (T : Mm) (la : Nat) : rd0 T la la 4 = 0 := by
  unfold rd0
  rw [stM_ne _ _ (Or.inr (by decide)), stM_at]
theorem CI.o35 {M M2 : Mm} (h : CI M) (e : ∀ a, (3 ≤ a ∧ a ≤ 34) ∨ (48 ≤ a ∧ a ≤ 75) → M2 a = M a) : CI M2 := by
  refine ⟨⟨?_, NDA_of2 (fun a _ _ => e a (by omega)) h.nd, ?_, ?_⟩, ⟨JW_of (fun a _ _ => e a (by omega)) h.j, PW_fr (fun a _ _ => e a (by omega)) h.p, WW_fr (fun a _ _ => e a (by omega)) h.w, CW_fr (fun a _ _ => e a (by omega)) h.c⟩, ?_, ⟨?_, ?_⟩, ?_, ?_⟩
  · unfold LW; rw [e 23 (by decide)]; exact h.l
  · intro j; rw [e 24 (by decide)]; exact h.pl j
  · rw [e 23 (by decide)]; exact h.st
  · unfold DLW; rw [e 63 (by decide), e 66 (by decide), e 67 (by decide), e 68 (by decide), e 69 (by decide)]; exact h.d
  · intro o ho; rw [e o (by omega), e (o + 1) (by omega)]; exact h.rw o ho
  · intro o ho h15; rw [e (o + 1) (by omega)]; exact h.tw o ho h15
  · unfold PRW; rw [e 70 (by decide), e 71 (by decide), e 72 (by decide)]; exact h.p70
  · unfold PRW; rw [e 73 (by decide), e 74 (by decide), e 75 (by decide)]; exact h.p73
def VI (T : Mm) : Prop := NDA T ∧ PLW T 23 ∧ T 23 5 = 0 ∧ ∀ i : Nat, i < 8 → (i : Int) < T 23 4 → T (27 + i) 1 < T 23 3
theorem VI.of {T V : Mm} (h : VI T) (e : ∀ a, 23 ≤ a → a ≤ 34 → V a = T a) : VI V := by
  refine ⟨NDA_of2 (fun a h1 h2 => e a (by omega) (by omega)) h.1, ?_, ?_, ?_⟩
  · intro j
    rw [e 24 (by decide) (by decide)]
    exact h.2.1 j
  · rw [e 23 (by decide) (by decide)]
    exact h.2.2.1
  · intro i hi
    rw [e 23 (by decide) (by decide), e (27 + i) (by omega) (by omega)]
    exact h.2.2.2 i hi
theorem VI_rs (c : Int → Int) {T : Mm} (hR : RI T 23) (h : VI T) : VI (rsM c 23 T) := by
  have hl := hR.1
  have o47 : ∀ (b : Nat) (v : Int), VI (stM T 47 b v) := fun b v => h.of (fun a h1 h2 => stM_off (by omega))
  unfold rsM
  by_cases q1 : c (T 47 0) = 32
  · rw [if_pos q1]
    exact o47 _ _
  · rw [if_neg q1]
    by_cases q2 : c (T 47 0) = 104
    · rw [if_pos q2]
      unfold rhM
      by_cases q3 : 8 ≤ T 23 3
      · rw [if_pos q3]
        exact o47 _ _
      · rw [if_neg q3]
        by_cases q5 : rnV c (T 47 0 + 1) 15 = -9
        · rw [if_pos q5]
          exact h.of (fun a h1 h2 => by rw [stM_off (by omega), stM_off (by omega)])
        · rw [if_neg q5]
          have hv := rnV_b c (T 47 0 + 1) 15
          have hU : VI (stM T 47 0 (rnP c (T 47 0 + 1))) := o47 _ _
          generalize stM T 47 0 (rnP c (T 47 0 + 1)) = U at hU
          unfold adH
          refine ⟨NDA_of2 (fun a h1 h2 => by rw [stM_off (by omega), stM_off (by omega)]) hU.1, ?_, ?_, ?_⟩
          · intro j
            rw [stM_off (by decide)]
            by_cases y : j = (U 23 3).toNat
            · rw [y, stM_at]
              omega
            · rw [stM_ne _ _ (Or.inr y)]
              exact hU.2.1 j
          · rw [stM_ne _ _ (Or.inr (by decide)), stM_off (by decide)]
            exact hU.2.2.1
          · intro i hi hi4
            rw [stM_ne _ _ (Or.inr (by decide)), stM_off (by decide)] at hi4
            rw [stM_at, stM_off (by omega), stM_off (by omega)]
            have := hU.2.2.2 i hi hi4
            omega
    · rw [if_neg q2]
      unfold rnM
      cases hp : pNd c (T 47 0) (T 23 3) (T 23 4) with
      | mk q o =>
        cases o with
        | none => exact h.of (fun a h1 h2 => by
            show stM (stM T 47 0 q) 47 1 q a = T a
            rw [stM_off (by omega), stM_off (by omega)])
        | some d =>
          have hd := pNd_ok hp
          have hU : VI (stM T 47 0 q) := o47 _ _
          have e23 : stM T 47 0 q 23 = T 23 := stM_off (by decide)
          show VI (anM (stM T 47 0 q) 23 d)
          unfold LW at hl
          rw [← e23] at hd hl
          generalize stM T 47 0 q = U at *
          have hN : nid U 23 = 27 + (U 23 4).toNat := by unfold nid; omega
          have ha := anM_at U 23 d
          have hl2 := hl.2.2
          refine ⟨⟨?_, fun i hi => ?_⟩, ?_, ?_, ?_⟩
          · unfold NDW
            rw [anM_ne U d (by omega) (by omega)]
            exact hU.1.1
          · unfold NDW NDR
            by_cases y : 27 + i = nid U 23
            · rw [y, ha.1, ha.2.1, ha.2.2.1, ha.2.2.2.1, ha.2.2.2.2.1, ha.2.2.2.2.2.1, ha.2.2.2.2.2.2]
              omega
            · rw [anM_ne U d y (by omega)]
              exact hU.1.2 i hi
          · intro j
            rw [anM_ne U d (by omega) (by omega)]
            exact hU.2.1 j
          · rw [anM_la, if_neg (by decide)]
            exact hU.2.2.1
          · intro i hi hi4
            rw [anM_la, if_pos rfl] at hi4
            rw [anM_la, if_neg (by decide)]
            by_cases y : 27 + i = nid U 23
            · rw [y, ha.2.1]
              omega
            · rw [anM_ne U d y (by omega)]
              exact hU.2.2.2 i hi (by omega)
theorem VI_rdL (c : Int → Int) {sz : Int} (hsz : sz ≤ 120) : ∀ (k : Nat) {T : Mm}, RI T 23 → VI T → VI (rdL c sz 23 k T)
  | 0, _, _, h => h
  | k + 1, T, hR, h => by
    rw [rdL]
    by_cases q : T 47 1 = -9 ∧ T 47 0 < sz
    · rw [if_pos q]
      exact VI_rdL c hsz k (rsM_R c (Or.inl rfl) hR q.1 (by omega)).1 (VI_rs c hR h)
    · rw [if_neg q]
      exact h
theorem VI_rd0 {T : Mm} (hn : NDA T) (hp : PLW T 23) : VI (rd0 T 23) := by
  have o := fun a h1 h2 => rd0_off T (la := 23) (Or.inl rfl) (a := a) h1 h2
  refine ⟨NDA_of2 (fun a h1 h2 => o a (by omega) (by omega)) hn, ?_, ?_, ?_⟩
  · intro j
    rw [o 24 (by decide) (by decide)]
    exact hp j
  · unfold rd0
    exact stM_at _ _ _ _
  · intro i hi hi4
    rw [rd0_4] at hi4
    omega
theorem CI.row {M M2 : Mm} (h : CI M) (hf : ∀ a, 23 ≤ a → a ≤ 75 → M2 a = M a) (hr : RWW M2) (ht : TWW M2) : CI M2 := by
  refine ⟨⟨?_, NDA_of2 (fun a h1 h2 => hf a (by omega) (by omega)) h.nd, ?_, ?_⟩, ⟨JW_of (fun a _ _ => hf a (by omega) (by omega)) h.j, PW_fr (fun a _ _ => hf a (by omega) (by omega)) h.p, WW_fr (fun a _ _ => hf a (by omega) (by omega)) h.w, CW_fr (fun a _ _ => hf a (by omega) (by omega)) h.c⟩, ?_, ⟨hr, ht⟩, ?_, ?_⟩
  · unfold LW; rw [hf 23 (by decide) (by decide)]; exact h.l
  · intro j; rw [hf 24 (by decide) (by decide)]; exact h.pl j
  · rw [hf 23 (by decide) (by decide)]; exact h.st
  · unfold DLW; rw [hf 63 (by decide) (by decide), hf 66 (by decide) (by decide), hf 67 (by decide) (by decide), hf 68 (by decide) (by decide), hf 69 (by decide) (by decide)]; exact h.d
  · unfold PRW; rw [hf 70 (by decide) (by decide), hf 71 (by decide) (by decide), hf 72 (by decide) (by decide)]; exact h.p70
  · unfold PRW; rw [hf 73 (by decide) (by decide), hf 74 (by decide) (by decide), hf 75 (by decide) (by decide)]; exact h.p73

theorem CI.td {M : Mm} (h : CI M) (v : Int) : CI (tdM M v) := h.fr0 (fun a h1 h2 => by unfold tdM; exact stM_off (by omega))
/-! the writer -/
abbrev Wr : Type := (Nat → Int) × Int
def wPut (s : Wr) (b : Int) : Wr := (uM s.1 s.2.toNat b, s.2 + 1)
def wNum (s : Wr) (v : Int) : Wr := (nmT s.1 s.2 v, nmP s.2 v)
theorem wNum_lt (s : Wr) {v : Int} (h : v < 10) : wNum s v = wPut s (48 + v) := by unfold wNum nmT nmP wPut; rw [if_pos h, if_pos h]
theorem wNum_ge (s : Wr) {v : Int} (h : ¬ v < 10) : wNum s v = wPut (wPut s (48 + v / 10)) (48 + v % 10) := by
  unfold wNum nmT nmP wPut
  rw [if_neg h, if_neg h]
  exact Prod.ext rfl (by show s.2 + 2 = s.2 + 1 + 1; omega)
def klO (k : Int) : Int := if k = 0 then 110 else if k = 1 then 109 else if k = 2 then 108 else if k = 3 then 119 else if k = 4 then 102 else 116
theorem klO_b (k : Int) : 102 ≤ klO k ∧ klO k ≤ 119 ∧ klO k ≠ 104 := by unfold klO; (repeat' split) <;> decide
theorem kdO_kl {k : Int} (h : 0 ≤ k ∧ k ≤ 5) : kdO (klO k) = k := by
  rcases (show k = 0 ∨ k = 1 ∨ k = 2 ∨ k = 3 ∨ k = 4 ∨ k = 5 by omega) with rfl | rfl | rfl | rfl | rfl | rfl <;> decide
def wHs (V : Nat → Int) (t0 : Nat → Int) : Nat → Wr
  | 0 => (t0, 0)
  | h + 1 => wNum (wPut (wHs V t0 h) 104) (V (1 + h))
def wNd (s : Wr) (V : Nat → Int) (i : Nat) : Wr := wPut (wPut (wPut (wPut (wNum (wPut (wNum (wPut (wPut (wPut s (klO (V (10 + 6 * i)))) (65 + V (11 + 6 * i))) 58) (V (12 + 6 * i))) 45) (V (13 + 6 * i))) 58) (48 + V (14 + 6 * i))) 58) (48 + V (15 + 6 * i))
def wNs (V : Nat → Int) (t0 : Nat → Int) : Nat → Wr
  | 0 => wHs V t0 (V 0).toNat
  | i + 1 => wNd (wNs V t0 i) V i
/-- bytes alone, blanks from the place on -/
def Bd (s : Wr) (k : Int) : Prop := TB s.1 ∧ (0 ≤ s.2 ∧ s.2 ≤ k) ∧ ∀ j : Nat, s.2 ≤ (j : Int) → j < 120 → s.1 j = 32
theorem Bd_put {s : Wr} {k : Int} (h : Bd s k) {b : Int} (hb : 0 ≤ b ∧ b ≤ 127) : Bd (wPut s b) (k + 1) := by
  obtain ⟨h1, h2, h3⟩ := h
  refine ⟨h1.u _ hb, ⟨by show 0 ≤ s.2 + 1; omega, by show s.2 + 1 ≤ k + 1; omega⟩, fun j hj h4 => ?_⟩
  have hj : s.2 + 1 ≤ (j : Int) := hj
  show uM s.1 s.2.toNat b j = 32
  rw [uM_ne _ _ (by omega)]
  exact h3 j (by omega) h4
theorem Bd.le {s : Wr} {k k2 : Int} (h : Bd s k) (h2 : k ≤ k2) : Bd s k2 := ⟨h.1, ⟨h.2.1.1, Int.le_trans h.2.1.2 h2⟩, h.2.2⟩
theorem Bd_num {s : Wr} {k : Int} (h : Bd s k) {v : Int} (hv : 0 ≤ v ∧ v ≤ 27) : Bd (wNum s v) (k + 2) := by
  by_cases q : v < 10
  · rw [wNum_lt s q]
    exact (Bd_put h (by omega)).le (by omega)
  · rw [wNum_ge s q]
    exact (Bd_put (Bd_put h (by omega)) (by omega)).le (by omega)
/-- the text as it is at last begins so -/
def Pre (s : Wr) (T : Nat → Int) : Prop := 0 ≤ s.2 ∧ ∀ j : Nat, (j : Int) < s.2 → T j = s.1 j
theorem Pre_put {s : Wr} {b : Int} {T : Nat → Int} (h0 : 0 ≤ s.2) (h : Pre (wPut s b) T) : Pre s T ∧ T s.2.toNat = b := by
  have h2 : ∀ j : Nat, (j : Int) < s.2 + 1 → T j = uM s.1 s.2.toNat b j := h.2
  refine ⟨⟨h0, fun j hj => ?_⟩, ?_⟩
  · rw [h2 j (by omega), uM_ne _ _ (by omega)]
  · rw [h2 _ (by omega), uM_at]
/-- a number stands there -/
abbrev isNm (c : Int → Int) (p v : Int) : Prop := (v < 10 → c p = 48 + v) ∧ (¬ v < 10 → c p = 48 + v / 10 ∧ c (p + 1) = 48 + v % 10)
def tcF (T : Nat → Int) : Int → Int := fun i => if 0 ≤ i ∧ i < 120 then T i.toNat else 0
theorem tcF_at (T : Nat → Int) {p : Int} (h : 0 ≤ p ∧ p < 120) : tcF T p = T p.toNat := by unfold tcF; rw [if_pos h]
theorem Pre_num {s : Wr} {v : Int} {T : Nat → Int} (h0 : 0 ≤ s.2 ∧ s.2 < 118) (h : Pre (wNum s v) T) : Pre s T ∧ isNm (tcF T) s.2 v := by
  by_cases q : v < 10
  · rw [wNum_lt s q] at h
    obtain ⟨h1, h2⟩ := Pre_put h0.1 h
    exact ⟨h1, fun _ => by rw [tcF_at T (by omega)]; exact h2, fun z => absurd q z⟩
  · rw [wNum_ge s q] at h
    obtain ⟨h1, h2⟩ := Pre_put (s := wPut s (48 + v / 10)) (by show 0 ≤ s.2 + 1; omega) h
    obtain ⟨h3, h4⟩ := Pre_put h0.1 h1
    exact ⟨h3, fun z => absurd z q, fun _ => ⟨by rw [tcF_at T (by omega)]; exact h4, by rw [tcF_at T (by omega)]; exact h2⟩⟩
theorem fgH_d {d : Int} (h : 0 ≤ d ∧ d ≤ 9) : fgH (48 + d) = d := by unfold fgH; rw [if_pos (by omega)]; omega
theorem fgH_n {d : Int} (h : d < 48 ∨ 57 < d) : fgH d = -9 := by unfold fgH; rw [if_neg (by omega)]
theorem rn_ok {c : Int → Int} {p v q : Int} (hv : 0 ≤ v ∧ v ≤ 27) (hq : v ≤ q) (h : isNm c p v) (hn : v < 10 → fgH (c (p + 1)) = -9) : rnV c p q = v ∧ rnP c p = nmP p v := by
  by_cases z : v < 10
  · have e := h.1 z
    have f1 : fgH (c p) = v := by rw [e, fgH_d (by omega)]
    obtain ⟨a1, a2⟩ := rnB (c := c) (p := p) (q := q) (by omega) (hn z)
    rw [a1, a2, f1, if_pos hq]
    unfold nmP
    rw [if_pos z]
    exact ⟨rfl, rfl⟩
  · obtain ⟨e1, e2⟩ := h.2 z
    have f1 : fgH (c p) = v / 10 := by rw [e1, fgH_d (by omega)]
    have f2 : fgH (c (p + 1)) = v % 10 := by rw [e2, fgH_d (by omega)]
    obtain ⟨a1, a2⟩ := rnC (c := c) (p := p) (q := q) (by omega) (by omega)
    rw [a1, a2, f1, f2, show 10 * (v / 10) + v % 10 = v by omega, if_pos hq]
    unfold nmP
    rw [if_neg z]
    exact ⟨rfl, rfl⟩
theorem nmP_b (p v : Int) : p + 1 ≤ nmP p v ∧ nmP p v ≤ p + 2 := by unfold nmP; split <;> omega
/-- a NEED is read -/
theorem pNd_rd {c : Int → Int} {p hc nc kd hs a b q v : Int} (hk : 0 ≤ kd ∧ kd ≤ 5) (hn : nc < 8) (hh : 0 ≤ hs ∧ hs < hc) (ha : 0 ≤ a ∧ a ≤ 27) (hb : a ≤ b ∧ b ≤ 27) (hq : 1 ≤ q ∧ q ≤ 4) (hv : 1 ≤ v ∧ v ≤ 9)
    (c0 : c p = klO kd) (c1 : c (p + 1) = 65 + hs) (c2 : c (p + 2) = 58) (c3 : isNm c (p + 3) a) (c4 : c (nmP (p + 3) a) = 45) (c5 : isNm c (nmP (p + 3) a + 1) b) (c6 : c (nmP (nmP (p + 3) a + 1) b) = 58)
    (c7 : c (nmP (nmP (p + 3) a + 1) b + 1) = 48 + q) (c8 : c (nmP (nmP (p + 3) a + 1) b + 2) = 58) (c9 : c (nmP (nmP (p + 3) a + 1) b + 3) = 48 + v) :
    pNd c p hc nc = (nmP (nmP (p + 3) a + 1) b + 4, some (kd, hs, a, b, q, v)) := by
  have e3 := rn_ok (c := c) (p := p + 3) (q := 27) ha (by omega) c3 (fun z => by
    have : nmP (p + 3) a = p + 3 + 1 := by unfold nmP; rw [if_pos z]
    rw [← this, c4]
    exact fgH_n (by omega))
  have e5 := rn_ok (c := c) (p := nmP (p + 3) a + 1) (q := 27) (v := b) (by omega) (by omega) c5 (fun z => by
    have hx : ∀ x, nmP x b = x + 1 := fun x => by unfold nmP; rw [if_pos z]
    rw [← hx (nmP (p + 3) a + 1), c6]
    exact fgH_n (by omega))
  have k0 : kdO (c p) = kd := by rw [c0, kdO_kl hk]
  have f7 : rfV c (nmP (nmP (p + 3) a + 1) b + 1) 4 = q := by
    unfold rfV
    rw [c7, fgH_d (by omega), if_pos (by omega)]
  have f9 : rfV c (nmP (nmP (p + 3) a + 1) b + 3) 9 = v := by
    unfold rfV
    rw [c9, fgH_d (by omega), if_pos (by omega)]
  unfold pNd
  rw [e3.1, e3.2, e5.1, e5.2, k0, c1, c2, c4, c6, c8, f7, f9]
  rw [if_neg (by omega), if_neg (by omega), if_neg (by omega), if_neg (by omega), if_neg (by omega), if_neg (by omega), if_neg (by omega), if_neg (by omega), if_neg (by omega), if_neg (by omega)]
  rw [show 65 + hs - 65 = hs by omega]
/-! the reader on the way -/
def RS (V : Nat → Int) (la h i : Nat) (p : Int) (M : Mm) : Prop := (M 47 0 = p ∧ M 47 1 = -9) ∧ (M la 3 = (h : Int) ∧ M la 4 = (i : Int) ∧ M la 5 = 0) ∧ (∀ k : Nat, k < h → M (la + 1) k = V (1 + k)) ∧ (∀ k : Nat, k < i → (∀ j : Nat, j < 6 → M (la + 4 + k) j = V (10 + 6 * k + j)) ∧ M (la + 4 + k) 6 = 12)
theorem RS_rd0 (V : Nat → Int) {la : Nat} (hla : isLaneO la) (M : Mm) : RS V la 0 0 0 (rd0 M la) := by
  have h47 : (47 : Nat) ≠ la := by omega
  refine ⟨⟨rd0_47 M hla, ?_⟩, ⟨?_, ?_, ?_⟩, fun k hk => absurd hk (Nat.not_lt_zero _), fun k hk => absurd hk (Nat.not_lt_zero _)⟩
  · unfold rd0
    rw [stM_off h47, stM_off h47, stM_off h47, stM_at]
  · unfold rd0
    rw [stM_ne _ _ (Or.inr (by decide)), stM_ne _ _ (Or.inr (by decide)), stM_at]
    rfl
  · rw [rd0_4]
    rfl
  · unfold rd0
    rw [stM_at]
theorem RS_bl {V : Nat → Int} {la h i : Nat} {p : Int} {c : Int → Int} (hla : isLaneO la) (hi : i ≤ 8) {M : Mm} (hr : RS V la h i p M) (hc : c p = 32) : RS V la h i (p + 1) (rsM c la M) := by
  obtain ⟨⟨a1, a2⟩, ⟨a3, a4, a5⟩, a6, a7⟩ := hr
  unfold rsM
  rw [a1, if_pos hc]
  refine ⟨⟨stM_at _ _ _ _, by rw [stM_ne _ _ (Or.inr (by decide))]; exact a2⟩, ⟨by rw [stM_off (by omega)]; exact a3, by rw [stM_off (by omega)]; exact a4, by rw [stM_off (by omega)]; exact a5⟩, fun k hk => by rw [stM_off (by omega)]; exact a6 k hk, fun k hk => ?_⟩
  rw [stM_off (by omega)]
  exact a7 k hk
theorem RS_ho {V : Nat → Int} {la h : Nat} {p : Int} {c : Int → Int} (hla : isLaneO la) (hh : h < 8) {M : Mm} (hr : RS V la h 0 p M) (hc : c p = 104) (hv : 0 ≤ V (1 + h) ∧ V (1 + h) ≤ 15) (hn : isNm c (p + 1) (V (1 + h))) (hf : V (1 + h) < 10 → fgH (c (p + 2)) = -9) : RS V la (h + 1) 0 (nmP (p + 1) (V (1 + h))) (rsM c la M) := by
  obtain ⟨⟨a1, a2⟩, ⟨a3, a4, a5⟩, a6, a7⟩ := hr
  obtain ⟨e1, e2⟩ := rn_ok (c := c) (p := p + 1) (v := V (1 + h)) (q := 15) (by omega) hv.2 hn (fun z => by rw [show p + 1 + 1 = p + 2 by omega]; exact hf z)
  unfold rsM
  rw [a1, hc, if_neg (by decide), if_pos rfl]
  unfold rhM
  rw [a1, a3, e1, e2, if_neg (by omega), if_neg (by omega)]
  unfold adH
  have n47 : (47 : Nat) ≠ la := by omega
  have n48 : (47 : Nat) ≠ la + 1 := by omega
  have n1 : la ≠ la + 1 := by omega
  have n2 : la ≠ 47 := by omega
  have n3 : la + 1 ≠ la := by omega
  have n4 : la + 1 ≠ 47 := by omega
  have e3 : stM M 47 0 (nmP (p + 1) (V (1 + h))) la 3 = (h : Int) := by rw [stM_off n2]; exact a3
  rw [e3, Int.toNat_natCast]
  refine ⟨⟨?_, ?_⟩, ⟨?_, ?_, ?_⟩, fun k hk => ?_, fun k hk => absurd hk (Nat.not_lt_zero _)⟩
  · rw [stM_off n47, stM_off n48, stM_at]
  · rw [stM_off n47, stM_off n48, stM_ne _ _ (Or.inr (by decide))]
    exact a2
  · rw [stM_at]
    omega
  · rw [stM_ne _ _ (Or.inr (by decide)), stM_off n1, stM_off n2]
    exact a4
  · rw [stM_ne _ _ (Or.inr (by decide)), stM_off n1, stM_off n2]
    exact a5
  · rw [stM_off n3]
    by_cases z : k = h
    · rw [z, stM_at]
    · rw [stM_ne _ _ (Or.inr z), stM_off n4]
      exact a6 k (by omega)
theorem RS_ne {V : Nat → Int} {la h i : Nat} {p p2 : Int} {c : Int → Int} (hla : isLaneO la) (hi : i < 8) {M : Mm} (hr : RS V la h i p M) (hc : c p ≠ 32 ∧ c p ≠ 104) (hp : pNd c p (h : Int) (i : Int) = (p2, some (V (10 + 6 * i), V (11 + 6 * i), V (12 + 6 * i), V (13 + 6 * i), V (14 + 6 * i), V (15 + 6 * i)))) : RS V la h (i + 1) p2 (rsM c la M) := by
  obtain ⟨⟨a1, a2⟩, ⟨a3, a4, a5⟩, a6, a7⟩ := hr
  unfold rsM
  rw [a1, if_neg hc.1, if_neg hc.2]
  unfold rnM
  rw [a1, a3, a4, hp]
  show RS V la h (i + 1) p2 (anM (stM M 47 0 p2) la _)
  have n2 : la ≠ 47 := by omega
  have hN : nid (stM M 47 0 p2) la = la + 4 + i := by
    unfold nid
    rw [stM_off n2, a4, Int.toNat_natCast]
  have ha := anM_at (stM M 47 0 p2) la (V (10 + 6 * i), V (11 + 6 * i), V (12 + 6 * i), V (13 + 6 * i), V (14 + 6 * i), V (15 + 6 * i))
  have hne : ∀ a, a ≠ la + 4 + i → a ≠ la → anM (stM M 47 0 p2) la (V (10 + 6 * i), V (11 + 6 * i), V (12 + 6 * i), V (13 + 6 * i), V (14 + 6 * i), V (15 + 6 * i)) a = stM M 47 0 p2 a := fun a h1 h2 => anM_ne _ _ (by rw [hN]; exact h1) h2
  rw [hN] at ha
  refine ⟨⟨?_, ?_⟩, ⟨?_, ?_, ?_⟩, fun k hk => ?_, fun k hk => ?_⟩
  · rw [hne 47 (by omega) (by omega), stM_at]
  · rw [hne 47 (by omega) (by omega), stM_ne _ _ (Or.inr (by decide))]
    exact a2
  · rw [anM_la, if_neg (by decide), stM_off n2]
    exact a3
  · rw [anM_la, if_pos rfl, stM_off n2, a4]
    omega
  · rw [anM_la, if_neg (by decide), stM_off n2]
    exact a5
  · rw [hne (la + 1) (by omega) (by omega), stM_off (by omega)]
    exact a6 k hk
  · by_cases z : k = i
    · subst z
      refine ⟨fun j hj => ?_, ha.2.2.2.2.2.2⟩
      rcases (show j = 0 ∨ j = 1 ∨ j = 2 ∨ j = 3 ∨ j = 4 ∨ j = 5 by omega) with rfl | rfl | rfl | rfl | rfl | rfl
      · exact ha.1
      · rw [ha.2.1]; exact congrArg V (by omega)
      · rw [ha.2.2.1]; exact congrArg V (by omega)
      · rw [ha.2.2.2.1]; exact congrArg V (by omega)
      · rw [ha.2.2.2.2.1]; exact congrArg V (by omega)
      · rw [ha.2.2.2.2.2.1]; exact congrArg V (by omega)
    · rw [hne (la + 4 + k) (by omega) (by omega), stM_off (by omega)]
      exact a7 k (by omega)
/-! the whole text -/
theorem wHs_b {V t0 : Nat → Int} (hg : GH V) (ht : Bd (t0, 0) 0) : ∀ h : Nat, h ≤ 8 → Bd (wHs V t0 h) (3 * (h : Int))
  | 0, _ => ht
  | h + 1, hh => by
    have ih := wHs_b hg ht h (by omega)
    have hv := hg.2.2 h (by omega)
    show Bd (wNum (wPut (wHs V t0 h) 104) (V (1 + h))) _
    exact (Bd_num (Bd_put ih (by decide)) (by omega)).le (by omega)
theorem wNd_b {V : Nat → Int} {s : Wr} {k : Int} {i : Nat} (hn : GN V i) (h0 : V 0 ≤ 5) (h : Bd s k) : Bd (wNd s V i) (k + 12) := by
  obtain ⟨n0, n1, n2, n3, n4, n5⟩ := hn
  have hk := klO_b (V (10 + 6 * i))
  unfold wNd
  exact (Bd_put (Bd_put (Bd_put (Bd_put (Bd_num (Bd_put (Bd_num (Bd_put (Bd_put (Bd_put h (by omega)) (by omega)) (by omega)) (by omega)) (by omega)) (by omega)) (by omega)) (by omega)) (by omega)) (by omega)).le (by omega)
theorem wNs_b {V t0 : Nat → Int} (hg : GV V) (ht : Bd (t0, 0) 0) : ∀ i : Nat, (i : Int) ≤ V 9 → Bd (wNs V t0 i) (15 + 12 * (i : Int))
  | 0, _ => (wHs_b hg.1 ht (V 0).toNat (by have := hg.1.2.1; omega)).le (by have := hg.1.2.1; omega)
  | i + 1, hi => (wNd_b (hg.2.2 i (by omega)) hg.1.2.1.2 (wNs_b hg ht i (by omega))).le (by omega)
/-- what stands where a NEED begins -/
def NdT (T V : Nat → Int) (s : Wr) (i : Nat) : Prop := T s.2.toNat = klO (V (10 + 6 * i)) ∧ (wNd s V i).2 = nmP (nmP (s.2 + 3) (V (12 + 6 * i)) + 1) (V (13 + 6 * i)) + 4 ∧ ∀ hc : Int, V 0 ≤ hc → pNd (tcF T) s.2 hc (i : Int) = ((wNd s V i).2, some (V (10 + 6 * i), V (11 + 6 * i), V (12 + 6 * i), V (13 + 6 * i), V (14 + 6 * i), V (15 + 6 * i)))
theorem Pre_nd {V T : Nat → Int} {s : Wr} {k : Int} {i : Nat} (hi : i < 8) (hn : GN V i) (h0 : V 0 ≤ 5) (hb : Bd s k) (hk : k ≤ 90) (h : Pre (wNd s V i) T) : Pre s T ∧ NdT T V s i := by
  have hb0 := hb.2.1
  obtain ⟨n0, n1, n2, n3, n4, n5⟩ := hn
  have p1 := nmP_b (s.2 + 3) (V (12 + 6 * i))
  have p2 := nmP_b (nmP (s.2 + 3) (V (12 + 6 * i)) + 1) (V (13 + 6 * i))
  have e3 : ((wPut (wPut (wPut s (klO (V (10 + 6 * i)))) (65 + V (11 + 6 * i))) 58)).2 = s.2 + 3 := by show s.2 + 1 + 1 + 1 = s.2 + 3; omega
  have e4 : (wNum (wPut (wPut (wPut s (klO (V (10 + 6 * i)))) (65 + V (11 + 6 * i))) 58) (V (12 + 6 * i))).2 = nmP (s.2 + 3) (V (12 + 6 * i)) := by show nmP _ _ = _; rw [e3]
  have e5 : (wPut (wNum (wPut (wPut (wPut s (klO (V (10 + 6 * i)))) (65 + V (11 + 6 * i))) 58) (V (12 + 6 * i))) 45).2 = nmP (s.2 + 3) (V (12 + 6 * i)) + 1 := by show _ + 1 = _; rw [e4]
  have e6 : (wNum (wPut (wNum (wPut (wPut (wPut s (klO (V (10 + 6 * i)))) (65 + V (11 + 6 * i))) 58) (V (12 + 6 * i))) 45) (V (13 + 6 * i))).2 = nmP (nmP (s.2 + 3) (V (12 + 6 * i)) + 1) (V (13 + 6 * i)) := by show nmP _ _ = _; rw [e5]
  unfold wNd at h
  obtain ⟨h, t9⟩ := Pre_put (s := wPut (wPut (wPut (wNum (wPut (wNum (wPut (wPut (wPut s (klO (V (10 + 6 * i)))) (65 + V (11 + 6 * i))) 58) (V (12 + 6 * i))) 45) (V (13 + 6 * i))) 58) (48 + V (14 + 6 * i))) 58) (by show 0 ≤ _ + 1 + 1 + 1; rw [e6]; omega) h
  obtain ⟨h, t8⟩ := Pre_put (s := wPut (wPut (wNum (wPut (wNum (wPut (wPut (wPut s (klO (V (10 + 6 * i)))) (65 + V (11 + 6 * i))) 58) (V (12 + 6 * i))) 45) (V (13 + 6 * i))) 58) (48 + V (14 + 6 * i))) (by show 0 ≤ _ + 1 + 1; rw [e6]; omega) h
  obtain ⟨h, t7⟩ := Pre_put (s := wPut (wNum (wPut (wNum (wPut (wPut (wPut s (klO (V (10 + 6 * i)))) (65 + V (11 + 6 * i))) 58) (V (12 + 6 * i))) 45) (V (13 + 6 * i))) 58) (by show 0 ≤ _ + 1; rw [e6]; omega) h
  obtain ⟨h, t6⟩ := Pre_put (s := wNum (wPut (wNum (wPut (wPut (wPut s (klO (V (10 + 6 * i)))) (65 + V (11 + 6 * i))) 58) (V (12 + 6 * i))) 45) (V (13 + 6 * i))) (by rw [e6]; omega) h
  obtain ⟨h, t5⟩ := Pre_num (by rw [e5]; omega) h
  obtain ⟨h, t4⟩ := Pre_put (s := wNum (wPut (wPut (wPut s (klO (V (10 + 6 * i)))) (65 + V (11 + 6 * i))) 58) (V (12 + 6 * i))) (by rw [e4]; omega) h
  obtain ⟨h, t3⟩ := Pre_num (by rw [e3]; omega) h
  obtain ⟨h, t2⟩ := Pre_put (s := wPut (wPut s (klO (V (10 + 6 * i)))) (65 + V (11 + 6 * i))) (by show 0 ≤ s.2 + 1 + 1; omega) h
  obtain ⟨h, t1⟩ := Pre_put (s := wPut s (klO (V (10 + 6 * i)))) (by show 0 ≤ s.2 + 1; omega) h
  obtain ⟨h, t0⟩ := Pre_put (s := s) hb0.1 h
  rw [show (wPut (wPut (wPut (wNum (wPut (wNum (wPut (wPut (wPut s (klO (V (10 + 6 * i)))) (65 + V (11 + 6 * i))) 58) (V (12 + 6 * i))) 45) (V (13 + 6 * i))) 58) (48 + V (14 + 6 * i))) 58).2 = nmP (nmP (s.2 + 3) (V (12 + 6 * i)) + 1) (V (13 + 6 * i)) + 3 by show _ + 1 + 1 + 1 = _; rw [e6]; omega] at t9
  rw [show (wPut (wPut (wNum (wPut (wNum (wPut (wPut (wPut s (klO (V (10 + 6 * i)))) (65 + V (11 + 6 * i))) 58) (V (12 + 6 * i))) 45) (V (13 + 6 * i))) 58) (48 + V (14 + 6 * i))).2 = nmP (nmP (s.2 + 3) (V (12 + 6 * i)) + 1) (V (13 + 6 * i)) + 2 by show _ + 1 + 1 = _; rw [e6]; omega] at t8
  rw [show (wPut (wNum (wPut (wNum (wPut (wPut (wPut s (klO (V (10 + 6 * i)))) (65 + V (11 + 6 * i))) 58) (V (12 + 6 * i))) 45) (V (13 + 6 * i))) 58).2 = nmP (nmP (s.2 + 3) (V (12 + 6 * i)) + 1) (V (13 + 6 * i)) + 1 by show _ + 1 = _; rw [e6]] at t7
  rw [e6] at t6
  rw [e5] at t5
  rw [e4] at t4
  rw [e3] at t3
  rw [show (wPut (wPut s (klO (V (10 + 6 * i)))) (65 + V (11 + 6 * i))).2 = s.2 + 2 by show s.2 + 1 + 1 = _; omega] at t2
  rw [show (wPut s (klO (V (10 + 6 * i)))).2 = s.2 + 1 from rfl] at t1
  have e9 : (wNd s V i).2 = nmP (nmP (s.2 + 3) (V (12 + 6 * i)) + 1) (V (13 + 6 * i)) + 4 := by unfold wNd; show _ + 1 + 1 + 1 + 1 = _; rw [e6]; omega
  refine ⟨h, t0, e9, fun hc hhc => ?_⟩
  rw [e9]
  exact pNd_rd n0 (by omega) (by omega) (by omega) (by omega) n4 n5 (by rw [tcF_at T (by omega)]; exact t0) (by rw [tcF_at T (by omega)]; exact t1) (by rw [tcF_at T (by omega)]; exact t2) t3 (by rw [tcF_at T (by omega)]; exact t4) t5 (by rw [tcF_at T (by omega)]; exact t6) (by rw [tcF_at T (by omega)]; exact t7) (by rw [tcF_at T (by omega)]; exact t8) (by rw [tcF_at T (by omega)]; exact t9)
theorem Pre_ns {V t0 T : Nat → Int} (hg : GV V) (ht : Bd (t0, 0) 0) : ∀ k i : Nat, ((i + k : Nat) : Int) ≤ V 9 → Pre (wNs V t0 (i + k)) T → Pre (wNs V t0 i) T
  | 0, _, _, h => h
  | k + 1, i, hk, h => Pre_ns hg ht k i (by omega) (Pre_nd (s := wNs V t0 (i + k)) (by have := hg.2.1; omega) (hg.2.2 (i + k) (by omega)) hg.1.2.1.2 (wNs_b hg ht (i + k) (by omega)) (by have := hg.2.1; omega) h).1
theorem Pre_hs {V t0 T : Nat → Int} (hg : GV V) (ht : Bd (t0, 0) 0) : ∀ k i : Nat, ((i + k : Nat) : Int) ≤ V 0 → Pre (wHs V t0 (i + k)) T → Pre (wHs V t0 i) T
  | 0, _, _, h => h
  | k + 1, i, hk, h => by
    have hb := wHs_b hg.1 ht (i + k) (by have := hg.1.2.1; omega)
    have h0 := hb.2.1
    have hv := hg.1.2.1
    have h2 : Pre (wNum (wPut (wHs V t0 (i + k)) 104) (V (1 + (i + k)))) T := h
    exact Pre_hs hg ht k i (by omega) (Pre_put h0.1 (Pre_num (s := wPut (wHs V t0 (i + k)) 104) (by show 0 ≤ _ + 1 ∧ _ + 1 < 118; omega) h2).1).1
/-- the text as it is at last -/
abbrev txE (V t0 : Nat → Int) : Wr := wNs V t0 (V 9).toNat
theorem tx_nd {V t0 : Nat → Int} (hg : GV V) (ht : Bd (t0, 0) 0) {i : Nat} (hi : (i : Int) < V 9) : NdT (txE V t0).1 V (wNs V t0 i) i := by
  have hb := wNs_b hg ht (V 9).toNat (by have := hg.2.1; omega)
  have hp : Pre (wNs V t0 (i + 1)) (txE V t0).1 := Pre_ns hg ht ((V 9).toNat - (i + 1)) (i + 1) (by omega) (by rw [show i + 1 + ((V 9).toNat - (i + 1)) = (V 9).toNat by omega]; exact ⟨hb.2.1.1, fun _ _ => rfl⟩)
  exact (Pre_nd (by have := hg.2.1; omega) (hg.2.2 i hi) hg.1.2.1.2 (wNs_b hg ht i (by omega)) (by have := hg.2.1; omega) hp).2
/-- behind the HOUSES comes a NEED or a blank -/
theorem tx_nb {V t0 : Nat → Int} (hg : GV V) (ht : Bd (t0, 0) 0) {i : Nat} (hi : (i : Int) ≤ V 9) : tcF (txE V t0).1 (wNs V t0 i).2 = if (i : Int) < V 9 then klO (V (10 + 6 * i)) else 32 := by
  have hb := wNs_b hg ht i hi
  have h9 := hg.2.1
  rw [tcF_at _ (by have := hb.2.1; omega)]
  by_cases q : (i : Int) < V 9
  · rw [if_pos q]
    exact (tx_nd hg ht q).1
  · rw [if_neg q]
    rw [show i = (V 9).toNat by omega]
    have hb2 := wNs_b hg ht (V 9).toNat (by omega)
    exact hb2.2.2 _ (by have := hb2.2.1; omega) (by have := hb2.2.1; omega)
theorem tx_ho {V t0 : Nat → Int} (hg : GV V) (ht : Bd (t0, 0) 0) {h : Nat} (hh : (h : Int) < V 0) : tcF (txE V t0).1 (wHs V t0 h).2 = 104 ∧ isNm (tcF (txE V t0).1) ((wHs V t0 h).2 + 1) (V (1 + h)) := by
  have hv := hg.1.2.1
  have hb9 := wNs_b hg ht (V 9).toNat (by have := hg.2.1; omega)
  have hp0 : Pre (wNs V t0 0) (txE V t0).1 := Pre_ns hg ht (V 9).toNat 0 (by have := hg.2.1; omega) (by rw [Nat.zero_add]; exact ⟨hb9.2.1.1, fun _ _ => rfl⟩)
  have hp : Pre (wHs V t0 (h + 1)) (txE V t0).1 := Pre_hs hg ht ((V 0).toNat - (h + 1)) (h + 1) (by omega) (by rw [show h + 1 + ((V 0).toNat - (h + 1)) = (V 0).toNat by omega]; exact hp0)
  have hb := wHs_b hg.1 ht h (by omega)
  have h0 := hb.2.1
  have h2 : Pre (wNum (wPut (wHs V t0 h) 104) (V (1 + h))) (txE V t0).1 := hp
  obtain ⟨q1, q2⟩ := Pre_num (s := wPut (wHs V t0 h) 104) (by show 0 ≤ _ + 1 ∧ _ + 1 < 118; omega) h2
  obtain ⟨q3, q4⟩ := Pre_put h0.1 q1
  exact ⟨by rw [tcF_at _ (by omega)]; exact q4, q2⟩
theorem rd_bl {V t0 : Nat → Int} (hg : GV V) (ht : Bd (t0, 0) 0) {la : Nat} (hla : isLaneO la) : ∀ (f : Nat) (p : Int) (M : Mm), (txE V t0).2 ≤ p → p ≤ 120 → 120 ≤ (f : Int) + p → RS V la (V 0).toNat (V 9).toNat p M → RS V la (V 0).toNat (V 9).toNat 120 (rdL (tcF (txE V t0).1) 120 la f M)
  | 0, p, M, h1, h2, h3, hr => by
    have : p = 120 := by omega
    subst this
    exact hr
  | f + 1, p, M, h1, h2, h3, hr => by
    have hb := wNs_b hg ht (V 9).toNat (by have := hg.2.1; omega)
    have h9 := hg.2.1
    have h1 : (wNs V t0 (V 9).toNat).2 ≤ p := h1
    rw [rdL]
    by_cases q : p < 120
    · rw [if_pos ⟨hr.1.2, by rw [hr.1.1]; exact q⟩]
      exact rd_bl hg ht hla f (p + 1) _ (by omega) (by omega) (by omega) (RS_bl hla (by omega) hr (by rw [tcF_at _ (by have := hb.2.1; omega)]; exact hb.2.2 _ (by have := hb.2.1; omega) (by have := hb.2.1; omega)))
    · rw [if_neg (fun z => q (by have := z.2; rw [hr.1.1] at this; exact this))]
      have : p = 120 := by omega
      subst this
      exact hr
theorem rd_nd {V t0 : Nat → Int} (hg : GV V) (ht : Bd (t0, 0) 0) {la : Nat} (hla : isLaneO la) : ∀ (k i f : Nat) (M : Mm), i + k = (V 9).toNat → 120 ≤ (f : Int) + (wNs V t0 i).2 → RS V la (V 0).toNat i (wNs V t0 i).2 M → RS V la (V 0).toNat (V 9).toNat 120 (rdL (tcF (txE V t0).1) 120 la f M)
  | 0, i, f, M, hk, hf, hr => by
    have hb := wNs_b hg ht (V 9).toNat (by have := hg.2.1; omega)
    have h9 := hg.2.1
    have : i = (V 9).toNat := by omega
    subst this
    exact rd_bl hg ht hla f (wNs V t0 (V 9).toNat).2 M (Int.le_refl _) (by have := hb.2.1; omega) hf hr
  | k + 1, i, f, M, hk, hf, hr => by
    have h9 := hg.2.1
    have hb := wNs_b hg ht i (by omega)
    have hi : (i : Int) < V 9 := by omega
    have hn := tx_nd hg ht hi
    have hc : tcF (txE V t0).1 (wNs V t0 i).2 = klO (V (10 + 6 * i)) := by rw [tx_nb hg ht (by omega), if_pos hi]
    have hkl := klO_b (V (10 + 6 * i))
    obtain ⟨f, rfl⟩ : ∃ f2, f = f2 + 1 := ⟨f - 1, by have := hb.2.1; omega⟩
    rw [rdL, if_pos ⟨hr.1.2, by rw [hr.1.1]; have := hb.2.1; omega⟩]
    have p1 := nmP_b ((wNs V t0 i).2 + 3) (V (12 + 6 * i))
    have p2 := nmP_b (nmP ((wNs V t0 i).2 + 3) (V (12 + 6 * i)) + 1) (V (13 + 6 * i))
    have e9 : (wNs V t0 (i + 1)).2 = _ := hn.2.1
    exact rd_nd hg ht hla k (i + 1) f _ (by omega) (by rw [e9]; omega) (RS_ne hla (by omega) hr (by rw [hc]; omega) (hn.2.2 _ (by omega)))
theorem rd_ho {V t0 : Nat → Int} (hg : GV V) (ht : Bd (t0, 0) 0) {la : Nat} (hla : isLaneO la) : ∀ (k h f : Nat) (M : Mm), h + k = (V 0).toNat → 120 ≤ (f : Int) + (wHs V t0 h).2 → RS V la h 0 (wHs V t0 h).2 M → RS V la (V 0).toNat (V 9).toNat 120 (rdL (tcF (txE V t0).1) 120 la f M)
  | 0, h, f, M, hk, hf, hr => by
    have : h = (V 0).toNat := by omega
    subst this
    exact rd_nd hg ht hla (V 9).toNat 0 f M (by omega) hf hr
  | k + 1, h, f, M, hk, hf, hr => by
    have hv := hg.1.2.1
    have h9 := hg.2.1
    have hb := wHs_b hg.1 ht h (by omega)
    have hh : (h : Int) < V 0 := by omega
    obtain ⟨c1, c2⟩ := tx_ho hg ht hh
    obtain ⟨f, rfl⟩ : ∃ f2, f = f2 + 1 := ⟨f - 1, by have := hb.2.1; omega⟩
    rw [rdL, if_pos ⟨hr.1.2, by rw [hr.1.1]; have := hb.2.1; omega⟩]
    have e1 : (wHs V t0 (h + 1)).2 = nmP ((wHs V t0 h).2 + 1) (V (1 + h)) := rfl
    have p1 := nmP_b ((wHs V t0 h).2 + 1) (V (1 + h))
    have hnx : fgH (tcF (txE V t0).1 (wHs V t0 (h + 1)).2) = -9 := by
      by_cases q : ((h + 1 : Nat) : Int) < V 0
      · rw [(tx_ho hg ht q).1]
        exact fgH_n (by omega)
      · have e0 : (wHs V t0 (h + 1)) = wNs V t0 0 := by
          show _ = wHs V t0 (V 0).toNat
          rw [show (V 0).toNat = h + 1 by omega]
        rw [e0, tx_nb hg ht (by omega)]
        have := klO_b (V (10 + 6 * 0))
        split
        · exact fgH_n (by omega)
        · exact fgH_n (by omega)
    exact rd_ho hg ht hla k (h + 1) f _ (by omega) (by rw [e1]; omega) (by rw [e1]; exact RS_ho hla (by omega) hr c1 (hg.1.2.2 h (by omega)) c2 (fun z => by
      have : nmP ((wHs V t0 h).2 + 1) (V (1 + h)) = (wHs V t0 h).2 + 2 := by unfold nmP; rw [if_pos z]; omega
      rw [← this, ← e1]
      exact hnx))
theorem rd_all {V t0 : Nat → Int} (hg : GV V) (ht : Bd (t0, 0) 0) {la : Nat} (hla : isLaneO la) (M : Mm) : RS V la (V 0).toNat (V 9).toNat 120 (rdA (tcF (txE V t0).1) la M 120) := by
  unfold rdA
  exact rd_ho hg ht hla (V 0).toNat 0 121 _ (by omega) (by show 120 ≤ (121 : Int) + 0; decide) (RS_rd0 V hla M)

