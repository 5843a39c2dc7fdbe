
/-! MENDINGS -/
theorem JE_end {T : Mm} {J : Nat → Nat → Int} {n : Nat} (h : JE T J n) (i p f : Int) : endJ T i p f = if 0 ≤ i ∧ i < (n : Int) then enB J i.toNat p f else -9 := by
  by_cases c : 0 ≤ i ∧ i < (n : Int)
  · rw [if_pos c]
    have := (h.2 i.toNat (by omega)).1 p f
    rw [Int.toNat_of_nonneg c.1] at this
    exact this
  · rw [if_neg c]
    unfold endJ
    rw [h.1.1, if_neg c]
theorem JE_pc {T S : Mm} {J : Nat → Nat → Int} {n : Nat} (h : JE T J n) (k : JE S J n) (tp c : Int) : pcol T tp c = pcol S tp c := by
  unfold pcol
  by_cases z : c = 8
  · rw [if_pos z, if_pos z]
  · rw [if_neg z, if_neg z]
    by_cases y : 0 ≤ c ∧ c < (n : Int)
    · have h1 := (h.2 c.toNat (by omega)).2.1
      have h2 := (k.2 c.toNat (by omega)).2.1
      rw [Int.toNat_of_nonneg y.1] at h1 h2
      rw [h1, h2]
    · unfold plJ
      rw [h.1.1, k.1.1, if_neg y, if_neg y]
theorem pcol_j {T : Mm} {J : Nat → Nat → Int} {n : Nat} (h : JE T J n) {tp : Int} (ht : 0 ≤ tp ∧ tp ≤ 15) (c : Int) : 0 ≤ pcol T tp c ∧ pcol T tp c ≤ 15 := by
  unfold pcol
  split
  · exact ht
  · by_cases y : 0 ≤ c ∧ c < (n : Int)
    · have h1 := (h.2 c.toNat (by omega)).2.1
      rw [Int.toNat_of_nonneg y.1] at h1
      rw [h1]
      have h8 := h.1.2.1
      exact (h.1.2.2 c.toNat (by omega)).1
    · unfold plJ
      rw [h.1.1, if_neg y]
      decide
/-- the tables of two memories hold the same, where sets are parts of w -/
def TE (T S : Mm) (n w : Nat) : Prop := ∀ s, s < 2 ^ n → ndN s w = 0 → (∀ c : Nat, c < 9 → T 58 (9 * s + c) = S 58 (9 * s + c)) ∧ T 59 s = S 59 s
theorem lsF_TE {T S : Mm} {J : Nat → Nat → Int} {n : Nat} (hT : JE T J n) (hS : JE S J n) {r : Nat} {i tp : Int} (h : ∀ c : Nat, c < 9 → T 58 (9 * r + c) = S 58 (9 * r + c)) : ∀ k : Nat, k ≤ 9 → lsF T (r : Int) i tp k = lsF S (r : Int) i tp k
  | 0, _ => rfl
  | k + 1, hk => by
    rw [lsF, lsF, lsF_TE hT hS h k (by omega), show ((r : Int) * 9 + (k : Int)).toNat = 9 * r + k by omega, h k (by omega), JE_pc hT hS, JE_end hT, JE_end hS]
theorem sp_TE {T S : Mm} {J : Nat → Nat → Int} {n : Nat} (hT : JE T J n) (hS : JE S J n) {w v : Nat} (hv : ndN v w = 0) {tp : Int} (h8 : ∀ s, s < 2 ^ n → ndN s v = 0 → T 58 (9 * s + 8) = S 58 (9 * s + 8)) : TE (spM T (w : Int) tp) (spM S (v : Int) tp) n v := by
  have hn := hT.1.2.1
  have hT2 : JE (spM T (w : Int) tp) J n := hT.of (fun a h1 h2 => spM_off T _ _ (by omega) (by omega))
  have hS2 : JE (spM S (v : Int) tp) J n := hS.of (fun a h1 h2 => spM_off S _ _ (by omega) (by omega))
  intro s
  induction s using Nat.strongRecOn with
  | _ s ih =>
    intro hs hsv
    have hsw : ndN s w = 0 := ndN_0.mpr (fun k hk => ndN_0.mp hv k (ndN_0.mp hsv k hk))
    have h256 : s < 256 := Nat.lt_of_lt_of_le hs (p2_256 hn)
    have r1 := spM_row T (w : Int) tp h256
    have r2 := spM_row S (v : Int) tp h256
    rw [Int.toNat_natCast] at r1 r2
    have e : ∀ c : Nat, c < 9 → spM T (w : Int) tp 58 (9 * s + c) = spM S (v : Int) tp 58 (9 * s + c) := by
      intro c hc
      by_cases z : c = 8
      · subst z
        rw [r1.2.2, r2.2.2]
        exact h8 s hs hsv
      · rw [(r1.1 hsw).1 c (by omega), (r2.1 hsv).1 c (by omega)]
        unfold cvS
        by_cases q : inS (c : Int) (s : Int)
        · rw [if_pos q, if_pos q]
          have qb : s.testBit c = true := by have := q.2.2; rwa [Int.toNat_natCast, Int.toNat_natCast] at this
          rw [Int.toNat_natCast, bitN_in ⟨by omega, by omega⟩, Int.toNat_natCast]
          have hr := ndN_lt qb
          unfold lsE
          exact lsF_TE hT2 hS2 (ih _ hr (by omega) (ndN_sub hsv)).1 9 (Nat.le_refl _)
        · rw [if_neg q, if_neg q]
    refine ⟨e, ?_⟩
    rw [(r1.1 hsw).2, (r2.1 hsv).2]
    exact saF_cong (e 8 (by decide)) (fun j hj => e j (by omega))
theorem moP_58 (M : Mm) (mp tp : Int) {s : Nat} (hs : s < 256) {c : Nat} (hc : c < 9) : moM M mp tp 58 (9 * s + c) = if c = 8 then moE M mp tp (s : Int) else M 58 (9 * s + c) := by
  unfold moM moP
  by_cases z : c = 8
  · subst z
    rw [if_pos ⟨rfl, by show 9 * s + 8 < 9 * (256 : Int).toNat; have : (256 : Int).toNat = 256 := rfl; omega, by omega⟩, if_pos rfl, show (9 * s + 8) / 9 = s by omega]
  · rw [if_neg (by omega), if_neg z]
theorem moF_TE {T S : Mm} {J : Nat → Nat → Int} {n : Nat} (hT : JE T J n) (hS : JE S J n) {r : Nat} {mp tp : Int} (h : ∀ c : Nat, c < 9 → T 58 (9 * r + c) = S 58 (9 * r + c)) : ∀ k : Nat, k ≤ 9 → moF T mp tp (r : Int) k = moF S mp tp (r : Int) k
  | 0, _ => rfl
  | k + 1, hk => by
    have e := h k (by omega)
    rw [moF, moF, moF_TE hT hS h k (by omega), show ((r : Int) * 9 + (k : Int)).toNat = 9 * r + k by omega, e]
    unfold mo1
    rw [show ((r : Int) * 9 + (k : Int)).toNat = 9 * r + k by omega, e, JE_pc hT hS]
theorem mm_J {U : Mm} {J : Nat → Nat → Int} {n : Nat} (h : JE U J n) (w sp mp : Int) (k : Nat) : JE (mmS U w sp mp k) J n := h.of (fun a h1 h2 => mmS_off U w sp mp (by omega) (by omega) k)
theorem mo_J {T : Mm} {J : Nat → Nat → Int} {n : Nat} (h : JE T J n) (mp tp : Int) : JE (moM T mp tp) J n := h.of (fun a h1 h2 => moP_off T mp tp 256 (by omega))
theorem rcP_8 (X : Mm) {s : Nat} (hs : s < 256) : rcP X 0 256 58 (9 * s + 8) = if 9 * s + 8 = 8 then 0 else -9 := by
  have e256 : (256 : Int).toNat = 256 := rfl
  unfold rcP
  rw [if_pos ⟨rfl, by omega, by omega⟩]
/-- the tables of two calls -/
theorem mm_TE {U W : Mm} {J : Nat → Nat → Int} {n : Nat} (hU : JE U J n) (hW : JE W J n) {w v : Nat} (hv : ndN v w = 0) (sp mp : Int) : ∀ k : Nat, TE (mmS U (w : Int) sp mp k) (mmS W (v : Int) sp mp k) n v
  | 0 => by
    have h1 : JE (rcP U 0 256) J n := hU.of (fun a h1 h2 => rcP_off U 0 256 (by omega))
    have h2 : JE (rcP W 0 256) J n := hW.of (fun a h1 h2 => rcP_off W 0 256 (by omega))
    have hn := hU.1.2.1
    show TE (rcM U (w : Int) sp 0) (rcM W (v : Int) sp 0) n v
    unfold rcM
    refine sp_TE h1 h2 hv (fun s hs _ => ?_)
    have h256 : s < 256 := Nat.lt_of_lt_of_le hs (p2_256 hn)
    rw [rcP_8 U h256, rcP_8 W h256]
  | k + 1 => by
    have ih := mm_TE hU hW hv sp mp k
    have hn := hU.1.2.1
    rw [mmS, mmS]
    refine sp_TE (mo_J (mm_J hU _ sp mp k) mp _) (mo_J (mm_J hW _ sp mp k) mp _) hv (fun s hs hsv => ?_)
    have h256 : s < 256 := Nat.lt_of_lt_of_le hs (p2_256 hn)
    rw [moP_58 _ _ _ h256 (by decide), moP_58 _ _ _ h256 (by decide), if_pos rfl, if_pos rfl]
    unfold moE
    rw [Int.toNat_natCast, (ih s hs hsv).2, moF_TE (mm_J hU _ sp mp k) (mm_J hW _ sp mp k) (ih s hs hsv).1 9 (Nat.le_refl _)]
/-- what can be met with one of it can be met without, no later, from wherever -/
def DMs (T : Mm) (tp : Int) (s j : Nat) (c : Nat) : Prop := ∃ d : Nat, d < 9 ∧ ¬ T 58 (9 * ndN s (2 ^ j) + d) = -9 ∧ ∀ x, 0 ≤ x ∧ x ≤ 15 → T 58 (9 * ndN s (2 ^ j) + d) + wap (pcol T tp (d : Int)) x ≤ T 58 (9 * s + c) + wap (pcol T tp (c : Int)) x
theorem moF_le {T : Mm} {r : Nat} {mp tp : Int} : ∀ {k c : Nat}, c < k → ¬ T 58 (9 * r + c) = -9 → T 58 (9 * r + c) + wap (pcol T tp (c : Int)) mp + 1 ≤ 28 → 0 ≤ T 58 (9 * r + c) + wap (pcol T tp (c : Int)) mp → ¬ moF T mp tp (r : Int) k = -9 ∧ moF T mp tp (r : Int) k ≤ T 58 (9 * r + c) + wap (pcol T tp (c : Int)) mp + 1
  | 0, c, hc, _, _, _ => absurd hc (Nat.not_lt_zero _)
  | k + 1, c, hc, h1, h2, h3 => by
    rw [moF, show ((r : Int) * 9 + (k : Int)).toNat = 9 * r + k by omega]
    by_cases z : c = k
    · subst z
      have e : mo1 T mp tp (r : Int) (c : Int) = T 58 (9 * r + c) + wap (pcol T tp (c : Int)) mp + 1 := by
        unfold mo1
        rw [show ((r : Int) * 9 + (c : Int)).toNat = 9 * r + c by omega, if_pos h2]
      rw [if_neg h1, e]
      exact lsr_le (by omega)
    · have ih := moF_le (k := k) (c := c) (by omega) h1 h2 h3
      by_cases y : T 58 (9 * r + k) = -9
      · rw [if_pos y]
        exact ih
      · rw [if_neg y]
        have := lsr_le2 (a := moF T mp tp (r : Int) k) (b := mo1 T mp tp (r : Int) (k : Int)) ih.1
        exact ⟨this.1, Int.le_trans this.2 ih.2⟩
theorem moF_ex {T : Mm} {r : Nat} {mp tp : Int} : ∀ {k : Nat}, ¬ moF T mp tp (r : Int) k = -9 → ∃ c : Nat, c < k ∧ ¬ T 58 (9 * r + c) = -9 ∧ T 58 (9 * r + c) + wap (pcol T tp (c : Int)) mp + 1 ≤ 28 ∧ moF T mp tp (r : Int) k = T 58 (9 * r + c) + wap (pcol T tp (c : Int)) mp + 1
  | 0, h => absurd rfl h
  | k + 1, h => by
    rw [moF, show ((r : Int) * 9 + (k : Int)).toNat = 9 * r + k by omega] at h
    rw [moF, show ((r : Int) * 9 + (k : Int)).toNat = 9 * r + k by omega]
    by_cases y : T 58 (9 * r + k) = -9
    · rw [if_pos y] at h
      rw [if_pos y]
      obtain ⟨c, c1, c2⟩ := moF_ex (k := k) h
      exact ⟨c, by omega, c2⟩
    · rw [if_neg y] at h
      rw [if_neg y]
      rcases lsr_or (moF T mp tp (r : Int) k) (mo1 T mp tp (r : Int) (k : Int)) with e | e
      · rw [e] at h ⊢
        obtain ⟨c, c1, c2⟩ := moF_ex (k := k) h
        exact ⟨c, by omega, c2⟩
      · rw [e] at h ⊢
        unfold mo1 at h ⊢
        rw [show ((r : Int) * 9 + (k : Int)).toNat = 9 * r + k by omega] at h ⊢
        by_cases q : T 58 (9 * r + k) + wap (pcol T tp (k : Int)) mp + 1 ≤ 28
        · rw [if_pos q]
          exact ⟨k, Nat.lt_succ_self _, y, q, rfl⟩
        · rw [if_neg q] at h
          exact absurd rfl h
theorem nd_comm (s i j : Nat) : ndN (ndN s (2 ^ i)) (2 ^ j) = ndN (ndN s (2 ^ j)) (2 ^ i) := by
  apply Nat.eq_of_testBit_eq
  intro k
  rw [nd_bit2, nd_bit2, nd_bit2, nd_bit2]
  cases s.testBit k <;> cases decide (i = k) <;> cases decide (j = k) <;> rfl
/-- the values of a table are none or WATCHES -/
def TV (T : Mm) (n w : Nat) : Prop := ∀ s, s < 2 ^ n → ndN s w = 0 → ∀ c : Nat, c < 9 → vE (T 58 (9 * s + c))
theorem dm_sp {T : Mm} {J : Nat → Nat → Int} {n : Nat} (hT : JE T J n) (hl : ∀ i : Nat, i < n → 1 ≤ J i 3) {w : Nat} {tp : Int} (htp : 0 ≤ tp ∧ tp ≤ 15) {j : Nat} (hv : TV (spM T (w : Int) tp) n w) (h8 : ∀ s, s < 2 ^ n → ndN s w = 0 → s.testBit j = true → ¬ spM T (w : Int) tp 58 (9 * s + 8) = -9 → DMs (spM T (w : Int) tp) tp s j 8) : ∀ s, s < 2 ^ n → ndN s w = 0 → s.testBit j = true → ∀ c : Nat, c < 9 → ¬ spM T (w : Int) tp 58 (9 * s + c) = -9 → DMs (spM T (w : Int) tp) tp s j c := by
  have hn := hT.1.2.1
  have hT2 : JE (spM T (w : Int) tp) J n := hT.of (fun a h1 h2 => spM_off T _ _ (by omega) (by omega))
  intro s
  induction s using Nat.strongRecOn with
  | _ s ih =>
    intro hs hsw hj c hc h9
    have h256 : s < 256 := Nat.lt_of_lt_of_le hs (p2_256 hn)
    have r1 := spM_row T (w : Int) tp h256
    rw [Int.toNat_natCast] at r1
    by_cases z : c = 8
    · subst z
      exact h8 s hs hsw hj h9
    have hrow := (r1.1 hsw).1 c (by omega)
    have hin : inS (c : Int) (s : Int) := by
      by_cases q : inS (c : Int) (s : Int)
      · exact q
      · rw [hrow] at h9
        unfold cvS at h9
        rw [if_neg q] at h9
        exact absurd rfl h9
    have qb : s.testBit c = true := by have := hin.2.2; rwa [Int.toNat_natCast, Int.toNat_natCast] at this
    have hcn : c < n := by
      by_cases q : c < n
      · exact q
      · rw [Nat.testBit_lt_two_pow (Nat.lt_of_lt_of_le hs (Nat.pow_le_pow_right (by decide) (by omega)))] at qb
        cases qb
    have hr := ndN_lt qb
    have hrw : ndN (ndN s (2 ^ c)) w = 0 := ndN_sub hsw
    have ev : spM T (w : Int) tp 58 (9 * s + c) = lsF (spM T (w : Int) tp) ((ndN s (2 ^ c) : Nat) : Int) (c : Int) tp 9 := by
      rw [hrow]
      unfold cvS
      rw [if_pos hin, Int.toNat_natCast, bitN_in ⟨by omega, by omega⟩, Int.toNat_natCast]
      rfl
    rw [ev] at h9
    obtain ⟨c1, d1, d2, d3⟩ := lsF_ex h9
    have hen := (hT2.2 c hcn).1
    rw [hen] at d3
    have hJc := hT.1.2.2 c (by omega)
    have pb := pcol_j hT2 htp (c1 : Int)
    have v1 := hv _ (by omega) hrw c1 d1
    have hf1 : 0 ≤ spM T (w : Int) tp 58 (9 * ndN s (2 ^ c) + c1) := by
      rcases v1 with q | q
      · exact absurd q d2
      · exact q.1
    have h9e : ¬ enB J c (pcol (spM T (w : Int) tp) tp (c1 : Int)) (spM T (w : Int) tp 58 (9 * ndN s (2 ^ c) + c1)) = -9 := by rw [← d3]; exact h9
    have epl : pcol (spM T (w : Int) tp) tp (c : Int) = J c 0 := hT2.pc hcn tp
    by_cases hjc : c = j
    · subst hjc
      refine ⟨c1, d1, d2, fun x hx => ?_⟩
      rw [ev, d3, epl]
      have t := wap_tri (pcol (spM T (w : Int) tp) tp (c1 : Int)) (J c 0) x
      have hlc := hl c hcn
      generalize pcol (spM T (w : Int) tp) tp (c1 : Int) = p at *
      generalize spM T (w : Int) tp 58 (9 * ndN s (2 ^ c) + c1) = f at *
      have eb : enB J c p f = bgB J c p f + J c 3 := by
        unfold enB at h9e ⊢
        by_cases q : bgB J c p f ≤ J c 2
        · rw [if_pos q]
        · rw [if_neg q] at h9e
          exact absurd rfl h9e
      have bb : f + wap p (J c 0) ≤ bgB J c p f := by
        unfold bgB
        split <;> omega
      omega
    · -- another one is last
      have hjr : (ndN s (2 ^ c)).testBit j = true := by
        rw [nd_bit2, hj]
        simp [hjc]
      obtain ⟨c2, e1, e2, e3⟩ := ih _ hr (by omega) hrw hjr c1 d1 d2
      rw [nd_comm] at e2 e3
      have hs2 : ndN s (2 ^ j) < 2 ^ n := Nat.lt_of_le_of_lt (ndN_le _ _) hs
      have hs2w : ndN (ndN s (2 ^ j)) w = 0 := ndN_sub hsw
      have qb2 : (ndN s (2 ^ j)).testBit c = true := by
        rw [nd_bit2, qb]
        simp [Ne.symm hjc]
      have h256b : ndN s (2 ^ j) < 256 := Nat.lt_of_le_of_lt (ndN_le _ _) h256
      have r2 := spM_row T (w : Int) tp h256b
      rw [Int.toNat_natCast] at r2
      have ev2 : spM T (w : Int) tp 58 (9 * ndN s (2 ^ j) + c) = lsF (spM T (w : Int) tp) ((ndN (ndN s (2 ^ j)) (2 ^ c) : Nat) : Int) (c : Int) tp 9 := by
        rw [(r2.1 hs2w).1 c (by omega)]
        unfold cvS
        rw [if_pos ⟨by omega, by omega, by rw [Int.toNat_natCast, Int.toNat_natCast]; exact qb2⟩, Int.toNat_natCast, bitN_in ⟨by omega, by omega⟩, Int.toNat_natCast]
        rfl
      have v2 := hv (ndN (ndN s (2 ^ j)) (2 ^ c)) (Nat.lt_of_le_of_lt (ndN_le _ _) hs2) (ndN_sub hs2w) c2 e1
      have hf2 : 0 ≤ spM T (w : Int) tp 58 (9 * ndN (ndN s (2 ^ j)) (2 ^ c) + c2) := by
        rcases v2 with q | q
        · exact absurd q e2
        · exact q.1
      have pb2 := pcol_j hT2 htp (c2 : Int)
      have dm := en_dom (J := J) (i := c) (e3 (J c 0) hJc.1) ⟨hJc.2.2.2.1.1, hJc.2.1.1⟩ ⟨hf2, (wap_b pb2 hJc.1).1⟩ h9e
      have lf := lsF_le (T := spM T (w : Int) tp) (r := ndN (ndN s (2 ^ j)) (2 ^ c)) (i := (c : Int)) (tp := tp) (k := 9) e1 e2 (by rw [hen]; exact dm.1)
      rw [hen] at lf
      refine ⟨c, by omega, by rw [ev2]; exact lf.1, fun x hx => ?_⟩
      rw [ev2, ev, d3]
      have := lf.2
      have := dm.2
      omega
/-- a table's row has an END where one of its places has -/
theorem sp_59 {T : Mm} {J : Nat → Nat → Int} {n : Nat} (hT : JE T J n) {w : Nat} {tp : Int} {s : Nat} (hs : s < 2 ^ n) (hsw : ndN s w = 0) : ¬ spM T (w : Int) tp 59 s = -9 ↔ ∃ c : Nat, c < 9 ∧ ¬ spM T (w : Int) tp 58 (9 * s + c) = -9 := by
  have h256 : s < 256 := Nat.lt_of_lt_of_le hs (p2_256 hT.1.2.1)
  have r1 := spM_row T (w : Int) tp h256
  rw [Int.toNat_natCast] at r1
  rw [(r1.1 hsw).2]
  constructor
  · intro h
    rcases saF_ex h with q | ⟨j, j1, j2, j3⟩
    · exact ⟨8, by decide, by rw [q] at h; exact h⟩
    · exact ⟨j, by omega, j3⟩
  · rintro ⟨c, c1, c2⟩
    have := saF_le (c := fun j => spM T (w : Int) tp 58 (9 * s + j)) (k := 8)
    by_cases z : c = 8
    · subst z
      exact (this.1 c2).1
    · exact (this.2 c (by omega) c2).1
/-- the step: the last mending, then what follows it -/
def tpk (sp mp : Int) (k : Nat) : Int := if k = 0 then sp else mp
theorem mm_dm {U : Mm} {J : Nat → Nat → Int} {n : Nat} (hJ : JE U J n) (hJW : JW U) (hPW : PW U) (hl : ∀ i : Nat, i < n → 1 ≤ J i 3) {w : Nat} {sp mp : Int} (hs : 0 ≤ sp ∧ sp ≤ 15) (hm : 0 ≤ mp ∧ mp ≤ 15) {j : Nat} : ∀ k : Nat, (∀ s, s < 2 ^ n → ndN s w = 0 → s.testBit j = true → ∀ c : Nat, c < 9 → ¬ mmS U (w : Int) sp mp k 58 (9 * s + c) = -9 → DMs (mmS U (w : Int) sp mp k) (tpk sp mp k) s j c) ∧ ∀ s, s < 2 ^ n → ndN s w = 0 → (¬ mmS U (w : Int) sp mp k 59 s = -9 ↔ ∃ c : Nat, c < 9 ∧ ¬ mmS U (w : Int) sp mp k 58 (9 * s + c) = -9)
  | 0 => by
    have hP := (mmS_W hJW hPW (w := (w : Int)) hs hm 0).2
    have h1 : JE (rcP U 0 256) J n := hJ.of (fun a h1 h2 => rcP_off U 0 256 (by omega))
    have hn := hJ.1.2.1
    refine ⟨?_, fun s hs2 hsw => sp_59 h1 hs2 hsw⟩
    refine dm_sp h1 hl hs (fun s _ _ c _ => (hP _).1) (fun s hs2 hsw hj h9 => ?_)
    exfalso
    have h256 : s < 256 := Nat.lt_of_lt_of_le hs2 (p2_256 hn)
    rw [(spM_row (rcP U 0 256) (w : Int) sp h256).2.2, rcP_8 U h256, if_neg] at h9
    · exact h9 rfl
    · intro z
      have : s = 0 := by omega
      rw [this] at hj
      simp at hj
  | k + 1 => by
    obtain ⟨ih, ih9⟩ := mm_dm hJ hJW hPW hl (w := w) hs hm (j := j) k
    have hP := (mmS_W hJW hPW (w := (w : Int)) hs hm (k + 1)).2
    have hP0 := (mmS_W hJW hPW (w := (w : Int)) hs hm k).2
    have hn := hJ.1.2.1
    have h0 := mm_J hJ (w : Int) sp mp k
    have h1 : JE (moM (mmS U (w : Int) sp mp k) mp (if k = 0 then sp else mp)) J n := mo_J h0 mp _
    have htk : 0 ≤ (if k = 0 then sp else mp) ∧ (if k = 0 then sp else mp) ≤ 15 := by split <;> assumption
    have e58 : ∀ s, s < 2 ^ n → mmS U (w : Int) sp mp (k + 1) 58 (9 * s + 8) = moE (mmS U (w : Int) sp mp k) mp (if k = 0 then sp else mp) (s : Int) := fun s hs2 => by
      have h256 : s < 256 := Nat.lt_of_lt_of_le hs2 (p2_256 hn)
      rw [mmS, (spM_row _ (w : Int) mp h256).2.2, moP_58 _ _ _ h256 (by decide), if_pos rfl]
    refine ⟨?_, fun s hs2 hsw => sp_59 h1 hs2 hsw⟩
    have key := dm_sp h1 hl (w := w) hm (j := j) (fun s _ _ c _ => (hP _).1) (fun s hs2 hsw hj h9 => ?_)
    · exact key
    · have h9' : ¬ mmS U (w : Int) sp mp (k + 1) 58 (9 * s + 8) = -9 := h9
      rw [e58 s hs2] at h9'
      have hs3 : ndN s (2 ^ j) < 2 ^ n := Nat.lt_of_le_of_lt (ndN_le _ _) hs2
      have hs3w : ndN (ndN s (2 ^ j)) w = 0 := ndN_sub hsw
      have ev : moE (mmS U (w : Int) sp mp k) mp (if k = 0 then sp else mp) (s : Int) = moF (mmS U (w : Int) sp mp k) mp (if k = 0 then sp else mp) (s : Int) 9 := by
        unfold moE at h9' ⊢
        by_cases q : mmS U (w : Int) sp mp k 59 (s : Int).toNat = -9
        · rw [if_pos q] at h9'
          exact absurd rfl h9'
        · rw [if_neg q]
      rw [ev] at h9'
      obtain ⟨c, c1, c2, c3, c4⟩ := moF_ex h9'
      obtain ⟨d, d1, d2, d3⟩ := ih s hs2 hsw hj c c1 c2
      have dm := d3 mp hm
      have pb := pcol_j h0 htk (d : Int)
      have vd := (hP0 (9 * ndN s (2 ^ j) + d)).1
      have hf : 0 ≤ mmS U (w : Int) sp mp k 58 (9 * ndN s (2 ^ j) + d) := by
        rcases vd with q | q
        · exact absurd q d2
        · exact q.1
      have hw0 := (wap_b pb hm).1
      have et : tpk sp mp k = if k = 0 then sp else mp := rfl
      rw [et] at dm
      have lf := moF_le (T := mmS U (w : Int) sp mp k) (r := ndN s (2 ^ j)) (mp := mp) (tp := if k = 0 then sp else mp) (k := 9) d1 d2 (by omega) (by omega)
      have e9 : ¬ mmS U (w : Int) sp mp k 59 (ndN s (2 ^ j)) = -9 := (ih9 _ hs3 hs3w).mpr ⟨d, d1, d2⟩
      have ev2 : mmS U (w : Int) sp mp (k + 1) 58 (9 * ndN s (2 ^ j) + 8) = moF (mmS U (w : Int) sp mp k) mp (if k = 0 then sp else mp) ((ndN s (2 ^ j) : Nat) : Int) 9 := by
        rw [e58 _ hs3]
        unfold moE
        rw [Int.toNat_natCast, if_neg e9]
      have ev1 : mmS U (w : Int) sp mp (k + 1) 58 (9 * s + 8) = moF (mmS U (w : Int) sp mp k) mp (if k = 0 then sp else mp) (s : Int) 9 := by rw [e58 s hs2, ev]
      have ep : ∀ (X : Mm), pcol X mp ((8 : Nat) : Int) = mp := fun X => pcol_8 X mp
      refine ⟨8, by decide, ?_, fun x hx => ?_⟩
      · show ¬ mmS U (w : Int) sp mp (k + 1) 58 (9 * ndN s (2 ^ j) + 8) = -9
        rw [ev2]
        exact lf.1
      · show mmS U (w : Int) sp mp (k + 1) 58 (9 * ndN s (2 ^ j) + 8) + _ ≤ mmS U (w : Int) sp mp (k + 1) 58 (9 * s + 8) + _
        rw [ev2, ev1, c4, ep]
        have := lf.2
        omega
theorem cM_W {V : Nat → Int} (hg : GV V) : JW (cM V) ∧ PW (cM V) := by
  have h9 := hg.2.1
  have h5 := (nN_5 hg).1
  refine ⟨⟨?_, fun j => ?_⟩, fun j => ?_⟩
  · show 0 ≤ V 9 ∧ V 9 ≤ 8
    omega
  · show (0 ≤ jV V j 0 ∧ jV V j 0 ≤ 15) ∧ (0 ≤ jV V j 1 ∧ jV V j 1 ≤ 27) ∧ (-10 ≤ jV V j 2 ∧ jV V j 2 ≤ 28) ∧ (0 ≤ jV V j 3 ∧ jV V j 3 ≤ 4) ∧ (0 ≤ jV V j 4 ∧ jV V j 4 ≤ 18) ∧ jV V j 2 + jV V j 3 ≤ 28
    by_cases z : j < 8
    · exact jV_ok hg j z
    · unfold jV
      simp only [if_neg (show ¬ (j : Int) < V 9 by omega)]
      decide
  · have e : ∀ a, a = 58 ∨ a = 59 ∨ a = 60 → cM V a j = 0 := fun a ha => by
      unfold cM
      rw [if_neg (by omega), if_neg (by omega)]
    have hz : vE (0 : Int) := Or.inr ⟨by decide, by decide⟩
    refine ⟨?_, ?_, ?_⟩
    · rw [e 58 (by omega)]; exact hz
    · rw [e 59 (by omega)]; exact hz
    · rw [e 60 (by omega)]; exact hz
/-- the most MENDINGS, by the array alone -/
def MZ (V : Nat → Int) (w : Nat) (mp z : Int) : Prop := mmR (cM V) (w : Int) (V 1) mp z
theorem mm_V {V : Nat → Int} {U : Mm} (hg : GV V) (hJ : JE U (jV V) (nN V)) {w : Nat} (hw : w < 2 ^ nN V) (mp : Int) (k : Nat) : mmS U (w : Int) (V 1) mp k 59 w = mmS (cM V) (w : Int) (V 1) mp k 59 w := (mm_TE hJ (cM_J hg) (ndN_self w) (V 1) mp k w hw (ndN_self w)).2
theorem men_V {V : Nat → Int} {M M2 : Mm} (hg : GV V) (hv : HW V M) {w : Nat} (hw : w < 2 ^ nN V) {h z : Int} (hh : 0 ≤ h ∧ h < V 0) (hr : menR M (w : Int) h z M2) : MZ V w (V (1 + h.toNat)) z := by
  unfold menR at hr
  rcases hr with ⟨q, _⟩ | ⟨_, hr, _⟩
  · exfalso
    rcases q with q | q
    · exact okw_V hv hw q
    · exact q ⟨hh.1, by rw [hv.1.1]; exact hh.2⟩
  · rw [HV_sp hg hv, HW_plc hg hv hh] at hr
    have e := mm_V hg (HV_J hg hv) hw (V (1 + h.toNat))
    unfold mmR at hr
    unfold MZ mmR
    rw [Int.toNat_natCast] at hr ⊢
    rcases hr with ⟨r1, r2⟩ | ⟨r1, r2, r3, r4⟩
    · exact Or.inl ⟨r1, by rw [← e]; exact r2⟩
    · exact Or.inr ⟨r1, r2, fun j hj => by rw [← e]; exact r3 j hj, fun q => by rw [← e]; exact r4 q⟩
theorem MZ.b {V : Nat → Int} {w : Nat} {mp z : Int} (h : MZ V w mp z) : (z = -9 ∨ (0 ≤ z ∧ z ≤ 8)) ∧ (z < 0 ↔ ENV V w = -9) := by
  unfold MZ mmR at h
  rw [Int.toNat_natCast] at h
  rcases h with ⟨r1, r2⟩ | ⟨r1, r2, r3, r4⟩
  · refine ⟨Or.inl r1, ⟨fun _ => r2, fun _ => by omega⟩⟩
  · refine ⟨Or.inr ⟨r1, r2⟩, ⟨fun q => by omega, fun q => absurd q (r3 0 (Nat.zero_le _))⟩⟩
theorem MZ.part {V : Nat → Int} (hg : GV V) {w i : Nat} (hw : w < 2 ^ nN V) {mp z z2 : Int} (hm : 0 ≤ mp ∧ mp ≤ 15) (h : MZ V w mp z) (h2 : MZ V (ndN w (2 ^ i)) mp z2) (h0 : 0 ≤ z) : z ≤ z2 := by
  have hJ := cM_J hg
  obtain ⟨hJW, hPW⟩ := cM_W hg
  have hw2 : ndN w (2 ^ i) < 2 ^ nN V := Nat.lt_of_le_of_lt (ndN_le _ _) hw
  have hsub : ndN (ndN w (2 ^ i)) w = 0 := ndN_0.mpr (fun k hk => by
    rw [nd_bit2, Bool.and_eq_true] at hk
    exact hk.1)
  have step : ∀ k : Nat, ¬ mmS (cM V) (w : Int) (V 1) mp k 59 w = -9 → ¬ mmS (cM V) ((ndN w (2 ^ i) : Nat) : Int) (V 1) mp k 59 (ndN w (2 ^ i)) = -9 := by
    intro k hk
    have e := (mm_TE hJ hJ hsub (V 1) mp k (ndN w (2 ^ i)) hw2 (ndN_self _)).2
    rw [← e]
    obtain ⟨m1, m2⟩ := mm_dm hJ hJW hPW (fun q hq => jV_3 hg hq) (w := w) (V1_b hg) hm (j := i) k
    by_cases hb : w.testBit i = true
    · obtain ⟨c, c1, c2⟩ := (m2 w hw (ndN_self w)).mp hk
      obtain ⟨d, d1, d2, _⟩ := m1 w hw (ndN_self w) hb c c1 c2
      exact (m2 _ hw2 hsub).mpr ⟨d, d1, d2⟩
    · have : ndN w (2 ^ i) = w := by
        apply Nat.eq_of_testBit_eq
        intro q
        rw [nd_bit2]
        by_cases y : i = q
        · subst y
          simp [hb]
        · simp [y]
      rw [this]
      exact hk
  unfold MZ mmR at h h2
  rw [Int.toNat_natCast] at h h2
  rcases h with ⟨r1, _⟩ | ⟨r1, r2, r3, r4⟩
  · omega
  · rcases h2 with ⟨s1, s2⟩ | ⟨s1, s2, s3, s4⟩
    · exact absurd s2 (step 0 (r3 0 (Nat.zero_le _)))
    · by_cases q : z ≤ z2
      · exact q
      · exact absurd (s4 (by omega)) (step (z2.toNat + 1) (r3 _ (by omega)))
theorem MZ.zero {V : Nat → Int} (hg : GV V) {mp z : Int} (hm : 0 ≤ mp ∧ mp ≤ 15) (h : MZ V 0 mp z) : z = 8 := by
  have hJ := cM_J hg
  obtain ⟨hJW, hPW⟩ := cM_W hg
  have hn := hJ.1.2.1
  have hpos := Nat.two_pow_pos (nN V)
  have h00 : ndN 0 0 = 0 := ndN_self 0
  have hmm : wap mp mp = 0 := by unfold wap; rw [if_neg (by omega), Int.sub_self]; rfl
  have e59 := fun k => ((mm_dm hJ hJW hPW (fun q hq => jV_3 hg hq) (w := 0) (V1_b hg) hm (j := 0) k).2 0 hpos h00).mpr
  have key : ∀ k : Nat, k ≤ 8 → (0 ≤ mmS (cM V) ((0 : Nat) : Int) (V 1) mp k 58 (9 * 0 + 8) ∧ mmS (cM V) ((0 : Nat) : Int) (V 1) mp k 58 (9 * 0 + 8) ≤ (if k = 0 then 0 else 3 + (k : Int))) := by
    intro k
    induction k with
    | zero =>
      intro _
      show 0 ≤ spM (rcP (cM V) 0 256) ((0 : Nat) : Int) (V 1) 58 (9 * 0 + 8) ∧ spM (rcP (cM V) 0 256) ((0 : Nat) : Int) (V 1) 58 (9 * 0 + 8) ≤ _
      rw [(spM_row (rcP (cM V) 0 256) ((0 : Nat) : Int) (V 1) (s := 0) (by decide)).2.2, rcP_8 _ (by decide), if_pos rfl, if_pos rfl]
      exact ⟨by decide, by decide⟩
    | succ k ih =>
      intro hk
      have ihk := ih (by omega)
      have h0 := mm_J hJ ((0 : Nat) : Int) (V 1) mp k
      have hw := wap_b (V1_b hg) hm
      have ep : pcol (mmS (cM V) ((0 : Nat) : Int) (V 1) mp k) (if k = 0 then V 1 else mp) ((8 : Nat) : Int) = if k = 0 then V 1 else mp := pcol_8 _ _
      have hne : ¬ mmS (cM V) ((0 : Nat) : Int) (V 1) mp k 58 (9 * 0 + 8) = -9 := by omega
      have hwk : wap (if k = 0 then V 1 else mp) mp = if k = 0 then wap (V 1) mp else 0 := by
        split
        · rfl
        · exact hmm
      have lf := moF_le (T := mmS (cM V) ((0 : Nat) : Int) (V 1) mp k) (r := 0) (mp := mp) (tp := if k = 0 then V 1 else mp) (k := 9) (c := 8) (by decide) hne (by rw [ep, hwk]; split at ihk <;> split <;> omega) (by rw [ep, hwk]; split <;> omega)
      have ev : mmS (cM V) ((0 : Nat) : Int) (V 1) mp (k + 1) 58 (9 * 0 + 8) = moF (mmS (cM V) ((0 : Nat) : Int) (V 1) mp k) mp (if k = 0 then V 1 else mp) ((0 : Nat) : Int) 9 := by
        rw [mmS, (spM_row _ ((0 : Nat) : Int) mp (s := 0) (by decide)).2.2, moP_58 _ _ _ (s := 0) (by decide) (by decide), if_pos rfl]
        unfold moE
        rw [Int.toNat_natCast, if_neg (e59 k ⟨8, by decide, hne⟩)]
      obtain ⟨c, _, c2, _, c4⟩ := moF_ex lf.1
      have hP0 := (mmS_W hJW hPW (w := ((0 : Nat) : Int)) (V1_b hg) hm (k + 1)).2
      have vv := (hP0 (9 * 0 + 8)).1
      rw [ev]
      rw [ev] at vv
      rw [ep, hwk] at lf
      rw [show (if k + 1 = 0 then (0:Int) else 3 + ((k+1:Nat):Int)) = 3 + ((k+1:Nat):Int) from if_neg (by omega)]
      refine ⟨?_, ?_⟩
      · rcases vv with q | q
        · exact absurd q lf.1
        · exact q.1
      · have := lf.2
        split at ihk <;> split at this <;> omega
  have hall : ∀ k : Nat, k ≤ 8 → ¬ mmS (cM V) ((0 : Nat) : Int) (V 1) mp k 59 0 = -9 := fun k hk => e59 k ⟨8, by decide, by have := (key k hk).1; omega⟩
  unfold MZ mmR at h
  rw [Int.toNat_natCast] at h
  rcases h with ⟨_, s2⟩ | ⟨s1, s2, s3, s4⟩
  · exact absurd s2 (hall 0 (by decide))
  · by_cases q : z = 8
    · exact q
    · exact absurd (s4 (by omega)) (hall (z.toNat + 1) (by omega))

