abbrev ND6 (f : Nat → Int) : Prop := (0 ≤ f 0 ∧ f 0 ≤ 5) ∧ (0 ≤ f 1 ∧ f 1 ≤ 7) ∧ (0 ≤ f 2 ∧ f 2 ≤ 27) ∧ (0 ≤ f 3 ∧ f 3 ≤ 27) ∧ (0 ≤ f 4 ∧ f 4 ≤ 4) ∧ (0 ≤ f 5 ∧ f 5 ≤ 18)
abbrev N9 (f : Nat → Int) : Prop := (0 ≤ f 0 ∧ f 0 ≤ 5) ∧ (0 ≤ f 1 ∧ f 1 ≤ 7) ∧ (0 ≤ f 2 ∧ f 2 ≤ 27) ∧ (0 ≤ f 3 ∧ f 3 ≤ 27) ∧ (0 ≤ f 4 ∧ f 4 ≤ 4) ∧ (0 ≤ f 5 ∧ f 5 ≤ 9)
abbrev RB (U : Mm) : Prop := (∀ h : Nat, h < 8 → 0 ≤ U 87 h ∧ U 87 h ≤ 15) ∧ ∀ i : Nat, i < 8 → N9 (fun k => U 88 (6 * i + k))
/-- class and reference have read the same -/
def PS (T U : Mm) (la : Nat) : Prop := T 47 0 = U 77 16 ∧ T la 3 = U 77 18 ∧ T la 4 = U 77 19 ∧ (∀ h : Nat, (h : Int) < T la 3 → T (la + 1) h = U 87 h) ∧ (∀ i : Nat, (i : Int) < T la 4 → (∀ k, k < 6 → T (la + 4 + i) k = U 88 (6 * i + k)) ∧ T (la + 4 + i) 6 = 12)
def XO (M M2 : Mm) : Prop := (∀ a, a ≠ 77 → a ≠ 87 → a ≠ 88 → M2 a = M a) ∧ ∀ b, b < 16 ∨ 19 < b → M2 77 b = M 77 b
theorem XO.refl (M : Mm) : XO M M := ⟨fun _ _ _ _ => rfl, fun _ _ => rfl⟩
theorem XO.trans {M M2 M3 : Mm} (h : XO M M2) (k : XO M2 M3) : XO M M3 := ⟨fun a h1 h2 h3 => (k.1 a h1 h2 h3).trans (h.1 a h1 h2 h3), fun b h1 => (k.2 b h1).trans (h.2 b h1)⟩
theorem XO.st {M M2 : Mm} (h : XO M M2) {k i : Nat} {v : Int} (hk : k = 87 ∨ k = 88 ∨ (k = 77 ∧ 16 ≤ i ∧ i ≤ 19)) : XO M (stM M2 k i v) := by
  refine ⟨fun a h1 h2 h3 => ?_, fun b hb => ?_⟩
  · rw [stM_off (by omega)]; exact h.1 a h1 h2 h3
  · rw [stM_ne _ _ (by omega)]; exact h.2 b hb
theorem XO.xm {M M2 : Mm} (h : XO M M2) (q v : Int) : XO M (xm M2 q v) := (h.st (Or.inr (Or.inr ⟨rfl, by decide, by decide⟩))).st (Or.inr (Or.inr ⟨rfl, by decide, by decide⟩))
theorem TY_XO {M M2 : Mm} {t : Int} {c : Int → Int} (h : TY M t c) (k : XO M M2) : TY M2 t c := TY_of h (k.1 82 (by decide) (by decide) (by decide)) (k.1 83 (by decide) (by decide) (by decide))
theorem RB.of {M M2 : Mm} (h : RB M) (h1 : M2 87 = M 87) (h2 : M2 88 = M 88) : RB M2 := by
  refine ⟨fun i hi => ?_, fun i hi => ?_⟩
  · rw [h1]; exact h.1 i hi
  · have := h.2 i hi
    simp only [h2]
    exact this
theorem pNd_ok {c : Int → Int} {p hc nc q : Int} {d : Nd6} (h : pNd c p hc nc = (q, some d)) : (0 ≤ d.1 ∧ d.1 ≤ 5) ∧ (0 ≤ d.2.1 ∧ d.2.1 < hc) ∧ (0 ≤ d.2.2.1 ∧ d.2.2.1 ≤ 27) ∧ (0 ≤ d.2.2.2.1 ∧ d.2.2.2.1 ≤ 27) ∧ (1 ≤ d.2.2.2.2.1 ∧ d.2.2.2.2.1 ≤ 4) ∧ (1 ≤ d.2.2.2.2.2 ∧ d.2.2.2.2.2 ≤ 9) ∧ nc < 8 ∧ p + 1 ≤ q ∧ q ≤ p + 12 ∧ ¬ kdO (c p) = -9 := by
  have hb := pNd_b c p hc nc
  rw [h] at hb
  have hb2 := hb.2 (by simp)
  have h1 := kdO_b (c p)
  have h2 := rnV_b c (p + 3) 27
  have h3 := rnV_b c (rnP c (p + 3) + 1) 27
  have h4 := rfV_b c (rnP c (rnP c (p + 3) + 1) + 1) 4
  have h5 := rfV_b c (rnP c (rnP c (p + 3) + 1) + 3) 9
  have hq1 : p + 1 ≤ q := hb2.1
  have hq2 : q ≤ p + 12 := hb.1.2
  unfold pNd at h
  split at h
  · simp at h
  · split at h
    · simp at h
    · split at h
      · simp at h
      · split at h
        · simp at h
        · split at h
          · simp at h
          · split at h
            · simp at h
            · split at h
              · simp at h
              · split at h
                · simp at h
                · split at h
                  · simp at h
                  · split at h
                    · simp at h
                    · injection h with e1 e2
                      injection e2 with e2
                      subst e2
                      simp only []
                      omega
theorem anM_at (T : Mm) (la : Nat) (d : Nd6) : anM T la d (nid T la) 0 = d.1 ∧ anM T la d (nid T la) 1 = d.2.1 ∧ anM T la d (nid T la) 2 = d.2.2.1 ∧ anM T la d (nid T la) 3 = d.2.2.2.1 ∧ anM T la d (nid T la) 4 = d.2.2.2.2.1 ∧ anM T la d (nid T la) 5 = d.2.2.2.2.2 ∧ anM T la d (nid T la) 6 = 12 := by
  unfold anM
  refine ⟨?_, ?_, ?_, ?_, ?_, ?_, ?_⟩ <;> simp [stM]
theorem anM_ne (T : Mm) {la : Nat} (d : Nd6) {a : Nat} (h1 : a ≠ nid T la) (h2 : a ≠ la) : anM T la d a = T a := by
  unfold anM
  rw [stM_off h1, stM_off h1, stM_off h1, stM_off h1, stM_off h1, stM_off h1, stM_off h1, stM_off h2]
theorem xan_88 {T : Mm} {N : Nat} (hN : T 77 19 = (N : Int)) (d : Nd6) (i k : Nat) (hk : k < 6) : xanM T d 88 (6 * i + k) = if i = N then (if k = 0 then d.1 else if k = 1 then d.2.1 else if k = 2 then d.2.2.1 else if k = 3 then d.2.2.2.1 else if k = 4 then d.2.2.2.2.1 else d.2.2.2.2.2) else T 88 (6 * i + k) := by
  unfold xanM
  rw [hN, show (6 * (N : Int)).toNat = 6 * N by omega, show (6 * (N : Int) + 1).toNat = 6 * N + 1 by omega, show (6 * (N : Int) + 2).toNat = 6 * N + 2 by omega, show (6 * (N : Int) + 3).toNat = 6 * N + 3 by omega, show (6 * (N : Int) + 4).toNat = 6 * N + 4 by omega, show (6 * (N : Int) + 5).toNat = 6 * N + 5 by omega]
  rw [stM_off (show (88 : Nat) ≠ 77 by decide)]
  by_cases h : i = N
  · subst h
    rw [if_pos rfl]
    rcases (show k = 0 ∨ k = 1 ∨ k = 2 ∨ k = 3 ∨ k = 4 ∨ k = 5 by omega) with q | q | q | q | q | q <;> subst q <;> simp [stM]
  · rw [if_neg h, stM_ne _ _ (Or.inr (by omega)), stM_ne _ _ (Or.inr (by omega)), stM_ne _ _ (Or.inr (by omega)), stM_ne _ _ (Or.inr (by omega)), stM_ne _ _ (Or.inr (by omega)), stM_ne _ _ (Or.inr (by omega))]
theorem xan_off (T : Mm) (d : Nd6) {a : Nat} (h1 : a ≠ 88) (h2 : a ≠ 77) : xanM T d a = T a := by
  unfold xanM
  rw [stM_off h2, stM_off h1, stM_off h1, stM_off h1, stM_off h1, stM_off h1, stM_off h1]
theorem xan_77 (T : Mm) (d : Nd6) (b : Nat) : xanM T d 77 b = if b = 19 then T 77 19 + 1 else T 77 b := by
  unfold xanM
  by_cases h : b = 19
  · rw [if_pos h, h, stM_at]
  · rw [if_neg h, stM_ne _ _ (Or.inr h), stM_off (by decide), stM_off (by decide), stM_off (by decide), stM_off (by decide), stM_off (by decide), stM_off (by decide)]
def riX (c : Int → Int) (T : Mm) (la : Nat) (M : Mm) (z : Int) (M2 : Mm) : Prop := ((z = 1 ∧ (rsM c la T) 47 1 = -9 ∧ PS (rsM c la T) M2 la) ∨ (z = 0 ∧ ¬ (rsM c la T) 47 1 = -9 ∧ (rsM c la T) 47 1 = M2 77 16)) ∧ XO M M2 ∧ RB M2
theorem RB_an {U : Mm} (hb : RB U) (h19 : 0 ≤ U 77 19 ∧ U 77 19 < 8) {d : Nd6} (hd : (0 ≤ d.1 ∧ d.1 ≤ 5) ∧ (0 ≤ d.2.1 ∧ d.2.1 ≤ 7) ∧ (0 ≤ d.2.2.1 ∧ d.2.2.1 ≤ 27) ∧ (0 ≤ d.2.2.2.1 ∧ d.2.2.2.1 ≤ 27) ∧ (0 ≤ d.2.2.2.2.1 ∧ d.2.2.2.2.1 ≤ 4) ∧ (0 ≤ d.2.2.2.2.2 ∧ d.2.2.2.2.2 ≤ 9)) : RB (xanM U d) := by
  refine ⟨fun h hh => ?_, fun i hi => ?_⟩
  · rw [xan_off _ _ (by decide) (by decide)]; exact hb.1 h hh
  · have h0 := hb.2 i hi
    have key := fun k hk => xan_88 (T := U) (N := (U 77 19).toNat) (by omega) d i k hk
    show (0 ≤ xanM U d 88 (6 * i + 0) ∧ xanM U d 88 (6 * i + 0) ≤ 5) ∧ (0 ≤ xanM U d 88 (6 * i + 1) ∧ xanM U d 88 (6 * i + 1) ≤ 7) ∧ (0 ≤ xanM U d 88 (6 * i + 2) ∧ xanM U d 88 (6 * i + 2) ≤ 27) ∧ (0 ≤ xanM U d 88 (6 * i + 3) ∧ xanM U d 88 (6 * i + 3) ≤ 27) ∧ (0 ≤ xanM U d 88 (6 * i + 4) ∧ xanM U d 88 (6 * i + 4) ≤ 4) ∧ (0 ≤ xanM U d 88 (6 * i + 5) ∧ xanM U d 88 (6 * i + 5) ≤ 9)
    rw [key 0 (by decide), key 1 (by decide), key 2 (by decide), key 3 (by decide), key 4 (by decide), key 5 (by decide)]
    by_cases q : i = (U 77 19).toNat
    · simp only [q, if_true]
      refine ⟨hd.1, hd.2.1, hd.2.2.1, hd.2.2.2.1, hd.2.2.2.2.1, ?_⟩
      have := hd.2.2.2.2.2
      simp
      omega
    · simp only [q, if_false]
      exact h0
theorem PS_house {c : Int → Int} {T M M2 : Mm} {la : Nat} {z : Int} (hla : isLaneO la) (hps : PS T M la) (h9 : T 47 1 = -9) (hR : RI T la) (hb : RB M) (hc : c (T 47 0) = 104) (h : rhX c M z M2) : riX c T la M z M2 := by
  have hl := hR.1
  have hp := hR.2.1
  have e16 := hps.1
  have e18 := hps.2.1
  have hla47 : la ≠ 47 := by omega
  have hrs : rsM c la T = rhM c la T := by unfold rsM; rw [if_neg (by omega), if_pos hc]
  unfold riX
  rw [hrs]
  unfold rhM
  rcases h with ⟨h1, h2, h3⟩ | ⟨h1, h2, h3, v, h4⟩ | ⟨h1, h2, h3, v, h4⟩
  · subst h3
    rw [if_pos (by omega)]
    refine ⟨Or.inr ⟨h2, ?_, ?_⟩, XO.refl _, hb⟩
    · rw [stM_at]; omega
    · rw [stM_at]; exact e16
  · subst h4
    rw [if_neg (by omega), e16, if_pos h2]
    have hP := rnP_b c (M 77 16 + 1)
    refine ⟨Or.inr ⟨h3, ?_, ?_⟩, (XO.refl _).xm _ _, hb.of (xm_off _ _ _ (by decide)) (xm_off _ _ _ (by decide))⟩
    · rw [stM_at]; omega
    · rw [stM_at]; rfl
  · subst h4
    rw [if_neg (by omega), e16, if_neg h2]
    have hV := rnV_b c (M 77 16 + 1) 15
    have e18b : (xm M (rnP c (M 77 16 + 1)) v) 77 18 = M 77 18 := rfl
    refine ⟨Or.inl ⟨h3, ?_, ?_⟩, ?_, ?_⟩
    · unfold adH
      rw [stM_off (by omega), stM_off (by omega), stM_ne _ _ (Or.inr (by decide)), h9]
    · unfold adH xadH
      rw [stM_off hla47, e18b]
      refine ⟨?_, ?_, ?_, fun h hh => ?_, fun i hi => ?_⟩
      · rw [stM_off (by omega), stM_off (by omega), stM_at]; rfl
      · rw [stM_at, stM_at, e18]
      · rw [stM_ne _ _ (Or.inr (by decide)), stM_off (by omega), stM_off hla47, stM_ne _ _ (Or.inr (by decide)), stM_off (by decide)]; exact hps.2.2.1
      · rw [stM_at] at hh
        rw [stM_off (show la + 1 ≠ la by omega), stM_off (show (87 : Nat) ≠ 77 by decide)]
        by_cases q : h = (T la 3).toNat
        · rw [q, stM_at, show (M 77 18).toNat = (T la 3).toNat by omega, stM_at]
        · rw [stM_ne _ _ (Or.inr q), stM_off (show la + 1 ≠ 47 by omega), stM_ne _ _ (Or.inr (show h ≠ (M 77 18).toNat by omega)), xm_off _ _ _ (by decide)]
          exact hps.2.2.2.1 h (by omega)
      · rw [stM_ne _ _ (Or.inr (by decide)), stM_off (by omega), stM_off hla47] at hi
        have hh := hps.2.2.2.2 i hi
        rw [stM_off (by omega), stM_off (by omega), stM_off (by omega), stM_off (by decide), stM_off (by decide), xm_off _ _ _ (by decide)]
        exact hh
    · exact (((XO.refl _).xm _ _).st (Or.inl rfl)).st (Or.inr (Or.inr ⟨rfl, by decide, by decide⟩))
    · unfold xadH
      rw [e18b]
      refine ⟨fun h hh => ?_, fun i hi => ?_⟩
      · rw [stM_off (by decide)]
        by_cases q : h = (M 77 18).toNat
        · rw [q, stM_at]; omega
        · rw [stM_ne _ _ (Or.inr q), xm_off _ _ _ (by decide)]; exact hb.1 h hh
      · have h0 := hb.2 i hi
        simp only [stM_off (show (88 : Nat) ≠ 77 by decide), stM_off (show (88 : Nat) ≠ 87 by decide), xm_off _ _ _ (show (88 : Nat) ≠ 77 by decide)]
        exact h0
theorem PS_need {c : Int → Int} {T M M2 : Mm} {la : Nat} {z : Int} (hla : isLaneO la) (hps : PS T M la) (h9 : T 47 1 = -9) (hR : RI T la) (hb : RB M) (h32 : ¬ c (T 47 0) = 32) (hc : ¬ c (T 47 0) = 104) (h : rnX c M z M2) : riX c T la M z M2 := by
  have hl := hR.1
  have hp := hR.2.1
  have e16 := hps.1
  have e18 := hps.2.1
  have e19 := hps.2.2.1
  have hla47 : la ≠ 47 := by omega
  have hrs : rsM c la T = rnM c la T := by unfold rsM; rw [if_neg h32, if_neg hc]
  unfold riX
  rw [hrs]
  unfold rnM
  unfold rnX at h
  rw [e16, e18, e19]
  have hB := pNd_b c (M 77 16) (M 77 18) (M 77 19)
  obtain ⟨q, od, e⟩ : ∃ q od, pNd c (M 77 16) (M 77 18) (M 77 19) = (q, od) := ⟨_, _, rfl⟩
  rw [e] at h hB ⊢
  cases od with
  | none =>
    obtain ⟨h3, v, h4⟩ := h
    subst h4
    show ((z = 1 ∧ stM (stM T 47 0 q) 47 1 q 47 1 = -9 ∧ PS (stM (stM T 47 0 q) 47 1 q) (xm M q v) la) ∨ (z = 0 ∧ ¬ stM (stM T 47 0 q) 47 1 q 47 1 = -9 ∧ stM (stM T 47 0 q) 47 1 q 47 1 = xm M q v 77 16)) ∧ XO M (xm M q v) ∧ RB (xm M q v)
    have hq : M 77 16 ≤ q := hB.1.1
    refine ⟨Or.inr ⟨h3, ?_, ?_⟩, (XO.refl _).xm _ _, hb.of (xm_off _ _ _ (by decide)) (xm_off _ _ _ (by decide))⟩
    · rw [stM_at]; omega
    · rw [stM_at]; rfl
  | some d =>
    obtain ⟨h3, v, h4⟩ := h
    subst h4
    have hok := pNd_ok e
    show ((z = 1 ∧ anM (stM T 47 0 q) la d 47 1 = -9 ∧ PS (anM (stM T 47 0 q) la d) (xanM (xm M q v) d) la) ∨ (z = 0 ∧ ¬ anM (stM T 47 0 q) la d 47 1 = -9 ∧ anM (stM T 47 0 q) la d 47 1 = xanM (xm M q v) d 77 16)) ∧ XO M (xanM (xm M q v) d) ∧ RB (xanM (xm M q v) d)
    have e4 : stM T 47 0 q la 4 = T la 4 := by rw [stM_off hla47]
    have hnid : nid (stM T 47 0 q) la = la + 4 + (T la 4).toNat := by unfold nid; rw [e4]
    have o47 : anM (stM T 47 0 q) la d 47 = stM T 47 0 q 47 := anM_ne _ d (by rw [hnid]; omega) (by omega)
    refine ⟨Or.inl ⟨h3, ?_, ?_⟩, ?_, ?_⟩
    · rw [o47, stM_ne _ _ (Or.inr (by decide)), h9]
    · refine ⟨?_, ?_, ?_, fun h hh => ?_, fun i hi => ?_⟩
      · rw [o47, stM_at, xan_77, if_neg (by decide)]; rfl
      · rw [anM_la, if_neg (by decide), stM_off hla47, xan_77, if_neg (by decide)]; exact e18
      · rw [anM_la, if_pos rfl, e4, xan_77, if_pos rfl, e19]; rfl
      · rw [anM_la, if_neg (by decide), stM_off hla47] at hh
        rw [anM_ne _ d (by rw [hnid]; omega) (by omega), stM_off (by omega), xan_off _ _ (by decide) (by decide), xm_off _ _ _ (by decide)]
        exact hps.2.2.2.1 h hh
      · rw [anM_la, if_pos rfl, e4] at hi
        have key := fun k hk => xan_88 (T := xm M q v) (N := (M 77 19).toNat) (show M 77 19 = _ by omega) d i k hk
        by_cases q2 : i = (M 77 19).toNat
        · have hat := anM_at (stM T 47 0 q) la d
          rw [hnid, show la + 4 + (T la 4).toNat = la + 4 + i by omega] at hat
          refine ⟨fun k hk => ?_, hat.2.2.2.2.2.2⟩
          rw [key k hk, if_pos q2]
          rcases (show k = 0 ∨ k = 1 ∨ k = 2 ∨ k = 3 ∨ k = 4 ∨ k = 5 by omega) with z | z | z | z | z | z <;> subst z
          · exact hat.1
          · exact hat.2.1
          · exact hat.2.2.1
          · exact hat.2.2.2.1
          · exact hat.2.2.2.2.1
          · exact hat.2.2.2.2.2.1
        · rw [anM_ne _ d (by rw [hnid]; omega) (by omega), stM_off (by omega)]
          have hh := hps.2.2.2.2 i (by omega)
          refine ⟨fun k hk => ?_, hh.2⟩
          rw [key k hk, if_neg q2, xm_off _ _ _ (by decide)]
          exact hh.1 k hk
    · unfold xanM
      have k8 : ∀ {U : Mm} {i : Nat} {w : Int}, XO M U → XO M (stM U 88 i w) := fun hU => hU.st (Or.inr (Or.inl rfl))
      exact (k8 (k8 (k8 (k8 (k8 (k8 ((XO.refl _).xm _ _))))))).st (Or.inr (Or.inr ⟨rfl, by decide, by decide⟩))
    · exact RB_an (hb.of (xm_off _ _ _ (by decide)) (xm_off _ _ _ (by decide))) (show 0 ≤ M 77 19 ∧ M 77 19 < 8 by omega) (by omega)
def foX (c : Int → Int) (T0 : Mm) (la : Nat) (M : Mm) (sz z : Int) (M2 : Mm) : Prop := z = (rdA c la T0 sz) 47 1 ∧ (z = -9 → PS (rdA c la T0 sz) M2 la) ∧ XO M M2 ∧ RB M2
theorem PS_blank {c : Int → Int} {T U : Mm} {la : Nat} (hla : isLaneO la) (hps : PS T U la) (h9 : T 47 1 = -9) (hR : RI T la) (hc : c (T 47 0) = 32) : (rsM c la T) 47 1 = -9 ∧ PS (rsM c la T) (stM U 77 16 (U 77 16 + 1)) la := by
  have hla47 : la ≠ 47 := by omega
  have hrs : rsM c la T = stM T 47 0 (T 47 0 + 1) := by unfold rsM; rw [if_pos hc]
  rw [hrs]
  refine ⟨by rw [stM_ne _ _ (Or.inr (by decide))]; exact h9, ?_, ?_, ?_, fun h hh => ?_, fun i hi => ?_⟩
  · rw [stM_at, stM_at, hps.1]
  · rw [stM_off hla47, stM_ne _ _ (Or.inr (by decide))]; exact hps.2.1
  · rw [stM_off hla47, stM_ne _ _ (Or.inr (by decide))]; exact hps.2.2.1
  · rw [stM_off hla47] at hh
    rw [stM_off (by omega), stM_off (by decide)]; exact hps.2.2.2.1 h hh
  · rw [stM_off hla47] at hi
    have hl := hR.1
    rw [stM_off (by omega), stM_off (by decide)]; exact hps.2.2.2.2 i hi
/-- the village that was read becomes the reference's -/
def vg0 (U : Mm) : Mm := stM (stM U 77 10 (U 77 18)) 77 12 (U 77 19)
def vg1 (U : Mm) (i : Int) : Mm := fun a b => if a = 84 ∧ (b : Int) < i then U 87 b else if a = 86 ∧ (b : Int) < i then 12 else if a = 97 ∧ (b : Int) < i then 0 else vg0 U a b
def vg2 (U : Mm) (i : Int) : Mm := fun a b => if a = 85 ∧ (b : Int) < i then U 88 b else vg1 U 8 a b
def vg3 (U : Mm) (i : Int) : Mm := fun a b => if a = 98 ∧ (b : Int) < i then 0 else vg2 U 48 a b
def vgM (U : Mm) : Mm := stM (stM (stM (stM (vg3 U 64) 77 15 0) 77 35 0) 77 37 0) 77 40 0
theorem vg1_0 (U : Mm) : vg0 U = vg1 U 0 := by
  funext a b
  unfold vg1
  rw [if_neg (by omega), if_neg (by omega), if_neg (by omega)]
theorem vg1_s {U : Mm} {i : Int} (h : 0 ≤ i) : stM (stM (stM (vg1 U i) 84 i.toNat (U 87 i.toNat)) 86 i.toNat 12) 97 i.toNat 0 = vg1 U (i + 1) := by
  funext a b
  unfold stM vg1
  by_cases hb : b = i.toNat
  · subst hb
    by_cases h1 : a = 84
    · subst h1; simp; omega
    · by_cases h2 : a = 86
      · subst h2; simp; omega
      · by_cases h3 : a = 97
        · subst h3; simp; omega
        · simp [h1, h2, h3]
  · simp only [hb, and_false, if_false]
    have e : ((b : Int) < i) ↔ ((b : Int) < i + 1) := by omega
    simp only [e]
theorem vg2_0 (U : Mm) : vg1 U 8 = vg2 U 0 := by
  funext a b
  unfold vg2
  rw [if_neg (by omega)]
theorem vg2_s {U : Mm} {i : Int} (h : 0 ≤ i) : stM (vg2 U i) 85 i.toNat (U 88 i.toNat) = vg2 U (i + 1) := by
  funext a b
  unfold stM vg2
  by_cases hb : a = 85 ∧ b = i.toNat
  · rw [if_pos hb, if_pos (by omega), hb.2]
  · rw [if_neg hb]
    by_cases h2 : a = 85 ∧ (b : Int) < i
    · rw [if_pos h2, if_pos (by omega)]
    · rw [if_neg h2, if_neg (by omega)]
theorem vg3_0 (U : Mm) : vg2 U 48 = vg3 U 0 := by
  funext a b
  unfold vg3
  rw [if_neg (by omega)]
theorem vg3_s {U : Mm} {i : Int} (h : 0 ≤ i) : stM (vg3 U i) 98 i.toNat 0 = vg3 U (i + 1) := by
  funext a b
  unfold stM vg3
  by_cases hb : a = 98 ∧ b = i.toNat
  · rw [if_pos hb, if_pos (by omega)]
  · rw [if_neg hb]
    by_cases h2 : a = 98 ∧ (b : Int) < i
    · rw [if_pos h2, if_pos (by omega)]
    · rw [if_neg h2, if_neg (by omega)]
def xfaR (c : Int → Int) (T0 : Mm) (la : Nat) (M : Mm) (t z : Int) (M2 : Mm) : Prop := (¬ T4 t ∧ z = -1 ∧ M2 = M) ∨ (T4 t ∧ M 82 t.toNat < 0 ∧ z = -3 ∧ M2 = mtM M 1) ∨ (T4 t ∧ ¬ M 82 t.toNat < 0 ∧ foX c T0 la M (M 82 t.toNat) z M2)
def xviR (c : Int → Int) (T0 : Mm) (la : Nat) (M : Mm) (t z : Int) (M2 : Mm) : Prop := (¬ T4 t ∧ z = -1 ∧ M2 = M) ∨ (T4 t ∧ M 82 t.toNat < 0 ∧ z = -3 ∧ M2 = mtM M 1) ∨ (T4 t ∧ ¬ M 82 t.toNat < 0 ∧ ¬ (rdA c la T0 (M 82 t.toNat)) 47 1 = -9 ∧ z = -4 ∧ XO M M2 ∧ RB M2) ∨ (T4 t ∧ ¬ M 82 t.toNat < 0 ∧ (rdA c la T0 (M 82 t.toNat)) 47 1 = -9 ∧ ∃ U, PS (rdA c la T0 (M 82 t.toNat)) U la ∧ XO M U ∧ RB U ∧ z = U 77 18 ∧ M2 = vgM U)
theorem kd9X {c : Int → Int} {T M : Mm} {la : Nat} (hla : isLaneO la) (hps : PS T M la) (h9 : T 47 1 = -9) (hR : RI T la) (hb : RB M) (h32 : ¬ c (T 47 0) = 32) (hc : ¬ c (T 47 0) = 104) (hk : kdO (c (T 47 0)) = -9) : riX c T la M 0 M := by
  have e : pNd c (M 77 16) (M 77 18) (M 77 19) = (M 77 16, none) := by unfold pNd; rw [if_pos (Or.inl (by rw [← hps.1]; exact hk))]
  have g := rnX_n (c := c) (M := M) (q := M 77 16) (v := M 77 17) e
  have e2 : xm M (M 77 16) (M 77 17) = M := by unfold xm; rw [stM_self, stM_self]
  rw [e2] at g
  exact PS_need hla hps h9 hR hb h32 hc g
theorem rdL_stop (c : Int → Int) (sz : Int) (la : Nat) : ∀ (k : Nat) {T : Mm}, ¬ T 47 1 = -9 → rdL c sz la k T = T
  | 0, _, _ => rfl
  | k + 1, T, h => by rw [rdL, if_neg (fun q => h q.1)]
theorem rdL_end (c : Int → Int) {sz : Int} (la : Nat) : ∀ (k : Nat) {T : Mm}, sz ≤ T 47 0 → rdL c sz la k T = T
  | 0, _, _ => rfl
  | k + 1, T, h => by rw [rdL, if_neg (fun q => by omega)]
theorem rd0_3 (T : Mm) (la : Nat) : rd0 T la la 3 = 0 := by
  unfold rd0
  rw [stM_ne _ _ (Or.inr (by decide)), stM_ne _ _ (Or.inr (by decide)), stM_at]
theorem rd0_4 (T : Mm) (la : Nat) : rd0 T la la 4 = 0 := by
  unfold rd0
  rw [stM_ne _ _ (Or.inr (by decide)), stM_at]
theorem rd0_9 (T : Mm) {la : Nat} (hla : isLaneO la) : rd0 T la 47 1 = -9 := by
  unfold rd0
  rw [stM_off (by omega), stM_off (by omega), stM_off (by omega), stM_at]
set_option maxHeartbeats 4000000 in
set_option maxRecDepth 100000 in
theorem c_X12_readsItem {n : Nat} (hn : NN n) {M : Mm} (t : Int) (ht : T4 t) {c : Int → Int} (hy : TY M t c) (T : Mm) (la : Nat) (hla : isLaneO la) (hps : PS T M la) (hT9 : T 47 1 = -9) (hRI : RI T la) (hsz : T 47 0 ≤ 120) (hb : RB M) (h32 : ¬ c (T 47 0) = 32) : CT yX12_readsItem cX12_readsItem 4 (some .boolean) ({ frames := 3, cells := 0, slots := 0, locals := 74 }) n [.ref 77, .int (iI t)] M (pI (fun z M2 => riX c T la M z M2)) := by
  refine CT.of (lv0 := [(0, .ref 77), (1, .int (iI t))]) (by decide +kernel) hn (fun _ => rfl) (fun _ => Nat.le_of_ble_eq_true rfl) (fun X cx cs qx => ?_)
  have cx : Cx X cX12_readsItem RX12 ({ frames := 3, cells := 0, slots := 0, locals := 74 }) 4 n := cx
  have e16 := hps.1
  have e18 := hps.2.1
  have e19 := hps.2.2.1
  have hlw := hRI.1
  have hpp := hRI.2.1
  have hcb := hy.2.2 (T 47 0)
  have hkb := kdO_b (c (T 47 0))
  refine g_aload_n cx (pc2 := 1) 0 rfl dX12_readsItem_0 rfl ?_
  refine g_iload_n cx (pc2 := 2) 1 rfl dX12_readsItem_1 rfl ?_
  refine g_aload_n cx (pc2 := 3) 0 rfl dX12_readsItem_2 rfl ?_
  refine g_get cx (pc2 := 6) (ci := 12) (k0 := 77) (j := 16) (v := .int (iI (M 77 16))) rfl iwX12 rfl (lt_lit hn (Nat.le_of_ble_eq_true rfl)) rfl (Nat.le_of_ble_eq_true rfl) kf_X12_125 rfl rfl dX12_readsItem_3 rfl ?_
  refine g_callV cx (pc2 := 9) (st := []) (As := [.int (iI t), .int (iI (M 77 16))]) (k0 := 77) (ci := 12) (c_X12_byteAt (M := M) hn t (M 77 16) (by exact ht) (by exact hy.2.1) (by omega)) wM_X12_byteAt wV_X12_byteAt kl_X12_128 rfl (lt_lit hn (Nat.le_of_ble_eq_true rfl)) rfl ⟨rfl, rfl, Nat.le_of_ble_eq_true rfl, Nat.le_of_ble_eq_true rfl⟩ (Nat.le_of_ble_eq_true rfl) cs rfl rfl dX12_readsItem_6 rfl ?_
  rintro _ _ ⟨rfl, rfl⟩
  refine g_rwi (y := iI (c (T 47 0))) (congrArg iI (by rw [e16]; exact hy.1 _ (by omega) (by omega))) ?_
  refine g_istore_n cx (pc2 := 10) (lv2 := [(0, .ref 77), (1, .int (iI t)), (2, .int (iI (c (T 47 0))))]) rfl (Nat.le_of_ble_eq_true rfl) dX12_readsItem_9 rfl ?_
  refine g_iload_n cx (pc2 := 11) 2 rfl dX12_readsItem_10 rfl ?_
  refine g_callS cx (pc2 := 14) (st := []) (As := [.int (iI (c (T 47 0)))]) (c_X12_kindOf (M := M) hn (c (T 47 0)) (by first | assumption | omega)) wM_X12_kindOf wS_X12_kindOf kl_X12_150 ⟨rfl, rfl, Nat.le_of_ble_eq_true rfl, Nat.le_of_ble_eq_true rfl⟩ (Nat.le_of_ble_eq_true rfl) cs rfl rfl dX12_readsItem_11 rfl ?_
  rintro _ _ ⟨rfl, rfl⟩
  refine g_istore_n cx (pc2 := 15) (lv2 := [(0, .ref 77), (1, .int (iI t)), (2, .int (iI (c (T 47 0)))), (3, .int (iI (kdO (c (T 47 0)))))]) rfl (Nat.le_of_ble_eq_true rfl) dX12_readsItem_14 rfl ?_
  refine g_iload_n cx (pc2 := 16) 2 rfl dX12_readsItem_15 rfl ?_
  refine g_bipush cx (pc2 := 18) ⟨by decide, by decide⟩ dX12_readsItem_16 rfl ?_
  refine g_icmp_ne cx (pc2 := 21) (tgt := 29) ⟨(by first | assumption | omega), ⟨by decide, by decide⟩⟩ dX12_readsItem_18 (by decide) rfl (fun h_1 => ?_) (fun h_1 => ?_)
  · skip
    refine g_iload_n cx (pc2 := 30) 3 rfl dX12_readsItem_29 rfl ?_
    refine g_bipush cx (pc2 := 32) ⟨by decide, by decide⟩ dX12_readsItem_30 rfl ?_
    refine g_icmp_eq cx (pc2 := 35) (tgt := 48) ⟨(by first | assumption | omega), ⟨by decide, by decide⟩⟩ dX12_readsItem_32 (by decide) rfl (fun h_2 => ?_) (fun h_2 => ?_)
    · skip
      refine g_iconst cx (pc2 := 49) dX12_readsItem_48 rfl ?_
      exact g_zret cx (Or.inl rfl) qx dX12_readsItem_49 ⟨_, rfl, by first | exact g23 | (rcases z38 with q | q; (rw [q] at g38; exact g38); exact absurd q (by assumption)) | (rcases z38 with q | q; exact absurd q (by assumption); (rw [q] at g38; exact g38)) | (rcases z38 with q | q; omega; (rw [q] at g38; exact g38)) | (rcases z38 with q | q; (rw [q] at g38; exact g38); omega) | exact kd9X hla hps hT9 hRI hb h32 (by assumption) (by assumption)⟩
    · skip
      refine g_aload_n cx (pc2 := 36) 0 rfl dX12_readsItem_35 rfl ?_
      refine g_iload_n cx (pc2 := 37) 1 rfl dX12_readsItem_36 rfl ?_
      refine g_iload_n cx (pc2 := 38) 3 rfl dX12_readsItem_37 rfl ?_
      refine g_callV cx (pc2 := 41) (st := []) (As := [.int (iI t), .int (iI (kdO (c (T 47 0))))]) (k0 := 77) (ci := 12) (c_X12_readsNeed (M := M) hn t (kdO (c (T 47 0))) (by exact ht) (by exact hy) (by omega) (by omega) (by exact ⟨by rw [← e16], by assumption⟩)) wM_X12_readsNeed wV_X12_readsNeed kl_X12_156 rfl (lt_lit hn (Nat.le_of_ble_eq_true rfl)) rfl ⟨rfl, rfl, Nat.le_of_ble_eq_true rfl, Nat.le_of_ble_eq_true rfl⟩ (Nat.le_of_ble_eq_true rfl) cs rfl rfl dX12_readsItem_38 rfl ?_
      rintro _ M_3 ⟨z_3, rfl, h_3⟩
      have g38 := PS_need (z := z_3) hla hps hT9 hRI hb h32 (by assumption) h_3
      have z38 : z_3 = 0 ∨ z_3 = 1 := by rcases g38.1 with q | q; exact Or.inr q.1; exact Or.inl q.1
      refine g_if_eq cx (pc2 := 44) (tgt := 48) (by first | assumption | omega) dX12_readsItem_41 (by decide) rfl (fun h_4 => ?_) (fun h_4 => ?_)
      · skip
        refine g_iconst cx (pc2 := 49) dX12_readsItem_48 rfl ?_
        exact g_zret cx (Or.inl rfl) qx dX12_readsItem_49 ⟨_, rfl, by first | exact g23 | (rcases z38 with q | q; (rw [q] at g38; exact g38); exact absurd q (by assumption)) | (rcases z38 with q | q; exact absurd q (by assumption); (rw [q] at g38; exact g38)) | (rcases z38 with q | q; omega; (rw [q] at g38; exact g38)) | (rcases z38 with q | q; (rw [q] at g38; exact g38); omega) | exact kd9X hla hps hT9 hRI hb h32 (by assumption) (by assumption)⟩
      · skip
        refine g_iconst cx (pc2 := 45) dX12_readsItem_44 rfl ?_
        refine g_goto cx (tgt := 49) dX12_readsItem_45 (by decide) ?_
        exact g_zret cx (Or.inr rfl) qx dX12_readsItem_49 ⟨_, rfl, by first | exact g23 | (rcases z38 with q | q; (rw [q] at g38; exact g38); exact absurd q (by assumption)) | (rcases z38 with q | q; exact absurd q (by assumption); (rw [q] at g38; exact g38)) | (rcases z38 with q | q; omega; (rw [q] at g38; exact g38)) | (rcases z38 with q | q; (rw [q] at g38; exact g38); omega) | exact kd9X hla hps hT9 hRI hb h32 (by assumption) (by assumption)⟩
  · skip
    refine g_aload_n cx (pc2 := 22) 0 rfl dX12_readsItem_21 rfl ?_
    refine g_iload_n cx (pc2 := 23) 1 rfl dX12_readsItem_22 rfl ?_
    refine g_callV cx (pc2 := 26) (st := []) (As := [.int (iI t)]) (k0 := 77) (ci := 12) (c_X12_readsHouse (M := M) hn t (by exact ht) (by exact hy) (by omega) (by omega)) wM_X12_readsHouse wV_X12_readsHouse kl_X12_153 rfl (lt_lit hn (Nat.le_of_ble_eq_true rfl)) rfl ⟨rfl, rfl, Nat.le_of_ble_eq_true rfl, Nat.le_of_ble_eq_true rfl⟩ (Nat.le_of_ble_eq_true rfl) cs rfl rfl dX12_readsItem_23 rfl ?_
    rintro _ M_5 ⟨z_5, rfl, h_5⟩
    have h23 := h_5
    have g23 := PS_house (z := z_5) hla hps hT9 hRI hb (by assumption) h_5
    have z23 : z_5 = 0 ∨ z_5 = 1 := by rcases g23.1 with q | q; exact Or.inr q.1; exact Or.inl q.1
    refine g_goto cx (tgt := 49) dX12_readsItem_26 (by decide) ?_
    exact g_zret cx (by exact z23) qx dX12_readsItem_49 ⟨_, rfl, by first | exact g23 | (rcases z38 with q | q; (rw [q] at g38; exact g38); exact absurd q (by assumption)) | (rcases z38 with q | q; exact absurd q (by assumption); (rw [q] at g38; exact g38)) | (rcases z38 with q | q; omega; (rw [q] at g38; exact g38)) | (rcases z38 with q | q; (rw [q] at g38; exact g38); omega) | exact kd9X hla hps hT9 hRI hb h32 (by assumption) (by assumption)⟩
set_option maxHeartbeats 4000000 in
set_option maxRecDepth 100000 in
theorem c_X12_faultOf {n : Nat} (hn : NN n) {M : Mm} (t : Int) (ht : T4 t) {c : Int → Int} (hy : TY M t c) (T0 : Mm) (la : Nat) (hla : isLaneO la) (hb : RB M) : CT yX12_faultOf cX12_faultOf 2 (some .int) ({ frames := 4, cells := 0, slots := 0, locals := 97 }) n [.ref 77, .int (iI t)] M (pI (fun z M2 => foX c T0 la M (M 82 t.toNat) z M2)) := by
  refine CT.of (lv0 := [(0, .ref 77), (1, .int (iI t))]) (by decide +kernel) hn (fun _ => rfl) (fun _ => Nat.le_of_ble_eq_true rfl) (fun X cx cs qx => ?_)
  have cx : Cx X cX12_faultOf RX12 ({ frames := 4, cells := 0, slots := 0, locals := 97 }) 2 n := cx
  have hsz := hy.2.1
  refine g_aload_n cx (pc2 := 1) 0 rfl dX12_faultOf_0 rfl ?_
  refine g_iconst cx (pc2 := 2) dX12_faultOf_1 rfl ?_
  refine g_puti cx (pc2 := 5) (ci := 12) (k0 := 77) (j := 16) rfl iwX12 rfl (lt_lit hn (Nat.le_of_ble_eq_true rfl)) rfl (Nat.le_of_ble_eq_true rfl) kf_X12_125 rfl tyX12_ok nmX12 rfl rfl dX12_faultOf_2 rfl ?_
  refine g_aload_n cx (pc2 := 6) 0 rfl dX12_faultOf_5 rfl ?_
  refine g_iconst cx (pc2 := 7) dX12_faultOf_6 rfl ?_
  refine g_puti cx (pc2 := 10) (ci := 12) (k0 := 77) (j := 18) rfl iwX12 rfl (lt_lit hn (Nat.le_of_ble_eq_true rfl)) rfl (Nat.le_of_ble_eq_true rfl) kf_X12_134 rfl tyX12_ok nmX12 rfl rfl dX12_faultOf_7 rfl ?_
  refine g_aload_n cx (pc2 := 11) 0 rfl dX12_faultOf_10 rfl ?_
  refine g_iconst cx (pc2 := 12) dX12_faultOf_11 rfl ?_
  refine g_puti cx (pc2 := 15) (ci := 12) (k0 := 77) (j := 19) rfl iwX12 rfl (lt_lit hn (Nat.le_of_ble_eq_true rfl)) rfl (Nat.le_of_ble_eq_true rfl) kf_X12_140 rfl tyX12_ok nmX12 rfl rfl dX12_faultOf_12 rfl ?_
  have L15 : ∀ (fu : Nat) (U : Mm) (T : Mm) (k : Nat), (PS T U la) → (T 47 1 = -9) → (RI T la) → (rdL c (M 82 t.toNat) la k T = rdA c la T0 (M 82 t.toNat)) → (M 82 t.toNat ≤ T 47 0 + k) → (XO M U) → (RB U) → k ≤ fu → G X 15 [(0, .ref 77), (1, .int (iI t))] [] U := by
    intro fu
    induction fu using Nat.strongRecOn with
    | _ fu ih15 =>
      intro U T k hps h9 hRI hfu hk hxo hbU hk15
      have hyU := TY_XO hy hxo
      have e16 := hps.1
      have hpp := hRI.2.1
      have esz : U 82 t.toNat = M 82 t.toNat := by rw [hxo.1 82 (by decide) (by decide) (by decide)]
      have hcb := hyU.2.2 (U 77 16)
      have hRR := fun q : T 47 0 < M 82 t.toNat => rsM_R c hla hRI h9 (by omega)
      have hst : T 47 0 < M 82 t.toNat → rdL c (M 82 t.toNat) la (k - 1) (rsM c la T) = rdA c la T0 (M 82 t.toNat) := fun q => by rw [← hfu, show k = (k - 1) + 1 by omega, rdL, if_pos ⟨h9, q⟩]; rfl
      refine g_aload_n cx (pc2 := 16) 0 rfl dX12_faultOf_15 rfl ?_
      refine g_get cx (pc2 := 19) (ci := 12) (k0 := 77) (j := 16) (v := .int (iI (U 77 16))) rfl iwX12 rfl (lt_lit hn (Nat.le_of_ble_eq_true rfl)) rfl (Nat.le_of_ble_eq_true rfl) kf_X12_125 rfl rfl dX12_faultOf_16 rfl ?_
      refine g_aload_n cx (pc2 := 20) 0 rfl dX12_faultOf_19 rfl ?_
      refine g_get cx (pc2 := 23) (ci := 12) (k0 := 77) (j := 8) (v := .ref 82) rfl iwX12 rfl (lt_lit hn (Nat.le_of_ble_eq_true rfl)) rfl (Nat.le_of_ble_eq_true rfl) kf_X12_22 rfl rfl dX12_faultOf_20 rfl ?_
      refine g_iload_n cx (pc2 := 24) 1 rfl dX12_faultOf_23 rfl ?_
      refine g_iald cx (pc2 := 25) (k0 := 82) rfl (lt_lit hn (Nat.le_of_ble_eq_true rfl)) (by first | assumption | omega) (by first | assumption | omega) (Nat.le_of_ble_eq_true rfl) dX12_faultOf_24 rfl ?_
      refine g_rwi (y := iI (U 82 ((t).toNat))) (congrArg iI (by simp [stM])) ?_
      refine g_rwi (y := iI (M 82 t.toNat)) (congrArg iI esz) ?_
      refine g_icmp_ge cx (pc2 := 28) (tgt := 68) ⟨(by first | assumption | omega), (by first | assumption | omega)⟩ dX12_faultOf_25 (by decide) rfl (fun h_1 => ?_) (fun h_1 => ?_)
      · skip
        refine g_bipush cx (pc2 := 70) ⟨by decide, by decide⟩ dX12_faultOf_68 rfl ?_
        exact g_iret cx qx dX12_faultOf_70 ⟨_, rfl, by have hfin : T = rdA c la T0 (M 82 t.toNat) := (by rw [← hfu]; exact (rdL_end c la k (by omega)).symm); exact ⟨by rw [← hfin]; exact h9.symm, fun _ => by rw [← hfin]; exact hps, hxo, hbU⟩⟩
      · skip
        have hR2 := hRR (by omega)
        have hst2 := hst (by omega)
        refine g_aload_n cx (pc2 := 29) 0 rfl dX12_faultOf_28 rfl ?_
        refine g_iload_n cx (pc2 := 30) 1 rfl dX12_faultOf_29 rfl ?_
        refine g_aload_n cx (pc2 := 31) 0 rfl dX12_faultOf_30 rfl ?_
        refine g_get cx (pc2 := 34) (ci := 12) (k0 := 77) (j := 16) (v := .int (iI (U 77 16))) rfl iwX12 rfl (lt_lit hn (Nat.le_of_ble_eq_true rfl)) rfl (Nat.le_of_ble_eq_true rfl) kf_X12_125 rfl rfl dX12_faultOf_31 rfl ?_
        refine g_callV cx (pc2 := 37) (st := []) (As := [.int (iI t), .int (iI (U 77 16))]) (k0 := 77) (ci := 12) (c_X12_byteAt (M := U) hn t (U 77 16) (by exact ht) (by exact hyU.2.1) (by omega)) wM_X12_byteAt wV_X12_byteAt kl_X12_128 rfl (lt_lit hn (Nat.le_of_ble_eq_true rfl)) rfl ⟨rfl, rfl, Nat.le_of_ble_eq_true rfl, Nat.le_of_ble_eq_true rfl⟩ (Nat.le_of_ble_eq_true rfl) cs rfl rfl dX12_faultOf_34 rfl ?_
        rintro _ _ ⟨rfl, rfl⟩
        refine g_rwi (y := iI (c (U 77 16))) (congrArg iI (hyU.1 _ (by omega) (by omega))) ?_
        refine g_bipush cx (pc2 := 39) ⟨by decide, by decide⟩ dX12_faultOf_37 rfl ?_
        refine g_icmp_ne cx (pc2 := 42) (tgt := 55) ⟨(by first | assumption | omega), ⟨by decide, by decide⟩⟩ dX12_faultOf_39 (by decide) rfl (fun h_2 => ?_) (fun h_2 => ?_)
        · skip
          refine g_aload_n cx (pc2 := 56) 0 rfl dX12_faultOf_55 rfl ?_
          refine g_iload_n cx (pc2 := 57) 1 rfl dX12_faultOf_56 rfl ?_
          refine g_callV cx (pc2 := 60) (st := []) (As := [.int (iI t)]) (k0 := 77) (ci := 12) (c_X12_readsItem (M := U) hn t (by exact ht) (by exact hyU) T la (by exact hla) (by exact hps) (by exact h9) (by exact hRI) (by omega) (by exact hbU) (by rw [hps.1]; assumption)) wM_X12_readsItem wV_X12_readsItem kl_X12_159 rfl (lt_lit hn (Nat.le_of_ble_eq_true rfl)) rfl ⟨rfl, rfl, Nat.le_of_ble_eq_true rfl, Nat.le_of_ble_eq_true rfl⟩ (Nat.le_of_ble_eq_true rfl) cs rfl rfl dX12_faultOf_57 rfl ?_
          rintro _ M_3 ⟨z_3, rfl, h_3⟩
          have h57 := h_3
          have z57 : z_3 = 0 ∨ z_3 = 1 := by rcases h57.1 with q | q; exact Or.inr q.1; exact Or.inl q.1
          refine g_if_ne cx (pc2 := 63) (tgt := 15) (by first | assumption | omega) dX12_faultOf_60 (by decide) rfl (fun h_4 => ?_) (fun h_4 => ?_)
          · skip
            have h58 := h57.1.resolve_right (fun q => by have := q.1; omega)
            exact ih15 (k - 1) (by omega) M_3 (rsM c la T) (k - 1) (by first | exact hbl.2 | exact h58.2.2) (by first | exact hbl.1 | exact h58.2.1) (by exact hR2.1) (by exact hst2) (by first | (have q := hR2.2 hbl.1; omega) | (have q := hR2.2 h58.2.1; omega)) (by first | exact hxo.trans h57.2.1 | exact hxo.st (Or.inr (Or.inr ⟨rfl, by decide, by decide⟩))) (by first | exact h57.2.2 | exact hbU.of (stM_off (by decide)) (stM_off (by decide))) (Nat.le_refl _)
          · skip
            have h58 := h57.1.resolve_left (fun q => by have := q.1; omega)
            refine g_aload_n cx (pc2 := 64) 0 rfl dX12_faultOf_63 rfl ?_
            refine g_get cx (pc2 := 67) (ci := 12) (k0 := 77) (j := 16) (v := .int (iI (M_3 77 16))) rfl iwX12 rfl (lt_lit hn (Nat.le_of_ble_eq_true rfl)) rfl (Nat.le_of_ble_eq_true rfl) kf_X12_125 rfl rfl dX12_faultOf_64 rfl ?_
            exact g_iret cx qx dX12_faultOf_67 ⟨_, rfl, by have hfin : rsM c la T = rdA c la T0 (M 82 t.toNat) := (by rw [← hst2]; exact (rdL_stop c _ la _ h58.2.1).symm); refine ⟨by rw [← hfin]; exact h58.2.2.symm, fun q => ?_, hxo.trans h57.2.1, h57.2.2⟩; exact absurd (h58.2.2.trans q) h58.2.1⟩
        · skip
          have hc32 : c (T 47 0) = 32 := by rw [hps.1]; assumption
          have hbl := PS_blank hla hps h9 hRI hc32
          refine g_aload_n cx (pc2 := 43) 0 rfl dX12_faultOf_42 rfl ?_
          refine g_dup cx (pc2 := 44) rfl dX12_faultOf_43 rfl ?_
          refine g_get cx (pc2 := 47) (ci := 12) (k0 := 77) (j := 16) (v := .int (iI (U 77 16))) rfl iwX12 rfl (lt_lit hn (Nat.le_of_ble_eq_true rfl)) rfl (Nat.le_of_ble_eq_true rfl) kf_X12_125 rfl rfl dX12_faultOf_44 rfl ?_
          refine g_iconst cx (pc2 := 48) dX12_faultOf_47 rfl ?_
          refine g_iadd cx (pc2 := 49) dX12_faultOf_48 rfl ?_
          refine g_puti cx (pc2 := 52) (ci := 12) (k0 := 77) (j := 16) rfl iwX12 rfl (lt_lit hn (Nat.le_of_ble_eq_true rfl)) rfl (Nat.le_of_ble_eq_true rfl) kf_X12_125 rfl tyX12_ok nmX12 rfl rfl dX12_faultOf_49 rfl ?_
          refine g_goto cx (tgt := 15) dX12_faultOf_52 (by decide) ?_
          exact ih15 (k - 1) (by omega) (stM U 77 16 ((U 77 16) + 1)) (rsM c la T) (k - 1) (by first | exact hbl.2 | exact h58.2.2) (by first | exact hbl.1 | exact h58.2.1) (by exact hR2.1) (by exact hst2) (by first | (have q := hR2.2 hbl.1; omega) | (have q := hR2.2 h58.2.1; omega)) (by first | exact hxo.trans h57.2.1 | exact hxo.st (Or.inr (Or.inr ⟨rfl, by decide, by decide⟩))) (by first | exact h57.2.2 | exact hbU.of (stM_off (by decide)) (stM_off (by decide))) (Nat.le_refl _)
  exact L15 _ (stM (stM (stM M 77 16 0) 77 18 0) 77 19 0) (rd0 T0 la) 121 (by refine ⟨?_, ?_, ?_, ?_, ?_⟩; (rw [rd0_47 T0 hla]; rfl); (rw [rd0_3 T0 la]; rfl); (rw [rd0_4 T0 la]; rfl); (intro h hh; rw [rd0_3] at hh; omega); (intro i hi; rw [rd0_4] at hi; omega)) (by exact rd0_9 T0 hla) (by exact rd0_R T0 hla) (by rfl) (by rw [rd0_47 T0 hla]; omega) (by exact (((XO.refl M).st (Or.inr (Or.inr ⟨rfl, by decide, by decide⟩))).st (Or.inr (Or.inr ⟨rfl, by decide, by decide⟩))).st (Or.inr (Or.inr ⟨rfl, by decide, by decide⟩))) (by exact hb.of (by rw [stM_off (by decide), stM_off (by decide), stM_off (by decide)]) (by rw [stM_off (by decide), stM_off (by decide), stM_off (by decide)])) (Nat.le_refl _)
set_option maxHeartbeats 4000000 in
set_option maxRecDepth 100000 in
theorem c_X12_fault {n : Nat} (hn : NN n) {M : Mm} (t : Int) (ht : ir t) {c : Int → Int} (hy : T4 t → TY M t c) (T0 : Mm) (la : Nat) (hla : isLaneO la) (hb : RB M) : CT yX12_fault cX12_fault 2 (some .int) ({ frames := 5, cells := 0, slots := 0, locals := 118 }) n [.ref 77, .int (iI t)] M (pI (fun z M2 => xfaR c T0 la M t z M2)) := by
  refine CT.of (lv0 := [(0, .ref 77), (1, .int (iI t))]) (by decide +kernel) hn (fun _ => rfl) (fun _ => Nat.le_of_ble_eq_true rfl) (fun X cx cs qx => ?_)
  have cx : Cx X cX12_fault RX12 ({ frames := 5, cells := 0, slots := 0, locals := 118 }) 2 n := cx
  refine g_iload_n cx (pc2 := 1) 1 rfl dX12_fault_0 rfl ?_
  refine g_callS cx (pc2 := 4) (st := []) (As := [.int (iI t)]) (c_X12_isText (M := M) hn t (by exact ht)) wM_X12_isText wS_X12_isText kl_X12_122 ⟨rfl, rfl, Nat.le_of_ble_eq_true rfl, Nat.le_of_ble_eq_true rfl⟩ (Nat.le_of_ble_eq_true rfl) cs rfl rfl dX12_fault_1 rfl ?_
  rintro _ _ ⟨rfl, rfl⟩
  refine g_ifb_ne cx (pc2 := 7) (tgt := 9) dX12_fault_4 (by decide) rfl (fun h_1 => ?_) (fun h_1 => ?_)
  · skip
    have hT := h_1
    have hsz := (hy hT).2.1
    refine g_aload_n cx (pc2 := 10) 0 rfl dX12_fault_9 rfl ?_
    refine g_get cx (pc2 := 13) (ci := 12) (k0 := 77) (j := 8) (v := .ref 82) rfl iwX12 rfl (lt_lit hn (Nat.le_of_ble_eq_true rfl)) rfl (Nat.le_of_ble_eq_true rfl) kf_X12_22 rfl rfl dX12_fault_10 rfl ?_
    refine g_iload_n cx (pc2 := 14) 1 rfl dX12_fault_13 rfl ?_
    refine g_iald cx (pc2 := 15) (k0 := 82) rfl (lt_lit hn (Nat.le_of_ble_eq_true rfl)) (by first | assumption | omega) (by first | assumption | omega) (Nat.le_of_ble_eq_true rfl) dX12_fault_14 rfl ?_
    refine g_rwi (y := iI (M 82 ((t).toNat))) (congrArg iI (by simp [stM])) ?_
    refine g_if_ge cx (pc2 := 18) (tgt := 26) (by first | assumption | omega) dX12_fault_15 (by decide) rfl (fun h_2 => ?_) (fun h_2 => ?_)
    · skip
      refine g_aload_n cx (pc2 := 27) 0 rfl dX12_fault_26 rfl ?_
      refine g_iload_n cx (pc2 := 28) 1 rfl dX12_fault_27 rfl ?_
      refine g_callV cx (pc2 := 31) (st := []) (As := [.int (iI t)]) (k0 := 77) (ci := 12) (c_X12_faultOf (M := M) hn t (by assumption) (by exact hy (by assumption)) T0 la (by exact hla) (by exact hb)) wM_X12_faultOf wV_X12_faultOf kl_X12_162 rfl (lt_lit hn (Nat.le_of_ble_eq_true rfl)) rfl ⟨rfl, rfl, Nat.le_of_ble_eq_true rfl, Nat.le_of_ble_eq_true rfl⟩ (Nat.le_of_ble_eq_true rfl) cs rfl rfl dX12_fault_28 rfl ?_
      rintro _ M_3 ⟨z_3, rfl, h_3⟩
      have h28 := h_3
      exact g_iret cx qx dX12_fault_31 ⟨_, rfl, by first | exact Or.inr (Or.inr ⟨hT, by omega, h28⟩) | exact Or.inr (Or.inl ⟨hT, by omega, rfl, rfl⟩)⟩
    · skip
      refine g_aload_n cx (pc2 := 19) 0 rfl dX12_fault_18 rfl ?_
      refine g_iconst cx (pc2 := 20) dX12_fault_19 rfl ?_
      refine g_callV cx (pc2 := 23) (st := []) (As := [.int (iI 1)]) (k0 := 77) (ci := 12) (c_X12_meets (M := M) hn 1 (by omega)) wM_X12_meets wV_X12_meets kl_X12_111 rfl (lt_lit hn (Nat.le_of_ble_eq_true rfl)) rfl ⟨rfl, rfl, Nat.le_of_ble_eq_true rfl, Nat.le_of_ble_eq_true rfl⟩ (Nat.le_of_ble_eq_true rfl) cs rfl rfl dX12_fault_20 rfl ?_
      rintro _ _ ⟨rfl, rfl⟩
      refine g_goto cx (tgt := 31) dX12_fault_23 (by decide) ?_
      exact g_iret cx qx dX12_fault_31 ⟨_, rfl, by first | exact Or.inr (Or.inr ⟨hT, by omega, h28⟩) | exact Or.inr (Or.inl ⟨hT, by omega, rfl, rfl⟩)⟩
  · skip
    refine g_iconst cx (pc2 := 8) dX12_fault_7 rfl ?_
    exact g_iret cx qx dX12_fault_8 ⟨_, rfl, by exact Or.inl ⟨by assumption, rfl, rfl⟩⟩
set_option maxHeartbeats 4000000 in
set_option maxRecDepth 100000 in
theorem c_X12_village {n : Nat} (hn : NN n) {M : Mm} (t : Int) (ht : ir t) {c : Int → Int} (hy : T4 t → TY M t c) (T0 : Mm) (la : Nat) (hla : isLaneO la) (hb : RB M) : CT yX12_village cX12_village 3 (some .int) ({ frames := 5, cells := 0, slots := 0, locals := 118 }) n [.ref 77, .int (iI t)] M (pI (fun z M2 => xviR c T0 la M t z M2)) := by
  refine CT.of (lv0 := [(0, .ref 77), (1, .int (iI t))]) (by decide +kernel) hn (fun _ => rfl) (fun _ => Nat.le_of_ble_eq_true rfl) (fun X cx cs qx => ?_)
  have cx : Cx X cX12_village RX12 ({ frames := 5, cells := 0, slots := 0, locals := 118 }) 3 n := cx
  refine g_iload_n cx (pc2 := 1) 1 rfl dX12_village_0 rfl ?_
  refine g_callS cx (pc2 := 4) (st := []) (As := [.int (iI t)]) (c_X12_isText (M := M) hn t (by exact ht)) wM_X12_isText wS_X12_isText kl_X12_122 ⟨rfl, rfl, Nat.le_of_ble_eq_true rfl, Nat.le_of_ble_eq_true rfl⟩ (Nat.le_of_ble_eq_true rfl) cs rfl rfl dX12_village_1 rfl ?_
  rintro _ _ ⟨rfl, rfl⟩
  refine g_ifb_ne cx (pc2 := 7) (tgt := 9) dX12_village_4 (by decide) rfl (fun h_1 => ?_) (fun h_1 => ?_)
  · skip
    have hT := h_1
    have hsz := (hy hT).2.1
    refine g_aload_n cx (pc2 := 10) 0 rfl dX12_village_9 rfl ?_
    refine g_get cx (pc2 := 13) (ci := 12) (k0 := 77) (j := 8) (v := .ref 82) rfl iwX12 rfl (lt_lit hn (Nat.le_of_ble_eq_true rfl)) rfl (Nat.le_of_ble_eq_true rfl) kf_X12_22 rfl rfl dX12_village_10 rfl ?_
    refine g_iload_n cx (pc2 := 14) 1 rfl dX12_village_13 rfl ?_
    refine g_iald cx (pc2 := 15) (k0 := 82) rfl (lt_lit hn (Nat.le_of_ble_eq_true rfl)) (by first | assumption | omega) (by first | assumption | omega) (Nat.le_of_ble_eq_true rfl) dX12_village_14 rfl ?_
    refine g_rwi (y := iI (M 82 ((t).toNat))) (congrArg iI (by simp [stM])) ?_
    refine g_if_ge cx (pc2 := 18) (tgt := 24) (by first | assumption | omega) dX12_village_15 (by decide) rfl (fun h_2 => ?_) (fun h_2 => ?_)
    · skip
      refine g_aload_n cx (pc2 := 25) 0 rfl dX12_village_24 rfl ?_
      refine g_iload_n cx (pc2 := 26) 1 rfl dX12_village_25 rfl ?_
      refine g_callV cx (pc2 := 29) (st := []) (As := [.int (iI t)]) (k0 := 77) (ci := 12) (c_X12_faultOf (M := M) hn t (by assumption) (by exact hy (by assumption)) T0 la (by exact hla) (by exact hb)) wM_X12_faultOf wV_X12_faultOf kl_X12_162 rfl (lt_lit hn (Nat.le_of_ble_eq_true rfl)) rfl ⟨rfl, rfl, Nat.le_of_ble_eq_true rfl, Nat.le_of_ble_eq_true rfl⟩ (Nat.le_of_ble_eq_true rfl) cs rfl rfl dX12_village_26 rfl ?_
      rintro _ M_3 ⟨z_3, rfl, h_3⟩
      have h26 := h_3
      have zb := (rdA_R c hla T0 (sz := M 82 t.toNat) (by omega)).2.2
      rw [← h26.1] at zb
      have hMU : ∃ U : Mm, U = M_3 := ⟨_, rfl⟩
      obtain ⟨U, hU⟩ := hMU
      rw [← hU] at h26
      refine g_M (M2 := U) (by exact hU.symm) ?_
      refine g_bipush cx (pc2 := 31) ⟨by decide, by decide⟩ dX12_village_29 rfl ?_
      refine g_icmp_eq cx (pc2 := 34) (tgt := 37) ⟨(by first | assumption | omega), ⟨by decide, by decide⟩⟩ dX12_village_31 (by decide) rfl (fun h_4 => ?_) (fun h_4 => ?_)
      · skip
        have g31 := h_4
        refine g_aload_n cx (pc2 := 38) 0 rfl dX12_village_37 rfl ?_
        refine g_aload_n cx (pc2 := 39) 0 rfl dX12_village_38 rfl ?_
        refine g_get cx (pc2 := 42) (ci := 12) (k0 := 77) (j := 18) (v := .int (iI (U 77 18))) rfl iwX12 rfl (lt_lit hn (Nat.le_of_ble_eq_true rfl)) rfl (Nat.le_of_ble_eq_true rfl) kf_X12_134 rfl rfl dX12_village_39 rfl ?_
        refine g_puti cx (pc2 := 45) (ci := 12) (k0 := 77) (j := 10) rfl iwX12 rfl (lt_lit hn (Nat.le_of_ble_eq_true rfl)) rfl (Nat.le_of_ble_eq_true rfl) kf_X12_165 rfl tyX12_ok nmX12 rfl rfl dX12_village_42 rfl ?_
        refine g_aload_n cx (pc2 := 46) 0 rfl dX12_village_45 rfl ?_
        refine g_aload_n cx (pc2 := 47) 0 rfl dX12_village_46 rfl ?_
        refine g_get cx (pc2 := 50) (ci := 12) (k0 := 77) (j := 19) (v := .int (iI (U 77 19))) rfl iwX12 rfl (lt_lit hn (Nat.le_of_ble_eq_true rfl)) rfl (Nat.le_of_ble_eq_true rfl) kf_X12_140 rfl (congrArg (fun q => Value.int (iI q)) (by simp [stM])) dX12_village_47 rfl ?_
        refine g_puti cx (pc2 := 53) (ci := 12) (k0 := 77) (j := 12) rfl iwX12 rfl (lt_lit hn (Nat.le_of_ble_eq_true rfl)) rfl (Nat.le_of_ble_eq_true rfl) kf_X12_168 rfl tyX12_ok nmX12 rfl rfl dX12_village_50 rfl ?_
        refine g_M (M2 := (vg0 U)) (by rfl) ?_
        refine g_iconst cx (pc2 := 54) dX12_village_53 rfl ?_
        refine g_istore_n cx (pc2 := 55) (lv2 := [(0, .ref 77), (1, .int (iI t)), (2, .int (iI 0))]) rfl (Nat.le_of_ble_eq_true rfl) dX12_village_54 rfl ?_
        have L55 : ∀ (fu : Nat) (i : Int), (0 ≤ i ∧ i ≤ 8) → (8 - i).toNat ≤ fu → G X 55 [(0, .ref 77), (1, .int (iI t)), (2, .int (iI i))] [] (vg1 U i) := by
          intro fu
          induction fu using Nat.strongRecOn with
          | _ fu ih55 =>
            intro i hi hk55
            have e87 : vg1 U i 87 = U 87 := rfl
            refine g_iload_n cx (pc2 := 56) 2 rfl dX12_village_55 rfl ?_
            refine g_bipush cx (pc2 := 58) ⟨by decide, by decide⟩ dX12_village_56 rfl ?_
            refine g_icmp_ge cx (pc2 := 61) (tgt := 94) ⟨(by first | assumption | omega), ⟨by decide, by decide⟩⟩ dX12_village_58 (by decide) rfl (fun h_5 => ?_) (fun h_5 => ?_)
            · skip
              refine g_iconst cx (pc2 := 95) dX12_village_94 rfl ?_
              refine g_istore_n cx (pc2 := 96) (lv2 := [(0, .ref 77), (1, .int (iI t)), (2, .int (iI 0))]) rfl (Nat.le_of_ble_eq_true rfl) dX12_village_95 rfl ?_
              have L96 : ∀ (fu : Nat) (i : Int), (0 ≤ i ∧ i ≤ 48) → (48 - i).toNat ≤ fu → G X 96 [(0, .ref 77), (1, .int (iI t)), (2, .int (iI i))] [] (vg2 U i) := by
                intro fu
                induction fu using Nat.strongRecOn with
                | _ fu ih96 =>
                  intro i hi hk96
                  refine g_iload_n cx (pc2 := 97) 2 rfl dX12_village_96 rfl ?_
                  refine g_bipush cx (pc2 := 99) ⟨by decide, by decide⟩ dX12_village_97 rfl ?_
                  refine g_icmp_ge cx (pc2 := 102) (tgt := 120) ⟨(by first | assumption | omega), ⟨by decide, by decide⟩⟩ dX12_village_99 (by decide) rfl (fun h_6 => ?_) (fun h_6 => ?_)
                  · skip
                    refine g_iconst cx (pc2 := 121) dX12_village_120 rfl ?_
                    refine g_istore_n cx (pc2 := 122) (lv2 := [(0, .ref 77), (1, .int (iI t)), (2, .int (iI 0))]) rfl (Nat.le_of_ble_eq_true rfl) dX12_village_121 rfl ?_
                    have L122 : ∀ (fu : Nat) (i : Int), (0 ≤ i ∧ i ≤ 64) → (64 - i).toNat ≤ fu → G X 122 [(0, .ref 77), (1, .int (iI t)), (2, .int (iI i))] [] (vg3 U i) := by
                      intro fu
                      induction fu using Nat.strongRecOn with
                      | _ fu ih122 =>
                        intro i hi hk122
                        refine g_iload_n cx (pc2 := 123) 2 rfl dX12_village_122 rfl ?_
                        refine g_bipush cx (pc2 := 125) ⟨by decide, by decide⟩ dX12_village_123 rfl ?_
                        refine g_icmp_ge cx (pc2 := 128) (tgt := 141) ⟨(by first | assumption | omega), ⟨by decide, by decide⟩⟩ dX12_village_125 (by decide) rfl (fun h_7 => ?_) (fun h_7 => ?_)
                        · skip
                          refine g_aload_n cx (pc2 := 142) 0 rfl dX12_village_141 rfl ?_
                          refine g_iconst cx (pc2 := 143) dX12_village_142 rfl ?_
                          refine g_puti cx (pc2 := 146) (ci := 12) (k0 := 77) (j := 15) rfl iwX12 rfl (lt_lit hn (Nat.le_of_ble_eq_true rfl)) rfl (Nat.le_of_ble_eq_true rfl) kf_X12_171 rfl tyX12_ok nmX12 rfl rfl dX12_village_143 rfl ?_
                          refine g_aload_n cx (pc2 := 147) 0 rfl dX12_village_146 rfl ?_
                          refine g_iconst cx (pc2 := 148) dX12_village_147 rfl ?_
                          refine g_puti cx (pc2 := 151) (ci := 12) (k0 := 77) (j := 35) rfl iwX12 rfl (lt_lit hn (Nat.le_of_ble_eq_true rfl)) rfl (Nat.le_of_ble_eq_true rfl) kf_X12_174 rfl tyX12_ok nmX12 rfl rfl dX12_village_148 rfl ?_
                          refine g_aload_n cx (pc2 := 152) 0 rfl dX12_village_151 rfl ?_
                          refine g_iconst cx (pc2 := 153) dX12_village_152 rfl ?_
                          refine g_puti cx (pc2 := 156) (ci := 12) (k0 := 77) (j := 37) rfl iwX12 rfl (lt_lit hn (Nat.le_of_ble_eq_true rfl)) rfl (Nat.le_of_ble_eq_true rfl) kf_X12_177 rfl tyX12_ok nmX12 rfl rfl dX12_village_153 rfl ?_
                          refine g_aload_n cx (pc2 := 157) 0 rfl dX12_village_156 rfl ?_
                          refine g_iconst cx (pc2 := 158) dX12_village_157 rfl ?_
                          refine g_puti cx (pc2 := 161) (ci := 12) (k0 := 77) (j := 40) rfl iwX12 rfl (lt_lit hn (Nat.le_of_ble_eq_true rfl)) rfl (Nat.le_of_ble_eq_true rfl) kf_X12_180 rfl tyX12_ok nmX12 rfl rfl dX12_village_158 rfl ?_
                          refine g_aload_n cx (pc2 := 162) 0 rfl dX12_village_161 rfl ?_
                          refine g_get cx (pc2 := 165) (ci := 12) (k0 := 77) (j := 10) (v := .int (iI ((vg3 U i) 77 10))) rfl iwX12 rfl (lt_lit hn (Nat.le_of_ble_eq_true rfl)) rfl (Nat.le_of_ble_eq_true rfl) kf_X12_165 rfl (congrArg (fun q => Value.int (iI q)) (by simp [stM])) dX12_village_162 rfl ?_
                          refine g_rwi (y := iI (U 77 18)) (rfl) ?_
                          exact g_iret cx qx dX12_village_165 ⟨_, rfl, by exact Or.inr (Or.inr (Or.inr ⟨hT, by omega, by rw [← h26.1]; exact g31, U, h26.2.1 g31, h26.2.2.1, h26.2.2.2, rfl, by rw [show i = 64 by omega]; rfl⟩))⟩
                        · skip
                          refine g_aload_n cx (pc2 := 129) 0 rfl dX12_village_128 rfl ?_
                          refine g_get cx (pc2 := 132) (ci := 12) (k0 := 77) (j := 34) (v := .ref 98) rfl iwX12 rfl (lt_lit hn (Nat.le_of_ble_eq_true rfl)) rfl (Nat.le_of_ble_eq_true rfl) kf_X12_71 rfl rfl dX12_village_129 rfl ?_
                          refine g_iload_n cx (pc2 := 133) 2 rfl dX12_village_132 rfl ?_
                          refine g_iconst cx (pc2 := 134) dX12_village_133 rfl ?_
                          refine g_iast cx (pc2 := 135) (k0 := 98) rfl (lt_lit hn (Nat.le_of_ble_eq_true rfl)) (by first | assumption | omega) (by first | assumption | omega) (Nat.le_of_ble_eq_true rfl) dX12_village_134 rfl ?_
                          refine g_iinc cx (pc2 := 138) 2 rfl (lv2 := [(0, .ref 77), (1, .int (iI t)), (2, .int (iI (i + 1)))]) rfl (Nat.le_of_ble_eq_true rfl) dX12_village_135 rfl ?_
                          refine g_goto cx (tgt := 122) dX12_village_138 (by decide) ?_
                          refine g_M (M2 := (vg3 U (i + 1))) (by exact vg3_s hi.1) ?_
                          exact ih122 ((64 - (i + 1)).toNat) (by omega) (i + 1) (by first | assumption | omega) (Nat.le_refl _)
                    refine g_M (M2 := (vg3 U 0)) (by rw [show i = 48 by omega]; exact vg3_0 U) ?_
                    exact L122 _ 0 (by first | assumption | omega) (Nat.le_refl _)
                  · skip
                    refine g_aload_n cx (pc2 := 103) 0 rfl dX12_village_102 rfl ?_
                    refine g_get cx (pc2 := 106) (ci := 12) (k0 := 77) (j := 13) (v := .ref 85) rfl iwX12 rfl (lt_lit hn (Nat.le_of_ble_eq_true rfl)) rfl (Nat.le_of_ble_eq_true rfl) kf_X12_32 rfl rfl dX12_village_103 rfl ?_
                    refine g_iload_n cx (pc2 := 107) 2 rfl dX12_village_106 rfl ?_
                    refine g_aload_n cx (pc2 := 108) 0 rfl dX12_village_107 rfl ?_
                    refine g_get cx (pc2 := 111) (ci := 12) (k0 := 77) (j := 21) (v := .ref 88) rfl iwX12 rfl (lt_lit hn (Nat.le_of_ble_eq_true rfl)) rfl (Nat.le_of_ble_eq_true rfl) kf_X12_41 rfl rfl dX12_village_108 rfl ?_
                    refine g_iload_n cx (pc2 := 112) 2 rfl dX12_village_111 rfl ?_
                    refine g_iald cx (pc2 := 113) (k0 := 88) rfl (lt_lit hn (Nat.le_of_ble_eq_true rfl)) (by first | assumption | omega) (by first | assumption | omega) (Nat.le_of_ble_eq_true rfl) dX12_village_112 rfl ?_
                    refine g_rwi (y := iI ((vg2 U i) 88 ((i).toNat))) (congrArg iI (by simp [stM])) ?_
                    refine g_rwi (y := iI (U 88 i.toNat)) (rfl) ?_
                    refine g_iast cx (pc2 := 114) (k0 := 85) rfl (lt_lit hn (Nat.le_of_ble_eq_true rfl)) (by first | assumption | omega) (by first | assumption | omega) (Nat.le_of_ble_eq_true rfl) dX12_village_113 rfl ?_
                    refine g_iinc cx (pc2 := 117) 2 rfl (lv2 := [(0, .ref 77), (1, .int (iI t)), (2, .int (iI (i + 1)))]) rfl (Nat.le_of_ble_eq_true rfl) dX12_village_114 rfl ?_
                    refine g_goto cx (tgt := 96) dX12_village_117 (by decide) ?_
                    refine g_M (M2 := (vg2 U (i + 1))) (by exact vg2_s hi.1) ?_
                    exact ih96 ((48 - (i + 1)).toNat) (by omega) (i + 1) (by first | assumption | omega) (Nat.le_refl _)
              refine g_M (M2 := (vg2 U 0)) (by rw [show i = 8 by omega]; exact vg2_0 U) ?_
              exact L96 _ 0 (by first | assumption | omega) (Nat.le_refl _)
            · skip
              refine g_aload_n cx (pc2 := 62) 0 rfl dX12_village_61 rfl ?_
              refine g_get cx (pc2 := 65) (ci := 12) (k0 := 77) (j := 11) (v := .ref 84) rfl iwX12 rfl (lt_lit hn (Nat.le_of_ble_eq_true rfl)) rfl (Nat.le_of_ble_eq_true rfl) kf_X12_29 rfl rfl dX12_village_62 rfl ?_
              refine g_iload_n cx (pc2 := 66) 2 rfl dX12_village_65 rfl ?_
              refine g_aload_n cx (pc2 := 67) 0 rfl dX12_village_66 rfl ?_
              refine g_get cx (pc2 := 70) (ci := 12) (k0 := 77) (j := 20) (v := .ref 87) rfl iwX12 rfl (lt_lit hn (Nat.le_of_ble_eq_true rfl)) rfl (Nat.le_of_ble_eq_true rfl) kf_X12_38 rfl rfl dX12_village_67 rfl ?_
              refine g_iload_n cx (pc2 := 71) 2 rfl dX12_village_70 rfl ?_
              refine g_iald cx (pc2 := 72) (k0 := 87) rfl (lt_lit hn (Nat.le_of_ble_eq_true rfl)) (by first | assumption | omega) (by first | assumption | omega) (Nat.le_of_ble_eq_true rfl) dX12_village_71 rfl ?_
              refine g_rwi (y := iI ((vg1 U i) 87 ((i).toNat))) (congrArg iI (by simp [stM])) ?_
              refine g_rwi (y := iI (U 87 i.toNat)) (rfl) ?_
              refine g_iast cx (pc2 := 73) (k0 := 84) rfl (lt_lit hn (Nat.le_of_ble_eq_true rfl)) (by first | assumption | omega) (by first | assumption | omega) (Nat.le_of_ble_eq_true rfl) dX12_village_72 rfl ?_
              refine g_aload_n cx (pc2 := 74) 0 rfl dX12_village_73 rfl ?_
              refine g_get cx (pc2 := 77) (ci := 12) (k0 := 77) (j := 14) (v := .ref 86) rfl iwX12 rfl (lt_lit hn (Nat.le_of_ble_eq_true rfl)) rfl (Nat.le_of_ble_eq_true rfl) kf_X12_35 rfl rfl dX12_village_74 rfl ?_
              refine g_iload_n cx (pc2 := 78) 2 rfl dX12_village_77 rfl ?_
              refine g_bipush cx (pc2 := 80) ⟨by decide, by decide⟩ dX12_village_78 rfl ?_
              refine g_iast cx (pc2 := 81) (k0 := 86) rfl (lt_lit hn (Nat.le_of_ble_eq_true rfl)) (by first | assumption | omega) (by first | assumption | omega) (Nat.le_of_ble_eq_true rfl) dX12_village_80 rfl ?_
              refine g_aload_n cx (pc2 := 82) 0 rfl dX12_village_81 rfl ?_
              refine g_get cx (pc2 := 85) (ci := 12) (k0 := 77) (j := 33) (v := .ref 97) rfl iwX12 rfl (lt_lit hn (Nat.le_of_ble_eq_true rfl)) rfl (Nat.le_of_ble_eq_true rfl) kf_X12_68 rfl rfl dX12_village_82 rfl ?_
              refine g_iload_n cx (pc2 := 86) 2 rfl dX12_village_85 rfl ?_
              refine g_iconst cx (pc2 := 87) dX12_village_86 rfl ?_
              refine g_iast cx (pc2 := 88) (k0 := 97) rfl (lt_lit hn (Nat.le_of_ble_eq_true rfl)) (by first | assumption | omega) (by first | assumption | omega) (Nat.le_of_ble_eq_true rfl) dX12_village_87 rfl ?_
              refine g_iinc cx (pc2 := 91) 2 rfl (lv2 := [(0, .ref 77), (1, .int (iI t)), (2, .int (iI (i + 1)))]) rfl (Nat.le_of_ble_eq_true rfl) dX12_village_88 rfl ?_
              refine g_goto cx (tgt := 55) dX12_village_91 (by decide) ?_
              refine g_M (M2 := (vg1 U (i + 1))) (by exact vg1_s hi.1) ?_
              exact ih55 ((8 - (i + 1)).toNat) (by omega) (i + 1) (by first | assumption | omega) (Nat.le_refl _)
        refine g_M (M2 := (vg1 U 0)) (by exact vg1_0 U) ?_
        exact L55 _ 0 (by first | assumption | omega) (Nat.le_refl _)
      · skip
        have g31 := h_4
        refine g_bipush cx (pc2 := 36) ⟨by decide, by decide⟩ dX12_village_34 rfl ?_
        exact g_iret cx qx dX12_village_36 ⟨_, rfl, by exact Or.inr (Or.inr (Or.inl ⟨hT, by omega, by rw [← h26.1]; exact g31, rfl, h26.2.2.1, h26.2.2.2⟩))⟩
    · skip
      refine g_aload_n cx (pc2 := 19) 0 rfl dX12_village_18 rfl ?_
      refine g_iconst cx (pc2 := 20) dX12_village_19 rfl ?_
      refine g_callV cx (pc2 := 23) (st := []) (As := [.int (iI 1)]) (k0 := 77) (ci := 12) (c_X12_meets (M := M) hn 1 (by omega)) wM_X12_meets wV_X12_meets kl_X12_111 rfl (lt_lit hn (Nat.le_of_ble_eq_true rfl)) rfl ⟨rfl, rfl, Nat.le_of_ble_eq_true rfl, Nat.le_of_ble_eq_true rfl⟩ (Nat.le_of_ble_eq_true rfl) cs rfl rfl dX12_village_20 rfl ?_
      rintro _ _ ⟨rfl, rfl⟩
      exact g_iret cx qx dX12_village_23 ⟨_, rfl, by exact Or.inr (Or.inl ⟨hT, by omega, rfl, rfl⟩)⟩
  · skip
    refine g_iconst cx (pc2 := 8) dX12_village_7 rfl ?_
    exact g_iret cx qx dX12_village_8 ⟨_, rfl, by exact Or.inl ⟨by assumption, rfl, rfl⟩⟩
