/-- an order of a set of needs -/
def ordS (L : List Int) (s : Nat) : Prop := L.Nodup ∧ ∀ x : Int, x ∈ L ↔ (0 ≤ x ∧ s.testBit x.toNat = true)
theorem nil_or_snoc (L : List Int) : L = [] ∨ ∃ A x, L = A ++ [x] := by
  induction L with
  | nil => exact Or.inl rfl
  | cons a t ih =>
    right
    rcases ih with h | ⟨A, x, h⟩
    · exact ⟨[], a, by rw [h]; rfl⟩
    · exact ⟨a :: A, x, by rw [h]; rfl⟩
theorem nd_snoc {A : List Int} {x : Int} : (A ++ [x]).Nodup ↔ A.Nodup ∧ ¬ x ∈ A := by
  have h : (A ++ [x]).Perm (x :: A) := List.perm_append_singleton x A
  rw [h.nodup_iff, List.nodup_cons]
  exact ⟨fun z => ⟨z.2, z.1⟩, fun z => ⟨z.2, z.1⟩⟩
theorem nd_bit {s i : Nat} {x : Int} (hx : 0 ≤ x) : (ndN s (2 ^ i)).testBit x.toNat = true ↔ s.testBit x.toNat = true ∧ ¬ x = (i : Int) := by
  rw [ndN_bit, p2_bit]
  by_cases q : i = x.toNat
  · have e : x = (i : Int) := by omega
    rw [e, Int.toNat_natCast]
    simp
  · have e : ¬ x = (i : Int) := by omega
    simp [q, e]
theorem ordS_cons {L : List Int} {s i : Nat} : ordS ((i : Int) :: L) s ↔ s.testBit i = true ∧ ordS L (ndN s (2 ^ i)) := by
  unfold ordS
  rw [List.nodup_cons]
  constructor
  · rintro ⟨⟨h1, h2⟩, h3⟩
    have hi := (h3 (i : Int)).mp (List.mem_cons_self ..)
    rw [Int.toNat_natCast] at hi
    refine ⟨hi.2, h2, fun x => ⟨fun hx => ?_, fun hx => ?_⟩⟩
    · have := (h3 x).mp (List.mem_cons_of_mem _ hx)
      refine ⟨this.1, (nd_bit this.1).mpr ⟨this.2, ?_⟩⟩
      intro e
      rw [e] at hx
      exact h1 hx
    · have h := (nd_bit hx.1).mp hx.2
      have := (h3 x).mpr ⟨hx.1, h.1⟩
      rcases List.mem_cons.mp this with e | e
      · exact absurd e h.2
      · exact e
  · rintro ⟨h1, h2, h3⟩
    refine ⟨⟨?_, h2⟩, fun x => ⟨fun hx => ?_, fun hx => ?_⟩⟩
    · intro hi
      have := (h3 (i : Int)).mp hi
      exact ((nd_bit this.1).mp this.2).2 rfl
    · rcases List.mem_cons.mp hx with e | e
      · rw [e, Int.toNat_natCast]
        exact ⟨by omega, h1⟩
      · have := (h3 x).mp e
        exact ⟨this.1, ((nd_bit this.1).mp this.2).1⟩
    · by_cases e : x = (i : Int)
      · rw [e]
        exact List.mem_cons_self ..
      · exact List.mem_cons_of_mem _ ((h3 x).mpr ⟨hx.1, (nd_bit hx.1).mpr ⟨hx.2, e⟩⟩)
theorem ordS_perm {L L2 : List Int} {s : Nat} (h : L.Perm L2) (k : ordS L2 s) : ordS L s :=
  ⟨h.nodup_iff.mpr k.1, fun x => h.mem_iff.trans (k.2 x)⟩
theorem ordS_snoc {L : List Int} {s i : Nat} : ordS (L ++ [(i : Int)]) s ↔ s.testBit i = true ∧ ordS L (ndN s (2 ^ i)) := by
  have h : (L ++ [(i : Int)]).Perm ((i : Int) :: L) := List.perm_append_singleton _ L
  rw [← ordS_cons]
  exact ⟨fun k => ordS_perm h.symm k, fun k => ordS_perm h k⟩
theorem ordS_nil {s : Nat} : ordS [] s ↔ s = 0 := by
  constructor
  · intro h
    apply Nat.eq_of_testBit_eq
    intro j
    rw [Nat.zero_testBit]
    cases e : s.testBit j with
    | false => rfl
    | true =>
      have := (h.2 (j : Int)).mpr ⟨by omega, by rw [Int.toNat_natCast]; exact e⟩
      simp at this
  · intro h
    subst h
    exact ⟨List.nodup_nil, fun x => by simp⟩
theorem ruS_none (J : Nat → Nat → Int) : ∀ L, ruS J none L = none
  | [] => rfl
  | x :: L => ruS_none J L
theorem ruS_snoc (J : Nat → Nat → Int) (q : Option (Int × Int)) (L : List Int) (i : Int) : ruS J q (L ++ [i]) = stp1 J (ruS J q L) i := by
  unfold ruS
  rw [List.foldl_append]
  rfl
theorem ruS_cons (J : Nat → Nat → Int) (q : Option (Int × Int)) (L : List Int) (i : Int) : ruS J q (i :: L) = ruS J (stp1 J q i) L := rfl
/-- a set can be met from a place on -/
def FE (J : Nat → Nat → Int) (p f : Int) (s : Nat) : Prop := ∃ L, ordS L s ∧ ruS J (some (p, f)) L ≠ none
theorem FE_0 (J : Nat → Nat → Int) (p f : Int) : FE J p f 0 := ⟨[], ordS_nil.mpr rfl, by show some (p, f) ≠ none; simp⟩
theorem FE_rec {J : Nat → Nat → Int} {p f : Int} {s : Nat} (hs : s ≠ 0) : FE J p f s ↔ ∃ i : Nat, s.testBit i = true ∧ ¬ enB J i p f = -9 ∧ FE J (J i 0) (enB J i p f) (ndN s (2 ^ i)) := by
  constructor
  · rintro ⟨L, h1, h2⟩
    cases L with
    | nil => exact absurd (ordS_nil.mp h1) hs
    | cons x L =>
      have hx := (h1.2 x).mp (List.mem_cons_self ..)
      have e : x = ((x.toNat : Nat) : Int) := by omega
      generalize x.toNat = i at *
      subst e
      have h3 := ordS_cons.mp h1
      rw [ruS_cons] at h2
      unfold stp1 at h2
      simp only [Int.toNat_natCast] at h2
      by_cases q : enB J i p f = -9
      · rw [if_pos q] at h2
        exact absurd (ruS_none J L) h2
      · rw [if_neg q] at h2
        exact ⟨i, h3.1, q, L, h3.2, h2⟩
  · rintro ⟨i, h1, h2, L, h3, h4⟩
    refine ⟨(i : Int) :: L, ordS_cons.mpr ⟨h1, h3⟩, ?_⟩
    rw [ruS_cons]
    unfold stp1
    simp only [Int.toNat_natCast]
    rw [if_neg h2]
    exact h4
theorem lsr_le {a b : Int} (hb : ¬ b = -9) : ¬ lsr a b = -9 ∧ lsr a b ≤ b := by
  unfold lsr
  by_cases h : a = -9 ∨ b = -9
  · rw [if_pos h, if_pos (by omega)]
    omega
  · rw [if_neg h]
    split <;> omega
theorem lsr_le2 {a b : Int} (ha : ¬ a = -9) : ¬ lsr a b = -9 ∧ lsr a b ≤ a := by
  unfold lsr
  by_cases h : a = -9 ∨ b = -9
  · rw [if_pos h, if_neg ha]
    omega
  · rw [if_neg h]
    split <;> omega
theorem lsr_or (a b : Int) : lsr a b = a ∨ lsr a b = b := by
  unfold lsr
  (repeat' split) <;> omega
theorem lsF_le {T : Mm} {r : Nat} {i tp : Int} : ∀ {k c : Nat}, c < k → ¬ T 58 (9 * r + c) = -9 → ¬ endJ T i (pcol T tp (c : Int)) (T 58 (9 * r + c)) = -9 → ¬ lsF T (r : Int) i tp k = -9 ∧ lsF T (r : Int) i tp k ≤ endJ T i (pcol T tp (c : Int)) (T 58 (9 * r + c))
  | 0, c, h, _, _ => by omega
  | k + 1, c, h, h1, h2 => by
    rw [lsF, show ((r : Int) * 9 + (k : Int)).toNat = 9 * r + k by omega]
    by_cases q : c = k
    · rw [← q, if_neg h1]
      exact lsr_le h2
    · have ih := lsF_le (T := T) (r := r) (i := i) (tp := tp) (k := k) (c := c) (by omega) h1 h2
      by_cases z : T 58 (9 * r + k) = -9
      · rw [if_pos z]
        exact ih
      · rw [if_neg z]
        have := lsr_le2 (b := endJ T i (pcol T tp (k : Int)) (T 58 (9 * r + k))) ih.1
        exact ⟨this.1, by omega⟩
theorem lsF_ex {T : Mm} {r : Nat} {i tp : Int} : ∀ {k : Nat}, ¬ lsF T (r : Int) i tp k = -9 → ∃ c, c < k ∧ ¬ T 58 (9 * r + c) = -9 ∧ lsF T (r : Int) i tp k = endJ T i (pcol T tp (c : Int)) (T 58 (9 * r + c))
  | 0, h => absurd rfl h
  | k + 1, h => by
    rw [lsF, show ((r : Int) * 9 + (k : Int)).toNat = 9 * r + k by omega] at h ⊢
    by_cases z : T 58 (9 * r + k) = -9
    · rw [if_pos z] at h ⊢
      obtain ⟨c, h1, h2, h3⟩ := lsF_ex h
      exact ⟨c, by omega, h2, h3⟩
    · rw [if_neg z] at h ⊢
      rcases lsr_or (lsF T (r : Int) i tp k) (endJ T i (pcol T tp (k : Int)) (T 58 (9 * r + k))) with e | e
      · rw [e] at h ⊢
        obtain ⟨c, h1, h2, h3⟩ := lsF_ex h
        exact ⟨c, by omega, h2, h3⟩
      · exact ⟨k, by omega, z, e⟩
theorem enB_mono {J : Nat → Nat → Int} {i : Nat} {p f g : Int} (h : f ≤ g) (hj : 0 ≤ J i 1 ∧ 0 ≤ J i 3) (hg : ¬ enB J i p g = -9) (h0 : 0 ≤ f + wap p (J i 0)) : ¬ enB J i p f = -9 ∧ enB J i p f ≤ enB J i p g := by
  unfold enB bgB at *
  generalize wap p (J i 0) = a at *
  (repeat' split at hg) <;> (repeat' split) <;> omega
/-- the table says what can be met, by when -/
theorem tab_FE {U : Mm} {J : Nat → Nat → Int} {n : Nat} (hJ : JE U J n) {w p f : Int} (hp : 0 ≤ p ∧ p ≤ 15) (hf : 0 ≤ f) : ∀ s, s < 2 ^ n → ndN s w.toNat = 0 → (∀ i : Nat, i < 8 → ¬ rcM U w p f 58 (9 * s + i) = -9 → s.testBit i = true ∧ 0 ≤ rcM U w p f 58 (9 * s + i) ∧ ∃ L, ordS (L ++ [(i : Int)]) s ∧ ruS J (some (p, f)) (L ++ [(i : Int)]) = some (J i 0, rcM U w p f 58 (9 * s + i))) ∧ ∀ (L : List Int) (i : Nat) (q : Int × Int), ordS (L ++ [(i : Int)]) s → ruS J (some (p, f)) (L ++ [(i : Int)]) = some q → ¬ rcM U w p f 58 (9 * s + i) = -9 ∧ rcM U w p f 58 (9 * s + i) ≤ q.2 := by
  intro s
  induction s using Nat.strongRecOn with
  | _ s ih =>
    intro hs hw
    have h8 := hJ.1.2.1
    have hp2 := p2_256 h8
    have hJT : JE (rcM U w p f) J n := hJ.of (fun a h1 h2 => rcM_off U w p f (by omega) (by omega))
    have row := rcM_row U w p f (s := s) (by omega)
    have bl : ∀ i : Nat, s.testBit i = true → i < n := fun i hi => by
      by_cases z : i < n
      · exact z
      · rw [Nat.testBit_lt_two_pow (Nat.lt_of_lt_of_le hs (Nat.pow_le_pow_right (by decide) (by omega)))] at hi
        exact absurd hi (by decide)
    constructor
    · intro i hi hne
      have hrow := (row.1 hw).1 i hi
      rw [hrow] at hne ⊢
      by_cases q : s.testBit i = true
      · rw [if_pos q] at hne ⊢
        have hin := bl i q
        have hr := ndN_lt q
        have hrw := ndN_sub (i := i) hw
        have hor : ∀ L, ordS (L ++ [(i : Int)]) s ↔ ordS L (ndN s (2 ^ i)) := fun L => by
          rw [ordS_snoc]
          exact ⟨fun z => z.2, fun z => ⟨q, z⟩⟩
        have ihr := ih _ hr (by omega) hrw
        generalize ndN s (2 ^ i) = r at *
        unfold lsE at hne ⊢
        obtain ⟨c, c1, c2, c3⟩ := lsF_ex hne
        rw [c3] at hne ⊢
        rw [(hJT.2 i hin).1] at hne ⊢
        have rowr := rcM_row U w p f (s := r) (by omega)
        by_cases z : c < 8
        · obtain ⟨b1, b2, L, b3, b4⟩ := ihr.1 c z c2
          have hcn : c < n := by
            by_cases y : c < n
            · exact y
            · rw [Nat.testBit_lt_two_pow (Nat.lt_of_lt_of_le (show r < 2 ^ n by omega) (Nat.pow_le_pow_right (by decide) (by omega)))] at b1
              exact absurd b1 (by decide)
          rw [hJT.pc hcn] at hne ⊢
          have hbb := enB_b hJ.1.2.2 (i := i) hi (hJ.1.2.2 c (by omega)).1 b2
          refine ⟨q, by omega, L ++ [(c : Int)], (hor _).mpr b3, ?_⟩
          rw [ruS_snoc, b4]
          unfold stp1
          simp only [Int.toNat_natCast]
          rw [if_neg hne]
        · have e8 : c = 8 := by omega
          subst e8
          rw [rowr.2.2] at c2 hne ⊢
          by_cases y : r = 0
          · rw [if_pos y] at c2 hne ⊢
            rw [pcol_8] at hne ⊢
            have hbb := enB_b hJ.1.2.2 (i := i) hi hp hf
            refine ⟨q, by omega, [], (hor _).mpr (ordS_nil.mpr y), ?_⟩
            rw [ruS_snoc]
            show stp1 J (some (p, f)) (i : Int) = _
            unfold stp1
            simp only [Int.toNat_natCast]
            rw [if_neg hne]
          · rw [if_neg y] at c2
            exact absurd rfl c2
      · rw [if_neg q] at hne
        exact absurd rfl hne
    · intro L i q hL hq
      have ho := ordS_snoc.mp hL
      have hin := bl i ho.1
      have hi : i < 8 := by omega
      have hr := ndN_lt ho.1
      have hrw := ndN_sub (i := i) hw
      have ihr := ih _ hr (by omega) hrw
      rw [(row.1 hw).1 i hi, if_pos ho.1]
      have hL2 := ho.2
      generalize ndN s (2 ^ i) = r at *
      have rowr := rcM_row U w p f (s := r) (by omega)
      rw [ruS_snoc] at hq
      unfold lsE
      have ji := hJ.1.2.2 i hi
      rcases nil_or_snoc L with e | ⟨A, x, e⟩
      · subst e
        have hr0 := ordS_nil.mp hL2
        have hq2 : stp1 J (some (p, f)) (i : Int) = some q := hq
        unfold stp1 at hq2
        simp only [Int.toNat_natCast] at hq2
        by_cases y : enB J i p f = -9
        · rw [if_pos y] at hq2
          exact absurd hq2 (by simp)
        · rw [if_neg y] at hq2
          have e := Option.some.inj hq2
          have r8 : rcM U w p f 58 (9 * r + 8) = f := by rw [rowr.2.2, if_pos hr0]
          have := lsF_le (T := rcM U w p f) (r := r) (i := (i : Int)) (tp := p) (k := 9) (c := 8) (by decide) (by rw [r8]; omega) (by rw [r8, pcol_8, (hJT.2 i hin).1]; exact y)
          rw [r8, pcol_8, (hJT.2 i hin).1] at this
          rw [← e]
          exact this
      · subst e
        have hx := (hL2.2 x).mp (by simp)
        have ex : x = ((x.toNat : Nat) : Int) := by omega
        generalize x.toNat = c at *
        subst ex
        cases hru : ruS J (some (p, f)) (A ++ [(c : Int)]) with
        | none =>
          rw [hru] at hq
          exact absurd hq (by unfold stp1; simp)
        | some q2 =>
          rw [hru] at hq
          have hc := ihr.2 A c q2 hL2 hru
          have hcb : r.testBit c = true := (ordS_snoc.mp hL2).1
          have hcn : c < n := by
            by_cases y : c < n
            · exact y
            · rw [Nat.testBit_lt_two_pow (Nat.lt_of_lt_of_le (show r < 2 ^ n by omega) (Nat.pow_le_pow_right (by decide) (by omega)))] at hcb
              exact absurd hcb (by decide)
          have q1 : q2.1 = J c 0 := by
            rw [ruS_snoc] at hru
            unfold stp1 at hru
            split at hru
            · exact absurd hru (by simp)
            · simp only [Int.toNat_natCast] at hru
              split at hru
              · exact absurd hru (by simp)
              · rw [← Option.some.inj hru]
          unfold stp1 at hq
          simp only [Int.toNat_natCast] at hq
          by_cases y : enB J i q2.1 q2.2 = -9
          · rw [if_pos y] at hq
            exact absurd hq (by simp)
          · rw [if_neg y] at hq
            have e := Option.some.inj hq
            have hv := (ihr.1 c (by omega) hc.1).2.1
            rw [q1] at y e
            have wb := wap_b (hJ.1.2.2 c (by omega)).1 ji.1
            have mo := enB_mono (J := J) (i := i) (p := J c 0) hc.2 ⟨ji.2.1.1, ji.2.2.2.1.1⟩ y (by omega)
            have := lsF_le (T := rcM U w p f) (r := r) (i := (i : Int)) (tp := p) (k := 9) (c := c) (by omega) hc.1 (by rw [hJT.pc hcn, (hJT.2 i hin).1]; exact mo.1)
            rw [hJT.pc hcn, (hJT.2 i hin).1] at this
            rw [← e]
            exact ⟨this.1, by show _ ≤ enB J i (J c 0) q2.2; omega⟩
theorem rc_FE {U : Mm} {J : Nat → Nat → Int} {n : Nat} (hJ : JE U J n) {p f : Int} (hp : 0 ≤ p ∧ p ≤ 15) (hf : 0 ≤ f) {s : Nat} (hs : s < 2 ^ n) : ¬ rcM U (s : Int) p f 59 s = -9 ↔ FE J p f s := by
  have h8 := hJ.1.2.1
  have hp2 := p2_256 h8
  have hw : ndN s (s : Int).toNat = 0 := by rw [Int.toNat_natCast]; exact ndN_self s
  have row := rcM_row U (s : Int) p f (s := s) (by omega)
  have t := tab_FE hJ (w := (s : Int)) hp hf s hs hw
  rw [(row.1 hw).2, saF_no]
  constructor
  · intro h
    by_cases z : s = 0
    · rw [z]
      exact FE_0 J p f
    · by_cases y : ∃ i : Nat, i < 8 ∧ ¬ rcM U (s : Int) p f 58 (9 * s + i) = -9
      · obtain ⟨i, h1, h2⟩ := y
        obtain ⟨_, _, L, b1, b2⟩ := t.1 i h1 h2
        exact ⟨L ++ [(i : Int)], b1, by rw [b2]; simp⟩
      · exfalso
        apply h
        refine ⟨by rw [row.2.2, if_neg z], fun j hj => ?_⟩
        by_cases u : rcM U (s : Int) p f 58 (9 * s + j) = -9
        · exact u
        · exact absurd ⟨j, hj, u⟩ y
  · rintro ⟨L, h1, h2⟩ ⟨z1, z2⟩
    rcases nil_or_snoc L with e | ⟨A, x, e⟩
    · subst e
      have := ordS_nil.mp h1
      rw [row.2.2, if_pos this] at z1
      omega
    · subst e
      have hx := (h1.2 x).mp (by simp)
      have ex : x = ((x.toNat : Nat) : Int) := by omega
      generalize x.toNat = i at *
      subst ex
      cases hru : ruS J (some (p, f)) (A ++ [(i : Int)]) with
      | none => exact h2 hru
      | some q =>
        have hb := (ordS_snoc.mp h1).1
        have hi : i < 8 := by
          by_cases y : i < 8
          · exact y
          · rw [Nat.testBit_lt_two_pow (Nat.lt_of_lt_of_le hs (Nat.pow_le_pow_right (by decide) (by omega)))] at hb
            exact absurd hb (by decide)
        exact (t.2 A i q h1 hru).1 (z2 i hi)
