theorem tix_inj {s l e s2 l2 e2 : Int} (h : thP s l e) (h2 : thP s2 l2 e2) (q : tix s l e = tix s2 l2 e2) : s = s2 ∧ l = l2 ∧ e = e2 := by
  unfold tix at q
  omega
theorem nb_sn (M : Mm) (s l e v s2 l2 e2 : Int) : nbO (snM M s l e v) s2 l2 e2 = if thP s2 l2 e2 ∧ s2 = s ∧ l2 = l ∧ e2 = e then v else nbO M s2 l2 e2 := by
  unfold snM nbO
  by_cases h : thP s l e
  · rw [if_pos h]
    by_cases h2 : thP s2 l2 e2
    · rw [if_pos h2]
      by_cases q : s2 = s ∧ l2 = l ∧ e2 = e
      · rw [if_pos ⟨h2, q⟩, q.1, q.2.1, q.2.2, stM_at]
      · rw [if_neg (fun z => q z.2), if_pos h2, stM_ne _ _ (Or.inr (fun z => q (tix_inj h2 h z)))]
    · rw [if_neg h2, if_neg (fun z => h2 z.1), if_neg h2]
  · rw [if_neg h]
    have hc : ¬ (thP s2 l2 e2 ∧ s2 = s ∧ l2 = l ∧ e2 = e) := by
      rintro ⟨z, z1, z2, z3⟩
      rw [z1, z2, z3] at z
      exact h z
    exact (if_neg hc).symm
theorem nb_ntZ (M : Mm) (s l s2 l2 e2 : Int) : ∀ k : Nat, nbO (ntZ M s l k) s2 l2 e2 = if s2 = s ∧ l2 = l ∧ 0 ≤ e2 ∧ e2 < (k : Int) then 0 else nbO M s2 l2 e2
  | 0 => by
    rw [if_neg (by omega)]
    rfl
  | k + 1 => by
    rw [ntZ, nb_sn, nb_ntZ M s l s2 l2 e2 k]
    by_cases q : s2 = s ∧ l2 = l ∧ 0 ≤ e2 ∧ e2 < ((k + 1 : Nat) : Int)
    · rw [if_pos q]
      by_cases z : thP s2 l2 e2 ∧ s2 = s ∧ l2 = l ∧ e2 = (k : Int)
      · rw [if_pos z]
      · rw [if_neg z]
        by_cases y : e2 < (k : Int)
        · rw [if_pos ⟨q.1, q.2.1, q.2.2.1, y⟩]
        · rw [if_neg (fun u => y u.2.2.2)]
          have e : e2 = (k : Int) := by omega
          unfold nbO
          rw [if_neg (fun u => z ⟨u, q.1, q.2.1, e⟩)]
    · rw [if_neg (fun z => q ⟨z.2.1, z.2.2.1, by omega, by omega⟩), if_neg (fun z => q ⟨z.1, z.2.1, z.2.2.1, by omega⟩), if_neg q]
theorem nb_ntF {T : Mm} {s l : Int} {i : Int} (hs : 0 ≤ s ∧ s < 256) (hl : 0 ≤ l ∧ l < 8) (hne : ¬ ntR s l = s) (hN : ∀ f : Nat, 0 ≤ nbO T (ntR s l) i (f : Int) ∧ nbO T (ntR s l) i (f : Int) ≤ 16777216) : ∀ k, (∀ e : Int, 0 ≤ e → e < 29 → nbO (ntF T s l i k) s l e = nbO T s l e + smZ (fun f => if endJ T l (plJ T i) (f : Int) = e then nbO T (ntR s l) i (f : Int) else 0) k) ∧ ∀ s2 l2 e2, ¬ (s2 = s ∧ l2 = l) → nbO (ntF T s l i k) s2 l2 e2 = nbO T s2 l2 e2
  | 0 => by
    refine ⟨fun e _ _ => ?_, fun _ _ _ _ => rfl⟩
    show nbO T s l e = nbO T s l e + 0
    omega
  | k + 1 => by
    have ih := nb_ntF hs hl hne hN k
    have hk := hN k
    rw [ntF]
    generalize ntF T s l i k = V at *
    have e0 : nbO V (ntR s l) i (k : Int) = nbO T (ntR s l) i (k : Int) := ih.2 _ _ _ (fun z => hne z.1)
    have ew : wr (nbO T (ntR s l) i (k : Int)) = nbO T (ntR s l) i (k : Int) := wr_of ⟨by omega, by omega⟩
    rw [e0, ew]
    by_cases q : 0 < nbO T (ntR s l) i (k : Int)
    · rw [if_pos q]
      refine ⟨fun e h1 h2 => ?_, fun s2 l2 e2 h => ?_⟩
      · rw [nb_sn, smZ]
        by_cases z : e = endJ T l (plJ T i) (k : Int)
        · rw [if_pos ⟨⟨hs, hl, ⟨h1, h2⟩⟩, rfl, rfl, z⟩, if_pos z.symm, ← z, ih.1 e h1 h2]
          omega
        · rw [if_neg (fun u => z u.2.2.2), if_neg (fun u => z u.symm), ih.1 e h1 h2]
          omega
      · rw [nb_sn, if_neg (fun u => h ⟨u.2.1, u.2.2.1⟩)]
        exact ih.2 s2 l2 e2 h
    · rw [if_neg q]
      have ez : nbO T (ntR s l) i (k : Int) = 0 := by omega
      refine ⟨fun e h1 h2 => ?_, ih.2⟩
      rw [smZ, ih.1 e h1 h2, ez]
      split <;> omega
theorem smZ_succ (f : Nat → Int) (k : Nat) : smZ f (k + 1) = smZ f k + f k := rfl
theorem nb_ntO {M : Mm} {s l p : Int} (hs : 0 ≤ s ∧ s < 256) (hl : 0 ≤ l ∧ l < 8) (hne : ¬ ntR s l = s) (hN : ∀ i : Nat, inS (i : Int) (ntR s l) → ∀ f : Nat, 0 ≤ nbO M (ntR s l) (i : Int) (f : Int) ∧ nbO M (ntR s l) (i : Int) (f : Int) ≤ 16777216) : ∀ k, (∀ e : Int, 0 ≤ e → e < 29 → nbO (ntO M s l p k) s l e = (if ntR s l = 0 then (if endJ M l p 0 = e then 1 else 0) else 0) + smZ (fun i => if inS (i : Int) (ntR s l) then smZ (fun f => if endJ M l (plJ M (i : Int)) (f : Int) = e then nbO M (ntR s l) (i : Int) (f : Int) else 0) 29 else 0) k) ∧ ∀ s2 l2 e2, ¬ (s2 = s ∧ l2 = l) → nbO (ntO M s l p k) s2 l2 e2 = nbO M s2 l2 e2
  | 0 => by
    show (∀ e : Int, 0 ≤ e → e < 29 → nbO (nt1 M s l p) s l e = _ + 0) ∧ ∀ s2 l2 e2, ¬ (s2 = s ∧ l2 = l) → nbO (nt1 M s l p) s2 l2 e2 = nbO M s2 l2 e2
    unfold nt1
    by_cases q : ntR s l = 0
    · rw [if_pos q]
      refine ⟨fun e h1 h2 => ?_, fun s2 l2 e2 h => ?_⟩
      · rw [nb_sn, nb_ntZ, if_pos q]
        by_cases z : e = endJ M l p 0
        · rw [if_pos ⟨⟨hs, hl, ⟨h1, h2⟩⟩, rfl, rfl, z⟩, if_pos z.symm]
          omega
        · rw [if_neg (fun u => z u.2.2.2), if_pos ⟨rfl, rfl, h1, by omega⟩, if_neg (fun u => z u.symm)]
          omega
      · rw [nb_sn, nb_ntZ, if_neg (fun u => h ⟨u.2.1, u.2.2.1⟩), if_neg (fun u => h ⟨u.1, u.2.1⟩)]
    · rw [if_neg q]
      refine ⟨fun e h1 h2 => ?_, fun s2 l2 e2 h => ?_⟩
      · rw [nb_ntZ, if_neg q, if_pos ⟨rfl, rfl, h1, by omega⟩]
        omega
      · rw [nb_ntZ, if_neg (fun u => h ⟨u.1, u.2.1⟩)]
  | k + 1 => by
    have ih := nb_ntO (p := p) hs hl hne hN k
    have hoff : ∀ a, a ≠ 105 → ntO M s l p k a = M a := fun a ha => ntO_off M s l p ha k
    rw [ntO]
    generalize ntO M s l p k = V at *
    by_cases q : inS (k : Int) (ntR s l)
    · rw [if_pos q]
      have e0 : ∀ f : Nat, nbO V (ntR s l) (k : Int) (f : Int) = nbO M (ntR s l) (k : Int) (f : Int) := fun f => ih.2 _ _ _ (fun z => hne z.1)
      have g := nb_ntF (T := V) (i := (k : Int)) hs hl hne (fun f => by rw [e0 f]; exact hN k q f) 29
      refine ⟨fun e h1 h2 => ?_, fun s2 l2 e2 h => ?_⟩
      · rw [g.1 e h1 h2, ih.1 e h1 h2, smZ_succ _ k, if_pos q, Int.add_assoc]
        have : smZ (fun f => if endJ V l (plJ V (k : Int)) (f : Int) = e then nbO V (ntR s l) (k : Int) (f : Int) else 0) 29 = smZ (fun f => if endJ M l (plJ M (k : Int)) (f : Int) = e then nbO M (ntR s l) (k : Int) (f : Int) else 0) 29 := smZ_eq (fun f _ => by rw [endJ_105 hoff, plJ_105 hoff, e0 f])
        rw [this]
      · rw [g.2 s2 l2 e2 h, ih.2 s2 l2 e2 h]
    · rw [if_neg q]
      refine ⟨fun e h1 h2 => ?_, ih.2⟩
      rw [ih.1 e h1 h2, smZ_succ _ k, if_neg q]
      omega
theorem smZ_ext {f : Nat → Int} {a : Nat} : ∀ {b : Nat}, a ≤ b → (∀ i, a ≤ i → i < b → f i = 0) → smZ f b = smZ f a
  | 0, h, _ => by rw [show a = 0 by omega]
  | b + 1, h, hz => by
    by_cases q : a = b + 1
    · rw [q]
    · rw [smZ, hz b (by omega) (by omega), smZ_ext (b := b) (by omega) (fun i h1 h2 => hz i h1 (by omega))]
      omega
def cNs (J : Nat → Nat → Int) (p : Int) (n s l : Nat) (e : Int) : Int := cN J p n (elB (ndN s (2 ^ l)) n).length s l e
/-- a set's numbers are right -/
def TOK (T : Mm) (J : Nat → Nat → Int) (p : Int) (n s : Nat) : Prop := ∀ l : Nat, s.testBit l = true → ∀ e : Nat, e < 29 → nbO T (s : Int) (l : Int) (e : Int) = cNs J p n s l (e : Int)
theorem cNs_b {J : Nat → Nat → Int} {p : Int} {n s l : Nat} {e : Int} (hn : n ≤ 8) : 0 ≤ cNs J p n s l e ∧ cNs J p n s l e ≤ 16777216 := cN_b J p e rfl (by have := elB_len (ndN s (2 ^ l)) n; omega)
theorem nt_ok {T : Mm} {J : Nat → Nat → Int} {n : Nat} (hJ : JE T J n) {p : Int} (hp : 0 ≤ p ∧ p ≤ 15) {s l : Nat} (hs : s < 2 ^ n) (hl : s.testBit l = true) (h : ndN s (2 ^ l) ≠ 0 → TOK T J p n (ndN s (2 ^ l))) : (∀ e : Nat, e < 29 → nbO (ntM T (s : Int) (l : Int) p) (s : Int) (l : Int) (e : Int) = cNs J p n s l (e : Int)) ∧ ∀ s2 l2 e2 : Int, ¬ (s2 = (s : Int) ∧ l2 = (l : Int)) → nbO (ntM T (s : Int) (l : Int) p) s2 l2 e2 = nbO T s2 l2 e2 := by
  have h8 := hJ.1.2.1
  have hp2 := p2_256 h8
  have bl : ∀ (r i : Nat), r < 2 ^ n → r.testBit i = true → i < n := fun r i hr hi => by
    by_cases z : i < n
    · exact z
    · rw [Nat.testBit_lt_two_pow (Nat.lt_of_lt_of_le hr (Nat.pow_le_pow_right (by decide) (by omega)))] at hi
      exact absurd hi (by decide)
  have hln := bl s l hs hl
  have hlt := ndN_lt hl
  have eR : ntR (s : Int) (l : Int) = ((ndN s (2 ^ l) : Nat) : Int) := by
    unfold ntR
    rw [Int.toNat_natCast, bitN_in ⟨by omega, by omega⟩, Int.toNat_natCast]
  have hin : ∀ (i : Nat), inS (i : Int) (ntR (s : Int) (l : Int)) ↔ i < 8 ∧ (ndN s (2 ^ l)).testBit i = true := fun i => by
    rw [eR]
    unfold inS
    rw [Int.toNat_natCast, Int.toNat_natCast]
    exact ⟨fun z => ⟨by omega, z.2.2⟩, fun z => ⟨by omega, by omega, z.2⟩⟩
  have hTk : ∀ i : Nat, (ndN s (2 ^ l)).testBit i = true → ∀ f : Nat, f < 29 → nbO T (ntR (s : Int) (l : Int)) (i : Int) (f : Int) = cNs J p n (ndN s (2 ^ l)) i (f : Int) := fun i hi f hf => by
    rw [eR]
    refine h ?_ i hi f hf
    intro z
    rw [z, Nat.zero_testBit] at hi
    exact absurd hi (by decide)
  have hN : ∀ i : Nat, inS (i : Int) (ntR (s : Int) (l : Int)) → ∀ f : Nat, 0 ≤ nbO T (ntR (s : Int) (l : Int)) (i : Int) (f : Int) ∧ nbO T (ntR (s : Int) (l : Int)) (i : Int) (f : Int) ≤ 16777216 := fun i hi f => by
    by_cases q : f < 29
    · rw [hTk i ((hin i).mp hi).2 f q]
      exact cNs_b h8
    · unfold nbO
      rw [if_neg (fun z => by have := z.2.2.2; omega)]
      omega
  have g := nb_ntO (M := T) (s := (s : Int)) (l := (l : Int)) (p := p) ⟨by omega, by omega⟩ ⟨by omega, by omega⟩ (by rw [eR]; omega) hN 8
  refine ⟨fun e he => ?_, g.2⟩
  have ge := g.1 (e : Int) (by omega) (by omega)
  show nbO (ntO T (s : Int) (l : Int) p 8) (s : Int) (l : Int) (e : Int) = _
  rw [ge, eR, smZ_ext (a := n) h8 (fun i h1 h2 => by
    rw [← eR, if_neg]
    intro z
    have := bl _ i (show ndN s (2 ^ l) < 2 ^ n by omega) ((hin i).mp z).2
    omega)]
  unfold cNs
  by_cases q0 : ndN s (2 ^ l) = 0
  · have hl0 : (elB (ndN s (2 ^ l)) n).length = 0 := by
      rw [q0]
      cases hL : elB 0 n with
      | nil => rfl
      | cons x t =>
        have := elB_mem (s := 0) (i := n) (x := x) (by rw [hL]; simp)
        rw [Nat.zero_testBit] at this
        exact absurd this.2.2 (by decide)
    rw [hl0, cN_1 (by omega) q0, if_pos (by omega), (hJ.2 l hln).1]
    have z : smZ (fun i => if inS (i : Int) ((ndN s (2 ^ l) : Nat) : Int) then smZ (fun f => if endJ T (l : Int) (plJ T (i : Int)) (f : Int) = (e : Int) then nbO T ((ndN s (2 ^ l) : Nat) : Int) (i : Int) (f : Int) else 0) 29 else 0) n = 0 := by
      rw [smZ_ext (a := 0) (Nat.zero_le n) (fun i _ _ => by
        rw [← eR, if_neg]
        intro z
        have := ((hin i).mp z).2
        rw [q0, Nat.zero_testBit] at this
        exact absurd this (by decide))]
      rfl
    rw [z]
    omega
  · have hk : ∃ k, (elB (ndN s (2 ^ l)) n).length = k + 1 := by
      cases hz : (elB (ndN s (2 ^ l)) n).length with
      | zero => exact absurd (elB_0 (by omega) hz) q0
      | succ k => exact ⟨k, rfl⟩
    obtain ⟨k, hk⟩ := hk
    rw [hk, cN_s hJ.1.2.2 hp h8 (by omega) hk, if_neg (by omega), Int.zero_add]
    refine smZ_eq (fun i hi => ?_)
    by_cases q : (ndN s (2 ^ l)).testBit i = true
    · rw [← eR, if_pos ((hin i).mpr ⟨by omega, q⟩), if_pos q]
      refine smZ_eq (fun f hf => ?_)
      rw [(hJ.2 l hln).1, (hJ.2 i hi).2.1, hTk i q f hf]
      unfold cNs
      rw [elB_len1 hk q hi]
    · rw [← eR, if_neg (fun z => q ((hin i).mp z).2), if_neg q]
theorem noI_ok {T : Mm} {J : Nat → Nat → Int} {n : Nat} (hJ : JE T J n) {p w : Int} (hp : 0 ≤ p ∧ p ≤ 15) {s : Nat} (hs : s < 2 ^ n) (acc : Int) (h : ∀ l : Nat, s.testBit l = true → ndN s (2 ^ l) ≠ 0 → TOK T J p n (ndN s (2 ^ l))) : ∀ k, k ≤ 8 → (∀ l : Nat, l < k → s.testBit l = true → ∀ e : Nat, e < 29 → nbO (noI T w p (s : Int) acc k).1 (s : Int) (l : Int) (e : Int) = cNs J p n s l (e : Int)) ∧ (∀ s2 l2 e2 : Int, s2 ≠ (s : Int) → nbO (noI T w p (s : Int) acc k).1 s2 l2 e2 = nbO T s2 l2 e2) ∧ (noI T w p (s : Int) acc k).2 = acc + smZ (fun l => if s.testBit l = true then (if (s : Int) = w then smZ (fun e => cNs J p n s l (e : Int)) 29 else 0) else 0) k
  | 0, _ => ⟨fun l hl => by omega, fun _ _ _ _ => rfl, by show acc = acc + 0; omega⟩
  | k + 1, hk => by
    have ih := noI_ok (w := w) hJ hp hs acc h k (by omega)
    have hoff : ∀ a, a ≠ 105 → (noI T w p (s : Int) acc k).1 a = T a := fun a ha => noI_off T w p (s : Int) acc ha k
    have hin : inS (k : Int) (s : Int) ↔ s.testBit k = true := by
      unfold inS
      rw [Int.toNat_natCast, Int.toNat_natCast]
      exact ⟨fun z => z.2.2, fun z => ⟨by omega, by omega, z⟩⟩
    rw [noI]
    generalize noI T w p (s : Int) acc k = S at *
    by_cases q : s.testBit k = true
    · rw [if_pos (hin.mpr q)]
      have hJS : JE S.1 J n := hJ.of (fun a h1 h2 => hoff a (by omega))
      have hne : ndN s (2 ^ k) ≠ s := by have := ndN_lt q; omega
      have g := nt_ok hJS hp hs q (fun hz l hl e he => by
        rw [ih.2.1 _ _ _ (by omega)]
        exact h k q hz l hl e he)
      refine ⟨fun l hl hb e he => ?_, fun s2 l2 e2 h2 => ?_, ?_⟩
      · show nbO (ntM S.1 (s : Int) (k : Int) p) (s : Int) (l : Int) (e : Int) = _
        by_cases y : l = k
        · rw [y]
          exact g.1 e he
        · rw [g.2 _ _ _ (by omega)]
          exact ih.1 l (by omega) hb e he
      · show nbO (ntM S.1 (s : Int) (k : Int) p) s2 l2 e2 = _
        rw [g.2 _ _ _ (fun z => h2 z.1)]
        exact ih.2.1 s2 l2 e2 h2
      · show S.2 + (if (s : Int) = w then smO (ntM S.1 (s : Int) (k : Int) p) (s : Int) (k : Int) else 0) = _
        rw [ih.2.2, smZ, if_pos q, Int.add_assoc]
        by_cases y : (s : Int) = w
        · rw [if_pos y, if_pos y]
          unfold smO
          rw [smZ_eq (fun e he => g.1 e he)]
        · rw [if_neg y, if_neg y]
    · rw [if_neg (fun z => q (hin.mp z))]
      refine ⟨fun l hl hb e he => ?_, ih.2.1, ?_⟩
      · by_cases y : l = k
        · rw [y] at hb
          exact absurd hb q
        · exact ih.1 l (by omega) hb e he
      · rw [ih.2.2, smZ, if_neg q]
        omega
theorem noS_ok {T : Mm} {J : Nat → Nat → Int} {n : Nat} (hJ : JE T J n) {p : Int} (hp : 0 ≤ p ∧ p ≤ 15) {w : Nat} (hw : w < 2 ^ n) : ∀ k, k ≤ w → (∀ s : Nat, 0 < s → s ≤ k → ndN s w = 0 → TOK (noS T (w : Int) p (k + 1)).1 J p n s) ∧ (noS T (w : Int) p (k + 1)).2 = if 0 < k ∧ k = w then smZ (fun l => if w.testBit l = true then smZ (fun e => cNs J p n w l (e : Int)) 29 else 0) 8 else 0
  | 0, _ => by
    refine ⟨fun s h1 h2 => by omega, ?_⟩
    rw [if_neg (by omega)]
    rfl
  | k + 1, hk => by
    have ih := noS_ok hJ hp hw k (by omega)
    have hoff : ∀ a, a ≠ 105 → (noS T (w : Int) p (k + 1)).1 a = T a := fun a ha => noS_off T (w : Int) p ha (k + 1)
    rw [noS]
    rw [Int.toNat_natCast]
    generalize noS T (w : Int) p (k + 1) = S at *
    have h0 : S.2 = 0 := by rw [ih.2, if_neg (by omega)]
    by_cases q : ndN (k + 1) w = 0
    · rw [if_pos q]
      have hJS : JE S.1 J n := hJ.of (fun a h1 h2 => hoff a (by omega))
      have hp2 := p2_256 hJ.1.2.1
      have g := noI_ok (w := (w : Int)) hJS hp (s := k + 1) (by omega) S.2 (fun l hl hz => ih.1 _ (by omega) (by have := ndN_lt hl; omega) (ndN_sub q)) 8 (Nat.le_refl 8)
      refine ⟨fun s h1 h2 hsw l hl e he => ?_, ?_⟩
      · by_cases y : s = k + 1
        · subst y
          have hl8 : l < 8 := by
            by_cases z : l < 8
            · exact z
            · rw [Nat.testBit_lt_two_pow (Nat.lt_of_lt_of_le (show k + 1 < 2 ^ 8 by omega) (Nat.pow_le_pow_right (by decide) (by omega)))] at hl
              exact absurd hl (by decide)
          exact g.1 l hl8 hl e he
        · rw [g.2.1 _ _ _ (by omega)]
          exact ih.1 s h1 (by omega) hsw l hl e he
      · rw [g.2.2, h0, Int.zero_add]
        by_cases y : k + 1 = w
        · rw [if_pos ⟨by omega, y⟩]
          refine smZ_eq (fun l _ => ?_)
          rw [y, if_pos rfl]
        · rw [if_neg (fun z => y z.2)]
          rw [smZ_ext (a := 0) (Nat.zero_le 8) (fun l _ _ => by
            rw [if_neg (show ¬ ((k + 1 : Nat) : Int) = (w : Int) by omega)]
            split <;> rfl)]
          rfl
    · rw [if_neg q]
      have hne : k + 1 ≠ w := fun z => q (by rw [z]; exact ndN_self w)
      refine ⟨fun s h1 h2 hsw => ?_, ?_⟩
      · by_cases y : s = k + 1
        · rw [y] at hsw
          exact absurd hsw q
        · exact ih.1 s h1 (by omega) hsw
      · rw [h0, if_neg (fun z => hne z.2)]
/-- the tally is right -/
theorem no_all {T : Mm} {J : Nat → Nat → Int} {n : Nat} (hJ : JE T J n) {p : Int} (hp : 0 ≤ p ∧ p ≤ 15) {w : Nat} (hw : w < 2 ^ n) (h0 : 0 < w) : (noS T (w : Int) p (w + 1)).2 = (((pmF (elB w n).length (elB w n)).countP (feL J p) : Nat) : Int) := by
  have h8 := hJ.1.2.1
  rw [(noS_ok hJ hp hw w (Nat.le_refl w)).2, if_pos ⟨h0, rfl⟩]
  have hk : ∃ k, (elB w n).length = k + 1 := by
    cases hz : (elB w n).length with
    | zero =>
      have := elB_0 hw hz
      omega
    | succ k => exact ⟨k, rfl⟩
  obtain ⟨k, hk⟩ := hk
  rw [hk, cN_all hJ.1.2.2 hp h8 hk, smZ_ext (a := n) h8 (fun l h1 h2 => by
    rw [if_neg]
    rw [Nat.testBit_lt_two_pow (Nat.lt_of_lt_of_le hw (Nat.pow_le_pow_right (by decide) h1))]
    decide)]
  refine smZ_eq (fun l hl => ?_)
  by_cases q : w.testBit l = true
  · rw [if_pos q, if_pos q]
    refine smZ_eq (fun e _ => ?_)
    unfold cNs
    rw [elB_len1 hk q hl]
  · rw [if_neg q, if_neg q]
theorem Rl.hi {M M2 : Mm} (h : Rl M) (e : ∀ a, a < 104 → M2 a = M a) : Rl M2 := by
  refine h.ke (fun a b q => by unfold keC at q; rw [e a (by omega)]) (h.1.fr0 (fun a h1 h2 => e a (by omega))) (h.2.2.1.2.2.of2 (fun b _ => by rw [e 0 (by decide)]) (e 76 (by decide)) (e 78 (by decide)) (fun b _ => by rw [e 77 (by decide)])) (RB_of h.2.2.2.2 (e 87 (by decide)) (e 88 (by decide)))
def osA (M : Mm) (w : Int) : Int := if ¬ (0 ≤ w ∧ w ≤ ((allN (M 23 4) : Nat) : Int)) then -1 else if w = 0 then 1 else (noS (ldM M) w (stp M) (w.toNat + 1)).2
def osM (M : Mm) (w : Int) : Mm := if ¬ (0 ≤ w ∧ w ≤ ((allN (M 23 4) : Nat) : Int)) then M else (noS (ldM M) w (stp M) (w.toNat + 1)).1
theorem pr_orders {M M2 : Mm} {w z : Int} (h : Rl M) (hx : xodR (osM M w) w z M2) : z = osA M w ∧ Rl M2 := by
  have hm := h.m
  have hl := h.1.l
  unfold osM at hx
  unfold osA
  by_cases c : 0 ≤ w ∧ w ≤ ((allN (M 23 4) : Nat) : Int)
  · rw [if_neg (not_not_intro c)] at hx ⊢
    have eM : ∀ a, a ≠ 105 → (noS (ldM M) w (stp M) (w.toNat + 1)).1 a = ldM M a := fun a ha => noS_off _ _ _ ha _
    have e0 : ∀ a, a ≠ 105 → (a < 48 ∨ 53 < a) → (noS (ldM M) w (stp M) (w.toNat + 1)).1 a = M a := fun a h1 h2 => by rw [eM a h1, ldM_off h2]
    generalize hS : noS (ldM M) w (stp M) (w.toNat + 1) = S at *
    have e3 : jbR S.1 = jbR M ∧ sP S.1 = sP M ∧ S.1 77 12 = M 77 12 := ⟨jbR_off (e0 84 (by decide) (by decide)) (e0 85 (by decide) (by decide)), by unfold sP; rw [e0 84 (by decide) (by decide), e0 77 (by decide) (by decide)], by rw [e0 77 (by decide) (by decide)]⟩
    have cs : SX S.1 w := by
      show 0 ≤ w ∧ w ≤ ((allN (S.1 77 12) : Nat) : Int)
      rw [e3.2.2, hm.2.1]
      exact c
    rcases hx with ⟨q, _⟩ | ⟨_, hF, hz⟩
    · exact absurd cs q
    · constructor
      · have hQ := feL_p h e3 (s := w.toNat)
        have hn12 : (S.1 77 12).toNat = (M 23 4).toNat := by rw [e3.2.2, hm.2.1]
        have hpm : pmM S.1 w.toNat = pmF (elB w.toNat (M 23 4).toNat).length (elB w.toNat (M 23 4).toNat) := by unfold pmM; rw [hn12]
        have hcc : (pmM S.1 w.toNat).countP (feL (jbR S.1) (sP S.1)) = (pmM S.1 w.toNat).countP (feL (jbR M) (stp M)) := by
          apply List.countP_congr
          intro L hL
          rw [hQ L hL]
          exact Iff.rfl
        rw [hz, hcc, hpm]
        by_cases q : w = 0
        · rw [if_pos q, q]
          have e00 : elB (0 : Int).toNat (M 23 4).toNat = [] := by
            cases hL : elB (0 : Int).toNat (M 23 4).toNat with
            | nil => rfl
            | cons x t =>
              have := elB_mem (s := (0 : Int).toNat) (i := (M 23 4).toNat) (x := x) (by rw [hL]; simp)
              rw [show (0 : Int).toNat = 0 from rfl, Nat.zero_testBit] at this
              exact absurd this.2.2 (by decide)
          rw [e00]
          rfl
        · rw [if_neg q, ← hS]
          have := no_all h.je h.1.sp (w := w.toNat) (by rw [← allN_lt]; omega) (by omega)
          rw [Int.toNat_of_nonneg c.1] at this
          exact this.symm
      · have hM0 : ∃ M0 : Mm, M0 = fun a => if a = 105 then M 105 else S.1 a := ⟨_, rfl⟩
        obtain ⟨M0, hM0⟩ := hM0
        have m1 : ∀ a, a ≠ 105 → M0 a = S.1 a := fun a ha => by rw [hM0]; exact if_neg ha
        have m2 : M0 105 = M 105 := by rw [hM0]; exact if_pos rfl
        have hM3 : ∃ M3 : Mm, M3 = fun a => if a = 105 then M 105 else M2 a := ⟨_, rfl⟩
        obtain ⟨M3, hM3⟩ := hM3
        have m3 : ∀ a, a ≠ 105 → M3 a = M2 a := fun a ha => by rw [hM3]; exact if_neg ha
        have m4 : M3 105 = M 105 := by rw [hM3]; exact if_pos rfl
        have eU : ∀ a, a < 48 ∨ 62 < a → M0 a = M a := fun a ha => by
          by_cases z : a = 105
          · rw [z, m2]
          · rw [m1 a z, e0 a z (by omega)]
        have hC : CI M0 := h.1.ld.fr0 (fun a h1 h2 => by rw [m1 a (by omega), eM a (by omega)])
        have f3 : ∀ a, a ≠ 77 → a ≠ 89 → a ≠ 90 → M3 a = M0 a := fun a h1 h2 h3 => by
          by_cases z : a = 105
          · rw [z, m4, m2]
          · rw [m3 a z, m1 a z, hF.1 a h1 h2 h3]
        have h3 : Rl M3 := h.ask0 eU hC (KQ.x (fun a h1 h2 h3 => f3 a h1 (by omega) (by omega)) (fun b hb => by rw [m3 77 (by decide), m1 77 (by decide), hF.2 b (by omega) (by omega)])) (fun a ha => f3 a (by omega) (by omega) (by omega)) (by rw [m3 77 (by decide), m1 77 (by decide), hF.2 2 (by decide) (by decide)])
        exact h3.hi (fun a ha => (m3 a (by omega)).symm)
  · rw [if_pos c] at hx ⊢
    have cs : ¬ SX M w := by
      show ¬ (0 ≤ w ∧ w ≤ ((allN (M 77 12) : Nat) : Int))
      rw [hm.2.1]
      exact c
    rcases hx with ⟨_, hz, e⟩ | ⟨q, _⟩
    · rw [e]
      exact ⟨hz, h⟩
    · exact absurd q cs
