def dhV (kd h k q : Int) (x : Nat) : Int := if kd = 0 then (if x = h.toNat then q else 0) else (if x = (xgi kd h k).toNat then -q else 0) + (if x = (xta kd h k).toNat then q else 0)
def doV (kd h k q : Int) (x : Nat) : Int := if kd = 0 then 0 else (if x = (8 * k + h).toNat then (if kd = 1 then q else 0) else 0) + (if x = (8 * h + k).toNat then (if kd = 3 then 2 * q else if kd = 4 then -q else 0) else 0)
theorem ad_at (U : Mm) (a g x : Nat) (v : Int) : stM U a g (U a g + v) a x = U a x + (if x = g then v else 0) := by
  by_cases z : x = g
  · rw [z, stM_at, if_pos rfl]
  · rw [stM_ne _ _ (Or.inr z), if_neg z]
    omega
theorem mv_at (U : Mm) (a g t x : Nat) (v : Int) : stM (stM U a g (U a g - v)) a t (stM U a g (U a g - v) a t + v) a x = U a x + ((if x = g then -v else 0) + (if x = t then v else 0)) := by
  rw [ad_at, Int.sub_eq_add_neg, ad_at, Int.add_assoc]
theorem seM_64 {U : Mm} {kd h k q : Int} (hkd : 0 ≤ kd ∧ kd ≤ 4) (x : Nat) : seM U kd h k q 64 x = U 64 x + dhV kd h k q x := by
  unfold seM dhV xgi xta
  by_cases c0 : kd = 0
  · rw [if_pos c0, if_pos c0]
    exact ad_at U 64 _ x q
  · rw [if_neg c0, if_neg c0]
    by_cases c3 : kd = 3
    · rw [if_neg (by omega), if_neg (by omega), if_pos c3, if_pos c3, if_pos c3]
      unfold oaM mvM
      rw [stM_off (by decide)]
      exact mv_at U 64 _ _ x q
    · rw [if_neg c3, if_neg c3, if_neg c3]
      by_cases c1 : kd = 1
      · rw [if_pos c1]
        unfold oaM mvM
        rw [stM_off (by decide)]
        exact mv_at U 64 _ _ x q
      · rw [if_neg c1]
        by_cases c2 : kd = 2
        · rw [if_pos c2]
          exact mv_at U 64 _ _ x q
        · rw [if_neg c2]
          unfold oaM mvM
          rw [stM_off (by decide)]
          exact mv_at U 64 _ _ x q
theorem mvM_o {U : Mm} {h k q : Int} {a : Nat} (ha : a ≠ 64) : mvM U h k q a = U a := by
  unfold mvM
  rw [stM_off ha, stM_off ha]
theorem seM_65 {U : Mm} {kd h k q : Int} (hkd : 0 ≤ kd ∧ kd ≤ 4) (x : Nat) : seM U kd h k q 65 x = U 65 x + doV kd h k q x := by
  unfold seM doV
  by_cases c0 : kd = 0
  · rw [if_pos c0, if_pos c0, stM_off (by decide)]
    omega
  · rw [if_neg c0, if_neg c0]
    by_cases c3 : kd = 3
    · rw [if_neg (by omega), if_neg (by omega), if_pos c3, if_pos c3, if_neg (by omega : ¬ kd = 1)]
      unfold oaM
      rw [mvM_o (by decide), show (h * 8 + k).toNat = (8 * h + k).toNat by omega]
      have := ad_at (mvM U k h q) 65 (8 * h + k).toNat x (2 * q)
      rw [mvM_o (by decide)] at this
      rw [this]
      split <;> omega
    · rw [if_neg c3, if_neg c3]
      by_cases c1 : kd = 1
      · rw [if_pos c1, if_pos c1, if_neg (by omega : ¬ kd = 4)]
        unfold oaM
        rw [mvM_o (by decide), show (k * 8 + h).toNat = (8 * k + h).toNat by omega]
        have := ad_at (mvM U h k q) 65 (8 * k + h).toNat x q
        rw [mvM_o (by decide)] at this
        rw [this]
        have z : (if x = (8 * h + k).toNat then (0 : Int) else 0) = 0 := by split <;> rfl
        rw [z]
        omega
      · rw [if_neg c1, if_neg c1]
        have z : (if x = (8 * k + h).toNat then (0 : Int) else 0) = 0 := by split <;> rfl
        rw [z]
        by_cases c2 : kd = 2
        · rw [if_pos c2, if_neg (by omega : ¬ kd = 4), mvM_o (by decide)]
          split <;> omega
        · rw [if_neg c2, if_pos (by omega : kd = 4)]
          unfold oaM
          rw [mvM_o (by decide), show (h * 8 + k).toNat = (8 * h + k).toNat by omega]
          have := ad_at (mvM U h k q) 65 (8 * h + k).toNat x (-q)
          rw [mvM_o (by decide)] at this
          rw [this]
          omega
theorem xseM_97 (U : Mm) (kd h k q : Int) (x : Nat) : xseM U kd h k q 97 x = U 97 x + dhV kd h k q x := by
  unfold xseM dhV
  by_cases c0 : kd = 0
  · rw [if_pos c0, if_pos c0]
    exact ad_at U 97 _ x q
  · rw [if_neg c0, if_neg c0]
    unfold xs4 xs3
    rw [stM_off (by decide), stM_off (by decide)]
    unfold xs2 xs1
    exact mv_at U 97 _ _ x q
theorem xseM_98 (U : Mm) (kd h k q : Int) (x : Nat) : xseM U kd h k q 98 x = U 98 x + doV kd h k q x := by
  unfold xseM doV
  by_cases c0 : kd = 0
  · rw [if_pos c0, if_pos c0, stM_off (by decide)]
    omega
  · rw [if_neg c0, if_neg c0]
    unfold xs4
    rw [ad_at]
    unfold xs3
    rw [ad_at]
    have : xs2 U kd h k q 98 x = U 98 x := by
      unfold xs2 xs1
      rw [stM_off (by decide), stM_off (by decide)]
    rw [this, Int.add_assoc]
/-- the ledger alone has changed, the same on both sides -/
theorem Rl.led {M M2 : Mm} (h : Rl M) (e : ∀ a, a ≤ 62 ∨ (70 ≤ a ∧ a ≤ 76) ∨ (78 ≤ a ∧ a ≤ 96) ∨ (100 ≤ a ∧ a ≤ 103) → M2 a = M a) (s : ∀ b, ¬ b = 35 → M2 77 b = M 77 b) (hD : DLW M2) (hL : RlL M2) (hX : DLX M2) : Rl M2 := by
  obtain ⟨hc0, ⟨hR, hT, hV⟩, ⟨_, hP, hO⟩, ⟨⟨i1, i2, i3⟩, ⟨_, i5, i6⟩, i7, i8⟩, hB⟩ := h
  refine ⟨⟨⟨?_, NDA_of2 (fun a _ _ => e a (by omega)) hc0.nd, ?_, ?_⟩, ⟨JW_of (fun a _ _ => e a (by omega)) hc0.j, PW_fr (fun a _ _ => e a (by omega)) hc0.p, WW_fr (fun a _ _ => e a (by omega)) hc0.w, CW_fr (fun a _ _ => e a (by omega)) hc0.c⟩, hD, ⟨?_, ?_⟩, ?_, ?_⟩, ⟨hR.of (fun a q => e a (by omega)), hT.of (fun a q => e a (by omega)), hV.of hc0.l.2.2.2 (fun a q => e a (by omega)) (fun b q => s b (by omega))⟩, ⟨hL, hP.of (fun a q => e a (by omega)) (fun b q => s b (by omega)), hO.of (fun a q => e a (by omega)) (fun b q => s b (by omega))⟩, ⟨⟨i1.of (e 84 (by decide)) (e 85 (by decide)) (e 86 (by decide)) (s 10 (by decide)) (s 12 (by decide)) (s 15 (by decide)), i2.of (e 79 (by decide)) (e 80 (by decide)), i3.of (e 82 (by decide)) (e 83 (by decide))⟩, ⟨hX, i5.of (e 100 (by decide)) (e 101 (by decide)) (s 37 (by decide)), i6.of (e 102 (by decide)) (e 103 (by decide)) (s 40 (by decide))⟩, ?_, ?_⟩, RB_of hB (e 87 (by decide)) (e 88 (by decide))⟩
  · unfold LW; rw [e 23 (by decide)]; exact hc0.l
  · intro j; rw [e 24 (by decide)]; exact hc0.pl j
  · rw [e 23 (by decide)]; exact hc0.st
  · intro o ho; rw [e o (by omega), e (o + 1) (by omega)]; exact hc0.rw o ho
  · intro o ho h15; rw [e (o + 1) (by omega)]; exact hc0.tw o ho h15
  · unfold PRW; rw [e 70 (by decide), e 71 (by decide), e 72 (by decide)]; exact hc0.p70
  · unfold PRW; rw [e 73 (by decide), e 74 (by decide), e 75 (by decide)]; exact hc0.p73
  · rw [e 93 (by decide)]; exact i7
  · rw [e 85 (by decide)]; exact i8
theorem dhV_o (kd h k q : Int) (x : Nat) : dhV kd h (deO kd h k) q x = dhV kd h k q x := by
  unfold dhV xgi xta deO
  by_cases c : kd = 0
  · rw [if_pos c, if_pos c]
  · rw [if_neg c, if_neg c, if_neg c]
theorem doV_o (kd h k q : Int) (x : Nat) : doV kd h (deO kd h k) q x = doV kd h k q x := by
  unfold doV deO
  by_cases c : kd = 0
  · rw [if_pos c, if_pos c]
  · rw [if_neg c, if_neg c, if_neg c]
theorem dhV_z {kd h k q n : Int} (hh : 0 ≤ h ∧ h < n) (hk : kd = 0 ∨ (0 ≤ k ∧ k < n)) {x : Nat} (hx : n ≤ (x : Int)) : dhV kd h k q x = 0 := by
  unfold dhV xgi xta
  by_cases c : kd = 0
  · rw [if_pos c, if_neg (by omega)]
  · rw [if_neg c]
    by_cases c3 : kd = 3
    · rw [if_pos c3, if_pos c3, if_neg (by omega), if_neg (by omega)]
      rfl
    · rw [if_neg c3, if_neg c3, if_neg (by omega), if_neg (by omega)]
      rfl
theorem doV_z {kd h k q n : Int} (hn : n ≤ 8) (hh : 0 ≤ h ∧ h < n) (hk : kd = 0 ∨ ((0 ≤ k ∧ k < n) ∧ ¬ h = k)) {a b : Nat} (ha : a < 8) (hb : b < 8) (hx : n ≤ (a : Int) ∨ n ≤ (b : Int) ∨ a = b) : doV kd h k q (8 * a + b) = 0 := by
  unfold doV
  by_cases c : kd = 0
  · rw [if_pos c]
  · rw [if_neg c, if_neg (by omega), if_neg (by omega)]
    rfl
theorem seM_o {U : Mm} {kd h k q : Int} {a : Nat} (h1 : a ≠ 64) (h2 : a ≠ 65) : seM U kd h k q a = U a := seM_off U kd h k q h1 h2
theorem Rl.deal {M : Mm} (h : Rl M) {kd p k q : Int} (hkd : 0 ≤ kd ∧ kd ≤ 4) (hp : HS M p) (hk : kd = 0 ∨ (HS M k ∧ ¬ p = k)) (hq : 1 ≤ q ∧ q ≤ 99) (hn : M 63 6 < 16) : Rl (xdeN (enM M kd p (deO kd p k) q) kd p k q) := by
  have hl := h.1.l
  have hD := h.1.d
  have hL := h.2.2.1.1
  have hX := h.2.2.2.1.2.1.1
  have hp0 := hp.1
  have hp1 := hp.2
  have ho8 : 0 ≤ deO kd p k ∧ deO kd p k < 8 := by unfold deO; split <;> omega
  have hk2 : kd = 0 ∨ ((0 ≤ k ∧ k < M 23 3) ∧ ¬ p = k) := by rcases hk with z | z; exact Or.inl z; exact Or.inr ⟨⟨z.1.1, z.1.2⟩, z.2⟩
  have hk3 : kd = 0 ∨ (0 ≤ k ∧ k < M 23 3) := by omega
  generalize hN : M 63 6 = N at *
  have hU : ∃ U, U = stM (stM (stM (stM (stM M 66 N.toNat kd) 67 N.toNat p) 68 N.toNat (deO kd p k)) 69 N.toNat q) 63 6 (N + 1) := ⟨_, rfl⟩
  obtain ⟨U, hU⟩ := hU
  have eU : ∀ a b, ¬ (a = 66 ∧ b = N.toNat) → ¬ (a = 67 ∧ b = N.toNat) → ¬ (a = 68 ∧ b = N.toNat) → ¬ (a = 69 ∧ b = N.toNat) → ¬ (a = 63 ∧ b = 6) → U a b = M a b := fun a b h1 h2 h3 h4 h5 => by rw [hU, stM_ne _ _ (by omega), stM_ne _ _ (by omega), stM_ne _ _ (by omega), stM_ne _ _ (by omega), stM_ne _ _ (by omega)]
  have u63 : U 63 6 = N + 1 := by rw [hU]; exact stM_at _ _ _ _
  have u69 : U 69 N.toNat = q := by rw [hU, stM_ne _ _ (by omega)]; exact stM_at _ _ _ _
  have u68 : U 68 N.toNat = deO kd p k := by rw [hU, stM_ne _ _ (by omega), stM_ne _ _ (by omega)]; exact stM_at _ _ _ _
  have u67 : U 67 N.toNat = p := by rw [hU, stM_ne _ _ (by omega), stM_ne _ _ (by omega), stM_ne _ _ (by omega)]; exact stM_at _ _ _ _
  have u66 : U 66 N.toNat = kd := by rw [hU, stM_ne _ _ (by omega), stM_ne _ _ (by omega), stM_ne _ _ (by omega), stM_ne _ _ (by omega)]; exact stM_at _ _ _ _
  have hE : enM M kd p (deO kd p k) q = seM U kd p (deO kd p k) q := by unfold enM; rw [hN, hU]
  rw [hE]
  have s35 : seM U kd p (deO kd p k) q 77 35 = N := by
    rw [seM_o (by decide) (by decide), eU 77 35 (by omega) (by omega) (by omega) (by omega) (by omega), hL.2.1, hN]
  have hW : ∃ W, W = xseM (seM U kd p (deO kd p k) q) kd p k q := ⟨_, rfl⟩
  obtain ⟨W, hW⟩ := hW
  have eW : ∀ a b, a ≠ 64 → a ≠ 65 → a ≠ 97 → a ≠ 98 → W a b = U a b := fun a b h1 h2 h3 h4 => by rw [hW, xseM_off _ _ _ _ _ h3 h4, seM_o h1 h2]
  have w64 : ∀ x, W 64 x = M 64 x + dhV kd p k q x := fun x => by rw [hW, xseM_off _ _ _ _ _ (by decide) (by decide), seM_64 hkd, dhV_o, eU 64 x (by omega) (by omega) (by omega) (by omega) (by omega)]
  have w65 : ∀ x, W 65 x = M 65 x + doV kd p k q x := fun x => by rw [hW, xseM_off _ _ _ _ _ (by decide) (by decide), seM_65 hkd, doV_o, eU 65 x (by omega) (by omega) (by omega) (by omega) (by omega)]
  have w97 : ∀ x, W 97 x = M 97 x + dhV kd p k q x := fun x => by rw [hW, xseM_97, seM_o (by decide) (by decide), eU 97 x (by omega) (by omega) (by omega) (by omega) (by omega)]
  have w98 : ∀ x, W 98 x = M 98 x + doV kd p k q x := fun x => by rw [hW, xseM_98, seM_o (by decide) (by decide), eU 98 x (by omega) (by omega) (by omega) (by omega) (by omega)]
  unfold xdeN
  rw [s35, ← hW]
  have hV : ∃ V, V = stM (stM (stM (stM (stM W 99 (4 * N).toNat kd) 99 (4 * N + 1).toNat p) 99 (4 * N + 2).toNat k) 99 (4 * N + 3).toNat q) 77 35 (N + 1) := ⟨_, rfl⟩
  obtain ⟨V, hV⟩ := hV
  rw [← hV]
  have eV : ∀ a b, ¬ (a = 99 ∧ 4 * N.toNat ≤ b ∧ b ≤ 4 * N.toNat + 3) → ¬ (a = 77 ∧ b = 35) → V a b = W a b := fun a b h1 h2 => by rw [hV, stM_ne _ _ (by omega), stM_ne _ _ (by omega), stM_ne _ _ (by omega), stM_ne _ _ (by omega), stM_ne _ _ (by omega)]
  have v35 : V 77 35 = N + 1 := by rw [hV]; exact stM_at _ _ _ _
  have v3 : V 99 (4 * N.toNat + 3) = q := by rw [hV, stM_ne _ _ (by omega), show (4 * N + 3).toNat = 4 * N.toNat + 3 by omega]; exact stM_at _ _ _ _
  have v2 : V 99 (4 * N.toNat + 2) = k := by rw [hV, stM_ne _ _ (by omega), stM_ne _ _ (by omega), show (4 * N + 2).toNat = 4 * N.toNat + 2 by omega]; exact stM_at _ _ _ _
  have v1 : V 99 (4 * N.toNat + 1) = p := by rw [hV, stM_ne _ _ (by omega), stM_ne _ _ (by omega), stM_ne _ _ (by omega), show (4 * N + 1).toNat = 4 * N.toNat + 1 by omega]; exact stM_at _ _ _ _
  have v0 : V 99 (4 * N.toNat) = kd := by rw [hV, stM_ne _ _ (by omega), stM_ne _ _ (by omega), stM_ne _ _ (by omega), stM_ne _ _ (by omega), show (4 * N).toNat = 4 * N.toNat by omega]; exact stM_at _ _ _ _
  have f : ∀ a b, (a ≤ 62 ∨ (70 ≤ a ∧ a ≤ 76) ∨ (78 ≤ a ∧ a ≤ 96) ∨ (100 ≤ a ∧ a ≤ 103) ∨ (a = 77 ∧ ¬ b = 35)) → V a b = M a b := fun a b z => by rw [eV a b (by omega) (by omega), eW a b (by omega) (by omega) (by omega) (by omega), eU a b (by omega) (by omega) (by omega) (by omega) (by omega)]
  have g : ∀ a b, (66 ≤ a ∧ a ≤ 69) → ¬ b = N.toNat → V a b = M a b := fun a b z1 z2 => by rw [eV a b (by omega) (by omega), eW a b (by omega) (by omega) (by omega) (by omega), eU a b (by omega) (by omega) (by omega) (by omega) (by omega)]
  have gN : ∀ a, (66 ≤ a ∧ a ≤ 69) → V a N.toNat = U a N.toNat := fun a z1 => by rw [eV a _ (by omega) (by omega), eW a _ (by omega) (by omega) (by omega) (by omega)]
  have v63 : V 63 6 = N + 1 := by rw [eV 63 6 (by omega) (by omega), eW 63 6 (by omega) (by omega) (by omega) (by omega), u63]
  have v23 : V 23 3 = M 23 3 := f 23 3 (by omega)
  have v64 : ∀ x, V 64 x = M 64 x + dhV kd p k q x := fun x => by rw [eV 64 x (by omega) (by omega), w64]
  have v65 : ∀ x, V 65 x = M 65 x + doV kd p k q x := fun x => by rw [eV 65 x (by omega) (by omega), w65]
  have v97 : ∀ x, V 97 x = M 97 x + dhV kd p k q x := fun x => by rw [eV 97 x (by omega) (by omega), w97]
  have v98 : ∀ x, V 98 x = M 98 x + doV kd p k q x := fun x => by rw [eV 98 x (by omega) (by omega), w98]
  refine h.led (fun a z => by funext b; exact f a b (by omega)) (fun b z => f 77 b (by omega)) ⟨by rw [v63]; omega, fun j => ?_⟩ ⟨⟨fun x hx => ?_, fun x hx => ?_, fun x hx z => ?_, fun x y hx hy z => ?_⟩, by rw [v35, v63], fun i hi => ?_⟩ ⟨by rw [v35]; omega, fun i h1 h2 => ?_⟩
  · by_cases z : j = N.toNat
    · rw [z, gN 66 (by decide), gN 67 (by decide), gN 68 (by decide), gN 69 (by decide), u66, u67, u68, u69]
      exact ⟨hkd, ⟨by omega, by omega⟩, ho8, by omega⟩
    · rw [g 66 j (by decide) z, g 67 j (by decide) z, g 68 j (by decide) z, g 69 j (by decide) z]
      exact hD.2 j
  · rw [v97, v64, hL.1.1 x hx]
  · rw [v98, v65, hL.1.2.1 x hx]
  · rw [v23] at z
    rw [v64, hL.1.2.2.1 x hx z, dhV_z (n := M 23 3) ⟨hp0, hp1⟩ hk3 z]
    rfl
  · rw [v23] at z
    rw [v65, hL.1.2.2.2 x y hx hy z, doV_z (n := M 23 3) hl.2.1 ⟨hp0, hp1⟩ hk2 hx hy z]
    rfl
  · rw [v63] at hi
    rw [v23]
    by_cases z : i = N.toNat
    · rw [z, v0, v1, v2, v3, gN 66 (by decide), gN 67 (by decide), gN 68 (by decide), gN 69 (by decide), u66, u67, u68, u69]
      refine ⟨⟨rfl, rfl, rfl, hp1⟩, ?_⟩
      by_cases c : kd = 0
      · exact Or.inl c
      · right
        unfold deO
        rw [if_neg c]
        exact ⟨rfl, by omega, by omega⟩
    · rw [g 66 i (by decide) z, g 67 i (by decide) z, g 68 i (by decide) z, g 69 i (by decide) z, eV 99 _ (by omega) (by omega), eV 99 _ (by omega) (by omega), eV 99 _ (by omega) (by omega), eV 99 _ (by omega) (by omega), eW 99 _ (by omega) (by omega) (by omega) (by omega), eW 99 _ (by omega) (by omega) (by omega) (by omega), eW 99 _ (by omega) (by omega) (by omega) (by omega), eW 99 _ (by omega) (by omega) (by omega) (by omega), eU 99 _ (by omega) (by omega) (by omega) (by omega) (by omega), eU 99 _ (by omega) (by omega) (by omega) (by omega) (by omega), eU 99 _ (by omega) (by omega) (by omega) (by omega) (by omega), eU 99 _ (by omega) (by omega) (by omega) (by omega) (by omega)]
      exact hL.2.2 i (by omega)
  · have ex : ∀ j : Nat, j < 4 → ¬ i = N → xd V i (j : Int) = xd M i (j : Int) := fun j hj z => by
      unfold xd
      rw [eV 99 _ (by omega) (by omega), eW 99 _ (by omega) (by omega) (by omega) (by omega), eU 99 _ (by omega) (by omega) (by omega) (by omega) (by omega)]
    by_cases z : i = N
    · have y : ∀ j : Nat, xd V i (j : Int) = V 99 (4 * N.toNat + j) := fun j => by
        unfold xd
        rw [show (4 * i + (j : Int)).toNat = 4 * N.toNat + j by omega]
      have y0 := y 0
      have y1 := y 1
      have y2 := y 2
      have y3 := y 3
      rw [Nat.add_zero, v0] at y0
      rw [v1] at y1
      rw [v2] at y2
      rw [v3] at y3
      simp only [show ((0 : Nat) : Int) = 0 from rfl, show ((1 : Nat) : Int) = 1 from rfl, show ((2 : Nat) : Int) = 2 from rfl, show ((3 : Nat) : Int) = 3 from rfl] at y0 y1 y2 y3
      rw [y0, y1, y2, y3]
      exact ⟨hkd, ⟨by omega, by omega⟩, by omega, by omega⟩
    · have h0 := hX.2 i h1 h2
      have e0 := ex 0 (by decide) z
      have e1 := ex 1 (by decide) z
      have e2 := ex 2 (by decide) z
      have e3 := ex 3 (by decide) z
      simp only [show ((0 : Nat) : Int) = 0 from rfl, show ((1 : Nat) : Int) = 1 from rfl, show ((2 : Nat) : Int) = 2 from rfl, show ((3 : Nat) : Int) = 3 from rfl] at e0 e1 e2 e3
      rw [e0, e1, e2, e3]
      exact h0
theorem enM_o {M : Mm} {kd h k q : Int} {a : Nat} (ha : a < 63 ∨ 69 < a) : enM M kd h k q a = M a := by
  unfold enM
  rw [seM_o (by omega) (by omega), stM_off (by omega), stM_off (by omega), stM_off (by omega), stM_off (by omega), stM_off (by omega)]
theorem pr_deal {M : Mm} (h : Rl M) (kd p k q : Int) : xdeA (deaM M kd p k q) kd p k q = deaA M kd p k q ∧ Rl (xdeM (deaM M kd p k q) kd p k q) := by
  have hl := h.1.l
  have hm := h.m
  have hL := h.2.2.1.1
  have hD := h.1.d
  have hp := h.HX (q := p)
  have hk := h.HX (q := k)
  have hB : xdB M kd p k q ↔ (deB M kd p k q ∨ deC M kd p k) := by
    rw [xdB_iff]
    unfold xdB0 deB deC
    rw [hp, hk]
    omega
  unfold xdeA deaA xdeM deaM
  by_cases c1 : deB M kd p k q
  · have x1 := hB.mpr (Or.inl c1)
    simp only [if_pos c1, if_pos x1]
    exact ⟨trivial, h⟩
  · by_cases c2 : deC M kd p k
    · have x1 := hB.mpr (Or.inr c2)
      simp only [if_neg c1, if_pos c2, if_pos x1]
      exact ⟨trivial, h⟩
    · have x1 : ¬ xdB M kd p k q := fun z => (hB.mp z).elim c1 c2
      have hs : HS M p := by unfold deB at c1; omega
      have hk2 : kd = 0 ∨ (HS M k ∧ ¬ p = k) := by unfold deC at c2; omega
      have hkd : 0 ≤ kd ∧ kd ≤ 4 := by unfold deB at c1; omega
      have hq : 1 ≤ q ∧ q ≤ 99 := by unfold deB at c1; omega
      have hS : xdS M kd p k q ↔ ¬ deS M kd p (deO kd p k) q := by
        rw [xdS_iff]
        unfold xdS0 deS xgi deO
        by_cases z : kd = 0
        · constructor
          · rintro (y | y) <;> exfalso <;> omega
          · intro y
            exact absurd (Or.inl z) y
        · rw [if_neg z, show (p * 8 + k).toNat = (8 * p + k).toNat by omega, hL.1.2.1 _ (by omega), hL.1.1 _ (by split <;> omega)]
          omega
      by_cases c3 : deS M kd p (deO kd p k) q
      · have x2 : ¬ xdS M kd p k q := fun z => (hS.mp z) c3
        by_cases c4 : 16 ≤ M 63 6
        · have x3 : M 77 35 = 16 := by rw [hL.2.1]; omega
          simp only [if_neg c1, if_neg c2, if_neg (not_not_intro c3), if_pos c4, if_neg x1, if_neg x2, if_pos x3]
          exact ⟨trivial, h⟩
        · have k77 : enM M kd p (deO kd p k) q 77 = M 77 := enM_o (by omega)
          have y1 : ¬ xdB (enM M kd p (deO kd p k) q) kd p k q := by
            intro z
            apply x1
            rw [xdB_iff] at z ⊢
            unfold xdB0 HX at z ⊢
            rw [k77] at z
            exact z
          have y2 : ¬ xdS (enM M kd p (deO kd p k) q) kd p k q := by
            intro z
            apply x2
            rw [xdS_iff] at z ⊢
            unfold xdS0 at z ⊢
            rw [enM_o (a := 97) (by omega), enM_o (a := 98) (by omega)] at z
            exact z
          have y3 : ¬ enM M kd p (deO kd p k) q 77 35 = 16 := by rw [k77, hL.2.1]; omega
          simp only [if_neg c1, if_neg c2, if_neg (not_not_intro c3), if_neg c4, if_neg y1, if_neg y2, if_neg y3]
          exact ⟨by rw [k77, hL.2.1], h.deal hkd hs hk2 hq (by omega)⟩
      · have x2 : xdS M kd p k q := hS.mpr c3
        simp only [if_neg c1, if_neg c2, if_pos c3, if_neg x1, if_pos x2]
        exact ⟨trivial, h⟩
