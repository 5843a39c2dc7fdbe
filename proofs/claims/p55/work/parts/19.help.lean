/-- rows and texts, pairs -/
abbrev RWW (M : Mm) : Prop := ∀ o : Nat, isRowO o → (-1 ≤ M o 1 ∧ M o 1 ≤ capO o) ∧ ∀ j, ir (M (o + 1) j)
abbrev TWW (M : Mm) : Prop := ∀ o : Nat, isRowO o → 15 ≤ o → ∀ j, -128 ≤ M (o + 1) j ∧ M (o + 1) j ≤ 127
abbrev PRW (M : Mm) (o : Nat) : Prop := (0 ≤ M o 2 ∧ M o 2 ≤ 12) ∧ ∀ j, (0 ≤ M (o + 1) j ∧ M (o + 1) j ≤ 7) ∧ (0 ≤ M (o + 2) j ∧ M (o + 2) j ≤ 99)
/-- what holds of the class's cells between calls -/
def CI (M : Mm) : Prop := (LW M 23 ∧ NDA M ∧ PLW M 23 ∧ (0 ≤ M 23 5 ∧ M 23 5 ≤ 7)) ∧ (JW M ∧ PW M ∧ WW M ∧ CW M) ∧ DLW M ∧ (RWW M ∧ TWW M) ∧ PRW M 70 ∧ PRW M 73
theorem CI.l {M : Mm} (h : CI M) : LW M 23 := h.1.1
theorem CI.nd {M : Mm} (h : CI M) : NDA M := h.1.2.1
theorem CI.pl {M : Mm} (h : CI M) : PLW M 23 := h.1.2.2.1
theorem CI.st {M : Mm} (h : CI M) : 0 ≤ M 23 5 ∧ M 23 5 ≤ 7 := h.1.2.2.2
theorem CI.j {M : Mm} (h : CI M) : JW M := h.2.1.1
theorem CI.p {M : Mm} (h : CI M) : PW M := h.2.1.2.1
theorem CI.w {M : Mm} (h : CI M) : WW M := h.2.1.2.2.1
theorem CI.c {M : Mm} (h : CI M) : CW M := h.2.1.2.2.2
theorem CI.d {M : Mm} (h : CI M) : DLW M := h.2.2.1
theorem CI.rw {M : Mm} (h : CI M) : RWW M := h.2.2.2.1.1
theorem CI.tw {M : Mm} (h : CI M) : TWW M := h.2.2.2.1.2
theorem CI.p70 {M : Mm} (h : CI M) : PRW M 70 := h.2.2.2.2.1
theorem CI.p73 {M : Mm} (h : CI M) : PRW M 73 := h.2.2.2.2.2
theorem NDA_of2 {M M2 : Mm} (hf : ∀ a, 26 ≤ a → a ≤ 34 → M2 a = M a) (h : NDA M) : NDA M2 := by
  refine ⟨?_, fun i hi => ?_⟩
  · show NDR (M2 26); rw [hf 26 (by decide) (by decide)]; exact h.1
  · show NDR (M2 (27 + i)); rw [hf (27 + i) (by omega) (by omega)]; exact h.2 i hi
/-- what is worked with may change -/
theorem CI.fr {M M2 : Mm} (h : CI M) (hf : ∀ a, a < 77 → ¬ (48 ≤ a ∧ a ≤ 62) → M2 a = M a) (hJ : JW M2) (hP : PW M2) (hW : WW M2) (hC : CW M2) : CI M2 := by
  refine ⟨⟨?_, NDA_of2 (fun a h1 h2 => hf a (by omega) (by omega)) h.nd, ?_, ?_⟩, ⟨hJ, hP, hW, hC⟩, ?_, ⟨?_, ?_⟩, ?_, ?_⟩
  · unfold LW; rw [hf 23 (by decide) (by decide)]; exact h.l
  · intro j; rw [hf 24 (by decide) (by decide)]; exact h.pl j
  · rw [hf 23 (by decide) (by decide)]; exact h.st
  · unfold DLW; rw [hf 63 (by decide) (by decide), hf 66 (by decide) (by decide), hf 67 (by decide) (by decide), hf 68 (by decide) (by decide), hf 69 (by decide) (by decide)]; exact h.d
  · intro o ho; rw [hf o (by omega) (by omega), hf (o + 1) (by omega) (by omega)]; exact h.rw o ho
  · intro o ho h15; rw [hf (o + 1) (by omega) (by omega)]; exact h.tw o ho h15
  · unfold PRW; rw [hf 70 (by decide) (by decide), hf 71 (by decide) (by decide), hf 72 (by decide) (by decide)]; exact h.p70
  · unfold PRW; rw [hf 73 (by decide) (by decide), hf 74 (by decide) (by decide), hf 75 (by decide) (by decide)]; exact h.p73
theorem PW_fr {M M2 : Mm} (hf : ∀ a, 58 ≤ a → a ≤ 60 → M2 a = M a) (h : PW M) : PW M2 := by
  unfold PW; rw [hf 58 (by decide) (by decide), hf 59 (by decide) (by decide), hf 60 (by decide) (by decide)]; exact h
theorem WW_fr {M M2 : Mm} (hf : ∀ a, 54 ≤ a → a ≤ 56 → M2 a = M a) (h : WW M) : WW M2 := by
  unfold WW; rw [hf 54 (by decide) (by decide), hf 55 (by decide) (by decide), hf 56 (by decide) (by decide)]; exact h
theorem CW_fr {M M2 : Mm} (hf : ∀ a, 61 ≤ a → a ≤ 62 → M2 a = M a) (h : CW M) : CW M2 := by
  unfold CW; rw [hf 61 (by decide) (by decide), hf 62 (by decide) (by decide)]; exact h
theorem ldM_off {M : Mm} {a : Nat} (h : a < 48 ∨ 53 < a) : ldM M a = M a := ldP_off h
theorem ld_J {M : Mm} (hl : LW M 23) (hnd : NDA M) (hp : PLW M 23) (hJ : JW M) : JW (ldM M) := by
  refine ⟨?_, fun j => ?_⟩
  · show 0 ≤ M 23 4 ∧ M 23 4 ≤ 8
    omega
  · have h0 := hJ.2 j
    by_cases h : (j : Int) < M 23 4
    · have h1 := hnd.2 j (by omega)
      have h2 := plc_b hp (M (27 + j) 1)
      have e : ∀ a, 49 ≤ a → a ≤ 53 → ldM M a j = jv M a j := fun a q1 q2 => by
        unfold ldM ldP
        rw [if_neg (by omega), if_pos ⟨⟨q1, q2⟩, h⟩]
      rw [e 49 (by decide) (by decide), e 50 (by decide) (by decide), e 51 (by decide) (by decide), e 52 (by decide) (by decide), e 53 (by decide) (by decide)]
      show _ ∧ (0 ≤ M (27 + j) 2 ∧ M (27 + j) 2 ≤ 27) ∧ (-10 ≤ ltB (M (27 + j) 0) (M (27 + j) 2) (M (27 + j) 3) (M (27 + j) 4) ∧ ltB (M (27 + j) 0) (M (27 + j) 2) (M (27 + j) 3) (M (27 + j) 4) ≤ 28) ∧ (0 ≤ M (27 + j) 4 ∧ M (27 + j) 4 ≤ 4) ∧ (0 ≤ M (27 + j) 5 ∧ M (27 + j) 5 ≤ 18) ∧ ltB (M (27 + j) 0) (M (27 + j) 2) (M (27 + j) 3) (M (27 + j) 4) + M (27 + j) 4 ≤ 28
      have hlt : ltB (M (27 + j) 0) (M (27 + j) 2) (M (27 + j) 3) (M (27 + j) 4) ≤ M (27 + j) 3 - M (27 + j) 4 + 1 ∧ -10 ≤ ltB (M (27 + j) 0) (M (27 + j) 2) (M (27 + j) 3) (M (27 + j) 4) := by
        unfold ltB
        (repeat' split) <;> omega
      exact ⟨h2, by omega, by omega, by omega, by omega, by omega⟩
    · have e : ∀ a, 49 ≤ a → a ≤ 53 → ldM M a j = M a j := fun a q1 q2 => by
        unfold ldM ldP
        rw [if_neg (by omega), if_neg (by omega)]
      rw [e 49 (by decide) (by decide), e 50 (by decide) (by decide), e 51 (by decide) (by decide), e 52 (by decide) (by decide), e 53 (by decide) (by decide)]
      exact h0
theorem CI.ld {M : Mm} (h : CI M) : CI (ldM M) := h.fr (fun a h1 h2 => ldM_off (by omega)) (ld_J h.l h.nd h.pl h.j) (PW_fr (fun a h1 h2 => ldM_off (by omega)) h.p) (WW_fr (fun a h1 h2 => ldM_off (by omega)) h.w) (CW_fr (fun a h1 h2 => ldM_off (by omega)) h.c)
theorem CI.rc {M : Mm} (h : CI M) {w p f : Int} (hp : 0 ≤ p ∧ p ≤ 15) (hf : vE f) : CI (rcM M w p f) := by
  have g := rcM_W h.j h.p (w := w) hp hf
  exact h.fr (fun a h1 h2 => rcM_off M w p f (by omega) (by omega)) g.1 g.2 (WW_fr (fun a h1 h2 => rcM_off M w p f (by omega) (by omega)) h.w) (CW_fr (fun a h1 h2 => rcM_off M w p f (by omega) (by omega)) h.c)
theorem CI.me {M : Mm} (h : CI M) {i : Int} (ho : okW M i) : CI (meM M i) :=
  h.fr (fun a h1 h2 => meM_off M i (by omega)) (JW_of (fun a h1 h2 => meM_off M i (by omega)) h.j) (PW_fr (fun a h1 h2 => meM_off M i (by omega)) h.p) (WW_me h.j h.w ho) (CW_fr (fun a h1 h2 => meM_off M i (by omega)) h.c)
def bgM (M : Mm) (p : Int) : Mm := stM (stM (stM M 54 3 0) 54 4 p) 54 5 0
theorem bgM_off (M : Mm) (p : Int) {a : Nat} (h : a ≠ 54) : bgM M p a = M a := by unfold bgM; rw [stM_off h, stM_off h, stM_off h]
theorem CI.bg {M : Mm} (h : CI M) {p : Int} (hp : 0 ≤ p ∧ p ≤ 15) : CI (bgM M p) :=
  h.fr (fun a h1 h2 => bgM_off M p (by omega)) (JW_of (fun a h1 h2 => bgM_off M p (by omega)) h.j) (PW_fr (fun a h1 h2 => bgM_off M p (by omega)) h.p) (WW_bg h.w hp) (CW_fr (fun a h1 h2 => bgM_off M p (by omega)) h.c)
def stp (M : Mm) : Int := plc M 23 (M 23 5)
theorem CI.sp {M : Mm} (h : CI M) : 0 ≤ stp M ∧ stp M ≤ 15 := plc_b h.pl _
/-- a finding -/
def fdM (M : Mm) (f : Int) : Mm := stM (stM M 0 14 f) 76 f.toNat (M 76 f.toNat + 1)
/-- Euclid's way -/
def gdF : Nat → Int → Int → Int
  | 0, a, _ => a
  | k + 1, a, b => if b = 0 then a else gdF k b (a % b)
theorem gdF_b : ∀ (k : Nat) (a b : Int), 0 ≤ a → 0 ≤ b → 0 ≤ gdF k a b ∧ (gdF k a b ≤ a ∨ gdF k a b ≤ b)
  | 0, a, b, h1, h2 => by simp [gdF, h1]
  | k + 1, a, b, h1, h2 => by
    rw [gdF]
    split
    · exact ⟨h1, Or.inl (Int.le_refl a)⟩
    · have hb : 0 < b := by omega
      have h3 := Int.emod_nonneg a (show b ≠ 0 by omega)
      have h4 := Int.emod_lt_of_pos a hb
      have h5 := gdF_b k b (a % b) h2 h3
      exact ⟨h5.1, Or.inr (by omega)⟩
def frM (M : Mm) (u l : Int) : Mm := if 0 < gdF 200 u l then stM (stM M 0 16 (u.tdiv (gdF 200 u l))) 0 17 (l.tdiv (gdF 200 u l)) else M
/-- a set of the first numbers of a line -/
def mtG (f : Nat → Int) : Nat → Nat
  | 0 => 0
  | k + 1 => mtG f k ||| bitN (f k)
theorem mtG_b (f : Nat → Int) : ∀ k, mtG f k ≤ 255
  | 0 => by simp [mtG]
  | k + 1 => by
    have h1 := mtG_b f k
    have h2 := bitN_le (f k)
    have := Nat.or_lt_two_pow (n := 8) (show mtG f k < 2 ^ 8 by omega) (show bitN (f k) < 2 ^ 8 by omega)
    rw [mtG]
    omega
/-- unlike needs -/
abbrev okL (f : Nat → Int) (q : Int) (k : Nat) : Prop := ∀ j : Nat, j < k → (0 ≤ f j ∧ f j < q) ∧ ¬ inS (f j) ((mtG f j : Nat) : Int)
def wioV (M : Mm) (o : Nat) : Int := if M o 1 < 0 then 1 else if M 23 4 < M o 1 then 5 else if okL (M (o + 1)) (M 23 4) (M o 1).toNat then 0 else 3
/-- along a line, as far as it goes -/
def gaF (f : Nat → Int) (T : Mm) : Nat → Mm × Bool
  | 0 => (T, true)
  | k + 1 => if (gaF f T k).2 = true ∧ okW (gaF f T k).1 (f k) then (meM (gaF f T k).1 (f k), true) else ((gaF f T k).1, false)
theorem gaF_fix (f : Nat → Int) (T : Mm) {k : Nat} (h : (gaF f T k).2 = false) : ∀ j, gaF f T (k + j) = gaF f T k
  | 0 => rfl
  | j + 1 => by
    have e := gaF_fix f T h j
    rw [← Nat.add_assoc, gaF, e, if_neg (by rw [h]; simp), ← h]
theorem gaF_CI {f : Nat → Int} {T : Mm} (h : CI T) : ∀ k, CI (gaF f T k).1
  | 0 => h
  | k + 1 => by
    rw [gaF]
    split
    · exact (gaF_CI h k).me (by rename_i q; exact q.2)
    · exact gaF_CI h k
theorem gaF_off (f : Nat → Int) (T : Mm) {a : Nat} (h : a ≠ 54 ∧ a ≠ 55 ∧ a ≠ 56) : ∀ k, (gaF f T k).1 a = T a
  | 0 => rfl
  | k + 1 => by
    rw [gaF]
    split
    · show meM _ _ a = _
      rw [meM_off _ _ h, gaF_off f T h k]
    · exact gaF_off f T h k
def gaM (M : Mm) (o : Nat) : Mm := (gaF (M (o + 1)) (bgM (ldM M) (stp M)) (M o 1).toNat).1
/-- the first order of a set, need after need -/
def giS (T : Mm) (r i : Int) : Mm × Int :=
  if ((ndN r.toNat (bitN i) : Nat) : Int) = r ∨ endJ T i (T 54 4) (T 54 5) = -9 then (T, r) else
  if ¬ (rcM T ((ndN r.toNat (bitN i) : Nat) : Int) (plJ T i) (endJ T i (T 54 4) (T 54 5)) 59 (ndN r.toNat (bitN i)) = -9) ∧ okW (rcM T ((ndN r.toNat (bitN i) : Nat) : Int) (plJ T i) (endJ T i (T 54 4) (T 54 5))) i then
    (meM (rcM T ((ndN r.toNat (bitN i) : Nat) : Int) (plJ T i) (endJ T i (T 54 4) (T 54 5))) i, ((ndN r.toNat (bitN i) : Nat) : Int))
  else (rcM T ((ndN r.toNat (bitN i) : Nat) : Int) (plJ T i) (endJ T i (T 54 4) (T 54 5)), r)
def giF (T : Mm) (r : Int) : Nat → Mm × Int
  | 0 => (T, r)
  | k + 1 => if (giF T r k).2 = r then giS (giF T r k).1 r (k : Int) else giF T r k
def goO (T : Mm) (w : Int) : Nat → Mm × Int
  | 0 => (T, w)
  | k + 1 => if (goO T w k).2 = 0 then goO T w k else giF (goO T w k).1 (goO T w k).2 8
theorem giS_W {T : Mm} (h : CI T) {r i : Int} (hr : 0 ≤ r ∧ r ≤ 255) : CI (giS T r i).1 ∧ 0 ≤ (giS T r i).2 ∧ (giS T r i).2 ≤ 255 := by
  have h1 := ndN_le r.toNat (bitN i)
  unfold giS
  split
  · exact ⟨h, hr⟩
  · rename_i hq
    have hE := endJ_b h.j (i := i) (p := T 54 4) (f := T 54 5) h.w.2.1 h.w.2.2.1.1
    have hpl := plJ_b h.j i
    have hc := h.rc (w := ((ndN r.toNat (bitN i) : Nat) : Int)) hpl (f := endJ T i (T 54 4) (T 54 5)) (by omega)
    split
    · rename_i hz
      exact ⟨hc.me hz.2, by show 0 ≤ ((ndN r.toNat (bitN i) : Nat) : Int) ∧ _; simp only []; omega⟩
    · exact ⟨hc, hr⟩
theorem giF_W {T : Mm} (h : CI T) {r : Int} (hr : 0 ≤ r ∧ r ≤ 255) : ∀ k, CI (giF T r k).1 ∧ 0 ≤ (giF T r k).2 ∧ (giF T r k).2 ≤ 255
  | 0 => ⟨h, hr⟩
  | k + 1 => by
    rw [giF]
    split
    · exact giS_W (giF_W h hr k).1 hr
    · exact giF_W h hr k
theorem giF_fix {T : Mm} {r : Int} {k : Nat} (h : ¬ (giF T r k).2 = r) : ∀ j, giF T r (k + j) = giF T r k
  | 0 => rfl
  | j + 1 => by
    have e := giF_fix h j
    rw [← Nat.add_assoc, giF, e, if_neg h]
theorem goO_W {T : Mm} (h : CI T) {w : Int} (hw : 0 ≤ w ∧ w ≤ 255) : ∀ k, CI (goO T w k).1 ∧ 0 ≤ (goO T w k).2 ∧ (goO T w k).2 ≤ 255
  | 0 => ⟨h, hw⟩
  | k + 1 => by
    rw [goO]
    split
    · exact goO_W h hw k
    · exact giF_W (goO_W h hw k).1 (goO_W h hw k).2 8
theorem goO_fix {T : Mm} {w : Int} {k : Nat} (h : (goO T w k).2 = 0) : ∀ j, goO T w (k + j) = goO T w k
  | 0 => rfl
  | j + 1 => by
    have e := goO_fix h j
    rw [← Nat.add_assoc, goO, e, if_pos h]
def gfA (M : Mm) (w : Int) : Mm := rcM (ldM M) w (stp M) 0
def gfO (M : Mm) (w : Int) : Mm × Int := goO (bgM (gfA M w) (stp M)) w 8
/-- the way comes to a row -/
def twP (M : Mm) (o : Nat) (i : Int) : Mm := fun a b => if a = o ∧ b = 1 then M 54 3 else if a = o + 1 ∧ (b : Int) < M 54 3 then (if (b : Int) < i then M 55 b else 0) else M a b
theorem twP_0 {M : Mm} {o : Nat} : mkM M o (M 54 3) 0 = twP M o 0 := by
  funext a b
  unfold mkM twP
  split
  · rfl
  · split
    · rw [if_neg (by omega)]
    · rfl
theorem twP_s {M : Mm} {o : Nat} {i : Int} (h0 : 0 ≤ i) (h1 : i < M 54 3) : stM (twP M o i) (o + 1) i.toNat (M 55 i.toNat) = twP M o (i + 1) := by
  funext a b
  unfold stM twP
  by_cases h : a = o + 1 ∧ b = i.toNat
  · rw [if_pos h, if_neg (by omega), if_pos (by omega), if_pos (by omega), h.2]
  · rw [if_neg h]
    by_cases h2 : a = o ∧ b = 1
    · rw [if_pos h2, if_pos h2]
    · rw [if_neg h2, if_neg h2]
      by_cases h3 : a = o + 1 ∧ (b : Int) < M 54 3
      · rw [if_pos h3, if_pos h3]
        by_cases h4 : (b : Int) < i
        · rw [if_pos h4, if_pos (by omega)]
        · rw [if_neg h4, if_neg (by omega)]
      · rw [if_neg h3, if_neg h3]
theorem twP_off {M : Mm} {o : Nat} {i : Int} {a : Nat} (h1 : a ≠ o) (h2 : a ≠ o + 1) : twP M o i a = M a := by
  funext b
  unfold twP
  rw [if_neg (fun q => h1 q.1), if_neg (fun q => h2 q.1)]
def twM (M : Mm) (o : Nat) : Mm := twP M o (M 54 3)
/-- two in the coat -/
def jnM (M : Mm) (i : Int) (x y : Nat) : Mm := if 0 ≤ i ∧ i < M 48 5 then stM (stM (stM M 50 i.toNat (max (M x 2) (M y 2))) 51 i.toNat (min (M x 3) (M y 3) - M x 4 + 1)) 53 i.toNat (M x 5 + M y 5) else M
abbrev cgP (M : Mm) (h w k v : Int) : Prop := h = k ∨ max 1 (wap (plc M 23 h) (plc M 23 k)) ≤ (if 0 ≤ w - v then w - v else -(w - v))
abbrev agP (M : Mm) (h w : Int) (q : Nat) : Prop := (∀ j : Nat, j < q → cgP M h w (M 74 j) (M 75 j)) ∧ ((∃ j, j < (M 73 2).toNat ∧ M 75 j = 0) ∨ cgP M h w (M 23 5) 0)
def cbV (M : Mm) (h : Int) (o : Nat) : Int := smZ (fun k => M (o + 1) k * wap (plc M 23 h) (plc M 23 (k : Int))) (M 23 3).toNat
/-- how many rows from o on are there -/
def ntV (M : Mm) (o : Nat) : Nat → Int
  | 0 => 0
  | k + 1 => if M (o + 2 * k) 1 < 0 then ntV M o k else ntV M o k + 1
def mxF (f : Nat → Int) (h : Int) : Nat → Int
  | 0 => h
  | k + 1 => 31 * mxF f h k + f k
def mxO (M : Mm) (i h : Int) : Nat → Int
  | 0 => h
  | k + 1 => if (k : Int) = i then mxO M i h k else 31 * mxO M i h k + wr (M 65 (i * 8 + (k : Int)).toNat)
def mxH (M : Mm) (h : Int) : Nat → Int
  | 0 => h
  | i + 1 => mxO M (i : Int) (31 * (31 * mxH M h i + plc M 23 (i : Int)) + wr (M 64 i)) (M 23 3).toNat
def mxN (M : Mm) (h : Int) : Nat → Int
  | 0 => h
  | i + 1 => 31 * mxF (fun w => M (27 + i) (tlf (w : Int))) (mxN M h i) 6 + M (27 + i) 6
def mxP (M : Mm) (o : Nat) (h : Int) : Nat → Int
  | 0 => h
  | i + 1 => 31 * (31 * mxP M o h i + M (o + 1) i) + M (o + 2) i
def mxR (M : Mm) (o : Nat) (h : Int) : Nat → Int
  | 0 => h
  | k + 1 => mxF (M (o + 2 * k + 1)) (31 * mxR M o h k + M (o + 2 * k) 1) (M (o + 2 * k) 1).toNat
set_option maxHeartbeats 4000000 in
set_option maxRecDepth 100000 in
theorem c_X6_setAside {n : Nat} (hn : NN n) {M : Mm} : CT yX6_setAside cX6_setAside 1 none ({ frames := 1, cells := 0, slots := 0, locals := 40 }) n [.ref 57] M (rV (cpM M 59 60 0 0 256)) := by
  refine CT.of (lv0 := [(0, .ref 57)]) (by decide +kernel) hn (fun _ => rfl) (fun _ => Nat.le_of_ble_eq_true rfl) (fun X cx cs qx => ?_)
  have cx : Cx X cX6_setAside RX6 ({ frames := 1, cells := 0, slots := 0, locals := 40 }) 1 n := cx
  refine g_aload_n cx (pc2 := 1) 0 rfl dX6_setAside_0 rfl ?_
  refine g_get cx (pc2 := 4) (ci := 6) (k0 := 57) (j := 2) (v := .ref 59) rfl iwX6 rfl (lt_lit hn (Nat.le_of_ble_eq_true rfl)) rfl (Nat.le_of_ble_eq_true rfl) kf_X6_15 rfl rfl dX6_setAside_1 rfl ?_
  refine g_iconst cx (pc2 := 5) dX6_setAside_4 rfl ?_
  refine g_aload_n cx (pc2 := 6) 0 rfl dX6_setAside_5 rfl ?_
  refine g_get cx (pc2 := 9) (ci := 6) (k0 := 57) (j := 3) (v := .ref 60) rfl iwX6 rfl (lt_lit hn (Nat.le_of_ble_eq_true rfl)) rfl (Nat.le_of_ble_eq_true rfl) kf_X6_18 rfl rfl dX6_setAside_6 rfl ?_
  refine g_iconst cx (pc2 := 10) dX6_setAside_9 rfl ?_
  refine g_sipush cx (pc2 := 13) ⟨by decide, by decide⟩ dX6_setAside_10 rfl ?_
  refine g_acopy cx (pc2 := 16) (k0 := 59) (k1 := 60) rfl rfl (lt_lit hn (Nat.le_of_ble_eq_true rfl)) (lt_lit hn (Nat.le_of_ble_eq_true rfl)) (by decide) (by decide) (by decide) (by decide) (by decide) ⟨(by decide), (by decide)⟩ kl_X6_56 wJ_copy ⟨Nat.le_of_ble_eq_true rfl, by decide⟩ dX6_setAside_13 rfl ?_
  exact g_vret cx qx dX6_setAside_16 ⟨rfl, by rfl⟩
set_option maxHeartbeats 4000000 in
set_option maxRecDepth 100000 in
theorem c_rowOf_in {n : Nat} (hn : NN n) {M : Mm} (r : Int) (hr : 0 ≤ r ∧ r < 6) : CT yX11_rowOf cX11_rowOf 2 (some (.object "CoatBetween$Row")) ({ frames := 0, cells := 0, slots := 0, locals := 0 }) n [.ref 0, .int (iI r)] M (rA (.ref (3 + 2 * r.toNat)) M) := by
  refine CT.of (lv0 := [(0, .ref 0), (1, .int (iI r))]) (by decide +kernel) hn (fun _ => rfl) (fun _ => Nat.le_of_ble_eq_true rfl) (fun X cx cs qx => ?_)
  have cx : Cx X cX11_rowOf RX11 ({ frames := 0, cells := 0, slots := 0, locals := 0 }) 2 n := cx
  refine g_iload_n cx (pc2 := 1) 1 rfl dX11_rowOf_0 rfl ?_
  refine g_if_lt cx (pc2 := 4) (tgt := 22) (by first | assumption | omega) dX11_rowOf_1 (by decide) rfl (fun h_1 => ?_) (fun h_1 => ?_)
  · skip
    omega
  · skip
    refine g_iload_n cx (pc2 := 5) 1 rfl dX11_rowOf_4 rfl ?_
    refine g_aload_n cx (pc2 := 6) 0 rfl dX11_rowOf_5 rfl ?_
    refine g_get cx (pc2 := 9) (ci := 11) (k0 := 0) (j := 0) (v := .ref 1) rfl iwX11 rfl (lt_lit hn (Nat.le_of_ble_eq_true rfl)) rfl (Nat.le_of_ble_eq_true rfl) kf_X11_11 rfl rfl dX11_rowOf_6 rfl ?_
    refine g_alen cx (pc2 := 10) (k0 := 1) (v := 6) rfl (by decide) (lt_lit hn (Nat.le_of_ble_eq_true rfl)) rfl dX11_rowOf_9 rfl ?_
    refine g_icmp_ge cx (pc2 := 13) (tgt := 22) ⟨(by first | assumption | omega), ⟨by decide, by decide⟩⟩ dX11_rowOf_10 (by decide) rfl (fun h_2 => ?_) (fun h_2 => ?_)
    · skip
      omega
    · skip
      refine g_aload_n cx (pc2 := 14) 0 rfl dX11_rowOf_13 rfl ?_
      refine g_get cx (pc2 := 17) (ci := 11) (k0 := 0) (j := 0) (v := .ref 1) rfl iwX11 rfl (lt_lit hn (Nat.le_of_ble_eq_true rfl)) rfl (Nat.le_of_ble_eq_true rfl) kf_X11_11 rfl rfl dX11_rowOf_14 rfl ?_
      refine g_iload_n cx (pc2 := 18) 1 rfl dX11_rowOf_17 rfl ?_
      refine g_aald cx (pc2 := 19) (k0 := 1) rfl (by decide) (lt_lit hn (Nat.le_of_ble_eq_true rfl)) (by first | assumption | omega) (by first | assumption | omega) (Nat.le_of_ble_eq_true rfl) dX11_rowOf_18 rfl ?_
      refine g_goto cx (tgt := 23) dX11_rowOf_19 (by decide) ?_
      exact g_aret cx (Or.inr ⟨_, rfl⟩) qx dX11_rowOf_23 ⟨congrArg (fun q => some (Value.ref q)) (by rfl), by rfl⟩
set_option maxHeartbeats 4000000 in
set_option maxRecDepth 100000 in
theorem c_rowOf_out {n : Nat} (hn : NN n) {M : Mm} (r : Int) (hi : ir r) (hr : ¬ (0 ≤ r ∧ r < 6)) : CT yX11_rowOf cX11_rowOf 2 (some (.object "CoatBetween$Row")) ({ frames := 0, cells := 0, slots := 0, locals := 0 }) n [.ref 0, .int (iI r)] M (rA (.null) M) := by
  refine CT.of (lv0 := [(0, .ref 0), (1, .int (iI r))]) (by decide +kernel) hn (fun _ => rfl) (fun _ => Nat.le_of_ble_eq_true rfl) (fun X cx cs qx => ?_)
  have cx : Cx X cX11_rowOf RX11 ({ frames := 0, cells := 0, slots := 0, locals := 0 }) 2 n := cx
  refine g_iload_n cx (pc2 := 1) 1 rfl dX11_rowOf_0 rfl ?_
  refine g_if_lt cx (pc2 := 4) (tgt := 22) (by first | assumption | omega) dX11_rowOf_1 (by decide) rfl (fun h_1 => ?_) (fun h_1 => ?_)
  · skip
    refine g_null cx (pc2 := 23) dX11_rowOf_22 rfl ?_
    exact g_aret cx (Or.inl rfl) qx dX11_rowOf_23 ⟨rfl, by rfl⟩
  · skip
    refine g_iload_n cx (pc2 := 5) 1 rfl dX11_rowOf_4 rfl ?_
    refine g_aload_n cx (pc2 := 6) 0 rfl dX11_rowOf_5 rfl ?_
    refine g_get cx (pc2 := 9) (ci := 11) (k0 := 0) (j := 0) (v := .ref 1) rfl iwX11 rfl (lt_lit hn (Nat.le_of_ble_eq_true rfl)) rfl (Nat.le_of_ble_eq_true rfl) kf_X11_11 rfl rfl dX11_rowOf_6 rfl ?_
    refine g_alen cx (pc2 := 10) (k0 := 1) (v := 6) rfl (by decide) (lt_lit hn (Nat.le_of_ble_eq_true rfl)) rfl dX11_rowOf_9 rfl ?_
    refine g_icmp_ge cx (pc2 := 13) (tgt := 22) ⟨(by first | assumption | omega), ⟨by decide, by decide⟩⟩ dX11_rowOf_10 (by decide) rfl (fun h_2 => ?_) (fun h_2 => ?_)
    · skip
      refine g_null cx (pc2 := 23) dX11_rowOf_22 rfl ?_
      exact g_aret cx (Or.inl rfl) qx dX11_rowOf_23 ⟨rfl, by rfl⟩
    · skip
      omega
set_option maxHeartbeats 4000000 in
set_option maxRecDepth 100000 in
theorem c_textOf_in {n : Nat} (hn : NN n) {M : Mm} (r : Int) (hr : 0 ≤ r ∧ r < 4) : CT yX11_textOf cX11_textOf 2 (some (.object "CoatBetween$Row")) ({ frames := 0, cells := 0, slots := 0, locals := 0 }) n [.ref 0, .int (iI r)] M (rA (.ref (15 + 2 * r.toNat)) M) := by
  refine CT.of (lv0 := [(0, .ref 0), (1, .int (iI r))]) (by decide +kernel) hn (fun _ => rfl) (fun _ => Nat.le_of_ble_eq_true rfl) (fun X cx cs qx => ?_)
  have cx : Cx X cX11_textOf RX11 ({ frames := 0, cells := 0, slots := 0, locals := 0 }) 2 n := cx
  refine g_iload_n cx (pc2 := 1) 1 rfl dX11_textOf_0 rfl ?_
  refine g_if_lt cx (pc2 := 4) (tgt := 22) (by first | assumption | omega) dX11_textOf_1 (by decide) rfl (fun h_1 => ?_) (fun h_1 => ?_)
  · skip
    omega
  · skip
    refine g_iload_n cx (pc2 := 5) 1 rfl dX11_textOf_4 rfl ?_
    refine g_aload_n cx (pc2 := 6) 0 rfl dX11_textOf_5 rfl ?_
    refine g_get cx (pc2 := 9) (ci := 11) (k0 := 0) (j := 1) (v := .ref 2) rfl iwX11 rfl (lt_lit hn (Nat.le_of_ble_eq_true rfl)) rfl (Nat.le_of_ble_eq_true rfl) kf_X11_15 rfl rfl dX11_textOf_6 rfl ?_
    refine g_alen cx (pc2 := 10) (k0 := 2) (v := 4) rfl (by decide) (lt_lit hn (Nat.le_of_ble_eq_true rfl)) rfl dX11_textOf_9 rfl ?_
    refine g_icmp_ge cx (pc2 := 13) (tgt := 22) ⟨(by first | assumption | omega), ⟨by decide, by decide⟩⟩ dX11_textOf_10 (by decide) rfl (fun h_2 => ?_) (fun h_2 => ?_)
    · skip
      omega
    · skip
      refine g_aload_n cx (pc2 := 14) 0 rfl dX11_textOf_13 rfl ?_
      refine g_get cx (pc2 := 17) (ci := 11) (k0 := 0) (j := 1) (v := .ref 2) rfl iwX11 rfl (lt_lit hn (Nat.le_of_ble_eq_true rfl)) rfl (Nat.le_of_ble_eq_true rfl) kf_X11_15 rfl rfl dX11_textOf_14 rfl ?_
      refine g_iload_n cx (pc2 := 18) 1 rfl dX11_textOf_17 rfl ?_
      refine g_aald cx (pc2 := 19) (k0 := 2) rfl (by decide) (lt_lit hn (Nat.le_of_ble_eq_true rfl)) (by first | assumption | omega) (by first | assumption | omega) (Nat.le_of_ble_eq_true rfl) dX11_textOf_18 rfl ?_
      refine g_goto cx (tgt := 23) dX11_textOf_19 (by decide) ?_
      exact g_aret cx (Or.inr ⟨_, rfl⟩) qx dX11_textOf_23 ⟨congrArg (fun q => some (Value.ref q)) (by rfl), by rfl⟩
set_option maxHeartbeats 4000000 in
set_option maxRecDepth 100000 in
theorem c_textOf_out {n : Nat} (hn : NN n) {M : Mm} (r : Int) (hi : ir r) (hr : ¬ (0 ≤ r ∧ r < 4)) : CT yX11_textOf cX11_textOf 2 (some (.object "CoatBetween$Row")) ({ frames := 0, cells := 0, slots := 0, locals := 0 }) n [.ref 0, .int (iI r)] M (rA (.null) M) := by
  refine CT.of (lv0 := [(0, .ref 0), (1, .int (iI r))]) (by decide +kernel) hn (fun _ => rfl) (fun _ => Nat.le_of_ble_eq_true rfl) (fun X cx cs qx => ?_)
  have cx : Cx X cX11_textOf RX11 ({ frames := 0, cells := 0, slots := 0, locals := 0 }) 2 n := cx
  refine g_iload_n cx (pc2 := 1) 1 rfl dX11_textOf_0 rfl ?_
  refine g_if_lt cx (pc2 := 4) (tgt := 22) (by first | assumption | omega) dX11_textOf_1 (by decide) rfl (fun h_1 => ?_) (fun h_1 => ?_)
  · skip
    refine g_null cx (pc2 := 23) dX11_textOf_22 rfl ?_
    exact g_aret cx (Or.inl rfl) qx dX11_textOf_23 ⟨rfl, by rfl⟩
  · skip
    refine g_iload_n cx (pc2 := 5) 1 rfl dX11_textOf_4 rfl ?_
    refine g_aload_n cx (pc2 := 6) 0 rfl dX11_textOf_5 rfl ?_
    refine g_get cx (pc2 := 9) (ci := 11) (k0 := 0) (j := 1) (v := .ref 2) rfl iwX11 rfl (lt_lit hn (Nat.le_of_ble_eq_true rfl)) rfl (Nat.le_of_ble_eq_true rfl) kf_X11_15 rfl rfl dX11_textOf_6 rfl ?_
    refine g_alen cx (pc2 := 10) (k0 := 2) (v := 4) rfl (by decide) (lt_lit hn (Nat.le_of_ble_eq_true rfl)) rfl dX11_textOf_9 rfl ?_
    refine g_icmp_ge cx (pc2 := 13) (tgt := 22) ⟨(by first | assumption | omega), ⟨by decide, by decide⟩⟩ dX11_textOf_10 (by decide) rfl (fun h_2 => ?_) (fun h_2 => ?_)
    · skip
      refine g_null cx (pc2 := 23) dX11_textOf_22 rfl ?_
      exact g_aret cx (Or.inl rfl) qx dX11_textOf_23 ⟨rfl, by rfl⟩
    · skip
      omega
set_option maxHeartbeats 4000000 in
set_option maxRecDepth 100000 in
theorem c_X11_found {n : Nat} (hn : NN n) {M : Mm} (f : Int) (hf : 1 ≤ f ∧ f ≤ 5) : CT yX11_found cX11_found 2 (some .int) ({ frames := 0, cells := 0, slots := 0, locals := 0 }) n [.ref 0, .int (iI f)] M (rI ((-3)) (fdM M f)) := by
  refine CT.of (lv0 := [(0, .ref 0), (1, .int (iI f))]) (by decide +kernel) hn (fun _ => rfl) (fun _ => Nat.le_of_ble_eq_true rfl) (fun X cx cs qx => ?_)
  have cx : Cx X cX11_found RX11 ({ frames := 0, cells := 0, slots := 0, locals := 0 }) 2 n := cx
  refine g_aload_n cx (pc2 := 1) 0 rfl dX11_found_0 rfl ?_
  refine g_iload_n cx (pc2 := 2) 1 rfl dX11_found_1 rfl ?_
  refine g_puti cx (pc2 := 5) (ci := 11) (k0 := 0) (j := 14) rfl iwX11 rfl (lt_lit hn (Nat.le_of_ble_eq_true rfl)) rfl (Nat.le_of_ble_eq_true rfl) kf_X11_94 rfl tyX11_ok nmX11 rfl rfl dX11_found_2 rfl ?_
  refine g_iload_n cx (pc2 := 6) 1 rfl dX11_found_5 rfl ?_
  refine g_if_lt cx (pc2 := 9) (tgt := 28) (by first | assumption | omega) dX11_found_6 (by decide) rfl (fun h_1 => ?_) (fun h_1 => ?_)
  · skip
    omega
  · skip
    refine g_iload_n cx (pc2 := 10) 1 rfl dX11_found_9 rfl ?_
    refine g_aload_n cx (pc2 := 11) 0 rfl dX11_found_10 rfl ?_
    refine g_get cx (pc2 := 14) (ci := 11) (k0 := 0) (j := 12) (v := .ref 76) rfl iwX11 rfl (lt_lit hn (Nat.le_of_ble_eq_true rfl)) rfl (Nat.le_of_ble_eq_true rfl) kf_X11_86 rfl rfl dX11_found_11 rfl ?_
    refine g_alen cx (pc2 := 15) (k0 := 76) (v := 6) rfl (by decide) (lt_lit hn (Nat.le_of_ble_eq_true rfl)) rfl dX11_found_14 rfl ?_
    refine g_icmp_ge cx (pc2 := 18) (tgt := 28) ⟨(by first | assumption | omega), ⟨by decide, by decide⟩⟩ dX11_found_15 (by decide) rfl (fun h_2 => ?_) (fun h_2 => ?_)
    · skip
      omega
    · skip
      refine g_aload_n cx (pc2 := 19) 0 rfl dX11_found_18 rfl ?_
      refine g_get cx (pc2 := 22) (ci := 11) (k0 := 0) (j := 12) (v := .ref 76) rfl iwX11 rfl (lt_lit hn (Nat.le_of_ble_eq_true rfl)) rfl (Nat.le_of_ble_eq_true rfl) kf_X11_86 rfl rfl dX11_found_19 rfl ?_
      refine g_iload_n cx (pc2 := 23) 1 rfl dX11_found_22 rfl ?_
      refine g_dup2 cx (pc2 := 24) rfl rfl dX11_found_23 rfl ?_
      refine g_iald cx (pc2 := 25) (k0 := 76) rfl (lt_lit hn (Nat.le_of_ble_eq_true rfl)) (by first | assumption | omega) (by first | assumption | omega) (Nat.le_of_ble_eq_true rfl) dX11_found_24 rfl ?_
      refine g_rwi (y := iI (M 76 ((f).toNat))) (congrArg iI (by simp [stM])) ?_
      refine g_iconst cx (pc2 := 26) dX11_found_25 rfl ?_
      refine g_iadd cx (pc2 := 27) dX11_found_26 rfl ?_
      refine g_iast cx (pc2 := 28) (k0 := 76) rfl (lt_lit hn (Nat.le_of_ble_eq_true rfl)) (by first | assumption | omega) (by first | assumption | omega) (Nat.le_of_ble_eq_true rfl) dX11_found_27 rfl ?_
      refine g_bipush cx (pc2 := 30) ⟨by decide, by decide⟩ dX11_found_28 rfl ?_
      exact g_iret cx qx dX11_found_30 ⟨congrArg (fun q => some (Value.int (iI q))) (by first | rfl | omega), by rfl⟩
set_option maxHeartbeats 4000000 in
set_option maxRecDepth 100000 in
theorem c_X11_greatestDivisor {n : Nat} (hn : NN n) {M : Mm} (a b : Int) (ha : 0 ≤ a ∧ a < 1000000000000) (hb : 0 ≤ b ∧ b < 1000000000000) : CT yX11_greatestDivisor cX11_greatestDivisor 11 (some .long) ({ frames := 0, cells := 0, slots := 0, locals := 0 }) n [.long (lI a), .long (lI b)] M (rL (gdF 200 a b) M) := by
  refine CT.of (lv0 := [(0, .long (lI a)), (2, .long (lI b))]) (by decide +kernel) hn (fun _ => rfl) (fun _ => Nat.le_of_ble_eq_true rfl) (fun X cx cs qx => ?_)
  have cx : Cx X cX11_greatestDivisor RX11 ({ frames := 0, cells := 0, slots := 0, locals := 0 }) 11 n := cx
  refine g_lload_n cx (pc2 := 1) 0 rfl dX11_greatestDivisor_0 rfl ?_
  refine g_lstore cx (pc2 := 3) (lv2 := [(0, .long (lI a)), (2, .long (lI b)), (4, .long (lI a))]) rfl (Nat.le_of_ble_eq_true rfl) dX11_greatestDivisor_1 rfl ?_
  refine g_lload_n cx (pc2 := 4) 1 rfl dX11_greatestDivisor_3 rfl ?_
  refine g_lstore cx (pc2 := 6) (lv2 := [(0, .long (lI a)), (2, .long (lI b)), (4, .long (lI a)), (6, .long (lI b))]) rfl (Nat.le_of_ble_eq_true rfl) dX11_greatestDivisor_4 rfl ?_
  refine g_iconst cx (pc2 := 7) dX11_greatestDivisor_6 rfl ?_
  refine g_istore cx (pc2 := 9) (lv2 := [(0, .long (lI a)), (2, .long (lI b)), (4, .long (lI a)), (6, .long (lI b)), (8, .int (iI 0))]) rfl (Nat.le_of_ble_eq_true rfl) dX11_greatestDivisor_7 rfl ?_
  have L9 : ∀ (fu : Nat) (x : Int) (y : Int) (i : Int), (0 ≤ i ∧ i ≤ 200) → ((0 ≤ x ∧ x < 1000000000000) ∧ (0 ≤ y ∧ y < 1000000000000)) → (gdF 200 a b = gdF (200 - i).toNat x y) → (200 - i).toNat ≤ fu → G X 9 [(0, .long (lI a)), (2, .long (lI b)), (4, .long (lI x)), (6, .long (lI y)), (8, .int (iI i))] [] M := by
    intro fu
    induction fu using Nat.strongRecOn with
    | _ fu ih9 =>
      intro x y i hi hxb hg hk9
      have hm0 : ¬ y = 0 → 0 ≤ x % y ∧ x % y < y := fun q => ⟨Int.emod_nonneg x q, Int.emod_lt_of_pos x (by omega)⟩
      have hst : i < 200 → gdF (200 - i).toNat x y = if y = 0 then x else gdF (200 - (i + 1)).toNat y (x % y) := fun q => by rw [show (200 - i).toNat = (200 - (i + 1)).toNat + 1 by omega, gdF]
      refine g_iload cx (pc2 := 11) 4 rfl dX11_greatestDivisor_9 rfl ?_
      refine g_sipush cx (pc2 := 14) ⟨by decide, by decide⟩ dX11_greatestDivisor_11 rfl ?_
      refine g_icmp_ge cx (pc2 := 17) (tgt := 45) ⟨(by first | assumption | omega), ⟨by decide, by decide⟩⟩ dX11_greatestDivisor_14 (by decide) rfl (fun h_1 => ?_) (fun h_1 => ?_)
      · skip
        refine g_lload cx (pc2 := 47) 2 rfl dX11_greatestDivisor_45 rfl ?_
        exact g_lret cx qx dX11_greatestDivisor_47 ⟨congrArg (fun q => some (Value.long (lI q))) (by rw [hg]; first | (rw [hst (by omega), if_pos hy0]; done) | (rw [show (200 - i).toNat = 0 by omega]; rfl)), by rfl⟩
      · skip
        refine g_lload cx (pc2 := 19) 3 rfl dX11_greatestDivisor_17 rfl ?_
        refine g_lconst cx (pc2 := 20) 0 rfl dX11_greatestDivisor_19 rfl ?_
        refine g_lcmp cx (pc2 := 21) ⟨(by constructor <;> omega), (by constructor <;> omega)⟩ dX11_greatestDivisor_20 rfl ?_
        refine g_rwi (y := iI (if y = 0 then 0 else 1)) (congrArg iI (by by_cases q : y = 0; rw [if_neg (by omega), if_pos q, if_pos q]; rw [if_pos (by omega), if_neg q])) ?_
        refine g_if_eq cx (pc2 := 24) (tgt := 45) (by constructor <;> split <;> omega) dX11_greatestDivisor_21 (by decide) rfl (fun h_2 => ?_) (fun h_2 => ?_)
        · skip
          have hy0 : y = 0 := by split at h_2 <;> omega
          refine g_lload cx (pc2 := 47) 2 rfl dX11_greatestDivisor_45 rfl ?_
          exact g_lret cx qx dX11_greatestDivisor_47 ⟨congrArg (fun q => some (Value.long (lI q))) (by rw [hg]; first | (rw [hst (by omega), if_pos hy0]; done) | (rw [show (200 - i).toNat = 0 by omega]; rfl)), by rfl⟩
        · skip
          have hy0 : ¬ y = 0 := by split at h_2 <;> omega
          have hm1 := hm0 hy0
          refine g_lload cx (pc2 := 26) 2 rfl dX11_greatestDivisor_24 rfl ?_
          refine g_lload cx (pc2 := 28) 3 rfl dX11_greatestDivisor_26 rfl ?_
          refine g_lrem cx (pc2 := 29) (by exact ⟨⟨by omega, by omega⟩, ⟨by omega, by omega⟩, hy0, by omega⟩) dX11_greatestDivisor_28 rfl ?_
          refine g_rwl (y := lI (x % y)) (congrArg lI (tdm (by omega) (by omega))) ?_
          refine g_lstore cx (pc2 := 31) (lv2 := [(0, .long (lI a)), (2, .long (lI b)), (4, .long (lI x)), (6, .long (lI y)), (8, .int (iI i)), (9, .long (lI (x % y)))]) rfl (Nat.le_of_ble_eq_true rfl) dX11_greatestDivisor_29 rfl ?_
          refine g_lload cx (pc2 := 33) 3 rfl dX11_greatestDivisor_31 rfl ?_
          refine g_lstore cx (pc2 := 35) (lv2 := [(0, .long (lI a)), (2, .long (lI b)), (4, .long (lI y)), (6, .long (lI y)), (8, .int (iI i)), (9, .long (lI (x % y)))]) rfl (Nat.le_of_ble_eq_true rfl) dX11_greatestDivisor_33 rfl ?_
          refine g_lload cx (pc2 := 37) 5 rfl dX11_greatestDivisor_35 rfl ?_
          refine g_lstore cx (pc2 := 39) (lv2 := [(0, .long (lI a)), (2, .long (lI b)), (4, .long (lI y)), (6, .long (lI (x % y))), (8, .int (iI i)), (9, .long (lI (x % y)))]) rfl (Nat.le_of_ble_eq_true rfl) dX11_greatestDivisor_37 rfl ?_
          refine g_iinc cx (pc2 := 42) 4 rfl (lv2 := [(0, .long (lI a)), (2, .long (lI b)), (4, .long (lI y)), (6, .long (lI (x % y))), (8, .int (iI (i + 1))), (9, .long (lI (x % y)))]) rfl (Nat.le_of_ble_eq_true rfl) dX11_greatestDivisor_39 rfl ?_
          refine g_goto cx (tgt := 9) dX11_greatestDivisor_42 (by decide) ?_
          refine g_sub (lv2 := [(0, .long (lI a)), (2, .long (lI b)), (4, .long (lI y)), (6, .long (lI (x % y))), (8, .int (iI (i + 1)))]) [0, 1, 2, 3, 4] rfl ?_
          exact ih9 ((200 - (i + 1)).toNat) (by omega) y (x % y) (i + 1) (by first | assumption | omega) (by first | assumption | omega) (by rw [hg, hst (by omega), if_neg hy0]) (Nat.le_refl _)
  exact L9 _ a b 0 (by first | assumption | omega) (by first | assumption | omega) (by rfl) (Nat.le_refl _)
set_option maxHeartbeats 4000000 in
set_option maxRecDepth 100000 in
theorem c_X11_tellFraction {n : Nat} (hn : NN n) {M : Mm} (u l : Int) (hu : 0 ≤ u ∧ u < 1000000000000) (hl : 0 ≤ l ∧ l < 1000000000000) : CT yX11_tellFraction cX11_tellFraction 7 none ({ frames := 1, cells := 0, slots := 0, locals := 30 }) n [.ref 0, .long (lI u), .long (lI l)] M (rV (frM M u l)) := by
  refine CT.of (lv0 := [(0, .ref 0), (1, .long (lI u)), (3, .long (lI l))]) (by decide +kernel) hn (fun _ => rfl) (fun _ => Nat.le_of_ble_eq_true rfl) (fun X cx cs qx => ?_)
  have cx : Cx X cX11_tellFraction RX11 ({ frames := 1, cells := 0, slots := 0, locals := 30 }) 7 n := cx
  have hgb := gdF_b 200 u l hu.1 hl.1
  refine g_lload_n cx (pc2 := 1) 1 rfl dX11_tellFraction_0 rfl ?_
  refine g_lload_n cx (pc2 := 2) 2 rfl dX11_tellFraction_1 rfl ?_
  refine g_callS cx (pc2 := 5) (st := []) (As := [.long (lI u), .long (lI l)]) (c_X11_greatestDivisor (M := M) hn u l (by first | assumption | omega) (by first | assumption | omega)) wM_X11_greatestDivisor wS_X11_greatestDivisor kl_X11_432 ⟨rfl, rfl, Nat.le_of_ble_eq_true rfl, Nat.le_of_ble_eq_true rfl⟩ (Nat.le_of_ble_eq_true rfl) cs rfl rfl dX11_tellFraction_2 rfl ?_
  rintro _ _ ⟨rfl, rfl⟩
  refine g_lstore cx (pc2 := 7) (lv2 := [(0, .ref 0), (1, .long (lI u)), (3, .long (lI l)), (5, .long (lI (gdF 200 u l)))]) rfl (Nat.le_of_ble_eq_true rfl) dX11_tellFraction_5 rfl ?_
  refine g_lload cx (pc2 := 9) 3 rfl dX11_tellFraction_7 rfl ?_
  refine g_lconst cx (pc2 := 10) 0 rfl dX11_tellFraction_9 rfl ?_
  refine g_lcmp cx (pc2 := 11) ⟨(by constructor <;> omega), (by constructor <;> omega)⟩ dX11_tellFraction_10 rfl ?_
  refine g_if_le cx (pc2 := 14) (tgt := 30) (by constructor <;> (repeat' split) <;> omega) dX11_tellFraction_11 (by decide) rfl (fun h_1 => ?_) (fun h_1 => ?_)
  · skip
    have hg0 : ¬ (0 < gdF 200 u l) := by (repeat' split at h_1) <;> omega
    exact g_vret cx qx dX11_tellFraction_30 ⟨rfl, by unfold frM; first | (rw [if_pos hg0]; done) | (rw [if_neg hg0]; done)⟩
  · skip
    have hg0 : 0 < gdF 200 u l := by (repeat' split at h_1) <;> omega
    refine g_aload_n cx (pc2 := 15) 0 rfl dX11_tellFraction_14 rfl ?_
    refine g_lload_n cx (pc2 := 16) 1 rfl dX11_tellFraction_15 rfl ?_
    refine g_lload cx (pc2 := 18) 3 rfl dX11_tellFraction_16 rfl ?_
    refine g_ldiv cx (pc2 := 19) (by exact ⟨⟨by omega, by omega⟩, ⟨by omega, by omega⟩, by omega, by omega⟩) dX11_tellFraction_18 rfl ?_
    refine g_putl cx (pc2 := 22) (ci := 11) (k0 := 0) (j := 16) rfl iwX11 rfl (lt_lit hn (Nat.le_of_ble_eq_true rfl)) rfl (Nat.le_of_ble_eq_true rfl) kf_X11_101 rfl tyX11_ok nmX11 rfl rfl dX11_tellFraction_19 rfl ?_
    refine g_aload_n cx (pc2 := 23) 0 rfl dX11_tellFraction_22 rfl ?_
    refine g_lload_n cx (pc2 := 24) 2 rfl dX11_tellFraction_23 rfl ?_
    refine g_lload cx (pc2 := 26) 3 rfl dX11_tellFraction_24 rfl ?_
    refine g_ldiv cx (pc2 := 27) (by exact ⟨⟨by omega, by omega⟩, ⟨by omega, by omega⟩, by omega, by omega⟩) dX11_tellFraction_26 rfl ?_
    refine g_putl cx (pc2 := 30) (ci := 11) (k0 := 0) (j := 17) rfl iwX11 rfl (lt_lit hn (Nat.le_of_ble_eq_true rfl)) rfl (Nat.le_of_ble_eq_true rfl) kf_X11_105 rfl tyX11_ok nmX11 rfl rfl dX11_tellFraction_27 rfl ?_
    exact g_vret cx qx dX11_tellFraction_30 ⟨rfl, by unfold frM; first | (rw [if_pos hg0]; done) | (rw [if_neg hg0]; done)⟩
set_option maxHeartbeats 4000000 in
set_option maxRecDepth 100000 in
theorem c_X11_wrongInOrder {n : Nat} (hn : NN n) {M : Mm} (hci : CI M) {o : Nat} (ho : isRowO o) : CT yX11_wrongInOrder cX11_wrongInOrder 5 (some .int) ({ frames := 2, cells := 0, slots := 0, locals := 42 }) n [.ref 0, .ref o] M (rI (wioV M o) M) := by
  refine CT.of (lv0 := [(0, .ref 0), (1, .ref o)]) (by decide +kernel) hn (fun _ => rfl) (fun _ => Nat.le_of_ble_eq_true rfl) (fun X cx cs qx => ?_)
  have cx : Cx X cX11_wrongInOrder RX11 ({ frames := 2, cells := 0, slots := 0, locals := 42 }) 5 n := cx
  have hro := hci.rw o ho
  have hcap := capO_b o
  have hl := hci.l
  refine g_aload_n cx (pc2 := 1) 1 rfl dX11_wrongInOrder_0 rfl ?_
  refine g_callV cx (pc2 := 4) (st := []) (As := []) (k0 := o) (ci := 8) (c_X8_isMissing (M := M) hn (by first | assumption | exact Or.inl rfl) (by first | exact hro.1 | omega)) wM_X8_isMissing wV_X8_isMissing kl_X11_121 (sh_row ho) (by first | (exact kn_row hn ho) | (exact kn_row1 hn ho) | omega) rfl ⟨rfl, rfl, Nat.le_of_ble_eq_true rfl, Nat.le_of_ble_eq_true rfl⟩ (Nat.le_of_ble_eq_true rfl) cs rfl rfl dX11_wrongInOrder_1 rfl ?_
  rintro _ _ ⟨rfl, rfl⟩
  refine g_ifb_eq cx (pc2 := 7) (tgt := 9) dX11_wrongInOrder_4 (by decide) rfl (fun h_1 => ?_) (fun h_1 => ?_)
  · skip
    refine g_aload_n cx (pc2 := 10) 1 rfl dX11_wrongInOrder_9 rfl ?_
    refine g_callV cx (pc2 := 13) (st := []) (As := []) (k0 := o) (ci := 8) (c_X8_length (M := M) hn (by first | assumption | exact Or.inl rfl)) wM_X8_length wV_X8_length kl_X11_146 (sh_row ho) (by first | (exact kn_row hn ho) | (exact kn_row1 hn ho) | omega) rfl ⟨rfl, rfl, Nat.le_of_ble_eq_true rfl, Nat.le_of_ble_eq_true rfl⟩ (Nat.le_of_ble_eq_true rfl) cs rfl rfl dX11_wrongInOrder_10 rfl ?_
    rintro _ _ ⟨rfl, rfl⟩
    refine g_aload_n cx (pc2 := 14) 0 rfl dX11_wrongInOrder_13 rfl ?_
    refine g_get cx (pc2 := 17) (ci := 11) (k0 := 0) (j := 2) (v := .ref 23) rfl iwX11 rfl (lt_lit hn (Nat.le_of_ble_eq_true rfl)) rfl (Nat.le_of_ble_eq_true rfl) kf_X11_21 rfl rfl dX11_wrongInOrder_14 rfl ?_
    refine g_getN cx (pc2 := 20) (ci := 2) (k0 := 23) (j := 4) (v := .int (iI (M 23 4))) rfl iwX2 rfl (lt_lit hn (Nat.le_of_ble_eq_true rfl)) rfl (Nat.le_of_ble_eq_true rfl) kf_X11_396 rfl rfl dX11_wrongInOrder_17 rfl ?_
    refine g_icmp_le cx (pc2 := 23) (tgt := 25) ⟨(by first | assumption | omega), (by first | assumption | omega)⟩ dX11_wrongInOrder_20 (by decide) rfl (fun h_2 => ?_) (fun h_2 => ?_)
    · skip
      refine g_iconst cx (pc2 := 26) dX11_wrongInOrder_25 rfl ?_
      refine g_istore_n cx (pc2 := 27) (lv2 := [(0, .ref 0), (1, .ref o), (2, .int (iI 0))]) rfl (Nat.le_of_ble_eq_true rfl) dX11_wrongInOrder_26 rfl ?_
      refine g_iconst cx (pc2 := 28) dX11_wrongInOrder_27 rfl ?_
      refine g_istore_n cx (pc2 := 29) (lv2 := [(0, .ref 0), (1, .ref o), (2, .int (iI 0)), (3, .int (iI 0))]) rfl (Nat.le_of_ble_eq_true rfl) dX11_wrongInOrder_28 rfl ?_
      have L29 : ∀ (fu : Nat) (s : Int) (i : Int), (0 ≤ i ∧ i ≤ M o 1) → (s = ((mtG (M (o + 1)) i.toNat : Nat) : Int)) → (okL (M (o + 1)) (M 23 4) i.toNat) → (M o 1 - i).toNat ≤ fu → G X 29 [(0, .ref 0), (1, .ref o), (2, .int (iI s)), (3, .int (iI i))] [] M := by
        intro fu
        induction fu using Nat.strongRecOn with
        | _ fu ih29 =>
          intro s i hi hs hok hk29
          have hmb := mtG_b (M (o + 1)) i.toNat
          have hci2 := hro.2 i.toNat
          refine g_iload_n cx (pc2 := 30) 3 rfl dX11_wrongInOrder_29 rfl ?_
          refine g_aload_n cx (pc2 := 31) 1 rfl dX11_wrongInOrder_30 rfl ?_
          refine g_callV cx (pc2 := 34) (st := [.int (iI i)]) (As := []) (k0 := o) (ci := 8) (c_X8_length (M := M) hn (by first | assumption | exact Or.inl rfl)) wM_X8_length wV_X8_length kl_X11_146 (sh_row ho) (by first | (exact kn_row hn ho) | (exact kn_row1 hn ho) | omega) rfl ⟨rfl, rfl, Nat.le_of_ble_eq_true rfl, Nat.le_of_ble_eq_true rfl⟩ (Nat.le_of_ble_eq_true rfl) cs rfl rfl dX11_wrongInOrder_31 rfl ?_
          rintro _ _ ⟨rfl, rfl⟩
          refine g_icmp_ge cx (pc2 := 37) (tgt := 81) ⟨(by first | assumption | omega), (by first | assumption | omega)⟩ dX11_wrongInOrder_34 (by decide) rfl (fun h_3 => ?_) (fun h_3 => ?_)
          · skip
            refine g_iconst cx (pc2 := 82) dX11_wrongInOrder_81 rfl ?_
            exact g_iret cx qx dX11_wrongInOrder_82 ⟨congrArg (fun q => some (Value.int (iI q))) (by unfold wioV; rw [if_neg (by assumption), if_neg (by omega), if_pos (by rw [show (M o 1).toNat = i.toNat by omega]; exact hok)]), by rfl⟩
          · skip
            refine g_aload_n cx (pc2 := 38) 1 rfl dX11_wrongInOrder_37 rfl ?_
            refine g_iload_n cx (pc2 := 39) 3 rfl dX11_wrongInOrder_38 rfl ?_
            refine g_callV cx (pc2 := 42) (st := []) (As := [.int (iI i)]) (k0 := o) (ci := 8) (c_X8_cell (M := M) hn (by first | assumption | exact Or.inl rfl) (by first | exact hro.1 | omega) i (by first | assumption | omega | exact hro.2 _)) wM_X8_cell wV_X8_cell kl_X11_129 (sh_row ho) (by first | (exact kn_row hn ho) | (exact kn_row1 hn ho) | omega) rfl ⟨rfl, rfl, Nat.le_of_ble_eq_true rfl, Nat.le_of_ble_eq_true rfl⟩ (Nat.le_of_ble_eq_true rfl) cs rfl rfl dX11_wrongInOrder_39 rfl ?_
            rintro _ _ ⟨rfl, rfl⟩
            refine g_rwi (y := iI (M (o + 1) i.toNat)) (congrArg iI (if_pos (by omega))) ?_
            refine g_istore cx (pc2 := 44) (lv2 := [(0, .ref 0), (1, .ref o), (2, .int (iI s)), (3, .int (iI i)), (4, .int (iI (M (o + 1) i.toNat)))]) rfl (Nat.le_of_ble_eq_true rfl) dX11_wrongInOrder_42 rfl ?_
            refine g_aload_n cx (pc2 := 45) 0 rfl dX11_wrongInOrder_44 rfl ?_
            refine g_get cx (pc2 := 48) (ci := 11) (k0 := 0) (j := 2) (v := .ref 23) rfl iwX11 rfl (lt_lit hn (Nat.le_of_ble_eq_true rfl)) rfl (Nat.le_of_ble_eq_true rfl) kf_X11_21 rfl rfl dX11_wrongInOrder_45 rfl ?_
            refine g_iload cx (pc2 := 50) 4 rfl dX11_wrongInOrder_48 rfl ?_
            refine g_callV cx (pc2 := 53) (st := []) (As := [.int (iI (M (o + 1) i.toNat))]) (k0 := 23) (ci := 2) (c_X2_isNeed (M := M) hn (by first | assumption | exact Or.inl rfl) (by first | assumption | omega) (M (o + 1) i.toNat) (by first | assumption | omega | exact hro.2 _)) wM_X2_isNeed wV_X2_isNeed kl_X11_179 rfl (lt_lit hn (Nat.le_of_ble_eq_true rfl)) rfl ⟨rfl, rfl, Nat.le_of_ble_eq_true rfl, Nat.le_of_ble_eq_true rfl⟩ (Nat.le_of_ble_eq_true rfl) cs rfl rfl dX11_wrongInOrder_50 rfl ?_
            rintro _ _ ⟨rfl, rfl⟩
            refine g_ifb_eq cx (pc2 := 56) (tgt := 65) dX11_wrongInOrder_53 (by decide) rfl (fun h_4 => ?_) (fun h_4 => ?_)
            · skip
              refine g_iconst cx (pc2 := 66) dX11_wrongInOrder_65 rfl ?_
              exact g_iret cx qx dX11_wrongInOrder_66 ⟨congrArg (fun q => some (Value.int (iI q))) (by unfold wioV; rw [if_neg (by assumption), if_neg (by omega), if_neg (fun q => ?_)]; have q2 := q i.toNat (by omega); rw [← hs] at q2; first | exact absurd q2.1 (by assumption) | exact absurd (by assumption) q2.2), by rfl⟩
            · skip
              refine g_iload cx (pc2 := 58) 4 rfl dX11_wrongInOrder_56 rfl ?_
              refine g_iload_n cx (pc2 := 59) 2 rfl dX11_wrongInOrder_58 rfl ?_
              refine g_callS cx (pc2 := 62) (st := []) (As := [.int (iI (M (o + 1) i.toNat)), .int (iI s)]) (c_X11_isIn (M := M) hn (M (o + 1) i.toNat) s (by first | assumption | omega | exact hro.2 _) (by first | exact hro.1 | omega)) wM_X11_isIn wS_X11_isIn kl_X11_435 ⟨rfl, rfl, Nat.le_of_ble_eq_true rfl, Nat.le_of_ble_eq_true rfl⟩ (Nat.le_of_ble_eq_true rfl) cs rfl rfl dX11_wrongInOrder_59 rfl ?_
              rintro _ _ ⟨rfl, rfl⟩
              refine g_ifb_eq cx (pc2 := 65) (tgt := 67) dX11_wrongInOrder_62 (by decide) rfl (fun h_5 => ?_) (fun h_5 => ?_)
              · skip
                refine g_iload_n cx (pc2 := 68) 2 rfl dX11_wrongInOrder_67 rfl ?_
                refine g_iload cx (pc2 := 70) 4 rfl dX11_wrongInOrder_68 rfl ?_
                refine g_callS cx (pc2 := 73) (st := [.int (iI s)]) (As := [.int (iI (M (o + 1) i.toNat))]) (c_X11_bit (M := M) hn (M (o + 1) i.toNat) (by first | assumption | omega | exact hro.2 _)) wM_X11_bit wS_X11_bit kl_X11_269 ⟨rfl, rfl, Nat.le_of_ble_eq_true rfl, Nat.le_of_ble_eq_true rfl⟩ (Nat.le_of_ble_eq_true rfl) cs rfl rfl dX11_wrongInOrder_70 rfl ?_
                rintro _ _ ⟨rfl, rfl⟩
                refine g_ior cx (pc2 := 74) dX11_wrongInOrder_73 rfl ?_
                refine g_rwi (y := iI ((s.toNat ||| bitN (M (o + 1) i.toNat) : Nat) : Int)) (or_iI (by omega) (by omega)) ?_
                refine g_istore_n cx (pc2 := 75) (lv2 := [(0, .ref 0), (1, .ref o), (2, .int (iI ((s.toNat ||| bitN (M (o + 1) i.toNat) : Nat) : Int))), (3, .int (iI i)), (4, .int (iI (M (o + 1) i.toNat)))]) rfl (Nat.le_of_ble_eq_true rfl) dX11_wrongInOrder_74 rfl ?_
                refine g_iinc cx (pc2 := 78) 3 rfl (lv2 := [(0, .ref 0), (1, .ref o), (2, .int (iI ((s.toNat ||| bitN (M (o + 1) i.toNat) : Nat) : Int))), (3, .int (iI (i + 1))), (4, .int (iI (M (o + 1) i.toNat)))]) rfl (Nat.le_of_ble_eq_true rfl) dX11_wrongInOrder_75 rfl ?_
                refine g_goto cx (tgt := 29) dX11_wrongInOrder_78 (by decide) ?_
                refine g_sub (lv2 := [(0, .ref 0), (1, .ref o), (2, .int (iI ((s.toNat ||| bitN (M (o + 1) i.toNat) : Nat) : Int))), (3, .int (iI (i + 1)))]) [0, 1, 2, 3] rfl ?_
                exact ih29 ((M o 1 - (i + 1)).toNat) (by omega) ((s.toNat ||| bitN (M (o + 1) i.toNat) : Nat) : Int) (i + 1) (by first | assumption | omega) (by rw [hs, Int.toNat_natCast, show (i + 1).toNat = i.toNat + 1 by omega, mtG]) (by intro j hj; rcases (show j < i.toNat ∨ j = i.toNat by omega) with q | q; exact hok j q; subst q; refine ⟨by assumption, ?_⟩; rw [← hs]; assumption) (Nat.le_refl _)
              · skip
                refine g_iconst cx (pc2 := 66) dX11_wrongInOrder_65 rfl ?_
                exact g_iret cx qx dX11_wrongInOrder_66 ⟨congrArg (fun q => some (Value.int (iI q))) (by unfold wioV; rw [if_neg (by assumption), if_neg (by omega), if_neg (fun q => ?_)]; have q2 := q i.toNat (by omega); rw [← hs] at q2; first | exact absurd q2.1 (by assumption) | exact absurd (by assumption) q2.2), by rfl⟩
      exact L29 _ 0 0 (by first | assumption | omega) (by rfl) (by intro j hj; exact absurd hj (Nat.not_lt_zero j)) (Nat.le_refl _)
    · skip
      refine g_iconst cx (pc2 := 24) dX11_wrongInOrder_23 rfl ?_
      exact g_iret cx qx dX11_wrongInOrder_24 ⟨congrArg (fun q => some (Value.int (iI q))) (by unfold wioV; rw [if_neg (by assumption), if_pos (by omega)]), by rfl⟩
  · skip
    refine g_iconst cx (pc2 := 8) dX11_wrongInOrder_7 rfl ?_
    exact g_iret cx qx dX11_wrongInOrder_8 ⟨congrArg (fun q => some (Value.int (iI q))) (by unfold wioV; rw [if_pos (by assumption)]), by rfl⟩
set_option maxHeartbeats 4000000 in
set_option maxRecDepth 100000 in
theorem c_X11_goAlong {n : Nat} (hn : NN n) {M : Mm} (hci : CI M) {o : Nat} (ho : isRowO o) : CT yX11_goAlong cX11_goAlong 4 none ({ frames := 3, cells := 0, slots := 0, locals := 67 }) n [.ref 0, .ref o] M (rV (gaM M o)) := by
  refine CT.of (lv0 := [(0, .ref 0), (1, .ref o)]) (by decide +kernel) hn (fun _ => rfl) (fun _ => Nat.le_of_ble_eq_true rfl) (fun X cx cs qx => ?_)
  have cx : Cx X cX11_goAlong RX11 ({ frames := 3, cells := 0, slots := 0, locals := 67 }) 4 n := cx
  have hro := hci.rw o ho
  have hcap := capO_b o
  have hl := hci.l
  have hc1 := hci.ld
  have hsp := hci.sp
  have hc2 := hc1.bg hsp
  have eo : ∀ T : Mm, (∀ a, a < 48 → T a = ldM M a) → T o = M o ∧ T (o + 1) = M (o + 1) := fun T q => ⟨by rw [q o (by omega), ldM_off (by omega)], by rw [q (o + 1) (by omega), ldM_off (by omega)]⟩
  refine g_aload_n cx (pc2 := 1) 0 rfl dX11_goAlong_0 rfl ?_
  refine g_get cx (pc2 := 4) (ci := 11) (k0 := 0) (j := 5) (v := .ref 48) rfl iwX11 rfl (lt_lit hn (Nat.le_of_ble_eq_true rfl)) rfl (Nat.le_of_ble_eq_true rfl) kf_X11_38 rfl rfl dX11_goAlong_1 rfl ?_
  refine g_aload_n cx (pc2 := 5) 0 rfl dX11_goAlong_4 rfl ?_
  refine g_get cx (pc2 := 8) (ci := 11) (k0 := 0) (j := 2) (v := .ref 23) rfl iwX11 rfl (lt_lit hn (Nat.le_of_ble_eq_true rfl)) rfl (Nat.le_of_ble_eq_true rfl) kf_X11_21 rfl rfl dX11_goAlong_5 rfl ?_
  refine g_callV cx (pc2 := 11) (st := []) (As := [.ref 23]) (k0 := 48) (ci := 1) (c_X1_load (M := M) hn (by exact hci.l) (by exact hci.nd) (by exact hci.pl)) wM_X1_load wV_X1_load kl_X11_259 rfl (lt_lit hn (Nat.le_of_ble_eq_true rfl)) rfl ⟨rfl, rfl, Nat.le_of_ble_eq_true rfl, Nat.le_of_ble_eq_true rfl⟩ (Nat.le_of_ble_eq_true rfl) cs rfl rfl dX11_goAlong_8 rfl ?_
  rintro _ _ ⟨rfl, rfl⟩
  refine g_aload_n cx (pc2 := 12) 0 rfl dX11_goAlong_11 rfl ?_
  refine g_get cx (pc2 := 15) (ci := 11) (k0 := 0) (j := 6) (v := .ref 54) rfl iwX11 rfl (lt_lit hn (Nat.le_of_ble_eq_true rfl)) rfl (Nat.le_of_ble_eq_true rfl) kf_X11_47 rfl rfl dX11_goAlong_12 rfl ?_
  refine g_aload_n cx (pc2 := 16) 0 rfl dX11_goAlong_15 rfl ?_
  refine g_get cx (pc2 := 19) (ci := 11) (k0 := 0) (j := 2) (v := .ref 23) rfl iwX11 rfl (lt_lit hn (Nat.le_of_ble_eq_true rfl)) rfl (Nat.le_of_ble_eq_true rfl) kf_X11_21 rfl rfl dX11_goAlong_16 rfl ?_
  refine g_callV cx (pc2 := 22) (st := [.ref 54]) (As := []) (k0 := 23) (ci := 2) (c_X2_startPlace (M := (ldM M)) hn (by exact hc1.l) (by exact hc1.st)) wM_X2_startPlace wV_X2_startPlace kl_X11_263 rfl (lt_lit hn (Nat.le_of_ble_eq_true rfl)) rfl ⟨rfl, rfl, Nat.le_of_ble_eq_true rfl, Nat.le_of_ble_eq_true rfl⟩ (Nat.le_of_ble_eq_true rfl) cs rfl rfl dX11_goAlong_19 rfl ?_
  rintro _ _ ⟨rfl, rfl⟩
  refine g_rwi (y := iI (stp M)) (rfl) ?_
  refine g_callV cx (pc2 := 25) (st := []) (As := [.int (iI (stp M))]) (k0 := 54) (ci := 10) (c_X10_beginAt (M := (ldM M)) hn (stp M)) wM_X10_beginAt wV_X10_beginAt kl_X11_438 rfl (lt_lit hn (Nat.le_of_ble_eq_true rfl)) rfl ⟨rfl, rfl, Nat.le_of_ble_eq_true rfl, Nat.le_of_ble_eq_true rfl⟩ (Nat.le_of_ble_eq_true rfl) cs rfl rfl dX11_goAlong_22 rfl ?_
  rintro _ _ ⟨rfl, rfl⟩
  refine g_iconst cx (pc2 := 26) dX11_goAlong_25 rfl ?_
  refine g_istore_n cx (pc2 := 27) (lv2 := [(0, .ref 0), (1, .ref o), (2, .int (iI 1))]) rfl (Nat.le_of_ble_eq_true rfl) dX11_goAlong_26 rfl ?_
  refine g_iconst cx (pc2 := 28) dX11_goAlong_27 rfl ?_
  refine g_istore_n cx (pc2 := 29) (lv2 := [(0, .ref 0), (1, .ref o), (2, .int (iI 1)), (3, .int (iI 0))]) rfl (Nat.le_of_ble_eq_true rfl) dX11_goAlong_28 rfl ?_
  have L29 : ∀ (fu : Nat) (g : Int) (i : Int) (T : Mm), (0 ≤ i ∧ (i ≤ M o 1 ∨ i = 0)) → (T = (gaF (M (o + 1)) (bgM (ldM M) (stp M)) i.toNat).1) → ((g = 1 ∧ (gaF (M (o + 1)) (bgM (ldM M) (stp M)) i.toNat).2 = true) ∨ (g = 0 ∧ (gaF (M (o + 1)) (bgM (ldM M) (stp M)) i.toNat).2 = false)) → (M o 1 - i).toNat ≤ fu → G X 29 [(0, .ref 0), (1, .ref o), (2, .int (iI g)), (3, .int (iI i))] [] T := by
    intro fu
    induction fu using Nat.strongRecOn with
    | _ fu ih29 =>
      intro g i T hi hT hg hk29
      have hTc : CI T := by rw [hT]; exact gaF_CI hc2 _
      have hTo := eo T (fun a q => by rw [hT, gaF_off _ _ (by omega), bgM_off _ _ (by omega)])
      have e0 : T o 1 = M o 1 := by rw [hTo.1]
      have hci2 := hro.2 i.toNat
      have hst : (gaF (M (o + 1)) (bgM (ldM M) (stp M)) (i + 1).toNat) = if (gaF (M (o + 1)) (bgM (ldM M) (stp M)) i.toNat).2 = true ∧ okW T (M (o + 1) i.toNat) then (meM T (M (o + 1) i.toNat), true) else (T, false) := by rw [show (i + 1).toNat = i.toNat + 1 by omega, gaF, ← hT]
      refine g_iload_n cx (pc2 := 30) 3 rfl dX11_goAlong_29 rfl ?_
      refine g_aload_n cx (pc2 := 31) 1 rfl dX11_goAlong_30 rfl ?_
      refine g_callV cx (pc2 := 34) (st := [.int (iI i)]) (As := []) (k0 := o) (ci := 8) (c_X8_length (M := T) hn (by exact ho)) wM_X8_length wV_X8_length kl_X11_146 (sh_row ho) (by first | (exact kn_row hn ho) | (exact kn_row1 hn ho) | omega) rfl ⟨rfl, rfl, Nat.le_of_ble_eq_true rfl, Nat.le_of_ble_eq_true rfl⟩ (Nat.le_of_ble_eq_true rfl) cs rfl rfl dX11_goAlong_31 rfl ?_
      rintro _ _ ⟨rfl, rfl⟩
      refine g_rwi (y := iI (M o 1)) (congrArg iI e0) ?_
      refine g_icmp_ge cx (pc2 := 37) (tgt := 60) ⟨(by first | assumption | omega), (by first | assumption | omega)⟩ dX11_goAlong_34 (by decide) rfl (fun h_1 => ?_) (fun h_1 => ?_)
      · skip
        exact g_vret cx qx dX11_goAlong_60 ⟨rfl, by unfold gaM; first | (rw [hT, show (M o 1).toNat = i.toNat by omega]; done) | (rw [hT]; have e := gaF_fix (M (o + 1)) (bgM (ldM M) (stp M)) (k := i.toNat) (by rcases hg with z | z; omega; exact z.2) ((M o 1).toNat - i.toNat); rw [show i.toNat + ((M o 1).toNat - i.toNat) = (M o 1).toNat by omega] at e; rw [e])⟩
      · skip
        refine g_iload_n cx (pc2 := 38) 2 rfl dX11_goAlong_37 rfl ?_
        refine g_if_eq cx (pc2 := 41) (tgt := 60) (by first | assumption | omega) dX11_goAlong_38 (by decide) rfl (fun h_2 => ?_) (fun h_2 => ?_)
        · skip
          exact g_vret cx qx dX11_goAlong_60 ⟨rfl, by unfold gaM; first | (rw [hT, show (M o 1).toNat = i.toNat by omega]; done) | (rw [hT]; have e := gaF_fix (M (o + 1)) (bgM (ldM M) (stp M)) (k := i.toNat) (by rcases hg with z | z; omega; exact z.2) ((M o 1).toNat - i.toNat); rw [show i.toNat + ((M o 1).toNat - i.toNat) = (M o 1).toNat by omega] at e; rw [e])⟩
        · skip
          refine g_aload_n cx (pc2 := 42) 0 rfl dX11_goAlong_41 rfl ?_
          refine g_get cx (pc2 := 45) (ci := 11) (k0 := 0) (j := 6) (v := .ref 54) rfl iwX11 rfl (lt_lit hn (Nat.le_of_ble_eq_true rfl)) rfl (Nat.le_of_ble_eq_true rfl) kf_X11_47 rfl rfl dX11_goAlong_42 rfl ?_
          refine g_aload_n cx (pc2 := 46) 1 rfl dX11_goAlong_45 rfl ?_
          refine g_iload_n cx (pc2 := 47) 3 rfl dX11_goAlong_46 rfl ?_
          refine g_callV cx (pc2 := 50) (st := [.ref 54]) (As := [.int (iI i)]) (k0 := o) (ci := 8) (c_X8_cell (M := T) hn (by exact ho) (by rw [hTo.1]; exact hro.1) i (by first | assumption | omega)) wM_X8_cell wV_X8_cell kl_X11_129 (sh_row ho) (by first | (exact kn_row hn ho) | (exact kn_row1 hn ho) | omega) rfl ⟨rfl, rfl, Nat.le_of_ble_eq_true rfl, Nat.le_of_ble_eq_true rfl⟩ (Nat.le_of_ble_eq_true rfl) cs rfl rfl dX11_goAlong_47 rfl ?_
          rintro _ _ ⟨rfl, rfl⟩
          refine g_rwi (y := iI (M (o + 1) i.toNat)) (congrArg iI (by rw [if_pos (by omega), hTo.2])) ?_
          refine g_callV cx (pc2 := 53) (st := []) (As := [.int (iI (M (o + 1) i.toNat))]) (k0 := 54) (ci := 10) (c_X10_meet (M := T) hn (by exact hTc.j) (by exact hTc.w) (M (o + 1) i.toNat) (by first | assumption | omega)) wM_X10_meet wV_X10_meet kl_X11_441 rfl (lt_lit hn (Nat.le_of_ble_eq_true rfl)) rfl ⟨rfl, rfl, Nat.le_of_ble_eq_true rfl, Nat.le_of_ble_eq_true rfl⟩ (Nat.le_of_ble_eq_true rfl) cs rfl rfl dX11_goAlong_50 rfl ?_
          rintro _ _ ⟨rfl, rfl⟩
          refine g_istore_n cx (pc2 := 54) (lv2 := [(0, .ref 0), (1, .ref o), (2, .int (iI (b2 (okW T (M (o + 1) i.toNat))))), (3, .int (iI i))]) rfl (Nat.le_of_ble_eq_true rfl) dX11_goAlong_53 rfl ?_
          refine g_iinc cx (pc2 := 57) 3 rfl (lv2 := [(0, .ref 0), (1, .ref o), (2, .int (iI (b2 (okW T (M (o + 1) i.toNat))))), (3, .int (iI (i + 1)))]) rfl (Nat.le_of_ble_eq_true rfl) dX11_goAlong_54 rfl ?_
          refine g_goto cx (tgt := 29) dX11_goAlong_57 (by decide) ?_
          exact ih29 ((M o 1 - (i + 1)).toNat) (by omega) (b2 (okW T (M (o + 1) i.toNat))) (i + 1) (if okW T (M (o + 1) i.toNat) then meM T (M (o + 1) i.toNat) else T) (by first | assumption | omega) (by rw [hst]; by_cases q : okW T (M (o + 1) i.toNat); rw [if_pos q, if_pos ⟨by rcases hg with z | z; exact z.2; omega, q⟩]; rw [if_neg q, if_neg (fun z => q z.2)]) (by rw [hst]; by_cases q : okW T (M (o + 1) i.toNat); left; rw [if_pos ⟨by rcases hg with z | z; exact z.2; omega, q⟩]; exact ⟨if_pos q, rfl⟩; right; rw [if_neg (fun z => q z.2)]; exact ⟨if_neg q, rfl⟩) (Nat.le_refl _)
  exact L29 _ 1 0 (stM (stM (stM (ldM M) 54 3 0) 54 4 (stp M)) 54 5 0) (by first | assumption | omega) (by rfl) (by exact Or.inl ⟨rfl, rfl⟩) (Nat.le_refl _)
set_option maxHeartbeats 4000000 in
set_option maxRecDepth 100000 in
theorem c_X11_reachFromStart {n : Nat} (hn : NN n) {M : Mm} (hci : CI M) (w : Int) (hw : 0 ≤ w ∧ w ≤ 255) : CT yX11_reachFromStart cX11_reachFromStart 2 none ({ frames := 5, cells := 0, slots := 0, locals := 124 }) n [.ref 0, .int (iI w)] M (rV (rcM (ldM M) w (stp M) 0)) := by
  refine CT.of (lv0 := [(0, .ref 0), (1, .int (iI w))]) (by decide +kernel) hn (fun _ => rfl) (fun _ => Nat.le_of_ble_eq_true rfl) (fun X cx cs qx => ?_)
  have cx : Cx X cX11_reachFromStart RX11 ({ frames := 5, cells := 0, slots := 0, locals := 124 }) 2 n := cx
  have hc1 := hci.ld
  have hsp := hci.sp
  refine g_aload_n cx (pc2 := 1) 0 rfl dX11_reachFromStart_0 rfl ?_
  refine g_get cx (pc2 := 4) (ci := 11) (k0 := 0) (j := 5) (v := .ref 48) rfl iwX11 rfl (lt_lit hn (Nat.le_of_ble_eq_true rfl)) rfl (Nat.le_of_ble_eq_true rfl) kf_X11_38 rfl rfl dX11_reachFromStart_1 rfl ?_
  refine g_aload_n cx (pc2 := 5) 0 rfl dX11_reachFromStart_4 rfl ?_
  refine g_get cx (pc2 := 8) (ci := 11) (k0 := 0) (j := 2) (v := .ref 23) rfl iwX11 rfl (lt_lit hn (Nat.le_of_ble_eq_true rfl)) rfl (Nat.le_of_ble_eq_true rfl) kf_X11_21 rfl rfl dX11_reachFromStart_5 rfl ?_
  refine g_callV cx (pc2 := 11) (st := []) (As := [.ref 23]) (k0 := 48) (ci := 1) (c_X1_load (M := M) hn (by first | assumption | exact hci.l) (by first | assumption | exact hci.nd) (by first | assumption | exact hci.pl)) wM_X1_load wV_X1_load kl_X11_259 rfl (lt_lit hn (Nat.le_of_ble_eq_true rfl)) rfl ⟨rfl, rfl, Nat.le_of_ble_eq_true rfl, Nat.le_of_ble_eq_true rfl⟩ (Nat.le_of_ble_eq_true rfl) cs rfl rfl dX11_reachFromStart_8 rfl ?_
  rintro _ _ ⟨rfl, rfl⟩
  refine g_aload_n cx (pc2 := 12) 0 rfl dX11_reachFromStart_11 rfl ?_
  refine g_get cx (pc2 := 15) (ci := 11) (k0 := 0) (j := 7) (v := .ref 57) rfl iwX11 rfl (lt_lit hn (Nat.le_of_ble_eq_true rfl)) rfl (Nat.le_of_ble_eq_true rfl) kf_X11_54 rfl rfl dX11_reachFromStart_12 rfl ?_
  refine g_iload_n cx (pc2 := 16) 1 rfl dX11_reachFromStart_15 rfl ?_
  refine g_aload_n cx (pc2 := 17) 0 rfl dX11_reachFromStart_16 rfl ?_
  refine g_get cx (pc2 := 20) (ci := 11) (k0 := 0) (j := 2) (v := .ref 23) rfl iwX11 rfl (lt_lit hn (Nat.le_of_ble_eq_true rfl)) rfl (Nat.le_of_ble_eq_true rfl) kf_X11_21 rfl rfl dX11_reachFromStart_17 rfl ?_
  refine g_callV cx (pc2 := 23) (st := [.int (iI w), .ref 57]) (As := []) (k0 := 23) (ci := 2) (c_X2_startPlace (M := (ldM M)) hn (by exact hc1.l) (by exact hc1.st)) wM_X2_startPlace wV_X2_startPlace kl_X11_263 rfl (lt_lit hn (Nat.le_of_ble_eq_true rfl)) rfl ⟨rfl, rfl, Nat.le_of_ble_eq_true rfl, Nat.le_of_ble_eq_true rfl⟩ (Nat.le_of_ble_eq_true rfl) cs rfl rfl dX11_reachFromStart_20 rfl ?_
  rintro _ _ ⟨rfl, rfl⟩
  refine g_rwi (y := iI (stp M)) (rfl) ?_
  refine g_iconst cx (pc2 := 24) dX11_reachFromStart_23 rfl ?_
  refine g_callV cx (pc2 := 27) (st := []) (As := [.int (iI w), .int (iI (stp M)), .int (iI 0)]) (k0 := 57) (ci := 6) (c_X6_reach (M := (ldM M)) hn (by exact hc1.j) (by exact hc1.p) w (stp M) 0 (by first | assumption | omega) (by exact hsp) (by first | assumption | omega)) wM_X6_reach wV_X6_reach kl_X11_292 rfl (lt_lit hn (Nat.le_of_ble_eq_true rfl)) rfl ⟨rfl, rfl, Nat.le_of_ble_eq_true rfl, Nat.le_of_ble_eq_true rfl⟩ (Nat.le_of_ble_eq_true rfl) cs rfl rfl dX11_reachFromStart_24 rfl ?_
  rintro _ _ ⟨rfl, rfl⟩
  exact g_vret cx qx dX11_reachFromStart_27 ⟨rfl, by rfl⟩
