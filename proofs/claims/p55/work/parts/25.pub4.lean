theorem CI.go {M : Mm} (h : CI M) : CI (goM M) := by
  have key : ∀ k, CI (goF (bgM M (stp M)) k) := by
    intro k
    induction k with
    | zero => exact h.bg h.sp
    | succ k ih =>
      show CI (goS (goF (bgM M (stp M)) k))
      unfold goS
      split
      · exact ih.me (by assumption)
      · exact ih
  exact key 8
theorem CI.cw {M M2 : Mm} (h : CI M) (hf : ∀ a, a ≠ 61 → a ≠ 62 → M2 a = M a) (hC : CW M2) : CI M2 :=
  h.fr (fun a h1 h2 => hf a (by omega) (by omega)) (JW_of (fun a _ _ => hf a (by omega) (by omega)) h.j) (PW_fr (fun a _ _ => hf a (by omega) (by omega)) h.p) (WW_fr (fun a _ _ => hf a (by omega) (by omega)) h.w) hC
theorem CI.tk {M : Mm} (h : CI M) {o : Nat} {i : Int} (hi : 0 ≤ i ∧ i ≤ 4) : CI (tkP M o i) := by
  refine h.cw (fun a h1 h2 => tkP_off ⟨h1, h2⟩) ⟨hi, fun j => ?_⟩
  unfold tkP
  rw [if_neg (by omega)]
  split
  · have := ltO_b (M (o + 1) j); omega
  · exact h.c.2 j
theorem adL_off (M : Mm) (l : Int) {a : Nat} (h1 : a ≠ 61) (h2 : a ≠ 62) : adL M l a = M a := by
  unfold adL
  split
  · rw [stM_off h1, stM_off h2]
  · rfl
theorem tnM_off (M : Mm) (q : Int) {a : Nat} (h1 : a ≠ 61) (h2 : a ≠ 62) : tnM M q a = M a := by
  unfold tnM
  split
  · rw [adL_off _ _ h1 h2, stM_off h1]
  · rw [adL_off _ _ h1 h2, adL_off _ _ h1 h2, stM_off h1]
theorem CI.tn {M : Mm} (h : CI M) {q : Int} (hq : 0 ≤ q ∧ q < 30) : CI (tnM M q) := by
  refine h.cw (fun a h1 h2 => tnM_off M q h1 h2) ?_
  have hS0 : CW (stM M 61 3 0) := ⟨by show (0 : Int) ≤ 0 ∧ (0 : Int) ≤ 4; omega, fun j => h.c.2 j⟩
  unfold tnM
  split
  · exact CW_ad hS0 (by omega)
  · have e : (q - 5).tdiv 5 = (q - 5) / 5 := Int.tdiv_eq_ediv_of_nonneg (by omega)
    rw [e]
    exact CW_ad (CW_ad hS0 (by omega)) (by omega)
def ruT (M : Mm) (o : Nat) : Mm := goM (ldM (tkP M o (M o 1)))
def wwM (T : Mm) : Int := wsM T ((mtF T (T 54 3).toNat : Nat) : Int)
theorem wwM_off {M M2 : Mm} (h : ∀ a, 48 ≤ a → a ≤ 56 → M2 a = M a) : wwM M2 = wwM M := by
  unfold wwM wsM
  rw [h 54 (by decide) (by decide), h 48 (by decide) (by decide), h 53 (by decide) (by decide)]
  have e : ∀ k, mtF M2 k = mtF M k := by
    intro k
    induction k with
    | zero => rfl
    | succ k ih => rw [mtF, mtF, ih, h 55 (by decide) (by decide)]
  rw [e]
theorem wwM_b {T : Mm} (h : JW T) : 0 ≤ wwM T ∧ wwM T ≤ 144 := wsM_b h _
def ruR (M : Mm) (t r z : Int) (M2 : Mm) : Prop :=
  (¬ (T4 t ∧ R6 r) ∧ z = -1 ∧ M2 = M) ∨ ((T4 t ∧ R6 r) ∧ M (15 + 2 * t.toNat) 1 < 0 ∧ z = -3 ∧ M2 = fdM M 1) ∨
  ((T4 t ∧ R6 r) ∧ ¬ M (15 + 2 * t.toNat) 1 < 0 ∧ ¬ vR M (15 + 2 * t.toNat) ∧ z = -4 ∧ ∃ i, 0 ≤ i ∧ i ≤ 4 ∧ M2 = tkP M (15 + 2 * t.toNat) i) ∨
  ((T4 t ∧ R6 r) ∧ ¬ M (15 + 2 * t.toNat) 1 < 0 ∧ vR M (15 + 2 * t.toNat) ∧ z = wwM (ruT M (15 + 2 * t.toNat)) ∧ M2 = twM (ruT M (15 + 2 * t.toNat)) (3 + 2 * r.toNat))
abbrev tnO (q : Int) : Prop := q < 5 ∨ ¬ (q - 5).tdiv 5 = q - 5 - (q - 5).tdiv 5 * 5
/-- rule after rule: the state, the wisest so far, its worth -/
def wiF (M : Mm) : Nat → Mm × Int × Int
  | 0 => (ldM M, 0, -9)
  | k + 1 => if tnO (k : Int) then (if (wiF M k).2.2 < wwM (goM (tnM (wiF M k).1 (k : Int))) then (goM (tnM (wiF M k).1 (k : Int)), (k : Int), wwM (goM (tnM (wiF M k).1 (k : Int)))) else (goM (tnM (wiF M k).1 (k : Int)), (wiF M k).2)) else (tnM (wiF M k).1 (k : Int), (wiF M k).2)
theorem wiF_W {M : Mm} (h : CI M) : ∀ k : Nat, k ≤ 30 → CI (wiF M k).1 ∧ (0 ≤ (wiF M k).2.1 ∧ (wiF M k).2.1 ≤ 30) ∧ (-9 ≤ (wiF M k).2.2 ∧ (wiF M k).2.2 ≤ 144)
  | 0, _ => ⟨h.ld, by show (0 : Int) ≤ 0 ∧ (0 : Int) ≤ 30; omega, by show (-9 : Int) ≤ -9 ∧ (-9 : Int) ≤ 144; omega⟩
  | k + 1, hk => by
    have h1 := wiF_W h k (by omega)
    have h2 := h1.1.tn (q := (k : Int)) (by omega)
    have h3 := wwM_b h2.go.j
    rw [wiF]
    split
    · split
      · exact ⟨h2.go, by simp only []; omega, by simp only []; omega⟩
      · exact ⟨h2.go, h1.2⟩
    · exact ⟨h2, h1.2⟩
theorem CI.cp {M : Mm} (h : CI M) : CI (cpM M 59 60 0 0 256) := by
  have hf : ∀ a, a ≠ 60 → cpM M 59 60 0 0 256 a = M a := fun a ha => by
    funext b
    unfold cpM
    rw [if_neg (fun q => ha q.1)]
  refine h.fr (fun a h1 h2 => hf a (by omega)) (JW_of (fun a _ _ => hf a (by omega)) h.j) (fun j => ?_) (WW_fr (fun a _ _ => hf a (by omega)) h.w) (CW_fr (fun a _ _ => hf a (by omega)) h.c)
  rw [hf 58 (by decide), hf 59 (by decide)]
  refine ⟨(h.p j).1, (h.p j).2.1, ?_⟩
  unfold cpM
  split
  · exact (h.p _).2.1
  · exact (h.p j).2.2
def seA (M : Mm) (h : Int) : Mm := rcM (ldM M) ((allN (M 23 4) : Nat) : Int) (plc M 23 h) 0
def seB (M : Mm) (h : Int) : Mm := cpM (seA M h) 59 60 0 0 256
def seT (M : Mm) (h : Int) : Mm := rcM (seB M h) ((allN (M 23 4) : Nat) : Int) (stp M) 0
theorem seB_off (M : Mm) (h : Int) {a : Nat} (ha : a < 48 ∨ 60 < a) : seB M h a = M a := by
  unfold seB
  have e : cpM (seA M h) 59 60 0 0 256 a = seA M h a := by
    funext b
    unfold cpM
    rw [if_neg (by omega)]
  rw [e]
  unfold seA
  rw [rcM_off _ _ _ _ (by omega) (by omega), ldM_off (by omega)]
theorem seT_off (M : Mm) (h : Int) {a : Nat} (ha : a < 48 ∨ 60 < a) : seT M h a = M a := by
  unfold seT
  rw [rcM_off _ _ _ _ (by omega) (by omega), seB_off M h ha]
theorem CI.se {M : Mm} (hc : CI M) (h : Int) : CI (seT M h) := ((hc.ld.rc (plc_b hc.pl h) (Or.inr (by omega))).cp).rc hc.sp (Or.inr (by omega))
def secV (M : Mm) (h : Int) : Int := mbO (seT M h) (bitsK M 1) (allN (M 23 4)) (allN (M 23 4) + 1)
def secP (M : Mm) (h : Int) : Int := bpM (seT M h) ((allN (M 23 4) : Nat) : Int) ((bitsK M 1 : Nat) : Int)
def secA (M : Mm) (h : Int) : Int := if ¬ HS M h then -1 else secV M h
def secM (M : Mm) (h : Int) : Mm := if ¬ HS M h then M else if secV M h = -9 then seT M h else tdM (seT M h) (if secP M h = -9 then secV M h else secV M h - wsM (seT M h) (secP M h))
theorem or255 {a b : Nat} (ha : a ≤ 255) (hb : b ≤ 255) : a ||| b ≤ 255 := by
  have := Nat.or_lt_two_pow (n := 8) (show a < 2 ^ 8 by omega) (show b < 2 ^ 8 by omega)
  omega
/-- what is due when two are one -/
def twD (M : Mm) (g l : Int) : Nat := if bitsK M 1 &&& bitN g = 0 then bitsK M 1 else ndN (bitsK M 1) (bitN g) ||| bitN l
theorem twD_b {M : Mm} (hl : LW M 23) (g l : Int) : twD M g l ≤ 255 := by
  have h1 := bitsK_255 hl 1
  have h2 := ndN_le (bitsK M 1) (bitN g)
  have h3 := bitN_le l
  unfold twD
  split
  · exact h1
  · exact or255 (by omega) (by omega)
def twJ (M : Mm) (i j : Int) : Mm := jnM (ldM M) (min i j) (27 + (min i j).toNat) (27 + (max i j).toNat)
def twoT (M : Mm) (i j : Int) : Mm := rcM (twJ M i j) ((ndN (allN (M 23 4)) (bitN (max i j)) : Nat) : Int) (stp M) 0
theorem twJ_off (M : Mm) (i j : Int) {a : Nat} (h : a < 48 ∨ 53 < a) : twJ M i j a = M a := by
  unfold twJ jnM
  split
  · rw [stM_off (by omega), stM_off (by omega), stM_off (by omega), ldM_off (by omega)]
  · rw [ldM_off (by omega)]
theorem CI.tj {M : Mm} (h : CI M) {i j : Int} (hi : NS M i) (hj : NS M j) (hne : ¬ i = j) (hlen : M (27 + (min i j).toNat) 4 = M (27 + (max i j).toNat) 4) : CI (twJ M i j) := by
  have hl := h.l
  have hmm : NS M (min i j) ∧ NS M (max i j) := by omega
  have hx := h.nd.2 (min i j).toNat (by omega)
  have hy := h.nd.2 (max i j).toNat (by omega)
  have hJ := h.ld.j
  refine h.fr (fun a h1 h2 => twJ_off M i j (by omega)) ?_ (PW_fr (fun a _ _ => twJ_off M i j (by omega)) h.p) (WW_fr (fun a _ _ => twJ_off M i j (by omega)) h.w) (CW_fr (fun a _ _ => twJ_off M i j (by omega)) h.c)
  have eL : ∀ a, a < 48 → ldM M a = M a := fun a ha => ldM_off (by omega)
  have e52 : ldM M 52 (min i j).toNat = M (27 + (min i j).toNat) 4 := by
    unfold ldM ldP
    rw [if_neg (by omega), if_pos (by omega)]
    rfl
  unfold twJ jnM
  rw [eL (27 + (min i j).toNat) (by omega), eL (27 + (max i j).toNat) (by omega), if_pos ⟨by omega, by show min i j < M 23 4; omega⟩]
  refine ⟨hJ.1, fun q => ?_⟩
  have h0 := hJ.2 q
  rw [stM_off (show 49 ≠ 53 by decide), stM_off (show 49 ≠ 51 by decide), stM_off (show 49 ≠ 50 by decide), stM_off (show 50 ≠ 53 by decide), stM_off (show 50 ≠ 51 by decide), stM_off (show 51 ≠ 53 by decide), stM_off (show 52 ≠ 53 by decide), stM_off (show 52 ≠ 51 by decide), stM_off (show 52 ≠ 50 by decide)]
  by_cases hq : q = (min i j).toNat
  · subst hq
    rw [stM_at, stM_at, stM_at]
    refine ⟨h0.1, by omega, by omega, h0.2.2.2.1, by omega, ?_⟩
    rw [e52]
    omega
  · rw [stM_ne _ _ (Or.inr hq), stM_ne _ _ (Or.inr hq), stM_off (show 51 ≠ 50 by decide), stM_ne _ _ (Or.inr hq), stM_off (show 53 ≠ 51 by decide), stM_off (show 53 ≠ 50 by decide)]
    exact h0
abbrev twB (M : Mm) (i j : Int) : Prop := ¬ M (27 + (min i j).toNat) 4 = M (27 + (max i j).toNat) 4 ∨ ¬ wap (plc M 23 (M (27 + (min i j).toNat) 1)) (plc M 23 (M (27 + (max i j).toNat) 1)) = 0
def twP2 (M : Mm) (i j : Int) : Int := bpM (twoT M i j) ((ndN (allN (M 23 4)) (bitN (max i j)) : Nat) : Int) ((twD M (max i j) (min i j) : Nat) : Int)
def twoA (M : Mm) (i j : Int) : Int := if ¬ NS M i ∨ ¬ NS M j ∨ i = j then -1 else if twB M i j then -9 else if twP2 M i j = -9 then -9 else wsM (twoT M i j) (twP2 M i j)
def twoM (M : Mm) (i j : Int) : Mm := if ¬ NS M i ∨ ¬ NS M j ∨ i = j then M else if twB M i j then M else twoT M i j
def menR (M : Mm) (w h z : Int) (M2 : Mm) : Prop := ((¬ (0 ≤ w ∧ w ≤ ((allN (M 23 4) : Nat) : Int)) ∨ ¬ HS M h) ∧ z = -1 ∧ M2 = M) ∨ (((0 ≤ w ∧ w ≤ ((allN (M 23 4) : Nat) : Int)) ∧ HS M h) ∧ mmR (ldM M) w (stp M) (plc M 23 h) z ∧ (∀ a, a ≠ 58 → a ≠ 59 → M2 a = ldM M a) ∧ PW M2)
/-- in how many ways lots are called so that all can be met -/
def odF (T : Mm) (l m : Nat) : Nat → Int
  | 0 => 0
  | k + 1 => if ndN k l = 0 ∧ ¬ T 59 (k ||| m) = -9 then odF T l m k + wyF T (k : Int) (T 23 4).toNat else odF T l m k
theorem wyF_b {M : Mm} (h : NDA M) (s : Int) : ∀ k : Nat, k ≤ 8 → 0 ≤ wyF M s k ∧ wyF M s k ≤ 12 ^ k
  | 0, _ => by simp [wyF]
  | k + 1, hk => by
    have h1 := wyF_b h s k (by omega)
    have h2 := h.2 k (by omega)
    have h3 : 0 ≤ (if inS (k : Int) s then M (27 + k) 6 else 12 - M (27 + k) 6) ∧ (if inS (k : Int) s then M (27 + k) 6 else 12 - M (27 + k) 6) ≤ 12 := by split <;> omega
    have h4 : (12 : Int) ^ (k + 1) = 12 ^ k * 12 := Int.pow_succ 12 k
    rw [wyF, h4]
    split
    · exact ⟨Int.mul_nonneg h1.1 h3.1, Int.mul_le_mul h1.2 h3.2 h3.1 (by omega)⟩
    · omega
theorem waF_b (M : Mm) : ∀ k : Nat, k ≤ 8 → 1 ≤ waF M k ∧ waF M k ≤ 12 ^ k
  | 0, _ => by simp [waF]
  | k + 1, hk => by
    have h1 := waF_b M k (by omega)
    have h4 : (12 : Int) ^ (k + 1) = 12 ^ k * 12 := Int.pow_succ 12 k
    rw [waF, h4]
    split <;> omega
theorem pow12 {k : Nat} (hk : k ≤ 8) : (12 : Int) ^ k ≤ 429981696 := by
  rcases (show k = 0 ∨ k = 1 ∨ k = 2 ∨ k = 3 ∨ k = 4 ∨ k = 5 ∨ k = 6 ∨ k = 7 ∨ k = 8 by omega) with h | h | h | h | h | h | h | h | h <;> subst h <;> decide
theorem odF_b {T : Mm} (hl : LW T 23) (h : NDA T) (l m : Nat) : ∀ k : Nat, 0 ≤ odF T l m k ∧ odF T l m k ≤ k * 429981696
  | 0 => by simp [odF]
  | k + 1 => by
    have h1 := odF_b hl h l m k
    have h2 := wyF_b h (k : Int) (T 23 4).toNat (by omega)
    have h3 := pow12 (k := (T 23 4).toNat) (by omega)
    rw [odF]
    split <;> omega
def odT (M : Mm) : Mm := gfA M ((bitsK M 2 ||| bitsK M 1 : Nat) : Int)
def odU (M : Mm) : Int := odF (odT M) (bitsK M 2) (bitsK M 1) (bitsK M 2 + 1)
def odL (M : Mm) : Int := waF (odT M) (M 23 4).toNat
def oddM (M : Mm) : Mm := frM (odT M) (odU M) (odL M)
def clV (M : Mm) (s : Int) : Nat := bsum (clB M s) (M 23 4).toNat
def clW (M : Mm) (s : Int) : Nat := ndN (allN (M 23 4)) (bitsK M 2) ||| clV M s
def clT (M : Mm) (s : Int) : Mm := gfA M ((clW M s : Nat) : Int)
def clP2 (M : Mm) (s : Int) : Int := bpM (clT M s) ((clW M s : Nat) : Int) ((bitsK M 1 : Nat) : Int)
def calA (M : Mm) (s : Int) : Int := if s < 1 ∨ 2147483646 < s then -1 else ((clV M s : Nat) : Int)
def calM (M : Mm) (s : Int) : Mm := if s < 1 ∨ 2147483646 < s then M else tdM (clT M s) (if clP2 M s = -9 then -9 else wsM (clT M s) (clP2 M s))
theorem clW_b {M : Mm} (hl : LW M 23) (s : Int) : clW M s ≤ 255 := or255 (Nat.le_trans (ndN_le _ _) (aL_255 hl)) (bsum_255 _ (by omega))
/-- the nearest house among the first k and one -/
def keF (M : Mm) (o : Nat) : Nat → Int
  | 0 => 0
  | k + 1 => if cbV M ((k + 1 : Nat) : Int) o < cbV M (keF M o k) o then ((k + 1 : Nat) : Int) else keF M o k
theorem keF_b (M : Mm) (o : Nat) : ∀ k : Nat, 0 ≤ keF M o k ∧ keF M o k ≤ (k : Int)
  | 0 => by simp [keF]
  | k + 1 => by
    have h := keF_b M o k
    rw [keF]
    split <;> omega
abbrev w99 (M : Mm) (o : Nat) : Prop := ∀ j : Nat, j < (M o 1).toNat → 0 ≤ M (o + 1) j ∧ M (o + 1) j ≤ 99
theorem smZ_le {f : Nat → Int} {c : Int} : ∀ k : Nat, (∀ j, j < k → 0 ≤ f j ∧ f j ≤ c) → 0 ≤ smZ f k ∧ smZ f k ≤ k * c
  | 0, _ => by simp [smZ]
  | k + 1, h => by
    have h1 := smZ_le k (fun j hj => h j (by omega))
    have h2 := h k (by omega)
    rw [smZ, show ((k + 1 : Nat) : Int) * c = k * c + c by rw [Int.natCast_add, Int.add_mul]; simp]
    omega
theorem cbV_b {M : Mm} (h : CI M) {o : Nat} (hsz : M o 1 = M 23 3) (hw : w99 M o) (x : Int) : 0 ≤ cbV M x o ∧ cbV M x o ≤ 2376 := by
  have hl := h.l
  have key := smZ_le (f := fun k => M (o + 1) k * wap (plc M 23 x) (plc M 23 (k : Int))) (c := 297) (M 23 3).toNat (fun j hj => by
    have h1 := hw j (by omega)
    have h2 := wap_b (plc_b h.pl x) (plc_b h.pl (j : Int))
    refine ⟨Int.mul_nonneg h1.1 h2.1, ?_⟩
    have h3 := Int.mul_le_mul h1.2 h2.2 h2.1 (by omega)
    simpa using h3)
  unfold cbV
  omega
def kpS (M : Mm) (o : Nat) : Int := smZ (M (o + 1)) (M o 1).toNat
def kpN (M : Mm) (o : Nat) : Int := keF M o ((M 23 3).toNat - 1)
def keeA (M : Mm) (r : Int) : Int := if ¬ R6 r then -1 else if M (3 + 2 * r.toNat) 1 < 0 then -3 else if ¬ M (3 + 2 * r.toNat) 1 = M 23 3 then -3 else if ¬ w99 M (3 + 2 * r.toNat) then -3 else if kpS M (3 + 2 * r.toNat) = 0 then -3 else kpN M (3 + 2 * r.toNat)
def keeM (M : Mm) (r : Int) : Mm := if ¬ R6 r then M else if M (3 + 2 * r.toNat) 1 < 0 then fdM M 1 else if ¬ M (3 + 2 * r.toNat) 1 = M 23 3 then fdM M 5 else if ¬ w99 M (3 + 2 * r.toNat) then fdM M 3 else if kpS M (3 + 2 * r.toNat) = 0 then fdM M 4 else frM M (cbV M (kpN M (3 + 2 * r.toNat)) (3 + 2 * r.toNat)) (kpS M (3 + 2 * r.toNat))
set_option maxHeartbeats 4000000 in
set_option maxRecDepth 100000 in
theorem c_X11_wise {n : Nat} (hn : NN n) {M : Mm} (hci : CI M) : CT yX11_wise cX11_wise 5 (some .int) ({ frames := 6, cells := 0, slots := 0, locals := 136 }) n [.ref 0] M (rI ((wiF M 30).2.1) (tdM (wiF M 30).1 (wiF M 30).2.2)) := by
  refine CT.of (lv0 := [(0, .ref 0)]) (by decide +kernel) hn (fun _ => rfl) (fun _ => Nat.le_of_ble_eq_true rfl) (fun X cx cs qx => ?_)
  have cx : Cx X cX11_wise RX11 ({ frames := 6, cells := 0, slots := 0, locals := 136 }) 5 n := cx
  have hl := hci.l
  have hAb := aL_255 hl
  have hMb := bitsK_255 hl 1
  have hLb := bitsK_255 hl 2
  refine g_aload_n cx (pc2 := 1) 0 rfl dX11_wise_0 rfl ?_
  refine g_get cx (pc2 := 4) (ci := 11) (k0 := 0) (j := 5) (v := .ref 48) rfl iwX11 rfl (lt_lit hn (Nat.le_of_ble_eq_true rfl)) rfl (Nat.le_of_ble_eq_true rfl) kf_X11_38 rfl rfl dX11_wise_1 rfl ?_
  refine g_aload_n cx (pc2 := 5) 0 rfl dX11_wise_4 rfl ?_
  refine g_get cx (pc2 := 8) (ci := 11) (k0 := 0) (j := 2) (v := .ref 23) rfl iwX11 rfl (lt_lit hn (Nat.le_of_ble_eq_true rfl)) rfl (Nat.le_of_ble_eq_true rfl) kf_X11_21 rfl rfl dX11_wise_5 rfl ?_
  refine g_callV cx (pc2 := 11) (st := []) (As := [.ref 23]) (k0 := 48) (ci := 1) (c_X1_load (M := M) hn (by exact hci.l) (by exact hci.nd) (by exact hci.pl)) wM_X1_load wV_X1_load kl_X11_259 rfl (lt_lit hn (Nat.le_of_ble_eq_true rfl)) rfl ⟨rfl, rfl, Nat.le_of_ble_eq_true rfl, Nat.le_of_ble_eq_true rfl⟩ (Nat.le_of_ble_eq_true rfl) cs rfl rfl dX11_wise_8 rfl ?_
  rintro _ _ ⟨rfl, rfl⟩
  refine g_getsRL cx (pc2 := 14) kf_X11_285 dX11_wise_11 rfl ?_
  refine g_slenRL cx (pc2 := 15) dX11_wise_14 rfl ?_
  refine g_istore_n cx (pc2 := 16) (lv2 := [(0, .ref 0), (1, .int (iI 5))]) rfl (Nat.le_of_ble_eq_true rfl) dX11_wise_15 rfl ?_
  refine g_iconst cx (pc2 := 17) dX11_wise_16 rfl ?_
  refine g_istore_n cx (pc2 := 18) (lv2 := [(0, .ref 0), (1, .int (iI 5)), (2, .int (iI 0))]) rfl (Nat.le_of_ble_eq_true rfl) dX11_wise_17 rfl ?_
  refine g_bipush cx (pc2 := 20) ⟨by decide, by decide⟩ dX11_wise_18 rfl ?_
  refine g_istore_n cx (pc2 := 21) (lv2 := [(0, .ref 0), (1, .int (iI 5)), (2, .int (iI 0)), (3, .int (iI (-9)))]) rfl (Nat.le_of_ble_eq_true rfl) dX11_wise_20 rfl ?_
  refine g_iconst cx (pc2 := 22) dX11_wise_21 rfl ?_
  refine g_istore cx (pc2 := 24) (lv2 := [(0, .ref 0), (1, .int (iI 5)), (2, .int (iI 0)), (3, .int (iI (-9))), (4, .int (iI 0))]) rfl (Nat.le_of_ble_eq_true rfl) dX11_wise_22 rfl ?_
  have L24 : ∀ (fu : Nat) (k : Int) (x : Int) (y : Int) (T : Mm), (0 ≤ k ∧ k ≤ 30) → (T = (wiF M k.toNat).1 ∧ x = (wiF M k.toNat).2.1 ∧ y = (wiF M k.toNat).2.2) → (30 - k).toNat ≤ fu → G X 24 [(0, .ref 0), (1, .int (iI 5)), (2, .int (iI x)), (3, .int (iI y)), (4, .int (iI k))] [] T := by
    intro fu
    induction fu using Nat.strongRecOn with
    | _ fu ih24 =>
      intro k x y T hk hT hk24
      have hW := wiF_W hci k.toNat (by omega)
      rw [← hT.1, ← hT.2.1, ← hT.2.2] at hW
      have hTn : k < 30 → CI (tnM T k) := fun q => hW.1.tn (by omega)
      have hst : wiF M (k + 1).toNat = if tnO k then (if y < wwM (goM (tnM T k)) then (goM (tnM T k), k, wwM (goM (tnM T k))) else (goM (tnM T k), x, y)) else (tnM T k, x, y) := by rw [show (k + 1).toNat = k.toNat + 1 by omega, wiF, Int.toNat_of_nonneg hk.1, ← hT.1, ← hT.2.2, show (wiF M k.toNat).2 = (x, y) from Prod.ext hT.2.1.symm hT.2.2.symm]
      refine g_iload cx (pc2 := 26) 4 rfl dX11_wise_24 rfl ?_
      refine g_iload_n cx (pc2 := 27) 1 rfl dX11_wise_26 rfl ?_
      refine g_iload_n cx (pc2 := 28) 1 rfl dX11_wise_27 rfl ?_
      refine g_iload_n cx (pc2 := 29) 1 rfl dX11_wise_28 rfl ?_
      refine g_imul cx (pc2 := 30) dX11_wise_29 rfl ?_
      refine g_iadd cx (pc2 := 31) dX11_wise_30 rfl ?_
      refine g_icmp_ge cx (pc2 := 34) (tgt := 81) ⟨(by first | assumption | omega), (by first | assumption | omega)⟩ dX11_wise_31 (by decide) rfl (fun h_1 => ?_) (fun h_1 => ?_)
      · skip
        refine g_aload_n cx (pc2 := 82) 0 rfl dX11_wise_81 rfl ?_
        refine g_iload_n cx (pc2 := 83) 3 rfl dX11_wise_82 rfl ?_
        refine g_puti cx (pc2 := 86) (ci := 11) (k0 := 0) (j := 15) rfl iwX11 rfl (lt_lit hn (Nat.le_of_ble_eq_true rfl)) rfl (Nat.le_of_ble_eq_true rfl) kf_X11_98 rfl tyX11_ok nmX11 rfl rfl dX11_wise_83 rfl ?_
        refine g_iload_n cx (pc2 := 87) 2 rfl dX11_wise_86 rfl ?_
        exact g_iret cx qx dX11_wise_87 ⟨congrArg (fun q => some (Value.int (iI q))) (by rw [hT.2.1, show k.toNat = 30 by omega]), by rw [hT.1, hT.2.2, show k.toNat = 30 by omega]; rfl⟩
      · skip
        have L75 : ∀ (x2 : Int) (y2 : Int) (T2 : Mm), (T2 = (wiF M (k + 1).toNat).1 ∧ x2 = (wiF M (k + 1).toNat).2.1 ∧ y2 = (wiF M (k + 1).toNat).2.2) → G X 75 [(0, .ref 0), (1, .int (iI 5)), (2, .int (iI x2)), (3, .int (iI y2)), (4, .int (iI k))] [] T2 := by
          intro x2 y2 T2 hT2
          refine g_iinc cx (pc2 := 78) 4 rfl (lv2 := [(0, .ref 0), (1, .int (iI 5)), (2, .int (iI x2)), (3, .int (iI y2)), (4, .int (iI (k + 1)))]) rfl (Nat.le_of_ble_eq_true rfl) dX11_wise_75 rfl ?_
          refine g_goto cx (tgt := 24) dX11_wise_78 (by decide) ?_
          exact ih24 ((30 - (k + 1)).toNat) (by omega) (k + 1) x2 y2 T2 (by first | assumption | omega) (by exact hT2) (Nat.le_refl _)
        refine g_aload_n cx (pc2 := 35) 0 rfl dX11_wise_34 rfl ?_
        refine g_get cx (pc2 := 38) (ci := 11) (k0 := 0) (j := 8) (v := .ref 61) rfl iwX11 rfl (lt_lit hn (Nat.le_of_ble_eq_true rfl)) rfl (Nat.le_of_ble_eq_true rfl) kf_X11_63 rfl rfl dX11_wise_35 rfl ?_
        refine g_iload cx (pc2 := 40) 4 rfl dX11_wise_38 rfl ?_
        refine g_callV cx (pc2 := 43) (st := []) (As := [.int (iI k)]) (k0 := 61) (ci := 0) (c_X0_takeNumber (M := T) hn (by exact hW.1.c) k (by first | assumption | omega)) wM_X0_takeNumber wV_X0_takeNumber kl_X11_289 rfl (lt_lit hn (Nat.le_of_ble_eq_true rfl)) rfl ⟨rfl, rfl, Nat.le_of_ble_eq_true rfl, Nat.le_of_ble_eq_true rfl⟩ (Nat.le_of_ble_eq_true rfl) cs rfl rfl dX11_wise_40 rfl ?_
        rintro _ _ ⟨rfl, rfl⟩
        refine g_ifb_eq cx (pc2 := 46) (tgt := 75) dX11_wise_43 (by decide) rfl (fun h_2 => ?_) (fun h_2 => ?_)
        · skip
          exact L75 x y (tnM T k) (by rw [hst]; first | (rw [if_pos (by assumption), if_pos (by omega)]; exact ⟨rfl, rfl, rfl⟩) | (rw [if_pos (by assumption), if_neg (by omega)]; exact ⟨rfl, rfl, rfl⟩) | (rw [if_neg (by assumption)]; exact ⟨rfl, rfl, rfl⟩))
        · skip
          have hg := hTn (by omega)
          have hgo := hg.go
          have hwb := wwM_b hgo.j
          refine g_aload_n cx (pc2 := 47) 0 rfl dX11_wise_46 rfl ?_
          refine g_get cx (pc2 := 50) (ci := 11) (k0 := 0) (j := 8) (v := .ref 61) rfl iwX11 rfl (lt_lit hn (Nat.le_of_ble_eq_true rfl)) rfl (Nat.le_of_ble_eq_true rfl) kf_X11_63 rfl rfl dX11_wise_47 rfl ?_
          refine g_callV cx (pc2 := 53) (st := []) (As := []) (k0 := 61) (ci := 0) (c_X0_go (M := (tnM T k)) hn (by exact hg.l) (by exact hg.nd) (by exact hg.pl) (by exact hg.j) (by exact hg.w) (by exact hg.c) (by exact hg.st)) wM_X0_go wV_X0_go kl_X11_279 rfl (lt_lit hn (Nat.le_of_ble_eq_true rfl)) rfl ⟨rfl, rfl, Nat.le_of_ble_eq_true rfl, Nat.le_of_ble_eq_true rfl⟩ (Nat.le_of_ble_eq_true rfl) cs rfl rfl dX11_wise_50 rfl ?_
          rintro _ _ ⟨rfl, rfl⟩
          refine g_aload_n cx (pc2 := 54) 0 rfl dX11_wise_53 rfl ?_
          refine g_get cx (pc2 := 57) (ci := 11) (k0 := 0) (j := 6) (v := .ref 54) rfl iwX11 rfl (lt_lit hn (Nat.le_of_ble_eq_true rfl)) rfl (Nat.le_of_ble_eq_true rfl) kf_X11_47 rfl rfl dX11_wise_54 rfl ?_
          refine g_callV cx (pc2 := 60) (st := []) (As := []) (k0 := 54) (ci := 10) (c_X10_worth (M := (goM (tnM T k))) hn (by exact hgo.j) (by exact hgo.w)) wM_X10_worth wV_X10_worth kl_X11_282 rfl (lt_lit hn (Nat.le_of_ble_eq_true rfl)) rfl ⟨rfl, rfl, Nat.le_of_ble_eq_true rfl, Nat.le_of_ble_eq_true rfl⟩ (Nat.le_of_ble_eq_true rfl) cs rfl rfl dX11_wise_57 rfl ?_
          rintro _ _ ⟨rfl, rfl⟩
          refine g_rwi (y := iI (wwM (goM (tnM T k)))) (rfl) ?_
          refine g_iload_n cx (pc2 := 61) 3 rfl dX11_wise_60 rfl ?_
          refine g_icmp_le cx (pc2 := 64) (tgt := 75) ⟨(by first | assumption | omega), (by first | assumption | omega)⟩ dX11_wise_61 (by decide) rfl (fun h_3 => ?_) (fun h_3 => ?_)
          · skip
            exact L75 x y (goM (tnM T k)) (by rw [hst]; first | (rw [if_pos (by assumption), if_pos (by omega)]; exact ⟨rfl, rfl, rfl⟩) | (rw [if_pos (by assumption), if_neg (by omega)]; exact ⟨rfl, rfl, rfl⟩) | (rw [if_neg (by assumption)]; exact ⟨rfl, rfl, rfl⟩))
          · skip
            refine g_aload_n cx (pc2 := 65) 0 rfl dX11_wise_64 rfl ?_
            refine g_get cx (pc2 := 68) (ci := 11) (k0 := 0) (j := 6) (v := .ref 54) rfl iwX11 rfl (lt_lit hn (Nat.le_of_ble_eq_true rfl)) rfl (Nat.le_of_ble_eq_true rfl) kf_X11_47 rfl rfl dX11_wise_65 rfl ?_
            refine g_callV cx (pc2 := 71) (st := []) (As := []) (k0 := 54) (ci := 10) (c_X10_worth (M := (goM (tnM T k))) hn (by exact hgo.j) (by exact hgo.w)) wM_X10_worth wV_X10_worth kl_X11_282 rfl (lt_lit hn (Nat.le_of_ble_eq_true rfl)) rfl ⟨rfl, rfl, Nat.le_of_ble_eq_true rfl, Nat.le_of_ble_eq_true rfl⟩ (Nat.le_of_ble_eq_true rfl) cs rfl rfl dX11_wise_68 rfl ?_
            rintro _ _ ⟨rfl, rfl⟩
            refine g_rwi (y := iI (wwM (goM (tnM T k)))) (rfl) ?_
            refine g_istore_n cx (pc2 := 72) (lv2 := [(0, .ref 0), (1, .int (iI 5)), (2, .int (iI x)), (3, .int (iI (wwM (goM (tnM T k))))), (4, .int (iI k))]) rfl (Nat.le_of_ble_eq_true rfl) dX11_wise_71 rfl ?_
            refine g_iload cx (pc2 := 74) 4 rfl dX11_wise_72 rfl ?_
            refine g_istore_n cx (pc2 := 75) (lv2 := [(0, .ref 0), (1, .int (iI 5)), (2, .int (iI k)), (3, .int (iI (wwM (goM (tnM T k))))), (4, .int (iI k))]) rfl (Nat.le_of_ble_eq_true rfl) dX11_wise_74 rfl ?_
            exact L75 k (wwM (goM (tnM T k))) (goM (tnM T k)) (by rw [hst]; first | (rw [if_pos (by assumption), if_pos (by omega)]; exact ⟨rfl, rfl, rfl⟩) | (rw [if_pos (by assumption), if_neg (by omega)]; exact ⟨rfl, rfl, rfl⟩) | (rw [if_neg (by assumption)]; exact ⟨rfl, rfl, rfl⟩))
  exact L24 _ 0 0 (-9) (ldM M) (by first | assumption | omega) (by exact ⟨rfl, rfl, rfl⟩) (Nat.le_refl _)
set_option maxHeartbeats 4000000 in
set_option maxRecDepth 100000 in
theorem c_X11_second {n : Nat} (hn : NN n) {M : Mm} (hci : CI M) (h : Int) (hh : ir h) : CT yX11_second cX11_second 5 (some .int) ({ frames := 5, cells := 0, slots := 0, locals := 124 }) n [.ref 0, .int (iI h)] M (rI (secA M h) (secM M h)) := by
  refine CT.of (lv0 := [(0, .ref 0), (1, .int (iI h))]) (by decide +kernel) hn (fun _ => rfl) (fun _ => Nat.le_of_ble_eq_true rfl) (fun X cx cs qx => ?_)
  have cx : Cx X cX11_second RX11 ({ frames := 5, cells := 0, slots := 0, locals := 124 }) 5 n := cx
  have hl := hci.l
  have hAb := aL_255 hl
  have hMb := bitsK_255 hl 1
  have hLb := bitsK_255 hl 2
  have hc1 := hci.ld
  have hp1 := plc_b hci.pl h
  have hc2 : CI (seA M h) := hc1.rc hp1 (Or.inr (by omega))
  have hc3 : CI (seB M h) := hc2.cp
  have hcT := hci.se h
  have hsp := hci.sp
  have eMB : ((bitsK (seT M h) 1 : Nat) : Int) = ((bitsK M 1 : Nat) : Int) := bK_off hl (seT_off M h (by omega)) (fun a _ _ => seT_off M h (by omega)) 1
  have hvb := mbO_b hcT.j (bitsK M 1) (allN (M 23 4)) (allN (M 23 4) + 1)
  have hbv := bpM_v (seT M h) ((allN (M 23 4) : Nat) : Int) ((bitsK M 1 : Nat) : Int)
  refine g_aload_n cx (pc2 := 1) 0 rfl dX11_second_0 rfl ?_
  refine g_get cx (pc2 := 4) (ci := 11) (k0 := 0) (j := 2) (v := .ref 23) rfl iwX11 rfl (lt_lit hn (Nat.le_of_ble_eq_true rfl)) rfl (Nat.le_of_ble_eq_true rfl) kf_X11_21 rfl rfl dX11_second_1 rfl ?_
  refine g_iload_n cx (pc2 := 5) 1 rfl dX11_second_4 rfl ?_
  refine g_callV cx (pc2 := 8) (st := []) (As := [.int (iI h)]) (k0 := 23) (ci := 2) (c_X2_isHouse (M := M) hn (by exact Or.inl rfl) (by first | assumption | omega) h (by first | assumption | omega)) wM_X2_isHouse wV_X2_isHouse kl_X11_170 rfl (lt_lit hn (Nat.le_of_ble_eq_true rfl)) rfl ⟨rfl, rfl, Nat.le_of_ble_eq_true rfl, Nat.le_of_ble_eq_true rfl⟩ (Nat.le_of_ble_eq_true rfl) cs rfl rfl dX11_second_5 rfl ?_
  rintro _ _ ⟨rfl, rfl⟩
  refine g_ifb_ne cx (pc2 := 11) (tgt := 13) dX11_second_8 (by decide) rfl (fun h_1 => ?_) (fun h_1 => ?_)
  · skip
    refine g_aload_n cx (pc2 := 14) 0 rfl dX11_second_13 rfl ?_
    refine g_get cx (pc2 := 17) (ci := 11) (k0 := 0) (j := 2) (v := .ref 23) rfl iwX11 rfl (lt_lit hn (Nat.le_of_ble_eq_true rfl)) rfl (Nat.le_of_ble_eq_true rfl) kf_X11_21 rfl rfl dX11_second_14 rfl ?_
    refine g_callV cx (pc2 := 20) (st := []) (As := []) (k0 := 23) (ci := 2) (c_X2_allNeeds (M := M) hn (by exact hci.l)) wM_X2_allNeeds wV_X2_allNeeds kl_X11_233 rfl (lt_lit hn (Nat.le_of_ble_eq_true rfl)) rfl ⟨rfl, rfl, Nat.le_of_ble_eq_true rfl, Nat.le_of_ble_eq_true rfl⟩ (Nat.le_of_ble_eq_true rfl) cs rfl rfl dX11_second_17 rfl ?_
    rintro _ _ ⟨rfl, rfl⟩
    refine g_istore_n cx (pc2 := 21) (lv2 := [(0, .ref 0), (1, .int (iI h)), (2, .int (iI ((allN (M 23 4) : Nat) : Int)))]) rfl (Nat.le_of_ble_eq_true rfl) dX11_second_20 rfl ?_
    refine g_aload_n cx (pc2 := 22) 0 rfl dX11_second_21 rfl ?_
    refine g_get cx (pc2 := 25) (ci := 11) (k0 := 0) (j := 5) (v := .ref 48) rfl iwX11 rfl (lt_lit hn (Nat.le_of_ble_eq_true rfl)) rfl (Nat.le_of_ble_eq_true rfl) kf_X11_38 rfl rfl dX11_second_22 rfl ?_
    refine g_aload_n cx (pc2 := 26) 0 rfl dX11_second_25 rfl ?_
    refine g_get cx (pc2 := 29) (ci := 11) (k0 := 0) (j := 2) (v := .ref 23) rfl iwX11 rfl (lt_lit hn (Nat.le_of_ble_eq_true rfl)) rfl (Nat.le_of_ble_eq_true rfl) kf_X11_21 rfl rfl dX11_second_26 rfl ?_
    refine g_callV cx (pc2 := 32) (st := []) (As := [.ref 23]) (k0 := 48) (ci := 1) (c_X1_load (M := M) hn (by exact hci.l) (by exact hci.nd) (by exact hci.pl)) wM_X1_load wV_X1_load kl_X11_259 rfl (lt_lit hn (Nat.le_of_ble_eq_true rfl)) rfl ⟨rfl, rfl, Nat.le_of_ble_eq_true rfl, Nat.le_of_ble_eq_true rfl⟩ (Nat.le_of_ble_eq_true rfl) cs rfl rfl dX11_second_29 rfl ?_
    rintro _ _ ⟨rfl, rfl⟩
    refine g_aload_n cx (pc2 := 33) 0 rfl dX11_second_32 rfl ?_
    refine g_get cx (pc2 := 36) (ci := 11) (k0 := 0) (j := 7) (v := .ref 57) rfl iwX11 rfl (lt_lit hn (Nat.le_of_ble_eq_true rfl)) rfl (Nat.le_of_ble_eq_true rfl) kf_X11_54 rfl rfl dX11_second_33 rfl ?_
    refine g_iload_n cx (pc2 := 37) 2 rfl dX11_second_36 rfl ?_
    refine g_aload_n cx (pc2 := 38) 0 rfl dX11_second_37 rfl ?_
    refine g_get cx (pc2 := 41) (ci := 11) (k0 := 0) (j := 2) (v := .ref 23) rfl iwX11 rfl (lt_lit hn (Nat.le_of_ble_eq_true rfl)) rfl (Nat.le_of_ble_eq_true rfl) kf_X11_21 rfl rfl dX11_second_38 rfl ?_
    refine g_iload_n cx (pc2 := 42) 1 rfl dX11_second_41 rfl ?_
    refine g_callV cx (pc2 := 45) (st := [.int (iI ((allN (M 23 4) : Nat) : Int)), .ref 57]) (As := [.int (iI h)]) (k0 := 23) (ci := 2) (c_X2_placeOf (M := (ldM M)) hn (by exact Or.inl rfl) (by exact hc1.l) h (by first | assumption | omega)) wM_X2_placeOf wV_X2_placeOf kl_X11_176 rfl (lt_lit hn (Nat.le_of_ble_eq_true rfl)) rfl ⟨rfl, rfl, Nat.le_of_ble_eq_true rfl, Nat.le_of_ble_eq_true rfl⟩ (Nat.le_of_ble_eq_true rfl) cs rfl rfl dX11_second_42 rfl ?_
    rintro _ _ ⟨rfl, rfl⟩
    refine g_rwi (y := iI (plc M 23 h)) (congrArg iI (plc_off (ldM_off (by omega)) (ldM_off (by omega)) h)) ?_
    refine g_iconst cx (pc2 := 46) dX11_second_45 rfl ?_
    refine g_callV cx (pc2 := 49) (st := []) (As := [.int (iI ((allN (M 23 4) : Nat) : Int)), .int (iI (plc M 23 h)), .int (iI 0)]) (k0 := 57) (ci := 6) (c_X6_reach (M := (ldM M)) hn (by exact hc1.j) (by exact hc1.p) ((allN (M 23 4) : Nat) : Int) (plc M 23 h) 0 (by first | assumption | omega) (by first | assumption | omega) (by first | assumption | omega)) wM_X6_reach wV_X6_reach kl_X11_292 rfl (lt_lit hn (Nat.le_of_ble_eq_true rfl)) rfl ⟨rfl, rfl, Nat.le_of_ble_eq_true rfl, Nat.le_of_ble_eq_true rfl⟩ (Nat.le_of_ble_eq_true rfl) cs rfl rfl dX11_second_46 rfl ?_
    rintro _ _ ⟨rfl, rfl⟩
    refine g_M (M2 := (seA M h)) (by rfl) ?_
    refine g_aload_n cx (pc2 := 50) 0 rfl dX11_second_49 rfl ?_
    refine g_get cx (pc2 := 53) (ci := 11) (k0 := 0) (j := 7) (v := .ref 57) rfl iwX11 rfl (lt_lit hn (Nat.le_of_ble_eq_true rfl)) rfl (Nat.le_of_ble_eq_true rfl) kf_X11_54 rfl rfl dX11_second_50 rfl ?_
    refine g_callV cx (pc2 := 56) (st := []) (As := []) (k0 := 57) (ci := 6) (c_X6_setAside (M := (seA M h)) hn) wM_X6_setAside wV_X6_setAside kl_X11_296 rfl (lt_lit hn (Nat.le_of_ble_eq_true rfl)) rfl ⟨rfl, rfl, Nat.le_of_ble_eq_true rfl, Nat.le_of_ble_eq_true rfl⟩ (Nat.le_of_ble_eq_true rfl) cs rfl rfl dX11_second_53 rfl ?_
    rintro _ _ ⟨rfl, rfl⟩
    refine g_M (M2 := (seB M h)) (by rfl) ?_
    refine g_aload_n cx (pc2 := 57) 0 rfl dX11_second_56 rfl ?_
    refine g_get cx (pc2 := 60) (ci := 11) (k0 := 0) (j := 7) (v := .ref 57) rfl iwX11 rfl (lt_lit hn (Nat.le_of_ble_eq_true rfl)) rfl (Nat.le_of_ble_eq_true rfl) kf_X11_54 rfl rfl dX11_second_57 rfl ?_
    refine g_iload_n cx (pc2 := 61) 2 rfl dX11_second_60 rfl ?_
    refine g_aload_n cx (pc2 := 62) 0 rfl dX11_second_61 rfl ?_
    refine g_get cx (pc2 := 65) (ci := 11) (k0 := 0) (j := 2) (v := .ref 23) rfl iwX11 rfl (lt_lit hn (Nat.le_of_ble_eq_true rfl)) rfl (Nat.le_of_ble_eq_true rfl) kf_X11_21 rfl rfl dX11_second_62 rfl ?_
    refine g_callV cx (pc2 := 68) (st := [.int (iI ((allN (M 23 4) : Nat) : Int)), .ref 57]) (As := []) (k0 := 23) (ci := 2) (c_X2_startPlace (M := (seB M h)) hn (by exact hc3.l) (by exact hc3.st)) wM_X2_startPlace wV_X2_startPlace kl_X11_263 rfl (lt_lit hn (Nat.le_of_ble_eq_true rfl)) rfl ⟨rfl, rfl, Nat.le_of_ble_eq_true rfl, Nat.le_of_ble_eq_true rfl⟩ (Nat.le_of_ble_eq_true rfl) cs rfl rfl dX11_second_65 rfl ?_
    rintro _ _ ⟨rfl, rfl⟩
    refine g_rwi (y := iI (stp M)) (congrArg iI (stp_of (seB_off M h (by omega)) (seB_off M h (by omega)))) ?_
    refine g_iconst cx (pc2 := 69) dX11_second_68 rfl ?_
    refine g_callV cx (pc2 := 72) (st := []) (As := [.int (iI ((allN (M 23 4) : Nat) : Int)), .int (iI (stp M)), .int (iI 0)]) (k0 := 57) (ci := 6) (c_X6_reach (M := (seB M h)) hn (by exact hc3.j) (by exact hc3.p) ((allN (M 23 4) : Nat) : Int) (stp M) 0 (by first | assumption | omega) (by first | assumption | omega) (by first | assumption | omega)) wM_X6_reach wV_X6_reach kl_X11_292 rfl (lt_lit hn (Nat.le_of_ble_eq_true rfl)) rfl ⟨rfl, rfl, Nat.le_of_ble_eq_true rfl, Nat.le_of_ble_eq_true rfl⟩ (Nat.le_of_ble_eq_true rfl) cs rfl rfl dX11_second_69 rfl ?_
    rintro _ _ ⟨rfl, rfl⟩
    refine g_M (M2 := (seT M h)) (by rfl) ?_
    refine g_aload_n cx (pc2 := 73) 0 rfl dX11_second_72 rfl ?_
    refine g_get cx (pc2 := 76) (ci := 11) (k0 := 0) (j := 7) (v := .ref 57) rfl iwX11 rfl (lt_lit hn (Nat.le_of_ble_eq_true rfl)) rfl (Nat.le_of_ble_eq_true rfl) kf_X11_54 rfl rfl dX11_second_73 rfl ?_
    refine g_iload_n cx (pc2 := 77) 2 rfl dX11_second_76 rfl ?_
    refine g_aload_n cx (pc2 := 78) 0 rfl dX11_second_77 rfl ?_
    refine g_get cx (pc2 := 81) (ci := 11) (k0 := 0) (j := 2) (v := .ref 23) rfl iwX11 rfl (lt_lit hn (Nat.le_of_ble_eq_true rfl)) rfl (Nat.le_of_ble_eq_true rfl) kf_X11_21 rfl rfl dX11_second_78 rfl ?_
    refine g_callV cx (pc2 := 84) (st := [.int (iI ((allN (M 23 4) : Nat) : Int)), .ref 57]) (As := []) (k0 := 23) (ci := 2) (c_X2_mustBits (M := (seT M h)) hn (by exact hcT.l) (by exact hcT.nd)) wM_X2_mustBits wV_X2_mustBits kl_X11_244 rfl (lt_lit hn (Nat.le_of_ble_eq_true rfl)) rfl ⟨rfl, rfl, Nat.le_of_ble_eq_true rfl, Nat.le_of_ble_eq_true rfl⟩ (Nat.le_of_ble_eq_true rfl) cs rfl rfl dX11_second_81 rfl ?_
    rintro _ _ ⟨rfl, rfl⟩
    refine g_rwi (y := iI ((bitsK M 1 : Nat) : Int)) (congrArg iI eMB) ?_
    refine g_callV cx (pc2 := 87) (st := []) (As := [.int (iI ((allN (M 23 4) : Nat) : Int)), .int (iI ((bitsK M 1 : Nat) : Int))]) (k0 := 57) (ci := 6) (c_X6_mostByTwo (M := (seT M h)) hn (by exact hcT.j) (by exact hcT.p) ((allN (M 23 4) : Nat) : Int) ((bitsK M 1 : Nat) : Int) (by first | assumption | omega) (by first | assumption | omega)) wM_X6_mostByTwo wV_X6_mostByTwo kl_X11_299 rfl (lt_lit hn (Nat.le_of_ble_eq_true rfl)) rfl ⟨rfl, rfl, Nat.le_of_ble_eq_true rfl, Nat.le_of_ble_eq_true rfl⟩ (Nat.le_of_ble_eq_true rfl) cs rfl rfl dX11_second_84 rfl ?_
    rintro _ _ ⟨rfl, rfl⟩
    refine g_rwi (y := iI (secV M h)) (rfl) ?_
    refine g_istore_n cx (pc2 := 88) (lv2 := [(0, .ref 0), (1, .int (iI h)), (2, .int (iI ((allN (M 23 4) : Nat) : Int))), (3, .int (iI (secV M h)))]) rfl (Nat.le_of_ble_eq_true rfl) dX11_second_87 rfl ?_
    refine g_iload_n cx (pc2 := 89) 3 rfl dX11_second_88 rfl ?_
    refine g_bipush cx (pc2 := 91) ⟨by decide, by decide⟩ dX11_second_89 rfl ?_
    refine g_icmp_ne cx (pc2 := 94) (tgt := 97) ⟨(by unfold secV; omega), ⟨by decide, by decide⟩⟩ dX11_second_91 (by decide) rfl (fun h_2 => ?_) (fun h_2 => ?_)
    · skip
      refine g_aload_n cx (pc2 := 98) 0 rfl dX11_second_97 rfl ?_
      refine g_get cx (pc2 := 101) (ci := 11) (k0 := 0) (j := 7) (v := .ref 57) rfl iwX11 rfl (lt_lit hn (Nat.le_of_ble_eq_true rfl)) rfl (Nat.le_of_ble_eq_true rfl) kf_X11_54 rfl rfl dX11_second_98 rfl ?_
      refine g_iload_n cx (pc2 := 102) 2 rfl dX11_second_101 rfl ?_
      refine g_aload_n cx (pc2 := 103) 0 rfl dX11_second_102 rfl ?_
      refine g_get cx (pc2 := 106) (ci := 11) (k0 := 0) (j := 2) (v := .ref 23) rfl iwX11 rfl (lt_lit hn (Nat.le_of_ble_eq_true rfl)) rfl (Nat.le_of_ble_eq_true rfl) kf_X11_21 rfl rfl dX11_second_103 rfl ?_
      refine g_callV cx (pc2 := 109) (st := [.int (iI ((allN (M 23 4) : Nat) : Int)), .ref 57]) (As := []) (k0 := 23) (ci := 2) (c_X2_mustBits (M := (seT M h)) hn (by exact hcT.l) (by exact hcT.nd)) wM_X2_mustBits wV_X2_mustBits kl_X11_244 rfl (lt_lit hn (Nat.le_of_ble_eq_true rfl)) rfl ⟨rfl, rfl, Nat.le_of_ble_eq_true rfl, Nat.le_of_ble_eq_true rfl⟩ (Nat.le_of_ble_eq_true rfl) cs rfl rfl dX11_second_106 rfl ?_
      rintro _ _ ⟨rfl, rfl⟩
      refine g_rwi (y := iI ((bitsK M 1 : Nat) : Int)) (congrArg iI eMB) ?_
      refine g_callV cx (pc2 := 112) (st := []) (As := [.int (iI ((allN (M 23 4) : Nat) : Int)), .int (iI ((bitsK M 1 : Nat) : Int))]) (k0 := 57) (ci := 6) (c_X6_bestPlan (M := (seT M h)) hn (by exact hcT.j) (by exact hcT.p) ((allN (M 23 4) : Nat) : Int) ((bitsK M 1 : Nat) : Int) (by first | assumption | omega) (by first | assumption | omega)) wM_X6_bestPlan wV_X6_bestPlan kl_X11_247 rfl (lt_lit hn (Nat.le_of_ble_eq_true rfl)) rfl ⟨rfl, rfl, Nat.le_of_ble_eq_true rfl, Nat.le_of_ble_eq_true rfl⟩ (Nat.le_of_ble_eq_true rfl) cs rfl rfl dX11_second_109 rfl ?_
      rintro _ _ ⟨rfl, rfl⟩
      refine g_rwi (y := iI (secP M h)) (rfl) ?_
      refine g_istore cx (pc2 := 114) (lv2 := [(0, .ref 0), (1, .int (iI h)), (2, .int (iI ((allN (M 23 4) : Nat) : Int))), (3, .int (iI (secV M h))), (4, .int (iI (secP M h)))]) rfl (Nat.le_of_ble_eq_true rfl) dX11_second_112 rfl ?_
      refine g_aload_n cx (pc2 := 115) 0 rfl dX11_second_114 rfl ?_
      refine g_iload cx (pc2 := 117) 4 rfl dX11_second_115 rfl ?_
      refine g_bipush cx (pc2 := 119) ⟨by decide, by decide⟩ dX11_second_117 rfl ?_
      refine g_icmp_ne cx (pc2 := 122) (tgt := 126) ⟨(by unfold secP; omega), ⟨by decide, by decide⟩⟩ dX11_second_119 (by decide) rfl (fun h_3 => ?_) (fun h_3 => ?_)
      · skip
        refine g_iload_n cx (pc2 := 127) 3 rfl dX11_second_126 rfl ?_
        refine g_aload_n cx (pc2 := 128) 0 rfl dX11_second_127 rfl ?_
        refine g_get cx (pc2 := 131) (ci := 11) (k0 := 0) (j := 5) (v := .ref 48) rfl iwX11 rfl (lt_lit hn (Nat.le_of_ble_eq_true rfl)) rfl (Nat.le_of_ble_eq_true rfl) kf_X11_38 rfl rfl dX11_second_128 rfl ?_
        refine g_iload cx (pc2 := 133) 4 rfl dX11_second_131 rfl ?_
        refine g_callV cx (pc2 := 136) (st := [.int (iI (secV M h)), .ref 0]) (As := [.int (iI (secP M h))]) (k0 := 48) (ci := 1) (c_X1_worthOf (M := (seT M h)) hn (by exact hcT.j) (secP M h) (by have q : ¬ secP M h = -9 := (by assumption); unfold secP at q ⊢; omega)) wM_X1_worthOf wV_X1_worthOf kl_X11_236 rfl (lt_lit hn (Nat.le_of_ble_eq_true rfl)) rfl ⟨rfl, rfl, Nat.le_of_ble_eq_true rfl, Nat.le_of_ble_eq_true rfl⟩ (Nat.le_of_ble_eq_true rfl) cs rfl rfl dX11_second_133 rfl ?_
        rintro _ _ ⟨rfl, rfl⟩
        refine g_isub cx (pc2 := 137) dX11_second_136 rfl ?_
        refine g_puti cx (pc2 := 140) (ci := 11) (k0 := 0) (j := 15) rfl iwX11 rfl (lt_lit hn (Nat.le_of_ble_eq_true rfl)) rfl (Nat.le_of_ble_eq_true rfl) kf_X11_98 rfl tyX11_ok nmX11 rfl rfl dX11_second_137 rfl ?_
        refine g_iload_n cx (pc2 := 141) 3 rfl dX11_second_140 rfl ?_
        exact g_iret cx qx dX11_second_141 ⟨congrArg (fun q => some (Value.int (iI q))) (by unfold secA; rw [if_neg (by first | assumption | exact not_not_intro (by assumption))]; first | done | rfl | (symm; assumption)), by unfold secM; rw [if_neg (by first | assumption | exact not_not_intro (by assumption))]; first | (rw [if_pos (by assumption)]; done) | (rw [if_neg (by assumption), if_pos (by assumption)]; rfl) | (rw [if_neg (by assumption), if_neg (by assumption)]; rfl)⟩
      · skip
        refine g_iload_n cx (pc2 := 123) 3 rfl dX11_second_122 rfl ?_
        refine g_goto cx (tgt := 137) dX11_second_123 (by decide) ?_
        refine g_puti cx (pc2 := 140) (ci := 11) (k0 := 0) (j := 15) rfl iwX11 rfl (lt_lit hn (Nat.le_of_ble_eq_true rfl)) rfl (Nat.le_of_ble_eq_true rfl) kf_X11_98 rfl tyX11_ok nmX11 rfl rfl dX11_second_137 rfl ?_
        refine g_iload_n cx (pc2 := 141) 3 rfl dX11_second_140 rfl ?_
        exact g_iret cx qx dX11_second_141 ⟨congrArg (fun q => some (Value.int (iI q))) (by unfold secA; rw [if_neg (by first | assumption | exact not_not_intro (by assumption))]; first | done | rfl | (symm; assumption)), by unfold secM; rw [if_neg (by first | assumption | exact not_not_intro (by assumption))]; first | (rw [if_pos (by assumption)]; done) | (rw [if_neg (by assumption), if_pos (by assumption)]; rfl) | (rw [if_neg (by assumption), if_neg (by assumption)]; rfl)⟩
    · skip
      refine g_bipush cx (pc2 := 96) ⟨by decide, by decide⟩ dX11_second_94 rfl ?_
      exact g_iret cx qx dX11_second_96 ⟨congrArg (fun q => some (Value.int (iI q))) (by unfold secA; rw [if_neg (by first | assumption | exact not_not_intro (by assumption))]; first | done | rfl | (symm; assumption)), by unfold secM; rw [if_neg (by first | assumption | exact not_not_intro (by assumption))]; first | (rw [if_pos (by assumption)]; done) | (rw [if_neg (by assumption), if_pos (by assumption)]; rfl) | (rw [if_neg (by assumption), if_neg (by assumption)]; rfl)⟩
  · skip
    refine g_iconst cx (pc2 := 12) dX11_second_11 rfl ?_
    exact g_iret cx qx dX11_second_12 ⟨congrArg (fun q => some (Value.int (iI q))) (by unfold secA; rw [if_pos (by assumption)]), by unfold secM; rw [if_pos (by assumption)]⟩
set_option maxHeartbeats 4000000 in
set_option maxRecDepth 100000 in
theorem c_X11_mends {n : Nat} (hn : NN n) {M : Mm} (hci : CI M) (w h : Int) (hs : ir w) (hh : ir h) : CT yX11_mends cX11_mends 3 (some .int) ({ frames := 6, cells := 0, slots := 0, locals := 150 }) n [.ref 0, .int (iI w), .int (iI h)] M (pI (fun z M2 => menR M w h z M2)) := by
  refine CT.of (lv0 := [(0, .ref 0), (1, .int (iI w)), (2, .int (iI h))]) (by decide +kernel) hn (fun _ => rfl) (fun _ => Nat.le_of_ble_eq_true rfl) (fun X cx cs qx => ?_)
  have cx : Cx X cX11_mends RX11 ({ frames := 6, cells := 0, slots := 0, locals := 150 }) 3 n := cx
  have hl := hci.l
  have hAb := aL_255 hl
  have hMb := bitsK_255 hl 1
  have hLb := bitsK_255 hl 2
  have hc1 := hci.ld
  have hsp := hci.sp
  have hp1 := plc_b hci.pl h
  refine g_aload_n cx (pc2 := 1) 0 rfl dX11_mends_0 rfl ?_
  refine g_get cx (pc2 := 4) (ci := 11) (k0 := 0) (j := 2) (v := .ref 23) rfl iwX11 rfl (lt_lit hn (Nat.le_of_ble_eq_true rfl)) rfl (Nat.le_of_ble_eq_true rfl) kf_X11_21 rfl rfl dX11_mends_1 rfl ?_
  refine g_iload_n cx (pc2 := 5) 1 rfl dX11_mends_4 rfl ?_
  refine g_callV cx (pc2 := 8) (st := []) (As := [.int (iI w)]) (k0 := 23) (ci := 2) (c_X2_isSet (M := M) hn (by exact hci.l) w (by first | assumption | omega)) wM_X2_isSet wV_X2_isSet kl_X11_224 rfl (lt_lit hn (Nat.le_of_ble_eq_true rfl)) rfl ⟨rfl, rfl, Nat.le_of_ble_eq_true rfl, Nat.le_of_ble_eq_true rfl⟩ (Nat.le_of_ble_eq_true rfl) cs rfl rfl dX11_mends_5 rfl ?_
  rintro _ _ ⟨rfl, rfl⟩
  refine g_ifb_eq cx (pc2 := 11) (tgt := 22) dX11_mends_8 (by decide) rfl (fun h_1 => ?_) (fun h_1 => ?_)
  · skip
    refine g_iconst cx (pc2 := 23) dX11_mends_22 rfl ?_
    exact g_iret cx qx dX11_mends_23 ⟨_, rfl, by exact Or.inl ⟨by first | exact Or.inl (by assumption) | exact Or.inr (by assumption), rfl, rfl⟩⟩
  · skip
    refine g_aload_n cx (pc2 := 12) 0 rfl dX11_mends_11 rfl ?_
    refine g_get cx (pc2 := 15) (ci := 11) (k0 := 0) (j := 2) (v := .ref 23) rfl iwX11 rfl (lt_lit hn (Nat.le_of_ble_eq_true rfl)) rfl (Nat.le_of_ble_eq_true rfl) kf_X11_21 rfl rfl dX11_mends_12 rfl ?_
    refine g_iload_n cx (pc2 := 16) 2 rfl dX11_mends_15 rfl ?_
    refine g_callV cx (pc2 := 19) (st := []) (As := [.int (iI h)]) (k0 := 23) (ci := 2) (c_X2_isHouse (M := M) hn (by exact Or.inl rfl) (by exact hci.l) h (by first | assumption | omega)) wM_X2_isHouse wV_X2_isHouse kl_X11_170 rfl (lt_lit hn (Nat.le_of_ble_eq_true rfl)) rfl ⟨rfl, rfl, Nat.le_of_ble_eq_true rfl, Nat.le_of_ble_eq_true rfl⟩ (Nat.le_of_ble_eq_true rfl) cs rfl rfl dX11_mends_16 rfl ?_
    rintro _ _ ⟨rfl, rfl⟩
    refine g_ifb_ne cx (pc2 := 22) (tgt := 24) dX11_mends_19 (by decide) rfl (fun h_2 => ?_) (fun h_2 => ?_)
    · skip
      refine g_aload_n cx (pc2 := 25) 0 rfl dX11_mends_24 rfl ?_
      refine g_get cx (pc2 := 28) (ci := 11) (k0 := 0) (j := 5) (v := .ref 48) rfl iwX11 rfl (lt_lit hn (Nat.le_of_ble_eq_true rfl)) rfl (Nat.le_of_ble_eq_true rfl) kf_X11_38 rfl rfl dX11_mends_25 rfl ?_
      refine g_aload_n cx (pc2 := 29) 0 rfl dX11_mends_28 rfl ?_
      refine g_get cx (pc2 := 32) (ci := 11) (k0 := 0) (j := 2) (v := .ref 23) rfl iwX11 rfl (lt_lit hn (Nat.le_of_ble_eq_true rfl)) rfl (Nat.le_of_ble_eq_true rfl) kf_X11_21 rfl rfl dX11_mends_29 rfl ?_
      refine g_callV cx (pc2 := 35) (st := []) (As := [.ref 23]) (k0 := 48) (ci := 1) (c_X1_load (M := M) hn (by exact hci.l) (by exact hci.nd) (by exact hci.pl)) wM_X1_load wV_X1_load kl_X11_259 rfl (lt_lit hn (Nat.le_of_ble_eq_true rfl)) rfl ⟨rfl, rfl, Nat.le_of_ble_eq_true rfl, Nat.le_of_ble_eq_true rfl⟩ (Nat.le_of_ble_eq_true rfl) cs rfl rfl dX11_mends_32 rfl ?_
      rintro _ _ ⟨rfl, rfl⟩
      refine g_aload_n cx (pc2 := 36) 0 rfl dX11_mends_35 rfl ?_
      refine g_get cx (pc2 := 39) (ci := 11) (k0 := 0) (j := 7) (v := .ref 57) rfl iwX11 rfl (lt_lit hn (Nat.le_of_ble_eq_true rfl)) rfl (Nat.le_of_ble_eq_true rfl) kf_X11_54 rfl rfl dX11_mends_36 rfl ?_
      refine g_iload_n cx (pc2 := 40) 1 rfl dX11_mends_39 rfl ?_
      refine g_aload_n cx (pc2 := 41) 0 rfl dX11_mends_40 rfl ?_
      refine g_get cx (pc2 := 44) (ci := 11) (k0 := 0) (j := 2) (v := .ref 23) rfl iwX11 rfl (lt_lit hn (Nat.le_of_ble_eq_true rfl)) rfl (Nat.le_of_ble_eq_true rfl) kf_X11_21 rfl rfl dX11_mends_41 rfl ?_
      refine g_callV cx (pc2 := 47) (st := [.int (iI w), .ref 57]) (As := []) (k0 := 23) (ci := 2) (c_X2_startPlace (M := (ldM M)) hn (by exact hc1.l) (by exact hc1.st)) wM_X2_startPlace wV_X2_startPlace kl_X11_263 rfl (lt_lit hn (Nat.le_of_ble_eq_true rfl)) rfl ⟨rfl, rfl, Nat.le_of_ble_eq_true rfl, Nat.le_of_ble_eq_true rfl⟩ (Nat.le_of_ble_eq_true rfl) cs rfl rfl dX11_mends_44 rfl ?_
      rintro _ _ ⟨rfl, rfl⟩
      refine g_rwi (y := iI (stp M)) (congrArg iI (stp_of (ldM_off (by omega)) (ldM_off (by omega)))) ?_
      refine g_aload_n cx (pc2 := 48) 0 rfl dX11_mends_47 rfl ?_
      refine g_get cx (pc2 := 51) (ci := 11) (k0 := 0) (j := 2) (v := .ref 23) rfl iwX11 rfl (lt_lit hn (Nat.le_of_ble_eq_true rfl)) rfl (Nat.le_of_ble_eq_true rfl) kf_X11_21 rfl rfl dX11_mends_48 rfl ?_
      refine g_iload_n cx (pc2 := 52) 2 rfl dX11_mends_51 rfl ?_
      refine g_callV cx (pc2 := 55) (st := [.int (iI (stp M)), .int (iI w), .ref 57]) (As := [.int (iI h)]) (k0 := 23) (ci := 2) (c_X2_placeOf (M := (ldM M)) hn (by exact Or.inl rfl) (by exact hc1.l) h (by first | assumption | omega)) wM_X2_placeOf wV_X2_placeOf kl_X11_176 rfl (lt_lit hn (Nat.le_of_ble_eq_true rfl)) rfl ⟨rfl, rfl, Nat.le_of_ble_eq_true rfl, Nat.le_of_ble_eq_true rfl⟩ (Nat.le_of_ble_eq_true rfl) cs rfl rfl dX11_mends_52 rfl ?_
      rintro _ _ ⟨rfl, rfl⟩
      refine g_rwi (y := iI (plc M 23 h)) (congrArg iI (plc_off (ldM_off (by omega)) (ldM_off (by omega)) h)) ?_
      refine g_callV cx (pc2 := 58) (st := []) (As := [.int (iI w), .int (iI (stp M)), .int (iI (plc M 23 h))]) (k0 := 57) (ci := 6) (c_X6_mostMendings (M := (ldM M)) hn (by exact hc1.j) (by exact hc1.p) w (stp M) (plc M 23 h) (by omega) (by exact hsp) (by exact hp1)) wM_X6_mostMendings wV_X6_mostMendings kl_X11_314 rfl (lt_lit hn (Nat.le_of_ble_eq_true rfl)) rfl ⟨rfl, rfl, Nat.le_of_ble_eq_true rfl, Nat.le_of_ble_eq_true rfl⟩ (Nat.le_of_ble_eq_true rfl) cs rfl rfl dX11_mends_55 rfl ?_
      rintro _ M_3 ⟨z_3, rfl, h_3⟩
      have h55 := h_3
      exact g_iret cx qx dX11_mends_58 ⟨_, rfl, by exact Or.inr ⟨⟨by assumption, by assumption⟩, h55⟩⟩
    · skip
      refine g_iconst cx (pc2 := 23) dX11_mends_22 rfl ?_
      exact g_iret cx qx dX11_mends_23 ⟨_, rfl, by exact Or.inl ⟨by first | exact Or.inl (by assumption) | exact Or.inr (by assumption), rfl, rfl⟩⟩
set_option maxHeartbeats 4000000 in
set_option maxRecDepth 100000 in
theorem c_X11_odds {n : Nat} (hn : NN n) {M : Mm} (hci : CI M) : CT yX11_odds cX11_odds 6 (some .int) ({ frames := 6, cells := 0, slots := 0, locals := 145 }) n [.ref 0] M (rI (1) (oddM M)) := by
  refine CT.of (lv0 := [(0, .ref 0)]) (by decide +kernel) hn (fun _ => rfl) (fun _ => Nat.le_of_ble_eq_true rfl) (fun X cx cs qx => ?_)
  have cx : Cx X cX11_odds RX11 ({ frames := 6, cells := 0, slots := 0, locals := 145 }) 6 n := cx
  have hl := hci.l
  have hAb := aL_255 hl
  have hMb := bitsK_255 hl 1
  have hLb := bitsK_255 hl 2
  have hob := or255 hLb hMb
  have hcT : CI (odT M) := hci.gf
  have e23 : odT M 23 = M 23 := gfA_off M _ (by omega)
  have e4 : odT M 23 4 = M 23 4 := by rw [e23]
  have hwb := waF_b (odT M) (M 23 4).toNat (by omega)
  have hpw := pow12 (k := (M 23 4).toNat) (by omega)
  refine g_aload_n cx (pc2 := 1) 0 rfl dX11_odds_0 rfl ?_
  refine g_get cx (pc2 := 4) (ci := 11) (k0 := 0) (j := 2) (v := .ref 23) rfl iwX11 rfl (lt_lit hn (Nat.le_of_ble_eq_true rfl)) rfl (Nat.le_of_ble_eq_true rfl) kf_X11_21 rfl rfl dX11_odds_1 rfl ?_
  refine g_callV cx (pc2 := 7) (st := []) (As := []) (k0 := 23) (ci := 2) (c_X2_lotBits (M := M) hn (by exact hci.l) (by exact hci.nd)) wM_X2_lotBits wV_X2_lotBits kl_X11_318 rfl (lt_lit hn (Nat.le_of_ble_eq_true rfl)) rfl ⟨rfl, rfl, Nat.le_of_ble_eq_true rfl, Nat.le_of_ble_eq_true rfl⟩ (Nat.le_of_ble_eq_true rfl) cs rfl rfl dX11_odds_4 rfl ?_
  rintro _ _ ⟨rfl, rfl⟩
  refine g_istore_n cx (pc2 := 8) (lv2 := [(0, .ref 0), (1, .int (iI ((bitsK M 2 : Nat) : Int)))]) rfl (Nat.le_of_ble_eq_true rfl) dX11_odds_7 rfl ?_
  refine g_aload_n cx (pc2 := 9) 0 rfl dX11_odds_8 rfl ?_
  refine g_get cx (pc2 := 12) (ci := 11) (k0 := 0) (j := 2) (v := .ref 23) rfl iwX11 rfl (lt_lit hn (Nat.le_of_ble_eq_true rfl)) rfl (Nat.le_of_ble_eq_true rfl) kf_X11_21 rfl rfl dX11_odds_9 rfl ?_
  refine g_callV cx (pc2 := 15) (st := []) (As := []) (k0 := 23) (ci := 2) (c_X2_mustBits (M := M) hn (by exact hci.l) (by exact hci.nd)) wM_X2_mustBits wV_X2_mustBits kl_X11_244 rfl (lt_lit hn (Nat.le_of_ble_eq_true rfl)) rfl ⟨rfl, rfl, Nat.le_of_ble_eq_true rfl, Nat.le_of_ble_eq_true rfl⟩ (Nat.le_of_ble_eq_true rfl) cs rfl rfl dX11_odds_12 rfl ?_
  rintro _ _ ⟨rfl, rfl⟩
  refine g_istore_n cx (pc2 := 16) (lv2 := [(0, .ref 0), (1, .int (iI ((bitsK M 2 : Nat) : Int))), (2, .int (iI ((bitsK M 1 : Nat) : Int)))]) rfl (Nat.le_of_ble_eq_true rfl) dX11_odds_15 rfl ?_
  refine g_aload_n cx (pc2 := 17) 0 rfl dX11_odds_16 rfl ?_
  refine g_iload_n cx (pc2 := 18) 1 rfl dX11_odds_17 rfl ?_
  refine g_iload_n cx (pc2 := 19) 2 rfl dX11_odds_18 rfl ?_
  refine g_ior cx (pc2 := 20) dX11_odds_19 rfl ?_
  refine g_rwi (y := iI ((bitsK M 2 ||| bitsK M 1 : Nat) : Int)) (or_iI (by omega) (by omega)) ?_
  refine g_callV cx (pc2 := 23) (st := []) (As := [.int (iI ((bitsK M 2 ||| bitsK M 1 : Nat) : Int))]) (k0 := 0) (ci := 11) (c_X11_reachFromStart (M := M) hn (by exact hci) ((bitsK M 2 ||| bitsK M 1 : Nat) : Int) (by first | assumption | omega)) wM_X11_reachFromStart wV_X11_reachFromStart kl_X11_227 rfl (lt_lit hn (Nat.le_of_ble_eq_true rfl)) rfl ⟨rfl, rfl, Nat.le_of_ble_eq_true rfl, Nat.le_of_ble_eq_true rfl⟩ (Nat.le_of_ble_eq_true rfl) cs rfl rfl dX11_odds_20 rfl ?_
  rintro _ _ ⟨rfl, rfl⟩
  refine g_M (M2 := (odT M)) (by rfl) ?_
  refine g_lconst cx (pc2 := 24) 0 rfl dX11_odds_23 rfl ?_
  refine g_lstore_n cx (pc2 := 25) (lv2 := [(0, .ref 0), (1, .int (iI ((bitsK M 2 : Nat) : Int))), (2, .int (iI ((bitsK M 1 : Nat) : Int))), (3, .long (lI 0))]) rfl (Nat.le_of_ble_eq_true rfl) dX11_odds_24 rfl ?_
  refine g_iconst cx (pc2 := 26) dX11_odds_25 rfl ?_
  refine g_istore cx (pc2 := 28) (lv2 := [(0, .ref 0), (1, .int (iI ((bitsK M 2 : Nat) : Int))), (2, .int (iI ((bitsK M 1 : Nat) : Int))), (3, .long (lI 0)), (5, .int (iI 0))]) rfl (Nat.le_of_ble_eq_true rfl) dX11_odds_26 rfl ?_
  have L28 : ∀ (fu : Nat) (k : Int) (t : Int), (0 ≤ k ∧ k ≤ ((bitsK M 2 : Nat) : Int) + 1) → (t = odF (odT M) (bitsK M 2) (bitsK M 1) k.toNat) → (((bitsK M 2 : Nat) : Int) + 1 - k).toNat ≤ fu → G X 28 [(0, .ref 0), (1, .int (iI ((bitsK M 2 : Nat) : Int))), (2, .int (iI ((bitsK M 1 : Nat) : Int))), (3, .long (lI t)), (5, .int (iI k))] [] (odT M) := by
    intro fu
    induction fu using Nat.strongRecOn with
    | _ fu ih28 =>
      intro k t hk ht hk28
      have hn1 := ndN_le k.toNat (bitsK M 2)
      have hob2 : k ≤ 255 → k.toNat ||| bitsK M 1 ≤ 255 := fun q => or255 (by omega) hMb
      have hE := (hcT.p (k.toNat ||| bitsK M 1)).2.1
      have htb := odF_b hcT.l hcT.nd (bitsK M 2) (bitsK M 1) k.toNat
      have hst : odF (odT M) (bitsK M 2) (bitsK M 1) (k + 1).toNat = if ndN k.toNat (bitsK M 2) = 0 ∧ ¬ odT M 59 (k.toNat ||| bitsK M 1) = -9 then t + wyF (odT M) k (odT M 23 4).toNat else t := by rw [show (k + 1).toNat = k.toNat + 1 by omega, odF, Int.toNat_of_nonneg hk.1, ← ht]
      refine g_iload cx (pc2 := 30) 4 rfl dX11_odds_28 rfl ?_
      refine g_iload_n cx (pc2 := 31) 1 rfl dX11_odds_30 rfl ?_
      refine g_icmp_gt cx (pc2 := 34) (tgt := 77) ⟨(by first | assumption | omega), (by first | assumption | omega)⟩ dX11_odds_31 (by decide) rfl (fun h_1 => ?_) (fun h_1 => ?_)
      · skip
        refine g_aload_n cx (pc2 := 78) 0 rfl dX11_odds_77 rfl ?_
        refine g_lload_n cx (pc2 := 79) 3 rfl dX11_odds_78 rfl ?_
        refine g_aload_n cx (pc2 := 80) 0 rfl dX11_odds_79 rfl ?_
        refine g_get cx (pc2 := 83) (ci := 11) (k0 := 0) (j := 2) (v := .ref 23) rfl iwX11 rfl (lt_lit hn (Nat.le_of_ble_eq_true rfl)) rfl (Nat.le_of_ble_eq_true rfl) kf_X11_21 rfl rfl dX11_odds_80 rfl ?_
        refine g_callV cx (pc2 := 86) (st := [.long (lI t), .ref 0]) (As := []) (k0 := 23) (ci := 2) (c_X2_waysInAll (M := (odT M)) hn (by exact hcT.l) (by exact hcT.nd)) wM_X2_waysInAll wV_X2_waysInAll kl_X11_325 rfl (lt_lit hn (Nat.le_of_ble_eq_true rfl)) rfl ⟨rfl, rfl, Nat.le_of_ble_eq_true rfl, Nat.le_of_ble_eq_true rfl⟩ (Nat.le_of_ble_eq_true rfl) cs rfl rfl dX11_odds_83 rfl ?_
        rintro _ _ ⟨rfl, rfl⟩
        refine g_rwl (y := lI (waF (odT M) (M 23 4).toNat)) (congrArg (fun q => lI (waF (odT M) (Int.toNat q))) e4) ?_
        refine g_callV cx (pc2 := 89) (st := []) (As := [.long (lI t), .long (lI (waF (odT M) (M 23 4).toNat))]) (k0 := 0) (ci := 11) (c_X11_tellFraction (M := (odT M)) hn t (waF (odT M) (M 23 4).toNat) (by first | assumption | omega) (by first | assumption | omega)) wM_X11_tellFraction wV_X11_tellFraction kl_X11_328 rfl (lt_lit hn (Nat.le_of_ble_eq_true rfl)) rfl ⟨rfl, rfl, Nat.le_of_ble_eq_true rfl, Nat.le_of_ble_eq_true rfl⟩ (Nat.le_of_ble_eq_true rfl) cs rfl rfl dX11_odds_86 rfl ?_
        rintro _ _ ⟨rfl, rfl⟩
        refine g_iconst cx (pc2 := 90) dX11_odds_89 rfl ?_
        exact g_iret cx qx dX11_odds_90 ⟨congrArg (fun q => some (Value.int (iI q))) (by rfl), by unfold oddM odU odL; rw [ht, show k.toNat = bitsK M 2 + 1 by omega]⟩
      · skip
        have L71 : ∀ (t2 : Int), (t2 = odF (odT M) (bitsK M 2) (bitsK M 1) (k + 1).toNat) → G X 71 [(0, .ref 0), (1, .int (iI ((bitsK M 2 : Nat) : Int))), (2, .int (iI ((bitsK M 1 : Nat) : Int))), (3, .long (lI t2)), (5, .int (iI k))] [] (odT M) := by
          intro t2 ht2
          refine g_iinc cx (pc2 := 74) 4 rfl (lv2 := [(0, .ref 0), (1, .int (iI ((bitsK M 2 : Nat) : Int))), (2, .int (iI ((bitsK M 1 : Nat) : Int))), (3, .long (lI t2)), (5, .int (iI (k + 1)))]) rfl (Nat.le_of_ble_eq_true rfl) dX11_odds_71 rfl ?_
          refine g_goto cx (tgt := 28) dX11_odds_74 (by decide) ?_
          exact ih28 ((((bitsK M 2 : Nat) : Int) + 1 - (k + 1)).toNat) (by omega) (k + 1) t2 (by first | assumption | omega) (by exact ht2) (Nat.le_refl _)
        refine g_iload cx (pc2 := 36) 4 rfl dX11_odds_34 rfl ?_
        refine g_iload_n cx (pc2 := 37) 1 rfl dX11_odds_36 rfl ?_
        refine g_iconst cx (pc2 := 38) dX11_odds_37 rfl ?_
        refine g_ixor cx (pc2 := 39) dX11_odds_38 rfl ?_
        refine g_iand cx (pc2 := 40) dX11_odds_39 rfl ?_
        refine g_rwi (y := iI ((ndN k.toNat (bitsK M 2) : Nat) : Int)) (nd_iI (by omega) (by omega)) ?_
        refine g_if_ne cx (pc2 := 43) (tgt := 71) (by first | assumption | omega) dX11_odds_40 (by decide) rfl (fun h_2 => ?_) (fun h_2 => ?_)
        · skip
          exact L71 t (by rw [hst]; first | (rw [if_neg (by omega)]; done) | (rw [if_pos ⟨by omega, by assumption⟩]; done))
        · skip
          have hob3 := hob2 (by omega)
          refine g_aload_n cx (pc2 := 44) 0 rfl dX11_odds_43 rfl ?_
          refine g_get cx (pc2 := 47) (ci := 11) (k0 := 0) (j := 7) (v := .ref 57) rfl iwX11 rfl (lt_lit hn (Nat.le_of_ble_eq_true rfl)) rfl (Nat.le_of_ble_eq_true rfl) kf_X11_54 rfl rfl dX11_odds_44 rfl ?_
          refine g_iload cx (pc2 := 49) 4 rfl dX11_odds_47 rfl ?_
          refine g_iload_n cx (pc2 := 50) 2 rfl dX11_odds_49 rfl ?_
          refine g_ior cx (pc2 := 51) dX11_odds_50 rfl ?_
          refine g_rwi (y := iI ((k.toNat ||| bitsK M 1 : Nat) : Int)) (or_iI (by omega) (by omega)) ?_
          refine g_callV cx (pc2 := 54) (st := []) (As := [.int (iI ((k.toNat ||| bitsK M 1 : Nat) : Int))]) (k0 := 57) (ci := 6) (c_X6_endOf (M := (odT M)) hn ((k.toNat ||| bitsK M 1 : Nat) : Int) (by first | assumption | omega)) wM_X6_endOf wV_X6_endOf kl_X11_230 rfl (lt_lit hn (Nat.le_of_ble_eq_true rfl)) rfl ⟨rfl, rfl, Nat.le_of_ble_eq_true rfl, Nat.le_of_ble_eq_true rfl⟩ (Nat.le_of_ble_eq_true rfl) cs rfl rfl dX11_odds_51 rfl ?_
          rintro _ _ ⟨rfl, rfl⟩
          refine g_rwi (y := iI (odT M 59 (k.toNat ||| bitsK M 1))) (congrArg iI (if_pos (by omega))) ?_
          refine g_bipush cx (pc2 := 56) ⟨by decide, by decide⟩ dX11_odds_54 rfl ?_
          refine g_icmp_eq cx (pc2 := 59) (tgt := 71) ⟨(by first | assumption | omega), ⟨by decide, by decide⟩⟩ dX11_odds_56 (by decide) rfl (fun h_3 => ?_) (fun h_3 => ?_)
          · skip
            exact L71 t (by rw [hst]; first | (rw [if_neg (by omega)]; done) | (rw [if_pos ⟨by omega, by assumption⟩]; done))
          · skip
            refine g_lload_n cx (pc2 := 60) 3 rfl dX11_odds_59 rfl ?_
            refine g_aload_n cx (pc2 := 61) 0 rfl dX11_odds_60 rfl ?_
            refine g_get cx (pc2 := 64) (ci := 11) (k0 := 0) (j := 2) (v := .ref 23) rfl iwX11 rfl (lt_lit hn (Nat.le_of_ble_eq_true rfl)) rfl (Nat.le_of_ble_eq_true rfl) kf_X11_21 rfl rfl dX11_odds_61 rfl ?_
            refine g_iload cx (pc2 := 66) 4 rfl dX11_odds_64 rfl ?_
            refine g_callV cx (pc2 := 69) (st := [.long (lI t)]) (As := [.int (iI k)]) (k0 := 23) (ci := 2) (c_X2_waysToCall (M := (odT M)) hn (by exact hcT.l) (by exact hcT.nd) k (by first | assumption | omega)) wM_X2_waysToCall wV_X2_waysToCall kl_X11_321 rfl (lt_lit hn (Nat.le_of_ble_eq_true rfl)) rfl ⟨rfl, rfl, Nat.le_of_ble_eq_true rfl, Nat.le_of_ble_eq_true rfl⟩ (Nat.le_of_ble_eq_true rfl) cs rfl rfl dX11_odds_66 rfl ?_
            rintro _ _ ⟨rfl, rfl⟩
            refine g_ladd cx (pc2 := 70) dX11_odds_69 rfl ?_
            refine g_lstore_n cx (pc2 := 71) (lv2 := [(0, .ref 0), (1, .int (iI ((bitsK M 2 : Nat) : Int))), (2, .int (iI ((bitsK M 1 : Nat) : Int))), (3, .long (lI (t + (wyF (odT M) k ((odT M) 23 4).toNat)))), (5, .int (iI k))]) rfl (Nat.le_of_ble_eq_true rfl) dX11_odds_70 rfl ?_
            exact L71 (t + (wyF (odT M) k ((odT M) 23 4).toNat)) (by rw [hst]; first | (rw [if_neg (by omega)]; done) | (rw [if_pos ⟨by omega, by assumption⟩]; done))
  exact L28 _ 0 0 (by first | assumption | omega) (by rfl) (Nat.le_refl _)
set_option maxHeartbeats 4000000 in
set_option maxRecDepth 100000 in
theorem c_X11_call {n : Nat} (hn : NN n) {M : Mm} (hci : CI M) (s : Int) (hs : ir s) : CT yX11_call cX11_call 5 (some .int) ({ frames := 6, cells := 0, slots := 0, locals := 145 }) n [.ref 0, .int (iI s)] M (rI (calA M s) (calM M s)) := by
  refine CT.of (lv0 := [(0, .ref 0), (1, .int (iI s))]) (by decide +kernel) hn (fun _ => rfl) (fun _ => Nat.le_of_ble_eq_true rfl) (fun X cx cs qx => ?_)
  have cx : Cx X cX11_call RX11 ({ frames := 6, cells := 0, slots := 0, locals := 145 }) 5 n := cx
  have hl := hci.l
  have hAb := aL_255 hl
  have hMb := bitsK_255 hl 1
  have hLb := bitsK_255 hl 2
  have hcT : CI (clT M s) := hci.gf
  have hWb := clW_b hl s
  have eMB : ((bitsK (clT M s) 1 : Nat) : Int) = ((bitsK M 1 : Nat) : Int) := bK_off hl (gfA_off M _ (by omega)) (fun a _ _ => gfA_off M _ (by omega)) 1
  have hbv := bpM_v (clT M s) ((clW M s : Nat) : Int) ((bitsK M 1 : Nat) : Int)
  have hn1 := ndN_le (allN (M 23 4)) (bitsK M 2)
  have hVb : clV M s ≤ 255 := bsum_255 _ (by omega)
  refine g_iload_n cx (pc2 := 1) 1 rfl dX11_call_0 rfl ?_
  refine g_iconst cx (pc2 := 2) dX11_call_1 rfl ?_
  refine g_icmp_lt cx (pc2 := 5) (tgt := 12) ⟨(by first | assumption | omega), ⟨by decide, by decide⟩⟩ dX11_call_2 (by decide) rfl (fun h_1 => ?_) (fun h_1 => ?_)
  · skip
    refine g_iconst cx (pc2 := 13) dX11_call_12 rfl ?_
    exact g_iret cx qx dX11_call_13 ⟨congrArg (fun q => some (Value.int (iI q))) (by unfold calA; (repeat (first | rw [if_pos (by first | assumption | omega)] | rw [if_neg (by first | assumption | exact not_not_intro (by assumption) | omega)])); first | done | rfl), by unfold calM; first | (rw [if_pos (by omega)]; done) | (rw [if_neg (by omega), if_pos (by assumption)]; rfl) | (rw [if_neg (by omega), if_neg (by assumption)]; rfl)⟩
  · skip
    refine g_iload_n cx (pc2 := 6) 1 rfl dX11_call_5 rfl ?_
    refine g_ldcw cx (pc2 := 9) kk_X11_332 dX11_call_6 rfl ?_
    refine g_icmp_le cx (pc2 := 12) (tgt := 14) ⟨(by first | assumption | omega), ⟨by decide, by decide⟩⟩ dX11_call_9 (by decide) rfl (fun h_2 => ?_) (fun h_2 => ?_)
    · skip
      refine g_aload_n cx (pc2 := 15) 0 rfl dX11_call_14 rfl ?_
      refine g_get cx (pc2 := 18) (ci := 11) (k0 := 0) (j := 2) (v := .ref 23) rfl iwX11 rfl (lt_lit hn (Nat.le_of_ble_eq_true rfl)) rfl (Nat.le_of_ble_eq_true rfl) kf_X11_21 rfl rfl dX11_call_15 rfl ?_
      refine g_iload_n cx (pc2 := 19) 1 rfl dX11_call_18 rfl ?_
      refine g_callV cx (pc2 := 22) (st := []) (As := [.int (iI s)]) (k0 := 23) (ci := 2) (c_X2_lotsCalledBy (M := M) hn (by exact hci.l) (by exact hci.nd) s (by first | assumption | omega)) wM_X2_lotsCalledBy wV_X2_lotsCalledBy kl_X11_333 rfl (lt_lit hn (Nat.le_of_ble_eq_true rfl)) rfl ⟨rfl, rfl, Nat.le_of_ble_eq_true rfl, Nat.le_of_ble_eq_true rfl⟩ (Nat.le_of_ble_eq_true rfl) cs rfl rfl dX11_call_19 rfl ?_
      rintro _ _ ⟨rfl, rfl⟩
      refine g_rwi (y := iI ((clV M s : Nat) : Int)) (rfl) ?_
      refine g_istore_n cx (pc2 := 23) (lv2 := [(0, .ref 0), (1, .int (iI s)), (2, .int (iI ((clV M s : Nat) : Int)))]) rfl (Nat.le_of_ble_eq_true rfl) dX11_call_22 rfl ?_
      refine g_aload_n cx (pc2 := 24) 0 rfl dX11_call_23 rfl ?_
      refine g_get cx (pc2 := 27) (ci := 11) (k0 := 0) (j := 2) (v := .ref 23) rfl iwX11 rfl (lt_lit hn (Nat.le_of_ble_eq_true rfl)) rfl (Nat.le_of_ble_eq_true rfl) kf_X11_21 rfl rfl dX11_call_24 rfl ?_
      refine g_callV cx (pc2 := 30) (st := []) (As := []) (k0 := 23) (ci := 2) (c_X2_allNeeds (M := M) hn (by exact hci.l)) wM_X2_allNeeds wV_X2_allNeeds kl_X11_233 rfl (lt_lit hn (Nat.le_of_ble_eq_true rfl)) rfl ⟨rfl, rfl, Nat.le_of_ble_eq_true rfl, Nat.le_of_ble_eq_true rfl⟩ (Nat.le_of_ble_eq_true rfl) cs rfl rfl dX11_call_27 rfl ?_
      rintro _ _ ⟨rfl, rfl⟩
      refine g_aload_n cx (pc2 := 31) 0 rfl dX11_call_30 rfl ?_
      refine g_get cx (pc2 := 34) (ci := 11) (k0 := 0) (j := 2) (v := .ref 23) rfl iwX11 rfl (lt_lit hn (Nat.le_of_ble_eq_true rfl)) rfl (Nat.le_of_ble_eq_true rfl) kf_X11_21 rfl rfl dX11_call_31 rfl ?_
      refine g_callV cx (pc2 := 37) (st := [.int (iI ((allN (M 23 4) : Nat) : Int))]) (As := []) (k0 := 23) (ci := 2) (c_X2_lotBits (M := M) hn (by exact hci.l) (by exact hci.nd)) wM_X2_lotBits wV_X2_lotBits kl_X11_318 rfl (lt_lit hn (Nat.le_of_ble_eq_true rfl)) rfl ⟨rfl, rfl, Nat.le_of_ble_eq_true rfl, Nat.le_of_ble_eq_true rfl⟩ (Nat.le_of_ble_eq_true rfl) cs rfl rfl dX11_call_34 rfl ?_
      rintro _ _ ⟨rfl, rfl⟩
      refine g_iconst cx (pc2 := 38) dX11_call_37 rfl ?_
      refine g_ixor cx (pc2 := 39) dX11_call_38 rfl ?_
      refine g_iand cx (pc2 := 40) dX11_call_39 rfl ?_
      refine g_rwi (y := iI ((ndN (allN (M 23 4)) (bitsK M 2) : Nat) : Int)) (nd_iI (by omega) (by omega)) ?_
      refine g_iload_n cx (pc2 := 41) 2 rfl dX11_call_40 rfl ?_
      refine g_ior cx (pc2 := 42) dX11_call_41 rfl ?_
      refine g_rwi (y := iI ((clW M s : Nat) : Int)) (or_iI (by omega) (by omega)) ?_
      refine g_istore_n cx (pc2 := 43) (lv2 := [(0, .ref 0), (1, .int (iI s)), (2, .int (iI ((clV M s : Nat) : Int))), (3, .int (iI ((clW M s : Nat) : Int)))]) rfl (Nat.le_of_ble_eq_true rfl) dX11_call_42 rfl ?_
      refine g_aload_n cx (pc2 := 44) 0 rfl dX11_call_43 rfl ?_
      refine g_iload_n cx (pc2 := 45) 3 rfl dX11_call_44 rfl ?_
      refine g_callV cx (pc2 := 48) (st := []) (As := [.int (iI ((clW M s : Nat) : Int))]) (k0 := 0) (ci := 11) (c_X11_reachFromStart (M := M) hn (by exact hci) ((clW M s : Nat) : Int) (by first | assumption | omega)) wM_X11_reachFromStart wV_X11_reachFromStart kl_X11_227 rfl (lt_lit hn (Nat.le_of_ble_eq_true rfl)) rfl ⟨rfl, rfl, Nat.le_of_ble_eq_true rfl, Nat.le_of_ble_eq_true rfl⟩ (Nat.le_of_ble_eq_true rfl) cs rfl rfl dX11_call_45 rfl ?_
      rintro _ _ ⟨rfl, rfl⟩
      refine g_M (M2 := (clT M s)) (by rfl) ?_
      refine g_aload_n cx (pc2 := 49) 0 rfl dX11_call_48 rfl ?_
      refine g_get cx (pc2 := 52) (ci := 11) (k0 := 0) (j := 7) (v := .ref 57) rfl iwX11 rfl (lt_lit hn (Nat.le_of_ble_eq_true rfl)) rfl (Nat.le_of_ble_eq_true rfl) kf_X11_54 rfl rfl dX11_call_49 rfl ?_
      refine g_iload_n cx (pc2 := 53) 3 rfl dX11_call_52 rfl ?_
      refine g_aload_n cx (pc2 := 54) 0 rfl dX11_call_53 rfl ?_
      refine g_get cx (pc2 := 57) (ci := 11) (k0 := 0) (j := 2) (v := .ref 23) rfl iwX11 rfl (lt_lit hn (Nat.le_of_ble_eq_true rfl)) rfl (Nat.le_of_ble_eq_true rfl) kf_X11_21 rfl rfl dX11_call_54 rfl ?_
      refine g_callV cx (pc2 := 60) (st := [.int (iI ((clW M s : Nat) : Int)), .ref 57]) (As := []) (k0 := 23) (ci := 2) (c_X2_mustBits (M := (clT M s)) hn (by exact hcT.l) (by exact hcT.nd)) wM_X2_mustBits wV_X2_mustBits kl_X11_244 rfl (lt_lit hn (Nat.le_of_ble_eq_true rfl)) rfl ⟨rfl, rfl, Nat.le_of_ble_eq_true rfl, Nat.le_of_ble_eq_true rfl⟩ (Nat.le_of_ble_eq_true rfl) cs rfl rfl dX11_call_57 rfl ?_
      rintro _ _ ⟨rfl, rfl⟩
      refine g_rwi (y := iI ((bitsK M 1 : Nat) : Int)) (congrArg iI eMB) ?_
      refine g_callV cx (pc2 := 63) (st := []) (As := [.int (iI ((clW M s : Nat) : Int)), .int (iI ((bitsK M 1 : Nat) : Int))]) (k0 := 57) (ci := 6) (c_X6_bestPlan (M := (clT M s)) hn (by exact hcT.j) (by exact hcT.p) ((clW M s : Nat) : Int) ((bitsK M 1 : Nat) : Int) (by first | assumption | omega) (by first | assumption | omega)) wM_X6_bestPlan wV_X6_bestPlan kl_X11_247 rfl (lt_lit hn (Nat.le_of_ble_eq_true rfl)) rfl ⟨rfl, rfl, Nat.le_of_ble_eq_true rfl, Nat.le_of_ble_eq_true rfl⟩ (Nat.le_of_ble_eq_true rfl) cs rfl rfl dX11_call_60 rfl ?_
      rintro _ _ ⟨rfl, rfl⟩
      refine g_rwi (y := iI (clP2 M s)) (rfl) ?_
      refine g_istore cx (pc2 := 65) (lv2 := [(0, .ref 0), (1, .int (iI s)), (2, .int (iI ((clV M s : Nat) : Int))), (3, .int (iI ((clW M s : Nat) : Int))), (4, .int (iI (clP2 M s)))]) rfl (Nat.le_of_ble_eq_true rfl) dX11_call_63 rfl ?_
      refine g_aload_n cx (pc2 := 66) 0 rfl dX11_call_65 rfl ?_
      refine g_iload cx (pc2 := 68) 4 rfl dX11_call_66 rfl ?_
      refine g_bipush cx (pc2 := 70) ⟨by decide, by decide⟩ dX11_call_68 rfl ?_
      refine g_icmp_ne cx (pc2 := 73) (tgt := 78) ⟨(by unfold clP2; omega), ⟨by decide, by decide⟩⟩ dX11_call_70 (by decide) rfl (fun h_3 => ?_) (fun h_3 => ?_)
      · skip
        refine g_aload_n cx (pc2 := 79) 0 rfl dX11_call_78 rfl ?_
        refine g_get cx (pc2 := 82) (ci := 11) (k0 := 0) (j := 5) (v := .ref 48) rfl iwX11 rfl (lt_lit hn (Nat.le_of_ble_eq_true rfl)) rfl (Nat.le_of_ble_eq_true rfl) kf_X11_38 rfl rfl dX11_call_79 rfl ?_
        refine g_iload cx (pc2 := 84) 4 rfl dX11_call_82 rfl ?_
        refine g_callV cx (pc2 := 87) (st := [.ref 0]) (As := [.int (iI (clP2 M s))]) (k0 := 48) (ci := 1) (c_X1_worthOf (M := (clT M s)) hn (by exact hcT.j) (clP2 M s) (by have q : ¬ clP2 M s = -9 := (by assumption); unfold clP2 at q ⊢; omega)) wM_X1_worthOf wV_X1_worthOf kl_X11_236 rfl (lt_lit hn (Nat.le_of_ble_eq_true rfl)) rfl ⟨rfl, rfl, Nat.le_of_ble_eq_true rfl, Nat.le_of_ble_eq_true rfl⟩ (Nat.le_of_ble_eq_true rfl) cs rfl rfl dX11_call_84 rfl ?_
        rintro _ _ ⟨rfl, rfl⟩
        refine g_puti cx (pc2 := 90) (ci := 11) (k0 := 0) (j := 15) rfl iwX11 rfl (lt_lit hn (Nat.le_of_ble_eq_true rfl)) rfl (Nat.le_of_ble_eq_true rfl) kf_X11_98 rfl tyX11_ok nmX11 rfl rfl dX11_call_87 rfl ?_
        refine g_iload_n cx (pc2 := 91) 2 rfl dX11_call_90 rfl ?_
        exact g_iret cx qx dX11_call_91 ⟨congrArg (fun q => some (Value.int (iI q))) (by unfold calA; (repeat (first | rw [if_pos (by first | assumption | omega)] | rw [if_neg (by first | assumption | exact not_not_intro (by assumption) | omega)])); first | done | rfl), by unfold calM; first | (rw [if_pos (by omega)]; done) | (rw [if_neg (by omega), if_pos (by assumption)]; rfl) | (rw [if_neg (by omega), if_neg (by assumption)]; rfl)⟩
      · skip
        refine g_bipush cx (pc2 := 75) ⟨by decide, by decide⟩ dX11_call_73 rfl ?_
        refine g_goto cx (tgt := 87) dX11_call_75 (by decide) ?_
        refine g_puti cx (pc2 := 90) (ci := 11) (k0 := 0) (j := 15) rfl iwX11 rfl (lt_lit hn (Nat.le_of_ble_eq_true rfl)) rfl (Nat.le_of_ble_eq_true rfl) kf_X11_98 rfl tyX11_ok nmX11 rfl rfl dX11_call_87 rfl ?_
        refine g_iload_n cx (pc2 := 91) 2 rfl dX11_call_90 rfl ?_
        exact g_iret cx qx dX11_call_91 ⟨congrArg (fun q => some (Value.int (iI q))) (by unfold calA; (repeat (first | rw [if_pos (by first | assumption | omega)] | rw [if_neg (by first | assumption | exact not_not_intro (by assumption) | omega)])); first | done | rfl), by unfold calM; first | (rw [if_pos (by omega)]; done) | (rw [if_neg (by omega), if_pos (by assumption)]; rfl) | (rw [if_neg (by omega), if_neg (by assumption)]; rfl)⟩
    · skip
      refine g_iconst cx (pc2 := 13) dX11_call_12 rfl ?_
      exact g_iret cx qx dX11_call_13 ⟨congrArg (fun q => some (Value.int (iI q))) (by unfold calA; (repeat (first | rw [if_pos (by first | assumption | omega)] | rw [if_neg (by first | assumption | exact not_not_intro (by assumption) | omega)])); first | done | rfl), by unfold calM; first | (rw [if_pos (by omega)]; done) | (rw [if_neg (by omega), if_pos (by assumption)]; rfl) | (rw [if_neg (by omega), if_neg (by assumption)]; rfl)⟩
