def lsr (a b : Int) : Int := if a = -9 ∨ b = -9 then (if a = -9 then b else a) else if a < b then a else b
abbrev vE (z : Int) : Prop := z = -9 ∨ (0 ≤ z ∧ z ≤ 100)
theorem lsr_b {a b : Int} (ha : vE a) (hb : vE b) : vE (lsr a b) := by unfold lsr; (repeat split) <;> omega
abbrev PW (M : Mm) : Prop := ∀ j, vE (M 58 j) ∧ vE (M 59 j) ∧ vE (M 60 j)
def pcol (M : Mm) (tp c : Int) : Int := if c = 8 then tp else plJ M c
theorem pcol_b {M : Mm} (hJ : JW M) {tp : Int} (ht : 0 ≤ tp ∧ tp ≤ 15) (c : Int) : 0 ≤ pcol M tp c ∧ pcol M tp c ≤ 15 := by
  unfold pcol
  split
  · exact ht
  · exact plJ_b hJ c
/-- the least end of need i, met behind all of a set, by the columns below c -/
def lsF (M : Mm) (s i tp : Int) : Nat → Int
  | 0 => -9
  | c + 1 => if M 58 (s * 9 + (c : Int)).toNat = -9 then lsF M s i tp c else lsr (lsF M s i tp c) (endJ M i (pcol M tp (c : Int)) (M 58 (s * 9 + (c : Int)).toNat))
def lsE (M : Mm) (s i tp : Int) : Int := lsF M s i tp 9
theorem lsF_s {M : Mm} {s i tp c : Int} (h : 0 ≤ c) : lsF M s i tp (c + 1).toNat = if M 58 (s * 9 + c).toNat = -9 then lsF M s i tp c.toNat else lsr (lsF M s i tp c.toNat) (endJ M i (pcol M tp c) (M 58 (s * 9 + c).toNat)) := by
  rw [show (c + 1).toNat = c.toNat + 1 by omega, lsF, Int.toNat_of_nonneg h]
theorem lsF_b {M : Mm} (hJ : JW M) (hP : PW M) {s i tp : Int} (ht : 0 ≤ tp ∧ tp ≤ 15) : ∀ c, vE (lsF M s i tp c)
  | 0 => Or.inl rfl
  | c + 1 => by
    have h1 := lsF_b hJ hP (s := s) (i := i) ht c
    rw [lsF]
    split
    · exact h1
    · rename_i hne
      have h2 := (hP (s * 9 + (c : Int)).toNat).1
      have h3 := endJ_b hJ (i := i) (pcol_b hJ ht (c : Int)) (f := M 58 (s * 9 + (c : Int)).toNat) (by omega)
      exact lsr_b h1 (by omega)
theorem JW_of {M M2 : Mm} (h : ∀ a, 48 ≤ a → a ≤ 53 → M2 a = M a) (hJ : JW M) : JW M2 := by
  unfold JW
  rw [h 48 (by decide) (by decide), h 49 (by decide) (by decide), h 50 (by decide) (by decide), h 51 (by decide) (by decide), h 52 (by decide) (by decide), h 53 (by decide) (by decide)]
  exact hJ
theorem PW_st {M : Mm} (hP : PW M) {k i : Nat} {v : Int} (hv : vE v) : PW (stM M k i v) := by
  intro j
  have h := hP j
  unfold stM
  refine ⟨?_, ?_, ?_⟩ <;> split <;> first | exact hv | exact h.1 | exact h.2.1 | exact h.2.2
def cvS (T : Mm) (s tp i : Int) : Int := if inS i s then lsE T ((ndN s.toNat (bitN i) : Nat) : Int) i tp else -9
theorem cvS_b {T : Mm} (hJ : JW T) (hP : PW T) {s tp i : Int} (ht : 0 ≤ tp ∧ tp ≤ 15) : vE (cvS T s tp i) := by
  unfold cvS
  split
  · exact lsF_b hJ hP ht 9
  · exact Or.inl rfl
/-- the columns of a set, one behind the other -/
def spI (T : Mm) (s tp : Int) : Nat → Mm
  | 0 => T
  | k + 1 => stM (spI T s tp k) 58 (s * 9 + (k : Int)).toNat (cvS (spI T s tp k) s tp (k : Int))
def spA (T : Mm) (s tp : Int) : Nat → Int
  | 0 => T 58 (s * 9 + 8).toNat
  | k + 1 => lsr (spA T s tp k) (cvS (spI T s tp k) s tp (k : Int))
theorem spI_s {T : Mm} {s tp i : Int} (h : 0 ≤ i) : stM (spI T s tp i.toNat) 58 (s * 9 + i).toNat (cvS (spI T s tp i.toNat) s tp i) = spI T s tp (i + 1).toNat := by
  rw [show (i + 1).toNat = i.toNat + 1 by omega, spI, Int.toNat_of_nonneg h]
theorem spA_s {T : Mm} {s tp i : Int} (h : 0 ≤ i) : lsr (spA T s tp i.toNat) (cvS (spI T s tp i.toNat) s tp i) = spA T s tp (i + 1).toNat := by
  rw [show (i + 1).toNat = i.toNat + 1 by omega, spA, Int.toNat_of_nonneg h]
theorem spI_off (T : Mm) (s tp : Int) {a : Nat} (ha : a ≠ 58) : ∀ k, spI T s tp k a = T a
  | 0 => rfl
  | k + 1 => by rw [spI, stM_off ha, spI_off T s tp ha k]
theorem spI_W {T : Mm} (hJ : JW T) (hP : PW T) {s tp : Int} (ht : 0 ≤ tp ∧ tp ≤ 15) : ∀ k, JW (spI T s tp k) ∧ PW (spI T s tp k)
  | 0 => ⟨hJ, hP⟩
  | k + 1 => by
    have h := spI_W hJ hP (s := s) ht k
    refine ⟨JW_of (fun a h1 h2 => spI_off T s tp (by omega) (k + 1)) hJ, ?_⟩
    rw [spI]
    exact PW_st h.2 (cvS_b h.1 h.2 ht)
theorem spA_b {T : Mm} (hJ : JW T) (hP : PW T) {s tp : Int} (ht : 0 ≤ tp ∧ tp ≤ 15) : ∀ k, vE (spA T s tp k)
  | 0 => (hP _).1
  | k + 1 => by
    have h := spI_W hJ hP (s := s) ht k
    exact lsr_b (spA_b hJ hP ht k) (cvS_b h.1 h.2 ht)
def spS (T : Mm) (s w tp : Int) : Mm := if ((ndN s.toNat w.toNat : Nat) : Int) = 0 then stM (spI T s tp 8) 59 s.toNat (spA T s tp 8) else stM T 59 s.toNat (-9)
def spT (M : Mm) (w tp : Int) : Nat → Mm
  | 0 => M
  | k + 1 => spS (spT M w tp k) (k : Int) w tp
theorem spT_s {M : Mm} {w tp s : Int} (h : 0 ≤ s) : spS (spT M w tp s.toNat) s w tp = spT M w tp (s + 1).toNat := by
  rw [show (s + 1).toNat = s.toNat + 1 by omega, spT, Int.toNat_of_nonneg h]
theorem spS_off (T : Mm) (s w tp : Int) {a : Nat} (h1 : a ≠ 58) (h2 : a ≠ 59) : spS T s w tp a = T a := by
  unfold spS
  split
  · rw [stM_off h2, spI_off T s tp h1]
  · rw [stM_off h2]
theorem spT_off (M : Mm) (w tp : Int) {a : Nat} (h1 : a ≠ 58) (h2 : a ≠ 59) : ∀ k, spT M w tp k a = M a
  | 0 => rfl
  | k + 1 => by rw [spT, spS_off _ _ _ _ h1 h2, spT_off M w tp h1 h2 k]
theorem spS_P {T : Mm} (hJ : JW T) (hP : PW T) {s w tp : Int} (ht : 0 ≤ tp ∧ tp ≤ 15) : PW (spS T s w tp) := by
  unfold spS
  split
  · exact PW_st (spI_W hJ hP ht 8).2 (spA_b hJ hP ht 8)
  · exact PW_st hP (Or.inl rfl)
theorem spT_W {M : Mm} (hJ : JW M) (hP : PW M) {w tp : Int} (ht : 0 ≤ tp ∧ tp ≤ 15) : ∀ k, JW (spT M w tp k) ∧ PW (spT M w tp k)
  | 0 => ⟨hJ, hP⟩
  | k + 1 => by
    have h := spT_W hJ hP (w := w) ht k
    refine ⟨JW_of (fun a h1 h2 => spT_off M w tp (by omega) (by omega) (k + 1)) hJ, ?_⟩
    rw [spT]
    exact spS_P h.1 h.2 ht
/-- the ends of all sets within a set -/
def spM (M : Mm) (w tp : Int) : Mm := fun a b => if a = 58 ∨ a = 59 then spT M w tp 256 a b else M a b
theorem spM_eq (M : Mm) (w tp : Int) : spT M w tp 256 = spM M w tp := by
  funext a b
  unfold spM
  by_cases h : a = 58 ∨ a = 59
  · rw [if_pos h]
  · rw [if_neg h, spT_off M w tp (fun q => h (Or.inl q)) (fun q => h (Or.inr q))]
theorem spM_off (M : Mm) (w tp : Int) {a : Nat} (h1 : a ≠ 58) (h2 : a ≠ 59) : spM M w tp a = M a := by rw [← spM_eq, spT_off M w tp h1 h2]
theorem spM_W {M : Mm} (hJ : JW M) (hP : PW M) {w tp : Int} (ht : 0 ≤ tp ∧ tp ≤ 15) : JW (spM M w tp) ∧ PW (spM M w tp) := by rw [← spM_eq]; exact spT_W hJ hP ht 256
def rcP (M : Mm) (f s : Int) : Mm := fun a b => if a = 58 ∧ b < 9 * s.toNat ∧ b % 9 = 8 then (if b = 8 then f else -9) else M a b
theorem rcP_s {M : Mm} {f s : Int} (h : 0 ≤ s) : stM (rcP M f s) 58 (s * 9 + 8).toNat (if s = 0 then f else -9) = rcP M f (s + 1) := by
  funext a b
  unfold stM rcP
  by_cases ha : a = 58
  · subst ha
    by_cases hb : b = (s * 9 + 8).toNat
    · rw [if_pos (show 58 = 58 ∧ b = (s * 9 + 8).toNat from ⟨rfl, hb⟩), if_pos (show 58 = 58 ∧ b < 9 * (s + 1).toNat ∧ b % 9 = 8 by omega)]
      by_cases h0 : s = 0
      · rw [if_pos h0, if_pos (show b = 8 by omega)]
      · rw [if_neg h0, if_neg (show ¬ b = 8 by omega)]
    · rw [if_neg (show ¬ (58 = 58 ∧ b = (s * 9 + 8).toNat) from fun q => hb q.2)]
      by_cases h3 : b < 9 * s.toNat ∧ b % 9 = 8
      · rw [if_pos (show 58 = 58 ∧ b < 9 * s.toNat ∧ b % 9 = 8 from ⟨rfl, h3⟩), if_pos (show 58 = 58 ∧ b < 9 * (s + 1).toNat ∧ b % 9 = 8 by omega)]
      · rw [if_neg (show ¬ (58 = 58 ∧ b < 9 * s.toNat ∧ b % 9 = 8) from fun q => h3 q.2), if_neg (show ¬ (58 = 58 ∧ b < 9 * (s + 1).toNat ∧ b % 9 = 8) by omega)]
  · simp [ha]
theorem rcP_0 (M : Mm) (f : Int) : M = rcP M f 0 := by
  funext a b
  unfold rcP
  rw [if_neg (by omega)]
theorem rcP_off (M : Mm) (f s : Int) {a : Nat} (h : a ≠ 58) : rcP M f s a = M a := by
  funext b
  unfold rcP
  rw [if_neg (fun q => h q.1)]
theorem rcP_W {M : Mm} (hJ : JW M) (hP : PW M) {f s : Int} (hf : vE f) : JW (rcP M f s) ∧ PW (rcP M f s) := by
  refine ⟨JW_of (fun a h1 h2 => rcP_off M f s (by omega)) hJ, fun j => ?_⟩
  have h := hP j
  unfold rcP
  refine ⟨?_, ?_, ?_⟩
  · split
    · split
      · exact hf
      · exact Or.inl rfl
    · exact h.1
  · rw [if_neg (by omega)]; exact h.2.1
  · rw [if_neg (by omega)]; exact h.2.2
def rcM (M : Mm) (w p f : Int) : Mm := spM (rcP M f 256) w p
theorem rcM_W {M : Mm} (hJ : JW M) (hP : PW M) {w p f : Int} (hp : 0 ≤ p ∧ p ≤ 15) (hf : vE f) : JW (rcM M w p f) ∧ PW (rcM M w p f) := spM_W (rcP_W hJ hP hf).1 (rcP_W hJ hP hf).2 hp
theorem rcM_off (M : Mm) (w p f : Int) {a : Nat} (h1 : a ≠ 58) (h2 : a ≠ 59) : rcM M w p f a = M a := by
  unfold rcM
  rw [spM_off _ _ _ h1 h2, rcP_off _ _ _ h1]
/-- the plan of the most worth among the first sets, and its worth -/
def bpF (M : Mm) (al du : Nat) : Nat → Int × Int
  | 0 => (-9, -9)
  | k + 1 => if (ndN k al = 0 ∧ ndN du k = 0 ∧ ¬ M 59 k = -9) ∧ (bpF M al du k).2 < wsM M (k : Int) then ((k : Int), wsM M (k : Int)) else bpF M al du k
theorem wsM_b {M : Mm} (hJ : JW M) (s : Int) : 0 ≤ wsM M s ∧ wsM M s ≤ 144 := by
  have h := smZ_b (f := fun j => if s.toNat.testBit j then M 53 j else 0) (c := 18) (fun j => by
    have := (hJ.2 j).2.2.2.2
    split <;> omega) (M 48 5).toNat
  have h2 := hJ.1
  unfold wsM
  omega
theorem bpF_b {M : Mm} (hJ : JW M) (al du : Nat) : ∀ k : Nat, k ≤ 256 → (-9 ≤ (bpF M al du k).1 ∧ (bpF M al du k).1 ≤ 255) ∧ (-9 ≤ (bpF M al du k).2 ∧ (bpF M al du k).2 ≤ 144)
  | 0, _ => by simp [bpF]
  | k + 1, h => by
    have h1 := bpF_b hJ al du k (by omega)
    have h2 := wsM_b hJ (k : Int)
    rw [bpF]
    split
    · simp only []; omega
    · exact h1
def bpM (M : Mm) (al du : Int) : Int := (bpF M al.toNat du.toNat 256).1
set_option maxHeartbeats 4000000 in
set_option maxRecDepth 100000 in
theorem c_X6_lesserEnd {n : Nat} (hn : NN n) {M : Mm} (a b : Int) (ha : ir a) (hb : ir b) : CT yX6_lesserEnd cX6_lesserEnd 2 (some .int) ({ frames := 0, cells := 0, slots := 0, locals := 0 }) n [.int (iI a), .int (iI b)] M (rI (lsr a b) M) := by
  refine CT.of (lv0 := [(0, .int (iI a)), (1, .int (iI b))]) (by decide +kernel) hn (fun _ => rfl) (fun _ => Nat.le_of_ble_eq_true rfl) (fun X cx cs qx => ?_)
  have cx : Cx X cX6_lesserEnd RX6 ({ frames := 0, cells := 0, slots := 0, locals := 0 }) 2 n := cx
  refine g_iload_n cx (pc2 := 1) 0 rfl dX6_lesserEnd_0 rfl ?_
  refine g_bipush cx (pc2 := 3) ⟨by decide, by decide⟩ dX6_lesserEnd_1 rfl ?_
  refine g_icmp_eq cx (pc2 := 6) (tgt := 12) ⟨(by first | assumption | omega), ⟨by decide, by decide⟩⟩ dX6_lesserEnd_3 (by decide) rfl (fun h_1 => ?_) (fun h_1 => ?_)
  · skip
    refine g_iload_n cx (pc2 := 13) 0 rfl dX6_lesserEnd_12 rfl ?_
    refine g_bipush cx (pc2 := 15) ⟨by decide, by decide⟩ dX6_lesserEnd_13 rfl ?_
    refine g_icmp_ne cx (pc2 := 18) (tgt := 22) ⟨(by first | assumption | omega), ⟨by decide, by decide⟩⟩ dX6_lesserEnd_15 (by decide) rfl (fun h_2 => ?_) (fun h_2 => ?_)
    · skip
      refine g_iload_n cx (pc2 := 23) 0 rfl dX6_lesserEnd_22 rfl ?_
      exact g_iret cx qx dX6_lesserEnd_23 ⟨congrArg (fun q => some (Value.int (iI q))) (by unfold lsr; (repeat split) <;> omega), by rfl⟩
    · skip
      refine g_iload_n cx (pc2 := 19) 1 rfl dX6_lesserEnd_18 rfl ?_
      refine g_goto cx (tgt := 23) dX6_lesserEnd_19 (by decide) ?_
      exact g_iret cx qx dX6_lesserEnd_23 ⟨congrArg (fun q => some (Value.int (iI q))) (by unfold lsr; (repeat split) <;> omega), by rfl⟩
  · skip
    refine g_iload_n cx (pc2 := 7) 1 rfl dX6_lesserEnd_6 rfl ?_
    refine g_bipush cx (pc2 := 9) ⟨by decide, by decide⟩ dX6_lesserEnd_7 rfl ?_
    refine g_icmp_ne cx (pc2 := 12) (tgt := 24) ⟨(by first | assumption | omega), ⟨by decide, by decide⟩⟩ dX6_lesserEnd_9 (by decide) rfl (fun h_3 => ?_) (fun h_3 => ?_)
    · skip
      refine g_iload_n cx (pc2 := 25) 0 rfl dX6_lesserEnd_24 rfl ?_
      refine g_iload_n cx (pc2 := 26) 1 rfl dX6_lesserEnd_25 rfl ?_
      refine g_icmp_ge cx (pc2 := 29) (tgt := 33) ⟨(by first | assumption | omega), (by first | assumption | omega)⟩ dX6_lesserEnd_26 (by decide) rfl (fun h_4 => ?_) (fun h_4 => ?_)
      · skip
        refine g_iload_n cx (pc2 := 34) 1 rfl dX6_lesserEnd_33 rfl ?_
        exact g_iret cx qx dX6_lesserEnd_34 ⟨congrArg (fun q => some (Value.int (iI q))) (by unfold lsr; (repeat split) <;> omega), by rfl⟩
      · skip
        refine g_iload_n cx (pc2 := 30) 0 rfl dX6_lesserEnd_29 rfl ?_
        refine g_goto cx (tgt := 34) dX6_lesserEnd_30 (by decide) ?_
        exact g_iret cx qx dX6_lesserEnd_34 ⟨congrArg (fun q => some (Value.int (iI q))) (by unfold lsr; (repeat split) <;> omega), by rfl⟩
    · skip
      refine g_iload_n cx (pc2 := 13) 0 rfl dX6_lesserEnd_12 rfl ?_
      refine g_bipush cx (pc2 := 15) ⟨by decide, by decide⟩ dX6_lesserEnd_13 rfl ?_
      refine g_icmp_ne cx (pc2 := 18) (tgt := 22) ⟨(by first | assumption | omega), ⟨by decide, by decide⟩⟩ dX6_lesserEnd_15 (by decide) rfl (fun h_5 => ?_) (fun h_5 => ?_)
      · skip
        refine g_iload_n cx (pc2 := 23) 0 rfl dX6_lesserEnd_22 rfl ?_
        exact g_iret cx qx dX6_lesserEnd_23 ⟨congrArg (fun q => some (Value.int (iI q))) (by unfold lsr; (repeat split) <;> omega), by rfl⟩
      · skip
        refine g_iload_n cx (pc2 := 19) 1 rfl dX6_lesserEnd_18 rfl ?_
        refine g_goto cx (tgt := 23) dX6_lesserEnd_19 (by decide) ?_
        exact g_iret cx qx dX6_lesserEnd_23 ⟨congrArg (fun q => some (Value.int (iI q))) (by unfold lsr; (repeat split) <;> omega), by rfl⟩
set_option maxHeartbeats 4000000 in
set_option maxRecDepth 100000 in
theorem c_X6_endOf {n : Nat} (hn : NN n) {M : Mm} (s : Int) (hs : ir s) : CT yX6_endOf cX6_endOf 2 (some .int) ({ frames := 0, cells := 0, slots := 0, locals := 0 }) n [.ref 57, .int (iI s)] M (rI (if 0 ≤ s ∧ s < 256 then M 59 s.toNat else -9) M) := by
  refine CT.of (lv0 := [(0, .ref 57), (1, .int (iI s))]) (by decide +kernel) hn (fun _ => rfl) (fun _ => Nat.le_of_ble_eq_true rfl) (fun X cx cs qx => ?_)
  have cx : Cx X cX6_endOf RX6 ({ frames := 0, cells := 0, slots := 0, locals := 0 }) 2 n := cx
  refine g_iload_n cx (pc2 := 1) 1 rfl dX6_endOf_0 rfl ?_
  refine g_if_lt cx (pc2 := 4) (tgt := 20) (by first | assumption | omega) dX6_endOf_1 (by decide) rfl (fun h_1 => ?_) (fun h_1 => ?_)
  · skip
    refine g_bipush cx (pc2 := 22) ⟨by decide, by decide⟩ dX6_endOf_20 rfl ?_
    exact g_iret cx qx dX6_endOf_22 ⟨congrArg (fun q => some (Value.int (iI q))) (by first | (rw [if_pos (by omega)]; done) | (rw [if_neg (by omega)]; done)), by rfl⟩
  · skip
    refine g_iload_n cx (pc2 := 5) 1 rfl dX6_endOf_4 rfl ?_
    refine g_sipush cx (pc2 := 8) ⟨by decide, by decide⟩ dX6_endOf_5 rfl ?_
    refine g_icmp_ge cx (pc2 := 11) (tgt := 20) ⟨(by first | assumption | omega), ⟨by decide, by decide⟩⟩ dX6_endOf_8 (by decide) rfl (fun h_2 => ?_) (fun h_2 => ?_)
    · skip
      refine g_bipush cx (pc2 := 22) ⟨by decide, by decide⟩ dX6_endOf_20 rfl ?_
      exact g_iret cx qx dX6_endOf_22 ⟨congrArg (fun q => some (Value.int (iI q))) (by first | (rw [if_pos (by omega)]; done) | (rw [if_neg (by omega)]; done)), by rfl⟩
    · skip
      refine g_aload_n cx (pc2 := 12) 0 rfl dX6_endOf_11 rfl ?_
      refine g_get cx (pc2 := 15) (ci := 6) (k0 := 57) (j := 2) (v := .ref 59) rfl iwX6 rfl (lt_lit hn (Nat.le_of_ble_eq_true rfl)) rfl (Nat.le_of_ble_eq_true rfl) kf_X6_15 rfl rfl dX6_endOf_12 rfl ?_
      refine g_iload_n cx (pc2 := 16) 1 rfl dX6_endOf_15 rfl ?_
      refine g_iald cx (pc2 := 17) (k0 := 59) rfl (lt_lit hn (Nat.le_of_ble_eq_true rfl)) (by first | assumption | omega) (by first | assumption | omega) (Nat.le_of_ble_eq_true rfl) dX6_endOf_16 rfl ?_
      refine g_rwi (y := iI (M 59 ((s).toNat))) (congrArg iI (by simp [stM])) ?_
      refine g_goto cx (tgt := 22) dX6_endOf_17 (by decide) ?_
      exact g_iret cx qx dX6_endOf_22 ⟨congrArg (fun q => some (Value.int (iI q))) (by first | (rw [if_pos (by omega)]; done) | (rw [if_neg (by omega)]; done)), by rfl⟩
set_option maxHeartbeats 4000000 in
set_option maxRecDepth 100000 in
theorem c_X6_leastEnding {n : Nat} (hn : NN n) {M : Mm} (hJ : JW M) (hP : PW M) (s i tp : Int) (hs : 0 ≤ s ∧ s ≤ 255) (hi : ir i) (ht : 0 ≤ tp ∧ tp ≤ 15) : CT yX6_leastEnding cX6_leastEnding 9 (some .int) ({ frames := 2, cells := 0, slots := 0, locals := 45 }) n [.ref 57, .int (iI s), .int (iI i), .int (iI tp)] M (rI (lsE M s i tp) M) := by
  refine CT.of (lv0 := [(0, .ref 57), (1, .int (iI s)), (2, .int (iI i)), (3, .int (iI tp))]) (by decide +kernel) hn (fun _ => rfl) (fun _ => Nat.le_of_ble_eq_true rfl) (fun X cx cs qx => ?_)
  have cx : Cx X cX6_leastEnding RX6 ({ frames := 2, cells := 0, slots := 0, locals := 45 }) 9 n := cx
  refine g_bipush cx (pc2 := 2) ⟨by decide, by decide⟩ dX6_leastEnding_0 rfl ?_
  refine g_istore cx (pc2 := 4) (lv2 := [(0, .ref 57), (1, .int (iI s)), (2, .int (iI i)), (3, .int (iI tp)), (4, .int (iI (-9)))]) rfl (Nat.le_of_ble_eq_true rfl) dX6_leastEnding_2 rfl ?_
  refine g_iload_n cx (pc2 := 5) 1 rfl dX6_leastEnding_4 rfl ?_
  refine g_if_lt cx (pc2 := 8) (tgt := 19) (by first | assumption | omega) dX6_leastEnding_5 (by decide) rfl (fun h_1 => ?_) (fun h_1 => ?_)
  · skip
    omega
  · skip
    refine g_iload_n cx (pc2 := 9) 1 rfl dX6_leastEnding_8 rfl ?_
    refine g_sipush cx (pc2 := 12) ⟨by decide, by decide⟩ dX6_leastEnding_9 rfl ?_
    refine g_icmp_ge cx (pc2 := 15) (tgt := 19) ⟨(by first | assumption | omega), ⟨by decide, by decide⟩⟩ dX6_leastEnding_12 (by decide) rfl (fun h_2 => ?_) (fun h_2 => ?_)
    · skip
      omega
    · skip
      refine g_iconst cx (pc2 := 16) dX6_leastEnding_15 rfl ?_
      refine g_goto cx (tgt := 20) dX6_leastEnding_16 (by decide) ?_
      refine g_istore cx (pc2 := 22) (lv2 := [(0, .ref 57), (1, .int (iI s)), (2, .int (iI i)), (3, .int (iI tp)), (4, .int (iI (-9))), (5, .int (iI 1))]) rfl (Nat.le_of_ble_eq_true rfl) dX6_leastEnding_20 rfl ?_
      refine g_iconst cx (pc2 := 23) dX6_leastEnding_22 rfl ?_
      refine g_istore cx (pc2 := 25) (lv2 := [(0, .ref 57), (1, .int (iI s)), (2, .int (iI i)), (3, .int (iI tp)), (4, .int (iI (-9))), (5, .int (iI 1)), (6, .int (iI 0))]) rfl (Nat.le_of_ble_eq_true rfl) dX6_leastEnding_23 rfl ?_
      have L25 : ∀ (fu : Nat) (c : Int) (e : Int), (0 ≤ c ∧ c ≤ 9) → (e = lsF M s i tp c.toNat) → (9 - c).toNat ≤ fu → G X 25 [(0, .ref 57), (1, .int (iI s)), (2, .int (iI i)), (3, .int (iI tp)), (4, .int (iI e)), (5, .int (iI 1)), (6, .int (iI c))] [] M := by
        intro fu
        induction fu using Nat.strongRecOn with
        | _ fu ih25 =>
          intro c e hc he hk25
          have hEb := lsF_b hJ hP (s := s) (i := i) ht c.toNat
          have hFb := (hP (s * 9 + c).toNat).1
          refine g_iload cx (pc2 := 27) 6 rfl dX6_leastEnding_25 rfl ?_
          refine g_bipush cx (pc2 := 29) ⟨by decide, by decide⟩ dX6_leastEnding_27 rfl ?_
          refine g_icmp_ge cx (pc2 := 32) (tgt := 105) ⟨(by first | assumption | omega), ⟨by decide, by decide⟩⟩ dX6_leastEnding_29 (by decide) rfl (fun h_3 => ?_) (fun h_3 => ?_)
          · skip
            refine g_iload cx (pc2 := 107) 4 rfl dX6_leastEnding_105 rfl ?_
            exact g_iret cx qx dX6_leastEnding_107 ⟨congrArg (fun q => some (Value.int (iI q))) (by rw [he]; unfold lsE; rw [show c = 9 by omega]; rfl), by rfl⟩
          · skip
            refine g_iload cx (pc2 := 34) 5 rfl dX6_leastEnding_32 rfl ?_
            refine g_if_eq cx (pc2 := 37) (tgt := 105) ⟨by decide, by decide⟩ dX6_leastEnding_34 (by decide) rfl (fun h_4 => ?_) (fun h_4 => ?_)
            · skip
              omega
            · skip
              refine g_aload_n cx (pc2 := 38) 0 rfl dX6_leastEnding_37 rfl ?_
              refine g_get cx (pc2 := 41) (ci := 6) (k0 := 57) (j := 1) (v := .ref 58) rfl iwX6 rfl (lt_lit hn (Nat.le_of_ble_eq_true rfl)) rfl (Nat.le_of_ble_eq_true rfl) kf_X6_11 rfl rfl dX6_leastEnding_38 rfl ?_
              refine g_iload_n cx (pc2 := 42) 1 rfl dX6_leastEnding_41 rfl ?_
              refine g_bipush cx (pc2 := 44) ⟨by decide, by decide⟩ dX6_leastEnding_42 rfl ?_
              refine g_imul cx (pc2 := 45) dX6_leastEnding_44 rfl ?_
              refine g_iload cx (pc2 := 47) 6 rfl dX6_leastEnding_45 rfl ?_
              refine g_iadd cx (pc2 := 48) dX6_leastEnding_47 rfl ?_
              refine g_iald cx (pc2 := 49) (k0 := 58) rfl (lt_lit hn (Nat.le_of_ble_eq_true rfl)) (by first | assumption | omega) (by first | assumption | omega) (Nat.le_of_ble_eq_true rfl) dX6_leastEnding_48 rfl ?_
              refine g_rwi (y := iI (M 58 (((s * 9) + c).toNat))) (congrArg iI (by simp [stM])) ?_
              refine g_istore cx (pc2 := 51) (lv2 := [(0, .ref 57), (1, .int (iI s)), (2, .int (iI i)), (3, .int (iI tp)), (4, .int (iI e)), (5, .int (iI 1)), (6, .int (iI c)), (7, .int (iI (M 58 (((s * 9) + c).toNat))))]) rfl (Nat.le_of_ble_eq_true rfl) dX6_leastEnding_49 rfl ?_
              have L71 : ∀ (q : Int), (q = pcol M tp c) → G X 71 [(0, .ref 57), (1, .int (iI s)), (2, .int (iI i)), (3, .int (iI tp)), (4, .int (iI e)), (5, .int (iI 1)), (6, .int (iI c)), (7, .int (iI (M 58 (s * 9 + c).toNat)))] [.int (iI q)] M := by
                intro q hq
                have hqb := pcol_b hJ ht c
                refine g_istore cx (pc2 := 73) (lv2 := [(0, .ref 57), (1, .int (iI s)), (2, .int (iI i)), (3, .int (iI tp)), (4, .int (iI e)), (5, .int (iI 1)), (6, .int (iI c)), (7, .int (iI (M 58 (s * 9 + c).toNat))), (8, .int (iI q))]) rfl (Nat.le_of_ble_eq_true rfl) dX6_leastEnding_71 rfl ?_
                have L99 : ∀ (e2 : Int), (e2 = lsF M s i tp (c + 1).toNat) → G X 99 [(0, .ref 57), (1, .int (iI s)), (2, .int (iI i)), (3, .int (iI tp)), (4, .int (iI e2)), (5, .int (iI 1)), (6, .int (iI c))] [] M := by
                  intro e2 he2
                  refine g_iinc cx (pc2 := 102) 6 rfl (lv2 := [(0, .ref 57), (1, .int (iI s)), (2, .int (iI i)), (3, .int (iI tp)), (4, .int (iI e2)), (5, .int (iI 1)), (6, .int (iI (c + 1)))]) rfl (Nat.le_of_ble_eq_true rfl) dX6_leastEnding_99 rfl ?_
                  refine g_goto cx (tgt := 25) dX6_leastEnding_102 (by decide) ?_
                  exact ih25 ((9 - (c + 1)).toNat) (by omega) (c + 1) e2 (by first | assumption | omega) (by exact he2) (Nat.le_refl _)
                refine g_iload cx (pc2 := 75) 7 rfl dX6_leastEnding_73 rfl ?_
                refine g_bipush cx (pc2 := 77) ⟨by decide, by decide⟩ dX6_leastEnding_75 rfl ?_
                refine g_icmp_eq cx (pc2 := 80) (tgt := 99) ⟨(by first | assumption | omega), ⟨by decide, by decide⟩⟩ dX6_leastEnding_77 (by decide) rfl (fun h_5 => ?_) (fun h_5 => ?_)
                · skip
                  refine g_sub (lv2 := [(0, .ref 57), (1, .int (iI s)), (2, .int (iI i)), (3, .int (iI tp)), (4, .int (iI e)), (5, .int (iI 1)), (6, .int (iI c))]) [0, 1, 2, 3, 4, 5, 6] rfl ?_
                  exact L99 e (by rw [lsF_s hc.1]; first | (rw [if_pos (by omega)]; exact he) | (rw [if_neg (by omega), he, hq]; done))
                · skip
                  refine g_iload cx (pc2 := 82) 4 rfl dX6_leastEnding_80 rfl ?_
                  refine g_aload_n cx (pc2 := 83) 0 rfl dX6_leastEnding_82 rfl ?_
                  refine g_get cx (pc2 := 86) (ci := 6) (k0 := 57) (j := 0) (v := .ref 48) rfl iwX6 rfl (lt_lit hn (Nat.le_of_ble_eq_true rfl)) rfl (Nat.le_of_ble_eq_true rfl) kf_X6_21 rfl rfl dX6_leastEnding_83 rfl ?_
                  refine g_iload_n cx (pc2 := 87) 2 rfl dX6_leastEnding_86 rfl ?_
                  refine g_iload cx (pc2 := 89) 8 rfl dX6_leastEnding_87 rfl ?_
                  refine g_iload cx (pc2 := 91) 7 rfl dX6_leastEnding_89 rfl ?_
                  refine g_callV cx (pc2 := 94) (st := [.int (iI e)]) (As := [.int (iI i), .int (iI q), .int (iI (M 58 (s * 9 + c).toNat))]) (k0 := 48) (ci := 1) (c_X1_ending (M := M) hn (by first | assumption | omega) i q (M 58 (s * 9 + c).toNat) (by first | assumption | omega) (by first | assumption | omega) (by first | assumption | omega)) wM_X1_ending wV_X1_ending kl_X6_50 rfl (lt_lit hn (Nat.le_of_ble_eq_true rfl)) rfl ⟨rfl, rfl, Nat.le_of_ble_eq_true rfl, Nat.le_of_ble_eq_true rfl⟩ (Nat.le_of_ble_eq_true rfl) cs rfl rfl dX6_leastEnding_91 rfl ?_
                  rintro _ _ ⟨rfl, rfl⟩
                  refine g_callS cx (pc2 := 97) (st := []) (As := [.int (iI e), .int (iI (endJ M i q (M 58 (s * 9 + c).toNat)))]) (c_X6_lesserEnd (M := M) hn e (endJ M i q (M 58 (s * 9 + c).toNat)) (by first | assumption | omega) (by have := endJ_b hJ (i := i) (p := q) (f := M 58 (s * 9 + c).toNat) (by omega) (by omega); omega)) wM_X6_lesserEnd wS_X6_lesserEnd kl_X6_41 ⟨rfl, rfl, Nat.le_of_ble_eq_true rfl, Nat.le_of_ble_eq_true rfl⟩ (Nat.le_of_ble_eq_true rfl) cs rfl rfl dX6_leastEnding_94 rfl ?_
                  rintro _ _ ⟨rfl, rfl⟩
                  refine g_istore cx (pc2 := 99) (lv2 := [(0, .ref 57), (1, .int (iI s)), (2, .int (iI i)), (3, .int (iI tp)), (4, .int (iI (lsr e (endJ M i q (M 58 (s * 9 + c).toNat))))), (5, .int (iI 1)), (6, .int (iI c)), (7, .int (iI (M 58 (s * 9 + c).toNat))), (8, .int (iI q))]) rfl (Nat.le_of_ble_eq_true rfl) dX6_leastEnding_97 rfl ?_
                  refine g_sub (lv2 := [(0, .ref 57), (1, .int (iI s)), (2, .int (iI i)), (3, .int (iI tp)), (4, .int (iI (lsr e (endJ M i q (M 58 (s * 9 + c).toNat))))), (5, .int (iI 1)), (6, .int (iI c))]) [0, 1, 2, 3, 4, 5, 6] rfl ?_
                  exact L99 (lsr e (endJ M i q (M 58 (s * 9 + c).toNat))) (by rw [lsF_s hc.1]; first | (rw [if_pos (by omega)]; exact he) | (rw [if_neg (by omega), he, hq]; done))
              refine g_iload cx (pc2 := 53) 6 rfl dX6_leastEnding_51 rfl ?_
              refine g_bipush cx (pc2 := 55) ⟨by decide, by decide⟩ dX6_leastEnding_53 rfl ?_
              refine g_icmp_ne cx (pc2 := 58) (tgt := 62) ⟨(by first | assumption | omega), ⟨by decide, by decide⟩⟩ dX6_leastEnding_55 (by decide) rfl (fun h_6 => ?_) (fun h_6 => ?_)
              · skip
                refine g_aload_n cx (pc2 := 63) 0 rfl dX6_leastEnding_62 rfl ?_
                refine g_get cx (pc2 := 66) (ci := 6) (k0 := 57) (j := 0) (v := .ref 48) rfl iwX6 rfl (lt_lit hn (Nat.le_of_ble_eq_true rfl)) rfl (Nat.le_of_ble_eq_true rfl) kf_X6_21 rfl rfl dX6_leastEnding_63 rfl ?_
                refine g_iload cx (pc2 := 68) 6 rfl dX6_leastEnding_66 rfl ?_
                refine g_callV cx (pc2 := 71) (st := []) (As := [.int (iI c)]) (k0 := 48) (ci := 1) (c_X1_placeOf (M := M) hn (by first | assumption | omega) c (by first | assumption | omega)) wM_X1_placeOf wV_X1_placeOf kl_X6_45 rfl (lt_lit hn (Nat.le_of_ble_eq_true rfl)) rfl ⟨rfl, rfl, Nat.le_of_ble_eq_true rfl, Nat.le_of_ble_eq_true rfl⟩ (Nat.le_of_ble_eq_true rfl) cs rfl rfl dX6_leastEnding_68 rfl ?_
                rintro _ _ ⟨rfl, rfl⟩
                exact L71 (plJ M c) (by unfold pcol; first | (rw [if_pos (by omega)]; done) | (rw [if_neg (by omega)]; done))
              · skip
                refine g_iload_n cx (pc2 := 59) 3 rfl dX6_leastEnding_58 rfl ?_
                refine g_goto cx (tgt := 71) dX6_leastEnding_59 (by decide) ?_
                exact L71 tp (by unfold pcol; first | (rw [if_pos (by omega)]; done) | (rw [if_neg (by omega)]; done))
      exact L25 _ 0 (-9) (by first | assumption | omega) (by rfl) (Nat.le_refl _)
set_option maxHeartbeats 4000000 in
set_option maxRecDepth 100000 in
theorem c_X6_spread {n : Nat} (hn : NN n) {M : Mm} (hJ : JW M) (hP : PW M) (w tp : Int) (hw : 0 ≤ w ∧ w ≤ 255) (ht : 0 ≤ tp ∧ tp ≤ 15) : CT yX6_spread cX6_spread 8 none ({ frames := 3, cells := 0, slots := 0, locals := 73 }) n [.ref 57, .int (iI w), .int (iI tp)] M (rV (spM M w tp)) := by
  refine CT.of (lv0 := [(0, .ref 57), (1, .int (iI w)), (2, .int (iI tp))]) (by decide +kernel) hn (fun _ => rfl) (fun _ => Nat.le_of_ble_eq_true rfl) (fun X cx cs qx => ?_)
  have cx : Cx X cX6_spread RX6 ({ frames := 3, cells := 0, slots := 0, locals := 73 }) 8 n := cx
  refine g_iconst cx (pc2 := 1) dX6_spread_0 rfl ?_
  refine g_istore_n cx (pc2 := 2) (lv2 := [(0, .ref 57), (1, .int (iI w)), (2, .int (iI tp)), (3, .int (iI 0))]) rfl (Nat.le_of_ble_eq_true rfl) dX6_spread_1 rfl ?_
  have L2 : ∀ (fu : Nat) (s : Int) (T : Mm), (0 ≤ s ∧ s ≤ 256) → (T = spT M w tp s.toNat) → (256 - s).toNat ≤ fu → G X 2 [(0, .ref 57), (1, .int (iI w)), (2, .int (iI tp)), (3, .int (iI s))] [] T := by
    intro fu
    induction fu using Nat.strongRecOn with
    | _ fu ih2 =>
      intro s T hs hT hk2
      have hTW := spT_W hJ hP (w := w) ht s.toNat
      rw [← hT] at hTW
      have hnd := ndN_le s.toNat w.toNat
      refine g_iload_n cx (pc2 := 3) 3 rfl dX6_spread_2 rfl ?_
      refine g_sipush cx (pc2 := 6) ⟨by decide, by decide⟩ dX6_spread_3 rfl ?_
      refine g_icmp_ge cx (pc2 := 9) (tgt := 138) ⟨(by first | assumption | omega), ⟨by decide, by decide⟩⟩ dX6_spread_6 (by decide) rfl (fun h_1 => ?_) (fun h_1 => ?_)
      · skip
        exact g_vret cx qx dX6_spread_138 ⟨rfl, by rw [hT, show s = 256 by omega]; exact (spM_eq M w tp).symm⟩
      · skip
        refine g_iload_n cx (pc2 := 10) 3 rfl dX6_spread_9 rfl ?_
        refine g_iload_n cx (pc2 := 11) 1 rfl dX6_spread_10 rfl ?_
        refine g_iconst cx (pc2 := 12) dX6_spread_11 rfl ?_
        refine g_ixor cx (pc2 := 13) dX6_spread_12 rfl ?_
        refine g_iand cx (pc2 := 14) dX6_spread_13 rfl ?_
        refine g_rwi (y := iI ((ndN s.toNat w.toNat : Nat) : Int)) (nd_iI (by omega) (by omega)) ?_
        refine g_if_ne cx (pc2 := 17) (tgt := 21) (by first | assumption | omega) dX6_spread_14 (by decide) rfl (fun h_2 => ?_) (fun h_2 => ?_)
        · skip
          refine g_iconst cx (pc2 := 22) dX6_spread_21 rfl ?_
          refine g_istore cx (pc2 := 24) (lv2 := [(0, .ref 57), (1, .int (iI w)), (2, .int (iI tp)), (3, .int (iI s)), (4, .int (iI 0))]) rfl (Nat.le_of_ble_eq_true rfl) dX6_spread_22 rfl ?_
          refine g_iload cx (pc2 := 26) 4 rfl dX6_spread_24 rfl ?_
          refine g_if_eq cx (pc2 := 29) (tgt := 44) ⟨by decide, by decide⟩ dX6_spread_26 (by decide) rfl (fun h_3 => ?_) (fun h_3 => ?_)
          · skip
            refine g_bipush cx (pc2 := 46) ⟨by decide, by decide⟩ dX6_spread_44 rfl ?_
            refine g_istore cx (pc2 := 48) (lv2 := [(0, .ref 57), (1, .int (iI w)), (2, .int (iI tp)), (3, .int (iI s)), (4, .int (iI 0)), (5, .int (iI (-9)))]) rfl (Nat.le_of_ble_eq_true rfl) dX6_spread_46 rfl ?_
            refine g_iconst cx (pc2 := 49) dX6_spread_48 rfl ?_
            refine g_istore cx (pc2 := 51) (lv2 := [(0, .ref 57), (1, .int (iI w)), (2, .int (iI tp)), (3, .int (iI s)), (4, .int (iI 0)), (5, .int (iI (-9))), (6, .int (iI 0))]) rfl (Nat.le_of_ble_eq_true rfl) dX6_spread_49 rfl ?_
            refine g_iload cx (pc2 := 53) 6 rfl dX6_spread_51 rfl ?_
            refine g_bipush cx (pc2 := 55) ⟨by decide, by decide⟩ dX6_spread_53 rfl ?_
            refine g_icmp_ge cx (pc2 := 58) (tgt := 124) ⟨⟨by decide, by decide⟩, ⟨by decide, by decide⟩⟩ dX6_spread_55 (by decide) rfl (fun h_4 => ?_) (fun h_4 => ?_)
            · skip
              omega
            · skip
              refine g_iload cx (pc2 := 60) 4 rfl dX6_spread_58 rfl ?_
              refine g_if_eq cx (pc2 := 63) (tgt := 124) ⟨by decide, by decide⟩ dX6_spread_60 (by decide) rfl (fun h_5 => ?_) (fun h_5 => ?_)
              · skip
                refine g_aload_n cx (pc2 := 125) 0 rfl dX6_spread_124 rfl ?_
                refine g_get cx (pc2 := 128) (ci := 6) (k0 := 57) (j := 2) (v := .ref 59) rfl iwX6 rfl (lt_lit hn (Nat.le_of_ble_eq_true rfl)) rfl (Nat.le_of_ble_eq_true rfl) kf_X6_15 rfl rfl dX6_spread_125 rfl ?_
                refine g_iload_n cx (pc2 := 129) 3 rfl dX6_spread_128 rfl ?_
                refine g_iload cx (pc2 := 131) 5 rfl dX6_spread_129 rfl ?_
                refine g_iast cx (pc2 := 132) (k0 := 59) rfl (lt_lit hn (Nat.le_of_ble_eq_true rfl)) (by first | assumption | omega) (by first | assumption | omega) (Nat.le_of_ble_eq_true rfl) dX6_spread_131 rfl ?_
                refine g_iinc cx (pc2 := 135) 3 rfl (lv2 := [(0, .ref 57), (1, .int (iI w)), (2, .int (iI tp)), (3, .int (iI (s + 1))), (4, .int (iI 0)), (5, .int (iI (-9))), (6, .int (iI 0))]) rfl (Nat.le_of_ble_eq_true rfl) dX6_spread_132 rfl ?_
                refine g_goto cx (tgt := 2) dX6_spread_135 (by decide) ?_
                refine g_sub (lv2 := [(0, .ref 57), (1, .int (iI w)), (2, .int (iI tp)), (3, .int (iI (s + 1)))]) [0, 1, 2, 3] rfl ?_
                exact ih2 ((256 - (s + 1)).toNat) (by omega) (s + 1) (stM T 59 (s).toNat (-9)) (by first | assumption | omega) (by rw [← spT_s hs.1, ← hT]; unfold spS; first | (rw [if_neg (by omega)]; done) | (rw [if_pos (by omega), show (8 : Nat) = i.toNat by omega, he]; done)) (Nat.le_refl _)
              · skip
                omega
          · skip
            omega
        · skip
          refine g_iconst cx (pc2 := 18) dX6_spread_17 rfl ?_
          refine g_goto cx (tgt := 22) dX6_spread_18 (by decide) ?_
          refine g_istore cx (pc2 := 24) (lv2 := [(0, .ref 57), (1, .int (iI w)), (2, .int (iI tp)), (3, .int (iI s)), (4, .int (iI 1))]) rfl (Nat.le_of_ble_eq_true rfl) dX6_spread_22 rfl ?_
          refine g_iload cx (pc2 := 26) 4 rfl dX6_spread_24 rfl ?_
          refine g_if_eq cx (pc2 := 29) (tgt := 44) ⟨by decide, by decide⟩ dX6_spread_26 (by decide) rfl (fun h_6 => ?_) (fun h_6 => ?_)
          · skip
            omega
          · skip
            refine g_aload_n cx (pc2 := 30) 0 rfl dX6_spread_29 rfl ?_
            refine g_get cx (pc2 := 33) (ci := 6) (k0 := 57) (j := 1) (v := .ref 58) rfl iwX6 rfl (lt_lit hn (Nat.le_of_ble_eq_true rfl)) rfl (Nat.le_of_ble_eq_true rfl) kf_X6_11 rfl rfl dX6_spread_30 rfl ?_
            refine g_iload_n cx (pc2 := 34) 3 rfl dX6_spread_33 rfl ?_
            refine g_bipush cx (pc2 := 36) ⟨by decide, by decide⟩ dX6_spread_34 rfl ?_
            refine g_imul cx (pc2 := 37) dX6_spread_36 rfl ?_
            refine g_bipush cx (pc2 := 39) ⟨by decide, by decide⟩ dX6_spread_37 rfl ?_
            refine g_iadd cx (pc2 := 40) dX6_spread_39 rfl ?_
            refine g_iald cx (pc2 := 41) (k0 := 58) rfl (lt_lit hn (Nat.le_of_ble_eq_true rfl)) (by first | assumption | omega) (by first | assumption | omega) (Nat.le_of_ble_eq_true rfl) dX6_spread_40 rfl ?_
            refine g_rwi (y := iI (T 58 (((s * 9) + 8).toNat))) (congrArg iI (by simp [stM])) ?_
            refine g_goto cx (tgt := 46) dX6_spread_41 (by decide) ?_
            refine g_istore cx (pc2 := 48) (lv2 := [(0, .ref 57), (1, .int (iI w)), (2, .int (iI tp)), (3, .int (iI s)), (4, .int (iI 1)), (5, .int (iI (T 58 (((s * 9) + 8).toNat))))]) rfl (Nat.le_of_ble_eq_true rfl) dX6_spread_46 rfl ?_
            refine g_iconst cx (pc2 := 49) dX6_spread_48 rfl ?_
            refine g_istore cx (pc2 := 51) (lv2 := [(0, .ref 57), (1, .int (iI w)), (2, .int (iI tp)), (3, .int (iI s)), (4, .int (iI 1)), (5, .int (iI (T 58 (((s * 9) + 8).toNat)))), (6, .int (iI 0))]) rfl (Nat.le_of_ble_eq_true rfl) dX6_spread_49 rfl ?_
            have L51 : ∀ (fu : Nat) (i : Int) (e : Int), (0 ≤ i ∧ i ≤ 8) → (e = spA T s tp i.toNat) → (8 - i).toNat ≤ fu → G X 51 [(0, .ref 57), (1, .int (iI w)), (2, .int (iI tp)), (3, .int (iI s)), (4, .int (iI 1)), (5, .int (iI e)), (6, .int (iI i))] [] (spI T s tp i.toNat) := by
              intro fu
              induction fu using Nat.strongRecOn with
              | _ fu ih51 =>
                intro i e hi he hk51
                have hIW := spI_W hTW.1 hTW.2 (s := s) ht i.toNat
                have hAb := spA_b hTW.1 hTW.2 (s := s) ht i.toNat
                have hCb := cvS_b hIW.1 hIW.2 (s := s) (i := i) ht
                have hnb := ndN_le s.toNat (bitN i)
                refine g_iload cx (pc2 := 53) 6 rfl dX6_spread_51 rfl ?_
                refine g_bipush cx (pc2 := 55) ⟨by decide, by decide⟩ dX6_spread_53 rfl ?_
                refine g_icmp_ge cx (pc2 := 58) (tgt := 124) ⟨(by first | assumption | omega), ⟨by decide, by decide⟩⟩ dX6_spread_55 (by decide) rfl (fun h_7 => ?_) (fun h_7 => ?_)
                · skip
                  refine g_aload_n cx (pc2 := 125) 0 rfl dX6_spread_124 rfl ?_
                  refine g_get cx (pc2 := 128) (ci := 6) (k0 := 57) (j := 2) (v := .ref 59) rfl iwX6 rfl (lt_lit hn (Nat.le_of_ble_eq_true rfl)) rfl (Nat.le_of_ble_eq_true rfl) kf_X6_15 rfl rfl dX6_spread_125 rfl ?_
                  refine g_iload_n cx (pc2 := 129) 3 rfl dX6_spread_128 rfl ?_
                  refine g_iload cx (pc2 := 131) 5 rfl dX6_spread_129 rfl ?_
                  refine g_iast cx (pc2 := 132) (k0 := 59) rfl (lt_lit hn (Nat.le_of_ble_eq_true rfl)) (by first | assumption | omega) (by first | assumption | omega) (Nat.le_of_ble_eq_true rfl) dX6_spread_131 rfl ?_
                  refine g_iinc cx (pc2 := 135) 3 rfl (lv2 := [(0, .ref 57), (1, .int (iI w)), (2, .int (iI tp)), (3, .int (iI (s + 1))), (4, .int (iI 1)), (5, .int (iI e)), (6, .int (iI i))]) rfl (Nat.le_of_ble_eq_true rfl) dX6_spread_132 rfl ?_
                  refine g_goto cx (tgt := 2) dX6_spread_135 (by decide) ?_
                  refine g_sub (lv2 := [(0, .ref 57), (1, .int (iI w)), (2, .int (iI tp)), (3, .int (iI (s + 1)))]) [0, 1, 2, 3] rfl ?_
                  exact ih2 ((256 - (s + 1)).toNat) (by omega) (s + 1) (stM (spI T s tp i.toNat) 59 (s).toNat e) (by first | assumption | omega) (by rw [← spT_s hs.1, ← hT]; unfold spS; first | (rw [if_neg (by omega)]; done) | (rw [if_pos (by omega), show (8 : Nat) = i.toNat by omega, he]; done)) (Nat.le_refl _)
                · skip
                  refine g_iload cx (pc2 := 60) 4 rfl dX6_spread_58 rfl ?_
                  refine g_if_eq cx (pc2 := 63) (tgt := 124) ⟨by decide, by decide⟩ dX6_spread_60 (by decide) rfl (fun h_8 => ?_) (fun h_8 => ?_)
                  · skip
                    omega
                  · skip
                    have L93 : ∀ (v : Int), (v = cvS (spI T s tp i.toNat) s tp i) → G X 93 [(0, .ref 57), (1, .int (iI w)), (2, .int (iI tp)), (3, .int (iI s)), (4, .int (iI 1)), (5, .int (iI e)), (6, .int (iI i))] [.int (iI v)] (spI T s tp i.toNat) := by
                      intro v hv
                      refine g_istore cx (pc2 := 95) (lv2 := [(0, .ref 57), (1, .int (iI w)), (2, .int (iI tp)), (3, .int (iI s)), (4, .int (iI 1)), (5, .int (iI e)), (6, .int (iI i)), (7, .int (iI v))]) rfl (Nat.le_of_ble_eq_true rfl) dX6_spread_93 rfl ?_
                      refine g_aload_n cx (pc2 := 96) 0 rfl dX6_spread_95 rfl ?_
                      refine g_get cx (pc2 := 99) (ci := 6) (k0 := 57) (j := 1) (v := .ref 58) rfl iwX6 rfl (lt_lit hn (Nat.le_of_ble_eq_true rfl)) rfl (Nat.le_of_ble_eq_true rfl) kf_X6_11 rfl rfl dX6_spread_96 rfl ?_
                      refine g_iload_n cx (pc2 := 100) 3 rfl dX6_spread_99 rfl ?_
                      refine g_bipush cx (pc2 := 102) ⟨by decide, by decide⟩ dX6_spread_100 rfl ?_
                      refine g_imul cx (pc2 := 103) dX6_spread_102 rfl ?_
                      refine g_iload cx (pc2 := 105) 6 rfl dX6_spread_103 rfl ?_
                      refine g_iadd cx (pc2 := 106) dX6_spread_105 rfl ?_
                      refine g_iload cx (pc2 := 108) 7 rfl dX6_spread_106 rfl ?_
                      refine g_iast cx (pc2 := 109) (k0 := 58) rfl (lt_lit hn (Nat.le_of_ble_eq_true rfl)) (by first | assumption | omega) (by first | assumption | omega) (Nat.le_of_ble_eq_true rfl) dX6_spread_108 rfl ?_
                      refine g_iload cx (pc2 := 111) 5 rfl dX6_spread_109 rfl ?_
                      refine g_iload cx (pc2 := 113) 7 rfl dX6_spread_111 rfl ?_
                      refine g_callS cx (pc2 := 116) (st := []) (As := [.int (iI e), .int (iI v)]) (c_X6_lesserEnd (M := (stM (spI T s tp i.toNat) 58 (((s * 9) + i)).toNat v)) hn e v (by first | assumption | omega) (by first | assumption | omega)) wM_X6_lesserEnd wS_X6_lesserEnd kl_X6_41 ⟨rfl, rfl, Nat.le_of_ble_eq_true rfl, Nat.le_of_ble_eq_true rfl⟩ (Nat.le_of_ble_eq_true rfl) cs rfl rfl dX6_spread_113 rfl ?_
                      rintro _ _ ⟨rfl, rfl⟩
                      refine g_istore cx (pc2 := 118) (lv2 := [(0, .ref 57), (1, .int (iI w)), (2, .int (iI tp)), (3, .int (iI s)), (4, .int (iI 1)), (5, .int (iI (lsr e v))), (6, .int (iI i)), (7, .int (iI v))]) rfl (Nat.le_of_ble_eq_true rfl) dX6_spread_116 rfl ?_
                      refine g_iinc cx (pc2 := 121) 6 rfl (lv2 := [(0, .ref 57), (1, .int (iI w)), (2, .int (iI tp)), (3, .int (iI s)), (4, .int (iI 1)), (5, .int (iI (lsr e v))), (6, .int (iI (i + 1))), (7, .int (iI v))]) rfl (Nat.le_of_ble_eq_true rfl) dX6_spread_118 rfl ?_
                      refine g_goto cx (tgt := 51) dX6_spread_121 (by decide) ?_
                      refine g_M (M2 := (spI T s tp (i + 1).toNat)) (by rw [hv]; exact spI_s hi.1) ?_
                      refine g_sub (lv2 := [(0, .ref 57), (1, .int (iI w)), (2, .int (iI tp)), (3, .int (iI s)), (4, .int (iI 1)), (5, .int (iI (lsr e v))), (6, .int (iI (i + 1)))]) [0, 1, 2, 3, 4, 5, 6] rfl ?_
                      exact ih51 ((8 - (i + 1)).toNat) (by omega) (i + 1) (lsr e v) (by first | assumption | omega) (by rw [he, hv]; exact spA_s hi.1) (Nat.le_refl _)
                    refine g_iload cx (pc2 := 65) 6 rfl dX6_spread_63 rfl ?_
                    refine g_iload_n cx (pc2 := 66) 3 rfl dX6_spread_65 rfl ?_
                    refine g_callSN cx (pc2 := 69) (st := []) (As := [.int (iI i), .int (iI s)]) (c_X11_isIn (M := (spI T s tp i.toNat)) hn i s (by first | assumption | omega) (by first | assumption | omega)) wM_X11_isIn wS_X11_isIn kl_X6_29 ⟨rfl, rfl, Nat.le_of_ble_eq_true rfl, Nat.le_of_ble_eq_true rfl⟩ (Nat.le_of_ble_eq_true rfl) cs rfl rfl dX6_spread_66 rfl ?_
                    rintro _ _ ⟨rfl, rfl⟩
                    refine g_ifb_eq cx (pc2 := 72) (tgt := 91) dX6_spread_69 (by decide) rfl (fun h_9 => ?_) (fun h_9 => ?_)
                    · skip
                      refine g_bipush cx (pc2 := 93) ⟨by decide, by decide⟩ dX6_spread_91 rfl ?_
                      exact L93 (-9) (by unfold cvS; first | (rw [if_neg (by assumption)]; done) | (rw [if_pos (by assumption)]; done))
                    · skip
                      refine g_aload_n cx (pc2 := 73) 0 rfl dX6_spread_72 rfl ?_
                      refine g_iload_n cx (pc2 := 74) 3 rfl dX6_spread_73 rfl ?_
                      refine g_iload cx (pc2 := 76) 6 rfl dX6_spread_74 rfl ?_
                      refine g_callSN cx (pc2 := 79) (st := [.int (iI s), .ref 57]) (As := [.int (iI i)]) (c_X11_bit (M := (spI T s tp i.toNat)) hn i (by first | assumption | omega)) wM_X11_bit wS_X11_bit kl_X6_33 ⟨rfl, rfl, Nat.le_of_ble_eq_true rfl, Nat.le_of_ble_eq_true rfl⟩ (Nat.le_of_ble_eq_true rfl) cs rfl rfl dX6_spread_76 rfl ?_
                      rintro _ _ ⟨rfl, rfl⟩
                      refine g_iconst cx (pc2 := 80) dX6_spread_79 rfl ?_
                      refine g_ixor cx (pc2 := 81) dX6_spread_80 rfl ?_
                      refine g_iand cx (pc2 := 82) dX6_spread_81 rfl ?_
                      refine g_rwi (y := iI ((ndN s.toNat (bitN i) : Nat) : Int)) (nd_iI (by omega) (by omega)) ?_
                      refine g_iload cx (pc2 := 84) 6 rfl dX6_spread_82 rfl ?_
                      refine g_iload_n cx (pc2 := 85) 2 rfl dX6_spread_84 rfl ?_
                      refine g_callV cx (pc2 := 88) (st := []) (As := [.int (iI ((ndN s.toNat (bitN i) : Nat) : Int)), .int (iI i), .int (iI tp)]) (k0 := 57) (ci := 6) (c_X6_leastEnding (M := (spI T s tp i.toNat)) hn (by exact hIW.1) (by exact hIW.2) ((ndN s.toNat (bitN i) : Nat) : Int) i tp (by first | assumption | omega) (by first | assumption | omega) (by first | assumption | omega)) wM_X6_leastEnding wV_X6_leastEnding kl_X6_37 rfl (lt_lit hn (Nat.le_of_ble_eq_true rfl)) rfl ⟨rfl, rfl, Nat.le_of_ble_eq_true rfl, Nat.le_of_ble_eq_true rfl⟩ (Nat.le_of_ble_eq_true rfl) cs rfl rfl dX6_spread_85 rfl ?_
                      rintro _ _ ⟨rfl, rfl⟩
                      refine g_goto cx (tgt := 93) dX6_spread_88 (by decide) ?_
                      exact L93 (lsE (spI T s tp i.toNat) ((ndN s.toNat (bitN i) : Nat) : Int) i tp) (by unfold cvS; first | (rw [if_neg (by assumption)]; done) | (rw [if_pos (by assumption)]; done))
            refine g_M (M2 := (spI T s tp (0 : Int).toNat)) (by rfl) ?_
            exact L51 _ 0 (T 58 (((s * 9) + 8).toNat)) (by first | assumption | omega) (by rfl) (Nat.le_refl _)
  exact L2 _ 0 M (by first | assumption | omega) (by rfl) (Nat.le_refl _)
set_option maxHeartbeats 4000000 in
set_option maxRecDepth 100000 in
theorem c_X6_reach {n : Nat} (hn : NN n) {M : Mm} (hJ : JW M) (hP : PW M) (w p f : Int) (hw : 0 ≤ w ∧ w ≤ 255) (hp : 0 ≤ p ∧ p ≤ 15) (hf : 0 ≤ f ∧ f ≤ 100) : CT yX6_reach cX6_reach 5 none ({ frames := 4, cells := 0, slots := 0, locals := 100 }) n [.ref 57, .int (iI w), .int (iI p), .int (iI f)] M (rV (rcM M w p f)) := by
  refine CT.of (lv0 := [(0, .ref 57), (1, .int (iI w)), (2, .int (iI p)), (3, .int (iI f))]) (by decide +kernel) hn (fun _ => rfl) (fun _ => Nat.le_of_ble_eq_true rfl) (fun X cx cs qx => ?_)
  have cx : Cx X cX6_reach RX6 ({ frames := 4, cells := 0, slots := 0, locals := 100 }) 5 n := cx
  refine g_iconst cx (pc2 := 1) dX6_reach_0 rfl ?_
  refine g_istore cx (pc2 := 3) (lv2 := [(0, .ref 57), (1, .int (iI w)), (2, .int (iI p)), (3, .int (iI f)), (4, .int (iI 0))]) rfl (Nat.le_of_ble_eq_true rfl) dX6_reach_1 rfl ?_
  have L3 : ∀ (fu : Nat) (s : Int), (0 ≤ s ∧ s ≤ 256) → (256 - s).toNat ≤ fu → G X 3 [(0, .ref 57), (1, .int (iI w)), (2, .int (iI p)), (3, .int (iI f)), (4, .int (iI s))] [] (rcP M f s) := by
    intro fu
    induction fu using Nat.strongRecOn with
    | _ fu ih3 =>
      intro s hs hk3
      have hRW := rcP_W hJ hP (f := f) (s := s) (by omega)
      refine g_iload cx (pc2 := 5) 4 rfl dX6_reach_3 rfl ?_
      refine g_sipush cx (pc2 := 8) ⟨by decide, by decide⟩ dX6_reach_5 rfl ?_
      refine g_icmp_ge cx (pc2 := 11) (tgt := 41) ⟨(by first | assumption | omega), ⟨by decide, by decide⟩⟩ dX6_reach_8 (by decide) rfl (fun h_1 => ?_) (fun h_1 => ?_)
      · skip
        refine g_aload_n cx (pc2 := 42) 0 rfl dX6_reach_41 rfl ?_
        refine g_iload_n cx (pc2 := 43) 1 rfl dX6_reach_42 rfl ?_
        refine g_iload_n cx (pc2 := 44) 2 rfl dX6_reach_43 rfl ?_
        refine g_callV cx (pc2 := 47) (st := []) (As := [.int (iI w), .int (iI p)]) (k0 := 57) (ci := 6) (c_X6_spread (M := (rcP M f s)) hn (by exact hRW.1) (by exact hRW.2) w p (by first | assumption | omega) (by first | assumption | omega)) wM_X6_spread wV_X6_spread kl_X6_25 rfl (lt_lit hn (Nat.le_of_ble_eq_true rfl)) rfl ⟨rfl, rfl, Nat.le_of_ble_eq_true rfl, Nat.le_of_ble_eq_true rfl⟩ (Nat.le_of_ble_eq_true rfl) cs rfl rfl dX6_reach_44 rfl ?_
        rintro _ _ ⟨rfl, rfl⟩
        exact g_vret cx qx dX6_reach_47 ⟨rfl, by rw [show s = 256 by omega]; rfl⟩
      · skip
        refine g_aload_n cx (pc2 := 12) 0 rfl dX6_reach_11 rfl ?_
        refine g_get cx (pc2 := 15) (ci := 6) (k0 := 57) (j := 1) (v := .ref 58) rfl iwX6 rfl (lt_lit hn (Nat.le_of_ble_eq_true rfl)) rfl (Nat.le_of_ble_eq_true rfl) kf_X6_11 rfl rfl dX6_reach_12 rfl ?_
        refine g_iload cx (pc2 := 17) 4 rfl dX6_reach_15 rfl ?_
        refine g_bipush cx (pc2 := 19) ⟨by decide, by decide⟩ dX6_reach_17 rfl ?_
        refine g_imul cx (pc2 := 20) dX6_reach_19 rfl ?_
        refine g_bipush cx (pc2 := 22) ⟨by decide, by decide⟩ dX6_reach_20 rfl ?_
        refine g_iadd cx (pc2 := 23) dX6_reach_22 rfl ?_
        refine g_iload cx (pc2 := 25) 4 rfl dX6_reach_23 rfl ?_
        refine g_if_ne cx (pc2 := 28) (tgt := 32) (by first | assumption | omega) dX6_reach_25 (by decide) rfl (fun h_2 => ?_) (fun h_2 => ?_)
        · skip
          refine g_bipush cx (pc2 := 34) ⟨by decide, by decide⟩ dX6_reach_32 rfl ?_
          refine g_iast cx (pc2 := 35) (k0 := 58) rfl (lt_lit hn (Nat.le_of_ble_eq_true rfl)) (by first | assumption | omega) (by first | assumption | omega) (Nat.le_of_ble_eq_true rfl) dX6_reach_34 rfl ?_
          refine g_iinc cx (pc2 := 38) 4 rfl (lv2 := [(0, .ref 57), (1, .int (iI w)), (2, .int (iI p)), (3, .int (iI f)), (4, .int (iI (s + 1)))]) rfl (Nat.le_of_ble_eq_true rfl) dX6_reach_35 rfl ?_
          refine g_goto cx (tgt := 3) dX6_reach_38 (by decide) ?_
          refine g_M (M2 := (rcP M f (s + 1))) (by rw [← rcP_s hs.1]; first | (rw [if_pos (by omega)]; done) | (rw [if_neg (by omega)]; done)) ?_
          exact ih3 ((256 - (s + 1)).toNat) (by omega) (s + 1) (by first | assumption | omega) (Nat.le_refl _)
        · skip
          refine g_iload_n cx (pc2 := 29) 3 rfl dX6_reach_28 rfl ?_
          refine g_goto cx (tgt := 34) dX6_reach_29 (by decide) ?_
          refine g_iast cx (pc2 := 35) (k0 := 58) rfl (lt_lit hn (Nat.le_of_ble_eq_true rfl)) (by first | assumption | omega) (by first | assumption | omega) (Nat.le_of_ble_eq_true rfl) dX6_reach_34 rfl ?_
          refine g_iinc cx (pc2 := 38) 4 rfl (lv2 := [(0, .ref 57), (1, .int (iI w)), (2, .int (iI p)), (3, .int (iI f)), (4, .int (iI (s + 1)))]) rfl (Nat.le_of_ble_eq_true rfl) dX6_reach_35 rfl ?_
          refine g_goto cx (tgt := 3) dX6_reach_38 (by decide) ?_
          refine g_M (M2 := (rcP M f (s + 1))) (by rw [← rcP_s hs.1]; first | (rw [if_pos (by omega)]; done) | (rw [if_neg (by omega)]; done)) ?_
          exact ih3 ((256 - (s + 1)).toNat) (by omega) (s + 1) (by first | assumption | omega) (Nat.le_refl _)
  refine g_M (M2 := (rcP M f 0)) (by exact rcP_0 M f) ?_
  exact L3 _ 0 (by first | assumption | omega) (Nat.le_refl _)
set_option maxHeartbeats 4000000 in
set_option maxRecDepth 100000 in
theorem c_X6_bestPlan {n : Nat} (hn : NN n) {M : Mm} (hJ : JW M) (hP : PW M) (al du : Int) (ha : 0 ≤ al ∧ al ≤ 255) (hd : 0 ≤ du ∧ du ≤ 255) : CT yX6_bestPlan cX6_bestPlan 7 (some .int) ({ frames := 3, cells := 0, slots := 0, locals := 64 }) n [.ref 57, .int (iI al), .int (iI du)] M (rI (bpM M al du) M) := by
  refine CT.of (lv0 := [(0, .ref 57), (1, .int (iI al)), (2, .int (iI du))]) (by decide +kernel) hn (fun _ => rfl) (fun _ => Nat.le_of_ble_eq_true rfl) (fun X cx cs qx => ?_)
  have cx : Cx X cX6_bestPlan RX6 ({ frames := 3, cells := 0, slots := 0, locals := 64 }) 7 n := cx
  refine g_bipush cx (pc2 := 2) ⟨by decide, by decide⟩ dX6_bestPlan_0 rfl ?_
  refine g_istore_n cx (pc2 := 3) (lv2 := [(0, .ref 57), (1, .int (iI al)), (2, .int (iI du)), (3, .int (iI (-9)))]) rfl (Nat.le_of_ble_eq_true rfl) dX6_bestPlan_2 rfl ?_
  refine g_bipush cx (pc2 := 5) ⟨by decide, by decide⟩ dX6_bestPlan_3 rfl ?_
  refine g_istore cx (pc2 := 7) (lv2 := [(0, .ref 57), (1, .int (iI al)), (2, .int (iI du)), (3, .int (iI (-9))), (4, .int (iI (-9)))]) rfl (Nat.le_of_ble_eq_true rfl) dX6_bestPlan_5 rfl ?_
  refine g_iconst cx (pc2 := 8) dX6_bestPlan_7 rfl ?_
  refine g_istore cx (pc2 := 10) (lv2 := [(0, .ref 57), (1, .int (iI al)), (2, .int (iI du)), (3, .int (iI (-9))), (4, .int (iI (-9))), (5, .int (iI 0))]) rfl (Nat.le_of_ble_eq_true rfl) dX6_bestPlan_8 rfl ?_
  have L10 : ∀ (fu : Nat) (s : Int) (p : Int) (q : Int), (0 ≤ s ∧ s ≤ 256) → (p = (bpF M al.toNat du.toNat s.toNat).1 ∧ q = (bpF M al.toNat du.toNat s.toNat).2) → (256 - s).toNat ≤ fu → G X 10 [(0, .ref 57), (1, .int (iI al)), (2, .int (iI du)), (3, .int (iI p)), (4, .int (iI q)), (5, .int (iI s))] [] M := by
    intro fu
    induction fu using Nat.strongRecOn with
    | _ fu ih10 =>
      intro s p q hs hpq hk10
      have hb1 := bpF_b hJ al.toNat du.toNat s.toNat (by omega)
      have hn1 := ndN_le s.toNat al.toNat
      have hn2 := ndN_le du.toNat s.toNat
      have hw1 := wsM_b hJ s
      have hE := (hP s.toNat).2.1
      refine g_iload cx (pc2 := 12) 5 rfl dX6_bestPlan_10 rfl ?_
      refine g_sipush cx (pc2 := 15) ⟨by decide, by decide⟩ dX6_bestPlan_12 rfl ?_
      refine g_icmp_ge cx (pc2 := 18) (tgt := 94) ⟨(by first | assumption | omega), ⟨by decide, by decide⟩⟩ dX6_bestPlan_15 (by decide) rfl (fun h_1 => ?_) (fun h_1 => ?_)
      · skip
        refine g_iload_n cx (pc2 := 95) 3 rfl dX6_bestPlan_94 rfl ?_
        exact g_iret cx qx dX6_bestPlan_95 ⟨congrArg (fun q => some (Value.int (iI q))) (by rw [hpq.1]; unfold bpM; rw [show s = 256 by omega]; rfl), by rfl⟩
      · skip
        have L53 : ∀ (ok : Int), ((ok = 1 ∧ (ndN s.toNat al.toNat = 0 ∧ ndN du.toNat s.toNat = 0 ∧ ¬ M 59 s.toNat = -9)) ∨ (ok = 0 ∧ ¬ (ndN s.toNat al.toNat = 0 ∧ ndN du.toNat s.toNat = 0 ∧ ¬ M 59 s.toNat = -9))) → G X 53 [(0, .ref 57), (1, .int (iI al)), (2, .int (iI du)), (3, .int (iI p)), (4, .int (iI q)), (5, .int (iI s))] [.int (iI ok)] M := by
          intro ok hok
          refine g_istore cx (pc2 := 55) (lv2 := [(0, .ref 57), (1, .int (iI al)), (2, .int (iI du)), (3, .int (iI p)), (4, .int (iI q)), (5, .int (iI s)), (6, .int (iI ok))]) rfl (Nat.le_of_ble_eq_true rfl) dX6_bestPlan_53 rfl ?_
          have L88 : ∀ (p2 : Int) (q2 : Int), (p2 = (bpF M al.toNat du.toNat (s + 1).toNat).1 ∧ q2 = (bpF M al.toNat du.toNat (s + 1).toNat).2) → G X 88 [(0, .ref 57), (1, .int (iI al)), (2, .int (iI du)), (3, .int (iI p2)), (4, .int (iI q2)), (5, .int (iI s))] [] M := by
            intro p2 q2 hpq2
            refine g_iinc cx (pc2 := 91) 5 rfl (lv2 := [(0, .ref 57), (1, .int (iI al)), (2, .int (iI du)), (3, .int (iI p2)), (4, .int (iI q2)), (5, .int (iI (s + 1)))]) rfl (Nat.le_of_ble_eq_true rfl) dX6_bestPlan_88 rfl ?_
            refine g_goto cx (tgt := 10) dX6_bestPlan_91 (by decide) ?_
            exact ih10 ((256 - (s + 1)).toNat) (by omega) (s + 1) p2 q2 (by first | assumption | omega) (by exact hpq2) (Nat.le_refl _)
          refine g_iload cx (pc2 := 57) 6 rfl dX6_bestPlan_55 rfl ?_
          refine g_if_eq cx (pc2 := 60) (tgt := 88) (by first | assumption | omega) dX6_bestPlan_57 (by decide) rfl (fun h_2 => ?_) (fun h_2 => ?_)
          · skip
            refine g_sub (lv2 := [(0, .ref 57), (1, .int (iI al)), (2, .int (iI du)), (3, .int (iI p)), (4, .int (iI q)), (5, .int (iI s))]) [0, 1, 2, 3, 4, 5] rfl ?_
            exact L88 p q (by rw [show (s + 1).toNat = s.toNat + 1 by omega, bpF, Int.toNat_of_nonneg hs.1]; first | (rw [if_neg (by omega)]; exact hpq) | (rw [if_pos (by omega)]; exact ⟨rfl, rfl⟩))
          · skip
            refine g_aload_n cx (pc2 := 61) 0 rfl dX6_bestPlan_60 rfl ?_
            refine g_get cx (pc2 := 64) (ci := 6) (k0 := 57) (j := 0) (v := .ref 48) rfl iwX6 rfl (lt_lit hn (Nat.le_of_ble_eq_true rfl)) rfl (Nat.le_of_ble_eq_true rfl) kf_X6_21 rfl rfl dX6_bestPlan_61 rfl ?_
            refine g_iload cx (pc2 := 66) 5 rfl dX6_bestPlan_64 rfl ?_
            refine g_callV cx (pc2 := 69) (st := []) (As := [.int (iI s)]) (k0 := 48) (ci := 1) (c_X1_worthOf (M := M) hn (by first | assumption | omega) s (by first | assumption | omega)) wM_X1_worthOf wV_X1_worthOf kl_X6_53 rfl (lt_lit hn (Nat.le_of_ble_eq_true rfl)) rfl ⟨rfl, rfl, Nat.le_of_ble_eq_true rfl, Nat.le_of_ble_eq_true rfl⟩ (Nat.le_of_ble_eq_true rfl) cs rfl rfl dX6_bestPlan_66 rfl ?_
            rintro _ _ ⟨rfl, rfl⟩
            refine g_iload cx (pc2 := 71) 4 rfl dX6_bestPlan_69 rfl ?_
            refine g_icmp_le cx (pc2 := 74) (tgt := 88) ⟨(by first | assumption | omega), (by first | assumption | omega)⟩ dX6_bestPlan_71 (by decide) rfl (fun h_3 => ?_) (fun h_3 => ?_)
            · skip
              refine g_sub (lv2 := [(0, .ref 57), (1, .int (iI al)), (2, .int (iI du)), (3, .int (iI p)), (4, .int (iI q)), (5, .int (iI s))]) [0, 1, 2, 3, 4, 5] rfl ?_
              exact L88 p q (by rw [show (s + 1).toNat = s.toNat + 1 by omega, bpF, Int.toNat_of_nonneg hs.1]; first | (rw [if_neg (by omega)]; exact hpq) | (rw [if_pos (by omega)]; exact ⟨rfl, rfl⟩))
            · skip
              refine g_iload cx (pc2 := 76) 5 rfl dX6_bestPlan_74 rfl ?_
              refine g_istore_n cx (pc2 := 77) (lv2 := [(0, .ref 57), (1, .int (iI al)), (2, .int (iI du)), (3, .int (iI s)), (4, .int (iI q)), (5, .int (iI s)), (6, .int (iI ok))]) rfl (Nat.le_of_ble_eq_true rfl) dX6_bestPlan_76 rfl ?_
              refine g_aload_n cx (pc2 := 78) 0 rfl dX6_bestPlan_77 rfl ?_
              refine g_get cx (pc2 := 81) (ci := 6) (k0 := 57) (j := 0) (v := .ref 48) rfl iwX6 rfl (lt_lit hn (Nat.le_of_ble_eq_true rfl)) rfl (Nat.le_of_ble_eq_true rfl) kf_X6_21 rfl rfl dX6_bestPlan_78 rfl ?_
              refine g_iload cx (pc2 := 83) 5 rfl dX6_bestPlan_81 rfl ?_
              refine g_callV cx (pc2 := 86) (st := []) (As := [.int (iI s)]) (k0 := 48) (ci := 1) (c_X1_worthOf (M := M) hn (by first | assumption | omega) s (by first | assumption | omega)) wM_X1_worthOf wV_X1_worthOf kl_X6_53 rfl (lt_lit hn (Nat.le_of_ble_eq_true rfl)) rfl ⟨rfl, rfl, Nat.le_of_ble_eq_true rfl, Nat.le_of_ble_eq_true rfl⟩ (Nat.le_of_ble_eq_true rfl) cs rfl rfl dX6_bestPlan_83 rfl ?_
              rintro _ _ ⟨rfl, rfl⟩
              refine g_istore cx (pc2 := 88) (lv2 := [(0, .ref 57), (1, .int (iI al)), (2, .int (iI du)), (3, .int (iI s)), (4, .int (iI (wsM M s))), (5, .int (iI s)), (6, .int (iI ok))]) rfl (Nat.le_of_ble_eq_true rfl) dX6_bestPlan_86 rfl ?_
              refine g_sub (lv2 := [(0, .ref 57), (1, .int (iI al)), (2, .int (iI du)), (3, .int (iI s)), (4, .int (iI (wsM M s))), (5, .int (iI s))]) [0, 1, 2, 3, 4, 5] rfl ?_
              exact L88 s (wsM M s) (by rw [show (s + 1).toNat = s.toNat + 1 by omega, bpF, Int.toNat_of_nonneg hs.1]; first | (rw [if_neg (by omega)]; exact hpq) | (rw [if_pos (by omega)]; exact ⟨rfl, rfl⟩))
        refine g_iload cx (pc2 := 20) 5 rfl dX6_bestPlan_18 rfl ?_
        refine g_iload_n cx (pc2 := 21) 1 rfl dX6_bestPlan_20 rfl ?_
        refine g_iconst cx (pc2 := 22) dX6_bestPlan_21 rfl ?_
        refine g_ixor cx (pc2 := 23) dX6_bestPlan_22 rfl ?_
        refine g_iand cx (pc2 := 24) dX6_bestPlan_23 rfl ?_
        refine g_rwi (y := iI ((ndN s.toNat al.toNat : Nat) : Int)) (nd_iI (by omega) (by omega)) ?_
        refine g_if_ne cx (pc2 := 27) (tgt := 52) (by first | assumption | omega) dX6_bestPlan_24 (by decide) rfl (fun h_4 => ?_) (fun h_4 => ?_)
        · skip
          refine g_iconst cx (pc2 := 53) dX6_bestPlan_52 rfl ?_
          exact L53 0 (by first | assumption | omega)
        · skip
          refine g_iload_n cx (pc2 := 28) 2 rfl dX6_bestPlan_27 rfl ?_
          refine g_iload cx (pc2 := 30) 5 rfl dX6_bestPlan_28 rfl ?_
          refine g_iconst cx (pc2 := 31) dX6_bestPlan_30 rfl ?_
          refine g_ixor cx (pc2 := 32) dX6_bestPlan_31 rfl ?_
          refine g_iand cx (pc2 := 33) dX6_bestPlan_32 rfl ?_
          refine g_rwi (y := iI ((ndN du.toNat s.toNat : Nat) : Int)) (nd_iI (by omega) (by omega)) ?_
          refine g_if_ne cx (pc2 := 36) (tgt := 52) (by first | assumption | omega) dX6_bestPlan_33 (by decide) rfl (fun h_5 => ?_) (fun h_5 => ?_)
          · skip
            refine g_iconst cx (pc2 := 53) dX6_bestPlan_52 rfl ?_
            exact L53 0 (by first | assumption | omega)
          · skip
            refine g_aload_n cx (pc2 := 37) 0 rfl dX6_bestPlan_36 rfl ?_
            refine g_get cx (pc2 := 40) (ci := 6) (k0 := 57) (j := 2) (v := .ref 59) rfl iwX6 rfl (lt_lit hn (Nat.le_of_ble_eq_true rfl)) rfl (Nat.le_of_ble_eq_true rfl) kf_X6_15 rfl rfl dX6_bestPlan_37 rfl ?_
            refine g_iload cx (pc2 := 42) 5 rfl dX6_bestPlan_40 rfl ?_
            refine g_iald cx (pc2 := 43) (k0 := 59) rfl (lt_lit hn (Nat.le_of_ble_eq_true rfl)) (by first | assumption | omega) (by first | assumption | omega) (Nat.le_of_ble_eq_true rfl) dX6_bestPlan_42 rfl ?_
            refine g_rwi (y := iI (M 59 ((s).toNat))) (congrArg iI (by simp [stM])) ?_
            refine g_bipush cx (pc2 := 45) ⟨by decide, by decide⟩ dX6_bestPlan_43 rfl ?_
            refine g_icmp_eq cx (pc2 := 48) (tgt := 52) ⟨(by first | assumption | omega), ⟨by decide, by decide⟩⟩ dX6_bestPlan_45 (by decide) rfl (fun h_6 => ?_) (fun h_6 => ?_)
            · skip
              refine g_iconst cx (pc2 := 53) dX6_bestPlan_52 rfl ?_
              exact L53 0 (by first | assumption | omega)
            · skip
              refine g_iconst cx (pc2 := 49) dX6_bestPlan_48 rfl ?_
              refine g_goto cx (tgt := 53) dX6_bestPlan_49 (by decide) ?_
              exact L53 1 (by first | assumption | omega)
  exact L10 _ 0 (-9) (-9) (by first | assumption | omega) (by exact ⟨rfl, rfl⟩) (Nat.le_refl _)
