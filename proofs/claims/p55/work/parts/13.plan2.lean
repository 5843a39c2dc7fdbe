def mbI (M : Mm) (du s : Nat) (acc : Int) : Nat → Int
  | 0 => acc
  | t + 1 => if (s &&& t = 0 ∧ ndN du (s ||| t) = 0) ∧ ¬ M 60 t = -9 then max (mbI M du s acc t) (wsM M ((s ||| t : Nat) : Int)) else mbI M du s acc t
def mbO (M : Mm) (du all : Nat) : Nat → Int
  | 0 => -9
  | s + 1 => if M 59 s = -9 then mbO M du all s else mbI M du s (mbO M du all s) (all + 1)
theorem mbI_b {M : Mm} (hJ : JW M) (du s : Nat) {acc : Int} (ha : -9 ≤ acc ∧ acc ≤ 144) : ∀ t, -9 ≤ mbI M du s acc t ∧ mbI M du s acc t ≤ 144
  | 0 => ha
  | t + 1 => by
    have h1 := mbI_b hJ du s ha t
    have h2 := wsM_b hJ ((s ||| t : Nat) : Int)
    rw [mbI]
    split <;> omega
theorem mbO_b {M : Mm} (hJ : JW M) (du all : Nat) : ∀ s, -9 ≤ mbO M du all s ∧ mbO M du all s ≤ 144
  | 0 => by simp [mbO]
  | s + 1 => by
    have h1 := mbO_b hJ du all s
    rw [mbO]
    split
    · exact h1
    · exact mbI_b hJ du s h1 (all + 1)
theorem or_255 {a b : Nat} (ha : a ≤ 255) (hb : b ≤ 255) : a ||| b ≤ 255 := by
  have := Nat.or_lt_two_pow (n := 8) (show a < 2 ^ 8 by omega) (show b < 2 ^ 8 by omega)
  omega
def mo1 (M : Mm) (mp tp s c : Int) : Int := if M 58 (s * 9 + c).toNat + wap (pcol M tp c) mp + 1 ≤ 28 then M 58 (s * 9 + c).toNat + wap (pcol M tp c) mp + 1 else -9
def moF (M : Mm) (mp tp s : Int) : Nat → Int
  | 0 => -9
  | c + 1 => if M 58 (s * 9 + (c : Int)).toNat = -9 then moF M mp tp s c else lsr (moF M mp tp s c) (mo1 M mp tp s (c : Int))
theorem moF_s {M : Mm} {mp tp s c : Int} (h : 0 ≤ c) : moF M mp tp s (c + 1).toNat = if M 58 (s * 9 + c).toNat = -9 then moF M mp tp s c.toNat else lsr (moF M mp tp s c.toNat) (mo1 M mp tp s c) := by
  rw [show (c + 1).toNat = c.toNat + 1 by omega, moF, Int.toNat_of_nonneg h]
theorem mo1_b {M : Mm} (hJ : JW M) (hP : PW M) {mp tp s c : Int} (hm : 0 ≤ mp ∧ mp ≤ 15) (ht : 0 ≤ tp ∧ tp ≤ 15) (hne : ¬ M 58 (s * 9 + c).toNat = -9) : vE (mo1 M mp tp s c) := by
  have h1 := (hP (s * 9 + c).toNat).1
  have h2 := wap_b (pcol_b hJ ht c) hm
  unfold mo1
  split <;> omega
theorem moF_b {M : Mm} (hJ : JW M) (hP : PW M) {mp tp s : Int} (hm : 0 ≤ mp ∧ mp ≤ 15) (ht : 0 ≤ tp ∧ tp ≤ 15) : ∀ c, vE (moF M mp tp s c)
  | 0 => Or.inl rfl
  | c + 1 => by
    have h1 := moF_b hJ hP (s := s) hm ht c
    rw [moF]
    split
    · exact h1
    · exact lsr_b h1 (mo1_b hJ hP hm ht (by assumption))
def moE (M : Mm) (mp tp s : Int) : Int := if M 59 s.toNat = -9 then -9 else moF M mp tp s 9
theorem moE_b {M : Mm} (hJ : JW M) (hP : PW M) {mp tp s : Int} (hm : 0 ≤ mp ∧ mp ≤ 15) (ht : 0 ≤ tp ∧ tp ≤ 15) : vE (moE M mp tp s) := by
  unfold moE
  split
  · exact Or.inl rfl
  · exact moF_b hJ hP hm ht 9
def moP (M : Mm) (mp tp s : Int) : Mm := fun a b => if a = 58 ∧ b < 9 * s.toNat ∧ b % 9 = 8 then moE M mp tp ((b / 9 : Nat) : Int) else M a b
theorem moP_0 (M : Mm) (mp tp : Int) : M = moP M mp tp 0 := by
  funext a b
  unfold moP
  rw [if_neg (by omega)]
theorem moP_off (M : Mm) (mp tp s : Int) {a : Nat} (h : a ≠ 58) : moP M mp tp s a = M a := by
  funext b
  unfold moP
  rw [if_neg (fun q => h q.1)]
theorem moP_at {M : Mm} {mp tp s c : Int} (hs : 0 ≤ s) (hc : 0 ≤ c) : moP M mp tp s 58 (s * 9 + c).toNat = M 58 (s * 9 + c).toNat := by
  unfold moP
  rw [if_neg (by omega)]
theorem moP_s {M : Mm} {mp tp s : Int} (h : 0 ≤ s) : stM (moP M mp tp s) 58 (s * 9 + 8).toNat (moE M mp tp s) = moP M mp tp (s + 1) := by
  funext a b
  unfold stM moP
  by_cases ha : a = 58
  · subst ha
    by_cases hb : b = (s * 9 + 8).toNat
    · rw [if_pos (show 58 = 58 ∧ b = (s * 9 + 8).toNat from ⟨rfl, hb⟩), if_pos (show 58 = 58 ∧ b < 9 * (s + 1).toNat ∧ b % 9 = 8 by omega), show ((b / 9 : Nat) : Int) = s by omega]
    · rw [if_neg (show ¬ (58 = 58 ∧ b = (s * 9 + 8).toNat) from fun q => hb q.2)]
      by_cases h3 : b < 9 * s.toNat ∧ b % 9 = 8
      · rw [if_pos (show 58 = 58 ∧ b < 9 * s.toNat ∧ b % 9 = 8 from ⟨rfl, h3⟩), if_pos (show 58 = 58 ∧ b < 9 * (s + 1).toNat ∧ b % 9 = 8 by omega)]
      · rw [if_neg (show ¬ (58 = 58 ∧ b < 9 * s.toNat ∧ b % 9 = 8) from fun q => h3 q.2), if_neg (show ¬ (58 = 58 ∧ b < 9 * (s + 1).toNat ∧ b % 9 = 8) by omega)]
  · simp [ha]
theorem moP_W {M : Mm} (hJ : JW M) (hP : PW M) {mp tp s : Int} (hm : 0 ≤ mp ∧ mp ≤ 15) (ht : 0 ≤ tp ∧ tp ≤ 15) : JW (moP M mp tp s) ∧ PW (moP M mp tp s) := by
  refine ⟨JW_of (fun a h1 h2 => moP_off M mp tp s (by omega)) hJ, fun j => ?_⟩
  have h := hP j
  unfold moP
  refine ⟨?_, ?_, ?_⟩
  · split
    · exact moE_b hJ hP hm ht
    · exact h.1
  · rw [if_neg (by omega)]; exact h.2.1
  · rw [if_neg (by omega)]; exact h.2.2
def moM (M : Mm) (mp tp : Int) : Mm := moP M mp tp 256
/-- the ends with k mendings behind one another -/
def mmS (M : Mm) (w sp mp : Int) : Nat → Mm
  | 0 => rcM M w sp 0
  | k + 1 => spM (moM (mmS M w sp mp k) mp (if k = 0 then sp else mp)) w mp
def mmA (M : Mm) (w sp mp : Int) : Nat → Prop
  | 0 => ¬ mmS M w sp mp 0 59 w.toNat = -9
  | k + 1 => mmA M w sp mp k ∧ ¬ mmS M w sp mp (k + 1) 59 w.toNat = -9
theorem mmS_W {M : Mm} (hJ : JW M) (hP : PW M) {w sp mp : Int} (hs : 0 ≤ sp ∧ sp ≤ 15) (hm : 0 ≤ mp ∧ mp ≤ 15) : ∀ k, JW (mmS M w sp mp k) ∧ PW (mmS M w sp mp k)
  | 0 => rcM_W hJ hP hs (Or.inr (by omega))
  | k + 1 => by
    have h := mmS_W hJ hP (w := w) hs hm k
    have h2 := moP_W h.1 h.2 (mp := mp) (tp := if k = 0 then sp else mp) (s := 256) hm (by split <;> omega)
    exact spM_W h2.1 h2.2 hm
theorem mmS_off (M : Mm) (w sp mp : Int) {a : Nat} (h1 : a ≠ 58) (h2 : a ≠ 59) : ∀ k, mmS M w sp mp k a = M a
  | 0 => rcM_off M w sp 0 h1 h2
  | k + 1 => by rw [mmS, spM_off _ _ _ h1 h2, moM, moP_off _ _ _ _ h1, mmS_off M w sp mp h1 h2 k]
/-- z mendings fit, and no more (-9: not even none) -/
def mmR (M : Mm) (w sp mp z : Int) : Prop := (z = -9 ∧ mmS M w sp mp 0 59 w.toNat = -9) ∨ (0 ≤ z ∧ z ≤ 8 ∧ (∀ j : Nat, j ≤ z.toNat → ¬ mmS M w sp mp j 59 w.toNat = -9) ∧ (z < 8 → mmS M w sp mp (z.toNat + 1) 59 w.toNat = -9))
theorem mmR_of {M T : Mm} {w sp mp i m : Int} (hi : 1 ≤ i ∧ i ≤ 9) (hT : T = mmS M w sp mp (i - 1).toNat) (hall : ∀ j : Nat, (j : Int) < i - 1 → ¬ mmS M w sp mp j 59 w.toNat = -9) (hmm : m = if T 59 w.toNat = -9 then (if i = 1 then -9 else i - 2) else i - 1) (he : 8 < i ∨ T 59 w.toNat = -9) : mmR M w sp mp m := by
  unfold mmR
  by_cases h9 : T 59 w.toNat = -9
  · rw [if_pos h9] at hmm
    by_cases hi1 : i = 1
    · rw [if_pos hi1] at hmm
      left
      refine ⟨hmm, ?_⟩
      have := h9
      rw [hT, hi1] at this
      exact this
    · rw [if_neg hi1] at hmm
      right
      subst hmm
      refine ⟨by omega, by omega, fun j hj => hall j (by omega), fun _ => ?_⟩
      rw [show (i - 2).toNat + 1 = (i - 1).toNat by omega, ← hT]
      exact h9
  · rw [if_neg h9] at hmm
    right
    subst hmm
    refine ⟨by omega, by omega, fun j hj => ?_, fun _ => ?_⟩
    · rcases (show (j : Int) < i - 1 ∨ j = (i - 1).toNat by omega) with q | q
      · exact hall j q
      · subst q
        rw [← hT]
        exact h9
    · rcases he with he | he
      · omega
      · exact absurd he h9
set_option maxHeartbeats 4000000 in
set_option maxRecDepth 100000 in
theorem c_X6_mostByTwo {n : Nat} (hn : NN n) {M : Mm} (hJ : JW M) (hP : PW M) (al du : Int) (ha : 0 ≤ al ∧ al ≤ 255) (hd : 0 ≤ du ∧ du ≤ 255) : CT yX6_mostByTwo cX6_mostByTwo 8 (some .int) ({ frames := 3, cells := 0, slots := 0, locals := 64 }) n [.ref 57, .int (iI al), .int (iI du)] M (rI (mbO M du.toNat al.toNat (al.toNat + 1)) M) := by
  refine CT.of (lv0 := [(0, .ref 57), (1, .int (iI al)), (2, .int (iI du))]) (by decide +kernel) hn (fun _ => rfl) (fun _ => Nat.le_of_ble_eq_true rfl) (fun X cx cs qx => ?_)
  have cx : Cx X cX6_mostByTwo RX6 ({ frames := 3, cells := 0, slots := 0, locals := 64 }) 8 n := cx
  refine g_bipush cx (pc2 := 2) ⟨by decide, by decide⟩ dX6_mostByTwo_0 rfl ?_
  refine g_istore_n cx (pc2 := 3) (lv2 := [(0, .ref 57), (1, .int (iI al)), (2, .int (iI du)), (3, .int (iI (-9)))]) rfl (Nat.le_of_ble_eq_true rfl) dX6_mostByTwo_2 rfl ?_
  refine g_iconst cx (pc2 := 4) dX6_mostByTwo_3 rfl ?_
  refine g_istore cx (pc2 := 6) (lv2 := [(0, .ref 57), (1, .int (iI al)), (2, .int (iI du)), (3, .int (iI (-9))), (4, .int (iI 0))]) rfl (Nat.le_of_ble_eq_true rfl) dX6_mostByTwo_4 rfl ?_
  have L6 : ∀ (fu : Nat) (s : Int) (m : Int), (0 ≤ s ∧ s ≤ al + 1) → (m = mbO M du.toNat al.toNat s.toNat) → (al + 1 - s).toNat ≤ fu → G X 6 [(0, .ref 57), (1, .int (iI al)), (2, .int (iI du)), (3, .int (iI m)), (4, .int (iI s))] [] M := by
    intro fu
    induction fu using Nat.strongRecOn with
    | _ fu ih6 =>
      intro s m hs hm hk6
      have hmb := mbO_b hJ du.toNat al.toNat s.toNat
      have hE := (hP s.toNat).2.1
      refine g_iload cx (pc2 := 8) 4 rfl dX6_mostByTwo_6 rfl ?_
      refine g_iload_n cx (pc2 := 9) 1 rfl dX6_mostByTwo_8 rfl ?_
      refine g_icmp_gt cx (pc2 := 12) (tgt := 134) ⟨(by first | assumption | omega), (by first | assumption | omega)⟩ dX6_mostByTwo_9 (by decide) rfl (fun h_1 => ?_) (fun h_1 => ?_)
      · skip
        refine g_iload_n cx (pc2 := 135) 3 rfl dX6_mostByTwo_134 rfl ?_
        exact g_iret cx qx dX6_mostByTwo_135 ⟨congrArg (fun q => some (Value.int (iI q))) (by rw [hm, show al.toNat + 1 = s.toNat by omega]), by rfl⟩
      · skip
        refine g_iload cx (pc2 := 14) 4 rfl dX6_mostByTwo_12 rfl ?_
        refine g_sipush cx (pc2 := 17) ⟨by decide, by decide⟩ dX6_mostByTwo_14 rfl ?_
        refine g_icmp_ge cx (pc2 := 20) (tgt := 134) ⟨(by first | assumption | omega), ⟨by decide, by decide⟩⟩ dX6_mostByTwo_17 (by decide) rfl (fun h_2 => ?_) (fun h_2 => ?_)
        · skip
          omega
        · skip
          refine g_aload_n cx (pc2 := 21) 0 rfl dX6_mostByTwo_20 rfl ?_
          refine g_get cx (pc2 := 24) (ci := 6) (k0 := 57) (j := 2) (v := .ref 59) rfl iwX6 rfl (lt_lit hn (Nat.le_of_ble_eq_true rfl)) rfl (Nat.le_of_ble_eq_true rfl) kf_X6_15 rfl rfl dX6_mostByTwo_21 rfl ?_
          refine g_iload cx (pc2 := 26) 4 rfl dX6_mostByTwo_24 rfl ?_
          refine g_iald cx (pc2 := 27) (k0 := 59) rfl (lt_lit hn (Nat.le_of_ble_eq_true rfl)) (by first | assumption | omega) (by first | assumption | omega) (Nat.le_of_ble_eq_true rfl) dX6_mostByTwo_26 rfl ?_
          refine g_rwi (y := iI (M 59 ((s).toNat))) (congrArg iI (by simp [stM])) ?_
          refine g_bipush cx (pc2 := 29) ⟨by decide, by decide⟩ dX6_mostByTwo_27 rfl ?_
          refine g_icmp_eq cx (pc2 := 32) (tgt := 36) ⟨(by first | assumption | omega), ⟨by decide, by decide⟩⟩ dX6_mostByTwo_29 (by decide) rfl (fun h_3 => ?_) (fun h_3 => ?_)
          · skip
            refine g_iconst cx (pc2 := 37) dX6_mostByTwo_36 rfl ?_
            refine g_istore cx (pc2 := 39) (lv2 := [(0, .ref 57), (1, .int (iI al)), (2, .int (iI du)), (3, .int (iI m)), (4, .int (iI s)), (5, .int (iI 0))]) rfl (Nat.le_of_ble_eq_true rfl) dX6_mostByTwo_37 rfl ?_
            refine g_iconst cx (pc2 := 40) dX6_mostByTwo_39 rfl ?_
            refine g_istore cx (pc2 := 42) (lv2 := [(0, .ref 57), (1, .int (iI al)), (2, .int (iI du)), (3, .int (iI m)), (4, .int (iI s)), (5, .int (iI 0)), (6, .int (iI 0))]) rfl (Nat.le_of_ble_eq_true rfl) dX6_mostByTwo_40 rfl ?_
            refine g_iload cx (pc2 := 44) 6 rfl dX6_mostByTwo_42 rfl ?_
            refine g_iload_n cx (pc2 := 45) 1 rfl dX6_mostByTwo_44 rfl ?_
            refine g_icmp_gt cx (pc2 := 48) (tgt := 128) ⟨⟨by decide, by decide⟩, (by first | assumption | omega)⟩ dX6_mostByTwo_45 (by decide) rfl (fun h_4 => ?_) (fun h_4 => ?_)
            · skip
              refine g_iinc cx (pc2 := 131) 4 rfl (lv2 := [(0, .ref 57), (1, .int (iI al)), (2, .int (iI du)), (3, .int (iI m)), (4, .int (iI (s + 1))), (5, .int (iI 0)), (6, .int (iI 0))]) rfl (Nat.le_of_ble_eq_true rfl) dX6_mostByTwo_128 rfl ?_
              refine g_goto cx (tgt := 6) dX6_mostByTwo_131 (by decide) ?_
              refine g_sub (lv2 := [(0, .ref 57), (1, .int (iI al)), (2, .int (iI du)), (3, .int (iI m)), (4, .int (iI (s + 1)))]) [0, 1, 2, 3, 4] rfl ?_
              exact ih6 ((al + 1 - (s + 1)).toNat) (by omega) (s + 1) m (by first | assumption | omega) (by rw [show (s + 1).toNat = s.toNat + 1 by omega, mbO]; first | (rw [if_pos (by omega)]; exact hm) | (rw [if_neg (by omega), show al.toNat + 1 = t.toNat by omega]; exact hq)) (Nat.le_refl _)
            · skip
              refine g_iload cx (pc2 := 50) 6 rfl dX6_mostByTwo_48 rfl ?_
              refine g_sipush cx (pc2 := 53) ⟨by decide, by decide⟩ dX6_mostByTwo_50 rfl ?_
              refine g_icmp_ge cx (pc2 := 56) (tgt := 128) ⟨⟨by decide, by decide⟩, ⟨by decide, by decide⟩⟩ dX6_mostByTwo_53 (by decide) rfl (fun h_5 => ?_) (fun h_5 => ?_)
              · skip
                omega
              · skip
                refine g_iload cx (pc2 := 58) 5 rfl dX6_mostByTwo_56 rfl ?_
                refine g_if_eq cx (pc2 := 61) (tgt := 128) ⟨by decide, by decide⟩ dX6_mostByTwo_58 (by decide) rfl (fun h_6 => ?_) (fun h_6 => ?_)
                · skip
                  refine g_iinc cx (pc2 := 131) 4 rfl (lv2 := [(0, .ref 57), (1, .int (iI al)), (2, .int (iI du)), (3, .int (iI m)), (4, .int (iI (s + 1))), (5, .int (iI 0)), (6, .int (iI 0))]) rfl (Nat.le_of_ble_eq_true rfl) dX6_mostByTwo_128 rfl ?_
                  refine g_goto cx (tgt := 6) dX6_mostByTwo_131 (by decide) ?_
                  refine g_sub (lv2 := [(0, .ref 57), (1, .int (iI al)), (2, .int (iI du)), (3, .int (iI m)), (4, .int (iI (s + 1)))]) [0, 1, 2, 3, 4] rfl ?_
                  exact ih6 ((al + 1 - (s + 1)).toNat) (by omega) (s + 1) m (by first | assumption | omega) (by rw [show (s + 1).toNat = s.toNat + 1 by omega, mbO]; first | (rw [if_pos (by omega)]; exact hm) | (rw [if_neg (by omega), show al.toNat + 1 = t.toNat by omega]; exact hq)) (Nat.le_refl _)
                · skip
                  omega
          · skip
            refine g_iconst cx (pc2 := 33) dX6_mostByTwo_32 rfl ?_
            refine g_goto cx (tgt := 37) dX6_mostByTwo_33 (by decide) ?_
            refine g_istore cx (pc2 := 39) (lv2 := [(0, .ref 57), (1, .int (iI al)), (2, .int (iI du)), (3, .int (iI m)), (4, .int (iI s)), (5, .int (iI 1))]) rfl (Nat.le_of_ble_eq_true rfl) dX6_mostByTwo_37 rfl ?_
            refine g_iconst cx (pc2 := 40) dX6_mostByTwo_39 rfl ?_
            refine g_istore cx (pc2 := 42) (lv2 := [(0, .ref 57), (1, .int (iI al)), (2, .int (iI du)), (3, .int (iI m)), (4, .int (iI s)), (5, .int (iI 1)), (6, .int (iI 0))]) rfl (Nat.le_of_ble_eq_true rfl) dX6_mostByTwo_40 rfl ?_
            have L42 : ∀ (fu : Nat) (t : Int) (q : Int), (0 ≤ t ∧ t ≤ al + 1) → (q = mbI M du.toNat s.toNat (mbO M du.toNat al.toNat s.toNat) t.toNat) → (al + 1 - t).toNat ≤ fu → G X 42 [(0, .ref 57), (1, .int (iI al)), (2, .int (iI du)), (3, .int (iI q)), (4, .int (iI s)), (5, .int (iI 1)), (6, .int (iI t))] [] M := by
              intro fu
              induction fu using Nat.strongRecOn with
              | _ fu ih42 =>
                intro t q ht hq hk42
                have hqb := mbI_b hJ du.toNat s.toNat hmb t.toNat
                have hF := (hP t.toNat).2.2
                have hle : s.toNat &&& t.toNat ≤ s.toNat := Nat.and_le_left
                refine g_iload cx (pc2 := 44) 6 rfl dX6_mostByTwo_42 rfl ?_
                refine g_iload_n cx (pc2 := 45) 1 rfl dX6_mostByTwo_44 rfl ?_
                refine g_icmp_gt cx (pc2 := 48) (tgt := 128) ⟨(by first | assumption | omega), (by first | assumption | omega)⟩ dX6_mostByTwo_45 (by decide) rfl (fun h_7 => ?_) (fun h_7 => ?_)
                · skip
                  refine g_iinc cx (pc2 := 131) 4 rfl (lv2 := [(0, .ref 57), (1, .int (iI al)), (2, .int (iI du)), (3, .int (iI q)), (4, .int (iI (s + 1))), (5, .int (iI 1)), (6, .int (iI t))]) rfl (Nat.le_of_ble_eq_true rfl) dX6_mostByTwo_128 rfl ?_
                  refine g_goto cx (tgt := 6) dX6_mostByTwo_131 (by decide) ?_
                  refine g_sub (lv2 := [(0, .ref 57), (1, .int (iI al)), (2, .int (iI du)), (3, .int (iI q)), (4, .int (iI (s + 1)))]) [0, 1, 2, 3, 4] rfl ?_
                  exact ih6 ((al + 1 - (s + 1)).toNat) (by omega) (s + 1) q (by first | assumption | omega) (by rw [show (s + 1).toNat = s.toNat + 1 by omega, mbO]; first | (rw [if_pos (by omega)]; exact hm) | (rw [if_neg (by omega), show al.toNat + 1 = t.toNat by omega]; exact hq)) (Nat.le_refl _)
                · skip
                  refine g_iload cx (pc2 := 50) 6 rfl dX6_mostByTwo_48 rfl ?_
                  refine g_sipush cx (pc2 := 53) ⟨by decide, by decide⟩ dX6_mostByTwo_50 rfl ?_
                  refine g_icmp_ge cx (pc2 := 56) (tgt := 128) ⟨(by first | assumption | omega), ⟨by decide, by decide⟩⟩ dX6_mostByTwo_53 (by decide) rfl (fun h_8 => ?_) (fun h_8 => ?_)
                  · skip
                    omega
                  · skip
                    refine g_iload cx (pc2 := 58) 5 rfl dX6_mostByTwo_56 rfl ?_
                    refine g_if_eq cx (pc2 := 61) (tgt := 128) ⟨by decide, by decide⟩ dX6_mostByTwo_58 (by decide) rfl (fun h_9 => ?_) (fun h_9 => ?_)
                    · skip
                      omega
                    · skip
                      have L86 : ∀ (ok : Int), ((ok = 1 ∧ (s.toNat &&& t.toNat = 0 ∧ ndN du.toNat (s.toNat ||| t.toNat) = 0)) ∨ (ok = 0 ∧ ¬ (s.toNat &&& t.toNat = 0 ∧ ndN du.toNat (s.toNat ||| t.toNat) = 0))) → G X 86 [(0, .ref 57), (1, .int (iI al)), (2, .int (iI du)), (3, .int (iI q)), (4, .int (iI s)), (5, .int (iI 1)), (6, .int (iI t))] [.int (iI ok)] M := by
                        intro ok hok
                        have hor := or_255 (a := s.toNat) (b := t.toNat) (by omega) (by omega)
                        refine g_istore cx (pc2 := 88) (lv2 := [(0, .ref 57), (1, .int (iI al)), (2, .int (iI du)), (3, .int (iI q)), (4, .int (iI s)), (5, .int (iI 1)), (6, .int (iI t)), (7, .int (iI ok))]) rfl (Nat.le_of_ble_eq_true rfl) dX6_mostByTwo_86 rfl ?_
                        have L122 : ∀ (q2 : Int), (q2 = mbI M du.toNat s.toNat (mbO M du.toNat al.toNat s.toNat) (t + 1).toNat) → G X 122 [(0, .ref 57), (1, .int (iI al)), (2, .int (iI du)), (3, .int (iI q2)), (4, .int (iI s)), (5, .int (iI 1)), (6, .int (iI t))] [] M := by
                          intro q2 hq2
                          refine g_iinc cx (pc2 := 125) 6 rfl (lv2 := [(0, .ref 57), (1, .int (iI al)), (2, .int (iI du)), (3, .int (iI q2)), (4, .int (iI s)), (5, .int (iI 1)), (6, .int (iI (t + 1)))]) rfl (Nat.le_of_ble_eq_true rfl) dX6_mostByTwo_122 rfl ?_
                          refine g_goto cx (tgt := 42) dX6_mostByTwo_125 (by decide) ?_
                          exact ih42 ((al + 1 - (t + 1)).toNat) (by omega) (t + 1) q2 (by first | assumption | omega) (by exact hq2) (Nat.le_refl _)
                        refine g_iload cx (pc2 := 90) 7 rfl dX6_mostByTwo_88 rfl ?_
                        refine g_if_eq cx (pc2 := 93) (tgt := 122) (by first | assumption | omega) dX6_mostByTwo_90 (by decide) rfl (fun h_10 => ?_) (fun h_10 => ?_)
                        · skip
                          refine g_sub (lv2 := [(0, .ref 57), (1, .int (iI al)), (2, .int (iI du)), (3, .int (iI q)), (4, .int (iI s)), (5, .int (iI 1)), (6, .int (iI t))]) [0, 1, 2, 3, 4, 5, 6] rfl ?_
                          exact L122 q (by rw [show (t + 1).toNat = t.toNat + 1 by omega, mbI]; first | (rw [if_neg (by omega)]; exact hq) | (rw [if_pos (by omega), hq]; done))
                        · skip
                          refine g_aload_n cx (pc2 := 94) 0 rfl dX6_mostByTwo_93 rfl ?_
                          refine g_get cx (pc2 := 97) (ci := 6) (k0 := 57) (j := 3) (v := .ref 60) rfl iwX6 rfl (lt_lit hn (Nat.le_of_ble_eq_true rfl)) rfl (Nat.le_of_ble_eq_true rfl) kf_X6_18 rfl rfl dX6_mostByTwo_94 rfl ?_
                          refine g_iload cx (pc2 := 99) 6 rfl dX6_mostByTwo_97 rfl ?_
                          refine g_iald cx (pc2 := 100) (k0 := 60) rfl (lt_lit hn (Nat.le_of_ble_eq_true rfl)) (by first | assumption | omega) (by first | assumption | omega) (Nat.le_of_ble_eq_true rfl) dX6_mostByTwo_99 rfl ?_
                          refine g_rwi (y := iI (M 60 ((t).toNat))) (congrArg iI (by simp [stM])) ?_
                          refine g_bipush cx (pc2 := 102) ⟨by decide, by decide⟩ dX6_mostByTwo_100 rfl ?_
                          refine g_icmp_eq cx (pc2 := 105) (tgt := 122) ⟨(by first | assumption | omega), ⟨by decide, by decide⟩⟩ dX6_mostByTwo_102 (by decide) rfl (fun h_11 => ?_) (fun h_11 => ?_)
                          · skip
                            refine g_sub (lv2 := [(0, .ref 57), (1, .int (iI al)), (2, .int (iI du)), (3, .int (iI q)), (4, .int (iI s)), (5, .int (iI 1)), (6, .int (iI t))]) [0, 1, 2, 3, 4, 5, 6] rfl ?_
                            exact L122 q (by rw [show (t + 1).toNat = t.toNat + 1 by omega, mbI]; first | (rw [if_neg (by omega)]; exact hq) | (rw [if_pos (by omega), hq]; done))
                          · skip
                            refine g_iload_n cx (pc2 := 106) 3 rfl dX6_mostByTwo_105 rfl ?_
                            refine g_aload_n cx (pc2 := 107) 0 rfl dX6_mostByTwo_106 rfl ?_
                            refine g_get cx (pc2 := 110) (ci := 6) (k0 := 57) (j := 0) (v := .ref 48) rfl iwX6 rfl (lt_lit hn (Nat.le_of_ble_eq_true rfl)) rfl (Nat.le_of_ble_eq_true rfl) kf_X6_21 rfl rfl dX6_mostByTwo_107 rfl ?_
                            refine g_iload cx (pc2 := 112) 4 rfl dX6_mostByTwo_110 rfl ?_
                            refine g_iload cx (pc2 := 114) 6 rfl dX6_mostByTwo_112 rfl ?_
                            refine g_ior cx (pc2 := 115) dX6_mostByTwo_114 rfl ?_
                            refine g_rwi (y := iI ((s.toNat ||| t.toNat : Nat) : Int)) (or_iI (by omega) (by omega)) ?_
                            refine g_callV cx (pc2 := 118) (st := [.int (iI q)]) (As := [.int (iI ((s.toNat ||| t.toNat : Nat) : Int))]) (k0 := 48) (ci := 1) (c_X1_worthOf (M := M) hn (by first | assumption | omega) ((s.toNat ||| t.toNat : Nat) : Int) (by omega)) wM_X1_worthOf wV_X1_worthOf kl_X6_53 rfl (lt_lit hn (Nat.le_of_ble_eq_true rfl)) rfl ⟨rfl, rfl, Nat.le_of_ble_eq_true rfl, Nat.le_of_ble_eq_true rfl⟩ (Nat.le_of_ble_eq_true rfl) cs rfl rfl dX6_mostByTwo_115 rfl ?_
                            rintro _ _ ⟨rfl, rfl⟩
                            refine g_mmax cx (pc2 := 121) ⟨(by have := wsM_b hJ ((s.toNat ||| t.toNat : Nat) : Int); omega), (by have := wsM_b hJ ((s.toNat ||| t.toNat : Nat) : Int); omega)⟩ kl_X6_62 wJ_max ⟨Nat.le_of_ble_eq_true rfl, Nat.le_of_ble_eq_true rfl⟩ cs dX6_mostByTwo_118 rfl ?_
                            refine g_istore_n cx (pc2 := 122) (lv2 := [(0, .ref 57), (1, .int (iI al)), (2, .int (iI du)), (3, .int (iI (max q (wsM M ((s.toNat ||| t.toNat : Nat) : Int))))), (4, .int (iI s)), (5, .int (iI 1)), (6, .int (iI t)), (7, .int (iI ok))]) rfl (Nat.le_of_ble_eq_true rfl) dX6_mostByTwo_121 rfl ?_
                            refine g_sub (lv2 := [(0, .ref 57), (1, .int (iI al)), (2, .int (iI du)), (3, .int (iI (max q (wsM M ((s.toNat ||| t.toNat : Nat) : Int))))), (4, .int (iI s)), (5, .int (iI 1)), (6, .int (iI t))]) [0, 1, 2, 3, 4, 5, 6] rfl ?_
                            exact L122 (max q (wsM M ((s.toNat ||| t.toNat : Nat) : Int))) (by rw [show (t + 1).toNat = t.toNat + 1 by omega, mbI]; first | (rw [if_neg (by omega)]; exact hq) | (rw [if_pos (by omega), hq]; done))
                      have hor := or_255 (a := s.toNat) (b := t.toNat) (by omega) (by omega)
                      have hnn := ndN_le du.toNat (s.toNat ||| t.toNat)
                      refine g_iload cx (pc2 := 63) 4 rfl dX6_mostByTwo_61 rfl ?_
                      refine g_iload cx (pc2 := 65) 6 rfl dX6_mostByTwo_63 rfl ?_
                      refine g_iand cx (pc2 := 66) dX6_mostByTwo_65 rfl ?_
                      refine g_rwi (y := iI ((s.toNat &&& t.toNat : Nat) : Int)) (and_iI (by omega) (by omega)) ?_
                      refine g_if_ne cx (pc2 := 69) (tgt := 85) (by first | assumption | omega) dX6_mostByTwo_66 (by decide) rfl (fun h_12 => ?_) (fun h_12 => ?_)
                      · skip
                        refine g_iconst cx (pc2 := 86) dX6_mostByTwo_85 rfl ?_
                        exact L86 0 (by first | assumption | omega)
                      · skip
                        refine g_iload_n cx (pc2 := 70) 2 rfl dX6_mostByTwo_69 rfl ?_
                        refine g_iload cx (pc2 := 72) 4 rfl dX6_mostByTwo_70 rfl ?_
                        refine g_iload cx (pc2 := 74) 6 rfl dX6_mostByTwo_72 rfl ?_
                        refine g_ior cx (pc2 := 75) dX6_mostByTwo_74 rfl ?_
                        refine g_rwi (y := iI ((s.toNat ||| t.toNat : Nat) : Int)) (or_iI (by omega) (by omega)) ?_
                        refine g_iconst cx (pc2 := 76) dX6_mostByTwo_75 rfl ?_
                        refine g_ixor cx (pc2 := 77) dX6_mostByTwo_76 rfl ?_
                        refine g_iand cx (pc2 := 78) dX6_mostByTwo_77 rfl ?_
                        refine g_rwi (y := iI ((ndN du.toNat (s.toNat ||| t.toNat) : Nat) : Int)) (nd_iI (a := du) (b := ((s.toNat ||| t.toNat : Nat) : Int)) (by omega) (by omega)) ?_
                        refine g_if_ne cx (pc2 := 81) (tgt := 85) (by first | assumption | omega) dX6_mostByTwo_78 (by decide) rfl (fun h_13 => ?_) (fun h_13 => ?_)
                        · skip
                          refine g_iconst cx (pc2 := 86) dX6_mostByTwo_85 rfl ?_
                          exact L86 0 (by first | assumption | omega)
                        · skip
                          refine g_iconst cx (pc2 := 82) dX6_mostByTwo_81 rfl ?_
                          refine g_goto cx (tgt := 86) dX6_mostByTwo_82 (by decide) ?_
                          exact L86 1 (by first | assumption | omega)
            exact L42 _ 0 m (by first | assumption | omega) (by exact hm) (Nat.le_refl _)
  exact L6 _ 0 (-9) (by first | assumption | omega) (by rfl) (Nat.le_refl _)
set_option maxHeartbeats 4000000 in
set_option maxRecDepth 100000 in
theorem c_X6_mendOnce {n : Nat} (hn : NN n) {M : Mm} (hJ : JW M) (hP : PW M) (mp tp : Int) (hm : 0 ≤ mp ∧ mp ≤ 15) (ht : 0 ≤ tp ∧ tp ≤ 15) : CT yX6_mendOnce cX6_mendOnce 9 none ({ frames := 1, cells := 0, slots := 0, locals := 21 }) n [.ref 57, .int (iI mp), .int (iI tp)] M (rV (moM M mp tp)) := by
  refine CT.of (lv0 := [(0, .ref 57), (1, .int (iI mp)), (2, .int (iI tp))]) (by decide +kernel) hn (fun _ => rfl) (fun _ => Nat.le_of_ble_eq_true rfl) (fun X cx cs qx => ?_)
  have cx : Cx X cX6_mendOnce RX6 ({ frames := 1, cells := 0, slots := 0, locals := 21 }) 9 n := cx
  refine g_iconst cx (pc2 := 1) dX6_mendOnce_0 rfl ?_
  refine g_istore_n cx (pc2 := 2) (lv2 := [(0, .ref 57), (1, .int (iI mp)), (2, .int (iI tp)), (3, .int (iI 0))]) rfl (Nat.le_of_ble_eq_true rfl) dX6_mendOnce_1 rfl ?_
  have L2 : ∀ (fu : Nat) (s : Int), (0 ≤ s ∧ s ≤ 256) → (256 - s).toNat ≤ fu → G X 2 [(0, .ref 57), (1, .int (iI mp)), (2, .int (iI tp)), (3, .int (iI s))] [] (moP M mp tp s) := by
    intro fu
    induction fu using Nat.strongRecOn with
    | _ fu ih2 =>
      intro s hs hk2
      have hMW := moP_W hJ hP (s := s) hm ht
      have hE := (hP s.toNat).2.1
      have hO := moP_off M mp tp s (a := 59) (by decide)
      refine g_iload_n cx (pc2 := 3) 3 rfl dX6_mendOnce_2 rfl ?_
      refine g_sipush cx (pc2 := 6) ⟨by decide, by decide⟩ dX6_mendOnce_3 rfl ?_
      refine g_icmp_ge cx (pc2 := 9) (tgt := 137) ⟨(by first | assumption | omega), ⟨by decide, by decide⟩⟩ dX6_mendOnce_6 (by decide) rfl (fun h_1 => ?_) (fun h_1 => ?_)
      · skip
        exact g_vret cx qx dX6_mendOnce_137 ⟨rfl, by rw [show s = 256 by omega]; rfl⟩
      · skip
        refine g_bipush cx (pc2 := 11) ⟨by decide, by decide⟩ dX6_mendOnce_9 rfl ?_
        refine g_istore cx (pc2 := 13) (lv2 := [(0, .ref 57), (1, .int (iI mp)), (2, .int (iI tp)), (3, .int (iI s)), (4, .int (iI (-9)))]) rfl (Nat.le_of_ble_eq_true rfl) dX6_mendOnce_11 rfl ?_
        refine g_iconst cx (pc2 := 14) dX6_mendOnce_13 rfl ?_
        refine g_istore cx (pc2 := 16) (lv2 := [(0, .ref 57), (1, .int (iI mp)), (2, .int (iI tp)), (3, .int (iI s)), (4, .int (iI (-9))), (5, .int (iI 0))]) rfl (Nat.le_of_ble_eq_true rfl) dX6_mendOnce_14 rfl ?_
        have L16 : ∀ (fu : Nat) (c : Int) (e : Int), (0 ≤ c ∧ c ≤ 9) → (e = if M 59 s.toNat = -9 then -9 else moF M mp tp s c.toNat) → (M 59 s.toNat = -9 → c = 0) → (9 - c).toNat ≤ fu → G X 16 [(0, .ref 57), (1, .int (iI mp)), (2, .int (iI tp)), (3, .int (iI s)), (4, .int (iI e)), (5, .int (iI c))] [] (moP M mp tp s) := by
          intro fu
          induction fu using Nat.strongRecOn with
          | _ fu ih16 =>
            intro c e hc he hz hk16
            have hFb := moF_b hJ hP (s := s) hm ht c.toNat
            have hGb := (hP (s * 9 + c).toNat).1
            have hA := moP_at (M := M) (mp := mp) (tp := tp) hs.1 hc.1
            have hEb : vE e := by rw [he]; split; exact Or.inl rfl; exact hFb
            refine g_iload cx (pc2 := 18) 5 rfl dX6_mendOnce_16 rfl ?_
            refine g_bipush cx (pc2 := 20) ⟨by decide, by decide⟩ dX6_mendOnce_18 rfl ?_
            refine g_icmp_ge cx (pc2 := 23) (tgt := 117) ⟨(by first | assumption | omega), ⟨by decide, by decide⟩⟩ dX6_mendOnce_20 (by decide) rfl (fun h_2 => ?_) (fun h_2 => ?_)
            · skip
              refine g_aload_n cx (pc2 := 118) 0 rfl dX6_mendOnce_117 rfl ?_
              refine g_get cx (pc2 := 121) (ci := 6) (k0 := 57) (j := 1) (v := .ref 58) rfl iwX6 rfl (lt_lit hn (Nat.le_of_ble_eq_true rfl)) rfl (Nat.le_of_ble_eq_true rfl) kf_X6_11 rfl rfl dX6_mendOnce_118 rfl ?_
              refine g_iload_n cx (pc2 := 122) 3 rfl dX6_mendOnce_121 rfl ?_
              refine g_bipush cx (pc2 := 124) ⟨by decide, by decide⟩ dX6_mendOnce_122 rfl ?_
              refine g_imul cx (pc2 := 125) dX6_mendOnce_124 rfl ?_
              refine g_bipush cx (pc2 := 127) ⟨by decide, by decide⟩ dX6_mendOnce_125 rfl ?_
              refine g_iadd cx (pc2 := 128) dX6_mendOnce_127 rfl ?_
              refine g_iload cx (pc2 := 130) 4 rfl dX6_mendOnce_128 rfl ?_
              refine g_iast cx (pc2 := 131) (k0 := 58) rfl (lt_lit hn (Nat.le_of_ble_eq_true rfl)) (by first | assumption | omega) (by first | assumption | omega) (Nat.le_of_ble_eq_true rfl) dX6_mendOnce_130 rfl ?_
              refine g_iinc cx (pc2 := 134) 3 rfl (lv2 := [(0, .ref 57), (1, .int (iI mp)), (2, .int (iI tp)), (3, .int (iI (s + 1))), (4, .int (iI e)), (5, .int (iI c))]) rfl (Nat.le_of_ble_eq_true rfl) dX6_mendOnce_131 rfl ?_
              refine g_goto cx (tgt := 2) dX6_mendOnce_134 (by decide) ?_
              refine g_M (M2 := (moP M mp tp (s + 1))) (by rw [← moP_s hs.1, show moE M mp tp s = e by rw [he]; unfold moE; by_cases h9 : M 59 s.toNat = -9; rw [if_pos h9, if_pos h9]; rw [if_neg h9, if_neg h9, show c = 9 by omega]; rfl]) ?_
              refine g_sub (lv2 := [(0, .ref 57), (1, .int (iI mp)), (2, .int (iI tp)), (3, .int (iI (s + 1)))]) [0, 1, 2, 3] rfl ?_
              exact ih2 ((256 - (s + 1)).toNat) (by omega) (s + 1) (by first | assumption | omega) (Nat.le_refl _)
            · skip
              refine g_aload_n cx (pc2 := 24) 0 rfl dX6_mendOnce_23 rfl ?_
              refine g_get cx (pc2 := 27) (ci := 6) (k0 := 57) (j := 2) (v := .ref 59) rfl iwX6 rfl (lt_lit hn (Nat.le_of_ble_eq_true rfl)) rfl (Nat.le_of_ble_eq_true rfl) kf_X6_15 rfl rfl dX6_mendOnce_24 rfl ?_
              refine g_iload_n cx (pc2 := 28) 3 rfl dX6_mendOnce_27 rfl ?_
              refine g_iald cx (pc2 := 29) (k0 := 59) rfl (lt_lit hn (Nat.le_of_ble_eq_true rfl)) (by first | assumption | omega) (by first | assumption | omega) (Nat.le_of_ble_eq_true rfl) dX6_mendOnce_28 rfl ?_
              refine g_rwi (y := iI ((moP M mp tp s) 59 ((s).toNat))) (congrArg iI (by simp [stM])) ?_
              refine g_rwi (y := iI (M 59 s.toNat)) (congrArg iI (by rw [hO])) ?_
              refine g_bipush cx (pc2 := 31) ⟨by decide, by decide⟩ dX6_mendOnce_29 rfl ?_
              refine g_icmp_eq cx (pc2 := 34) (tgt := 117) ⟨(by first | assumption | omega), ⟨by decide, by decide⟩⟩ dX6_mendOnce_31 (by decide) rfl (fun h_3 => ?_) (fun h_3 => ?_)
              · skip
                refine g_aload_n cx (pc2 := 118) 0 rfl dX6_mendOnce_117 rfl ?_
                refine g_get cx (pc2 := 121) (ci := 6) (k0 := 57) (j := 1) (v := .ref 58) rfl iwX6 rfl (lt_lit hn (Nat.le_of_ble_eq_true rfl)) rfl (Nat.le_of_ble_eq_true rfl) kf_X6_11 rfl rfl dX6_mendOnce_118 rfl ?_
                refine g_iload_n cx (pc2 := 122) 3 rfl dX6_mendOnce_121 rfl ?_
                refine g_bipush cx (pc2 := 124) ⟨by decide, by decide⟩ dX6_mendOnce_122 rfl ?_
                refine g_imul cx (pc2 := 125) dX6_mendOnce_124 rfl ?_
                refine g_bipush cx (pc2 := 127) ⟨by decide, by decide⟩ dX6_mendOnce_125 rfl ?_
                refine g_iadd cx (pc2 := 128) dX6_mendOnce_127 rfl ?_
                refine g_iload cx (pc2 := 130) 4 rfl dX6_mendOnce_128 rfl ?_
                refine g_iast cx (pc2 := 131) (k0 := 58) rfl (lt_lit hn (Nat.le_of_ble_eq_true rfl)) (by first | assumption | omega) (by first | assumption | omega) (Nat.le_of_ble_eq_true rfl) dX6_mendOnce_130 rfl ?_
                refine g_iinc cx (pc2 := 134) 3 rfl (lv2 := [(0, .ref 57), (1, .int (iI mp)), (2, .int (iI tp)), (3, .int (iI (s + 1))), (4, .int (iI e)), (5, .int (iI c))]) rfl (Nat.le_of_ble_eq_true rfl) dX6_mendOnce_131 rfl ?_
                refine g_goto cx (tgt := 2) dX6_mendOnce_134 (by decide) ?_
                refine g_M (M2 := (moP M mp tp (s + 1))) (by rw [← moP_s hs.1, show moE M mp tp s = e by rw [he]; unfold moE; by_cases h9 : M 59 s.toNat = -9; rw [if_pos h9, if_pos h9]; rw [if_neg h9, if_neg h9, show c = 9 by omega]; rfl]) ?_
                refine g_sub (lv2 := [(0, .ref 57), (1, .int (iI mp)), (2, .int (iI tp)), (3, .int (iI (s + 1)))]) [0, 1, 2, 3] rfl ?_
                exact ih2 ((256 - (s + 1)).toNat) (by omega) (s + 1) (by first | assumption | omega) (Nat.le_refl _)
              · skip
                refine g_aload_n cx (pc2 := 35) 0 rfl dX6_mendOnce_34 rfl ?_
                refine g_get cx (pc2 := 38) (ci := 6) (k0 := 57) (j := 1) (v := .ref 58) rfl iwX6 rfl (lt_lit hn (Nat.le_of_ble_eq_true rfl)) rfl (Nat.le_of_ble_eq_true rfl) kf_X6_11 rfl rfl dX6_mendOnce_35 rfl ?_
                refine g_iload_n cx (pc2 := 39) 3 rfl dX6_mendOnce_38 rfl ?_
                refine g_bipush cx (pc2 := 41) ⟨by decide, by decide⟩ dX6_mendOnce_39 rfl ?_
                refine g_imul cx (pc2 := 42) dX6_mendOnce_41 rfl ?_
                refine g_iload cx (pc2 := 44) 5 rfl dX6_mendOnce_42 rfl ?_
                refine g_iadd cx (pc2 := 45) dX6_mendOnce_44 rfl ?_
                refine g_iald cx (pc2 := 46) (k0 := 58) rfl (lt_lit hn (Nat.le_of_ble_eq_true rfl)) (by first | assumption | omega) (by first | assumption | omega) (Nat.le_of_ble_eq_true rfl) dX6_mendOnce_45 rfl ?_
                refine g_rwi (y := iI ((moP M mp tp s) 58 (((s * 9) + c).toNat))) (congrArg iI (by simp [stM])) ?_
                refine g_rwi (y := iI (M 58 (s * 9 + c).toNat)) (congrArg iI hA) ?_
                refine g_istore cx (pc2 := 48) (lv2 := [(0, .ref 57), (1, .int (iI mp)), (2, .int (iI tp)), (3, .int (iI s)), (4, .int (iI e)), (5, .int (iI c)), (6, .int (iI (M 58 (s * 9 + c).toNat)))]) rfl (Nat.le_of_ble_eq_true rfl) dX6_mendOnce_46 rfl ?_
                have L68 : ∀ (q : Int), (q = pcol M tp c) → G X 68 [(0, .ref 57), (1, .int (iI mp)), (2, .int (iI tp)), (3, .int (iI s)), (4, .int (iI e)), (5, .int (iI c)), (6, .int (iI (M 58 (s * 9 + c).toNat)))] [.int (iI q)] (moP M mp tp s) := by
                  intro q hq
                  have hqb := pcol_b hJ ht c
                  have hwb := wap_b (show 0 ≤ q ∧ q ≤ 15 by omega) hm
                  refine g_istore cx (pc2 := 70) (lv2 := [(0, .ref 57), (1, .int (iI mp)), (2, .int (iI tp)), (3, .int (iI s)), (4, .int (iI e)), (5, .int (iI c)), (6, .int (iI (M 58 (s * 9 + c).toNat))), (7, .int (iI q))]) rfl (Nat.le_of_ble_eq_true rfl) dX6_mendOnce_68 rfl ?_
                  refine g_iload cx (pc2 := 72) 6 rfl dX6_mendOnce_70 rfl ?_
                  have L111 : ∀ (e2 : Int), (e2 = moF M mp tp s (c + 1).toNat) → G X 111 [(0, .ref 57), (1, .int (iI mp)), (2, .int (iI tp)), (3, .int (iI s)), (4, .int (iI e2)), (5, .int (iI c))] [] (moP M mp tp s) := by
                    intro e2 he2
                    refine g_iinc cx (pc2 := 114) 5 rfl (lv2 := [(0, .ref 57), (1, .int (iI mp)), (2, .int (iI tp)), (3, .int (iI s)), (4, .int (iI e2)), (5, .int (iI (c + 1)))]) rfl (Nat.le_of_ble_eq_true rfl) dX6_mendOnce_111 rfl ?_
                    refine g_goto cx (tgt := 16) dX6_mendOnce_114 (by decide) ?_
                    exact ih16 ((9 - (c + 1)).toNat) (by omega) (c + 1) e2 (by first | assumption | omega) (by rw [he2, if_neg (by omega)]) (by intro q; omega) (Nat.le_refl _)
                  refine g_bipush cx (pc2 := 74) ⟨by decide, by decide⟩ dX6_mendOnce_72 rfl ?_
                  refine g_icmp_eq cx (pc2 := 77) (tgt := 111) ⟨(by first | assumption | omega), ⟨by decide, by decide⟩⟩ dX6_mendOnce_74 (by decide) rfl (fun h_4 => ?_) (fun h_4 => ?_)
                  · skip
                    refine g_sub (lv2 := [(0, .ref 57), (1, .int (iI mp)), (2, .int (iI tp)), (3, .int (iI s)), (4, .int (iI e)), (5, .int (iI c))]) [0, 1, 2, 3, 4, 5] rfl ?_
                    exact L111 e (by rw [moF_s hc.1]; rw [if_neg (by omega)] at he; first | (rw [if_pos (by omega)]; exact he) | (rw [if_neg (by omega), ← he, ← hv]; done))
                  · skip
                    refine g_iload cx (pc2 := 79) 6 rfl dX6_mendOnce_77 rfl ?_
                    refine g_iload cx (pc2 := 81) 7 rfl dX6_mendOnce_79 rfl ?_
                    refine g_iload_n cx (pc2 := 82) 1 rfl dX6_mendOnce_81 rfl ?_
                    refine g_callSN cx (pc2 := 85) (st := [.int (iI (M 58 (s * 9 + c).toNat))]) (As := [.int (iI q), .int (iI mp)]) (c_X11_watchesApart (M := (moP M mp tp s)) hn q mp (by omega) (by first | assumption | omega)) wM_X11_watchesApart wS_X11_watchesApart kl_X6_77 ⟨rfl, rfl, Nat.le_of_ble_eq_true rfl, Nat.le_of_ble_eq_true rfl⟩ (Nat.le_of_ble_eq_true rfl) cs rfl rfl dX6_mendOnce_82 rfl ?_
                    rintro _ _ ⟨rfl, rfl⟩
                    refine g_iadd cx (pc2 := 86) dX6_mendOnce_85 rfl ?_
                    refine g_iconst cx (pc2 := 87) dX6_mendOnce_86 rfl ?_
                    refine g_iadd cx (pc2 := 88) dX6_mendOnce_87 rfl ?_
                    have L106 : ∀ (v : Int), (v = mo1 M mp tp s c) → G X 106 [(0, .ref 57), (1, .int (iI mp)), (2, .int (iI tp)), (3, .int (iI s)), (4, .int (iI e)), (5, .int (iI c))] [.int (iI v), .int (iI e)] (moP M mp tp s) := by
                      intro v hv
                      have hvb := mo1_b hJ hP (s := s) (c := c) hm ht (by omega)
                      refine g_callS cx (pc2 := 109) (st := []) (As := [.int (iI e), .int (iI v)]) (c_X6_lesserEnd (M := (moP M mp tp s)) hn e v (by first | assumption | omega) (by first | assumption | omega)) wM_X6_lesserEnd wS_X6_lesserEnd kl_X6_41 ⟨rfl, rfl, Nat.le_of_ble_eq_true rfl, Nat.le_of_ble_eq_true rfl⟩ (Nat.le_of_ble_eq_true rfl) cs rfl rfl dX6_mendOnce_106 rfl ?_
                      rintro _ _ ⟨rfl, rfl⟩
                      refine g_istore cx (pc2 := 111) (lv2 := [(0, .ref 57), (1, .int (iI mp)), (2, .int (iI tp)), (3, .int (iI s)), (4, .int (iI (lsr e v))), (5, .int (iI c))]) rfl (Nat.le_of_ble_eq_true rfl) dX6_mendOnce_109 rfl ?_
                      exact L111 (lsr e v) (by rw [moF_s hc.1]; rw [if_neg (by omega)] at he; first | (rw [if_pos (by omega)]; exact he) | (rw [if_neg (by omega), ← he, ← hv]; done))
                    refine g_istore cx (pc2 := 90) (lv2 := [(0, .ref 57), (1, .int (iI mp)), (2, .int (iI tp)), (3, .int (iI s)), (4, .int (iI e)), (5, .int (iI c)), (6, .int (iI (M 58 (s * 9 + c).toNat))), (7, .int (iI q)), (8, .int (iI (((M 58 (s * 9 + c).toNat) + (wap q mp)) + 1)))]) rfl (Nat.le_of_ble_eq_true rfl) dX6_mendOnce_88 rfl ?_
                    refine g_iload cx (pc2 := 92) 4 rfl dX6_mendOnce_90 rfl ?_
                    refine g_iload cx (pc2 := 94) 8 rfl dX6_mendOnce_92 rfl ?_
                    refine g_bipush cx (pc2 := 96) ⟨by decide, by decide⟩ dX6_mendOnce_94 rfl ?_
                    refine g_icmp_gt cx (pc2 := 99) (tgt := 104) ⟨(by first | assumption | omega), ⟨by decide, by decide⟩⟩ dX6_mendOnce_96 (by decide) rfl (fun h_5 => ?_) (fun h_5 => ?_)
                    · skip
                      refine g_bipush cx (pc2 := 106) ⟨by decide, by decide⟩ dX6_mendOnce_104 rfl ?_
                      refine g_sub (lv2 := [(0, .ref 57), (1, .int (iI mp)), (2, .int (iI tp)), (3, .int (iI s)), (4, .int (iI e)), (5, .int (iI c))]) [0, 1, 2, 3, 4, 5] rfl ?_
                      exact L106 (-9) (by unfold mo1; rw [← hq]; first | (rw [if_pos (by omega)]; done) | (rw [if_neg (by omega)]; done))
                    · skip
                      refine g_iload cx (pc2 := 101) 8 rfl dX6_mendOnce_99 rfl ?_
                      refine g_goto cx (tgt := 106) dX6_mendOnce_101 (by decide) ?_
                      refine g_sub (lv2 := [(0, .ref 57), (1, .int (iI mp)), (2, .int (iI tp)), (3, .int (iI s)), (4, .int (iI e)), (5, .int (iI c))]) [0, 1, 2, 3, 4, 5] rfl ?_
                      exact L106 (((M 58 (s * 9 + c).toNat) + (wap q mp)) + 1) (by unfold mo1; rw [← hq]; first | (rw [if_pos (by omega)]; done) | (rw [if_neg (by omega)]; done))
                refine g_iload cx (pc2 := 50) 5 rfl dX6_mendOnce_48 rfl ?_
                refine g_bipush cx (pc2 := 52) ⟨by decide, by decide⟩ dX6_mendOnce_50 rfl ?_
                refine g_icmp_ne cx (pc2 := 55) (tgt := 59) ⟨(by first | assumption | omega), ⟨by decide, by decide⟩⟩ dX6_mendOnce_52 (by decide) rfl (fun h_6 => ?_) (fun h_6 => ?_)
                · skip
                  refine g_aload_n cx (pc2 := 60) 0 rfl dX6_mendOnce_59 rfl ?_
                  refine g_get cx (pc2 := 63) (ci := 6) (k0 := 57) (j := 0) (v := .ref 48) rfl iwX6 rfl (lt_lit hn (Nat.le_of_ble_eq_true rfl)) rfl (Nat.le_of_ble_eq_true rfl) kf_X6_21 rfl rfl dX6_mendOnce_60 rfl ?_
                  refine g_iload cx (pc2 := 65) 5 rfl dX6_mendOnce_63 rfl ?_
                  refine g_callV cx (pc2 := 68) (st := []) (As := [.int (iI c)]) (k0 := 48) (ci := 1) (c_X1_placeOf (M := (moP M mp tp s)) hn (by exact hMW.1) c (by first | assumption | omega)) wM_X1_placeOf wV_X1_placeOf kl_X6_45 rfl (lt_lit hn (Nat.le_of_ble_eq_true rfl)) rfl ⟨rfl, rfl, Nat.le_of_ble_eq_true rfl, Nat.le_of_ble_eq_true rfl⟩ (Nat.le_of_ble_eq_true rfl) cs rfl rfl dX6_mendOnce_65 rfl ?_
                  rintro _ _ ⟨rfl, rfl⟩
                  refine g_rwi (y := iI (plJ M c)) (rfl) ?_
                  exact L68 (plJ M c) (by unfold pcol; first | (rw [if_pos (by omega)]; done) | (rw [if_neg (by omega)]; done))
                · skip
                  refine g_iload_n cx (pc2 := 56) 2 rfl dX6_mendOnce_55 rfl ?_
                  refine g_goto cx (tgt := 68) dX6_mendOnce_56 (by decide) ?_
                  exact L68 tp (by unfold pcol; first | (rw [if_pos (by omega)]; done) | (rw [if_neg (by omega)]; done))
        exact L16 _ 0 (-9) (by first | assumption | omega) (by split <;> rfl) (by intro _; rfl) (Nat.le_refl _)
  refine g_M (M2 := (moP M mp tp 0)) (by exact moP_0 M mp tp) ?_
  exact L2 _ 0 (by first | assumption | omega) (Nat.le_refl _)
set_option maxHeartbeats 4000000 in
set_option maxRecDepth 100000 in
theorem c_X6_mostMendings {n : Nat} (hn : NN n) {M : Mm} (hJ : JW M) (hP : PW M) (w sp mp : Int) (hw : 0 ≤ w ∧ w ≤ 255) (hs : 0 ≤ sp ∧ sp ≤ 15) (hm : 0 ≤ mp ∧ mp ≤ 15) : CT yX6_mostMendings cX6_mostMendings 7 (some .int) ({ frames := 5, cells := 0, slots := 0, locals := 124 }) n [.ref 57, .int (iI w), .int (iI sp), .int (iI mp)] M (pI (fun z M2 => mmR M w sp mp z ∧ (∀ a, a ≠ 58 → a ≠ 59 → M2 a = M a) ∧ PW M2)) := by
  refine CT.of (lv0 := [(0, .ref 57), (1, .int (iI w)), (2, .int (iI sp)), (3, .int (iI mp))]) (by decide +kernel) hn (fun _ => rfl) (fun _ => Nat.le_of_ble_eq_true rfl) (fun X cx cs qx => ?_)
  have cx : Cx X cX6_mostMendings RX6 ({ frames := 5, cells := 0, slots := 0, locals := 124 }) 7 n := cx
  refine g_aload_n cx (pc2 := 1) 0 rfl dX6_mostMendings_0 rfl ?_
  refine g_iload_n cx (pc2 := 2) 1 rfl dX6_mostMendings_1 rfl ?_
  refine g_iload_n cx (pc2 := 3) 2 rfl dX6_mostMendings_2 rfl ?_
  refine g_iconst cx (pc2 := 4) dX6_mostMendings_3 rfl ?_
  refine g_callV cx (pc2 := 7) (st := []) (As := [.int (iI w), .int (iI sp), .int (iI 0)]) (k0 := 57) (ci := 6) (c_X6_reach (M := M) hn (by first | assumption | omega) (by first | assumption | omega) w sp 0 (by first | assumption | omega) (by first | assumption | omega) (by first | assumption | omega)) wM_X6_reach wV_X6_reach kl_X6_67 rfl (lt_lit hn (Nat.le_of_ble_eq_true rfl)) rfl ⟨rfl, rfl, Nat.le_of_ble_eq_true rfl, Nat.le_of_ble_eq_true rfl⟩ (Nat.le_of_ble_eq_true rfl) cs rfl rfl dX6_mostMendings_4 rfl ?_
  rintro _ _ ⟨rfl, rfl⟩
  refine g_aload_n cx (pc2 := 8) 0 rfl dX6_mostMendings_7 rfl ?_
  refine g_iload_n cx (pc2 := 9) 1 rfl dX6_mostMendings_8 rfl ?_
  have h0W := mmS_W hJ hP (w := w) hs hm 0
  have hE0 := (h0W.2 w.toNat).2.1
  refine g_callV cx (pc2 := 12) (st := []) (As := [.int (iI w)]) (k0 := 57) (ci := 6) (c_X6_endOf (M := (rcM M w sp 0)) hn w (by first | assumption | omega)) wM_X6_endOf wV_X6_endOf kl_X6_71 rfl (lt_lit hn (Nat.le_of_ble_eq_true rfl)) rfl ⟨rfl, rfl, Nat.le_of_ble_eq_true rfl, Nat.le_of_ble_eq_true rfl⟩ (Nat.le_of_ble_eq_true rfl) cs rfl rfl dX6_mostMendings_9 rfl ?_
  rintro _ _ ⟨rfl, rfl⟩
  refine g_rwi (y := iI (mmS M w sp mp 0 59 w.toNat)) (congrArg iI (if_pos (by omega))) ?_
  refine g_bipush cx (pc2 := 14) ⟨by decide, by decide⟩ dX6_mostMendings_12 rfl ?_
  refine g_icmp_ne cx (pc2 := 17) (tgt := 22) ⟨(by first | assumption | omega), ⟨by decide, by decide⟩⟩ dX6_mostMendings_14 (by decide) rfl (fun h_1 => ?_) (fun h_1 => ?_)
  · skip
    refine g_iconst cx (pc2 := 23) dX6_mostMendings_22 rfl ?_
    refine g_istore cx (pc2 := 25) (lv2 := [(0, .ref 57), (1, .int (iI w)), (2, .int (iI sp)), (3, .int (iI mp)), (4, .int (iI 0))]) rfl (Nat.le_of_ble_eq_true rfl) dX6_mostMendings_23 rfl ?_
    refine g_iload_n cx (pc2 := 26) 2 rfl dX6_mostMendings_25 rfl ?_
    refine g_istore cx (pc2 := 28) (lv2 := [(0, .ref 57), (1, .int (iI w)), (2, .int (iI sp)), (3, .int (iI mp)), (4, .int (iI 0)), (5, .int (iI sp))]) rfl (Nat.le_of_ble_eq_true rfl) dX6_mostMendings_26 rfl ?_
    refine g_iconst cx (pc2 := 29) dX6_mostMendings_28 rfl ?_
    refine g_istore cx (pc2 := 31) (lv2 := [(0, .ref 57), (1, .int (iI w)), (2, .int (iI sp)), (3, .int (iI mp)), (4, .int (iI 0)), (5, .int (iI sp)), (6, .int (iI 1))]) rfl (Nat.le_of_ble_eq_true rfl) dX6_mostMendings_29 rfl ?_
    have L31 : ∀ (fu : Nat) (i : Int) (tl : Int) (m : Int) (T : Mm), (1 ≤ i ∧ i ≤ 9) → (tl = if (i - 1).toNat = 0 then sp else mp) → (T = mmS M w sp mp (i - 1).toNat) → (∀ j : Nat, (j : Int) < i - 1 → ¬ mmS M w sp mp j 59 w.toNat = -9) → (m = if T 59 w.toNat = -9 then (if i = 1 then -9 else i - 2) else i - 1) → (9 - i).toNat ≤ fu → G X 31 [(0, .ref 57), (1, .int (iI w)), (2, .int (iI sp)), (3, .int (iI mp)), (4, .int (iI m)), (5, .int (iI tl)), (6, .int (iI i))] [] T := by
      intro fu
      induction fu using Nat.strongRecOn with
      | _ fu ih31 =>
        intro i tl m T hi htl hT hall hmm hk31
        have hTW := mmS_W hJ hP (w := w) hs hm (i - 1).toNat
        rw [← hT] at hTW
        have hE := (hTW.2 w.toNat).2.1
        have htb : 0 ≤ tl ∧ tl ≤ 15 := by rw [htl]; split <;> omega
        have hMW := moP_W hTW.1 hTW.2 (mp := mp) (tp := tl) (s := 256) hm htb
        have hnx : spM (moM T mp tl) w mp = mmS M w sp mp i.toNat := by rw [show i.toNat = (i - 1).toNat + 1 by omega, mmS, ← hT, ← htl]
        have hnW := mmS_W hJ hP (w := w) hs hm i.toNat
        have hE2 := (hnW.2 w.toNat).2.1
        refine g_iload cx (pc2 := 33) 6 rfl dX6_mostMendings_31 rfl ?_
        refine g_bipush cx (pc2 := 35) ⟨by decide, by decide⟩ dX6_mostMendings_33 rfl ?_
        refine g_icmp_gt cx (pc2 := 38) (tgt := 85) ⟨(by first | assumption | omega), ⟨by decide, by decide⟩⟩ dX6_mostMendings_35 (by decide) rfl (fun h_2 => ?_) (fun h_2 => ?_)
        · skip
          refine g_iload cx (pc2 := 87) 4 rfl dX6_mostMendings_85 rfl ?_
          exact g_iret cx qx dX6_mostMendings_87 ⟨_, rfl, by exact ⟨mmR_of hi hT hall hmm (by omega), fun a h1 h2 => by rw [hT]; exact mmS_off M w sp mp h1 h2 _, hTW.2⟩⟩
        · skip
          refine g_aload_n cx (pc2 := 39) 0 rfl dX6_mostMendings_38 rfl ?_
          refine g_iload_n cx (pc2 := 40) 1 rfl dX6_mostMendings_39 rfl ?_
          refine g_callV cx (pc2 := 43) (st := []) (As := [.int (iI w)]) (k0 := 57) (ci := 6) (c_X6_endOf (M := T) hn w (by first | assumption | omega)) wM_X6_endOf wV_X6_endOf kl_X6_71 rfl (lt_lit hn (Nat.le_of_ble_eq_true rfl)) rfl ⟨rfl, rfl, Nat.le_of_ble_eq_true rfl, Nat.le_of_ble_eq_true rfl⟩ (Nat.le_of_ble_eq_true rfl) cs rfl rfl dX6_mostMendings_40 rfl ?_
          rintro _ _ ⟨rfl, rfl⟩
          refine g_rwi (y := iI (T 59 w.toNat)) (congrArg iI (if_pos (by omega))) ?_
          refine g_bipush cx (pc2 := 45) ⟨by decide, by decide⟩ dX6_mostMendings_43 rfl ?_
          refine g_icmp_eq cx (pc2 := 48) (tgt := 85) ⟨(by first | assumption | omega), ⟨by decide, by decide⟩⟩ dX6_mostMendings_45 (by decide) rfl (fun h_3 => ?_) (fun h_3 => ?_)
          · skip
            refine g_iload cx (pc2 := 87) 4 rfl dX6_mostMendings_85 rfl ?_
            exact g_iret cx qx dX6_mostMendings_87 ⟨_, rfl, by exact ⟨mmR_of hi hT hall hmm (by omega), fun a h1 h2 => by rw [hT]; exact mmS_off M w sp mp h1 h2 _, hTW.2⟩⟩
          · skip
            refine g_aload_n cx (pc2 := 49) 0 rfl dX6_mostMendings_48 rfl ?_
            refine g_iload_n cx (pc2 := 50) 3 rfl dX6_mostMendings_49 rfl ?_
            refine g_iload cx (pc2 := 52) 5 rfl dX6_mostMendings_50 rfl ?_
            refine g_callV cx (pc2 := 55) (st := []) (As := [.int (iI mp), .int (iI tl)]) (k0 := 57) (ci := 6) (c_X6_mendOnce (M := T) hn (by exact hTW.1) (by exact hTW.2) mp tl (by first | assumption | omega) (by first | assumption | omega)) wM_X6_mendOnce wV_X6_mendOnce kl_X6_74 rfl (lt_lit hn (Nat.le_of_ble_eq_true rfl)) rfl ⟨rfl, rfl, Nat.le_of_ble_eq_true rfl, Nat.le_of_ble_eq_true rfl⟩ (Nat.le_of_ble_eq_true rfl) cs rfl rfl dX6_mostMendings_52 rfl ?_
            rintro _ _ ⟨rfl, rfl⟩
            refine g_iload_n cx (pc2 := 56) 3 rfl dX6_mostMendings_55 rfl ?_
            refine g_istore cx (pc2 := 58) (lv2 := [(0, .ref 57), (1, .int (iI w)), (2, .int (iI sp)), (3, .int (iI mp)), (4, .int (iI m)), (5, .int (iI mp)), (6, .int (iI i))]) rfl (Nat.le_of_ble_eq_true rfl) dX6_mostMendings_56 rfl ?_
            refine g_aload_n cx (pc2 := 59) 0 rfl dX6_mostMendings_58 rfl ?_
            refine g_iload_n cx (pc2 := 60) 1 rfl dX6_mostMendings_59 rfl ?_
            refine g_iload cx (pc2 := 62) 5 rfl dX6_mostMendings_60 rfl ?_
            refine g_callV cx (pc2 := 65) (st := []) (As := [.int (iI w), .int (iI mp)]) (k0 := 57) (ci := 6) (c_X6_spread (M := (moM T mp tl)) hn (by exact hMW.1) (by exact hMW.2) w mp (by first | assumption | omega) (by first | assumption | omega)) wM_X6_spread wV_X6_spread kl_X6_25 rfl (lt_lit hn (Nat.le_of_ble_eq_true rfl)) rfl ⟨rfl, rfl, Nat.le_of_ble_eq_true rfl, Nat.le_of_ble_eq_true rfl⟩ (Nat.le_of_ble_eq_true rfl) cs rfl rfl dX6_mostMendings_62 rfl ?_
            rintro _ _ ⟨rfl, rfl⟩
            have L79 : ∀ (m2 : Int), (m2 = if mmS M w sp mp i.toNat 59 w.toNat = -9 then i - 1 else i) → G X 79 [(0, .ref 57), (1, .int (iI w)), (2, .int (iI sp)), (3, .int (iI mp)), (4, .int (iI m2)), (5, .int (iI mp)), (6, .int (iI i))] [] (mmS M w sp mp i.toNat) := by
              intro m2 hm2
              refine g_iinc cx (pc2 := 82) 6 rfl (lv2 := [(0, .ref 57), (1, .int (iI w)), (2, .int (iI sp)), (3, .int (iI mp)), (4, .int (iI m2)), (5, .int (iI mp)), (6, .int (iI (i + 1)))]) rfl (Nat.le_of_ble_eq_true rfl) dX6_mostMendings_79 rfl ?_
              refine g_goto cx (tgt := 31) dX6_mostMendings_82 (by decide) ?_
              exact ih31 ((9 - (i + 1)).toNat) (by omega) (i + 1) mp m2 (mmS M w sp mp i.toNat) (by first | assumption | omega) (by rw [if_neg (by omega)]) (by congr 1; omega) (by intro j hj; rcases (show (j : Int) < i - 1 ∨ j = (i - 1).toNat by omega) with q | q; exact hall j q; subst q; rw [← hT]; assumption) (by rw [hm2, if_neg (show ¬ i + 1 = 1 by omega), show i + 1 - 2 = i - 1 by omega, show i + 1 - 1 = i by omega]) (Nat.le_refl _)
            refine g_aload_n cx (pc2 := 66) 0 rfl dX6_mostMendings_65 rfl ?_
            refine g_iload_n cx (pc2 := 67) 1 rfl dX6_mostMendings_66 rfl ?_
            refine g_callV cx (pc2 := 70) (st := []) (As := [.int (iI w)]) (k0 := 57) (ci := 6) (c_X6_endOf (M := (spM (moM T mp tl) w mp)) hn w (by first | assumption | omega)) wM_X6_endOf wV_X6_endOf kl_X6_71 rfl (lt_lit hn (Nat.le_of_ble_eq_true rfl)) rfl ⟨rfl, rfl, Nat.le_of_ble_eq_true rfl, Nat.le_of_ble_eq_true rfl⟩ (Nat.le_of_ble_eq_true rfl) cs rfl rfl dX6_mostMendings_67 rfl ?_
            rintro _ _ ⟨rfl, rfl⟩
            refine g_rwi (y := iI (mmS M w sp mp i.toNat 59 w.toNat)) (congrArg iI ((if_pos (by omega)).trans (by rw [hnx]))) ?_
            refine g_bipush cx (pc2 := 72) ⟨by decide, by decide⟩ dX6_mostMendings_70 rfl ?_
            refine g_icmp_eq cx (pc2 := 75) (tgt := 79) ⟨(by first | assumption | omega), ⟨by decide, by decide⟩⟩ dX6_mostMendings_72 (by decide) rfl (fun h_4 => ?_) (fun h_4 => ?_)
            · skip
              refine g_M (M2 := (mmS M w sp mp i.toNat)) (by exact hnx) ?_
              exact L79 m (by first | (rw [if_pos (by omega), hmm, if_neg (by omega)]; done) | (rw [if_neg (by omega)]; done))
            · skip
              refine g_iload cx (pc2 := 77) 6 rfl dX6_mostMendings_75 rfl ?_
              refine g_istore cx (pc2 := 79) (lv2 := [(0, .ref 57), (1, .int (iI w)), (2, .int (iI sp)), (3, .int (iI mp)), (4, .int (iI i)), (5, .int (iI mp)), (6, .int (iI i))]) rfl (Nat.le_of_ble_eq_true rfl) dX6_mostMendings_77 rfl ?_
              refine g_M (M2 := (mmS M w sp mp i.toNat)) (by exact hnx) ?_
              exact L79 i (by first | (rw [if_pos (by omega), hmm, if_neg (by omega)]; done) | (rw [if_neg (by omega)]; done))
    exact L31 _ 1 sp 0 (rcM M w sp 0) (by first | assumption | omega) (by rfl) (by rfl) (by intro j hj; omega) (by show _ = if mmS M w sp mp 0 59 w.toNat = -9 then _ else _; first | (rw [if_pos (by assumption)]; rfl) | (rw [if_neg (by assumption)]; rfl)) (Nat.le_refl _)
  · skip
    refine g_bipush cx (pc2 := 19) ⟨by decide, by decide⟩ dX6_mostMendings_17 rfl ?_
    refine g_goto cx (tgt := 23) dX6_mostMendings_19 (by decide) ?_
    refine g_istore cx (pc2 := 25) (lv2 := [(0, .ref 57), (1, .int (iI w)), (2, .int (iI sp)), (3, .int (iI mp)), (4, .int (iI (-9)))]) rfl (Nat.le_of_ble_eq_true rfl) dX6_mostMendings_23 rfl ?_
    refine g_iload_n cx (pc2 := 26) 2 rfl dX6_mostMendings_25 rfl ?_
    refine g_istore cx (pc2 := 28) (lv2 := [(0, .ref 57), (1, .int (iI w)), (2, .int (iI sp)), (3, .int (iI mp)), (4, .int (iI (-9))), (5, .int (iI sp))]) rfl (Nat.le_of_ble_eq_true rfl) dX6_mostMendings_26 rfl ?_
    refine g_iconst cx (pc2 := 29) dX6_mostMendings_28 rfl ?_
    refine g_istore cx (pc2 := 31) (lv2 := [(0, .ref 57), (1, .int (iI w)), (2, .int (iI sp)), (3, .int (iI mp)), (4, .int (iI (-9))), (5, .int (iI sp)), (6, .int (iI 1))]) rfl (Nat.le_of_ble_eq_true rfl) dX6_mostMendings_29 rfl ?_
    have L31 : ∀ (fu : Nat) (i : Int) (tl : Int) (m : Int) (T : Mm), (1 ≤ i ∧ i ≤ 9) → (tl = if (i - 1).toNat = 0 then sp else mp) → (T = mmS M w sp mp (i - 1).toNat) → (∀ j : Nat, (j : Int) < i - 1 → ¬ mmS M w sp mp j 59 w.toNat = -9) → (m = if T 59 w.toNat = -9 then (if i = 1 then -9 else i - 2) else i - 1) → (9 - i).toNat ≤ fu → G X 31 [(0, .ref 57), (1, .int (iI w)), (2, .int (iI sp)), (3, .int (iI mp)), (4, .int (iI m)), (5, .int (iI tl)), (6, .int (iI i))] [] T := by
      intro fu
      induction fu using Nat.strongRecOn with
      | _ fu ih31 =>
        intro i tl m T hi htl hT hall hmm hk31
        have hTW := mmS_W hJ hP (w := w) hs hm (i - 1).toNat
        rw [← hT] at hTW
        have hE := (hTW.2 w.toNat).2.1
        have htb : 0 ≤ tl ∧ tl ≤ 15 := by rw [htl]; split <;> omega
        have hMW := moP_W hTW.1 hTW.2 (mp := mp) (tp := tl) (s := 256) hm htb
        have hnx : spM (moM T mp tl) w mp = mmS M w sp mp i.toNat := by rw [show i.toNat = (i - 1).toNat + 1 by omega, mmS, ← hT, ← htl]
        have hnW := mmS_W hJ hP (w := w) hs hm i.toNat
        have hE2 := (hnW.2 w.toNat).2.1
        refine g_iload cx (pc2 := 33) 6 rfl dX6_mostMendings_31 rfl ?_
        refine g_bipush cx (pc2 := 35) ⟨by decide, by decide⟩ dX6_mostMendings_33 rfl ?_
        refine g_icmp_gt cx (pc2 := 38) (tgt := 85) ⟨(by first | assumption | omega), ⟨by decide, by decide⟩⟩ dX6_mostMendings_35 (by decide) rfl (fun h_5 => ?_) (fun h_5 => ?_)
        · skip
          refine g_iload cx (pc2 := 87) 4 rfl dX6_mostMendings_85 rfl ?_
          exact g_iret cx qx dX6_mostMendings_87 ⟨_, rfl, by exact ⟨mmR_of hi hT hall hmm (by omega), fun a h1 h2 => by rw [hT]; exact mmS_off M w sp mp h1 h2 _, hTW.2⟩⟩
        · skip
          refine g_aload_n cx (pc2 := 39) 0 rfl dX6_mostMendings_38 rfl ?_
          refine g_iload_n cx (pc2 := 40) 1 rfl dX6_mostMendings_39 rfl ?_
          refine g_callV cx (pc2 := 43) (st := []) (As := [.int (iI w)]) (k0 := 57) (ci := 6) (c_X6_endOf (M := T) hn w (by first | assumption | omega)) wM_X6_endOf wV_X6_endOf kl_X6_71 rfl (lt_lit hn (Nat.le_of_ble_eq_true rfl)) rfl ⟨rfl, rfl, Nat.le_of_ble_eq_true rfl, Nat.le_of_ble_eq_true rfl⟩ (Nat.le_of_ble_eq_true rfl) cs rfl rfl dX6_mostMendings_40 rfl ?_
          rintro _ _ ⟨rfl, rfl⟩
          refine g_rwi (y := iI (T 59 w.toNat)) (congrArg iI (if_pos (by omega))) ?_
          refine g_bipush cx (pc2 := 45) ⟨by decide, by decide⟩ dX6_mostMendings_43 rfl ?_
          refine g_icmp_eq cx (pc2 := 48) (tgt := 85) ⟨(by first | assumption | omega), ⟨by decide, by decide⟩⟩ dX6_mostMendings_45 (by decide) rfl (fun h_6 => ?_) (fun h_6 => ?_)
          · skip
            refine g_iload cx (pc2 := 87) 4 rfl dX6_mostMendings_85 rfl ?_
            exact g_iret cx qx dX6_mostMendings_87 ⟨_, rfl, by exact ⟨mmR_of hi hT hall hmm (by omega), fun a h1 h2 => by rw [hT]; exact mmS_off M w sp mp h1 h2 _, hTW.2⟩⟩
          · skip
            refine g_aload_n cx (pc2 := 49) 0 rfl dX6_mostMendings_48 rfl ?_
            refine g_iload_n cx (pc2 := 50) 3 rfl dX6_mostMendings_49 rfl ?_
            refine g_iload cx (pc2 := 52) 5 rfl dX6_mostMendings_50 rfl ?_
            refine g_callV cx (pc2 := 55) (st := []) (As := [.int (iI mp), .int (iI tl)]) (k0 := 57) (ci := 6) (c_X6_mendOnce (M := T) hn (by exact hTW.1) (by exact hTW.2) mp tl (by first | assumption | omega) (by first | assumption | omega)) wM_X6_mendOnce wV_X6_mendOnce kl_X6_74 rfl (lt_lit hn (Nat.le_of_ble_eq_true rfl)) rfl ⟨rfl, rfl, Nat.le_of_ble_eq_true rfl, Nat.le_of_ble_eq_true rfl⟩ (Nat.le_of_ble_eq_true rfl) cs rfl rfl dX6_mostMendings_52 rfl ?_
            rintro _ _ ⟨rfl, rfl⟩
            refine g_iload_n cx (pc2 := 56) 3 rfl dX6_mostMendings_55 rfl ?_
            refine g_istore cx (pc2 := 58) (lv2 := [(0, .ref 57), (1, .int (iI w)), (2, .int (iI sp)), (3, .int (iI mp)), (4, .int (iI m)), (5, .int (iI mp)), (6, .int (iI i))]) rfl (Nat.le_of_ble_eq_true rfl) dX6_mostMendings_56 rfl ?_
            refine g_aload_n cx (pc2 := 59) 0 rfl dX6_mostMendings_58 rfl ?_
            refine g_iload_n cx (pc2 := 60) 1 rfl dX6_mostMendings_59 rfl ?_
            refine g_iload cx (pc2 := 62) 5 rfl dX6_mostMendings_60 rfl ?_
            refine g_callV cx (pc2 := 65) (st := []) (As := [.int (iI w), .int (iI mp)]) (k0 := 57) (ci := 6) (c_X6_spread (M := (moM T mp tl)) hn (by exact hMW.1) (by exact hMW.2) w mp (by first | assumption | omega) (by first | assumption | omega)) wM_X6_spread wV_X6_spread kl_X6_25 rfl (lt_lit hn (Nat.le_of_ble_eq_true rfl)) rfl ⟨rfl, rfl, Nat.le_of_ble_eq_true rfl, Nat.le_of_ble_eq_true rfl⟩ (Nat.le_of_ble_eq_true rfl) cs rfl rfl dX6_mostMendings_62 rfl ?_
            rintro _ _ ⟨rfl, rfl⟩
            have L79 : ∀ (m2 : Int), (m2 = if mmS M w sp mp i.toNat 59 w.toNat = -9 then i - 1 else i) → G X 79 [(0, .ref 57), (1, .int (iI w)), (2, .int (iI sp)), (3, .int (iI mp)), (4, .int (iI m2)), (5, .int (iI mp)), (6, .int (iI i))] [] (mmS M w sp mp i.toNat) := by
              intro m2 hm2
              refine g_iinc cx (pc2 := 82) 6 rfl (lv2 := [(0, .ref 57), (1, .int (iI w)), (2, .int (iI sp)), (3, .int (iI mp)), (4, .int (iI m2)), (5, .int (iI mp)), (6, .int (iI (i + 1)))]) rfl (Nat.le_of_ble_eq_true rfl) dX6_mostMendings_79 rfl ?_
              refine g_goto cx (tgt := 31) dX6_mostMendings_82 (by decide) ?_
              exact ih31 ((9 - (i + 1)).toNat) (by omega) (i + 1) mp m2 (mmS M w sp mp i.toNat) (by first | assumption | omega) (by rw [if_neg (by omega)]) (by congr 1; omega) (by intro j hj; rcases (show (j : Int) < i - 1 ∨ j = (i - 1).toNat by omega) with q | q; exact hall j q; subst q; rw [← hT]; assumption) (by rw [hm2, if_neg (show ¬ i + 1 = 1 by omega), show i + 1 - 2 = i - 1 by omega, show i + 1 - 1 = i by omega]) (Nat.le_refl _)
            refine g_aload_n cx (pc2 := 66) 0 rfl dX6_mostMendings_65 rfl ?_
            refine g_iload_n cx (pc2 := 67) 1 rfl dX6_mostMendings_66 rfl ?_
            refine g_callV cx (pc2 := 70) (st := []) (As := [.int (iI w)]) (k0 := 57) (ci := 6) (c_X6_endOf (M := (spM (moM T mp tl) w mp)) hn w (by first | assumption | omega)) wM_X6_endOf wV_X6_endOf kl_X6_71 rfl (lt_lit hn (Nat.le_of_ble_eq_true rfl)) rfl ⟨rfl, rfl, Nat.le_of_ble_eq_true rfl, Nat.le_of_ble_eq_true rfl⟩ (Nat.le_of_ble_eq_true rfl) cs rfl rfl dX6_mostMendings_67 rfl ?_
            rintro _ _ ⟨rfl, rfl⟩
            refine g_rwi (y := iI (mmS M w sp mp i.toNat 59 w.toNat)) (congrArg iI ((if_pos (by omega)).trans (by rw [hnx]))) ?_
            refine g_bipush cx (pc2 := 72) ⟨by decide, by decide⟩ dX6_mostMendings_70 rfl ?_
            refine g_icmp_eq cx (pc2 := 75) (tgt := 79) ⟨(by first | assumption | omega), ⟨by decide, by decide⟩⟩ dX6_mostMendings_72 (by decide) rfl (fun h_7 => ?_) (fun h_7 => ?_)
            · skip
              refine g_M (M2 := (mmS M w sp mp i.toNat)) (by exact hnx) ?_
              exact L79 m (by first | (rw [if_pos (by omega), hmm, if_neg (by omega)]; done) | (rw [if_neg (by omega)]; done))
            · skip
              refine g_iload cx (pc2 := 77) 6 rfl dX6_mostMendings_75 rfl ?_
              refine g_istore cx (pc2 := 79) (lv2 := [(0, .ref 57), (1, .int (iI w)), (2, .int (iI sp)), (3, .int (iI mp)), (4, .int (iI i)), (5, .int (iI mp)), (6, .int (iI i))]) rfl (Nat.le_of_ble_eq_true rfl) dX6_mostMendings_77 rfl ?_
              refine g_M (M2 := (mmS M w sp mp i.toNat)) (by exact hnx) ?_
              exact L79 i (by first | (rw [if_pos (by omega), hmm, if_neg (by omega)]; done) | (rw [if_neg (by omega)]; done))
    exact L31 _ 1 sp (-9) (rcM M w sp 0) (by first | assumption | omega) (by rfl) (by rfl) (by intro j hj; omega) (by show _ = if mmS M w sp mp 0 59 w.toNat = -9 then _ else _; first | (rw [if_pos (by assumption)]; rfl) | (rw [if_neg (by assumption)]; rfl)) (Nat.le_refl _)
