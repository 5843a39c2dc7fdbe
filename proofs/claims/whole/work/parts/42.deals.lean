def xgi (kd h k : Int) : Int := if kd = 3 then k else h
def xta (kd h k : Int) : Int := if kd = 3 then h else k
def xs1 (M : Mm) (kd h k q : Int) : Mm := stM M 97 (xgi kd h k).toNat (M 97 (xgi kd h k).toNat - q)
def xs2 (M : Mm) (kd h k q : Int) : Mm := stM (xs1 M kd h k q) 97 (xta kd h k).toNat (xs1 M kd h k q 97 (xta kd h k).toNat + q)
def xs3 (M : Mm) (kd h k q : Int) : Mm := stM (xs2 M kd h k q) 98 (8 * k + h).toNat (xs2 M kd h k q 98 (8 * k + h).toNat + (if kd = 1 then q else 0))
def xs4 (M : Mm) (kd h k q : Int) : Mm := stM (xs3 M kd h k q) 98 (8 * h + k).toNat (xs3 M kd h k q 98 (8 * h + k).toNat + (if kd = 3 then 2 * q else if kd = 4 then -q else 0))
/-- a deal is done -/
def xseM (M : Mm) (kd h k q : Int) : Mm := if kd = 0 then stM M 97 h.toNat (M 97 h.toNat + q) else xs4 M kd h k q
theorem xseM_off (M : Mm) (kd h k q : Int) {a : Nat} (h1 : a ≠ 97) (h2 : a ≠ 98) : xseM M kd h k q a = M a := by
  unfold xseM
  split
  · exact stM_off h1
  · unfold xs4 xs3 xs2 xs1
    rw [stM_off h2, stM_off h2, stM_off h1, stM_off h1]
abbrev xdB0 (M : Mm) (kd h k q : Int) : Prop := ¬ (0 ≤ kd ∧ kd ≤ 4) ∨ ¬ HX M h ∨ (0 < kd ∧ (¬ HX M k ∨ h = k)) ∨ ¬ (1 ≤ q ∧ q ≤ 99)
def xdBb (M : Mm) (kd h k q : Int) : Bool := decide (xdB0 M kd h k q)
abbrev xdB (M : Mm) (kd h k q : Int) : Prop := xdBb M kd h k q = true
theorem xdB_iff {M : Mm} {kd h k q : Int} : xdB M kd h k q ↔ xdB0 M kd h k q := by unfold xdB xdBb; exact decide_eq_true_iff
abbrev xdS0 (M : Mm) (kd h k q : Int) : Prop := (0 < kd ∧ wr (M 97 (xgi kd h k).toNat) < q) ∨ (kd = 4 ∧ wr (M 98 (8 * h + k).toNat) < q)
def xdSb (M : Mm) (kd h k q : Int) : Bool := decide (xdS0 M kd h k q)
abbrev xdS (M : Mm) (kd h k q : Int) : Prop := xdSb M kd h k q = true
theorem xdS_iff {M : Mm} {kd h k q : Int} : xdS M kd h k q ↔ xdS0 M kd h k q := by unfold xdS xdSb; exact decide_eq_true_iff
def xdeA (M : Mm) (kd h k q : Int) : Int := if xdB M kd h k q then -1 else if xdS M kd h k q then -4 else if M 77 35 = 16 then -2 else M 77 35
def xdeN (M : Mm) (kd h k q : Int) : Mm := stM (stM (stM (stM (stM (xseM M kd h k q) 99 (4 * M 77 35).toNat kd) 99 (4 * M 77 35 + 1).toNat h) 99 (4 * M 77 35 + 2).toNat k) 99 (4 * M 77 35 + 3).toNat q) 77 35 (M 77 35 + 1)
def xdeM (M : Mm) (kd h k q : Int) : Mm := if xdB M kd h k q then M else if xdS M kd h k q then M else if M 77 35 = 16 then M else xdeN M kd h k q
def xd (M : Mm) (i k : Int) : Int := M 99 (4 * i + k).toNat
abbrev DLX (M : Mm) : Prop := (0 ≤ M 77 35 ∧ M 77 35 ≤ 16) ∧ ∀ i : Int, 0 ≤ i → i < 16 → (0 ≤ xd M i 0 ∧ xd M i 0 ≤ 4) ∧ (0 ≤ xd M i 1 ∧ xd M i 1 < 8) ∧ (xd M i 0 = 0 ∨ (0 ≤ xd M i 2 ∧ xd M i 2 < 8)) ∧ (0 ≤ xd M i 3 ∧ xd M i 3 ≤ 99)
def xunM (M : Mm) (q : Int) : Nat → Mm
  | 0 => M
  | k + 1 => xunM (xseM (stM M 77 35 (q + (k : Int))) (xd M (q + (k : Int)) 0) (xd M (q + (k : Int)) 1) (xd M (q + (k : Int)) 2) (-(xd M (q + (k : Int)) 3))) q k
def xunA (M : Mm) (q : Int) : Int := if ¬ (0 ≤ q ∧ q ≤ M 77 35) then -1 else M 77 35 - q
def xudM (M : Mm) (q : Int) : Mm := if ¬ (0 ≤ q ∧ q ≤ M 77 35) then M else xunM M q (M 77 35 - q).toNat
def xowA (M : Mm) (h k : Int) : Int := if HX M h ∧ HX M k ∧ ¬ h = k then M 98 (8 * h + k).toNat else -1
def xrT (M : Mm) (k : Int) (n : Nat) : Int := smZ (fun j => M 98 (8 * (j : Int) + k).toNat) n
def xrF (M : Mm) (n : Nat) : Nat → Int × Int
  | 0 => (-9, 0)
  | k + 1 => if (xrF M n k).1 = -9 ∨ (xrF M n k).2 < wr (xrT M (k : Int) n) then ((k : Int), wr (xrT M (k : Int) n)) else xrF M n k
theorem xrF_b (M : Mm) (n : Nat) : ∀ k : Nat, ((xrF M n k).1 = -9 ∨ (0 ≤ (xrF M n k).1 ∧ (xrF M n k).1 < (k : Int))) ∧ ir (xrF M n k).2
  | 0 => by simp [xrF, ir]
  | k + 1 => by
    have h1 := xrF_b M n k
    have h2 := ir_wr (xrT M (k : Int) n)
    rw [xrF]
    split
    · exact ⟨Or.inr ⟨by simp only []; omega, by simp only []; omega⟩, h2⟩
    · exact ⟨by omega, h1.2⟩
def xriA (M : Mm) : Int := if M 77 10 = 0 then -4 else (xrF M (M 77 10).toNat (M 77 10).toNat).1
def xriM (M : Mm) : Mm := if M 77 10 = 0 then M else tlM M (xrF M (M 77 10).toNat (M 77 10).toNat).2
abbrev xpB (M : Mm) (h v : Int) : Prop := ¬ HX M h ∨ ¬ (0 ≤ v ∧ v ≤ 99)
def xpoA (M : Mm) (h v : Int) : Int := if xpB M h v then -1 else if M 77 37 = 12 then -2 else M 77 37 + 1
def xpoM (M : Mm) (h v : Int) : Mm := if xpB M h v then M else if M 77 37 = 12 then M else stM (stM (stM M 100 (M 77 37).toNat h) 101 (M 77 37).toNat v) 77 37 (M 77 37 + 1)
def xfP (M : Mm) (h : Int) : Nat → Int
  | 0 => -1
  | k + 1 => if M 100 k = h then (k : Int) else xfP M h k
def xfN (M : Mm) (h : Int) : Int := xfP M h (M 77 37).toNat
def xfiA (M : Mm) (h : Int) : Int := if ¬ HX M h then -1 else if xfN M h < 0 then -3 else M 77 37 - 1 - xfN M h
def xfiM (M : Mm) (h : Int) : Mm := if ¬ HX M h then M else if xfN M h < 0 then mtM M 1 else tlM (toP (stM M 77 37 (M 77 37 - 1)) 99 (xfN M h) (M 77 37 - 1)) (M 101 (xfN M h).toNat)
abbrev xtB (M : Mm) (h w : Int) : Prop := ¬ HX M h ∨ ¬ (0 ≤ w ∧ w ≤ 27)
def xtrA (M : Mm) (h w : Int) : Int := if xtB M h w then -1 else if M 77 40 = 12 then -2 else M 77 40
def xtrM (M : Mm) (h w : Int) : Mm := if xtB M h w then M else if M 77 40 = 12 then M else stM (stM (stM M 102 (M 77 40).toNat h) 103 (M 77 40).toNat w) 77 40 (M 77 40 + 1)
def xfgA (M : Mm) (q : Int) : Int := if ¬ (0 ≤ q ∧ q ≤ M 77 40) then -1 else M 77 40 - q
def xfgM (M : Mm) (q : Int) : Mm := if ¬ (0 ≤ q ∧ q ≤ M 77 40) then M else stM M 77 40 q
abbrev TNX (M : Mm) : Prop := (0 ≤ M 77 37 ∧ M 77 37 ≤ 12) ∧ ∀ j : Nat, j < 12 → (0 ≤ M 100 j ∧ M 100 j ≤ 7) ∧ (0 ≤ M 101 j ∧ M 101 j ≤ 99)
abbrev TRX (M : Mm) : Prop := (0 ≤ M 77 40 ∧ M 77 40 ≤ 12) ∧ ∀ j : Nat, j < 12 → (0 ≤ M 102 j ∧ M 102 j ≤ 7) ∧ (0 ≤ M 103 j ∧ M 103 j ≤ 27)
set_option maxHeartbeats 4000000 in
set_option maxRecDepth 100000 in
theorem c_X12_doDeal {n : Nat} (hn : NN n) {M : Mm} (kd h k q : Int) (hkd : 0 ≤ kd ∧ kd ≤ 4) (hh : 0 ≤ h ∧ h < 8) (hk : kd = 0 ∨ (0 ≤ k ∧ k < 8)) : CT yX12_doDeal cX12_doDeal 7 none ({ frames := 0, cells := 0, slots := 0, locals := 0 }) n [.ref 77, .int (iI kd), .int (iI h), .int (iI k), .int (iI q)] M (rV (xseM M kd h k q)) := by
  refine CT.of (lv0 := [(0, .ref 77), (1, .int (iI kd)), (2, .int (iI h)), (3, .int (iI k)), (4, .int (iI q))]) (by decide +kernel) hn (fun _ => rfl) (fun _ => Nat.le_of_ble_eq_true rfl) (fun X cx cs qx => ?_)
  have cx : Cx X cX12_doDeal RX12 ({ frames := 0, cells := 0, slots := 0, locals := 0 }) 7 n := cx
  refine g_iload_n cx (pc2 := 1) 1 rfl dX12_doDeal_0 rfl ?_
  refine g_if_ne cx (pc2 := 4) (tgt := 16) (by first | assumption | omega) dX12_doDeal_1 (by decide) rfl (fun h_1 => ?_) (fun h_1 => ?_)
  · skip
    have L26 : ∀ (g : Int), (g = xgi kd h k) → G X 26 [(0, .ref 77), (1, .int (iI kd)), (2, .int (iI h)), (3, .int (iI k)), (4, .int (iI q))] [.int (iI g)] M := by
      intro g hg
      have hgb : 0 ≤ g ∧ g < 8 := by rw [hg]; unfold xgi; split <;> omega
      refine g_istore cx (pc2 := 28) (lv2 := [(0, .ref 77), (1, .int (iI kd)), (2, .int (iI h)), (3, .int (iI k)), (4, .int (iI q)), (5, .int (iI g))]) rfl (Nat.le_of_ble_eq_true rfl) dX12_doDeal_26 rfl ?_
      have L38 : ∀ (t : Int), (t = xta kd h k) → G X 38 [(0, .ref 77), (1, .int (iI kd)), (2, .int (iI h)), (3, .int (iI k)), (4, .int (iI q)), (5, .int (iI g))] [.int (iI t)] M := by
        intro t ht
        have htb : 0 ≤ t ∧ t < 8 := by rw [ht]; unfold xta; split <;> omega
        refine g_istore cx (pc2 := 40) (lv2 := [(0, .ref 77), (1, .int (iI kd)), (2, .int (iI h)), (3, .int (iI k)), (4, .int (iI q)), (5, .int (iI g)), (6, .int (iI t))]) rfl (Nat.le_of_ble_eq_true rfl) dX12_doDeal_38 rfl ?_
        refine g_aload_n cx (pc2 := 41) 0 rfl dX12_doDeal_40 rfl ?_
        refine g_get cx (pc2 := 44) (ci := 12) (k0 := 77) (j := 33) (v := .ref 97) rfl iwX12 rfl (lt_lit hn (Nat.le_of_ble_eq_true rfl)) rfl (Nat.le_of_ble_eq_true rfl) kf_X12_68 rfl rfl dX12_doDeal_41 rfl ?_
        refine g_iload cx (pc2 := 46) 5 rfl dX12_doDeal_44 rfl ?_
        refine g_dup2 cx (pc2 := 47) rfl rfl dX12_doDeal_46 rfl ?_
        refine g_iald cx (pc2 := 48) (k0 := 97) rfl (lt_lit hn (Nat.le_of_ble_eq_true rfl)) (by first | assumption | omega) (by first | assumption | omega) (Nat.le_of_ble_eq_true rfl) dX12_doDeal_47 rfl ?_
        refine g_rwi (y := iI (M 97 ((g).toNat))) (congrArg iI (by simp [stM])) ?_
        refine g_iload cx (pc2 := 50) 4 rfl dX12_doDeal_48 rfl ?_
        refine g_isub cx (pc2 := 51) dX12_doDeal_50 rfl ?_
        refine g_iast cx (pc2 := 52) (k0 := 97) rfl (lt_lit hn (Nat.le_of_ble_eq_true rfl)) (by first | assumption | omega) (by first | assumption | omega) (Nat.le_of_ble_eq_true rfl) dX12_doDeal_51 rfl ?_
        refine g_M (M2 := (xs1 M kd h k q)) (by rw [hg]; rfl) ?_
        refine g_aload_n cx (pc2 := 53) 0 rfl dX12_doDeal_52 rfl ?_
        refine g_get cx (pc2 := 56) (ci := 12) (k0 := 77) (j := 33) (v := .ref 97) rfl iwX12 rfl (lt_lit hn (Nat.le_of_ble_eq_true rfl)) rfl (Nat.le_of_ble_eq_true rfl) kf_X12_68 rfl rfl dX12_doDeal_53 rfl ?_
        refine g_iload cx (pc2 := 58) 6 rfl dX12_doDeal_56 rfl ?_
        refine g_dup2 cx (pc2 := 59) rfl rfl dX12_doDeal_58 rfl ?_
        refine g_iald cx (pc2 := 60) (k0 := 97) rfl (lt_lit hn (Nat.le_of_ble_eq_true rfl)) (by first | assumption | omega) (by first | assumption | omega) (Nat.le_of_ble_eq_true rfl) dX12_doDeal_59 rfl ?_
        refine g_rwi (y := iI ((xs1 M kd h k q) 97 ((t).toNat))) (congrArg iI (by simp [stM])) ?_
        refine g_iload cx (pc2 := 62) 4 rfl dX12_doDeal_60 rfl ?_
        refine g_iadd cx (pc2 := 63) dX12_doDeal_62 rfl ?_
        refine g_iast cx (pc2 := 64) (k0 := 97) rfl (lt_lit hn (Nat.le_of_ble_eq_true rfl)) (by first | assumption | omega) (by first | assumption | omega) (Nat.le_of_ble_eq_true rfl) dX12_doDeal_63 rfl ?_
        refine g_M (M2 := (xs2 M kd h k q)) (by rw [ht]; rfl) ?_
        refine g_aload_n cx (pc2 := 65) 0 rfl dX12_doDeal_64 rfl ?_
        refine g_get cx (pc2 := 68) (ci := 12) (k0 := 77) (j := 34) (v := .ref 98) rfl iwX12 rfl (lt_lit hn (Nat.le_of_ble_eq_true rfl)) rfl (Nat.le_of_ble_eq_true rfl) kf_X12_71 rfl rfl dX12_doDeal_65 rfl ?_
        refine g_bipush cx (pc2 := 70) ⟨by decide, by decide⟩ dX12_doDeal_68 rfl ?_
        refine g_iload_n cx (pc2 := 71) 3 rfl dX12_doDeal_70 rfl ?_
        refine g_imul cx (pc2 := 72) dX12_doDeal_71 rfl ?_
        refine g_iload_n cx (pc2 := 73) 2 rfl dX12_doDeal_72 rfl ?_
        refine g_iadd cx (pc2 := 74) dX12_doDeal_73 rfl ?_
        refine g_dup2 cx (pc2 := 75) rfl rfl dX12_doDeal_74 rfl ?_
        refine g_iald cx (pc2 := 76) (k0 := 98) rfl (lt_lit hn (Nat.le_of_ble_eq_true rfl)) (by first | assumption | omega) (by first | assumption | omega) (Nat.le_of_ble_eq_true rfl) dX12_doDeal_75 rfl ?_
        refine g_rwi (y := iI ((xs2 M kd h k q) 98 (((8 * k) + h).toNat))) (congrArg iI (by simp [stM])) ?_
        have L87 : ∀ (x : Int), (x = if kd = 1 then q else 0) → G X 87 [(0, .ref 77), (1, .int (iI kd)), (2, .int (iI h)), (3, .int (iI k)), (4, .int (iI q))] [.int (iI x), .int (iI (xs2 M kd h k q 98 (8 * k + h).toNat)), .int (iI (8 * k + h)), .ref 98] (xs2 M kd h k q) := by
          intro x hx
          refine g_iadd cx (pc2 := 88) dX12_doDeal_87 rfl ?_
          refine g_iast cx (pc2 := 89) (k0 := 98) rfl (lt_lit hn (Nat.le_of_ble_eq_true rfl)) (by first | assumption | omega) (by first | assumption | omega) (Nat.le_of_ble_eq_true rfl) dX12_doDeal_88 rfl ?_
          refine g_M (M2 := (xs3 M kd h k q)) (by rw [hx]; rfl) ?_
          refine g_aload_n cx (pc2 := 90) 0 rfl dX12_doDeal_89 rfl ?_
          refine g_get cx (pc2 := 93) (ci := 12) (k0 := 77) (j := 34) (v := .ref 98) rfl iwX12 rfl (lt_lit hn (Nat.le_of_ble_eq_true rfl)) rfl (Nat.le_of_ble_eq_true rfl) kf_X12_71 rfl rfl dX12_doDeal_90 rfl ?_
          refine g_bipush cx (pc2 := 95) ⟨by decide, by decide⟩ dX12_doDeal_93 rfl ?_
          refine g_iload_n cx (pc2 := 96) 2 rfl dX12_doDeal_95 rfl ?_
          refine g_imul cx (pc2 := 97) dX12_doDeal_96 rfl ?_
          refine g_iload_n cx (pc2 := 98) 3 rfl dX12_doDeal_97 rfl ?_
          refine g_iadd cx (pc2 := 99) dX12_doDeal_98 rfl ?_
          refine g_dup2 cx (pc2 := 100) rfl rfl dX12_doDeal_99 rfl ?_
          refine g_iald cx (pc2 := 101) (k0 := 98) rfl (lt_lit hn (Nat.le_of_ble_eq_true rfl)) (by first | assumption | omega) (by first | assumption | omega) (Nat.le_of_ble_eq_true rfl) dX12_doDeal_100 rfl ?_
          refine g_rwi (y := iI ((xs3 M kd h k q) 98 (((8 * h) + k).toNat))) (congrArg iI (by simp [stM])) ?_
          have L125 : ∀ (y : Int), (y = if kd = 3 then 2 * q else if kd = 4 then -q else 0) → G X 125 [(0, .ref 77), (1, .int (iI kd)), (2, .int (iI h)), (3, .int (iI k)), (4, .int (iI q))] [.int (iI y), .int (iI (xs3 M kd h k q 98 (8 * h + k).toNat)), .int (iI (8 * h + k)), .ref 98] (xs3 M kd h k q) := by
            intro y hy
            refine g_iadd cx (pc2 := 126) dX12_doDeal_125 rfl ?_
            refine g_iast cx (pc2 := 127) (k0 := 98) rfl (lt_lit hn (Nat.le_of_ble_eq_true rfl)) (by first | assumption | omega) (by first | assumption | omega) (Nat.le_of_ble_eq_true rfl) dX12_doDeal_126 rfl ?_
            refine g_M (M2 := (xs4 M kd h k q)) (by rw [hy]; rfl) ?_
            exact g_vret cx qx dX12_doDeal_127 ⟨rfl, by unfold xseM; first | (rw [if_pos (by omega)]; done) | (rw [if_neg (by omega)]; done)⟩
          refine g_iload_n cx (pc2 := 102) 1 rfl dX12_doDeal_101 rfl ?_
          refine g_iconst cx (pc2 := 103) dX12_doDeal_102 rfl ?_
          refine g_icmp_ne cx (pc2 := 106) (tgt := 113) ⟨(by first | assumption | omega), ⟨by decide, by decide⟩⟩ dX12_doDeal_103 (by decide) rfl (fun h_2 => ?_) (fun h_2 => ?_)
          · skip
            refine g_iload_n cx (pc2 := 114) 1 rfl dX12_doDeal_113 rfl ?_
            refine g_iconst cx (pc2 := 115) dX12_doDeal_114 rfl ?_
            refine g_icmp_ne cx (pc2 := 118) (tgt := 124) ⟨(by first | assumption | omega), ⟨by decide, by decide⟩⟩ dX12_doDeal_115 (by decide) rfl (fun h_3 => ?_) (fun h_3 => ?_)
            · skip
              refine g_iconst cx (pc2 := 125) dX12_doDeal_124 rfl ?_
              exact L125 0 (by first | (rw [if_pos (by omega)]; done) | (rw [if_neg (by omega), if_pos (by omega)]; done) | (rw [if_neg (by omega), if_neg (by omega)]; done))
            · skip
              refine g_iload cx (pc2 := 120) 4 rfl dX12_doDeal_118 rfl ?_
              refine g_ineg cx (pc2 := 121) dX12_doDeal_120 rfl ?_
              refine g_goto cx (tgt := 125) dX12_doDeal_121 (by decide) ?_
              exact L125 (-q) (by first | (rw [if_pos (by omega)]; done) | (rw [if_neg (by omega), if_pos (by omega)]; done) | (rw [if_neg (by omega), if_neg (by omega)]; done))
          · skip
            refine g_iconst cx (pc2 := 107) dX12_doDeal_106 rfl ?_
            refine g_iload cx (pc2 := 109) 4 rfl dX12_doDeal_107 rfl ?_
            refine g_imul cx (pc2 := 110) dX12_doDeal_109 rfl ?_
            refine g_goto cx (tgt := 125) dX12_doDeal_110 (by decide) ?_
            exact L125 (2 * q) (by first | (rw [if_pos (by omega)]; done) | (rw [if_neg (by omega), if_pos (by omega)]; done) | (rw [if_neg (by omega), if_neg (by omega)]; done))
        refine g_iload_n cx (pc2 := 77) 1 rfl dX12_doDeal_76 rfl ?_
        refine g_iconst cx (pc2 := 78) dX12_doDeal_77 rfl ?_
        refine g_icmp_ne cx (pc2 := 81) (tgt := 86) ⟨(by first | assumption | omega), ⟨by decide, by decide⟩⟩ dX12_doDeal_78 (by decide) rfl (fun h_4 => ?_) (fun h_4 => ?_)
        · skip
          refine g_iconst cx (pc2 := 87) dX12_doDeal_86 rfl ?_
          refine g_sub (lv2 := [(0, .ref 77), (1, .int (iI kd)), (2, .int (iI h)), (3, .int (iI k)), (4, .int (iI q))]) [0, 1, 2, 3, 4] rfl ?_
          exact L87 0 (by first | (rw [if_pos (by omega)]; done) | (rw [if_neg (by omega)]; done))
        · skip
          refine g_iload cx (pc2 := 83) 4 rfl dX12_doDeal_81 rfl ?_
          refine g_goto cx (tgt := 87) dX12_doDeal_83 (by decide) ?_
          refine g_sub (lv2 := [(0, .ref 77), (1, .int (iI kd)), (2, .int (iI h)), (3, .int (iI k)), (4, .int (iI q))]) [0, 1, 2, 3, 4] rfl ?_
          exact L87 q (by first | (rw [if_pos (by omega)]; done) | (rw [if_neg (by omega)]; done))
      refine g_iload_n cx (pc2 := 29) 1 rfl dX12_doDeal_28 rfl ?_
      refine g_iconst cx (pc2 := 30) dX12_doDeal_29 rfl ?_
      refine g_icmp_ne cx (pc2 := 33) (tgt := 37) ⟨(by first | assumption | omega), ⟨by decide, by decide⟩⟩ dX12_doDeal_30 (by decide) rfl (fun h_5 => ?_) (fun h_5 => ?_)
      · skip
        refine g_iload_n cx (pc2 := 38) 3 rfl dX12_doDeal_37 rfl ?_
        exact L38 k (by unfold xta; first | (rw [if_pos (by omega)]; done) | (rw [if_neg (by omega)]; done))
      · skip
        refine g_iload_n cx (pc2 := 34) 2 rfl dX12_doDeal_33 rfl ?_
        refine g_goto cx (tgt := 38) dX12_doDeal_34 (by decide) ?_
        exact L38 h (by unfold xta; first | (rw [if_pos (by omega)]; done) | (rw [if_neg (by omega)]; done))
    refine g_iload_n cx (pc2 := 17) 1 rfl dX12_doDeal_16 rfl ?_
    refine g_iconst cx (pc2 := 18) dX12_doDeal_17 rfl ?_
    refine g_icmp_ne cx (pc2 := 21) (tgt := 25) ⟨(by first | assumption | omega), ⟨by decide, by decide⟩⟩ dX12_doDeal_18 (by decide) rfl (fun h_6 => ?_) (fun h_6 => ?_)
    · skip
      refine g_iload_n cx (pc2 := 26) 2 rfl dX12_doDeal_25 rfl ?_
      exact L26 h (by unfold xgi; first | (rw [if_pos (by omega)]; done) | (rw [if_neg (by omega)]; done))
    · skip
      refine g_iload_n cx (pc2 := 22) 3 rfl dX12_doDeal_21 rfl ?_
      refine g_goto cx (tgt := 26) dX12_doDeal_22 (by decide) ?_
      exact L26 k (by unfold xgi; first | (rw [if_pos (by omega)]; done) | (rw [if_neg (by omega)]; done))
  · skip
    refine g_aload_n cx (pc2 := 5) 0 rfl dX12_doDeal_4 rfl ?_
    refine g_get cx (pc2 := 8) (ci := 12) (k0 := 77) (j := 33) (v := .ref 97) rfl iwX12 rfl (lt_lit hn (Nat.le_of_ble_eq_true rfl)) rfl (Nat.le_of_ble_eq_true rfl) kf_X12_68 rfl rfl dX12_doDeal_5 rfl ?_
    refine g_iload_n cx (pc2 := 9) 2 rfl dX12_doDeal_8 rfl ?_
    refine g_dup2 cx (pc2 := 10) rfl rfl dX12_doDeal_9 rfl ?_
    refine g_iald cx (pc2 := 11) (k0 := 97) rfl (lt_lit hn (Nat.le_of_ble_eq_true rfl)) (by first | assumption | omega) (by first | assumption | omega) (Nat.le_of_ble_eq_true rfl) dX12_doDeal_10 rfl ?_
    refine g_rwi (y := iI (M 97 ((h).toNat))) (congrArg iI (by simp [stM])) ?_
    refine g_iload cx (pc2 := 13) 4 rfl dX12_doDeal_11 rfl ?_
    refine g_iadd cx (pc2 := 14) dX12_doDeal_13 rfl ?_
    refine g_iast cx (pc2 := 15) (k0 := 97) rfl (lt_lit hn (Nat.le_of_ble_eq_true rfl)) (by first | assumption | omega) (by first | assumption | omega) (Nat.le_of_ble_eq_true rfl) dX12_doDeal_14 rfl ?_
    exact g_vret cx qx dX12_doDeal_15 ⟨rfl, by unfold xseM; first | (rw [if_pos (by omega)]; done) | (rw [if_neg (by omega)]; done)⟩
set_option maxHeartbeats 4000000 in
set_option maxRecDepth 100000 in
theorem c_X12_deal {n : Nat} (hn : NN n) {M : Mm} (hV : RV M) (hD : DLX M) (kd h k q : Int) (hkd : ir kd) (hh : ir h) (hk : ir k) (hq : ir q) : CT yX12_deal cX12_deal 7 (some .int) ({ frames := 2, cells := 0, slots := 0, locals := 43 }) n [.ref 77, .int (iI kd), .int (iI h), .int (iI k), .int (iI q)] M (rI (xdeA M kd h k q) (xdeM M kd h k q)) := by
  refine CT.of (lv0 := [(0, .ref 77), (1, .int (iI kd)), (2, .int (iI h)), (3, .int (iI k)), (4, .int (iI q))]) (by decide +kernel) hn (fun _ => rfl) (fun _ => Nat.le_of_ble_eq_true rfl) (fun X cx cs qx => ?_)
  have cx : Cx X cX12_deal RX12 ({ frames := 2, cells := 0, slots := 0, locals := 43 }) 7 n := cx
  have hv1 := hV.1
  have hd0 := hD.1
  have L47 : (¬ xdB M kd h k q ∧ (0 ≤ kd ∧ kd ≤ 4) ∧ (0 ≤ h ∧ h < 8) ∧ (kd = 0 ∨ (0 ≤ k ∧ k < 8)) ∧ 1 ≤ q ∧ q ≤ 99) → G X 47 [(0, .ref 77), (1, .int (iI kd)), (2, .int (iI h)), (3, .int (iI k)), (4, .int (iI q))] [] M := by
    intro hBe
    have hB0 := hBe.1
    have hB1 := hBe.2
    refine g_iload_n cx (pc2 := 48) 1 rfl dX12_deal_47 rfl ?_
    refine g_iconst cx (pc2 := 49) dX12_deal_48 rfl ?_
    have L57 : ∀ (g : Int), (g = xgi kd h k) → G X 57 [(0, .ref 77), (1, .int (iI kd)), (2, .int (iI h)), (3, .int (iI k)), (4, .int (iI q))] [.int (iI g)] M := by
      intro g hg
      have hgb : 0 ≤ g ∧ g < 8 := by rw [hg]; unfold xgi; split <;> omega
      have hw1 := ir_wr (M 97 g.toNat)
      have hw2 := ir_wr (M 98 (8 * h + k).toNat)
      have hS0 : xdS M kd h k q ↔ (0 < kd ∧ wr (M 97 g.toNat) < q) ∨ (kd = 4 ∧ wr (M 98 (8 * h + k).toNat) < q) := by rw [hg]; exact xdS_iff
      refine g_istore cx (pc2 := 59) (lv2 := [(0, .ref 77), (1, .int (iI kd)), (2, .int (iI h)), (3, .int (iI k)), (4, .int (iI q)), (5, .int (iI g))]) rfl (Nat.le_of_ble_eq_true rfl) dX12_deal_57 rfl ?_
      have L99 : (¬ xdS M kd h k q) → G X 99 [(0, .ref 77), (1, .int (iI kd)), (2, .int (iI h)), (3, .int (iI k)), (4, .int (iI q))] [] M := by
        intro hS
        refine g_aload_n cx (pc2 := 100) 0 rfl dX12_deal_99 rfl ?_
        refine g_get cx (pc2 := 103) (ci := 12) (k0 := 77) (j := 35) (v := .int (iI (M 77 35))) rfl iwX12 rfl (lt_lit hn (Nat.le_of_ble_eq_true rfl)) rfl (Nat.le_of_ble_eq_true rfl) kf_X12_174 rfl rfl dX12_deal_100 rfl ?_
        refine g_bipush cx (pc2 := 105) ⟨by decide, by decide⟩ dX12_deal_103 rfl ?_
        refine g_icmp_ne cx (pc2 := 108) (tgt := 111) ⟨(by first | assumption | omega), ⟨by decide, by decide⟩⟩ dX12_deal_105 (by decide) rfl (fun h_1 => ?_) (fun h_1 => ?_)
        · skip
          refine g_aload_n cx (pc2 := 112) 0 rfl dX12_deal_111 rfl ?_
          refine g_iload_n cx (pc2 := 113) 1 rfl dX12_deal_112 rfl ?_
          refine g_iload_n cx (pc2 := 114) 2 rfl dX12_deal_113 rfl ?_
          refine g_iload_n cx (pc2 := 115) 3 rfl dX12_deal_114 rfl ?_
          refine g_iload cx (pc2 := 117) 4 rfl dX12_deal_115 rfl ?_
          refine g_callV cx (pc2 := 120) (st := []) (As := [.int (iI kd), .int (iI h), .int (iI k), .int (iI q)]) (k0 := 77) (ci := 12) (c_X12_doDeal (M := M) hn kd h k q (by omega) (by omega) (by first | assumption | omega)) wM_X12_doDeal wV_X12_doDeal kl_X12_312 rfl (lt_lit hn (Nat.le_of_ble_eq_true rfl)) rfl ⟨rfl, rfl, Nat.le_of_ble_eq_true rfl, Nat.le_of_ble_eq_true rfl⟩ (Nat.le_of_ble_eq_true rfl) cs rfl rfl dX12_deal_117 rfl ?_
          rintro _ _ ⟨rfl, rfl⟩
          refine g_iconst cx (pc2 := 121) dX12_deal_120 rfl ?_
          refine g_aload_n cx (pc2 := 122) 0 rfl dX12_deal_121 rfl ?_
          refine g_get cx (pc2 := 125) (ci := 12) (k0 := 77) (j := 35) (v := .int (iI ((xseM M kd h k q) 77 35))) rfl iwX12 rfl (lt_lit hn (Nat.le_of_ble_eq_true rfl)) rfl (Nat.le_of_ble_eq_true rfl) kf_X12_174 rfl rfl dX12_deal_122 rfl ?_
          refine g_rwi (y := iI (M 77 35)) (congrArg iI (by rw [xseM_off _ _ _ _ _ (by decide) (by decide)])) ?_
          refine g_imul cx (pc2 := 126) dX12_deal_125 rfl ?_
          refine g_istore cx (pc2 := 128) (lv2 := [(0, .ref 77), (1, .int (iI kd)), (2, .int (iI h)), (3, .int (iI k)), (4, .int (iI q)), (6, .int (iI (4 * (M 77 35))))]) rfl (Nat.le_of_ble_eq_true rfl) dX12_deal_126 rfl ?_
          refine g_aload_n cx (pc2 := 129) 0 rfl dX12_deal_128 rfl ?_
          refine g_get cx (pc2 := 132) (ci := 12) (k0 := 77) (j := 36) (v := .ref 99) rfl iwX12 rfl (lt_lit hn (Nat.le_of_ble_eq_true rfl)) rfl (Nat.le_of_ble_eq_true rfl) kf_X12_74 rfl rfl dX12_deal_129 rfl ?_
          refine g_iload cx (pc2 := 134) 5 rfl dX12_deal_132 rfl ?_
          refine g_iload_n cx (pc2 := 135) 1 rfl dX12_deal_134 rfl ?_
          refine g_iast cx (pc2 := 136) (k0 := 99) rfl (lt_lit hn (Nat.le_of_ble_eq_true rfl)) (by first | assumption | omega) (by first | assumption | omega) (Nat.le_of_ble_eq_true rfl) dX12_deal_135 rfl ?_
          refine g_aload_n cx (pc2 := 137) 0 rfl dX12_deal_136 rfl ?_
          refine g_get cx (pc2 := 140) (ci := 12) (k0 := 77) (j := 36) (v := .ref 99) rfl iwX12 rfl (lt_lit hn (Nat.le_of_ble_eq_true rfl)) rfl (Nat.le_of_ble_eq_true rfl) kf_X12_74 rfl rfl dX12_deal_137 rfl ?_
          refine g_iload cx (pc2 := 142) 5 rfl dX12_deal_140 rfl ?_
          refine g_iconst cx (pc2 := 143) dX12_deal_142 rfl ?_
          refine g_iadd cx (pc2 := 144) dX12_deal_143 rfl ?_
          refine g_iload_n cx (pc2 := 145) 2 rfl dX12_deal_144 rfl ?_
          refine g_iast cx (pc2 := 146) (k0 := 99) rfl (lt_lit hn (Nat.le_of_ble_eq_true rfl)) (by first | assumption | omega) (by first | assumption | omega) (Nat.le_of_ble_eq_true rfl) dX12_deal_145 rfl ?_
          refine g_aload_n cx (pc2 := 147) 0 rfl dX12_deal_146 rfl ?_
          refine g_get cx (pc2 := 150) (ci := 12) (k0 := 77) (j := 36) (v := .ref 99) rfl iwX12 rfl (lt_lit hn (Nat.le_of_ble_eq_true rfl)) rfl (Nat.le_of_ble_eq_true rfl) kf_X12_74 rfl rfl dX12_deal_147 rfl ?_
          refine g_iload cx (pc2 := 152) 5 rfl dX12_deal_150 rfl ?_
          refine g_iconst cx (pc2 := 153) dX12_deal_152 rfl ?_
          refine g_iadd cx (pc2 := 154) dX12_deal_153 rfl ?_
          refine g_iload_n cx (pc2 := 155) 3 rfl dX12_deal_154 rfl ?_
          refine g_iast cx (pc2 := 156) (k0 := 99) rfl (lt_lit hn (Nat.le_of_ble_eq_true rfl)) (by first | assumption | omega) (by first | assumption | omega) (Nat.le_of_ble_eq_true rfl) dX12_deal_155 rfl ?_
          refine g_aload_n cx (pc2 := 157) 0 rfl dX12_deal_156 rfl ?_
          refine g_get cx (pc2 := 160) (ci := 12) (k0 := 77) (j := 36) (v := .ref 99) rfl iwX12 rfl (lt_lit hn (Nat.le_of_ble_eq_true rfl)) rfl (Nat.le_of_ble_eq_true rfl) kf_X12_74 rfl rfl dX12_deal_157 rfl ?_
          refine g_iload cx (pc2 := 162) 5 rfl dX12_deal_160 rfl ?_
          refine g_iconst cx (pc2 := 163) dX12_deal_162 rfl ?_
          refine g_iadd cx (pc2 := 164) dX12_deal_163 rfl ?_
          refine g_iload cx (pc2 := 166) 4 rfl dX12_deal_164 rfl ?_
          refine g_iast cx (pc2 := 167) (k0 := 99) rfl (lt_lit hn (Nat.le_of_ble_eq_true rfl)) (by first | assumption | omega) (by first | assumption | omega) (Nat.le_of_ble_eq_true rfl) dX12_deal_166 rfl ?_
          refine g_aload_n cx (pc2 := 168) 0 rfl dX12_deal_167 rfl ?_
          refine g_dup cx (pc2 := 169) rfl dX12_deal_168 rfl ?_
          refine g_get cx (pc2 := 172) (ci := 12) (k0 := 77) (j := 35) (v := .int (iI ((xseM M kd h k q) 77 35))) rfl iwX12 rfl (lt_lit hn (Nat.le_of_ble_eq_true rfl)) rfl (Nat.le_of_ble_eq_true rfl) kf_X12_174 rfl (congrArg (fun q => Value.int (iI q)) (by simp [stM])) dX12_deal_169 rfl ?_
          refine g_rwi (y := iI (M 77 35)) (congrArg iI (by rw [xseM_off _ _ _ _ _ (by decide) (by decide)])) ?_
          refine g_iconst cx (pc2 := 173) dX12_deal_172 rfl ?_
          refine g_iadd cx (pc2 := 174) dX12_deal_173 rfl ?_
          refine g_puti cx (pc2 := 177) (ci := 12) (k0 := 77) (j := 35) rfl iwX12 rfl (lt_lit hn (Nat.le_of_ble_eq_true rfl)) rfl (Nat.le_of_ble_eq_true rfl) kf_X12_174 rfl tyX12_ok nmX12 rfl rfl dX12_deal_174 rfl ?_
          refine g_aload_n cx (pc2 := 178) 0 rfl dX12_deal_177 rfl ?_
          refine g_get cx (pc2 := 181) (ci := 12) (k0 := 77) (j := 35) (v := .int (iI ((M 77 35) + 1))) rfl iwX12 rfl (lt_lit hn (Nat.le_of_ble_eq_true rfl)) rfl (Nat.le_of_ble_eq_true rfl) kf_X12_174 rfl (congrArg (fun q => Value.int (iI q)) (by simp [stM])) dX12_deal_178 rfl ?_
          refine g_iconst cx (pc2 := 182) dX12_deal_181 rfl ?_
          refine g_isub cx (pc2 := 183) dX12_deal_182 rfl ?_
          refine g_rwi (y := iI (M 77 35)) (congrArg iI (by omega)) ?_
          exact g_iret cx qx dX12_deal_183 ⟨congrArg (fun q => some (Value.int (iI q))) (by unfold xdeA; rw [if_neg hB0, if_neg hS, if_neg (by omega)]), by unfold xdeM; rw [if_neg hB0, if_neg hS, if_neg (by omega)]; rfl⟩
        · skip
          refine g_bipush cx (pc2 := 110) ⟨by decide, by decide⟩ dX12_deal_108 rfl ?_
          exact g_iret cx qx dX12_deal_110 ⟨congrArg (fun q => some (Value.int (iI q))) (by unfold xdeA; rw [if_neg hB0, if_neg hS, if_pos (by omega)]), by unfold xdeM; rw [if_neg hB0, if_neg hS, if_pos (by omega)]⟩
      refine g_iload_n cx (pc2 := 60) 1 rfl dX12_deal_59 rfl ?_
      refine g_if_le cx (pc2 := 63) (tgt := 75) (by first | assumption | omega) dX12_deal_60 (by decide) rfl (fun h_2 => ?_) (fun h_2 => ?_)
      · skip
        refine g_iload_n cx (pc2 := 76) 1 rfl dX12_deal_75 rfl ?_
        refine g_iconst cx (pc2 := 77) dX12_deal_76 rfl ?_
        refine g_icmp_ne cx (pc2 := 80) (tgt := 99) ⟨(by first | assumption | omega), ⟨by decide, by decide⟩⟩ dX12_deal_77 (by decide) rfl (fun h_3 => ?_) (fun h_3 => ?_)
        · skip
          refine g_sub (lv2 := [(0, .ref 77), (1, .int (iI kd)), (2, .int (iI h)), (3, .int (iI k)), (4, .int (iI q))]) [0, 1, 2, 3, 4] rfl ?_
          exact L99  (by rw [hS0]; omega)
        · skip
          refine g_aload_n cx (pc2 := 81) 0 rfl dX12_deal_80 rfl ?_
          refine g_get cx (pc2 := 84) (ci := 12) (k0 := 77) (j := 34) (v := .ref 98) rfl iwX12 rfl (lt_lit hn (Nat.le_of_ble_eq_true rfl)) rfl (Nat.le_of_ble_eq_true rfl) kf_X12_71 rfl rfl dX12_deal_81 rfl ?_
          refine g_bipush cx (pc2 := 86) ⟨by decide, by decide⟩ dX12_deal_84 rfl ?_
          refine g_iload_n cx (pc2 := 87) 2 rfl dX12_deal_86 rfl ?_
          refine g_imul cx (pc2 := 88) dX12_deal_87 rfl ?_
          refine g_iload_n cx (pc2 := 89) 3 rfl dX12_deal_88 rfl ?_
          refine g_iadd cx (pc2 := 90) dX12_deal_89 rfl ?_
          refine g_iald cx (pc2 := 91) (k0 := 98) rfl (lt_lit hn (Nat.le_of_ble_eq_true rfl)) (by first | assumption | omega) (by first | assumption | omega) (Nat.le_of_ble_eq_true rfl) dX12_deal_90 rfl ?_
          refine g_rwi (y := iI (M 98 (((8 * h) + k).toNat))) (congrArg iI (by simp [stM])) ?_
          refine g_rwi (y := iI (wr (M 98 (8 * h + k).toNat))) ((iI_wr _).symm) ?_
          refine g_iload cx (pc2 := 93) 4 rfl dX12_deal_91 rfl ?_
          refine g_icmp_ge cx (pc2 := 96) (tgt := 99) ⟨(by first | assumption | omega), (by first | assumption | omega)⟩ dX12_deal_93 (by decide) rfl (fun h_4 => ?_) (fun h_4 => ?_)
          · skip
            refine g_sub (lv2 := [(0, .ref 77), (1, .int (iI kd)), (2, .int (iI h)), (3, .int (iI k)), (4, .int (iI q))]) [0, 1, 2, 3, 4] rfl ?_
            exact L99  (by rw [hS0]; omega)
          · skip
            refine g_bipush cx (pc2 := 98) ⟨by decide, by decide⟩ dX12_deal_96 rfl ?_
            exact g_iret cx qx dX12_deal_98 ⟨congrArg (fun q => some (Value.int (iI q))) (by unfold xdeA; rw [if_neg hB0, if_pos (hS0.mpr (by omega))]), by unfold xdeM; rw [if_neg hB0, if_pos (hS0.mpr (by omega))]⟩
      · skip
        refine g_aload_n cx (pc2 := 64) 0 rfl dX12_deal_63 rfl ?_
        refine g_get cx (pc2 := 67) (ci := 12) (k0 := 77) (j := 33) (v := .ref 97) rfl iwX12 rfl (lt_lit hn (Nat.le_of_ble_eq_true rfl)) rfl (Nat.le_of_ble_eq_true rfl) kf_X12_68 rfl rfl dX12_deal_64 rfl ?_
        refine g_iload cx (pc2 := 69) 5 rfl dX12_deal_67 rfl ?_
        refine g_iald cx (pc2 := 70) (k0 := 97) rfl (lt_lit hn (Nat.le_of_ble_eq_true rfl)) (by first | assumption | omega) (by first | assumption | omega) (Nat.le_of_ble_eq_true rfl) dX12_deal_69 rfl ?_
        refine g_rwi (y := iI (M 97 ((g).toNat))) (congrArg iI (by simp [stM])) ?_
        refine g_rwi (y := iI (wr (M 97 g.toNat))) ((iI_wr _).symm) ?_
        refine g_iload cx (pc2 := 72) 4 rfl dX12_deal_70 rfl ?_
        refine g_icmp_lt cx (pc2 := 75) (tgt := 96) ⟨(by first | assumption | omega), (by first | assumption | omega)⟩ dX12_deal_72 (by decide) rfl (fun h_5 => ?_) (fun h_5 => ?_)
        · skip
          refine g_bipush cx (pc2 := 98) ⟨by decide, by decide⟩ dX12_deal_96 rfl ?_
          exact g_iret cx qx dX12_deal_98 ⟨congrArg (fun q => some (Value.int (iI q))) (by unfold xdeA; rw [if_neg hB0, if_pos (hS0.mpr (by omega))]), by unfold xdeM; rw [if_neg hB0, if_pos (hS0.mpr (by omega))]⟩
        · skip
          refine g_iload_n cx (pc2 := 76) 1 rfl dX12_deal_75 rfl ?_
          refine g_iconst cx (pc2 := 77) dX12_deal_76 rfl ?_
          refine g_icmp_ne cx (pc2 := 80) (tgt := 99) ⟨(by first | assumption | omega), ⟨by decide, by decide⟩⟩ dX12_deal_77 (by decide) rfl (fun h_6 => ?_) (fun h_6 => ?_)
          · skip
            refine g_sub (lv2 := [(0, .ref 77), (1, .int (iI kd)), (2, .int (iI h)), (3, .int (iI k)), (4, .int (iI q))]) [0, 1, 2, 3, 4] rfl ?_
            exact L99  (by rw [hS0]; omega)
          · skip
            refine g_aload_n cx (pc2 := 81) 0 rfl dX12_deal_80 rfl ?_
            refine g_get cx (pc2 := 84) (ci := 12) (k0 := 77) (j := 34) (v := .ref 98) rfl iwX12 rfl (lt_lit hn (Nat.le_of_ble_eq_true rfl)) rfl (Nat.le_of_ble_eq_true rfl) kf_X12_71 rfl rfl dX12_deal_81 rfl ?_
            refine g_bipush cx (pc2 := 86) ⟨by decide, by decide⟩ dX12_deal_84 rfl ?_
            refine g_iload_n cx (pc2 := 87) 2 rfl dX12_deal_86 rfl ?_
            refine g_imul cx (pc2 := 88) dX12_deal_87 rfl ?_
            refine g_iload_n cx (pc2 := 89) 3 rfl dX12_deal_88 rfl ?_
            refine g_iadd cx (pc2 := 90) dX12_deal_89 rfl ?_
            refine g_iald cx (pc2 := 91) (k0 := 98) rfl (lt_lit hn (Nat.le_of_ble_eq_true rfl)) (by first | assumption | omega) (by first | assumption | omega) (Nat.le_of_ble_eq_true rfl) dX12_deal_90 rfl ?_
            refine g_rwi (y := iI (M 98 (((8 * h) + k).toNat))) (congrArg iI (by simp [stM])) ?_
            refine g_rwi (y := iI (wr (M 98 (8 * h + k).toNat))) ((iI_wr _).symm) ?_
            refine g_iload cx (pc2 := 93) 4 rfl dX12_deal_91 rfl ?_
            refine g_icmp_ge cx (pc2 := 96) (tgt := 99) ⟨(by first | assumption | omega), (by first | assumption | omega)⟩ dX12_deal_93 (by decide) rfl (fun h_7 => ?_) (fun h_7 => ?_)
            · skip
              refine g_sub (lv2 := [(0, .ref 77), (1, .int (iI kd)), (2, .int (iI h)), (3, .int (iI k)), (4, .int (iI q))]) [0, 1, 2, 3, 4] rfl ?_
              exact L99  (by rw [hS0]; omega)
            · skip
              refine g_bipush cx (pc2 := 98) ⟨by decide, by decide⟩ dX12_deal_96 rfl ?_
              exact g_iret cx qx dX12_deal_98 ⟨congrArg (fun q => some (Value.int (iI q))) (by unfold xdeA; rw [if_neg hB0, if_pos (hS0.mpr (by omega))]), by unfold xdeM; rw [if_neg hB0, if_pos (hS0.mpr (by omega))]⟩
    refine g_icmp_ne cx (pc2 := 52) (tgt := 56) ⟨(by first | assumption | omega), ⟨by decide, by decide⟩⟩ dX12_deal_49 (by decide) rfl (fun h_8 => ?_) (fun h_8 => ?_)
    · skip
      refine g_iload_n cx (pc2 := 57) 2 rfl dX12_deal_56 rfl ?_
      exact L57 h (by unfold xgi; first | (rw [if_pos (by omega)]; done) | (rw [if_neg (by omega)]; done))
    · skip
      refine g_iload_n cx (pc2 := 53) 3 rfl dX12_deal_52 rfl ?_
      refine g_goto cx (tgt := 57) dX12_deal_53 (by decide) ?_
      exact L57 k (by unfold xgi; first | (rw [if_pos (by omega)]; done) | (rw [if_neg (by omega)]; done))
  refine g_iload_n cx (pc2 := 1) 1 rfl dX12_deal_0 rfl ?_
  refine g_iconst cx (pc2 := 2) dX12_deal_1 rfl ?_
  refine g_iconst cx (pc2 := 3) dX12_deal_2 rfl ?_
  refine g_callS cx (pc2 := 6) (st := []) (As := [.int (iI kd), .int (iI 0), .int (iI 4)]) (c_X12_in (M := M) hn kd 0 4 (by first | assumption | omega) (by first | assumption | omega) (by first | assumption | omega)) wM_X12_in wS_X12_in kl_X12_97 ⟨rfl, rfl, Nat.le_of_ble_eq_true rfl, Nat.le_of_ble_eq_true rfl⟩ (Nat.le_of_ble_eq_true rfl) cs rfl rfl dX12_deal_3 rfl ?_
  rintro _ _ ⟨rfl, rfl⟩
  refine g_ifb_eq cx (pc2 := 9) (tgt := 45) dX12_deal_6 (by decide) rfl (fun h_9 => ?_) (fun h_9 => ?_)
  · skip
    refine g_iconst cx (pc2 := 46) dX12_deal_45 rfl ?_
    exact g_iret cx qx dX12_deal_46 ⟨congrArg (fun q => some (Value.int (iI q))) (by unfold xdeA; rw [if_pos (xdB_iff.mpr (by omega))]), by unfold xdeM; rw [if_pos (xdB_iff.mpr (by omega))]⟩
  · skip
    refine g_aload_n cx (pc2 := 10) 0 rfl dX12_deal_9 rfl ?_
    refine g_iload_n cx (pc2 := 11) 2 rfl dX12_deal_10 rfl ?_
    refine g_callV cx (pc2 := 14) (st := []) (As := [.int (iI h)]) (k0 := 77) (ci := 12) (c_X12_isHouse (M := M) hn (by exact hV) h (by omega)) wM_X12_isHouse wV_X12_isHouse kl_X12_189 rfl (lt_lit hn (Nat.le_of_ble_eq_true rfl)) rfl ⟨rfl, rfl, Nat.le_of_ble_eq_true rfl, Nat.le_of_ble_eq_true rfl⟩ (Nat.le_of_ble_eq_true rfl) cs rfl rfl dX12_deal_11 rfl ?_
    rintro _ _ ⟨rfl, rfl⟩
    refine g_ifb_eq cx (pc2 := 17) (tgt := 45) dX12_deal_14 (by decide) rfl (fun h_10 => ?_) (fun h_10 => ?_)
    · skip
      refine g_iconst cx (pc2 := 46) dX12_deal_45 rfl ?_
      exact g_iret cx qx dX12_deal_46 ⟨congrArg (fun q => some (Value.int (iI q))) (by unfold xdeA; rw [if_pos (xdB_iff.mpr (by omega))]), by unfold xdeM; rw [if_pos (xdB_iff.mpr (by omega))]⟩
    · skip
      refine g_iload_n cx (pc2 := 18) 1 rfl dX12_deal_17 rfl ?_
      refine g_if_le cx (pc2 := 21) (tgt := 34) (by first | assumption | omega) dX12_deal_18 (by decide) rfl (fun h_11 => ?_) (fun h_11 => ?_)
      · skip
        refine g_iload cx (pc2 := 36) 4 rfl dX12_deal_34 rfl ?_
        refine g_iconst cx (pc2 := 37) dX12_deal_36 rfl ?_
        refine g_bipush cx (pc2 := 39) ⟨by decide, by decide⟩ dX12_deal_37 rfl ?_
        refine g_callS cx (pc2 := 42) (st := []) (As := [.int (iI q), .int (iI 1), .int (iI 99)]) (c_X12_in (M := M) hn q 1 99 (by first | assumption | omega) (by first | assumption | omega) (by first | assumption | omega)) wM_X12_in wS_X12_in kl_X12_97 ⟨rfl, rfl, Nat.le_of_ble_eq_true rfl, Nat.le_of_ble_eq_true rfl⟩ (Nat.le_of_ble_eq_true rfl) cs rfl rfl dX12_deal_39 rfl ?_
        rintro _ _ ⟨rfl, rfl⟩
        refine g_ifb_ne cx (pc2 := 45) (tgt := 47) dX12_deal_42 (by decide) rfl (fun h_12 => ?_) (fun h_12 => ?_)
        · skip
          exact L47  (by refine ⟨fun z => absurd (xdB_iff.mp z) (by omega), by omega, by omega, by omega, by omega⟩)
        · skip
          refine g_iconst cx (pc2 := 46) dX12_deal_45 rfl ?_
          exact g_iret cx qx dX12_deal_46 ⟨congrArg (fun q => some (Value.int (iI q))) (by unfold xdeA; rw [if_pos (xdB_iff.mpr (by omega))]), by unfold xdeM; rw [if_pos (xdB_iff.mpr (by omega))]⟩
      · skip
        refine g_aload_n cx (pc2 := 22) 0 rfl dX12_deal_21 rfl ?_
        refine g_iload_n cx (pc2 := 23) 3 rfl dX12_deal_22 rfl ?_
        refine g_callV cx (pc2 := 26) (st := []) (As := [.int (iI k)]) (k0 := 77) (ci := 12) (c_X12_isHouse (M := M) hn (by exact hV) k (by omega)) wM_X12_isHouse wV_X12_isHouse kl_X12_189 rfl (lt_lit hn (Nat.le_of_ble_eq_true rfl)) rfl ⟨rfl, rfl, Nat.le_of_ble_eq_true rfl, Nat.le_of_ble_eq_true rfl⟩ (Nat.le_of_ble_eq_true rfl) cs rfl rfl dX12_deal_23 rfl ?_
        rintro _ _ ⟨rfl, rfl⟩
        refine g_ifb_eq cx (pc2 := 29) (tgt := 45) dX12_deal_26 (by decide) rfl (fun h_13 => ?_) (fun h_13 => ?_)
        · skip
          refine g_iconst cx (pc2 := 46) dX12_deal_45 rfl ?_
          exact g_iret cx qx dX12_deal_46 ⟨congrArg (fun q => some (Value.int (iI q))) (by unfold xdeA; rw [if_pos (xdB_iff.mpr (by omega))]), by unfold xdeM; rw [if_pos (xdB_iff.mpr (by omega))]⟩
        · skip
          refine g_iload_n cx (pc2 := 30) 2 rfl dX12_deal_29 rfl ?_
          refine g_iload_n cx (pc2 := 31) 3 rfl dX12_deal_30 rfl ?_
          refine g_icmp_eq cx (pc2 := 34) (tgt := 45) ⟨(by first | assumption | omega), (by first | assumption | omega)⟩ dX12_deal_31 (by decide) rfl (fun h_14 => ?_) (fun h_14 => ?_)
          · skip
            refine g_iconst cx (pc2 := 46) dX12_deal_45 rfl ?_
            exact g_iret cx qx dX12_deal_46 ⟨congrArg (fun q => some (Value.int (iI q))) (by unfold xdeA; rw [if_pos (xdB_iff.mpr (by omega))]), by unfold xdeM; rw [if_pos (xdB_iff.mpr (by omega))]⟩
          · skip
            refine g_iload cx (pc2 := 36) 4 rfl dX12_deal_34 rfl ?_
            refine g_iconst cx (pc2 := 37) dX12_deal_36 rfl ?_
            refine g_bipush cx (pc2 := 39) ⟨by decide, by decide⟩ dX12_deal_37 rfl ?_
            refine g_callS cx (pc2 := 42) (st := []) (As := [.int (iI q), .int (iI 1), .int (iI 99)]) (c_X12_in (M := M) hn q 1 99 (by first | assumption | omega) (by first | assumption | omega) (by first | assumption | omega)) wM_X12_in wS_X12_in kl_X12_97 ⟨rfl, rfl, Nat.le_of_ble_eq_true rfl, Nat.le_of_ble_eq_true rfl⟩ (Nat.le_of_ble_eq_true rfl) cs rfl rfl dX12_deal_39 rfl ?_
            rintro _ _ ⟨rfl, rfl⟩
            refine g_ifb_ne cx (pc2 := 45) (tgt := 47) dX12_deal_42 (by decide) rfl (fun h_15 => ?_) (fun h_15 => ?_)
            · skip
              exact L47  (by refine ⟨fun z => absurd (xdB_iff.mp z) (by omega), by omega, by omega, by omega, by omega⟩)
            · skip
              refine g_iconst cx (pc2 := 46) dX12_deal_45 rfl ?_
              exact g_iret cx qx dX12_deal_46 ⟨congrArg (fun q => some (Value.int (iI q))) (by unfold xdeA; rw [if_pos (xdB_iff.mpr (by omega))]), by unfold xdeM; rw [if_pos (xdB_iff.mpr (by omega))]⟩
set_option maxHeartbeats 4000000 in
set_option maxRecDepth 100000 in
theorem c_X12_undo {n : Nat} (hn : NN n) {M : Mm} (hD : DLX M) (q : Int) (hq : ir q) : CT yX12_undo cX12_undo 4 (some .int) ({ frames := 1, cells := 0, slots := 0, locals := 26 }) n [.ref 77, .int (iI q)] M (rI (xunA M q) (xudM M q)) := by
  refine CT.of (lv0 := [(0, .ref 77), (1, .int (iI q))]) (by decide +kernel) hn (fun _ => rfl) (fun _ => Nat.le_of_ble_eq_true rfl) (fun X cx cs qx => ?_)
  have cx : Cx X cX12_undo RX12 ({ frames := 1, cells := 0, slots := 0, locals := 26 }) 4 n := cx
  have hd0 := hD.1
  refine g_iload_n cx (pc2 := 1) 1 rfl dX12_undo_0 rfl ?_
  refine g_iconst cx (pc2 := 2) dX12_undo_1 rfl ?_
  refine g_aload_n cx (pc2 := 3) 0 rfl dX12_undo_2 rfl ?_
  refine g_get cx (pc2 := 6) (ci := 12) (k0 := 77) (j := 35) (v := .int (iI (M 77 35))) rfl iwX12 rfl (lt_lit hn (Nat.le_of_ble_eq_true rfl)) rfl (Nat.le_of_ble_eq_true rfl) kf_X12_174 rfl rfl dX12_undo_3 rfl ?_
  refine g_callS cx (pc2 := 9) (st := []) (As := [.int (iI q), .int (iI 0), .int (iI (M 77 35))]) (c_X12_in (M := M) hn q 0 (M 77 35) (by first | assumption | omega) (by first | assumption | omega) (by first | assumption | omega)) wM_X12_in wS_X12_in kl_X12_97 ⟨rfl, rfl, Nat.le_of_ble_eq_true rfl, Nat.le_of_ble_eq_true rfl⟩ (Nat.le_of_ble_eq_true rfl) cs rfl rfl dX12_undo_6 rfl ?_
  rintro _ _ ⟨rfl, rfl⟩
  refine g_ifb_ne cx (pc2 := 12) (tgt := 14) dX12_undo_9 (by decide) rfl (fun h_1 => ?_) (fun h_1 => ?_)
  · skip
    refine g_aload_n cx (pc2 := 15) 0 rfl dX12_undo_14 rfl ?_
    refine g_get cx (pc2 := 18) (ci := 12) (k0 := 77) (j := 35) (v := .int (iI (M 77 35))) rfl iwX12 rfl (lt_lit hn (Nat.le_of_ble_eq_true rfl)) rfl (Nat.le_of_ble_eq_true rfl) kf_X12_174 rfl rfl dX12_undo_15 rfl ?_
    refine g_iload_n cx (pc2 := 19) 1 rfl dX12_undo_18 rfl ?_
    refine g_isub cx (pc2 := 20) dX12_undo_19 rfl ?_
    refine g_istore_n cx (pc2 := 21) (lv2 := [(0, .ref 77), (1, .int (iI q)), (2, .int (iI ((M 77 35) - q)))]) rfl (Nat.le_of_ble_eq_true rfl) dX12_undo_20 rfl ?_
    have L21 : ∀ (fu : Nat) (W : Mm), (xunM W q (W 77 35 - q).toNat = xunM M q (M 77 35 - q).toNat) → (q ≤ W 77 35 ∧ W 77 35 ≤ M 77 35) → (W 99 = M 99) → (W 77 35 - q).toNat ≤ fu → G X 21 [(0, .ref 77), (1, .int (iI q)), (2, .int (iI (M 77 35 - q)))] [] W := by
      intro fu
      induction fu using Nat.strongRecOn with
      | _ fu ih21 =>
        intro W hu hr h9 hk21
        have hx9 : ∀ i k : Int, xd W i k = xd M i k := fun i k => by unfold xd; rw [h9]
        have hDi := hD.2 (W 77 35 - 1)
        have hst : ¬ W 77 35 = q → xunM W q (W 77 35 - q).toNat = xunM (xseM (stM W 77 35 (W 77 35 - 1)) (xd M (W 77 35 - 1) 0) (xd M (W 77 35 - 1) 1) (xd M (W 77 35 - 1) 2) (-(xd M (W 77 35 - 1) 3))) q (W 77 35 - 1 - q).toNat := fun z => by rw [show (W 77 35 - q).toNat = (W 77 35 - 1 - q).toNat + 1 by omega, xunM, show q + (((W 77 35 - 1 - q).toNat : Nat) : Int) = W 77 35 - 1 by omega, hx9, hx9, hx9, hx9]
        refine g_aload_n cx (pc2 := 22) 0 rfl dX12_undo_21 rfl ?_
        refine g_get cx (pc2 := 25) (ci := 12) (k0 := 77) (j := 35) (v := .int (iI (W 77 35))) rfl iwX12 rfl (lt_lit hn (Nat.le_of_ble_eq_true rfl)) rfl (Nat.le_of_ble_eq_true rfl) kf_X12_174 rfl rfl dX12_undo_22 rfl ?_
        refine g_iload_n cx (pc2 := 26) 1 rfl dX12_undo_25 rfl ?_
        refine g_icmp_le cx (pc2 := 29) (tgt := 84) ⟨(by first | assumption | omega), (by first | assumption | omega)⟩ dX12_undo_26 (by decide) rfl (fun h_2 => ?_) (fun h_2 => ?_)
        · skip
          refine g_iload_n cx (pc2 := 85) 2 rfl dX12_undo_84 rfl ?_
          exact g_iret cx qx dX12_undo_85 ⟨congrArg (fun q => some (Value.int (iI q))) (by unfold xunA; rw [if_neg (by omega)]), by unfold xudM; rw [if_neg (by omega), ← hu, show (W 77 35 - q).toNat = 0 by omega]; rfl⟩
        · skip
          have hD2 := hDi (by omega) (by omega)
          have hst2 := hst (by omega)
          refine g_aload_n cx (pc2 := 30) 0 rfl dX12_undo_29 rfl ?_
          refine g_dup cx (pc2 := 31) rfl dX12_undo_30 rfl ?_
          refine g_get cx (pc2 := 34) (ci := 12) (k0 := 77) (j := 35) (v := .int (iI (W 77 35))) rfl iwX12 rfl (lt_lit hn (Nat.le_of_ble_eq_true rfl)) rfl (Nat.le_of_ble_eq_true rfl) kf_X12_174 rfl rfl dX12_undo_31 rfl ?_
          refine g_iconst cx (pc2 := 35) dX12_undo_34 rfl ?_
          refine g_isub cx (pc2 := 36) dX12_undo_35 rfl ?_
          refine g_puti cx (pc2 := 39) (ci := 12) (k0 := 77) (j := 35) rfl iwX12 rfl (lt_lit hn (Nat.le_of_ble_eq_true rfl)) rfl (Nat.le_of_ble_eq_true rfl) kf_X12_174 rfl tyX12_ok nmX12 rfl rfl dX12_undo_36 rfl ?_
          refine g_iconst cx (pc2 := 40) dX12_undo_39 rfl ?_
          refine g_aload_n cx (pc2 := 41) 0 rfl dX12_undo_40 rfl ?_
          refine g_get cx (pc2 := 44) (ci := 12) (k0 := 77) (j := 35) (v := .int (iI ((W 77 35) - 1))) rfl iwX12 rfl (lt_lit hn (Nat.le_of_ble_eq_true rfl)) rfl (Nat.le_of_ble_eq_true rfl) kf_X12_174 rfl (congrArg (fun q => Value.int (iI q)) (by simp [stM])) dX12_undo_41 rfl ?_
          refine g_imul cx (pc2 := 45) dX12_undo_44 rfl ?_
          refine g_istore_n cx (pc2 := 46) (lv2 := [(0, .ref 77), (1, .int (iI q)), (2, .int (iI (M 77 35 - q))), (3, .int (iI (4 * ((W 77 35) - 1))))]) rfl (Nat.le_of_ble_eq_true rfl) dX12_undo_45 rfl ?_
          refine g_aload_n cx (pc2 := 47) 0 rfl dX12_undo_46 rfl ?_
          refine g_aload_n cx (pc2 := 48) 0 rfl dX12_undo_47 rfl ?_
          refine g_get cx (pc2 := 51) (ci := 12) (k0 := 77) (j := 36) (v := .ref 99) rfl iwX12 rfl (lt_lit hn (Nat.le_of_ble_eq_true rfl)) rfl (Nat.le_of_ble_eq_true rfl) kf_X12_74 rfl rfl dX12_undo_48 rfl ?_
          refine g_iload_n cx (pc2 := 52) 3 rfl dX12_undo_51 rfl ?_
          refine g_iald cx (pc2 := 53) (k0 := 99) rfl (lt_lit hn (Nat.le_of_ble_eq_true rfl)) (by first | assumption | omega) (by first | assumption | omega) (Nat.le_of_ble_eq_true rfl) dX12_undo_52 rfl ?_
          refine g_rwi (y := iI (W 99 ((4 * ((W 77 35) - 1)).toNat))) (congrArg iI (by simp [stM])) ?_
          refine g_rwi (y := iI (xd M (W 77 35 - 1) 0)) (congrArg iI (by rw [h9]; unfold xd; congr 2; omega)) ?_
          refine g_aload_n cx (pc2 := 54) 0 rfl dX12_undo_53 rfl ?_
          refine g_get cx (pc2 := 57) (ci := 12) (k0 := 77) (j := 36) (v := .ref 99) rfl iwX12 rfl (lt_lit hn (Nat.le_of_ble_eq_true rfl)) rfl (Nat.le_of_ble_eq_true rfl) kf_X12_74 rfl rfl dX12_undo_54 rfl ?_
          refine g_iload_n cx (pc2 := 58) 3 rfl dX12_undo_57 rfl ?_
          refine g_iconst cx (pc2 := 59) dX12_undo_58 rfl ?_
          refine g_iadd cx (pc2 := 60) dX12_undo_59 rfl ?_
          refine g_iald cx (pc2 := 61) (k0 := 99) rfl (lt_lit hn (Nat.le_of_ble_eq_true rfl)) (by first | assumption | omega) (by first | assumption | omega) (Nat.le_of_ble_eq_true rfl) dX12_undo_60 rfl ?_
          refine g_rwi (y := iI (W 99 (((4 * ((W 77 35) - 1)) + 1).toNat))) (congrArg iI (by simp [stM])) ?_
          refine g_rwi (y := iI (xd M (W 77 35 - 1) 1)) (congrArg iI (by rw [h9]; rfl)) ?_
          refine g_aload_n cx (pc2 := 62) 0 rfl dX12_undo_61 rfl ?_
          refine g_get cx (pc2 := 65) (ci := 12) (k0 := 77) (j := 36) (v := .ref 99) rfl iwX12 rfl (lt_lit hn (Nat.le_of_ble_eq_true rfl)) rfl (Nat.le_of_ble_eq_true rfl) kf_X12_74 rfl rfl dX12_undo_62 rfl ?_
          refine g_iload_n cx (pc2 := 66) 3 rfl dX12_undo_65 rfl ?_
          refine g_iconst cx (pc2 := 67) dX12_undo_66 rfl ?_
          refine g_iadd cx (pc2 := 68) dX12_undo_67 rfl ?_
          refine g_iald cx (pc2 := 69) (k0 := 99) rfl (lt_lit hn (Nat.le_of_ble_eq_true rfl)) (by first | assumption | omega) (by first | assumption | omega) (Nat.le_of_ble_eq_true rfl) dX12_undo_68 rfl ?_
          refine g_rwi (y := iI (W 99 (((4 * ((W 77 35) - 1)) + 2).toNat))) (congrArg iI (by simp [stM])) ?_
          refine g_rwi (y := iI (xd M (W 77 35 - 1) 2)) (congrArg iI (by rw [h9]; rfl)) ?_
          refine g_aload_n cx (pc2 := 70) 0 rfl dX12_undo_69 rfl ?_
          refine g_get cx (pc2 := 73) (ci := 12) (k0 := 77) (j := 36) (v := .ref 99) rfl iwX12 rfl (lt_lit hn (Nat.le_of_ble_eq_true rfl)) rfl (Nat.le_of_ble_eq_true rfl) kf_X12_74 rfl rfl dX12_undo_70 rfl ?_
          refine g_iload_n cx (pc2 := 74) 3 rfl dX12_undo_73 rfl ?_
          refine g_iconst cx (pc2 := 75) dX12_undo_74 rfl ?_
          refine g_iadd cx (pc2 := 76) dX12_undo_75 rfl ?_
          refine g_iald cx (pc2 := 77) (k0 := 99) rfl (lt_lit hn (Nat.le_of_ble_eq_true rfl)) (by first | assumption | omega) (by first | assumption | omega) (Nat.le_of_ble_eq_true rfl) dX12_undo_76 rfl ?_
          refine g_rwi (y := iI (W 99 (((4 * ((W 77 35) - 1)) + 3).toNat))) (congrArg iI (by simp [stM])) ?_
          refine g_rwi (y := iI (xd M (W 77 35 - 1) 3)) (congrArg iI (by rw [h9]; rfl)) ?_
          refine g_ineg cx (pc2 := 78) dX12_undo_77 rfl ?_
          refine g_callV cx (pc2 := 81) (st := []) (As := [.int (iI (xd M (W 77 35 - 1) 0)), .int (iI (xd M (W 77 35 - 1) 1)), .int (iI (xd M (W 77 35 - 1) 2)), .int (iI (-(xd M (W 77 35 - 1) 3)))]) (k0 := 77) (ci := 12) (c_X12_doDeal (M := (stM W 77 35 ((W 77 35) - 1))) hn (xd M (W 77 35 - 1) 0) (xd M (W 77 35 - 1) 1) (xd M (W 77 35 - 1) 2) (-(xd M (W 77 35 - 1) 3)) (by exact hD2.1) (by exact hD2.2.1) (by exact hD2.2.2.1)) wM_X12_doDeal wV_X12_doDeal kl_X12_312 rfl (lt_lit hn (Nat.le_of_ble_eq_true rfl)) rfl ⟨rfl, rfl, Nat.le_of_ble_eq_true rfl, Nat.le_of_ble_eq_true rfl⟩ (Nat.le_of_ble_eq_true rfl) cs rfl rfl dX12_undo_78 rfl ?_
          rintro _ _ ⟨rfl, rfl⟩
          refine g_goto cx (tgt := 21) dX12_undo_81 (by decide) ?_
          refine g_sub (lv2 := [(0, .ref 77), (1, .int (iI q)), (2, .int (iI (M 77 35 - q)))]) [0, 1, 2] rfl ?_
          exact ih21 (((xseM (stM W 77 35 ((W 77 35) - 1)) (xd M (W 77 35 - 1) 0) (xd M (W 77 35 - 1) 1) (xd M (W 77 35 - 1) 2) (-(xd M (W 77 35 - 1) 3))) 77 35 - q).toNat) (by rw [xseM_off _ _ _ _ _ (by decide) (by decide), stM_at]; omega) (xseM (stM W 77 35 ((W 77 35) - 1)) (xd M (W 77 35 - 1) 0) (xd M (W 77 35 - 1) 1) (xd M (W 77 35 - 1) 2) (-(xd M (W 77 35 - 1) 3))) (by rw [xseM_off _ _ _ _ _ (by decide) (by decide), stM_at, ← hst2]; exact hu) (by rw [xseM_off _ _ _ _ _ (by decide) (by decide), stM_at]; omega) (by rw [xseM_off _ _ _ _ _ (by decide) (by decide), stM_off (by decide), h9]) (Nat.le_refl _)
    exact L21 _ M (by rfl) (by first | assumption | omega) (by rfl) (Nat.le_refl _)
  · skip
    refine g_iconst cx (pc2 := 13) dX12_undo_12 rfl ?_
    exact g_iret cx qx dX12_undo_13 ⟨congrArg (fun q => some (Value.int (iI q))) (by unfold xunA; rw [if_pos (by assumption)]), by unfold xudM; rw [if_pos (by assumption)]⟩
set_option maxHeartbeats 4000000 in
set_option maxRecDepth 100000 in
theorem c_X12_owes {n : Nat} (hn : NN n) {M : Mm} (hV : RV M) (h k : Int) (hh : ir h) (hk : ir k) : CT yX12_owes cX12_owes 3 (some .int) ({ frames := 2, cells := 0, slots := 0, locals := 43 }) n [.ref 77, .int (iI h), .int (iI k)] M (rI (xowA M h k) M) := by
  refine CT.of (lv0 := [(0, .ref 77), (1, .int (iI h)), (2, .int (iI k))]) (by decide +kernel) hn (fun _ => rfl) (fun _ => Nat.le_of_ble_eq_true rfl) (fun X cx cs qx => ?_)
  have cx : Cx X cX12_owes RX12 ({ frames := 2, cells := 0, slots := 0, locals := 43 }) 3 n := cx
  have hv1 := hV.1
  refine g_aload_n cx (pc2 := 1) 0 rfl dX12_owes_0 rfl ?_
  refine g_iload_n cx (pc2 := 2) 1 rfl dX12_owes_1 rfl ?_
  refine g_callV cx (pc2 := 5) (st := []) (As := [.int (iI h)]) (k0 := 77) (ci := 12) (c_X12_isHouse (M := M) hn (by exact hV) h (by first | assumption | omega)) wM_X12_isHouse wV_X12_isHouse kl_X12_189 rfl (lt_lit hn (Nat.le_of_ble_eq_true rfl)) rfl ⟨rfl, rfl, Nat.le_of_ble_eq_true rfl, Nat.le_of_ble_eq_true rfl⟩ (Nat.le_of_ble_eq_true rfl) cs rfl rfl dX12_owes_2 rfl ?_
  rintro _ _ ⟨rfl, rfl⟩
  refine g_ifb_eq cx (pc2 := 8) (tgt := 35) dX12_owes_5 (by decide) rfl (fun h_1 => ?_) (fun h_1 => ?_)
  · skip
    refine g_iconst cx (pc2 := 36) dX12_owes_35 rfl ?_
    exact g_iret cx qx dX12_owes_36 ⟨congrArg (fun q => some (Value.int (iI q))) (by unfold xowA; first | (rw [if_pos (by omega)]; done) | (rw [if_neg (by omega)]; done)), by rfl⟩
  · skip
    refine g_aload_n cx (pc2 := 9) 0 rfl dX12_owes_8 rfl ?_
    refine g_iload_n cx (pc2 := 10) 2 rfl dX12_owes_9 rfl ?_
    refine g_callV cx (pc2 := 13) (st := []) (As := [.int (iI k)]) (k0 := 77) (ci := 12) (c_X12_isHouse (M := M) hn (by exact hV) k (by first | assumption | omega)) wM_X12_isHouse wV_X12_isHouse kl_X12_189 rfl (lt_lit hn (Nat.le_of_ble_eq_true rfl)) rfl ⟨rfl, rfl, Nat.le_of_ble_eq_true rfl, Nat.le_of_ble_eq_true rfl⟩ (Nat.le_of_ble_eq_true rfl) cs rfl rfl dX12_owes_10 rfl ?_
    rintro _ _ ⟨rfl, rfl⟩
    refine g_ifb_eq cx (pc2 := 16) (tgt := 35) dX12_owes_13 (by decide) rfl (fun h_2 => ?_) (fun h_2 => ?_)
    · skip
      refine g_iconst cx (pc2 := 36) dX12_owes_35 rfl ?_
      exact g_iret cx qx dX12_owes_36 ⟨congrArg (fun q => some (Value.int (iI q))) (by unfold xowA; first | (rw [if_pos (by omega)]; done) | (rw [if_neg (by omega)]; done)), by rfl⟩
    · skip
      refine g_iload_n cx (pc2 := 17) 1 rfl dX12_owes_16 rfl ?_
      refine g_iload_n cx (pc2 := 18) 2 rfl dX12_owes_17 rfl ?_
      refine g_icmp_eq cx (pc2 := 21) (tgt := 35) ⟨(by first | assumption | omega), (by first | assumption | omega)⟩ dX12_owes_18 (by decide) rfl (fun h_3 => ?_) (fun h_3 => ?_)
      · skip
        refine g_iconst cx (pc2 := 36) dX12_owes_35 rfl ?_
        exact g_iret cx qx dX12_owes_36 ⟨congrArg (fun q => some (Value.int (iI q))) (by unfold xowA; first | (rw [if_pos (by omega)]; done) | (rw [if_neg (by omega)]; done)), by rfl⟩
      · skip
        refine g_aload_n cx (pc2 := 22) 0 rfl dX12_owes_21 rfl ?_
        refine g_get cx (pc2 := 25) (ci := 12) (k0 := 77) (j := 34) (v := .ref 98) rfl iwX12 rfl (lt_lit hn (Nat.le_of_ble_eq_true rfl)) rfl (Nat.le_of_ble_eq_true rfl) kf_X12_71 rfl rfl dX12_owes_22 rfl ?_
        refine g_bipush cx (pc2 := 27) ⟨by decide, by decide⟩ dX12_owes_25 rfl ?_
        refine g_iload_n cx (pc2 := 28) 1 rfl dX12_owes_27 rfl ?_
        refine g_imul cx (pc2 := 29) dX12_owes_28 rfl ?_
        refine g_iload_n cx (pc2 := 30) 2 rfl dX12_owes_29 rfl ?_
        refine g_iadd cx (pc2 := 31) dX12_owes_30 rfl ?_
        refine g_iald cx (pc2 := 32) (k0 := 98) rfl (lt_lit hn (Nat.le_of_ble_eq_true rfl)) (by first | assumption | omega) (by first | assumption | omega) (Nat.le_of_ble_eq_true rfl) dX12_owes_31 rfl ?_
        refine g_rwi (y := iI (M 98 (((8 * h) + k).toNat))) (congrArg iI (by simp [stM])) ?_
        refine g_goto cx (tgt := 36) dX12_owes_32 (by decide) ?_
        exact g_iret cx qx dX12_owes_36 ⟨congrArg (fun q => some (Value.int (iI q))) (by unfold xowA; first | (rw [if_pos (by omega)]; done) | (rw [if_neg (by omega)]; done)), by rfl⟩
set_option maxHeartbeats 4000000 in
set_option maxRecDepth 100000 in
theorem c_X12_rich {n : Nat} (hn : NN n) {M : Mm} (hV : RV M) : CT yX12_rich cX12_rich 6 (some .int) ({ frames := 1, cells := 0, slots := 0, locals := 22 }) n [.ref 77] M (rI (xriA M) (xriM M)) := by
  refine CT.of (lv0 := [(0, .ref 77)]) (by decide +kernel) hn (fun _ => rfl) (fun _ => Nat.le_of_ble_eq_true rfl) (fun X cx cs qx => ?_)
  have cx : Cx X cX12_rich RX12 ({ frames := 1, cells := 0, slots := 0, locals := 22 }) 6 n := cx
  have hv1 := hV.1
  refine g_aload_n cx (pc2 := 1) 0 rfl dX12_rich_0 rfl ?_
  refine g_get cx (pc2 := 4) (ci := 12) (k0 := 77) (j := 10) (v := .int (iI (M 77 10))) rfl iwX12 rfl (lt_lit hn (Nat.le_of_ble_eq_true rfl)) rfl (Nat.le_of_ble_eq_true rfl) kf_X12_165 rfl rfl dX12_rich_1 rfl ?_
  refine g_if_ne cx (pc2 := 7) (tgt := 10) (by first | assumption | omega) dX12_rich_4 (by decide) rfl (fun h_1 => ?_) (fun h_1 => ?_)
  · skip
    refine g_bipush cx (pc2 := 12) ⟨by decide, by decide⟩ dX12_rich_10 rfl ?_
    refine g_istore_n cx (pc2 := 13) (lv2 := [(0, .ref 77), (1, .int (iI (-9)))]) rfl (Nat.le_of_ble_eq_true rfl) dX12_rich_12 rfl ?_
    refine g_iconst cx (pc2 := 14) dX12_rich_13 rfl ?_
    refine g_istore_n cx (pc2 := 15) (lv2 := [(0, .ref 77), (1, .int (iI (-9))), (2, .int (iI 0))]) rfl (Nat.le_of_ble_eq_true rfl) dX12_rich_14 rfl ?_
    refine g_iconst cx (pc2 := 16) dX12_rich_15 rfl ?_
    refine g_istore_n cx (pc2 := 17) (lv2 := [(0, .ref 77), (1, .int (iI (-9))), (2, .int (iI 0)), (3, .int (iI 0))]) rfl (Nat.le_of_ble_eq_true rfl) dX12_rich_16 rfl ?_
    have L17 : ∀ (fu : Nat) (k : Int) (b : Int) (v : Int), (0 ≤ k ∧ k ≤ M 77 10) → (b = (xrF M (M 77 10).toNat k.toNat).1 ∧ v = (xrF M (M 77 10).toNat k.toNat).2) → (M 77 10 - k).toNat ≤ fu → G X 17 [(0, .ref 77), (1, .int (iI b)), (2, .int (iI v)), (3, .int (iI k))] [] M := by
      intro fu
      induction fu using Nat.strongRecOn with
      | _ fu ih17 =>
        intro k b v hk hb hk17
        have hFb := xrF_b M (M 77 10).toNat k.toNat
        rw [← hb.1, ← hb.2] at hFb
        have hvi : ir v := hFb.2
        have hbi := hFb.1
        have hti := ir_wr (xrT M k (M 77 10).toNat)
        have hst3 : xrF M (M 77 10).toNat (k + 1).toNat = if b = -9 ∨ v < wr (xrT M k (M 77 10).toNat) then (k, wr (xrT M k (M 77 10).toNat)) else (b, v) := by rw [show (k + 1).toNat = k.toNat + 1 by omega, xrF, ← hb.1, ← hb.2, Int.toNat_of_nonneg hk.1]; rw [hb.1, hb.2]
        refine g_iload_n cx (pc2 := 18) 3 rfl dX12_rich_17 rfl ?_
        refine g_aload_n cx (pc2 := 19) 0 rfl dX12_rich_18 rfl ?_
        refine g_get cx (pc2 := 22) (ci := 12) (k0 := 77) (j := 10) (v := .int (iI (M 77 10))) rfl iwX12 rfl (lt_lit hn (Nat.le_of_ble_eq_true rfl)) rfl (Nat.le_of_ble_eq_true rfl) kf_X12_165 rfl rfl dX12_rich_19 rfl ?_
        refine g_icmp_ge cx (pc2 := 25) (tgt := 86) ⟨(by first | assumption | omega), (by first | assumption | omega)⟩ dX12_rich_22 (by decide) rfl (fun h_2 => ?_) (fun h_2 => ?_)
        · skip
          refine g_aload_n cx (pc2 := 87) 0 rfl dX12_rich_86 rfl ?_
          refine g_iload_n cx (pc2 := 88) 2 rfl dX12_rich_87 rfl ?_
          refine g_iload_n cx (pc2 := 89) 1 rfl dX12_rich_88 rfl ?_
          refine g_callV cx (pc2 := 92) (st := []) (As := [.int (iI v), .int (iI b)]) (k0 := 77) (ci := 12) (c_X12_tells (M := M) hn v b) wM_X12_tells wV_X12_tells kl_X12_119 rfl (lt_lit hn (Nat.le_of_ble_eq_true rfl)) rfl ⟨rfl, rfl, Nat.le_of_ble_eq_true rfl, Nat.le_of_ble_eq_true rfl⟩ (Nat.le_of_ble_eq_true rfl) cs rfl rfl dX12_rich_89 rfl ?_
          rintro _ _ ⟨rfl, rfl⟩
          exact g_iret cx qx dX12_rich_92 ⟨congrArg (fun q => some (Value.int (iI q))) (by unfold xriA; rw [if_neg (by omega), hb.1, show k = M 77 10 by omega]), by unfold xriM; rw [if_neg (by omega), hb.2, show k = M 77 10 by omega]⟩
        · skip
          refine g_iconst cx (pc2 := 26) dX12_rich_25 rfl ?_
          refine g_istore cx (pc2 := 28) (lv2 := [(0, .ref 77), (1, .int (iI b)), (2, .int (iI v)), (3, .int (iI k)), (4, .int (iI 0))]) rfl (Nat.le_of_ble_eq_true rfl) dX12_rich_26 rfl ?_
          have L80 : ∀ (b2 : Int) (v2 : Int), (b2 = (xrF M (M 77 10).toNat (k + 1).toNat).1 ∧ v2 = (xrF M (M 77 10).toNat (k + 1).toNat).2) → G X 80 [(0, .ref 77), (1, .int (iI b2)), (2, .int (iI v2)), (3, .int (iI k))] [] M := by
            intro b2 v2 hb2
            refine g_iinc cx (pc2 := 83) 3 rfl (lv2 := [(0, .ref 77), (1, .int (iI b2)), (2, .int (iI v2)), (3, .int (iI (k + 1)))]) rfl (Nat.le_of_ble_eq_true rfl) dX12_rich_80 rfl ?_
            refine g_goto cx (tgt := 17) dX12_rich_83 (by decide) ?_
            exact ih17 ((M 77 10 - (k + 1)).toNat) (by omega) (k + 1) b2 v2 (by first | assumption | omega) (by exact hb2) (Nat.le_refl _)
          refine g_iconst cx (pc2 := 29) dX12_rich_28 rfl ?_
          refine g_istore cx (pc2 := 31) (lv2 := [(0, .ref 77), (1, .int (iI b)), (2, .int (iI v)), (3, .int (iI k)), (4, .int (iI 0)), (5, .int (iI 0))]) rfl (Nat.le_of_ble_eq_true rfl) dX12_rich_29 rfl ?_
          have L31 : ∀ (fu : Nat) (j : Int) (c : Int), (0 ≤ j ∧ j ≤ M 77 10) → (c = xrT M k j.toNat) → (M 77 10 - j).toNat ≤ fu → G X 31 [(0, .ref 77), (1, .int (iI b)), (2, .int (iI v)), (3, .int (iI k)), (4, .int (iI c)), (5, .int (iI j))] [] M := by
            intro fu
            induction fu using Nat.strongRecOn with
            | _ fu ih31 =>
              intro j c hj hc hk31
              have hst4 : xrT M k (j + 1).toNat = c + M 98 (8 * j + k).toNat := by rw [show (j + 1).toNat = j.toNat + 1 by omega]; unfold xrT; rw [smZ, Int.toNat_of_nonneg hj.1, hc]; rfl
              refine g_iload cx (pc2 := 33) 5 rfl dX12_rich_31 rfl ?_
              refine g_aload_n cx (pc2 := 34) 0 rfl dX12_rich_33 rfl ?_
              refine g_get cx (pc2 := 37) (ci := 12) (k0 := 77) (j := 10) (v := .int (iI (M 77 10))) rfl iwX12 rfl (lt_lit hn (Nat.le_of_ble_eq_true rfl)) rfl (Nat.le_of_ble_eq_true rfl) kf_X12_165 rfl rfl dX12_rich_34 rfl ?_
              refine g_icmp_ge cx (pc2 := 40) (tgt := 63) ⟨(by first | assumption | omega), (by first | assumption | omega)⟩ dX12_rich_37 (by decide) rfl (fun h_3 => ?_) (fun h_3 => ?_)
              · skip
                have hcE : c = xrT M k (M 77 10).toNat := by rw [hc, show j = M 77 10 by omega]
                refine g_iload_n cx (pc2 := 64) 1 rfl dX12_rich_63 rfl ?_
                refine g_bipush cx (pc2 := 66) ⟨by decide, by decide⟩ dX12_rich_64 rfl ?_
                refine g_icmp_eq cx (pc2 := 69) (tgt := 75) ⟨(by first | assumption | omega), ⟨by decide, by decide⟩⟩ dX12_rich_66 (by decide) rfl (fun h_4 => ?_) (fun h_4 => ?_)
                · skip
                  refine g_iload_n cx (pc2 := 76) 3 rfl dX12_rich_75 rfl ?_
                  refine g_istore_n cx (pc2 := 77) (lv2 := [(0, .ref 77), (1, .int (iI k)), (2, .int (iI v)), (3, .int (iI k)), (4, .int (iI c)), (5, .int (iI j))]) rfl (Nat.le_of_ble_eq_true rfl) dX12_rich_76 rfl ?_
                  refine g_iload cx (pc2 := 79) 4 rfl dX12_rich_77 rfl ?_
                  refine g_rwi (y := iI (wr (xrT M k (M 77 10).toNat))) (by rw [hcE]; exact (iI_wr _).symm) ?_
                  refine g_istore_n cx (pc2 := 80) (lv2 := [(0, .ref 77), (1, .int (iI k)), (2, .int (iI (wr (xrT M k (M 77 10).toNat)))), (3, .int (iI k)), (4, .int (iI c)), (5, .int (iI j))]) rfl (Nat.le_of_ble_eq_true rfl) dX12_rich_79 rfl ?_
                  refine g_sub (lv2 := [(0, .ref 77), (1, .int (iI k)), (2, .int (iI (wr (xrT M k (M 77 10).toNat)))), (3, .int (iI k))]) [0, 1, 2, 3] rfl ?_
                  exact L80 k (wr (xrT M k (M 77 10).toNat)) (by rw [hst3]; first | (rw [if_pos (by omega)]; exact ⟨rfl, rfl⟩) | (rw [if_neg (by omega)]; exact ⟨rfl, rfl⟩))
                · skip
                  refine g_iload cx (pc2 := 71) 4 rfl dX12_rich_69 rfl ?_
                  refine g_rwi (y := iI (wr (xrT M k (M 77 10).toNat))) (by rw [hcE]; exact (iI_wr _).symm) ?_
                  refine g_iload_n cx (pc2 := 72) 2 rfl dX12_rich_71 rfl ?_
                  refine g_icmp_le cx (pc2 := 75) (tgt := 80) ⟨(by first | assumption | omega), (by first | assumption | omega)⟩ dX12_rich_72 (by decide) rfl (fun h_5 => ?_) (fun h_5 => ?_)
                  · skip
                    refine g_sub (lv2 := [(0, .ref 77), (1, .int (iI b)), (2, .int (iI v)), (3, .int (iI k))]) [0, 1, 2, 3] rfl ?_
                    exact L80 b v (by rw [hst3]; first | (rw [if_pos (by omega)]; exact ⟨rfl, rfl⟩) | (rw [if_neg (by omega)]; exact ⟨rfl, rfl⟩))
                  · skip
                    refine g_iload_n cx (pc2 := 76) 3 rfl dX12_rich_75 rfl ?_
                    refine g_istore_n cx (pc2 := 77) (lv2 := [(0, .ref 77), (1, .int (iI k)), (2, .int (iI v)), (3, .int (iI k)), (4, .int (iI c)), (5, .int (iI j))]) rfl (Nat.le_of_ble_eq_true rfl) dX12_rich_76 rfl ?_
                    refine g_iload cx (pc2 := 79) 4 rfl dX12_rich_77 rfl ?_
                    refine g_rwi (y := iI (wr (xrT M k (M 77 10).toNat))) (by rw [hcE]; exact (iI_wr _).symm) ?_
                    refine g_istore_n cx (pc2 := 80) (lv2 := [(0, .ref 77), (1, .int (iI k)), (2, .int (iI (wr (xrT M k (M 77 10).toNat)))), (3, .int (iI k)), (4, .int (iI c)), (5, .int (iI j))]) rfl (Nat.le_of_ble_eq_true rfl) dX12_rich_79 rfl ?_
                    refine g_sub (lv2 := [(0, .ref 77), (1, .int (iI k)), (2, .int (iI (wr (xrT M k (M 77 10).toNat)))), (3, .int (iI k))]) [0, 1, 2, 3] rfl ?_
                    exact L80 k (wr (xrT M k (M 77 10).toNat)) (by rw [hst3]; first | (rw [if_pos (by omega)]; exact ⟨rfl, rfl⟩) | (rw [if_neg (by omega)]; exact ⟨rfl, rfl⟩))
              · skip
                refine g_iload cx (pc2 := 42) 4 rfl dX12_rich_40 rfl ?_
                refine g_aload_n cx (pc2 := 43) 0 rfl dX12_rich_42 rfl ?_
                refine g_get cx (pc2 := 46) (ci := 12) (k0 := 77) (j := 34) (v := .ref 98) rfl iwX12 rfl (lt_lit hn (Nat.le_of_ble_eq_true rfl)) rfl (Nat.le_of_ble_eq_true rfl) kf_X12_71 rfl rfl dX12_rich_43 rfl ?_
                refine g_bipush cx (pc2 := 48) ⟨by decide, by decide⟩ dX12_rich_46 rfl ?_
                refine g_iload cx (pc2 := 50) 5 rfl dX12_rich_48 rfl ?_
                refine g_imul cx (pc2 := 51) dX12_rich_50 rfl ?_
                refine g_iload_n cx (pc2 := 52) 3 rfl dX12_rich_51 rfl ?_
                refine g_iadd cx (pc2 := 53) dX12_rich_52 rfl ?_
                refine g_iald cx (pc2 := 54) (k0 := 98) rfl (lt_lit hn (Nat.le_of_ble_eq_true rfl)) (by first | assumption | omega) (by first | assumption | omega) (Nat.le_of_ble_eq_true rfl) dX12_rich_53 rfl ?_
                refine g_rwi (y := iI (M 98 (((8 * j) + k).toNat))) (congrArg iI (by simp [stM])) ?_
                refine g_iadd cx (pc2 := 55) dX12_rich_54 rfl ?_
                refine g_istore cx (pc2 := 57) (lv2 := [(0, .ref 77), (1, .int (iI b)), (2, .int (iI v)), (3, .int (iI k)), (4, .int (iI (c + (M 98 (((8 * j) + k).toNat))))), (5, .int (iI j))]) rfl (Nat.le_of_ble_eq_true rfl) dX12_rich_55 rfl ?_
                refine g_iinc cx (pc2 := 60) 5 rfl (lv2 := [(0, .ref 77), (1, .int (iI b)), (2, .int (iI v)), (3, .int (iI k)), (4, .int (iI (c + (M 98 (((8 * j) + k).toNat))))), (5, .int (iI (j + 1)))]) rfl (Nat.le_of_ble_eq_true rfl) dX12_rich_57 rfl ?_
                refine g_goto cx (tgt := 31) dX12_rich_60 (by decide) ?_
                exact ih31 ((M 77 10 - (j + 1)).toNat) (by omega) (j + 1) (c + (M 98 (((8 * j) + k).toNat))) (by first | assumption | omega) (by rw [hst4]) (Nat.le_refl _)
          exact L31 _ 0 0 (by first | assumption | omega) (by rfl) (Nat.le_refl _)
    exact L17 _ 0 (-9) 0 (by first | assumption | omega) (by exact ⟨rfl, rfl⟩) (Nat.le_refl _)
  · skip
    refine g_bipush cx (pc2 := 9) ⟨by decide, by decide⟩ dX12_rich_7 rfl ?_
    exact g_iret cx qx dX12_rich_9 ⟨congrArg (fun q => some (Value.int (iI q))) (by unfold xriA; rw [if_pos (by omega)]), by unfold xriM; rw [if_pos (by omega)]⟩
set_option maxHeartbeats 4000000 in
set_option maxRecDepth 100000 in
theorem c_X12_pocket {n : Nat} (hn : NN n) {M : Mm} (hV : RV M) (hT : TNX M) (h v : Int) (hh : ir h) (hv : ir v) : CT yX12_pocket cX12_pocket 3 (some .int) ({ frames := 2, cells := 0, slots := 0, locals := 43 }) n [.ref 77, .int (iI h), .int (iI v)] M (rI (xpoA M h v) (xpoM M h v)) := by
  refine CT.of (lv0 := [(0, .ref 77), (1, .int (iI h)), (2, .int (iI v))]) (by decide +kernel) hn (fun _ => rfl) (fun _ => Nat.le_of_ble_eq_true rfl) (fun X cx cs qx => ?_)
  have cx : Cx X cX12_pocket RX12 ({ frames := 2, cells := 0, slots := 0, locals := 43 }) 3 n := cx
  have hv1 := hV.1
  have ht0 := hT.1
  refine g_aload_n cx (pc2 := 1) 0 rfl dX12_pocket_0 rfl ?_
  refine g_iload_n cx (pc2 := 2) 1 rfl dX12_pocket_1 rfl ?_
  refine g_callV cx (pc2 := 5) (st := []) (As := [.int (iI h)]) (k0 := 77) (ci := 12) (c_X12_isHouse (M := M) hn (by exact hV) h (by first | assumption | omega)) wM_X12_isHouse wV_X12_isHouse kl_X12_189 rfl (lt_lit hn (Nat.le_of_ble_eq_true rfl)) rfl ⟨rfl, rfl, Nat.le_of_ble_eq_true rfl, Nat.le_of_ble_eq_true rfl⟩ (Nat.le_of_ble_eq_true rfl) cs rfl rfl dX12_pocket_2 rfl ?_
  rintro _ _ ⟨rfl, rfl⟩
  refine g_ifb_eq cx (pc2 := 8) (tgt := 18) dX12_pocket_5 (by decide) rfl (fun h_1 => ?_) (fun h_1 => ?_)
  · skip
    refine g_iconst cx (pc2 := 19) dX12_pocket_18 rfl ?_
    exact g_iret cx qx dX12_pocket_19 ⟨congrArg (fun q => some (Value.int (iI q))) (by unfold xpoA; (repeat (first | rw [if_pos (by first | assumption | omega)] | rw [if_neg (by first | assumption | exact not_not_intro (by assumption) | omega)])); first | done | rfl | (symm; assumption)), by unfold xpoM; (repeat (first | rw [if_pos (by first | assumption | omega)] | rw [if_neg (by first | assumption | exact not_not_intro (by assumption) | omega)])); first | done | rfl | (symm; assumption)⟩
  · skip
    refine g_iload_n cx (pc2 := 9) 2 rfl dX12_pocket_8 rfl ?_
    refine g_iconst cx (pc2 := 10) dX12_pocket_9 rfl ?_
    refine g_bipush cx (pc2 := 12) ⟨by decide, by decide⟩ dX12_pocket_10 rfl ?_
    refine g_callS cx (pc2 := 15) (st := []) (As := [.int (iI v), .int (iI 0), .int (iI 99)]) (c_X12_in (M := M) hn v 0 99 (by first | assumption | omega) (by first | assumption | omega) (by first | assumption | omega)) wM_X12_in wS_X12_in kl_X12_97 ⟨rfl, rfl, Nat.le_of_ble_eq_true rfl, Nat.le_of_ble_eq_true rfl⟩ (Nat.le_of_ble_eq_true rfl) cs rfl rfl dX12_pocket_12 rfl ?_
    rintro _ _ ⟨rfl, rfl⟩
    refine g_ifb_ne cx (pc2 := 18) (tgt := 20) dX12_pocket_15 (by decide) rfl (fun h_2 => ?_) (fun h_2 => ?_)
    · skip
      refine g_aload_n cx (pc2 := 21) 0 rfl dX12_pocket_20 rfl ?_
      refine g_get cx (pc2 := 24) (ci := 12) (k0 := 77) (j := 37) (v := .int (iI (M 77 37))) rfl iwX12 rfl (lt_lit hn (Nat.le_of_ble_eq_true rfl)) rfl (Nat.le_of_ble_eq_true rfl) kf_X12_177 rfl rfl dX12_pocket_21 rfl ?_
      refine g_bipush cx (pc2 := 26) ⟨by decide, by decide⟩ dX12_pocket_24 rfl ?_
      refine g_icmp_ne cx (pc2 := 29) (tgt := 32) ⟨(by first | assumption | omega), ⟨by decide, by decide⟩⟩ dX12_pocket_26 (by decide) rfl (fun h_3 => ?_) (fun h_3 => ?_)
      · skip
        refine g_aload_n cx (pc2 := 33) 0 rfl dX12_pocket_32 rfl ?_
        refine g_get cx (pc2 := 36) (ci := 12) (k0 := 77) (j := 38) (v := .ref 100) rfl iwX12 rfl (lt_lit hn (Nat.le_of_ble_eq_true rfl)) rfl (Nat.le_of_ble_eq_true rfl) kf_X12_77 rfl rfl dX12_pocket_33 rfl ?_
        refine g_aload_n cx (pc2 := 37) 0 rfl dX12_pocket_36 rfl ?_
        refine g_get cx (pc2 := 40) (ci := 12) (k0 := 77) (j := 37) (v := .int (iI (M 77 37))) rfl iwX12 rfl (lt_lit hn (Nat.le_of_ble_eq_true rfl)) rfl (Nat.le_of_ble_eq_true rfl) kf_X12_177 rfl rfl dX12_pocket_37 rfl ?_
        refine g_iload_n cx (pc2 := 41) 1 rfl dX12_pocket_40 rfl ?_
        refine g_iast cx (pc2 := 42) (k0 := 100) rfl (lt_lit hn (Nat.le_of_ble_eq_true rfl)) (by first | assumption | omega) (by first | assumption | omega) (Nat.le_of_ble_eq_true rfl) dX12_pocket_41 rfl ?_
        refine g_aload_n cx (pc2 := 43) 0 rfl dX12_pocket_42 rfl ?_
        refine g_get cx (pc2 := 46) (ci := 12) (k0 := 77) (j := 39) (v := .ref 101) rfl iwX12 rfl (lt_lit hn (Nat.le_of_ble_eq_true rfl)) rfl (Nat.le_of_ble_eq_true rfl) kf_X12_80 rfl rfl dX12_pocket_43 rfl ?_
        refine g_aload_n cx (pc2 := 47) 0 rfl dX12_pocket_46 rfl ?_
        refine g_get cx (pc2 := 50) (ci := 12) (k0 := 77) (j := 37) (v := .int (iI (M 77 37))) rfl iwX12 rfl (lt_lit hn (Nat.le_of_ble_eq_true rfl)) rfl (Nat.le_of_ble_eq_true rfl) kf_X12_177 rfl (congrArg (fun q => Value.int (iI q)) (by simp [stM])) dX12_pocket_47 rfl ?_
        refine g_iload_n cx (pc2 := 51) 2 rfl dX12_pocket_50 rfl ?_
        refine g_iast cx (pc2 := 52) (k0 := 101) rfl (lt_lit hn (Nat.le_of_ble_eq_true rfl)) (by first | assumption | omega) (by first | assumption | omega) (Nat.le_of_ble_eq_true rfl) dX12_pocket_51 rfl ?_
        refine g_aload_n cx (pc2 := 53) 0 rfl dX12_pocket_52 rfl ?_
        refine g_dup cx (pc2 := 54) rfl dX12_pocket_53 rfl ?_
        refine g_get cx (pc2 := 57) (ci := 12) (k0 := 77) (j := 37) (v := .int (iI (M 77 37))) rfl iwX12 rfl (lt_lit hn (Nat.le_of_ble_eq_true rfl)) rfl (Nat.le_of_ble_eq_true rfl) kf_X12_177 rfl (congrArg (fun q => Value.int (iI q)) (by simp [stM])) dX12_pocket_54 rfl ?_
        refine g_iconst cx (pc2 := 58) dX12_pocket_57 rfl ?_
        refine g_iadd cx (pc2 := 59) dX12_pocket_58 rfl ?_
        refine g_puti cx (pc2 := 62) (ci := 12) (k0 := 77) (j := 37) rfl iwX12 rfl (lt_lit hn (Nat.le_of_ble_eq_true rfl)) rfl (Nat.le_of_ble_eq_true rfl) kf_X12_177 rfl tyX12_ok nmX12 rfl rfl dX12_pocket_59 rfl ?_
        refine g_aload_n cx (pc2 := 63) 0 rfl dX12_pocket_62 rfl ?_
        refine g_get cx (pc2 := 66) (ci := 12) (k0 := 77) (j := 37) (v := .int (iI ((M 77 37) + 1))) rfl iwX12 rfl (lt_lit hn (Nat.le_of_ble_eq_true rfl)) rfl (Nat.le_of_ble_eq_true rfl) kf_X12_177 rfl (congrArg (fun q => Value.int (iI q)) (by simp [stM])) dX12_pocket_63 rfl ?_
        exact g_iret cx qx dX12_pocket_66 ⟨congrArg (fun q => some (Value.int (iI q))) (by unfold xpoA; (repeat (first | rw [if_pos (by first | assumption | omega)] | rw [if_neg (by first | assumption | exact not_not_intro (by assumption) | omega)])); first | done | rfl | (symm; assumption)), by unfold xpoM; (repeat (first | rw [if_pos (by first | assumption | omega)] | rw [if_neg (by first | assumption | exact not_not_intro (by assumption) | omega)])); first | done | rfl | (symm; assumption)⟩
      · skip
        refine g_bipush cx (pc2 := 31) ⟨by decide, by decide⟩ dX12_pocket_29 rfl ?_
        exact g_iret cx qx dX12_pocket_31 ⟨congrArg (fun q => some (Value.int (iI q))) (by unfold xpoA; (repeat (first | rw [if_pos (by first | assumption | omega)] | rw [if_neg (by first | assumption | exact not_not_intro (by assumption) | omega)])); first | done | rfl | (symm; assumption)), by unfold xpoM; (repeat (first | rw [if_pos (by first | assumption | omega)] | rw [if_neg (by first | assumption | exact not_not_intro (by assumption) | omega)])); first | done | rfl | (symm; assumption)⟩
    · skip
      refine g_iconst cx (pc2 := 19) dX12_pocket_18 rfl ?_
      exact g_iret cx qx dX12_pocket_19 ⟨congrArg (fun q => some (Value.int (iI q))) (by unfold xpoA; (repeat (first | rw [if_pos (by first | assumption | omega)] | rw [if_neg (by first | assumption | exact not_not_intro (by assumption) | omega)])); first | done | rfl | (symm; assumption)), by unfold xpoM; (repeat (first | rw [if_pos (by first | assumption | omega)] | rw [if_neg (by first | assumption | exact not_not_intro (by assumption) | omega)])); first | done | rfl | (symm; assumption)⟩
set_option maxHeartbeats 4000000 in
set_option maxRecDepth 100000 in
theorem c_X12_find {n : Nat} (hn : NN n) {M : Mm} (hV : RV M) (hT : TNX M) (h : Int) (hh : ir h) : CT yX12_find cX12_find 6 (some .int) ({ frames := 2, cells := 0, slots := 0, locals := 43 }) n [.ref 77, .int (iI h)] M (rI (xfiA M h) (xfiM M h)) := by
  refine CT.of (lv0 := [(0, .ref 77), (1, .int (iI h))]) (by decide +kernel) hn (fun _ => rfl) (fun _ => Nat.le_of_ble_eq_true rfl) (fun X cx cs qx => ?_)
  have cx : Cx X cX12_find RX12 ({ frames := 2, cells := 0, slots := 0, locals := 43 }) 6 n := cx
  have hv1 := hV.1
  have ht0 := hT.1
  refine g_aload_n cx (pc2 := 1) 0 rfl dX12_find_0 rfl ?_
  refine g_iload_n cx (pc2 := 2) 1 rfl dX12_find_1 rfl ?_
  refine g_callV cx (pc2 := 5) (st := []) (As := [.int (iI h)]) (k0 := 77) (ci := 12) (c_X12_isHouse (M := M) hn (by exact hV) h (by first | assumption | omega)) wM_X12_isHouse wV_X12_isHouse kl_X12_189 rfl (lt_lit hn (Nat.le_of_ble_eq_true rfl)) rfl ⟨rfl, rfl, Nat.le_of_ble_eq_true rfl, Nat.le_of_ble_eq_true rfl⟩ (Nat.le_of_ble_eq_true rfl) cs rfl rfl dX12_find_2 rfl ?_
  rintro _ _ ⟨rfl, rfl⟩
  refine g_ifb_ne cx (pc2 := 8) (tgt := 10) dX12_find_5 (by decide) rfl (fun h_1 => ?_) (fun h_1 => ?_)
  · skip
    have L37 : ∀ (p : Int), (p = xfN M h) → (-1 ≤ p ∧ p ≤ M 77 37 - 1) → G X 37 [(0, .ref 77), (1, .int (iI h)), (2, .int (iI p))] [] M := by
      intro p hpp hpb
      refine g_iload_n cx (pc2 := 38) 2 rfl dX12_find_37 rfl ?_
      refine g_if_ge cx (pc2 := 41) (tgt := 47) (by first | assumption | omega) dX12_find_38 (by decide) rfl (fun h_2 => ?_) (fun h_2 => ?_)
      · skip
        refine g_aload_n cx (pc2 := 48) 0 rfl dX12_find_47 rfl ?_
        refine g_get cx (pc2 := 51) (ci := 12) (k0 := 77) (j := 39) (v := .ref 101) rfl iwX12 rfl (lt_lit hn (Nat.le_of_ble_eq_true rfl)) rfl (Nat.le_of_ble_eq_true rfl) kf_X12_80 rfl rfl dX12_find_48 rfl ?_
        refine g_iload_n cx (pc2 := 52) 2 rfl dX12_find_51 rfl ?_
        refine g_iald cx (pc2 := 53) (k0 := 101) rfl (lt_lit hn (Nat.le_of_ble_eq_true rfl)) (by first | assumption | omega) (by first | assumption | omega) (Nat.le_of_ble_eq_true rfl) dX12_find_52 rfl ?_
        refine g_rwi (y := iI (M 101 ((p).toNat))) (congrArg iI (by simp [stM])) ?_
        refine g_istore_n cx (pc2 := 54) (lv2 := [(0, .ref 77), (1, .int (iI h)), (2, .int (iI p)), (3, .int (iI (M 101 ((p).toNat))))]) rfl (Nat.le_of_ble_eq_true rfl) dX12_find_53 rfl ?_
        refine g_aload_n cx (pc2 := 55) 0 rfl dX12_find_54 rfl ?_
        refine g_get cx (pc2 := 58) (ci := 12) (k0 := 77) (j := 37) (v := .int (iI (M 77 37))) rfl iwX12 rfl (lt_lit hn (Nat.le_of_ble_eq_true rfl)) rfl (Nat.le_of_ble_eq_true rfl) kf_X12_177 rfl rfl dX12_find_55 rfl ?_
        refine g_iconst cx (pc2 := 59) dX12_find_58 rfl ?_
        refine g_isub cx (pc2 := 60) dX12_find_59 rfl ?_
        refine g_iload_n cx (pc2 := 61) 2 rfl dX12_find_60 rfl ?_
        refine g_isub cx (pc2 := 62) dX12_find_61 rfl ?_
        refine g_istore cx (pc2 := 64) (lv2 := [(0, .ref 77), (1, .int (iI h)), (2, .int (iI p)), (3, .int (iI (M 101 ((p).toNat)))), (4, .int (iI (((M 77 37) - 1) - p)))]) rfl (Nat.le_of_ble_eq_true rfl) dX12_find_62 rfl ?_
        refine g_aload_n cx (pc2 := 65) 0 rfl dX12_find_64 rfl ?_
        refine g_dup cx (pc2 := 66) rfl dX12_find_65 rfl ?_
        refine g_get cx (pc2 := 69) (ci := 12) (k0 := 77) (j := 37) (v := .int (iI (M 77 37))) rfl iwX12 rfl (lt_lit hn (Nat.le_of_ble_eq_true rfl)) rfl (Nat.le_of_ble_eq_true rfl) kf_X12_177 rfl rfl dX12_find_66 rfl ?_
        refine g_iconst cx (pc2 := 70) dX12_find_69 rfl ?_
        refine g_isub cx (pc2 := 71) dX12_find_70 rfl ?_
        refine g_puti cx (pc2 := 74) (ci := 12) (k0 := 77) (j := 37) rfl iwX12 rfl (lt_lit hn (Nat.le_of_ble_eq_true rfl)) rfl (Nat.le_of_ble_eq_true rfl) kf_X12_177 rfl tyX12_ok nmX12 rfl rfl dX12_find_71 rfl ?_
        refine g_iload_n cx (pc2 := 75) 2 rfl dX12_find_74 rfl ?_
        refine g_istore cx (pc2 := 77) (lv2 := [(0, .ref 77), (1, .int (iI h)), (2, .int (iI p)), (3, .int (iI (M 101 ((p).toNat)))), (4, .int (iI (((M 77 37) - 1) - p))), (5, .int (iI p))]) rfl (Nat.le_of_ble_eq_true rfl) dX12_find_75 rfl ?_
        have L77 : ∀ (fu : Nat) (j : Int), (p ≤ j ∧ j ≤ M 77 37 - 1) → (M 77 37 - j).toNat ≤ fu → G X 77 [(0, .ref 77), (3, .int (iI (M 101 p.toNat))), (4, .int (iI (M 77 37 - 1 - p))), (5, .int (iI j))] [] (toP (stM M 77 37 (M 77 37 - 1)) 99 p j) := by
          intro fu
          induction fu using Nat.strongRecOn with
          | _ fu ih77 =>
            intro j hj hk77
            have ez : toP (stM M 77 37 (M 77 37 - 1)) 99 p j 77 37 = M 77 37 - 1 := by unfold toP; rw [if_neg (by omega)]; exact stM_at _ _ _ _
            refine g_iload cx (pc2 := 79) 3 rfl dX12_find_77 rfl ?_
            refine g_aload_n cx (pc2 := 80) 0 rfl dX12_find_79 rfl ?_
            refine g_get cx (pc2 := 83) (ci := 12) (k0 := 77) (j := 37) (v := .int (iI ((toP (stM M 77 37 (M 77 37 - 1)) 99 p j) 77 37))) rfl iwX12 rfl (lt_lit hn (Nat.le_of_ble_eq_true rfl)) rfl (Nat.le_of_ble_eq_true rfl) kf_X12_177 rfl rfl dX12_find_80 rfl ?_
            refine g_rwi (y := iI (M 77 37 - 1)) (congrArg iI ez) ?_
            refine g_icmp_ge cx (pc2 := 86) (tgt := 124) ⟨(by first | assumption | omega), (by first | assumption | omega)⟩ dX12_find_83 (by decide) rfl (fun h_3 => ?_) (fun h_3 => ?_)
            · skip
              refine g_aload_n cx (pc2 := 125) 0 rfl dX12_find_124 rfl ?_
              refine g_iload_n cx (pc2 := 126) 1 rfl dX12_find_125 rfl ?_
              refine g_iload cx (pc2 := 128) 2 rfl dX12_find_126 rfl ?_
              refine g_callV cx (pc2 := 131) (st := []) (As := [.int (iI (M 101 p.toNat)), .int (iI (M 77 37 - 1 - p))]) (k0 := 77) (ci := 12) (c_X12_tells (M := (toP (stM M 77 37 (M 77 37 - 1)) 99 p j)) hn (M 101 p.toNat) (M 77 37 - 1 - p)) wM_X12_tells wV_X12_tells kl_X12_119 rfl (lt_lit hn (Nat.le_of_ble_eq_true rfl)) rfl ⟨rfl, rfl, Nat.le_of_ble_eq_true rfl, Nat.le_of_ble_eq_true rfl⟩ (Nat.le_of_ble_eq_true rfl) cs rfl rfl dX12_find_128 rfl ?_
              rintro _ _ ⟨rfl, rfl⟩
              exact g_iret cx qx dX12_find_131 ⟨congrArg (fun q => some (Value.int (iI q))) (by unfold xfiA; rw [if_neg (by first | assumption | exact not_not_intro (by assumption)), if_neg (by omega), hpp]), by unfold xfiM; rw [if_neg (by first | assumption | exact not_not_intro (by assumption)), if_neg (by omega), ← hpp, show j = M 77 37 - 1 by omega]⟩
            · skip
              refine g_aload_n cx (pc2 := 87) 0 rfl dX12_find_86 rfl ?_
              refine g_get cx (pc2 := 90) (ci := 12) (k0 := 77) (j := 38) (v := .ref 100) rfl iwX12 rfl (lt_lit hn (Nat.le_of_ble_eq_true rfl)) rfl (Nat.le_of_ble_eq_true rfl) kf_X12_77 rfl rfl dX12_find_87 rfl ?_
              refine g_iload cx (pc2 := 92) 3 rfl dX12_find_90 rfl ?_
              refine g_aload_n cx (pc2 := 93) 0 rfl dX12_find_92 rfl ?_
              refine g_get cx (pc2 := 96) (ci := 12) (k0 := 77) (j := 38) (v := .ref 100) rfl iwX12 rfl (lt_lit hn (Nat.le_of_ble_eq_true rfl)) rfl (Nat.le_of_ble_eq_true rfl) kf_X12_77 rfl rfl dX12_find_93 rfl ?_
              refine g_iload cx (pc2 := 98) 3 rfl dX12_find_96 rfl ?_
              refine g_iconst cx (pc2 := 99) dX12_find_98 rfl ?_
              refine g_iadd cx (pc2 := 100) dX12_find_99 rfl ?_
              refine g_iald cx (pc2 := 101) (k0 := 100) rfl (lt_lit hn (Nat.le_of_ble_eq_true rfl)) (by first | assumption | omega) (by first | assumption | omega) (Nat.le_of_ble_eq_true rfl) dX12_find_100 rfl ?_
              refine g_rwi (y := iI ((toP (stM M 77 37 (M 77 37 - 1)) 99 p j) 100 ((j + 1).toNat))) (congrArg iI (by simp [stM])) ?_
              refine g_iast cx (pc2 := 102) (k0 := 100) rfl (lt_lit hn (Nat.le_of_ble_eq_true rfl)) (by first | assumption | omega) (by first | assumption | omega) (Nat.le_of_ble_eq_true rfl) dX12_find_101 rfl ?_
              refine g_aload_n cx (pc2 := 103) 0 rfl dX12_find_102 rfl ?_
              refine g_get cx (pc2 := 106) (ci := 12) (k0 := 77) (j := 39) (v := .ref 101) rfl iwX12 rfl (lt_lit hn (Nat.le_of_ble_eq_true rfl)) rfl (Nat.le_of_ble_eq_true rfl) kf_X12_80 rfl rfl dX12_find_103 rfl ?_
              refine g_iload cx (pc2 := 108) 3 rfl dX12_find_106 rfl ?_
              refine g_aload_n cx (pc2 := 109) 0 rfl dX12_find_108 rfl ?_
              refine g_get cx (pc2 := 112) (ci := 12) (k0 := 77) (j := 39) (v := .ref 101) rfl iwX12 rfl (lt_lit hn (Nat.le_of_ble_eq_true rfl)) rfl (Nat.le_of_ble_eq_true rfl) kf_X12_80 rfl rfl dX12_find_109 rfl ?_
              refine g_iload cx (pc2 := 114) 3 rfl dX12_find_112 rfl ?_
              refine g_iconst cx (pc2 := 115) dX12_find_114 rfl ?_
              refine g_iadd cx (pc2 := 116) dX12_find_115 rfl ?_
              refine g_iald cx (pc2 := 117) (k0 := 101) rfl (lt_lit hn (Nat.le_of_ble_eq_true rfl)) (by first | assumption | omega) (by first | assumption | omega) (Nat.le_of_ble_eq_true rfl) dX12_find_116 rfl ?_
              refine g_rwi (y := iI ((toP (stM M 77 37 (M 77 37 - 1)) 99 p j) 101 ((j + 1).toNat))) (congrArg iI (by simp [stM])) ?_
              refine g_iast cx (pc2 := 118) (k0 := 101) rfl (lt_lit hn (Nat.le_of_ble_eq_true rfl)) (by first | assumption | omega) (by first | assumption | omega) (Nat.le_of_ble_eq_true rfl) dX12_find_117 rfl ?_
              refine g_iinc cx (pc2 := 121) 3 rfl (lv2 := [(0, .ref 77), (3, .int (iI (M 101 p.toNat))), (4, .int (iI (M 77 37 - 1 - p))), (5, .int (iI (j + 1)))]) rfl (Nat.le_of_ble_eq_true rfl) dX12_find_118 rfl ?_
              refine g_goto cx (tgt := 77) dX12_find_121 (by decide) ?_
              refine g_M (M2 := (toP (stM M 77 37 (M 77 37 - 1)) 99 p (j + 1))) (by exact toP_s (o := 99) (by omega) (by omega)) ?_
              exact ih77 ((M 77 37 - (j + 1)).toNat) (by omega) (j + 1) (by first | assumption | omega) (Nat.le_refl _)
        refine g_sub (lv2 := [(0, .ref 77), (3, .int (iI (M 101 ((p).toNat)))), (4, .int (iI (((M 77 37) - 1) - p))), (5, .int (iI p))]) [0, 3, 4, 5] rfl ?_
        refine g_M (M2 := (toP (stM M 77 37 (M 77 37 - 1)) 99 p p)) (by exact toP_0 _ 99 p) ?_
        exact L77 _ p (by first | assumption | omega) (Nat.le_refl _)
      · skip
        refine g_aload_n cx (pc2 := 42) 0 rfl dX12_find_41 rfl ?_
        refine g_iconst cx (pc2 := 43) dX12_find_42 rfl ?_
        refine g_callV cx (pc2 := 46) (st := []) (As := [.int (iI 1)]) (k0 := 77) (ci := 12) (c_X12_meets (M := M) hn 1 (by decide)) wM_X12_meets wV_X12_meets kl_X12_111 rfl (lt_lit hn (Nat.le_of_ble_eq_true rfl)) rfl ⟨rfl, rfl, Nat.le_of_ble_eq_true rfl, Nat.le_of_ble_eq_true rfl⟩ (Nat.le_of_ble_eq_true rfl) cs rfl rfl dX12_find_43 rfl ?_
        rintro _ _ ⟨rfl, rfl⟩
        exact g_iret cx qx dX12_find_46 ⟨congrArg (fun q => some (Value.int (iI q))) (by unfold xfiA; rw [if_neg (by first | assumption | exact not_not_intro (by assumption)), if_pos (by omega)]), by unfold xfiM; rw [if_neg (by first | assumption | exact not_not_intro (by assumption)), if_pos (by omega)]⟩
    refine g_aload_n cx (pc2 := 11) 0 rfl dX12_find_10 rfl ?_
    refine g_get cx (pc2 := 14) (ci := 12) (k0 := 77) (j := 37) (v := .int (iI (M 77 37))) rfl iwX12 rfl (lt_lit hn (Nat.le_of_ble_eq_true rfl)) rfl (Nat.le_of_ble_eq_true rfl) kf_X12_177 rfl rfl dX12_find_11 rfl ?_
    refine g_iconst cx (pc2 := 15) dX12_find_14 rfl ?_
    refine g_isub cx (pc2 := 16) dX12_find_15 rfl ?_
    refine g_istore_n cx (pc2 := 17) (lv2 := [(0, .ref 77), (1, .int (iI h)), (2, .int (iI ((M 77 37) - 1)))]) rfl (Nat.le_of_ble_eq_true rfl) dX12_find_16 rfl ?_
    have L17 : ∀ (fu : Nat) (i : Int), (-1 ≤ i ∧ i ≤ M 77 37 - 1) → (xfP M h (i + 1).toNat = xfN M h) → (i + 1).toNat ≤ fu → G X 17 [(0, .ref 77), (1, .int (iI h)), (2, .int (iI i))] [] M := by
      intro fu
      induction fu using Nat.strongRecOn with
      | _ fu ih17 =>
        intro i hi hp hk17
        have hst : 0 ≤ i → xfP M h (i + 1).toNat = if M 100 i.toNat = h then i else xfP M h i.toNat := fun q => by rw [show (i + 1).toNat = i.toNat + 1 by omega, xfP, Int.toNat_of_nonneg q]
        refine g_iload_n cx (pc2 := 18) 2 rfl dX12_find_17 rfl ?_
        refine g_if_lt cx (pc2 := 21) (tgt := 37) (by first | assumption | omega) dX12_find_18 (by decide) rfl (fun h_4 => ?_) (fun h_4 => ?_)
        · skip
          exact L37 i (by first | (rw [← hp, hst2]; done) | (rw [← hp, show (i + 1).toNat = 0 by omega]; show i = -1; omega)) (by first | assumption | omega)
        · skip
          have hst2 := hst (by omega)
          have htj := hT.2 i.toNat (by omega)
          refine g_aload_n cx (pc2 := 22) 0 rfl dX12_find_21 rfl ?_
          refine g_get cx (pc2 := 25) (ci := 12) (k0 := 77) (j := 38) (v := .ref 100) rfl iwX12 rfl (lt_lit hn (Nat.le_of_ble_eq_true rfl)) rfl (Nat.le_of_ble_eq_true rfl) kf_X12_77 rfl rfl dX12_find_22 rfl ?_
          refine g_iload_n cx (pc2 := 26) 2 rfl dX12_find_25 rfl ?_
          refine g_iald cx (pc2 := 27) (k0 := 100) rfl (lt_lit hn (Nat.le_of_ble_eq_true rfl)) (by first | assumption | omega) (by first | assumption | omega) (Nat.le_of_ble_eq_true rfl) dX12_find_26 rfl ?_
          refine g_rwi (y := iI (M 100 ((i).toNat))) (congrArg iI (by simp [stM])) ?_
          refine g_iload_n cx (pc2 := 28) 1 rfl dX12_find_27 rfl ?_
          refine g_icmp_eq cx (pc2 := 31) (tgt := 37) ⟨(by first | assumption | omega), (by first | assumption | omega)⟩ dX12_find_28 (by decide) rfl (fun h_5 => ?_) (fun h_5 => ?_)
          · skip
            rw [if_pos (by omega)] at hst2
            exact L37 i (by first | (rw [← hp, hst2]; done) | (rw [← hp, show (i + 1).toNat = 0 by omega]; show i = -1; omega)) (by first | assumption | omega)
          · skip
            rw [if_neg (by omega)] at hst2
            refine g_iinc cx (pc2 := 34) 2 rfl (lv2 := [(0, .ref 77), (1, .int (iI h)), (2, .int (iI (i + (-1))))]) rfl (Nat.le_of_ble_eq_true rfl) dX12_find_31 rfl ?_
            refine g_goto cx (tgt := 17) dX12_find_34 (by decide) ?_
            exact ih17 (((i + (-1)) + 1).toNat) (by omega) (i + (-1)) (by first | assumption | omega) (by rw [show (i + -1 + 1).toNat = i.toNat by omega, ← hst2]; exact hp) (Nat.le_refl _)
    exact L17 _ ((M 77 37) - 1) (by first | assumption | omega) (by unfold xfN; congr 1; omega) (Nat.le_refl _)
  · skip
    refine g_iconst cx (pc2 := 9) dX12_find_8 rfl ?_
    exact g_iret cx qx dX12_find_9 ⟨congrArg (fun q => some (Value.int (iI q))) (by unfold xfiA; rw [if_pos (by assumption)]), by unfold xfiM; rw [if_pos (by assumption)]⟩
set_option maxHeartbeats 4000000 in
set_option maxRecDepth 100000 in
theorem c_X12_track {n : Nat} (hn : NN n) {M : Mm} (hV : RV M) (hT : TRX M) (h w : Int) (hh : ir h) (hw : ir w) : CT yX12_track cX12_track 3 (some .int) ({ frames := 2, cells := 0, slots := 0, locals := 43 }) n [.ref 77, .int (iI h), .int (iI w)] M (rI (xtrA M h w) (xtrM M h w)) := by
  refine CT.of (lv0 := [(0, .ref 77), (1, .int (iI h)), (2, .int (iI w))]) (by decide +kernel) hn (fun _ => rfl) (fun _ => Nat.le_of_ble_eq_true rfl) (fun X cx cs qx => ?_)
  have cx : Cx X cX12_track RX12 ({ frames := 2, cells := 0, slots := 0, locals := 43 }) 3 n := cx
  have hv1 := hV.1
  have ht0 := hT.1
  refine g_aload_n cx (pc2 := 1) 0 rfl dX12_track_0 rfl ?_
  refine g_iload_n cx (pc2 := 2) 1 rfl dX12_track_1 rfl ?_
  refine g_callV cx (pc2 := 5) (st := []) (As := [.int (iI h)]) (k0 := 77) (ci := 12) (c_X12_isHouse (M := M) hn (by exact hV) h (by first | assumption | omega)) wM_X12_isHouse wV_X12_isHouse kl_X12_189 rfl (lt_lit hn (Nat.le_of_ble_eq_true rfl)) rfl ⟨rfl, rfl, Nat.le_of_ble_eq_true rfl, Nat.le_of_ble_eq_true rfl⟩ (Nat.le_of_ble_eq_true rfl) cs rfl rfl dX12_track_2 rfl ?_
  rintro _ _ ⟨rfl, rfl⟩
  refine g_ifb_eq cx (pc2 := 8) (tgt := 18) dX12_track_5 (by decide) rfl (fun h_1 => ?_) (fun h_1 => ?_)
  · skip
    refine g_iconst cx (pc2 := 19) dX12_track_18 rfl ?_
    exact g_iret cx qx dX12_track_19 ⟨congrArg (fun q => some (Value.int (iI q))) (by unfold xtrA; (repeat (first | rw [if_pos (by first | assumption | omega)] | rw [if_neg (by first | assumption | exact not_not_intro (by assumption) | omega)])); first | done | rfl | (symm; assumption)), by unfold xtrM; (repeat (first | rw [if_pos (by first | assumption | omega)] | rw [if_neg (by first | assumption | exact not_not_intro (by assumption) | omega)])); first | done | rfl | (symm; assumption)⟩
  · skip
    refine g_iload_n cx (pc2 := 9) 2 rfl dX12_track_8 rfl ?_
    refine g_iconst cx (pc2 := 10) dX12_track_9 rfl ?_
    refine g_bipush cx (pc2 := 12) ⟨by decide, by decide⟩ dX12_track_10 rfl ?_
    refine g_callS cx (pc2 := 15) (st := []) (As := [.int (iI w), .int (iI 0), .int (iI 27)]) (c_X12_in (M := M) hn w 0 27 (by first | assumption | omega) (by first | assumption | omega) (by first | assumption | omega)) wM_X12_in wS_X12_in kl_X12_97 ⟨rfl, rfl, Nat.le_of_ble_eq_true rfl, Nat.le_of_ble_eq_true rfl⟩ (Nat.le_of_ble_eq_true rfl) cs rfl rfl dX12_track_12 rfl ?_
    rintro _ _ ⟨rfl, rfl⟩
    refine g_ifb_ne cx (pc2 := 18) (tgt := 20) dX12_track_15 (by decide) rfl (fun h_2 => ?_) (fun h_2 => ?_)
    · skip
      refine g_aload_n cx (pc2 := 21) 0 rfl dX12_track_20 rfl ?_
      refine g_get cx (pc2 := 24) (ci := 12) (k0 := 77) (j := 40) (v := .int (iI (M 77 40))) rfl iwX12 rfl (lt_lit hn (Nat.le_of_ble_eq_true rfl)) rfl (Nat.le_of_ble_eq_true rfl) kf_X12_180 rfl rfl dX12_track_21 rfl ?_
      refine g_bipush cx (pc2 := 26) ⟨by decide, by decide⟩ dX12_track_24 rfl ?_
      refine g_icmp_ne cx (pc2 := 29) (tgt := 32) ⟨(by first | assumption | omega), ⟨by decide, by decide⟩⟩ dX12_track_26 (by decide) rfl (fun h_3 => ?_) (fun h_3 => ?_)
      · skip
        refine g_aload_n cx (pc2 := 33) 0 rfl dX12_track_32 rfl ?_
        refine g_get cx (pc2 := 36) (ci := 12) (k0 := 77) (j := 41) (v := .ref 102) rfl iwX12 rfl (lt_lit hn (Nat.le_of_ble_eq_true rfl)) rfl (Nat.le_of_ble_eq_true rfl) kf_X12_83 rfl rfl dX12_track_33 rfl ?_
        refine g_aload_n cx (pc2 := 37) 0 rfl dX12_track_36 rfl ?_
        refine g_get cx (pc2 := 40) (ci := 12) (k0 := 77) (j := 40) (v := .int (iI (M 77 40))) rfl iwX12 rfl (lt_lit hn (Nat.le_of_ble_eq_true rfl)) rfl (Nat.le_of_ble_eq_true rfl) kf_X12_180 rfl rfl dX12_track_37 rfl ?_
        refine g_iload_n cx (pc2 := 41) 1 rfl dX12_track_40 rfl ?_
        refine g_iast cx (pc2 := 42) (k0 := 102) rfl (lt_lit hn (Nat.le_of_ble_eq_true rfl)) (by first | assumption | omega) (by first | assumption | omega) (Nat.le_of_ble_eq_true rfl) dX12_track_41 rfl ?_
        refine g_aload_n cx (pc2 := 43) 0 rfl dX12_track_42 rfl ?_
        refine g_get cx (pc2 := 46) (ci := 12) (k0 := 77) (j := 42) (v := .ref 103) rfl iwX12 rfl (lt_lit hn (Nat.le_of_ble_eq_true rfl)) rfl (Nat.le_of_ble_eq_true rfl) kf_X12_86 rfl rfl dX12_track_43 rfl ?_
        refine g_aload_n cx (pc2 := 47) 0 rfl dX12_track_46 rfl ?_
        refine g_get cx (pc2 := 50) (ci := 12) (k0 := 77) (j := 40) (v := .int (iI (M 77 40))) rfl iwX12 rfl (lt_lit hn (Nat.le_of_ble_eq_true rfl)) rfl (Nat.le_of_ble_eq_true rfl) kf_X12_180 rfl (congrArg (fun q => Value.int (iI q)) (by simp [stM])) dX12_track_47 rfl ?_
        refine g_iload_n cx (pc2 := 51) 2 rfl dX12_track_50 rfl ?_
        refine g_iast cx (pc2 := 52) (k0 := 103) rfl (lt_lit hn (Nat.le_of_ble_eq_true rfl)) (by first | assumption | omega) (by first | assumption | omega) (Nat.le_of_ble_eq_true rfl) dX12_track_51 rfl ?_
        refine g_aload_n cx (pc2 := 53) 0 rfl dX12_track_52 rfl ?_
        refine g_dup cx (pc2 := 54) rfl dX12_track_53 rfl ?_
        refine g_get cx (pc2 := 57) (ci := 12) (k0 := 77) (j := 40) (v := .int (iI (M 77 40))) rfl iwX12 rfl (lt_lit hn (Nat.le_of_ble_eq_true rfl)) rfl (Nat.le_of_ble_eq_true rfl) kf_X12_180 rfl (congrArg (fun q => Value.int (iI q)) (by simp [stM])) dX12_track_54 rfl ?_
        refine g_iconst cx (pc2 := 58) dX12_track_57 rfl ?_
        refine g_iadd cx (pc2 := 59) dX12_track_58 rfl ?_
        refine g_puti cx (pc2 := 62) (ci := 12) (k0 := 77) (j := 40) rfl iwX12 rfl (lt_lit hn (Nat.le_of_ble_eq_true rfl)) rfl (Nat.le_of_ble_eq_true rfl) kf_X12_180 rfl tyX12_ok nmX12 rfl rfl dX12_track_59 rfl ?_
        refine g_aload_n cx (pc2 := 63) 0 rfl dX12_track_62 rfl ?_
        refine g_get cx (pc2 := 66) (ci := 12) (k0 := 77) (j := 40) (v := .int (iI ((M 77 40) + 1))) rfl iwX12 rfl (lt_lit hn (Nat.le_of_ble_eq_true rfl)) rfl (Nat.le_of_ble_eq_true rfl) kf_X12_180 rfl (congrArg (fun q => Value.int (iI q)) (by simp [stM])) dX12_track_63 rfl ?_
        refine g_iconst cx (pc2 := 67) dX12_track_66 rfl ?_
        refine g_isub cx (pc2 := 68) dX12_track_67 rfl ?_
        refine g_rwi (y := iI (M 77 40)) (congrArg iI (by omega)) ?_
        exact g_iret cx qx dX12_track_68 ⟨congrArg (fun q => some (Value.int (iI q))) (by unfold xtrA; (repeat (first | rw [if_pos (by first | assumption | omega)] | rw [if_neg (by first | assumption | exact not_not_intro (by assumption) | omega)])); first | done | rfl | (symm; assumption)), by unfold xtrM; (repeat (first | rw [if_pos (by first | assumption | omega)] | rw [if_neg (by first | assumption | exact not_not_intro (by assumption) | omega)])); first | done | rfl | (symm; assumption)⟩
      · skip
        refine g_bipush cx (pc2 := 31) ⟨by decide, by decide⟩ dX12_track_29 rfl ?_
        exact g_iret cx qx dX12_track_31 ⟨congrArg (fun q => some (Value.int (iI q))) (by unfold xtrA; (repeat (first | rw [if_pos (by first | assumption | omega)] | rw [if_neg (by first | assumption | exact not_not_intro (by assumption) | omega)])); first | done | rfl | (symm; assumption)), by unfold xtrM; (repeat (first | rw [if_pos (by first | assumption | omega)] | rw [if_neg (by first | assumption | exact not_not_intro (by assumption) | omega)])); first | done | rfl | (symm; assumption)⟩
    · skip
      refine g_iconst cx (pc2 := 19) dX12_track_18 rfl ?_
      exact g_iret cx qx dX12_track_19 ⟨congrArg (fun q => some (Value.int (iI q))) (by unfold xtrA; (repeat (first | rw [if_pos (by first | assumption | omega)] | rw [if_neg (by first | assumption | exact not_not_intro (by assumption) | omega)])); first | done | rfl | (symm; assumption)), by unfold xtrM; (repeat (first | rw [if_pos (by first | assumption | omega)] | rw [if_neg (by first | assumption | exact not_not_intro (by assumption) | omega)])); first | done | rfl | (symm; assumption)⟩
set_option maxHeartbeats 4000000 in
set_option maxRecDepth 100000 in
theorem c_X12_forget {n : Nat} (hn : NN n) {M : Mm} (hT : TRX M) (q : Int) (hq : ir q) : CT yX12_forget cX12_forget 3 (some .int) ({ frames := 1, cells := 0, slots := 0, locals := 22 }) n [.ref 77, .int (iI q)] M (rI (xfgA M q) (xfgM M q)) := by
  refine CT.of (lv0 := [(0, .ref 77), (1, .int (iI q))]) (by decide +kernel) hn (fun _ => rfl) (fun _ => Nat.le_of_ble_eq_true rfl) (fun X cx cs qx => ?_)
  have cx : Cx X cX12_forget RX12 ({ frames := 1, cells := 0, slots := 0, locals := 22 }) 3 n := cx
  have ht0 := hT.1
  refine g_iload_n cx (pc2 := 1) 1 rfl dX12_forget_0 rfl ?_
  refine g_iconst cx (pc2 := 2) dX12_forget_1 rfl ?_
  refine g_aload_n cx (pc2 := 3) 0 rfl dX12_forget_2 rfl ?_
  refine g_get cx (pc2 := 6) (ci := 12) (k0 := 77) (j := 40) (v := .int (iI (M 77 40))) rfl iwX12 rfl (lt_lit hn (Nat.le_of_ble_eq_true rfl)) rfl (Nat.le_of_ble_eq_true rfl) kf_X12_180 rfl rfl dX12_forget_3 rfl ?_
  refine g_callS cx (pc2 := 9) (st := []) (As := [.int (iI q), .int (iI 0), .int (iI (M 77 40))]) (c_X12_in (M := M) hn q 0 (M 77 40) (by first | assumption | omega) (by first | assumption | omega) (by first | assumption | omega)) wM_X12_in wS_X12_in kl_X12_97 ⟨rfl, rfl, Nat.le_of_ble_eq_true rfl, Nat.le_of_ble_eq_true rfl⟩ (Nat.le_of_ble_eq_true rfl) cs rfl rfl dX12_forget_6 rfl ?_
  rintro _ _ ⟨rfl, rfl⟩
  refine g_ifb_ne cx (pc2 := 12) (tgt := 14) dX12_forget_9 (by decide) rfl (fun h_1 => ?_) (fun h_1 => ?_)
  · skip
    refine g_aload_n cx (pc2 := 15) 0 rfl dX12_forget_14 rfl ?_
    refine g_get cx (pc2 := 18) (ci := 12) (k0 := 77) (j := 40) (v := .int (iI (M 77 40))) rfl iwX12 rfl (lt_lit hn (Nat.le_of_ble_eq_true rfl)) rfl (Nat.le_of_ble_eq_true rfl) kf_X12_180 rfl rfl dX12_forget_15 rfl ?_
    refine g_iload_n cx (pc2 := 19) 1 rfl dX12_forget_18 rfl ?_
    refine g_isub cx (pc2 := 20) dX12_forget_19 rfl ?_
    refine g_istore_n cx (pc2 := 21) (lv2 := [(0, .ref 77), (1, .int (iI q)), (2, .int (iI ((M 77 40) - q)))]) rfl (Nat.le_of_ble_eq_true rfl) dX12_forget_20 rfl ?_
    refine g_aload_n cx (pc2 := 22) 0 rfl dX12_forget_21 rfl ?_
    refine g_iload_n cx (pc2 := 23) 1 rfl dX12_forget_22 rfl ?_
    refine g_puti cx (pc2 := 26) (ci := 12) (k0 := 77) (j := 40) rfl iwX12 rfl (lt_lit hn (Nat.le_of_ble_eq_true rfl)) rfl (Nat.le_of_ble_eq_true rfl) kf_X12_180 rfl tyX12_ok nmX12 rfl rfl dX12_forget_23 rfl ?_
    refine g_iload_n cx (pc2 := 27) 2 rfl dX12_forget_26 rfl ?_
    exact g_iret cx qx dX12_forget_27 ⟨congrArg (fun q => some (Value.int (iI q))) (by unfold xfgA; (repeat (first | rw [if_pos (by first | assumption | omega)] | rw [if_neg (by first | assumption | exact not_not_intro (by assumption) | omega)])); first | done | rfl | (symm; assumption)), by unfold xfgM; (repeat (first | rw [if_pos (by first | assumption | omega)] | rw [if_neg (by first | assumption | exact not_not_intro (by assumption) | omega)])); first | done | rfl | (symm; assumption)⟩
  · skip
    refine g_iconst cx (pc2 := 13) dX12_forget_12 rfl ?_
    exact g_iret cx qx dX12_forget_13 ⟨congrArg (fun q => some (Value.int (iI q))) (by unfold xfgA; (repeat (first | rw [if_pos (by first | assumption | omega)] | rw [if_neg (by first | assumption | exact not_not_intro (by assumption) | omega)])); first | done | rfl | (symm; assumption)), by unfold xfgM; (repeat (first | rw [if_pos (by first | assumption | omega)] | rw [if_neg (by first | assumption | exact not_not_intro (by assumption) | omega)])); first | done | rfl | (symm; assumption)⟩
