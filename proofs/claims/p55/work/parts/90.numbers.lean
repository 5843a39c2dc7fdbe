/-! the law's village by its numbers -/
theorem trem {a b : Int} (ha : 0 ≤ a) : a - a.tdiv b * b = a % b := by
  rw [Int.tdiv_eq_ediv_of_nonneg ha, Int.emod_def, Int.mul_comm]
theorem tdv {a b : Int} (ha : 0 ≤ a) : a.tdiv b = a / b := Int.tdiv_eq_ediv_of_nonneg ha
abbrev GN (V : Nat → Int) (k : Nat) : Prop := (0 ≤ V (10 + 6 * k) ∧ V (10 + 6 * k) ≤ 5) ∧ (0 ≤ V (11 + 6 * k) ∧ V (11 + 6 * k) < V 0) ∧ (0 ≤ V (12 + 6 * k) ∧ V (12 + 6 * k) ≤ 19) ∧ (V (12 + 6 * k) ≤ V (13 + 6 * k) ∧ V (13 + 6 * k) ≤ 27) ∧ (1 ≤ V (14 + 6 * k) ∧ V (14 + 6 * k) ≤ 4) ∧ (1 ≤ V (15 + 6 * k) ∧ V (15 + 6 * k) ≤ 9)
abbrev GH (V : Nat → Int) : Prop := (∀ j, ir (V j)) ∧ (1 ≤ V 0 ∧ V 0 ≤ 5) ∧ ∀ h : Nat, h < 8 → 0 ≤ V (1 + h) ∧ V (1 + h) ≤ 15
def GV (V : Nat → Int) : Prop := GH V ∧ (0 ≤ V 9 ∧ V 9 ≤ 5) ∧ ∀ k : Nat, (k : Int) < V 9 → GN V k
def NI (V : Nat → Int) (i : Nat) : Prop := GH V ∧ (0 ≤ V 9 ∧ V 9 ≤ 5) ∧ ∀ k : Nat, k < i → GN V k
theorem NI_s {V V7 : Nat → Int} {i : Int} (h0 : 0 ≤ i) (h : NI V i.toNat) (h7 : ∀ j : Nat, j < (10 + 6 * i).toNat ∨ (10 + 6 * i + 5).toNat < j → V7 j = V j)
    (f0 : 0 ≤ V7 (10 + 6 * i).toNat ∧ V7 (10 + 6 * i).toNat ≤ 5) (f1 : 0 ≤ V7 (10 + 6 * i + 1).toNat ∧ V7 (10 + 6 * i + 1).toNat < V 0) (f2 : 0 ≤ V7 (10 + 6 * i + 2).toNat ∧ V7 (10 + 6 * i + 2).toNat ≤ 19) (f3 : V7 (10 + 6 * i + 2).toNat ≤ V7 (10 + 6 * i + 3).toNat ∧ V7 (10 + 6 * i + 3).toNat ≤ 27) (f4 : 1 ≤ V7 (10 + 6 * i + 4).toNat ∧ V7 (10 + 6 * i + 4).toNat ≤ 4) (f5 : 1 ≤ V7 (10 + 6 * i + 5).toNat ∧ V7 (10 + 6 * i + 5).toNat ≤ 9) : NI V7 (i + 1).toNat := by
  obtain ⟨⟨a1, a2, a3⟩, a4, a5⟩ := h
  have e0 : V7 0 = V 0 := h7 0 (by omega)
  have e9 : V7 9 = V 9 := h7 9 (by omega)
  have q0 : (10 + 6 * i).toNat = 10 + 6 * i.toNat := by omega
  have q1 : (10 + 6 * i + 1).toNat = 11 + 6 * i.toNat := by omega
  have q2 : (10 + 6 * i + 2).toNat = 12 + 6 * i.toNat := by omega
  have q3 : (10 + 6 * i + 3).toNat = 13 + 6 * i.toNat := by omega
  have q4 : (10 + 6 * i + 4).toNat = 14 + 6 * i.toNat := by omega
  have q5 : (10 + 6 * i + 5).toNat = 15 + 6 * i.toNat := by omega
  rw [q0] at f0
  rw [q1] at f1
  rw [q2] at f2
  rw [q2, q3] at f3
  rw [q4] at f4
  rw [q5] at f5
  rw [q0, q5] at h7
  refine ⟨⟨fun j => ?_, by rw [e0]; exact a2, fun hh hlt => by rw [h7 _ (by omega)]; exact a3 hh hlt⟩, by rw [e9]; exact a4, fun k hk => ?_⟩
  · by_cases hj : j < 10 + 6 * i.toNat ∨ 15 + 6 * i.toNat < j
    · rw [h7 j hj]; exact a1 j
    · rcases (show j = 10 + 6 * i.toNat ∨ j = 11 + 6 * i.toNat ∨ j = 12 + 6 * i.toNat ∨ j = 13 + 6 * i.toNat ∨ j = 14 + 6 * i.toNat ∨ j = 15 + 6 * i.toNat by omega) with rfl | rfl | rfl | rfl | rfl | rfl <;> exact ⟨by omega, by omega⟩
  · by_cases hk2 : k < i.toNat
    · have := a5 k hk2
      unfold GN at this ⊢
      rw [h7 (10 + 6 * k) (by omega), h7 (11 + 6 * k) (by omega), h7 (12 + 6 * k) (by omega), h7 (13 + 6 * k) (by omega), h7 (14 + 6 * k) (by omega), h7 (15 + 6 * k) (by omega), e0]
      exact this
    · rw [show k = i.toNat by omega]
      unfold GN
      rw [e0]
      exact ⟨f0, f1, f2, f3, f4, f5⟩
theorem GH_u {V : Nat → Int} (h : GH V) {i : Int} (hi : 0 ≤ i ∧ i < 8) {v : Int} (hv : 0 ≤ v ∧ v ≤ 15) : GH (uM V (1 + i).toNat v) := by
  obtain ⟨a1, a2, a3⟩ := h
  refine ⟨fun j => ?_, ?_, fun hh hlt => ?_⟩
  · unfold uM
    split
    · exact ⟨by omega, by omega⟩
    · exact a1 j
  · rw [uM_ne V _ (by omega)]
    exact a2
  · unfold uM
    split
    · exact hv
    · exact a3 hh hlt
/-- behind numbers -/
def qN (P : Pl) (w : va_W) (q0 av : Nat) : Option Value → va_W → Prop := fun r w2 => r = none ∧ ∃ V : Nat → Int, GV V ∧ w2 = w.set q0 (ar P av 64 V)
set_option maxHeartbeats 4000000 in
set_option maxRecDepth 100000 in
theorem numbers_L2 {P : Pl} {b L : Nat} {xs : Nat → Int32} {w : va_W} {av : Nat} {V0 : Nat → Int} (q0 : Nat) (hq : w[q0]? = some (ar P av 64 V0)) (n9 : Int) {X : Yq} (cx : Yx X cL_numbers RL ({ frames := 1, cells := 0, slots := 0, locals := 21 } : Room) 9 P) (ys : Ys X P) (sx : Sy X b L xs) (qx : Yr X (w) 0 0 (qN P w q0 av) none) : ∀ (fu : Nat) (V : Nat → Int) (i : Int), (NI V i.toNat) → (V 9 = n9) → (0 ≤ i ∧ i ≤ n9) → ((n9 - i).toNat) ≤ fu → YG X 71 [(0, .ref b), (1, .int (iI 10)), (2, .int (iI 5)), (3, .int (iI 5)), (4, .ref av), (5, .int (iI i))] [] (w.set q0 (ar P av 64 V)) 0 0 := by
  intro fu
  induction fu using Nat.strongRecOn with
  | _ fu ih =>
    intro V i hv hn9 hi hfu
    have hV9 := hv.2.1
    refine l_iload cx (pc2 := 73) 5 rfl dL_numbers_71 rfl ?_
    refine l_aload cx (pc2 := 75) 4 rfl dL_numbers_73 rfl ?_
    refine l_bipush cx (pc2 := 77) ⟨by decide, by decide⟩ dL_numbers_75 rfl ?_
    refine l_iaload cx (pc2 := 78) (N := 64) (V := V) q0 (set_get hq) (by first | assumption | omega | exact ⟨by omega, by omega⟩) (by first | assumption | omega | exact ⟨by omega, by omega⟩) (Nat.le_of_ble_eq_true rfl) dL_numbers_77 rfl ?_
    refine l_rwi (y := iI (V 9)) rfl ?_
    refine l_icmp_ge cx (pc2 := 81) (tgt := 301) ⟨(by first | exact ⟨by omega, by omega⟩ | (rw [hn9]; exact ⟨by omega, by omega⟩)), (by first | exact ⟨by omega, by omega⟩ | (rw [hn9]; exact ⟨by omega, by omega⟩))⟩ dL_numbers_78 (by decide) rfl (fun h_1 => ?_) (fun h_1 => ?_)
    · skip
      exact l_vret cx qx dL_numbers_301 (by exact ⟨rfl, V, ⟨hv.1, hv.2.1, fun k hk => hv.2.2 k (by omega)⟩, rfl⟩)
    · skip
      refine l_aload_n cx (pc2 := 82) 0 rfl dL_numbers_81 rfl ?_
      refine l_iload_n cx (pc2 := 83) 1 rfl dL_numbers_82 rfl ?_
      refine l_bipush cx (pc2 := 85) ⟨by decide, by decide⟩ dL_numbers_83 rfl ?_
      refine l_iadd cx (pc2 := 86) dL_numbers_85 rfl ?_
      refine l_iload cx (pc2 := 88) 5 rfl dL_numbers_86 rfl ?_
      refine l_iadd cx (pc2 := 89) dL_numbers_88 rfl ?_
      refine l_clI cx (pc2 := 92) (st := []) ys sx (As := [.ref b, .int (iI ((10 + 10) + i))]) (c_L_cell (10 + 10 + i) (by omega)) wM_L_cell wS_L_cell kl_L_19 ⟨rfl, rfl, Nat.le_of_ble_eq_true rfl, Nat.le_of_ble_eq_true rfl⟩ (Nat.le_of_ble_eq_true rfl) ⟨Nat.zero_le _, Nat.zero_le _⟩ rfl rfl dL_numbers_89 rfl ?_
      obtain ⟨x, hx⟩ : ∃ x, x = ceV L xs (10 + 10 + i) := ⟨_, rfl⟩
      have hxb : 0 ≤ x ∧ x ≤ 268435455 := by rw [hx]; exact ceV_b (by omega)
      refine l_rwi (y := iI x) (by rw [hx]) ?_
      refine l_istore cx (pc2 := 94) (lv2 := [(0, .ref b), (1, .int (iI 10)), (2, .int (iI 5)), (3, .int (iI 5)), (4, .ref av), (5, .int (iI i)), (6, .int (iI x))]) rfl (Nat.le_of_ble_eq_true rfl) dL_numbers_92 rfl ?_
      refine l_bipush cx (pc2 := 96) ⟨by decide, by decide⟩ dL_numbers_94 rfl ?_
      refine l_bipush cx (pc2 := 98) ⟨by decide, by decide⟩ dL_numbers_96 rfl ?_
      refine l_iload cx (pc2 := 100) 5 rfl dL_numbers_98 rfl ?_
      refine l_imul cx (pc2 := 101) dL_numbers_100 rfl ?_
      refine l_iadd cx (pc2 := 102) dL_numbers_101 rfl ?_
      refine l_istore cx (pc2 := 104) (lv2 := [(0, .ref b), (1, .int (iI 10)), (2, .int (iI 5)), (3, .int (iI 5)), (4, .ref av), (5, .int (iI i)), (6, .int (iI x)), (7, .int (iI (10 + (6 * i))))]) rfl (Nat.le_of_ble_eq_true rfl) dL_numbers_102 rfl ?_
      refine l_iload cx (pc2 := 106) 6 rfl dL_numbers_104 rfl ?_
      refine l_bipush cx (pc2 := 108) ⟨by decide, by decide⟩ dL_numbers_106 rfl ?_
      refine l_irem cx (pc2 := 109) (by exact ⟨⟨by omega, by omega⟩, ⟨by omega, by omega⟩, by omega, Or.inr (by omega)⟩) dL_numbers_108 rfl ?_
      refine l_rwi (y := iI (x % 16)) (by rw [trem (by omega)]) ?_
      refine l_istore cx (pc2 := 111) (lv2 := [(0, .ref b), (1, .int (iI 10)), (2, .int (iI 5)), (3, .int (iI 5)), (4, .ref av), (5, .int (iI i)), (6, .int (iI x)), (7, .int (iI (10 + (6 * i)))), (8, .int (iI (x % 16)))]) rfl (Nat.le_of_ble_eq_true rfl) dL_numbers_109 rfl ?_
      have J : ∀ kd : Int, 0 ≤ kd ∧ kd ≤ 5 → YG X 171 [(0, .ref b), (1, .int (iI 10)), (2, .int (iI 5)), (3, .int (iI 5)), (4, .ref av), (5, .int (iI i)), (6, .int (iI x)), (7, .int (iI (10 + 6 * i))), (8, .int (iI (x % 16)))] [.int (iI kd), .int (iI (10 + 6 * i)), .ref av] (w.set q0 (ar P av 64 V)) 0 0 := by
        intro kd hkd
        refine l_iastore cx (pc2 := 172) (N := 64) (V := V) q0 (set_get hq) (by first | assumption | omega | exact ⟨by omega, by omega⟩) (by first | assumption | omega | exact ⟨by omega, by omega⟩) (Nat.le_of_ble_eq_true rfl) dL_numbers_171 rfl ?_
        refine l_W (w2 := (w.set q0 (ar P av 64 (uM V ((10 + 6 * i)).toNat kd)))) (List.set_set _) ?_
        refine l_aload cx (pc2 := 174) 4 rfl dL_numbers_172 rfl ?_
        refine l_iload cx (pc2 := 176) 7 rfl dL_numbers_174 rfl ?_
        refine l_iconst cx (pc2 := 177) dL_numbers_176 rfl ?_
        refine l_iadd cx (pc2 := 178) dL_numbers_177 rfl ?_
        refine l_iload cx (pc2 := 180) 6 rfl dL_numbers_178 rfl ?_
        refine l_bipush cx (pc2 := 182) ⟨by decide, by decide⟩ dL_numbers_180 rfl ?_
        refine l_idiv cx (pc2 := 183) (by exact ⟨⟨by omega, by omega⟩, ⟨by omega, by omega⟩, by omega, Or.inr (by omega)⟩) dL_numbers_182 rfl ?_
        refine l_rwi (y := iI (x / 16)) (by rw [tdv (by omega)]) ?_
        refine l_aload cx (pc2 := 185) 4 rfl dL_numbers_183 rfl ?_
        refine l_iconst cx (pc2 := 186) dL_numbers_185 rfl ?_
        refine l_iaload cx (pc2 := 187) (N := 64) (V := (uM V ((10 + 6 * i)).toNat kd)) q0 (set_get hq) (by first | assumption | omega | exact ⟨by omega, by omega⟩) (by first | assumption | omega | exact ⟨by omega, by omega⟩) (Nat.le_of_ble_eq_true rfl) dL_numbers_186 rfl ?_
        refine l_rwi (y := iI ((uM V ((10 + 6 * i)).toNat kd) 0)) rfl ?_
        refine l_rwi (y := iI (V 0)) (by rw [uM_ne V _ (by omega)]) ?_
        have hV0 := hv.1.2.1
        have hm := Int.emod_nonneg (x / 16) (show V 0 ≠ 0 by omega)
        have hm2 := Int.emod_lt_of_pos (x / 16) (show 0 < V 0 by omega)
        refine l_irem cx (pc2 := 188) (by exact ⟨⟨by omega, by omega⟩, ⟨by omega, by omega⟩, by omega, Or.inr (by omega)⟩) dL_numbers_187 rfl ?_
        refine l_rwi (y := iI (x / 16 % V 0)) (by rw [trem (by omega)]) ?_
        refine l_iastore cx (pc2 := 189) (N := 64) (V := (uM V ((10 + 6 * i)).toNat kd)) q0 (set_get hq) (by first | assumption | omega | exact ⟨by omega, by omega⟩) (by first | assumption | omega | exact ⟨by omega, by omega⟩) (Nat.le_of_ble_eq_true rfl) dL_numbers_188 rfl ?_
        refine l_W (w2 := (w.set q0 (ar P av 64 (uM (uM V ((10 + 6 * i)).toNat kd) (((10 + 6 * i) + 1)).toNat (x / 16 % V 0))))) (List.set_set _) ?_
        refine l_aload cx (pc2 := 191) 4 rfl dL_numbers_189 rfl ?_
        refine l_iload cx (pc2 := 193) 7 rfl dL_numbers_191 rfl ?_
        refine l_iconst cx (pc2 := 194) dL_numbers_193 rfl ?_
        refine l_iadd cx (pc2 := 195) dL_numbers_194 rfl ?_
        refine l_iload cx (pc2 := 197) 6 rfl dL_numbers_195 rfl ?_
        refine l_sipush cx (pc2 := 200) ⟨by decide, by decide⟩ dL_numbers_197 rfl ?_
        refine l_idiv cx (pc2 := 201) (by exact ⟨⟨by omega, by omega⟩, ⟨by omega, by omega⟩, by omega, Or.inr (by omega)⟩) dL_numbers_200 rfl ?_
        refine l_rwi (y := iI (x / 128)) (by rw [tdv (by omega)]) ?_
        refine l_bipush cx (pc2 := 203) ⟨by decide, by decide⟩ dL_numbers_201 rfl ?_
        refine l_irem cx (pc2 := 204) (by exact ⟨⟨by omega, by omega⟩, ⟨by omega, by omega⟩, by omega, Or.inr (by omega)⟩) dL_numbers_203 rfl ?_
        refine l_rwi (y := iI (x / 128 % 20)) (by rw [trem (by omega)]) ?_
        refine l_iastore cx (pc2 := 205) (N := 64) (V := (uM (uM V ((10 + 6 * i)).toNat kd) (((10 + 6 * i) + 1)).toNat (x / 16 % V 0))) q0 (set_get hq) (by first | assumption | omega | exact ⟨by omega, by omega⟩) (by first | assumption | omega | exact ⟨by omega, by omega⟩) (Nat.le_of_ble_eq_true rfl) dL_numbers_204 rfl ?_
        refine l_W (w2 := (w.set q0 (ar P av 64 (uM (uM (uM V ((10 + 6 * i)).toNat kd) (((10 + 6 * i) + 1)).toNat (x / 16 % V 0)) (((10 + 6 * i) + 2)).toNat (x / 128 % 20))))) (List.set_set _) ?_
        refine l_aload cx (pc2 := 207) 4 rfl dL_numbers_205 rfl ?_
        refine l_iload cx (pc2 := 209) 7 rfl dL_numbers_207 rfl ?_
        refine l_iconst cx (pc2 := 210) dL_numbers_209 rfl ?_
        refine l_iadd cx (pc2 := 211) dL_numbers_210 rfl ?_
        refine l_aload cx (pc2 := 213) 4 rfl dL_numbers_211 rfl ?_
        refine l_iload cx (pc2 := 215) 7 rfl dL_numbers_213 rfl ?_
        refine l_iconst cx (pc2 := 216) dL_numbers_215 rfl ?_
        refine l_iadd cx (pc2 := 217) dL_numbers_216 rfl ?_
        refine l_iaload cx (pc2 := 218) (N := 64) (V := (uM (uM (uM V ((10 + 6 * i)).toNat kd) (((10 + 6 * i) + 1)).toNat (x / 16 % V 0)) (((10 + 6 * i) + 2)).toNat (x / 128 % 20))) q0 (set_get hq) (by first | assumption | omega | exact ⟨by omega, by omega⟩) (by first | assumption | omega | exact ⟨by omega, by omega⟩) (Nat.le_of_ble_eq_true rfl) dL_numbers_217 rfl ?_
        refine l_rwi (y := iI (x / 128 % 20)) (by rw [uM_at]) ?_
        refine l_iconst cx (pc2 := 219) dL_numbers_218 rfl ?_
        refine l_iadd cx (pc2 := 220) dL_numbers_219 rfl ?_
        refine l_iload cx (pc2 := 222) 6 rfl dL_numbers_220 rfl ?_
        refine l_sipush cx (pc2 := 225) ⟨by decide, by decide⟩ dL_numbers_222 rfl ?_
        refine l_idiv cx (pc2 := 226) (by exact ⟨⟨by omega, by omega⟩, ⟨by omega, by omega⟩, by omega, Or.inr (by omega)⟩) dL_numbers_225 rfl ?_
        refine l_rwi (y := iI (x / 4096)) (by rw [tdv (by omega)]) ?_
        refine l_bipush cx (pc2 := 228) ⟨by decide, by decide⟩ dL_numbers_226 rfl ?_
        refine l_irem cx (pc2 := 229) (by exact ⟨⟨by omega, by omega⟩, ⟨by omega, by omega⟩, by omega, Or.inr (by omega)⟩) dL_numbers_228 rfl ?_
        refine l_rwi (y := iI (x / 4096 % 8)) (by rw [trem (by omega)]) ?_
        refine l_iadd cx (pc2 := 230) dL_numbers_229 rfl ?_
        refine l_iastore cx (pc2 := 231) (N := 64) (V := (uM (uM (uM V ((10 + 6 * i)).toNat kd) (((10 + 6 * i) + 1)).toNat (x / 16 % V 0)) (((10 + 6 * i) + 2)).toNat (x / 128 % 20))) q0 (set_get hq) (by first | assumption | omega | exact ⟨by omega, by omega⟩) (by first | assumption | omega | exact ⟨by omega, by omega⟩) (Nat.le_of_ble_eq_true rfl) dL_numbers_230 rfl ?_
        refine l_W (w2 := (w.set q0 (ar P av 64 (uM (uM (uM (uM V ((10 + 6 * i)).toNat kd) (((10 + 6 * i) + 1)).toNat (x / 16 % V 0)) (((10 + 6 * i) + 2)).toNat (x / 128 % 20)) (((10 + 6 * i) + 3)).toNat (((x / 128 % 20) + 1) + (x / 4096 % 8)))))) (List.set_set _) ?_
        refine l_aload cx (pc2 := 233) 4 rfl dL_numbers_231 rfl ?_
        refine l_iload cx (pc2 := 235) 7 rfl dL_numbers_233 rfl ?_
        refine l_iconst cx (pc2 := 236) dL_numbers_235 rfl ?_
        refine l_iadd cx (pc2 := 237) dL_numbers_236 rfl ?_
        refine l_aload cx (pc2 := 239) 4 rfl dL_numbers_237 rfl ?_
        refine l_iload cx (pc2 := 241) 7 rfl dL_numbers_239 rfl ?_
        refine l_iconst cx (pc2 := 242) dL_numbers_241 rfl ?_
        refine l_iadd cx (pc2 := 243) dL_numbers_242 rfl ?_
        refine l_iaload cx (pc2 := 244) (N := 64) (V := (uM (uM (uM (uM V ((10 + 6 * i)).toNat kd) (((10 + 6 * i) + 1)).toNat (x / 16 % V 0)) (((10 + 6 * i) + 2)).toNat (x / 128 % 20)) (((10 + 6 * i) + 3)).toNat (((x / 128 % 20) + 1) + (x / 4096 % 8)))) q0 (set_get hq) (by first | assumption | omega | exact ⟨by omega, by omega⟩) (by first | assumption | omega | exact ⟨by omega, by omega⟩) (Nat.le_of_ble_eq_true rfl) dL_numbers_243 rfl ?_
        refine l_rwi (y := iI (x / 128 % 20 + 1 + x / 4096 % 8)) (by rw [uM_at]) ?_
        refine l_bipush cx (pc2 := 246) ⟨by decide, by decide⟩ dL_numbers_244 rfl ?_
        refine l_icmp_le cx (pc2 := 249) (tgt := 254) ⟨(by first | assumption | omega | exact ⟨by omega, by omega⟩), ⟨by decide, by decide⟩⟩ dL_numbers_246 (by decide) rfl (fun h_101 => ?_) (fun h_101 => ?_)
        · skip
          refine l_aload cx (pc2 := 256) 4 rfl dL_numbers_254 rfl ?_
          refine l_iload cx (pc2 := 258) 7 rfl dL_numbers_256 rfl ?_
          refine l_iconst cx (pc2 := 259) dL_numbers_258 rfl ?_
          refine l_iadd cx (pc2 := 260) dL_numbers_259 rfl ?_
          refine l_iaload cx (pc2 := 261) (N := 64) (V := (uM (uM (uM (uM V ((10 + 6 * i)).toNat kd) (((10 + 6 * i) + 1)).toNat (x / 16 % V 0)) (((10 + 6 * i) + 2)).toNat (x / 128 % 20)) (((10 + 6 * i) + 3)).toNat (((x / 128 % 20) + 1) + (x / 4096 % 8)))) q0 (set_get hq) (by first | assumption | omega | exact ⟨by omega, by omega⟩) (by first | assumption | omega | exact ⟨by omega, by omega⟩) (Nat.le_of_ble_eq_true rfl) dL_numbers_260 rfl ?_
          refine l_rwi (y := iI (x / 128 % 20 + 1 + x / 4096 % 8)) (by rw [uM_at]) ?_
          refine l_iastore cx (pc2 := 262) (N := 64) (V := (uM (uM (uM (uM V ((10 + 6 * i)).toNat kd) (((10 + 6 * i) + 1)).toNat (x / 16 % V 0)) (((10 + 6 * i) + 2)).toNat (x / 128 % 20)) (((10 + 6 * i) + 3)).toNat (((x / 128 % 20) + 1) + (x / 4096 % 8)))) q0 (set_get hq) (by first | assumption | omega | exact ⟨by omega, by omega⟩) (by first | assumption | omega | exact ⟨by omega, by omega⟩) (Nat.le_of_ble_eq_true rfl) dL_numbers_261 rfl ?_
          refine l_W (w2 := (w.set q0 (ar P av 64 (uM (uM (uM (uM (uM V ((10 + 6 * i)).toNat kd) (((10 + 6 * i) + 1)).toNat (x / 16 % V 0)) (((10 + 6 * i) + 2)).toNat (x / 128 % 20)) (((10 + 6 * i) + 3)).toNat (((x / 128 % 20) + 1) + (x / 4096 % 8))) (((10 + 6 * i) + 3)).toNat (x / 128 % 20 + 1 + x / 4096 % 8))))) (List.set_set _) ?_
          refine l_aload cx (pc2 := 264) 4 rfl dL_numbers_262 rfl ?_
          refine l_iload cx (pc2 := 266) 7 rfl dL_numbers_264 rfl ?_
          refine l_iconst cx (pc2 := 267) dL_numbers_266 rfl ?_
          refine l_iadd cx (pc2 := 268) dL_numbers_267 rfl ?_
          refine l_iconst cx (pc2 := 269) dL_numbers_268 rfl ?_
          refine l_iload cx (pc2 := 271) 6 rfl dL_numbers_269 rfl ?_
          refine l_ldc cx (pc2 := 273) kk_L_23 dL_numbers_271 rfl ?_
          refine l_idiv cx (pc2 := 274) (by exact ⟨⟨by omega, by omega⟩, ⟨by omega, by omega⟩, by omega, Or.inr (by omega)⟩) dL_numbers_273 rfl ?_
          refine l_rwi (y := iI (x / 65536)) (by rw [tdv (by omega)]) ?_
          refine l_iconst cx (pc2 := 275) dL_numbers_274 rfl ?_
          refine l_irem cx (pc2 := 276) (by exact ⟨⟨by omega, by omega⟩, ⟨by omega, by omega⟩, by omega, Or.inr (by omega)⟩) dL_numbers_275 rfl ?_
          refine l_rwi (y := iI (x / 65536 % 4)) (by rw [trem (by omega)]) ?_
          refine l_iadd cx (pc2 := 277) dL_numbers_276 rfl ?_
          refine l_iastore cx (pc2 := 278) (N := 64) (V := (uM (uM (uM (uM (uM V ((10 + 6 * i)).toNat kd) (((10 + 6 * i) + 1)).toNat (x / 16 % V 0)) (((10 + 6 * i) + 2)).toNat (x / 128 % 20)) (((10 + 6 * i) + 3)).toNat (((x / 128 % 20) + 1) + (x / 4096 % 8))) (((10 + 6 * i) + 3)).toNat (x / 128 % 20 + 1 + x / 4096 % 8))) q0 (set_get hq) (by first | assumption | omega | exact ⟨by omega, by omega⟩) (by first | assumption | omega | exact ⟨by omega, by omega⟩) (Nat.le_of_ble_eq_true rfl) dL_numbers_277 rfl ?_
          refine l_W (w2 := (w.set q0 (ar P av 64 (uM (uM (uM (uM (uM (uM V ((10 + 6 * i)).toNat kd) (((10 + 6 * i) + 1)).toNat (x / 16 % V 0)) (((10 + 6 * i) + 2)).toNat (x / 128 % 20)) (((10 + 6 * i) + 3)).toNat (((x / 128 % 20) + 1) + (x / 4096 % 8))) (((10 + 6 * i) + 3)).toNat (x / 128 % 20 + 1 + x / 4096 % 8)) (((10 + 6 * i) + 4)).toNat (1 + (x / 65536 % 4)))))) (List.set_set _) ?_
          refine l_aload cx (pc2 := 280) 4 rfl dL_numbers_278 rfl ?_
          refine l_iload cx (pc2 := 282) 7 rfl dL_numbers_280 rfl ?_
          refine l_iconst cx (pc2 := 283) dL_numbers_282 rfl ?_
          refine l_iadd cx (pc2 := 284) dL_numbers_283 rfl ?_
          refine l_iconst cx (pc2 := 285) dL_numbers_284 rfl ?_
          refine l_iload cx (pc2 := 287) 6 rfl dL_numbers_285 rfl ?_
          refine l_ldc cx (pc2 := 289) kk_L_24 dL_numbers_287 rfl ?_
          refine l_idiv cx (pc2 := 290) (by exact ⟨⟨by omega, by omega⟩, ⟨by omega, by omega⟩, by omega, Or.inr (by omega)⟩) dL_numbers_289 rfl ?_
          refine l_rwi (y := iI (x / 1048576)) (by rw [tdv (by omega)]) ?_
          refine l_bipush cx (pc2 := 292) ⟨by decide, by decide⟩ dL_numbers_290 rfl ?_
          refine l_irem cx (pc2 := 293) (by exact ⟨⟨by omega, by omega⟩, ⟨by omega, by omega⟩, by omega, Or.inr (by omega)⟩) dL_numbers_292 rfl ?_
          refine l_rwi (y := iI (x / 1048576 % 9)) (by rw [trem (by omega)]) ?_
          refine l_iadd cx (pc2 := 294) dL_numbers_293 rfl ?_
          refine l_iastore cx (pc2 := 295) (N := 64) (V := (uM (uM (uM (uM (uM (uM V ((10 + 6 * i)).toNat kd) (((10 + 6 * i) + 1)).toNat (x / 16 % V 0)) (((10 + 6 * i) + 2)).toNat (x / 128 % 20)) (((10 + 6 * i) + 3)).toNat (((x / 128 % 20) + 1) + (x / 4096 % 8))) (((10 + 6 * i) + 3)).toNat (x / 128 % 20 + 1 + x / 4096 % 8)) (((10 + 6 * i) + 4)).toNat (1 + (x / 65536 % 4)))) q0 (set_get hq) (by first | assumption | omega | exact ⟨by omega, by omega⟩) (by first | assumption | omega | exact ⟨by omega, by omega⟩) (Nat.le_of_ble_eq_true rfl) dL_numbers_294 rfl ?_
          refine l_W (w2 := (w.set q0 (ar P av 64 (uM (uM (uM (uM (uM (uM (uM V ((10 + 6 * i)).toNat kd) (((10 + 6 * i) + 1)).toNat (x / 16 % V 0)) (((10 + 6 * i) + 2)).toNat (x / 128 % 20)) (((10 + 6 * i) + 3)).toNat (((x / 128 % 20) + 1) + (x / 4096 % 8))) (((10 + 6 * i) + 3)).toNat (x / 128 % 20 + 1 + x / 4096 % 8)) (((10 + 6 * i) + 4)).toNat (1 + (x / 65536 % 4))) (((10 + 6 * i) + 5)).toNat (1 + (x / 1048576 % 9)))))) (List.set_set _) ?_
          refine l_iinc cx (pc2 := 298) 5 rfl (lv2 := [(0, .ref b), (1, .int (iI 10)), (2, .int (iI 5)), (3, .int (iI 5)), (4, .ref av), (5, .int (iI (i + 1))), (6, .int (iI x)), (7, .int (iI (10 + 6 * i))), (8, .int (iI (x % 16)))]) rfl (Nat.le_of_ble_eq_true rfl) dL_numbers_295 rfl ?_
          refine l_goto cx (tgt := 71) dL_numbers_298 (by decide) ?_
          refine l_sub (lv2 := [(0, .ref b), (1, .int (iI 10)), (2, .int (iI 5)), (3, .int (iI 5)), (4, .ref av), (5, .int (iI (i + 1)))]) [0, 1, 2, 3, 4, 5] rfl ?_
          have h7 : ∀ j : Nat, j < (10 + 6 * i).toNat ∨ (10 + 6 * i + 5).toNat < j → (uM (uM (uM (uM (uM (uM (uM V ((10 + 6 * i)).toNat kd) (((10 + 6 * i) + 1)).toNat (x / 16 % V 0)) (((10 + 6 * i) + 2)).toNat (x / 128 % 20)) (((10 + 6 * i) + 3)).toNat (((x / 128 % 20) + 1) + (x / 4096 % 8))) (((10 + 6 * i) + 3)).toNat (x / 128 % 20 + 1 + x / 4096 % 8)) (((10 + 6 * i) + 4)).toNat (1 + (x / 65536 % 4))) (((10 + 6 * i) + 5)).toNat (1 + (x / 1048576 % 9))) j = V j := fun j hj => by simp only [uM]; repeat rw [if_neg (by omega)]
          have hNI : NI (uM (uM (uM (uM (uM (uM (uM V ((10 + 6 * i)).toNat kd) (((10 + 6 * i) + 1)).toNat (x / 16 % V 0)) (((10 + 6 * i) + 2)).toNat (x / 128 % 20)) (((10 + 6 * i) + 3)).toNat (((x / 128 % 20) + 1) + (x / 4096 % 8))) (((10 + 6 * i) + 3)).toNat (x / 128 % 20 + 1 + x / 4096 % 8)) (((10 + 6 * i) + 4)).toNat (1 + (x / 65536 % 4))) (((10 + 6 * i) + 5)).toNat (1 + (x / 1048576 % 9))) (i + 1).toNat := NI_s (by omega) hv h7 (by rw [uM_ne _ (j := ((10 + 6 * i)).toNat) _ (by omega), uM_ne _ (j := ((10 + 6 * i)).toNat) _ (by omega), uM_ne _ (j := ((10 + 6 * i)).toNat) _ (by omega), uM_ne _ (j := ((10 + 6 * i)).toNat) _ (by omega), uM_ne _ (j := ((10 + 6 * i)).toNat) _ (by omega), uM_ne _ (j := ((10 + 6 * i)).toNat) _ (by omega), uM_at]; omega) (by rw [uM_ne _ (j := (((10 + 6 * i) + 1)).toNat) _ (by omega), uM_ne _ (j := (((10 + 6 * i) + 1)).toNat) _ (by omega), uM_ne _ (j := (((10 + 6 * i) + 1)).toNat) _ (by omega), uM_ne _ (j := (((10 + 6 * i) + 1)).toNat) _ (by omega), uM_ne _ (j := (((10 + 6 * i) + 1)).toNat) _ (by omega), uM_at]; omega) (by rw [uM_ne _ (j := (((10 + 6 * i) + 2)).toNat) _ (by omega), uM_ne _ (j := (((10 + 6 * i) + 2)).toNat) _ (by omega), uM_ne _ (j := (((10 + 6 * i) + 2)).toNat) _ (by omega), uM_ne _ (j := (((10 + 6 * i) + 2)).toNat) _ (by omega), uM_at]; omega) (by rw [uM_ne _ (j := (((10 + 6 * i) + 2)).toNat) _ (by omega), uM_ne _ (j := (((10 + 6 * i) + 2)).toNat) _ (by omega), uM_ne _ (j := (((10 + 6 * i) + 2)).toNat) _ (by omega), uM_ne _ (j := (((10 + 6 * i) + 2)).toNat) _ (by omega), uM_at]; rw [uM_ne _ (j := (((10 + 6 * i) + 3)).toNat) _ (by omega), uM_ne _ (j := (((10 + 6 * i) + 3)).toNat) _ (by omega), uM_at]; omega) (by rw [uM_ne _ (j := (((10 + 6 * i) + 4)).toNat) _ (by omega), uM_at]; omega) (by rw [uM_at]; omega)
          have h9 : (uM (uM (uM (uM (uM (uM (uM V ((10 + 6 * i)).toNat kd) (((10 + 6 * i) + 1)).toNat (x / 16 % V 0)) (((10 + 6 * i) + 2)).toNat (x / 128 % 20)) (((10 + 6 * i) + 3)).toNat (((x / 128 % 20) + 1) + (x / 4096 % 8))) (((10 + 6 * i) + 3)).toNat (x / 128 % 20 + 1 + x / 4096 % 8)) (((10 + 6 * i) + 4)).toNat (1 + (x / 65536 % 4))) (((10 + 6 * i) + 5)).toNat (1 + (x / 1048576 % 9))) 9 = n9 := by rw [h7 9 (by omega)]; exact hn9
          exact ih _ (by omega) _ (i + 1) hNI h9 (by omega) (Nat.le_refl _)
        · skip
          refine l_bipush cx (pc2 := 251) ⟨by decide, by decide⟩ dL_numbers_249 rfl ?_
          refine l_goto cx (tgt := 261) dL_numbers_251 (by decide) ?_
          refine l_iastore cx (pc2 := 262) (N := 64) (V := (uM (uM (uM (uM V ((10 + 6 * i)).toNat kd) (((10 + 6 * i) + 1)).toNat (x / 16 % V 0)) (((10 + 6 * i) + 2)).toNat (x / 128 % 20)) (((10 + 6 * i) + 3)).toNat (((x / 128 % 20) + 1) + (x / 4096 % 8)))) q0 (set_get hq) (by first | assumption | omega | exact ⟨by omega, by omega⟩) (by first | assumption | omega | exact ⟨by omega, by omega⟩) (Nat.le_of_ble_eq_true rfl) dL_numbers_261 rfl ?_
          refine l_W (w2 := (w.set q0 (ar P av 64 (uM (uM (uM (uM (uM V ((10 + 6 * i)).toNat kd) (((10 + 6 * i) + 1)).toNat (x / 16 % V 0)) (((10 + 6 * i) + 2)).toNat (x / 128 % 20)) (((10 + 6 * i) + 3)).toNat (((x / 128 % 20) + 1) + (x / 4096 % 8))) (((10 + 6 * i) + 3)).toNat 27)))) (List.set_set _) ?_
          refine l_aload cx (pc2 := 264) 4 rfl dL_numbers_262 rfl ?_
          refine l_iload cx (pc2 := 266) 7 rfl dL_numbers_264 rfl ?_
          refine l_iconst cx (pc2 := 267) dL_numbers_266 rfl ?_
          refine l_iadd cx (pc2 := 268) dL_numbers_267 rfl ?_
          refine l_iconst cx (pc2 := 269) dL_numbers_268 rfl ?_
          refine l_iload cx (pc2 := 271) 6 rfl dL_numbers_269 rfl ?_
          refine l_ldc cx (pc2 := 273) kk_L_23 dL_numbers_271 rfl ?_
          refine l_idiv cx (pc2 := 274) (by exact ⟨⟨by omega, by omega⟩, ⟨by omega, by omega⟩, by omega, Or.inr (by omega)⟩) dL_numbers_273 rfl ?_
          refine l_rwi (y := iI (x / 65536)) (by rw [tdv (by omega)]) ?_
          refine l_iconst cx (pc2 := 275) dL_numbers_274 rfl ?_
          refine l_irem cx (pc2 := 276) (by exact ⟨⟨by omega, by omega⟩, ⟨by omega, by omega⟩, by omega, Or.inr (by omega)⟩) dL_numbers_275 rfl ?_
          refine l_rwi (y := iI (x / 65536 % 4)) (by rw [trem (by omega)]) ?_
          refine l_iadd cx (pc2 := 277) dL_numbers_276 rfl ?_
          refine l_iastore cx (pc2 := 278) (N := 64) (V := (uM (uM (uM (uM (uM V ((10 + 6 * i)).toNat kd) (((10 + 6 * i) + 1)).toNat (x / 16 % V 0)) (((10 + 6 * i) + 2)).toNat (x / 128 % 20)) (((10 + 6 * i) + 3)).toNat (((x / 128 % 20) + 1) + (x / 4096 % 8))) (((10 + 6 * i) + 3)).toNat 27)) q0 (set_get hq) (by first | assumption | omega | exact ⟨by omega, by omega⟩) (by first | assumption | omega | exact ⟨by omega, by omega⟩) (Nat.le_of_ble_eq_true rfl) dL_numbers_277 rfl ?_
          refine l_W (w2 := (w.set q0 (ar P av 64 (uM (uM (uM (uM (uM (uM V ((10 + 6 * i)).toNat kd) (((10 + 6 * i) + 1)).toNat (x / 16 % V 0)) (((10 + 6 * i) + 2)).toNat (x / 128 % 20)) (((10 + 6 * i) + 3)).toNat (((x / 128 % 20) + 1) + (x / 4096 % 8))) (((10 + 6 * i) + 3)).toNat 27) (((10 + 6 * i) + 4)).toNat (1 + (x / 65536 % 4)))))) (List.set_set _) ?_
          refine l_aload cx (pc2 := 280) 4 rfl dL_numbers_278 rfl ?_
          refine l_iload cx (pc2 := 282) 7 rfl dL_numbers_280 rfl ?_
          refine l_iconst cx (pc2 := 283) dL_numbers_282 rfl ?_
          refine l_iadd cx (pc2 := 284) dL_numbers_283 rfl ?_
          refine l_iconst cx (pc2 := 285) dL_numbers_284 rfl ?_
          refine l_iload cx (pc2 := 287) 6 rfl dL_numbers_285 rfl ?_
          refine l_ldc cx (pc2 := 289) kk_L_24 dL_numbers_287 rfl ?_
          refine l_idiv cx (pc2 := 290) (by exact ⟨⟨by omega, by omega⟩, ⟨by omega, by omega⟩, by omega, Or.inr (by omega)⟩) dL_numbers_289 rfl ?_
          refine l_rwi (y := iI (x / 1048576)) (by rw [tdv (by omega)]) ?_
          refine l_bipush cx (pc2 := 292) ⟨by decide, by decide⟩ dL_numbers_290 rfl ?_
          refine l_irem cx (pc2 := 293) (by exact ⟨⟨by omega, by omega⟩, ⟨by omega, by omega⟩, by omega, Or.inr (by omega)⟩) dL_numbers_292 rfl ?_
          refine l_rwi (y := iI (x / 1048576 % 9)) (by rw [trem (by omega)]) ?_
          refine l_iadd cx (pc2 := 294) dL_numbers_293 rfl ?_
          refine l_iastore cx (pc2 := 295) (N := 64) (V := (uM (uM (uM (uM (uM (uM V ((10 + 6 * i)).toNat kd) (((10 + 6 * i) + 1)).toNat (x / 16 % V 0)) (((10 + 6 * i) + 2)).toNat (x / 128 % 20)) (((10 + 6 * i) + 3)).toNat (((x / 128 % 20) + 1) + (x / 4096 % 8))) (((10 + 6 * i) + 3)).toNat 27) (((10 + 6 * i) + 4)).toNat (1 + (x / 65536 % 4)))) q0 (set_get hq) (by first | assumption | omega | exact ⟨by omega, by omega⟩) (by first | assumption | omega | exact ⟨by omega, by omega⟩) (Nat.le_of_ble_eq_true rfl) dL_numbers_294 rfl ?_
          refine l_W (w2 := (w.set q0 (ar P av 64 (uM (uM (uM (uM (uM (uM (uM V ((10 + 6 * i)).toNat kd) (((10 + 6 * i) + 1)).toNat (x / 16 % V 0)) (((10 + 6 * i) + 2)).toNat (x / 128 % 20)) (((10 + 6 * i) + 3)).toNat (((x / 128 % 20) + 1) + (x / 4096 % 8))) (((10 + 6 * i) + 3)).toNat 27) (((10 + 6 * i) + 4)).toNat (1 + (x / 65536 % 4))) (((10 + 6 * i) + 5)).toNat (1 + (x / 1048576 % 9)))))) (List.set_set _) ?_
          refine l_iinc cx (pc2 := 298) 5 rfl (lv2 := [(0, .ref b), (1, .int (iI 10)), (2, .int (iI 5)), (3, .int (iI 5)), (4, .ref av), (5, .int (iI (i + 1))), (6, .int (iI x)), (7, .int (iI (10 + 6 * i))), (8, .int (iI (x % 16)))]) rfl (Nat.le_of_ble_eq_true rfl) dL_numbers_295 rfl ?_
          refine l_goto cx (tgt := 71) dL_numbers_298 (by decide) ?_
          refine l_sub (lv2 := [(0, .ref b), (1, .int (iI 10)), (2, .int (iI 5)), (3, .int (iI 5)), (4, .ref av), (5, .int (iI (i + 1)))]) [0, 1, 2, 3, 4, 5] rfl ?_
          have h7 : ∀ j : Nat, j < (10 + 6 * i).toNat ∨ (10 + 6 * i + 5).toNat < j → (uM (uM (uM (uM (uM (uM (uM V ((10 + 6 * i)).toNat kd) (((10 + 6 * i) + 1)).toNat (x / 16 % V 0)) (((10 + 6 * i) + 2)).toNat (x / 128 % 20)) (((10 + 6 * i) + 3)).toNat (((x / 128 % 20) + 1) + (x / 4096 % 8))) (((10 + 6 * i) + 3)).toNat 27) (((10 + 6 * i) + 4)).toNat (1 + (x / 65536 % 4))) (((10 + 6 * i) + 5)).toNat (1 + (x / 1048576 % 9))) j = V j := fun j hj => by simp only [uM]; repeat rw [if_neg (by omega)]
          have hNI : NI (uM (uM (uM (uM (uM (uM (uM V ((10 + 6 * i)).toNat kd) (((10 + 6 * i) + 1)).toNat (x / 16 % V 0)) (((10 + 6 * i) + 2)).toNat (x / 128 % 20)) (((10 + 6 * i) + 3)).toNat (((x / 128 % 20) + 1) + (x / 4096 % 8))) (((10 + 6 * i) + 3)).toNat 27) (((10 + 6 * i) + 4)).toNat (1 + (x / 65536 % 4))) (((10 + 6 * i) + 5)).toNat (1 + (x / 1048576 % 9))) (i + 1).toNat := NI_s (by omega) hv h7 (by rw [uM_ne _ (j := ((10 + 6 * i)).toNat) _ (by omega), uM_ne _ (j := ((10 + 6 * i)).toNat) _ (by omega), uM_ne _ (j := ((10 + 6 * i)).toNat) _ (by omega), uM_ne _ (j := ((10 + 6 * i)).toNat) _ (by omega), uM_ne _ (j := ((10 + 6 * i)).toNat) _ (by omega), uM_ne _ (j := ((10 + 6 * i)).toNat) _ (by omega), uM_at]; omega) (by rw [uM_ne _ (j := (((10 + 6 * i) + 1)).toNat) _ (by omega), uM_ne _ (j := (((10 + 6 * i) + 1)).toNat) _ (by omega), uM_ne _ (j := (((10 + 6 * i) + 1)).toNat) _ (by omega), uM_ne _ (j := (((10 + 6 * i) + 1)).toNat) _ (by omega), uM_ne _ (j := (((10 + 6 * i) + 1)).toNat) _ (by omega), uM_at]; omega) (by rw [uM_ne _ (j := (((10 + 6 * i) + 2)).toNat) _ (by omega), uM_ne _ (j := (((10 + 6 * i) + 2)).toNat) _ (by omega), uM_ne _ (j := (((10 + 6 * i) + 2)).toNat) _ (by omega), uM_ne _ (j := (((10 + 6 * i) + 2)).toNat) _ (by omega), uM_at]; omega) (by rw [uM_ne _ (j := (((10 + 6 * i) + 2)).toNat) _ (by omega), uM_ne _ (j := (((10 + 6 * i) + 2)).toNat) _ (by omega), uM_ne _ (j := (((10 + 6 * i) + 2)).toNat) _ (by omega), uM_ne _ (j := (((10 + 6 * i) + 2)).toNat) _ (by omega), uM_at]; rw [uM_ne _ (j := (((10 + 6 * i) + 3)).toNat) _ (by omega), uM_ne _ (j := (((10 + 6 * i) + 3)).toNat) _ (by omega), uM_at]; omega) (by rw [uM_ne _ (j := (((10 + 6 * i) + 4)).toNat) _ (by omega), uM_at]; omega) (by rw [uM_at]; omega)
          have h9 : (uM (uM (uM (uM (uM (uM (uM V ((10 + 6 * i)).toNat kd) (((10 + 6 * i) + 1)).toNat (x / 16 % V 0)) (((10 + 6 * i) + 2)).toNat (x / 128 % 20)) (((10 + 6 * i) + 3)).toNat (((x / 128 % 20) + 1) + (x / 4096 % 8))) (((10 + 6 * i) + 3)).toNat 27) (((10 + 6 * i) + 4)).toNat (1 + (x / 65536 % 4))) (((10 + 6 * i) + 5)).toNat (1 + (x / 1048576 % 9))) 9 = n9 := by rw [h7 9 (by omega)]; exact hn9
          exact ih _ (by omega) _ (i + 1) hNI h9 (by omega) (Nat.le_refl _)
      refine l_aload cx (pc2 := 113) 4 rfl dL_numbers_111 rfl ?_
      refine l_iload cx (pc2 := 115) 7 rfl dL_numbers_113 rfl ?_
      refine l_iload cx (pc2 := 117) 8 rfl dL_numbers_115 rfl ?_
      refine l_bipush cx (pc2 := 119) ⟨by decide, by decide⟩ dL_numbers_117 rfl ?_
      refine l_icmp_ge cx (pc2 := 122) (tgt := 126) ⟨(by first | assumption | omega | exact ⟨by omega, by omega⟩), ⟨by decide, by decide⟩⟩ dL_numbers_119 (by decide) rfl (fun h_2 => ?_) (fun h_2 => ?_)
      · skip
        refine l_iload cx (pc2 := 128) 8 rfl dL_numbers_126 rfl ?_
        refine l_bipush cx (pc2 := 130) ⟨by decide, by decide⟩ dL_numbers_128 rfl ?_
        refine l_icmp_ge cx (pc2 := 133) (tgt := 137) ⟨(by first | assumption | omega | exact ⟨by omega, by omega⟩), ⟨by decide, by decide⟩⟩ dL_numbers_130 (by decide) rfl (fun h_3 => ?_) (fun h_3 => ?_)
        · skip
          refine l_iload cx (pc2 := 139) 8 rfl dL_numbers_137 rfl ?_
          refine l_bipush cx (pc2 := 141) ⟨by decide, by decide⟩ dL_numbers_139 rfl ?_
          refine l_icmp_ge cx (pc2 := 144) (tgt := 148) ⟨(by first | assumption | omega | exact ⟨by omega, by omega⟩), ⟨by decide, by decide⟩⟩ dL_numbers_141 (by decide) rfl (fun h_4 => ?_) (fun h_4 => ?_)
          · skip
            refine l_iload cx (pc2 := 150) 8 rfl dL_numbers_148 rfl ?_
            refine l_bipush cx (pc2 := 152) ⟨by decide, by decide⟩ dL_numbers_150 rfl ?_
            refine l_icmp_ge cx (pc2 := 155) (tgt := 159) ⟨(by first | assumption | omega | exact ⟨by omega, by omega⟩), ⟨by decide, by decide⟩⟩ dL_numbers_152 (by decide) rfl (fun h_5 => ?_) (fun h_5 => ?_)
            · skip
              refine l_iload cx (pc2 := 161) 8 rfl dL_numbers_159 rfl ?_
              refine l_bipush cx (pc2 := 163) ⟨by decide, by decide⟩ dL_numbers_161 rfl ?_
              refine l_icmp_ge cx (pc2 := 166) (tgt := 170) ⟨(by first | assumption | omega | exact ⟨by omega, by omega⟩), ⟨by decide, by decide⟩⟩ dL_numbers_163 (by decide) rfl (fun h_6 => ?_) (fun h_6 => ?_)
              · skip
                refine l_iconst cx (pc2 := 171) dL_numbers_170 rfl ?_
                exact J _ (by decide)
              · skip
                refine l_iconst cx (pc2 := 167) dL_numbers_166 rfl ?_
                refine l_goto cx (tgt := 171) dL_numbers_167 (by decide) ?_
                exact J _ (by decide)
            · skip
              refine l_iconst cx (pc2 := 156) dL_numbers_155 rfl ?_
              refine l_goto cx (tgt := 171) dL_numbers_156 (by decide) ?_
              exact J _ (by decide)
          · skip
            refine l_iconst cx (pc2 := 145) dL_numbers_144 rfl ?_
            refine l_goto cx (tgt := 171) dL_numbers_145 (by decide) ?_
            exact J _ (by decide)
        · skip
          refine l_iconst cx (pc2 := 134) dL_numbers_133 rfl ?_
          refine l_goto cx (tgt := 171) dL_numbers_134 (by decide) ?_
          exact J _ (by decide)
      · skip
        refine l_iconst cx (pc2 := 123) dL_numbers_122 rfl ?_
        refine l_goto cx (tgt := 171) dL_numbers_123 (by decide) ?_
        exact J _ (by decide)
set_option maxHeartbeats 4000000 in
set_option maxRecDepth 100000 in
theorem numbers_L1 {P : Pl} {b L : Nat} {xs : Nat → Int32} {w : va_W} {av : Nat} {V0 : Nat → Int} (q0 : Nat) (hq : w[q0]? = some (ar P av 64 V0)) {X : Yq} (cx : Yx X cL_numbers RL ({ frames := 1, cells := 0, slots := 0, locals := 21 } : Room) 9 P) (ys : Ys X P) (sx : Sy X b L xs) (qx : Yr X (w) 0 0 (qN P w q0 av) none) : ∀ (fu : Nat) (V : Nat → Int) (h : Int), (GH V) → (0 ≤ h ∧ h ≤ V 0) → ((V 0 - h).toNat) ≤ fu → YG X 16 [(0, .ref b), (1, .int (iI 10)), (2, .int (iI 5)), (3, .int (iI 5)), (4, .ref av), (5, .int (iI h))] [] (w.set q0 (ar P av 64 V)) 0 0 := by
  intro fu
  induction fu using Nat.strongRecOn with
  | _ fu ih =>
    intro V h hv hh hfu
    have hV0 := hv.2.1
    have hc1 := ceV_b (L := L) (xs := xs) (k := 10 + 1 + h)
    have hc2 := ceV_b (L := L) (xs := xs) (k := 10 + 9)
    refine l_iload cx (pc2 := 18) 5 rfl dL_numbers_16 rfl ?_
    refine l_aload cx (pc2 := 20) 4 rfl dL_numbers_18 rfl ?_
    refine l_iconst cx (pc2 := 21) dL_numbers_20 rfl ?_
    refine l_iaload cx (pc2 := 22) (N := 64) (V := V) q0 (set_get hq) (by first | assumption | omega | exact hv.1 _ | exact ⟨by omega, by omega⟩) (by first | assumption | omega | exact hv.1 _ | exact ⟨by omega, by omega⟩) (Nat.le_of_ble_eq_true rfl) dL_numbers_21 rfl ?_
    refine l_rwi (y := iI (V 0)) rfl ?_
    refine l_icmp_ge cx (pc2 := 25) (tgt := 51) ⟨(by first | assumption | omega | exact hv.1 _ | exact ⟨by omega, by omega⟩), (by first | assumption | omega | exact hv.1 _ | exact ⟨by omega, by omega⟩)⟩ dL_numbers_22 (by decide) rfl (fun h_1 => ?_) (fun h_1 => ?_)
    · skip
      refine l_aload cx (pc2 := 53) 4 rfl dL_numbers_51 rfl ?_
      refine l_bipush cx (pc2 := 55) ⟨by decide, by decide⟩ dL_numbers_53 rfl ?_
      refine l_aload_n cx (pc2 := 56) 0 rfl dL_numbers_55 rfl ?_
      refine l_iload_n cx (pc2 := 57) 1 rfl dL_numbers_56 rfl ?_
      refine l_bipush cx (pc2 := 59) ⟨by decide, by decide⟩ dL_numbers_57 rfl ?_
      refine l_iadd cx (pc2 := 60) dL_numbers_59 rfl ?_
      refine l_clI cx (pc2 := 63) (st := [.int (iI 9), .ref av]) ys sx (As := [.ref b, .int (iI (10 + 9))]) (c_L_cell (10 + 9) (by omega)) wM_L_cell wS_L_cell kl_L_19 ⟨rfl, rfl, Nat.le_of_ble_eq_true rfl, Nat.le_of_ble_eq_true rfl⟩ (Nat.le_of_ble_eq_true rfl) ⟨Nat.zero_le _, Nat.zero_le _⟩ rfl rfl dL_numbers_60 rfl ?_
      refine l_iload_n cx (pc2 := 64) 3 rfl dL_numbers_63 rfl ?_
      refine l_iconst cx (pc2 := 65) dL_numbers_64 rfl ?_
      refine l_iadd cx (pc2 := 66) dL_numbers_65 rfl ?_
      refine l_irem cx (pc2 := 67) (by exact ⟨ceV_ir (by omega), ⟨by omega, by omega⟩, by omega, Or.inr (by omega)⟩) dL_numbers_66 rfl ?_
      refine l_rwi (y := iI (ceV L xs (10 + 9) % 6)) (by rw [show (5 : Int) + 1 = 6 from rfl, trem (by omega)]) ?_
      refine l_iastore cx (pc2 := 68) (N := 64) (V := V) q0 (set_get hq) (by first | assumption | omega | exact hv.1 _ | exact ⟨by omega, by omega⟩) (by first | assumption | omega | exact hv.1 _ | exact ⟨by omega, by omega⟩) (Nat.le_of_ble_eq_true rfl) dL_numbers_67 rfl ?_
      refine l_W (w2 := (w.set q0 (ar P av 64 (uM V 9 (ceV L xs (10 + 9) % 6))))) (List.set_set _) ?_
      refine l_iconst cx (pc2 := 69) dL_numbers_68 rfl ?_
      refine l_istore cx (pc2 := 71) (lv2 := [(0, .ref b), (1, .int (iI 10)), (2, .int (iI 5)), (3, .int (iI 5)), (4, .ref av), (5, .int (iI 0))]) rfl (Nat.le_of_ble_eq_true rfl) dL_numbers_69 rfl ?_
      have hv2 : NI (uM V 9 (ceV L xs (10 + 9) % 6)) (0 : Int).toNat := ⟨⟨fun j => by unfold uM; split; exact ⟨by omega, by omega⟩; exact hv.1 j, by rw [uM_ne V _ (by omega)]; exact hv.2.1, fun hh hlt => by rw [uM_ne V _ (by omega)]; exact hv.2.2 hh hlt⟩, by rw [uM_at]; omega, fun k hk => absurd hk (Nat.not_lt_zero _)⟩
      exact numbers_L2 q0 hq _ cx ys sx qx _ _ 0 hv2 rfl (by rw [uM_at]; omega) (Nat.le_refl _)
    · skip
      refine l_aload cx (pc2 := 27) 4 rfl dL_numbers_25 rfl ?_
      refine l_iconst cx (pc2 := 28) dL_numbers_27 rfl ?_
      refine l_iload cx (pc2 := 30) 5 rfl dL_numbers_28 rfl ?_
      refine l_iadd cx (pc2 := 31) dL_numbers_30 rfl ?_
      refine l_aload_n cx (pc2 := 32) 0 rfl dL_numbers_31 rfl ?_
      refine l_iload_n cx (pc2 := 33) 1 rfl dL_numbers_32 rfl ?_
      refine l_iconst cx (pc2 := 34) dL_numbers_33 rfl ?_
      refine l_iadd cx (pc2 := 35) dL_numbers_34 rfl ?_
      refine l_iload cx (pc2 := 37) 5 rfl dL_numbers_35 rfl ?_
      refine l_iadd cx (pc2 := 38) dL_numbers_37 rfl ?_
      refine l_clI cx (pc2 := 41) (st := [.int (iI (1 + h)), .ref av]) ys sx (As := [.ref b, .int (iI ((10 + 1) + h))]) (c_L_cell (10 + 1 + h) (by omega)) wM_L_cell wS_L_cell kl_L_19 ⟨rfl, rfl, Nat.le_of_ble_eq_true rfl, Nat.le_of_ble_eq_true rfl⟩ (Nat.le_of_ble_eq_true rfl) ⟨Nat.zero_le _, Nat.zero_le _⟩ rfl rfl dL_numbers_38 rfl ?_
      refine l_bipush cx (pc2 := 43) ⟨by decide, by decide⟩ dL_numbers_41 rfl ?_
      refine l_irem cx (pc2 := 44) (by exact ⟨ceV_ir (by omega), ⟨by omega, by omega⟩, by omega, Or.inr (by omega)⟩) dL_numbers_43 rfl ?_
      refine l_rwi (y := iI (ceV L xs (10 + 1 + h) % 16)) (by rw [trem (by omega)]) ?_
      refine l_iastore cx (pc2 := 45) (N := 64) (V := V) q0 (set_get hq) (by first | assumption | omega | exact hv.1 _ | exact ⟨by omega, by omega⟩) (by first | assumption | omega | exact hv.1 _ | exact ⟨by omega, by omega⟩) (Nat.le_of_ble_eq_true rfl) dL_numbers_44 rfl ?_
      refine l_W (w2 := (w.set q0 (ar P av 64 (uM V ((1 + h)).toNat (ceV L xs (10 + 1 + h) % 16))))) (List.set_set _) ?_
      refine l_iinc cx (pc2 := 48) 5 rfl (lv2 := [(0, .ref b), (1, .int (iI 10)), (2, .int (iI 5)), (3, .int (iI 5)), (4, .ref av), (5, .int (iI (h + 1)))]) rfl (Nat.le_of_ble_eq_true rfl) dL_numbers_45 rfl ?_
      refine l_goto cx (tgt := 16) dL_numbers_48 (by decide) ?_
      exact ih _ (by rw [uM_ne V _ (by omega)]; omega) _ (h + 1) (GH_u hv (by omega) (by omega)) (by rw [uM_ne V _ (by omega)]; omega) (Nat.le_refl _)
set_option maxHeartbeats 4000000 in
set_option maxRecDepth 100000 in
theorem c_L_numbers {P : Pl} {b L : Nat} {xs : Nat → Int32} {w : va_W} {av : Nat} {V0 : Nat → Int} (q0 : Nat) (hq : w[q0]? = some (ar P av 64 V0)) (hz : ∀ j, V0 j = 0) : CLW P b L xs yL_numbers cL_numbers 9 none ({ frames := 1, cells := 0, slots := 0, locals := 21 } : Room) 0 0 [.ref b, .int (iI 10), .int (iI 5), .int (iI 5), .ref av] (w) (qN P w q0 av) := by
  refine CLW.of (lv0 := [(0, .ref b), (1, .int (iI 10)), (2, .int (iI 5)), (3, .int (iI 5)), (4, .ref av)]) (by decide +kernel) rfl rfl (Nat.le_of_ble_eq_true rfl) (fun X cx ys sx qx => ?_)
  have hc1 := ceV_b (L := L) (xs := xs) (k := 10) (by omega)
  refine l_W (w2 := w.set q0 (ar P av 64 V0)) (set_same hq) ?_
  refine l_aload cx (pc2 := 2) 4 rfl dL_numbers_0 rfl ?_
  refine l_iconst cx (pc2 := 3) dL_numbers_2 rfl ?_
  refine l_iconst cx (pc2 := 4) dL_numbers_3 rfl ?_
  refine l_aload_n cx (pc2 := 5) 0 rfl dL_numbers_4 rfl ?_
  refine l_iload_n cx (pc2 := 6) 1 rfl dL_numbers_5 rfl ?_
  refine l_clI cx (pc2 := 9) (st := [.int (iI 1), .int (iI 0), .ref av]) ys sx (As := [.ref b, .int (iI 10)]) (c_L_cell 10 (by omega)) wM_L_cell wS_L_cell kl_L_19 ⟨rfl, rfl, Nat.le_of_ble_eq_true rfl, Nat.le_of_ble_eq_true rfl⟩ (Nat.le_of_ble_eq_true rfl) ⟨Nat.zero_le _, Nat.zero_le _⟩ rfl rfl dL_numbers_6 rfl ?_
  refine l_iload_n cx (pc2 := 10) 2 rfl dL_numbers_9 rfl ?_
  refine l_irem cx (pc2 := 11) (by exact ⟨ceV_ir (by omega), ⟨by omega, by omega⟩, by omega, Or.inr (by omega)⟩) dL_numbers_10 rfl ?_
  refine l_rwi (y := iI (ceV L xs 10 % 5)) (by rw [trem (by omega)]) ?_
  refine l_iadd cx (pc2 := 12) dL_numbers_11 rfl ?_
  refine l_iastore cx (pc2 := 13) (N := 64) (V := V0) q0 (set_get hq) (by first | assumption | omega | exact ⟨by omega, by omega⟩) (by first | assumption | omega | exact ⟨by omega, by omega⟩) (Nat.le_of_ble_eq_true rfl) dL_numbers_12 rfl ?_
  refine l_W (w2 := (w.set q0 (ar P av 64 (uM V0 0 (1 + (ceV L xs 10 % 5)))))) (List.set_set _) ?_
  refine l_iconst cx (pc2 := 14) dL_numbers_13 rfl ?_
  refine l_istore cx (pc2 := 16) (lv2 := [(0, .ref b), (1, .int (iI 10)), (2, .int (iI 5)), (3, .int (iI 5)), (4, .ref av), (5, .int (iI 0))]) rfl (Nat.le_of_ble_eq_true rfl) dL_numbers_14 rfl ?_
  have hv2 : GH (uM V0 0 (1 + ceV L xs 10 % 5)) := ⟨fun j => by unfold uM; split; exact ⟨by omega, by omega⟩; rw [hz j]; exact ⟨by decide, by decide⟩, by rw [uM_at]; omega, fun hh hlt => by rw [uM_ne V0 _ (by omega), hz]; decide⟩
  exact numbers_L1 q0 hq cx ys sx qx _ _ 0 hv2 (by rw [uM_at]; omega) (Nat.le_refl _)
