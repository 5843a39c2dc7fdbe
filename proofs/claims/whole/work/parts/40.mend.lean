/-- where the coat is behind the last one, m mendings done -/
def hbX (J : Nat → Nat → Int) (p0 hp : Int) (m c : Nat) : Int := if c < 8 then J c 0 else if m = 0 then p0 else hp
def mlF (J : Nat → Nat → Int) (p0 hp : Int) (F : Nat → Int) (r m i : Nat) : Nat → Int
  | 0 => 1000
  | c + 1 => min (mlF J p0 hp F r m i c) (if F (81 * r + 9 * m + c) < 1000 then exB J i (hbX J p0 hp m c) (F (81 * r + 9 * m + c)) else 1000)
def mtV (J : Nat → Nat → Int) (p0 hp : Int) (F : Nat → Int) (s m c : Nat) : Int := if F (81 * s + 9 * (m - 1) + c) < 1000 then F (81 * s + 9 * (m - 1) + c) + wap (hbX J p0 hp (m - 1) c) hp + 1 else 1000
def mdF (J : Nat → Nat → Int) (p0 hp : Int) (F : Nat → Int) (s m : Nat) : Nat → Int
  | 0 => 1000
  | c + 1 => if mtV J p0 hp F s m c ≤ 28 then min (mdF J p0 hp F s m c) (mtV J p0 hp F s m c) else mdF J p0 hp F s m c
def mvX (J : Nat → Nat → Int) (n : Nat) (p0 hp : Int) (F : Nat → Int) (s m l : Nat) : Int := if s = 0 ∧ m = 0 then (if l = 8 then 0 else 1000) else if l < 8 then (if l < n ∧ s.testBit l = true then mlF J p0 hp F (ndN s (2 ^ l)) m l 9 else 1000) else if m = 0 then 1000 else mdF J p0 hp F s m 9
theorem hbX_b {J : Nat → Nat → Int} (hJ : JOK J) {p0 hp : Int} (h0 : 0 ≤ p0 ∧ p0 ≤ 15) (hh : 0 ≤ hp ∧ hp ≤ 15) (m c : Nat) : 0 ≤ hbX J p0 hp m c ∧ hbX J p0 hp m c ≤ 15 := by
  unfold hbX
  split
  · exact (hJ c (by assumption)).1
  · split <;> assumption
theorem mlF_v {J : Nat → Nat → Int} (hJ : JOK J) {p0 hp : Int} (h0 : 0 ≤ p0 ∧ p0 ≤ 15) (hh : 0 ≤ hp ∧ hp ≤ 15) {F : Nat → Int} {r m i : Nat} (hi : i < 8) : ∀ {c : Nat}, (∀ k, k < c → exV (F (81 * r + 9 * m + k))) → exV (mlF J p0 hp F r m i c)
  | 0, _ => Or.inl rfl
  | c + 1, h => by
    have h1 := mlF_v hJ h0 hh (F := F) (r := r) (m := m) hi (c := c) (fun k hk => h k (by omega))
    have h2 := h c (by omega)
    have h3 : exV (if F (81 * r + 9 * m + c) < 1000 then exB J i (hbX J p0 hp m c) (F (81 * r + 9 * m + c)) else 1000) := by
      split
      · exact exB_v hJ hi (hbX_b hJ h0 hh m c) (by omega)
      · exact Or.inl rfl
    rw [mlF]
    omega
theorem mdF_v {J : Nat → Nat → Int} (hJ : JOK J) {p0 hp : Int} (h0 : 0 ≤ p0 ∧ p0 ≤ 15) (hh : 0 ≤ hp ∧ hp ≤ 15) {F : Nat → Int} {s m : Nat} : ∀ {c : Nat}, (∀ k, k < c → exV (F (81 * s + 9 * (m - 1) + k))) → exV (mdF J p0 hp F s m c)
  | 0, _ => Or.inl rfl
  | c + 1, h => by
    have h1 := mdF_v hJ h0 hh (F := F) (s := s) (m := m) (c := c) (fun k hk => h k (by omega))
    have h2 := h c (by omega)
    have h4 := wap_b (hbX_b hJ h0 hh (m - 1) c) hh
    have h3 : 0 ≤ mtV J p0 hp F s m c := by
      unfold mtV
      split <;> omega
    rw [mdF]
    split <;> omega
theorem mvX_v {J : Nat → Nat → Int} (hJ : JOK J) {n : Nat} {p0 hp : Int} (h0 : 0 ≤ p0 ∧ p0 ≤ 15) (hh : 0 ≤ hp ∧ hp ≤ 15) {F : Nat → Int} {s m l : Nat} (hm : m ≤ 8) (h : ∀ j, j < 81 * s + 9 * m → exV (F j)) : exV (mvX J n p0 hp F s m l) := by
  unfold mvX
  split
  · split <;> omega
  · split
    · split
      · rename_i q
        have := ndN_lt q.2
        exact mlF_v hJ h0 hh (by assumption) (fun k hk => h _ (by omega))
      · exact Or.inl rfl
    · split
      · exact Or.inl rfl
      · exact mdF_v hJ h0 hh (fun k hk => h _ (by omega))
theorem mlF_cong {J : Nat → Nat → Int} {p0 hp : Int} {F F2 : Nat → Int} {r m i : Nat} : ∀ {c : Nat}, (∀ k, k < c → F2 (81 * r + 9 * m + k) = F (81 * r + 9 * m + k)) → mlF J p0 hp F2 r m i c = mlF J p0 hp F r m i c
  | 0, _ => rfl
  | c + 1, h => by rw [mlF, mlF, mlF_cong (fun k hk => h k (by omega)), h c (by omega)]
theorem mdF_cong {J : Nat → Nat → Int} {p0 hp : Int} {F F2 : Nat → Int} {s m : Nat} : ∀ {c : Nat}, (∀ k, k < c → F2 (81 * s + 9 * (m - 1) + k) = F (81 * s + 9 * (m - 1) + k)) → mdF J p0 hp F2 s m c = mdF J p0 hp F s m c
  | 0, _ => rfl
  | c + 1, h => by
    have e : mtV J p0 hp F2 s m c = mtV J p0 hp F s m c := by unfold mtV; rw [h c (by omega)]
    rw [mdF, mdF, mdF_cong (fun k hk => h k (by omega)), e]
theorem mvX_cong {J : Nat → Nat → Int} {n : Nat} {p0 hp : Int} {F F2 : Nat → Int} {s m l : Nat} (hm : m ≤ 8) (h : ∀ j, j < 81 * s + 9 * m → F2 j = F j) : mvX J n p0 hp F2 s m l = mvX J n p0 hp F s m l := by
  unfold mvX
  split
  · rfl
  · split
    · split
      · rename_i q
        have := ndN_lt q.2
        exact mlF_cong (fun k hk => h _ (by omega))
      · rfl
    · split
      · rfl
      · exact mdF_cong (fun k hk => h _ (by omega))
def anX (F : Nat → Int) (s m : Nat) : Nat → Bool
  | 0 => false
  | l + 1 => anX F s m l || decide (F (81 * s + 9 * m + l) < 1000)
def moX (F : Nat → Int) (s : Nat) : Nat → Int
  | 0 => -9
  | m + 1 => if anX F s m 9 = true then (m : Int) else moX F s m
/-- what is laid so far -/
def MJ (J : Nat → Nat → Int) (n : Nat) (p0 hp : Int) (w : Nat) (F : Nat → Int) (s m : Nat) : Prop := (∀ t k l : Nat, t < 2 ^ n → k ≤ 8 → l ≤ 8 → F (81 * t + 9 * k + l) = if (t < s ∨ (t = s ∧ k < m)) ∧ ndN t w = 0 then mvX J n p0 hp F t k l else 1000) ∧ ∀ j, j < 81 * 2 ^ n → exV (F j)
theorem MJ_step {J : Nat → Nat → Int} (hJ : JOK J) {n : Nat} {p0 hp : Int} (h0 : 0 ≤ p0 ∧ p0 ≤ 15) (hh : 0 ≤ hp ∧ hp ≤ 15) {w : Nat} {F F2 : Nat → Int} {s m : Nat} (hs : s < 2 ^ n) (hm : m ≤ 8) (hw : ndN s w = 0) (h : MJ J n p0 hp w F s m) (h1 : ∀ l, l ≤ 8 → F2 (81 * s + 9 * m + l) = mvX J n p0 hp F s m l) (h2 : ∀ j, ¬ (81 * s + 9 * m ≤ j ∧ j ≤ 81 * s + 9 * m + 8) → F2 j = F j) : MJ J n p0 hp w F2 s (m + 1) := by
  refine ⟨fun t k l ht hk hl => ?_, fun j hj => ?_⟩
  · by_cases q : t = s ∧ k = m
    · rw [q.1, q.2, h1 l hl, if_pos ⟨Or.inr ⟨rfl, by omega⟩, hw⟩]
      exact (mvX_cong hm (fun j hj => h2 j (by omega))).symm
    · rw [h2 _ (by omega), h.1 t k l ht hk hl]
      by_cases q2 : (t < s ∨ (t = s ∧ k < m)) ∧ ndN t w = 0
      · rw [if_pos q2, if_pos ⟨by omega, q2.2⟩]
        exact (mvX_cong hk (fun j hj => h2 j (by omega))).symm
      · rw [if_neg q2, if_neg (fun z => q2 ⟨by omega, z.2⟩)]
  · by_cases q : 81 * s + 9 * m ≤ j ∧ j ≤ 81 * s + 9 * m + 8
    · rw [show j = 81 * s + 9 * m + (j - (81 * s + 9 * m)) by omega, h1 _ (by omega)]
      exact mvX_v hJ h0 hh hm (fun j hj => h.2 j (by omega))
    · rw [h2 j q]; exact h.2 j hj
theorem MJ_next {J : Nat → Nat → Int} {n : Nat} {p0 hp : Int} {w : Nat} {F : Nat → Int} {s m : Nat} (h : MJ J n p0 hp w F s m) (hq : m = 9 ∨ ndN s w ≠ 0) : MJ J n p0 hp w F (s + 1) 0 := by
  refine ⟨fun t k l ht hk hl => ?_, h.2⟩
  rw [h.1 t k l ht hk hl]
  by_cases q2 : (t < s ∨ (t = s ∧ k < m)) ∧ ndN t w = 0
  · rw [if_pos q2, if_pos ⟨by omega, q2.2⟩]
  · rw [if_neg q2, if_neg]
    rintro ⟨z1, z2⟩
    apply q2
    refine ⟨?_, z2⟩
    rcases (show t < s ∨ t = s by omega) with y | y
    · exact Or.inl y
    · right
      subst y
      exact ⟨rfl, by omega⟩
def fiP (M : Mm) (k : Int) : Mm := fun a b => if a = 96 ∧ (b : Int) < k then 1000 else M a b
theorem fiP_0 (M : Mm) : M = fiP M 0 := by
  funext a b
  unfold fiP
  rw [if_neg (by omega)]
theorem fiP_s {M : Mm} {k : Int} (h : 0 ≤ k) : stM (fiP M k) 96 k.toNat 1000 = fiP M (k + 1) := by
  funext a b
  unfold stM fiP
  by_cases hb : a = 96 ∧ b = k.toNat
  · rw [if_pos hb, if_pos (by omega)]
  · rw [if_neg hb]
    by_cases h2 : a = 96 ∧ (b : Int) < k
    · rw [if_pos h2, if_pos (by omega)]
    · rw [if_neg h2, if_neg (by omega)]
def LMX (M : Mm) (hp : Int) (s m : Nat) (M2 : Mm) : Prop := (∀ a, a ≠ 96 → M2 a = M a) ∧ (∀ l : Nat, l ≤ 8 → M2 96 (81 * s + 9 * m + l) = mvX (jbR M) (M 77 12).toNat (sP M) hp (M 96) s m l) ∧ ∀ j : Nat, ¬ (81 * s + 9 * m ≤ j ∧ j ≤ 81 * s + 9 * m + 8) → M2 96 j = M 96 j
def xmeR (M : Mm) (s h z : Int) (M2 : Mm) : Prop := ((¬ SX M s ∨ ¬ HX M h) ∧ z = -1 ∧ M2 = M) ∨ ((SX M s ∧ HX M h) ∧ (∀ a, a ≠ 96 → M2 a = M a) ∧ z = moX (M2 96) s.toNat 9 ∧ MJ (jbR M) (M 77 12).toNat (sP M) (M 84 h.toNat) s.toNat (M2 96) (2 ^ (M 77 12).toNat) 0)
theorem hb_house {M : Mm} {m c : Int} {h : Int} (hc : 0 ≤ c ∧ c ≤ 8) (hm : 0 ≤ m) : M 84 (if c < 8 then nA M c 1 else if m = 0 then M 77 15 else h).toNat = hbX (jbR M) (sP M) (M 84 h.toNat) m.toNat c.toNat := by
  unfold hbX
  by_cases h1 : c < 8
  · rw [if_pos h1, if_pos (by omega : c.toNat < 8)]
    show _ = M 84 (nA M ((c.toNat : Nat) : Int) 1).toNat
    rw [Int.toNat_of_nonneg hc.1]
  · rw [if_neg h1, if_neg (by omega : ¬ c.toNat < 8)]
    by_cases h2 : m = 0
    · rw [if_pos h2, if_pos (by omega : m.toNat = 0)]; rfl
    · rw [if_neg h2, if_neg (by omega : ¬ m.toNat = 0)]
theorem LMX_0 {M : Mm} {s m hp : Int} (hs : s = 0) (hm : m = 0) (hpre : ∀ l : Nat, l ≤ 8 → M 96 (81 * s.toNat + 9 * m.toNat + l) = 1000) : LMX M hp s.toNat m.toNat (stM M 96 (81 * 0 + 9 * 0 + 8 : Int).toNat 0) := by
  subst hs
  subst hm
  refine ⟨fun a ha => stM_off ha, fun l hl => ?_, fun j hj => stM_ne _ _ (Or.inr ?_)⟩
  · have h0 := hpre l hl
    unfold mvX
    rw [if_pos ⟨rfl, rfl⟩]
    by_cases q : l = 8
    · subst q
      rw [if_pos rfl]
      exact stM_at _ _ _ _
    · rw [if_neg q, stM_ne _ _ (Or.inr (by simp; omega))]
      exact h0
  · intro q
    apply hj
    rw [q]
    decide
set_option maxHeartbeats 4000000 in
set_option maxRecDepth 100000 in
theorem c_X12_spot {n : Nat} (hn : NN n) {M : Mm} (s m l : Int) : CT yX12_spot cX12_spot 3 (some .int) ({ frames := 0, cells := 0, slots := 0, locals := 0 }) n [.int (iI s), .int (iI m), .int (iI l)] M (rI (81 * s + 9 * m + l) M) := by
  refine CT.of (lv0 := [(0, .int (iI s)), (1, .int (iI m)), (2, .int (iI l))]) (by decide +kernel) hn (fun _ => rfl) (fun _ => Nat.le_of_ble_eq_true rfl) (fun X cx cs qx => ?_)
  have cx : Cx X cX12_spot RX12 ({ frames := 0, cells := 0, slots := 0, locals := 0 }) 3 n := cx
  refine g_bipush cx (pc2 := 2) ⟨by decide, by decide⟩ dX12_spot_0 rfl ?_
  refine g_iload_n cx (pc2 := 3) 0 rfl dX12_spot_2 rfl ?_
  refine g_imul cx (pc2 := 4) dX12_spot_3 rfl ?_
  refine g_bipush cx (pc2 := 6) ⟨by decide, by decide⟩ dX12_spot_4 rfl ?_
  refine g_iload_n cx (pc2 := 7) 1 rfl dX12_spot_6 rfl ?_
  refine g_imul cx (pc2 := 8) dX12_spot_7 rfl ?_
  refine g_iadd cx (pc2 := 9) dX12_spot_8 rfl ?_
  refine g_iload_n cx (pc2 := 10) 2 rfl dX12_spot_9 rfl ?_
  refine g_iadd cx (pc2 := 11) dX12_spot_10 rfl ?_
  exact g_iret cx qx dX12_spot_11 ⟨congrArg (fun q => some (Value.int (iI q))) (by first | rfl | omega), by rfl⟩
set_option maxHeartbeats 4000000 in
set_option maxRecDepth 100000 in
theorem c_X12_houseBehind {n : Nat} (hn : NN n) {M : Mm} (s m c h : Int) (hc : 0 ≤ c ∧ c ≤ 8) (hm : 0 ≤ m ∧ m ≤ 8) : CT yX12_houseBehind cX12_houseBehind 5 (some .int) ({ frames := 1, cells := 0, slots := 0, locals := 22 }) n [.ref 77, .int (iI s), .int (iI m), .int (iI c), .int (iI h)] M (rI (if c < 8 then nA M c 1 else if m = 0 then M 77 15 else h) M) := by
  refine CT.of (lv0 := [(0, .ref 77), (1, .int (iI s)), (2, .int (iI m)), (3, .int (iI c)), (4, .int (iI h))]) (by decide +kernel) hn (fun _ => rfl) (fun _ => Nat.le_of_ble_eq_true rfl) (fun X cx cs qx => ?_)
  have cx : Cx X cX12_houseBehind RX12 ({ frames := 1, cells := 0, slots := 0, locals := 22 }) 5 n := cx
  refine g_iload_n cx (pc2 := 1) 3 rfl dX12_houseBehind_0 rfl ?_
  refine g_bipush cx (pc2 := 3) ⟨by decide, by decide⟩ dX12_houseBehind_1 rfl ?_
  refine g_icmp_ge cx (pc2 := 6) (tgt := 15) ⟨(by first | assumption | omega), ⟨by decide, by decide⟩⟩ dX12_houseBehind_3 (by decide) rfl (fun h_1 => ?_) (fun h_1 => ?_)
  · skip
    refine g_iload_n cx (pc2 := 16) 2 rfl dX12_houseBehind_15 rfl ?_
    refine g_if_ne cx (pc2 := 19) (tgt := 26) (by first | assumption | omega) dX12_houseBehind_16 (by decide) rfl (fun h_2 => ?_) (fun h_2 => ?_)
    · skip
      refine g_iload cx (pc2 := 28) 4 rfl dX12_houseBehind_26 rfl ?_
      exact g_iret cx qx dX12_houseBehind_28 ⟨congrArg (fun q => some (Value.int (iI q))) (by (repeat (first | rw [if_pos (by first | assumption | omega)] | rw [if_neg (by first | assumption | exact not_not_intro (by assumption) | omega)])); first | done | rfl | (symm; assumption)), by rfl⟩
    · skip
      refine g_aload_n cx (pc2 := 20) 0 rfl dX12_houseBehind_19 rfl ?_
      refine g_get cx (pc2 := 23) (ci := 12) (k0 := 77) (j := 15) (v := .int (iI (M 77 15))) rfl iwX12 rfl (lt_lit hn (Nat.le_of_ble_eq_true rfl)) rfl (Nat.le_of_ble_eq_true rfl) kf_X12_171 rfl rfl dX12_houseBehind_20 rfl ?_
      refine g_goto cx (tgt := 28) dX12_houseBehind_23 (by decide) ?_
      exact g_iret cx qx dX12_houseBehind_28 ⟨congrArg (fun q => some (Value.int (iI q))) (by (repeat (first | rw [if_pos (by first | assumption | omega)] | rw [if_neg (by first | assumption | exact not_not_intro (by assumption) | omega)])); first | done | rfl | (symm; assumption)), by rfl⟩
  · skip
    refine g_aload_n cx (pc2 := 7) 0 rfl dX12_houseBehind_6 rfl ?_
    refine g_iload_n cx (pc2 := 8) 3 rfl dX12_houseBehind_7 rfl ?_
    refine g_iconst cx (pc2 := 9) dX12_houseBehind_8 rfl ?_
    refine g_callV cx (pc2 := 12) (st := []) (As := [.int (iI c), .int (iI 1)]) (k0 := 77) (ci := 12) (c_X12_needAt (M := M) hn c 1 (by first | assumption | omega) (by first | assumption | omega)) wM_X12_needAt wV_X12_needAt kl_X12_195 rfl (lt_lit hn (Nat.le_of_ble_eq_true rfl)) rfl ⟨rfl, rfl, Nat.le_of_ble_eq_true rfl, Nat.le_of_ble_eq_true rfl⟩ (Nat.le_of_ble_eq_true rfl) cs rfl rfl dX12_houseBehind_9 rfl ?_
    rintro _ _ ⟨rfl, rfl⟩
    refine g_goto cx (tgt := 28) dX12_houseBehind_12 (by decide) ?_
    exact g_iret cx qx dX12_houseBehind_28 ⟨congrArg (fun q => some (Value.int (iI q))) (by (repeat (first | rw [if_pos (by first | assumption | omega)] | rw [if_neg (by first | assumption | exact not_not_intro (by assumption) | omega)])); first | done | rfl | (symm; assumption)), by rfl⟩
set_option maxHeartbeats 4000000 in
set_option maxRecDepth 100000 in
theorem c_X12_layMended {n : Nat} (hn : NN n) {M : Mm} (hV : RV M) (s m h : Int) (hs : SX M s) (hm : 0 ≤ m ∧ m ≤ 8) (hh : 0 ≤ h ∧ h < 8) (hpre : ∀ l : Nat, l ≤ 8 → M 96 (81 * s.toNat + 9 * m.toNat + l) = 1000) (hval : ∀ j : Nat, j < 81 * (s.toNat + 1) → exV (M 96 j)) : CT yX12_layMended cX12_layMended 9 none ({ frames := 4, cells := 0, slots := 0, locals := 95 }) n [.ref 77, .int (iI s), .int (iI m), .int (iI h)] M (pV (fun M2 => LMX M (M 84 h.toNat) s.toNat m.toNat M2)) := by
  refine CT.of (lv0 := [(0, .ref 77), (1, .int (iI s)), (2, .int (iI m)), (3, .int (iI h))]) (by decide +kernel) hn (fun _ => rfl) (fun _ => Nat.le_of_ble_eq_true rfl) (fun X cx cs qx => ?_)
  have cx : Cx X cX12_layMended RX12 ({ frames := 4, cells := 0, slots := 0, locals := 95 }) 9 n := cx
  have hv1 := hV.1
  have hfb := fX_255 hV
  have hJo := jbR_ok hV
  have hsp : 0 ≤ sP M ∧ sP M ≤ 15 := hV.2.1 (M 77 15).toNat (by omega)
  have hph := hV.2.1 h.toNat (by omega)
  have e0 := fun l => (rfl : mvX (jbR M) (M 77 12).toNat (sP M) (M 84 h.toNat) (M 96) s.toNat m.toNat l = mvX (jbR M) (M 77 12).toNat (sP M) (M 84 h.toNat) (M 96) s.toNat m.toNat l)
  have L22 : (¬ (s.toNat = 0 ∧ m.toNat = 0)) → G X 22 [(0, .ref 77), (1, .int (iI s)), (2, .int (iI m)), (3, .int (iI h))] [] M := by
    intro hne
    skip
    refine g_iconst cx (pc2 := 23) dX12_layMended_22 rfl ?_
    refine g_istore cx (pc2 := 25) (lv2 := [(0, .ref 77), (1, .int (iI s)), (2, .int (iI m)), (3, .int (iI h)), (4, .int (iI 0))]) rfl (Nat.le_of_ble_eq_true rfl) dX12_layMended_23 rfl ?_
    have L25 : ∀ (fu : Nat) (i : Int) (W : Mm), (0 ≤ i ∧ i ≤ M 77 12) → (∀ a, a ≠ 96 → W a = M a) → (∀ j : Nat, ¬ (81 * s.toNat + 9 * m.toNat ≤ j ∧ j ≤ 81 * s.toNat + 9 * m.toNat + 8) → W 96 j = M 96 j) → (∀ l : Nat, l < 8 → W 96 (81 * s.toNat + 9 * m.toNat + l) = if (l : Int) < i then mvX (jbR M) (M 77 12).toNat (sP M) (M 84 h.toNat) (M 96) s.toNat m.toNat l else 1000) → (W 96 (81 * s.toNat + 9 * m.toNat + 8) = 1000) → (M 77 12 - i).toNat ≤ fu → G X 25 [(0, .ref 77), (1, .int (iI s)), (2, .int (iI m)), (3, .int (iI h)), (4, .int (iI i))] [] W := by
      intro fu
      induction fu using Nat.strongRecOn with
      | _ fu ih25 =>
        intro i W hi hW hWj hWl hW8 hk25
        have e12 : W 77 12 = M 77 12 := by rw [hW 77 (by decide)]
        have hrl := ndN_le s.toNat (2 ^ i.toNat)
        refine g_iload cx (pc2 := 27) 4 rfl dX12_layMended_25 rfl ?_
        refine g_aload_n cx (pc2 := 28) 0 rfl dX12_layMended_27 rfl ?_
        refine g_get cx (pc2 := 31) (ci := 12) (k0 := 77) (j := 12) (v := .int (iI (W 77 12))) rfl iwX12 rfl (lt_lit hn (Nat.le_of_ble_eq_true rfl)) rfl (Nat.le_of_ble_eq_true rfl) kf_X12_168 rfl rfl dX12_layMended_28 rfl ?_
        refine g_rwi (y := iI (M 77 12)) (congrArg iI e12) ?_
        refine g_icmp_ge cx (pc2 := 34) (tgt := 153) ⟨(by first | assumption | omega), (by first | assumption | omega)⟩ dX12_layMended_31 (by decide) rfl (fun h_1 => ?_) (fun h_1 => ?_)
        · skip
          refine g_iconst cx (pc2 := 154) dX12_layMended_153 rfl ?_
          refine g_istore cx (pc2 := 156) (lv2 := [(0, .ref 77), (1, .int (iI s)), (2, .int (iI m)), (3, .int (iI h)), (4, .int (iI 0))]) rfl (Nat.le_of_ble_eq_true rfl) dX12_layMended_154 rfl ?_
          have L156 : ∀ (fu : Nat) (c : Int) (Y9 : Mm), (0 ≤ c ∧ c ≤ 9) → (∀ a, a ≠ 96 → Y9 a = M a) → (∀ j : Nat, ¬ (81 * s.toNat + 9 * m.toNat ≤ j ∧ j ≤ 81 * s.toNat + 9 * m.toNat + 8) → Y9 96 j = M 96 j) → (∀ l : Nat, l < 8 → Y9 96 (81 * s.toNat + 9 * m.toNat + l) = mvX (jbR M) (M 77 12).toNat (sP M) (M 84 h.toNat) (M 96) s.toNat m.toNat l) → (Y9 96 (81 * s.toNat + 9 * m.toNat + 8) = if m = 0 then 1000 else mdF (jbR M) (sP M) (M 84 h.toNat) (M 96) s.toNat m.toNat c.toNat) → (9 - c).toNat ≤ fu → G X 156 [(0, .ref 77), (1, .int (iI s)), (2, .int (iI m)), (3, .int (iI h)), (4, .int (iI c))] [] Y9 := by
            intro fu
            induction fu using Nat.strongRecOn with
            | _ fu ih156 =>
              intro c Y9 hc hY hYj hYl hY8 hk156
              have hVY : RV Y9 := hV.of (hY 84 (by decide)) (hY 85 (by decide)) (hY 86 (by decide)) (by rw [hY 77 (by decide)]) (by rw [hY 77 (by decide)]) (by rw [hY 77 (by decide)])
              have f84 := hY 84 (by decide)
              have hst2 : mdF (jbR M) (sP M) (M 84 h.toNat) (M 96) s.toNat m.toNat (c + 1).toNat = if mtV (jbR M) (sP M) (M 84 h.toNat) (M 96) s.toNat m.toNat c.toNat ≤ 28 then min (mdF (jbR M) (sP M) (M 84 h.toNat) (M 96) s.toNat m.toNat c.toNat) (mtV (jbR M) (sP M) (M 84 h.toNat) (M 96) s.toNat m.toNat c.toNat) else mdF (jbR M) (sP M) (M 84 h.toNat) (M 96) s.toNat m.toNat c.toNat := by rw [show (c + 1).toNat = c.toNat + 1 by omega, mdF]
              have hbb2 := hbX_b hJo hsp hph (m.toNat - 1) c.toNat
              have hwb2 := wap_b hbb2 hph
              have hmtv : c ≤ 8 → 1 ≤ m → exV (mdF (jbR M) (sP M) (M 84 h.toNat) (M 96) s.toNat m.toNat c.toNat) := fun _ _ => mdF_v hJo hsp hph (fun k hk => hval _ (by omega))
              refine g_iload cx (pc2 := 158) 4 rfl dX12_layMended_156 rfl ?_
              refine g_bipush cx (pc2 := 160) ⟨by decide, by decide⟩ dX12_layMended_158 rfl ?_
              refine g_icmp_gt cx (pc2 := 163) (tgt := 262) ⟨(by first | assumption | omega), ⟨by decide, by decide⟩⟩ dX12_layMended_160 (by decide) rfl (fun h_2 => ?_) (fun h_2 => ?_)
              · skip
                exact g_vret cx qx dX12_layMended_262 ⟨rfl, by refine ⟨hY, fun l hl => ?_, hYj⟩; rcases (show l < 8 ∨ l = 8 by omega) with q | q; exact hYl l q; (subst q; rw [hY8]; unfold mvX; rw [if_neg hne, if_neg (by decide : ¬ 8 < 8)]; by_cases q2 : m = 0; (rw [if_pos q2, if_pos (by omega : m.toNat = 0)]); (rw [if_neg q2, if_neg (by omega : ¬ m.toNat = 0), show c.toNat = 9 by omega]))⟩
              · skip
                refine g_iload_n cx (pc2 := 164) 2 rfl dX12_layMended_163 rfl ?_
                refine g_if_le cx (pc2 := 167) (tgt := 262) (by first | assumption | omega) dX12_layMended_164 (by decide) rfl (fun h_3 => ?_) (fun h_3 => ?_)
                · skip
                  exact g_vret cx qx dX12_layMended_262 ⟨rfl, by refine ⟨hY, fun l hl => ?_, hYj⟩; rcases (show l < 8 ∨ l = 8 by omega) with q | q; exact hYl l q; (subst q; rw [hY8]; unfold mvX; rw [if_neg hne, if_neg (by decide : ¬ 8 < 8)]; by_cases q2 : m = 0; (rw [if_pos q2, if_pos (by omega : m.toNat = 0)]); (rw [if_neg q2, if_neg (by omega : ¬ m.toNat = 0), show c.toNat = 9 by omega]))⟩
                · skip
                  have hrv2 := hval (81 * s.toNat + 9 * (m.toNat - 1) + c.toNat) (by omega)
                  have hmt1 := hmtv (by omega) (by omega)
                  rw [if_neg (by omega : ¬ m = 0)] at hY8
                  refine g_aload_n cx (pc2 := 168) 0 rfl dX12_layMended_167 rfl ?_
                  refine g_get cx (pc2 := 171) (ci := 12) (k0 := 77) (j := 32) (v := .ref 96) rfl iwX12 rfl (lt_lit hn (Nat.le_of_ble_eq_true rfl)) rfl (Nat.le_of_ble_eq_true rfl) kf_X12_65 rfl rfl dX12_layMended_168 rfl ?_
                  refine g_iload_n cx (pc2 := 172) 1 rfl dX12_layMended_171 rfl ?_
                  refine g_iload_n cx (pc2 := 173) 2 rfl dX12_layMended_172 rfl ?_
                  refine g_iconst cx (pc2 := 174) dX12_layMended_173 rfl ?_
                  refine g_isub cx (pc2 := 175) dX12_layMended_174 rfl ?_
                  refine g_iload cx (pc2 := 177) 4 rfl dX12_layMended_175 rfl ?_
                  refine g_callS cx (pc2 := 180) (st := [.ref 96]) (As := [.int (iI s), .int (iI (m - 1)), .int (iI c)]) (c_X12_spot (M := Y9) hn s (m - 1) c) wM_X12_spot wS_X12_spot kl_X12_294 ⟨rfl, rfl, Nat.le_of_ble_eq_true rfl, Nat.le_of_ble_eq_true rfl⟩ (Nat.le_of_ble_eq_true rfl) cs rfl rfl dX12_layMended_177 rfl ?_
                  rintro _ _ ⟨rfl, rfl⟩
                  refine g_iald cx (pc2 := 181) (k0 := 96) rfl (lt_lit hn (Nat.le_of_ble_eq_true rfl)) (by first | assumption | omega) (by first | assumption | omega) (Nat.le_of_ble_eq_true rfl) dX12_layMended_180 rfl ?_
                  refine g_rwi (y := iI (Y9 96 ((81 * s + 9 * (m - 1) + c).toNat))) (congrArg iI (by simp [stM])) ?_
                  refine g_rwi (y := iI (M 96 (81 * s.toNat + 9 * (m.toNat - 1) + c.toNat))) (congrArg iI (by rw [show (81 * s + 9 * (m - 1) + c).toNat = 81 * s.toNat + 9 * (m.toNat - 1) + c.toNat by omega]; exact hYj _ (by omega))) ?_
                  have L218 : ∀ (e : Int), (e = mtV (jbR M) (sP M) (M 84 h.toNat) (M 96) s.toNat m.toNat c.toNat) → G X 218 [(0, .ref 77), (1, .int (iI s)), (2, .int (iI m)), (3, .int (iI h)), (4, .int (iI c))] [.int (iI e)] Y9 := by
                    intro e he
                    have hrv3 := hval (81 * s.toNat + 9 * (m.toNat - 1) + c.toNat) (by omega)
                    have hev : 0 ≤ e ∧ e ≤ 1000 := by rw [he]; unfold mtV; split <;> omega
                    refine g_istore cx (pc2 := 220) (lv2 := [(0, .ref 77), (1, .int (iI s)), (2, .int (iI m)), (3, .int (iI h)), (4, .int (iI c)), (6, .int (iI e))]) rfl (Nat.le_of_ble_eq_true rfl) dX12_layMended_218 rfl ?_
                    refine g_iload cx (pc2 := 222) 5 rfl dX12_layMended_220 rfl ?_
                    refine g_bipush cx (pc2 := 224) ⟨by decide, by decide⟩ dX12_layMended_222 rfl ?_
                    refine g_icmp_gt cx (pc2 := 227) (tgt := 256) ⟨(by first | assumption | omega), ⟨by decide, by decide⟩⟩ dX12_layMended_224 (by decide) rfl (fun h_4 => ?_) (fun h_4 => ?_)
                    · skip
                      refine g_iinc cx (pc2 := 259) 4 rfl (lv2 := [(0, .ref 77), (1, .int (iI s)), (2, .int (iI m)), (3, .int (iI h)), (4, .int (iI (c + 1))), (6, .int (iI e))]) rfl (Nat.le_of_ble_eq_true rfl) dX12_layMended_256 rfl ?_
                      refine g_goto cx (tgt := 156) dX12_layMended_259 (by decide) ?_
                      refine g_sub (lv2 := [(0, .ref 77), (1, .int (iI s)), (2, .int (iI m)), (3, .int (iI h)), (4, .int (iI (c + 1)))]) [0, 1, 2, 3, 4] rfl ?_
                      exact ih156 ((9 - (c + 1)).toNat) (by omega) (c + 1) Y9 (by first | assumption | omega) (by first | exact hY | (intro a ha; rw [stM_off ha]; exact hY a ha)) (by first | exact hYj | (intro j hj; rw [stM_ne _ _ (Or.inr (by omega))]; exact hYj j hj)) (by first | exact hYl | (intro l hl; rw [stM_ne _ _ (Or.inr (by omega))]; exact hYl l hl)) (by rw [if_neg (by omega : ¬ m = 0), hst2, ← he]; first | (rw [if_pos (by omega), show (81 * s + 9 * m + 8).toNat = 81 * s.toNat + 9 * m.toNat + 8 by omega, stM_at]; done) | (rw [if_neg (by omega)]; exact hY8)) (Nat.le_refl _)
                    · skip
                      refine g_aload_n cx (pc2 := 228) 0 rfl dX12_layMended_227 rfl ?_
                      refine g_get cx (pc2 := 231) (ci := 12) (k0 := 77) (j := 32) (v := .ref 96) rfl iwX12 rfl (lt_lit hn (Nat.le_of_ble_eq_true rfl)) rfl (Nat.le_of_ble_eq_true rfl) kf_X12_65 rfl rfl dX12_layMended_228 rfl ?_
                      refine g_iload_n cx (pc2 := 232) 1 rfl dX12_layMended_231 rfl ?_
                      refine g_iload_n cx (pc2 := 233) 2 rfl dX12_layMended_232 rfl ?_
                      refine g_bipush cx (pc2 := 235) ⟨by decide, by decide⟩ dX12_layMended_233 rfl ?_
                      refine g_callS cx (pc2 := 238) (st := [.ref 96]) (As := [.int (iI s), .int (iI m), .int (iI 8)]) (c_X12_spot (M := Y9) hn s m 8) wM_X12_spot wS_X12_spot kl_X12_294 ⟨rfl, rfl, Nat.le_of_ble_eq_true rfl, Nat.le_of_ble_eq_true rfl⟩ (Nat.le_of_ble_eq_true rfl) cs rfl rfl dX12_layMended_235 rfl ?_
                      rintro _ _ ⟨rfl, rfl⟩
                      refine g_aload_n cx (pc2 := 239) 0 rfl dX12_layMended_238 rfl ?_
                      refine g_get cx (pc2 := 242) (ci := 12) (k0 := 77) (j := 32) (v := .ref 96) rfl iwX12 rfl (lt_lit hn (Nat.le_of_ble_eq_true rfl)) rfl (Nat.le_of_ble_eq_true rfl) kf_X12_65 rfl rfl dX12_layMended_239 rfl ?_
                      refine g_iload_n cx (pc2 := 243) 1 rfl dX12_layMended_242 rfl ?_
                      refine g_iload_n cx (pc2 := 244) 2 rfl dX12_layMended_243 rfl ?_
                      refine g_bipush cx (pc2 := 246) ⟨by decide, by decide⟩ dX12_layMended_244 rfl ?_
                      refine g_callS cx (pc2 := 249) (st := [.ref 96, .int (iI (81 * s + 9 * m + 8)), .ref 96]) (As := [.int (iI s), .int (iI m), .int (iI 8)]) (c_X12_spot (M := Y9) hn s m 8) wM_X12_spot wS_X12_spot kl_X12_294 ⟨rfl, rfl, Nat.le_of_ble_eq_true rfl, Nat.le_of_ble_eq_true rfl⟩ (Nat.le_of_ble_eq_true rfl) cs rfl rfl dX12_layMended_246 rfl ?_
                      rintro _ _ ⟨rfl, rfl⟩
                      refine g_iald cx (pc2 := 250) (k0 := 96) rfl (lt_lit hn (Nat.le_of_ble_eq_true rfl)) (by first | assumption | omega) (by first | assumption | omega) (Nat.le_of_ble_eq_true rfl) dX12_layMended_249 rfl ?_
                      refine g_rwi (y := iI (Y9 96 ((81 * s + 9 * m + 8).toNat))) (congrArg iI (by simp [stM])) ?_
                      refine g_rwi (y := iI (mdF (jbR M) (sP M) (M 84 h.toNat) (M 96) s.toNat m.toNat c.toNat)) (congrArg iI (by rw [show (81 * s + 9 * m + 8).toNat = 81 * s.toNat + 9 * m.toNat + 8 by omega]; exact hY8)) ?_
                      refine g_iload cx (pc2 := 252) 5 rfl dX12_layMended_250 rfl ?_
                      refine g_callS cx (pc2 := 255) (st := [.int (iI (81 * s + 9 * m + 8)), .ref 96]) (As := [.int (iI (mdF (jbR M) (sP M) (M 84 h.toNat) (M 96) s.toNat m.toNat c.toNat)), .int (iI e)]) (c_X12_lesser (M := Y9) hn (mdF (jbR M) (sP M) (M 84 h.toNat) (M 96) s.toNat m.toNat c.toNat) e (by first | assumption | omega) (by first | assumption | omega)) wM_X12_lesser wS_X12_lesser kl_X12_236 ⟨rfl, rfl, Nat.le_of_ble_eq_true rfl, Nat.le_of_ble_eq_true rfl⟩ (Nat.le_of_ble_eq_true rfl) cs rfl rfl dX12_layMended_252 rfl ?_
                      rintro _ _ ⟨rfl, rfl⟩
                      refine g_iast cx (pc2 := 256) (k0 := 96) rfl (lt_lit hn (Nat.le_of_ble_eq_true rfl)) (by first | assumption | omega) (by first | assumption | omega) (Nat.le_of_ble_eq_true rfl) dX12_layMended_255 rfl ?_
                      refine g_iinc cx (pc2 := 259) 4 rfl (lv2 := [(0, .ref 77), (1, .int (iI s)), (2, .int (iI m)), (3, .int (iI h)), (4, .int (iI (c + 1))), (6, .int (iI e))]) rfl (Nat.le_of_ble_eq_true rfl) dX12_layMended_256 rfl ?_
                      refine g_goto cx (tgt := 156) dX12_layMended_259 (by decide) ?_
                      refine g_sub (lv2 := [(0, .ref 77), (1, .int (iI s)), (2, .int (iI m)), (3, .int (iI h)), (4, .int (iI (c + 1)))]) [0, 1, 2, 3, 4] rfl ?_
                      exact ih156 ((9 - (c + 1)).toNat) (by omega) (c + 1) (stM Y9 96 ((81 * s + 9 * m + 8)).toNat (min (mdF (jbR M) (sP M) (M 84 h.toNat) (M 96) s.toNat m.toNat c.toNat) e)) (by first | assumption | omega) (by first | exact hY | (intro a ha; rw [stM_off ha]; exact hY a ha)) (by first | exact hYj | (intro j hj; rw [stM_ne _ _ (Or.inr (by omega))]; exact hYj j hj)) (by first | exact hYl | (intro l hl; rw [stM_ne _ _ (Or.inr (by omega))]; exact hYl l hl)) (by rw [if_neg (by omega : ¬ m = 0), hst2, ← he]; first | (rw [if_pos (by omega), show (81 * s + 9 * m + 8).toNat = 81 * s.toNat + 9 * m.toNat + 8 by omega, stM_at]; done) | (rw [if_neg (by omega)]; exact hY8)) (Nat.le_refl _)
                  refine g_istore cx (pc2 := 183) (lv2 := [(0, .ref 77), (1, .int (iI s)), (2, .int (iI m)), (3, .int (iI h)), (4, .int (iI c)), (5, .int (iI (M 96 (81 * s.toNat + 9 * (m.toNat - 1) + c.toNat))))]) rfl (Nat.le_of_ble_eq_true rfl) dX12_layMended_181 rfl ?_
                  refine g_iload cx (pc2 := 185) 5 rfl dX12_layMended_183 rfl ?_
                  refine g_sipush cx (pc2 := 188) ⟨by decide, by decide⟩ dX12_layMended_185 rfl ?_
                  refine g_icmp_lt cx (pc2 := 191) (tgt := 197) ⟨(by first | assumption | omega), ⟨by decide, by decide⟩⟩ dX12_layMended_188 (by decide) rfl (fun h_5 => ?_) (fun h_5 => ?_)
                  · skip
                    refine g_iload cx (pc2 := 199) 5 rfl dX12_layMended_197 rfl ?_
                    refine g_aload_n cx (pc2 := 200) 0 rfl dX12_layMended_199 rfl ?_
                    refine g_aload_n cx (pc2 := 201) 0 rfl dX12_layMended_200 rfl ?_
                    refine g_iload_n cx (pc2 := 202) 1 rfl dX12_layMended_201 rfl ?_
                    refine g_iload_n cx (pc2 := 203) 2 rfl dX12_layMended_202 rfl ?_
                    refine g_iconst cx (pc2 := 204) dX12_layMended_203 rfl ?_
                    refine g_isub cx (pc2 := 205) dX12_layMended_204 rfl ?_
                    refine g_iload cx (pc2 := 207) 4 rfl dX12_layMended_205 rfl ?_
                    refine g_iload_n cx (pc2 := 208) 3 rfl dX12_layMended_207 rfl ?_
                    refine g_callV cx (pc2 := 211) (st := [.ref 77, .int (iI (M 96 (81 * s.toNat + 9 * (m.toNat - 1) + c.toNat)))]) (As := [.int (iI s), .int (iI (m - 1)), .int (iI c), .int (iI h)]) (k0 := 77) (ci := 12) (c_X12_houseBehind (M := Y9) hn s (m - 1) c h (by omega) (by omega)) wM_X12_houseBehind wV_X12_houseBehind kl_X12_297 rfl (lt_lit hn (Nat.le_of_ble_eq_true rfl)) rfl ⟨rfl, rfl, Nat.le_of_ble_eq_true rfl, Nat.le_of_ble_eq_true rfl⟩ (Nat.le_of_ble_eq_true rfl) cs rfl rfl dX12_layMended_208 rfl ?_
                    rintro _ _ ⟨rfl, rfl⟩
                    refine g_rwi (y := iI (if c < 8 then nA M c 1 else if m - 1 = 0 then M 77 15 else h)) (congrArg iI (by rw [nA_off (hY 85 (by decide)), hY 77 (by decide)])) ?_
                    refine g_iload_n cx (pc2 := 212) 3 rfl dX12_layMended_211 rfl ?_
                    refine g_callV cx (pc2 := 215) (st := [.int (iI (M 96 (81 * s.toNat + 9 * (m.toNat - 1) + c.toNat)))]) (As := [.int (iI (if c < 8 then nA M c 1 else if m - 1 = 0 then M 77 15 else h)), .int (iI h)]) (k0 := 77) (ci := 12) (c_X12_carryOf (M := Y9) hn (by first | exact hVX | exact hVY | exact hV) (if c < 8 then nA M c 1 else if m - 1 = 0 then M 77 15 else h) h (by first | omega | exact hh84 | (have q := nA_b hV (i := c) ; split <;> first | (have q2 := nA_b hV (i := c) (by omega); omega) | (split <;> omega))) (by omega)) wM_X12_carryOf wV_X12_carryOf kl_X12_204 rfl (lt_lit hn (Nat.le_of_ble_eq_true rfl)) rfl ⟨rfl, rfl, Nat.le_of_ble_eq_true rfl, Nat.le_of_ble_eq_true rfl⟩ (Nat.le_of_ble_eq_true rfl) cs rfl rfl dX12_layMended_212 rfl ?_
                    rintro _ _ ⟨rfl, rfl⟩
                    refine g_rwi (y := iI (wap (hbX (jbR M) (sP M) (M 84 h.toNat) (m.toNat - 1) c.toNat) (M 84 h.toNat))) (congrArg iI (by rw [f84, hb_house (M := M) (m := m - 1) (c := c) (h := h) (by omega) (by omega), show (m - 1).toNat = m.toNat - 1 by omega])) ?_
                    refine g_iadd cx (pc2 := 216) dX12_layMended_215 rfl ?_
                    refine g_iconst cx (pc2 := 217) dX12_layMended_216 rfl ?_
                    refine g_iadd cx (pc2 := 218) dX12_layMended_217 rfl ?_
                    refine g_sub (lv2 := [(0, .ref 77), (1, .int (iI s)), (2, .int (iI m)), (3, .int (iI h)), (4, .int (iI c))]) [0, 1, 2, 3, 4] rfl ?_
                    exact L218 (((M 96 (81 * s.toNat + 9 * (m.toNat - 1) + c.toNat)) + (wap (hbX (jbR M) (sP M) (M 84 h.toNat) (m.toNat - 1) c.toNat) (M 84 h.toNat))) + 1) (by unfold mtV; first | (rw [if_pos (by omega)]; done) | (rw [if_neg (by omega)]; done))
                  · skip
                    refine g_sipush cx (pc2 := 194) ⟨by decide, by decide⟩ dX12_layMended_191 rfl ?_
                    refine g_goto cx (tgt := 218) dX12_layMended_194 (by decide) ?_
                    refine g_sub (lv2 := [(0, .ref 77), (1, .int (iI s)), (2, .int (iI m)), (3, .int (iI h)), (4, .int (iI c))]) [0, 1, 2, 3, 4] rfl ?_
                    exact L218 1000 (by unfold mtV; first | (rw [if_pos (by omega)]; done) | (rw [if_neg (by omega)]; done))
          exact L156 _ 0 W (by first | assumption | omega) (by exact hW) (by exact hWj) (by intro l hl; rw [hWl l hl]; by_cases q : (l : Int) < i; (rw [if_pos q]); (rw [if_neg q]; unfold mvX; rw [if_neg hne, if_pos hl, if_neg (fun z => by omega)])) (by rw [hW8]; split; rfl; rfl) (Nat.le_refl _)
        · skip
          skip
          refine g_iload_n cx (pc2 := 35) 1 rfl dX12_layMended_34 rfl ?_
          refine g_iload cx (pc2 := 37) 4 rfl dX12_layMended_35 rfl ?_
          refine g_callS cx (pc2 := 40) (st := []) (As := [.int (iI s), .int (iI i)]) (c_X12_has (M := W) hn s i (by omega) (by omega)) wM_X12_has wS_X12_has kl_X12_220 ⟨rfl, rfl, Nat.le_of_ble_eq_true rfl, Nat.le_of_ble_eq_true rfl⟩ (Nat.le_of_ble_eq_true rfl) cs rfl rfl dX12_layMended_37 rfl ?_
          rintro _ _ ⟨rfl, rfl⟩
          have hp2 := p8 (i := i) (by omega)
          have hp3 : (0 : Int) ≤ ((2 ^ i.toNat : Nat) : Int) := Int.natCast_nonneg _
          refine g_ifb_eq cx (pc2 := 43) (tgt := 147) dX12_layMended_40 (by decide) rfl (fun h_6 => ?_) (fun h_6 => ?_)
          · skip
            refine g_iinc cx (pc2 := 150) 4 rfl (lv2 := [(0, .ref 77), (1, .int (iI s)), (2, .int (iI m)), (3, .int (iI h)), (4, .int (iI (i + 1)))]) rfl (Nat.le_of_ble_eq_true rfl) dX12_layMended_147 rfl ?_
            refine g_goto cx (tgt := 25) dX12_layMended_150 (by decide) ?_
            exact ih25 ((M 77 12 - (i + 1)).toNat) (by omega) (i + 1) W (by first | assumption | omega) (by first | exact hX | exact hW) (by first | exact hXj | exact hWj) (by intro l hl; by_cases q : l = i.toNat; (focus (rw [if_pos (by omega)]; subst q; first | (rw [hXi, show c.toNat = 9 by omega]; unfold mvX; rw [if_neg hne, if_pos hl, if_pos ⟨by omega, by assumption⟩]; done) | (rw [hWl i.toNat hl, if_neg (by omega)]; unfold mvX; rw [if_neg hne, if_pos hl, if_neg (fun z => absurd z.2 (by assumption))]; done))); (first | rw [hXl l (by omega) q, hWl l hl] | rw [hWl l hl]); (by_cases q2 : (l : Int) < i) <;> first | (rw [if_pos q2, if_pos (by omega)]; done) | (rw [if_neg q2, if_neg (by omega)]; done)) (by first | (rw [hXl 8 (by omega) (by omega)]; exact hW8) | exact hW8) (Nat.le_refl _)
          · skip
            refine g_iload_n cx (pc2 := 44) 1 rfl dX12_layMended_43 rfl ?_
            refine g_iconst cx (pc2 := 45) dX12_layMended_44 rfl ?_
            refine g_iload cx (pc2 := 47) 4 rfl dX12_layMended_45 rfl ?_
            refine g_ishl cx (pc2 := 48) dX12_layMended_47 rfl ?_
            refine g_rwi (y := iI ((2 ^ i.toNat : Nat) : Int)) (sh1 (by omega) (by omega)) ?_
            refine g_iconst cx (pc2 := 49) dX12_layMended_48 rfl ?_
            refine g_ixor cx (pc2 := 50) dX12_layMended_49 rfl ?_
            refine g_iand cx (pc2 := 51) dX12_layMended_50 rfl ?_
            refine g_rwi (y := iI ((ndN s.toNat (2 ^ i.toNat) : Nat) : Int)) (nd_iI (by omega) (by omega)) ?_
            refine g_istore cx (pc2 := 53) (lv2 := [(0, .ref 77), (1, .int (iI s)), (2, .int (iI m)), (3, .int (iI h)), (4, .int (iI i)), (5, .int (iI ((ndN s.toNat (2 ^ i.toNat) : Nat) : Int)))]) rfl (Nat.le_of_ble_eq_true rfl) dX12_layMended_51 rfl ?_
            have hrlt := ndN_lt (by assumption : hB s i)
            refine g_iconst cx (pc2 := 54) dX12_layMended_53 rfl ?_
            refine g_istore cx (pc2 := 56) (lv2 := [(0, .ref 77), (1, .int (iI s)), (2, .int (iI m)), (3, .int (iI h)), (4, .int (iI i)), (5, .int (iI ((ndN s.toNat (2 ^ i.toNat) : Nat) : Int))), (6, .int (iI 0))]) rfl (Nat.le_of_ble_eq_true rfl) dX12_layMended_54 rfl ?_
            have L56 : ∀ (fu : Nat) (c : Int) (X9 : Mm), (0 ≤ c ∧ c ≤ 9) → (∀ a, a ≠ 96 → X9 a = M a) → (∀ j : Nat, ¬ (81 * s.toNat + 9 * m.toNat ≤ j ∧ j ≤ 81 * s.toNat + 9 * m.toNat + 8) → X9 96 j = M 96 j) → (∀ l : Nat, l ≤ 8 → l ≠ i.toNat → X9 96 (81 * s.toNat + 9 * m.toNat + l) = W 96 (81 * s.toNat + 9 * m.toNat + l)) → (X9 96 (81 * s.toNat + 9 * m.toNat + i.toNat) = mlF (jbR M) (sP M) (M 84 h.toNat) (M 96) (ndN s.toNat (2 ^ i.toNat)) m.toNat i.toNat c.toNat) → (9 - c).toNat ≤ fu → G X 56 [(0, .ref 77), (1, .int (iI s)), (2, .int (iI m)), (3, .int (iI h)), (4, .int (iI i)), (5, .int (iI ((ndN s.toNat (2 ^ i.toNat) : Nat) : Int))), (6, .int (iI c))] [] X9 := by
              intro fu
              induction fu using Nat.strongRecOn with
              | _ fu ih56 =>
                intro c X9 hc hX hXj hXl hXi hk56
                have hVX : RV X9 := hV.of (hX 84 (by decide)) (hX 85 (by decide)) (hX 86 (by decide)) (by rw [hX 77 (by decide)]) (by rw [hX 77 (by decide)]) (by rw [hX 77 (by decide)])
                have eJ : jbR X9 = jbR M := jbR_off (hX 84 (by decide)) (hX 85 (by decide))
                have e84 := hX 84 (by decide)
                have hst : mlF (jbR M) (sP M) (M 84 h.toNat) (M 96) (ndN s.toNat (2 ^ i.toNat)) m.toNat i.toNat (c + 1).toNat = min (mlF (jbR M) (sP M) (M 84 h.toNat) (M 96) (ndN s.toNat (2 ^ i.toNat)) m.toNat i.toNat c.toNat) (if M 96 (81 * (ndN s.toNat (2 ^ i.toNat)) + 9 * m.toNat + c.toNat) < 1000 then exB (jbR M) i.toNat (hbX (jbR M) (sP M) (M 84 h.toNat) m.toNat c.toNat) (M 96 (81 * (ndN s.toNat (2 ^ i.toNat)) + 9 * m.toNat + c.toNat)) else 1000) := by rw [show (c + 1).toNat = c.toNat + 1 by omega, mlF]
                have hbb := hbX_b hJo hsp hph m.toNat c.toNat
                have hmlv : c ≤ 8 → exV (mlF (jbR M) (sP M) (M 84 h.toNat) (M 96) (ndN s.toNat (2 ^ i.toNat)) m.toNat i.toNat c.toNat) := fun _ => mlF_v hJo hsp hph (by omega) (fun k hk => hval _ (by omega))
                refine g_iload cx (pc2 := 58) 6 rfl dX12_layMended_56 rfl ?_
                refine g_bipush cx (pc2 := 60) ⟨by decide, by decide⟩ dX12_layMended_58 rfl ?_
                refine g_icmp_gt cx (pc2 := 63) (tgt := 147) ⟨(by first | assumption | omega), ⟨by decide, by decide⟩⟩ dX12_layMended_60 (by decide) rfl (fun h_7 => ?_) (fun h_7 => ?_)
                · skip
                  refine g_iinc cx (pc2 := 150) 4 rfl (lv2 := [(0, .ref 77), (1, .int (iI s)), (2, .int (iI m)), (3, .int (iI h)), (4, .int (iI (i + 1))), (5, .int (iI ((ndN s.toNat (2 ^ i.toNat) : Nat) : Int))), (6, .int (iI c))]) rfl (Nat.le_of_ble_eq_true rfl) dX12_layMended_147 rfl ?_
                  refine g_goto cx (tgt := 25) dX12_layMended_150 (by decide) ?_
                  refine g_sub (lv2 := [(0, .ref 77), (1, .int (iI s)), (2, .int (iI m)), (3, .int (iI h)), (4, .int (iI (i + 1)))]) [0, 1, 2, 3, 4] rfl ?_
                  exact ih25 ((M 77 12 - (i + 1)).toNat) (by omega) (i + 1) X9 (by first | assumption | omega) (by first | exact hX | exact hW) (by first | exact hXj | exact hWj) (by intro l hl; by_cases q : l = i.toNat; (focus (rw [if_pos (by omega)]; subst q; first | (rw [hXi, show c.toNat = 9 by omega]; unfold mvX; rw [if_neg hne, if_pos hl, if_pos ⟨by omega, by assumption⟩]; done) | (rw [hWl i.toNat hl, if_neg (by omega)]; unfold mvX; rw [if_neg hne, if_pos hl, if_neg (fun z => absurd z.2 (by assumption))]; done))); (first | rw [hXl l (by omega) q, hWl l hl] | rw [hWl l hl]); (by_cases q2 : (l : Int) < i) <;> first | (rw [if_pos q2, if_pos (by omega)]; done) | (rw [if_neg q2, if_neg (by omega)]; done)) (by first | (rw [hXl 8 (by omega) (by omega)]; exact hW8) | exact hW8) (Nat.le_refl _)
                · skip
                  have hrv := hval (81 * (ndN s.toNat (2 ^ i.toNat)) + 9 * m.toNat + c.toNat) (by omega)
                  have hml1 := hmlv (by omega)
                  refine g_aload_n cx (pc2 := 64) 0 rfl dX12_layMended_63 rfl ?_
                  refine g_get cx (pc2 := 67) (ci := 12) (k0 := 77) (j := 32) (v := .ref 96) rfl iwX12 rfl (lt_lit hn (Nat.le_of_ble_eq_true rfl)) rfl (Nat.le_of_ble_eq_true rfl) kf_X12_65 rfl rfl dX12_layMended_64 rfl ?_
                  refine g_iload cx (pc2 := 69) 5 rfl dX12_layMended_67 rfl ?_
                  refine g_iload_n cx (pc2 := 70) 2 rfl dX12_layMended_69 rfl ?_
                  refine g_iload cx (pc2 := 72) 6 rfl dX12_layMended_70 rfl ?_
                  refine g_callS cx (pc2 := 75) (st := [.ref 96]) (As := [.int (iI ((ndN s.toNat (2 ^ i.toNat) : Nat) : Int)), .int (iI m), .int (iI c)]) (c_X12_spot (M := X9) hn ((ndN s.toNat (2 ^ i.toNat) : Nat) : Int) m c) wM_X12_spot wS_X12_spot kl_X12_294 ⟨rfl, rfl, Nat.le_of_ble_eq_true rfl, Nat.le_of_ble_eq_true rfl⟩ (Nat.le_of_ble_eq_true rfl) cs rfl rfl dX12_layMended_72 rfl ?_
                  rintro _ _ ⟨rfl, rfl⟩
                  refine g_iald cx (pc2 := 76) (k0 := 96) rfl (lt_lit hn (Nat.le_of_ble_eq_true rfl)) (by first | assumption | omega) (by first | assumption | omega) (Nat.le_of_ble_eq_true rfl) dX12_layMended_75 rfl ?_
                  refine g_rwi (y := iI (X9 96 ((81 * ((ndN s.toNat (2 ^ i.toNat) : Nat) : Int) + 9 * m + c).toNat))) (congrArg iI (by simp [stM])) ?_
                  refine g_rwi (y := iI (M 96 (81 * (ndN s.toNat (2 ^ i.toNat)) + 9 * m.toNat + c.toNat))) (congrArg iI (by rw [show (81 * ((ndN s.toNat (2 ^ i.toNat) : Nat) : Int) + 9 * m + c).toNat = 81 * (ndN s.toNat (2 ^ i.toNat)) + 9 * m.toNat + c.toNat by omega]; exact hXj _ (by omega))) ?_
                  have L110 : ∀ (e : Int), (e = if M 96 (81 * (ndN s.toNat (2 ^ i.toNat)) + 9 * m.toNat + c.toNat) < 1000 then exB (jbR M) i.toNat (hbX (jbR M) (sP M) (M 84 h.toNat) m.toNat c.toNat) (M 96 (81 * (ndN s.toNat (2 ^ i.toNat)) + 9 * m.toNat + c.toNat)) else 1000) → G X 110 [(0, .ref 77), (1, .int (iI s)), (2, .int (iI m)), (3, .int (iI h)), (4, .int (iI i)), (5, .int (iI ((ndN s.toNat (2 ^ i.toNat) : Nat) : Int))), (6, .int (iI c))] [.int (iI e)] X9 := by
                    intro e he
                    have hev : exV e := by rw [he]; split; exact exB_v hJo (by omega) hbb (by omega); exact Or.inl rfl
                    refine g_istore cx (pc2 := 112) (lv2 := [(0, .ref 77), (1, .int (iI s)), (2, .int (iI m)), (3, .int (iI h)), (4, .int (iI i)), (5, .int (iI ((ndN s.toNat (2 ^ i.toNat) : Nat) : Int))), (6, .int (iI c)), (8, .int (iI e))]) rfl (Nat.le_of_ble_eq_true rfl) dX12_layMended_110 rfl ?_
                    refine g_aload_n cx (pc2 := 113) 0 rfl dX12_layMended_112 rfl ?_
                    refine g_get cx (pc2 := 116) (ci := 12) (k0 := 77) (j := 32) (v := .ref 96) rfl iwX12 rfl (lt_lit hn (Nat.le_of_ble_eq_true rfl)) rfl (Nat.le_of_ble_eq_true rfl) kf_X12_65 rfl rfl dX12_layMended_113 rfl ?_
                    refine g_iload_n cx (pc2 := 117) 1 rfl dX12_layMended_116 rfl ?_
                    refine g_iload_n cx (pc2 := 118) 2 rfl dX12_layMended_117 rfl ?_
                    refine g_iload cx (pc2 := 120) 4 rfl dX12_layMended_118 rfl ?_
                    refine g_callS cx (pc2 := 123) (st := [.ref 96]) (As := [.int (iI s), .int (iI m), .int (iI i)]) (c_X12_spot (M := X9) hn s m i) wM_X12_spot wS_X12_spot kl_X12_294 ⟨rfl, rfl, Nat.le_of_ble_eq_true rfl, Nat.le_of_ble_eq_true rfl⟩ (Nat.le_of_ble_eq_true rfl) cs rfl rfl dX12_layMended_120 rfl ?_
                    rintro _ _ ⟨rfl, rfl⟩
                    refine g_aload_n cx (pc2 := 124) 0 rfl dX12_layMended_123 rfl ?_
                    refine g_get cx (pc2 := 127) (ci := 12) (k0 := 77) (j := 32) (v := .ref 96) rfl iwX12 rfl (lt_lit hn (Nat.le_of_ble_eq_true rfl)) rfl (Nat.le_of_ble_eq_true rfl) kf_X12_65 rfl rfl dX12_layMended_124 rfl ?_
                    refine g_iload_n cx (pc2 := 128) 1 rfl dX12_layMended_127 rfl ?_
                    refine g_iload_n cx (pc2 := 129) 2 rfl dX12_layMended_128 rfl ?_
                    refine g_iload cx (pc2 := 131) 4 rfl dX12_layMended_129 rfl ?_
                    refine g_callS cx (pc2 := 134) (st := [.ref 96, .int (iI (81 * s + 9 * m + i)), .ref 96]) (As := [.int (iI s), .int (iI m), .int (iI i)]) (c_X12_spot (M := X9) hn s m i) wM_X12_spot wS_X12_spot kl_X12_294 ⟨rfl, rfl, Nat.le_of_ble_eq_true rfl, Nat.le_of_ble_eq_true rfl⟩ (Nat.le_of_ble_eq_true rfl) cs rfl rfl dX12_layMended_131 rfl ?_
                    rintro _ _ ⟨rfl, rfl⟩
                    refine g_iald cx (pc2 := 135) (k0 := 96) rfl (lt_lit hn (Nat.le_of_ble_eq_true rfl)) (by first | assumption | omega) (by first | assumption | omega) (Nat.le_of_ble_eq_true rfl) dX12_layMended_134 rfl ?_
                    refine g_rwi (y := iI (X9 96 ((81 * s + 9 * m + i).toNat))) (congrArg iI (by simp [stM])) ?_
                    refine g_rwi (y := iI (mlF (jbR M) (sP M) (M 84 h.toNat) (M 96) (ndN s.toNat (2 ^ i.toNat)) m.toNat i.toNat c.toNat)) (congrArg iI (by rw [show (81 * s + 9 * m + i).toNat = 81 * s.toNat + 9 * m.toNat + i.toNat by omega]; exact hXi)) ?_
                    refine g_iload cx (pc2 := 137) 7 rfl dX12_layMended_135 rfl ?_
                    refine g_callS cx (pc2 := 140) (st := [.int (iI (81 * s + 9 * m + i)), .ref 96]) (As := [.int (iI (mlF (jbR M) (sP M) (M 84 h.toNat) (M 96) (ndN s.toNat (2 ^ i.toNat)) m.toNat i.toNat c.toNat)), .int (iI e)]) (c_X12_lesser (M := X9) hn (mlF (jbR M) (sP M) (M 84 h.toNat) (M 96) (ndN s.toNat (2 ^ i.toNat)) m.toNat i.toNat c.toNat) e (by first | assumption | omega) (by first | assumption | omega)) wM_X12_lesser wS_X12_lesser kl_X12_236 ⟨rfl, rfl, Nat.le_of_ble_eq_true rfl, Nat.le_of_ble_eq_true rfl⟩ (Nat.le_of_ble_eq_true rfl) cs rfl rfl dX12_layMended_137 rfl ?_
                    rintro _ _ ⟨rfl, rfl⟩
                    refine g_iast cx (pc2 := 141) (k0 := 96) rfl (lt_lit hn (Nat.le_of_ble_eq_true rfl)) (by first | assumption | omega) (by first | assumption | omega) (Nat.le_of_ble_eq_true rfl) dX12_layMended_140 rfl ?_
                    refine g_iinc cx (pc2 := 144) 6 rfl (lv2 := [(0, .ref 77), (1, .int (iI s)), (2, .int (iI m)), (3, .int (iI h)), (4, .int (iI i)), (5, .int (iI ((ndN s.toNat (2 ^ i.toNat) : Nat) : Int))), (6, .int (iI (c + 1))), (8, .int (iI e))]) rfl (Nat.le_of_ble_eq_true rfl) dX12_layMended_141 rfl ?_
                    refine g_goto cx (tgt := 56) dX12_layMended_144 (by decide) ?_
                    refine g_sub (lv2 := [(0, .ref 77), (1, .int (iI s)), (2, .int (iI m)), (3, .int (iI h)), (4, .int (iI i)), (5, .int (iI ((ndN s.toNat (2 ^ i.toNat) : Nat) : Int))), (6, .int (iI (c + 1)))]) [0, 1, 2, 3, 4, 5, 6] rfl ?_
                    exact ih56 ((9 - (c + 1)).toNat) (by omega) (c + 1) (stM X9 96 ((81 * s + 9 * m + i)).toNat (min (mlF (jbR M) (sP M) (M 84 h.toNat) (M 96) (ndN s.toNat (2 ^ i.toNat)) m.toNat i.toNat c.toNat) e)) (by first | assumption | omega) (by intro a ha; rw [stM_off ha]; exact hX a ha) (by intro j hj; rw [stM_ne _ _ (Or.inr (by omega))]; exact hXj j hj) (by intro l h1 h2; rw [stM_ne _ _ (Or.inr (by omega))]; exact hXl l h1 h2) (by rw [show (81 * s + 9 * m + i).toNat = 81 * s.toNat + 9 * m.toNat + i.toNat by omega, stM_at, hst, he]) (Nat.le_refl _)
                  refine g_istore cx (pc2 := 78) (lv2 := [(0, .ref 77), (1, .int (iI s)), (2, .int (iI m)), (3, .int (iI h)), (4, .int (iI i)), (5, .int (iI ((ndN s.toNat (2 ^ i.toNat) : Nat) : Int))), (6, .int (iI c)), (7, .int (iI (M 96 (81 * (ndN s.toNat (2 ^ i.toNat)) + 9 * m.toNat + c.toNat))))]) rfl (Nat.le_of_ble_eq_true rfl) dX12_layMended_76 rfl ?_
                  refine g_iload cx (pc2 := 80) 7 rfl dX12_layMended_78 rfl ?_
                  refine g_sipush cx (pc2 := 83) ⟨by decide, by decide⟩ dX12_layMended_80 rfl ?_
                  refine g_icmp_lt cx (pc2 := 86) (tgt := 92) ⟨(by first | assumption | omega), ⟨by decide, by decide⟩⟩ dX12_layMended_83 (by decide) rfl (fun h_8 => ?_) (fun h_8 => ?_)
                  · skip
                    refine g_aload_n cx (pc2 := 93) 0 rfl dX12_layMended_92 rfl ?_
                    refine g_iload cx (pc2 := 95) 4 rfl dX12_layMended_93 rfl ?_
                    refine g_aload_n cx (pc2 := 96) 0 rfl dX12_layMended_95 rfl ?_
                    refine g_iload cx (pc2 := 98) 5 rfl dX12_layMended_96 rfl ?_
                    refine g_iload_n cx (pc2 := 99) 2 rfl dX12_layMended_98 rfl ?_
                    refine g_iload cx (pc2 := 101) 6 rfl dX12_layMended_99 rfl ?_
                    refine g_iload_n cx (pc2 := 102) 3 rfl dX12_layMended_101 rfl ?_
                    refine g_callV cx (pc2 := 105) (st := [.int (iI i), .ref 77]) (As := [.int (iI ((ndN s.toNat (2 ^ i.toNat) : Nat) : Int)), .int (iI m), .int (iI c), .int (iI h)]) (k0 := 77) (ci := 12) (c_X12_houseBehind (M := X9) hn ((ndN s.toNat (2 ^ i.toNat) : Nat) : Int) m c h (by omega) (by omega)) wM_X12_houseBehind wV_X12_houseBehind kl_X12_297 rfl (lt_lit hn (Nat.le_of_ble_eq_true rfl)) rfl ⟨rfl, rfl, Nat.le_of_ble_eq_true rfl, Nat.le_of_ble_eq_true rfl⟩ (Nat.le_of_ble_eq_true rfl) cs rfl rfl dX12_layMended_102 rfl ?_
                    rintro _ _ ⟨rfl, rfl⟩
                    refine g_rwi (y := iI (if c < 8 then nA M c 1 else if m = 0 then M 77 15 else h)) (congrArg iI (by rw [nA_off (hX 85 (by decide)), hX 77 (by decide)])) ?_
                    refine g_iload cx (pc2 := 107) 7 rfl dX12_layMended_105 rfl ?_
                    refine g_callV cx (pc2 := 110) (st := []) (As := [.int (iI i), .int (iI (if c < 8 then nA M c 1 else if m = 0 then M 77 15 else h)), .int (iI (M 96 (81 * (ndN s.toNat (2 ^ i.toNat)) + 9 * m.toNat + c.toNat)))]) (k0 := 77) (ci := 12) (c_X12_endOf (M := X9) hn (by first | exact hVX | exact hVY | exact hV) i (if c < 8 then nA M c 1 else if m = 0 then M 77 15 else h) (M 96 (81 * (ndN s.toNat (2 ^ i.toNat)) + 9 * m.toNat + c.toNat)) (by omega) (by first | omega | exact hh84 | (have q := nA_b hV (i := c) ; split <;> first | (have q2 := nA_b hV (i := c) (by omega); omega) | (split <;> omega))) (by omega)) wM_X12_endOf wV_X12_endOf kl_X12_233 rfl (lt_lit hn (Nat.le_of_ble_eq_true rfl)) rfl ⟨rfl, rfl, Nat.le_of_ble_eq_true rfl, Nat.le_of_ble_eq_true rfl⟩ (Nat.le_of_ble_eq_true rfl) cs rfl rfl dX12_layMended_107 rfl ?_
                    rintro _ _ ⟨rfl, rfl⟩
                    refine g_rwi (y := iI (exB (jbR M) i.toNat (hbX (jbR M) (sP M) (M 84 h.toNat) m.toNat c.toNat) (M 96 (81 * (ndN s.toNat (2 ^ i.toNat)) + 9 * m.toNat + c.toNat)))) (congrArg iI (by rw [eJ, e84, hb_house (M := M) (m := m) (c := c) (h := h) (by omega) (by omega)])) ?_
                    refine g_sub (lv2 := [(0, .ref 77), (1, .int (iI s)), (2, .int (iI m)), (3, .int (iI h)), (4, .int (iI i)), (5, .int (iI ((ndN s.toNat (2 ^ i.toNat) : Nat) : Int))), (6, .int (iI c))]) [0, 1, 2, 3, 4, 5, 6] rfl ?_
                    exact L110 (exB (jbR M) i.toNat (hbX (jbR M) (sP M) (M 84 h.toNat) m.toNat c.toNat) (M 96 (81 * (ndN s.toNat (2 ^ i.toNat)) + 9 * m.toNat + c.toNat))) (by first | (rw [if_pos (by omega)]; done) | (rw [if_neg (by omega)]; done))
                  · skip
                    refine g_sipush cx (pc2 := 89) ⟨by decide, by decide⟩ dX12_layMended_86 rfl ?_
                    refine g_goto cx (tgt := 110) dX12_layMended_89 (by decide) ?_
                    refine g_sub (lv2 := [(0, .ref 77), (1, .int (iI s)), (2, .int (iI m)), (3, .int (iI h)), (4, .int (iI i)), (5, .int (iI ((ndN s.toNat (2 ^ i.toNat) : Nat) : Int))), (6, .int (iI c))]) [0, 1, 2, 3, 4, 5, 6] rfl ?_
                    exact L110 1000 (by first | (rw [if_pos (by omega)]; done) | (rw [if_neg (by omega)]; done))
            exact L56 _ 0 W (by first | assumption | omega) (by exact hW) (by exact hWj) (by intro l _ _; rfl) (by rw [hWl i.toNat (by omega), if_neg (by omega)]; rfl) (Nat.le_refl _)
    exact L25 _ 0 M (by first | assumption | omega) (by intro a _; rfl) (by intro j _; rfl) (by intro l hl; rw [if_neg (by omega)]; exact hpre l (by omega)) (by exact hpre 8 (by omega)) (Nat.le_refl _)
  refine g_iload_n cx (pc2 := 1) 1 rfl dX12_layMended_0 rfl ?_
  refine g_if_ne cx (pc2 := 4) (tgt := 22) (by first | assumption | omega) dX12_layMended_1 (by decide) rfl (fun h_9 => ?_) (fun h_9 => ?_)
  · skip
    exact L22  (by omega)
  · skip
    refine g_iload_n cx (pc2 := 5) 2 rfl dX12_layMended_4 rfl ?_
    refine g_if_ne cx (pc2 := 8) (tgt := 22) (by first | assumption | omega) dX12_layMended_5 (by decide) rfl (fun h_10 => ?_) (fun h_10 => ?_)
    · skip
      exact L22  (by omega)
    · skip
      refine g_aload_n cx (pc2 := 9) 0 rfl dX12_layMended_8 rfl ?_
      refine g_get cx (pc2 := 12) (ci := 12) (k0 := 77) (j := 32) (v := .ref 96) rfl iwX12 rfl (lt_lit hn (Nat.le_of_ble_eq_true rfl)) rfl (Nat.le_of_ble_eq_true rfl) kf_X12_65 rfl rfl dX12_layMended_9 rfl ?_
      refine g_iconst cx (pc2 := 13) dX12_layMended_12 rfl ?_
      refine g_iconst cx (pc2 := 14) dX12_layMended_13 rfl ?_
      refine g_bipush cx (pc2 := 16) ⟨by decide, by decide⟩ dX12_layMended_14 rfl ?_
      refine g_callS cx (pc2 := 19) (st := [.ref 96]) (As := [.int (iI 0), .int (iI 0), .int (iI 8)]) (c_X12_spot (M := M) hn 0 0 8) wM_X12_spot wS_X12_spot kl_X12_294 ⟨rfl, rfl, Nat.le_of_ble_eq_true rfl, Nat.le_of_ble_eq_true rfl⟩ (Nat.le_of_ble_eq_true rfl) cs rfl rfl dX12_layMended_16 rfl ?_
      rintro _ _ ⟨rfl, rfl⟩
      refine g_iconst cx (pc2 := 20) dX12_layMended_19 rfl ?_
      refine g_iast cx (pc2 := 21) (k0 := 96) rfl (lt_lit hn (Nat.le_of_ble_eq_true rfl)) (by first | assumption | omega) (by first | assumption | omega) (Nat.le_of_ble_eq_true rfl) dX12_layMended_20 rfl ?_
      exact g_vret cx qx dX12_layMended_21 ⟨rfl, by exact LMX_0 (by omega) (by omega) hpre⟩
set_option maxHeartbeats 4000000 in
set_option maxRecDepth 100000 in
theorem c_X12_mends {n : Nat} (hn : NN n) {M : Mm} (hV : RV M) (w h : Int) (hw : ir w) (hh : ir h) : CT yX12_mends cX12_mends 7 (some .int) ({ frames := 5, cells := 0, slots := 0, locals := 123 }) n [.ref 77, .int (iI w), .int (iI h)] M (pI (fun z M2 => xmeR M w h z M2)) := by
  refine CT.of (lv0 := [(0, .ref 77), (1, .int (iI w)), (2, .int (iI h))]) (by decide +kernel) hn (fun _ => rfl) (fun _ => Nat.le_of_ble_eq_true rfl) (fun X cx cs qx => ?_)
  have cx : Cx X cX12_mends RX12 ({ frames := 5, cells := 0, slots := 0, locals := 123 }) 7 n := cx
  have hv1 := hV.1
  have hfb := fX_255 hV
  have hJo := jbR_ok hV
  have hsp : 0 ≤ sP M ∧ sP M ≤ 15 := hV.2.1 (M 77 15).toNat (by omega)
  have hae := allN_eq (M 77 12)
  have hp0 := Nat.two_pow_pos (M 77 12).toNat
  have hp8 : 2 ^ (M 77 12).toNat ≤ 2 ^ 8 := Nat.pow_le_pow_right (by decide) (by omega)
  generalize hN2 : 2 ^ (M 77 12).toNat = N2 at hae hp0 hp8
  refine g_aload_n cx (pc2 := 1) 0 rfl dX12_mends_0 rfl ?_
  refine g_iload_n cx (pc2 := 2) 1 rfl dX12_mends_1 rfl ?_
  refine g_callV cx (pc2 := 5) (st := []) (As := [.int (iI w)]) (k0 := 77) (ci := 12) (c_X12_isSet (M := M) hn (by first | exact hVW | exact hVU | exact hV) w (by first | (unfold SX; rw [w12]; omega) | assumption | omega)) wM_X12_isSet wV_X12_isSet kl_X12_239 rfl (lt_lit hn (Nat.le_of_ble_eq_true rfl)) rfl ⟨rfl, rfl, Nat.le_of_ble_eq_true rfl, Nat.le_of_ble_eq_true rfl⟩ (Nat.le_of_ble_eq_true rfl) cs rfl rfl dX12_mends_2 rfl ?_
  rintro _ _ ⟨rfl, rfl⟩
  refine g_ifb_eq cx (pc2 := 8) (tgt := 16) dX12_mends_5 (by decide) rfl (fun h_1 => ?_) (fun h_1 => ?_)
  · skip
    refine g_iconst cx (pc2 := 17) dX12_mends_16 rfl ?_
    exact g_iret cx qx dX12_mends_17 ⟨_, rfl, by exact Or.inl ⟨by first | exact Or.inl (by assumption) | exact Or.inr (by assumption), rfl, rfl⟩⟩
  · skip
    refine g_aload_n cx (pc2 := 9) 0 rfl dX12_mends_8 rfl ?_
    refine g_iload_n cx (pc2 := 10) 2 rfl dX12_mends_9 rfl ?_
    refine g_callV cx (pc2 := 13) (st := []) (As := [.int (iI h)]) (k0 := 77) (ci := 12) (c_X12_isHouse (M := M) hn (by first | exact hVW | exact hVU | exact hV) h (by first | assumption | omega)) wM_X12_isHouse wV_X12_isHouse kl_X12_189 rfl (lt_lit hn (Nat.le_of_ble_eq_true rfl)) rfl ⟨rfl, rfl, Nat.le_of_ble_eq_true rfl, Nat.le_of_ble_eq_true rfl⟩ (Nat.le_of_ble_eq_true rfl) cs rfl rfl dX12_mends_10 rfl ?_
    rintro _ _ ⟨rfl, rfl⟩
    refine g_ifb_ne cx (pc2 := 16) (tgt := 18) dX12_mends_13 (by decide) rfl (fun h_2 => ?_) (fun h_2 => ?_)
    · skip
      have hHX : HX M h := h_2
      have hSX : SX M w := by assumption
      have hph := hV.2.1 h.toNat (by omega)
      refine g_iconst cx (pc2 := 19) dX12_mends_18 rfl ?_
      refine g_istore_n cx (pc2 := 20) (lv2 := [(0, .ref 77), (1, .int (iI w)), (2, .int (iI h)), (3, .int (iI 0))]) rfl (Nat.le_of_ble_eq_true rfl) dX12_mends_19 rfl ?_
      have L20 : ∀ (fu : Nat) (k : Int), (0 ≤ k ∧ k ≤ 81 * (N2 : Int)) → (81 * (N2 : Int) - k).toNat ≤ fu → G X 20 [(0, .ref 77), (1, .int (iI w)), (2, .int (iI h)), (3, .int (iI k))] [] (fiP M k) := by
        intro fu
        induction fu using Nat.strongRecOn with
        | _ fu ih20 =>
          intro k hk hk20
          refine g_iload_n cx (pc2 := 21) 3 rfl dX12_mends_20 rfl ?_
          refine g_bipush cx (pc2 := 23) ⟨by decide, by decide⟩ dX12_mends_21 rfl ?_
          refine g_aload_n cx (pc2 := 24) 0 rfl dX12_mends_23 rfl ?_
          refine g_get cx (pc2 := 27) (ci := 12) (k0 := 77) (j := 12) (v := .int (iI ((fiP M k) 77 12))) rfl iwX12 rfl (lt_lit hn (Nat.le_of_ble_eq_true rfl)) rfl (Nat.le_of_ble_eq_true rfl) kf_X12_168 rfl rfl dX12_mends_24 rfl ?_
          refine g_rwi (y := iI (M 77 12)) (rfl) ?_
          refine g_ishl cx (pc2 := 28) dX12_mends_27 rfl ?_
          refine g_rwi (y := iI (81 * (N2 : Int))) (by rw [shl_iI (by decide) (by omega) (by omega) (by rw [hN2]; show 81 * N2 < _; omega), hN2]; exact congrArg iI (by show ((81 * N2 : Nat) : Int) = _; omega)) ?_
          refine g_icmp_ge cx (pc2 := 31) (tgt := 46) ⟨(by first | assumption | omega), (by first | assumption | omega)⟩ dX12_mends_28 (by decide) rfl (fun h_3 => ?_) (fun h_3 => ?_)
          · skip
            refine g_iconst cx (pc2 := 47) dX12_mends_46 rfl ?_
            refine g_istore_n cx (pc2 := 48) (lv2 := [(0, .ref 77), (1, .int (iI w)), (2, .int (iI h)), (3, .int (iI 0))]) rfl (Nat.le_of_ble_eq_true rfl) dX12_mends_47 rfl ?_
            have L48 : ∀ (fu : Nat) (s : Int) (U : Mm), (0 ≤ s ∧ s ≤ (N2 : Int)) → (∀ a, a ≠ 96 → U a = M a) → (MJ (jbR M) (M 77 12).toNat (sP M) (M 84 h.toNat) w.toNat (U 96) s.toNat 0) → ((N2 : Int) - s).toNat ≤ fu → G X 48 [(0, .ref 77), (1, .int (iI w)), (2, .int (iI h)), (3, .int (iI s))] [] U := by
              intro fu
              induction fu using Nat.strongRecOn with
              | _ fu ih48 =>
                intro s U hs hU hMJ hk48
                have u12 : U 77 12 = M 77 12 := by rw [hU 77 (by decide)]
                have hVU : RV U := hV.of (hU 84 (by decide)) (hU 85 (by decide)) (hU 86 (by decide)) (by rw [hU 77 (by decide)]) (by rw [hU 77 (by decide)]) (by rw [hU 77 (by decide)])
                have hnd := ndN_le s.toNat w.toNat
                refine g_iload_n cx (pc2 := 49) 3 rfl dX12_mends_48 rfl ?_
                refine g_aload_n cx (pc2 := 50) 0 rfl dX12_mends_49 rfl ?_
                refine g_callV cx (pc2 := 53) (st := [.int (iI s)]) (As := []) (k0 := 77) (ci := 12) (c_X12_full (M := U) hn (by first | exact hVW | exact hVU | exact hV)) wM_X12_full wV_X12_full kl_X12_230 rfl (lt_lit hn (Nat.le_of_ble_eq_true rfl)) rfl ⟨rfl, rfl, Nat.le_of_ble_eq_true rfl, Nat.le_of_ble_eq_true rfl⟩ (Nat.le_of_ble_eq_true rfl) cs rfl rfl dX12_mends_50 rfl ?_
                rintro _ _ ⟨rfl, rfl⟩
                refine g_rwi (y := iI ((N2 : Int) - 1)) (congrArg iI (by rw [u12, hae]; omega)) ?_
                refine g_icmp_gt cx (pc2 := 56) (tgt := 94) ⟨(by first | assumption | omega), (by first | assumption | omega)⟩ dX12_mends_53 (by decide) rfl (fun h_4 => ?_) (fun h_4 => ?_)
                · skip
                  refine g_bipush cx (pc2 := 96) ⟨by decide, by decide⟩ dX12_mends_94 rfl ?_
                  refine g_istore_n cx (pc2 := 97) (lv2 := [(0, .ref 77), (1, .int (iI w)), (2, .int (iI h)), (3, .int (iI (-9)))]) rfl (Nat.le_of_ble_eq_true rfl) dX12_mends_96 rfl ?_
                  refine g_iconst cx (pc2 := 98) dX12_mends_97 rfl ?_
                  refine g_istore cx (pc2 := 100) (lv2 := [(0, .ref 77), (1, .int (iI w)), (2, .int (iI h)), (3, .int (iI (-9))), (4, .int (iI 0))]) rfl (Nat.le_of_ble_eq_true rfl) dX12_mends_98 rfl ?_
                  have L100 : ∀ (fu : Nat) (m : Int) (x : Int), (0 ≤ m ∧ m ≤ 9) → (x = moX (U 96) w.toNat m.toNat) → (9 - m).toNat ≤ fu → G X 100 [(0, .ref 77), (1, .int (iI w)), (2, .int (iI h)), (3, .int (iI x)), (4, .int (iI m))] [] U := by
                    intro fu
                    induction fu using Nat.strongRecOn with
                    | _ fu ih100 =>
                      intro m x hm hx hk100
                      have hst : moX (U 96) w.toNat (m + 1).toNat = if anX (U 96) w.toNat m.toNat 9 = true then m else x := by rw [show (m + 1).toNat = m.toNat + 1 by omega, moX, ← hx, Int.toNat_of_nonneg hm.1]
                      refine g_iload cx (pc2 := 102) 4 rfl dX12_mends_100 rfl ?_
                      refine g_bipush cx (pc2 := 104) ⟨by decide, by decide⟩ dX12_mends_102 rfl ?_
                      refine g_icmp_gt cx (pc2 := 107) (tgt := 175) ⟨(by first | assumption | omega), ⟨by decide, by decide⟩⟩ dX12_mends_104 (by decide) rfl (fun h_5 => ?_) (fun h_5 => ?_)
                      · skip
                        refine g_iload_n cx (pc2 := 176) 3 rfl dX12_mends_175 rfl ?_
                        exact g_iret cx qx dX12_mends_176 ⟨_, rfl, by refine Or.inr ⟨⟨hSX, hHX⟩, hU, ?_, ?_⟩; (rw [hx, show m.toNat = 9 by omega]); (rw [hN2, show N2 = s.toNat by omega]; exact hMJ)⟩
                      · skip
                        refine g_iconst cx (pc2 := 108) dX12_mends_107 rfl ?_
                        refine g_istore cx (pc2 := 110) (lv2 := [(0, .ref 77), (1, .int (iI w)), (2, .int (iI h)), (3, .int (iI x)), (4, .int (iI m)), (5, .int (iI 0))]) rfl (Nat.le_of_ble_eq_true rfl) dX12_mends_108 rfl ?_
                        refine g_iconst cx (pc2 := 111) dX12_mends_110 rfl ?_
                        refine g_istore cx (pc2 := 113) (lv2 := [(0, .ref 77), (1, .int (iI w)), (2, .int (iI h)), (3, .int (iI x)), (4, .int (iI m)), (5, .int (iI 0)), (6, .int (iI 0))]) rfl (Nat.le_of_ble_eq_true rfl) dX12_mends_111 rfl ?_
                        have L113 : ∀ (fu : Nat) (l : Int) (g : Int), (0 ≤ l ∧ l ≤ 9) → ((g = 1 ∧ anX (U 96) w.toNat m.toNat l.toNat = true) ∨ (g = 0 ∧ anX (U 96) w.toNat m.toNat l.toNat = false)) → (9 - l).toNat ≤ fu → G X 113 [(0, .ref 77), (1, .int (iI w)), (2, .int (iI h)), (3, .int (iI x)), (4, .int (iI m)), (5, .int (iI g)), (6, .int (iI l))] [] U := by
                          intro fu
                          induction fu using Nat.strongRecOn with
                          | _ fu ih113 =>
                            intro l g hl hg hk113
                            have hst3 : anX (U 96) w.toNat m.toNat (l + 1).toNat = (anX (U 96) w.toNat m.toNat l.toNat || decide (U 96 (81 * w.toNat + 9 * m.toNat + l.toNat) < 1000)) := by rw [show (l + 1).toNat = l.toNat + 1 by omega, anX]
                            refine g_iload cx (pc2 := 115) 6 rfl dX12_mends_113 rfl ?_
                            refine g_bipush cx (pc2 := 117) ⟨by decide, by decide⟩ dX12_mends_115 rfl ?_
                            refine g_icmp_gt cx (pc2 := 120) (tgt := 157) ⟨(by first | assumption | omega), ⟨by decide, by decide⟩⟩ dX12_mends_117 (by decide) rfl (fun h_6 => ?_) (fun h_6 => ?_)
                            · skip
                              have L168 : ∀ (y : Int), (y = moX (U 96) w.toNat (m + 1).toNat) → G X 168 [(0, .ref 77), (1, .int (iI w)), (2, .int (iI h)), (4, .int (iI m))] [.int (iI y)] U := by
                                intro y hy
                                refine g_istore_n cx (pc2 := 169) (lv2 := [(0, .ref 77), (1, .int (iI w)), (2, .int (iI h)), (3, .int (iI y)), (4, .int (iI m))]) rfl (Nat.le_of_ble_eq_true rfl) dX12_mends_168 rfl ?_
                                refine g_iinc cx (pc2 := 172) 4 rfl (lv2 := [(0, .ref 77), (1, .int (iI w)), (2, .int (iI h)), (3, .int (iI y)), (4, .int (iI (m + 1)))]) rfl (Nat.le_of_ble_eq_true rfl) dX12_mends_169 rfl ?_
                                refine g_goto cx (tgt := 100) dX12_mends_172 (by decide) ?_
                                exact ih100 ((9 - (m + 1)).toNat) (by omega) (m + 1) y (by first | assumption | omega) (by exact hy) (Nat.le_refl _)
                              refine g_iload cx (pc2 := 159) 5 rfl dX12_mends_157 rfl ?_
                              refine g_if_eq cx (pc2 := 162) (tgt := 167) (by first | assumption | omega) dX12_mends_159 (by decide) rfl (fun h_7 => ?_) (fun h_7 => ?_)
                              · skip
                                refine g_iload_n cx (pc2 := 168) 3 rfl dX12_mends_167 rfl ?_
                                refine g_sub (lv2 := [(0, .ref 77), (1, .int (iI w)), (2, .int (iI h)), (4, .int (iI m))]) [0, 1, 2, 4] rfl ?_
                                exact L168 x (by rw [hst, show 9 = l.toNat by omega]; rcases hg with q | q <;> first | (exfalso; omega) | (rw [if_pos q.2]; done) | (rw [q.2, if_neg (by simp)]; done))
                              · skip
                                refine g_iload cx (pc2 := 164) 4 rfl dX12_mends_162 rfl ?_
                                refine g_goto cx (tgt := 168) dX12_mends_164 (by decide) ?_
                                refine g_sub (lv2 := [(0, .ref 77), (1, .int (iI w)), (2, .int (iI h)), (4, .int (iI m))]) [0, 1, 2, 4] rfl ?_
                                exact L168 m (by rw [hst, show 9 = l.toNat by omega]; rcases hg with q | q <;> first | (exfalso; omega) | (rw [if_pos q.2]; done) | (rw [q.2, if_neg (by simp)]; done))
                            · skip
                              have L149 : ∀ (g2 : Int), ((g2 = 1 ∧ anX (U 96) w.toNat m.toNat (l + 1).toNat = true) ∨ (g2 = 0 ∧ anX (U 96) w.toNat m.toNat (l + 1).toNat = false)) → G X 149 [(0, .ref 77), (1, .int (iI w)), (2, .int (iI h)), (3, .int (iI x)), (4, .int (iI m)), (6, .int (iI l))] [.int (iI g2)] U := by
                                intro g2 hg2
                                refine g_istore cx (pc2 := 151) (lv2 := [(0, .ref 77), (1, .int (iI w)), (2, .int (iI h)), (3, .int (iI x)), (4, .int (iI m)), (5, .int (iI g2)), (6, .int (iI l))]) rfl (Nat.le_of_ble_eq_true rfl) dX12_mends_149 rfl ?_
                                refine g_iinc cx (pc2 := 154) 6 rfl (lv2 := [(0, .ref 77), (1, .int (iI w)), (2, .int (iI h)), (3, .int (iI x)), (4, .int (iI m)), (5, .int (iI g2)), (6, .int (iI (l + 1)))]) rfl (Nat.le_of_ble_eq_true rfl) dX12_mends_151 rfl ?_
                                refine g_goto cx (tgt := 113) dX12_mends_154 (by decide) ?_
                                exact ih113 ((9 - (l + 1)).toNat) (by omega) (l + 1) g2 (by first | assumption | omega) (by exact hg2) (Nat.le_refl _)
                              refine g_iload cx (pc2 := 122) 5 rfl dX12_mends_120 rfl ?_
                              refine g_if_ne cx (pc2 := 125) (tgt := 144) (by first | assumption | omega) dX12_mends_122 (by decide) rfl (fun h_8 => ?_) (fun h_8 => ?_)
                              · skip
                                refine g_iconst cx (pc2 := 145) dX12_mends_144 rfl ?_
                                refine g_goto cx (tgt := 149) dX12_mends_145 (by decide) ?_
                                refine g_sub (lv2 := [(0, .ref 77), (1, .int (iI w)), (2, .int (iI h)), (3, .int (iI x)), (4, .int (iI m)), (6, .int (iI l))]) [0, 1, 2, 3, 4, 6] rfl ?_
                                exact L149 1 (by rw [hst3]; first | (rcases hg with q | q; (exact Or.inl ⟨rfl, by rw [q.2]; rfl⟩); (exfalso; omega)) | (exact Or.inl ⟨rfl, by rw [decide_eq_true (by omega : U 96 (81 * w.toNat + 9 * m.toNat + l.toNat) < 1000), Bool.or_true]⟩) | (rcases hg with q | q; (exfalso; omega); (exact Or.inr ⟨rfl, by rw [q.2, decide_eq_false (by omega : ¬ U 96 (81 * w.toNat + 9 * m.toNat + l.toNat) < 1000)]; rfl⟩)))
                              · skip
                                have hvl := hMJ.2 (81 * w.toNat + 9 * m.toNat + l.toNat) (by omega)
                                refine g_aload_n cx (pc2 := 126) 0 rfl dX12_mends_125 rfl ?_
                                refine g_get cx (pc2 := 129) (ci := 12) (k0 := 77) (j := 32) (v := .ref 96) rfl iwX12 rfl (lt_lit hn (Nat.le_of_ble_eq_true rfl)) rfl (Nat.le_of_ble_eq_true rfl) kf_X12_65 rfl rfl dX12_mends_126 rfl ?_
                                refine g_iload_n cx (pc2 := 130) 1 rfl dX12_mends_129 rfl ?_
                                refine g_iload cx (pc2 := 132) 4 rfl dX12_mends_130 rfl ?_
                                refine g_iload cx (pc2 := 134) 6 rfl dX12_mends_132 rfl ?_
                                refine g_callS cx (pc2 := 137) (st := [.ref 96]) (As := [.int (iI w), .int (iI m), .int (iI l)]) (c_X12_spot (M := U) hn w m l) wM_X12_spot wS_X12_spot kl_X12_294 ⟨rfl, rfl, Nat.le_of_ble_eq_true rfl, Nat.le_of_ble_eq_true rfl⟩ (Nat.le_of_ble_eq_true rfl) cs rfl rfl dX12_mends_134 rfl ?_
                                rintro _ _ ⟨rfl, rfl⟩
                                refine g_iald cx (pc2 := 138) (k0 := 96) rfl (lt_lit hn (Nat.le_of_ble_eq_true rfl)) (by first | assumption | omega) (by first | assumption | omega) (Nat.le_of_ble_eq_true rfl) dX12_mends_137 rfl ?_
                                refine g_rwi (y := iI (U 96 ((81 * w + 9 * m + l).toNat))) (congrArg iI (by simp [stM])) ?_
                                refine g_rwi (y := iI (U 96 (81 * w.toNat + 9 * m.toNat + l.toNat))) (congrArg iI (by rw [show (81 * w + 9 * m + l).toNat = 81 * w.toNat + 9 * m.toNat + l.toNat by omega])) ?_
                                refine g_sipush cx (pc2 := 141) ⟨by decide, by decide⟩ dX12_mends_138 rfl ?_
                                refine g_icmp_ge cx (pc2 := 144) (tgt := 148) ⟨(by first | assumption | omega), ⟨by decide, by decide⟩⟩ dX12_mends_141 (by decide) rfl (fun h_9 => ?_) (fun h_9 => ?_)
                                · skip
                                  refine g_iconst cx (pc2 := 149) dX12_mends_148 rfl ?_
                                  refine g_sub (lv2 := [(0, .ref 77), (1, .int (iI w)), (2, .int (iI h)), (3, .int (iI x)), (4, .int (iI m)), (6, .int (iI l))]) [0, 1, 2, 3, 4, 6] rfl ?_
                                  exact L149 0 (by rw [hst3]; first | (rcases hg with q | q; (exact Or.inl ⟨rfl, by rw [q.2]; rfl⟩); (exfalso; omega)) | (exact Or.inl ⟨rfl, by rw [decide_eq_true (by omega : U 96 (81 * w.toNat + 9 * m.toNat + l.toNat) < 1000), Bool.or_true]⟩) | (rcases hg with q | q; (exfalso; omega); (exact Or.inr ⟨rfl, by rw [q.2, decide_eq_false (by omega : ¬ U 96 (81 * w.toNat + 9 * m.toNat + l.toNat) < 1000)]; rfl⟩)))
                                · skip
                                  refine g_iconst cx (pc2 := 145) dX12_mends_144 rfl ?_
                                  refine g_goto cx (tgt := 149) dX12_mends_145 (by decide) ?_
                                  refine g_sub (lv2 := [(0, .ref 77), (1, .int (iI w)), (2, .int (iI h)), (3, .int (iI x)), (4, .int (iI m)), (6, .int (iI l))]) [0, 1, 2, 3, 4, 6] rfl ?_
                                  exact L149 1 (by rw [hst3]; first | (rcases hg with q | q; (exact Or.inl ⟨rfl, by rw [q.2]; rfl⟩); (exfalso; omega)) | (exact Or.inl ⟨rfl, by rw [decide_eq_true (by omega : U 96 (81 * w.toNat + 9 * m.toNat + l.toNat) < 1000), Bool.or_true]⟩) | (rcases hg with q | q; (exfalso; omega); (exact Or.inr ⟨rfl, by rw [q.2, decide_eq_false (by omega : ¬ U 96 (81 * w.toNat + 9 * m.toNat + l.toNat) < 1000)]; rfl⟩)))
                        exact L113 _ 0 0 (by first | assumption | omega) (by exact Or.inr ⟨rfl, rfl⟩) (Nat.le_refl _)
                  exact L100 _ 0 (-9) (by first | assumption | omega) (by rfl) (Nat.le_refl _)
                · skip
                  refine g_iconst cx (pc2 := 57) dX12_mends_56 rfl ?_
                  refine g_istore cx (pc2 := 59) (lv2 := [(0, .ref 77), (1, .int (iI w)), (2, .int (iI h)), (3, .int (iI s)), (4, .int (iI 0))]) rfl (Nat.le_of_ble_eq_true rfl) dX12_mends_57 rfl ?_
                  have L59 : ∀ (fu : Nat) (m : Int) (W : Mm), (0 ≤ m ∧ m ≤ 9) → (∀ a, a ≠ 96 → W a = M a) → (MJ (jbR M) (M 77 12).toNat (sP M) (M 84 h.toNat) w.toNat (W 96) s.toNat m.toNat) → (9 - m).toNat ≤ fu → G X 59 [(0, .ref 77), (1, .int (iI w)), (2, .int (iI h)), (3, .int (iI s)), (4, .int (iI m))] [] W := by
                    intro fu
                    induction fu using Nat.strongRecOn with
                    | _ fu ih59 =>
                      intro m W hm hW hMJ2 hk59
                      have w12 : W 77 12 = M 77 12 := by rw [hW 77 (by decide)]
                      have hVW : RV W := hV.of (hW 84 (by decide)) (hW 85 (by decide)) (hW 86 (by decide)) (by rw [hW 77 (by decide)]) (by rw [hW 77 (by decide)]) (by rw [hW 77 (by decide)])
                      have wJ : jbR W = jbR M := jbR_off (hW 84 (by decide)) (hW 85 (by decide))
                      have wS : sP W = sP M := by unfold sP; rw [hW 84 (by decide), hW 77 (by decide)]
                      have w84 := hW 84 (by decide)
                      refine g_iload cx (pc2 := 61) 4 rfl dX12_mends_59 rfl ?_
                      refine g_bipush cx (pc2 := 63) ⟨by decide, by decide⟩ dX12_mends_61 rfl ?_
                      refine g_icmp_gt cx (pc2 := 66) (tgt := 88) ⟨(by first | assumption | omega), ⟨by decide, by decide⟩⟩ dX12_mends_63 (by decide) rfl (fun h_10 => ?_) (fun h_10 => ?_)
                      · skip
                        refine g_iinc cx (pc2 := 91) 3 rfl (lv2 := [(0, .ref 77), (1, .int (iI w)), (2, .int (iI h)), (3, .int (iI (s + 1))), (4, .int (iI m))]) rfl (Nat.le_of_ble_eq_true rfl) dX12_mends_88 rfl ?_
                        refine g_goto cx (tgt := 48) dX12_mends_91 (by decide) ?_
                        refine g_sub (lv2 := [(0, .ref 77), (1, .int (iI w)), (2, .int (iI h)), (3, .int (iI (s + 1)))]) [0, 1, 2, 3] rfl ?_
                        exact ih48 (((N2 : Int) - (s + 1)).toNat) (by omega) (s + 1) W (by first | assumption | omega) (by exact hW) (by rw [show (s + 1).toNat = s.toNat + 1 by omega]; exact MJ_next hMJ2 (by omega)) (Nat.le_refl _)
                      · skip
                        refine g_iload_n cx (pc2 := 67) 3 rfl dX12_mends_66 rfl ?_
                        refine g_iload_n cx (pc2 := 68) 1 rfl dX12_mends_67 rfl ?_
                        refine g_iconst cx (pc2 := 69) dX12_mends_68 rfl ?_
                        refine g_ixor cx (pc2 := 70) dX12_mends_69 rfl ?_
                        refine g_iand cx (pc2 := 71) dX12_mends_70 rfl ?_
                        refine g_rwi (y := iI ((ndN s.toNat w.toNat : Nat) : Int)) (nd_iI (by omega) (by omega)) ?_
                        refine g_if_ne cx (pc2 := 74) (tgt := 88) (by first | assumption | omega) dX12_mends_71 (by decide) rfl (fun h_11 => ?_) (fun h_11 => ?_)
                        · skip
                          refine g_iinc cx (pc2 := 91) 3 rfl (lv2 := [(0, .ref 77), (1, .int (iI w)), (2, .int (iI h)), (3, .int (iI (s + 1))), (4, .int (iI m))]) rfl (Nat.le_of_ble_eq_true rfl) dX12_mends_88 rfl ?_
                          refine g_goto cx (tgt := 48) dX12_mends_91 (by decide) ?_
                          refine g_sub (lv2 := [(0, .ref 77), (1, .int (iI w)), (2, .int (iI h)), (3, .int (iI (s + 1)))]) [0, 1, 2, 3] rfl ?_
                          exact ih48 (((N2 : Int) - (s + 1)).toNat) (by omega) (s + 1) W (by first | assumption | omega) (by exact hW) (by rw [show (s + 1).toNat = s.toNat + 1 by omega]; exact MJ_next hMJ2 (by omega)) (Nat.le_refl _)
                        · skip
                          refine g_aload_n cx (pc2 := 75) 0 rfl dX12_mends_74 rfl ?_
                          refine g_iload_n cx (pc2 := 76) 3 rfl dX12_mends_75 rfl ?_
                          refine g_iload cx (pc2 := 78) 4 rfl dX12_mends_76 rfl ?_
                          refine g_iload_n cx (pc2 := 79) 2 rfl dX12_mends_78 rfl ?_
                          refine g_callV cx (pc2 := 82) (st := []) (As := [.int (iI s), .int (iI m), .int (iI h)]) (k0 := 77) (ci := 12) (c_X12_layMended (M := W) hn (by first | exact hVW | exact hVU | exact hV) s m h (by first | (unfold SX; rw [w12]; omega) | assumption | omega) (by omega) (by first | assumption | omega) (by intro l hl; rw [hMJ2.1 s.toNat m.toNat l (by omega) (by omega) hl, if_neg (by omega)]) (by intro j hj; exact hMJ2.2 j (by omega))) wM_X12_layMended wV_X12_layMended kl_X12_290 rfl (lt_lit hn (Nat.le_of_ble_eq_true rfl)) rfl ⟨rfl, rfl, Nat.le_of_ble_eq_true rfl, Nat.le_of_ble_eq_true rfl⟩ (Nat.le_of_ble_eq_true rfl) cs rfl rfl dX12_mends_79 rfl ?_
                          rintro _ M_12 ⟨rfl, h_12⟩
                          have hLM := h_12
                          refine g_iinc cx (pc2 := 85) 4 rfl (lv2 := [(0, .ref 77), (1, .int (iI w)), (2, .int (iI h)), (3, .int (iI s)), (4, .int (iI (m + 1)))]) rfl (Nat.le_of_ble_eq_true rfl) dX12_mends_82 rfl ?_
                          refine g_goto cx (tgt := 59) dX12_mends_85 (by decide) ?_
                          exact ih59 ((9 - (m + 1)).toNat) (by omega) (m + 1) M_12 (by first | assumption | omega) (by intro a ha; rw [hLM.1 a ha]; exact hW a ha) (by rw [show (m + 1).toNat = m.toNat + 1 by omega]; refine MJ_step hJo hsp hph (by omega) (by omega) (by omega) hMJ2 (fun l hl => ?_) hLM.2.2; (rw [hLM.2.1 l hl, wJ, wS, w84, w12]; try rfl)) (Nat.le_refl _)
                  exact L59 _ 0 U (by first | assumption | omega) (by exact hU) (by exact hMJ) (Nat.le_refl _)
            exact L48 _ 0 (fiP M k) (by first | assumption | omega) (by intro a ha; funext b; unfold fiP; rw [if_neg (fun q => ha q.1)]) (by rw [show k = 81 * (N2 : Int) by omega]; refine ⟨fun t k2 l ht hk2 hl => ?_, fun j hj => ?_⟩; (rw [hN2] at ht; show fiP M _ 96 _ = _; unfold fiP; rw [if_pos ⟨rfl, by omega⟩, if_neg (by omega)]); (rw [hN2] at hj; show exV (fiP M _ 96 j); unfold fiP; rw [if_pos ⟨rfl, by omega⟩]; exact Or.inl rfl)) (Nat.le_refl _)
          · skip
            refine g_aload_n cx (pc2 := 32) 0 rfl dX12_mends_31 rfl ?_
            refine g_get cx (pc2 := 35) (ci := 12) (k0 := 77) (j := 32) (v := .ref 96) rfl iwX12 rfl (lt_lit hn (Nat.le_of_ble_eq_true rfl)) rfl (Nat.le_of_ble_eq_true rfl) kf_X12_65 rfl rfl dX12_mends_32 rfl ?_
            refine g_iload_n cx (pc2 := 36) 3 rfl dX12_mends_35 rfl ?_
            refine g_sipush cx (pc2 := 39) ⟨by decide, by decide⟩ dX12_mends_36 rfl ?_
            refine g_iast cx (pc2 := 40) (k0 := 96) rfl (lt_lit hn (Nat.le_of_ble_eq_true rfl)) (by first | assumption | omega) (by first | assumption | omega) (Nat.le_of_ble_eq_true rfl) dX12_mends_39 rfl ?_
            refine g_iinc cx (pc2 := 43) 3 rfl (lv2 := [(0, .ref 77), (1, .int (iI w)), (2, .int (iI h)), (3, .int (iI (k + 1)))]) rfl (Nat.le_of_ble_eq_true rfl) dX12_mends_40 rfl ?_
            refine g_goto cx (tgt := 20) dX12_mends_43 (by decide) ?_
            refine g_M (M2 := (fiP M (k + 1))) (by exact fiP_s hk.1) ?_
            exact ih20 ((81 * (N2 : Int) - (k + 1)).toNat) (by omega) (k + 1) (by first | assumption | omega) (Nat.le_refl _)
      refine g_M (M2 := (fiP M 0)) (by exact fiP_0 M) ?_
      exact L20 _ 0 (by first | assumption | omega) (Nat.le_refl _)
    · skip
      refine g_iconst cx (pc2 := 17) dX12_mends_16 rfl ?_
      exact g_iret cx qx dX12_mends_17 ⟨_, rfl, by exact Or.inl ⟨by first | exact Or.inl (by assumption) | exact Or.inr (by assumption), rfl, rfl⟩⟩
