/-- the reference reads: place q, number v -/
def xm (M : Mm) (q v : Int) : Mm := stM (stM M 77 16 q) 77 17 v
theorem xm_xm (M : Mm) (q v r w : Int) : xm (xm M q v) r w = xm M r w := by
  funext a b
  unfold xm stM
  by_cases h : a = 77
  · subst h
    by_cases h1 : b = 17
    · subst h1; simp
    · by_cases h2 : b = 16
      · subst h2; simp
      · simp [h1, h2]
  · simp [h]
theorem xm_p (M : Mm) (q : Int) : stM M 77 16 q = xm M q (M 77 17) := by
  funext a b
  unfold xm stM
  by_cases h1 : a = 77 ∧ b = 17
  · rw [if_pos h1, if_neg (by omega), h1.1, h1.2]
  · rw [if_neg h1]
theorem xm_st (M : Mm) (q v w : Int) : stM (xm M q v) 77 16 w = xm M w v := by rw [xm_p, xm_xm]; rfl
theorem xm_sw (M : Mm) (q v : Int) : stM (stM M 77 17 v) 77 16 q = xm M q v := by
  funext a b
  unfold xm stM
  by_cases h1 : a = 77 ∧ b = 17
  · rw [if_neg (by omega), if_pos h1, if_pos h1]
  · rw [if_neg h1, if_neg h1]
theorem xm_off (M : Mm) (q v : Int) {a : Nat} (h : a ≠ 77) : xm M q v a = M a := by unfold xm; rw [stM_off h, stM_off h]
theorem xm_77 (M : Mm) (q v : Int) {b : Nat} (h : b < 16 ∨ 17 < b) : xm M q v 77 b = M 77 b := by unfold xm; rw [stM_ne _ _ (Or.inr (by omega)), stM_ne _ _ (Or.inr (by omega))]
/-- a text whose signs are c -/
abbrev TY (M : Mm) (t : Int) (c : Int → Int) : Prop := (∀ i : Int, 0 ≤ i → i < 1000 → btA M t i = c i) ∧ (-1 ≤ M 82 t.toNat ∧ M 82 t.toNat ≤ 120) ∧ ∀ i, -128 ≤ c i ∧ c i ≤ 127
theorem TY_of {M M2 : Mm} {t : Int} {c : Int → Int} (h : TY M t c) (h1 : M2 82 = M 82) (h2 : M2 83 = M 83) : TY M2 t c := by
  refine ⟨fun i h3 h4 => ?_, ?_, h.2.2⟩
  · rw [← h.1 i h3 h4]
    unfold btA
    rw [h1, h2]
  · rw [h1]; exact h.2.1
theorem TY_xm {M : Mm} {t : Int} {c : Int → Int} (h : TY M t c) (q v : Int) : TY (xm M q v) t c := TY_of h (xm_off _ _ _ (by decide)) (xm_off _ _ _ (by decide))
def sgX (c : Int → Int) (T : Mm) (b : Int) : Mm := xm T (if c (T 77 16) = b then T 77 16 + 1 else T 77 16) (T 77 17)
theorem sgX_t {c : Int → Int} {M : Mm} {q v b : Int} (h : c q = b) : sgX c (xm M q v) b = xm M (q + 1) v := by
  unfold sgX
  rw [show xm M q v 77 16 = q from rfl, show xm M q v 77 17 = v from rfl, if_pos h, xm_xm]
theorem sgX_f {c : Int → Int} {M : Mm} {q v b : Int} (h : ¬ c q = b) : sgX c (xm M q v) b = xm M q v := by
  unfold sgX
  rw [show xm M q v 77 16 = q from rfl, show xm M q v 77 17 = v from rfl, if_neg h, xm_xm]
def nuV (c : Int → Int) (p : Int) : Int := if fgH (c p) = -9 then 0 else rn0 c p
abbrev nuB (c : Int → Int) (p lo hi : Int) : Prop := ¬ fgH (c p) = -9 ∧ lo ≤ rn0 c p ∧ rn0 c p ≤ hi
def nuX (c : Int → Int) (T : Mm) : Mm := xm T (rnP c (T 77 16)) (nuV c (T 77 16))
theorem nuX_e (c : Int → Int) (M : Mm) (q v : Int) : nuX c (xm M q v) = xm M (rnP c q) (nuV c q) := by
  unfold nuX
  rw [show xm M q v 77 16 = q from rfl, xm_xm]
theorem rn0_b (c : Int → Int) {p : Int} (h : ¬ fgH (c p) = -9) : 0 ≤ rn0 c p ∧ rn0 c p ≤ 99 := by
  have h1 := fgH_b (c p)
  have h2 := fgH_b (c (p + 1))
  unfold rn0
  split <;> omega
theorem nuV_b (c : Int → Int) (p : Int) : 0 ≤ nuV c p ∧ nuV c p ≤ 99 := by
  unfold nuV
  split
  · omega
  · exact rn0_b c (by assumption)
theorem nu_iff (c : Int → Int) (p q : Int) : nuB c p 0 q ↔ ¬ rnV c p q = -9 := by
  unfold nuB rnV
  by_cases h : fgH (c p) = -9
  · rw [if_pos h]; constructor
    · intro z; exact absurd h z.1
    · intro z; exact absurd rfl z
  · rw [if_neg h]
    have := rn0_b c h
    by_cases h2 : rn0 c p ≤ q
    · rw [if_pos h2]; constructor
      · intro _; omega
      · intro _; exact ⟨h, by omega, h2⟩
    · rw [if_neg h2]; constructor
      · intro z; exact absurd z.2.2 h2
      · intro z; exact absurd rfl z
theorem nu_val {c : Int → Int} {p lo q : Int} (h : nuB c p lo q) : nuV c p = rnV c p q := by
  unfold nuV rnV
  rw [if_neg h.1, if_neg h.1, if_pos h.2.2]
theorem nu_iff2 (c : Int → Int) {p a q : Int} (ha : 0 ≤ a) : nuB c p a q ↔ ¬ (rnV c p q = -9 ∨ rnV c p q < a) := by
  by_cases h : nuB c p 0 q
  · have e := nu_val h
    have h3 := (nu_iff c p q).mp h
    have e2 : rnV c p q = rn0 c p := by rw [← e]; unfold nuV; rw [if_neg h.1]
    rw [e2] at h3 ⊢
    constructor
    · intro z; omega
    · intro z; exact ⟨h.1, by omega, h.2.2⟩
  · have h3 : rnV c p q = -9 := by
      rcases Decidable.em (rnV c p q = -9) with z | z
      · exact z
      · exact absurd ((nu_iff c p q).mpr z) h
    constructor
    · intro z; exact absurd ⟨z.1, by have := rn0_b c z.1; omega, z.2.2⟩ h
    · intro z; exact absurd (Or.inl h3) z
abbrev dg (z : Int) : Prop := 48 ≤ z ∧ z ≤ 57
theorem fg_y {z : Int} (h : dg z) : fgH z = z - 48 := by unfold fgH; rw [if_pos h]
theorem fg_n {z : Int} (h : ¬ dg z) : fgH z = -9 := by unfold fgH; rw [if_neg h]
theorem nuX_0 {c : Int → Int} {M : Mm} (h : ¬ dg (c (M 77 16))) : nuX c M = stM M 77 17 0 := by
  unfold nuX nuV rnP
  rw [fg_n h, if_pos rfl, if_pos rfl]
  unfold xm
  rw [stM_self]
theorem nuX_1 {c : Int → Int} {M : Mm} (h : dg (c (M 77 16))) (h2 : ¬ dg (c (M 77 16 + 1))) : nuX c M = stM (stM M 77 16 (M 77 16 + 1)) 77 17 (10 * 0 + c (M 77 16) - 48) := by
  unfold nuX nuV rnP rn0
  rw [fg_y h, fg_n h2, if_neg (by omega), if_pos rfl, if_neg (by omega), if_pos rfl]
  unfold xm
  rw [show 10 * 0 + c (M 77 16) - 48 = c (M 77 16) - 48 by omega]
theorem nuX_2 {c : Int → Int} {M : Mm} (h : dg (c (M 77 16))) (h2 : dg (c (M 77 16 + 1))) : nuX c M = stM (stM (stM M 77 16 (M 77 16 + 1)) 77 16 (M 77 16 + 1 + 1)) 77 17 (10 * (10 * 0 + c (M 77 16) - 48) + c (M 77 16 + 1) - 48) := by
  unfold nuX nuV rnP rn0
  rw [fg_y h, fg_y h2, if_neg (by omega), if_neg (by omega), if_neg (by omega), if_neg (by omega)]
  unfold xm
  rw [stM_ss, show M 77 16 + 1 + 1 = M 77 16 + 2 by omega, show 10 * (10 * 0 + c (M 77 16) - 48) + c (M 77 16 + 1) - 48 = 10 * (c (M 77 16) - 48) + (c (M 77 16 + 1) - 48) by omega]
theorem nuB_0 {c : Int → Int} {p lo hi : Int} (h : ¬ dg (c p)) : ¬ nuB c p lo hi := fun q => q.1 (fg_n h)
theorem nuB_1 {c : Int → Int} {p lo hi : Int} (h : dg (c p)) (h2 : ¬ dg (c (p + 1))) : nuB c p lo hi ↔ lo ≤ 10 * 0 + c p - 48 ∧ 10 * 0 + c p - 48 ≤ hi := by
  unfold nuB rn0
  rw [fg_y h, fg_n h2, if_pos rfl]
  omega
theorem nuB_2 {c : Int → Int} {p lo hi : Int} (h : dg (c p)) (h2 : dg (c (p + 1))) : nuB c p lo hi ↔ lo ≤ 10 * (10 * 0 + c p - 48) + c (p + 1) - 48 ∧ 10 * (10 * 0 + c p - 48) + c (p + 1) - 48 ≤ hi := by
  unfold nuB rn0
  rw [fg_y h, fg_y h2, if_neg (by omega)]
  omega
abbrev fiB (c : Int → Int) (p lo hi : Int) : Prop := lo ≤ c p - 48 ∧ c p - 48 ≤ hi
def fiX (c : Int → Int) (T : Mm) (lo hi : Int) : Mm := xm T (if fiB c (T 77 16) lo hi then T 77 16 + 1 else T 77 16) (c (T 77 16) - 48)
theorem fiX_t {c : Int → Int} {M : Mm} {q v lo hi : Int} (h : fiB c q lo hi) : fiX c (xm M q v) lo hi = xm M (q + 1) (c q - 48) := by
  unfold fiX
  rw [show xm M q v 77 16 = q from rfl, if_pos h, xm_xm]
theorem fiX_f {c : Int → Int} {M : Mm} {q v lo hi : Int} (h : ¬ fiB c q lo hi) : fiX c (xm M q v) lo hi = xm M q (c q - 48) := by
  unfold fiX
  rw [show xm M q v 77 16 = q from rfl, if_neg h, xm_xm]
theorem fi_iff (c : Int → Int) {p q : Int} (hq : q ≤ 9) : fiB c p 1 q ↔ ¬ rfV c p q = -9 := by
  unfold fiB rfV fgH
  by_cases h : 48 ≤ c p ∧ c p ≤ 57
  · rw [if_pos h]
    by_cases h2 : 1 ≤ c p - 48 ∧ c p - 48 ≤ q
    · rw [if_pos h2]; omega
    · rw [if_neg h2]; omega
  · rw [if_neg h, if_neg (by omega)]; omega
theorem fi_val {c : Int → Int} {p q : Int} (hq : q ≤ 9) (h : fiB c p 1 q) : c p - 48 = rfV c p q := by
  unfold fiB at h
  unfold rfV fgH
  rw [if_pos (show 48 ≤ c p ∧ c p ≤ 57 by omega), if_pos h]
def xanM (T : Mm) (d : Nd6) : Mm := stM (stM (stM (stM (stM (stM (stM T 88 (6 * T 77 19).toNat d.1) 88 (6 * T 77 19 + 1).toNat d.2.1) 88 (6 * T 77 19 + 2).toNat d.2.2.1) 88 (6 * T 77 19 + 3).toNat d.2.2.2.1) 88 (6 * T 77 19 + 4).toNat d.2.2.2.2.1) 88 (6 * T 77 19 + 5).toNat d.2.2.2.2.2) 77 19 (T 77 19 + 1)
def rnX (c : Int → Int) (M : Mm) (z : Int) (M2 : Mm) : Prop := match pNd c (M 77 16) (M 77 18) (M 77 19) with
  | (q, none) => z = 0 ∧ ∃ v, M2 = xm M q v
  | (q, some d) => z = 1 ∧ ∃ v, M2 = xanM (xm M q v) d
theorem rnX_n {c : Int → Int} {M : Mm} {q v : Int} (e : pNd c (M 77 16) (M 77 18) (M 77 19) = (q, none)) : rnX c M 0 (xm M q v) := by
  unfold rnX
  rw [e]
  exact ⟨rfl, v, rfl⟩
theorem rnX_s {c : Int → Int} {M M2 : Mm} {q v : Int} {d : Nd6} (e : pNd c (M 77 16) (M 77 18) (M 77 19) = (q, some d)) (h : M2 = xanM (xm M q v) d) : rnX c M 1 M2 := by
  unfold rnX
  rw [e]
  exact ⟨rfl, v, h⟩
def xadH (M : Mm) (v : Int) : Mm := stM (stM M 87 (M 77 18).toNat v) 77 18 (M 77 18 + 1)
def rhX (c : Int → Int) (M : Mm) (z : Int) (M2 : Mm) : Prop := (M 77 18 = 8 ∧ z = 0 ∧ M2 = M) ∨ (¬ M 77 18 = 8 ∧ rnV c (M 77 16 + 1) 15 = -9 ∧ z = 0 ∧ ∃ v, M2 = xm M (rnP c (M 77 16 + 1)) v) ∨ (¬ M 77 18 = 8 ∧ ¬ rnV c (M 77 16 + 1) 15 = -9 ∧ z = 1 ∧ ∃ v, M2 = xadH (xm M (rnP c (M 77 16 + 1)) v) (rnV c (M 77 16 + 1) 15))
set_option maxHeartbeats 4000000 in
set_option maxRecDepth 100000 in
theorem c_X12_sign {n : Nat} (hn : NN n) {M : Mm} (t b : Int) (ht : T4 t) {c : Int → Int} (hy : TY M t c) (hp : 0 ≤ M 77 16 ∧ M 77 16 ≤ 900) (hb : ir b) : CT yX12_sign cX12_sign 4 (some .boolean) ({ frames := 1, cells := 0, slots := 0, locals := 22 }) n [.ref 77, .int (iI t), .int (iI b)] M (rI (b2 (c (M 77 16) = b)) (sgX c M b)) := by
  refine CT.of (lv0 := [(0, .ref 77), (1, .int (iI t)), (2, .int (iI b))]) (by decide +kernel) hn (fun _ => rfl) (fun _ => Nat.le_of_ble_eq_true rfl) (fun X cx cs qx => ?_)
  have cx : Cx X cX12_sign RX12 ({ frames := 1, cells := 0, slots := 0, locals := 22 }) 4 n := cx
  have hcb := hy.2.2 (M 77 16)
  refine g_aload_n cx (pc2 := 1) 0 rfl dX12_sign_0 rfl ?_
  refine g_iload_n cx (pc2 := 2) 1 rfl dX12_sign_1 rfl ?_
  refine g_aload_n cx (pc2 := 3) 0 rfl dX12_sign_2 rfl ?_
  refine g_get cx (pc2 := 6) (ci := 12) (k0 := 77) (j := 16) (v := .int (iI (M 77 16))) rfl iwX12 rfl (lt_lit hn (Nat.le_of_ble_eq_true rfl)) rfl (Nat.le_of_ble_eq_true rfl) kf_X12_125 rfl rfl dX12_sign_3 rfl ?_
  refine g_callV cx (pc2 := 9) (st := []) (As := [.int (iI t), .int (iI (M 77 16))]) (k0 := 77) (ci := 12) (c_X12_byteAt (M := M) hn t (M 77 16) (by exact ht) (by exact hy.2.1) (by first | omega | assumption)) wM_X12_byteAt wV_X12_byteAt kl_X12_128 rfl (lt_lit hn (Nat.le_of_ble_eq_true rfl)) rfl ⟨rfl, rfl, Nat.le_of_ble_eq_true rfl, Nat.le_of_ble_eq_true rfl⟩ (Nat.le_of_ble_eq_true rfl) cs rfl rfl dX12_sign_6 rfl ?_
  rintro _ _ ⟨rfl, rfl⟩
  refine g_rwi (y := iI (c (M 77 16))) (congrArg iI (hy.1 _ (by omega) (by omega))) ?_
  refine g_iload_n cx (pc2 := 10) 2 rfl dX12_sign_9 rfl ?_
  refine g_icmp_ne cx (pc2 := 13) (tgt := 17) ⟨(by first | assumption | omega), (by first | assumption | omega)⟩ dX12_sign_10 (by decide) rfl (fun h_1 => ?_) (fun h_1 => ?_)
  · skip
    refine g_iconst cx (pc2 := 18) dX12_sign_17 rfl ?_
    refine g_istore_n cx (pc2 := 19) (lv2 := [(0, .ref 77), (1, .int (iI t)), (2, .int (iI b)), (3, .int (iI 0))]) rfl (Nat.le_of_ble_eq_true rfl) dX12_sign_18 rfl ?_
    refine g_aload_n cx (pc2 := 20) 0 rfl dX12_sign_19 rfl ?_
    refine g_dup cx (pc2 := 21) rfl dX12_sign_20 rfl ?_
    refine g_get cx (pc2 := 24) (ci := 12) (k0 := 77) (j := 16) (v := .int (iI (M 77 16))) rfl iwX12 rfl (lt_lit hn (Nat.le_of_ble_eq_true rfl)) rfl (Nat.le_of_ble_eq_true rfl) kf_X12_125 rfl rfl dX12_sign_21 rfl ?_
    refine g_iload_n cx (pc2 := 25) 3 rfl dX12_sign_24 rfl ?_
    refine g_if_eq cx (pc2 := 28) (tgt := 32) ⟨by decide, by decide⟩ dX12_sign_25 (by decide) rfl (fun h_2 => ?_) (fun h_2 => ?_)
    · skip
      refine g_iconst cx (pc2 := 33) dX12_sign_32 rfl ?_
      refine g_iadd cx (pc2 := 34) dX12_sign_33 rfl ?_
      refine g_puti cx (pc2 := 37) (ci := 12) (k0 := 77) (j := 16) rfl iwX12 rfl (lt_lit hn (Nat.le_of_ble_eq_true rfl)) rfl (Nat.le_of_ble_eq_true rfl) kf_X12_125 rfl tyX12_ok nmX12 rfl rfl dX12_sign_34 rfl ?_
      refine g_iload_n cx (pc2 := 38) 3 rfl dX12_sign_37 rfl ?_
      exact g_zret cx (Or.inl rfl) qx dX12_sign_38 ⟨rb_f (by first | exact Iff.rfl | omega), by unfold sgX; first | (rw [if_pos (by assumption), xm_p]; done) | (rw [if_neg (by assumption), xm_p, Int.add_zero]; done)⟩
    · skip
      omega
  · skip
    refine g_iconst cx (pc2 := 14) dX12_sign_13 rfl ?_
    refine g_goto cx (tgt := 18) dX12_sign_14 (by decide) ?_
    refine g_istore_n cx (pc2 := 19) (lv2 := [(0, .ref 77), (1, .int (iI t)), (2, .int (iI b)), (3, .int (iI 1))]) rfl (Nat.le_of_ble_eq_true rfl) dX12_sign_18 rfl ?_
    refine g_aload_n cx (pc2 := 20) 0 rfl dX12_sign_19 rfl ?_
    refine g_dup cx (pc2 := 21) rfl dX12_sign_20 rfl ?_
    refine g_get cx (pc2 := 24) (ci := 12) (k0 := 77) (j := 16) (v := .int (iI (M 77 16))) rfl iwX12 rfl (lt_lit hn (Nat.le_of_ble_eq_true rfl)) rfl (Nat.le_of_ble_eq_true rfl) kf_X12_125 rfl rfl dX12_sign_21 rfl ?_
    refine g_iload_n cx (pc2 := 25) 3 rfl dX12_sign_24 rfl ?_
    refine g_if_eq cx (pc2 := 28) (tgt := 32) ⟨by decide, by decide⟩ dX12_sign_25 (by decide) rfl (fun h_3 => ?_) (fun h_3 => ?_)
    · skip
      omega
    · skip
      refine g_iconst cx (pc2 := 29) dX12_sign_28 rfl ?_
      refine g_goto cx (tgt := 33) dX12_sign_29 (by decide) ?_
      refine g_iadd cx (pc2 := 34) dX12_sign_33 rfl ?_
      refine g_puti cx (pc2 := 37) (ci := 12) (k0 := 77) (j := 16) rfl iwX12 rfl (lt_lit hn (Nat.le_of_ble_eq_true rfl)) rfl (Nat.le_of_ble_eq_true rfl) kf_X12_125 rfl tyX12_ok nmX12 rfl rfl dX12_sign_34 rfl ?_
      refine g_iload_n cx (pc2 := 38) 3 rfl dX12_sign_37 rfl ?_
      exact g_zret cx (Or.inr rfl) qx dX12_sign_38 ⟨rb_t (by first | exact Iff.rfl | omega), by unfold sgX; first | (rw [if_pos (by assumption), xm_p]; done) | (rw [if_neg (by assumption), xm_p, Int.add_zero]; done)⟩
set_option maxHeartbeats 4000000 in
set_option maxRecDepth 100000 in
theorem c_X12_figure {n : Nat} (hn : NN n) {M : Mm} (t lo hi : Int) (ht : T4 t) {c : Int → Int} (hy : TY M t c) (hp : 0 ≤ M 77 16 ∧ M 77 16 ≤ 900) (hlo : ir lo) (hhi : ir hi) : CT yX12_figure cX12_figure 5 (some .boolean) ({ frames := 1, cells := 0, slots := 0, locals := 22 }) n [.ref 77, .int (iI t), .int (iI lo), .int (iI hi)] M (rI (b2 (fiB c (M 77 16) lo hi)) (fiX c M lo hi)) := by
  refine CT.of (lv0 := [(0, .ref 77), (1, .int (iI t)), (2, .int (iI lo)), (3, .int (iI hi))]) (by decide +kernel) hn (fun _ => rfl) (fun _ => Nat.le_of_ble_eq_true rfl) (fun X cx cs qx => ?_)
  have cx : Cx X cX12_figure RX12 ({ frames := 1, cells := 0, slots := 0, locals := 22 }) 5 n := cx
  have hcb := hy.2.2 (M 77 16)
  refine g_aload_n cx (pc2 := 1) 0 rfl dX12_figure_0 rfl ?_
  refine g_aload_n cx (pc2 := 2) 0 rfl dX12_figure_1 rfl ?_
  refine g_iload_n cx (pc2 := 3) 1 rfl dX12_figure_2 rfl ?_
  refine g_aload_n cx (pc2 := 4) 0 rfl dX12_figure_3 rfl ?_
  refine g_get cx (pc2 := 7) (ci := 12) (k0 := 77) (j := 16) (v := .int (iI (M 77 16))) rfl iwX12 rfl (lt_lit hn (Nat.le_of_ble_eq_true rfl)) rfl (Nat.le_of_ble_eq_true rfl) kf_X12_125 rfl rfl dX12_figure_4 rfl ?_
  refine g_callV cx (pc2 := 10) (st := [.ref 77]) (As := [.int (iI t), .int (iI (M 77 16))]) (k0 := 77) (ci := 12) (c_X12_byteAt (M := M) hn t (M 77 16) (by exact ht) (by exact hy.2.1) (by first | omega | assumption)) wM_X12_byteAt wV_X12_byteAt kl_X12_128 rfl (lt_lit hn (Nat.le_of_ble_eq_true rfl)) rfl ⟨rfl, rfl, Nat.le_of_ble_eq_true rfl, Nat.le_of_ble_eq_true rfl⟩ (Nat.le_of_ble_eq_true rfl) cs rfl rfl dX12_figure_7 rfl ?_
  rintro _ _ ⟨rfl, rfl⟩
  refine g_rwi (y := iI (c (M 77 16))) (congrArg iI (hy.1 _ (by omega) (by omega))) ?_
  refine g_bipush cx (pc2 := 12) ⟨by decide, by decide⟩ dX12_figure_10 rfl ?_
  refine g_isub cx (pc2 := 13) dX12_figure_12 rfl ?_
  refine g_puti cx (pc2 := 16) (ci := 12) (k0 := 77) (j := 17) rfl iwX12 rfl (lt_lit hn (Nat.le_of_ble_eq_true rfl)) rfl (Nat.le_of_ble_eq_true rfl) kf_X12_131 rfl tyX12_ok nmX12 rfl rfl dX12_figure_13 rfl ?_
  refine g_aload_n cx (pc2 := 17) 0 rfl dX12_figure_16 rfl ?_
  refine g_get cx (pc2 := 20) (ci := 12) (k0 := 77) (j := 17) (v := .int (iI ((c (M 77 16)) - 48))) rfl iwX12 rfl (lt_lit hn (Nat.le_of_ble_eq_true rfl)) rfl (Nat.le_of_ble_eq_true rfl) kf_X12_131 rfl (congrArg (fun q => Value.int (iI q)) (by simp [stM])) dX12_figure_17 rfl ?_
  refine g_iload_n cx (pc2 := 21) 2 rfl dX12_figure_20 rfl ?_
  refine g_iload_n cx (pc2 := 22) 3 rfl dX12_figure_21 rfl ?_
  refine g_callS cx (pc2 := 25) (st := []) (As := [.int (iI ((c (M 77 16)) - 48)), .int (iI lo), .int (iI hi)]) (c_X12_in (M := (stM M 77 17 ((c (M 77 16)) - 48))) hn ((c (M 77 16)) - 48) lo hi (by first | assumption | omega) (by first | assumption | omega) (by first | assumption | omega)) wM_X12_in wS_X12_in kl_X12_97 ⟨rfl, rfl, Nat.le_of_ble_eq_true rfl, Nat.le_of_ble_eq_true rfl⟩ (Nat.le_of_ble_eq_true rfl) cs rfl rfl dX12_figure_22 rfl ?_
  rintro _ _ ⟨rfl, rfl⟩
  refine g_istore cx (pc2 := 27) (lv2 := [(0, .ref 77), (1, .int (iI t)), (2, .int (iI lo)), (3, .int (iI hi)), (4, .int (iI (b2 (lo ≤ ((c (M 77 16)) - 48) ∧ ((c (M 77 16)) - 48) ≤ hi))))]) rfl (Nat.le_of_ble_eq_true rfl) dX12_figure_25 rfl ?_
  refine g_aload_n cx (pc2 := 28) 0 rfl dX12_figure_27 rfl ?_
  refine g_dup cx (pc2 := 29) rfl dX12_figure_28 rfl ?_
  refine g_get cx (pc2 := 32) (ci := 12) (k0 := 77) (j := 16) (v := .int (iI (M 77 16))) rfl iwX12 rfl (lt_lit hn (Nat.le_of_ble_eq_true rfl)) rfl (Nat.le_of_ble_eq_true rfl) kf_X12_125 rfl (congrArg (fun q => Value.int (iI q)) (by simp [stM])) dX12_figure_29 rfl ?_
  refine g_iload cx (pc2 := 34) 4 rfl dX12_figure_32 rfl ?_
  refine g_ifb_eq cx (pc2 := 37) (tgt := 41) dX12_figure_34 (by decide) rfl (fun h_1 => ?_) (fun h_1 => ?_)
  · skip
    refine g_iconst cx (pc2 := 42) dX12_figure_41 rfl ?_
    refine g_iadd cx (pc2 := 43) dX12_figure_42 rfl ?_
    refine g_puti cx (pc2 := 46) (ci := 12) (k0 := 77) (j := 16) rfl iwX12 rfl (lt_lit hn (Nat.le_of_ble_eq_true rfl)) rfl (Nat.le_of_ble_eq_true rfl) kf_X12_125 rfl tyX12_ok nmX12 rfl rfl dX12_figure_43 rfl ?_
    refine g_iload cx (pc2 := 48) 4 rfl dX12_figure_46 rfl ?_
    exact g_zret cx (b2_01 _) qx dX12_figure_48 ⟨rb_i (by first | exact Iff.rfl | omega), by rw [xm_sw]; unfold fiX; first | (rw [if_pos (by assumption)]; done) | (rw [if_neg (by assumption), Int.add_zero]; done)⟩
  · skip
    refine g_iconst cx (pc2 := 38) dX12_figure_37 rfl ?_
    refine g_goto cx (tgt := 42) dX12_figure_38 (by decide) ?_
    refine g_iadd cx (pc2 := 43) dX12_figure_42 rfl ?_
    refine g_puti cx (pc2 := 46) (ci := 12) (k0 := 77) (j := 16) rfl iwX12 rfl (lt_lit hn (Nat.le_of_ble_eq_true rfl)) rfl (Nat.le_of_ble_eq_true rfl) kf_X12_125 rfl tyX12_ok nmX12 rfl rfl dX12_figure_43 rfl ?_
    refine g_iload cx (pc2 := 48) 4 rfl dX12_figure_46 rfl ?_
    exact g_zret cx (b2_01 _) qx dX12_figure_48 ⟨rb_i (by first | exact Iff.rfl | omega), by rw [xm_sw]; unfold fiX; first | (rw [if_pos (by assumption)]; done) | (rw [if_neg (by assumption), Int.add_zero]; done)⟩
set_option maxHeartbeats 4000000 in
set_option maxRecDepth 100000 in
theorem c_X12_number {n : Nat} (hn : NN n) {M : Mm} (t lo hi : Int) (ht : T4 t) {c : Int → Int} (hy : TY M t c) (hp : 0 ≤ M 77 16 ∧ M 77 16 ≤ 800) (hlo : ir lo) (hhi : ir hi) : CT yX12_number cX12_number 6 (some .boolean) ({ frames := 1, cells := 0, slots := 0, locals := 22 }) n [.ref 77, .int (iI t), .int (iI lo), .int (iI hi)] M (rI (b2 (nuB c (M 77 16) lo hi)) (nuX c M)) := by
  refine CT.of (lv0 := [(0, .ref 77), (1, .int (iI t)), (2, .int (iI lo)), (3, .int (iI hi))]) (by decide +kernel) hn (fun _ => rfl) (fun _ => Nat.le_of_ble_eq_true rfl) (fun X cx cs qx => ?_)
  have cx : Cx X cX12_number RX12 ({ frames := 1, cells := 0, slots := 0, locals := 22 }) 6 n := cx
  have hcb := hy.2.2 (M 77 16)
  have hcb2 := hy.2.2 (M 77 16 + 1)
  refine g_iconst cx (pc2 := 1) dX12_number_0 rfl ?_
  refine g_istore cx (pc2 := 3) (lv2 := [(0, .ref 77), (1, .int (iI t)), (2, .int (iI lo)), (3, .int (iI hi)), (4, .int (iI 0))]) rfl (Nat.le_of_ble_eq_true rfl) dX12_number_1 rfl ?_
  refine g_iconst cx (pc2 := 4) dX12_number_3 rfl ?_
  refine g_istore cx (pc2 := 6) (lv2 := [(0, .ref 77), (1, .int (iI t)), (2, .int (iI lo)), (3, .int (iI hi)), (4, .int (iI 0)), (5, .int (iI 0))]) rfl (Nat.le_of_ble_eq_true rfl) dX12_number_4 rfl ?_
  refine g_iload cx (pc2 := 8) 4 rfl dX12_number_6 rfl ?_
  refine g_iconst cx (pc2 := 9) dX12_number_8 rfl ?_
  refine g_icmp_ge cx (pc2 := 12) (tgt := 67) ⟨⟨by decide, by decide⟩, ⟨by decide, by decide⟩⟩ dX12_number_9 (by decide) rfl (fun h_1 => ?_) (fun h_1 => ?_)
  · skip
    omega
  · skip
    refine g_aload_n cx (pc2 := 13) 0 rfl dX12_number_12 rfl ?_
    refine g_iload_n cx (pc2 := 14) 1 rfl dX12_number_13 rfl ?_
    refine g_aload_n cx (pc2 := 15) 0 rfl dX12_number_14 rfl ?_
    refine g_get cx (pc2 := 18) (ci := 12) (k0 := 77) (j := 16) (v := .int (iI (M 77 16))) rfl iwX12 rfl (lt_lit hn (Nat.le_of_ble_eq_true rfl)) rfl (Nat.le_of_ble_eq_true rfl) kf_X12_125 rfl rfl dX12_number_15 rfl ?_
    refine g_callV cx (pc2 := 21) (st := []) (As := [.int (iI t), .int (iI (M 77 16))]) (k0 := 77) (ci := 12) (c_X12_byteAt (M := M) hn t (M 77 16) (by exact ht) (by exact hy.2.1) (by first | omega | assumption)) wM_X12_byteAt wV_X12_byteAt kl_X12_128 rfl (lt_lit hn (Nat.le_of_ble_eq_true rfl)) rfl ⟨rfl, rfl, Nat.le_of_ble_eq_true rfl, Nat.le_of_ble_eq_true rfl⟩ (Nat.le_of_ble_eq_true rfl) cs rfl rfl dX12_number_18 rfl ?_
    rintro _ _ ⟨rfl, rfl⟩
    refine g_rwi (y := iI (c (M 77 16))) (congrArg iI (by first | exact hy.1 _ (by omega) (by omega) | exact (TY_of hy (stM_off (by decide)) (stM_off (by decide))).1 _ (by omega) (by omega))) ?_
    refine g_bipush cx (pc2 := 23) ⟨by decide, by decide⟩ dX12_number_21 rfl ?_
    refine g_bipush cx (pc2 := 25) ⟨by decide, by decide⟩ dX12_number_23 rfl ?_
    refine g_callS cx (pc2 := 28) (st := []) (As := [.int (iI (c (M 77 16))), .int (iI 48), .int (iI 57)]) (c_X12_in (M := M) hn (c (M 77 16)) 48 57 (by first | assumption | omega) (by first | assumption | omega) (by first | assumption | omega)) wM_X12_in wS_X12_in kl_X12_97 ⟨rfl, rfl, Nat.le_of_ble_eq_true rfl, Nat.le_of_ble_eq_true rfl⟩ (Nat.le_of_ble_eq_true rfl) cs rfl rfl dX12_number_25 rfl ?_
    rintro _ _ ⟨rfl, rfl⟩
    refine g_ifb_eq cx (pc2 := 31) (tgt := 67) dX12_number_28 (by decide) rfl (fun h_2 => ?_) (fun h_2 => ?_)
    · skip
      refine g_aload_n cx (pc2 := 68) 0 rfl dX12_number_67 rfl ?_
      refine g_iload cx (pc2 := 70) 5 rfl dX12_number_68 rfl ?_
      refine g_puti cx (pc2 := 73) (ci := 12) (k0 := 77) (j := 17) rfl iwX12 rfl (lt_lit hn (Nat.le_of_ble_eq_true rfl)) rfl (Nat.le_of_ble_eq_true rfl) kf_X12_131 rfl tyX12_ok nmX12 rfl rfl dX12_number_70 rfl ?_
      refine g_iload cx (pc2 := 75) 4 rfl dX12_number_73 rfl ?_
      refine g_if_le cx (pc2 := 78) (tgt := 92) ⟨by decide, by decide⟩ dX12_number_75 (by decide) rfl (fun h_3 => ?_) (fun h_3 => ?_)
      · skip
        refine g_iconst cx (pc2 := 93) dX12_number_92 rfl ?_
        exact g_zret cx (Or.inl rfl) qx dX12_number_93 ⟨rb_f (by first | exact nuB_0 (by assumption) | exact (nuB_1 (by assumption) (by assumption)).mpr (by assumption) | exact (nuB_2 (by assumption) (by assumption)).mpr (by assumption) | exact fun q => absurd ((nuB_1 (by assumption) (by assumption)).mp q) (by assumption) | exact fun q => absurd ((nuB_2 (by assumption) (by assumption)).mp q) (by assumption)), by first | exact nuX_0 (by assumption) | exact nuX_1 (by assumption) (by assumption) | exact nuX_2 (by assumption) (by assumption)⟩
      · skip
        omega
    · skip
      refine g_bipush cx (pc2 := 33) ⟨by decide, by decide⟩ dX12_number_31 rfl ?_
      refine g_iload cx (pc2 := 35) 5 rfl dX12_number_33 rfl ?_
      refine g_imul cx (pc2 := 36) dX12_number_35 rfl ?_
      refine g_aload_n cx (pc2 := 37) 0 rfl dX12_number_36 rfl ?_
      refine g_iload_n cx (pc2 := 38) 1 rfl dX12_number_37 rfl ?_
      refine g_aload_n cx (pc2 := 39) 0 rfl dX12_number_38 rfl ?_
      refine g_get cx (pc2 := 42) (ci := 12) (k0 := 77) (j := 16) (v := .int (iI (M 77 16))) rfl iwX12 rfl (lt_lit hn (Nat.le_of_ble_eq_true rfl)) rfl (Nat.le_of_ble_eq_true rfl) kf_X12_125 rfl rfl dX12_number_39 rfl ?_
      refine g_callV cx (pc2 := 45) (st := [.int (iI (10 * 0))]) (As := [.int (iI t), .int (iI (M 77 16))]) (k0 := 77) (ci := 12) (c_X12_byteAt (M := M) hn t (M 77 16) (by exact ht) (by exact hy.2.1) (by first | omega | assumption)) wM_X12_byteAt wV_X12_byteAt kl_X12_128 rfl (lt_lit hn (Nat.le_of_ble_eq_true rfl)) rfl ⟨rfl, rfl, Nat.le_of_ble_eq_true rfl, Nat.le_of_ble_eq_true rfl⟩ (Nat.le_of_ble_eq_true rfl) cs rfl rfl dX12_number_42 rfl ?_
      rintro _ _ ⟨rfl, rfl⟩
      refine g_rwi (y := iI (c (M 77 16))) (congrArg iI (by first | exact hy.1 _ (by omega) (by omega) | exact (TY_of hy (stM_off (by decide)) (stM_off (by decide))).1 _ (by omega) (by omega))) ?_
      refine g_iadd cx (pc2 := 46) dX12_number_45 rfl ?_
      refine g_bipush cx (pc2 := 48) ⟨by decide, by decide⟩ dX12_number_46 rfl ?_
      refine g_isub cx (pc2 := 49) dX12_number_48 rfl ?_
      refine g_istore cx (pc2 := 51) (lv2 := [(0, .ref 77), (1, .int (iI t)), (2, .int (iI lo)), (3, .int (iI hi)), (4, .int (iI 0)), (5, .int (iI (((10 * 0) + (c (M 77 16))) - 48)))]) rfl (Nat.le_of_ble_eq_true rfl) dX12_number_49 rfl ?_
      refine g_aload_n cx (pc2 := 52) 0 rfl dX12_number_51 rfl ?_
      refine g_dup cx (pc2 := 53) rfl dX12_number_52 rfl ?_
      refine g_get cx (pc2 := 56) (ci := 12) (k0 := 77) (j := 16) (v := .int (iI (M 77 16))) rfl iwX12 rfl (lt_lit hn (Nat.le_of_ble_eq_true rfl)) rfl (Nat.le_of_ble_eq_true rfl) kf_X12_125 rfl rfl dX12_number_53 rfl ?_
      refine g_iconst cx (pc2 := 57) dX12_number_56 rfl ?_
      refine g_iadd cx (pc2 := 58) dX12_number_57 rfl ?_
      refine g_puti cx (pc2 := 61) (ci := 12) (k0 := 77) (j := 16) rfl iwX12 rfl (lt_lit hn (Nat.le_of_ble_eq_true rfl)) rfl (Nat.le_of_ble_eq_true rfl) kf_X12_125 rfl tyX12_ok nmX12 rfl rfl dX12_number_58 rfl ?_
      refine g_iinc cx (pc2 := 64) 4 rfl (lv2 := [(0, .ref 77), (1, .int (iI t)), (2, .int (iI lo)), (3, .int (iI hi)), (4, .int (iI 1)), (5, .int (iI (((10 * 0) + (c (M 77 16))) - 48)))]) rfl (Nat.le_of_ble_eq_true rfl) dX12_number_61 rfl ?_
      refine g_goto cx (tgt := 6) dX12_number_64 (by decide) ?_
      refine g_iload cx (pc2 := 8) 4 rfl dX12_number_6 rfl ?_
      refine g_iconst cx (pc2 := 9) dX12_number_8 rfl ?_
      refine g_icmp_ge cx (pc2 := 12) (tgt := 67) ⟨⟨by decide, by decide⟩, ⟨by decide, by decide⟩⟩ dX12_number_9 (by decide) rfl (fun h_4 => ?_) (fun h_4 => ?_)
      · skip
        omega
      · skip
        refine g_aload_n cx (pc2 := 13) 0 rfl dX12_number_12 rfl ?_
        refine g_iload_n cx (pc2 := 14) 1 rfl dX12_number_13 rfl ?_
        refine g_aload_n cx (pc2 := 15) 0 rfl dX12_number_14 rfl ?_
        refine g_get cx (pc2 := 18) (ci := 12) (k0 := 77) (j := 16) (v := .int (iI ((M 77 16) + 1))) rfl iwX12 rfl (lt_lit hn (Nat.le_of_ble_eq_true rfl)) rfl (Nat.le_of_ble_eq_true rfl) kf_X12_125 rfl (congrArg (fun q => Value.int (iI q)) (by simp [stM])) dX12_number_15 rfl ?_
        refine g_callV cx (pc2 := 21) (st := []) (As := [.int (iI t), .int (iI ((M 77 16) + 1))]) (k0 := 77) (ci := 12) (c_X12_byteAt (M := (stM M 77 16 ((M 77 16) + 1))) hn t ((M 77 16) + 1) (by exact ht) (by exact hy.2.1) (by first | omega | assumption)) wM_X12_byteAt wV_X12_byteAt kl_X12_128 rfl (lt_lit hn (Nat.le_of_ble_eq_true rfl)) rfl ⟨rfl, rfl, Nat.le_of_ble_eq_true rfl, Nat.le_of_ble_eq_true rfl⟩ (Nat.le_of_ble_eq_true rfl) cs rfl rfl dX12_number_18 rfl ?_
        rintro _ _ ⟨rfl, rfl⟩
        refine g_rwi (y := iI (c ((M 77 16) + 1))) (congrArg iI (by first | exact hy.1 _ (by omega) (by omega) | exact (TY_of hy (stM_off (by decide)) (stM_off (by decide))).1 _ (by omega) (by omega))) ?_
        refine g_bipush cx (pc2 := 23) ⟨by decide, by decide⟩ dX12_number_21 rfl ?_
        refine g_bipush cx (pc2 := 25) ⟨by decide, by decide⟩ dX12_number_23 rfl ?_
        refine g_callS cx (pc2 := 28) (st := []) (As := [.int (iI (c ((M 77 16) + 1))), .int (iI 48), .int (iI 57)]) (c_X12_in (M := (stM M 77 16 ((M 77 16) + 1))) hn (c ((M 77 16) + 1)) 48 57 (by first | assumption | omega) (by first | assumption | omega) (by first | assumption | omega)) wM_X12_in wS_X12_in kl_X12_97 ⟨rfl, rfl, Nat.le_of_ble_eq_true rfl, Nat.le_of_ble_eq_true rfl⟩ (Nat.le_of_ble_eq_true rfl) cs rfl rfl dX12_number_25 rfl ?_
        rintro _ _ ⟨rfl, rfl⟩
        refine g_ifb_eq cx (pc2 := 31) (tgt := 67) dX12_number_28 (by decide) rfl (fun h_5 => ?_) (fun h_5 => ?_)
        · skip
          refine g_aload_n cx (pc2 := 68) 0 rfl dX12_number_67 rfl ?_
          refine g_iload cx (pc2 := 70) 5 rfl dX12_number_68 rfl ?_
          refine g_puti cx (pc2 := 73) (ci := 12) (k0 := 77) (j := 17) rfl iwX12 rfl (lt_lit hn (Nat.le_of_ble_eq_true rfl)) rfl (Nat.le_of_ble_eq_true rfl) kf_X12_131 rfl tyX12_ok nmX12 rfl rfl dX12_number_70 rfl ?_
          refine g_iload cx (pc2 := 75) 4 rfl dX12_number_73 rfl ?_
          refine g_if_le cx (pc2 := 78) (tgt := 92) ⟨by decide, by decide⟩ dX12_number_75 (by decide) rfl (fun h_6 => ?_) (fun h_6 => ?_)
          · skip
            omega
          · skip
            refine g_iload cx (pc2 := 80) 5 rfl dX12_number_78 rfl ?_
            refine g_iload_n cx (pc2 := 81) 2 rfl dX12_number_80 rfl ?_
            refine g_iload_n cx (pc2 := 82) 3 rfl dX12_number_81 rfl ?_
            refine g_callS cx (pc2 := 85) (st := []) (As := [.int (iI (((10 * 0) + (c (M 77 16))) - 48)), .int (iI lo), .int (iI hi)]) (c_X12_in (M := (stM (stM M 77 16 ((M 77 16) + 1)) 77 17 (((10 * 0) + (c (M 77 16))) - 48))) hn (((10 * 0) + (c (M 77 16))) - 48) lo hi (by first | assumption | omega) (by first | assumption | omega) (by first | assumption | omega)) wM_X12_in wS_X12_in kl_X12_97 ⟨rfl, rfl, Nat.le_of_ble_eq_true rfl, Nat.le_of_ble_eq_true rfl⟩ (Nat.le_of_ble_eq_true rfl) cs rfl rfl dX12_number_82 rfl ?_
            rintro _ _ ⟨rfl, rfl⟩
            refine g_ifb_eq cx (pc2 := 88) (tgt := 92) dX12_number_85 (by decide) rfl (fun h_7 => ?_) (fun h_7 => ?_)
            · skip
              refine g_iconst cx (pc2 := 93) dX12_number_92 rfl ?_
              exact g_zret cx (Or.inl rfl) qx dX12_number_93 ⟨rb_f (by first | exact nuB_0 (by assumption) | exact (nuB_1 (by assumption) (by assumption)).mpr (by assumption) | exact (nuB_2 (by assumption) (by assumption)).mpr (by assumption) | exact fun q => absurd ((nuB_1 (by assumption) (by assumption)).mp q) (by assumption) | exact fun q => absurd ((nuB_2 (by assumption) (by assumption)).mp q) (by assumption)), by first | exact nuX_0 (by assumption) | exact nuX_1 (by assumption) (by assumption) | exact nuX_2 (by assumption) (by assumption)⟩
            · skip
              refine g_iconst cx (pc2 := 89) dX12_number_88 rfl ?_
              refine g_goto cx (tgt := 93) dX12_number_89 (by decide) ?_
              exact g_zret cx (Or.inr rfl) qx dX12_number_93 ⟨rb_t (by first | exact nuB_0 (by assumption) | exact (nuB_1 (by assumption) (by assumption)).mpr (by assumption) | exact (nuB_2 (by assumption) (by assumption)).mpr (by assumption) | exact fun q => absurd ((nuB_1 (by assumption) (by assumption)).mp q) (by assumption) | exact fun q => absurd ((nuB_2 (by assumption) (by assumption)).mp q) (by assumption)), by first | exact nuX_0 (by assumption) | exact nuX_1 (by assumption) (by assumption) | exact nuX_2 (by assumption) (by assumption)⟩
        · skip
          refine g_bipush cx (pc2 := 33) ⟨by decide, by decide⟩ dX12_number_31 rfl ?_
          refine g_iload cx (pc2 := 35) 5 rfl dX12_number_33 rfl ?_
          refine g_imul cx (pc2 := 36) dX12_number_35 rfl ?_
          refine g_aload_n cx (pc2 := 37) 0 rfl dX12_number_36 rfl ?_
          refine g_iload_n cx (pc2 := 38) 1 rfl dX12_number_37 rfl ?_
          refine g_aload_n cx (pc2 := 39) 0 rfl dX12_number_38 rfl ?_
          refine g_get cx (pc2 := 42) (ci := 12) (k0 := 77) (j := 16) (v := .int (iI ((M 77 16) + 1))) rfl iwX12 rfl (lt_lit hn (Nat.le_of_ble_eq_true rfl)) rfl (Nat.le_of_ble_eq_true rfl) kf_X12_125 rfl (congrArg (fun q => Value.int (iI q)) (by simp [stM])) dX12_number_39 rfl ?_
          refine g_callV cx (pc2 := 45) (st := [.int (iI (10 * (((10 * 0) + (c (M 77 16))) - 48)))]) (As := [.int (iI t), .int (iI ((M 77 16) + 1))]) (k0 := 77) (ci := 12) (c_X12_byteAt (M := (stM M 77 16 ((M 77 16) + 1))) hn t ((M 77 16) + 1) (by exact ht) (by exact hy.2.1) (by first | omega | assumption)) wM_X12_byteAt wV_X12_byteAt kl_X12_128 rfl (lt_lit hn (Nat.le_of_ble_eq_true rfl)) rfl ⟨rfl, rfl, Nat.le_of_ble_eq_true rfl, Nat.le_of_ble_eq_true rfl⟩ (Nat.le_of_ble_eq_true rfl) cs rfl rfl dX12_number_42 rfl ?_
          rintro _ _ ⟨rfl, rfl⟩
          refine g_rwi (y := iI (c ((M 77 16) + 1))) (congrArg iI (by first | exact hy.1 _ (by omega) (by omega) | exact (TY_of hy (stM_off (by decide)) (stM_off (by decide))).1 _ (by omega) (by omega))) ?_
          refine g_iadd cx (pc2 := 46) dX12_number_45 rfl ?_
          refine g_bipush cx (pc2 := 48) ⟨by decide, by decide⟩ dX12_number_46 rfl ?_
          refine g_isub cx (pc2 := 49) dX12_number_48 rfl ?_
          refine g_istore cx (pc2 := 51) (lv2 := [(0, .ref 77), (1, .int (iI t)), (2, .int (iI lo)), (3, .int (iI hi)), (4, .int (iI 1)), (5, .int (iI (((10 * (((10 * 0) + (c (M 77 16))) - 48)) + (c ((M 77 16) + 1))) - 48)))]) rfl (Nat.le_of_ble_eq_true rfl) dX12_number_49 rfl ?_
          refine g_aload_n cx (pc2 := 52) 0 rfl dX12_number_51 rfl ?_
          refine g_dup cx (pc2 := 53) rfl dX12_number_52 rfl ?_
          refine g_get cx (pc2 := 56) (ci := 12) (k0 := 77) (j := 16) (v := .int (iI ((M 77 16) + 1))) rfl iwX12 rfl (lt_lit hn (Nat.le_of_ble_eq_true rfl)) rfl (Nat.le_of_ble_eq_true rfl) kf_X12_125 rfl (congrArg (fun q => Value.int (iI q)) (by simp [stM])) dX12_number_53 rfl ?_
          refine g_iconst cx (pc2 := 57) dX12_number_56 rfl ?_
          refine g_iadd cx (pc2 := 58) dX12_number_57 rfl ?_
          refine g_puti cx (pc2 := 61) (ci := 12) (k0 := 77) (j := 16) rfl iwX12 rfl (lt_lit hn (Nat.le_of_ble_eq_true rfl)) rfl (Nat.le_of_ble_eq_true rfl) kf_X12_125 rfl tyX12_ok nmX12 rfl rfl dX12_number_58 rfl ?_
          refine g_iinc cx (pc2 := 64) 4 rfl (lv2 := [(0, .ref 77), (1, .int (iI t)), (2, .int (iI lo)), (3, .int (iI hi)), (4, .int (iI 2)), (5, .int (iI (((10 * (((10 * 0) + (c (M 77 16))) - 48)) + (c ((M 77 16) + 1))) - 48)))]) rfl (Nat.le_of_ble_eq_true rfl) dX12_number_61 rfl ?_
          refine g_goto cx (tgt := 6) dX12_number_64 (by decide) ?_
          refine g_iload cx (pc2 := 8) 4 rfl dX12_number_6 rfl ?_
          refine g_iconst cx (pc2 := 9) dX12_number_8 rfl ?_
          refine g_icmp_ge cx (pc2 := 12) (tgt := 67) ⟨⟨by decide, by decide⟩, ⟨by decide, by decide⟩⟩ dX12_number_9 (by decide) rfl (fun h_8 => ?_) (fun h_8 => ?_)
          · skip
            refine g_aload_n cx (pc2 := 68) 0 rfl dX12_number_67 rfl ?_
            refine g_iload cx (pc2 := 70) 5 rfl dX12_number_68 rfl ?_
            refine g_puti cx (pc2 := 73) (ci := 12) (k0 := 77) (j := 17) rfl iwX12 rfl (lt_lit hn (Nat.le_of_ble_eq_true rfl)) rfl (Nat.le_of_ble_eq_true rfl) kf_X12_131 rfl tyX12_ok nmX12 rfl rfl dX12_number_70 rfl ?_
            refine g_iload cx (pc2 := 75) 4 rfl dX12_number_73 rfl ?_
            refine g_if_le cx (pc2 := 78) (tgt := 92) ⟨by decide, by decide⟩ dX12_number_75 (by decide) rfl (fun h_9 => ?_) (fun h_9 => ?_)
            · skip
              omega
            · skip
              refine g_iload cx (pc2 := 80) 5 rfl dX12_number_78 rfl ?_
              refine g_iload_n cx (pc2 := 81) 2 rfl dX12_number_80 rfl ?_
              refine g_iload_n cx (pc2 := 82) 3 rfl dX12_number_81 rfl ?_
              refine g_callS cx (pc2 := 85) (st := []) (As := [.int (iI (((10 * (((10 * 0) + (c (M 77 16))) - 48)) + (c ((M 77 16) + 1))) - 48)), .int (iI lo), .int (iI hi)]) (c_X12_in (M := (stM (stM (stM M 77 16 ((M 77 16) + 1)) 77 16 (((M 77 16) + 1) + 1)) 77 17 (((10 * (((10 * 0) + (c (M 77 16))) - 48)) + (c ((M 77 16) + 1))) - 48))) hn (((10 * (((10 * 0) + (c (M 77 16))) - 48)) + (c ((M 77 16) + 1))) - 48) lo hi (by first | assumption | omega) (by first | assumption | omega) (by first | assumption | omega)) wM_X12_in wS_X12_in kl_X12_97 ⟨rfl, rfl, Nat.le_of_ble_eq_true rfl, Nat.le_of_ble_eq_true rfl⟩ (Nat.le_of_ble_eq_true rfl) cs rfl rfl dX12_number_82 rfl ?_
              rintro _ _ ⟨rfl, rfl⟩
              refine g_ifb_eq cx (pc2 := 88) (tgt := 92) dX12_number_85 (by decide) rfl (fun h_10 => ?_) (fun h_10 => ?_)
              · skip
                refine g_iconst cx (pc2 := 93) dX12_number_92 rfl ?_
                exact g_zret cx (Or.inl rfl) qx dX12_number_93 ⟨rb_f (by first | exact nuB_0 (by assumption) | exact (nuB_1 (by assumption) (by assumption)).mpr (by assumption) | exact (nuB_2 (by assumption) (by assumption)).mpr (by assumption) | exact fun q => absurd ((nuB_1 (by assumption) (by assumption)).mp q) (by assumption) | exact fun q => absurd ((nuB_2 (by assumption) (by assumption)).mp q) (by assumption)), by first | exact nuX_0 (by assumption) | exact nuX_1 (by assumption) (by assumption) | exact nuX_2 (by assumption) (by assumption)⟩
              · skip
                refine g_iconst cx (pc2 := 89) dX12_number_88 rfl ?_
                refine g_goto cx (tgt := 93) dX12_number_89 (by decide) ?_
                exact g_zret cx (Or.inr rfl) qx dX12_number_93 ⟨rb_t (by first | exact nuB_0 (by assumption) | exact (nuB_1 (by assumption) (by assumption)).mpr (by assumption) | exact (nuB_2 (by assumption) (by assumption)).mpr (by assumption) | exact fun q => absurd ((nuB_1 (by assumption) (by assumption)).mp q) (by assumption) | exact fun q => absurd ((nuB_2 (by assumption) (by assumption)).mp q) (by assumption)), by first | exact nuX_0 (by assumption) | exact nuX_1 (by assumption) (by assumption) | exact nuX_2 (by assumption) (by assumption)⟩
          · skip
            omega
set_option maxHeartbeats 4000000 in
set_option maxRecDepth 100000 in
theorem c_X12_kindOf {n : Nat} (hn : NN n) {M : Mm} (b : Int) (hb : ir b) : CT yX12_kindOf cX12_kindOf 1 (some .int) ({ frames := 0, cells := 0, slots := 0, locals := 0 }) n [.int (iI b)] M (rI (kdO b) M) := by
  refine CT.of (lv0 := [(0, .int (iI b))]) (by decide +kernel) hn (fun _ => rfl) (fun _ => Nat.le_of_ble_eq_true rfl) (fun X cx cs qx => ?_)
  have cx : Cx X cX12_kindOf RX12 ({ frames := 0, cells := 0, slots := 0, locals := 0 }) 1 n := cx
  refine g_iload_n cx (pc2 := 1) 0 rfl dX12_kindOf_0 rfl ?_
  rcases (show (b < 102 ∨ 119 < b) ∨ b = 102 ∨ b = 103 ∨ b = 104 ∨ b = 105 ∨ b = 106 ∨ b = 107 ∨ b = 108 ∨ b = 109 ∨ b = 110 ∨ b = 111 ∨ b = 112 ∨ b = 113 ∨ b = 114 ∨ b = 115 ∨ b = 116 ∨ b = 117 ∨ b = 118 ∨ b = 119 from by omega) with h_1 | h_1 | h_1 | h_1 | h_1 | h_1 | h_1 | h_1 | h_1 | h_1 | h_1 | h_1 | h_1 | h_1 | h_1 | h_1 | h_1 | h_1 | h_1
  · skip
    refine g_swOut cx (tgt := 100) (by first | assumption | omega) dX12_kindOf_1 h_1 (by decide) ?_
    refine g_bipush cx (pc2 := 102) ⟨by decide, by decide⟩ dX12_kindOf_100 rfl ?_
    exact g_iret cx qx dX12_kindOf_102 ⟨congrArg (fun q => some (Value.int (iI q))) (by unfold kdO; (repeat (first | rw [if_pos (by first | assumption | omega)] | rw [if_neg (by first | assumption | exact not_not_intro (by assumption) | omega)])); first | done | rfl | (symm; assumption)), by rfl⟩
  · skip
    refine g_swIn cx (tgt := 96) (by first | assumption | omega) dX12_kindOf_1 (by omega) (by omega) (by rw [h_1]; rfl) (by decide) ?_
    refine g_iconst cx (pc2 := 97) dX12_kindOf_96 rfl ?_
    exact g_iret cx qx dX12_kindOf_97 ⟨congrArg (fun q => some (Value.int (iI q))) (by unfold kdO; (repeat (first | rw [if_pos (by first | assumption | omega)] | rw [if_neg (by first | assumption | exact not_not_intro (by assumption) | omega)])); first | done | rfl | (symm; assumption)), by rfl⟩
  · skip
    refine g_swIn cx (tgt := 100) (by first | assumption | omega) dX12_kindOf_1 (by omega) (by omega) (by rw [h_1]; rfl) (by decide) ?_
    refine g_bipush cx (pc2 := 102) ⟨by decide, by decide⟩ dX12_kindOf_100 rfl ?_
    exact g_iret cx qx dX12_kindOf_102 ⟨congrArg (fun q => some (Value.int (iI q))) (by unfold kdO; (repeat (first | rw [if_pos (by first | assumption | omega)] | rw [if_neg (by first | assumption | exact not_not_intro (by assumption) | omega)])); first | done | rfl | (symm; assumption)), by rfl⟩
  · skip
    refine g_swIn cx (tgt := 100) (by first | assumption | omega) dX12_kindOf_1 (by omega) (by omega) (by rw [h_1]; rfl) (by decide) ?_
    refine g_bipush cx (pc2 := 102) ⟨by decide, by decide⟩ dX12_kindOf_100 rfl ?_
    exact g_iret cx qx dX12_kindOf_102 ⟨congrArg (fun q => some (Value.int (iI q))) (by unfold kdO; (repeat (first | rw [if_pos (by first | assumption | omega)] | rw [if_neg (by first | assumption | exact not_not_intro (by assumption) | omega)])); first | done | rfl | (symm; assumption)), by rfl⟩
  · skip
    refine g_swIn cx (tgt := 100) (by first | assumption | omega) dX12_kindOf_1 (by omega) (by omega) (by rw [h_1]; rfl) (by decide) ?_
    refine g_bipush cx (pc2 := 102) ⟨by decide, by decide⟩ dX12_kindOf_100 rfl ?_
    exact g_iret cx qx dX12_kindOf_102 ⟨congrArg (fun q => some (Value.int (iI q))) (by unfold kdO; (repeat (first | rw [if_pos (by first | assumption | omega)] | rw [if_neg (by first | assumption | exact not_not_intro (by assumption) | omega)])); first | done | rfl | (symm; assumption)), by rfl⟩
  · skip
    refine g_swIn cx (tgt := 100) (by first | assumption | omega) dX12_kindOf_1 (by omega) (by omega) (by rw [h_1]; rfl) (by decide) ?_
    refine g_bipush cx (pc2 := 102) ⟨by decide, by decide⟩ dX12_kindOf_100 rfl ?_
    exact g_iret cx qx dX12_kindOf_102 ⟨congrArg (fun q => some (Value.int (iI q))) (by unfold kdO; (repeat (first | rw [if_pos (by first | assumption | omega)] | rw [if_neg (by first | assumption | exact not_not_intro (by assumption) | omega)])); first | done | rfl | (symm; assumption)), by rfl⟩
  · skip
    refine g_swIn cx (tgt := 100) (by first | assumption | omega) dX12_kindOf_1 (by omega) (by omega) (by rw [h_1]; rfl) (by decide) ?_
    refine g_bipush cx (pc2 := 102) ⟨by decide, by decide⟩ dX12_kindOf_100 rfl ?_
    exact g_iret cx qx dX12_kindOf_102 ⟨congrArg (fun q => some (Value.int (iI q))) (by unfold kdO; (repeat (first | rw [if_pos (by first | assumption | omega)] | rw [if_neg (by first | assumption | exact not_not_intro (by assumption) | omega)])); first | done | rfl | (symm; assumption)), by rfl⟩
  · skip
    refine g_swIn cx (tgt := 92) (by first | assumption | omega) dX12_kindOf_1 (by omega) (by omega) (by rw [h_1]; rfl) (by decide) ?_
    refine g_iconst cx (pc2 := 93) dX12_kindOf_92 rfl ?_
    exact g_iret cx qx dX12_kindOf_93 ⟨congrArg (fun q => some (Value.int (iI q))) (by unfold kdO; (repeat (first | rw [if_pos (by first | assumption | omega)] | rw [if_neg (by first | assumption | exact not_not_intro (by assumption) | omega)])); first | done | rfl | (symm; assumption)), by rfl⟩
  · skip
    refine g_swIn cx (tgt := 90) (by first | assumption | omega) dX12_kindOf_1 (by omega) (by omega) (by rw [h_1]; rfl) (by decide) ?_
    refine g_iconst cx (pc2 := 91) dX12_kindOf_90 rfl ?_
    exact g_iret cx qx dX12_kindOf_91 ⟨congrArg (fun q => some (Value.int (iI q))) (by unfold kdO; (repeat (first | rw [if_pos (by first | assumption | omega)] | rw [if_neg (by first | assumption | exact not_not_intro (by assumption) | omega)])); first | done | rfl | (symm; assumption)), by rfl⟩
  · skip
    refine g_swIn cx (tgt := 88) (by first | assumption | omega) dX12_kindOf_1 (by omega) (by omega) (by rw [h_1]; rfl) (by decide) ?_
    refine g_iconst cx (pc2 := 89) dX12_kindOf_88 rfl ?_
    exact g_iret cx qx dX12_kindOf_89 ⟨congrArg (fun q => some (Value.int (iI q))) (by unfold kdO; (repeat (first | rw [if_pos (by first | assumption | omega)] | rw [if_neg (by first | assumption | exact not_not_intro (by assumption) | omega)])); first | done | rfl | (symm; assumption)), by rfl⟩
  · skip
    refine g_swIn cx (tgt := 100) (by first | assumption | omega) dX12_kindOf_1 (by omega) (by omega) (by rw [h_1]; rfl) (by decide) ?_
    refine g_bipush cx (pc2 := 102) ⟨by decide, by decide⟩ dX12_kindOf_100 rfl ?_
    exact g_iret cx qx dX12_kindOf_102 ⟨congrArg (fun q => some (Value.int (iI q))) (by unfold kdO; (repeat (first | rw [if_pos (by first | assumption | omega)] | rw [if_neg (by first | assumption | exact not_not_intro (by assumption) | omega)])); first | done | rfl | (symm; assumption)), by rfl⟩
  · skip
    refine g_swIn cx (tgt := 100) (by first | assumption | omega) dX12_kindOf_1 (by omega) (by omega) (by rw [h_1]; rfl) (by decide) ?_
    refine g_bipush cx (pc2 := 102) ⟨by decide, by decide⟩ dX12_kindOf_100 rfl ?_
    exact g_iret cx qx dX12_kindOf_102 ⟨congrArg (fun q => some (Value.int (iI q))) (by unfold kdO; (repeat (first | rw [if_pos (by first | assumption | omega)] | rw [if_neg (by first | assumption | exact not_not_intro (by assumption) | omega)])); first | done | rfl | (symm; assumption)), by rfl⟩
  · skip
    refine g_swIn cx (tgt := 100) (by first | assumption | omega) dX12_kindOf_1 (by omega) (by omega) (by rw [h_1]; rfl) (by decide) ?_
    refine g_bipush cx (pc2 := 102) ⟨by decide, by decide⟩ dX12_kindOf_100 rfl ?_
    exact g_iret cx qx dX12_kindOf_102 ⟨congrArg (fun q => some (Value.int (iI q))) (by unfold kdO; (repeat (first | rw [if_pos (by first | assumption | omega)] | rw [if_neg (by first | assumption | exact not_not_intro (by assumption) | omega)])); first | done | rfl | (symm; assumption)), by rfl⟩
  · skip
    refine g_swIn cx (tgt := 100) (by first | assumption | omega) dX12_kindOf_1 (by omega) (by omega) (by rw [h_1]; rfl) (by decide) ?_
    refine g_bipush cx (pc2 := 102) ⟨by decide, by decide⟩ dX12_kindOf_100 rfl ?_
    exact g_iret cx qx dX12_kindOf_102 ⟨congrArg (fun q => some (Value.int (iI q))) (by unfold kdO; (repeat (first | rw [if_pos (by first | assumption | omega)] | rw [if_neg (by first | assumption | exact not_not_intro (by assumption) | omega)])); first | done | rfl | (symm; assumption)), by rfl⟩
  · skip
    refine g_swIn cx (tgt := 100) (by first | assumption | omega) dX12_kindOf_1 (by omega) (by omega) (by rw [h_1]; rfl) (by decide) ?_
    refine g_bipush cx (pc2 := 102) ⟨by decide, by decide⟩ dX12_kindOf_100 rfl ?_
    exact g_iret cx qx dX12_kindOf_102 ⟨congrArg (fun q => some (Value.int (iI q))) (by unfold kdO; (repeat (first | rw [if_pos (by first | assumption | omega)] | rw [if_neg (by first | assumption | exact not_not_intro (by assumption) | omega)])); first | done | rfl | (symm; assumption)), by rfl⟩
  · skip
    refine g_swIn cx (tgt := 98) (by first | assumption | omega) dX12_kindOf_1 (by omega) (by omega) (by rw [h_1]; rfl) (by decide) ?_
    refine g_iconst cx (pc2 := 99) dX12_kindOf_98 rfl ?_
    exact g_iret cx qx dX12_kindOf_99 ⟨congrArg (fun q => some (Value.int (iI q))) (by unfold kdO; (repeat (first | rw [if_pos (by first | assumption | omega)] | rw [if_neg (by first | assumption | exact not_not_intro (by assumption) | omega)])); first | done | rfl | (symm; assumption)), by rfl⟩
  · skip
    refine g_swIn cx (tgt := 100) (by first | assumption | omega) dX12_kindOf_1 (by omega) (by omega) (by rw [h_1]; rfl) (by decide) ?_
    refine g_bipush cx (pc2 := 102) ⟨by decide, by decide⟩ dX12_kindOf_100 rfl ?_
    exact g_iret cx qx dX12_kindOf_102 ⟨congrArg (fun q => some (Value.int (iI q))) (by unfold kdO; (repeat (first | rw [if_pos (by first | assumption | omega)] | rw [if_neg (by first | assumption | exact not_not_intro (by assumption) | omega)])); first | done | rfl | (symm; assumption)), by rfl⟩
  · skip
    refine g_swIn cx (tgt := 100) (by first | assumption | omega) dX12_kindOf_1 (by omega) (by omega) (by rw [h_1]; rfl) (by decide) ?_
    refine g_bipush cx (pc2 := 102) ⟨by decide, by decide⟩ dX12_kindOf_100 rfl ?_
    exact g_iret cx qx dX12_kindOf_102 ⟨congrArg (fun q => some (Value.int (iI q))) (by unfold kdO; (repeat (first | rw [if_pos (by first | assumption | omega)] | rw [if_neg (by first | assumption | exact not_not_intro (by assumption) | omega)])); first | done | rfl | (symm; assumption)), by rfl⟩
  · skip
    refine g_swIn cx (tgt := 94) (by first | assumption | omega) dX12_kindOf_1 (by omega) (by omega) (by rw [h_1]; rfl) (by decide) ?_
    refine g_iconst cx (pc2 := 95) dX12_kindOf_94 rfl ?_
    exact g_iret cx qx dX12_kindOf_95 ⟨congrArg (fun q => some (Value.int (iI q))) (by unfold kdO; (repeat (first | rw [if_pos (by first | assumption | omega)] | rw [if_neg (by first | assumption | exact not_not_intro (by assumption) | omega)])); first | done | rfl | (symm; assumption)), by rfl⟩
set_option maxHeartbeats 4000000 in
set_option maxRecDepth 100000 in
theorem c_X12_readsHouse {n : Nat} (hn : NN n) {M : Mm} (t : Int) (ht : T4 t) {c : Int → Int} (hy : TY M t c) (hp : 0 ≤ M 77 16 ∧ M 77 16 ≤ 200) (h8 : 0 ≤ M 77 18 ∧ M 77 18 ≤ 8) : CT yX12_readsHouse cX12_readsHouse 2 (some .boolean) ({ frames := 2, cells := 0, slots := 0, locals := 47 }) n [.ref 77, .int (iI t)] M (pI (fun z M2 => rhX c M z M2)) := by
  refine CT.of (lv0 := [(0, .ref 77), (1, .int (iI t))]) (by decide +kernel) hn (fun _ => rfl) (fun _ => Nat.le_of_ble_eq_true rfl) (fun X cx cs qx => ?_)
  have cx : Cx X cX12_readsHouse RX12 ({ frames := 2, cells := 0, slots := 0, locals := 47 }) 2 n := cx
  have hnb := nuV_b c (M 77 16 + 1)
  refine g_aload_n cx (pc2 := 1) 0 rfl dX12_readsHouse_0 rfl ?_
  refine g_get cx (pc2 := 4) (ci := 12) (k0 := 77) (j := 18) (v := .int (iI (M 77 18))) rfl iwX12 rfl (lt_lit hn (Nat.le_of_ble_eq_true rfl)) rfl (Nat.le_of_ble_eq_true rfl) kf_X12_134 rfl rfl dX12_readsHouse_1 rfl ?_
  refine g_bipush cx (pc2 := 6) ⟨by decide, by decide⟩ dX12_readsHouse_4 rfl ?_
  refine g_icmp_ne cx (pc2 := 9) (tgt := 11) ⟨(by first | assumption | omega), ⟨by decide, by decide⟩⟩ dX12_readsHouse_6 (by decide) rfl (fun h_1 => ?_) (fun h_1 => ?_)
  · skip
    refine g_aload_n cx (pc2 := 12) 0 rfl dX12_readsHouse_11 rfl ?_
    refine g_dup cx (pc2 := 13) rfl dX12_readsHouse_12 rfl ?_
    refine g_get cx (pc2 := 16) (ci := 12) (k0 := 77) (j := 16) (v := .int (iI (M 77 16))) rfl iwX12 rfl (lt_lit hn (Nat.le_of_ble_eq_true rfl)) rfl (Nat.le_of_ble_eq_true rfl) kf_X12_125 rfl rfl dX12_readsHouse_13 rfl ?_
    refine g_iconst cx (pc2 := 17) dX12_readsHouse_16 rfl ?_
    refine g_iadd cx (pc2 := 18) dX12_readsHouse_17 rfl ?_
    refine g_puti cx (pc2 := 21) (ci := 12) (k0 := 77) (j := 16) rfl iwX12 rfl (lt_lit hn (Nat.le_of_ble_eq_true rfl)) rfl (Nat.le_of_ble_eq_true rfl) kf_X12_125 rfl tyX12_ok nmX12 rfl rfl dX12_readsHouse_18 rfl ?_
    refine g_M (M2 := (xm M (M 77 16 + 1) (M 77 17))) (by exact xm_p M _) ?_
    refine g_aload_n cx (pc2 := 22) 0 rfl dX12_readsHouse_21 rfl ?_
    refine g_iload_n cx (pc2 := 23) 1 rfl dX12_readsHouse_22 rfl ?_
    refine g_iconst cx (pc2 := 24) dX12_readsHouse_23 rfl ?_
    refine g_bipush cx (pc2 := 26) ⟨by decide, by decide⟩ dX12_readsHouse_24 rfl ?_
    refine g_callV cx (pc2 := 29) (st := []) (As := [.int (iI t), .int (iI 0), .int (iI 15)]) (k0 := 77) (ci := 12) (c_X12_number (M := (xm M (M 77 16 + 1) (M 77 17))) hn t 0 15 (by exact ht) (by exact TY_xm hy _ _) (by show 0 ≤ M 77 16 + 1 ∧ M 77 16 + 1 ≤ 800; omega) (by first | assumption | omega) (by first | assumption | omega)) wM_X12_number wV_X12_number kl_X12_137 rfl (lt_lit hn (Nat.le_of_ble_eq_true rfl)) rfl ⟨rfl, rfl, Nat.le_of_ble_eq_true rfl, Nat.le_of_ble_eq_true rfl⟩ (Nat.le_of_ble_eq_true rfl) cs rfl rfl dX12_readsHouse_26 rfl ?_
    rintro _ _ ⟨rfl, rfl⟩
    refine g_rwi (y := iI (b2 (nuB c (M 77 16 + 1) 0 15))) (rfl) ?_
    refine g_ifb_ne cx (pc2 := 32) (tgt := 34) dX12_readsHouse_29 (by decide) rfl (fun h_2 => ?_) (fun h_2 => ?_)
    · skip
      refine g_M (M2 := (xm M (rnP c (M 77 16 + 1)) (nuV c (M 77 16 + 1)))) (by exact nuX_e c M _ _) ?_
      refine g_aload_n cx (pc2 := 35) 0 rfl dX12_readsHouse_34 rfl ?_
      refine g_get cx (pc2 := 38) (ci := 12) (k0 := 77) (j := 20) (v := .ref 87) rfl iwX12 rfl (lt_lit hn (Nat.le_of_ble_eq_true rfl)) rfl (Nat.le_of_ble_eq_true rfl) kf_X12_38 rfl rfl dX12_readsHouse_35 rfl ?_
      refine g_aload_n cx (pc2 := 39) 0 rfl dX12_readsHouse_38 rfl ?_
      refine g_get cx (pc2 := 42) (ci := 12) (k0 := 77) (j := 18) (v := .int (iI ((xm M (rnP c (M 77 16 + 1)) (nuV c (M 77 16 + 1))) 77 18))) rfl iwX12 rfl (lt_lit hn (Nat.le_of_ble_eq_true rfl)) rfl (Nat.le_of_ble_eq_true rfl) kf_X12_134 rfl rfl dX12_readsHouse_39 rfl ?_
      refine g_rwi (y := iI (M 77 18)) (rfl) ?_
      refine g_aload_n cx (pc2 := 43) 0 rfl dX12_readsHouse_42 rfl ?_
      refine g_get cx (pc2 := 46) (ci := 12) (k0 := 77) (j := 17) (v := .int (iI ((xm M (rnP c (M 77 16 + 1)) (nuV c (M 77 16 + 1))) 77 17))) rfl iwX12 rfl (lt_lit hn (Nat.le_of_ble_eq_true rfl)) rfl (Nat.le_of_ble_eq_true rfl) kf_X12_131 rfl rfl dX12_readsHouse_43 rfl ?_
      refine g_iast cx (pc2 := 47) (k0 := 87) rfl (lt_lit hn (Nat.le_of_ble_eq_true rfl)) (by first | assumption | omega) (by first | assumption | omega) (Nat.le_of_ble_eq_true rfl) dX12_readsHouse_46 rfl ?_
      refine g_aload_n cx (pc2 := 48) 0 rfl dX12_readsHouse_47 rfl ?_
      refine g_dup cx (pc2 := 49) rfl dX12_readsHouse_48 rfl ?_
      refine g_get cx (pc2 := 52) (ci := 12) (k0 := 77) (j := 18) (v := .int (iI ((xm M (rnP c (M 77 16 + 1)) (nuV c (M 77 16 + 1))) 77 18))) rfl iwX12 rfl (lt_lit hn (Nat.le_of_ble_eq_true rfl)) rfl (Nat.le_of_ble_eq_true rfl) kf_X12_134 rfl (congrArg (fun q => Value.int (iI q)) (by simp [stM])) dX12_readsHouse_49 rfl ?_
      refine g_iconst cx (pc2 := 53) dX12_readsHouse_52 rfl ?_
      refine g_iadd cx (pc2 := 54) dX12_readsHouse_53 rfl ?_
      refine g_puti cx (pc2 := 57) (ci := 12) (k0 := 77) (j := 18) rfl iwX12 rfl (lt_lit hn (Nat.le_of_ble_eq_true rfl)) rfl (Nat.le_of_ble_eq_true rfl) kf_X12_134 rfl tyX12_ok nmX12 rfl rfl dX12_readsHouse_54 rfl ?_
      refine g_iconst cx (pc2 := 58) dX12_readsHouse_57 rfl ?_
      exact g_zret cx (Or.inr rfl) qx dX12_readsHouse_58 ⟨_, rfl, by refine Or.inr (Or.inr ⟨by assumption, (nu_iff c (M 77 16 + 1) 15).mp (by assumption), rfl, nuV c (M 77 16 + 1), ?_⟩); rw [← nu_val (by assumption)]; rfl⟩
    · skip
      refine g_M (M2 := (xm M (rnP c (M 77 16 + 1)) (nuV c (M 77 16 + 1)))) (by exact nuX_e c M _ _) ?_
      refine g_iconst cx (pc2 := 33) dX12_readsHouse_32 rfl ?_
      exact g_zret cx (Or.inl rfl) qx dX12_readsHouse_33 ⟨_, rfl, by exact Or.inr (Or.inl ⟨by assumption, by have := nu_iff c (M 77 16 + 1) 15; have q := h_2; exact Decidable.not_not.mp (fun z => q (this.mpr z)), rfl, _, rfl⟩)⟩
  · skip
    refine g_iconst cx (pc2 := 10) dX12_readsHouse_9 rfl ?_
    exact g_zret cx (Or.inl rfl) qx dX12_readsHouse_10 ⟨_, rfl, by exact Or.inl ⟨by assumption, rfl, rfl⟩⟩
set_option maxHeartbeats 4000000 in
set_option maxRecDepth 100000 in
theorem c_X12_readsNeed {n : Nat} (hn : NN n) {M : Mm} (t kd : Int) (ht : T4 t) {c : Int → Int} (hy : TY M t c) (hp : 0 ≤ M 77 16 ∧ M 77 16 ≤ 200) (h8 : (0 ≤ M 77 18 ∧ M 77 18 ≤ 8) ∧ 0 ≤ M 77 19 ∧ M 77 19 ≤ 8) (hkd : kd = kdO (c (M 77 16)) ∧ ¬ kd = -9) : CT yX12_readsNeed cX12_readsNeed 8 (some .boolean) ({ frames := 2, cells := 0, slots := 0, locals := 47 }) n [.ref 77, .int (iI t), .int (iI kd)] M (pI (fun z M2 => rnX c M z M2)) := by
  refine CT.of (lv0 := [(0, .ref 77), (1, .int (iI t)), (2, .int (iI kd))]) (by decide +kernel) hn (fun _ => rfl) (fun _ => Nat.le_of_ble_eq_true rfl) (fun X cx cs qx => ?_)
  have cx : Cx X cX12_readsNeed RX12 ({ frames := 2, cells := 0, slots := 0, locals := 47 }) 8 n := cx
  have hcb1 := hy.2.2 (M 77 16 + 1)
  have hp1 := rnP_b c (M 77 16 + 3)
  have hp2 := rnP_b c (rnP c (M 77 16 + 3) + 1)
  have hb1 := nuV_b c (M 77 16 + 3)
  have hb2 := nuV_b c (rnP c (M 77 16 + 3) + 1)
  refine g_aload_n cx (pc2 := 1) 0 rfl dX12_readsNeed_0 rfl ?_
  refine g_get cx (pc2 := 4) (ci := 12) (k0 := 77) (j := 19) (v := .int (iI (M 77 19))) rfl iwX12 rfl (lt_lit hn (Nat.le_of_ble_eq_true rfl)) rfl (Nat.le_of_ble_eq_true rfl) kf_X12_140 rfl rfl dX12_readsNeed_1 rfl ?_
  refine g_bipush cx (pc2 := 6) ⟨by decide, by decide⟩ dX12_readsNeed_4 rfl ?_
  refine g_icmp_ne cx (pc2 := 9) (tgt := 11) ⟨(by first | assumption | omega), ⟨by decide, by decide⟩⟩ dX12_readsNeed_6 (by decide) rfl (fun h_1 => ?_) (fun h_1 => ?_)
  · skip
    refine g_aload_n cx (pc2 := 12) 0 rfl dX12_readsNeed_11 rfl ?_
    refine g_dup cx (pc2 := 13) rfl dX12_readsNeed_12 rfl ?_
    refine g_get cx (pc2 := 16) (ci := 12) (k0 := 77) (j := 16) (v := .int (iI (M 77 16))) rfl iwX12 rfl (lt_lit hn (Nat.le_of_ble_eq_true rfl)) rfl (Nat.le_of_ble_eq_true rfl) kf_X12_125 rfl rfl dX12_readsNeed_13 rfl ?_
    refine g_iconst cx (pc2 := 17) dX12_readsNeed_16 rfl ?_
    refine g_iadd cx (pc2 := 18) dX12_readsNeed_17 rfl ?_
    refine g_puti cx (pc2 := 21) (ci := 12) (k0 := 77) (j := 16) rfl iwX12 rfl (lt_lit hn (Nat.le_of_ble_eq_true rfl)) rfl (Nat.le_of_ble_eq_true rfl) kf_X12_125 rfl tyX12_ok nmX12 rfl rfl dX12_readsNeed_18 rfl ?_
    refine g_M (M2 := (xm M (M 77 16 + 1) (M 77 17))) (by exact xm_p M _) ?_
    refine g_aload_n cx (pc2 := 22) 0 rfl dX12_readsNeed_21 rfl ?_
    refine g_iload_n cx (pc2 := 23) 1 rfl dX12_readsNeed_22 rfl ?_
    refine g_aload_n cx (pc2 := 24) 0 rfl dX12_readsNeed_23 rfl ?_
    refine g_get cx (pc2 := 27) (ci := 12) (k0 := 77) (j := 16) (v := .int (iI ((xm M (M 77 16 + 1) (M 77 17)) 77 16))) rfl iwX12 rfl (lt_lit hn (Nat.le_of_ble_eq_true rfl)) rfl (Nat.le_of_ble_eq_true rfl) kf_X12_125 rfl rfl dX12_readsNeed_24 rfl ?_
    refine g_rwi (y := iI (M 77 16 + 1)) (rfl) ?_
    refine g_callV cx (pc2 := 30) (st := []) (As := [.int (iI t), .int (iI (M 77 16 + 1))]) (k0 := 77) (ci := 12) (c_X12_byteAt (M := (xm M (M 77 16 + 1) (M 77 17))) hn t (M 77 16 + 1) (by exact ht) (by exact hy.2.1) (by first | assumption | omega)) wM_X12_byteAt wV_X12_byteAt kl_X12_128 rfl (lt_lit hn (Nat.le_of_ble_eq_true rfl)) rfl ⟨rfl, rfl, Nat.le_of_ble_eq_true rfl, Nat.le_of_ble_eq_true rfl⟩ (Nat.le_of_ble_eq_true rfl) cs rfl rfl dX12_readsNeed_27 rfl ?_
    rintro _ _ ⟨rfl, rfl⟩
    refine g_rwi (y := iI (c (M 77 16 + 1))) (congrArg iI ((TY_xm hy _ _).1 _ (by omega) (by omega))) ?_
    refine g_bipush cx (pc2 := 32) ⟨by decide, by decide⟩ dX12_readsNeed_30 rfl ?_
    refine g_isub cx (pc2 := 33) dX12_readsNeed_32 rfl ?_
    refine g_istore_n cx (pc2 := 34) (lv2 := [(0, .ref 77), (1, .int (iI t)), (2, .int (iI kd)), (3, .int (iI ((c (M 77 16 + 1)) - 65)))]) rfl (Nat.le_of_ble_eq_true rfl) dX12_readsNeed_33 rfl ?_
    refine g_iload_n cx (pc2 := 35) 3 rfl dX12_readsNeed_34 rfl ?_
    refine g_iconst cx (pc2 := 36) dX12_readsNeed_35 rfl ?_
    refine g_aload_n cx (pc2 := 37) 0 rfl dX12_readsNeed_36 rfl ?_
    refine g_get cx (pc2 := 40) (ci := 12) (k0 := 77) (j := 18) (v := .int (iI ((xm M (M 77 16 + 1) (M 77 17)) 77 18))) rfl iwX12 rfl (lt_lit hn (Nat.le_of_ble_eq_true rfl)) rfl (Nat.le_of_ble_eq_true rfl) kf_X12_134 rfl rfl dX12_readsNeed_37 rfl ?_
    refine g_rwi (y := iI (M 77 18)) (rfl) ?_
    refine g_iconst cx (pc2 := 41) dX12_readsNeed_40 rfl ?_
    refine g_isub cx (pc2 := 42) dX12_readsNeed_41 rfl ?_
    refine g_callS cx (pc2 := 45) (st := []) (As := [.int (iI ((c (M 77 16 + 1)) - 65)), .int (iI 0), .int (iI ((M 77 18) - 1))]) (c_X12_in (M := (xm M (M 77 16 + 1) (M 77 17))) hn ((c (M 77 16 + 1)) - 65) 0 ((M 77 18) - 1) (by first | assumption | omega) (by first | assumption | omega) (by first | assumption | omega)) wM_X12_in wS_X12_in kl_X12_97 ⟨rfl, rfl, Nat.le_of_ble_eq_true rfl, Nat.le_of_ble_eq_true rfl⟩ (Nat.le_of_ble_eq_true rfl) cs rfl rfl dX12_readsNeed_42 rfl ?_
    rintro _ _ ⟨rfl, rfl⟩
    refine g_ifb_ne cx (pc2 := 48) (tgt := 50) dX12_readsNeed_45 (by decide) rfl (fun h_2 => ?_) (fun h_2 => ?_)
    · skip
      refine g_aload_n cx (pc2 := 51) 0 rfl dX12_readsNeed_50 rfl ?_
      refine g_dup cx (pc2 := 52) rfl dX12_readsNeed_51 rfl ?_
      refine g_get cx (pc2 := 55) (ci := 12) (k0 := 77) (j := 16) (v := .int (iI ((xm M (M 77 16 + 1) (M 77 17)) 77 16))) rfl iwX12 rfl (lt_lit hn (Nat.le_of_ble_eq_true rfl)) rfl (Nat.le_of_ble_eq_true rfl) kf_X12_125 rfl rfl dX12_readsNeed_52 rfl ?_
      refine g_rwi (y := iI (M 77 16 + 1)) (rfl) ?_
      refine g_iconst cx (pc2 := 56) dX12_readsNeed_55 rfl ?_
      refine g_iadd cx (pc2 := 57) dX12_readsNeed_56 rfl ?_
      refine g_puti cx (pc2 := 60) (ci := 12) (k0 := 77) (j := 16) rfl iwX12 rfl (lt_lit hn (Nat.le_of_ble_eq_true rfl)) rfl (Nat.le_of_ble_eq_true rfl) kf_X12_125 rfl tyX12_ok nmX12 rfl rfl dX12_readsNeed_57 rfl ?_
      refine g_M (M2 := (xm M (M 77 16 + 2) (M 77 17))) (by rw [xm_st, show M 77 16 + 1 + 1 = M 77 16 + 2 by omega]) ?_
      refine g_aload_n cx (pc2 := 61) 0 rfl dX12_readsNeed_60 rfl ?_
      refine g_iload_n cx (pc2 := 62) 1 rfl dX12_readsNeed_61 rfl ?_
      refine g_bipush cx (pc2 := 64) ⟨by decide, by decide⟩ dX12_readsNeed_62 rfl ?_
      refine g_callV cx (pc2 := 67) (st := []) (As := [.int (iI t), .int (iI 58)]) (k0 := 77) (ci := 12) (c_X12_sign (M := (xm M (M 77 16 + 2) (M 77 17))) hn t 58 (by exact ht) (by exact TY_xm hy _ _) (by first | (show 0 ≤ M 77 16 + 2 ∧ M 77 16 + 2 ≤ 900; omega) | (show 0 ≤ M 77 16 + 3 ∧ M 77 16 + 3 ≤ 800; omega) | (show 0 ≤ rnP c (M 77 16 + 3) ∧ rnP c (M 77 16 + 3) ≤ 900; omega) | (show 0 ≤ rnP c (M 77 16 + 3) + 1 ∧ rnP c (M 77 16 + 3) + 1 ≤ 800; omega) | (show 0 ≤ rnP c (rnP c (M 77 16 + 3) + 1) ∧ rnP c (rnP c (M 77 16 + 3) + 1) ≤ 900; omega) | (show 0 ≤ rnP c (rnP c (M 77 16 + 3) + 1) + 1 ∧ rnP c (rnP c (M 77 16 + 3) + 1) + 1 ≤ 900; omega) | (show 0 ≤ rnP c (rnP c (M 77 16 + 3) + 1) + 2 ∧ rnP c (rnP c (M 77 16 + 3) + 1) + 2 ≤ 900; omega) | (show 0 ≤ rnP c (rnP c (M 77 16 + 3) + 1) + 3 ∧ rnP c (rnP c (M 77 16 + 3) + 1) + 3 ≤ 900; omega)) (by first | assumption | omega)) wM_X12_sign wV_X12_sign kl_X12_143 rfl (lt_lit hn (Nat.le_of_ble_eq_true rfl)) rfl ⟨rfl, rfl, Nat.le_of_ble_eq_true rfl, Nat.le_of_ble_eq_true rfl⟩ (Nat.le_of_ble_eq_true rfl) cs rfl rfl dX12_readsNeed_64 rfl ?_
      rintro _ _ ⟨rfl, rfl⟩
      refine g_rwi (y := iI (b2 (c (M 77 16 + 2) = 58))) (rfl) ?_
      refine g_ifb_eq cx (pc2 := 70) (tgt := 81) dX12_readsNeed_67 (by decide) rfl (fun h_3 => ?_) (fun h_3 => ?_)
      · skip
        refine g_M (M2 := (xm M (M 77 16 + 2) (M 77 17))) (by exact sgX_f h_3) ?_
        refine g_iconst cx (pc2 := 82) dX12_readsNeed_81 rfl ?_
        exact g_zret cx (Or.inl rfl) qx dX12_readsNeed_82 ⟨_, rfl, by exact rnX_n (by unfold pNd; (repeat (first | rw [if_pos (by first | assumption | omega)] | rw [if_neg (by first | assumption | exact not_not_intro (by assumption) | omega)])))⟩
      · skip
        refine g_M (M2 := (xm M (M 77 16 + 3) (M 77 17))) (by rw [sgX_t h_3, show M 77 16 + 2 + 1 = M 77 16 + 3 by omega]) ?_
        refine g_aload_n cx (pc2 := 71) 0 rfl dX12_readsNeed_70 rfl ?_
        refine g_iload_n cx (pc2 := 72) 1 rfl dX12_readsNeed_71 rfl ?_
        refine g_iconst cx (pc2 := 73) dX12_readsNeed_72 rfl ?_
        refine g_bipush cx (pc2 := 75) ⟨by decide, by decide⟩ dX12_readsNeed_73 rfl ?_
        refine g_callV cx (pc2 := 78) (st := []) (As := [.int (iI t), .int (iI 0), .int (iI 27)]) (k0 := 77) (ci := 12) (c_X12_number (M := (xm M (M 77 16 + 3) (M 77 17))) hn t 0 27 (by exact ht) (by exact TY_xm hy _ _) (by first | (show 0 ≤ M 77 16 + 2 ∧ M 77 16 + 2 ≤ 900; omega) | (show 0 ≤ M 77 16 + 3 ∧ M 77 16 + 3 ≤ 800; omega) | (show 0 ≤ rnP c (M 77 16 + 3) ∧ rnP c (M 77 16 + 3) ≤ 900; omega) | (show 0 ≤ rnP c (M 77 16 + 3) + 1 ∧ rnP c (M 77 16 + 3) + 1 ≤ 800; omega) | (show 0 ≤ rnP c (rnP c (M 77 16 + 3) + 1) ∧ rnP c (rnP c (M 77 16 + 3) + 1) ≤ 900; omega) | (show 0 ≤ rnP c (rnP c (M 77 16 + 3) + 1) + 1 ∧ rnP c (rnP c (M 77 16 + 3) + 1) + 1 ≤ 900; omega) | (show 0 ≤ rnP c (rnP c (M 77 16 + 3) + 1) + 2 ∧ rnP c (rnP c (M 77 16 + 3) + 1) + 2 ≤ 900; omega) | (show 0 ≤ rnP c (rnP c (M 77 16 + 3) + 1) + 3 ∧ rnP c (rnP c (M 77 16 + 3) + 1) + 3 ≤ 900; omega)) (by first | assumption | omega) (by first | assumption | omega)) wM_X12_number wV_X12_number kl_X12_137 rfl (lt_lit hn (Nat.le_of_ble_eq_true rfl)) rfl ⟨rfl, rfl, Nat.le_of_ble_eq_true rfl, Nat.le_of_ble_eq_true rfl⟩ (Nat.le_of_ble_eq_true rfl) cs rfl rfl dX12_readsNeed_75 rfl ?_
        rintro _ _ ⟨rfl, rfl⟩
        refine g_rwi (y := iI (b2 (nuB c (M 77 16 + 3) 0 27))) (rfl) ?_
        refine g_ifb_ne cx (pc2 := 81) (tgt := 83) dX12_readsNeed_78 (by decide) rfl (fun h_4 => ?_) (fun h_4 => ?_)
        · skip
          have g1 := (nu_iff c _ _).mp h_4
          have e1 := nu_val h_4
          refine g_M (M2 := (xm M (rnP c (M 77 16 + 3)) (nuV c (M 77 16 + 3)))) (by exact nuX_e c M _ _) ?_
          refine g_aload_n cx (pc2 := 84) 0 rfl dX12_readsNeed_83 rfl ?_
          refine g_get cx (pc2 := 87) (ci := 12) (k0 := 77) (j := 17) (v := .int (iI ((xm M (rnP c (M 77 16 + 3)) (nuV c (M 77 16 + 3))) 77 17))) rfl iwX12 rfl (lt_lit hn (Nat.le_of_ble_eq_true rfl)) rfl (Nat.le_of_ble_eq_true rfl) kf_X12_131 rfl rfl dX12_readsNeed_84 rfl ?_
          refine g_rwi (y := iI (nuV c (M 77 16 + 3))) (rfl) ?_
          refine g_istore cx (pc2 := 89) (lv2 := [(0, .ref 77), (1, .int (iI t)), (2, .int (iI kd)), (3, .int (iI ((c (M 77 16 + 1)) - 65))), (4, .int (iI (nuV c (M 77 16 + 3))))]) rfl (Nat.le_of_ble_eq_true rfl) dX12_readsNeed_87 rfl ?_
          refine g_aload_n cx (pc2 := 90) 0 rfl dX12_readsNeed_89 rfl ?_
          refine g_iload_n cx (pc2 := 91) 1 rfl dX12_readsNeed_90 rfl ?_
          refine g_bipush cx (pc2 := 93) ⟨by decide, by decide⟩ dX12_readsNeed_91 rfl ?_
          refine g_callV cx (pc2 := 96) (st := []) (As := [.int (iI t), .int (iI 45)]) (k0 := 77) (ci := 12) (c_X12_sign (M := (xm M (rnP c (M 77 16 + 3)) (nuV c (M 77 16 + 3)))) hn t 45 (by exact ht) (by exact TY_xm hy _ _) (by first | (show 0 ≤ M 77 16 + 2 ∧ M 77 16 + 2 ≤ 900; omega) | (show 0 ≤ M 77 16 + 3 ∧ M 77 16 + 3 ≤ 800; omega) | (show 0 ≤ rnP c (M 77 16 + 3) ∧ rnP c (M 77 16 + 3) ≤ 900; omega) | (show 0 ≤ rnP c (M 77 16 + 3) + 1 ∧ rnP c (M 77 16 + 3) + 1 ≤ 800; omega) | (show 0 ≤ rnP c (rnP c (M 77 16 + 3) + 1) ∧ rnP c (rnP c (M 77 16 + 3) + 1) ≤ 900; omega) | (show 0 ≤ rnP c (rnP c (M 77 16 + 3) + 1) + 1 ∧ rnP c (rnP c (M 77 16 + 3) + 1) + 1 ≤ 900; omega) | (show 0 ≤ rnP c (rnP c (M 77 16 + 3) + 1) + 2 ∧ rnP c (rnP c (M 77 16 + 3) + 1) + 2 ≤ 900; omega) | (show 0 ≤ rnP c (rnP c (M 77 16 + 3) + 1) + 3 ∧ rnP c (rnP c (M 77 16 + 3) + 1) + 3 ≤ 900; omega)) (by first | assumption | omega)) wM_X12_sign wV_X12_sign kl_X12_143 rfl (lt_lit hn (Nat.le_of_ble_eq_true rfl)) rfl ⟨rfl, rfl, Nat.le_of_ble_eq_true rfl, Nat.le_of_ble_eq_true rfl⟩ (Nat.le_of_ble_eq_true rfl) cs rfl rfl dX12_readsNeed_93 rfl ?_
          rintro _ _ ⟨rfl, rfl⟩
          refine g_rwi (y := iI (b2 (c (rnP c (M 77 16 + 3)) = 45))) (rfl) ?_
          refine g_ifb_eq cx (pc2 := 99) (tgt := 111) dX12_readsNeed_96 (by decide) rfl (fun h_5 => ?_) (fun h_5 => ?_)
          · skip
            refine g_M (M2 := (xm M (rnP c (M 77 16 + 3)) (nuV c (M 77 16 + 3)))) (by exact sgX_f h_5) ?_
            refine g_iconst cx (pc2 := 112) dX12_readsNeed_111 rfl ?_
            exact g_zret cx (Or.inl rfl) qx dX12_readsNeed_112 ⟨_, rfl, by exact rnX_n (by unfold pNd; (repeat (first | rw [if_pos (by first | assumption | omega)] | rw [if_neg (by first | assumption | exact not_not_intro (by assumption) | omega)])))⟩
          · skip
            refine g_M (M2 := (xm M (rnP c (M 77 16 + 3) + 1) (nuV c (M 77 16 + 3)))) (by exact sgX_t h_5) ?_
            refine g_aload_n cx (pc2 := 100) 0 rfl dX12_readsNeed_99 rfl ?_
            refine g_iload_n cx (pc2 := 101) 1 rfl dX12_readsNeed_100 rfl ?_
            refine g_iload cx (pc2 := 103) 4 rfl dX12_readsNeed_101 rfl ?_
            refine g_bipush cx (pc2 := 105) ⟨by decide, by decide⟩ dX12_readsNeed_103 rfl ?_
            refine g_callV cx (pc2 := 108) (st := []) (As := [.int (iI t), .int (iI (nuV c (M 77 16 + 3))), .int (iI 27)]) (k0 := 77) (ci := 12) (c_X12_number (M := (xm M (rnP c (M 77 16 + 3) + 1) (nuV c (M 77 16 + 3)))) hn t (nuV c (M 77 16 + 3)) 27 (by exact ht) (by exact TY_xm hy _ _) (by first | (show 0 ≤ M 77 16 + 2 ∧ M 77 16 + 2 ≤ 900; omega) | (show 0 ≤ M 77 16 + 3 ∧ M 77 16 + 3 ≤ 800; omega) | (show 0 ≤ rnP c (M 77 16 + 3) ∧ rnP c (M 77 16 + 3) ≤ 900; omega) | (show 0 ≤ rnP c (M 77 16 + 3) + 1 ∧ rnP c (M 77 16 + 3) + 1 ≤ 800; omega) | (show 0 ≤ rnP c (rnP c (M 77 16 + 3) + 1) ∧ rnP c (rnP c (M 77 16 + 3) + 1) ≤ 900; omega) | (show 0 ≤ rnP c (rnP c (M 77 16 + 3) + 1) + 1 ∧ rnP c (rnP c (M 77 16 + 3) + 1) + 1 ≤ 900; omega) | (show 0 ≤ rnP c (rnP c (M 77 16 + 3) + 1) + 2 ∧ rnP c (rnP c (M 77 16 + 3) + 1) + 2 ≤ 900; omega) | (show 0 ≤ rnP c (rnP c (M 77 16 + 3) + 1) + 3 ∧ rnP c (rnP c (M 77 16 + 3) + 1) + 3 ≤ 900; omega)) (by first | assumption | omega) (by first | assumption | omega)) wM_X12_number wV_X12_number kl_X12_137 rfl (lt_lit hn (Nat.le_of_ble_eq_true rfl)) rfl ⟨rfl, rfl, Nat.le_of_ble_eq_true rfl, Nat.le_of_ble_eq_true rfl⟩ (Nat.le_of_ble_eq_true rfl) cs rfl rfl dX12_readsNeed_105 rfl ?_
            rintro _ _ ⟨rfl, rfl⟩
            refine g_rwi (y := iI (b2 (nuB c (rnP c (M 77 16 + 3) + 1) (nuV c (M 77 16 + 3)) 27))) (rfl) ?_
            refine g_ifb_ne cx (pc2 := 111) (tgt := 113) dX12_readsNeed_108 (by decide) rfl (fun h_6 => ?_) (fun h_6 => ?_)
            · skip
              have g2 := (nu_iff2 c hb1.1).mp h_6
              have e2 := nu_val h_6
              rw [e1] at g2
              refine g_M (M2 := (xm M (rnP c (rnP c (M 77 16 + 3) + 1)) (nuV c (rnP c (M 77 16 + 3) + 1)))) (by exact nuX_e c M _ _) ?_
              refine g_aload_n cx (pc2 := 114) 0 rfl dX12_readsNeed_113 rfl ?_
              refine g_get cx (pc2 := 117) (ci := 12) (k0 := 77) (j := 17) (v := .int (iI ((xm M (rnP c (rnP c (M 77 16 + 3) + 1)) (nuV c (rnP c (M 77 16 + 3) + 1))) 77 17))) rfl iwX12 rfl (lt_lit hn (Nat.le_of_ble_eq_true rfl)) rfl (Nat.le_of_ble_eq_true rfl) kf_X12_131 rfl rfl dX12_readsNeed_114 rfl ?_
              refine g_rwi (y := iI (nuV c (rnP c (M 77 16 + 3) + 1))) (rfl) ?_
              refine g_istore cx (pc2 := 119) (lv2 := [(0, .ref 77), (1, .int (iI t)), (2, .int (iI kd)), (3, .int (iI ((c (M 77 16 + 1)) - 65))), (4, .int (iI (nuV c (M 77 16 + 3)))), (5, .int (iI (nuV c (rnP c (M 77 16 + 3) + 1))))]) rfl (Nat.le_of_ble_eq_true rfl) dX12_readsNeed_117 rfl ?_
              refine g_aload_n cx (pc2 := 120) 0 rfl dX12_readsNeed_119 rfl ?_
              refine g_iload_n cx (pc2 := 121) 1 rfl dX12_readsNeed_120 rfl ?_
              refine g_bipush cx (pc2 := 123) ⟨by decide, by decide⟩ dX12_readsNeed_121 rfl ?_
              refine g_callV cx (pc2 := 126) (st := []) (As := [.int (iI t), .int (iI 58)]) (k0 := 77) (ci := 12) (c_X12_sign (M := (xm M (rnP c (rnP c (M 77 16 + 3) + 1)) (nuV c (rnP c (M 77 16 + 3) + 1)))) hn t 58 (by exact ht) (by exact TY_xm hy _ _) (by first | (show 0 ≤ M 77 16 + 2 ∧ M 77 16 + 2 ≤ 900; omega) | (show 0 ≤ M 77 16 + 3 ∧ M 77 16 + 3 ≤ 800; omega) | (show 0 ≤ rnP c (M 77 16 + 3) ∧ rnP c (M 77 16 + 3) ≤ 900; omega) | (show 0 ≤ rnP c (M 77 16 + 3) + 1 ∧ rnP c (M 77 16 + 3) + 1 ≤ 800; omega) | (show 0 ≤ rnP c (rnP c (M 77 16 + 3) + 1) ∧ rnP c (rnP c (M 77 16 + 3) + 1) ≤ 900; omega) | (show 0 ≤ rnP c (rnP c (M 77 16 + 3) + 1) + 1 ∧ rnP c (rnP c (M 77 16 + 3) + 1) + 1 ≤ 900; omega) | (show 0 ≤ rnP c (rnP c (M 77 16 + 3) + 1) + 2 ∧ rnP c (rnP c (M 77 16 + 3) + 1) + 2 ≤ 900; omega) | (show 0 ≤ rnP c (rnP c (M 77 16 + 3) + 1) + 3 ∧ rnP c (rnP c (M 77 16 + 3) + 1) + 3 ≤ 900; omega)) (by first | assumption | omega)) wM_X12_sign wV_X12_sign kl_X12_143 rfl (lt_lit hn (Nat.le_of_ble_eq_true rfl)) rfl ⟨rfl, rfl, Nat.le_of_ble_eq_true rfl, Nat.le_of_ble_eq_true rfl⟩ (Nat.le_of_ble_eq_true rfl) cs rfl rfl dX12_readsNeed_123 rfl ?_
              rintro _ _ ⟨rfl, rfl⟩
              refine g_rwi (y := iI (b2 (c (rnP c (rnP c (M 77 16 + 3) + 1)) = 58))) (rfl) ?_
              refine g_ifb_eq cx (pc2 := 129) (tgt := 139) dX12_readsNeed_126 (by decide) rfl (fun h_7 => ?_) (fun h_7 => ?_)
              · skip
                refine g_M (M2 := (xm M (rnP c (rnP c (M 77 16 + 3) + 1)) (nuV c (rnP c (M 77 16 + 3) + 1)))) (by exact sgX_f h_7) ?_
                refine g_iconst cx (pc2 := 140) dX12_readsNeed_139 rfl ?_
                exact g_zret cx (Or.inl rfl) qx dX12_readsNeed_140 ⟨_, rfl, by exact rnX_n (by unfold pNd; (repeat (first | rw [if_pos (by first | assumption | omega)] | rw [if_neg (by first | assumption | exact not_not_intro (by assumption) | omega)])))⟩
              · skip
                refine g_M (M2 := (xm M (rnP c (rnP c (M 77 16 + 3) + 1) + 1) (nuV c (rnP c (M 77 16 + 3) + 1)))) (by exact sgX_t h_7) ?_
                refine g_aload_n cx (pc2 := 130) 0 rfl dX12_readsNeed_129 rfl ?_
                refine g_iload_n cx (pc2 := 131) 1 rfl dX12_readsNeed_130 rfl ?_
                refine g_iconst cx (pc2 := 132) dX12_readsNeed_131 rfl ?_
                refine g_iconst cx (pc2 := 133) dX12_readsNeed_132 rfl ?_
                refine g_callV cx (pc2 := 136) (st := []) (As := [.int (iI t), .int (iI 1), .int (iI 4)]) (k0 := 77) (ci := 12) (c_X12_figure (M := (xm M (rnP c (rnP c (M 77 16 + 3) + 1) + 1) (nuV c (rnP c (M 77 16 + 3) + 1)))) hn t 1 4 (by exact ht) (by exact TY_xm hy _ _) (by first | (show 0 ≤ M 77 16 + 2 ∧ M 77 16 + 2 ≤ 900; omega) | (show 0 ≤ M 77 16 + 3 ∧ M 77 16 + 3 ≤ 800; omega) | (show 0 ≤ rnP c (M 77 16 + 3) ∧ rnP c (M 77 16 + 3) ≤ 900; omega) | (show 0 ≤ rnP c (M 77 16 + 3) + 1 ∧ rnP c (M 77 16 + 3) + 1 ≤ 800; omega) | (show 0 ≤ rnP c (rnP c (M 77 16 + 3) + 1) ∧ rnP c (rnP c (M 77 16 + 3) + 1) ≤ 900; omega) | (show 0 ≤ rnP c (rnP c (M 77 16 + 3) + 1) + 1 ∧ rnP c (rnP c (M 77 16 + 3) + 1) + 1 ≤ 900; omega) | (show 0 ≤ rnP c (rnP c (M 77 16 + 3) + 1) + 2 ∧ rnP c (rnP c (M 77 16 + 3) + 1) + 2 ≤ 900; omega) | (show 0 ≤ rnP c (rnP c (M 77 16 + 3) + 1) + 3 ∧ rnP c (rnP c (M 77 16 + 3) + 1) + 3 ≤ 900; omega)) (by first | assumption | omega) (by first | assumption | omega)) wM_X12_figure wV_X12_figure kl_X12_147 rfl (lt_lit hn (Nat.le_of_ble_eq_true rfl)) rfl ⟨rfl, rfl, Nat.le_of_ble_eq_true rfl, Nat.le_of_ble_eq_true rfl⟩ (Nat.le_of_ble_eq_true rfl) cs rfl rfl dX12_readsNeed_133 rfl ?_
                rintro _ _ ⟨rfl, rfl⟩
                refine g_rwi (y := iI (b2 (fiB c (rnP c (rnP c (M 77 16 + 3) + 1) + 1) 1 4))) (rfl) ?_
                refine g_ifb_ne cx (pc2 := 139) (tgt := 141) dX12_readsNeed_136 (by decide) rfl (fun h_8 => ?_) (fun h_8 => ?_)
                · skip
                  have g3 := (fi_iff c (by decide)).mp h_8
                  have e3 := fi_val (by decide) h_8
                  refine g_M (M2 := (xm M (rnP c (rnP c (M 77 16 + 3) + 1) + 2) (c (rnP c (rnP c (M 77 16 + 3) + 1) + 1) - 48))) (by rw [fiX_t h_8, show rnP c (rnP c (M 77 16 + 3) + 1) + 1 + 1 = rnP c (rnP c (M 77 16 + 3) + 1) + 2 by omega]) ?_
                  refine g_aload_n cx (pc2 := 142) 0 rfl dX12_readsNeed_141 rfl ?_
                  refine g_get cx (pc2 := 145) (ci := 12) (k0 := 77) (j := 17) (v := .int (iI ((xm M (rnP c (rnP c (M 77 16 + 3) + 1) + 2) (c (rnP c (rnP c (M 77 16 + 3) + 1) + 1) - 48)) 77 17))) rfl iwX12 rfl (lt_lit hn (Nat.le_of_ble_eq_true rfl)) rfl (Nat.le_of_ble_eq_true rfl) kf_X12_131 rfl rfl dX12_readsNeed_142 rfl ?_
                  refine g_rwi (y := iI (c (rnP c (rnP c (M 77 16 + 3) + 1) + 1) - 48)) (rfl) ?_
                  refine g_istore cx (pc2 := 147) (lv2 := [(0, .ref 77), (1, .int (iI t)), (2, .int (iI kd)), (3, .int (iI ((c (M 77 16 + 1)) - 65))), (4, .int (iI (nuV c (M 77 16 + 3)))), (5, .int (iI (nuV c (rnP c (M 77 16 + 3) + 1)))), (6, .int (iI (c (rnP c (rnP c (M 77 16 + 3) + 1) + 1) - 48)))]) rfl (Nat.le_of_ble_eq_true rfl) dX12_readsNeed_145 rfl ?_
                  refine g_aload_n cx (pc2 := 148) 0 rfl dX12_readsNeed_147 rfl ?_
                  refine g_iload_n cx (pc2 := 149) 1 rfl dX12_readsNeed_148 rfl ?_
                  refine g_bipush cx (pc2 := 151) ⟨by decide, by decide⟩ dX12_readsNeed_149 rfl ?_
                  refine g_callV cx (pc2 := 154) (st := []) (As := [.int (iI t), .int (iI 58)]) (k0 := 77) (ci := 12) (c_X12_sign (M := (xm M (rnP c (rnP c (M 77 16 + 3) + 1) + 2) (c (rnP c (rnP c (M 77 16 + 3) + 1) + 1) - 48))) hn t 58 (by exact ht) (by exact TY_xm hy _ _) (by first | (show 0 ≤ M 77 16 + 2 ∧ M 77 16 + 2 ≤ 900; omega) | (show 0 ≤ M 77 16 + 3 ∧ M 77 16 + 3 ≤ 800; omega) | (show 0 ≤ rnP c (M 77 16 + 3) ∧ rnP c (M 77 16 + 3) ≤ 900; omega) | (show 0 ≤ rnP c (M 77 16 + 3) + 1 ∧ rnP c (M 77 16 + 3) + 1 ≤ 800; omega) | (show 0 ≤ rnP c (rnP c (M 77 16 + 3) + 1) ∧ rnP c (rnP c (M 77 16 + 3) + 1) ≤ 900; omega) | (show 0 ≤ rnP c (rnP c (M 77 16 + 3) + 1) + 1 ∧ rnP c (rnP c (M 77 16 + 3) + 1) + 1 ≤ 900; omega) | (show 0 ≤ rnP c (rnP c (M 77 16 + 3) + 1) + 2 ∧ rnP c (rnP c (M 77 16 + 3) + 1) + 2 ≤ 900; omega) | (show 0 ≤ rnP c (rnP c (M 77 16 + 3) + 1) + 3 ∧ rnP c (rnP c (M 77 16 + 3) + 1) + 3 ≤ 900; omega)) (by first | assumption | omega)) wM_X12_sign wV_X12_sign kl_X12_143 rfl (lt_lit hn (Nat.le_of_ble_eq_true rfl)) rfl ⟨rfl, rfl, Nat.le_of_ble_eq_true rfl, Nat.le_of_ble_eq_true rfl⟩ (Nat.le_of_ble_eq_true rfl) cs rfl rfl dX12_readsNeed_151 rfl ?_
                  rintro _ _ ⟨rfl, rfl⟩
                  refine g_rwi (y := iI (b2 (c (rnP c (rnP c (M 77 16 + 3) + 1) + 2) = 58))) (rfl) ?_
                  refine g_ifb_eq cx (pc2 := 157) (tgt := 168) dX12_readsNeed_154 (by decide) rfl (fun h_9 => ?_) (fun h_9 => ?_)
                  · skip
                    refine g_M (M2 := (xm M (rnP c (rnP c (M 77 16 + 3) + 1) + 2) (c (rnP c (rnP c (M 77 16 + 3) + 1) + 1) - 48))) (by exact sgX_f h_9) ?_
                    refine g_iconst cx (pc2 := 169) dX12_readsNeed_168 rfl ?_
                    exact g_zret cx (Or.inl rfl) qx dX12_readsNeed_169 ⟨_, rfl, by exact rnX_n (by unfold pNd; (repeat (first | rw [if_pos (by first | assumption | omega)] | rw [if_neg (by first | assumption | exact not_not_intro (by assumption) | omega)])))⟩
                  · skip
                    refine g_M (M2 := (xm M (rnP c (rnP c (M 77 16 + 3) + 1) + 3) (c (rnP c (rnP c (M 77 16 + 3) + 1) + 1) - 48))) (by rw [sgX_t h_9, show rnP c (rnP c (M 77 16 + 3) + 1) + 2 + 1 = rnP c (rnP c (M 77 16 + 3) + 1) + 3 by omega]) ?_
                    refine g_aload_n cx (pc2 := 158) 0 rfl dX12_readsNeed_157 rfl ?_
                    refine g_iload_n cx (pc2 := 159) 1 rfl dX12_readsNeed_158 rfl ?_
                    refine g_iconst cx (pc2 := 160) dX12_readsNeed_159 rfl ?_
                    refine g_bipush cx (pc2 := 162) ⟨by decide, by decide⟩ dX12_readsNeed_160 rfl ?_
                    refine g_callV cx (pc2 := 165) (st := []) (As := [.int (iI t), .int (iI 1), .int (iI 9)]) (k0 := 77) (ci := 12) (c_X12_figure (M := (xm M (rnP c (rnP c (M 77 16 + 3) + 1) + 3) (c (rnP c (rnP c (M 77 16 + 3) + 1) + 1) - 48))) hn t 1 9 (by exact ht) (by exact TY_xm hy _ _) (by first | (show 0 ≤ M 77 16 + 2 ∧ M 77 16 + 2 ≤ 900; omega) | (show 0 ≤ M 77 16 + 3 ∧ M 77 16 + 3 ≤ 800; omega) | (show 0 ≤ rnP c (M 77 16 + 3) ∧ rnP c (M 77 16 + 3) ≤ 900; omega) | (show 0 ≤ rnP c (M 77 16 + 3) + 1 ∧ rnP c (M 77 16 + 3) + 1 ≤ 800; omega) | (show 0 ≤ rnP c (rnP c (M 77 16 + 3) + 1) ∧ rnP c (rnP c (M 77 16 + 3) + 1) ≤ 900; omega) | (show 0 ≤ rnP c (rnP c (M 77 16 + 3) + 1) + 1 ∧ rnP c (rnP c (M 77 16 + 3) + 1) + 1 ≤ 900; omega) | (show 0 ≤ rnP c (rnP c (M 77 16 + 3) + 1) + 2 ∧ rnP c (rnP c (M 77 16 + 3) + 1) + 2 ≤ 900; omega) | (show 0 ≤ rnP c (rnP c (M 77 16 + 3) + 1) + 3 ∧ rnP c (rnP c (M 77 16 + 3) + 1) + 3 ≤ 900; omega)) (by first | assumption | omega) (by first | assumption | omega)) wM_X12_figure wV_X12_figure kl_X12_147 rfl (lt_lit hn (Nat.le_of_ble_eq_true rfl)) rfl ⟨rfl, rfl, Nat.le_of_ble_eq_true rfl, Nat.le_of_ble_eq_true rfl⟩ (Nat.le_of_ble_eq_true rfl) cs rfl rfl dX12_readsNeed_162 rfl ?_
                    rintro _ _ ⟨rfl, rfl⟩
                    refine g_rwi (y := iI (b2 (fiB c (rnP c (rnP c (M 77 16 + 3) + 1) + 3) 1 9))) (rfl) ?_
                    refine g_ifb_ne cx (pc2 := 168) (tgt := 170) dX12_readsNeed_165 (by decide) rfl (fun h_10 => ?_) (fun h_10 => ?_)
                    · skip
                      have g4 := (fi_iff c (by decide)).mp h_10
                      have e4 := fi_val (by decide) h_10
                      refine g_M (M2 := (xm M (rnP c (rnP c (M 77 16 + 3) + 1) + 4) (c (rnP c (rnP c (M 77 16 + 3) + 1) + 3) - 48))) (by rw [fiX_t h_10, show rnP c (rnP c (M 77 16 + 3) + 1) + 3 + 1 = rnP c (rnP c (M 77 16 + 3) + 1) + 4 by omega]) ?_
                      refine g_bipush cx (pc2 := 172) ⟨by decide, by decide⟩ dX12_readsNeed_170 rfl ?_
                      refine g_aload_n cx (pc2 := 173) 0 rfl dX12_readsNeed_172 rfl ?_
                      refine g_get cx (pc2 := 176) (ci := 12) (k0 := 77) (j := 19) (v := .int (iI ((xm M (rnP c (rnP c (M 77 16 + 3) + 1) + 4) (c (rnP c (rnP c (M 77 16 + 3) + 1) + 3) - 48)) 77 19))) rfl iwX12 rfl (lt_lit hn (Nat.le_of_ble_eq_true rfl)) rfl (Nat.le_of_ble_eq_true rfl) kf_X12_140 rfl rfl dX12_readsNeed_173 rfl ?_
                      refine g_rwi (y := iI (M 77 19)) (rfl) ?_
                      refine g_imul cx (pc2 := 177) dX12_readsNeed_176 rfl ?_
                      refine g_istore cx (pc2 := 179) (lv2 := [(0, .ref 77), (1, .int (iI t)), (2, .int (iI kd)), (3, .int (iI ((c (M 77 16 + 1)) - 65))), (4, .int (iI (nuV c (M 77 16 + 3)))), (5, .int (iI (nuV c (rnP c (M 77 16 + 3) + 1)))), (6, .int (iI (c (rnP c (rnP c (M 77 16 + 3) + 1) + 1) - 48))), (7, .int (iI (6 * (M 77 19))))]) rfl (Nat.le_of_ble_eq_true rfl) dX12_readsNeed_177 rfl ?_
                      refine g_aload_n cx (pc2 := 180) 0 rfl dX12_readsNeed_179 rfl ?_
                      refine g_get cx (pc2 := 183) (ci := 12) (k0 := 77) (j := 21) (v := .ref 88) rfl iwX12 rfl (lt_lit hn (Nat.le_of_ble_eq_true rfl)) rfl (Nat.le_of_ble_eq_true rfl) kf_X12_41 rfl rfl dX12_readsNeed_180 rfl ?_
                      refine g_iload cx (pc2 := 185) 7 rfl dX12_readsNeed_183 rfl ?_
                      refine g_iload_n cx (pc2 := 186) 2 rfl dX12_readsNeed_185 rfl ?_
                      refine g_iast cx (pc2 := 187) (k0 := 88) rfl (lt_lit hn (Nat.le_of_ble_eq_true rfl)) (by first | assumption | omega) (by first | assumption | omega) (Nat.le_of_ble_eq_true rfl) dX12_readsNeed_186 rfl ?_
                      refine g_aload_n cx (pc2 := 188) 0 rfl dX12_readsNeed_187 rfl ?_
                      refine g_get cx (pc2 := 191) (ci := 12) (k0 := 77) (j := 21) (v := .ref 88) rfl iwX12 rfl (lt_lit hn (Nat.le_of_ble_eq_true rfl)) rfl (Nat.le_of_ble_eq_true rfl) kf_X12_41 rfl rfl dX12_readsNeed_188 rfl ?_
                      refine g_iload cx (pc2 := 193) 7 rfl dX12_readsNeed_191 rfl ?_
                      refine g_iconst cx (pc2 := 194) dX12_readsNeed_193 rfl ?_
                      refine g_iadd cx (pc2 := 195) dX12_readsNeed_194 rfl ?_
                      refine g_iload_n cx (pc2 := 196) 3 rfl dX12_readsNeed_195 rfl ?_
                      refine g_iast cx (pc2 := 197) (k0 := 88) rfl (lt_lit hn (Nat.le_of_ble_eq_true rfl)) (by first | assumption | omega) (by first | assumption | omega) (Nat.le_of_ble_eq_true rfl) dX12_readsNeed_196 rfl ?_
                      refine g_aload_n cx (pc2 := 198) 0 rfl dX12_readsNeed_197 rfl ?_
                      refine g_get cx (pc2 := 201) (ci := 12) (k0 := 77) (j := 21) (v := .ref 88) rfl iwX12 rfl (lt_lit hn (Nat.le_of_ble_eq_true rfl)) rfl (Nat.le_of_ble_eq_true rfl) kf_X12_41 rfl rfl dX12_readsNeed_198 rfl ?_
                      refine g_iload cx (pc2 := 203) 7 rfl dX12_readsNeed_201 rfl ?_
                      refine g_iconst cx (pc2 := 204) dX12_readsNeed_203 rfl ?_
                      refine g_iadd cx (pc2 := 205) dX12_readsNeed_204 rfl ?_
                      refine g_iload cx (pc2 := 207) 4 rfl dX12_readsNeed_205 rfl ?_
                      refine g_iast cx (pc2 := 208) (k0 := 88) rfl (lt_lit hn (Nat.le_of_ble_eq_true rfl)) (by first | assumption | omega) (by first | assumption | omega) (Nat.le_of_ble_eq_true rfl) dX12_readsNeed_207 rfl ?_
                      refine g_aload_n cx (pc2 := 209) 0 rfl dX12_readsNeed_208 rfl ?_
                      refine g_get cx (pc2 := 212) (ci := 12) (k0 := 77) (j := 21) (v := .ref 88) rfl iwX12 rfl (lt_lit hn (Nat.le_of_ble_eq_true rfl)) rfl (Nat.le_of_ble_eq_true rfl) kf_X12_41 rfl rfl dX12_readsNeed_209 rfl ?_
                      refine g_iload cx (pc2 := 214) 7 rfl dX12_readsNeed_212 rfl ?_
                      refine g_iconst cx (pc2 := 215) dX12_readsNeed_214 rfl ?_
                      refine g_iadd cx (pc2 := 216) dX12_readsNeed_215 rfl ?_
                      refine g_iload cx (pc2 := 218) 5 rfl dX12_readsNeed_216 rfl ?_
                      refine g_iast cx (pc2 := 219) (k0 := 88) rfl (lt_lit hn (Nat.le_of_ble_eq_true rfl)) (by first | assumption | omega) (by first | assumption | omega) (Nat.le_of_ble_eq_true rfl) dX12_readsNeed_218 rfl ?_
                      refine g_aload_n cx (pc2 := 220) 0 rfl dX12_readsNeed_219 rfl ?_
                      refine g_get cx (pc2 := 223) (ci := 12) (k0 := 77) (j := 21) (v := .ref 88) rfl iwX12 rfl (lt_lit hn (Nat.le_of_ble_eq_true rfl)) rfl (Nat.le_of_ble_eq_true rfl) kf_X12_41 rfl rfl dX12_readsNeed_220 rfl ?_
                      refine g_iload cx (pc2 := 225) 7 rfl dX12_readsNeed_223 rfl ?_
                      refine g_iconst cx (pc2 := 226) dX12_readsNeed_225 rfl ?_
                      refine g_iadd cx (pc2 := 227) dX12_readsNeed_226 rfl ?_
                      refine g_iload cx (pc2 := 229) 6 rfl dX12_readsNeed_227 rfl ?_
                      refine g_iast cx (pc2 := 230) (k0 := 88) rfl (lt_lit hn (Nat.le_of_ble_eq_true rfl)) (by first | assumption | omega) (by first | assumption | omega) (Nat.le_of_ble_eq_true rfl) dX12_readsNeed_229 rfl ?_
                      refine g_aload_n cx (pc2 := 231) 0 rfl dX12_readsNeed_230 rfl ?_
                      refine g_get cx (pc2 := 234) (ci := 12) (k0 := 77) (j := 21) (v := .ref 88) rfl iwX12 rfl (lt_lit hn (Nat.le_of_ble_eq_true rfl)) rfl (Nat.le_of_ble_eq_true rfl) kf_X12_41 rfl rfl dX12_readsNeed_231 rfl ?_
                      refine g_iload cx (pc2 := 236) 7 rfl dX12_readsNeed_234 rfl ?_
                      refine g_iconst cx (pc2 := 237) dX12_readsNeed_236 rfl ?_
                      refine g_iadd cx (pc2 := 238) dX12_readsNeed_237 rfl ?_
                      refine g_aload_n cx (pc2 := 239) 0 rfl dX12_readsNeed_238 rfl ?_
                      refine g_get cx (pc2 := 242) (ci := 12) (k0 := 77) (j := 17) (v := .int (iI ((xm M (rnP c (rnP c (M 77 16 + 3) + 1) + 4) (c (rnP c (rnP c (M 77 16 + 3) + 1) + 3) - 48)) 77 17))) rfl iwX12 rfl (lt_lit hn (Nat.le_of_ble_eq_true rfl)) rfl (Nat.le_of_ble_eq_true rfl) kf_X12_131 rfl (congrArg (fun q => Value.int (iI q)) (by simp [stM])) dX12_readsNeed_239 rfl ?_
                      refine g_iast cx (pc2 := 243) (k0 := 88) rfl (lt_lit hn (Nat.le_of_ble_eq_true rfl)) (by first | assumption | omega) (by first | assumption | omega) (Nat.le_of_ble_eq_true rfl) dX12_readsNeed_242 rfl ?_
                      refine g_aload_n cx (pc2 := 244) 0 rfl dX12_readsNeed_243 rfl ?_
                      refine g_dup cx (pc2 := 245) rfl dX12_readsNeed_244 rfl ?_
                      refine g_get cx (pc2 := 248) (ci := 12) (k0 := 77) (j := 19) (v := .int (iI ((xm M (rnP c (rnP c (M 77 16 + 3) + 1) + 4) (c (rnP c (rnP c (M 77 16 + 3) + 1) + 3) - 48)) 77 19))) rfl iwX12 rfl (lt_lit hn (Nat.le_of_ble_eq_true rfl)) rfl (Nat.le_of_ble_eq_true rfl) kf_X12_140 rfl (congrArg (fun q => Value.int (iI q)) (by simp [stM])) dX12_readsNeed_245 rfl ?_
                      refine g_iconst cx (pc2 := 249) dX12_readsNeed_248 rfl ?_
                      refine g_iadd cx (pc2 := 250) dX12_readsNeed_249 rfl ?_
                      refine g_puti cx (pc2 := 253) (ci := 12) (k0 := 77) (j := 19) rfl iwX12 rfl (lt_lit hn (Nat.le_of_ble_eq_true rfl)) rfl (Nat.le_of_ble_eq_true rfl) kf_X12_140 rfl tyX12_ok nmX12 rfl rfl dX12_readsNeed_250 rfl ?_
                      refine g_iconst cx (pc2 := 254) dX12_readsNeed_253 rfl ?_
                      exact g_zret cx (Or.inr rfl) qx dX12_readsNeed_254 ⟨_, rfl, by refine rnX_s (q := rnP c (rnP c (M 77 16 + 3) + 1) + 4) (v := c (rnP c (rnP c (M 77 16 + 3) + 1) + 3) - 48) (d := (kdO (c (M 77 16)), c (M 77 16 + 1) - 65, rnV c (M 77 16 + 3) 27, rnV c (rnP c (M 77 16 + 3) + 1) 27, rfV c (rnP c (rnP c (M 77 16 + 3) + 1) + 1) 4, rfV c (rnP c (rnP c (M 77 16 + 3) + 1) + 3) 9)) (by unfold pNd; (repeat (first | rw [if_pos (by first | assumption | omega)] | rw [if_neg (by first | assumption | exact not_not_intro (by assumption) | omega)]))) ?_; rw [← hkd.1, ← e1, ← e2, ← e3, ← e4]; rfl⟩
                    · skip
                      have g4 : rfV c (rnP c (rnP c (M 77 16 + 3) + 1) + 3) 9 = -9 := Decidable.not_not.mp (fun z => h_10 ((fi_iff c (by decide)).mpr z))
                      refine g_M (M2 := (xm M (rnP c (rnP c (M 77 16 + 3) + 1) + 3) (c (rnP c (rnP c (M 77 16 + 3) + 1) + 3) - 48))) (by exact fiX_f h_10) ?_
                      refine g_iconst cx (pc2 := 169) dX12_readsNeed_168 rfl ?_
                      exact g_zret cx (Or.inl rfl) qx dX12_readsNeed_169 ⟨_, rfl, by exact rnX_n (by unfold pNd; (repeat (first | rw [if_pos (by first | assumption | omega)] | rw [if_neg (by first | assumption | exact not_not_intro (by assumption) | omega)])))⟩
                · skip
                  have g3 : rfV c (rnP c (rnP c (M 77 16 + 3) + 1) + 1) 4 = -9 := Decidable.not_not.mp (fun z => h_8 ((fi_iff c (by decide)).mpr z))
                  refine g_M (M2 := (xm M (rnP c (rnP c (M 77 16 + 3) + 1) + 1) (c (rnP c (rnP c (M 77 16 + 3) + 1) + 1) - 48))) (by exact fiX_f h_8) ?_
                  refine g_iconst cx (pc2 := 140) dX12_readsNeed_139 rfl ?_
                  exact g_zret cx (Or.inl rfl) qx dX12_readsNeed_140 ⟨_, rfl, by exact rnX_n (by unfold pNd; (repeat (first | rw [if_pos (by first | assumption | omega)] | rw [if_neg (by first | assumption | exact not_not_intro (by assumption) | omega)])))⟩
            · skip
              have g2 := Decidable.not_not.mp (fun z => h_6 ((nu_iff2 c hb1.1).mpr z))
              rw [e1] at g2
              refine g_M (M2 := (xm M (rnP c (rnP c (M 77 16 + 3) + 1)) (nuV c (rnP c (M 77 16 + 3) + 1)))) (by exact nuX_e c M _ _) ?_
              refine g_iconst cx (pc2 := 112) dX12_readsNeed_111 rfl ?_
              exact g_zret cx (Or.inl rfl) qx dX12_readsNeed_112 ⟨_, rfl, by exact rnX_n (by unfold pNd; (repeat (first | rw [if_pos (by first | assumption | omega)] | rw [if_neg (by first | assumption | exact not_not_intro (by assumption) | omega)])))⟩
        · skip
          have g1 : rnV c (M 77 16 + 3) 27 = -9 := Decidable.not_not.mp (fun z => h_4 ((nu_iff c _ _).mpr z))
          refine g_M (M2 := (xm M (rnP c (M 77 16 + 3)) (nuV c (M 77 16 + 3)))) (by exact nuX_e c M _ _) ?_
          refine g_iconst cx (pc2 := 82) dX12_readsNeed_81 rfl ?_
          exact g_zret cx (Or.inl rfl) qx dX12_readsNeed_82 ⟨_, rfl, by exact rnX_n (by unfold pNd; (repeat (first | rw [if_pos (by first | assumption | omega)] | rw [if_neg (by first | assumption | exact not_not_intro (by assumption) | omega)])))⟩
    · skip
      refine g_iconst cx (pc2 := 49) dX12_readsNeed_48 rfl ?_
      exact g_zret cx (Or.inl rfl) qx dX12_readsNeed_49 ⟨_, rfl, by exact rnX_n (by unfold pNd; (repeat (first | rw [if_pos (by first | assumption | omega)] | rw [if_neg (by first | assumption | exact not_not_intro (by assumption) | omega)])))⟩
  · skip
    refine g_iconst cx (pc2 := 10) dX12_readsNeed_9 rfl ?_
    exact g_zret cx (Or.inl rfl) qx dX12_readsNeed_10 ⟨_, rfl, by have e : M = xm M (M 77 16) (M 77 17) := (by unfold xm; rw [stM_self, stM_self]); have g := rnX_n (c := c) (M := M) (q := M 77 16) (v := M 77 17) (by unfold pNd; (repeat (first | rw [if_pos (by first | assumption | omega)] | rw [if_neg (by first | assumption | exact not_not_intro (by assumption) | omega)]))); rw [← e] at g; exact g⟩
