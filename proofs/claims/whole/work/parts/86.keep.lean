def k7 (M M2 : Mm) : Prop := ∀ a, 77 ≤ a → a ≤ 103 → M2 a = M a
theorem k7.rf (M : Mm) : k7 M M := fun _ _ _ => rfl
theorem Rl.k7 {M M2 : Mm} (h : Rl M) (k : k7 M M2) : RlI M2 ∧ RB M2 := by
  have h1 := h.2.2.2
  have e77 := k 77 (by decide) (by decide)
  have e79 := k 79 (by decide) (by decide)
  have e80 := k 80 (by decide) (by decide)
  have e82 := k 82 (by decide) (by decide)
  have e83 := k 83 (by decide) (by decide)
  have e84 := k 84 (by decide) (by decide)
  have e85 := k 85 (by decide) (by decide)
  have e86 := k 86 (by decide) (by decide)
  have e87 := k 87 (by decide) (by decide)
  have e88 := k 88 (by decide) (by decide)
  have e93 := k 93 (by decide) (by decide)
  have e99 := k 99 (by decide) (by decide)
  have e100 := k 100 (by decide) (by decide)
  have e101 := k 101 (by decide) (by decide)
  have e102 := k 102 (by decide) (by decide)
  have e103 := k 103 (by decide) (by decide)
  refine ⟨?_, RB_of h1.2 e87 e88⟩
  have h2 := h1.1
  unfold RlI RV RQ RT DLX TNX TRX at h2 ⊢
  unfold xd at h2 ⊢
  rw [e77, e79, e80, e82, e83, e84, e85, e86, e93, e99, e100, e101, e102, e103]
  exact h2
theorem cpM_of {M : Mm} {k0 k1 sp dp n a : Nat} (h : a ≠ k1) : cpM M k0 k1 sp dp n a = M a := by
  funext b
  unfold cpM
  rw [if_neg (by omega)]
theorem adM_of {M : Mm} {o : Nat} {h v : Int} {a : Nat} (h1 : a ≠ o) (h2 : a ≠ o + 1) (h3 : a ≠ o + 2) : adM M o h v a = M a := by
  unfold adM
  split
  · rw [stM_off h1, stM_off h3, stM_off h2]
  · rfl
theorem unM_of {q : Int} {a : Nat} (h : 77 ≤ a) : ∀ (k : Nat) (M : Mm), unM M q k a = M a
  | 0, _ => rfl
  | k + 1, M => by
    rw [unM, unM_of h k, stM_off (by omega), seM_off _ _ _ _ _ (by omega) (by omega)]
theorem twM_of {M : Mm} {o a : Nat} (h1 : a ≠ o) (h2 : a ≠ o + 1) : twM M o a = M a := twP_off h1 h2
theorem gfX_of {M : Mm} {w : Int} {a : Nat} (h : 77 ≤ a) : gfX M w a = M a := by
  unfold gfX
  split
  · exact gfA_off _ _ (by omega)
  · exact gfO_off _ _ (by omega)
theorem k7_row {M : Mm} (h : CI M) (r q : Int) : k7 M (rowM M r q) := by
  intro a h1 h2
  unfold rowM
  (repeat' split) <;> (repeat (first | rfl | exact stM_off (by omega) | rw [stM_off (by omega)] | rw [tdM_o (by omega)] | rw [fdM_o (by omega) (by omega)] | rw [frM_off _ _ _ (by omega)] | rw [gfA_off _ _ (by omega)] | rw [ldM_off (by omega)] | rw [mkM_off _ _ _ _ (by omega) (by omega)] | rw [twP_off (by omega) (by omega)] | rw [gfO_off _ _ (by omega)] | rw [gaM_off _ _ (by omega)] | rw [seT_off _ _ (by omega)] | rw [rcM_off _ _ _ _ (by omega) (by omega)] | rw [twJ_off _ _ _ (by omega)] | rw [toM_o (by omega) (by omega) (by omega)] | rw [enM_o (by omega)] | rw [clM_off _ (by omega)] | rw [onF_off _ _ (by omega)] | rw [imF_off _ _ (by omega) (by omega)] | rw [noS_off _ _ _ (by omega)] | rw [tkP_off ⟨by omega, by omega⟩] | rw [goM_off _ ⟨by omega, by omega, by omega⟩] | rw [cpM_of (by omega)] | rw [adM_of (by omega) (by omega) (by omega)] | rw [unM_of (by omega)] | rw [twM_of (by omega) (by omega)] | rw [gfX_of (by omega)] | rw [dfM_off h (by assumption) (by omega)] | rw [vlM_off h (by assumption) (by omega)]))
theorem k7_lay {M : Mm} (h : CI M) (r i v : Int) : k7 M (layM M r i v) := by
  intro a h1 h2
  unfold layM
  (repeat' split) <;> (repeat (first | rfl | exact stM_off (by omega) | rw [stM_off (by omega)] | rw [tdM_o (by omega)] | rw [fdM_o (by omega) (by omega)] | rw [frM_off _ _ _ (by omega)] | rw [gfA_off _ _ (by omega)] | rw [ldM_off (by omega)] | rw [mkM_off _ _ _ _ (by omega) (by omega)] | rw [twP_off (by omega) (by omega)] | rw [gfO_off _ _ (by omega)] | rw [gaM_off _ _ (by omega)] | rw [seT_off _ _ (by omega)] | rw [rcM_off _ _ _ _ (by omega) (by omega)] | rw [twJ_off _ _ _ (by omega)] | rw [toM_o (by omega) (by omega) (by omega)] | rw [enM_o (by omega)] | rw [clM_off _ (by omega)] | rw [onF_off _ _ (by omega)] | rw [imF_off _ _ (by omega) (by omega)] | rw [noS_off _ _ _ (by omega)] | rw [tkP_off ⟨by omega, by omega⟩] | rw [goM_off _ ⟨by omega, by omega, by omega⟩] | rw [cpM_of (by omega)] | rw [adM_of (by omega) (by omega) (by omega)] | rw [unM_of (by omega)] | rw [twM_of (by omega) (by omega)] | rw [gfX_of (by omega)] | rw [dfM_off h (by assumption) (by omega)] | rw [vlM_off h (by assumption) (by omega)]))
theorem k7_at {M : Mm} (h : CI M) (r i : Int) : k7 M (atM M r i) := by
  intro a h1 h2
  unfold atM
  (repeat' split) <;> (repeat (first | rfl | exact stM_off (by omega) | rw [stM_off (by omega)] | rw [tdM_o (by omega)] | rw [fdM_o (by omega) (by omega)] | rw [frM_off _ _ _ (by omega)] | rw [gfA_off _ _ (by omega)] | rw [ldM_off (by omega)] | rw [mkM_off _ _ _ _ (by omega) (by omega)] | rw [twP_off (by omega) (by omega)] | rw [gfO_off _ _ (by omega)] | rw [gaM_off _ _ (by omega)] | rw [seT_off _ _ (by omega)] | rw [rcM_off _ _ _ _ (by omega) (by omega)] | rw [twJ_off _ _ _ (by omega)] | rw [toM_o (by omega) (by omega) (by omega)] | rw [enM_o (by omega)] | rw [clM_off _ (by omega)] | rw [onF_off _ _ (by omega)] | rw [imF_off _ _ (by omega) (by omega)] | rw [noS_off _ _ _ (by omega)] | rw [tkP_off ⟨by omega, by omega⟩] | rw [goM_off _ ⟨by omega, by omega, by omega⟩] | rw [cpM_of (by omega)] | rw [adM_of (by omega) (by omega) (by omega)] | rw [unM_of (by omega)] | rw [twM_of (by omega) (by omega)] | rw [gfX_of (by omega)] | rw [dfM_off h (by assumption) (by omega)] | rw [vlM_off h (by assumption) (by omega)]))
theorem k7_tear {M : Mm} (h : CI M) (r : Int) : k7 M (tearM M r) := by
  intro a h1 h2
  unfold tearM
  (repeat' split) <;> (repeat (first | rfl | exact stM_off (by omega) | rw [stM_off (by omega)] | rw [tdM_o (by omega)] | rw [fdM_o (by omega) (by omega)] | rw [frM_off _ _ _ (by omega)] | rw [gfA_off _ _ (by omega)] | rw [ldM_off (by omega)] | rw [mkM_off _ _ _ _ (by omega) (by omega)] | rw [twP_off (by omega) (by omega)] | rw [gfO_off _ _ (by omega)] | rw [gaM_off _ _ (by omega)] | rw [seT_off _ _ (by omega)] | rw [rcM_off _ _ _ _ (by omega) (by omega)] | rw [twJ_off _ _ _ (by omega)] | rw [toM_o (by omega) (by omega) (by omega)] | rw [enM_o (by omega)] | rw [clM_off _ (by omega)] | rw [onF_off _ _ (by omega)] | rw [imF_off _ _ (by omega) (by omega)] | rw [noS_off _ _ _ (by omega)] | rw [tkP_off ⟨by omega, by omega⟩] | rw [goM_off _ ⟨by omega, by omega, by omega⟩] | rw [cpM_of (by omega)] | rw [adM_of (by omega) (by omega) (by omega)] | rw [unM_of (by omega)] | rw [twM_of (by omega) (by omega)] | rw [gfX_of (by omega)] | rw [dfM_off h (by assumption) (by omega)] | rw [vlM_off h (by assumption) (by omega)]))
theorem k7_copy {M : Mm} (h : CI M) (r i t j q : Int) : k7 M (copyM M r i t j q) := by
  intro a h1 h2
  unfold copyM
  (repeat' split) <;> (repeat (first | rfl | exact stM_off (by omega) | rw [stM_off (by omega)] | rw [tdM_o (by omega)] | rw [fdM_o (by omega) (by omega)] | rw [frM_off _ _ _ (by omega)] | rw [gfA_off _ _ (by omega)] | rw [ldM_off (by omega)] | rw [mkM_off _ _ _ _ (by omega) (by omega)] | rw [twP_off (by omega) (by omega)] | rw [gfO_off _ _ (by omega)] | rw [gaM_off _ _ (by omega)] | rw [seT_off _ _ (by omega)] | rw [rcM_off _ _ _ _ (by omega) (by omega)] | rw [twJ_off _ _ _ (by omega)] | rw [toM_o (by omega) (by omega) (by omega)] | rw [enM_o (by omega)] | rw [clM_off _ (by omega)] | rw [onF_off _ _ (by omega)] | rw [imF_off _ _ (by omega) (by omega)] | rw [noS_off _ _ _ (by omega)] | rw [tkP_off ⟨by omega, by omega⟩] | rw [goM_off _ ⟨by omega, by omega, by omega⟩] | rw [cpM_of (by omega)] | rw [adM_of (by omega) (by omega) (by omega)] | rw [unM_of (by omega)] | rw [twM_of (by omega) (by omega)] | rw [gfX_of (by omega)] | rw [dfM_off h (by assumption) (by omega)] | rw [vlM_off h (by assumption) (by omega)]))
theorem k7_mean {M : Mm} (h : CI M) (r : Int) : k7 M (meanM M r) := by
  intro a h1 h2
  unfold meanM
  (repeat' split) <;> (repeat (first | rfl | exact stM_off (by omega) | rw [stM_off (by omega)] | rw [tdM_o (by omega)] | rw [fdM_o (by omega) (by omega)] | rw [frM_off _ _ _ (by omega)] | rw [gfA_off _ _ (by omega)] | rw [ldM_off (by omega)] | rw [mkM_off _ _ _ _ (by omega) (by omega)] | rw [twP_off (by omega) (by omega)] | rw [gfO_off _ _ (by omega)] | rw [gaM_off _ _ (by omega)] | rw [seT_off _ _ (by omega)] | rw [rcM_off _ _ _ _ (by omega) (by omega)] | rw [twJ_off _ _ _ (by omega)] | rw [toM_o (by omega) (by omega) (by omega)] | rw [enM_o (by omega)] | rw [clM_off _ (by omega)] | rw [onF_off _ _ (by omega)] | rw [imF_off _ _ (by omega) (by omega)] | rw [noS_off _ _ _ (by omega)] | rw [tkP_off ⟨by omega, by omega⟩] | rw [goM_off _ ⟨by omega, by omega, by omega⟩] | rw [cpM_of (by omega)] | rw [adM_of (by omega) (by omega) (by omega)] | rw [unM_of (by omega)] | rw [twM_of (by omega) (by omega)] | rw [gfX_of (by omega)] | rw [dfM_off h (by assumption) (by omega)] | rw [vlM_off h (by assumption) (by omega)]))
theorem k7_text {M : Mm} (h : CI M) (r q : Int) : k7 M (textM M r q) := by
  intro a h1 h2
  unfold textM
  (repeat' split) <;> (repeat (first | rfl | exact stM_off (by omega) | rw [stM_off (by omega)] | rw [tdM_o (by omega)] | rw [fdM_o (by omega) (by omega)] | rw [frM_off _ _ _ (by omega)] | rw [gfA_off _ _ (by omega)] | rw [ldM_off (by omega)] | rw [mkM_off _ _ _ _ (by omega) (by omega)] | rw [twP_off (by omega) (by omega)] | rw [gfO_off _ _ (by omega)] | rw [gaM_off _ _ (by omega)] | rw [seT_off _ _ (by omega)] | rw [rcM_off _ _ _ _ (by omega) (by omega)] | rw [twJ_off _ _ _ (by omega)] | rw [toM_o (by omega) (by omega) (by omega)] | rw [enM_o (by omega)] | rw [clM_off _ (by omega)] | rw [onF_off _ _ (by omega)] | rw [imF_off _ _ (by omega) (by omega)] | rw [noS_off _ _ _ (by omega)] | rw [tkP_off ⟨by omega, by omega⟩] | rw [goM_off _ ⟨by omega, by omega, by omega⟩] | rw [cpM_of (by omega)] | rw [adM_of (by omega) (by omega) (by omega)] | rw [unM_of (by omega)] | rw [twM_of (by omega) (by omega)] | rw [gfX_of (by omega)] | rw [dfM_off h (by assumption) (by omega)] | rw [vlM_off h (by assumption) (by omega)]))
theorem k7_put {M : Mm} (h : CI M) (r i v : Int) : k7 M (putM M r i v) := by
  intro a h1 h2
  unfold putM
  (repeat' split) <;> (repeat (first | rfl | exact stM_off (by omega) | rw [stM_off (by omega)] | rw [tdM_o (by omega)] | rw [fdM_o (by omega) (by omega)] | rw [frM_off _ _ _ (by omega)] | rw [gfA_off _ _ (by omega)] | rw [ldM_off (by omega)] | rw [mkM_off _ _ _ _ (by omega) (by omega)] | rw [twP_off (by omega) (by omega)] | rw [gfO_off _ _ (by omega)] | rw [gaM_off _ _ (by omega)] | rw [seT_off _ _ (by omega)] | rw [rcM_off _ _ _ _ (by omega) (by omega)] | rw [twJ_off _ _ _ (by omega)] | rw [toM_o (by omega) (by omega) (by omega)] | rw [enM_o (by omega)] | rw [clM_off _ (by omega)] | rw [onF_off _ _ (by omega)] | rw [imF_off _ _ (by omega) (by omega)] | rw [noS_off _ _ _ (by omega)] | rw [tkP_off ⟨by omega, by omega⟩] | rw [goM_off _ ⟨by omega, by omega, by omega⟩] | rw [cpM_of (by omega)] | rw [adM_of (by omega) (by omega) (by omega)] | rw [unM_of (by omega)] | rw [twM_of (by omega) (by omega)] | rw [gfX_of (by omega)] | rw [dfM_off h (by assumption) (by omega)] | rw [vlM_off h (by assumption) (by omega)]))
theorem k7_fault {M : Mm} (h : CI M) (r : Int) : k7 M (fauM M r) := by
  intro a h1 h2
  unfold fauM
  by_cases hT : T4 r
  · rw [if_neg (not_not_intro hT)]
    split
    · rw [fdM_o (by omega) (by omega)]
    · rw [dfM_off h hT (by omega)]
  · rw [if_pos hT]
theorem k7_village {M : Mm} (h : CI M) (r : Int) : k7 M (villM M r) := by
  intro a h1 h2
  unfold villM
  by_cases hT : T4 r
  · rw [if_neg (not_not_intro hT)]
    split
    · rw [fdM_o (by omega) (by omega)]
    · split
      · rw [dfM_off h hT (by omega)]
      · unfold vilM
        rw [stM_off (by omega), stM_off (by omega), clM_off _ (by omega), vlM_off h hT (by omega)]
  · rw [if_pos hT]
theorem k7_house {M : Mm} (h : CI M) (q : Int) : k7 M (houM M q) := by
  intro a h1 h2
  unfold houM
  (repeat' split) <;> (repeat (first | rfl | exact stM_off (by omega) | rw [stM_off (by omega)] | rw [tdM_o (by omega)] | rw [fdM_o (by omega) (by omega)] | rw [frM_off _ _ _ (by omega)] | rw [gfA_off _ _ (by omega)] | rw [ldM_off (by omega)] | rw [mkM_off _ _ _ _ (by omega) (by omega)] | rw [twP_off (by omega) (by omega)] | rw [gfO_off _ _ (by omega)] | rw [gaM_off _ _ (by omega)] | rw [seT_off _ _ (by omega)] | rw [rcM_off _ _ _ _ (by omega) (by omega)] | rw [twJ_off _ _ _ (by omega)] | rw [toM_o (by omega) (by omega) (by omega)] | rw [enM_o (by omega)] | rw [clM_off _ (by omega)] | rw [onF_off _ _ (by omega)] | rw [imF_off _ _ (by omega) (by omega)] | rw [noS_off _ _ _ (by omega)] | rw [tkP_off ⟨by omega, by omega⟩] | rw [goM_off _ ⟨by omega, by omega, by omega⟩] | rw [cpM_of (by omega)] | rw [adM_of (by omega) (by omega) (by omega)] | rw [unM_of (by omega)] | rw [twM_of (by omega) (by omega)] | rw [gfX_of (by omega)] | rw [dfM_off h (by assumption) (by omega)] | rw [vlM_off h (by assumption) (by omega)]))
theorem k7_need {M : Mm} (h : CI M) (i w : Int) : k7 M (neeM M i w) := by
  intro a h1 h2
  unfold neeM
  by_cases hc : ¬ NS M i ∨ w < 0 ∨ 5 < w
  · rw [if_pos hc]
  · rw [if_neg hc, tdM_o (by omega)]
theorem k7_mark {M : Mm} (h : CI M) (i k : Int) : k7 M (marM M i k) := by
  intro a h1 h2
  unfold marM
  (repeat' split) <;> (repeat (first | rfl | exact stM_off (by omega) | rw [stM_off (by omega)] | rw [tdM_o (by omega)] | rw [fdM_o (by omega) (by omega)] | rw [frM_off _ _ _ (by omega)] | rw [gfA_off _ _ (by omega)] | rw [ldM_off (by omega)] | rw [mkM_off _ _ _ _ (by omega) (by omega)] | rw [twP_off (by omega) (by omega)] | rw [gfO_off _ _ (by omega)] | rw [gaM_off _ _ (by omega)] | rw [seT_off _ _ (by omega)] | rw [rcM_off _ _ _ _ (by omega) (by omega)] | rw [twJ_off _ _ _ (by omega)] | rw [toM_o (by omega) (by omega) (by omega)] | rw [enM_o (by omega)] | rw [clM_off _ (by omega)] | rw [onF_off _ _ (by omega)] | rw [imF_off _ _ (by omega) (by omega)] | rw [noS_off _ _ _ (by omega)] | rw [tkP_off ⟨by omega, by omega⟩] | rw [goM_off _ ⟨by omega, by omega, by omega⟩] | rw [cpM_of (by omega)] | rw [adM_of (by omega) (by omega) (by omega)] | rw [unM_of (by omega)] | rw [twM_of (by omega) (by omega)] | rw [gfX_of (by omega)] | rw [dfM_off h (by assumption) (by omega)] | rw [vlM_off h (by assumption) (by omega)]))
theorem k7_start {M : Mm} (h : CI M) (q : Int) : k7 M (staM M q) := by
  intro a h1 h2
  unfold staM
  (repeat' split) <;> (repeat (first | rfl | exact stM_off (by omega) | rw [stM_off (by omega)] | rw [tdM_o (by omega)] | rw [fdM_o (by omega) (by omega)] | rw [frM_off _ _ _ (by omega)] | rw [gfA_off _ _ (by omega)] | rw [ldM_off (by omega)] | rw [mkM_off _ _ _ _ (by omega) (by omega)] | rw [twP_off (by omega) (by omega)] | rw [gfO_off _ _ (by omega)] | rw [gaM_off _ _ (by omega)] | rw [seT_off _ _ (by omega)] | rw [rcM_off _ _ _ _ (by omega) (by omega)] | rw [twJ_off _ _ _ (by omega)] | rw [toM_o (by omega) (by omega) (by omega)] | rw [enM_o (by omega)] | rw [clM_off _ (by omega)] | rw [onF_off _ _ (by omega)] | rw [imF_off _ _ (by omega) (by omega)] | rw [noS_off _ _ _ (by omega)] | rw [tkP_off ⟨by omega, by omega⟩] | rw [goM_off _ ⟨by omega, by omega, by omega⟩] | rw [cpM_of (by omega)] | rw [adM_of (by omega) (by omega) (by omega)] | rw [unM_of (by omega)] | rw [twM_of (by omega) (by omega)] | rw [gfX_of (by omega)] | rw [dfM_off h (by assumption) (by omega)] | rw [vlM_off h (by assumption) (by omega)]))
theorem k7_chance {M : Mm} (h : CI M) (i p : Int) : k7 M (chaM M i p) := by
  intro a h1 h2
  unfold chaM
  have h4 := h.l
  by_cases hc : ¬ NS M i ∨ p < 0 ∨ 12 < p
  · rw [if_pos hc]
  · rw [if_neg hc]
    have hi : NS M i := Classical.byContradiction fun q => hc (Or.inl q)
    have h8 : M 23 4 ≤ 8 := by have := h.l; unfold LW at this; omega
    split
    · rw [fdM_o (by omega) (by omega)]
    · rw [stM_off (by omega)]
theorem k7_order {M : Mm} (h : CI M) (r : Int) : k7 M (ordM M r) := by
  intro a h1 h2
  unfold ordM
  (repeat' split) <;> (repeat (first | rfl | exact stM_off (by omega) | rw [stM_off (by omega)] | rw [tdM_o (by omega)] | rw [fdM_o (by omega) (by omega)] | rw [frM_off _ _ _ (by omega)] | rw [gfA_off _ _ (by omega)] | rw [ldM_off (by omega)] | rw [mkM_off _ _ _ _ (by omega) (by omega)] | rw [twP_off (by omega) (by omega)] | rw [gfO_off _ _ (by omega)] | rw [gaM_off _ _ (by omega)] | rw [seT_off _ _ (by omega)] | rw [rcM_off _ _ _ _ (by omega) (by omega)] | rw [twJ_off _ _ _ (by omega)] | rw [toM_o (by omega) (by omega) (by omega)] | rw [enM_o (by omega)] | rw [clM_off _ (by omega)] | rw [onF_off _ _ (by omega)] | rw [imF_off _ _ (by omega) (by omega)] | rw [noS_off _ _ _ (by omega)] | rw [tkP_off ⟨by omega, by omega⟩] | rw [goM_off _ ⟨by omega, by omega, by omega⟩] | rw [cpM_of (by omega)] | rw [adM_of (by omega) (by omega) (by omega)] | rw [unM_of (by omega)] | rw [twM_of (by omega) (by omega)] | rw [gfX_of (by omega)] | rw [dfM_off h (by assumption) (by omega)] | rw [vlM_off h (by assumption) (by omega)]))
theorem k7_begins {M : Mm} (h : CI M) (r i : Int) : k7 M (begM M r i) := by
  intro a h1 h2
  unfold begM
  (repeat' split) <;> (repeat (first | rfl | exact stM_off (by omega) | rw [stM_off (by omega)] | rw [tdM_o (by omega)] | rw [fdM_o (by omega) (by omega)] | rw [frM_off _ _ _ (by omega)] | rw [gfA_off _ _ (by omega)] | rw [ldM_off (by omega)] | rw [mkM_off _ _ _ _ (by omega) (by omega)] | rw [twP_off (by omega) (by omega)] | rw [gfO_off _ _ (by omega)] | rw [gaM_off _ _ (by omega)] | rw [seT_off _ _ (by omega)] | rw [rcM_off _ _ _ _ (by omega) (by omega)] | rw [twJ_off _ _ _ (by omega)] | rw [toM_o (by omega) (by omega) (by omega)] | rw [enM_o (by omega)] | rw [clM_off _ (by omega)] | rw [onF_off _ _ (by omega)] | rw [imF_off _ _ (by omega) (by omega)] | rw [noS_off _ _ _ (by omega)] | rw [tkP_off ⟨by omega, by omega⟩] | rw [goM_off _ ⟨by omega, by omega, by omega⟩] | rw [cpM_of (by omega)] | rw [adM_of (by omega) (by omega) (by omega)] | rw [unM_of (by omega)] | rw [twM_of (by omega) (by omega)] | rw [gfX_of (by omega)] | rw [dfM_off h (by assumption) (by omega)] | rw [vlM_off h (by assumption) (by omega)]))
theorem k7_can {M : Mm} (h : CI M) (w : Int) : k7 M (canM M w) := by
  intro a h1 h2
  unfold canM
  (repeat' split) <;> (repeat (first | rfl | exact stM_off (by omega) | rw [stM_off (by omega)] | rw [tdM_o (by omega)] | rw [fdM_o (by omega) (by omega)] | rw [frM_off _ _ _ (by omega)] | rw [gfA_off _ _ (by omega)] | rw [ldM_off (by omega)] | rw [mkM_off _ _ _ _ (by omega) (by omega)] | rw [twP_off (by omega) (by omega)] | rw [gfO_off _ _ (by omega)] | rw [gaM_off _ _ (by omega)] | rw [seT_off _ _ (by omega)] | rw [rcM_off _ _ _ _ (by omega) (by omega)] | rw [twJ_off _ _ _ (by omega)] | rw [toM_o (by omega) (by omega) (by omega)] | rw [enM_o (by omega)] | rw [clM_off _ (by omega)] | rw [onF_off _ _ (by omega)] | rw [imF_off _ _ (by omega) (by omega)] | rw [noS_off _ _ _ (by omega)] | rw [tkP_off ⟨by omega, by omega⟩] | rw [goM_off _ ⟨by omega, by omega, by omega⟩] | rw [cpM_of (by omega)] | rw [adM_of (by omega) (by omega) (by omega)] | rw [unM_of (by omega)] | rw [twM_of (by omega) (by omega)] | rw [gfX_of (by omega)] | rw [dfM_off h (by assumption) (by omega)] | rw [vlM_off h (by assumption) (by omega)]))
theorem k7_sets {M : Mm} (h : CI M)  : k7 M (setsM M) := by
  intro a h1 h2
  unfold setsM
  (repeat' split) <;> (repeat (first | rfl | exact stM_off (by omega) | rw [stM_off (by omega)] | rw [tdM_o (by omega)] | rw [fdM_o (by omega) (by omega)] | rw [frM_off _ _ _ (by omega)] | rw [gfA_off _ _ (by omega)] | rw [ldM_off (by omega)] | rw [mkM_off _ _ _ _ (by omega) (by omega)] | rw [twP_off (by omega) (by omega)] | rw [gfO_off _ _ (by omega)] | rw [gaM_off _ _ (by omega)] | rw [seT_off _ _ (by omega)] | rw [rcM_off _ _ _ _ (by omega) (by omega)] | rw [twJ_off _ _ _ (by omega)] | rw [toM_o (by omega) (by omega) (by omega)] | rw [enM_o (by omega)] | rw [clM_off _ (by omega)] | rw [onF_off _ _ (by omega)] | rw [imF_off _ _ (by omega) (by omega)] | rw [noS_off _ _ _ (by omega)] | rw [tkP_off ⟨by omega, by omega⟩] | rw [goM_off _ ⟨by omega, by omega, by omega⟩] | rw [cpM_of (by omega)] | rw [adM_of (by omega) (by omega) (by omega)] | rw [unM_of (by omega)] | rw [twM_of (by omega) (by omega)] | rw [gfX_of (by omega)] | rw [dfM_off h (by assumption) (by omega)] | rw [vlM_off h (by assumption) (by omega)]))
theorem k7_best {M : Mm} (h : CI M)  : k7 M (bstM M) := by
  intro a h1 h2
  unfold bstM
  (repeat' split) <;> (repeat (first | rfl | exact stM_off (by omega) | rw [stM_off (by omega)] | rw [tdM_o (by omega)] | rw [fdM_o (by omega) (by omega)] | rw [frM_off _ _ _ (by omega)] | rw [gfA_off _ _ (by omega)] | rw [ldM_off (by omega)] | rw [mkM_off _ _ _ _ (by omega) (by omega)] | rw [twP_off (by omega) (by omega)] | rw [gfO_off _ _ (by omega)] | rw [gaM_off _ _ (by omega)] | rw [seT_off _ _ (by omega)] | rw [rcM_off _ _ _ _ (by omega) (by omega)] | rw [twJ_off _ _ _ (by omega)] | rw [toM_o (by omega) (by omega) (by omega)] | rw [enM_o (by omega)] | rw [clM_off _ (by omega)] | rw [onF_off _ _ (by omega)] | rw [imF_off _ _ (by omega) (by omega)] | rw [noS_off _ _ _ (by omega)] | rw [tkP_off ⟨by omega, by omega⟩] | rw [goM_off _ ⟨by omega, by omega, by omega⟩] | rw [cpM_of (by omega)] | rw [adM_of (by omega) (by omega) (by omega)] | rw [unM_of (by omega)] | rw [twM_of (by omega) (by omega)] | rw [gfX_of (by omega)] | rw [dfM_off h (by assumption) (by omega)] | rw [vlM_off h (by assumption) (by omega)]))
theorem k7_first {M : Mm} (h : CI M) (w r : Int) : k7 M (fstM M w r) := by
  intro a h1 h2
  unfold fstM
  (repeat' split) <;> (repeat (first | rfl | exact stM_off (by omega) | rw [stM_off (by omega)] | rw [tdM_o (by omega)] | rw [fdM_o (by omega) (by omega)] | rw [frM_off _ _ _ (by omega)] | rw [gfA_off _ _ (by omega)] | rw [ldM_off (by omega)] | rw [mkM_off _ _ _ _ (by omega) (by omega)] | rw [twP_off (by omega) (by omega)] | rw [gfO_off _ _ (by omega)] | rw [gaM_off _ _ (by omega)] | rw [seT_off _ _ (by omega)] | rw [rcM_off _ _ _ _ (by omega) (by omega)] | rw [twJ_off _ _ _ (by omega)] | rw [toM_o (by omega) (by omega) (by omega)] | rw [enM_o (by omega)] | rw [clM_off _ (by omega)] | rw [onF_off _ _ (by omega)] | rw [imF_off _ _ (by omega) (by omega)] | rw [noS_off _ _ _ (by omega)] | rw [tkP_off ⟨by omega, by omega⟩] | rw [goM_off _ ⟨by omega, by omega, by omega⟩] | rw [cpM_of (by omega)] | rw [adM_of (by omega) (by omega) (by omega)] | rw [unM_of (by omega)] | rw [twM_of (by omega) (by omega)] | rw [gfX_of (by omega)] | rw [dfM_off h (by assumption) (by omega)] | rw [vlM_off h (by assumption) (by omega)]))
theorem k7_costs {M : Mm} (h : CI M) (i : Int) : k7 M (cosM M i) := by
  intro a h1 h2
  unfold cosM
  (repeat' split) <;> (repeat (first | rfl | exact stM_off (by omega) | rw [stM_off (by omega)] | rw [tdM_o (by omega)] | rw [fdM_o (by omega) (by omega)] | rw [frM_off _ _ _ (by omega)] | rw [gfA_off _ _ (by omega)] | rw [ldM_off (by omega)] | rw [mkM_off _ _ _ _ (by omega) (by omega)] | rw [twP_off (by omega) (by omega)] | rw [gfO_off _ _ (by omega)] | rw [gaM_off _ _ (by omega)] | rw [seT_off _ _ (by omega)] | rw [rcM_off _ _ _ _ (by omega) (by omega)] | rw [twJ_off _ _ _ (by omega)] | rw [toM_o (by omega) (by omega) (by omega)] | rw [enM_o (by omega)] | rw [clM_off _ (by omega)] | rw [onF_off _ _ (by omega)] | rw [imF_off _ _ (by omega) (by omega)] | rw [noS_off _ _ _ (by omega)] | rw [tkP_off ⟨by omega, by omega⟩] | rw [goM_off _ ⟨by omega, by omega, by omega⟩] | rw [cpM_of (by omega)] | rw [adM_of (by omega) (by omega) (by omega)] | rw [unM_of (by omega)] | rw [twM_of (by omega) (by omega)] | rw [gfX_of (by omega)] | rw [dfM_off h (by assumption) (by omega)] | rw [vlM_off h (by assumption) (by omega)]))
theorem k7_worn {M : Mm} (h : CI M) (w : Int) : k7 M (worM M w) := by
  intro a h1 h2
  unfold worM
  (repeat' split) <;> (repeat (first | rfl | exact stM_off (by omega) | rw [stM_off (by omega)] | rw [tdM_o (by omega)] | rw [fdM_o (by omega) (by omega)] | rw [frM_off _ _ _ (by omega)] | rw [gfA_off _ _ (by omega)] | rw [ldM_off (by omega)] | rw [mkM_off _ _ _ _ (by omega) (by omega)] | rw [twP_off (by omega) (by omega)] | rw [gfO_off _ _ (by omega)] | rw [gaM_off _ _ (by omega)] | rw [seT_off _ _ (by omega)] | rw [rcM_off _ _ _ _ (by omega) (by omega)] | rw [twJ_off _ _ _ (by omega)] | rw [toM_o (by omega) (by omega) (by omega)] | rw [enM_o (by omega)] | rw [clM_off _ (by omega)] | rw [onF_off _ _ (by omega)] | rw [imF_off _ _ (by omega) (by omega)] | rw [noS_off _ _ _ (by omega)] | rw [tkP_off ⟨by omega, by omega⟩] | rw [goM_off _ ⟨by omega, by omega, by omega⟩] | rw [cpM_of (by omega)] | rw [adM_of (by omega) (by omega) (by omega)] | rw [unM_of (by omega)] | rw [twM_of (by omega) (by omega)] | rw [gfX_of (by omega)] | rw [dfM_off h (by assumption) (by omega)] | rw [vlM_off h (by assumption) (by omega)]))
theorem k7_orders {M : Mm} (h : CI M) (w : Int) : k7 M (osM M w) := by
  intro a h1 h2
  unfold osM
  (repeat' split) <;> (repeat (first | rfl | exact stM_off (by omega) | rw [stM_off (by omega)] | rw [tdM_o (by omega)] | rw [fdM_o (by omega) (by omega)] | rw [frM_off _ _ _ (by omega)] | rw [gfA_off _ _ (by omega)] | rw [ldM_off (by omega)] | rw [mkM_off _ _ _ _ (by omega) (by omega)] | rw [twP_off (by omega) (by omega)] | rw [gfO_off _ _ (by omega)] | rw [gaM_off _ _ (by omega)] | rw [seT_off _ _ (by omega)] | rw [rcM_off _ _ _ _ (by omega) (by omega)] | rw [twJ_off _ _ _ (by omega)] | rw [toM_o (by omega) (by omega) (by omega)] | rw [enM_o (by omega)] | rw [clM_off _ (by omega)] | rw [onF_off _ _ (by omega)] | rw [imF_off _ _ (by omega) (by omega)] | rw [noS_off _ _ _ (by omega)] | rw [tkP_off ⟨by omega, by omega⟩] | rw [goM_off _ ⟨by omega, by omega, by omega⟩] | rw [cpM_of (by omega)] | rw [adM_of (by omega) (by omega) (by omega)] | rw [unM_of (by omega)] | rw [twM_of (by omega) (by omega)] | rw [gfX_of (by omega)] | rw [dfM_off h (by assumption) (by omega)] | rw [vlM_off h (by assumption) (by omega)]))
theorem k7_second {M : Mm} (h : CI M) (x : Int) : k7 M (secM M x) := by
  intro a h1 h2
  unfold secM
  (repeat' split) <;> (repeat (first | rfl | exact stM_off (by omega) | rw [stM_off (by omega)] | rw [tdM_o (by omega)] | rw [fdM_o (by omega) (by omega)] | rw [frM_off _ _ _ (by omega)] | rw [gfA_off _ _ (by omega)] | rw [ldM_off (by omega)] | rw [mkM_off _ _ _ _ (by omega) (by omega)] | rw [twP_off (by omega) (by omega)] | rw [gfO_off _ _ (by omega)] | rw [gaM_off _ _ (by omega)] | rw [seT_off _ _ (by omega)] | rw [rcM_off _ _ _ _ (by omega) (by omega)] | rw [twJ_off _ _ _ (by omega)] | rw [toM_o (by omega) (by omega) (by omega)] | rw [enM_o (by omega)] | rw [clM_off _ (by omega)] | rw [onF_off _ _ (by omega)] | rw [imF_off _ _ (by omega) (by omega)] | rw [noS_off _ _ _ (by omega)] | rw [tkP_off ⟨by omega, by omega⟩] | rw [goM_off _ ⟨by omega, by omega, by omega⟩] | rw [cpM_of (by omega)] | rw [adM_of (by omega) (by omega) (by omega)] | rw [unM_of (by omega)] | rw [twM_of (by omega) (by omega)] | rw [gfX_of (by omega)] | rw [dfM_off h (by assumption) (by omega)] | rw [vlM_off h (by assumption) (by omega)]))
theorem k7_two {M : Mm} (h : CI M) (i j : Int) : k7 M (twoM M i j) := by
  intro a h1 h2
  unfold twoM twoT
  (repeat' split) <;> (repeat (first | rfl | exact stM_off (by omega) | rw [stM_off (by omega)] | rw [tdM_o (by omega)] | rw [fdM_o (by omega) (by omega)] | rw [frM_off _ _ _ (by omega)] | rw [gfA_off _ _ (by omega)] | rw [ldM_off (by omega)] | rw [mkM_off _ _ _ _ (by omega) (by omega)] | rw [twP_off (by omega) (by omega)] | rw [gfO_off _ _ (by omega)] | rw [gaM_off _ _ (by omega)] | rw [seT_off _ _ (by omega)] | rw [rcM_off _ _ _ _ (by omega) (by omega)] | rw [twJ_off _ _ _ (by omega)] | rw [toM_o (by omega) (by omega) (by omega)] | rw [enM_o (by omega)] | rw [clM_off _ (by omega)] | rw [onF_off _ _ (by omega)] | rw [imF_off _ _ (by omega) (by omega)] | rw [noS_off _ _ _ (by omega)] | rw [tkP_off ⟨by omega, by omega⟩] | rw [goM_off _ ⟨by omega, by omega, by omega⟩] | rw [cpM_of (by omega)] | rw [adM_of (by omega) (by omega) (by omega)] | rw [unM_of (by omega)] | rw [twM_of (by omega) (by omega)] | rw [gfX_of (by omega)] | rw [dfM_off h (by assumption) (by omega)] | rw [vlM_off h (by assumption) (by omega)]))
theorem k7_odds {M : Mm} (h : CI M)  : k7 M (oddM M) := by
  intro a h1 h2
  unfold oddM odT
  (repeat' split) <;> (repeat (first | rfl | exact stM_off (by omega) | rw [stM_off (by omega)] | rw [tdM_o (by omega)] | rw [fdM_o (by omega) (by omega)] | rw [frM_off _ _ _ (by omega)] | rw [gfA_off _ _ (by omega)] | rw [ldM_off (by omega)] | rw [mkM_off _ _ _ _ (by omega) (by omega)] | rw [twP_off (by omega) (by omega)] | rw [gfO_off _ _ (by omega)] | rw [gaM_off _ _ (by omega)] | rw [seT_off _ _ (by omega)] | rw [rcM_off _ _ _ _ (by omega) (by omega)] | rw [twJ_off _ _ _ (by omega)] | rw [toM_o (by omega) (by omega) (by omega)] | rw [enM_o (by omega)] | rw [clM_off _ (by omega)] | rw [onF_off _ _ (by omega)] | rw [imF_off _ _ (by omega) (by omega)] | rw [noS_off _ _ _ (by omega)] | rw [tkP_off ⟨by omega, by omega⟩] | rw [goM_off _ ⟨by omega, by omega, by omega⟩] | rw [cpM_of (by omega)] | rw [adM_of (by omega) (by omega) (by omega)] | rw [unM_of (by omega)] | rw [twM_of (by omega) (by omega)] | rw [gfX_of (by omega)] | rw [dfM_off h (by assumption) (by omega)] | rw [vlM_off h (by assumption) (by omega)]))
theorem k7_call {M : Mm} (h : CI M) (s : Int) : k7 M (calM M s) := by
  intro a h1 h2
  unfold calM clT
  (repeat' split) <;> (repeat (first | rfl | exact stM_off (by omega) | rw [stM_off (by omega)] | rw [tdM_o (by omega)] | rw [fdM_o (by omega) (by omega)] | rw [frM_off _ _ _ (by omega)] | rw [gfA_off _ _ (by omega)] | rw [ldM_off (by omega)] | rw [mkM_off _ _ _ _ (by omega) (by omega)] | rw [twP_off (by omega) (by omega)] | rw [gfO_off _ _ (by omega)] | rw [gaM_off _ _ (by omega)] | rw [seT_off _ _ (by omega)] | rw [rcM_off _ _ _ _ (by omega) (by omega)] | rw [twJ_off _ _ _ (by omega)] | rw [toM_o (by omega) (by omega) (by omega)] | rw [enM_o (by omega)] | rw [clM_off _ (by omega)] | rw [onF_off _ _ (by omega)] | rw [imF_off _ _ (by omega) (by omega)] | rw [noS_off _ _ _ (by omega)] | rw [tkP_off ⟨by omega, by omega⟩] | rw [goM_off _ ⟨by omega, by omega, by omega⟩] | rw [cpM_of (by omega)] | rw [adM_of (by omega) (by omega) (by omega)] | rw [unM_of (by omega)] | rw [twM_of (by omega) (by omega)] | rw [gfX_of (by omega)] | rw [dfM_off h (by assumption) (by omega)] | rw [vlM_off h (by assumption) (by omega)]))
theorem k7_keep {M : Mm} (h : CI M) (r : Int) : k7 M (keeM M r) := by
  intro a h1 h2
  unfold keeM
  (repeat' split) <;> (repeat (first | rfl | exact stM_off (by omega) | rw [stM_off (by omega)] | rw [tdM_o (by omega)] | rw [fdM_o (by omega) (by omega)] | rw [frM_off _ _ _ (by omega)] | rw [gfA_off _ _ (by omega)] | rw [ldM_off (by omega)] | rw [mkM_off _ _ _ _ (by omega) (by omega)] | rw [twP_off (by omega) (by omega)] | rw [gfO_off _ _ (by omega)] | rw [gaM_off _ _ (by omega)] | rw [seT_off _ _ (by omega)] | rw [rcM_off _ _ _ _ (by omega) (by omega)] | rw [twJ_off _ _ _ (by omega)] | rw [toM_o (by omega) (by omega) (by omega)] | rw [enM_o (by omega)] | rw [clM_off _ (by omega)] | rw [onF_off _ _ (by omega)] | rw [imF_off _ _ (by omega) (by omega)] | rw [noS_off _ _ _ (by omega)] | rw [tkP_off ⟨by omega, by omega⟩] | rw [goM_off _ ⟨by omega, by omega, by omega⟩] | rw [cpM_of (by omega)] | rw [adM_of (by omega) (by omega) (by omega)] | rw [unM_of (by omega)] | rw [twM_of (by omega) (by omega)] | rw [gfX_of (by omega)] | rw [dfM_off h (by assumption) (by omega)] | rw [vlM_off h (by assumption) (by omega)]))
theorem k7_deal {M : Mm} (h : CI M) (kd p k q : Int) : k7 M (deaM M kd p k q) := by
  intro a h1 h2
  unfold deaM
  (repeat' split) <;> (repeat (first | rfl | exact stM_off (by omega) | rw [stM_off (by omega)] | rw [tdM_o (by omega)] | rw [fdM_o (by omega) (by omega)] | rw [frM_off _ _ _ (by omega)] | rw [gfA_off _ _ (by omega)] | rw [ldM_off (by omega)] | rw [mkM_off _ _ _ _ (by omega) (by omega)] | rw [twP_off (by omega) (by omega)] | rw [gfO_off _ _ (by omega)] | rw [gaM_off _ _ (by omega)] | rw [seT_off _ _ (by omega)] | rw [rcM_off _ _ _ _ (by omega) (by omega)] | rw [twJ_off _ _ _ (by omega)] | rw [toM_o (by omega) (by omega) (by omega)] | rw [enM_o (by omega)] | rw [clM_off _ (by omega)] | rw [onF_off _ _ (by omega)] | rw [imF_off _ _ (by omega) (by omega)] | rw [noS_off _ _ _ (by omega)] | rw [tkP_off ⟨by omega, by omega⟩] | rw [goM_off _ ⟨by omega, by omega, by omega⟩] | rw [cpM_of (by omega)] | rw [adM_of (by omega) (by omega) (by omega)] | rw [unM_of (by omega)] | rw [twM_of (by omega) (by omega)] | rw [gfX_of (by omega)] | rw [dfM_off h (by assumption) (by omega)] | rw [vlM_off h (by assumption) (by omega)]))
theorem k7_undo {M : Mm} (h : CI M) (q : Int) : k7 M (undM M q) := by
  intro a h1 h2
  unfold undM
  (repeat' split) <;> (repeat (first | rfl | exact stM_off (by omega) | rw [stM_off (by omega)] | rw [tdM_o (by omega)] | rw [fdM_o (by omega) (by omega)] | rw [frM_off _ _ _ (by omega)] | rw [gfA_off _ _ (by omega)] | rw [ldM_off (by omega)] | rw [mkM_off _ _ _ _ (by omega) (by omega)] | rw [twP_off (by omega) (by omega)] | rw [gfO_off _ _ (by omega)] | rw [gaM_off _ _ (by omega)] | rw [seT_off _ _ (by omega)] | rw [rcM_off _ _ _ _ (by omega) (by omega)] | rw [twJ_off _ _ _ (by omega)] | rw [toM_o (by omega) (by omega) (by omega)] | rw [enM_o (by omega)] | rw [clM_off _ (by omega)] | rw [onF_off _ _ (by omega)] | rw [imF_off _ _ (by omega) (by omega)] | rw [noS_off _ _ _ (by omega)] | rw [tkP_off ⟨by omega, by omega⟩] | rw [goM_off _ ⟨by omega, by omega, by omega⟩] | rw [cpM_of (by omega)] | rw [adM_of (by omega) (by omega) (by omega)] | rw [unM_of (by omega)] | rw [twM_of (by omega) (by omega)] | rw [gfX_of (by omega)] | rw [dfM_off h (by assumption) (by omega)] | rw [vlM_off h (by assumption) (by omega)]))
theorem k7_rich {M : Mm} (h : CI M)  : k7 M (ricM M) := by
  intro a h1 h2
  unfold ricM
  (repeat' split) <;> (repeat (first | rfl | exact stM_off (by omega) | rw [stM_off (by omega)] | rw [tdM_o (by omega)] | rw [fdM_o (by omega) (by omega)] | rw [frM_off _ _ _ (by omega)] | rw [gfA_off _ _ (by omega)] | rw [ldM_off (by omega)] | rw [mkM_off _ _ _ _ (by omega) (by omega)] | rw [twP_off (by omega) (by omega)] | rw [gfO_off _ _ (by omega)] | rw [gaM_off _ _ (by omega)] | rw [seT_off _ _ (by omega)] | rw [rcM_off _ _ _ _ (by omega) (by omega)] | rw [twJ_off _ _ _ (by omega)] | rw [toM_o (by omega) (by omega) (by omega)] | rw [enM_o (by omega)] | rw [clM_off _ (by omega)] | rw [onF_off _ _ (by omega)] | rw [imF_off _ _ (by omega) (by omega)] | rw [noS_off _ _ _ (by omega)] | rw [tkP_off ⟨by omega, by omega⟩] | rw [goM_off _ ⟨by omega, by omega, by omega⟩] | rw [cpM_of (by omega)] | rw [adM_of (by omega) (by omega) (by omega)] | rw [unM_of (by omega)] | rw [twM_of (by omega) (by omega)] | rw [gfX_of (by omega)] | rw [dfM_off h (by assumption) (by omega)] | rw [vlM_off h (by assumption) (by omega)]))
theorem k7_pocket {M : Mm} (h : CI M) (q v : Int) : k7 M (pocM M q v) := by
  intro a h1 h2
  unfold pocM
  (repeat' split) <;> (repeat (first | rfl | exact stM_off (by omega) | rw [stM_off (by omega)] | rw [tdM_o (by omega)] | rw [fdM_o (by omega) (by omega)] | rw [frM_off _ _ _ (by omega)] | rw [gfA_off _ _ (by omega)] | rw [ldM_off (by omega)] | rw [mkM_off _ _ _ _ (by omega) (by omega)] | rw [twP_off (by omega) (by omega)] | rw [gfO_off _ _ (by omega)] | rw [gaM_off _ _ (by omega)] | rw [seT_off _ _ (by omega)] | rw [rcM_off _ _ _ _ (by omega) (by omega)] | rw [twJ_off _ _ _ (by omega)] | rw [toM_o (by omega) (by omega) (by omega)] | rw [enM_o (by omega)] | rw [clM_off _ (by omega)] | rw [onF_off _ _ (by omega)] | rw [imF_off _ _ (by omega) (by omega)] | rw [noS_off _ _ _ (by omega)] | rw [tkP_off ⟨by omega, by omega⟩] | rw [goM_off _ ⟨by omega, by omega, by omega⟩] | rw [cpM_of (by omega)] | rw [adM_of (by omega) (by omega) (by omega)] | rw [unM_of (by omega)] | rw [twM_of (by omega) (by omega)] | rw [gfX_of (by omega)] | rw [dfM_off h (by assumption) (by omega)] | rw [vlM_off h (by assumption) (by omega)]))
theorem k7_find {M : Mm} (h : CI M) (q : Int) : k7 M (finM M q) := by
  intro a h1 h2
  unfold finM
  (repeat' split) <;> (repeat (first | rfl | exact stM_off (by omega) | rw [stM_off (by omega)] | rw [tdM_o (by omega)] | rw [fdM_o (by omega) (by omega)] | rw [frM_off _ _ _ (by omega)] | rw [gfA_off _ _ (by omega)] | rw [ldM_off (by omega)] | rw [mkM_off _ _ _ _ (by omega) (by omega)] | rw [twP_off (by omega) (by omega)] | rw [gfO_off _ _ (by omega)] | rw [gaM_off _ _ (by omega)] | rw [seT_off _ _ (by omega)] | rw [rcM_off _ _ _ _ (by omega) (by omega)] | rw [twJ_off _ _ _ (by omega)] | rw [toM_o (by omega) (by omega) (by omega)] | rw [enM_o (by omega)] | rw [clM_off _ (by omega)] | rw [onF_off _ _ (by omega)] | rw [imF_off _ _ (by omega) (by omega)] | rw [noS_off _ _ _ (by omega)] | rw [tkP_off ⟨by omega, by omega⟩] | rw [goM_off _ ⟨by omega, by omega, by omega⟩] | rw [cpM_of (by omega)] | rw [adM_of (by omega) (by omega) (by omega)] | rw [unM_of (by omega)] | rw [twM_of (by omega) (by omega)] | rw [gfX_of (by omega)] | rw [dfM_off h (by assumption) (by omega)] | rw [vlM_off h (by assumption) (by omega)]))
theorem k7_track {M : Mm} (h : CI M) (q v : Int) : k7 M (traM M q v) := by
  intro a h1 h2
  unfold traM
  (repeat' split) <;> (repeat (first | rfl | exact stM_off (by omega) | rw [stM_off (by omega)] | rw [tdM_o (by omega)] | rw [fdM_o (by omega) (by omega)] | rw [frM_off _ _ _ (by omega)] | rw [gfA_off _ _ (by omega)] | rw [ldM_off (by omega)] | rw [mkM_off _ _ _ _ (by omega) (by omega)] | rw [twP_off (by omega) (by omega)] | rw [gfO_off _ _ (by omega)] | rw [gaM_off _ _ (by omega)] | rw [seT_off _ _ (by omega)] | rw [rcM_off _ _ _ _ (by omega) (by omega)] | rw [twJ_off _ _ _ (by omega)] | rw [toM_o (by omega) (by omega) (by omega)] | rw [enM_o (by omega)] | rw [clM_off _ (by omega)] | rw [onF_off _ _ (by omega)] | rw [imF_off _ _ (by omega) (by omega)] | rw [noS_off _ _ _ (by omega)] | rw [tkP_off ⟨by omega, by omega⟩] | rw [goM_off _ ⟨by omega, by omega, by omega⟩] | rw [cpM_of (by omega)] | rw [adM_of (by omega) (by omega) (by omega)] | rw [unM_of (by omega)] | rw [twM_of (by omega) (by omega)] | rw [gfX_of (by omega)] | rw [dfM_off h (by assumption) (by omega)] | rw [vlM_off h (by assumption) (by omega)]))
theorem k7_forget {M : Mm} (h : CI M) (q : Int) : k7 M (forM M q) := by
  intro a h1 h2
  unfold forM
  (repeat' split) <;> (repeat (first | rfl | exact stM_off (by omega) | rw [stM_off (by omega)] | rw [tdM_o (by omega)] | rw [fdM_o (by omega) (by omega)] | rw [frM_off _ _ _ (by omega)] | rw [gfA_off _ _ (by omega)] | rw [ldM_off (by omega)] | rw [mkM_off _ _ _ _ (by omega) (by omega)] | rw [twP_off (by omega) (by omega)] | rw [gfO_off _ _ (by omega)] | rw [gaM_off _ _ (by omega)] | rw [seT_off _ _ (by omega)] | rw [rcM_off _ _ _ _ (by omega) (by omega)] | rw [twJ_off _ _ _ (by omega)] | rw [toM_o (by omega) (by omega) (by omega)] | rw [enM_o (by omega)] | rw [clM_off _ (by omega)] | rw [onF_off _ _ (by omega)] | rw [imF_off _ _ (by omega) (by omega)] | rw [noS_off _ _ _ (by omega)] | rw [tkP_off ⟨by omega, by omega⟩] | rw [goM_off _ ⟨by omega, by omega, by omega⟩] | rw [cpM_of (by omega)] | rw [adM_of (by omega) (by omega) (by omega)] | rw [unM_of (by omega)] | rw [twM_of (by omega) (by omega)] | rw [gfX_of (by omega)] | rw [dfM_off h (by assumption) (by omega)] | rw [vlM_off h (by assumption) (by omega)]))
theorem k7_image {M : Mm} (h : CI M) (r : Int) : k7 M (imaM M r) := by
  intro a h1 h2
  unfold imaM imgM
  (repeat' split) <;> (repeat (first | rfl | exact stM_off (by omega) | rw [stM_off (by omega)] | rw [tdM_o (by omega)] | rw [fdM_o (by omega) (by omega)] | rw [frM_off _ _ _ (by omega)] | rw [gfA_off _ _ (by omega)] | rw [ldM_off (by omega)] | rw [mkM_off _ _ _ _ (by omega) (by omega)] | rw [twP_off (by omega) (by omega)] | rw [gfO_off _ _ (by omega)] | rw [gaM_off _ _ (by omega)] | rw [seT_off _ _ (by omega)] | rw [rcM_off _ _ _ _ (by omega) (by omega)] | rw [twJ_off _ _ _ (by omega)] | rw [toM_o (by omega) (by omega) (by omega)] | rw [enM_o (by omega)] | rw [clM_off _ (by omega)] | rw [onF_off _ _ (by omega)] | rw [imF_off _ _ (by omega) (by omega)] | rw [noS_off _ _ _ (by omega)] | rw [tkP_off ⟨by omega, by omega⟩] | rw [goM_off _ ⟨by omega, by omega, by omega⟩] | rw [cpM_of (by omega)] | rw [adM_of (by omega) (by omega) (by omega)] | rw [unM_of (by omega)] | rw [twM_of (by omega) (by omega)] | rw [gfX_of (by omega)] | rw [dfM_off h (by assumption) (by omega)] | rw [vlM_off h (by assumption) (by omega)]))
theorem k7_on {M : Mm} (h : CI M) (r : Int) : k7 M (onM M r) := by
  intro a h1 h2
  unfold onM
  (repeat' split) <;> (repeat (first | rfl | exact stM_off (by omega) | rw [stM_off (by omega)] | rw [tdM_o (by omega)] | rw [fdM_o (by omega) (by omega)] | rw [frM_off _ _ _ (by omega)] | rw [gfA_off _ _ (by omega)] | rw [ldM_off (by omega)] | rw [mkM_off _ _ _ _ (by omega) (by omega)] | rw [twP_off (by omega) (by omega)] | rw [gfO_off _ _ (by omega)] | rw [gaM_off _ _ (by omega)] | rw [seT_off _ _ (by omega)] | rw [rcM_off _ _ _ _ (by omega) (by omega)] | rw [twJ_off _ _ _ (by omega)] | rw [toM_o (by omega) (by omega) (by omega)] | rw [enM_o (by omega)] | rw [clM_off _ (by omega)] | rw [onF_off _ _ (by omega)] | rw [imF_off _ _ (by omega) (by omega)] | rw [noS_off _ _ _ (by omega)] | rw [tkP_off ⟨by omega, by omega⟩] | rw [goM_off _ ⟨by omega, by omega, by omega⟩] | rw [cpM_of (by omega)] | rw [adM_of (by omega) (by omega) (by omega)] | rw [unM_of (by omega)] | rw [twM_of (by omega) (by omega)] | rw [gfX_of (by omega)] | rw [dfM_off h (by assumption) (by omega)] | rw [vlM_off h (by assumption) (by omega)]))
theorem k7_wise {M : Mm} (h : Rl M) : k7 M (tdM (wiF M 30).1 (wiF M 30).2.2) := fun a h1 h2 => by
  rw [tdM_o (by omega), (wi_wu h 30 (Nat.le_refl 30)).1.1 a (by omega)]
theorem k7_rule {M M1 : Mm} {t r z : Int} (h : ruR M t r z M1) : k7 M M1 := by
  intro a h1 h2
  unfold ruR at h
  rcases h with ⟨_, _, rfl⟩ | ⟨_, _, _, rfl⟩ | ⟨_, _, _, _, i, _, _, rfl⟩ | ⟨hT, _, _, _, rfl⟩
  · rfl
  · rw [fdM_o (by omega) (by omega)]
  · rw [tkP_off ⟨by omega, by omega⟩]
  · have hr := hT.2
    unfold ruT
    rw [twM_of (by omega) (by omega), goM_off _ ⟨by omega, by omega, by omega⟩, ldM_off (by omega), tkP_off ⟨by omega, by omega⟩]
theorem k7_mends {M M1 : Mm} {w x z : Int} (h : menR M w x z M1) : k7 M M1 := by
  intro a h1 h2
  unfold menR at h
  rcases h with ⟨_, _, rfl⟩ | ⟨_, _, hf, _⟩
  · rfl
  · rw [hf a (by omega) (by omega), ldM_off (by omega)]
