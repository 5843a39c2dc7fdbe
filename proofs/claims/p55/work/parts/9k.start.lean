def Mz0 : Mm := fun a b => if a = 0 then (if b = 17 then 1 else 0) else if 3 ≤ a ∧ a ≤ 21 ∧ a % 2 = 1 then (if b = 1 then -1 else 0) else if (26 ≤ a ∧ a ≤ 34) ∨ (38 ≤ a ∧ a ≤ 46) then (if b = 6 then 12 else 0) else if a = 47 then (if b = 1 then -9 else 0) else 0
theorem z0z {a : Nat} (h : ¬ a = 0 ∧ ¬ (3 ≤ a ∧ a ≤ 21 ∧ a % 2 = 1) ∧ ¬ ((26 ≤ a ∧ a ≤ 34) ∨ (38 ≤ a ∧ a ≤ 46)) ∧ ¬ a = 47) (b : Nat) : Mz0 a b = 0 := by
  obtain ⟨h1, h2, h3, h4⟩ := h
  unfold Mz0
  rw [if_neg h1, if_neg h2, if_neg h3, if_neg h4]
theorem z0r {a : Nat} (h : 3 ≤ a ∧ a ≤ 21 ∧ a % 2 = 1) (b : Nat) : Mz0 a b = if b = 1 then -1 else 0 := by
  unfold Mz0
  rw [if_neg (by omega), if_pos h]
theorem z0n {a : Nat} (h : 26 ≤ a ∧ a ≤ 34) (b : Nat) : Mz0 a b = if b = 6 then 12 else 0 := by
  unfold Mz0
  rw [if_neg (by omega), if_neg (by omega), if_pos (Or.inl h)]
theorem NDR_Mz {a : Nat} (h : 26 ≤ a ∧ a ≤ 34) : NDW Mz0 a := by
  have e : Mz0 a = fun b => if b = 6 then 12 else 0 := funext (z0n h)
  show NDR (Mz0 a)
  rw [e]
  decide
theorem CI_Mz : CI Mz0 := by
  have z23 := z0z (a := 23) (by decide)
  have z24 := z0z (a := 24) (by decide)
  refine ⟨⟨?_, ⟨NDR_Mz (by decide), fun i hi => NDR_Mz (by omega)⟩, ?_, ?_⟩, ⟨?_, ?_, ?_, ?_⟩, ?_, ⟨?_, ?_⟩, ?_, ?_⟩
  · show 0 ≤ Mz0 23 3 ∧ Mz0 23 3 ≤ 8 ∧ 0 ≤ Mz0 23 4 ∧ Mz0 23 4 ≤ 8
    rw [z23, z23]; decide
  · intro j
    show 0 ≤ Mz0 24 j ∧ Mz0 24 j ≤ 15
    rw [z24]; decide
  · rw [z23]; decide
  · refine ⟨by rw [z0z (a := 48) (by decide)]; decide, fun j => ?_⟩
    rw [z0z (a := 49) (by decide), z0z (a := 50) (by decide), z0z (a := 51) (by decide), z0z (a := 52) (by decide), z0z (a := 53) (by decide)]
    decide
  · intro j
    rw [z0z (a := 58) (by decide), z0z (a := 59) (by decide), z0z (a := 60) (by decide)]
    decide
  · refine ⟨by rw [z0z (a := 54) (by decide)]; decide, by rw [z0z (a := 54) (by decide)]; decide, by rw [z0z (a := 54) (by decide)]; decide, fun j => ?_⟩
    rw [z0z (a := 55) (by decide), z0z (a := 56) (by decide)]
    decide
  · refine ⟨by rw [z0z (a := 61) (by decide)]; decide, fun j => ?_⟩
    rw [z0z (a := 62) (by decide)]
    decide
  · refine ⟨by rw [z0z (a := 63) (by decide)]; decide, fun j => ?_⟩
    rw [z0z (a := 66) (by decide), z0z (a := 67) (by decide), z0z (a := 68) (by decide), z0z (a := 69) (by decide)]
    decide
  · intro o ho
    refine ⟨?_, fun j => ?_⟩
    · rw [z0r ho, if_pos rfl]
      have := capO_b o
      omega
    · rw [z0z (a := o + 1) (by omega)]
      decide
  · intro o ho h15 j
    rw [z0z (a := o + 1) (by omega)]
    decide
  · refine ⟨by rw [z0z (a := 70) (by decide)]; decide, fun j => ?_⟩
    show (0 ≤ Mz0 71 j ∧ Mz0 71 j ≤ 7) ∧ (0 ≤ Mz0 72 j ∧ Mz0 72 j ≤ 99)
    rw [z0z (a := 71) (by decide), z0z (a := 72) (by decide)]
    decide
  · refine ⟨by rw [z0z (a := 73) (by decide)]; decide, fun j => ?_⟩
    show (0 ≤ Mz0 74 j ∧ Mz0 74 j ≤ 7) ∧ (0 ≤ Mz0 75 j ∧ Mz0 75 j ≤ 99)
    rw [z0z (a := 74) (by decide), z0z (a := 75) (by decide)]
    decide
/-- the addresses at the start -/
def adS (hC a6 a7 : Nat) (uC : Nat → Nat) : Nat → Nat := fun k => if k < 77 then (if k = 0 then hC else uC k) else if k = 106 then a6 else if k = 107 then a7 else 0
theorem sW_of : ∀ {w w' : va_W}, w.length = w'.length → (∀ (k : Nat) (q' : Nat × va_E), w'[k]? = some q' → ∃ e, w[k]? = some (q'.1, e) ∧ sE e q'.2) → sW w w'
  | [], [], _, _ => trivial
  | [], _ :: _, h, _ => absurd h (by simp)
  | _ :: _, [], h, _ => absurd h (by simp)
  | q :: w, q' :: w', hl, h => by
    obtain ⟨e, h1, h2⟩ := h 0 q' rfl
    have h3 : some q = some (q'.1, e) := h1
    cases h3
    refine ⟨rfl, h2, sW_of (by simpa using hl) (fun k x hk => ?_)⟩
    obtain ⟨e2, h4, h5⟩ := h (k + 1) x (by rw [List.getElem?_cons_succ]; exact hk)
    rw [List.getElem?_cons_succ] at h4
    exact ⟨e2, h4, h5⟩
set_option maxHeartbeats 4000000 in
theorem st_get {P : Pl} {hC a6 a7 : Nat} {uC : Nat → Nat} {k : Nat} (hk : k < 77) : ∃ e, (wCoat P hC uC)[k]? = some (adS hC a6 a7 uC k, e) ∧ sE e (wc (P.1, adS hC a6 a7 uC, P.2.2) 77 Mz0 k) := by
  rcases (show k = 0 ∨ k = 1 ∨ k = 2 ∨ k = 3 ∨ k = 4 ∨ k = 5 ∨ k = 6 ∨ k = 7 ∨ k = 8 ∨ k = 9 ∨ k = 10 ∨ k = 11 ∨ k = 12 ∨ k = 13 ∨ k = 14 ∨ k = 15 ∨ k = 16 ∨ k = 17 ∨ k = 18 ∨ k = 19 ∨ k = 20 ∨ k = 21 ∨ k = 22 ∨ k = 23 ∨ k = 24 ∨ k = 25 ∨ k = 26 ∨ k = 27 ∨ k = 28 ∨ k = 29 ∨ k = 30 ∨ k = 31 ∨ k = 32 ∨ k = 33 ∨ k = 34 ∨ k = 35 ∨ k = 36 ∨ k = 37 ∨ k = 38 ∨ k = 39 ∨ k = 40 ∨ k = 41 ∨ k = 42 ∨ k = 43 ∨ k = 44 ∨ k = 45 ∨ k = 46 ∨ k = 47 ∨ k = 48 ∨ k = 49 ∨ k = 50 ∨ k = 51 ∨ k = 52 ∨ k = 53 ∨ k = 54 ∨ k = 55 ∨ k = 56 ∨ k = 57 ∨ k = 58 ∨ k = 59 ∨ k = 60 ∨ k = 61 ∨ k = 62 ∨ k = 63 ∨ k = 64 ∨ k = 65 ∨ k = 66 ∨ k = 67 ∨ k = 68 ∨ k = 69 ∨ k = 70 ∨ k = 71 ∨ k = 72 ∨ k = 73 ∨ k = 74 ∨ k = 75 ∨ k = 76 by omega) with rfl | rfl | rfl | rfl | rfl | rfl | rfl | rfl | rfl | rfl | rfl | rfl | rfl | rfl | rfl | rfl | rfl | rfl | rfl | rfl | rfl | rfl | rfl | rfl | rfl | rfl | rfl | rfl | rfl | rfl | rfl | rfl | rfl | rfl | rfl | rfl | rfl | rfl | rfl | rfl | rfl | rfl | rfl | rfl | rfl | rfl | rfl | rfl | rfl | rfl | rfl | rfl | rfl | rfl | rfl | rfl | rfl | rfl | rfl | rfl | rfl | rfl | rfl | rfl | rfl | rfl | rfl | rfl | rfl | rfl | rfl | rfl | rfl | rfl | rfl | rfl | rfl
  · exact ⟨_, rfl, sE.rf rfl⟩
  · exact ⟨_, rfl, sE.q (fun j hj => by rcases (show j = 0 ∨ j = 1 ∨ j = 2 ∨ j = 3 ∨ j = 4 ∨ j = 5 by omega) with rfl | rfl | rfl | rfl | rfl | rfl <;> rfl)⟩
  · exact ⟨_, rfl, sE.q (fun j hj => by rcases (show j = 0 ∨ j = 1 ∨ j = 2 ∨ j = 3 by omega) with rfl | rfl | rfl | rfl <;> rfl)⟩
  · exact ⟨_, rfl, sE.rf rfl⟩
  · exact ⟨_, rfl, sE.rf rfl⟩
  · exact ⟨_, rfl, sE.rf rfl⟩
  · exact ⟨_, rfl, sE.rf rfl⟩
  · exact ⟨_, rfl, sE.rf rfl⟩
  · exact ⟨_, rfl, sE.rf rfl⟩
  · exact ⟨_, rfl, sE.rf rfl⟩
  · exact ⟨_, rfl, sE.rf rfl⟩
  · exact ⟨_, rfl, sE.rf rfl⟩
  · exact ⟨_, rfl, sE.rf rfl⟩
  · exact ⟨_, rfl, sE.rf rfl⟩
  · exact ⟨_, rfl, sE.rf rfl⟩
  · exact ⟨_, rfl, sE.rf rfl⟩
  · exact ⟨_, rfl, sE.rf rfl⟩
  · exact ⟨_, rfl, sE.rf rfl⟩
  · exact ⟨_, rfl, sE.rf rfl⟩
  · exact ⟨_, rfl, sE.rf rfl⟩
  · exact ⟨_, rfl, sE.rf rfl⟩
  · exact ⟨_, rfl, sE.rf rfl⟩
  · exact ⟨_, rfl, sE.rf rfl⟩
  · exact ⟨_, rfl, sE.rf rfl⟩
  · exact ⟨_, rfl, sE.rf rfl⟩
  · exact ⟨_, rfl, sE.q (fun j hj => by rcases (show j = 0 ∨ j = 1 ∨ j = 2 ∨ j = 3 ∨ j = 4 ∨ j = 5 ∨ j = 6 ∨ j = 7 by omega) with rfl | rfl | rfl | rfl | rfl | rfl | rfl | rfl <;> rfl)⟩
  · exact ⟨_, rfl, sE.rf rfl⟩
  · exact ⟨_, rfl, sE.rf rfl⟩
  · exact ⟨_, rfl, sE.rf rfl⟩
  · exact ⟨_, rfl, sE.rf rfl⟩
  · exact ⟨_, rfl, sE.rf rfl⟩
  · exact ⟨_, rfl, sE.rf rfl⟩
  · exact ⟨_, rfl, sE.rf rfl⟩
  · exact ⟨_, rfl, sE.rf rfl⟩
  · exact ⟨_, rfl, sE.rf rfl⟩
  · exact ⟨_, rfl, sE.rf rfl⟩
  · exact ⟨_, rfl, sE.rf rfl⟩
  · exact ⟨_, rfl, sE.q (fun j hj => by rcases (show j = 0 ∨ j = 1 ∨ j = 2 ∨ j = 3 ∨ j = 4 ∨ j = 5 ∨ j = 6 ∨ j = 7 by omega) with rfl | rfl | rfl | rfl | rfl | rfl | rfl | rfl <;> rfl)⟩
  · exact ⟨_, rfl, sE.rf rfl⟩
  · exact ⟨_, rfl, sE.rf rfl⟩
  · exact ⟨_, rfl, sE.rf rfl⟩
  · exact ⟨_, rfl, sE.rf rfl⟩
  · exact ⟨_, rfl, sE.rf rfl⟩
  · exact ⟨_, rfl, sE.rf rfl⟩
  · exact ⟨_, rfl, sE.rf rfl⟩
  · exact ⟨_, rfl, sE.rf rfl⟩
  · exact ⟨_, rfl, sE.rf rfl⟩
  · exact ⟨_, rfl, sE.rf rfl⟩
  · exact ⟨_, rfl, sE.rf rfl⟩
  · exact ⟨_, rfl, sE.rf rfl⟩
  · exact ⟨_, rfl, sE.rf rfl⟩
  · exact ⟨_, rfl, sE.rf rfl⟩
  · exact ⟨_, rfl, sE.rf rfl⟩
  · exact ⟨_, rfl, sE.rf rfl⟩
  · exact ⟨_, rfl, sE.rf rfl⟩
  · exact ⟨_, rfl, sE.rf rfl⟩
  · exact ⟨_, rfl, sE.rf rfl⟩
  · exact ⟨_, rfl, sE.rf rfl⟩
  · exact ⟨_, rfl, sE.rf rfl⟩
  · exact ⟨_, rfl, sE.rf rfl⟩
  · exact ⟨_, rfl, sE.rf rfl⟩
  · exact ⟨_, rfl, sE.rf rfl⟩
  · exact ⟨_, rfl, sE.rf rfl⟩
  · exact ⟨_, rfl, sE.rf rfl⟩
  · exact ⟨_, rfl, sE.rf rfl⟩
  · exact ⟨_, rfl, sE.rf rfl⟩
  · exact ⟨_, rfl, sE.rf rfl⟩
  · exact ⟨_, rfl, sE.rf rfl⟩
  · exact ⟨_, rfl, sE.rf rfl⟩
  · exact ⟨_, rfl, sE.rf rfl⟩
  · exact ⟨_, rfl, sE.rf rfl⟩
  · exact ⟨_, rfl, sE.rf rfl⟩
  · exact ⟨_, rfl, sE.rf rfl⟩
  · exact ⟨_, rfl, sE.rf rfl⟩
  · exact ⟨_, rfl, sE.rf rfl⟩
  · exact ⟨_, rfl, sE.rf rfl⟩
  · exact ⟨_, rfl, sE.rf rfl⟩
theorem st_sW {P : Pl} {hC a6 a7 : Nat} {uC : Nat → Nat} : sW (wCoat P hC uC) (wld (P.1, adS hC a6 a7 uC, P.2.2) 77 Mz0) := by
  have l1 : (wld (P.1, adS hC a6 a7 uC, P.2.2) 77 Mz0).length = 77 := by unfold wld; simp
  refine sW_of (l1.trans rfl).symm (fun k q' hq => ?_)
  obtain ⟨hk, rfl⟩ := wld_of hq
  exact st_get hk
set_option maxHeartbeats 4000000 in
set_option maxRecDepth 100000 in
theorem law_A0 {X : Yq} {P : Pl} (cx : Yx X cL_law RL room_1 18 P) {b L : Nat} {xs : Nat → Int32} (sx : Sy X b L xs) (ez : Ez X) {P1 P2 : Pl} (ys : Ys X P1) (ysq : Ys X P2) {av au : Nat} {cs ss : Nat} (hcs : cs ≤ 1000 ∧ ss ≤ 1000000) : YG X 27 [(0, .ref b), (1, .ref (P1.2.1 0)), (2, .ref (P2.2.1 0)), (3, .ref av), (4, .ref au)] [] (wld P1 77 Mz0 ++ (wld P2 77 Mz0 ++ [ar P av 64 (fun _ => 0), ar P au 64 (fun _ => 0)])) cs ss := by
  have hcr : cs ≤ room_1.cells ∧ ss ≤ room_1.slots := hcr_of ⟨by omega, by omega⟩
  have hq : (wld P1 77 Mz0 ++ (wld P2 77 Mz0 ++ [ar P av 64 (fun _ => 0), ar P au 64 (fun _ => 0)]))[77 + (77 + 0)]? = some (ar P1 av 64 (fun _ => 0)) := by rw [wR_get (wR_get (x := ar P av 64 (fun _ => 0)) rfl), ys_ar cx ys]
  refine l_aload_n cx (pc2 := 28) 0 rfl dL_law_27 rfl ?_
  refine l_bipush cx (pc2 := 30) ⟨by decide, by decide⟩ dL_law_28 rfl ?_
  refine l_iconst cx (pc2 := 31) dL_law_30 rfl ?_
  refine l_iconst cx (pc2 := 32) dL_law_31 rfl ?_
  refine l_aload_n cx (pc2 := 33) 3 rfl dL_law_32 rfl ?_
  refine l_callS cx (pc2 := 36) (st := []) ys sx (As := [.ref b, .int (iI 10), .int (iI 5), .int (iI 5), .ref av]) (c_L_numbers (77 + (77 + 0)) hq (fun _ => rfl)) wM_L_numbers wS_L_numbers kl_L_73 ⟨rfl, rfl, Nat.le_of_ble_eq_true rfl, Nat.le_of_ble_eq_true rfl⟩ (Nat.le_of_ble_eq_true rfl) hcr rfl rfl dL_law_33 rfl ?_
  rintro r w2 ⟨rfl, V, hg, rfl⟩
  refine l_W (w2 := wld P1 77 Mz0 ++ (wld P2 77 Mz0 ++ [ar P av 64 V, ar P au 64 (fun _ => 0)])) (by rw [wR_set, wR_set, ys_ar cx ys]; rfl) ?_
  refine l_iconst cx (pc2 := 37) dL_law_36 rfl ?_
  refine l_istore cx (pc2 := 39) (lv2 := [(0, .ref b), (1, .ref (P1.2.1 0)), (2, .ref (P2.2.1 0)), (3, .ref av), (4, .ref au), (5, .int (iI 0))]) rfl (Nat.le_of_ble_eq_true rfl) dL_law_37 rfl ?_
  exact law_A1 cx sx ez ys ysq hg hcs CI_Mz CI_Mz _ (fun _ => 0) 0 (fun j hj => by omega) ⟨by decide, by decide⟩ (Nat.le_refl _)
set_option maxHeartbeats 4000000 in
set_option maxRecDepth 100000 in
theorem law_Z {X : Yq} {P : Pl} (cx : Yx X cL_law RL room_1 18 P) {b L : Nat} {xs : Nat → Int32} (sx : Sy X b L xs) (ez : Ez X) {t6 t7 : Nat} (hys : ∀ (hC : Nat) (uC : Nat → Nat), Ys X (P.1, adS hC t6 t7 uC, P.2.2)) : YG X 0 [(0, .ref b)] [] [] 0 0 := by
  refine y_new cx (pc2 := 3) (ci := 11) (fs := [.null, .null, .null, .null, .null, .null, .null, .null, .null, .null, .null, .null, .null, .null, .int (iI 0), .int (iI 0), .long (lI 0), .long (lI 0)]) rfl iwX11 tyX11_ok kc_L_9 kN_X11 (by decide +kernel) ⟨(Nat.le_of_ble_eq_true rfl), (Nat.le_of_ble_eq_true rfl)⟩ dL_law_0 rfl (fun q1 => ?_)
  refine y_dup cx (pc2 := 4) rfl dL_law_3 rfl ?_
  refine y_call cx (pc2 := 7) (As := []) (st := [.ref q1]) n_X11 wC_X11 kl_L_72 ⟨rfl, rfl, (Nat.le_of_ble_eq_true rfl), (Nat.le_of_ble_eq_true rfl)⟩ (Nat.le_of_ble_eq_true rfl) rfl rfl ⟨(Nat.le_of_ble_eq_true rfl), (Nat.le_of_ble_eq_true rfl)⟩ dL_law_4 rfl (fun u1 => ?_)
  refine l_astore_n cx (pc2 := 8) (lv2 := [(0, .ref b), (1, .ref q1)]) rfl (Nat.le_of_ble_eq_true rfl) dL_law_7 rfl ?_
  refine y_new cx (pc2 := 11) (ci := 11) (fs := [.null, .null, .null, .null, .null, .null, .null, .null, .null, .null, .null, .null, .null, .null, .int (iI 0), .int (iI 0), .long (lI 0), .long (lI 0)]) rfl iwX11 tyX11_ok kc_L_9 kN_X11 (by decide +kernel) ⟨(Nat.le_of_ble_eq_true rfl), (Nat.le_of_ble_eq_true rfl)⟩ dL_law_8 rfl (fun q2 => ?_)
  refine y_dup cx (pc2 := 12) rfl dL_law_11 rfl ?_
  refine y_call cx (pc2 := 15) (As := []) (st := [.ref q2]) n_X11 wC_X11 kl_L_72 ⟨rfl, rfl, (Nat.le_of_ble_eq_true rfl), (Nat.le_of_ble_eq_true rfl)⟩ (Nat.le_of_ble_eq_true rfl) rfl rfl ⟨(Nat.le_of_ble_eq_true rfl), (Nat.le_of_ble_eq_true rfl)⟩ dL_law_12 rfl (fun u2 => ?_)
  refine l_astore_n cx (pc2 := 16) (lv2 := [(0, .ref b), (1, .ref q1), (2, .ref q2)]) rfl (Nat.le_of_ble_eq_true rfl) dL_law_15 rfl ?_
  refine y_sw (w2 := wld (P.1, adS q1 t6 t7 u1, P.2.2) 77 Mz0 ++ wld (P.1, adS q2 t6 t7 u2, P.2.2) 77 Mz0) (sW.app (sW.app (show sW [] [] from trivial) st_sW) st_sW) ?_
  refine l_bipush cx (pc2 := 18) ⟨by decide, by decide⟩ dL_law_16 rfl ?_
  refine l_newi cx (pc2 := 20) (N := 64) rfl (Nat.le_of_ble_eq_true rfl) ⟨(Nat.le_of_ble_eq_true rfl), (Nat.le_of_ble_eq_true rfl)⟩ dL_law_18 rfl (fun av => ?_)
  refine l_astore_n cx (pc2 := 21) (lv2 := [(0, .ref b), (1, .ref q1), (2, .ref q2), (3, .ref av)]) rfl (Nat.le_of_ble_eq_true rfl) dL_law_20 rfl ?_
  refine l_bipush cx (pc2 := 23) ⟨by decide, by decide⟩ dL_law_21 rfl ?_
  refine l_newi cx (pc2 := 25) (N := 64) rfl (Nat.le_of_ble_eq_true rfl) ⟨(Nat.le_of_ble_eq_true rfl), (Nat.le_of_ble_eq_true rfl)⟩ dL_law_23 rfl (fun au => ?_)
  refine l_astore cx (pc2 := 27) (lv2 := [(0, .ref b), (1, .ref q1), (2, .ref q2), (3, .ref av), (4, .ref au)]) rfl (Nat.le_of_ble_eq_true rfl) dL_law_25 rfl ?_
  refine l_W ((List.append_assoc _ _ _).trans (List.append_assoc _ _ _)) ?_
  exact law_A0 (P1 := (P.1, adS q1 t6 t7 u1, P.2.2)) (P2 := (P.1, adS q2 t6 t7 u2, P.2.2)) cx sx ez (hys q1 u1) (hys q2 u2) ⟨by decide, by decide⟩
theorem st_K {s : State} {args : Array Value} (hts : ∀ w ∈ gw, w.before args s = true) (h1 : va_AO RX8 s) (h2 : va_AO RX4 s) : ∃ (D : va_G) (cA : Nat → ClassId), ∀ ad : Nat → Nat, va_K D vwCl (tysP (D, ad, cA)) s := by
  obtain ⟨c0, i0, k0⟩ := u_known hts iwX0 (hts _ kN_X0.1)
  obtain ⟨c1, i1, k1⟩ := u_known hts iwX1 (hts _ kN_X1.1)
  obtain ⟨c2, i2, k2⟩ := u_known hts iwX2 (hts _ kN_X2.1)
  obtain ⟨c3, i3, k3⟩ := u_known hts iwX3 (hts _ kN_X3.1)
  obtain ⟨c4, i4, k4⟩ := u_known hts iwX4 (hts _ kN_X4.1)
  obtain ⟨c5, i5, k5⟩ := u_known hts iwX5 (hts _ kN_X5.1)
  obtain ⟨c6, i6, k6⟩ := u_known hts iwX6 (hts _ kN_X6.1)
  obtain ⟨c7, i7, k7⟩ := u_known hts iwX7 (hts _ kN_X7.1)
  obtain ⟨c8, i8, k8⟩ := u_known hts iwX8 (hts _ kN_X8.1)
  obtain ⟨c9, i9, k9⟩ := u_known hts iwX9 (hts _ kN_X9.1)
  obtain ⟨c10, i10, k10⟩ := u_known hts iwX10 (hts _ kN_X10.1)
  obtain ⟨c11, i11, k11⟩ := u_known hts iwX11 (hts _ kN_X11.1)
  obtain ⟨a0, ka0, p0, x0, y0, z0⟩ := Cond.arrayClass_spec (hts _ kA_i)
  obtain ⟨a1, ka1, p1, x1, y1, z1⟩ := Cond.arrayClass_spec (hts _ kA_i)
  obtain ⟨p2, a2, ka2, v2, w2, y2, z2, x2⟩ := Cond.arrayOver_spec h1
  obtain ⟨p3, a3, ka3, v3, w3, y3, z3, x3⟩ := Cond.arrayOver_spec h2
  refine ⟨(fun c => ([c0, c1, c2, c3, c4, c5, c6, c7, c8, c9, c10, c11] : List ClassId).getD c c0, fun c => ([i0, i1, i2, i3, i4, i5, i6, i7, i8, i9, i10, i11] : List (Nat → Nat)).getD c i0), fun c => ([a0, a1, a2, a3] : List ClassId).getD c a0, fun ad => ⟨fun c q hq => ?_, fun k q hk => ?_⟩⟩
  · have hc : c < 12 := (List.getElem?_eq_some_iff.mp hq).1
    rcases (show c = 0 ∨ c = 1 ∨ c = 2 ∨ c = 3 ∨ c = 4 ∨ c = 5 ∨ c = 6 ∨ c = 7 ∨ c = 8 ∨ c = 9 ∨ c = 10 ∨ c = 11 by omega) with rfl | rfl | rfl | rfl | rfl | rfl | rfl | rfl | rfl | rfl | rfl | rfl
    · cases hq
      exact k0
    · cases hq
      exact k1
    · cases hq
      exact k2
    · cases hq
      exact k3
    · cases hq
      exact k4
    · cases hq
      exact k5
    · cases hq
      exact k6
    · cases hq
      exact k7
    · cases hq
      exact k8
    · cases hq
      exact k9
    · cases hq
      exact k10
    · cases hq
      exact k11
  · have hc : k < 4 := (List.getElem?_eq_some_iff.mp hk).1
    rcases (show k = 0 ∨ k = 1 ∨ k = 2 ∨ k = 3 by omega) with rfl | rfl | rfl | rfl
    · cases hk
      exact ⟨fun n z => ⟨fun k h => (by cases h), ka0, y0, p0, z0⟩, x0⟩
    · cases hk
      exact ⟨fun n z => ⟨fun k h => (by cases h), ka1, y1, p1, z1⟩, x1⟩
    · cases hk
      exact ⟨fun n z => ⟨fun k h => (by cases h), ka2, y2, p2, z2⟩, ka2, p2, y2, z2, v2, x2⟩
    · cases hk
      exact ⟨fun n z => ⟨fun k h => (by cases h), ka3, y3, p3, z3⟩, ka3, p3, y3, z3, v3, x3⟩
theorem st_NL {s : State} {args : Array Value} {A : Nat → Prop} (hgv : (Jvm.Cond.and given_1 narrow_1).before args s = true) (hts : ∀ w ∈ lw_tbl, w.before args s = true) (hA : ∀ a : Nat, a < s.heap.size → ¬ A a) : ∃ t : Nat, va_Z "CoatBetween" "NEED_LETTERS" "[C" (.ref t) A s s.heap ∧ va_T .char t 6 (fun j => .int (iI (NLt j))) A s s.heap := by
  have hs := flat_of_before _ hgv
  have hel : ∀ j : Nat, j < 6 → (Term.elem (Term.static "CoatBetween" "NEED_LETTERS" "[C") (.int (Int32.ofNat j))).eval args s none [] s = some (.int (iI (NLt j))) := by
    intro j hj
    rcases (show j = 0 ∨ j = 1 ∨ j = 2 ∨ j = 3 ∨ j = 4 ∨ j = 5 by omega) with rfl | rfl | rfl | rfl | rfl | rfl
    · exact va_eqt (hs (Cond.eq (.elem (Term.static "CoatBetween" "NEED_LETTERS" "[C") (.int 0)) (.int 110)) (by decide +kernel))
    · exact va_eqt (hs (Cond.eq (.elem (Term.static "CoatBetween" "NEED_LETTERS" "[C") (.int 1)) (.int 109)) (by decide +kernel))
    · exact va_eqt (hs (Cond.eq (.elem (Term.static "CoatBetween" "NEED_LETTERS" "[C") (.int 2)) (.int 108)) (by decide +kernel))
    · exact va_eqt (hs (Cond.eq (.elem (Term.static "CoatBetween" "NEED_LETTERS" "[C") (.int 3)) (.int 119)) (by decide +kernel))
    · exact va_eqt (hs (Cond.eq (.elem (Term.static "CoatBetween" "NEED_LETTERS" "[C") (.int 4)) (.int 102)) (by decide +kernel))
    · exact va_eqt (hs (Cond.eq (.elem (Term.static "CoatBetween" "NEED_LETTERS" "[C") (.int 5)) (.int 116)) (by decide +kernel))
  obtain ⟨t, ht, hT⟩ := va_Tof (tm := (Term.static "CoatBetween" "NEED_LETTERS" "[C")) (ty := .char) (N := 6) (f := fun j => .int (iI (NLt j))) (A := A) (by decide) (hs (Cond.arrayOf (Term.static "CoatBetween" "NEED_LETTERS" "[C") .char) (by decide +kernel)) (va_eqt (hs (Cond.eq (.length (Term.static "CoatBetween" "NEED_LETTERS" "[C")) (.int 6)) (by decide +kernel))) hel hA
  exact ⟨t, va_Zof (hts (.laysStatic "CoatBetween" "NEED_LETTERS" "[C") (by decide +kernel)) (hts (.initialized "CoatBetween") (by decide +kernel)) ht hA, hT⟩
theorem st_RL {s : State} {args : Array Value} {A : Nat → Prop} (hgv : (Jvm.Cond.and given_1 narrow_1).before args s = true) (hts : ∀ w ∈ lw_tbl, w.before args s = true) (hA : ∀ a : Nat, a < s.heap.size → ¬ A a) : ∃ t : Nat, va_Z "CoatBetween" "RULE_LETTERS" "[C" (.ref t) A s s.heap ∧ va_T .char t 5 (fun j => .int (iI (RLt j))) A s s.heap := by
  have hs := flat_of_before _ hgv
  have hel : ∀ j : Nat, j < 5 → (Term.elem (Term.static "CoatBetween" "RULE_LETTERS" "[C") (.int (Int32.ofNat j))).eval args s none [] s = some (.int (iI (RLt j))) := by
    intro j hj
    rcases (show j = 0 ∨ j = 1 ∨ j = 2 ∨ j = 3 ∨ j = 4 by omega) with rfl | rfl | rfl | rfl | rfl
    · exact va_eqt (hs (Cond.eq (.elem (Term.static "CoatBetween" "RULE_LETTERS" "[C") (.int 0)) (.int 118)) (by decide +kernel))
    · exact va_eqt (hs (Cond.eq (.elem (Term.static "CoatBetween" "RULE_LETTERS" "[C") (.int 1)) (.int 98)) (by decide +kernel))
    · exact va_eqt (hs (Cond.eq (.elem (Term.static "CoatBetween" "RULE_LETTERS" "[C") (.int 2)) (.int 110)) (by decide +kernel))
    · exact va_eqt (hs (Cond.eq (.elem (Term.static "CoatBetween" "RULE_LETTERS" "[C") (.int 3)) (.int 99)) (by decide +kernel))
    · exact va_eqt (hs (Cond.eq (.elem (Term.static "CoatBetween" "RULE_LETTERS" "[C") (.int 4)) (.int 109)) (by decide +kernel))
  obtain ⟨t, ht, hT⟩ := va_Tof (tm := (Term.static "CoatBetween" "RULE_LETTERS" "[C")) (ty := .char) (N := 5) (f := fun j => .int (iI (RLt j))) (A := A) (by decide) (hs (Cond.arrayOf (Term.static "CoatBetween" "RULE_LETTERS" "[C") .char) (by decide +kernel)) (va_eqt (hs (Cond.eq (.length (Term.static "CoatBetween" "RULE_LETTERS" "[C")) (.int 5)) (by decide +kernel))) hel hA
  exact ⟨t, va_Zof (hts (.laysStatic "CoatBetween" "RULE_LETTERS" "[C") (by decide +kernel)) (hts (.initialized "CoatBetween") (by decide +kernel)) ht hA, hT⟩
theorem st_nw : ∀ w ∈ nw, w ∈ lw_tbl := by
  intro w hw
  have h := List.all_eq_true.mp (show nw.all (fun w => decide (w ∈ lw_tbl)) = true by decide +kernel) w hw
  exact of_decide_eq_true h
set_option maxHeartbeats 4000000 in
set_option maxRecDepth 100000 in
theorem whole_start {p : Program} {e : Env} {s : State} {m : MethodId} {below : List Frame} {meth : Method} {c : Code} (l : Launch) (hflags : l.flags = flags0) {b L : Nat} {xs : Nat → Int32} (hL : L ≤ 260) (C0 : lw_At p s m meth c b L xs) : W p l e room_1 s m #[Value.ref b] below meth c s.heap [] 0 0 (lw_Z below #[Value.ref b] s) (entryFrame m ([Value.ref b] : List Value).toArray 18) := by
  obtain ⟨hx, hb, hret, hml, hown, htb, hX, hbl, hlk, hgv⟩ := C0
  have hts : ∀ w ∈ gw, w.before #[Value.ref b] s = true := fun w hw => htb w (List.mem_filter.mp hw).1
  have hnw : ∀ w ∈ nw, w.before #[Value.ref b] s = true := fun w hw => htb w (st_nw w hw)
  have hNw : NwU s := NwU_of hnw
  have hao1 : va_AO RX8 s := va_AO.of (htb (.arrayOver (.object RX8)) (by decide +kernel))
  have hao2 : va_AO RX4 s := va_AO.of (htb (.arrayOver (.object RX4)) (by decide +kernel))
  obtain ⟨A, hAe⟩ : ∃ A : Nat → Prop, A = fun q => s.heap.size ≤ q := ⟨_, rfl⟩
  have hA : ∀ q, s.heap.size ≤ q → A q := fun q h => by rw [hAe]; exact h
  have hAs : ∀ q, A q → s.heap.size ≤ q := fun q h => by rw [hAe] at h; exact h
  have hAn : ∀ a : Nat, a < s.heap.size → ¬ A a := fun a h q => by have := hAs a q; omega
  obtain ⟨t6, hZ6, hT6⟩ := st_NL hgv htb hAn
  obtain ⟨t7, hZ7, hT7⟩ := st_RL hgv htb hAn
  obtain ⟨D, cA, hKK⟩ := st_K hts hao1 hao2
  have hK : va_K (D, (fun _ => 0 : Nat → Nat), cA).1 vwCl (tysP (D, (fun _ => 0), cA)) s := hKK _
  rw [lg_entry_eq]
  have hl := lv_entry ([.ref b]) (n := 18) (Nat.le_of_ble_eq_true rfl)
  generalize (lg_sl ([.ref b]) ++ List.replicate (18 - (lg_sl ([.ref b])).length) Slot.unset).toArray = ls at hl ⊢
  have hl : lv_has ls 18 [(0, .ref b)] := hl
  have hS : va_S A s.heap s.heap [] := va_S.rf
  have hP : va_P (D, (fun _ => 0 : Nat → Nat), cA).1 vwCl [] s.heap := fun k q h => by simp at h
  have hD : va_D A [] := ⟨fun i j x y h => by simp at h, fun k q h => by simp at h⟩
  have cx : Yx (p, l, e, room_1, s, m, #[Value.ref b], below, meth, c, 18, (D, (fun _ => 0 : Nat → Nat), cA), A, lw_Z below #[Value.ref b] s) cL_law RL room_1 18 (D, (fun _ => 0 : Nat → Nat), cA) := ⟨⟨hx, hb, hml, hown, hts⟩, hK, hA, hlk, rfl, rfl, rfl, hnw, ⟨hao1, hao2⟩, fun h => absurd rfl h⟩
  exact law_Z (t6 := t6) (t7 := t7) cx (b := b) (L := L) (xs := xs) ⟨hX, hbl, hAn b hbl, hL⟩ ⟨hret, hAs, b, rfl, rfl⟩ (fun hC uC => ⟨⟨⟨hZ6, hT6⟩, hZ7, hT7⟩, rfl, rfl⟩) s.heap [] ls hl hP hD hS
set_option maxHeartbeats 4000000 in
theorem lw_walk (l : Launch) (hflags : l.flags = flags0) (b : Addr) (xs : List Int32) : MetFree l x (headSpec (Jvm.Cond.code x code maxLocals ret :: tables_1) room_1) (lw_P b xs) (fun _ _ _ _ _ => True) lw_Q := by
  refine MetFree.of_bodyS (code := code) (maxLocals := maxLocals) (ret := ret) (by decide) ?_ ?_
  · intro args s m h hn
    obtain ⟨meth, c, h1, h2, h3, h4, h5, h6, -, -⟩ := Cond.code_spec hn (atoms_spec (ws := Jvm.Cond.code x code maxLocals ret :: tables_1) h _ List.mem_cons_self)
    exact ⟨meth, c, h1, h2, h3, h4, h5, h6⟩
  · intro p e s m args below meth c s₁ B hml0 hP _
    obtain ⟨rfl, hx, hbd, hgv⟩ := hP
    obtain ⟨scr, harrAt, hlist, hof, hsmall⟩ := hx
    obtain ⟨hcb, hkn, -, -⟩ := State.arrayAt?_spec harrAt
    have hown : s.vm.findClass R_law = some m.cls := findClass_of_methodNamed B.named
    have hts0 : ∀ c ∈ (Jvm.Cond.code x code maxLocals ret :: tables_1), c.before #[Value.ref b] s = true := atoms_spec (ws := Jvm.Cond.code x code maxLocals ret :: tables_1) B.pre
    have hts : ∀ w ∈ lw_tbl, w.before #[Value.ref b] s = true := k2_hts_sels lw_privs (fun w hw => hts0 w (List.mem_cons_of_mem _ hw)) lw_privs_ok
    have hml : c.maxLocals = 18 := B.maxLocals_eq (hts0 _ List.mem_cons_self)
    have X₀ : Stand p l e room_1 s m #[Value.ref b] below meth c s₁ [] 0 0 := Stand.of_body B
    have hh0 : s₁.heap = s.heap := by rw [B.state]; rfl
    have hsz : scr.slots.size = xs.length := by rw [← Array.length_toList, hlist, List.length_map]
    have hval : ∀ j : Nat, j < xs.length → scr.slots[j]? = some (.int (xs.getD j 0)) := fun j hj => by
      rw [← Array.getElem?_toList, hlist]
      simp [hj]
    have hbl : b < s.heap.size := (Array.getElem?_eq_some_iff.mp hcb).1
    have hX : va_X b xs.length (fun j => xs.getD j 0) s s.heap := ⟨scr, hcb, hof, hkn, hsz, hval⟩
    have K : W p l e room_1 s m #[Value.ref b] below meth c s₁.heap [] 0 0 (lw_Z below #[Value.ref b] s) (entryFrame m ([Value.ref b] : List Value).toArray 18) := by
      rw [hh0]
      exact whole_start l hflags hbd ⟨B.exec, B.bytes, B.returns, hml, hown, hts, hX, hbl, B.notSynchronized, hgv⟩
    obtain ⟨t, a1, o, b1, b2, b3⟩ := K s₁ rfl X₀
    exact ⟨t, o, a1, b1, b2, b3⟩
theorem lw_pre_spec {args : Array Value} {s : State} (h : (Jvm.Cond.and given_1 narrow_1).before args s = true) (hr : rest_1_c.before args s = true) : ∃ (b : Addr) (xs : List Int32), lw_P b xs args s := by
  have hs := flat_of_before _ h
  have hq := flat_of_before _ hr
  have hc : (Cond.count 1).before args s = true := hs _ (by decide +kernel)
  have harr : (Cond.arrayOf (.arg 0) .int).before args s = true := hs _ (by decide +kernel)
  have hle : (Cond.le (.length (.arg 0)) (.int 260)).before args s = true := hs _ (by decide +kernel)
  have hlen : (Cond.isInt (.length (.arg 0))).before args s = true := hq _ (by decide +kernel)
  have hall : (Cond.all (.arg 0) (.isInt (.elem (.arg 0) (.index 0)))).before args s = true := hq _ (by decide +kernel)
  obtain ⟨b, xs, hb, hx⟩ := State.ints_of_pre rfl harr hlen hall
  have hsm : xs.length < 2 ^ 31 := hx.choose_spec.2.2.2
  have hev : (Term.length (.arg 0)).eval args s none [] s = some (.int xs.length.toInt32) := hx.length_eval hb
  have hv := Cond.le_ints hev (show (Term.int 260).eval args s none [] s = some (.int 260) from rfl)
  have hd : xs.length.toInt32 ≤ 260 := by
    simpa [Cond.before, Cond.holds, hv] using hle
  have hN : xs.length ≤ 260 := (Int32.ofNat_le_ofNat hsm (by decide)).mp (show Int32.ofNat xs.length ≤ Int32.ofNat 260 from hd)
  exact ⟨b, xs, Cond.one_arg hc (show args[0]? = some (.ref b) from hb), hx, hN, h⟩
theorem lw_comes (l : Launch) (hflags : l.flags = flags0) : Comes l x (Jvm.Cond.code x code maxLocals ret :: tables_1) room_1 (fun tb e args s => Calls_1 tb e args s ∧ rest_1 tb e args s ∧ Pre_1 tb e args s)
    (fun _ _ args s o t => lw_Q args s o t) := by
  intro p e ha hc hk s m args below hf hfit hheap happ hpre
  obtain ⟨b, xs, hP⟩ := lw_pre_spec hpre.2.2 hpre.2.1
  obtain ⟨k, o, h1, h2, h3, hQ⟩ := lw_walk l hflags b xs p e ha hc hk s m args below hf ((Spec.applies_iff_loose hf).mp happ).1 hP trivial
  exact ⟨k, o, h1, h2, h3, hQ⟩
theorem lw_frame {s t : State} {o : Outcome} {args : Array Value} (h : Framed s o t [] 600000 7302250) :
    Framed s o t (fieldLocs frame_1_writes args s ++ arrayLocs frame_1_arrays args s ++ staticLocs frame_1_statics s) 600000 7302250 := h
theorem lw_limb (L : Cond) (hL : ∀ (args : Array Value) (s t : State), L.after args s (.returned (some (.int 1))) t = true) :
    ArmFor flags0 classFile x code maxLocals ret World_1 tables_1 room_1 Calls_1 rest_1 Pre_1
      (fun tb e a s o t => postC L tb e a s o t ∧ Framed s o t (fieldLocs frame_1_writes a s ++ arrayLocs frame_1_arrays a s ++ staticLocs frame_1_statics s) 600000 7302250) := by
  intro l hflags _ _ p e ha hc hk s m args below hf hfit hheap happ hpre
  obtain ⟨k, o, h1, h2, h3, rfl, hF⟩ := lw_comes l hflags p e ha hc hk s m args below hf hfit hheap happ hpre
  exact ⟨k, _, h1, h2, h3, hL args s _, lw_frame hF⟩
theorem i_vc : Claimed_1_1 ∧ Claimed_1_2 := ⟨lw_limb limb_1_1 (fun args s t => by simp [limb_1_1, Cond.after, Cond.holds, Cond.value]), lw_limb limb_1_2 (fun args s t => Cond.after_iff.mpr (by
  first | (rw [show limb_1_2 = Cond.eq .result (.int 1) from rfl, Cond.eq_ints (x := 1) (y := 1) rfl rfl]; simp; done) | (simp [limb_1_2, Cond.value, Term.eval]; done)))⟩
