theorem wC_X0 : wC yX0_init cX0_init 3 2 := ⟨wM_X0_init, wI_X0_init, rfl⟩
theorem wC_X1 : wC yX1_init cX1_init 1 0 := ⟨wM_X1_init, wI_X1_init, rfl⟩
theorem wC_X2 : wC yX2_init cX2_init 2 0 := ⟨wM_X2_init, wI_X2_init, rfl⟩
theorem wC_X3 : wC yX3_init cX3_init 1 0 := ⟨wM_X3_init, wI_X3_init, rfl⟩
theorem wC_X4 : wC yX4_init cX4_init 1 0 := ⟨wM_X4_init, wI_X4_init, rfl⟩
theorem wC_X5 : wC yX5_init cX5_init 2 1 := ⟨wM_X5_init, wI_X5_init, rfl⟩
theorem wC_X6 : wC yX6_init cX6_init 2 1 := ⟨wM_X6_init, wI_X6_init, rfl⟩
theorem wC_X7 : wC yX7_init cX7_init 1 0 := ⟨wM_X7_init, wI_X7_init, rfl⟩
theorem wC_X8 : wC yX8_init cX8_init 2 1 := ⟨wM_X8_init, wI_X8_init, rfl⟩
theorem wC_X9 : wC yX9_init cX9_init 2 1 := ⟨wM_X9_init, wI_X9_init, rfl⟩
theorem wC_X10 : wC yX10_init cX10_init 2 1 := ⟨wM_X10_init, wI_X10_init, rfl⟩
theorem wC_X11 : wC yX11_init cX11_init 2 0 := ⟨wM_X11_init, wI_X11_init, rfl⟩
def wRow (N : Nat) (P : Pl) (h0 : Nat) (u : Nat → Nat) : va_W := [(h0, .inr (8, [.ref (u 0), .int (iI (-1))])), (u 0, .inl (P.2.2 0, N, .inl (fun _ => iI 0)))]
def wNeed (P : Pl) (h0 : Nat) (u : Nat → Nat) : va_W := [(h0, .inr (4, [.int (iI 0), .int (iI 0), .int (iI 0), .int (iI 0), .int (iI 0), .int (iI 0), .int (iI 12)]))]
def wRead (P : Pl) (h0 : Nat) (u : Nat → Nat) : va_W := [(h0, .inr (7, [.int (iI 0), .int (iI (-9))]))]
def wJobs (P : Pl) (h0 : Nat) (u : Nat → Nat) : va_W := [(h0, .inr (1, [.ref (u 0), .ref (u 1), .ref (u 2), .ref (u 3), .ref (u 4), .int (iI 0)])), (u 0, .inl (P.2.2 0, 8, .inl (fun _ => iI 0))), (u 1, .inl (P.2.2 0, 8, .inl (fun _ => iI 0))), (u 2, .inl (P.2.2 0, 8, .inl (fun _ => iI 0))), (u 3, .inl (P.2.2 0, 8, .inl (fun _ => iI 0))), (u 4, .inl (P.2.2 0, 8, .inl (fun _ => iI 0)))]
def wWay (j0 : Nat) (P : Pl) (h0 : Nat) (u : Nat → Nat) : va_W := [(h0, .inr (10, [.ref j0, .ref (u 0), .ref (u 1), .int (iI 0), .int (iI 0), .int (iI 0)])), (u 0, .inl (P.2.2 0, 8, .inl (fun _ => iI 0))), (u 1, .inl (P.2.2 0, 8, .inl (fun _ => iI 0)))]
def wPlan (j0 : Nat) (P : Pl) (h0 : Nat) (u : Nat → Nat) : va_W := [(h0, .inr (6, [.ref j0, .ref (u 0), .ref (u 1), .ref (u 2)])), (u 0, .inl (P.2.2 0, 2304, .inl (fun _ => iI 0))), (u 1, .inl (P.2.2 0, 256, .inl (fun _ => iI 0))), (u 2, .inl (P.2.2 0, 256, .inl (fun _ => iI 0)))]
def wChoo (j0 j1 : Nat) (P : Pl) (h0 : Nat) (u : Nat → Nat) : va_W := [(h0, .inr (0, [.ref j0, .ref j1, .ref (u 0), .int (iI 0)])), (u 0, .inl (P.2.2 0, 4, .inl (fun _ => iI 0)))]
def wLedg (P : Pl) (h0 : Nat) (u : Nat → Nat) : va_W := [(h0, .inr (3, [.ref (u 0), .ref (u 1), .ref (u 2), .ref (u 3), .ref (u 4), .ref (u 5), .int (iI 0)])), (u 0, .inl (P.2.2 0, 8, .inl (fun _ => iI 0))), (u 1, .inl (P.2.2 0, 64, .inl (fun _ => iI 0))), (u 2, .inl (P.2.2 0, 16, .inl (fun _ => iI 0))), (u 3, .inl (P.2.2 0, 16, .inl (fun _ => iI 0))), (u 4, .inl (P.2.2 0, 16, .inl (fun _ => iI 0))), (u 5, .inl (P.2.2 0, 16, .inl (fun _ => iI 0)))]
def wPair (P : Pl) (h0 : Nat) (u : Nat → Nat) : va_W := [(h0, .inr (5, [.ref (u 0), .ref (u 1), .int (iI 0)])), (u 0, .inl (P.2.2 0, 12, .inl (fun _ => iI 0))), (u 1, .inl (P.2.2 0, 12, .inl (fun _ => iI 0)))]
def wTall (j0 : Nat) (P : Pl) (h0 : Nat) (u : Nat → Nat) : va_W := [(h0, .inr (9, [.ref j0, .ref (u 0)])), (u 0, .inl (P.2.2 0, 59392, .inl (fun _ => iI 0)))]
theorem n_X8a  : CN yX8_init cX8_init 2 ({ frames := 1, cells := 1, slots := 60, locals := 20 }) 1 60 8 [.null, .int (iI 0)] [.int (iI 60)] (wRow 60) := by
  refine CN.of (by decide +kernel) (fun _ => Nat.le_of_ble_eq_true rfl) (fun X P h0 cx qx _ => ?_) rfl
  have cx : Yx X cX8_init RX8 ({ frames := 1, cells := 1, slots := 60, locals := 20 }) 2 P := cx
  show YG X 0 [(0, .ref h0), (1, .int (iI 60))] [] ([(h0, .inr (8, [.null, .int (iI 0)]))] : va_W) 0 0
  refine y_al cx (pc2 := 1) 0 rfl dX8_init_0 rfl ?_
  refine y_obj cx (pc2 := 4) kl_X8_1 ⟨(Nat.le_of_ble_eq_true rfl), (Nat.le_of_ble_eq_true rfl)⟩ dX8_init_1 rfl ?_
  refine y_al cx (pc2 := 5) 0 rfl dX8_init_4 rfl ?_
  refine y_ic cx (pc2 := 6) dX8_init_5 rfl ?_
  refine y_put cx (pc2 := 9) (ci := 8) (j := 1) (w2 := ([(h0, .inr (8, [.null, .int (iI (-1))]))] : va_W)) 0 rfl rfl iwX8 tyX8_ok nmX8 (Nat.le_of_ble_eq_true rfl) kf_X8_7 rfl (by decide +kernel) rfl rfl rfl (Nat.le_of_ble_eq_true rfl) rfl dX8_init_6 rfl ?_
  refine y_al cx (pc2 := 10) 0 rfl dX8_init_9 rfl ?_
  refine y_ic cx (pc2 := 11) dX8_init_10 rfl ?_
  refine y_il cx (pc2 := 12) 1 rfl dX8_init_11 rfl ?_
  refine y_max cx (pc2 := 15) (z := (iI 60)) (by decide +kernel) kl_X8_13 ⟨(Nat.le_of_ble_eq_true rfl), (Nat.le_of_ble_eq_true rfl)⟩ ⟨(Nat.le_of_ble_eq_true rfl), (Nat.le_of_ble_eq_true rfl)⟩ dX8_init_12 rfl ?_
  refine y_newi cx (pc2 := 17) (N := 60) (by decide +kernel) (by decide +kernel) (by decide +kernel) ⟨(Nat.le_of_ble_eq_true rfl), (Nat.le_of_ble_eq_true rfl)⟩ dX8_init_15 rfl (fun q1 => ?_)
  refine y_put cx (pc2 := 20) (ci := 8) (j := 0) (w2 := ([(h0, .inr (8, [.ref q1, .int (iI (-1))])), (q1, .inl (P.2.2 0, 60, .inl (fun _ => iI 0)))] : va_W)) 0 rfl rfl iwX8 tyX8_ok nmX8 (Nat.le_of_ble_eq_true rfl) kf_X8_19 rfl (by decide +kernel) rfl rfl rfl (Nat.le_of_ble_eq_true rfl) rfl dX8_init_17 rfl ?_
  exact y_ret cx qx (fun j => ([q1] : List Nat).getD j 0) dX8_init_20 (fun H A hP hD => ⟨hP, hD⟩)
theorem n_X8b  : CN yX8_init cX8_init 2 ({ frames := 1, cells := 1, slots := 120, locals := 20 }) 1 120 8 [.null, .int (iI 0)] [.int (iI 120)] (wRow 120) := by
  refine CN.of (by decide +kernel) (fun _ => Nat.le_of_ble_eq_true rfl) (fun X P h0 cx qx _ => ?_) rfl
  have cx : Yx X cX8_init RX8 ({ frames := 1, cells := 1, slots := 120, locals := 20 }) 2 P := cx
  show YG X 0 [(0, .ref h0), (1, .int (iI 120))] [] ([(h0, .inr (8, [.null, .int (iI 0)]))] : va_W) 0 0
  refine y_al cx (pc2 := 1) 0 rfl dX8_init_0 rfl ?_
  refine y_obj cx (pc2 := 4) kl_X8_1 ⟨(Nat.le_of_ble_eq_true rfl), (Nat.le_of_ble_eq_true rfl)⟩ dX8_init_1 rfl ?_
  refine y_al cx (pc2 := 5) 0 rfl dX8_init_4 rfl ?_
  refine y_ic cx (pc2 := 6) dX8_init_5 rfl ?_
  refine y_put cx (pc2 := 9) (ci := 8) (j := 1) (w2 := ([(h0, .inr (8, [.null, .int (iI (-1))]))] : va_W)) 0 rfl rfl iwX8 tyX8_ok nmX8 (Nat.le_of_ble_eq_true rfl) kf_X8_7 rfl (by decide +kernel) rfl rfl rfl (Nat.le_of_ble_eq_true rfl) rfl dX8_init_6 rfl ?_
  refine y_al cx (pc2 := 10) 0 rfl dX8_init_9 rfl ?_
  refine y_ic cx (pc2 := 11) dX8_init_10 rfl ?_
  refine y_il cx (pc2 := 12) 1 rfl dX8_init_11 rfl ?_
  refine y_max cx (pc2 := 15) (z := (iI 120)) (by decide +kernel) kl_X8_13 ⟨(Nat.le_of_ble_eq_true rfl), (Nat.le_of_ble_eq_true rfl)⟩ ⟨(Nat.le_of_ble_eq_true rfl), (Nat.le_of_ble_eq_true rfl)⟩ dX8_init_12 rfl ?_
  refine y_newi cx (pc2 := 17) (N := 120) (by decide +kernel) (by decide +kernel) (by decide +kernel) ⟨(Nat.le_of_ble_eq_true rfl), (Nat.le_of_ble_eq_true rfl)⟩ dX8_init_15 rfl (fun q1 => ?_)
  refine y_put cx (pc2 := 20) (ci := 8) (j := 0) (w2 := ([(h0, .inr (8, [.ref q1, .int (iI (-1))])), (q1, .inl (P.2.2 0, 120, .inl (fun _ => iI 0)))] : va_W)) 0 rfl rfl iwX8 tyX8_ok nmX8 (Nat.le_of_ble_eq_true rfl) kf_X8_19 rfl (by decide +kernel) rfl rfl rfl (Nat.le_of_ble_eq_true rfl) rfl dX8_init_17 rfl ?_
  exact y_ret cx qx (fun j => ([q1] : List Nat).getD j 0) dX8_init_20 (fun H A hP hD => ⟨hP, hD⟩)
theorem n_X4  : CN yX4_init cX4_init 1 ({ frames := 1, cells := 0, slots := 0, locals := 20 }) 0 0 4 [.int (iI 0), .int (iI 0), .int (iI 0), .int (iI 0), .int (iI 0), .int (iI 0), .int (iI 0)] [] (wNeed) := by
  refine CN.of (by decide +kernel) (fun _ => Nat.le_of_ble_eq_true rfl) (fun X P h0 cx qx _ => ?_) rfl
  have cx : Yx X cX4_init RX4 ({ frames := 1, cells := 0, slots := 0, locals := 20 }) 1 P := cx
  show YG X 0 [(0, .ref h0)] [] ([(h0, .inr (4, [.int (iI 0), .int (iI 0), .int (iI 0), .int (iI 0), .int (iI 0), .int (iI 0), .int (iI 0)]))] : va_W) 0 0
  refine y_al cx (pc2 := 1) 0 rfl dX4_init_0 rfl ?_
  refine y_obj cx (pc2 := 4) kl_X4_3 ⟨(Nat.le_of_ble_eq_true rfl), (Nat.le_of_ble_eq_true rfl)⟩ dX4_init_1 rfl ?_
  refine y_al cx (pc2 := 5) 0 rfl dX4_init_4 rfl ?_
  refine y_bi cx (pc2 := 7) (by decide) dX4_init_5 rfl ?_
  refine y_put cx (pc2 := 10) (ci := 4) (j := 6) (w2 := ([(h0, .inr (4, [.int (iI 0), .int (iI 0), .int (iI 0), .int (iI 0), .int (iI 0), .int (iI 0), .int (iI 12)]))] : va_W)) 0 rfl rfl iwX4 tyX4_ok nmX4 (Nat.le_of_ble_eq_true rfl) kf_X4_9 rfl (by decide +kernel) rfl rfl rfl (Nat.le_of_ble_eq_true rfl) rfl dX4_init_7 rfl ?_
  exact y_ret cx qx (fun j => ([] : List Nat).getD j 0) dX4_init_10 (fun H A hP hD => ⟨hP, hD⟩)
theorem n_X7  : CN yX7_init cX7_init 1 ({ frames := 1, cells := 0, slots := 0, locals := 20 }) 0 0 7 [.int (iI 0), .int (iI 0)] [] (wRead) := by
  refine CN.of (by decide +kernel) (fun _ => Nat.le_of_ble_eq_true rfl) (fun X P h0 cx qx _ => ?_) rfl
  have cx : Yx X cX7_init RX7 ({ frames := 1, cells := 0, slots := 0, locals := 20 }) 1 P := cx
  show YG X 0 [(0, .ref h0)] [] ([(h0, .inr (7, [.int (iI 0), .int (iI 0)]))] : va_W) 0 0
  refine y_al cx (pc2 := 1) 0 rfl dX7_init_0 rfl ?_
  refine y_obj cx (pc2 := 4) kl_X7_3 ⟨(Nat.le_of_ble_eq_true rfl), (Nat.le_of_ble_eq_true rfl)⟩ dX7_init_1 rfl ?_
  refine y_al cx (pc2 := 5) 0 rfl dX7_init_4 rfl ?_
  refine y_ic cx (pc2 := 6) dX7_init_5 rfl ?_
  refine y_put cx (pc2 := 9) (ci := 7) (j := 0) (w2 := ([(h0, .inr (7, [.int (iI 0), .int (iI 0)]))] : va_W)) 0 rfl rfl iwX7 tyX7_ok nmX7 (Nat.le_of_ble_eq_true rfl) kf_X7_9 rfl (by decide +kernel) rfl rfl rfl (Nat.le_of_ble_eq_true rfl) rfl dX7_init_6 rfl ?_
  refine y_al cx (pc2 := 10) 0 rfl dX7_init_9 rfl ?_
  refine y_bi cx (pc2 := 12) (by decide) dX7_init_10 rfl ?_
  refine y_put cx (pc2 := 15) (ci := 7) (j := 1) (w2 := ([(h0, .inr (7, [.int (iI 0), .int (iI (-9))]))] : va_W)) 0 rfl rfl iwX7 tyX7_ok nmX7 (Nat.le_of_ble_eq_true rfl) kf_X7_15 rfl (by decide +kernel) rfl rfl rfl (Nat.le_of_ble_eq_true rfl) rfl dX7_init_12 rfl ?_
  exact y_ret cx qx (fun j => ([] : List Nat).getD j 0) dX7_init_15 (fun H A hP hD => ⟨hP, hD⟩)
theorem n_X1  : CN yX1_init cX1_init 1 ({ frames := 1, cells := 5, slots := 40, locals := 20 }) 5 40 1 [.null, .null, .null, .null, .null, .int (iI 0)] [] (wJobs) := by
  refine CN.of (by decide +kernel) (fun _ => Nat.le_of_ble_eq_true rfl) (fun X P h0 cx qx _ => ?_) rfl
  have cx : Yx X cX1_init RX1 ({ frames := 1, cells := 5, slots := 40, locals := 20 }) 1 P := cx
  show YG X 0 [(0, .ref h0)] [] ([(h0, .inr (1, [.null, .null, .null, .null, .null, .int (iI 0)]))] : va_W) 0 0
  refine y_al cx (pc2 := 1) 0 rfl dX1_init_0 rfl ?_
  refine y_obj cx (pc2 := 4) kl_X1_3 ⟨(Nat.le_of_ble_eq_true rfl), (Nat.le_of_ble_eq_true rfl)⟩ dX1_init_1 rfl ?_
  refine y_al cx (pc2 := 5) 0 rfl dX1_init_4 rfl ?_
  refine y_bi cx (pc2 := 7) (by decide) dX1_init_5 rfl ?_
  refine y_newi cx (pc2 := 9) (N := 8) (by decide +kernel) (by decide +kernel) (by decide +kernel) ⟨(Nat.le_of_ble_eq_true rfl), (Nat.le_of_ble_eq_true rfl)⟩ dX1_init_7 rfl (fun q1 => ?_)
  refine y_put cx (pc2 := 12) (ci := 1) (j := 0) (w2 := ([(h0, .inr (1, [.ref q1, .null, .null, .null, .null, .int (iI 0)])), (q1, .inl (P.2.2 0, 8, .inl (fun _ => iI 0)))] : va_W)) 0 rfl rfl iwX1 tyX1_ok nmX1 (Nat.le_of_ble_eq_true rfl) kf_X1_9 rfl (by decide +kernel) rfl rfl rfl (Nat.le_of_ble_eq_true rfl) rfl dX1_init_9 rfl ?_
  refine y_al cx (pc2 := 13) 0 rfl dX1_init_12 rfl ?_
  refine y_bi cx (pc2 := 15) (by decide) dX1_init_13 rfl ?_
  refine y_newi cx (pc2 := 17) (N := 8) (by decide +kernel) (by decide +kernel) (by decide +kernel) ⟨(Nat.le_of_ble_eq_true rfl), (Nat.le_of_ble_eq_true rfl)⟩ dX1_init_15 rfl (fun q2 => ?_)
  refine y_put cx (pc2 := 20) (ci := 1) (j := 1) (w2 := ([(h0, .inr (1, [.ref q1, .ref q2, .null, .null, .null, .int (iI 0)])), (q1, .inl (P.2.2 0, 8, .inl (fun _ => iI 0))), (q2, .inl (P.2.2 0, 8, .inl (fun _ => iI 0)))] : va_W)) 0 rfl rfl iwX1 tyX1_ok nmX1 (Nat.le_of_ble_eq_true rfl) kf_X1_15 rfl (by decide +kernel) rfl rfl rfl (Nat.le_of_ble_eq_true rfl) rfl dX1_init_17 rfl ?_
  refine y_al cx (pc2 := 21) 0 rfl dX1_init_20 rfl ?_
  refine y_bi cx (pc2 := 23) (by decide) dX1_init_21 rfl ?_
  refine y_newi cx (pc2 := 25) (N := 8) (by decide +kernel) (by decide +kernel) (by decide +kernel) ⟨(Nat.le_of_ble_eq_true rfl), (Nat.le_of_ble_eq_true rfl)⟩ dX1_init_23 rfl (fun q3 => ?_)
  refine y_put cx (pc2 := 28) (ci := 1) (j := 2) (w2 := ([(h0, .inr (1, [.ref q1, .ref q2, .ref q3, .null, .null, .int (iI 0)])), (q1, .inl (P.2.2 0, 8, .inl (fun _ => iI 0))), (q2, .inl (P.2.2 0, 8, .inl (fun _ => iI 0))), (q3, .inl (P.2.2 0, 8, .inl (fun _ => iI 0)))] : va_W)) 0 rfl rfl iwX1 tyX1_ok nmX1 (Nat.le_of_ble_eq_true rfl) kf_X1_18 rfl (by decide +kernel) rfl rfl rfl (Nat.le_of_ble_eq_true rfl) rfl dX1_init_25 rfl ?_
  refine y_al cx (pc2 := 29) 0 rfl dX1_init_28 rfl ?_
  refine y_bi cx (pc2 := 31) (by decide) dX1_init_29 rfl ?_
  refine y_newi cx (pc2 := 33) (N := 8) (by decide +kernel) (by decide +kernel) (by decide +kernel) ⟨(Nat.le_of_ble_eq_true rfl), (Nat.le_of_ble_eq_true rfl)⟩ dX1_init_31 rfl (fun q4 => ?_)
  refine y_put cx (pc2 := 36) (ci := 1) (j := 3) (w2 := ([(h0, .inr (1, [.ref q1, .ref q2, .ref q3, .ref q4, .null, .int (iI 0)])), (q1, .inl (P.2.2 0, 8, .inl (fun _ => iI 0))), (q2, .inl (P.2.2 0, 8, .inl (fun _ => iI 0))), (q3, .inl (P.2.2 0, 8, .inl (fun _ => iI 0))), (q4, .inl (P.2.2 0, 8, .inl (fun _ => iI 0)))] : va_W)) 0 rfl rfl iwX1 tyX1_ok nmX1 (Nat.le_of_ble_eq_true rfl) kf_X1_21 rfl (by decide +kernel) rfl rfl rfl (Nat.le_of_ble_eq_true rfl) rfl dX1_init_33 rfl ?_
  refine y_al cx (pc2 := 37) 0 rfl dX1_init_36 rfl ?_
  refine y_bi cx (pc2 := 39) (by decide) dX1_init_37 rfl ?_
  refine y_newi cx (pc2 := 41) (N := 8) (by decide +kernel) (by decide +kernel) (by decide +kernel) ⟨(Nat.le_of_ble_eq_true rfl), (Nat.le_of_ble_eq_true rfl)⟩ dX1_init_39 rfl (fun q5 => ?_)
  refine y_put cx (pc2 := 44) (ci := 1) (j := 4) (w2 := ([(h0, .inr (1, [.ref q1, .ref q2, .ref q3, .ref q4, .ref q5, .int (iI 0)])), (q1, .inl (P.2.2 0, 8, .inl (fun _ => iI 0))), (q2, .inl (P.2.2 0, 8, .inl (fun _ => iI 0))), (q3, .inl (P.2.2 0, 8, .inl (fun _ => iI 0))), (q4, .inl (P.2.2 0, 8, .inl (fun _ => iI 0))), (q5, .inl (P.2.2 0, 8, .inl (fun _ => iI 0)))] : va_W)) 0 rfl rfl iwX1 tyX1_ok nmX1 (Nat.le_of_ble_eq_true rfl) kf_X1_24 rfl (by decide +kernel) rfl rfl rfl (Nat.le_of_ble_eq_true rfl) rfl dX1_init_41 rfl ?_
  refine y_al cx (pc2 := 45) 0 rfl dX1_init_44 rfl ?_
  refine y_ic cx (pc2 := 46) dX1_init_45 rfl ?_
  refine y_put cx (pc2 := 49) (ci := 1) (j := 5) (w2 := ([(h0, .inr (1, [.ref q1, .ref q2, .ref q3, .ref q4, .ref q5, .int (iI 0)])), (q1, .inl (P.2.2 0, 8, .inl (fun _ => iI 0))), (q2, .inl (P.2.2 0, 8, .inl (fun _ => iI 0))), (q3, .inl (P.2.2 0, 8, .inl (fun _ => iI 0))), (q4, .inl (P.2.2 0, 8, .inl (fun _ => iI 0))), (q5, .inl (P.2.2 0, 8, .inl (fun _ => iI 0)))] : va_W)) 0 rfl rfl iwX1 tyX1_ok nmX1 (Nat.le_of_ble_eq_true rfl) kf_X1_27 rfl (by decide +kernel) rfl rfl rfl (Nat.le_of_ble_eq_true rfl) rfl dX1_init_46 rfl ?_
  exact y_ret cx qx (fun j => ([q1, q2, q3, q4, q5] : List Nat).getD j 0) dX1_init_49 (fun H A hP hD => ⟨hP, hD⟩)
theorem n_X10 (j0 : Nat) : CN yX10_init cX10_init 2 ({ frames := 1, cells := 2, slots := 16, locals := 20 }) 2 16 10 [.null, .null, .null, .int (iI 0), .int (iI 0), .int (iI 0)] [.ref j0] (wWay j0) := by
  refine CN.of (by decide +kernel) (fun _ => Nat.le_of_ble_eq_true rfl) (fun X P h0 cx qx _ => ?_) rfl
  have cx : Yx X cX10_init RX10 ({ frames := 1, cells := 2, slots := 16, locals := 20 }) 2 P := cx
  show YG X 0 [(0, .ref h0), (1, .ref j0)] [] ([(h0, .inr (10, [.null, .null, .null, .int (iI 0), .int (iI 0), .int (iI 0)]))] : va_W) 0 0
  refine y_al cx (pc2 := 1) 0 rfl dX10_init_0 rfl ?_
  refine y_obj cx (pc2 := 4) kl_X10_3 ⟨(Nat.le_of_ble_eq_true rfl), (Nat.le_of_ble_eq_true rfl)⟩ dX10_init_1 rfl ?_
  refine y_al cx (pc2 := 5) 0 rfl dX10_init_4 rfl ?_
  refine y_bi cx (pc2 := 7) (by decide) dX10_init_5 rfl ?_
  refine y_newi cx (pc2 := 9) (N := 8) (by decide +kernel) (by decide +kernel) (by decide +kernel) ⟨(Nat.le_of_ble_eq_true rfl), (Nat.le_of_ble_eq_true rfl)⟩ dX10_init_7 rfl (fun q1 => ?_)
  refine y_put cx (pc2 := 12) (ci := 10) (j := 1) (w2 := ([(h0, .inr (10, [.null, .ref q1, .null, .int (iI 0), .int (iI 0), .int (iI 0)])), (q1, .inl (P.2.2 0, 8, .inl (fun _ => iI 0)))] : va_W)) 0 rfl rfl iwX10 tyX10_ok nmX10 (Nat.le_of_ble_eq_true rfl) kf_X10_9 rfl (by decide +kernel) rfl rfl rfl (Nat.le_of_ble_eq_true rfl) rfl dX10_init_9 rfl ?_
  refine y_al cx (pc2 := 13) 0 rfl dX10_init_12 rfl ?_
  refine y_bi cx (pc2 := 15) (by decide) dX10_init_13 rfl ?_
  refine y_newi cx (pc2 := 17) (N := 8) (by decide +kernel) (by decide +kernel) (by decide +kernel) ⟨(Nat.le_of_ble_eq_true rfl), (Nat.le_of_ble_eq_true rfl)⟩ dX10_init_15 rfl (fun q2 => ?_)
  refine y_put cx (pc2 := 20) (ci := 10) (j := 2) (w2 := ([(h0, .inr (10, [.null, .ref q1, .ref q2, .int (iI 0), .int (iI 0), .int (iI 0)])), (q1, .inl (P.2.2 0, 8, .inl (fun _ => iI 0))), (q2, .inl (P.2.2 0, 8, .inl (fun _ => iI 0)))] : va_W)) 0 rfl rfl iwX10 tyX10_ok nmX10 (Nat.le_of_ble_eq_true rfl) kf_X10_15 rfl (by decide +kernel) rfl rfl rfl (Nat.le_of_ble_eq_true rfl) rfl dX10_init_17 rfl ?_
  refine y_al cx (pc2 := 21) 0 rfl dX10_init_20 rfl ?_
  refine y_ic cx (pc2 := 22) dX10_init_21 rfl ?_
  refine y_put cx (pc2 := 25) (ci := 10) (j := 3) (w2 := ([(h0, .inr (10, [.null, .ref q1, .ref q2, .int (iI 0), .int (iI 0), .int (iI 0)])), (q1, .inl (P.2.2 0, 8, .inl (fun _ => iI 0))), (q2, .inl (P.2.2 0, 8, .inl (fun _ => iI 0)))] : va_W)) 0 rfl rfl iwX10 tyX10_ok nmX10 (Nat.le_of_ble_eq_true rfl) kf_X10_18 rfl (by decide +kernel) rfl rfl rfl (Nat.le_of_ble_eq_true rfl) rfl dX10_init_22 rfl ?_
  refine y_al cx (pc2 := 26) 0 rfl dX10_init_25 rfl ?_
  refine y_ic cx (pc2 := 27) dX10_init_26 rfl ?_
  refine y_put cx (pc2 := 30) (ci := 10) (j := 4) (w2 := ([(h0, .inr (10, [.null, .ref q1, .ref q2, .int (iI 0), .int (iI 0), .int (iI 0)])), (q1, .inl (P.2.2 0, 8, .inl (fun _ => iI 0))), (q2, .inl (P.2.2 0, 8, .inl (fun _ => iI 0)))] : va_W)) 0 rfl rfl iwX10 tyX10_ok nmX10 (Nat.le_of_ble_eq_true rfl) kf_X10_22 rfl (by decide +kernel) rfl rfl rfl (Nat.le_of_ble_eq_true rfl) rfl dX10_init_27 rfl ?_
  refine y_al cx (pc2 := 31) 0 rfl dX10_init_30 rfl ?_
  refine y_ic cx (pc2 := 32) dX10_init_31 rfl ?_
  refine y_put cx (pc2 := 35) (ci := 10) (j := 5) (w2 := ([(h0, .inr (10, [.null, .ref q1, .ref q2, .int (iI 0), .int (iI 0), .int (iI 0)])), (q1, .inl (P.2.2 0, 8, .inl (fun _ => iI 0))), (q2, .inl (P.2.2 0, 8, .inl (fun _ => iI 0)))] : va_W)) 0 rfl rfl iwX10 tyX10_ok nmX10 (Nat.le_of_ble_eq_true rfl) kf_X10_25 rfl (by decide +kernel) rfl rfl rfl (Nat.le_of_ble_eq_true rfl) rfl dX10_init_32 rfl ?_
  refine y_al cx (pc2 := 36) 0 rfl dX10_init_35 rfl ?_
  refine y_al cx (pc2 := 37) 1 rfl dX10_init_36 rfl ?_
  refine y_put cx (pc2 := 40) (ci := 10) (j := 0) (w2 := ([(h0, .inr (10, [.ref j0, .ref q1, .ref q2, .int (iI 0), .int (iI 0), .int (iI 0)])), (q1, .inl (P.2.2 0, 8, .inl (fun _ => iI 0))), (q2, .inl (P.2.2 0, 8, .inl (fun _ => iI 0)))] : va_W)) 0 rfl rfl iwX10 tyX10_ok nmX10 (Nat.le_of_ble_eq_true rfl) kf_X10_28 rfl (by decide +kernel) rfl rfl rfl (Nat.le_of_ble_eq_true rfl) rfl dX10_init_37 rfl ?_
  exact y_ret cx qx (fun j => ([q1, q2] : List Nat).getD j 0) dX10_init_40 (fun H A hP hD => ⟨hP, hD⟩)
theorem n_X6 (j0 : Nat) : CN yX6_init cX6_init 2 ({ frames := 1, cells := 3, slots := 2816, locals := 20 }) 3 2816 6 [.null, .null, .null, .null] [.ref j0] (wPlan j0) := by
  refine CN.of (by decide +kernel) (fun _ => Nat.le_of_ble_eq_true rfl) (fun X P h0 cx qx _ => ?_) rfl
  have cx : Yx X cX6_init RX6 ({ frames := 1, cells := 3, slots := 2816, locals := 20 }) 2 P := cx
  show YG X 0 [(0, .ref h0), (1, .ref j0)] [] ([(h0, .inr (6, [.null, .null, .null, .null]))] : va_W) 0 0
  refine y_al cx (pc2 := 1) 0 rfl dX6_init_0 rfl ?_
  refine y_obj cx (pc2 := 4) kl_X6_3 ⟨(Nat.le_of_ble_eq_true rfl), (Nat.le_of_ble_eq_true rfl)⟩ dX6_init_1 rfl ?_
  refine y_al cx (pc2 := 5) 0 rfl dX6_init_4 rfl ?_
  refine y_si cx (pc2 := 8) (by decide) dX6_init_5 rfl ?_
  refine y_newi cx (pc2 := 10) (N := 2304) (by decide +kernel) (by decide +kernel) (by decide +kernel) ⟨(Nat.le_of_ble_eq_true rfl), (Nat.le_of_ble_eq_true rfl)⟩ dX6_init_8 rfl (fun q1 => ?_)
  refine y_put cx (pc2 := 13) (ci := 6) (j := 1) (w2 := ([(h0, .inr (6, [.null, .ref q1, .null, .null])), (q1, .inl (P.2.2 0, 2304, .inl (fun _ => iI 0)))] : va_W)) 0 rfl rfl iwX6 tyX6_ok nmX6 (Nat.le_of_ble_eq_true rfl) kf_X6_11 rfl (by decide +kernel) rfl rfl rfl (Nat.le_of_ble_eq_true rfl) rfl dX6_init_10 rfl ?_
  refine y_al cx (pc2 := 14) 0 rfl dX6_init_13 rfl ?_
  refine y_si cx (pc2 := 17) (by decide) dX6_init_14 rfl ?_
  refine y_newi cx (pc2 := 19) (N := 256) (by decide +kernel) (by decide +kernel) (by decide +kernel) ⟨(Nat.le_of_ble_eq_true rfl), (Nat.le_of_ble_eq_true rfl)⟩ dX6_init_17 rfl (fun q2 => ?_)
  refine y_put cx (pc2 := 22) (ci := 6) (j := 2) (w2 := ([(h0, .inr (6, [.null, .ref q1, .ref q2, .null])), (q1, .inl (P.2.2 0, 2304, .inl (fun _ => iI 0))), (q2, .inl (P.2.2 0, 256, .inl (fun _ => iI 0)))] : va_W)) 0 rfl rfl iwX6 tyX6_ok nmX6 (Nat.le_of_ble_eq_true rfl) kf_X6_15 rfl (by decide +kernel) rfl rfl rfl (Nat.le_of_ble_eq_true rfl) rfl dX6_init_19 rfl ?_
  refine y_al cx (pc2 := 23) 0 rfl dX6_init_22 rfl ?_
  refine y_si cx (pc2 := 26) (by decide) dX6_init_23 rfl ?_
  refine y_newi cx (pc2 := 28) (N := 256) (by decide +kernel) (by decide +kernel) (by decide +kernel) ⟨(Nat.le_of_ble_eq_true rfl), (Nat.le_of_ble_eq_true rfl)⟩ dX6_init_26 rfl (fun q3 => ?_)
  refine y_put cx (pc2 := 31) (ci := 6) (j := 3) (w2 := ([(h0, .inr (6, [.null, .ref q1, .ref q2, .ref q3])), (q1, .inl (P.2.2 0, 2304, .inl (fun _ => iI 0))), (q2, .inl (P.2.2 0, 256, .inl (fun _ => iI 0))), (q3, .inl (P.2.2 0, 256, .inl (fun _ => iI 0)))] : va_W)) 0 rfl rfl iwX6 tyX6_ok nmX6 (Nat.le_of_ble_eq_true rfl) kf_X6_18 rfl (by decide +kernel) rfl rfl rfl (Nat.le_of_ble_eq_true rfl) rfl dX6_init_28 rfl ?_
  refine y_al cx (pc2 := 32) 0 rfl dX6_init_31 rfl ?_
  refine y_al cx (pc2 := 33) 1 rfl dX6_init_32 rfl ?_
  refine y_put cx (pc2 := 36) (ci := 6) (j := 0) (w2 := ([(h0, .inr (6, [.ref j0, .ref q1, .ref q2, .ref q3])), (q1, .inl (P.2.2 0, 2304, .inl (fun _ => iI 0))), (q2, .inl (P.2.2 0, 256, .inl (fun _ => iI 0))), (q3, .inl (P.2.2 0, 256, .inl (fun _ => iI 0)))] : va_W)) 0 rfl rfl iwX6 tyX6_ok nmX6 (Nat.le_of_ble_eq_true rfl) kf_X6_21 rfl (by decide +kernel) rfl rfl rfl (Nat.le_of_ble_eq_true rfl) rfl dX6_init_33 rfl ?_
  exact y_ret cx qx (fun j => ([q1, q2, q3] : List Nat).getD j 0) dX6_init_36 (fun H A hP hD => ⟨hP, hD⟩)
theorem n_X0 (j0 j1 : Nat) : CN yX0_init cX0_init 3 ({ frames := 1, cells := 1, slots := 4, locals := 20 }) 1 4 0 [.null, .null, .null, .int (iI 0)] [.ref j0, .ref j1] (wChoo j0 j1) := by
  refine CN.of (by decide +kernel) (fun _ => Nat.le_of_ble_eq_true rfl) (fun X P h0 cx qx _ => ?_) rfl
  have cx : Yx X cX0_init RX0 ({ frames := 1, cells := 1, slots := 4, locals := 20 }) 3 P := cx
  show YG X 0 [(0, .ref h0), (1, .ref j0), (2, .ref j1)] [] ([(h0, .inr (0, [.null, .null, .null, .int (iI 0)]))] : va_W) 0 0
  refine y_al cx (pc2 := 1) 0 rfl dX0_init_0 rfl ?_
  refine y_obj cx (pc2 := 4) kl_X0_3 ⟨(Nat.le_of_ble_eq_true rfl), (Nat.le_of_ble_eq_true rfl)⟩ dX0_init_1 rfl ?_
  refine y_al cx (pc2 := 5) 0 rfl dX0_init_4 rfl ?_
  refine y_ic cx (pc2 := 6) dX0_init_5 rfl ?_
  refine y_newi cx (pc2 := 8) (N := 4) (by decide +kernel) (by decide +kernel) (by decide +kernel) ⟨(Nat.le_of_ble_eq_true rfl), (Nat.le_of_ble_eq_true rfl)⟩ dX0_init_6 rfl (fun q1 => ?_)
  refine y_put cx (pc2 := 11) (ci := 0) (j := 2) (w2 := ([(h0, .inr (0, [.null, .null, .ref q1, .int (iI 0)])), (q1, .inl (P.2.2 0, 4, .inl (fun _ => iI 0)))] : va_W)) 0 rfl rfl iwX0 tyX0_ok nmX0 (Nat.le_of_ble_eq_true rfl) kf_X0_9 rfl (by decide +kernel) rfl rfl rfl (Nat.le_of_ble_eq_true rfl) rfl dX0_init_8 rfl ?_
  refine y_al cx (pc2 := 12) 0 rfl dX0_init_11 rfl ?_
  refine y_ic cx (pc2 := 13) dX0_init_12 rfl ?_
  refine y_put cx (pc2 := 16) (ci := 0) (j := 3) (w2 := ([(h0, .inr (0, [.null, .null, .ref q1, .int (iI 0)])), (q1, .inl (P.2.2 0, 4, .inl (fun _ => iI 0)))] : va_W)) 0 rfl rfl iwX0 tyX0_ok nmX0 (Nat.le_of_ble_eq_true rfl) kf_X0_15 rfl (by decide +kernel) rfl rfl rfl (Nat.le_of_ble_eq_true rfl) rfl dX0_init_13 rfl ?_
  refine y_al cx (pc2 := 17) 0 rfl dX0_init_16 rfl ?_
  refine y_al cx (pc2 := 18) 1 rfl dX0_init_17 rfl ?_
  refine y_put cx (pc2 := 21) (ci := 0) (j := 0) (w2 := ([(h0, .inr (0, [.ref j0, .null, .ref q1, .int (iI 0)])), (q1, .inl (P.2.2 0, 4, .inl (fun _ => iI 0)))] : va_W)) 0 rfl rfl iwX0 tyX0_ok nmX0 (Nat.le_of_ble_eq_true rfl) kf_X0_19 rfl (by decide +kernel) rfl rfl rfl (Nat.le_of_ble_eq_true rfl) rfl dX0_init_18 rfl ?_
  refine y_al cx (pc2 := 22) 0 rfl dX0_init_21 rfl ?_
  refine y_al cx (pc2 := 23) 2 rfl dX0_init_22 rfl ?_
  refine y_put cx (pc2 := 26) (ci := 0) (j := 1) (w2 := ([(h0, .inr (0, [.ref j0, .ref j1, .ref q1, .int (iI 0)])), (q1, .inl (P.2.2 0, 4, .inl (fun _ => iI 0)))] : va_W)) 0 rfl rfl iwX0 tyX0_ok nmX0 (Nat.le_of_ble_eq_true rfl) kf_X0_23 rfl (by decide +kernel) rfl rfl rfl (Nat.le_of_ble_eq_true rfl) rfl dX0_init_23 rfl ?_
  exact y_ret cx qx (fun j => ([q1] : List Nat).getD j 0) dX0_init_26 (fun H A hP hD => ⟨hP, hD⟩)
theorem n_X3  : CN yX3_init cX3_init 1 ({ frames := 1, cells := 6, slots := 136, locals := 20 }) 6 136 3 [.null, .null, .null, .null, .null, .null, .int (iI 0)] [] (wLedg) := by
  refine CN.of (by decide +kernel) (fun _ => Nat.le_of_ble_eq_true rfl) (fun X P h0 cx qx _ => ?_) rfl
  have cx : Yx X cX3_init RX3 ({ frames := 1, cells := 6, slots := 136, locals := 20 }) 1 P := cx
  show YG X 0 [(0, .ref h0)] [] ([(h0, .inr (3, [.null, .null, .null, .null, .null, .null, .int (iI 0)]))] : va_W) 0 0
  refine y_al cx (pc2 := 1) 0 rfl dX3_init_0 rfl ?_
  refine y_obj cx (pc2 := 4) kl_X3_3 ⟨(Nat.le_of_ble_eq_true rfl), (Nat.le_of_ble_eq_true rfl)⟩ dX3_init_1 rfl ?_
  refine y_al cx (pc2 := 5) 0 rfl dX3_init_4 rfl ?_
  refine y_bi cx (pc2 := 7) (by decide) dX3_init_5 rfl ?_
  refine y_newi cx (pc2 := 9) (N := 8) (by decide +kernel) (by decide +kernel) (by decide +kernel) ⟨(Nat.le_of_ble_eq_true rfl), (Nat.le_of_ble_eq_true rfl)⟩ dX3_init_7 rfl (fun q1 => ?_)
  refine y_put cx (pc2 := 12) (ci := 3) (j := 0) (w2 := ([(h0, .inr (3, [.ref q1, .null, .null, .null, .null, .null, .int (iI 0)])), (q1, .inl (P.2.2 0, 8, .inl (fun _ => iI 0)))] : va_W)) 0 rfl rfl iwX3 tyX3_ok nmX3 (Nat.le_of_ble_eq_true rfl) kf_X3_9 rfl (by decide +kernel) rfl rfl rfl (Nat.le_of_ble_eq_true rfl) rfl dX3_init_9 rfl ?_
  refine y_al cx (pc2 := 13) 0 rfl dX3_init_12 rfl ?_
  refine y_bi cx (pc2 := 15) (by decide) dX3_init_13 rfl ?_
  refine y_newi cx (pc2 := 17) (N := 64) (by decide +kernel) (by decide +kernel) (by decide +kernel) ⟨(Nat.le_of_ble_eq_true rfl), (Nat.le_of_ble_eq_true rfl)⟩ dX3_init_15 rfl (fun q2 => ?_)
  refine y_put cx (pc2 := 20) (ci := 3) (j := 1) (w2 := ([(h0, .inr (3, [.ref q1, .ref q2, .null, .null, .null, .null, .int (iI 0)])), (q1, .inl (P.2.2 0, 8, .inl (fun _ => iI 0))), (q2, .inl (P.2.2 0, 64, .inl (fun _ => iI 0)))] : va_W)) 0 rfl rfl iwX3 tyX3_ok nmX3 (Nat.le_of_ble_eq_true rfl) kf_X3_15 rfl (by decide +kernel) rfl rfl rfl (Nat.le_of_ble_eq_true rfl) rfl dX3_init_17 rfl ?_
  refine y_al cx (pc2 := 21) 0 rfl dX3_init_20 rfl ?_
  refine y_bi cx (pc2 := 23) (by decide) dX3_init_21 rfl ?_
  refine y_newi cx (pc2 := 25) (N := 16) (by decide +kernel) (by decide +kernel) (by decide +kernel) ⟨(Nat.le_of_ble_eq_true rfl), (Nat.le_of_ble_eq_true rfl)⟩ dX3_init_23 rfl (fun q3 => ?_)
  refine y_put cx (pc2 := 28) (ci := 3) (j := 2) (w2 := ([(h0, .inr (3, [.ref q1, .ref q2, .ref q3, .null, .null, .null, .int (iI 0)])), (q1, .inl (P.2.2 0, 8, .inl (fun _ => iI 0))), (q2, .inl (P.2.2 0, 64, .inl (fun _ => iI 0))), (q3, .inl (P.2.2 0, 16, .inl (fun _ => iI 0)))] : va_W)) 0 rfl rfl iwX3 tyX3_ok nmX3 (Nat.le_of_ble_eq_true rfl) kf_X3_18 rfl (by decide +kernel) rfl rfl rfl (Nat.le_of_ble_eq_true rfl) rfl dX3_init_25 rfl ?_
  refine y_al cx (pc2 := 29) 0 rfl dX3_init_28 rfl ?_
  refine y_bi cx (pc2 := 31) (by decide) dX3_init_29 rfl ?_
  refine y_newi cx (pc2 := 33) (N := 16) (by decide +kernel) (by decide +kernel) (by decide +kernel) ⟨(Nat.le_of_ble_eq_true rfl), (Nat.le_of_ble_eq_true rfl)⟩ dX3_init_31 rfl (fun q4 => ?_)
  refine y_put cx (pc2 := 36) (ci := 3) (j := 3) (w2 := ([(h0, .inr (3, [.ref q1, .ref q2, .ref q3, .ref q4, .null, .null, .int (iI 0)])), (q1, .inl (P.2.2 0, 8, .inl (fun _ => iI 0))), (q2, .inl (P.2.2 0, 64, .inl (fun _ => iI 0))), (q3, .inl (P.2.2 0, 16, .inl (fun _ => iI 0))), (q4, .inl (P.2.2 0, 16, .inl (fun _ => iI 0)))] : va_W)) 0 rfl rfl iwX3 tyX3_ok nmX3 (Nat.le_of_ble_eq_true rfl) kf_X3_21 rfl (by decide +kernel) rfl rfl rfl (Nat.le_of_ble_eq_true rfl) rfl dX3_init_33 rfl ?_
  refine y_al cx (pc2 := 37) 0 rfl dX3_init_36 rfl ?_
  refine y_bi cx (pc2 := 39) (by decide) dX3_init_37 rfl ?_
  refine y_newi cx (pc2 := 41) (N := 16) (by decide +kernel) (by decide +kernel) (by decide +kernel) ⟨(Nat.le_of_ble_eq_true rfl), (Nat.le_of_ble_eq_true rfl)⟩ dX3_init_39 rfl (fun q5 => ?_)
  refine y_put cx (pc2 := 44) (ci := 3) (j := 4) (w2 := ([(h0, .inr (3, [.ref q1, .ref q2, .ref q3, .ref q4, .ref q5, .null, .int (iI 0)])), (q1, .inl (P.2.2 0, 8, .inl (fun _ => iI 0))), (q2, .inl (P.2.2 0, 64, .inl (fun _ => iI 0))), (q3, .inl (P.2.2 0, 16, .inl (fun _ => iI 0))), (q4, .inl (P.2.2 0, 16, .inl (fun _ => iI 0))), (q5, .inl (P.2.2 0, 16, .inl (fun _ => iI 0)))] : va_W)) 0 rfl rfl iwX3 tyX3_ok nmX3 (Nat.le_of_ble_eq_true rfl) kf_X3_24 rfl (by decide +kernel) rfl rfl rfl (Nat.le_of_ble_eq_true rfl) rfl dX3_init_41 rfl ?_
  refine y_al cx (pc2 := 45) 0 rfl dX3_init_44 rfl ?_
  refine y_bi cx (pc2 := 47) (by decide) dX3_init_45 rfl ?_
  refine y_newi cx (pc2 := 49) (N := 16) (by decide +kernel) (by decide +kernel) (by decide +kernel) ⟨(Nat.le_of_ble_eq_true rfl), (Nat.le_of_ble_eq_true rfl)⟩ dX3_init_47 rfl (fun q6 => ?_)
  refine y_put cx (pc2 := 52) (ci := 3) (j := 5) (w2 := ([(h0, .inr (3, [.ref q1, .ref q2, .ref q3, .ref q4, .ref q5, .ref q6, .int (iI 0)])), (q1, .inl (P.2.2 0, 8, .inl (fun _ => iI 0))), (q2, .inl (P.2.2 0, 64, .inl (fun _ => iI 0))), (q3, .inl (P.2.2 0, 16, .inl (fun _ => iI 0))), (q4, .inl (P.2.2 0, 16, .inl (fun _ => iI 0))), (q5, .inl (P.2.2 0, 16, .inl (fun _ => iI 0))), (q6, .inl (P.2.2 0, 16, .inl (fun _ => iI 0)))] : va_W)) 0 rfl rfl iwX3 tyX3_ok nmX3 (Nat.le_of_ble_eq_true rfl) kf_X3_27 rfl (by decide +kernel) rfl rfl rfl (Nat.le_of_ble_eq_true rfl) rfl dX3_init_49 rfl ?_
  refine y_al cx (pc2 := 53) 0 rfl dX3_init_52 rfl ?_
  refine y_ic cx (pc2 := 54) dX3_init_53 rfl ?_
  refine y_put cx (pc2 := 57) (ci := 3) (j := 6) (w2 := ([(h0, .inr (3, [.ref q1, .ref q2, .ref q3, .ref q4, .ref q5, .ref q6, .int (iI 0)])), (q1, .inl (P.2.2 0, 8, .inl (fun _ => iI 0))), (q2, .inl (P.2.2 0, 64, .inl (fun _ => iI 0))), (q3, .inl (P.2.2 0, 16, .inl (fun _ => iI 0))), (q4, .inl (P.2.2 0, 16, .inl (fun _ => iI 0))), (q5, .inl (P.2.2 0, 16, .inl (fun _ => iI 0))), (q6, .inl (P.2.2 0, 16, .inl (fun _ => iI 0)))] : va_W)) 0 rfl rfl iwX3 tyX3_ok nmX3 (Nat.le_of_ble_eq_true rfl) kf_X3_30 rfl (by decide +kernel) rfl rfl rfl (Nat.le_of_ble_eq_true rfl) rfl dX3_init_54 rfl ?_
  exact y_ret cx qx (fun j => ([q1, q2, q3, q4, q5, q6] : List Nat).getD j 0) dX3_init_57 (fun H A hP hD => ⟨hP, hD⟩)
theorem n_X5  : CN yX5_init cX5_init 2 ({ frames := 1, cells := 2, slots := 24, locals := 20 }) 2 24 5 [.null, .null, .int (iI 0)] [.int (iI 12)] (wPair) := by
  refine CN.of (by decide +kernel) (fun _ => Nat.le_of_ble_eq_true rfl) (fun X P h0 cx qx _ => ?_) rfl
  have cx : Yx X cX5_init RX5 ({ frames := 1, cells := 2, slots := 24, locals := 20 }) 2 P := cx
  show YG X 0 [(0, .ref h0), (1, .int (iI 12))] [] ([(h0, .inr (5, [.null, .null, .int (iI 0)]))] : va_W) 0 0
  refine y_al cx (pc2 := 1) 0 rfl dX5_init_0 rfl ?_
  refine y_obj cx (pc2 := 4) kl_X5_3 ⟨(Nat.le_of_ble_eq_true rfl), (Nat.le_of_ble_eq_true rfl)⟩ dX5_init_1 rfl ?_
  refine y_al cx (pc2 := 5) 0 rfl dX5_init_4 rfl ?_
  refine y_ic cx (pc2 := 6) dX5_init_5 rfl ?_
  refine y_put cx (pc2 := 9) (ci := 5) (j := 2) (w2 := ([(h0, .inr (5, [.null, .null, .int (iI 0)]))] : va_W)) 0 rfl rfl iwX5 tyX5_ok nmX5 (Nat.le_of_ble_eq_true rfl) kf_X5_9 rfl (by decide +kernel) rfl rfl rfl (Nat.le_of_ble_eq_true rfl) rfl dX5_init_6 rfl ?_
  refine y_al cx (pc2 := 10) 0 rfl dX5_init_9 rfl ?_
  refine y_ic cx (pc2 := 11) dX5_init_10 rfl ?_
  refine y_il cx (pc2 := 12) 1 rfl dX5_init_11 rfl ?_
  refine y_max cx (pc2 := 15) (z := (iI 12)) (by decide +kernel) kl_X5_15 ⟨(Nat.le_of_ble_eq_true rfl), (Nat.le_of_ble_eq_true rfl)⟩ ⟨(Nat.le_of_ble_eq_true rfl), (Nat.le_of_ble_eq_true rfl)⟩ dX5_init_12 rfl ?_
  refine y_newi cx (pc2 := 17) (N := 12) (by decide +kernel) (by decide +kernel) (by decide +kernel) ⟨(Nat.le_of_ble_eq_true rfl), (Nat.le_of_ble_eq_true rfl)⟩ dX5_init_15 rfl (fun q1 => ?_)
  refine y_put cx (pc2 := 20) (ci := 5) (j := 0) (w2 := ([(h0, .inr (5, [.ref q1, .null, .int (iI 0)])), (q1, .inl (P.2.2 0, 12, .inl (fun _ => iI 0)))] : va_W)) 0 rfl rfl iwX5 tyX5_ok nmX5 (Nat.le_of_ble_eq_true rfl) kf_X5_21 rfl (by decide +kernel) rfl rfl rfl (Nat.le_of_ble_eq_true rfl) rfl dX5_init_17 rfl ?_
  refine y_al cx (pc2 := 21) 0 rfl dX5_init_20 rfl ?_
  refine y_ic cx (pc2 := 22) dX5_init_21 rfl ?_
  refine y_il cx (pc2 := 23) 1 rfl dX5_init_22 rfl ?_
  refine y_max cx (pc2 := 26) (z := (iI 12)) (by decide +kernel) kl_X5_15 ⟨(Nat.le_of_ble_eq_true rfl), (Nat.le_of_ble_eq_true rfl)⟩ ⟨(Nat.le_of_ble_eq_true rfl), (Nat.le_of_ble_eq_true rfl)⟩ dX5_init_23 rfl ?_
  refine y_newi cx (pc2 := 28) (N := 12) (by decide +kernel) (by decide +kernel) (by decide +kernel) ⟨(Nat.le_of_ble_eq_true rfl), (Nat.le_of_ble_eq_true rfl)⟩ dX5_init_26 rfl (fun q2 => ?_)
  refine y_put cx (pc2 := 31) (ci := 5) (j := 1) (w2 := ([(h0, .inr (5, [.ref q1, .ref q2, .int (iI 0)])), (q1, .inl (P.2.2 0, 12, .inl (fun _ => iI 0))), (q2, .inl (P.2.2 0, 12, .inl (fun _ => iI 0)))] : va_W)) 0 rfl rfl iwX5 tyX5_ok nmX5 (Nat.le_of_ble_eq_true rfl) kf_X5_25 rfl (by decide +kernel) rfl rfl rfl (Nat.le_of_ble_eq_true rfl) rfl dX5_init_28 rfl ?_
  exact y_ret cx qx (fun j => ([q1, q2] : List Nat).getD j 0) dX5_init_31 (fun H A hP hD => ⟨hP, hD⟩)
theorem n_X9 (j0 : Nat) : CN yX9_init cX9_init 2 ({ frames := 1, cells := 1, slots := 59392, locals := 20 }) 1 59392 9 [.null, .null] [.ref j0] (wTall j0) := by
  refine CN.of (by decide +kernel) (fun _ => Nat.le_of_ble_eq_true rfl) (fun X P h0 cx qx _ => ?_) rfl
  have cx : Yx X cX9_init RX9 ({ frames := 1, cells := 1, slots := 59392, locals := 20 }) 2 P := cx
  show YG X 0 [(0, .ref h0), (1, .ref j0)] [] ([(h0, .inr (9, [.null, .null]))] : va_W) 0 0
  refine y_al cx (pc2 := 1) 0 rfl dX9_init_0 rfl ?_
  refine y_obj cx (pc2 := 4) kl_X9_3 ⟨(Nat.le_of_ble_eq_true rfl), (Nat.le_of_ble_eq_true rfl)⟩ dX9_init_1 rfl ?_
  refine y_al cx (pc2 := 5) 0 rfl dX9_init_4 rfl ?_
  refine y_ldc cx (pc2 := 7) kk_X9_11 dX9_init_5 rfl ?_
  refine y_newi cx (pc2 := 9) (N := 59392) (by decide +kernel) (by decide +kernel) (by decide +kernel) ⟨(Nat.le_of_ble_eq_true rfl), (Nat.le_of_ble_eq_true rfl)⟩ dX9_init_7 rfl (fun q1 => ?_)
  refine y_put cx (pc2 := 12) (ci := 9) (j := 1) (w2 := ([(h0, .inr (9, [.null, .ref q1])), (q1, .inl (P.2.2 0, 59392, .inl (fun _ => iI 0)))] : va_W)) 0 rfl rfl iwX9 tyX9_ok nmX9 (Nat.le_of_ble_eq_true rfl) kf_X9_12 rfl (by decide +kernel) rfl rfl rfl (Nat.le_of_ble_eq_true rfl) rfl dX9_init_9 rfl ?_
  refine y_al cx (pc2 := 13) 0 rfl dX9_init_12 rfl ?_
  refine y_al cx (pc2 := 14) 1 rfl dX9_init_13 rfl ?_
  refine y_put cx (pc2 := 17) (ci := 9) (j := 0) (w2 := ([(h0, .inr (9, [.ref j0, .ref q1])), (q1, .inl (P.2.2 0, 59392, .inl (fun _ => iI 0)))] : va_W)) 0 rfl rfl iwX9 tyX9_ok nmX9 (Nat.le_of_ble_eq_true rfl) kf_X9_16 rfl (by decide +kernel) rfl rfl rfl (Nat.le_of_ble_eq_true rfl) rfl dX9_init_14 rfl ?_
  exact y_ret cx qx (fun j => ([q1] : List Nat).getD j 0) dX9_init_17 (fun H A hP hD => ⟨hP, hD⟩)
