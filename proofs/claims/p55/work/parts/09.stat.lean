set_option maxHeartbeats 4000000 in
set_option maxRecDepth 100000 in
theorem c_X11_bit {n : Nat} (hn : NN n) {M : Mm} (i : Int) (hi : ir i) : CT yX11_bit cX11_bit 1 (some .int) ({ frames := 0, cells := 0, slots := 0, locals := 0 }) n [.int (iI i)] M (rI (((bitN i : Nat) : Int)) M) := by
  refine CT.of (lv0 := [(0, .int (iI i))]) (by decide +kernel) hn (fun _ => rfl) (fun _ => Nat.le_of_ble_eq_true rfl) (fun X cx cs qx => ?_)
  have cx : Cx X cX11_bit RX11 ({ frames := 0, cells := 0, slots := 0, locals := 0 }) 1 n := cx
  refine g_iload_n cx (pc2 := 1) 0 rfl dX11_bit_0 rfl ?_
  refine g_if_lt cx (pc2 := 4) (tgt := 16) (by first | assumption | omega) dX11_bit_1 (by decide) rfl (fun h_1 => ?_) (fun h_1 => ?_)
  · skip
    refine g_iconst cx (pc2 := 17) dX11_bit_16 rfl ?_
    exact g_iret cx qx dX11_bit_17 ⟨congrArg (fun q => some (Value.int (iI q))) (by first | (rw [bitN_in (by omega)]; done) | (rw [bitN_out (by omega)]; rfl)), by rfl⟩
  · skip
    refine g_iload_n cx (pc2 := 5) 0 rfl dX11_bit_4 rfl ?_
    refine g_bipush cx (pc2 := 7) ⟨by decide, by decide⟩ dX11_bit_5 rfl ?_
    refine g_icmp_ge cx (pc2 := 10) (tgt := 16) ⟨(by first | assumption | omega), ⟨by decide, by decide⟩⟩ dX11_bit_7 (by decide) rfl (fun h_2 => ?_) (fun h_2 => ?_)
    · skip
      refine g_iconst cx (pc2 := 17) dX11_bit_16 rfl ?_
      exact g_iret cx qx dX11_bit_17 ⟨congrArg (fun q => some (Value.int (iI q))) (by first | (rw [bitN_in (by omega)]; done) | (rw [bitN_out (by omega)]; rfl)), by rfl⟩
    · skip
      refine g_iconst cx (pc2 := 11) dX11_bit_10 rfl ?_
      refine g_iload_n cx (pc2 := 12) 0 rfl dX11_bit_11 rfl ?_
      refine g_ishl cx (pc2 := 13) dX11_bit_12 rfl ?_
      refine g_rwi (y := iI ((2 ^ i.toNat : Nat) : Int)) (sh1 (by omega) (by omega)) ?_
      refine g_goto cx (tgt := 17) dX11_bit_13 (by decide) ?_
      exact g_iret cx qx dX11_bit_17 ⟨congrArg (fun q => some (Value.int (iI q))) (by first | (rw [bitN_in (by omega)]; done) | (rw [bitN_out (by omega)]; rfl)), by rfl⟩
set_option maxHeartbeats 4000000 in
set_option maxRecDepth 100000 in
theorem c_X11_isIn {n : Nat} (hn : NN n) {M : Mm} (i s : Int) (hi : ir i) (hs : 0 ≤ s ∧ s ≤ 255) : CT yX11_isIn cX11_isIn 2 (some .boolean) ({ frames := 1, cells := 0, slots := 0, locals := 20 }) n [.int (iI i), .int (iI s)] M (rI (b2 (inS i s)) M) := by
  refine CT.of (lv0 := [(0, .int (iI i)), (1, .int (iI s))]) (by decide +kernel) hn (fun _ => rfl) (fun _ => Nat.le_of_ble_eq_true rfl) (fun X cx cs qx => ?_)
  have cx : Cx X cX11_isIn RX11 ({ frames := 1, cells := 0, slots := 0, locals := 20 }) 2 n := cx
  have hb1 : s.toNat &&& bitN i ≤ s.toNat := Nat.and_le_left
  refine g_iload_n cx (pc2 := 1) 1 rfl dX11_isIn_0 rfl ?_
  refine g_iload_n cx (pc2 := 2) 0 rfl dX11_isIn_1 rfl ?_
  refine g_callS cx (pc2 := 5) (st := [.int (iI s)]) (As := [.int (iI i)]) (c_X11_bit (M := M) hn i (by first | assumption | omega)) wM_X11_bit wS_X11_bit kl_X11_269 ⟨rfl, rfl, Nat.le_of_ble_eq_true rfl, Nat.le_of_ble_eq_true rfl⟩ (Nat.le_of_ble_eq_true rfl) cs rfl rfl dX11_isIn_2 rfl ?_
  rintro _ _ ⟨rfl, rfl⟩
  refine g_iand cx (pc2 := 6) dX11_isIn_5 rfl ?_
  refine g_rwi (y := iI ((s.toNat &&& bitN i : Nat) : Int)) (and_iI (by omega) (by omega)) ?_
  refine g_if_eq cx (pc2 := 9) (tgt := 13) (by first | assumption | omega) dX11_isIn_6 (by decide) rfl (fun h_1 => ?_) (fun h_1 => ?_)
  · skip
    refine g_iconst cx (pc2 := 14) dX11_isIn_13 rfl ?_
    exact g_zret cx (Or.inl rfl) qx dX11_isIn_14 ⟨rb_f (by first | exact (inS_iff i s).mp (by omega) | exact fun q => (inS_iff i s).mpr q (by omega)), by rfl⟩
  · skip
    refine g_iconst cx (pc2 := 10) dX11_isIn_9 rfl ?_
    refine g_goto cx (tgt := 14) dX11_isIn_10 (by decide) ?_
    exact g_zret cx (Or.inr rfl) qx dX11_isIn_14 ⟨rb_t (by first | exact (inS_iff i s).mp (by omega) | exact fun q => (inS_iff i s).mpr q (by omega)), by rfl⟩
set_option maxHeartbeats 4000000 in
set_option maxRecDepth 100000 in
theorem c_X11_isWatch {n : Nat} (hn : NN n) {M : Mm} (w : Int) (hw : ir w) : CT yX11_isWatch cX11_isWatch 1 (some .boolean) ({ frames := 0, cells := 0, slots := 0, locals := 0 }) n [.int (iI w)] M (rI (b2 (0 ≤ w ∧ w < 28)) M) := by
  refine CT.of (lv0 := [(0, .int (iI w))]) (by decide +kernel) hn (fun _ => rfl) (fun _ => Nat.le_of_ble_eq_true rfl) (fun X cx cs qx => ?_)
  have cx : Cx X cX11_isWatch RX11 ({ frames := 0, cells := 0, slots := 0, locals := 0 }) 1 n := cx
  refine g_iload_n cx (pc2 := 1) 0 rfl dX11_isWatch_0 rfl ?_
  refine g_if_lt cx (pc2 := 4) (tgt := 14) (by first | assumption | omega) dX11_isWatch_1 (by decide) rfl (fun h_1 => ?_) (fun h_1 => ?_)
  · skip
    refine g_iconst cx (pc2 := 15) dX11_isWatch_14 rfl ?_
    exact g_zret cx (Or.inl rfl) qx dX11_isWatch_15 ⟨rb_f (by first | assumption | omega), by rfl⟩
  · skip
    refine g_iload_n cx (pc2 := 5) 0 rfl dX11_isWatch_4 rfl ?_
    refine g_bipush cx (pc2 := 7) ⟨by decide, by decide⟩ dX11_isWatch_5 rfl ?_
    refine g_icmp_ge cx (pc2 := 10) (tgt := 14) ⟨(by first | assumption | omega), ⟨by decide, by decide⟩⟩ dX11_isWatch_7 (by decide) rfl (fun h_2 => ?_) (fun h_2 => ?_)
    · skip
      refine g_iconst cx (pc2 := 15) dX11_isWatch_14 rfl ?_
      exact g_zret cx (Or.inl rfl) qx dX11_isWatch_15 ⟨rb_f (by first | assumption | omega), by rfl⟩
    · skip
      refine g_iconst cx (pc2 := 11) dX11_isWatch_10 rfl ?_
      refine g_goto cx (tgt := 15) dX11_isWatch_11 (by decide) ?_
      exact g_zret cx (Or.inr rfl) qx dX11_isWatch_15 ⟨rb_t (by first | assumption | omega), by rfl⟩
set_option maxHeartbeats 4000000 in
set_option maxRecDepth 100000 in
theorem c_X11_watchesApart {n : Nat} (hn : NN n) {M : Mm} (a b : Int) (ha : 0 ≤ a ∧ a ≤ 1000) (hb : 0 ≤ b ∧ b ≤ 1000) : CT yX11_watchesApart cX11_watchesApart 2 (some .int) ({ frames := 0, cells := 0, slots := 0, locals := 0 }) n [.int (iI a), .int (iI b)] M (rI (wap a b) M) := by
  refine CT.of (lv0 := [(0, .int (iI a)), (1, .int (iI b))]) (by decide +kernel) hn (fun _ => rfl) (fun _ => Nat.le_of_ble_eq_true rfl) (fun X cx cs qx => ?_)
  have cx : Cx X cX11_watchesApart RX11 ({ frames := 0, cells := 0, slots := 0, locals := 0 }) 2 n := cx
  refine g_iload_n cx (pc2 := 1) 0 rfl dX11_watchesApart_0 rfl ?_
  refine g_iload_n cx (pc2 := 2) 1 rfl dX11_watchesApart_1 rfl ?_
  refine g_icmp_ge cx (pc2 := 5) (tgt := 11) ⟨(by first | assumption | omega), (by first | assumption | omega)⟩ dX11_watchesApart_2 (by decide) rfl (fun h_1 => ?_) (fun h_1 => ?_)
  · skip
    refine g_iload_n cx (pc2 := 12) 0 rfl dX11_watchesApart_11 rfl ?_
    refine g_iload_n cx (pc2 := 13) 1 rfl dX11_watchesApart_12 rfl ?_
    refine g_isub cx (pc2 := 14) dX11_watchesApart_13 rfl ?_
    refine g_iconst cx (pc2 := 15) dX11_watchesApart_14 rfl ?_
    refine g_idiv cx (pc2 := 16) (by exact ⟨by omega, ⟨by decide, by decide⟩, by decide, Or.inr (by decide)⟩) dX11_watchesApart_15 rfl ?_
    exact g_iret cx qx dX11_watchesApart_16 ⟨congrArg (fun q => some (Value.int (iI q))) (by first | (rw [wap_lt (by omega), Int.tdiv_eq_ediv_of_nonneg (by omega)]; done) | (rw [wap_ge (by omega), Int.tdiv_eq_ediv_of_nonneg (by omega)]; done)), by rfl⟩
  · skip
    refine g_iload_n cx (pc2 := 6) 1 rfl dX11_watchesApart_5 rfl ?_
    refine g_iload_n cx (pc2 := 7) 0 rfl dX11_watchesApart_6 rfl ?_
    refine g_isub cx (pc2 := 8) dX11_watchesApart_7 rfl ?_
    refine g_goto cx (tgt := 14) dX11_watchesApart_8 (by decide) ?_
    refine g_iconst cx (pc2 := 15) dX11_watchesApart_14 rfl ?_
    refine g_idiv cx (pc2 := 16) (by exact ⟨by omega, ⟨by decide, by decide⟩, by decide, Or.inr (by decide)⟩) dX11_watchesApart_15 rfl ?_
    exact g_iret cx qx dX11_watchesApart_16 ⟨congrArg (fun q => some (Value.int (iI q))) (by first | (rw [wap_lt (by omega), Int.tdiv_eq_ediv_of_nonneg (by omega)]; done) | (rw [wap_ge (by omega), Int.tdiv_eq_ediv_of_nonneg (by omega)]; done)), by rfl⟩
set_option maxHeartbeats 4000000 in
set_option maxRecDepth 100000 in
theorem c_X11_mix {n : Nat} (hn : NN n) {M : Mm} (a b : Int) : CT yX11_mix cX11_mix 4 (some .long) ({ frames := 0, cells := 0, slots := 0, locals := 0 }) n [.long (lI a), .long (lI b)] M (rL (31 * a + b) M) := by
  refine CT.of (lv0 := [(0, .long (lI a)), (2, .long (lI b))]) (by decide +kernel) hn (fun _ => rfl) (fun _ => Nat.le_of_ble_eq_true rfl) (fun X cx cs qx => ?_)
  have cx : Cx X cX11_mix RX11 ({ frames := 0, cells := 0, slots := 0, locals := 0 }) 4 n := cx
  refine g_ldc2 cx (pc2 := 3) kk_X11_462 dX11_mix_0 rfl ?_
  refine g_lload_n cx (pc2 := 4) 0 rfl dX11_mix_3 rfl ?_
  refine g_lmul cx (pc2 := 5) dX11_mix_4 rfl ?_
  refine g_lload_n cx (pc2 := 6) 1 rfl dX11_mix_5 rfl ?_
  refine g_ladd cx (pc2 := 7) dX11_mix_6 rfl ?_
  exact g_lret cx qx dX11_mix_7 ⟨congrArg (fun q => some (Value.long (lI q))) (by first | rfl | omega), by rfl⟩
