/-- the script's number at j -/
def Zx (xs : Nat → Int32) (j : Int) : Int := (xs j.toNat).toInt
theorem Zx_ir (xs : Nat → Int32) (j : Int) : ir (Zx xs j) := ir_toInt _
/-- the law's own: its script at the place 108 -/
def Sx : Cq → Nat → (Nat → Int32) → Prop
  | (p, l, e, R, s, m, args, below, meth, c, nL, P, n, A, cells, slots, Q), L, xs => va_X (P.2.1 108) L xs s s.heap ∧ P.2.1 108 < s.heap.size ∧ ¬ A (P.2.1 108) ∧ L ≤ 3072
abbrev lvL (i : Int) : List (Nat × Value) := [(0, .ref 108), (1, .ref 0), (2, .ref 77), (3, .int (iI i))]
theorem g_sld {X : Cq} {cc : ByteArray} {own : String} {R0 : Room} {nL n : Nat} (cx : Cx X cc own R0 nL n) {L : Nat} {xs : Nat → Int32} (sx : Sx X L xs) {pc pc2 : Nat} {lv : List (Nat × Value)} {st : List Value} {M : Mm} {j : Int} (h0 : 0 ≤ j) (h1 : j < (L : Int)) (hd : decode cc pc = .ok (.iaload, 1)) (hp : pc + 1 = pc2) (k : G X pc2 lv (.int (iI (Zx xs j)) :: st) M) : G X pc lv (.int (iI j) :: .ref 108 :: st) M := by
  obtain ⟨p, l, e, R, s, m, args, below, meth, c, nL2, P, n2, A, cells, slots, Q⟩ := X
  obtain ⟨⟨hx, hb, hml, hown, hts⟩, hK, hA, hAw, hiP, hSg, hlk, hR, hnL, hn, hn1, hn2, hnw⟩ := cx
  obtain ⟨q1, q2, q3, q4⟩ := sx
  subst hp
  intro H locs ls hl hP hS
  refine va_sld hx hb q1 q2 q3 hS (iI_in h0 h1 (by omega)) hd ?_
  rw [iI_clamp (show ir j from ⟨by omega, by omega⟩)]
  have := k H locs ls hl hP hS
  unfold Zx at this
  rw [iI_of] at this
  exact this
theorem g_slen {X : Cq} {cc : ByteArray} {own : String} {R0 : Room} {nL n : Nat} (cx : Cx X cc own R0 nL n) {L : Nat} {xs : Nat → Int32} (sx : Sx X L xs) {pc pc2 : Nat} {lv : List (Nat × Value)} {st : List Value} {M : Mm} (hd : decode cc pc = .ok (.arraylength, 1)) (hp : pc + 1 = pc2) (k : G X pc2 lv (.int (iI (L : Int)) :: st) M) : G X pc lv (.ref 108 :: st) M := by
  obtain ⟨p, l, e, R, s, m, args, below, meth, c, nL2, P, n2, A, cells, slots, Q⟩ := X
  obtain ⟨⟨hx, hb, hml, hown, hts⟩, hK, hA, hAw, hiP, hSg, hlk, hR, hnL, hn, hn1, hn2, hnw⟩ := cx
  obtain ⟨q1, q2, q3, q4⟩ := sx
  subst hp
  intro H locs ls hl hP hS
  exact va_slen hx hb q1 q2 q3 hS hd (k H locs ls hl hP hS)
theorem g_arg {X : Cq} {cc : ByteArray} {own : String} {R0 : Room} {n : Nat} (cx : Cx X cc own R0 4 n) {L : Nat} {xs : Nat → Int32} (sx : Sx X L xs) {pc pc2 : Nat} {st : List Value} {M : Mm} {i : Int} (q : Int) (hq : 0 ≤ q ∧ q ≤ 5) (hi : 0 ≤ i ∧ i + 6 ≤ (L : Int)) (d0 : decode cc pc = .ok (.aload_n 0, 1)) (d1 : decode cc (pc + 1) = .ok (.iload_n 3, 1)) (d2 : decode cc (pc + 2) = .ok (.iconst q, 1)) (d3 : decode cc (pc + 3) = .ok (.iadd, 1)) (d4 : decode cc (pc + 4) = .ok (.iaload, 1)) (hp : pc + 5 = pc2) (k : G X pc2 (lvL i) (.int (iI (Zx xs (i + q))) :: st) M) : G X pc (lvL i) st M := by
  refine g_aload_n cx (pc2 := pc + 1) 0 rfl d0 rfl ?_
  refine g_iload_n cx (pc2 := pc + 2) 3 rfl d1 rfl ?_
  refine g_iconst cx (pc2 := pc + 3) d2 rfl ?_
  refine g_iadd cx (pc2 := pc + 4) d3 rfl ?_
  exact g_sld cx sx (by omega) (by omega) d4 hp k
theorem g_eqT {X : Cq} {cc : ByteArray} {own : String} {R0 : Room} {nL n : Nat} (cx : Cx X cc own R0 nL n) {pc : Nat} {lv : List (Nat × Value)} {st : List Value} {M : Mm} {x y : Int} {off : Int} {tgt : Nat} (ey : y = x) (hd : decode cc pc = .ok (.if_icmp .eq off, 3)) (ht : (pc : Int) + off = (tgt : Int)) (k : G X tgt lv st M) : G X pc lv (.int (iI y) :: .int (iI x) :: st) M := by
  obtain ⟨p, l, e, R, s, m, args, below, meth, c, nL2, P, n2, A, cells, slots, Q⟩ := X
  obtain ⟨⟨hx, hb, hml, hown, hts⟩, hK, hA, hAw, hiP, hSg, hlk, hR, hnL, hn, hn1, hn2, hnw⟩ := cx
  subst ey
  intro H locs ls hl hP hS
  exact lv_icmp_eq hx hb hd ht (fun _ => k H locs ls hl hP hS) (fun q => absurd rfl q)
theorem g_lcT {X : Cq} {cc : ByteArray} {own : String} {R0 : Room} {nL n : Nat} (cx : Cx X cc own R0 nL n) {pc : Nat} {lv : List (Nat × Value)} {st : List Value} {M : Mm} {x y : Int} {off : Int} {tgt : Nat} (ey : y = x) (hd : decode cc pc = .ok (.lcmp, 1)) (hd2 : decode cc (pc + 1) = .ok (.ifCond .eq off, 3)) (ht : ((pc + 1 : Nat) : Int) + off = (tgt : Int)) (k : G X tgt lv st M) : G X pc lv (.long (lI y) :: .long (lI x) :: st) M := by
  have h2 : G X (pc + 1) lv (.int (iI 0) :: st) M := g_if_eq cx ⟨by decide, by decide⟩ hd2 ht rfl (fun _ => k) (fun q => absurd rfl q)
  obtain ⟨p, l, e, R, s, m, args, below, meth, c, nL2, P, n2, A, cells, slots, Q⟩ := X
  obtain ⟨⟨hx, hb, hml, hown, hts⟩, hK, hA, hAw, hiP, hSg, hlk, hR, hnL, hn, hn1, hn2, hnw⟩ := cx
  subst ey
  intro H locs ls hl hP hS
  have e : lg_cmp (lI y) (lI y) = iI 0 := by
    unfold lg_cmp
    rw [if_neg (fun q => absurd q Int64.lt_irrefl), if_pos rfl]
    rfl
  exact W.lcmp hx hb hd (by rw [e]; exact h2 H locs ls hl hP hS)
theorem pr_start3 {M : Mm} (h : Rl M) (q : Int) : xstaA (staM M q) q = staA M q := by
  have hm := h.m
  unfold xstaA staA staM
  by_cases c : HS M q
  · rw [if_neg (not_not_intro c), if_neg (not_not_intro c)]
    rw [if_neg (not_not_intro (show HX (stM M 23 5 q) q by
      show 0 ≤ q ∧ q ≤ stM M 23 5 q 77 10 - 1
      rw [stM_off (by decide)]
      have := c.1
      have := c.2
      omega)), stM_off (by decide)]
    exact hm.2.2
  · rw [if_pos c, if_pos c, if_pos]
    intro z
    apply c
    have := z.1
    have := z.2
    exact ⟨by omega, by omega⟩
theorem arm_row {X : Cq} {n : Nat} (hn : NN n) (cx : Cx X cL_law RL room_1 4 n) (cs : Cs X) {L : Nat} {xs : Nat → Int32} (sx : Sx X L xs) {M : Mm} (h : Rl M) {i : Int} (hi : 0 ≤ i ∧ i + 6 ≤ (L : Int)) (k : ∀ M2, Rl M2 → G X 1605 (lvL i) [] M2) : G X 256 (lvL i) [] M := by
  refine g_aload_n cx (pc2 := 257) 1 rfl dL_law_256 rfl ?_
  refine g_arg cx sx (pc2 := 262) 1 (by decide) hi dL_law_257 dL_law_258 dL_law_259 dL_law_260 dL_law_261 rfl ?_
  refine g_arg cx sx (pc2 := 267) 2 (by decide) hi dL_law_262 dL_law_263 dL_law_264 dL_law_265 dL_law_266 rfl ?_
  refine g_callV cx (pc2 := 270) (st := []) (As := [.int (iI (Zx xs (i + 1))), .int (iI (Zx xs (i + 2)))]) (k0 := 0) (ci := 11) (c_X11_row (M := M) hn h.1 (Zx xs (i + 1)) (Zx xs (i + 2)) (Zx_ir _ _) (Zx_ir _ _)) wM_X11_row wV_X11_row kl_L_13 rfl (lt_lit hn (Nat.le_of_ble_eq_true rfl)) rfl ⟨rfl, rfl, (Nat.le_of_ble_eq_true rfl), (Nat.le_of_ble_eq_true rfl)⟩ (Nat.le_of_ble_eq_true rfl) cs rfl rfl dL_law_267 rfl ?_
  rintro _ _ ⟨rfl, rfl⟩
  have v := h.k7 (k7_row h.1 (Zx xs (i + 1)) (Zx xs (i + 2)))
  refine g_aload_n cx (pc2 := 271) 2 rfl dL_law_270 rfl ?_
  refine g_arg cx sx (pc2 := 276) 1 (by decide) hi dL_law_271 dL_law_272 dL_law_273 dL_law_274 dL_law_275 rfl ?_
  refine g_arg cx sx (pc2 := 281) 2 (by decide) hi dL_law_276 dL_law_277 dL_law_278 dL_law_279 dL_law_280 rfl ?_
  refine g_callV cx (pc2 := 284) (st := [.int (iI ((rowA (Zx xs (i + 1)) (Zx xs (i + 2)))))]) (As := [.int (iI (Zx xs (i + 1))), .int (iI (Zx xs (i + 2)))]) (k0 := 77) (ci := 12) (c_X12_row (M := (rowM M (Zx xs (i + 1)) (Zx xs (i + 2)))) hn (Zx xs (i + 1)) (Zx xs (i + 2)) (Zx_ir _ _) (Zx_ir _ _)) wM_X12_row wV_X12_row kl_L_17 rfl (lt_lit hn (Nat.le_of_ble_eq_true rfl)) rfl ⟨rfl, rfl, (Nat.le_of_ble_eq_true rfl), (Nat.le_of_ble_eq_true rfl)⟩ (Nat.le_of_ble_eq_true rfl) cs rfl rfl dL_law_281 rfl ?_
  rintro _ _ ⟨rfl, rfl⟩
  have e : (rowA (Zx xs (i + 1)) (Zx xs (i + 2))) = (rowA (Zx xs (i + 1)) (Zx xs (i + 2))) := rfl
  have hr := pr_row h (Zx xs (i + 1)) (Zx xs (i + 2))
  exact g_eqT cx (tgt := 1605) e dL_law_284 rfl (k _ hr)
theorem arm_lay {X : Cq} {n : Nat} (hn : NN n) (cx : Cx X cL_law RL room_1 4 n) (cs : Cs X) {L : Nat} {xs : Nat → Int32} (sx : Sx X L xs) {M : Mm} (h : Rl M) {i : Int} (hi : 0 ≤ i ∧ i + 6 ≤ (L : Int)) (k : ∀ M2, Rl M2 → G X 1605 (lvL i) [] M2) : G X 289 (lvL i) [] M := by
  refine g_aload_n cx (pc2 := 290) 1 rfl dL_law_289 rfl ?_
  refine g_arg cx sx (pc2 := 295) 1 (by decide) hi dL_law_290 dL_law_291 dL_law_292 dL_law_293 dL_law_294 rfl ?_
  refine g_arg cx sx (pc2 := 300) 2 (by decide) hi dL_law_295 dL_law_296 dL_law_297 dL_law_298 dL_law_299 rfl ?_
  refine g_arg cx sx (pc2 := 305) 3 (by decide) hi dL_law_300 dL_law_301 dL_law_302 dL_law_303 dL_law_304 rfl ?_
  refine g_callV cx (pc2 := 308) (st := []) (As := [.int (iI (Zx xs (i + 1))), .int (iI (Zx xs (i + 2))), .int (iI (Zx xs (i + 3)))]) (k0 := 0) (ci := 11) (c_X11_lay (M := M) hn h.1 (Zx xs (i + 1)) (Zx xs (i + 2)) (Zx xs (i + 3)) (Zx_ir _ _) (Zx_ir _ _)) wM_X11_lay wV_X11_lay kl_L_18 rfl (lt_lit hn (Nat.le_of_ble_eq_true rfl)) rfl ⟨rfl, rfl, (Nat.le_of_ble_eq_true rfl), (Nat.le_of_ble_eq_true rfl)⟩ (Nat.le_of_ble_eq_true rfl) cs rfl rfl dL_law_305 rfl ?_
  rintro _ _ ⟨rfl, rfl⟩
  have v := h.k7 (k7_lay h.1 (Zx xs (i + 1)) (Zx xs (i + 2)) (Zx xs (i + 3)))
  refine g_aload_n cx (pc2 := 309) 2 rfl dL_law_308 rfl ?_
  refine g_arg cx sx (pc2 := 314) 1 (by decide) hi dL_law_309 dL_law_310 dL_law_311 dL_law_312 dL_law_313 rfl ?_
  refine g_arg cx sx (pc2 := 319) 2 (by decide) hi dL_law_314 dL_law_315 dL_law_316 dL_law_317 dL_law_318 rfl ?_
  refine g_arg cx sx (pc2 := 324) 3 (by decide) hi dL_law_319 dL_law_320 dL_law_321 dL_law_322 dL_law_323 rfl ?_
  refine g_callV cx (pc2 := 327) (st := [.int (iI ((layA M (Zx xs (i + 1)) (Zx xs (i + 2)))))]) (As := [.int (iI (Zx xs (i + 1))), .int (iI (Zx xs (i + 2))), .int (iI (Zx xs (i + 3)))]) (k0 := 77) (ci := 12) (c_X12_lay (M := (layM M (Zx xs (i + 1)) (Zx xs (i + 2)) (Zx xs (i + 3)))) hn v.1.1.2.1 (Zx xs (i + 1)) (Zx xs (i + 2)) (Zx xs (i + 3)) (Zx_ir _ _) (Zx_ir _ _)) wM_X12_lay wV_X12_lay kl_L_22 rfl (lt_lit hn (Nat.le_of_ble_eq_true rfl)) rfl ⟨rfl, rfl, (Nat.le_of_ble_eq_true rfl), (Nat.le_of_ble_eq_true rfl)⟩ (Nat.le_of_ble_eq_true rfl) cs rfl rfl dL_law_324 rfl ?_
  rintro _ _ ⟨rfl, rfl⟩
  obtain ⟨e, hr⟩ := pr_lay h (Zx xs (i + 1)) (Zx xs (i + 2)) (Zx xs (i + 3)) (Zx_ir _ _)
  exact g_eqT cx (tgt := 1605) e dL_law_327 rfl (k _ hr)
theorem arm_at {X : Cq} {n : Nat} (hn : NN n) (cx : Cx X cL_law RL room_1 4 n) (cs : Cs X) {L : Nat} {xs : Nat → Int32} (sx : Sx X L xs) {M : Mm} (h : Rl M) {i : Int} (hi : 0 ≤ i ∧ i + 6 ≤ (L : Int)) (k : ∀ M2, Rl M2 → G X 1605 (lvL i) [] M2) : G X 332 (lvL i) [] M := by
  refine g_aload_n cx (pc2 := 333) 1 rfl dL_law_332 rfl ?_
  refine g_arg cx sx (pc2 := 338) 1 (by decide) hi dL_law_333 dL_law_334 dL_law_335 dL_law_336 dL_law_337 rfl ?_
  refine g_arg cx sx (pc2 := 343) 2 (by decide) hi dL_law_338 dL_law_339 dL_law_340 dL_law_341 dL_law_342 rfl ?_
  refine g_callV cx (pc2 := 346) (st := []) (As := [.int (iI (Zx xs (i + 1))), .int (iI (Zx xs (i + 2)))]) (k0 := 0) (ci := 11) (c_X11_at (M := M) hn h.1 (Zx xs (i + 1)) (Zx xs (i + 2)) (Zx_ir _ _) (Zx_ir _ _)) wM_X11_at wV_X11_at kl_L_23 rfl (lt_lit hn (Nat.le_of_ble_eq_true rfl)) rfl ⟨rfl, rfl, (Nat.le_of_ble_eq_true rfl), (Nat.le_of_ble_eq_true rfl)⟩ (Nat.le_of_ble_eq_true rfl) cs rfl rfl dL_law_343 rfl ?_
  rintro _ _ ⟨rfl, rfl⟩
  have v := h.k7 (k7_at h.1 (Zx xs (i + 1)) (Zx xs (i + 2)))
  refine g_aload_n cx (pc2 := 347) 2 rfl dL_law_346 rfl ?_
  refine g_arg cx sx (pc2 := 352) 1 (by decide) hi dL_law_347 dL_law_348 dL_law_349 dL_law_350 dL_law_351 rfl ?_
  refine g_arg cx sx (pc2 := 357) 2 (by decide) hi dL_law_352 dL_law_353 dL_law_354 dL_law_355 dL_law_356 rfl ?_
  refine g_callV cx (pc2 := 360) (st := [.int (iI ((layA M (Zx xs (i + 1)) (Zx xs (i + 2)))))]) (As := [.int (iI (Zx xs (i + 1))), .int (iI (Zx xs (i + 2)))]) (k0 := 77) (ci := 12) (c_X12_at (M := (atM M (Zx xs (i + 1)) (Zx xs (i + 2)))) hn v.1.1.2.1 (Zx xs (i + 1)) (Zx xs (i + 2)) (Zx_ir _ _) (Zx_ir _ _)) wM_X12_at wV_X12_at kl_L_26 rfl (lt_lit hn (Nat.le_of_ble_eq_true rfl)) rfl ⟨rfl, rfl, (Nat.le_of_ble_eq_true rfl), (Nat.le_of_ble_eq_true rfl)⟩ (Nat.le_of_ble_eq_true rfl) cs rfl rfl dL_law_357 rfl ?_
  rintro _ _ ⟨rfl, rfl⟩
  obtain ⟨e, hr⟩ := pr_at h (Zx xs (i + 1)) (Zx xs (i + 2))
  exact g_eqT cx (tgt := 1605) e dL_law_360 rfl (k _ hr)
theorem arm_tear {X : Cq} {n : Nat} (hn : NN n) (cx : Cx X cL_law RL room_1 4 n) (cs : Cs X) {L : Nat} {xs : Nat → Int32} (sx : Sx X L xs) {M : Mm} (h : Rl M) {i : Int} (hi : 0 ≤ i ∧ i + 6 ≤ (L : Int)) (k : ∀ M2, Rl M2 → G X 1605 (lvL i) [] M2) : G X 365 (lvL i) [] M := by
  refine g_aload_n cx (pc2 := 366) 1 rfl dL_law_365 rfl ?_
  refine g_arg cx sx (pc2 := 371) 1 (by decide) hi dL_law_366 dL_law_367 dL_law_368 dL_law_369 dL_law_370 rfl ?_
  refine g_callV cx (pc2 := 374) (st := []) (As := [.int (iI (Zx xs (i + 1)))]) (k0 := 0) (ci := 11) (c_X11_tear (M := M) hn h.1 (Zx xs (i + 1)) (Zx_ir _ _)) wM_X11_tear wV_X11_tear kl_L_27 rfl (lt_lit hn (Nat.le_of_ble_eq_true rfl)) rfl ⟨rfl, rfl, (Nat.le_of_ble_eq_true rfl), (Nat.le_of_ble_eq_true rfl)⟩ (Nat.le_of_ble_eq_true rfl) cs rfl rfl dL_law_371 rfl ?_
  rintro _ _ ⟨rfl, rfl⟩
  have v := h.k7 (k7_tear h.1 (Zx xs (i + 1)))
  refine g_aload_n cx (pc2 := 375) 2 rfl dL_law_374 rfl ?_
  refine g_arg cx sx (pc2 := 380) 1 (by decide) hi dL_law_375 dL_law_376 dL_law_377 dL_law_378 dL_law_379 rfl ?_
  refine g_callV cx (pc2 := 383) (st := [.int (iI ((tearA M (Zx xs (i + 1)))))]) (As := [.int (iI (Zx xs (i + 1)))]) (k0 := 77) (ci := 12) (c_X12_tear (M := (tearM M (Zx xs (i + 1)))) hn v.1.1.2.1 (Zx xs (i + 1)) (Zx_ir _ _)) wM_X12_tear wV_X12_tear kl_L_31 rfl (lt_lit hn (Nat.le_of_ble_eq_true rfl)) rfl ⟨rfl, rfl, (Nat.le_of_ble_eq_true rfl), (Nat.le_of_ble_eq_true rfl)⟩ (Nat.le_of_ble_eq_true rfl) cs rfl rfl dL_law_380 rfl ?_
  rintro _ _ ⟨rfl, rfl⟩
  obtain ⟨e, hr⟩ := pr_tear h (Zx xs (i + 1))
  exact g_eqT cx (tgt := 1605) e dL_law_383 rfl (k _ hr)
theorem arm_copy {X : Cq} {n : Nat} (hn : NN n) (cx : Cx X cL_law RL room_1 4 n) (cs : Cs X) {L : Nat} {xs : Nat → Int32} (sx : Sx X L xs) {M : Mm} (h : Rl M) {i : Int} (hi : 0 ≤ i ∧ i + 6 ≤ (L : Int)) (k : ∀ M2, Rl M2 → G X 1605 (lvL i) [] M2) : G X 388 (lvL i) [] M := by
  refine g_aload_n cx (pc2 := 389) 1 rfl dL_law_388 rfl ?_
  refine g_arg cx sx (pc2 := 394) 1 (by decide) hi dL_law_389 dL_law_390 dL_law_391 dL_law_392 dL_law_393 rfl ?_
  refine g_arg cx sx (pc2 := 399) 2 (by decide) hi dL_law_394 dL_law_395 dL_law_396 dL_law_397 dL_law_398 rfl ?_
  refine g_arg cx sx (pc2 := 404) 3 (by decide) hi dL_law_399 dL_law_400 dL_law_401 dL_law_402 dL_law_403 rfl ?_
  refine g_arg cx sx (pc2 := 409) 4 (by decide) hi dL_law_404 dL_law_405 dL_law_406 dL_law_407 dL_law_408 rfl ?_
  refine g_arg cx sx (pc2 := 414) 5 (by decide) hi dL_law_409 dL_law_410 dL_law_411 dL_law_412 dL_law_413 rfl ?_
  refine g_callV cx (pc2 := 417) (st := []) (As := [.int (iI (Zx xs (i + 1))), .int (iI (Zx xs (i + 2))), .int (iI (Zx xs (i + 3))), .int (iI (Zx xs (i + 4))), .int (iI (Zx xs (i + 5)))]) (k0 := 0) (ci := 11) (c_X11_copy (M := M) hn h.1 (Zx xs (i + 1)) (Zx xs (i + 2)) (Zx xs (i + 3)) (Zx xs (i + 4)) (Zx xs (i + 5)) (Zx_ir _ _) (Zx_ir _ _) (Zx_ir _ _) (Zx_ir _ _) (Zx_ir _ _)) wM_X11_copy wV_X11_copy kl_L_32 rfl (lt_lit hn (Nat.le_of_ble_eq_true rfl)) rfl ⟨rfl, rfl, (Nat.le_of_ble_eq_true rfl), (Nat.le_of_ble_eq_true rfl)⟩ (Nat.le_of_ble_eq_true rfl) cs rfl rfl dL_law_414 rfl ?_
  rintro _ _ ⟨rfl, rfl⟩
  have v := h.k7 (k7_copy h.1 (Zx xs (i + 1)) (Zx xs (i + 2)) (Zx xs (i + 3)) (Zx xs (i + 4)) (Zx xs (i + 5)))
  refine g_aload_n cx (pc2 := 418) 2 rfl dL_law_417 rfl ?_
  refine g_arg cx sx (pc2 := 423) 1 (by decide) hi dL_law_418 dL_law_419 dL_law_420 dL_law_421 dL_law_422 rfl ?_
  refine g_arg cx sx (pc2 := 428) 2 (by decide) hi dL_law_423 dL_law_424 dL_law_425 dL_law_426 dL_law_427 rfl ?_
  refine g_arg cx sx (pc2 := 433) 3 (by decide) hi dL_law_428 dL_law_429 dL_law_430 dL_law_431 dL_law_432 rfl ?_
  refine g_arg cx sx (pc2 := 438) 4 (by decide) hi dL_law_433 dL_law_434 dL_law_435 dL_law_436 dL_law_437 rfl ?_
  refine g_arg cx sx (pc2 := 443) 5 (by decide) hi dL_law_438 dL_law_439 dL_law_440 dL_law_441 dL_law_442 rfl ?_
  refine g_callV cx (pc2 := 446) (st := [.int (iI ((copyA M (Zx xs (i + 1)) (Zx xs (i + 2)) (Zx xs (i + 3)) (Zx xs (i + 4)) (Zx xs (i + 5)))))]) (As := [.int (iI (Zx xs (i + 1))), .int (iI (Zx xs (i + 2))), .int (iI (Zx xs (i + 3))), .int (iI (Zx xs (i + 4))), .int (iI (Zx xs (i + 5)))]) (k0 := 77) (ci := 12) (c_X12_copy (M := (copyM M (Zx xs (i + 1)) (Zx xs (i + 2)) (Zx xs (i + 3)) (Zx xs (i + 4)) (Zx xs (i + 5)))) hn v.1.1.2.1 (Zx xs (i + 1)) (Zx xs (i + 2)) (Zx xs (i + 3)) (Zx xs (i + 4)) (Zx xs (i + 5)) (Zx_ir _ _) (Zx_ir _ _) (Zx_ir _ _) (Zx_ir _ _) (Zx_ir _ _)) wM_X12_copy wV_X12_copy kl_L_36 rfl (lt_lit hn (Nat.le_of_ble_eq_true rfl)) rfl ⟨rfl, rfl, (Nat.le_of_ble_eq_true rfl), (Nat.le_of_ble_eq_true rfl)⟩ (Nat.le_of_ble_eq_true rfl) cs rfl rfl dL_law_443 rfl ?_
  rintro _ _ ⟨rfl, rfl⟩
  obtain ⟨e, hr⟩ := pr_copy h (Zx xs (i + 1)) (Zx xs (i + 2)) (Zx xs (i + 3)) (Zx xs (i + 4)) (Zx xs (i + 5))
  exact g_eqT cx (tgt := 1605) e dL_law_446 rfl (k _ hr)
theorem arm_mean {X : Cq} {n : Nat} (hn : NN n) (cx : Cx X cL_law RL room_1 4 n) (cs : Cs X) {L : Nat} {xs : Nat → Int32} (sx : Sx X L xs) {M : Mm} (h : Rl M) {i : Int} (hi : 0 ≤ i ∧ i + 6 ≤ (L : Int)) (k : ∀ M2, Rl M2 → G X 1605 (lvL i) [] M2) : G X 451 (lvL i) [] M := by
  refine g_aload_n cx (pc2 := 452) 1 rfl dL_law_451 rfl ?_
  refine g_arg cx sx (pc2 := 457) 1 (by decide) hi dL_law_452 dL_law_453 dL_law_454 dL_law_455 dL_law_456 rfl ?_
  refine g_callV cx (pc2 := 460) (st := []) (As := [.int (iI (Zx xs (i + 1)))]) (k0 := 0) (ci := 11) (c_X11_mean (M := M) hn h.1 (Zx xs (i + 1)) (Zx_ir _ _)) wM_X11_mean wV_X11_mean kl_L_37 rfl (lt_lit hn (Nat.le_of_ble_eq_true rfl)) rfl ⟨rfl, rfl, (Nat.le_of_ble_eq_true rfl), (Nat.le_of_ble_eq_true rfl)⟩ (Nat.le_of_ble_eq_true rfl) cs rfl rfl dL_law_457 rfl ?_
  rintro _ _ ⟨rfl, rfl⟩
  have v := h.k7 (k7_mean h.1 (Zx xs (i + 1)))
  refine g_aload_n cx (pc2 := 461) 2 rfl dL_law_460 rfl ?_
  refine g_arg cx sx (pc2 := 466) 1 (by decide) hi dL_law_461 dL_law_462 dL_law_463 dL_law_464 dL_law_465 rfl ?_
  refine g_callV cx (pc2 := 469) (st := [.int (iI ((meanA M (Zx xs (i + 1)))))]) (As := [.int (iI (Zx xs (i + 1)))]) (k0 := 77) (ci := 12) (c_X12_mean (M := (meanM M (Zx xs (i + 1)))) hn v.1.1.2.1 (Zx xs (i + 1)) (Zx_ir _ _)) wM_X12_mean wV_X12_mean kl_L_40 rfl (lt_lit hn (Nat.le_of_ble_eq_true rfl)) rfl ⟨rfl, rfl, (Nat.le_of_ble_eq_true rfl), (Nat.le_of_ble_eq_true rfl)⟩ (Nat.le_of_ble_eq_true rfl) cs rfl rfl dL_law_466 rfl ?_
  rintro _ _ ⟨rfl, rfl⟩
  obtain ⟨e, hr⟩ := pr_mean h (Zx xs (i + 1))
  exact g_eqT cx (tgt := 1605) e dL_law_469 rfl (k _ hr)
theorem arm_text {X : Cq} {n : Nat} (hn : NN n) (cx : Cx X cL_law RL room_1 4 n) (cs : Cs X) {L : Nat} {xs : Nat → Int32} (sx : Sx X L xs) {M : Mm} (h : Rl M) {i : Int} (hi : 0 ≤ i ∧ i + 6 ≤ (L : Int)) (k : ∀ M2, Rl M2 → G X 1605 (lvL i) [] M2) : G X 474 (lvL i) [] M := by
  refine g_aload_n cx (pc2 := 475) 1 rfl dL_law_474 rfl ?_
  refine g_arg cx sx (pc2 := 480) 1 (by decide) hi dL_law_475 dL_law_476 dL_law_477 dL_law_478 dL_law_479 rfl ?_
  refine g_arg cx sx (pc2 := 485) 2 (by decide) hi dL_law_480 dL_law_481 dL_law_482 dL_law_483 dL_law_484 rfl ?_
  refine g_callV cx (pc2 := 488) (st := []) (As := [.int (iI (Zx xs (i + 1))), .int (iI (Zx xs (i + 2)))]) (k0 := 0) (ci := 11) (c_X11_text (M := M) hn h.1 (Zx xs (i + 1)) (Zx xs (i + 2)) (Zx_ir _ _) (Zx_ir _ _)) wM_X11_text wV_X11_text kl_L_41 rfl (lt_lit hn (Nat.le_of_ble_eq_true rfl)) rfl ⟨rfl, rfl, (Nat.le_of_ble_eq_true rfl), (Nat.le_of_ble_eq_true rfl)⟩ (Nat.le_of_ble_eq_true rfl) cs rfl rfl dL_law_485 rfl ?_
  rintro _ _ ⟨rfl, rfl⟩
  have v := h.k7 (k7_text h.1 (Zx xs (i + 1)) (Zx xs (i + 2)))
  refine g_aload_n cx (pc2 := 489) 2 rfl dL_law_488 rfl ?_
  refine g_arg cx sx (pc2 := 494) 1 (by decide) hi dL_law_489 dL_law_490 dL_law_491 dL_law_492 dL_law_493 rfl ?_
  refine g_arg cx sx (pc2 := 499) 2 (by decide) hi dL_law_494 dL_law_495 dL_law_496 dL_law_497 dL_law_498 rfl ?_
  refine g_callV cx (pc2 := 502) (st := [.int (iI ((textA (Zx xs (i + 1)) (Zx xs (i + 2)))))]) (As := [.int (iI (Zx xs (i + 1))), .int (iI (Zx xs (i + 2)))]) (k0 := 77) (ci := 12) (c_X12_text (M := (textM M (Zx xs (i + 1)) (Zx xs (i + 2)))) hn (Zx xs (i + 1)) (Zx xs (i + 2)) (Zx_ir _ _) (Zx_ir _ _)) wM_X12_text wV_X12_text kl_L_44 rfl (lt_lit hn (Nat.le_of_ble_eq_true rfl)) rfl ⟨rfl, rfl, (Nat.le_of_ble_eq_true rfl), (Nat.le_of_ble_eq_true rfl)⟩ (Nat.le_of_ble_eq_true rfl) cs rfl rfl dL_law_499 rfl ?_
  rintro _ _ ⟨rfl, rfl⟩
  have e : (textA (Zx xs (i + 1)) (Zx xs (i + 2))) = (textA (Zx xs (i + 1)) (Zx xs (i + 2))) := rfl
  have hr := pr_text h (Zx xs (i + 1)) (Zx xs (i + 2))
  exact g_eqT cx (tgt := 1605) e dL_law_502 rfl (k _ hr)
theorem arm_put {X : Cq} {n : Nat} (hn : NN n) (cx : Cx X cL_law RL room_1 4 n) (cs : Cs X) {L : Nat} {xs : Nat → Int32} (sx : Sx X L xs) {M : Mm} (h : Rl M) {i : Int} (hi : 0 ≤ i ∧ i + 6 ≤ (L : Int)) (k : ∀ M2, Rl M2 → G X 1605 (lvL i) [] M2) : G X 507 (lvL i) [] M := by
  refine g_aload_n cx (pc2 := 508) 1 rfl dL_law_507 rfl ?_
  refine g_arg cx sx (pc2 := 513) 1 (by decide) hi dL_law_508 dL_law_509 dL_law_510 dL_law_511 dL_law_512 rfl ?_
  refine g_arg cx sx (pc2 := 518) 2 (by decide) hi dL_law_513 dL_law_514 dL_law_515 dL_law_516 dL_law_517 rfl ?_
  refine g_arg cx sx (pc2 := 523) 3 (by decide) hi dL_law_518 dL_law_519 dL_law_520 dL_law_521 dL_law_522 rfl ?_
  refine g_callV cx (pc2 := 526) (st := []) (As := [.int (iI (Zx xs (i + 1))), .int (iI (Zx xs (i + 2))), .int (iI (Zx xs (i + 3)))]) (k0 := 0) (ci := 11) (c_X11_put (M := M) hn h.1 (Zx xs (i + 1)) (Zx xs (i + 2)) (Zx xs (i + 3)) (Zx_ir _ _) (Zx_ir _ _)) wM_X11_put wV_X11_put kl_L_45 rfl (lt_lit hn (Nat.le_of_ble_eq_true rfl)) rfl ⟨rfl, rfl, (Nat.le_of_ble_eq_true rfl), (Nat.le_of_ble_eq_true rfl)⟩ (Nat.le_of_ble_eq_true rfl) cs rfl rfl dL_law_523 rfl ?_
  rintro _ _ ⟨rfl, rfl⟩
  have v := h.k7 (k7_put h.1 (Zx xs (i + 1)) (Zx xs (i + 2)) (Zx xs (i + 3)))
  refine g_aload_n cx (pc2 := 527) 2 rfl dL_law_526 rfl ?_
  refine g_arg cx sx (pc2 := 532) 1 (by decide) hi dL_law_527 dL_law_528 dL_law_529 dL_law_530 dL_law_531 rfl ?_
  refine g_arg cx sx (pc2 := 537) 2 (by decide) hi dL_law_532 dL_law_533 dL_law_534 dL_law_535 dL_law_536 rfl ?_
  refine g_arg cx sx (pc2 := 542) 3 (by decide) hi dL_law_537 dL_law_538 dL_law_539 dL_law_540 dL_law_541 rfl ?_
  refine g_callV cx (pc2 := 545) (st := [.int (iI ((putA M (Zx xs (i + 1)) (Zx xs (i + 2)))))]) (As := [.int (iI (Zx xs (i + 1))), .int (iI (Zx xs (i + 2))), .int (iI (Zx xs (i + 3)))]) (k0 := 77) (ci := 12) (c_X12_put (M := (putM M (Zx xs (i + 1)) (Zx xs (i + 2)) (Zx xs (i + 3)))) hn v.1.1.2.2 (Zx xs (i + 1)) (Zx xs (i + 2)) (Zx xs (i + 3)) (Zx_ir _ _) (Zx_ir _ _)) wM_X12_put wV_X12_put kl_L_48 rfl (lt_lit hn (Nat.le_of_ble_eq_true rfl)) rfl ⟨rfl, rfl, (Nat.le_of_ble_eq_true rfl), (Nat.le_of_ble_eq_true rfl)⟩ (Nat.le_of_ble_eq_true rfl) cs rfl rfl dL_law_542 rfl ?_
  rintro _ _ ⟨rfl, rfl⟩
  obtain ⟨e, hr⟩ := pr_put h (Zx xs (i + 1)) (Zx xs (i + 2)) (Zx xs (i + 3))
  exact g_eqT cx (tgt := 1605) e dL_law_545 rfl (k _ hr)
theorem arm_fault {X : Cq} {n : Nat} (hn : NN n) (cx : Cx X cL_law RL room_1 4 n) (cs : Cs X) {L : Nat} {xs : Nat → Int32} (sx : Sx X L xs) {M : Mm} (h : Rl M) {i : Int} (hi : 0 ≤ i ∧ i + 6 ≤ (L : Int)) (k : ∀ M2, Rl M2 → G X 1605 (lvL i) [] M2) : G X 550 (lvL i) [] M := by
  refine g_aload_n cx (pc2 := 551) 1 rfl dL_law_550 rfl ?_
  refine g_arg cx sx (pc2 := 556) 1 (by decide) hi dL_law_551 dL_law_552 dL_law_553 dL_law_554 dL_law_555 rfl ?_
  refine g_callV cx (pc2 := 559) (st := []) (As := [.int (iI (Zx xs (i + 1)))]) (k0 := 0) (ci := 11) (c_X11_fault (M := M) hn h.1 (Zx xs (i + 1)) (Zx_ir _ _)) wM_X11_fault wV_X11_fault kl_L_49 rfl (lt_lit hn (Nat.le_of_ble_eq_true rfl)) rfl ⟨rfl, rfl, (Nat.le_of_ble_eq_true rfl), (Nat.le_of_ble_eq_true rfl)⟩ (Nat.le_of_ble_eq_true rfl) cs rfl rfl dL_law_556 rfl ?_
  rintro _ _ ⟨rfl, rfl⟩
  have v := h.k7 (k7_fault h.1 (Zx xs (i + 1)))
  refine g_aload_n cx (pc2 := 560) 2 rfl dL_law_559 rfl ?_
  refine g_arg cx sx (pc2 := 565) 1 (by decide) hi dL_law_560 dL_law_561 dL_law_562 dL_law_563 dL_law_564 rfl ?_
  have hk := k7_fault h.1 (Zx xs (i + 1))
  refine g_callV cx (pc2 := 568) (st := [.int (iI ((fauA M (Zx xs (i + 1)))))]) (As := [.int (iI (Zx xs (i + 1)))]) (k0 := 77) (ci := 12) (c_X12_fault (M := (fauM M (Zx xs (i + 1)))) hn (Zx xs (i + 1)) (Zx_ir _ _) (fun ht => h.ty ht (hk 82 (by decide) (by decide)) (hk 83 (by decide) (by decide))) M 35 (by decide) v.2) wM_X12_fault wV_X12_fault kl_L_52 rfl (lt_lit hn (Nat.le_of_ble_eq_true rfl)) rfl ⟨rfl, rfl, (Nat.le_of_ble_eq_true rfl), (Nat.le_of_ble_eq_true rfl)⟩ (Nat.le_of_ble_eq_true rfl) cs rfl rfl dL_law_565 rfl ?_
  rintro _ M2 ⟨zx, rfl, hx⟩
  obtain ⟨e, hr⟩ := pr_fault h hx
  exact g_eqT cx (tgt := 1605) e dL_law_568 rfl (k _ hr)
theorem arm_village {X : Cq} {n : Nat} (hn : NN n) (cx : Cx X cL_law RL room_1 4 n) (cs : Cs X) {L : Nat} {xs : Nat → Int32} (sx : Sx X L xs) {M : Mm} (h : Rl M) {i : Int} (hi : 0 ≤ i ∧ i + 6 ≤ (L : Int)) (k : ∀ M2, Rl M2 → G X 1605 (lvL i) [] M2) : G X 573 (lvL i) [] M := by
  refine g_aload_n cx (pc2 := 574) 1 rfl dL_law_573 rfl ?_
  refine g_arg cx sx (pc2 := 579) 1 (by decide) hi dL_law_574 dL_law_575 dL_law_576 dL_law_577 dL_law_578 rfl ?_
  refine g_callV cx (pc2 := 582) (st := []) (As := [.int (iI (Zx xs (i + 1)))]) (k0 := 0) (ci := 11) (c_X11_village (M := M) hn h.1 (Zx xs (i + 1)) (Zx_ir _ _)) wM_X11_village wV_X11_village kl_L_53 rfl (lt_lit hn (Nat.le_of_ble_eq_true rfl)) rfl ⟨rfl, rfl, (Nat.le_of_ble_eq_true rfl), (Nat.le_of_ble_eq_true rfl)⟩ (Nat.le_of_ble_eq_true rfl) cs rfl rfl dL_law_579 rfl ?_
  rintro _ _ ⟨rfl, rfl⟩
  have v := h.k7 (k7_village h.1 (Zx xs (i + 1)))
  refine g_aload_n cx (pc2 := 583) 2 rfl dL_law_582 rfl ?_
  refine g_arg cx sx (pc2 := 588) 1 (by decide) hi dL_law_583 dL_law_584 dL_law_585 dL_law_586 dL_law_587 rfl ?_
  have hk := k7_village h.1 (Zx xs (i + 1))
  refine g_callV cx (pc2 := 591) (st := [.int (iI ((villA M (Zx xs (i + 1)))))]) (As := [.int (iI (Zx xs (i + 1)))]) (k0 := 77) (ci := 12) (c_X12_village (M := (villM M (Zx xs (i + 1)))) hn (Zx xs (i + 1)) (Zx_ir _ _) (fun ht => h.ty ht (hk 82 (by decide) (by decide)) (hk 83 (by decide) (by decide))) (dfM M (Zx xs (i + 1))) 23 (by decide) v.2) wM_X12_village wV_X12_village kl_L_56 rfl (lt_lit hn (Nat.le_of_ble_eq_true rfl)) rfl ⟨rfl, rfl, (Nat.le_of_ble_eq_true rfl), (Nat.le_of_ble_eq_true rfl)⟩ (Nat.le_of_ble_eq_true rfl) cs rfl rfl dL_law_588 rfl ?_
  rintro _ M2 ⟨zx, rfl, hx⟩
  obtain ⟨e, hr⟩ := pr_village h hx
  exact g_eqT cx (tgt := 1605) e dL_law_591 rfl (k _ hr)
theorem arm_house {X : Cq} {n : Nat} (hn : NN n) (cx : Cx X cL_law RL room_1 4 n) (cs : Cs X) {L : Nat} {xs : Nat → Int32} (sx : Sx X L xs) {M : Mm} (h : Rl M) {i : Int} (hi : 0 ≤ i ∧ i + 6 ≤ (L : Int)) (k : ∀ M2, Rl M2 → G X 1605 (lvL i) [] M2) : G X 596 (lvL i) [] M := by
  refine g_aload_n cx (pc2 := 597) 1 rfl dL_law_596 rfl ?_
  refine g_arg cx sx (pc2 := 602) 1 (by decide) hi dL_law_597 dL_law_598 dL_law_599 dL_law_600 dL_law_601 rfl ?_
  refine g_callV cx (pc2 := 605) (st := []) (As := [.int (iI (Zx xs (i + 1)))]) (k0 := 0) (ci := 11) (c_X11_house (M := M) hn h.1 (Zx xs (i + 1)) (Zx_ir _ _)) wM_X11_house wV_X11_house kl_L_57 rfl (lt_lit hn (Nat.le_of_ble_eq_true rfl)) rfl ⟨rfl, rfl, (Nat.le_of_ble_eq_true rfl), (Nat.le_of_ble_eq_true rfl)⟩ (Nat.le_of_ble_eq_true rfl) cs rfl rfl dL_law_602 rfl ?_
  rintro _ _ ⟨rfl, rfl⟩
  have v := h.k7 (k7_house h.1 (Zx xs (i + 1)))
  refine g_aload_n cx (pc2 := 606) 2 rfl dL_law_605 rfl ?_
  refine g_arg cx sx (pc2 := 611) 1 (by decide) hi dL_law_606 dL_law_607 dL_law_608 dL_law_609 dL_law_610 rfl ?_
  refine g_callV cx (pc2 := 614) (st := [.int (iI ((houA M (Zx xs (i + 1)))))]) (As := [.int (iI (Zx xs (i + 1)))]) (k0 := 77) (ci := 12) (c_X12_house (M := (houM M (Zx xs (i + 1)))) hn v.1.1.1 (Zx xs (i + 1)) (Zx_ir _ _)) wM_X12_house wV_X12_house kl_L_60 rfl (lt_lit hn (Nat.le_of_ble_eq_true rfl)) rfl ⟨rfl, rfl, (Nat.le_of_ble_eq_true rfl), (Nat.le_of_ble_eq_true rfl)⟩ (Nat.le_of_ble_eq_true rfl) cs rfl rfl dL_law_611 rfl ?_
  rintro _ _ ⟨rfl, rfl⟩
  obtain ⟨e, hr⟩ := pr_house h (Zx xs (i + 1))
  exact g_eqT cx (tgt := 1605) e dL_law_614 rfl (k _ hr)
theorem arm_need {X : Cq} {n : Nat} (hn : NN n) (cx : Cx X cL_law RL room_1 4 n) (cs : Cs X) {L : Nat} {xs : Nat → Int32} (sx : Sx X L xs) {M : Mm} (h : Rl M) {i : Int} (hi : 0 ≤ i ∧ i + 6 ≤ (L : Int)) (k : ∀ M2, Rl M2 → G X 1605 (lvL i) [] M2) : G X 619 (lvL i) [] M := by
  refine g_aload_n cx (pc2 := 620) 1 rfl dL_law_619 rfl ?_
  refine g_arg cx sx (pc2 := 625) 1 (by decide) hi dL_law_620 dL_law_621 dL_law_622 dL_law_623 dL_law_624 rfl ?_
  refine g_arg cx sx (pc2 := 630) 2 (by decide) hi dL_law_625 dL_law_626 dL_law_627 dL_law_628 dL_law_629 rfl ?_
  refine g_callV cx (pc2 := 633) (st := []) (As := [.int (iI (Zx xs (i + 1))), .int (iI (Zx xs (i + 2)))]) (k0 := 0) (ci := 11) (c_X11_need (M := M) hn h.1 (Zx xs (i + 1)) (Zx xs (i + 2)) (Zx_ir _ _) (Zx_ir _ _)) wM_X11_need wV_X11_need kl_L_61 rfl (lt_lit hn (Nat.le_of_ble_eq_true rfl)) rfl ⟨rfl, rfl, (Nat.le_of_ble_eq_true rfl), (Nat.le_of_ble_eq_true rfl)⟩ (Nat.le_of_ble_eq_true rfl) cs rfl rfl dL_law_630 rfl ?_
  rintro _ _ ⟨rfl, rfl⟩
  have v := h.k7 (k7_need h.1 (Zx xs (i + 1)) (Zx xs (i + 2)))
  refine g_aload_n cx (pc2 := 634) 2 rfl dL_law_633 rfl ?_
  refine g_arg cx sx (pc2 := 639) 1 (by decide) hi dL_law_634 dL_law_635 dL_law_636 dL_law_637 dL_law_638 rfl ?_
  refine g_arg cx sx (pc2 := 644) 2 (by decide) hi dL_law_639 dL_law_640 dL_law_641 dL_law_642 dL_law_643 rfl ?_
  refine g_callV cx (pc2 := 647) (st := [.int (iI ((neeA M (Zx xs (i + 1)) (Zx xs (i + 2)))))]) (As := [.int (iI (Zx xs (i + 1))), .int (iI (Zx xs (i + 2)))]) (k0 := 77) (ci := 12) (c_X12_need (M := (neeM M (Zx xs (i + 1)) (Zx xs (i + 2)))) hn v.1.1.1 (Zx xs (i + 1)) (Zx xs (i + 2)) (Zx_ir _ _) (Zx_ir _ _)) wM_X12_need wV_X12_need kl_L_64 rfl (lt_lit hn (Nat.le_of_ble_eq_true rfl)) rfl ⟨rfl, rfl, (Nat.le_of_ble_eq_true rfl), (Nat.le_of_ble_eq_true rfl)⟩ (Nat.le_of_ble_eq_true rfl) cs rfl rfl dL_law_644 rfl ?_
  rintro _ _ ⟨rfl, rfl⟩
  obtain ⟨e, hr⟩ := pr_need h (Zx xs (i + 1)) (Zx xs (i + 2))
  exact g_eqT cx (tgt := 1605) e dL_law_647 rfl (k _ hr)
theorem arm_mark {X : Cq} {n : Nat} (hn : NN n) (cx : Cx X cL_law RL room_1 4 n) (cs : Cs X) {L : Nat} {xs : Nat → Int32} (sx : Sx X L xs) {M : Mm} (h : Rl M) {i : Int} (hi : 0 ≤ i ∧ i + 6 ≤ (L : Int)) (k : ∀ M2, Rl M2 → G X 1605 (lvL i) [] M2) : G X 652 (lvL i) [] M := by
  refine g_aload_n cx (pc2 := 653) 1 rfl dL_law_652 rfl ?_
  refine g_arg cx sx (pc2 := 658) 1 (by decide) hi dL_law_653 dL_law_654 dL_law_655 dL_law_656 dL_law_657 rfl ?_
  refine g_arg cx sx (pc2 := 663) 2 (by decide) hi dL_law_658 dL_law_659 dL_law_660 dL_law_661 dL_law_662 rfl ?_
  refine g_callV cx (pc2 := 666) (st := []) (As := [.int (iI (Zx xs (i + 1))), .int (iI (Zx xs (i + 2)))]) (k0 := 0) (ci := 11) (c_X11_mark (M := M) hn h.1 (Zx xs (i + 1)) (Zx xs (i + 2)) (Zx_ir _ _) (Zx_ir _ _)) wM_X11_mark wV_X11_mark kl_L_65 rfl (lt_lit hn (Nat.le_of_ble_eq_true rfl)) rfl ⟨rfl, rfl, (Nat.le_of_ble_eq_true rfl), (Nat.le_of_ble_eq_true rfl)⟩ (Nat.le_of_ble_eq_true rfl) cs rfl rfl dL_law_663 rfl ?_
  rintro _ _ ⟨rfl, rfl⟩
  have v := h.k7 (k7_mark h.1 (Zx xs (i + 1)) (Zx xs (i + 2)))
  refine g_aload_n cx (pc2 := 667) 2 rfl dL_law_666 rfl ?_
  refine g_arg cx sx (pc2 := 672) 1 (by decide) hi dL_law_667 dL_law_668 dL_law_669 dL_law_670 dL_law_671 rfl ?_
  refine g_arg cx sx (pc2 := 677) 2 (by decide) hi dL_law_672 dL_law_673 dL_law_674 dL_law_675 dL_law_676 rfl ?_
  refine g_callV cx (pc2 := 680) (st := [.int (iI ((marA M (Zx xs (i + 1)) (Zx xs (i + 2)))))]) (As := [.int (iI (Zx xs (i + 1))), .int (iI (Zx xs (i + 2)))]) (k0 := 77) (ci := 12) (c_X12_mark (M := (marM M (Zx xs (i + 1)) (Zx xs (i + 2)))) hn v.1.1.1 (Zx xs (i + 1)) (Zx xs (i + 2)) (Zx_ir _ _) (Zx_ir _ _)) wM_X12_mark wV_X12_mark kl_L_68 rfl (lt_lit hn (Nat.le_of_ble_eq_true rfl)) rfl ⟨rfl, rfl, (Nat.le_of_ble_eq_true rfl), (Nat.le_of_ble_eq_true rfl)⟩ (Nat.le_of_ble_eq_true rfl) cs rfl rfl dL_law_677 rfl ?_
  rintro _ _ ⟨rfl, rfl⟩
  obtain ⟨e, hr⟩ := pr_mark h (Zx xs (i + 1)) (Zx xs (i + 2))
  exact g_eqT cx (tgt := 1605) e dL_law_680 rfl (k _ hr)
theorem arm_start {X : Cq} {n : Nat} (hn : NN n) (cx : Cx X cL_law RL room_1 4 n) (cs : Cs X) {L : Nat} {xs : Nat → Int32} (sx : Sx X L xs) {M : Mm} (h : Rl M) {i : Int} (hi : 0 ≤ i ∧ i + 6 ≤ (L : Int)) (k : ∀ M2, Rl M2 → G X 1605 (lvL i) [] M2) : G X 685 (lvL i) [] M := by
  refine g_aload_n cx (pc2 := 686) 1 rfl dL_law_685 rfl ?_
  refine g_arg cx sx (pc2 := 691) 1 (by decide) hi dL_law_686 dL_law_687 dL_law_688 dL_law_689 dL_law_690 rfl ?_
  refine g_callV cx (pc2 := 694) (st := []) (As := [.int (iI (Zx xs (i + 1)))]) (k0 := 0) (ci := 11) (c_X11_start (M := M) hn h.1 (Zx xs (i + 1)) (Zx_ir _ _)) wM_X11_start wV_X11_start kl_L_69 rfl (lt_lit hn (Nat.le_of_ble_eq_true rfl)) rfl ⟨rfl, rfl, (Nat.le_of_ble_eq_true rfl), (Nat.le_of_ble_eq_true rfl)⟩ (Nat.le_of_ble_eq_true rfl) cs rfl rfl dL_law_691 rfl ?_
  rintro _ _ ⟨rfl, rfl⟩
  have v := h.k7 (k7_start h.1 (Zx xs (i + 1)))
  refine g_aload_n cx (pc2 := 695) 2 rfl dL_law_694 rfl ?_
  refine g_arg cx sx (pc2 := 700) 1 (by decide) hi dL_law_695 dL_law_696 dL_law_697 dL_law_698 dL_law_699 rfl ?_
  refine g_callV cx (pc2 := 703) (st := [.int (iI ((staA M (Zx xs (i + 1)))))]) (As := [.int (iI (Zx xs (i + 1)))]) (k0 := 77) (ci := 12) (c_X12_start (M := (staM M (Zx xs (i + 1)))) hn v.1.1.1 (Zx xs (i + 1)) (Zx_ir _ _)) wM_X12_start wV_X12_start kl_L_72 rfl (lt_lit hn (Nat.le_of_ble_eq_true rfl)) rfl ⟨rfl, rfl, (Nat.le_of_ble_eq_true rfl), (Nat.le_of_ble_eq_true rfl)⟩ (Nat.le_of_ble_eq_true rfl) cs rfl rfl dL_law_700 rfl ?_
  rintro _ _ ⟨rfl, rfl⟩
  have e := pr_start3 h (Zx xs (i + 1))
  exact g_eqT cx (tgt := 1605) e dL_law_703 rfl (k _ (pr_start2 h (Zx xs (i + 1))))
theorem arm_carry {X : Cq} {n : Nat} (hn : NN n) (cx : Cx X cL_law RL room_1 4 n) (cs : Cs X) {L : Nat} {xs : Nat → Int32} (sx : Sx X L xs) {M : Mm} (h : Rl M) {i : Int} (hi : 0 ≤ i ∧ i + 6 ≤ (L : Int)) (k : ∀ M2, Rl M2 → G X 1605 (lvL i) [] M2) : G X 708 (lvL i) [] M := by
  refine g_aload_n cx (pc2 := 709) 1 rfl dL_law_708 rfl ?_
  refine g_arg cx sx (pc2 := 714) 1 (by decide) hi dL_law_709 dL_law_710 dL_law_711 dL_law_712 dL_law_713 rfl ?_
  refine g_arg cx sx (pc2 := 719) 2 (by decide) hi dL_law_714 dL_law_715 dL_law_716 dL_law_717 dL_law_718 rfl ?_
  refine g_callV cx (pc2 := 722) (st := []) (As := [.int (iI (Zx xs (i + 1))), .int (iI (Zx xs (i + 2)))]) (k0 := 0) (ci := 11) (c_X11_carry (M := M) hn h.1 (Zx xs (i + 1)) (Zx xs (i + 2)) (Zx_ir _ _) (Zx_ir _ _)) wM_X11_carry wV_X11_carry kl_L_73 rfl (lt_lit hn (Nat.le_of_ble_eq_true rfl)) rfl ⟨rfl, rfl, (Nat.le_of_ble_eq_true rfl), (Nat.le_of_ble_eq_true rfl)⟩ (Nat.le_of_ble_eq_true rfl) cs rfl rfl dL_law_719 rfl ?_
  rintro _ _ ⟨rfl, rfl⟩
  have v := h.k7 (k7.rf M)
  refine g_aload_n cx (pc2 := 723) 2 rfl dL_law_722 rfl ?_
  refine g_arg cx sx (pc2 := 728) 1 (by decide) hi dL_law_723 dL_law_724 dL_law_725 dL_law_726 dL_law_727 rfl ?_
  refine g_arg cx sx (pc2 := 733) 2 (by decide) hi dL_law_728 dL_law_729 dL_law_730 dL_law_731 dL_law_732 rfl ?_
  refine g_callV cx (pc2 := 736) (st := [.int (iI ((carA M (Zx xs (i + 1)) (Zx xs (i + 2)))))]) (As := [.int (iI (Zx xs (i + 1))), .int (iI (Zx xs (i + 2)))]) (k0 := 77) (ci := 12) (c_X12_carry (M := M) hn v.1.1.1 (Zx xs (i + 1)) (Zx xs (i + 2)) (Zx_ir _ _) (Zx_ir _ _)) wM_X12_carry wV_X12_carry kl_L_76 rfl (lt_lit hn (Nat.le_of_ble_eq_true rfl)) rfl ⟨rfl, rfl, (Nat.le_of_ble_eq_true rfl), (Nat.le_of_ble_eq_true rfl)⟩ (Nat.le_of_ble_eq_true rfl) cs rfl rfl dL_law_733 rfl ?_
  rintro _ _ ⟨rfl, rfl⟩
  have e := pr_carry h (Zx xs (i + 1)) (Zx xs (i + 2))
  exact g_eqT cx (tgt := 1605) e dL_law_736 rfl (k _ h)
theorem arm_chance {X : Cq} {n : Nat} (hn : NN n) (cx : Cx X cL_law RL room_1 4 n) (cs : Cs X) {L : Nat} {xs : Nat → Int32} (sx : Sx X L xs) {M : Mm} (h : Rl M) {i : Int} (hi : 0 ≤ i ∧ i + 6 ≤ (L : Int)) (k : ∀ M2, Rl M2 → G X 1605 (lvL i) [] M2) : G X 741 (lvL i) [] M := by
  refine g_aload_n cx (pc2 := 742) 1 rfl dL_law_741 rfl ?_
  refine g_arg cx sx (pc2 := 747) 1 (by decide) hi dL_law_742 dL_law_743 dL_law_744 dL_law_745 dL_law_746 rfl ?_
  refine g_arg cx sx (pc2 := 752) 2 (by decide) hi dL_law_747 dL_law_748 dL_law_749 dL_law_750 dL_law_751 rfl ?_
  refine g_callV cx (pc2 := 755) (st := []) (As := [.int (iI (Zx xs (i + 1))), .int (iI (Zx xs (i + 2)))]) (k0 := 0) (ci := 11) (c_X11_chance (M := M) hn h.1 (Zx xs (i + 1)) (Zx xs (i + 2)) (Zx_ir _ _) (Zx_ir _ _)) wM_X11_chance wV_X11_chance kl_L_77 rfl (lt_lit hn (Nat.le_of_ble_eq_true rfl)) rfl ⟨rfl, rfl, (Nat.le_of_ble_eq_true rfl), (Nat.le_of_ble_eq_true rfl)⟩ (Nat.le_of_ble_eq_true rfl) cs rfl rfl dL_law_752 rfl ?_
  rintro _ _ ⟨rfl, rfl⟩
  have v := h.k7 (k7_chance h.1 (Zx xs (i + 1)) (Zx xs (i + 2)))
  refine g_aload_n cx (pc2 := 756) 2 rfl dL_law_755 rfl ?_
  refine g_arg cx sx (pc2 := 761) 1 (by decide) hi dL_law_756 dL_law_757 dL_law_758 dL_law_759 dL_law_760 rfl ?_
  refine g_arg cx sx (pc2 := 766) 2 (by decide) hi dL_law_761 dL_law_762 dL_law_763 dL_law_764 dL_law_765 rfl ?_
  refine g_callV cx (pc2 := 769) (st := [.int (iI ((chaA M (Zx xs (i + 1)) (Zx xs (i + 2)))))]) (As := [.int (iI (Zx xs (i + 1))), .int (iI (Zx xs (i + 2)))]) (k0 := 77) (ci := 12) (c_X12_chance (M := (chaM M (Zx xs (i + 1)) (Zx xs (i + 2)))) hn v.1.1.1 (Zx xs (i + 1)) (Zx xs (i + 2)) (Zx_ir _ _) (Zx_ir _ _)) wM_X12_chance wV_X12_chance kl_L_80 rfl (lt_lit hn (Nat.le_of_ble_eq_true rfl)) rfl ⟨rfl, rfl, (Nat.le_of_ble_eq_true rfl), (Nat.le_of_ble_eq_true rfl)⟩ (Nat.le_of_ble_eq_true rfl) cs rfl rfl dL_law_766 rfl ?_
  rintro _ _ ⟨rfl, rfl⟩
  obtain ⟨e, hr⟩ := pr_chance h (Zx xs (i + 1)) (Zx xs (i + 2))
  exact g_eqT cx (tgt := 1605) e dL_law_769 rfl (k _ hr)
theorem arm_order {X : Cq} {n : Nat} (hn : NN n) (cx : Cx X cL_law RL room_1 4 n) (cs : Cs X) {L : Nat} {xs : Nat → Int32} (sx : Sx X L xs) {M : Mm} (h : Rl M) {i : Int} (hi : 0 ≤ i ∧ i + 6 ≤ (L : Int)) (k : ∀ M2, Rl M2 → G X 1605 (lvL i) [] M2) : G X 774 (lvL i) [] M := by
  refine g_aload_n cx (pc2 := 775) 1 rfl dL_law_774 rfl ?_
  refine g_arg cx sx (pc2 := 780) 1 (by decide) hi dL_law_775 dL_law_776 dL_law_777 dL_law_778 dL_law_779 rfl ?_
  refine g_callV cx (pc2 := 783) (st := []) (As := [.int (iI (Zx xs (i + 1)))]) (k0 := 0) (ci := 11) (c_X11_order (M := M) hn h.1 (Zx xs (i + 1)) (Zx_ir _ _)) wM_X11_order wV_X11_order kl_L_81 rfl (lt_lit hn (Nat.le_of_ble_eq_true rfl)) rfl ⟨rfl, rfl, (Nat.le_of_ble_eq_true rfl), (Nat.le_of_ble_eq_true rfl)⟩ (Nat.le_of_ble_eq_true rfl) cs rfl rfl dL_law_780 rfl ?_
  rintro _ _ ⟨rfl, rfl⟩
  have v := h.k7 (k7_order h.1 (Zx xs (i + 1)))
  refine g_aload_n cx (pc2 := 784) 2 rfl dL_law_783 rfl ?_
  refine g_arg cx sx (pc2 := 789) 1 (by decide) hi dL_law_784 dL_law_785 dL_law_786 dL_law_787 dL_law_788 rfl ?_
  refine g_callV cx (pc2 := 792) (st := [.int (iI ((ordA M (Zx xs (i + 1)))))]) (As := [.int (iI (Zx xs (i + 1)))]) (k0 := 77) (ci := 12) (c_X12_order (M := (ordM M (Zx xs (i + 1)))) hn v.1.1.1 v.1.1.2.1 (Zx xs (i + 1)) (Zx_ir _ _)) wM_X12_order wV_X12_order kl_L_84 rfl (lt_lit hn (Nat.le_of_ble_eq_true rfl)) rfl ⟨rfl, rfl, (Nat.le_of_ble_eq_true rfl), (Nat.le_of_ble_eq_true rfl)⟩ (Nat.le_of_ble_eq_true rfl) cs rfl rfl dL_law_789 rfl ?_
  rintro _ M2 ⟨zx, rfl, hx⟩
  obtain ⟨e, hr⟩ := pr_order h hx
  exact g_eqT cx (tgt := 1605) e dL_law_792 rfl (k _ hr)
theorem arm_begins {X : Cq} {n : Nat} (hn : NN n) (cx : Cx X cL_law RL room_1 4 n) (cs : Cs X) {L : Nat} {xs : Nat → Int32} (sx : Sx X L xs) {M : Mm} (h : Rl M) {i : Int} (hi : 0 ≤ i ∧ i + 6 ≤ (L : Int)) (k : ∀ M2, Rl M2 → G X 1605 (lvL i) [] M2) : G X 797 (lvL i) [] M := by
  refine g_aload_n cx (pc2 := 798) 1 rfl dL_law_797 rfl ?_
  refine g_arg cx sx (pc2 := 803) 1 (by decide) hi dL_law_798 dL_law_799 dL_law_800 dL_law_801 dL_law_802 rfl ?_
  refine g_arg cx sx (pc2 := 808) 2 (by decide) hi dL_law_803 dL_law_804 dL_law_805 dL_law_806 dL_law_807 rfl ?_
  refine g_callV cx (pc2 := 811) (st := []) (As := [.int (iI (Zx xs (i + 1))), .int (iI (Zx xs (i + 2)))]) (k0 := 0) (ci := 11) (c_X11_begins (M := M) hn h.1 (Zx xs (i + 1)) (Zx xs (i + 2)) (Zx_ir _ _) (Zx_ir _ _)) wM_X11_begins wV_X11_begins kl_L_85 rfl (lt_lit hn (Nat.le_of_ble_eq_true rfl)) rfl ⟨rfl, rfl, (Nat.le_of_ble_eq_true rfl), (Nat.le_of_ble_eq_true rfl)⟩ (Nat.le_of_ble_eq_true rfl) cs rfl rfl dL_law_808 rfl ?_
  rintro _ _ ⟨rfl, rfl⟩
  have v := h.k7 (k7_begins h.1 (Zx xs (i + 1)) (Zx xs (i + 2)))
  refine g_aload_n cx (pc2 := 812) 2 rfl dL_law_811 rfl ?_
  refine g_arg cx sx (pc2 := 817) 1 (by decide) hi dL_law_812 dL_law_813 dL_law_814 dL_law_815 dL_law_816 rfl ?_
  refine g_arg cx sx (pc2 := 822) 2 (by decide) hi dL_law_817 dL_law_818 dL_law_819 dL_law_820 dL_law_821 rfl ?_
  refine g_callV cx (pc2 := 825) (st := [.int (iI ((begA M (Zx xs (i + 1)) (Zx xs (i + 2)))))]) (As := [.int (iI (Zx xs (i + 1))), .int (iI (Zx xs (i + 2)))]) (k0 := 77) (ci := 12) (c_X12_begins (M := (begM M (Zx xs (i + 1)) (Zx xs (i + 2)))) hn v.1.1.1 v.1.1.2.1 (Zx xs (i + 1)) (Zx xs (i + 2)) (Zx_ir _ _) (Zx_ir _ _)) wM_X12_begins wV_X12_begins kl_L_88 rfl (lt_lit hn (Nat.le_of_ble_eq_true rfl)) rfl ⟨rfl, rfl, (Nat.le_of_ble_eq_true rfl), (Nat.le_of_ble_eq_true rfl)⟩ (Nat.le_of_ble_eq_true rfl) cs rfl rfl dL_law_822 rfl ?_
  rintro _ M2 ⟨zx, rfl, hx⟩
  obtain ⟨e, hr⟩ := pr_begins h hx
  exact g_eqT cx (tgt := 1605) e dL_law_825 rfl (k _ hr)
theorem arm_can {X : Cq} {n : Nat} (hn : NN n) (cx : Cx X cL_law RL room_1 4 n) (cs : Cs X) {L : Nat} {xs : Nat → Int32} (sx : Sx X L xs) {M : Mm} (h : Rl M) {i : Int} (hi : 0 ≤ i ∧ i + 6 ≤ (L : Int)) (k : ∀ M2, Rl M2 → G X 1605 (lvL i) [] M2) : G X 830 (lvL i) [] M := by
  refine g_aload_n cx (pc2 := 831) 1 rfl dL_law_830 rfl ?_
  refine g_arg cx sx (pc2 := 836) 1 (by decide) hi dL_law_831 dL_law_832 dL_law_833 dL_law_834 dL_law_835 rfl ?_
  refine g_callV cx (pc2 := 839) (st := []) (As := [.int (iI (Zx xs (i + 1)))]) (k0 := 0) (ci := 11) (c_X11_can (M := M) hn h.1 (Zx xs (i + 1)) (Zx_ir _ _)) wM_X11_can wV_X11_can kl_L_89 rfl (lt_lit hn (Nat.le_of_ble_eq_true rfl)) rfl ⟨rfl, rfl, (Nat.le_of_ble_eq_true rfl), (Nat.le_of_ble_eq_true rfl)⟩ (Nat.le_of_ble_eq_true rfl) cs rfl rfl dL_law_836 rfl ?_
  rintro _ _ ⟨rfl, rfl⟩
  have v := h.k7 (k7_can h.1 (Zx xs (i + 1)))
  refine g_aload_n cx (pc2 := 840) 2 rfl dL_law_839 rfl ?_
  refine g_arg cx sx (pc2 := 845) 1 (by decide) hi dL_law_840 dL_law_841 dL_law_842 dL_law_843 dL_law_844 rfl ?_
  refine g_callV cx (pc2 := 848) (st := [.int (iI ((canA M (Zx xs (i + 1)))))]) (As := [.int (iI (Zx xs (i + 1)))]) (k0 := 77) (ci := 12) (c_X12_can (M := (canM M (Zx xs (i + 1)))) hn v.1.1.1 (Zx xs (i + 1)) (Zx_ir _ _)) wM_X12_can wV_X12_can kl_L_92 rfl (lt_lit hn (Nat.le_of_ble_eq_true rfl)) rfl ⟨rfl, rfl, (Nat.le_of_ble_eq_true rfl), (Nat.le_of_ble_eq_true rfl)⟩ (Nat.le_of_ble_eq_true rfl) cs rfl rfl dL_law_845 rfl ?_
  rintro _ M2 ⟨zx, rfl, hx⟩
  obtain ⟨e, hr⟩ := pr_can h hx
  exact g_eqT cx (tgt := 1605) e dL_law_848 rfl (k _ hr)
theorem arm_sets {X : Cq} {n : Nat} (hn : NN n) (cx : Cx X cL_law RL room_1 4 n) (cs : Cs X) {L : Nat} {xs : Nat → Int32} (sx : Sx X L xs) {M : Mm} (h : Rl M) {i : Int} (hi : 0 ≤ i ∧ i + 6 ≤ (L : Int)) (k : ∀ M2, Rl M2 → G X 1605 (lvL i) [] M2) : G X 853 (lvL i) [] M := by
  refine g_aload_n cx (pc2 := 854) 1 rfl dL_law_853 rfl ?_
  refine g_callV cx (pc2 := 857) (st := []) (As := []) (k0 := 0) (ci := 11) (c_X11_sets (M := M) hn h.1) wM_X11_sets wV_X11_sets kl_L_93 rfl (lt_lit hn (Nat.le_of_ble_eq_true rfl)) rfl ⟨rfl, rfl, (Nat.le_of_ble_eq_true rfl), (Nat.le_of_ble_eq_true rfl)⟩ (Nat.le_of_ble_eq_true rfl) cs rfl rfl dL_law_854 rfl ?_
  rintro _ _ ⟨rfl, rfl⟩
  have v := h.k7 (k7_sets h.1)
  refine g_aload_n cx (pc2 := 858) 2 rfl dL_law_857 rfl ?_
  refine g_callV cx (pc2 := 861) (st := [.int (iI (((stF (gfA M ((allN (M 23 4) : Nat) : Int)) (allN (M 23 4) + 1)).1)))]) (As := []) (k0 := 77) (ci := 12) (c_X12_sets (M := (setsM M)) hn v.1.1.1) wM_X12_sets wV_X12_sets kl_L_97 rfl (lt_lit hn (Nat.le_of_ble_eq_true rfl)) rfl ⟨rfl, rfl, (Nat.le_of_ble_eq_true rfl), (Nat.le_of_ble_eq_true rfl)⟩ (Nat.le_of_ble_eq_true rfl) cs rfl rfl dL_law_858 rfl ?_
  rintro _ M2 ⟨zx, rfl, hx⟩
  obtain ⟨e, hr⟩ := pr_sets h hx
  exact g_eqT cx (tgt := 1605) e dL_law_861 rfl (k _ hr)
theorem arm_best {X : Cq} {n : Nat} (hn : NN n) (cx : Cx X cL_law RL room_1 4 n) (cs : Cs X) {L : Nat} {xs : Nat → Int32} (sx : Sx X L xs) {M : Mm} (h : Rl M) {i : Int} (hi : 0 ≤ i ∧ i + 6 ≤ (L : Int)) (k : ∀ M2, Rl M2 → G X 1605 (lvL i) [] M2) : G X 866 (lvL i) [] M := by
  refine g_aload_n cx (pc2 := 867) 1 rfl dL_law_866 rfl ?_
  refine g_callV cx (pc2 := 870) (st := []) (As := []) (k0 := 0) (ci := 11) (c_X11_best (M := M) hn h.1) wM_X11_best wV_X11_best kl_L_98 rfl (lt_lit hn (Nat.le_of_ble_eq_true rfl)) rfl ⟨rfl, rfl, (Nat.le_of_ble_eq_true rfl), (Nat.le_of_ble_eq_true rfl)⟩ (Nat.le_of_ble_eq_true rfl) cs rfl rfl dL_law_867 rfl ?_
  rintro _ _ ⟨rfl, rfl⟩
  have v := h.k7 (k7_best h.1)
  refine g_aload_n cx (pc2 := 871) 2 rfl dL_law_870 rfl ?_
  refine g_callV cx (pc2 := 874) (st := [.int (iI ((bstA M)))]) (As := []) (k0 := 77) (ci := 12) (c_X12_best (M := (bstM M)) hn v.1.1.1) wM_X12_best wV_X12_best kl_L_101 rfl (lt_lit hn (Nat.le_of_ble_eq_true rfl)) rfl ⟨rfl, rfl, (Nat.le_of_ble_eq_true rfl), (Nat.le_of_ble_eq_true rfl)⟩ (Nat.le_of_ble_eq_true rfl) cs rfl rfl dL_law_871 rfl ?_
  rintro _ M2 ⟨zx, rfl, hx⟩
  obtain ⟨e, hr⟩ := pr_best h hx
  exact g_eqT cx (tgt := 1605) e dL_law_874 rfl (k _ hr)
theorem arm_first {X : Cq} {n : Nat} (hn : NN n) (cx : Cx X cL_law RL room_1 4 n) (cs : Cs X) {L : Nat} {xs : Nat → Int32} (sx : Sx X L xs) {M : Mm} (h : Rl M) {i : Int} (hi : 0 ≤ i ∧ i + 6 ≤ (L : Int)) (k : ∀ M2, Rl M2 → G X 1605 (lvL i) [] M2) : G X 879 (lvL i) [] M := by
  refine g_aload_n cx (pc2 := 880) 1 rfl dL_law_879 rfl ?_
  refine g_arg cx sx (pc2 := 885) 1 (by decide) hi dL_law_880 dL_law_881 dL_law_882 dL_law_883 dL_law_884 rfl ?_
  refine g_arg cx sx (pc2 := 890) 2 (by decide) hi dL_law_885 dL_law_886 dL_law_887 dL_law_888 dL_law_889 rfl ?_
  refine g_callV cx (pc2 := 893) (st := []) (As := [.int (iI (Zx xs (i + 1))), .int (iI (Zx xs (i + 2)))]) (k0 := 0) (ci := 11) (c_X11_first (M := M) hn h.1 (Zx xs (i + 1)) (Zx xs (i + 2)) (Zx_ir _ _) (Zx_ir _ _)) wM_X11_first wV_X11_first kl_L_102 rfl (lt_lit hn (Nat.le_of_ble_eq_true rfl)) rfl ⟨rfl, rfl, (Nat.le_of_ble_eq_true rfl), (Nat.le_of_ble_eq_true rfl)⟩ (Nat.le_of_ble_eq_true rfl) cs rfl rfl dL_law_890 rfl ?_
  rintro _ _ ⟨rfl, rfl⟩
  have v := h.k7 (k7_first h.1 (Zx xs (i + 1)) (Zx xs (i + 2)))
  refine g_aload_n cx (pc2 := 894) 2 rfl dL_law_893 rfl ?_
  refine g_arg cx sx (pc2 := 899) 1 (by decide) hi dL_law_894 dL_law_895 dL_law_896 dL_law_897 dL_law_898 rfl ?_
  refine g_arg cx sx (pc2 := 904) 2 (by decide) hi dL_law_899 dL_law_900 dL_law_901 dL_law_902 dL_law_903 rfl ?_
  refine g_callV cx (pc2 := 907) (st := [.int (iI ((fstA M (Zx xs (i + 1)) (Zx xs (i + 2)))))]) (As := [.int (iI (Zx xs (i + 1))), .int (iI (Zx xs (i + 2)))]) (k0 := 77) (ci := 12) (c_X12_first (M := (fstM M (Zx xs (i + 1)) (Zx xs (i + 2)))) hn v.1.1.1 (Zx xs (i + 1)) (Zx xs (i + 2)) (Zx_ir _ _) (Zx_ir _ _)) wM_X12_first wV_X12_first kl_L_105 rfl (lt_lit hn (Nat.le_of_ble_eq_true rfl)) rfl ⟨rfl, rfl, (Nat.le_of_ble_eq_true rfl), (Nat.le_of_ble_eq_true rfl)⟩ (Nat.le_of_ble_eq_true rfl) cs rfl rfl dL_law_904 rfl ?_
  rintro _ M2 ⟨zx, rfl, hx⟩
  obtain ⟨e, hr⟩ := pr_first h hx
  exact g_eqT cx (tgt := 1605) e dL_law_907 rfl (k _ hr)
theorem arm_costs {X : Cq} {n : Nat} (hn : NN n) (cx : Cx X cL_law RL room_1 4 n) (cs : Cs X) {L : Nat} {xs : Nat → Int32} (sx : Sx X L xs) {M : Mm} (h : Rl M) {i : Int} (hi : 0 ≤ i ∧ i + 6 ≤ (L : Int)) (k : ∀ M2, Rl M2 → G X 1605 (lvL i) [] M2) : G X 935 (lvL i) [] M := by
  refine g_aload_n cx (pc2 := 936) 1 rfl dL_law_935 rfl ?_
  refine g_arg cx sx (pc2 := 941) 1 (by decide) hi dL_law_936 dL_law_937 dL_law_938 dL_law_939 dL_law_940 rfl ?_
  refine g_callV cx (pc2 := 944) (st := []) (As := [.int (iI (Zx xs (i + 1)))]) (k0 := 0) (ci := 11) (c_X11_costs (M := M) hn h.1 (Zx xs (i + 1)) (Zx_ir _ _)) wM_X11_costs wV_X11_costs kl_L_110 rfl (lt_lit hn (Nat.le_of_ble_eq_true rfl)) rfl ⟨rfl, rfl, (Nat.le_of_ble_eq_true rfl), (Nat.le_of_ble_eq_true rfl)⟩ (Nat.le_of_ble_eq_true rfl) cs rfl rfl dL_law_941 rfl ?_
  rintro _ _ ⟨rfl, rfl⟩
  have v := h.k7 (k7_costs h.1 (Zx xs (i + 1)))
  refine g_aload_n cx (pc2 := 945) 2 rfl dL_law_944 rfl ?_
  refine g_arg cx sx (pc2 := 950) 1 (by decide) hi dL_law_945 dL_law_946 dL_law_947 dL_law_948 dL_law_949 rfl ?_
  refine g_callV cx (pc2 := 953) (st := [.int (iI ((cosA M (Zx xs (i + 1)))))]) (As := [.int (iI (Zx xs (i + 1)))]) (k0 := 77) (ci := 12) (c_X12_costs (M := (cosM M (Zx xs (i + 1)))) hn v.1.1.1 (Zx xs (i + 1)) (Zx_ir _ _)) wM_X12_costs wV_X12_costs kl_L_113 rfl (lt_lit hn (Nat.le_of_ble_eq_true rfl)) rfl ⟨rfl, rfl, (Nat.le_of_ble_eq_true rfl), (Nat.le_of_ble_eq_true rfl)⟩ (Nat.le_of_ble_eq_true rfl) cs rfl rfl dL_law_950 rfl ?_
  rintro _ M2 ⟨zx, rfl, hx⟩
  obtain ⟨e, hr⟩ := pr_costs h hx
  exact g_eqT cx (tgt := 1605) e dL_law_953 rfl (k _ hr)
theorem arm_worn {X : Cq} {n : Nat} (hn : NN n) (cx : Cx X cL_law RL room_1 4 n) (cs : Cs X) {L : Nat} {xs : Nat → Int32} (sx : Sx X L xs) {M : Mm} (h : Rl M) {i : Int} (hi : 0 ≤ i ∧ i + 6 ≤ (L : Int)) (k : ∀ M2, Rl M2 → G X 1605 (lvL i) [] M2) : G X 958 (lvL i) [] M := by
  refine g_aload_n cx (pc2 := 959) 1 rfl dL_law_958 rfl ?_
  refine g_arg cx sx (pc2 := 964) 1 (by decide) hi dL_law_959 dL_law_960 dL_law_961 dL_law_962 dL_law_963 rfl ?_
  refine g_callV cx (pc2 := 967) (st := []) (As := [.int (iI (Zx xs (i + 1)))]) (k0 := 0) (ci := 11) (c_X11_worn (M := M) hn h.1 (Zx xs (i + 1)) (Zx_ir _ _)) wM_X11_worn wV_X11_worn kl_L_114 rfl (lt_lit hn (Nat.le_of_ble_eq_true rfl)) rfl ⟨rfl, rfl, (Nat.le_of_ble_eq_true rfl), (Nat.le_of_ble_eq_true rfl)⟩ (Nat.le_of_ble_eq_true rfl) cs rfl rfl dL_law_964 rfl ?_
  rintro _ _ ⟨rfl, rfl⟩
  have v := h.k7 (k7_worn h.1 (Zx xs (i + 1)))
  refine g_aload_n cx (pc2 := 968) 2 rfl dL_law_967 rfl ?_
  refine g_arg cx sx (pc2 := 973) 1 (by decide) hi dL_law_968 dL_law_969 dL_law_970 dL_law_971 dL_law_972 rfl ?_
  refine g_callV cx (pc2 := 976) (st := [.int (iI ((worA M (Zx xs (i + 1)))))]) (As := [.int (iI (Zx xs (i + 1)))]) (k0 := 77) (ci := 12) (c_X12_worn (M := (worM M (Zx xs (i + 1)))) hn v.1.1.1 (Zx xs (i + 1)) (Zx_ir _ _)) wM_X12_worn wV_X12_worn kl_L_117 rfl (lt_lit hn (Nat.le_of_ble_eq_true rfl)) rfl ⟨rfl, rfl, (Nat.le_of_ble_eq_true rfl), (Nat.le_of_ble_eq_true rfl)⟩ (Nat.le_of_ble_eq_true rfl) cs rfl rfl dL_law_973 rfl ?_
  rintro _ M2 ⟨zx, rfl, hx⟩
  obtain ⟨e, hr⟩ := pr_worn h hx
  exact g_eqT cx (tgt := 1605) e dL_law_976 rfl (k _ hr)
theorem arm_rule {X : Cq} {n : Nat} (hn : NN n) (cx : Cx X cL_law RL room_1 4 n) (cs : Cs X) {L : Nat} {xs : Nat → Int32} (sx : Sx X L xs) {M : Mm} (h : Rl M) {i : Int} (hi : 0 ≤ i ∧ i + 6 ≤ (L : Int)) (k : ∀ M2, Rl M2 → G X 1605 (lvL i) [] M2) : G X 981 (lvL i) [] M := by
  refine g_aload_n cx (pc2 := 982) 1 rfl dL_law_981 rfl ?_
  refine g_arg cx sx (pc2 := 987) 1 (by decide) hi dL_law_982 dL_law_983 dL_law_984 dL_law_985 dL_law_986 rfl ?_
  refine g_arg cx sx (pc2 := 992) 2 (by decide) hi dL_law_987 dL_law_988 dL_law_989 dL_law_990 dL_law_991 rfl ?_
  refine g_callV cx (pc2 := 995) (st := []) (As := [.int (iI (Zx xs (i + 1))), .int (iI (Zx xs (i + 2)))]) (k0 := 0) (ci := 11) (c_X11_rule (M := M) hn h.1 (Zx xs (i + 1)) (Zx xs (i + 2)) (Zx_ir _ _) (Zx_ir _ _)) wM_X11_rule wV_X11_rule kl_L_118 rfl (lt_lit hn (Nat.le_of_ble_eq_true rfl)) rfl ⟨rfl, rfl, (Nat.le_of_ble_eq_true rfl), (Nat.le_of_ble_eq_true rfl)⟩ (Nat.le_of_ble_eq_true rfl) cs rfl rfl dL_law_992 rfl ?_
  rintro _ M1 ⟨zc, rfl, hc⟩
  have v := h.k7 (k7_rule hc)
  refine g_aload_n cx (pc2 := 996) 2 rfl dL_law_995 rfl ?_
  refine g_arg cx sx (pc2 := 1001) 1 (by decide) hi dL_law_996 dL_law_997 dL_law_998 dL_law_999 dL_law_1000 rfl ?_
  refine g_arg cx sx (pc2 := 1006) 2 (by decide) hi dL_law_1001 dL_law_1002 dL_law_1003 dL_law_1004 dL_law_1005 rfl ?_
  refine g_callV cx (pc2 := 1009) (st := [.int (iI (zc))]) (As := [.int (iI (Zx xs (i + 1))), .int (iI (Zx xs (i + 2)))]) (k0 := 77) (ci := 12) (c_X12_rule (M := M1) hn v.1.1.1 v.1.1.2.2 v.1.2.2.1 (Zx xs (i + 1)) (Zx xs (i + 2)) (Zx_ir _ _) (Zx_ir _ _)) wM_X12_rule wV_X12_rule kl_L_121 rfl (lt_lit hn (Nat.le_of_ble_eq_true rfl)) rfl ⟨rfl, rfl, (Nat.le_of_ble_eq_true rfl), (Nat.le_of_ble_eq_true rfl)⟩ (Nat.le_of_ble_eq_true rfl) cs rfl rfl dL_law_1006 rfl ?_
  rintro _ M2 ⟨zx, rfl, hx⟩
  obtain ⟨e, M3, hn3, hr⟩ := pr_rule h hc hx
  exact g_eqT cx (tgt := 1605) e dL_law_1009 rfl (G.nr hn3 (k M3 hr))
theorem arm_wise {X : Cq} {n : Nat} (hn : NN n) (cx : Cx X cL_law RL room_1 4 n) (cs : Cs X) {L : Nat} {xs : Nat → Int32} (sx : Sx X L xs) {M : Mm} (h : Rl M) {i : Int} (hi : 0 ≤ i ∧ i + 6 ≤ (L : Int)) (k : ∀ M2, Rl M2 → G X 1605 (lvL i) [] M2) : G X 1014 (lvL i) [] M := by
  refine g_aload_n cx (pc2 := 1015) 1 rfl dL_law_1014 rfl ?_
  refine g_callV cx (pc2 := 1018) (st := []) (As := []) (k0 := 0) (ci := 11) (c_X11_wise (M := M) hn h.1) wM_X11_wise wV_X11_wise kl_L_122 rfl (lt_lit hn (Nat.le_of_ble_eq_true rfl)) rfl ⟨rfl, rfl, (Nat.le_of_ble_eq_true rfl), (Nat.le_of_ble_eq_true rfl)⟩ (Nat.le_of_ble_eq_true rfl) cs rfl rfl dL_law_1015 rfl ?_
  rintro _ _ ⟨rfl, rfl⟩
  have v := h.k7 (k7_wise h)
  refine g_aload_n cx (pc2 := 1019) 2 rfl dL_law_1018 rfl ?_
  refine g_callV cx (pc2 := 1022) (st := [.int (iI (((wiF M 30).2.1)))]) (As := []) (k0 := 77) (ci := 12) (c_X12_wise (M := (tdM (wiF M 30).1 (wiF M 30).2.2)) hn v.1.1.1 v.1.2.2.1) wM_X12_wise wV_X12_wise kl_L_125 rfl (lt_lit hn (Nat.le_of_ble_eq_true rfl)) rfl ⟨rfl, rfl, (Nat.le_of_ble_eq_true rfl), (Nat.le_of_ble_eq_true rfl)⟩ (Nat.le_of_ble_eq_true rfl) cs rfl rfl dL_law_1019 rfl ?_
  rintro _ M2 ⟨zx, rfl, hx⟩
  obtain ⟨e, M3, hn3, hr⟩ := pr_wise h hx
  exact g_eqT cx (tgt := 1605) e dL_law_1022 rfl (G.nr hn3 (k M3 hr))
theorem arm_second {X : Cq} {n : Nat} (hn : NN n) (cx : Cx X cL_law RL room_1 4 n) (cs : Cs X) {L : Nat} {xs : Nat → Int32} (sx : Sx X L xs) {M : Mm} (h : Rl M) {i : Int} (hi : 0 ≤ i ∧ i + 6 ≤ (L : Int)) (k : ∀ M2, Rl M2 → G X 1605 (lvL i) [] M2) : G X 1027 (lvL i) [] M := by
  refine g_aload_n cx (pc2 := 1028) 1 rfl dL_law_1027 rfl ?_
  refine g_arg cx sx (pc2 := 1033) 1 (by decide) hi dL_law_1028 dL_law_1029 dL_law_1030 dL_law_1031 dL_law_1032 rfl ?_
  refine g_callV cx (pc2 := 1036) (st := []) (As := [.int (iI (Zx xs (i + 1)))]) (k0 := 0) (ci := 11) (c_X11_second (M := M) hn h.1 (Zx xs (i + 1)) (Zx_ir _ _)) wM_X11_second wV_X11_second kl_L_126 rfl (lt_lit hn (Nat.le_of_ble_eq_true rfl)) rfl ⟨rfl, rfl, (Nat.le_of_ble_eq_true rfl), (Nat.le_of_ble_eq_true rfl)⟩ (Nat.le_of_ble_eq_true rfl) cs rfl rfl dL_law_1033 rfl ?_
  rintro _ _ ⟨rfl, rfl⟩
  have v := h.k7 (k7_second h.1 (Zx xs (i + 1)))
  refine g_aload_n cx (pc2 := 1037) 2 rfl dL_law_1036 rfl ?_
  refine g_arg cx sx (pc2 := 1042) 1 (by decide) hi dL_law_1037 dL_law_1038 dL_law_1039 dL_law_1040 dL_law_1041 rfl ?_
  refine g_callV cx (pc2 := 1045) (st := [.int (iI ((secA M (Zx xs (i + 1)))))]) (As := [.int (iI (Zx xs (i + 1)))]) (k0 := 77) (ci := 12) (c_X12_second (M := (secM M (Zx xs (i + 1)))) hn v.1.1.1 (Zx xs (i + 1)) (Zx_ir _ _)) wM_X12_second wV_X12_second kl_L_129 rfl (lt_lit hn (Nat.le_of_ble_eq_true rfl)) rfl ⟨rfl, rfl, (Nat.le_of_ble_eq_true rfl), (Nat.le_of_ble_eq_true rfl)⟩ (Nat.le_of_ble_eq_true rfl) cs rfl rfl dL_law_1042 rfl ?_
  rintro _ M2 ⟨zx, rfl, hx⟩
  obtain ⟨e, hr⟩ := pr_second h hx
  exact g_eqT cx (tgt := 1605) e dL_law_1045 rfl (k _ hr)
theorem arm_two {X : Cq} {n : Nat} (hn : NN n) (cx : Cx X cL_law RL room_1 4 n) (cs : Cs X) {L : Nat} {xs : Nat → Int32} (sx : Sx X L xs) {M : Mm} (h : Rl M) {i : Int} (hi : 0 ≤ i ∧ i + 6 ≤ (L : Int)) (k : ∀ M2, Rl M2 → G X 1605 (lvL i) [] M2) : G X 1050 (lvL i) [] M := by
  refine g_aload_n cx (pc2 := 1051) 1 rfl dL_law_1050 rfl ?_
  refine g_arg cx sx (pc2 := 1056) 1 (by decide) hi dL_law_1051 dL_law_1052 dL_law_1053 dL_law_1054 dL_law_1055 rfl ?_
  refine g_arg cx sx (pc2 := 1061) 2 (by decide) hi dL_law_1056 dL_law_1057 dL_law_1058 dL_law_1059 dL_law_1060 rfl ?_
  refine g_callV cx (pc2 := 1064) (st := []) (As := [.int (iI (Zx xs (i + 1))), .int (iI (Zx xs (i + 2)))]) (k0 := 0) (ci := 11) (c_X11_two (M := M) hn h.1 (Zx xs (i + 1)) (Zx xs (i + 2)) (Zx_ir _ _) (Zx_ir _ _)) wM_X11_two wV_X11_two kl_L_130 rfl (lt_lit hn (Nat.le_of_ble_eq_true rfl)) rfl ⟨rfl, rfl, (Nat.le_of_ble_eq_true rfl), (Nat.le_of_ble_eq_true rfl)⟩ (Nat.le_of_ble_eq_true rfl) cs rfl rfl dL_law_1061 rfl ?_
  rintro _ _ ⟨rfl, rfl⟩
  have v := h.k7 (k7_two h.1 (Zx xs (i + 1)) (Zx xs (i + 2)))
  refine g_aload_n cx (pc2 := 1065) 2 rfl dL_law_1064 rfl ?_
  refine g_arg cx sx (pc2 := 1070) 1 (by decide) hi dL_law_1065 dL_law_1066 dL_law_1067 dL_law_1068 dL_law_1069 rfl ?_
  refine g_arg cx sx (pc2 := 1075) 2 (by decide) hi dL_law_1070 dL_law_1071 dL_law_1072 dL_law_1073 dL_law_1074 rfl ?_
  refine g_callV cx (pc2 := 1078) (st := [.int (iI ((twoA M (Zx xs (i + 1)) (Zx xs (i + 2)))))]) (As := [.int (iI (Zx xs (i + 1))), .int (iI (Zx xs (i + 2)))]) (k0 := 77) (ci := 12) (c_X12_two (M := (twoM M (Zx xs (i + 1)) (Zx xs (i + 2)))) hn v.1.1.1 (fun i hi => by have := v.1.2.2.2 i.toNat (by omega); unfold nA; rw [show (6 * i + 5).toNat = 6 * i.toNat + 5 by omega]; exact this) (Zx xs (i + 1)) (Zx xs (i + 2)) (Zx_ir _ _) (Zx_ir _ _)) wM_X12_two wV_X12_two kl_L_133 rfl (lt_lit hn (Nat.le_of_ble_eq_true rfl)) rfl ⟨rfl, rfl, (Nat.le_of_ble_eq_true rfl), (Nat.le_of_ble_eq_true rfl)⟩ (Nat.le_of_ble_eq_true rfl) cs rfl rfl dL_law_1075 rfl ?_
  rintro _ M2 ⟨zx, rfl, hx⟩
  obtain ⟨e, hr⟩ := pr_two h hx
  exact g_eqT cx (tgt := 1605) e dL_law_1078 rfl (k _ hr)
theorem arm_mends {X : Cq} {n : Nat} (hn : NN n) (cx : Cx X cL_law RL room_1 4 n) (cs : Cs X) {L : Nat} {xs : Nat → Int32} (sx : Sx X L xs) {M : Mm} (h : Rl M) {i : Int} (hi : 0 ≤ i ∧ i + 6 ≤ (L : Int)) (k : ∀ M2, Rl M2 → G X 1605 (lvL i) [] M2) : G X 1083 (lvL i) [] M := by
  refine g_aload_n cx (pc2 := 1084) 1 rfl dL_law_1083 rfl ?_
  refine g_arg cx sx (pc2 := 1089) 1 (by decide) hi dL_law_1084 dL_law_1085 dL_law_1086 dL_law_1087 dL_law_1088 rfl ?_
  refine g_arg cx sx (pc2 := 1094) 2 (by decide) hi dL_law_1089 dL_law_1090 dL_law_1091 dL_law_1092 dL_law_1093 rfl ?_
  refine g_callV cx (pc2 := 1097) (st := []) (As := [.int (iI (Zx xs (i + 1))), .int (iI (Zx xs (i + 2)))]) (k0 := 0) (ci := 11) (c_X11_mends (M := M) hn h.1 (Zx xs (i + 1)) (Zx xs (i + 2)) (Zx_ir _ _) (Zx_ir _ _)) wM_X11_mends wV_X11_mends kl_L_134 rfl (lt_lit hn (Nat.le_of_ble_eq_true rfl)) rfl ⟨rfl, rfl, (Nat.le_of_ble_eq_true rfl), (Nat.le_of_ble_eq_true rfl)⟩ (Nat.le_of_ble_eq_true rfl) cs rfl rfl dL_law_1094 rfl ?_
  rintro _ M1 ⟨zc, rfl, hc⟩
  have v := h.k7 (k7_mends hc)
  refine g_aload_n cx (pc2 := 1098) 2 rfl dL_law_1097 rfl ?_
  refine g_arg cx sx (pc2 := 1103) 1 (by decide) hi dL_law_1098 dL_law_1099 dL_law_1100 dL_law_1101 dL_law_1102 rfl ?_
  refine g_arg cx sx (pc2 := 1108) 2 (by decide) hi dL_law_1103 dL_law_1104 dL_law_1105 dL_law_1106 dL_law_1107 rfl ?_
  refine g_callV cx (pc2 := 1111) (st := [.int (iI (zc))]) (As := [.int (iI (Zx xs (i + 1))), .int (iI (Zx xs (i + 2)))]) (k0 := 77) (ci := 12) (c_X12_mends (M := M1) hn v.1.1.1 (Zx xs (i + 1)) (Zx xs (i + 2)) (Zx_ir _ _) (Zx_ir _ _)) wM_X12_mends wV_X12_mends kl_L_137 rfl (lt_lit hn (Nat.le_of_ble_eq_true rfl)) rfl ⟨rfl, rfl, (Nat.le_of_ble_eq_true rfl), (Nat.le_of_ble_eq_true rfl)⟩ (Nat.le_of_ble_eq_true rfl) cs rfl rfl dL_law_1108 rfl ?_
  rintro _ M2 ⟨zx, rfl, hx⟩
  obtain ⟨e, hr⟩ := pr_mends h hc hx
  exact g_eqT cx (tgt := 1605) e dL_law_1111 rfl (k _ hr)
theorem arm_odds {X : Cq} {n : Nat} (hn : NN n) (cx : Cx X cL_law RL room_1 4 n) (cs : Cs X) {L : Nat} {xs : Nat → Int32} (sx : Sx X L xs) {M : Mm} (h : Rl M) {i : Int} (hi : 0 ≤ i ∧ i + 6 ≤ (L : Int)) (k : ∀ M2, Rl M2 → G X 1605 (lvL i) [] M2) : G X 1116 (lvL i) [] M := by
  refine g_aload_n cx (pc2 := 1117) 1 rfl dL_law_1116 rfl ?_
  refine g_callV cx (pc2 := 1120) (st := []) (As := []) (k0 := 0) (ci := 11) (c_X11_odds (M := M) hn h.1) wM_X11_odds wV_X11_odds kl_L_138 rfl (lt_lit hn (Nat.le_of_ble_eq_true rfl)) rfl ⟨rfl, rfl, (Nat.le_of_ble_eq_true rfl), (Nat.le_of_ble_eq_true rfl)⟩ (Nat.le_of_ble_eq_true rfl) cs rfl rfl dL_law_1117 rfl ?_
  rintro _ _ ⟨rfl, rfl⟩
  have v := h.k7 (k7_odds h.1)
  refine g_aload_n cx (pc2 := 1121) 2 rfl dL_law_1120 rfl ?_
  refine g_callV cx (pc2 := 1124) (st := [.int (iI ((1)))]) (As := []) (k0 := 77) (ci := 12) (c_X12_odds (M := (oddM M)) hn v.1.1.1) wM_X12_odds wV_X12_odds kl_L_141 rfl (lt_lit hn (Nat.le_of_ble_eq_true rfl)) rfl ⟨rfl, rfl, (Nat.le_of_ble_eq_true rfl), (Nat.le_of_ble_eq_true rfl)⟩ (Nat.le_of_ble_eq_true rfl) cs rfl rfl dL_law_1121 rfl ?_
  rintro _ M2 ⟨zx, rfl, hx⟩
  obtain ⟨e, hr⟩ := pr_odds h hx
  exact g_eqT cx (tgt := 1605) e dL_law_1124 rfl (k _ hr)
theorem arm_call {X : Cq} {n : Nat} (hn : NN n) (cx : Cx X cL_law RL room_1 4 n) (cs : Cs X) {L : Nat} {xs : Nat → Int32} (sx : Sx X L xs) {M : Mm} (h : Rl M) {i : Int} (hi : 0 ≤ i ∧ i + 6 ≤ (L : Int)) (k : ∀ M2, Rl M2 → G X 1605 (lvL i) [] M2) : G X 1129 (lvL i) [] M := by
  refine g_aload_n cx (pc2 := 1130) 1 rfl dL_law_1129 rfl ?_
  refine g_arg cx sx (pc2 := 1135) 1 (by decide) hi dL_law_1130 dL_law_1131 dL_law_1132 dL_law_1133 dL_law_1134 rfl ?_
  refine g_callV cx (pc2 := 1138) (st := []) (As := [.int (iI (Zx xs (i + 1)))]) (k0 := 0) (ci := 11) (c_X11_call (M := M) hn h.1 (Zx xs (i + 1)) (Zx_ir _ _)) wM_X11_call wV_X11_call kl_L_142 rfl (lt_lit hn (Nat.le_of_ble_eq_true rfl)) rfl ⟨rfl, rfl, (Nat.le_of_ble_eq_true rfl), (Nat.le_of_ble_eq_true rfl)⟩ (Nat.le_of_ble_eq_true rfl) cs rfl rfl dL_law_1135 rfl ?_
  rintro _ _ ⟨rfl, rfl⟩
  have v := h.k7 (k7_call h.1 (Zx xs (i + 1)))
  refine g_aload_n cx (pc2 := 1139) 2 rfl dL_law_1138 rfl ?_
  refine g_arg cx sx (pc2 := 1144) 1 (by decide) hi dL_law_1139 dL_law_1140 dL_law_1141 dL_law_1142 dL_law_1143 rfl ?_
  refine g_callV cx (pc2 := 1147) (st := [.int (iI ((calA M (Zx xs (i + 1)))))]) (As := [.int (iI (Zx xs (i + 1)))]) (k0 := 77) (ci := 12) (c_X12_call (M := (calM M (Zx xs (i + 1)))) hn v.1.1.1 (Zx xs (i + 1)) (Zx_ir _ _)) wM_X12_call wV_X12_call kl_L_145 rfl (lt_lit hn (Nat.le_of_ble_eq_true rfl)) rfl ⟨rfl, rfl, (Nat.le_of_ble_eq_true rfl), (Nat.le_of_ble_eq_true rfl)⟩ (Nat.le_of_ble_eq_true rfl) cs rfl rfl dL_law_1144 rfl ?_
  rintro _ M2 ⟨zx, rfl, hx⟩
  obtain ⟨e, hr⟩ := pr_call h hx
  exact g_eqT cx (tgt := 1605) e dL_law_1147 rfl (k _ hr)
theorem arm_keep {X : Cq} {n : Nat} (hn : NN n) (cx : Cx X cL_law RL room_1 4 n) (cs : Cs X) {L : Nat} {xs : Nat → Int32} (sx : Sx X L xs) {M : Mm} (h : Rl M) {i : Int} (hi : 0 ≤ i ∧ i + 6 ≤ (L : Int)) (k : ∀ M2, Rl M2 → G X 1605 (lvL i) [] M2) : G X 1152 (lvL i) [] M := by
  refine g_aload_n cx (pc2 := 1153) 1 rfl dL_law_1152 rfl ?_
  refine g_arg cx sx (pc2 := 1158) 1 (by decide) hi dL_law_1153 dL_law_1154 dL_law_1155 dL_law_1156 dL_law_1157 rfl ?_
  refine g_callV cx (pc2 := 1161) (st := []) (As := [.int (iI (Zx xs (i + 1)))]) (k0 := 0) (ci := 11) (c_X11_keep (M := M) hn h.1 (Zx xs (i + 1)) (Zx_ir _ _)) wM_X11_keep wV_X11_keep kl_L_146 rfl (lt_lit hn (Nat.le_of_ble_eq_true rfl)) rfl ⟨rfl, rfl, (Nat.le_of_ble_eq_true rfl), (Nat.le_of_ble_eq_true rfl)⟩ (Nat.le_of_ble_eq_true rfl) cs rfl rfl dL_law_1158 rfl ?_
  rintro _ _ ⟨rfl, rfl⟩
  have v := h.k7 (k7_keep h.1 (Zx xs (i + 1)))
  refine g_aload_n cx (pc2 := 1162) 2 rfl dL_law_1161 rfl ?_
  refine g_arg cx sx (pc2 := 1167) 1 (by decide) hi dL_law_1162 dL_law_1163 dL_law_1164 dL_law_1165 dL_law_1166 rfl ?_
  refine g_callV cx (pc2 := 1170) (st := [.int (iI ((keeA M (Zx xs (i + 1)))))]) (As := [.int (iI (Zx xs (i + 1)))]) (k0 := 77) (ci := 12) (c_X12_keep (M := (keeM M (Zx xs (i + 1)))) hn v.1.1.1 v.1.1.2.1 (Zx xs (i + 1)) (Zx_ir _ _)) wM_X12_keep wV_X12_keep kl_L_149 rfl (lt_lit hn (Nat.le_of_ble_eq_true rfl)) rfl ⟨rfl, rfl, (Nat.le_of_ble_eq_true rfl), (Nat.le_of_ble_eq_true rfl)⟩ (Nat.le_of_ble_eq_true rfl) cs rfl rfl dL_law_1167 rfl ?_
  rintro _ _ ⟨rfl, rfl⟩
  obtain ⟨e, hr⟩ := pr_keep h (Zx xs (i + 1))
  exact g_eqT cx (tgt := 1605) e dL_law_1170 rfl (k _ hr)
theorem arm_deal {X : Cq} {n : Nat} (hn : NN n) (cx : Cx X cL_law RL room_1 4 n) (cs : Cs X) {L : Nat} {xs : Nat → Int32} (sx : Sx X L xs) {M : Mm} (h : Rl M) {i : Int} (hi : 0 ≤ i ∧ i + 6 ≤ (L : Int)) (k : ∀ M2, Rl M2 → G X 1605 (lvL i) [] M2) : G X 1175 (lvL i) [] M := by
  refine g_aload_n cx (pc2 := 1176) 1 rfl dL_law_1175 rfl ?_
  refine g_arg cx sx (pc2 := 1181) 1 (by decide) hi dL_law_1176 dL_law_1177 dL_law_1178 dL_law_1179 dL_law_1180 rfl ?_
  refine g_arg cx sx (pc2 := 1186) 2 (by decide) hi dL_law_1181 dL_law_1182 dL_law_1183 dL_law_1184 dL_law_1185 rfl ?_
  refine g_arg cx sx (pc2 := 1191) 3 (by decide) hi dL_law_1186 dL_law_1187 dL_law_1188 dL_law_1189 dL_law_1190 rfl ?_
  refine g_arg cx sx (pc2 := 1196) 4 (by decide) hi dL_law_1191 dL_law_1192 dL_law_1193 dL_law_1194 dL_law_1195 rfl ?_
  refine g_callV cx (pc2 := 1199) (st := []) (As := [.int (iI (Zx xs (i + 1))), .int (iI (Zx xs (i + 2))), .int (iI (Zx xs (i + 3))), .int (iI (Zx xs (i + 4)))]) (k0 := 0) (ci := 11) (c_X11_deal (M := M) hn h.1 (Zx xs (i + 1)) (Zx xs (i + 2)) (Zx xs (i + 3)) (Zx xs (i + 4)) (Zx_ir _ _) (Zx_ir _ _) (Zx_ir _ _) (Zx_ir _ _)) wM_X11_deal wV_X11_deal kl_L_150 rfl (lt_lit hn (Nat.le_of_ble_eq_true rfl)) rfl ⟨rfl, rfl, (Nat.le_of_ble_eq_true rfl), (Nat.le_of_ble_eq_true rfl)⟩ (Nat.le_of_ble_eq_true rfl) cs rfl rfl dL_law_1196 rfl ?_
  rintro _ _ ⟨rfl, rfl⟩
  have v := h.k7 (k7_deal h.1 (Zx xs (i + 1)) (Zx xs (i + 2)) (Zx xs (i + 3)) (Zx xs (i + 4)))
  refine g_aload_n cx (pc2 := 1200) 2 rfl dL_law_1199 rfl ?_
  refine g_arg cx sx (pc2 := 1205) 1 (by decide) hi dL_law_1200 dL_law_1201 dL_law_1202 dL_law_1203 dL_law_1204 rfl ?_
  refine g_arg cx sx (pc2 := 1210) 2 (by decide) hi dL_law_1205 dL_law_1206 dL_law_1207 dL_law_1208 dL_law_1209 rfl ?_
  refine g_arg cx sx (pc2 := 1215) 3 (by decide) hi dL_law_1210 dL_law_1211 dL_law_1212 dL_law_1213 dL_law_1214 rfl ?_
  refine g_arg cx sx (pc2 := 1220) 4 (by decide) hi dL_law_1215 dL_law_1216 dL_law_1217 dL_law_1218 dL_law_1219 rfl ?_
  refine g_callV cx (pc2 := 1223) (st := [.int (iI ((deaA M (Zx xs (i + 1)) (Zx xs (i + 2)) (Zx xs (i + 3)) (Zx xs (i + 4)))))]) (As := [.int (iI (Zx xs (i + 1))), .int (iI (Zx xs (i + 2))), .int (iI (Zx xs (i + 3))), .int (iI (Zx xs (i + 4)))]) (k0 := 77) (ci := 12) (c_X12_deal (M := (deaM M (Zx xs (i + 1)) (Zx xs (i + 2)) (Zx xs (i + 3)) (Zx xs (i + 4)))) hn v.1.1.1 v.1.2.1.1 (Zx xs (i + 1)) (Zx xs (i + 2)) (Zx xs (i + 3)) (Zx xs (i + 4)) (Zx_ir _ _) (Zx_ir _ _) (Zx_ir _ _) (Zx_ir _ _)) wM_X12_deal wV_X12_deal kl_L_154 rfl (lt_lit hn (Nat.le_of_ble_eq_true rfl)) rfl ⟨rfl, rfl, (Nat.le_of_ble_eq_true rfl), (Nat.le_of_ble_eq_true rfl)⟩ (Nat.le_of_ble_eq_true rfl) cs rfl rfl dL_law_1220 rfl ?_
  rintro _ _ ⟨rfl, rfl⟩
  obtain ⟨e, hr⟩ := pr_deal h (Zx xs (i + 1)) (Zx xs (i + 2)) (Zx xs (i + 3)) (Zx xs (i + 4))
  exact g_eqT cx (tgt := 1605) e dL_law_1223 rfl (k _ hr)
theorem arm_undo {X : Cq} {n : Nat} (hn : NN n) (cx : Cx X cL_law RL room_1 4 n) (cs : Cs X) {L : Nat} {xs : Nat → Int32} (sx : Sx X L xs) {M : Mm} (h : Rl M) {i : Int} (hi : 0 ≤ i ∧ i + 6 ≤ (L : Int)) (k : ∀ M2, Rl M2 → G X 1605 (lvL i) [] M2) : G X 1228 (lvL i) [] M := by
  refine g_aload_n cx (pc2 := 1229) 1 rfl dL_law_1228 rfl ?_
  refine g_arg cx sx (pc2 := 1234) 1 (by decide) hi dL_law_1229 dL_law_1230 dL_law_1231 dL_law_1232 dL_law_1233 rfl ?_
  refine g_callV cx (pc2 := 1237) (st := []) (As := [.int (iI (Zx xs (i + 1)))]) (k0 := 0) (ci := 11) (c_X11_undo (M := M) hn h.1 (Zx xs (i + 1)) (Zx_ir _ _)) wM_X11_undo wV_X11_undo kl_L_155 rfl (lt_lit hn (Nat.le_of_ble_eq_true rfl)) rfl ⟨rfl, rfl, (Nat.le_of_ble_eq_true rfl), (Nat.le_of_ble_eq_true rfl)⟩ (Nat.le_of_ble_eq_true rfl) cs rfl rfl dL_law_1234 rfl ?_
  rintro _ _ ⟨rfl, rfl⟩
  have v := h.k7 (k7_undo h.1 (Zx xs (i + 1)))
  refine g_aload_n cx (pc2 := 1238) 2 rfl dL_law_1237 rfl ?_
  refine g_arg cx sx (pc2 := 1243) 1 (by decide) hi dL_law_1238 dL_law_1239 dL_law_1240 dL_law_1241 dL_law_1242 rfl ?_
  refine g_callV cx (pc2 := 1246) (st := [.int (iI ((undA M (Zx xs (i + 1)))))]) (As := [.int (iI (Zx xs (i + 1)))]) (k0 := 77) (ci := 12) (c_X12_undo (M := (undM M (Zx xs (i + 1)))) hn v.1.2.1.1 (Zx xs (i + 1)) (Zx_ir _ _)) wM_X12_undo wV_X12_undo kl_L_158 rfl (lt_lit hn (Nat.le_of_ble_eq_true rfl)) rfl ⟨rfl, rfl, (Nat.le_of_ble_eq_true rfl), (Nat.le_of_ble_eq_true rfl)⟩ (Nat.le_of_ble_eq_true rfl) cs rfl rfl dL_law_1243 rfl ?_
  rintro _ _ ⟨rfl, rfl⟩
  obtain ⟨e, hr⟩ := pr_undo h (Zx xs (i + 1))
  exact g_eqT cx (tgt := 1605) e dL_law_1246 rfl (k _ hr)
theorem arm_owes {X : Cq} {n : Nat} (hn : NN n) (cx : Cx X cL_law RL room_1 4 n) (cs : Cs X) {L : Nat} {xs : Nat → Int32} (sx : Sx X L xs) {M : Mm} (h : Rl M) {i : Int} (hi : 0 ≤ i ∧ i + 6 ≤ (L : Int)) (k : ∀ M2, Rl M2 → G X 1605 (lvL i) [] M2) : G X 1251 (lvL i) [] M := by
  refine g_aload_n cx (pc2 := 1252) 1 rfl dL_law_1251 rfl ?_
  refine g_arg cx sx (pc2 := 1257) 1 (by decide) hi dL_law_1252 dL_law_1253 dL_law_1254 dL_law_1255 dL_law_1256 rfl ?_
  refine g_arg cx sx (pc2 := 1262) 2 (by decide) hi dL_law_1257 dL_law_1258 dL_law_1259 dL_law_1260 dL_law_1261 rfl ?_
  refine g_callV cx (pc2 := 1265) (st := []) (As := [.int (iI (Zx xs (i + 1))), .int (iI (Zx xs (i + 2)))]) (k0 := 0) (ci := 11) (c_X11_owes (M := M) hn h.1 (Zx xs (i + 1)) (Zx xs (i + 2)) (Zx_ir _ _) (Zx_ir _ _)) wM_X11_owes wV_X11_owes kl_L_159 rfl (lt_lit hn (Nat.le_of_ble_eq_true rfl)) rfl ⟨rfl, rfl, (Nat.le_of_ble_eq_true rfl), (Nat.le_of_ble_eq_true rfl)⟩ (Nat.le_of_ble_eq_true rfl) cs rfl rfl dL_law_1262 rfl ?_
  rintro _ _ ⟨rfl, rfl⟩
  have v := h.k7 (k7.rf M)
  refine g_aload_n cx (pc2 := 1266) 2 rfl dL_law_1265 rfl ?_
  refine g_arg cx sx (pc2 := 1271) 1 (by decide) hi dL_law_1266 dL_law_1267 dL_law_1268 dL_law_1269 dL_law_1270 rfl ?_
  refine g_arg cx sx (pc2 := 1276) 2 (by decide) hi dL_law_1271 dL_law_1272 dL_law_1273 dL_law_1274 dL_law_1275 rfl ?_
  refine g_callV cx (pc2 := 1279) (st := [.int (iI ((oweA M (Zx xs (i + 1)) (Zx xs (i + 2)))))]) (As := [.int (iI (Zx xs (i + 1))), .int (iI (Zx xs (i + 2)))]) (k0 := 77) (ci := 12) (c_X12_owes (M := M) hn v.1.1.1 (Zx xs (i + 1)) (Zx xs (i + 2)) (Zx_ir _ _) (Zx_ir _ _)) wM_X12_owes wV_X12_owes kl_L_162 rfl (lt_lit hn (Nat.le_of_ble_eq_true rfl)) rfl ⟨rfl, rfl, (Nat.le_of_ble_eq_true rfl), (Nat.le_of_ble_eq_true rfl)⟩ (Nat.le_of_ble_eq_true rfl) cs rfl rfl dL_law_1276 rfl ?_
  rintro _ _ ⟨rfl, rfl⟩
  have e := pr_owes h (Zx xs (i + 1)) (Zx xs (i + 2))
  exact g_eqT cx (tgt := 1605) e dL_law_1279 rfl (k _ h)
theorem arm_rich {X : Cq} {n : Nat} (hn : NN n) (cx : Cx X cL_law RL room_1 4 n) (cs : Cs X) {L : Nat} {xs : Nat → Int32} (sx : Sx X L xs) {M : Mm} (h : Rl M) {i : Int} (hi : 0 ≤ i ∧ i + 6 ≤ (L : Int)) (k : ∀ M2, Rl M2 → G X 1605 (lvL i) [] M2) : G X 1284 (lvL i) [] M := by
  refine g_aload_n cx (pc2 := 1285) 1 rfl dL_law_1284 rfl ?_
  refine g_callV cx (pc2 := 1288) (st := []) (As := []) (k0 := 0) (ci := 11) (c_X11_rich (M := M) hn h.1) wM_X11_rich wV_X11_rich kl_L_163 rfl (lt_lit hn (Nat.le_of_ble_eq_true rfl)) rfl ⟨rfl, rfl, (Nat.le_of_ble_eq_true rfl), (Nat.le_of_ble_eq_true rfl)⟩ (Nat.le_of_ble_eq_true rfl) cs rfl rfl dL_law_1285 rfl ?_
  rintro _ _ ⟨rfl, rfl⟩
  have v := h.k7 (k7_rich h.1)
  refine g_aload_n cx (pc2 := 1289) 2 rfl dL_law_1288 rfl ?_
  refine g_callV cx (pc2 := 1292) (st := [.int (iI ((ricA M)))]) (As := []) (k0 := 77) (ci := 12) (c_X12_rich (M := (ricM M)) hn v.1.1.1) wM_X12_rich wV_X12_rich kl_L_166 rfl (lt_lit hn (Nat.le_of_ble_eq_true rfl)) rfl ⟨rfl, rfl, (Nat.le_of_ble_eq_true rfl), (Nat.le_of_ble_eq_true rfl)⟩ (Nat.le_of_ble_eq_true rfl) cs rfl rfl dL_law_1289 rfl ?_
  rintro _ _ ⟨rfl, rfl⟩
  obtain ⟨e, hr⟩ := pr_rich h
  exact g_eqT cx (tgt := 1605) e dL_law_1292 rfl (k _ hr)
theorem arm_pocket {X : Cq} {n : Nat} (hn : NN n) (cx : Cx X cL_law RL room_1 4 n) (cs : Cs X) {L : Nat} {xs : Nat → Int32} (sx : Sx X L xs) {M : Mm} (h : Rl M) {i : Int} (hi : 0 ≤ i ∧ i + 6 ≤ (L : Int)) (k : ∀ M2, Rl M2 → G X 1605 (lvL i) [] M2) : G X 1297 (lvL i) [] M := by
  refine g_aload_n cx (pc2 := 1298) 1 rfl dL_law_1297 rfl ?_
  refine g_arg cx sx (pc2 := 1303) 1 (by decide) hi dL_law_1298 dL_law_1299 dL_law_1300 dL_law_1301 dL_law_1302 rfl ?_
  refine g_arg cx sx (pc2 := 1308) 2 (by decide) hi dL_law_1303 dL_law_1304 dL_law_1305 dL_law_1306 dL_law_1307 rfl ?_
  refine g_callV cx (pc2 := 1311) (st := []) (As := [.int (iI (Zx xs (i + 1))), .int (iI (Zx xs (i + 2)))]) (k0 := 0) (ci := 11) (c_X11_pocket (M := M) hn h.1 (Zx xs (i + 1)) (Zx xs (i + 2)) (Zx_ir _ _) (Zx_ir _ _)) wM_X11_pocket wV_X11_pocket kl_L_167 rfl (lt_lit hn (Nat.le_of_ble_eq_true rfl)) rfl ⟨rfl, rfl, (Nat.le_of_ble_eq_true rfl), (Nat.le_of_ble_eq_true rfl)⟩ (Nat.le_of_ble_eq_true rfl) cs rfl rfl dL_law_1308 rfl ?_
  rintro _ _ ⟨rfl, rfl⟩
  have v := h.k7 (k7_pocket h.1 (Zx xs (i + 1)) (Zx xs (i + 2)))
  refine g_aload_n cx (pc2 := 1312) 2 rfl dL_law_1311 rfl ?_
  refine g_arg cx sx (pc2 := 1317) 1 (by decide) hi dL_law_1312 dL_law_1313 dL_law_1314 dL_law_1315 dL_law_1316 rfl ?_
  refine g_arg cx sx (pc2 := 1322) 2 (by decide) hi dL_law_1317 dL_law_1318 dL_law_1319 dL_law_1320 dL_law_1321 rfl ?_
  refine g_callV cx (pc2 := 1325) (st := [.int (iI ((pocA M (Zx xs (i + 1)) (Zx xs (i + 2)))))]) (As := [.int (iI (Zx xs (i + 1))), .int (iI (Zx xs (i + 2)))]) (k0 := 77) (ci := 12) (c_X12_pocket (M := (pocM M (Zx xs (i + 1)) (Zx xs (i + 2)))) hn v.1.1.1 v.1.2.1.2.1 (Zx xs (i + 1)) (Zx xs (i + 2)) (Zx_ir _ _) (Zx_ir _ _)) wM_X12_pocket wV_X12_pocket kl_L_170 rfl (lt_lit hn (Nat.le_of_ble_eq_true rfl)) rfl ⟨rfl, rfl, (Nat.le_of_ble_eq_true rfl), (Nat.le_of_ble_eq_true rfl)⟩ (Nat.le_of_ble_eq_true rfl) cs rfl rfl dL_law_1322 rfl ?_
  rintro _ _ ⟨rfl, rfl⟩
  obtain ⟨e, hr⟩ := pr_pocket h (Zx xs (i + 1)) (Zx xs (i + 2))
  exact g_eqT cx (tgt := 1605) e dL_law_1325 rfl (k _ hr)
theorem arm_find {X : Cq} {n : Nat} (hn : NN n) (cx : Cx X cL_law RL room_1 4 n) (cs : Cs X) {L : Nat} {xs : Nat → Int32} (sx : Sx X L xs) {M : Mm} (h : Rl M) {i : Int} (hi : 0 ≤ i ∧ i + 6 ≤ (L : Int)) (k : ∀ M2, Rl M2 → G X 1605 (lvL i) [] M2) : G X 1330 (lvL i) [] M := by
  refine g_aload_n cx (pc2 := 1331) 1 rfl dL_law_1330 rfl ?_
  refine g_arg cx sx (pc2 := 1336) 1 (by decide) hi dL_law_1331 dL_law_1332 dL_law_1333 dL_law_1334 dL_law_1335 rfl ?_
  refine g_callV cx (pc2 := 1339) (st := []) (As := [.int (iI (Zx xs (i + 1)))]) (k0 := 0) (ci := 11) (c_X11_find (M := M) hn h.1 (Zx xs (i + 1)) (Zx_ir _ _)) wM_X11_find wV_X11_find kl_L_171 rfl (lt_lit hn (Nat.le_of_ble_eq_true rfl)) rfl ⟨rfl, rfl, (Nat.le_of_ble_eq_true rfl), (Nat.le_of_ble_eq_true rfl)⟩ (Nat.le_of_ble_eq_true rfl) cs rfl rfl dL_law_1336 rfl ?_
  rintro _ _ ⟨rfl, rfl⟩
  have v := h.k7 (k7_find h.1 (Zx xs (i + 1)))
  refine g_aload_n cx (pc2 := 1340) 2 rfl dL_law_1339 rfl ?_
  refine g_arg cx sx (pc2 := 1345) 1 (by decide) hi dL_law_1340 dL_law_1341 dL_law_1342 dL_law_1343 dL_law_1344 rfl ?_
  refine g_callV cx (pc2 := 1348) (st := [.int (iI ((finA M (Zx xs (i + 1)))))]) (As := [.int (iI (Zx xs (i + 1)))]) (k0 := 77) (ci := 12) (c_X12_find (M := (finM M (Zx xs (i + 1)))) hn v.1.1.1 v.1.2.1.2.1 (Zx xs (i + 1)) (Zx_ir _ _)) wM_X12_find wV_X12_find kl_L_174 rfl (lt_lit hn (Nat.le_of_ble_eq_true rfl)) rfl ⟨rfl, rfl, (Nat.le_of_ble_eq_true rfl), (Nat.le_of_ble_eq_true rfl)⟩ (Nat.le_of_ble_eq_true rfl) cs rfl rfl dL_law_1345 rfl ?_
  rintro _ _ ⟨rfl, rfl⟩
  obtain ⟨e, hr⟩ := pr_find h (Zx xs (i + 1))
  exact g_eqT cx (tgt := 1605) e dL_law_1348 rfl (k _ hr)
theorem arm_track {X : Cq} {n : Nat} (hn : NN n) (cx : Cx X cL_law RL room_1 4 n) (cs : Cs X) {L : Nat} {xs : Nat → Int32} (sx : Sx X L xs) {M : Mm} (h : Rl M) {i : Int} (hi : 0 ≤ i ∧ i + 6 ≤ (L : Int)) (k : ∀ M2, Rl M2 → G X 1605 (lvL i) [] M2) : G X 1353 (lvL i) [] M := by
  refine g_aload_n cx (pc2 := 1354) 1 rfl dL_law_1353 rfl ?_
  refine g_arg cx sx (pc2 := 1359) 1 (by decide) hi dL_law_1354 dL_law_1355 dL_law_1356 dL_law_1357 dL_law_1358 rfl ?_
  refine g_arg cx sx (pc2 := 1364) 2 (by decide) hi dL_law_1359 dL_law_1360 dL_law_1361 dL_law_1362 dL_law_1363 rfl ?_
  refine g_callV cx (pc2 := 1367) (st := []) (As := [.int (iI (Zx xs (i + 1))), .int (iI (Zx xs (i + 2)))]) (k0 := 0) (ci := 11) (c_X11_track (M := M) hn h.1 (Zx xs (i + 1)) (Zx xs (i + 2)) (Zx_ir _ _) (Zx_ir _ _)) wM_X11_track wV_X11_track kl_L_175 rfl (lt_lit hn (Nat.le_of_ble_eq_true rfl)) rfl ⟨rfl, rfl, (Nat.le_of_ble_eq_true rfl), (Nat.le_of_ble_eq_true rfl)⟩ (Nat.le_of_ble_eq_true rfl) cs rfl rfl dL_law_1364 rfl ?_
  rintro _ _ ⟨rfl, rfl⟩
  have v := h.k7 (k7_track h.1 (Zx xs (i + 1)) (Zx xs (i + 2)))
  refine g_aload_n cx (pc2 := 1368) 2 rfl dL_law_1367 rfl ?_
  refine g_arg cx sx (pc2 := 1373) 1 (by decide) hi dL_law_1368 dL_law_1369 dL_law_1370 dL_law_1371 dL_law_1372 rfl ?_
  refine g_arg cx sx (pc2 := 1378) 2 (by decide) hi dL_law_1373 dL_law_1374 dL_law_1375 dL_law_1376 dL_law_1377 rfl ?_
  refine g_callV cx (pc2 := 1381) (st := [.int (iI ((traA M (Zx xs (i + 1)) (Zx xs (i + 2)))))]) (As := [.int (iI (Zx xs (i + 1))), .int (iI (Zx xs (i + 2)))]) (k0 := 77) (ci := 12) (c_X12_track (M := (traM M (Zx xs (i + 1)) (Zx xs (i + 2)))) hn v.1.1.1 v.1.2.1.2.2 (Zx xs (i + 1)) (Zx xs (i + 2)) (Zx_ir _ _) (Zx_ir _ _)) wM_X12_track wV_X12_track kl_L_178 rfl (lt_lit hn (Nat.le_of_ble_eq_true rfl)) rfl ⟨rfl, rfl, (Nat.le_of_ble_eq_true rfl), (Nat.le_of_ble_eq_true rfl)⟩ (Nat.le_of_ble_eq_true rfl) cs rfl rfl dL_law_1378 rfl ?_
  rintro _ _ ⟨rfl, rfl⟩
  obtain ⟨e, hr⟩ := pr_track h (Zx xs (i + 1)) (Zx xs (i + 2))
  exact g_eqT cx (tgt := 1605) e dL_law_1381 rfl (k _ hr)
theorem arm_forget {X : Cq} {n : Nat} (hn : NN n) (cx : Cx X cL_law RL room_1 4 n) (cs : Cs X) {L : Nat} {xs : Nat → Int32} (sx : Sx X L xs) {M : Mm} (h : Rl M) {i : Int} (hi : 0 ≤ i ∧ i + 6 ≤ (L : Int)) (k : ∀ M2, Rl M2 → G X 1605 (lvL i) [] M2) : G X 1386 (lvL i) [] M := by
  refine g_aload_n cx (pc2 := 1387) 1 rfl dL_law_1386 rfl ?_
  refine g_arg cx sx (pc2 := 1392) 1 (by decide) hi dL_law_1387 dL_law_1388 dL_law_1389 dL_law_1390 dL_law_1391 rfl ?_
  refine g_callV cx (pc2 := 1395) (st := []) (As := [.int (iI (Zx xs (i + 1)))]) (k0 := 0) (ci := 11) (c_X11_forget (M := M) hn h.1 (Zx xs (i + 1)) (Zx_ir _ _)) wM_X11_forget wV_X11_forget kl_L_179 rfl (lt_lit hn (Nat.le_of_ble_eq_true rfl)) rfl ⟨rfl, rfl, (Nat.le_of_ble_eq_true rfl), (Nat.le_of_ble_eq_true rfl)⟩ (Nat.le_of_ble_eq_true rfl) cs rfl rfl dL_law_1392 rfl ?_
  rintro _ _ ⟨rfl, rfl⟩
  have v := h.k7 (k7_forget h.1 (Zx xs (i + 1)))
  refine g_aload_n cx (pc2 := 1396) 2 rfl dL_law_1395 rfl ?_
  refine g_arg cx sx (pc2 := 1401) 1 (by decide) hi dL_law_1396 dL_law_1397 dL_law_1398 dL_law_1399 dL_law_1400 rfl ?_
  refine g_callV cx (pc2 := 1404) (st := [.int (iI ((forA M (Zx xs (i + 1)))))]) (As := [.int (iI (Zx xs (i + 1)))]) (k0 := 77) (ci := 12) (c_X12_forget (M := (forM M (Zx xs (i + 1)))) hn v.1.2.1.2.2 (Zx xs (i + 1)) (Zx_ir _ _)) wM_X12_forget wV_X12_forget kl_L_182 rfl (lt_lit hn (Nat.le_of_ble_eq_true rfl)) rfl ⟨rfl, rfl, (Nat.le_of_ble_eq_true rfl), (Nat.le_of_ble_eq_true rfl)⟩ (Nat.le_of_ble_eq_true rfl) cs rfl rfl dL_law_1401 rfl ?_
  rintro _ _ ⟨rfl, rfl⟩
  obtain ⟨e, hr⟩ := pr_forget h (Zx xs (i + 1))
  exact g_eqT cx (tgt := 1605) e dL_law_1404 rfl (k _ hr)
theorem arm_could {X : Cq} {n : Nat} (hn : NN n) (cx : Cx X cL_law RL room_1 4 n) (cs : Cs X) {L : Nat} {xs : Nat → Int32} (sx : Sx X L xs) {M : Mm} (h : Rl M) {i : Int} (hi : 0 ≤ i ∧ i + 6 ≤ (L : Int)) (k : ∀ M2, Rl M2 → G X 1605 (lvL i) [] M2) : G X 1409 (lvL i) [] M := by
  refine g_aload_n cx (pc2 := 1410) 1 rfl dL_law_1409 rfl ?_
  refine g_arg cx sx (pc2 := 1415) 1 (by decide) hi dL_law_1410 dL_law_1411 dL_law_1412 dL_law_1413 dL_law_1414 rfl ?_
  refine g_callV cx (pc2 := 1418) (st := []) (As := [.int (iI (Zx xs (i + 1)))]) (k0 := 0) (ci := 11) (c_X11_could (M := M) hn h.1 (Zx xs (i + 1)) (Zx_ir _ _)) wM_X11_could wV_X11_could kl_L_183 rfl (lt_lit hn (Nat.le_of_ble_eq_true rfl)) rfl ⟨rfl, rfl, (Nat.le_of_ble_eq_true rfl), (Nat.le_of_ble_eq_true rfl)⟩ (Nat.le_of_ble_eq_true rfl) cs rfl rfl dL_law_1415 rfl ?_
  rintro _ _ ⟨rfl, rfl⟩
  have v := h.k7 (k7.rf M)
  refine g_aload_n cx (pc2 := 1419) 2 rfl dL_law_1418 rfl ?_
  refine g_arg cx sx (pc2 := 1424) 1 (by decide) hi dL_law_1419 dL_law_1420 dL_law_1421 dL_law_1422 dL_law_1423 rfl ?_
  refine g_callV cx (pc2 := 1427) (st := [.int (iI ((couA M (Zx xs (i + 1)))))]) (As := [.int (iI (Zx xs (i + 1)))]) (k0 := 77) (ci := 12) (c_X12_could (M := M) hn v.1.1.1 v.1.2.1.2.2 (Zx xs (i + 1)) (Zx_ir _ _)) wM_X12_could wV_X12_could kl_L_186 rfl (lt_lit hn (Nat.le_of_ble_eq_true rfl)) rfl ⟨rfl, rfl, (Nat.le_of_ble_eq_true rfl), (Nat.le_of_ble_eq_true rfl)⟩ (Nat.le_of_ble_eq_true rfl) cs rfl rfl dL_law_1424 rfl ?_
  rintro _ _ ⟨rfl, rfl⟩
  have e := pr_could h (Zx xs (i + 1))
  exact g_eqT cx (tgt := 1605) e dL_law_1427 rfl (k _ h)
theorem arm_liar {X : Cq} {n : Nat} (hn : NN n) (cx : Cx X cL_law RL room_1 4 n) (cs : Cs X) {L : Nat} {xs : Nat → Int32} (sx : Sx X L xs) {M : Mm} (h : Rl M) {i : Int} (hi : 0 ≤ i ∧ i + 6 ≤ (L : Int)) (k : ∀ M2, Rl M2 → G X 1605 (lvL i) [] M2) : G X 1432 (lvL i) [] M := by
  refine g_aload_n cx (pc2 := 1433) 1 rfl dL_law_1432 rfl ?_
  refine g_callV cx (pc2 := 1436) (st := []) (As := []) (k0 := 0) (ci := 11) (c_X11_liar (M := M) hn h.1) wM_X11_liar wV_X11_liar kl_L_187 rfl (lt_lit hn (Nat.le_of_ble_eq_true rfl)) rfl ⟨rfl, rfl, (Nat.le_of_ble_eq_true rfl), (Nat.le_of_ble_eq_true rfl)⟩ (Nat.le_of_ble_eq_true rfl) cs rfl rfl dL_law_1433 rfl ?_
  rintro _ _ ⟨rfl, rfl⟩
  have v := h.k7 (k7.rf M)
  refine g_aload_n cx (pc2 := 1437) 2 rfl dL_law_1436 rfl ?_
  refine g_callV cx (pc2 := 1440) (st := [.int (iI ((liaA M)))]) (As := []) (k0 := 77) (ci := 12) (c_X12_liar (M := M) hn v.1.1.1 v.1.2.1.2.2) wM_X12_liar wV_X12_liar kl_L_190 rfl (lt_lit hn (Nat.le_of_ble_eq_true rfl)) rfl ⟨rfl, rfl, (Nat.le_of_ble_eq_true rfl), (Nat.le_of_ble_eq_true rfl)⟩ (Nat.le_of_ble_eq_true rfl) cs rfl rfl dL_law_1437 rfl ?_
  rintro _ _ ⟨rfl, rfl⟩
  have e := pr_liar h
  exact g_eqT cx (tgt := 1605) e dL_law_1440 rfl (k _ h)
theorem arm_image {X : Cq} {n : Nat} (hn : NN n) (cx : Cx X cL_law RL room_1 4 n) (cs : Cs X) {L : Nat} {xs : Nat → Int32} (sx : Sx X L xs) {M : Mm} (h : Rl M) {i : Int} (hi : 0 ≤ i ∧ i + 6 ≤ (L : Int)) (k : ∀ M2, Rl M2 → G X 1605 (lvL i) [] M2) : G X 1445 (lvL i) [] M := by
  refine g_aload_n cx (pc2 := 1446) 1 rfl dL_law_1445 rfl ?_
  refine g_arg cx sx (pc2 := 1451) 1 (by decide) hi dL_law_1446 dL_law_1447 dL_law_1448 dL_law_1449 dL_law_1450 rfl ?_
  refine g_callV cx (pc2 := 1454) (st := []) (As := [.int (iI (Zx xs (i + 1)))]) (k0 := 0) (ci := 11) (c_X11_image (M := M) hn h.1 (Zx xs (i + 1)) (Zx_ir _ _)) wM_X11_image wV_X11_image kl_L_191 rfl (lt_lit hn (Nat.le_of_ble_eq_true rfl)) rfl ⟨rfl, rfl, (Nat.le_of_ble_eq_true rfl), (Nat.le_of_ble_eq_true rfl)⟩ (Nat.le_of_ble_eq_true rfl) cs rfl rfl dL_law_1451 rfl ?_
  rintro _ _ ⟨rfl, rfl⟩
  have v := h.k7 (k7_image h.1 (Zx xs (i + 1)))
  refine g_aload_n cx (pc2 := 1455) 2 rfl dL_law_1454 rfl ?_
  refine g_arg cx sx (pc2 := 1460) 1 (by decide) hi dL_law_1455 dL_law_1456 dL_law_1457 dL_law_1458 dL_law_1459 rfl ?_
  refine g_callV cx (pc2 := 1463) (st := [.int (iI ((imaA M (Zx xs (i + 1)))))]) (As := [.int (iI (Zx xs (i + 1)))]) (k0 := 77) (ci := 12) (c_X12_image (M := (imaM M (Zx xs (i + 1)))) hn v.1.1.1 (Zx xs (i + 1)) (Zx_ir _ _)) wM_X12_image wV_X12_image kl_L_194 rfl (lt_lit hn (Nat.le_of_ble_eq_true rfl)) rfl ⟨rfl, rfl, (Nat.le_of_ble_eq_true rfl), (Nat.le_of_ble_eq_true rfl)⟩ (Nat.le_of_ble_eq_true rfl) cs rfl rfl dL_law_1460 rfl ?_
  rintro _ _ ⟨rfl, rfl⟩
  obtain ⟨e, M3, hn3, hr⟩ := pr_image h (Zx xs (i + 1))
  exact g_eqT cx (tgt := 1605) e dL_law_1463 rfl (G.nr hn3 (k M3 hr))
theorem arm_on {X : Cq} {n : Nat} (hn : NN n) (cx : Cx X cL_law RL room_1 4 n) (cs : Cs X) {L : Nat} {xs : Nat → Int32} (sx : Sx X L xs) {M : Mm} (h : Rl M) {i : Int} (hi : 0 ≤ i ∧ i + 6 ≤ (L : Int)) (k : ∀ M2, Rl M2 → G X 1605 (lvL i) [] M2) : G X 1468 (lvL i) [] M := by
  refine g_aload_n cx (pc2 := 1469) 1 rfl dL_law_1468 rfl ?_
  refine g_arg cx sx (pc2 := 1474) 1 (by decide) hi dL_law_1469 dL_law_1470 dL_law_1471 dL_law_1472 dL_law_1473 rfl ?_
  refine g_callV cx (pc2 := 1477) (st := []) (As := [.int (iI (Zx xs (i + 1)))]) (k0 := 0) (ci := 11) (c_X11_on (M := M) hn h.1 (Zx xs (i + 1)) (Zx_ir _ _)) wM_X11_on wV_X11_on kl_L_195 rfl (lt_lit hn (Nat.le_of_ble_eq_true rfl)) rfl ⟨rfl, rfl, (Nat.le_of_ble_eq_true rfl), (Nat.le_of_ble_eq_true rfl)⟩ (Nat.le_of_ble_eq_true rfl) cs rfl rfl dL_law_1474 rfl ?_
  rintro _ _ ⟨rfl, rfl⟩
  have v := h.k7 (k7_on h.1 (Zx xs (i + 1)))
  refine g_aload_n cx (pc2 := 1478) 2 rfl dL_law_1477 rfl ?_
  refine g_arg cx sx (pc2 := 1483) 1 (by decide) hi dL_law_1478 dL_law_1479 dL_law_1480 dL_law_1481 dL_law_1482 rfl ?_
  refine g_callV cx (pc2 := 1486) (st := [.int (iI ((onA M (Zx xs (i + 1)))))]) (As := [.int (iI (Zx xs (i + 1)))]) (k0 := 77) (ci := 12) (c_X12_on (M := (onM M (Zx xs (i + 1)))) hn v.1.1.1 v.1.1.2.1 (Zx xs (i + 1)) (Zx_ir _ _)) wM_X12_on wV_X12_on kl_L_198 rfl (lt_lit hn (Nat.le_of_ble_eq_true rfl)) rfl ⟨rfl, rfl, (Nat.le_of_ble_eq_true rfl), (Nat.le_of_ble_eq_true rfl)⟩ (Nat.le_of_ble_eq_true rfl) cs rfl rfl dL_law_1483 rfl ?_
  rintro _ _ ⟨rfl, rfl⟩
  obtain ⟨e, hr⟩ := pr_on h (Zx xs (i + 1))
  exact g_eqT cx (tgt := 1605) e dL_law_1486 rfl (k _ hr)
theorem arm_asked {X : Cq} {n : Nat} (hn : NN n) (cx : Cx X cL_law RL room_1 4 n) (cs : Cs X) {L : Nat} {xs : Nat → Int32} (sx : Sx X L xs) {M : Mm} (h : Rl M) {i : Int} (hi : 0 ≤ i ∧ i + 6 ≤ (L : Int)) (k : ∀ M2, Rl M2 → G X 1605 (lvL i) [] M2) : G X 1491 (lvL i) [] M := by
  refine g_aload_n cx (pc2 := 1492) 1 rfl dL_law_1491 rfl ?_
  refine g_callV cx (pc2 := 1495) (st := []) (As := []) (k0 := 0) (ci := 11) (c_X11_asked (M := M) hn) wM_X11_asked wV_X11_asked kl_L_199 rfl (lt_lit hn (Nat.le_of_ble_eq_true rfl)) rfl ⟨rfl, rfl, (Nat.le_of_ble_eq_true rfl), (Nat.le_of_ble_eq_true rfl)⟩ (Nat.le_of_ble_eq_true rfl) cs rfl rfl dL_law_1492 rfl ?_
  rintro _ _ ⟨rfl, rfl⟩
  have v := h.k7 (k7.rf M)
  refine g_aload_n cx (pc2 := 1496) 2 rfl dL_law_1495 rfl ?_
  refine g_callV cx (pc2 := 1499) (st := [.int (iI ((M 0 15)))]) (As := []) (k0 := 77) (ci := 12) (c_X12_asked (M := M) hn) wM_X12_asked wV_X12_asked kl_L_202 rfl (lt_lit hn (Nat.le_of_ble_eq_true rfl)) rfl ⟨rfl, rfl, (Nat.le_of_ble_eq_true rfl), (Nat.le_of_ble_eq_true rfl)⟩ (Nat.le_of_ble_eq_true rfl) cs rfl rfl dL_law_1496 rfl ?_
  rintro _ _ ⟨rfl, rfl⟩
  have e := h.2.2.1.2.2.1.1
  exact g_eqT cx (tgt := 1605) e dL_law_1499 rfl (k _ h)
theorem arm_upper {X : Cq} {n : Nat} (hn : NN n) (cx : Cx X cL_law RL room_1 4 n) (cs : Cs X) {L : Nat} {xs : Nat → Int32} (sx : Sx X L xs) {M : Mm} (h : Rl M) {i : Int} (hi : 0 ≤ i ∧ i + 6 ≤ (L : Int)) (k : ∀ M2, Rl M2 → G X 1605 (lvL i) [] M2) : G X 1504 (lvL i) [] M := by
  refine g_aload_n cx (pc2 := 1505) 1 rfl dL_law_1504 rfl ?_
  refine g_callV cx (pc2 := 1508) (st := []) (As := []) (k0 := 0) (ci := 11) (c_X11_upper (M := M) hn) wM_X11_upper wV_X11_upper kl_L_203 rfl (lt_lit hn (Nat.le_of_ble_eq_true rfl)) rfl ⟨rfl, rfl, (Nat.le_of_ble_eq_true rfl), (Nat.le_of_ble_eq_true rfl)⟩ (Nat.le_of_ble_eq_true rfl) cs rfl rfl dL_law_1505 rfl ?_
  rintro _ _ ⟨rfl, rfl⟩
  have v := h.k7 (k7.rf M)
  refine g_aload_n cx (pc2 := 1509) 2 rfl dL_law_1508 rfl ?_
  refine g_callV cx (pc2 := 1512) (st := [.long (lI ((M 0 16)))]) (As := []) (k0 := 77) (ci := 12) (c_X12_upper (M := M) hn) wM_X12_upper wV_X12_upper kl_L_207 rfl (lt_lit hn (Nat.le_of_ble_eq_true rfl)) rfl ⟨rfl, rfl, (Nat.le_of_ble_eq_true rfl), (Nat.le_of_ble_eq_true rfl)⟩ (Nat.le_of_ble_eq_true rfl) cs rfl rfl dL_law_1509 rfl ?_
  rintro _ _ ⟨rfl, rfl⟩
  have e := h.2.2.1.2.2.1.2.2.1
  exact g_lcT cx (tgt := 1605) e dL_law_1512 dL_law_1513 rfl (k _ h)
theorem arm_lower {X : Cq} {n : Nat} (hn : NN n) (cx : Cx X cL_law RL room_1 4 n) (cs : Cs X) {L : Nat} {xs : Nat → Int32} (sx : Sx X L xs) {M : Mm} (h : Rl M) {i : Int} (hi : 0 ≤ i ∧ i + 6 ≤ (L : Int)) (k : ∀ M2, Rl M2 → G X 1605 (lvL i) [] M2) : G X 1518 (lvL i) [] M := by
  refine g_aload_n cx (pc2 := 1519) 1 rfl dL_law_1518 rfl ?_
  refine g_callV cx (pc2 := 1522) (st := []) (As := []) (k0 := 0) (ci := 11) (c_X11_lower (M := M) hn) wM_X11_lower wV_X11_lower kl_L_208 rfl (lt_lit hn (Nat.le_of_ble_eq_true rfl)) rfl ⟨rfl, rfl, (Nat.le_of_ble_eq_true rfl), (Nat.le_of_ble_eq_true rfl)⟩ (Nat.le_of_ble_eq_true rfl) cs rfl rfl dL_law_1519 rfl ?_
  rintro _ _ ⟨rfl, rfl⟩
  have v := h.k7 (k7.rf M)
  refine g_aload_n cx (pc2 := 1523) 2 rfl dL_law_1522 rfl ?_
  refine g_callV cx (pc2 := 1526) (st := [.long (lI ((M 0 17)))]) (As := []) (k0 := 77) (ci := 12) (c_X12_lower (M := M) hn) wM_X12_lower wV_X12_lower kl_L_211 rfl (lt_lit hn (Nat.le_of_ble_eq_true rfl)) rfl ⟨rfl, rfl, (Nat.le_of_ble_eq_true rfl), (Nat.le_of_ble_eq_true rfl)⟩ (Nat.le_of_ble_eq_true rfl) cs rfl rfl dL_law_1523 rfl ?_
  rintro _ _ ⟨rfl, rfl⟩
  have e := h.2.2.1.2.2.1.2.2.2
  exact g_lcT cx (tgt := 1605) e dL_law_1526 dL_law_1527 rfl (k _ h)
theorem arm_count {X : Cq} {n : Nat} (hn : NN n) (cx : Cx X cL_law RL room_1 4 n) (cs : Cs X) {L : Nat} {xs : Nat → Int32} (sx : Sx X L xs) {M : Mm} (h : Rl M) {i : Int} (hi : 0 ≤ i ∧ i + 6 ≤ (L : Int)) (k : ∀ M2, Rl M2 → G X 1605 (lvL i) [] M2) : G X 1532 (lvL i) [] M := by
  refine g_aload_n cx (pc2 := 1533) 1 rfl dL_law_1532 rfl ?_
  refine g_arg cx sx (pc2 := 1538) 1 (by decide) hi dL_law_1533 dL_law_1534 dL_law_1535 dL_law_1536 dL_law_1537 rfl ?_
  refine g_callV cx (pc2 := 1541) (st := []) (As := [.int (iI (Zx xs (i + 1)))]) (k0 := 0) (ci := 11) (c_X11_count (M := M) hn h.1 (Zx xs (i + 1)) (Zx_ir _ _)) wM_X11_count wV_X11_count kl_L_212 rfl (lt_lit hn (Nat.le_of_ble_eq_true rfl)) rfl ⟨rfl, rfl, (Nat.le_of_ble_eq_true rfl), (Nat.le_of_ble_eq_true rfl)⟩ (Nat.le_of_ble_eq_true rfl) cs rfl rfl dL_law_1538 rfl ?_
  rintro _ _ ⟨rfl, rfl⟩
  have v := h.k7 (k7.rf M)
  refine g_aload_n cx (pc2 := 1542) 2 rfl dL_law_1541 rfl ?_
  refine g_arg cx sx (pc2 := 1547) 1 (by decide) hi dL_law_1542 dL_law_1543 dL_law_1544 dL_law_1545 dL_law_1546 rfl ?_
  refine g_callV cx (pc2 := 1550) (st := [.int (iI ((cntV M (Zx xs (i + 1)))))]) (As := [.int (iI (Zx xs (i + 1)))]) (k0 := 77) (ci := 12) (c_X12_count (M := M) hn v.1.1.1 v.1.1.2.1 v.1.1.2.2 (Zx xs (i + 1)) (Zx_ir _ _)) wM_X12_count wV_X12_count kl_L_215 rfl (lt_lit hn (Nat.le_of_ble_eq_true rfl)) rfl ⟨rfl, rfl, (Nat.le_of_ble_eq_true rfl), (Nat.le_of_ble_eq_true rfl)⟩ (Nat.le_of_ble_eq_true rfl) cs rfl rfl dL_law_1547 rfl ?_
  rintro _ _ ⟨rfl, rfl⟩
  have e := pr_count h (Zx xs (i + 1))
  exact g_eqT cx (tgt := 1605) e dL_law_1550 rfl (k _ h)
theorem arm_finding {X : Cq} {n : Nat} (hn : NN n) (cx : Cx X cL_law RL room_1 4 n) (cs : Cs X) {L : Nat} {xs : Nat → Int32} (sx : Sx X L xs) {M : Mm} (h : Rl M) {i : Int} (hi : 0 ≤ i ∧ i + 6 ≤ (L : Int)) (k : ∀ M2, Rl M2 → G X 1605 (lvL i) [] M2) : G X 1555 (lvL i) [] M := by
  refine g_aload_n cx (pc2 := 1556) 1 rfl dL_law_1555 rfl ?_
  refine g_callV cx (pc2 := 1559) (st := []) (As := []) (k0 := 0) (ci := 11) (c_X11_finding (M := M) hn) wM_X11_finding wV_X11_finding kl_L_216 rfl (lt_lit hn (Nat.le_of_ble_eq_true rfl)) rfl ⟨rfl, rfl, (Nat.le_of_ble_eq_true rfl), (Nat.le_of_ble_eq_true rfl)⟩ (Nat.le_of_ble_eq_true rfl) cs rfl rfl dL_law_1556 rfl ?_
  rintro _ _ ⟨rfl, rfl⟩
  have v := h.k7 (k7.rf M)
  refine g_aload_n cx (pc2 := 1560) 2 rfl dL_law_1559 rfl ?_
  refine g_callV cx (pc2 := 1563) (st := [.int (iI ((M 0 14)))]) (As := []) (k0 := 77) (ci := 12) (c_X12_finding (M := M) hn) wM_X12_finding wV_X12_finding kl_L_219 rfl (lt_lit hn (Nat.le_of_ble_eq_true rfl)) rfl ⟨rfl, rfl, (Nat.le_of_ble_eq_true rfl), (Nat.le_of_ble_eq_true rfl)⟩ (Nat.le_of_ble_eq_true rfl) cs rfl rfl dL_law_1560 rfl ?_
  rintro _ _ ⟨rfl, rfl⟩
  have e := h.2.2.1.2.2.1.2.1
  exact g_eqT cx (tgt := 1605) e dL_law_1563 rfl (k _ h)
theorem arm_findings {X : Cq} {n : Nat} (hn : NN n) (cx : Cx X cL_law RL room_1 4 n) (cs : Cs X) {L : Nat} {xs : Nat → Int32} (sx : Sx X L xs) {M : Mm} (h : Rl M) {i : Int} (hi : 0 ≤ i ∧ i + 6 ≤ (L : Int)) (k : ∀ M2, Rl M2 → G X 1605 (lvL i) [] M2) : G X 1568 (lvL i) [] M := by
  refine g_aload_n cx (pc2 := 1569) 1 rfl dL_law_1568 rfl ?_
  refine g_arg cx sx (pc2 := 1574) 1 (by decide) hi dL_law_1569 dL_law_1570 dL_law_1571 dL_law_1572 dL_law_1573 rfl ?_
  refine g_callV cx (pc2 := 1577) (st := []) (As := [.int (iI (Zx xs (i + 1)))]) (k0 := 0) (ci := 11) (c_X11_findings (M := M) hn (Zx xs (i + 1)) (Zx_ir _ _)) wM_X11_findings wV_X11_findings kl_L_220 rfl (lt_lit hn (Nat.le_of_ble_eq_true rfl)) rfl ⟨rfl, rfl, (Nat.le_of_ble_eq_true rfl), (Nat.le_of_ble_eq_true rfl)⟩ (Nat.le_of_ble_eq_true rfl) cs rfl rfl dL_law_1574 rfl ?_
  rintro _ _ ⟨rfl, rfl⟩
  have v := h.k7 (k7.rf M)
  refine g_aload_n cx (pc2 := 1578) 2 rfl dL_law_1577 rfl ?_
  refine g_arg cx sx (pc2 := 1583) 1 (by decide) hi dL_law_1578 dL_law_1579 dL_law_1580 dL_law_1581 dL_law_1582 rfl ?_
  refine g_callV cx (pc2 := 1586) (st := [.int (iI ((fngA M (Zx xs (i + 1)))))]) (As := [.int (iI (Zx xs (i + 1)))]) (k0 := 77) (ci := 12) (c_X12_findings (M := M) hn (Zx xs (i + 1)) (Zx_ir _ _)) wM_X12_findings wV_X12_findings kl_L_223 rfl (lt_lit hn (Nat.le_of_ble_eq_true rfl)) rfl ⟨rfl, rfl, (Nat.le_of_ble_eq_true rfl), (Nat.le_of_ble_eq_true rfl)⟩ (Nat.le_of_ble_eq_true rfl) cs rfl rfl dL_law_1583 rfl ?_
  rintro _ _ ⟨rfl, rfl⟩
  have e := pr_findings h (Zx xs (i + 1))
  exact g_eqT cx (tgt := 1605) e dL_law_1586 rfl (k _ h)
theorem arm_digest {X : Cq} {n : Nat} (hn : NN n) (cx : Cx X cL_law RL room_1 4 n) (cs : Cs X) {L : Nat} {xs : Nat → Int32} (sx : Sx X L xs) {M : Mm} (h : Rl M) {i : Int} (hi : 0 ≤ i ∧ i + 6 ≤ (L : Int)) (k : ∀ M2, Rl M2 → G X 1605 (lvL i) [] M2) : G X 1591 (lvL i) [] M := by
  refine g_aload_n cx (pc2 := 1592) 1 rfl dL_law_1591 rfl ?_
  refine g_callV cx (pc2 := 1595) (st := []) (As := []) (k0 := 0) (ci := 11) (c_X11_digest (M := M) hn h.1) wM_X11_digest wV_X11_digest kl_L_224 rfl (lt_lit hn (Nat.le_of_ble_eq_true rfl)) rfl ⟨rfl, rfl, (Nat.le_of_ble_eq_true rfl), (Nat.le_of_ble_eq_true rfl)⟩ (Nat.le_of_ble_eq_true rfl) cs rfl rfl dL_law_1592 rfl ?_
  rintro _ _ ⟨rfl, rfl⟩
  have v := h.k7 (k7.rf M)
  refine g_aload_n cx (pc2 := 1596) 2 rfl dL_law_1595 rfl ?_
  refine g_callV cx (pc2 := 1599) (st := [.long (lI ((digV M)))]) (As := []) (k0 := 77) (ci := 12) (c_X12_digest (M := M) hn v.1.1.1 v.1.1.2.1 v.1.1.2.2 v.1.2.1.2.1 v.1.2.1.2.2 v.1.2.1.1.1) wM_X12_digest wV_X12_digest kl_L_227 rfl (lt_lit hn (Nat.le_of_ble_eq_true rfl)) rfl ⟨rfl, rfl, (Nat.le_of_ble_eq_true rfl), (Nat.le_of_ble_eq_true rfl)⟩ (Nat.le_of_ble_eq_true rfl) cs rfl rfl dL_law_1596 rfl ?_
  rintro _ _ ⟨rfl, rfl⟩
  have e := pr_digest h
  exact g_lcT cx (tgt := 1605) e dL_law_1599 dL_law_1600 rfl (k _ (h.hash _))
