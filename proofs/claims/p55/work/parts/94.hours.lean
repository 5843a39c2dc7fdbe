theorem c_houseL {n : Nat} (hn : NN n) {M : Mm} (hci : CI M) (h : Int) (hh : HS M h) (hi : ir h) : CT yX11_house cX11_house 2 (some .int) ({ frames := 2, cells := 0, slots := 0, locals := 42 }) n [.ref 0, .int (iI h)] M (rI (plc M 23 h) (tdM M (M 64 h.toNat))) := by
  have c := c_X11_house (M := M) hn hci h hi
  unfold houA houM at c
  rw [if_neg (not_not_intro hh), if_neg (not_not_intro hh)] at c
  exact c
theorem c_owesL {n : Nat} (hn : NN n) {M : Mm} (hci : CI M) (h k : Int) (hh : HS M h) (hk : HS M k) (hne : ¬ h = k) (hi : ir h) (hj : ir k) : CT yX11_owes cX11_owes 3 (some .int) ({ frames := 2, cells := 0, slots := 0, locals := 42 }) n [.ref 0, .int (iI h), .int (iI k)] M (rI (M 65 (h * 8 + k).toNat) M) := by
  have c := c_X11_owes (M := M) hn hci h k hi hj
  unfold oweA at c
  rw [if_neg (by intro z; rcases z with z | z | z; exact z hh; exact z hk; exact hne z)] at c
  exact c
theorem c_askT {n : Nat} (hn : NN n) {M1 M : Mm} {v : Int} (e : M = tdM M1 v) : CT yX11_asked cX11_asked 1 (some .int) ({ frames := 0, cells := 0, slots := 0, locals := 0 }) n [.ref 0] M (rI v M) := by
  have c := c_X11_asked (M := M) hn
  have e2 : M 0 15 = v := by rw [e]; exact stM_at _ _ _ _
  rw [e2] at c
  exact c
theorem c_ask0 {n : Nat} (hn : NN n) {M : Mm} {v : Int} (e : M 0 15 = v) : CT yX11_asked cX11_asked 1 (some .int) ({ frames := 0, cells := 0, slots := 0, locals := 0 }) n [.ref 0] M (rI v M) := by
  have c := c_X11_asked (M := M) hn
  rw [e] at c
  exact c
theorem plc_p {M : Mm} (h : CI M) (x : Int) : 0 ≤ plc M 23 x ∧ plc M 23 x ≤ 15 := plc_b h.pl x
/-- behind hours -/
abbrev HoR (M0 M2 : Mm) : Prop := CI M2 ∧ ∀ a, a ≠ 0 → (a ≤ 62 ∨ (73 ≤ a ∧ a ≤ 75)) → M2 a = M0 a
theorem c_undoL {n : Nat} (hn : NN n) {M0 M : Mm} {nh many sum st : Int} (hL : LI M0 M nh many sum st) (hst : st ≤ 12) : CT yX11_undo cX11_undo 2 (some .int) ({ frames := 5, cells := 0, slots := 0, locals := 112 }) n [.ref 0, .int (iI 0)] M (rI many (undM M 0)) := by
  have c := c_X11_undo (M := M) hn hL.2.2.2.2.2.2.1 0 ⟨by decide, by decide⟩
  rw [(hL.undo hst).1] at c
  exact c
theorem c_richL {n : Nat} (hn : NN n) {M : Mm} (hci : CI M) (h3 : 1 ≤ M 23 3 ∧ M 23 3 ≤ 8) (h : ∀ x : Nat, x < 64 → M 65 x = 0) : CT yX11_rich cX11_rich 3 (some .int) ({ frames := 3, cells := 0, slots := 0, locals := 65 }) n [.ref 0] M (rI 0 (tdM M 0)) := by
  have c := c_X11_rich (M := M) hn hci
  have e : ricN M = 0 := rcF_0 h _ (by omega)
  unfold ricA ricM at c
  rw [if_neg (by omega), if_neg (by omega), e, otV_0 h (by decide)] at c
  exact c
theorem c_pockL {n : Nat} (hn : NN n) {M0 M : Mm} {nh : Int} {k : Int} (h0 : 0 ≤ k) (h : PK M0 M nh k.toNat) (hnh : 1 ≤ nh ∧ nh ≤ 5) (h23 : M 23 3 = nh) (hk : k < 6) : CT yX11_pocket cX11_pocket 3 (some .int) ({ frames := 1, cells := 0, slots := 0, locals := 22 }) n [.ref 0, .int (iI (k % nh)), .int (iI (10 + k))] M (rI (k + 1) (pocM M (k % nh) (10 + k))) := by
  have m1 := Int.emod_nonneg k (show nh ≠ 0 by omega)
  have m2 := Int.emod_lt_of_pos k (show 0 < nh by omega)
  have c := c_X11_pocket (M := M) hn h.2.1 (k % nh) (10 + k) ⟨by omega, by omega⟩ ⟨by omega, by omega⟩
  have e := (h.add hnh h23 (by omega)).1
  rw [Int.toNat_of_nonneg h0] at e
  rw [e] at c
  exact c
theorem c_findL {n : Nat} (hn : NN n) {M0 M : Mm} {nh : Int} {k : Int} (h0 : 0 ≤ k) (h : PK M0 M nh (k.toNat + 1)) (hnh : 1 ≤ nh ∧ nh ≤ 5) (h23 : M 23 3 = nh) (hk : k < 6) : CT yX11_find cX11_find 3 (some .int) ({ frames := 3, cells := 0, slots := 0, locals := 64 }) n [.ref 0, .int (iI (k % nh))] M (rI 0 (finM M (k % nh))) := by
  have m1 := Int.emod_nonneg k (show nh ≠ 0 by omega)
  have m2 := Int.emod_lt_of_pos k (show 0 < nh by omega)
  have c := c_X11_find (M := M) hn h.2.1 (k % nh) ⟨by omega, by omega⟩
  have e := (h.take hnh h23 (by omega)).1
  rw [Int.toNat_of_nonneg h0] at e
  rw [e] at c
  exact c
theorem c_find0 {n : Nat} (hn : NN n) {M0 M : Mm} {nh : Int} (h : PK M0 M nh 0) (h23 : 1 ≤ M 23 3) : CT yX11_find cX11_find 3 (some .int) ({ frames := 3, cells := 0, slots := 0, locals := 64 }) n [.ref 0, .int (iI 0)] M (rI (-3) (fdM M 1)) := by
  have c := c_X11_find (M := M) hn h.2.1 0 ⟨by decide, by decide⟩
  have hh : ¬ ¬ HS M 0 := not_not_intro ⟨by decide, by omega⟩
  have e : finP M 0 = -9 := by
    unfold finP
    rw [h.1.1]
    rfl
  unfold finA finM at c
  rw [if_neg hh, if_neg hh, e, if_pos rfl, if_pos rfl] at c
  exact c
theorem PK_s {M0 M : Mm} {nh : Int} {k : Int} (h0 : 0 ≤ k) (h : PK M0 M nh k.toNat) (hnh : 1 ≤ nh ∧ nh ≤ 5) (h23 : M 23 3 = nh) (hk : k < 6) : PK M0 (pocM M (k % nh) (10 + k)) nh (k + 1).toNat := by
  have e := (h.add hnh h23 (by omega)).2
  rw [Int.toNat_of_nonneg h0] at e
  rw [show (k + 1).toNat = k.toNat + 1 by omega]
  exact e
theorem PK_t {M0 M : Mm} {nh : Int} {k : Int} (h0 : 0 ≤ k) (h : PK M0 M nh (k.toNat + 1)) (hnh : 1 ≤ nh ∧ nh ≤ 5) (h23 : M 23 3 = nh) (hk : k < 6) : finM M (k % nh) 0 15 = 10 + k ∧ PK M0 (finM M (k % nh)) nh k.toNat := by
  have e := (h.take hnh h23 (by omega)).2
  rw [Int.toNat_of_nonneg h0] at e
  exact e
theorem CI_fd {M : Mm} (h : CI M) (f : Int) : CI (fdM M f) := h.fr0 (fun a h1 h2 => by unfold fdM; rw [stM_off (by omega), stM_off (by omega)])
set_option maxHeartbeats 4000000 in
set_option maxRecDepth 100000 in
theorem hours_F {P : Pl} {b L : Nat} {xs : Nat → Int32} {n : Nat} (hn : NN n) {M0 : Mm} (hci : CI M0) (hz : LZ M0) {R : va_W} (nh : Int) (hnh : 1 ≤ nh ∧ nh ≤ 5) (h23 : M0 23 3 = nh) (sum many : Int) {Mb : Mm} (hb : EqM M0 Mb) (hu : Mb 63 6 = 0 ∧ (∀ x : Nat, x < 8 → Mb 64 x = 0) ∧ ∀ x : Nat, x < 64 → Mb 65 x = 0) {X : Yq} (cx : Yx X cL_hours RL ({ frames := 6, cells := 0, slots := 0, locals := 138 } : Room) 15 P) (ys : Ys X P) (sx : Sy X b L xs) (qx : Yr X (wld P n M0 ++ R) 0 0 (qT P n R (HoR M0)) (some .boolean)) : ∀ (fu : Nat) (M : Mm) (k : Int), (-1 ≤ k ∧ k < 6) → (PK Mb M nh (k + 1).toNat) → ((k + 1).toNat) ≤ fu → YG X 291 [(0, .ref (P.2.1 0)), (1, .ref b), (2, .int (iI nh)), (3, .int (iI sum)), (4, .long (lI (digV M0))), (6, .int (iI many)), (7, .int (iI k))] [] (wld P n M ++ R) 0 0 := by
  intro fu
  induction fu using Nat.strongRecOn with
  | _ fu ih =>
    intro M k hk hp hfu
    have hb23 : M 23 3 = nh := by rw [hp.2.2 23 (by decide) (by decide), hb 23 (by decide) (by decide)]; exact h23
    refine l_iload cx (pc2 := 293) 6 rfl dL_hours_291 rfl ?_
    refine l_if_lt cx (pc2 := 296) (tgt := 327) (by first | assumption | omega | exact ⟨by omega, by omega⟩) dL_hours_293 (by decide) rfl (fun h_1 => ?_) (fun h_1 => ?_)
    · skip
      have hk0 : (k + 1).toNat = 0 := by omega
      have hp0 : PK Mb M nh 0 := hk0 ▸ hp
      refine l_aload_n cx (pc2 := 328) 0 rfl dL_hours_327 rfl ?_
      refine l_iconst cx (pc2 := 329) dL_hours_328 rfl ?_
      refine l_ctI cx (pc2 := 332) (st := []) ys hn (M := M) (As := [.int (iI 0)]) (c_find0 (M := M) hn hp0 (by omega)) wM_X11_find wV_X11_find rfl kl_L_166 ⟨rfl, rfl, Nat.le_of_ble_eq_true rfl, Nat.le_of_ble_eq_true rfl⟩ (Nat.le_of_ble_eq_true rfl) ⟨Nat.zero_le _, Nat.zero_le _⟩ rfl rfl rfl dL_hours_329 rfl ?_
      refine l_bipush cx (pc2 := 334) ⟨by decide, by decide⟩ dL_hours_332 rfl ?_
      refine l_icmp_ne cx (pc2 := 337) (tgt := 351) ⟨⟨by decide, by decide⟩, ⟨by decide, by decide⟩⟩ dL_hours_334 (by decide) rfl (fun h_2 => ?_) (fun h_2 => ?_)
      · skip
        omega
      · skip
        refine l_aload_n cx (pc2 := 338) 0 rfl dL_hours_337 rfl ?_
        refine l_ctL cx (pc2 := 341) (st := []) ys hn (M := (fdM M 1)) (As := []) (c_X11_digest (M := (fdM M 1)) hn (CI_fd hp.2.1 1)) wM_X11_digest wV_X11_digest rfl kl_L_144 ⟨rfl, rfl, Nat.le_of_ble_eq_true rfl, Nat.le_of_ble_eq_true rfl⟩ (Nat.le_of_ble_eq_true rfl) ⟨Nat.zero_le _, Nat.zero_le _⟩ rfl rfl rfl dL_hours_338 rfl ?_
        refine l_lload cx (pc2 := 343) 4 rfl dL_hours_341 rfl ?_
        refine l_lcmpE cx (pc2 := 344) (by have fo : ∀ a, 1 ≤ a → a ≤ 75 → fdM M 1 a = M a := fun a h1 h2 => (by unfold fdM; rw [stM_off (by omega), stM_off (by omega)]); have fb : ∀ a, 1 ≤ a → a ≤ 69 → fdM M 1 a = Mb a := fun a h1 h2 => (by rw [fo a h1 (by omega)]; exact hp.2.2 a (by omega) (by omega)); exact congrArg lI (dig_eq hci (fun a h1 h2 => by rw [fb a (by omega) (by omega)]; exact hb a (by omega) (by omega)) (by rw [fb 63 (by decide) (by decide), hu.1, hz.1]) (fun x hx => by rw [fb 64 (by decide) (by decide), hu.2.1 x hx, hz.2.1 x hx]) (fun x hx => by rw [fb 65 (by decide) (by decide), hu.2.2 x hx, hz.2.2.1 x hx]) ⟨hz.2.2.2.1, by rw [fo 70 (by decide) (by decide), hp0.1.1]; rfl⟩ ⟨hz.2.2.2.2, by rw [fo 73 (by decide) (by decide), hp.2.2 73 (by decide) (by decide), hb 73 (by decide) (by decide)]; exact hz.2.2.2.2⟩)) dL_hours_343 rfl ?_
        refine l_if_ne cx (pc2 := 347) (tgt := 351) ⟨by decide, by decide⟩ dL_hours_344 (by decide) rfl (fun h_3 => ?_) (fun h_3 => ?_)
        · skip
          omega
        · skip
          refine l_iconst cx (pc2 := 348) dL_hours_347 rfl ?_
          refine l_goto cx (tgt := 352) dL_hours_348 (by decide) ?_
          exact l_zret cx (Or.inr rfl) qx dL_hours_352 (by exact ⟨rfl, _, ⟨CI_fd hp.2.1 1, fun a h1 h2 => by unfold fdM; rw [stM_off (by omega), stM_off (by omega), hp.2.2 a h1 (by omega)]; exact hb a h1 (by omega)⟩, rfl⟩)
    · skip
      refine l_aload_n cx (pc2 := 297) 0 rfl dL_hours_296 rfl ?_
      refine l_iload cx (pc2 := 299) 6 rfl dL_hours_297 rfl ?_
      refine l_iload_n cx (pc2 := 300) 2 rfl dL_hours_299 rfl ?_
      refine l_irem cx (pc2 := 301) (by exact ⟨⟨by omega, by omega⟩, ⟨by omega, by omega⟩, by omega, Or.inr (by omega)⟩) dL_hours_300 rfl ?_
      refine l_rwi (y := iI (k % nh)) (by rw [trem (by omega)]) ?_
      refine l_ctI cx (pc2 := 304) (st := []) ys hn (M := M) (As := [.int (iI (k % nh))]) (c_findL (M := M) hn (k := k) (by omega) (by rw [show k.toNat + 1 = (k + 1).toNat by omega]; exact hp) hnh hb23 (by omega)) wM_X11_find wV_X11_find rfl kl_L_166 ⟨rfl, rfl, Nat.le_of_ble_eq_true rfl, Nat.le_of_ble_eq_true rfl⟩ (Nat.le_of_ble_eq_true rfl) ⟨Nat.zero_le _, Nat.zero_le _⟩ rfl rfl rfl dL_hours_301 rfl ?_
      have ht := PK_t (k := k) (by omega) (by rw [show k.toNat + 1 = (k + 1).toNat by omega]; exact hp) hnh hb23 (by omega)
      refine l_if_ne cx (pc2 := 307) (tgt := 319) ⟨by decide, by decide⟩ dL_hours_304 (by decide) rfl (fun h_4 => ?_) (fun h_4 => ?_)
      · skip
        omega
      · skip
        refine l_aload_n cx (pc2 := 308) 0 rfl dL_hours_307 rfl ?_
        refine l_ctI cx (pc2 := 311) (st := []) ys hn (M := (finM M (k % nh))) (As := []) (c_ask0 (M := (finM M (k % nh))) hn ht.1) wM_X11_asked wV_X11_asked rfl kl_L_65 ⟨rfl, rfl, Nat.le_of_ble_eq_true rfl, Nat.le_of_ble_eq_true rfl⟩ (Nat.le_of_ble_eq_true rfl) ⟨Nat.zero_le _, Nat.zero_le _⟩ rfl rfl rfl dL_hours_308 rfl ?_
        refine l_bipush cx (pc2 := 313) ⟨by decide, by decide⟩ dL_hours_311 rfl ?_
        refine l_iload cx (pc2 := 315) 6 rfl dL_hours_313 rfl ?_
        refine l_iadd cx (pc2 := 316) dL_hours_315 rfl ?_
        refine l_icmp_eq cx (pc2 := 319) (tgt := 321) ⟨(by first | assumption | omega | exact ⟨by omega, by omega⟩), (by first | assumption | omega | exact ⟨by omega, by omega⟩)⟩ dL_hours_316 (by decide) rfl (fun h_5 => ?_) (fun h_5 => ?_)
        · skip
          refine l_iinc cx (pc2 := 324) 6 rfl (lv2 := [(0, .ref (P.2.1 0)), (1, .ref b), (2, .int (iI nh)), (3, .int (iI sum)), (4, .long (lI (digV M0))), (6, .int (iI many)), (7, .int (iI (k + (-1))))]) rfl (Nat.le_of_ble_eq_true rfl) dL_hours_321 rfl ?_
          refine l_goto cx (tgt := 291) dL_hours_324 (by decide) ?_
          exact ih _ (by omega) _ (k + -1) (by omega) (by rw [show (k + -1 + 1).toNat = k.toNat by omega]; exact ht.2) (Nat.le_refl _)
        · skip
          omega
set_option maxHeartbeats 4000000 in
set_option maxRecDepth 100000 in
theorem hours_K {P : Pl} {b L : Nat} {xs : Nat → Int32} {n : Nat} (hn : NN n) {M0 : Mm} (hci : CI M0) (hz : LZ M0) {R : va_W} (nh : Int) (hnh : 1 ≤ nh ∧ nh ≤ 5) (h23 : M0 23 3 = nh) (sum many : Int) {Mb : Mm} (hb : EqM M0 Mb) (hu : Mb 63 6 = 0 ∧ (∀ x : Nat, x < 8 → Mb 64 x = 0) ∧ ∀ x : Nat, x < 64 → Mb 65 x = 0) {X : Yq} (cx : Yx X cL_hours RL ({ frames := 6, cells := 0, slots := 0, locals := 138 } : Room) 15 P) (ys : Ys X P) (sx : Sy X b L xs) (qx : Yr X (wld P n M0 ++ R) 0 0 (qT P n R (HoR M0)) (some .boolean)) : ∀ (fu : Nat) (M : Mm) (k : Int), (0 ≤ k ∧ k ≤ 6) → (PK Mb M nh k.toNat) → ((6 - k).toNat) ≤ fu → YG X 253 [(0, .ref (P.2.1 0)), (1, .ref b), (2, .int (iI nh)), (3, .int (iI sum)), (4, .long (lI (digV M0))), (6, .int (iI many)), (7, .int (iI k))] [] (wld P n M ++ R) 0 0 := by
  intro fu
  induction fu using Nat.strongRecOn with
  | _ fu ih =>
    intro M k hk hp hfu
    have hb23 : M 23 3 = nh := by rw [hp.2.2 23 (by decide) (by decide), hb 23 (by decide) (by decide)]; exact h23
    refine l_iload cx (pc2 := 255) 6 rfl dL_hours_253 rfl ?_
    refine l_bipush cx (pc2 := 257) ⟨by decide, by decide⟩ dL_hours_255 rfl ?_
    refine l_icmp_ge cx (pc2 := 260) (tgt := 288) ⟨(by first | assumption | omega | exact ⟨by omega, by omega⟩), ⟨by decide, by decide⟩⟩ dL_hours_257 (by decide) rfl (fun h_1 => ?_) (fun h_1 => ?_)
    · skip
      refine l_iconst cx (pc2 := 289) dL_hours_288 rfl ?_
      refine l_istore cx (pc2 := 291) (lv2 := [(0, .ref (P.2.1 0)), (1, .ref b), (2, .int (iI nh)), (3, .int (iI sum)), (4, .long (lI (digV M0))), (6, .int (iI many)), (7, .int (iI 5))]) rfl (Nat.le_of_ble_eq_true rfl) dL_hours_289 rfl ?_
      have hk6 : k = 6 := by omega
      subst hk6
      exact hours_F hn hci hz nh hnh h23 sum many hb hu cx ys sx qx _ _ 5 (by omega) hp (Nat.le_refl _)
    · skip
      refine l_aload_n cx (pc2 := 261) 0 rfl dL_hours_260 rfl ?_
      refine l_iload cx (pc2 := 263) 6 rfl dL_hours_261 rfl ?_
      refine l_iload_n cx (pc2 := 264) 2 rfl dL_hours_263 rfl ?_
      refine l_irem cx (pc2 := 265) (by exact ⟨⟨by omega, by omega⟩, ⟨by omega, by omega⟩, by omega, Or.inr (by omega)⟩) dL_hours_264 rfl ?_
      refine l_rwi (y := iI (k % nh)) (by rw [trem (by omega)]) ?_
      refine l_bipush cx (pc2 := 267) ⟨by decide, by decide⟩ dL_hours_265 rfl ?_
      refine l_iload cx (pc2 := 269) 6 rfl dL_hours_267 rfl ?_
      refine l_iadd cx (pc2 := 270) dL_hours_269 rfl ?_
      refine l_ctI cx (pc2 := 273) (st := []) ys hn (M := M) (As := [.int (iI (k % nh)), .int (iI (10 + k))]) (c_pockL (M := M) hn (k := k) (by omega) hp hnh hb23 (by omega)) wM_X11_pocket wV_X11_pocket rfl kl_L_163 ⟨rfl, rfl, Nat.le_of_ble_eq_true rfl, Nat.le_of_ble_eq_true rfl⟩ (Nat.le_of_ble_eq_true rfl) ⟨Nat.zero_le _, Nat.zero_le _⟩ rfl rfl rfl dL_hours_270 rfl ?_
      refine l_iload cx (pc2 := 275) 6 rfl dL_hours_273 rfl ?_
      refine l_iconst cx (pc2 := 276) dL_hours_275 rfl ?_
      refine l_iadd cx (pc2 := 277) dL_hours_276 rfl ?_
      refine l_icmp_eq cx (pc2 := 280) (tgt := 282) ⟨(by first | assumption | omega | exact ⟨by omega, by omega⟩), (by first | assumption | omega | exact ⟨by omega, by omega⟩)⟩ dL_hours_277 (by decide) rfl (fun h_2 => ?_) (fun h_2 => ?_)
      · skip
        refine l_iinc cx (pc2 := 285) 6 rfl (lv2 := [(0, .ref (P.2.1 0)), (1, .ref b), (2, .int (iI nh)), (3, .int (iI sum)), (4, .long (lI (digV M0))), (6, .int (iI many)), (7, .int (iI (k + 1)))]) rfl (Nat.le_of_ble_eq_true rfl) dL_hours_282 rfl ?_
        refine l_goto cx (tgt := 253) dL_hours_285 (by decide) ?_
        exact ih _ (by omega) _ (k + 1) (by omega) (PK_s (by omega) hp hnh hb23 (by omega)) (Nat.le_refl _)
      · skip
        contradiction
set_option maxHeartbeats 4000000 in
set_option maxRecDepth 100000 in
theorem hours_E {P : Pl} {b L : Nat} {xs : Nat → Int32} {n : Nat} (hn : NN n) {M0 : Mm} (hci : CI M0) (hz : LZ M0) {R : va_W} (nh : Int) (hnh : 1 ≤ nh ∧ nh ≤ 5) (h23 : M0 23 3 = nh) {X : Yq} (cx : Yx X cL_hours RL ({ frames := 6, cells := 0, slots := 0, locals := 138 } : Room) 15 P) (ys : Ys X P) (sx : Sy X b L xs) (qx : Yr X (wld P n M0 ++ R) 0 0 (qT P n R (HoR M0)) (some .boolean)) {M : Mm} {many sum : Int} (hL : LI M0 M nh many sum 12) : YG X 214 [(0, .ref (P.2.1 0)), (1, .ref b), (2, .int (iI nh)), (3, .int (iI sum)), (4, .long (lI (digV M0))), (6, .int (iI many)), (7, .int (iI 12))] [] (wld P n M ++ R) 0 0 := by
  have hmb := hL.1
  have hU := hL.undo (by omega)
  have hb23 : M 23 3 = nh := by rw [hL.2.2.2.2.2.2.2 23 (by decide) (by decide)]; exact h23
  have hU23 : undM M 0 23 3 = nh := by rw [hU.2.2.2 23 (by decide) (by decide)]; exact h23
  have hTo : ∀ a, a ≠ 0 → tdM (undM M 0) 0 a = undM M 0 a := fun a ha => by unfold tdM; exact stM_off ha
  refine l_aload_n cx (pc2 := 215) 0 rfl dL_hours_214 rfl ?_
  refine l_iconst cx (pc2 := 216) dL_hours_215 rfl ?_
  refine l_ctI cx (pc2 := 219) (st := []) ys hn (M := M) (As := [.int (iI 0)]) (c_undoL (M := M) hn hL (by omega)) wM_X11_undo wV_X11_undo rfl kl_L_157 ⟨rfl, rfl, Nat.le_of_ble_eq_true rfl, Nat.le_of_ble_eq_true rfl⟩ (Nat.le_of_ble_eq_true rfl) ⟨Nat.zero_le _, Nat.zero_le _⟩ rfl rfl rfl dL_hours_216 rfl ?_
  refine l_iload cx (pc2 := 221) 5 rfl dL_hours_219 rfl ?_
  refine l_icmp_ne cx (pc2 := 224) (tgt := 248) ⟨(by first | assumption | omega | exact ⟨by omega, by omega⟩), (by first | assumption | omega | exact ⟨by omega, by omega⟩)⟩ dL_hours_221 (by decide) rfl (fun h_1 => ?_) (fun h_1 => ?_)
  · skip
    contradiction
  · skip
    refine l_aload_n cx (pc2 := 225) 0 rfl dL_hours_224 rfl ?_
    refine l_ctL cx (pc2 := 228) (st := []) ys hn (M := (undM M 0)) (As := []) (c_X11_digest (M := (undM M 0)) hn hU.2.2.1) wM_X11_digest wV_X11_digest rfl kl_L_144 ⟨rfl, rfl, Nat.le_of_ble_eq_true rfl, Nat.le_of_ble_eq_true rfl⟩ (Nat.le_of_ble_eq_true rfl) ⟨Nat.zero_le _, Nat.zero_le _⟩ rfl rfl rfl dL_hours_225 rfl ?_
    refine l_lload cx (pc2 := 230) 4 rfl dL_hours_228 rfl ?_
    refine l_lcmpE cx (pc2 := 231) (by exact congrArg lI (dig_eq hci (fun a h1 h2 => hU.2.2.2 a (by omega) (by omega)) (by rw [hU.2.1.1, hz.1]) (fun x hx => by rw [hU.2.1.2.1 x hx, hz.2.1 x hx]) (fun x hx => by rw [hU.2.1.2.2 x hx, hz.2.2.1 x hx]) ⟨hz.2.2.2.1, by rw [hU.2.2.2 70 (by decide) (by decide)]; exact hz.2.2.2.1⟩ ⟨hz.2.2.2.2, by rw [hU.2.2.2 73 (by decide) (by decide)]; exact hz.2.2.2.2⟩)) dL_hours_230 rfl ?_
    refine l_if_ne cx (pc2 := 234) (tgt := 248) ⟨by decide, by decide⟩ dL_hours_231 (by decide) rfl (fun h_2 => ?_) (fun h_2 => ?_)
    · skip
      omega
    · skip
      refine l_aload_n cx (pc2 := 235) 0 rfl dL_hours_234 rfl ?_
      refine l_ctI cx (pc2 := 238) (st := []) ys hn (M := (undM M 0)) (As := []) (c_richL (M := (undM M 0)) hn hU.2.2.1 (by omega) hU.2.1.2.2) wM_X11_rich wV_X11_rich rfl kl_L_160 ⟨rfl, rfl, Nat.le_of_ble_eq_true rfl, Nat.le_of_ble_eq_true rfl⟩ (Nat.le_of_ble_eq_true rfl) ⟨Nat.zero_le _, Nat.zero_le _⟩ rfl rfl rfl dL_hours_235 rfl ?_
      refine l_if_ne cx (pc2 := 241) (tgt := 248) ⟨by decide, by decide⟩ dL_hours_238 (by decide) rfl (fun h_3 => ?_) (fun h_3 => ?_)
      · skip
        omega
      · skip
        refine l_aload_n cx (pc2 := 242) 0 rfl dL_hours_241 rfl ?_
        refine l_ctI cx (pc2 := 245) (st := []) ys hn (M := (tdM (undM M 0) 0)) (As := []) (c_askT (M := (tdM (undM M 0) 0)) hn rfl) wM_X11_asked wV_X11_asked rfl kl_L_65 ⟨rfl, rfl, Nat.le_of_ble_eq_true rfl, Nat.le_of_ble_eq_true rfl⟩ (Nat.le_of_ble_eq_true rfl) ⟨Nat.zero_le _, Nat.zero_le _⟩ rfl rfl rfl dL_hours_242 rfl ?_
        refine l_if_eq cx (pc2 := 248) (tgt := 250) ⟨by decide, by decide⟩ dL_hours_245 (by decide) rfl (fun h_4 => ?_) (fun h_4 => ?_)
        · skip
          refine l_iconst cx (pc2 := 251) dL_hours_250 rfl ?_
          refine l_istore cx (pc2 := 253) (lv2 := [(0, .ref (P.2.1 0)), (1, .ref b), (2, .int (iI nh)), (3, .int (iI sum)), (4, .long (lI (digV M0))), (6, .int (iI many)), (7, .int (iI 0))]) rfl (Nat.le_of_ble_eq_true rfl) dL_hours_251 rfl ?_
          refine hours_K hn hci hz nh hnh h23 sum many (Mb := tdM (undM M 0) 0) (fun a h1 h2 => by rw [hTo a h1]; exact hU.2.2.2 a h1 h2) ?_ cx ys sx qx _ _ 0 (by omega) ?_ (Nat.le_refl _)
          · rw [hTo 63 (by decide), hTo 64 (by decide), hTo 65 (by decide)]
            exact hU.2.1
          · refine ⟨⟨?_, fun j hj => absurd hj (Nat.not_lt_zero _)⟩, hU.2.2.1.td 0, fun _ _ _ => rfl⟩
            rw [hTo 70 (by decide), hU.2.2.2 70 (by decide) (by decide)]
            exact hz.2.2.2.1
        · skip
          omega
set_option maxHeartbeats 4000000 in
set_option maxRecDepth 100000 in
theorem hours_O {P : Pl} {b L : Nat} {xs : Nat → Int32} {n : Nat} (hn : NN n) {M0 : Mm} (hci : CI M0) (hz : LZ M0) {R : va_W} (nh : Int) (hnh : 1 ≤ nh ∧ nh ≤ 5) (h23 : M0 23 3 = nh) {sum many st al h : Int} (hst : 0 ≤ st ∧ st < 12) (hh : 0 ≤ h ∧ h < nh) {M : Mm} (hL : LI M0 M nh many sum (st + 1)) {X : Yq} (cx : Yx X cL_hours RL ({ frames := 6, cells := 0, slots := 0, locals := 138 } : Room) 15 P) (ys : Ys X P) (sx : Sy X b L xs) (qx : Yr X (wld P n M0 ++ R) 0 0 (qT P n R (HoR M0)) (some .boolean)) (kx : YG X 194 [(0, .ref (P.2.1 0)), (1, .ref b), (2, .int (iI nh)), (3, .int (iI sum)), (4, .long (lI (digV M0))), (6, .int (iI many)), (7, .int (iI st)), (12, .int (iI al)), (13, .int (iI h))] [] (wld P n M ++ R) 0 0) : ∀ (fu : Nat) (k : Int), (0 ≤ k ∧ k ≤ nh) → ((nh - k).toNat) ≤ fu → YG X 162 [(0, .ref (P.2.1 0)), (1, .ref b), (2, .int (iI nh)), (3, .int (iI sum)), (4, .long (lI (digV M0))), (6, .int (iI many)), (7, .int (iI st)), (12, .int (iI al)), (13, .int (iI h)), (14, .int (iI k))] [] (wld P n M ++ R) 0 0 := by
  intro fu
  induction fu using Nat.strongRecOn with
  | _ fu ih =>
    intro k hk hfu
    have hb23 : M 23 3 = nh := by rw [hL.2.2.2.2.2.2.2 23 (by decide) (by decide)]; exact h23
    refine l_iload cx (pc2 := 164) 9 rfl dL_hours_162 rfl ?_
    refine l_iload_n cx (pc2 := 165) 2 rfl dL_hours_164 rfl ?_
    refine l_icmp_ge cx (pc2 := 168) (tgt := 194) ⟨(by first | assumption | omega | exact ⟨by omega, by omega⟩), (by first | assumption | omega | exact ⟨by omega, by omega⟩)⟩ dL_hours_165 (by decide) rfl (fun h_1 => ?_) (fun h_1 => ?_)
    · skip
      refine l_sub (lv2 := [(0, .ref (P.2.1 0)), (1, .ref b), (2, .int (iI nh)), (3, .int (iI sum)), (4, .long (lI (digV M0))), (6, .int (iI many)), (7, .int (iI st)), (12, .int (iI al)), (13, .int (iI h))]) [0, 1, 2, 3, 4, 5, 6, 7, 8] rfl ?_
      exact kx
    · skip
      refine l_iload cx (pc2 := 170) 8 rfl dL_hours_168 rfl ?_
      refine l_iload cx (pc2 := 172) 9 rfl dL_hours_170 rfl ?_
      refine l_icmp_eq cx (pc2 := 175) (tgt := 188) ⟨(by first | assumption | omega | exact ⟨by omega, by omega⟩), (by first | assumption | omega | exact ⟨by omega, by omega⟩)⟩ dL_hours_172 (by decide) rfl (fun h_2 => ?_) (fun h_2 => ?_)
      · skip
        refine l_iinc cx (pc2 := 191) 9 rfl (lv2 := [(0, .ref (P.2.1 0)), (1, .ref b), (2, .int (iI nh)), (3, .int (iI sum)), (4, .long (lI (digV M0))), (6, .int (iI many)), (7, .int (iI st)), (12, .int (iI al)), (13, .int (iI h)), (14, .int (iI (k + 1)))]) rfl (Nat.le_of_ble_eq_true rfl) dL_hours_188 rfl ?_
        refine l_goto cx (tgt := 162) dL_hours_191 (by decide) ?_
        exact ih _ (by omega) (k + 1) (by omega) (Nat.le_refl _)
      · skip
        refine l_aload_n cx (pc2 := 176) 0 rfl dL_hours_175 rfl ?_
        refine l_iload cx (pc2 := 178) 8 rfl dL_hours_176 rfl ?_
        refine l_iload cx (pc2 := 180) 9 rfl dL_hours_178 rfl ?_
        refine l_ctI cx (pc2 := 183) (st := []) ys hn (M := M) (As := [.int (iI h), .int (iI k)]) (c_owesL (M := M) hn hL.2.2.2.2.2.2.1 h k (by show 0 ≤ h ∧ h < M 23 3; omega) (by show 0 ≤ k ∧ k < M 23 3; omega) (by assumption) (by exact ⟨by omega, by omega⟩) (by exact ⟨by omega, by omega⟩)) wM_X11_owes wV_X11_owes rfl kl_L_154 ⟨rfl, rfl, Nat.le_of_ble_eq_true rfl, Nat.le_of_ble_eq_true rfl⟩ (Nat.le_of_ble_eq_true rfl) ⟨Nat.zero_le _, Nat.zero_le _⟩ rfl rfl rfl dL_hours_180 rfl ?_
        have h65 := hL.2.2.2.2.1 (h * 8 + k).toNat (by omega)
        refine l_if_ge cx (pc2 := 186) (tgt := 188) (by first | assumption | omega | exact ⟨by omega, by omega⟩) dL_hours_183 (by decide) rfl (fun h_3 => ?_) (fun h_3 => ?_)
        · skip
          refine l_iinc cx (pc2 := 191) 9 rfl (lv2 := [(0, .ref (P.2.1 0)), (1, .ref b), (2, .int (iI nh)), (3, .int (iI sum)), (4, .long (lI (digV M0))), (6, .int (iI many)), (7, .int (iI st)), (12, .int (iI al)), (13, .int (iI h)), (14, .int (iI (k + 1)))]) rfl (Nat.le_of_ble_eq_true rfl) dL_hours_188 rfl ?_
          refine l_goto cx (tgt := 162) dL_hours_191 (by decide) ?_
          exact ih _ (by omega) (k + 1) (by omega) (Nat.le_refl _)
        · skip
          omega
set_option maxHeartbeats 4000000 in
set_option maxRecDepth 100000 in
theorem hours_H {P : Pl} {b L : Nat} {xs : Nat → Int32} {n : Nat} (hn : NN n) {M0 : Mm} (hci : CI M0) (hz : LZ M0) {R : va_W} (nh : Int) (hnh : 1 ≤ nh ∧ nh ≤ 5) (h23 : M0 23 3 = nh) {sum many st : Int} (hst : 0 ≤ st ∧ st < 12) {X : Yq} (cx : Yx X cL_hours RL ({ frames := 6, cells := 0, slots := 0, locals := 138 } : Room) 15 P) (ys : Ys X P) (sx : Sy X b L xs) (qx : Yr X (wld P n M0 ++ R) 0 0 (qT P n R (HoR M0)) (some .boolean)) (kx : ∀ M : Mm, LI M0 M nh many sum (st + 1) → YG X 14 [(0, .ref (P.2.1 0)), (1, .ref b), (2, .int (iI nh)), (3, .int (iI sum)), (4, .long (lI (digV M0))), (6, .int (iI many)), (7, .int (iI (st + 1)))] [] (wld P n M ++ R) 0 0) : ∀ (fu : Nat) (M : Mm) (h : Int) (al : Int), (LI M0 M nh many sum (st + 1)) → (al = smZ (M 64) h.toNat) → (0 ≤ h ∧ h ≤ nh) → ((nh - h).toNat) ≤ fu → YG X 129 [(0, .ref (P.2.1 0)), (1, .ref b), (2, .int (iI nh)), (3, .int (iI sum)), (4, .long (lI (digV M0))), (6, .int (iI many)), (7, .int (iI st)), (12, .int (iI al)), (13, .int (iI h))] [] (wld P n M ++ R) 0 0 := by
  intro fu
  induction fu using Nat.strongRecOn with
  | _ fu ih =>
    intro M h al hL hal hh hfu
    have hb23 : M 23 3 = nh := by rw [hL.2.2.2.2.2.2.2 23 (by decide) (by decide)]; exact h23
    have hsb := hL.2.1
    have hmm := smZ_mem hL.2.2.2.1
    have hpl := plc_p hL.2.2.2.2.2.2.1 h
    refine l_iload cx (pc2 := 131) 8 rfl dL_hours_129 rfl ?_
    refine l_iload_n cx (pc2 := 132) 2 rfl dL_hours_131 rfl ?_
    refine l_icmp_ge cx (pc2 := 135) (tgt := 200) ⟨(by first | assumption | omega | exact ⟨by omega, by omega⟩), (by first | assumption | omega | exact ⟨by omega, by omega⟩)⟩ dL_hours_132 (by decide) rfl (fun h_1 => ?_) (fun h_1 => ?_)
    · skip
      have he : al = sum := by rw [hal, ← hL.2.2.1, show h.toNat = nh.toNat by omega]
      refine l_iload cx (pc2 := 202) 7 rfl dL_hours_200 rfl ?_
      refine l_iload_n cx (pc2 := 203) 3 rfl dL_hours_202 rfl ?_
      refine l_icmp_eq cx (pc2 := 206) (tgt := 208) ⟨(by exact ⟨by omega, by omega⟩), (by exact ⟨by omega, by omega⟩)⟩ dL_hours_203 (by decide) rfl (fun h_2 => ?_) (fun h_2 => ?_)
      · skip
        refine l_iinc cx (pc2 := 211) 6 rfl (lv2 := [(0, .ref (P.2.1 0)), (1, .ref b), (2, .int (iI nh)), (3, .int (iI sum)), (4, .long (lI (digV M0))), (6, .int (iI many)), (7, .int (iI (st + 1))), (12, .int (iI al)), (13, .int (iI h))]) rfl (Nat.le_of_ble_eq_true rfl) dL_hours_208 rfl ?_
        refine l_goto cx (tgt := 14) dL_hours_211 (by decide) ?_
        refine l_sub (lv2 := [(0, .ref (P.2.1 0)), (1, .ref b), (2, .int (iI nh)), (3, .int (iI sum)), (4, .long (lI (digV M0))), (6, .int (iI many)), (7, .int (iI (st + 1)))]) [0, 1, 2, 3, 4, 5, 6] rfl ?_
        exact kx M hL
      · skip
        omega
    · skip
      refine l_iload cx (pc2 := 137) 7 rfl dL_hours_135 rfl ?_
      refine l_aload_n cx (pc2 := 138) 0 rfl dL_hours_137 rfl ?_
      refine l_iload cx (pc2 := 140) 8 rfl dL_hours_138 rfl ?_
      refine l_ctI cx (pc2 := 143) (st := [.int (iI al)]) ys hn (M := M) (As := [.int (iI h)]) (c_houseL (M := M) hn hL.2.2.2.2.2.2.1 h (by show 0 ≤ h ∧ h < M 23 3; omega) (by exact ⟨by omega, by omega⟩)) wM_X11_house wV_X11_house rfl kl_L_151 ⟨rfl, rfl, Nat.le_of_ble_eq_true rfl, Nat.le_of_ble_eq_true rfl⟩ (Nat.le_of_ble_eq_true rfl) ⟨Nat.zero_le _, Nat.zero_le _⟩ rfl rfl rfl dL_hours_140 rfl ?_
      refine l_if_ge cx (pc2 := 146) (tgt := 152) (by first | assumption | omega | exact ⟨by omega, by omega⟩) dL_hours_143 (by decide) rfl (fun h_3 => ?_) (fun h_3 => ?_)
      · skip
        refine l_aload_n cx (pc2 := 153) 0 rfl dL_hours_152 rfl ?_
        refine l_ctI cx (pc2 := 156) (st := [.int (iI al)]) ys hn (M := (tdM M (M 64 h.toNat))) (As := []) (c_askT (M := (tdM M (M 64 h.toNat))) hn rfl) wM_X11_asked wV_X11_asked rfl kl_L_65 ⟨rfl, rfl, Nat.le_of_ble_eq_true rfl, Nat.le_of_ble_eq_true rfl⟩ (Nat.le_of_ble_eq_true rfl) ⟨Nat.zero_le _, Nat.zero_le _⟩ rfl rfl rfl dL_hours_153 rfl ?_
        refine l_iadd cx (pc2 := 157) dL_hours_156 rfl ?_
        refine l_istore cx (pc2 := 159) (lv2 := [(0, .ref (P.2.1 0)), (1, .ref b), (2, .int (iI nh)), (3, .int (iI sum)), (4, .long (lI (digV M0))), (6, .int (iI many)), (7, .int (iI st)), (12, .int (iI (al + (M 64 h.toNat)))), (13, .int (iI h))]) rfl (Nat.le_of_ble_eq_true rfl) dL_hours_157 rfl ?_
        refine l_iconst cx (pc2 := 160) dL_hours_159 rfl ?_
        refine l_istore cx (pc2 := 162) (lv2 := [(0, .ref (P.2.1 0)), (1, .ref b), (2, .int (iI nh)), (3, .int (iI sum)), (4, .long (lI (digV M0))), (6, .int (iI many)), (7, .int (iI st)), (12, .int (iI (al + (M 64 h.toNat)))), (13, .int (iI h)), (14, .int (iI 0))]) rfl (Nat.le_of_ble_eq_true rfl) dL_hours_160 rfl ?_
        refine hours_O hn hci hz nh hnh h23 hst (by omega) (hL.td _) cx ys sx qx ?_ _ 0 (by omega) (Nat.le_refl _)
        refine l_iinc cx (pc2 := 197) 8 rfl (lv2 := [(0, .ref (P.2.1 0)), (1, .ref b), (2, .int (iI nh)), (3, .int (iI sum)), (4, .long (lI (digV M0))), (6, .int (iI many)), (7, .int (iI st)), (12, .int (iI (al + M 64 h.toNat))), (13, .int (iI (h + 1)))]) rfl (Nat.le_of_ble_eq_true rfl) dL_hours_194 rfl ?_
        refine l_goto cx (tgt := 129) dL_hours_197 (by decide) ?_
        exact ih _ (by omega) _ (h + 1) _ (hL.td _) (by rw [show (h + 1).toNat = h.toNat + 1 by omega, smZ, show tdM M (M 64 h.toNat) 64 = M 64 from stM_off (by decide)]; omega) (by omega) (Nat.le_refl _)
      · skip
        omega
set_option maxHeartbeats 4000000 in
set_option maxRecDepth 100000 in
theorem hours_D {P : Pl} {b L : Nat} {xs : Nat → Int32} {n : Nat} (hn : NN n) {M0 : Mm} (hci : CI M0) (hz : LZ M0) {R : va_W} (nh : Int) (hnh : 1 ≤ nh ∧ nh ≤ 5) (h23 : M0 23 3 = nh) {X : Yq} (cx : Yx X cL_hours RL ({ frames := 6, cells := 0, slots := 0, locals := 138 } : Room) 15 P) (ys : Ys X P) (sx : Sy X b L xs) (qx : Yr X (wld P n M0 ++ R) 0 0 (qT P n R (HoR M0)) (some .boolean)) : ∀ (fu : Nat) (M : Mm) (many : Int) (sum : Int) (st : Int), (LI M0 M nh many sum st) → (0 ≤ st ∧ st ≤ 12) → ((12 - st).toNat) ≤ fu → YG X 14 [(0, .ref (P.2.1 0)), (1, .ref b), (2, .int (iI nh)), (3, .int (iI sum)), (4, .long (lI (digV M0))), (6, .int (iI many)), (7, .int (iI st))] [] (wld P n M ++ R) 0 0 := by
  intro fu
  induction fu using Nat.strongRecOn with
  | _ fu ih =>
    intro M many sum st hL hst hfu
    have hb23 : M 23 3 = nh := by rw [hL.2.2.2.2.2.2.2 23 (by decide) (by decide)]; exact h23
    refine l_iload cx (pc2 := 16) 6 rfl dL_hours_14 rfl ?_
    refine l_bipush cx (pc2 := 18) ⟨by decide, by decide⟩ dL_hours_16 rfl ?_
    refine l_icmp_ge cx (pc2 := 21) (tgt := 214) ⟨(by first | assumption | omega | exact ⟨by omega, by omega⟩), ⟨by decide, by decide⟩⟩ dL_hours_18 (by decide) rfl (fun h_1 => ?_) (fun h_1 => ?_)
    · skip
      have h12 : st = 12 := by omega
      subst h12
      exact hours_E hn hci hz nh hnh h23 cx ys sx qx hL
    · skip
      refine l_aload_n cx (pc2 := 22) 1 rfl dL_hours_21 rfl ?_
      refine l_bipush cx (pc2 := 24) ⟨by decide, by decide⟩ dL_hours_22 rfl ?_
      refine l_iload cx (pc2 := 26) 6 rfl dL_hours_24 rfl ?_
      refine l_iadd cx (pc2 := 27) dL_hours_26 rfl ?_
      refine l_clI cx (pc2 := 30) (st := []) ys sx (As := [.ref b, .int (iI (60 + st))]) (c_L_cell (60 + st) (by omega)) wM_L_cell wS_L_cell kl_L_19 ⟨rfl, rfl, Nat.le_of_ble_eq_true rfl, Nat.le_of_ble_eq_true rfl⟩ (Nat.le_of_ble_eq_true rfl) ⟨Nat.zero_le _, Nat.zero_le _⟩ rfl rfl dL_hours_27 rfl ?_
      obtain ⟨x, hx⟩ : ∃ x, x = ceV L xs (60 + st) := ⟨_, rfl⟩
      have hxb : 0 ≤ x ∧ x ≤ 268435455 := by rw [hx]; exact ceV_b (by omega)
      have m1 := Int.emod_nonneg (x / 8) (show nh ≠ 0 by omega)
      have m2 := Int.emod_lt_of_pos (x / 8) (show 0 < nh by omega)
      have m3 := Int.emod_nonneg (x / 64) (show nh ≠ 0 by omega)
      have m4 := Int.emod_lt_of_pos (x / 64) (show 0 < nh by omega)
      refine l_rwi (y := iI x) (by rw [hx]) ?_
      refine l_istore cx (pc2 := 32) (lv2 := [(0, .ref (P.2.1 0)), (1, .ref b), (2, .int (iI nh)), (3, .int (iI sum)), (4, .long (lI (digV M0))), (6, .int (iI many)), (7, .int (iI st)), (8, .int (iI x))]) rfl (Nat.le_of_ble_eq_true rfl) dL_hours_30 rfl ?_
      refine l_iload cx (pc2 := 34) 7 rfl dL_hours_32 rfl ?_
      refine l_iconst cx (pc2 := 35) dL_hours_34 rfl ?_
      refine l_irem cx (pc2 := 36) (by exact ⟨⟨by omega, by omega⟩, ⟨by omega, by omega⟩, by omega, Or.inr (by omega)⟩) dL_hours_35 rfl ?_
      refine l_rwi (y := iI (x % 5)) (by rw [trem (by omega)]) ?_
      refine l_istore cx (pc2 := 38) (lv2 := [(0, .ref (P.2.1 0)), (1, .ref b), (2, .int (iI nh)), (3, .int (iI sum)), (4, .long (lI (digV M0))), (6, .int (iI many)), (7, .int (iI st)), (8, .int (iI x)), (9, .int (iI (x % 5)))]) rfl (Nat.le_of_ble_eq_true rfl) dL_hours_36 rfl ?_
      refine l_iconst cx (pc2 := 39) dL_hours_38 rfl ?_
      refine l_iload cx (pc2 := 41) 7 rfl dL_hours_39 rfl ?_
      refine l_sipush cx (pc2 := 44) ⟨by decide, by decide⟩ dL_hours_41 rfl ?_
      refine l_idiv cx (pc2 := 45) (by exact ⟨⟨by omega, by omega⟩, ⟨by omega, by omega⟩, by omega, Or.inr (by omega)⟩) dL_hours_44 rfl ?_
      refine l_rwi (y := iI (x / 512)) (by rw [tdv (by omega)]) ?_
      refine l_bipush cx (pc2 := 47) ⟨by decide, by decide⟩ dL_hours_45 rfl ?_
      refine l_irem cx (pc2 := 48) (by exact ⟨⟨by omega, by omega⟩, ⟨by omega, by omega⟩, by omega, Or.inr (by omega)⟩) dL_hours_47 rfl ?_
      refine l_rwi (y := iI (x / 512 % 40)) (by rw [trem (by omega)]) ?_
      refine l_iadd cx (pc2 := 49) dL_hours_48 rfl ?_
      refine l_istore cx (pc2 := 51) (lv2 := [(0, .ref (P.2.1 0)), (1, .ref b), (2, .int (iI nh)), (3, .int (iI sum)), (4, .long (lI (digV M0))), (6, .int (iI many)), (7, .int (iI st)), (8, .int (iI x)), (9, .int (iI (x % 5))), (10, .int (iI (1 + (x / 512 % 40))))]) rfl (Nat.le_of_ble_eq_true rfl) dL_hours_49 rfl ?_
      refine l_aload_n cx (pc2 := 52) 0 rfl dL_hours_51 rfl ?_
      refine l_iload cx (pc2 := 54) 8 rfl dL_hours_52 rfl ?_
      refine l_iload cx (pc2 := 56) 7 rfl dL_hours_54 rfl ?_
      refine l_bipush cx (pc2 := 58) ⟨by decide, by decide⟩ dL_hours_56 rfl ?_
      refine l_idiv cx (pc2 := 59) (by exact ⟨⟨by omega, by omega⟩, ⟨by omega, by omega⟩, by omega, Or.inr (by omega)⟩) dL_hours_58 rfl ?_
      refine l_rwi (y := iI (x / 8)) (by rw [tdv (by omega)]) ?_
      refine l_iload_n cx (pc2 := 60) 2 rfl dL_hours_59 rfl ?_
      refine l_irem cx (pc2 := 61) (by exact ⟨⟨by omega, by omega⟩, ⟨by omega, by omega⟩, by omega, Or.inr (by omega)⟩) dL_hours_60 rfl ?_
      refine l_rwi (y := iI (x / 8 % nh)) (by rw [trem (by omega)]) ?_
      refine l_iload cx (pc2 := 63) 7 rfl dL_hours_61 rfl ?_
      refine l_bipush cx (pc2 := 65) ⟨by decide, by decide⟩ dL_hours_63 rfl ?_
      refine l_idiv cx (pc2 := 66) (by exact ⟨⟨by omega, by omega⟩, ⟨by omega, by omega⟩, by omega, Or.inr (by omega)⟩) dL_hours_65 rfl ?_
      refine l_rwi (y := iI (x / 64)) (by rw [tdv (by omega)]) ?_
      refine l_iload_n cx (pc2 := 67) 2 rfl dL_hours_66 rfl ?_
      refine l_irem cx (pc2 := 68) (by exact ⟨⟨by omega, by omega⟩, ⟨by omega, by omega⟩, by omega, Or.inr (by omega)⟩) dL_hours_67 rfl ?_
      refine l_rwi (y := iI (x / 64 % nh)) (by rw [trem (by omega)]) ?_
      refine l_iload cx (pc2 := 70) 9 rfl dL_hours_68 rfl ?_
      refine l_ctI cx (pc2 := 73) (st := []) ys hn (M := M) (As := [.int (iI (x % 5)), .int (iI (x / 8 % nh)), .int (iI (x / 64 % nh)), .int (iI (1 + (x / 512 % 40)))]) (c_X11_deal (M := M) hn hL.2.2.2.2.2.2.1 (x % 5) (x / 8 % nh) (x / 64 % nh) (1 + x / 512 % 40) (by exact ⟨by omega, by omega⟩) (by exact ⟨by omega, by omega⟩) (by exact ⟨by omega, by omega⟩) (by exact ⟨by omega, by omega⟩)) wM_X11_deal wV_X11_deal rfl kl_L_147 ⟨rfl, rfl, Nat.le_of_ble_eq_true rfl, Nat.le_of_ble_eq_true rfl⟩ (Nat.le_of_ble_eq_true rfl) ⟨Nat.zero_le _, Nat.zero_le _⟩ rfl rfl rfl dL_hours_70 rfl ?_
      have hD := hL.deal hnh hb23 (kd := x % 5) (h := x / 8 % nh) (k := x / 64 % nh) (q := 1 + x / 512 % 40) (by omega) (by omega) (by omega) (by omega) (by omega)
      have hmb := hL.1
      have hsb := hL.2.1
      generalize deaA M (x % 5) (x / 8 % nh) (x / 64 % nh) (1 + x / 512 % 40) = dz at hD ⊢
      generalize deaM M (x % 5) (x / 8 % nh) (x / 64 % nh) (1 + x / 512 % 40) = Md at hD ⊢
      refine l_istore cx (pc2 := 75) (lv2 := [(0, .ref (P.2.1 0)), (1, .ref b), (2, .int (iI nh)), (3, .int (iI sum)), (4, .long (lI (digV M0))), (6, .int (iI many)), (7, .int (iI st)), (8, .int (iI x)), (9, .int (iI (x % 5))), (10, .int (iI (1 + (x / 512 % 40)))), (11, .int (iI dz))]) rfl (Nat.le_of_ble_eq_true rfl) dL_hours_73 rfl ?_
      have J : ∀ {many sum : Int} (M2 : Mm), LI M0 M2 nh many sum (st + 1) → YG X 129 [(0, .ref (P.2.1 0)), (1, .ref b), (2, .int (iI nh)), (3, .int (iI sum)), (4, .long (lI (digV M0))), (6, .int (iI many)), (7, .int (iI st)), (12, .int (iI 0)), (13, .int (iI 0))] [] (wld P n M2 ++ R) 0 0 := fun {many sum} M2 h2 => hours_H hn hci hz nh hnh h23 ⟨by omega, by omega⟩ cx ys sx qx (fun M3 h3 => ih _ (by omega) M3 many sum (st + 1) h3 (by omega) (Nat.le_refl _)) _ M2 0 0 h2 rfl (by omega) (Nat.le_refl _)
      refine l_iload cx (pc2 := 77) 10 rfl dL_hours_75 rfl ?_
      refine l_if_lt cx (pc2 := 80) (tgt := 89) (by exact ⟨by omega, by omega⟩) dL_hours_77 (by decide) rfl (fun h_2 => ?_) (fun h_2 => ?_)
      · skip
        refine l_iload cx (pc2 := 91) 5 rfl dL_hours_89 rfl ?_
        refine l_iload cx (pc2 := 93) 10 rfl dL_hours_91 rfl ?_
        refine l_if_ge cx (pc2 := 96) (tgt := 100) (by first | assumption | omega | exact ⟨by omega, by omega⟩) dL_hours_93 (by decide) rfl (fun h_3 => ?_) (fun h_3 => ?_)
        · skip
          refine l_iconst cx (pc2 := 101) dL_hours_100 rfl ?_
          refine l_iadd cx (pc2 := 102) dL_hours_101 rfl ?_
          refine l_istore cx (pc2 := 104) (lv2 := [(0, .ref (P.2.1 0)), (1, .ref b), (2, .int (iI nh)), (3, .int (iI sum)), (4, .long (lI (digV M0))), (6, .int (iI (many + 1))), (7, .int (iI st)), (8, .int (iI x)), (9, .int (iI (x % 5))), (10, .int (iI (1 + (x / 512 % 40)))), (11, .int (iI dz))]) rfl (Nat.le_of_ble_eq_true rfl) dL_hours_102 rfl ?_
          refine l_iload_n cx (pc2 := 105) 3 rfl dL_hours_104 rfl ?_
          refine l_iload cx (pc2 := 107) 10 rfl dL_hours_105 rfl ?_
          refine l_if_lt cx (pc2 := 110) (tgt := 120) (by first | assumption | omega | exact ⟨by omega, by omega⟩) dL_hours_107 (by decide) rfl (fun h_4 => ?_) (fun h_4 => ?_)
          · skip
            refine l_iconst cx (pc2 := 121) dL_hours_120 rfl ?_
            refine l_iadd cx (pc2 := 122) dL_hours_121 rfl ?_
            refine l_istore_n cx (pc2 := 123) (lv2 := [(0, .ref (P.2.1 0)), (1, .ref b), (2, .int (iI nh)), (3, .int (iI (sum + 0))), (4, .long (lI (digV M0))), (6, .int (iI (many + 1))), (7, .int (iI st)), (8, .int (iI x)), (9, .int (iI (x % 5))), (10, .int (iI (1 + (x / 512 % 40)))), (11, .int (iI dz))]) rfl (Nat.le_of_ble_eq_true rfl) dL_hours_122 rfl ?_
            refine l_iconst cx (pc2 := 124) dL_hours_123 rfl ?_
            refine l_istore cx (pc2 := 126) (lv2 := [(0, .ref (P.2.1 0)), (1, .ref b), (2, .int (iI nh)), (3, .int (iI (sum + 0))), (4, .long (lI (digV M0))), (6, .int (iI (many + 1))), (7, .int (iI st)), (8, .int (iI x)), (9, .int (iI (x % 5))), (10, .int (iI (1 + (x / 512 % 40)))), (11, .int (iI dz)), (12, .int (iI 0))]) rfl (Nat.le_of_ble_eq_true rfl) dL_hours_124 rfl ?_
            refine l_iconst cx (pc2 := 127) dL_hours_126 rfl ?_
            refine l_istore cx (pc2 := 129) (lv2 := [(0, .ref (P.2.1 0)), (1, .ref b), (2, .int (iI nh)), (3, .int (iI (sum + 0))), (4, .long (lI (digV M0))), (6, .int (iI (many + 1))), (7, .int (iI st)), (8, .int (iI x)), (9, .int (iI (x % 5))), (10, .int (iI (1 + (x / 512 % 40)))), (11, .int (iI dz)), (12, .int (iI 0)), (13, .int (iI 0))]) rfl (Nat.le_of_ble_eq_true rfl) dL_hours_127 rfl ?_
            refine l_sub (lv2 := [(0, .ref (P.2.1 0)), (1, .ref b), (2, .int (iI nh)), (3, .int (iI (sum + 0))), (4, .long (lI (digV M0))), (6, .int (iI (many + 1))), (7, .int (iI st)), (12, .int (iI 0)), (13, .int (iI 0))]) [0, 1, 2, 3, 4, 5, 6, 11, 12] rfl ?_
            rcases hD with ⟨hd1, hd3, hd2⟩ | ⟨hd1, hd2⟩
            · first | (exfalso; omega) | (exact J (many := many + 0) (sum := sum + 0) Md (by rw [Int.add_zero, Int.add_zero]; exact hd2))
            · first | (exfalso; omega) | (rw [if_pos (by assumption)] at hd2; exact J (many := many + 1) (sum := sum + (1 + x / 512 % 40)) Md hd2) | (rw [if_neg (by assumption)] at hd2; exact J (many := many + 1) (sum := sum + 0) Md hd2)
          · skip
            refine l_iload cx (pc2 := 112) 8 rfl dL_hours_110 rfl ?_
            refine l_if_ne cx (pc2 := 115) (tgt := 120) (by first | assumption | omega | exact ⟨by omega, by omega⟩) dL_hours_112 (by decide) rfl (fun h_5 => ?_) (fun h_5 => ?_)
            · skip
              refine l_iconst cx (pc2 := 121) dL_hours_120 rfl ?_
              refine l_iadd cx (pc2 := 122) dL_hours_121 rfl ?_
              refine l_istore_n cx (pc2 := 123) (lv2 := [(0, .ref (P.2.1 0)), (1, .ref b), (2, .int (iI nh)), (3, .int (iI (sum + 0))), (4, .long (lI (digV M0))), (6, .int (iI (many + 1))), (7, .int (iI st)), (8, .int (iI x)), (9, .int (iI (x % 5))), (10, .int (iI (1 + (x / 512 % 40)))), (11, .int (iI dz))]) rfl (Nat.le_of_ble_eq_true rfl) dL_hours_122 rfl ?_
              refine l_iconst cx (pc2 := 124) dL_hours_123 rfl ?_
              refine l_istore cx (pc2 := 126) (lv2 := [(0, .ref (P.2.1 0)), (1, .ref b), (2, .int (iI nh)), (3, .int (iI (sum + 0))), (4, .long (lI (digV M0))), (6, .int (iI (many + 1))), (7, .int (iI st)), (8, .int (iI x)), (9, .int (iI (x % 5))), (10, .int (iI (1 + (x / 512 % 40)))), (11, .int (iI dz)), (12, .int (iI 0))]) rfl (Nat.le_of_ble_eq_true rfl) dL_hours_124 rfl ?_
              refine l_iconst cx (pc2 := 127) dL_hours_126 rfl ?_
              refine l_istore cx (pc2 := 129) (lv2 := [(0, .ref (P.2.1 0)), (1, .ref b), (2, .int (iI nh)), (3, .int (iI (sum + 0))), (4, .long (lI (digV M0))), (6, .int (iI (many + 1))), (7, .int (iI st)), (8, .int (iI x)), (9, .int (iI (x % 5))), (10, .int (iI (1 + (x / 512 % 40)))), (11, .int (iI dz)), (12, .int (iI 0)), (13, .int (iI 0))]) rfl (Nat.le_of_ble_eq_true rfl) dL_hours_127 rfl ?_
              refine l_sub (lv2 := [(0, .ref (P.2.1 0)), (1, .ref b), (2, .int (iI nh)), (3, .int (iI (sum + 0))), (4, .long (lI (digV M0))), (6, .int (iI (many + 1))), (7, .int (iI st)), (12, .int (iI 0)), (13, .int (iI 0))]) [0, 1, 2, 3, 4, 5, 6, 11, 12] rfl ?_
              rcases hD with ⟨hd1, hd3, hd2⟩ | ⟨hd1, hd2⟩
              · first | (exfalso; omega) | (exact J (many := many + 0) (sum := sum + 0) Md (by rw [Int.add_zero, Int.add_zero]; exact hd2))
              · first | (exfalso; omega) | (rw [if_pos (by assumption)] at hd2; exact J (many := many + 1) (sum := sum + (1 + x / 512 % 40)) Md hd2) | (rw [if_neg (by assumption)] at hd2; exact J (many := many + 1) (sum := sum + 0) Md hd2)
            · skip
              refine l_iload cx (pc2 := 117) 9 rfl dL_hours_115 rfl ?_
              refine l_goto cx (tgt := 121) dL_hours_117 (by decide) ?_
              refine l_iadd cx (pc2 := 122) dL_hours_121 rfl ?_
              refine l_istore_n cx (pc2 := 123) (lv2 := [(0, .ref (P.2.1 0)), (1, .ref b), (2, .int (iI nh)), (3, .int (iI (sum + (1 + (x / 512 % 40))))), (4, .long (lI (digV M0))), (6, .int (iI (many + 1))), (7, .int (iI st)), (8, .int (iI x)), (9, .int (iI (x % 5))), (10, .int (iI (1 + (x / 512 % 40)))), (11, .int (iI dz))]) rfl (Nat.le_of_ble_eq_true rfl) dL_hours_122 rfl ?_
              refine l_iconst cx (pc2 := 124) dL_hours_123 rfl ?_
              refine l_istore cx (pc2 := 126) (lv2 := [(0, .ref (P.2.1 0)), (1, .ref b), (2, .int (iI nh)), (3, .int (iI (sum + (1 + (x / 512 % 40))))), (4, .long (lI (digV M0))), (6, .int (iI (many + 1))), (7, .int (iI st)), (8, .int (iI x)), (9, .int (iI (x % 5))), (10, .int (iI (1 + (x / 512 % 40)))), (11, .int (iI dz)), (12, .int (iI 0))]) rfl (Nat.le_of_ble_eq_true rfl) dL_hours_124 rfl ?_
              refine l_iconst cx (pc2 := 127) dL_hours_126 rfl ?_
              refine l_istore cx (pc2 := 129) (lv2 := [(0, .ref (P.2.1 0)), (1, .ref b), (2, .int (iI nh)), (3, .int (iI (sum + (1 + (x / 512 % 40))))), (4, .long (lI (digV M0))), (6, .int (iI (many + 1))), (7, .int (iI st)), (8, .int (iI x)), (9, .int (iI (x % 5))), (10, .int (iI (1 + (x / 512 % 40)))), (11, .int (iI dz)), (12, .int (iI 0)), (13, .int (iI 0))]) rfl (Nat.le_of_ble_eq_true rfl) dL_hours_127 rfl ?_
              refine l_sub (lv2 := [(0, .ref (P.2.1 0)), (1, .ref b), (2, .int (iI nh)), (3, .int (iI (sum + (1 + (x / 512 % 40))))), (4, .long (lI (digV M0))), (6, .int (iI (many + 1))), (7, .int (iI st)), (12, .int (iI 0)), (13, .int (iI 0))]) [0, 1, 2, 3, 4, 5, 6, 11, 12] rfl ?_
              rcases hD with ⟨hd1, hd3, hd2⟩ | ⟨hd1, hd2⟩
              · first | (exfalso; omega) | (exact J (many := many + 0) (sum := sum + 0) Md (by rw [Int.add_zero, Int.add_zero]; exact hd2))
              · first | (exfalso; omega) | (rw [if_pos (by assumption)] at hd2; exact J (many := many + 1) (sum := sum + (1 + x / 512 % 40)) Md hd2) | (rw [if_neg (by assumption)] at hd2; exact J (many := many + 1) (sum := sum + 0) Md hd2)
        · skip
          refine l_iconst cx (pc2 := 97) dL_hours_96 rfl ?_
          refine l_goto cx (tgt := 101) dL_hours_97 (by decide) ?_
          refine l_iadd cx (pc2 := 102) dL_hours_101 rfl ?_
          refine l_istore cx (pc2 := 104) (lv2 := [(0, .ref (P.2.1 0)), (1, .ref b), (2, .int (iI nh)), (3, .int (iI sum)), (4, .long (lI (digV M0))), (6, .int (iI (many + 0))), (7, .int (iI st)), (8, .int (iI x)), (9, .int (iI (x % 5))), (10, .int (iI (1 + (x / 512 % 40)))), (11, .int (iI dz))]) rfl (Nat.le_of_ble_eq_true rfl) dL_hours_102 rfl ?_
          refine l_iload_n cx (pc2 := 105) 3 rfl dL_hours_104 rfl ?_
          refine l_iload cx (pc2 := 107) 10 rfl dL_hours_105 rfl ?_
          refine l_if_lt cx (pc2 := 110) (tgt := 120) (by first | assumption | omega | exact ⟨by omega, by omega⟩) dL_hours_107 (by decide) rfl (fun h_6 => ?_) (fun h_6 => ?_)
          · skip
            refine l_iconst cx (pc2 := 121) dL_hours_120 rfl ?_
            refine l_iadd cx (pc2 := 122) dL_hours_121 rfl ?_
            refine l_istore_n cx (pc2 := 123) (lv2 := [(0, .ref (P.2.1 0)), (1, .ref b), (2, .int (iI nh)), (3, .int (iI (sum + 0))), (4, .long (lI (digV M0))), (6, .int (iI (many + 0))), (7, .int (iI st)), (8, .int (iI x)), (9, .int (iI (x % 5))), (10, .int (iI (1 + (x / 512 % 40)))), (11, .int (iI dz))]) rfl (Nat.le_of_ble_eq_true rfl) dL_hours_122 rfl ?_
            refine l_iconst cx (pc2 := 124) dL_hours_123 rfl ?_
            refine l_istore cx (pc2 := 126) (lv2 := [(0, .ref (P.2.1 0)), (1, .ref b), (2, .int (iI nh)), (3, .int (iI (sum + 0))), (4, .long (lI (digV M0))), (6, .int (iI (many + 0))), (7, .int (iI st)), (8, .int (iI x)), (9, .int (iI (x % 5))), (10, .int (iI (1 + (x / 512 % 40)))), (11, .int (iI dz)), (12, .int (iI 0))]) rfl (Nat.le_of_ble_eq_true rfl) dL_hours_124 rfl ?_
            refine l_iconst cx (pc2 := 127) dL_hours_126 rfl ?_
            refine l_istore cx (pc2 := 129) (lv2 := [(0, .ref (P.2.1 0)), (1, .ref b), (2, .int (iI nh)), (3, .int (iI (sum + 0))), (4, .long (lI (digV M0))), (6, .int (iI (many + 0))), (7, .int (iI st)), (8, .int (iI x)), (9, .int (iI (x % 5))), (10, .int (iI (1 + (x / 512 % 40)))), (11, .int (iI dz)), (12, .int (iI 0)), (13, .int (iI 0))]) rfl (Nat.le_of_ble_eq_true rfl) dL_hours_127 rfl ?_
            refine l_sub (lv2 := [(0, .ref (P.2.1 0)), (1, .ref b), (2, .int (iI nh)), (3, .int (iI (sum + 0))), (4, .long (lI (digV M0))), (6, .int (iI (many + 0))), (7, .int (iI st)), (12, .int (iI 0)), (13, .int (iI 0))]) [0, 1, 2, 3, 4, 5, 6, 11, 12] rfl ?_
            rcases hD with ⟨hd1, hd3, hd2⟩ | ⟨hd1, hd2⟩
            · first | (exfalso; omega) | (exact J (many := many + 0) (sum := sum + 0) Md (by rw [Int.add_zero, Int.add_zero]; exact hd2))
            · first | (exfalso; omega) | (rw [if_pos (by assumption)] at hd2; exact J (many := many + 1) (sum := sum + (1 + x / 512 % 40)) Md hd2) | (rw [if_neg (by assumption)] at hd2; exact J (many := many + 1) (sum := sum + 0) Md hd2)
          · skip
            refine l_iload cx (pc2 := 112) 8 rfl dL_hours_110 rfl ?_
            refine l_if_ne cx (pc2 := 115) (tgt := 120) (by first | assumption | omega | exact ⟨by omega, by omega⟩) dL_hours_112 (by decide) rfl (fun h_7 => ?_) (fun h_7 => ?_)
            · skip
              refine l_iconst cx (pc2 := 121) dL_hours_120 rfl ?_
              refine l_iadd cx (pc2 := 122) dL_hours_121 rfl ?_
              refine l_istore_n cx (pc2 := 123) (lv2 := [(0, .ref (P.2.1 0)), (1, .ref b), (2, .int (iI nh)), (3, .int (iI (sum + 0))), (4, .long (lI (digV M0))), (6, .int (iI (many + 0))), (7, .int (iI st)), (8, .int (iI x)), (9, .int (iI (x % 5))), (10, .int (iI (1 + (x / 512 % 40)))), (11, .int (iI dz))]) rfl (Nat.le_of_ble_eq_true rfl) dL_hours_122 rfl ?_
              refine l_iconst cx (pc2 := 124) dL_hours_123 rfl ?_
              refine l_istore cx (pc2 := 126) (lv2 := [(0, .ref (P.2.1 0)), (1, .ref b), (2, .int (iI nh)), (3, .int (iI (sum + 0))), (4, .long (lI (digV M0))), (6, .int (iI (many + 0))), (7, .int (iI st)), (8, .int (iI x)), (9, .int (iI (x % 5))), (10, .int (iI (1 + (x / 512 % 40)))), (11, .int (iI dz)), (12, .int (iI 0))]) rfl (Nat.le_of_ble_eq_true rfl) dL_hours_124 rfl ?_
              refine l_iconst cx (pc2 := 127) dL_hours_126 rfl ?_
              refine l_istore cx (pc2 := 129) (lv2 := [(0, .ref (P.2.1 0)), (1, .ref b), (2, .int (iI nh)), (3, .int (iI (sum + 0))), (4, .long (lI (digV M0))), (6, .int (iI (many + 0))), (7, .int (iI st)), (8, .int (iI x)), (9, .int (iI (x % 5))), (10, .int (iI (1 + (x / 512 % 40)))), (11, .int (iI dz)), (12, .int (iI 0)), (13, .int (iI 0))]) rfl (Nat.le_of_ble_eq_true rfl) dL_hours_127 rfl ?_
              refine l_sub (lv2 := [(0, .ref (P.2.1 0)), (1, .ref b), (2, .int (iI nh)), (3, .int (iI (sum + 0))), (4, .long (lI (digV M0))), (6, .int (iI (many + 0))), (7, .int (iI st)), (12, .int (iI 0)), (13, .int (iI 0))]) [0, 1, 2, 3, 4, 5, 6, 11, 12] rfl ?_
              rcases hD with ⟨hd1, hd3, hd2⟩ | ⟨hd1, hd2⟩
              · first | (exfalso; omega) | (exact J (many := many + 0) (sum := sum + 0) Md (by rw [Int.add_zero, Int.add_zero]; exact hd2))
              · first | (exfalso; omega) | (rw [if_pos (by assumption)] at hd2; exact J (many := many + 1) (sum := sum + (1 + x / 512 % 40)) Md hd2) | (rw [if_neg (by assumption)] at hd2; exact J (many := many + 1) (sum := sum + 0) Md hd2)
            · skip
              refine l_iload cx (pc2 := 117) 9 rfl dL_hours_115 rfl ?_
              refine l_goto cx (tgt := 121) dL_hours_117 (by decide) ?_
              refine l_iadd cx (pc2 := 122) dL_hours_121 rfl ?_
              refine l_istore_n cx (pc2 := 123) (lv2 := [(0, .ref (P.2.1 0)), (1, .ref b), (2, .int (iI nh)), (3, .int (iI (sum + (1 + (x / 512 % 40))))), (4, .long (lI (digV M0))), (6, .int (iI (many + 0))), (7, .int (iI st)), (8, .int (iI x)), (9, .int (iI (x % 5))), (10, .int (iI (1 + (x / 512 % 40)))), (11, .int (iI dz))]) rfl (Nat.le_of_ble_eq_true rfl) dL_hours_122 rfl ?_
              refine l_iconst cx (pc2 := 124) dL_hours_123 rfl ?_
              refine l_istore cx (pc2 := 126) (lv2 := [(0, .ref (P.2.1 0)), (1, .ref b), (2, .int (iI nh)), (3, .int (iI (sum + (1 + (x / 512 % 40))))), (4, .long (lI (digV M0))), (6, .int (iI (many + 0))), (7, .int (iI st)), (8, .int (iI x)), (9, .int (iI (x % 5))), (10, .int (iI (1 + (x / 512 % 40)))), (11, .int (iI dz)), (12, .int (iI 0))]) rfl (Nat.le_of_ble_eq_true rfl) dL_hours_124 rfl ?_
              refine l_iconst cx (pc2 := 127) dL_hours_126 rfl ?_
              refine l_istore cx (pc2 := 129) (lv2 := [(0, .ref (P.2.1 0)), (1, .ref b), (2, .int (iI nh)), (3, .int (iI (sum + (1 + (x / 512 % 40))))), (4, .long (lI (digV M0))), (6, .int (iI (many + 0))), (7, .int (iI st)), (8, .int (iI x)), (9, .int (iI (x % 5))), (10, .int (iI (1 + (x / 512 % 40)))), (11, .int (iI dz)), (12, .int (iI 0)), (13, .int (iI 0))]) rfl (Nat.le_of_ble_eq_true rfl) dL_hours_127 rfl ?_
              refine l_sub (lv2 := [(0, .ref (P.2.1 0)), (1, .ref b), (2, .int (iI nh)), (3, .int (iI (sum + (1 + (x / 512 % 40))))), (4, .long (lI (digV M0))), (6, .int (iI (many + 0))), (7, .int (iI st)), (12, .int (iI 0)), (13, .int (iI 0))]) [0, 1, 2, 3, 4, 5, 6, 11, 12] rfl ?_
              rcases hD with ⟨hd1, hd3, hd2⟩ | ⟨hd1, hd2⟩
              · first | (exfalso; omega) | (exact J (many := many + 0) (sum := sum + 0) Md (by rw [Int.add_zero, Int.add_zero]; exact hd2))
              · first | (exfalso; omega) | (rw [if_pos (by assumption)] at hd2; exact J (many := many + 1) (sum := sum + (1 + x / 512 % 40)) Md hd2) | (rw [if_neg (by assumption)] at hd2; exact J (many := many + 1) (sum := sum + 0) Md hd2)
      · skip
        refine l_iload cx (pc2 := 82) 10 rfl dL_hours_80 rfl ?_
        refine l_iload cx (pc2 := 84) 5 rfl dL_hours_82 rfl ?_
        refine l_icmp_eq cx (pc2 := 87) (tgt := 89) ⟨(by first | assumption | omega | exact ⟨by omega, by omega⟩), (by first | assumption | omega | exact ⟨by omega, by omega⟩)⟩ dL_hours_84 (by decide) rfl (fun h_8 => ?_) (fun h_8 => ?_)
        · skip
          refine l_iload cx (pc2 := 91) 5 rfl dL_hours_89 rfl ?_
          refine l_iload cx (pc2 := 93) 10 rfl dL_hours_91 rfl ?_
          refine l_if_ge cx (pc2 := 96) (tgt := 100) (by first | assumption | omega | exact ⟨by omega, by omega⟩) dL_hours_93 (by decide) rfl (fun h_9 => ?_) (fun h_9 => ?_)
          · skip
            refine l_iconst cx (pc2 := 101) dL_hours_100 rfl ?_
            refine l_iadd cx (pc2 := 102) dL_hours_101 rfl ?_
            refine l_istore cx (pc2 := 104) (lv2 := [(0, .ref (P.2.1 0)), (1, .ref b), (2, .int (iI nh)), (3, .int (iI sum)), (4, .long (lI (digV M0))), (6, .int (iI (many + 1))), (7, .int (iI st)), (8, .int (iI x)), (9, .int (iI (x % 5))), (10, .int (iI (1 + (x / 512 % 40)))), (11, .int (iI dz))]) rfl (Nat.le_of_ble_eq_true rfl) dL_hours_102 rfl ?_
            refine l_iload_n cx (pc2 := 105) 3 rfl dL_hours_104 rfl ?_
            refine l_iload cx (pc2 := 107) 10 rfl dL_hours_105 rfl ?_
            refine l_if_lt cx (pc2 := 110) (tgt := 120) (by first | assumption | omega | exact ⟨by omega, by omega⟩) dL_hours_107 (by decide) rfl (fun h_10 => ?_) (fun h_10 => ?_)
            · skip
              refine l_iconst cx (pc2 := 121) dL_hours_120 rfl ?_
              refine l_iadd cx (pc2 := 122) dL_hours_121 rfl ?_
              refine l_istore_n cx (pc2 := 123) (lv2 := [(0, .ref (P.2.1 0)), (1, .ref b), (2, .int (iI nh)), (3, .int (iI (sum + 0))), (4, .long (lI (digV M0))), (6, .int (iI (many + 1))), (7, .int (iI st)), (8, .int (iI x)), (9, .int (iI (x % 5))), (10, .int (iI (1 + (x / 512 % 40)))), (11, .int (iI dz))]) rfl (Nat.le_of_ble_eq_true rfl) dL_hours_122 rfl ?_
              refine l_iconst cx (pc2 := 124) dL_hours_123 rfl ?_
              refine l_istore cx (pc2 := 126) (lv2 := [(0, .ref (P.2.1 0)), (1, .ref b), (2, .int (iI nh)), (3, .int (iI (sum + 0))), (4, .long (lI (digV M0))), (6, .int (iI (many + 1))), (7, .int (iI st)), (8, .int (iI x)), (9, .int (iI (x % 5))), (10, .int (iI (1 + (x / 512 % 40)))), (11, .int (iI dz)), (12, .int (iI 0))]) rfl (Nat.le_of_ble_eq_true rfl) dL_hours_124 rfl ?_
              refine l_iconst cx (pc2 := 127) dL_hours_126 rfl ?_
              refine l_istore cx (pc2 := 129) (lv2 := [(0, .ref (P.2.1 0)), (1, .ref b), (2, .int (iI nh)), (3, .int (iI (sum + 0))), (4, .long (lI (digV M0))), (6, .int (iI (many + 1))), (7, .int (iI st)), (8, .int (iI x)), (9, .int (iI (x % 5))), (10, .int (iI (1 + (x / 512 % 40)))), (11, .int (iI dz)), (12, .int (iI 0)), (13, .int (iI 0))]) rfl (Nat.le_of_ble_eq_true rfl) dL_hours_127 rfl ?_
              refine l_sub (lv2 := [(0, .ref (P.2.1 0)), (1, .ref b), (2, .int (iI nh)), (3, .int (iI (sum + 0))), (4, .long (lI (digV M0))), (6, .int (iI (many + 1))), (7, .int (iI st)), (12, .int (iI 0)), (13, .int (iI 0))]) [0, 1, 2, 3, 4, 5, 6, 11, 12] rfl ?_
              rcases hD with ⟨hd1, hd3, hd2⟩ | ⟨hd1, hd2⟩
              · first | (exfalso; omega) | (exact J (many := many + 0) (sum := sum + 0) Md (by rw [Int.add_zero, Int.add_zero]; exact hd2))
              · first | (exfalso; omega) | (rw [if_pos (by assumption)] at hd2; exact J (many := many + 1) (sum := sum + (1 + x / 512 % 40)) Md hd2) | (rw [if_neg (by assumption)] at hd2; exact J (many := many + 1) (sum := sum + 0) Md hd2)
            · skip
              refine l_iload cx (pc2 := 112) 8 rfl dL_hours_110 rfl ?_
              refine l_if_ne cx (pc2 := 115) (tgt := 120) (by first | assumption | omega | exact ⟨by omega, by omega⟩) dL_hours_112 (by decide) rfl (fun h_11 => ?_) (fun h_11 => ?_)
              · skip
                refine l_iconst cx (pc2 := 121) dL_hours_120 rfl ?_
                refine l_iadd cx (pc2 := 122) dL_hours_121 rfl ?_
                refine l_istore_n cx (pc2 := 123) (lv2 := [(0, .ref (P.2.1 0)), (1, .ref b), (2, .int (iI nh)), (3, .int (iI (sum + 0))), (4, .long (lI (digV M0))), (6, .int (iI (many + 1))), (7, .int (iI st)), (8, .int (iI x)), (9, .int (iI (x % 5))), (10, .int (iI (1 + (x / 512 % 40)))), (11, .int (iI dz))]) rfl (Nat.le_of_ble_eq_true rfl) dL_hours_122 rfl ?_
                refine l_iconst cx (pc2 := 124) dL_hours_123 rfl ?_
                refine l_istore cx (pc2 := 126) (lv2 := [(0, .ref (P.2.1 0)), (1, .ref b), (2, .int (iI nh)), (3, .int (iI (sum + 0))), (4, .long (lI (digV M0))), (6, .int (iI (many + 1))), (7, .int (iI st)), (8, .int (iI x)), (9, .int (iI (x % 5))), (10, .int (iI (1 + (x / 512 % 40)))), (11, .int (iI dz)), (12, .int (iI 0))]) rfl (Nat.le_of_ble_eq_true rfl) dL_hours_124 rfl ?_
                refine l_iconst cx (pc2 := 127) dL_hours_126 rfl ?_
                refine l_istore cx (pc2 := 129) (lv2 := [(0, .ref (P.2.1 0)), (1, .ref b), (2, .int (iI nh)), (3, .int (iI (sum + 0))), (4, .long (lI (digV M0))), (6, .int (iI (many + 1))), (7, .int (iI st)), (8, .int (iI x)), (9, .int (iI (x % 5))), (10, .int (iI (1 + (x / 512 % 40)))), (11, .int (iI dz)), (12, .int (iI 0)), (13, .int (iI 0))]) rfl (Nat.le_of_ble_eq_true rfl) dL_hours_127 rfl ?_
                refine l_sub (lv2 := [(0, .ref (P.2.1 0)), (1, .ref b), (2, .int (iI nh)), (3, .int (iI (sum + 0))), (4, .long (lI (digV M0))), (6, .int (iI (many + 1))), (7, .int (iI st)), (12, .int (iI 0)), (13, .int (iI 0))]) [0, 1, 2, 3, 4, 5, 6, 11, 12] rfl ?_
                rcases hD with ⟨hd1, hd3, hd2⟩ | ⟨hd1, hd2⟩
                · first | (exfalso; omega) | (exact J (many := many + 0) (sum := sum + 0) Md (by rw [Int.add_zero, Int.add_zero]; exact hd2))
                · first | (exfalso; omega) | (rw [if_pos (by assumption)] at hd2; exact J (many := many + 1) (sum := sum + (1 + x / 512 % 40)) Md hd2) | (rw [if_neg (by assumption)] at hd2; exact J (many := many + 1) (sum := sum + 0) Md hd2)
              · skip
                refine l_iload cx (pc2 := 117) 9 rfl dL_hours_115 rfl ?_
                refine l_goto cx (tgt := 121) dL_hours_117 (by decide) ?_
                refine l_iadd cx (pc2 := 122) dL_hours_121 rfl ?_
                refine l_istore_n cx (pc2 := 123) (lv2 := [(0, .ref (P.2.1 0)), (1, .ref b), (2, .int (iI nh)), (3, .int (iI (sum + (1 + (x / 512 % 40))))), (4, .long (lI (digV M0))), (6, .int (iI (many + 1))), (7, .int (iI st)), (8, .int (iI x)), (9, .int (iI (x % 5))), (10, .int (iI (1 + (x / 512 % 40)))), (11, .int (iI dz))]) rfl (Nat.le_of_ble_eq_true rfl) dL_hours_122 rfl ?_
                refine l_iconst cx (pc2 := 124) dL_hours_123 rfl ?_
                refine l_istore cx (pc2 := 126) (lv2 := [(0, .ref (P.2.1 0)), (1, .ref b), (2, .int (iI nh)), (3, .int (iI (sum + (1 + (x / 512 % 40))))), (4, .long (lI (digV M0))), (6, .int (iI (many + 1))), (7, .int (iI st)), (8, .int (iI x)), (9, .int (iI (x % 5))), (10, .int (iI (1 + (x / 512 % 40)))), (11, .int (iI dz)), (12, .int (iI 0))]) rfl (Nat.le_of_ble_eq_true rfl) dL_hours_124 rfl ?_
                refine l_iconst cx (pc2 := 127) dL_hours_126 rfl ?_
                refine l_istore cx (pc2 := 129) (lv2 := [(0, .ref (P.2.1 0)), (1, .ref b), (2, .int (iI nh)), (3, .int (iI (sum + (1 + (x / 512 % 40))))), (4, .long (lI (digV M0))), (6, .int (iI (many + 1))), (7, .int (iI st)), (8, .int (iI x)), (9, .int (iI (x % 5))), (10, .int (iI (1 + (x / 512 % 40)))), (11, .int (iI dz)), (12, .int (iI 0)), (13, .int (iI 0))]) rfl (Nat.le_of_ble_eq_true rfl) dL_hours_127 rfl ?_
                refine l_sub (lv2 := [(0, .ref (P.2.1 0)), (1, .ref b), (2, .int (iI nh)), (3, .int (iI (sum + (1 + (x / 512 % 40))))), (4, .long (lI (digV M0))), (6, .int (iI (many + 1))), (7, .int (iI st)), (12, .int (iI 0)), (13, .int (iI 0))]) [0, 1, 2, 3, 4, 5, 6, 11, 12] rfl ?_
                rcases hD with ⟨hd1, hd3, hd2⟩ | ⟨hd1, hd2⟩
                · first | (exfalso; omega) | (exact J (many := many + 0) (sum := sum + 0) Md (by rw [Int.add_zero, Int.add_zero]; exact hd2))
                · first | (exfalso; omega) | (rw [if_pos (by assumption)] at hd2; exact J (many := many + 1) (sum := sum + (1 + x / 512 % 40)) Md hd2) | (rw [if_neg (by assumption)] at hd2; exact J (many := many + 1) (sum := sum + 0) Md hd2)
          · skip
            refine l_iconst cx (pc2 := 97) dL_hours_96 rfl ?_
            refine l_goto cx (tgt := 101) dL_hours_97 (by decide) ?_
            refine l_iadd cx (pc2 := 102) dL_hours_101 rfl ?_
            refine l_istore cx (pc2 := 104) (lv2 := [(0, .ref (P.2.1 0)), (1, .ref b), (2, .int (iI nh)), (3, .int (iI sum)), (4, .long (lI (digV M0))), (6, .int (iI (many + 0))), (7, .int (iI st)), (8, .int (iI x)), (9, .int (iI (x % 5))), (10, .int (iI (1 + (x / 512 % 40)))), (11, .int (iI dz))]) rfl (Nat.le_of_ble_eq_true rfl) dL_hours_102 rfl ?_
            refine l_iload_n cx (pc2 := 105) 3 rfl dL_hours_104 rfl ?_
            refine l_iload cx (pc2 := 107) 10 rfl dL_hours_105 rfl ?_
            refine l_if_lt cx (pc2 := 110) (tgt := 120) (by first | assumption | omega | exact ⟨by omega, by omega⟩) dL_hours_107 (by decide) rfl (fun h_12 => ?_) (fun h_12 => ?_)
            · skip
              refine l_iconst cx (pc2 := 121) dL_hours_120 rfl ?_
              refine l_iadd cx (pc2 := 122) dL_hours_121 rfl ?_
              refine l_istore_n cx (pc2 := 123) (lv2 := [(0, .ref (P.2.1 0)), (1, .ref b), (2, .int (iI nh)), (3, .int (iI (sum + 0))), (4, .long (lI (digV M0))), (6, .int (iI (many + 0))), (7, .int (iI st)), (8, .int (iI x)), (9, .int (iI (x % 5))), (10, .int (iI (1 + (x / 512 % 40)))), (11, .int (iI dz))]) rfl (Nat.le_of_ble_eq_true rfl) dL_hours_122 rfl ?_
              refine l_iconst cx (pc2 := 124) dL_hours_123 rfl ?_
              refine l_istore cx (pc2 := 126) (lv2 := [(0, .ref (P.2.1 0)), (1, .ref b), (2, .int (iI nh)), (3, .int (iI (sum + 0))), (4, .long (lI (digV M0))), (6, .int (iI (many + 0))), (7, .int (iI st)), (8, .int (iI x)), (9, .int (iI (x % 5))), (10, .int (iI (1 + (x / 512 % 40)))), (11, .int (iI dz)), (12, .int (iI 0))]) rfl (Nat.le_of_ble_eq_true rfl) dL_hours_124 rfl ?_
              refine l_iconst cx (pc2 := 127) dL_hours_126 rfl ?_
              refine l_istore cx (pc2 := 129) (lv2 := [(0, .ref (P.2.1 0)), (1, .ref b), (2, .int (iI nh)), (3, .int (iI (sum + 0))), (4, .long (lI (digV M0))), (6, .int (iI (many + 0))), (7, .int (iI st)), (8, .int (iI x)), (9, .int (iI (x % 5))), (10, .int (iI (1 + (x / 512 % 40)))), (11, .int (iI dz)), (12, .int (iI 0)), (13, .int (iI 0))]) rfl (Nat.le_of_ble_eq_true rfl) dL_hours_127 rfl ?_
              refine l_sub (lv2 := [(0, .ref (P.2.1 0)), (1, .ref b), (2, .int (iI nh)), (3, .int (iI (sum + 0))), (4, .long (lI (digV M0))), (6, .int (iI (many + 0))), (7, .int (iI st)), (12, .int (iI 0)), (13, .int (iI 0))]) [0, 1, 2, 3, 4, 5, 6, 11, 12] rfl ?_
              rcases hD with ⟨hd1, hd3, hd2⟩ | ⟨hd1, hd2⟩
              · first | (exfalso; omega) | (exact J (many := many + 0) (sum := sum + 0) Md (by rw [Int.add_zero, Int.add_zero]; exact hd2))
              · first | (exfalso; omega) | (rw [if_pos (by assumption)] at hd2; exact J (many := many + 1) (sum := sum + (1 + x / 512 % 40)) Md hd2) | (rw [if_neg (by assumption)] at hd2; exact J (many := many + 1) (sum := sum + 0) Md hd2)
            · skip
              refine l_iload cx (pc2 := 112) 8 rfl dL_hours_110 rfl ?_
              refine l_if_ne cx (pc2 := 115) (tgt := 120) (by first | assumption | omega | exact ⟨by omega, by omega⟩) dL_hours_112 (by decide) rfl (fun h_13 => ?_) (fun h_13 => ?_)
              · skip
                refine l_iconst cx (pc2 := 121) dL_hours_120 rfl ?_
                refine l_iadd cx (pc2 := 122) dL_hours_121 rfl ?_
                refine l_istore_n cx (pc2 := 123) (lv2 := [(0, .ref (P.2.1 0)), (1, .ref b), (2, .int (iI nh)), (3, .int (iI (sum + 0))), (4, .long (lI (digV M0))), (6, .int (iI (many + 0))), (7, .int (iI st)), (8, .int (iI x)), (9, .int (iI (x % 5))), (10, .int (iI (1 + (x / 512 % 40)))), (11, .int (iI dz))]) rfl (Nat.le_of_ble_eq_true rfl) dL_hours_122 rfl ?_
                refine l_iconst cx (pc2 := 124) dL_hours_123 rfl ?_
                refine l_istore cx (pc2 := 126) (lv2 := [(0, .ref (P.2.1 0)), (1, .ref b), (2, .int (iI nh)), (3, .int (iI (sum + 0))), (4, .long (lI (digV M0))), (6, .int (iI (many + 0))), (7, .int (iI st)), (8, .int (iI x)), (9, .int (iI (x % 5))), (10, .int (iI (1 + (x / 512 % 40)))), (11, .int (iI dz)), (12, .int (iI 0))]) rfl (Nat.le_of_ble_eq_true rfl) dL_hours_124 rfl ?_
                refine l_iconst cx (pc2 := 127) dL_hours_126 rfl ?_
                refine l_istore cx (pc2 := 129) (lv2 := [(0, .ref (P.2.1 0)), (1, .ref b), (2, .int (iI nh)), (3, .int (iI (sum + 0))), (4, .long (lI (digV M0))), (6, .int (iI (many + 0))), (7, .int (iI st)), (8, .int (iI x)), (9, .int (iI (x % 5))), (10, .int (iI (1 + (x / 512 % 40)))), (11, .int (iI dz)), (12, .int (iI 0)), (13, .int (iI 0))]) rfl (Nat.le_of_ble_eq_true rfl) dL_hours_127 rfl ?_
                refine l_sub (lv2 := [(0, .ref (P.2.1 0)), (1, .ref b), (2, .int (iI nh)), (3, .int (iI (sum + 0))), (4, .long (lI (digV M0))), (6, .int (iI (many + 0))), (7, .int (iI st)), (12, .int (iI 0)), (13, .int (iI 0))]) [0, 1, 2, 3, 4, 5, 6, 11, 12] rfl ?_
                rcases hD with ⟨hd1, hd3, hd2⟩ | ⟨hd1, hd2⟩
                · first | (exfalso; omega) | (exact J (many := many + 0) (sum := sum + 0) Md (by rw [Int.add_zero, Int.add_zero]; exact hd2))
                · first | (exfalso; omega) | (rw [if_pos (by assumption)] at hd2; exact J (many := many + 1) (sum := sum + (1 + x / 512 % 40)) Md hd2) | (rw [if_neg (by assumption)] at hd2; exact J (many := many + 1) (sum := sum + 0) Md hd2)
              · skip
                refine l_iload cx (pc2 := 117) 9 rfl dL_hours_115 rfl ?_
                refine l_goto cx (tgt := 121) dL_hours_117 (by decide) ?_
                refine l_iadd cx (pc2 := 122) dL_hours_121 rfl ?_
                refine l_istore_n cx (pc2 := 123) (lv2 := [(0, .ref (P.2.1 0)), (1, .ref b), (2, .int (iI nh)), (3, .int (iI (sum + (1 + (x / 512 % 40))))), (4, .long (lI (digV M0))), (6, .int (iI (many + 0))), (7, .int (iI st)), (8, .int (iI x)), (9, .int (iI (x % 5))), (10, .int (iI (1 + (x / 512 % 40)))), (11, .int (iI dz))]) rfl (Nat.le_of_ble_eq_true rfl) dL_hours_122 rfl ?_
                refine l_iconst cx (pc2 := 124) dL_hours_123 rfl ?_
                refine l_istore cx (pc2 := 126) (lv2 := [(0, .ref (P.2.1 0)), (1, .ref b), (2, .int (iI nh)), (3, .int (iI (sum + (1 + (x / 512 % 40))))), (4, .long (lI (digV M0))), (6, .int (iI (many + 0))), (7, .int (iI st)), (8, .int (iI x)), (9, .int (iI (x % 5))), (10, .int (iI (1 + (x / 512 % 40)))), (11, .int (iI dz)), (12, .int (iI 0))]) rfl (Nat.le_of_ble_eq_true rfl) dL_hours_124 rfl ?_
                refine l_iconst cx (pc2 := 127) dL_hours_126 rfl ?_
                refine l_istore cx (pc2 := 129) (lv2 := [(0, .ref (P.2.1 0)), (1, .ref b), (2, .int (iI nh)), (3, .int (iI (sum + (1 + (x / 512 % 40))))), (4, .long (lI (digV M0))), (6, .int (iI (many + 0))), (7, .int (iI st)), (8, .int (iI x)), (9, .int (iI (x % 5))), (10, .int (iI (1 + (x / 512 % 40)))), (11, .int (iI dz)), (12, .int (iI 0)), (13, .int (iI 0))]) rfl (Nat.le_of_ble_eq_true rfl) dL_hours_127 rfl ?_
                refine l_sub (lv2 := [(0, .ref (P.2.1 0)), (1, .ref b), (2, .int (iI nh)), (3, .int (iI (sum + (1 + (x / 512 % 40))))), (4, .long (lI (digV M0))), (6, .int (iI (many + 0))), (7, .int (iI st)), (12, .int (iI 0)), (13, .int (iI 0))]) [0, 1, 2, 3, 4, 5, 6, 11, 12] rfl ?_
                rcases hD with ⟨hd1, hd3, hd2⟩ | ⟨hd1, hd2⟩
                · first | (exfalso; omega) | (exact J (many := many + 0) (sum := sum + 0) Md (by rw [Int.add_zero, Int.add_zero]; exact hd2))
                · first | (exfalso; omega) | (rw [if_pos (by assumption)] at hd2; exact J (many := many + 1) (sum := sum + (1 + x / 512 % 40)) Md hd2) | (rw [if_neg (by assumption)] at hd2; exact J (many := many + 1) (sum := sum + 0) Md hd2)
        · skip
          omega
set_option maxHeartbeats 4000000 in
set_option maxRecDepth 100000 in
theorem c_L_hours {P : Pl} {b L : Nat} {xs : Nat → Int32} {n : Nat} (hn : NN n) {M0 : Mm} (hci : CI M0) (hz : LZ M0) {R : va_W} (nh : Int) (hnh : 1 ≤ nh ∧ nh ≤ 5) (h23 : M0 23 3 = nh) : CLW P b L xs yL_hours cL_hours 15 (some .boolean) ({ frames := 6, cells := 0, slots := 0, locals := 138 } : Room) 0 0 [.ref (P.2.1 0), .ref b, .int (iI nh)] (wld P n M0 ++ R) (qT P n R (HoR M0)) := by
  refine CLW.of (lv0 := [(0, .ref (P.2.1 0)), (1, .ref b), (2, .int (iI nh))]) (by decide +kernel) rfl rfl (Nat.le_of_ble_eq_true rfl) (fun X cx ys sx qx => ?_)
  refine l_iconst cx (pc2 := 1) dL_hours_0 rfl ?_
  refine l_istore_n cx (pc2 := 2) (lv2 := [(0, .ref (P.2.1 0)), (1, .ref b), (2, .int (iI nh)), (3, .int (iI 0))]) rfl (Nat.le_of_ble_eq_true rfl) dL_hours_1 rfl ?_
  refine l_aload_n cx (pc2 := 3) 0 rfl dL_hours_2 rfl ?_
  refine l_ctL cx (pc2 := 6) (st := []) ys hn (M := M0) (As := []) (c_X11_digest (M := M0) hn hci) wM_X11_digest wV_X11_digest rfl kl_L_144 ⟨rfl, rfl, Nat.le_of_ble_eq_true rfl, Nat.le_of_ble_eq_true rfl⟩ (Nat.le_of_ble_eq_true rfl) ⟨Nat.zero_le _, Nat.zero_le _⟩ rfl rfl rfl dL_hours_3 rfl ?_
  refine l_lstore cx (pc2 := 8) (lv2 := [(0, .ref (P.2.1 0)), (1, .ref b), (2, .int (iI nh)), (3, .int (iI 0)), (4, .long (lI (digV M0)))]) rfl (Nat.le_of_ble_eq_true rfl) dL_hours_6 rfl ?_
  refine l_iconst cx (pc2 := 9) dL_hours_8 rfl ?_
  refine l_istore cx (pc2 := 11) (lv2 := [(0, .ref (P.2.1 0)), (1, .ref b), (2, .int (iI nh)), (3, .int (iI 0)), (4, .long (lI (digV M0))), (6, .int (iI 0))]) rfl (Nat.le_of_ble_eq_true rfl) dL_hours_9 rfl ?_
  refine l_iconst cx (pc2 := 12) dL_hours_11 rfl ?_
  refine l_istore cx (pc2 := 14) (lv2 := [(0, .ref (P.2.1 0)), (1, .ref b), (2, .int (iI nh)), (3, .int (iI 0)), (4, .long (lI (digV M0))), (6, .int (iI 0)), (7, .int (iI 0))]) rfl (Nat.le_of_ble_eq_true rfl) dL_hours_12 rfl ?_
  refine hours_D hn hci hz nh hnh h23 cx ys sx qx _ M0 0 0 0 ⟨⟨hz.1, by decide, by decide⟩, ⟨by decide, by decide⟩, smZ_0 (fun j hj => hz.2.1 j (by omega)), fun x hx => by rw [hz.2.1 x (by omega)]; decide, fun x hx => by rw [hz.2.2.1 x hx]; decide, ⟨fun x hx => by rw [hz.2.1 x hx]; rfl, fun x hx => by rw [hz.2.2.1 x hx]; rfl⟩, hci, fun _ _ _ => rfl⟩ (by omega) (Nat.le_refl _)
