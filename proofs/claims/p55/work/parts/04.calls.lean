theorem g_iald {X : Cq} {cc : ByteArray} {own : String} {R0 : Room} {nL n : Nat} (cx : Cx X cc own R0 nL n) {pc pc2 : Nat} {lv : List (Nat × Value)} {st : List Value} {M : Mm} {k0 len b0 sd : Nat} (hs : shp n k0 = .inl (0, len, b0, sd)) (hk : k0 < n) {z : Int} (h0 : 0 ≤ z) (h1 : z < (len : Int)) (hlen : len ≤ 2147483647) (hd : decode cc pc = .ok (.iaload, 1)) (hp : pc + 1 = pc2) (k : G X pc2 lv (.int (iI (M k0 z.toNat)) :: st) M) : G X pc lv (.int (iI z) :: .ref k0 :: st) M := by
  obtain ⟨p, l, e, R, s, m, args, below, meth, c, nL2, P, n2, A, cells, slots, Q⟩ := X
  obtain ⟨⟨hx, hb, hml, hown, hts⟩, hK, hA, hAw, hiP, hSg, hlk, hR, hnL, hn, hn1, hn2, hnw⟩ := cx
  subst hp
  intro H locs ls hl hP hS
  exact va_iald hx hb hK hP k0 0 (show (wld P n2 M)[k0]? = some (P.2.1 k0, .inl (P.2.2 0, len, .inl (fun j => iI (M k0 j)))) from by rw [wld_get (hn ▸ hk)]; unfold wc; rw [hn, hs]; rfl) rfl (iI_in h0 h1 hlen) hd (by rw [iI_clamp (show ir z from ⟨by omega, by omega⟩)]; exact k H locs ls hl hP hS)
theorem g_aald {X : Cq} {cc : ByteArray} {own : String} {R0 : Room} {nL n : Nat} (cx : Cx X cc own R0 nL n) {pc pc2 : Nat} {lv : List (Nat × Value)} {st : List Value} {M : Mm} {ct k0 len b0 sd : Nat} (hs : shp n k0 = .inl (ct, len, b0, sd)) (hct : ct = 2 ∨ ct = 3) (hk : k0 < n) {z : Int} (h0 : 0 ≤ z) (h1 : z < (len : Int)) (hlen : len ≤ 2147483647) (hd : decode cc pc = .ok (.aaload, 1)) (hp : pc + 1 = pc2) (k : G X pc2 lv (.ref (b0 + sd * z.toNat) :: st) M) : G X pc lv (.int (iI z) :: .ref k0 :: st) M := by
  obtain ⟨p, l, e, R, s, m, args, below, meth, c, nL2, P, n2, A, cells, slots, Q⟩ := X
  obtain ⟨⟨hx, hb, hml, hown, hts⟩, hK, hA, hAw, hiP, hSg, hlk, hR, hnL, hn, hn1, hn2, hnw⟩ := cx
  subst hp
  intro H locs ls hl hP hS
  rcases hct with rfl | rfl
  · exact va_aldq hx hb hK hP k0 2 (C := "CoatBetween$Row") (f := fun j => some (P.2.1 (b0 + sd * j))) (n := len) (cA := P.2.2 2) (by rw [wld_get (hn ▸ hk)]; unfold wc; rw [hn, hs]; rfl) rfl (iI_in h0 h1 hlen) hd (by rw [iI_clamp (show ir z from ⟨by omega, by omega⟩)]; exact k H locs ls hl hP hS)
  · exact va_aldq hx hb hK hP k0 3 (C := "CoatBetween$Need") (f := fun j => some (P.2.1 (b0 + sd * j))) (n := len) (cA := P.2.2 3) (by rw [wld_get (hn ▸ hk)]; unfold wc; rw [hn, hs]; rfl) rfl (iI_in h0 h1 hlen) hd (by rw [iI_clamp (show ir z from ⟨by omega, by omega⟩)]; exact k H locs ls hl hP hS)
theorem wc_row {P : Pl} {n : Nat} {M : Mm} {k0 ct len b0 sd : Nat} (hs : shp n k0 = .inl (ct, len, b0, sd)) (hct : ct ≤ 1) {f : Nat → Int32} (h : ∀ j, f j = iI (M k0 j)) : wc P n M k0 = .inl (P.2.2 ct, len, .inl f) := by
  unfold wc
  rw [hs]
  simp only [wcS, hct, if_true]
  rw [show f = fun j => iI (M k0 j) from funext h]
theorem g_iast {X : Cq} {cc : ByteArray} {own : String} {R0 : Room} {nL n : Nat} (cx : Cx X cc own R0 nL n) {pc pc2 : Nat} {lv : List (Nat × Value)} {st : List Value} {M : Mm} {k0 len b0 sd : Nat} (hs : shp n k0 = .inl (0, len, b0, sd)) (hk : k0 < n) {z : Int} (h0 : 0 ≤ z) (h1 : z < (len : Int)) (hlen : len ≤ 2147483647) {v : Int} (hd : decode cc pc = .ok (.iastore, 1)) (hp : pc + 1 = pc2) (k : G X pc2 lv st (stM M k0 z.toNat v)) : G X pc lv (.int (iI v) :: .int (iI z) :: .ref k0 :: st) M := by
  obtain ⟨p, l, e, R, s, m, args, below, meth, c, nL2, P, n2, A, cells, slots, Q⟩ := X
  obtain ⟨⟨hx, hb, hml, hown, hts⟩, hK, hA, hAw, hiP, hSg, hlk, hR, hnL, hn, hn1, hn2, hnw⟩ := cx
  subst hp
  intro H locs ls hl hP hS
  refine va_iast hx hb hK hP (wld_D hiP hAw M) hS k0 0 (show (wld P n2 M)[k0]? = some (P.2.1 k0, .inl (P.2.2 0, len, .inl (fun j => iI (M k0 j)))) from by rw [wld_get (hn ▸ hk)]; unfold wc; rw [hn, hs]; rfl) rfl (iI_in h0 h1 hlen) hd (fun H1 locs1 hP1 hD1 hS1 => k H1 locs1 ls hl ?_ hS1)
  rw [iI_clamp (show ir z from ⟨by omega, by omega⟩), wld_set (M2 := stM M k0 z.toNat v) (hn ▸ hk) (wc_row (by rw [hn]; exact hs) (by omega) (fun j => ?_)) (fun i hi => wc_off (stM_off hi))] at hP1
  · exact hP1
  · unfold upd stM
    by_cases hj : j = z.toNat
    · simp [hj]
    · simp [hj]
theorem g_alen {X : Cq} {cc : ByteArray} {own : String} {R0 : Room} {nL n : Nat} (cx : Cx X cc own R0 nL n) {pc pc2 : Nat} {lv : List (Nat × Value)} {st : List Value} {M : Mm} {ct k0 len b0 sd : Nat} (hs : shp n k0 = .inl (ct, len, b0, sd)) (hct : ct ≤ 3) (hk : k0 < n) {v : Int} (hv : (len : Int) = v) (hd : decode cc pc = .ok (.arraylength, 1)) (hp : pc + 1 = pc2) (k : G X pc2 lv (.int (iI v) :: st) M) : G X pc lv (.ref k0 :: st) M := by
  obtain ⟨p, l, e, R, s, m, args, below, meth, c, nL2, P, n2, A, cells, slots, Q⟩ := X
  obtain ⟨⟨hx, hb, hml, hown, hts⟩, hK, hA, hAw, hiP, hSg, hlk, hR, hnL, hn, hn1, hn2, hnw⟩ := cx
  subst hp
  intro H locs ls hl hP hS
  subst hv
  have hty : ∃ ty, (tysP P)[ct]? = some (P.2.2 ct, ty) := by
    rcases (show ct = 0 ∨ ct = 1 ∨ ct = 2 ∨ ct = 3 by omega) with rfl | rfl | rfl | rfl <;> exact ⟨_, rfl⟩
  obtain ⟨ty, hty⟩ := hty
  exact va_alen hx hb hK hP k0 ct (cA := P.2.2 ct) (x := (len, if ct ≤ 1 then .inl (fun j => iI (M k0 j)) else .inr (.inr (.inr (.inr (fun j => some (P.2.1 (b0 + sd * j)))))))) (by rw [wld_get (hn ▸ hk)]; unfold wc; rw [hn, hs]; rfl) hty (v := iI (len : Int)) rfl hd (k H locs ls hl hP hS)
theorem g_getsNL {X : Cq} {cc : ByteArray} {own : String} {R0 : Room} {nL n : Nat} (cx : Cx X cc own R0 nL n) {pc pc2 : Nat} {lv : List (Nat × Value)} {st : List Value} {M : Mm} {idx : Nat} (hlink : Cond.fieldLink own idx "CoatBetween" "NEED_LETTERS" "[C" ∈ gw) (hd : decode cc pc = .ok (.getstatic idx, 3)) (hp : pc + 3 = pc2) (k : G X pc2 lv (.ref 106 :: st) M) : G X pc lv st M := by
  obtain ⟨p, l, e, R, s, m, args, below, meth, c, nL2, P, n2, A, cells, slots, Q⟩ := X
  obtain ⟨⟨hx, hb, hml, hown, hts⟩, hK, hA, hAw, hiP, hSg, hlk, hR, hnL, hn, hn1, hn2, hnw⟩ := cx
  subst hp
  intro H locs ls hl hP hS
  exact va_gets hx hb hSg.1.1 hS hown (hts _ hlink) (fun x h => h) hd (k H locs ls hl hP hS)
theorem g_getsNLN {X : Cq} {cc : ByteArray} {own : String} {R0 : Room} {nL n : Nat} (cx : Cx X cc own R0 nL n) {pc pc2 : Nat} {lv : List (Nat × Value)} {st : List Value} {M : Mm} {idx : Nat} {host : String} (hlink : Cond.fieldLinkNest own idx "CoatBetween" "NEED_LETTERS" "[C" host ∈ nw) (hd : decode cc pc = .ok (.getstatic idx, 3)) (hp : pc + 3 = pc2) (k : G X pc2 lv (.ref 106 :: st) M) : G X pc lv st M := by
  obtain ⟨p, l, e, R, s, m, args, below, meth, c, nL2, P, n2, A, cells, slots, Q⟩ := X
  obtain ⟨⟨hx, hb, hml, hown, hts⟩, hK, hA, hAw, hiP, hSg, hlk, hR, hnL, hn, hn1, hn2, hnw⟩ := cx
  subst hp
  intro H locs ls hl hP hS
  exact va_getsN hx hb hSg.1.1 hS hown (hnw _ hlink) (fun x h => h) hd (k H locs ls hl hP hS)
theorem g_caldNL {X : Cq} {cc : ByteArray} {own : String} {R0 : Room} {nL n : Nat} (cx : Cx X cc own R0 nL n) {pc pc2 : Nat} {lv : List (Nat × Value)} {st : List Value} {M : Mm} {z : Int} (h0 : 0 ≤ z) (h1 : z < 6) (hd : decode cc pc = .ok (.caload, 1)) (hp : pc + 1 = pc2) (k : G X pc2 lv (.int (iI (NLt z.toNat)) :: st) M) : G X pc lv (.int (iI z) :: .ref 106 :: st) M := by
  obtain ⟨p, l, e, R, s, m, args, below, meth, c, nL2, P, n2, A, cells, slots, Q⟩ := X
  obtain ⟨⟨hx, hb, hml, hown, hts⟩, hK, hA, hAw, hiP, hSg, hlk, hR, hnL, hn, hn1, hn2, hnw⟩ := cx
  subst hp
  intro H locs ls hl hP hS
  exact va_tc hx hb hSg.1.2 hS (iI_in h0 h1 (by omega)) rfl hd (by rw [iI_clamp (show ir z from ⟨by omega, by omega⟩)]; exact k H locs ls hl hP hS)
theorem g_slenNL {X : Cq} {cc : ByteArray} {own : String} {R0 : Room} {nL n : Nat} (cx : Cx X cc own R0 nL n) {pc pc2 : Nat} {lv : List (Nat × Value)} {st : List Value} {M : Mm} (hd : decode cc pc = .ok (.arraylength, 1)) (hp : pc + 1 = pc2) (k : G X pc2 lv (.int (iI 6) :: st) M) : G X pc lv (.ref 106 :: st) M := by
  obtain ⟨p, l, e, R, s, m, args, below, meth, c, nL2, P, n2, A, cells, slots, Q⟩ := X
  obtain ⟨⟨hx, hb, hml, hown, hts⟩, hK, hA, hAw, hiP, hSg, hlk, hR, hnL, hn, hn1, hn2, hnw⟩ := cx
  subst hp
  intro H locs ls hl hP hS
  exact va_tlen hx hb hSg.1.2 hS (v := iI 6) rfl hd (k H locs ls hl hP hS)
theorem g_getsRL {X : Cq} {cc : ByteArray} {own : String} {R0 : Room} {nL n : Nat} (cx : Cx X cc own R0 nL n) {pc pc2 : Nat} {lv : List (Nat × Value)} {st : List Value} {M : Mm} {idx : Nat} (hlink : Cond.fieldLink own idx "CoatBetween" "RULE_LETTERS" "[C" ∈ gw) (hd : decode cc pc = .ok (.getstatic idx, 3)) (hp : pc + 3 = pc2) (k : G X pc2 lv (.ref 107 :: st) M) : G X pc lv st M := by
  obtain ⟨p, l, e, R, s, m, args, below, meth, c, nL2, P, n2, A, cells, slots, Q⟩ := X
  obtain ⟨⟨hx, hb, hml, hown, hts⟩, hK, hA, hAw, hiP, hSg, hlk, hR, hnL, hn, hn1, hn2, hnw⟩ := cx
  subst hp
  intro H locs ls hl hP hS
  exact va_gets hx hb hSg.2.1 hS hown (hts _ hlink) (fun x h => h) hd (k H locs ls hl hP hS)
theorem g_getsRLN {X : Cq} {cc : ByteArray} {own : String} {R0 : Room} {nL n : Nat} (cx : Cx X cc own R0 nL n) {pc pc2 : Nat} {lv : List (Nat × Value)} {st : List Value} {M : Mm} {idx : Nat} {host : String} (hlink : Cond.fieldLinkNest own idx "CoatBetween" "RULE_LETTERS" "[C" host ∈ nw) (hd : decode cc pc = .ok (.getstatic idx, 3)) (hp : pc + 3 = pc2) (k : G X pc2 lv (.ref 107 :: st) M) : G X pc lv st M := by
  obtain ⟨p, l, e, R, s, m, args, below, meth, c, nL2, P, n2, A, cells, slots, Q⟩ := X
  obtain ⟨⟨hx, hb, hml, hown, hts⟩, hK, hA, hAw, hiP, hSg, hlk, hR, hnL, hn, hn1, hn2, hnw⟩ := cx
  subst hp
  intro H locs ls hl hP hS
  exact va_getsN hx hb hSg.2.1 hS hown (hnw _ hlink) (fun x h => h) hd (k H locs ls hl hP hS)
theorem g_caldRL {X : Cq} {cc : ByteArray} {own : String} {R0 : Room} {nL n : Nat} (cx : Cx X cc own R0 nL n) {pc pc2 : Nat} {lv : List (Nat × Value)} {st : List Value} {M : Mm} {z : Int} (h0 : 0 ≤ z) (h1 : z < 5) (hd : decode cc pc = .ok (.caload, 1)) (hp : pc + 1 = pc2) (k : G X pc2 lv (.int (iI (RLt z.toNat)) :: st) M) : G X pc lv (.int (iI z) :: .ref 107 :: st) M := by
  obtain ⟨p, l, e, R, s, m, args, below, meth, c, nL2, P, n2, A, cells, slots, Q⟩ := X
  obtain ⟨⟨hx, hb, hml, hown, hts⟩, hK, hA, hAw, hiP, hSg, hlk, hR, hnL, hn, hn1, hn2, hnw⟩ := cx
  subst hp
  intro H locs ls hl hP hS
  exact va_tc hx hb hSg.2.2 hS (iI_in h0 h1 (by omega)) rfl hd (by rw [iI_clamp (show ir z from ⟨by omega, by omega⟩)]; exact k H locs ls hl hP hS)
theorem g_slenRL {X : Cq} {cc : ByteArray} {own : String} {R0 : Room} {nL n : Nat} (cx : Cx X cc own R0 nL n) {pc pc2 : Nat} {lv : List (Nat × Value)} {st : List Value} {M : Mm} (hd : decode cc pc = .ok (.arraylength, 1)) (hp : pc + 1 = pc2) (k : G X pc2 lv (.int (iI 5) :: st) M) : G X pc lv (.ref 107 :: st) M := by
  obtain ⟨p, l, e, R, s, m, args, below, meth, c, nL2, P, n2, A, cells, slots, Q⟩ := X
  obtain ⟨⟨hx, hb, hml, hown, hts⟩, hK, hA, hAw, hiP, hSg, hlk, hR, hnL, hn, hn1, hn2, hnw⟩ := cx
  subst hp
  intro H locs ls hl hP hS
  exact va_tlen hx hb hSg.2.2 hS (v := iI 5) rfl hd (k H locs ls hl hP hS)
def Cs : Cq → Prop
  | (p, l, e, R, s, m, args, below, meth, c, nL, P, n, A, cells, slots, Q) => cells ≤ R.cells ∧ slots ≤ R.slots
theorem catP (P : Pl) : ∀ st : List Value, ((st.map (cz P)).map fun v => v.category).sum = (st.map fun v => v.category).sum
  | [] => rfl
  | v :: vs => by rw [List.map_cons, List.map_cons, List.map_cons, List.sum_cons, List.sum_cons, cz_cat, catP P vs]
theorem g_mmax {X : Cq} {cc : ByteArray} {own : String} {R0 : Room} {nL n : Nat} (cx : Cx X cc own R0 nL n) {pc pc2 : Nat} {lv : List (Nat × Value)} {st : List Value} {M : Mm} {a b : Int} {idx : Nat} (h0 : ir a ∧ ir b) (hlink : Cond.methodLink own idx Lib.Math.max.name ∈ gw) (hw : Cond.static Lib.Math.max.name ∈ gw ∧ Cond.initialized "java/lang/Math" ∈ gw ∧ Cond.code Lib.Math.max.name Lib.Math.max.code 2 (some .int) ∈ gw) (hR0 : 1 ≤ R0.frames ∧ (st.map fun v => v.category).sum + 13 ≤ R0.locals) (hcs : Cs X) (hd : decode cc pc = .ok (.invokestatic idx, 3)) (hp : pc + 3 = pc2) (k : G X pc2 lv (.int (iI (max a b)) :: st) M) : G X pc lv (.int (iI b) :: .int (iI a) :: st) M := by
  obtain ⟨p, l, e, R, s, m, args, below, meth, c, nL2, P, n2, A, cells, slots, Q⟩ := X
  obtain ⟨⟨hx, hb, hml, hown, hts⟩, hK, hA, hAw, hiP, hSg, hlk, hR, hnL, hn, hn1, hn2, hnw⟩ := cx
  obtain ⟨hcl, hsl⟩ := hcs
  subst hp
  intro H locs ls hl hP hS
  have e : (if iI a < iI b then iI b else iI a) = iI (max a b) := by
    by_cases h : a < b
    · rw [if_pos ((iI_lt h0.1 h0.2).mpr h)]; congr 1; omega
    · rw [if_neg (fun q => h ((iI_lt h0.1 h0.2).mp q))]; congr 1; omega
  exact va_mmax hx hb (by rw [hml]; exact hl.1.symm) hown (hts _ hlink) (hts _ hw.1) (hts _ hw.2.1) (hts _ hw.2.2) (hR ▸ hR0.1) (by rw [catP]; exact hR ▸ hR0.2) hcl hsl hd (by rw [e]; exact k H locs ls hl hP hS)
theorem g_mmin {X : Cq} {cc : ByteArray} {own : String} {R0 : Room} {nL n : Nat} (cx : Cx X cc own R0 nL n) {pc pc2 : Nat} {lv : List (Nat × Value)} {st : List Value} {M : Mm} {a b : Int} {idx : Nat} (h0 : ir a ∧ ir b) (hlink : Cond.methodLink own idx Lib.Math.min.name ∈ gw) (hw : Cond.static Lib.Math.min.name ∈ gw ∧ Cond.initialized "java/lang/Math" ∈ gw ∧ Cond.code Lib.Math.min.name Lib.Math.min.code 2 (some .int) ∈ gw) (hR0 : 1 ≤ R0.frames ∧ (st.map fun v => v.category).sum + 13 ≤ R0.locals) (hcs : Cs X) (hd : decode cc pc = .ok (.invokestatic idx, 3)) (hp : pc + 3 = pc2) (k : G X pc2 lv (.int (iI (min a b)) :: st) M) : G X pc lv (.int (iI b) :: .int (iI a) :: st) M := by
  obtain ⟨p, l, e, R, s, m, args, below, meth, c, nL2, P, n2, A, cells, slots, Q⟩ := X
  obtain ⟨⟨hx, hb, hml, hown, hts⟩, hK, hA, hAw, hiP, hSg, hlk, hR, hnL, hn, hn1, hn2, hnw⟩ := cx
  obtain ⟨hcl, hsl⟩ := hcs
  subst hp
  intro H locs ls hl hP hS
  have e : (if iI b < iI a then iI b else iI a) = iI (min a b) := by
    by_cases h : b < a
    · rw [if_pos ((iI_lt h0.2 h0.1).mpr h)]; congr 1; omega
    · rw [if_neg (fun q => h ((iI_lt h0.2 h0.1).mp q))]; congr 1; omega
  exact va_mmin hx hb (by rw [hml]; exact hl.1.symm) hown (hts _ hlink) (hts _ hw.1) (hts _ hw.2.1) (hts _ hw.2.2) (hR ▸ hR0.1) (by rw [catP]; exact hR ▸ hR0.2) hcl hsl hd (by rw [e]; exact k H locs ls hl hP hS)
theorem g_mabs {X : Cq} {cc : ByteArray} {own : String} {R0 : Room} {nL n : Nat} (cx : Cx X cc own R0 nL n) {pc pc2 : Nat} {lv : List (Nat × Value)} {st : List Value} {M : Mm} {a : Int} {idx : Nat} (h0 : ir a) (hlink : Cond.methodLink own idx Lib.Math.abs.name ∈ gw) (hw : Cond.static Lib.Math.abs.name ∈ gw ∧ Cond.initialized "java/lang/Math" ∈ gw ∧ Cond.code Lib.Math.abs.name Lib.Math.abs.code 1 (some .int) ∈ gw) (hR0 : 1 ≤ R0.frames ∧ (st.map fun v => v.category).sum + 13 ≤ R0.locals) (hcs : Cs X) (hd : decode cc pc = .ok (.invokestatic idx, 3)) (hp : pc + 3 = pc2) (k : G X pc2 lv (.int (iI (if 0 ≤ a then a else -a)) :: st) M) : G X pc lv (.int (iI a) :: st) M := by
  obtain ⟨p, l, e, R, s, m, args, below, meth, c, nL2, P, n2, A, cells, slots, Q⟩ := X
  obtain ⟨⟨hx, hb, hml, hown, hts⟩, hK, hA, hAw, hiP, hSg, hlk, hR, hnL, hn, hn1, hn2, hnw⟩ := cx
  obtain ⟨hcl, hsl⟩ := hcs
  subst hp
  intro H locs ls hl hP hS
  have e : (if (0 : Int32) ≤ iI a then iI a else 0 - iI a) = iI (if 0 ≤ a then a else -a) := by
    by_cases h : 0 ≤ a
    · rw [if_pos ((iI_ge0 h0).mpr h), if_pos h]
    · rw [if_neg (fun q => h ((iI_ge0 h0).mp q)), if_neg h, iI_0, iI_sub, Int.zero_sub]
  exact va_mabs hx hb (by rw [hml]; exact hl.1.symm) hown (hts _ hlink) (hts _ hw.1) (hts _ hw.2.1) (hts _ hw.2.2) (hR ▸ hR0.1) (by rw [catP]; exact hR ▸ hR0.2) hcl hsl hd (by rw [e]; exact k H locs ls hl hP hS)
theorem shp_int {P : Pl} {n : Nat} {M : Mm} {k0 len b0 sd : Nat} (hs : shp n k0 = .inl (0, len, b0, sd)) (hk : k0 < n) : (wld P n M)[k0]? = some (P.2.1 k0, .inl (P.2.2 0, len, .inl (fun j => iI (M k0 j)))) := by
  rw [wld_get hk]; unfold wc; rw [hs]; rfl
/-- n places of one row come to another one's -/
def cpM (M : Mm) (k0 k1 sp dp n : Nat) : Mm := fun a b => if a = k1 ∧ dp ≤ b ∧ b < dp + n then M k0 (sp + (b - dp)) else M a b
theorem g_acopy {X : Cq} {cc : ByteArray} {own : String} {R0 : Room} {nL n : Nat} (cx : Cx X cc own R0 nL n) {pc pc2 : Nat} {lv : List (Nat × Value)} {st : List Value} {M : Mm} {k0 k1 l0 l1 b0 b1 s0 s1 idx : Nat} (hs0 : shp n k0 = .inl (0, l0, b0, s0)) (hs1 : shp n k1 = .inl (0, l1, b1, s1)) (hk0 : k0 < n) (hk1 : k1 < n) {sp dp q : Int} (h1 : 0 ≤ sp) (h2 : 0 ≤ dp) (h3 : 0 ≤ q) (h4 : sp + q ≤ (l0 : Int)) (h5 : dp + q ≤ (l1 : Int)) (hlen : l0 ≤ 100000 ∧ l1 ≤ 100000) (hlink : Cond.methodLink own idx arraycopyName ∈ gw) (hw : Cond.native arraycopyName ∈ gw ∧ Cond.static arraycopyName ∈ gw ∧ Cond.initialized "java/lang/System" ∈ gw) (hR0 : 1 ≤ R0.frames ∧ (st.map fun v => v.category).sum + (nativeFrameWords "java/lang/System" "arraycopy" 5 + 11) ≤ R0.locals) (hd : decode cc pc = .ok (.invokestatic idx, 3)) (hp : pc + 3 = pc2) (k : G X pc2 lv st (cpM M k0 k1 sp.toNat dp.toNat q.toNat)) : G X pc lv (.int (iI q) :: .int (iI dp) :: .ref k1 :: .int (iI sp) :: .ref k0 :: st) M := by
  obtain ⟨p, l, e, R, s, m, args, below, meth, c, nL2, P, n2, A, cells, slots, Q⟩ := X
  obtain ⟨⟨hx, hb, hml, hown, hts⟩, hK, hA, hAw, hiP, hSg, hlk, hR, hnL, hn, hn1, hn2, hnw⟩ := cx
  subst hp
  intro H locs ls hl hP hS
  have r1 : ir sp := ⟨by omega, by omega⟩
  have r2 : ir dp := ⟨by omega, by omega⟩
  have r3 : ir q := ⟨by omega, by omega⟩
  refine va_copyi hx hb (by rw [hml]; exact hl.1.symm) hown (hts _ hlink) (hts _ hw.1) (hts _ hw.2.1) (hts _ hw.2.2) hK hP (wld_D hiP hAw M) hS k0 k1 0 0 (shp_int (hn ▸ hs0) (hn ▸ hk0)) (shp_int (hn ▸ hs1) (hn ▸ hk1)) rfl rfl rfl (fun z => by have := (iI_lt0 r1).mp z; omega) (fun z => by have := (iI_lt0 r2).mp z; omega) (fun z => by have := (iI_lt0 r3).mp z; omega) (by rw [iI_clamp r1, iI_clamp r3]; omega) (by rw [iI_clamp r2, iI_clamp r3]; omega) (fun i _ => rfl) (hR ▸ hR0.1) (by rw [catP]; exact hR ▸ hR0.2) hd (fun H1 locs1 hP1 hD1 hS1 => k H1 locs1 ls hl ?_ hS1)
  rw [iI_clamp r1, iI_clamp r2, iI_clamp r3, wld_set (M2 := cpM M k0 k1 sp.toNat dp.toNat q.toNat) (hn ▸ hk1) (wc_row (by rw [hn]; exact hs1) (by omega) (fun j => ?_)) (fun i hi => wc_off (by funext b; simp [cpM, hi]))] at hP1
  · exact hP1
  · unfold va_cpy cpM
    by_cases hj : dp.toNat ≤ j ∧ j < dp.toNat + q.toNat
    · simp [hj]
    · simp only [hj, and_false, if_false]
/-- what a method gives: an answer and a new state of the system; nothing else that was there changes -/
def QC (P : Pl) (n sz : Nat) (post : Option Value → Mm → Prop) : Array Value → State → Outcome → State → Prop := fun _ st oc t => (∃ (r : Option Value) (M2 : Mm), oc = .returned (r.map (cz P)) ∧ post r M2 ∧ va_P P.1 vwCl (wld P n M2) t.heap) ∧ va_F (aA P n sz) st t
def Qx : Cq → (Option Value → Mm → Prop) → Option FieldType → Prop
  | (p, l, e, R, s, m, args, below, meth, c, nL, P, n, A, cells, slots, Q), post, rt => Q = MQ below (QC P n s.heap.size post) args s cells slots A ∧ A = aA P n s.heap.size ∧ meth.sig.returnType = rt
theorem g_iret {X : Cq} {cc : ByteArray} {own : String} {R0 : Room} {nL n : Nat} (cx : Cx X cc own R0 nL n) {pc : Nat} {lv : List (Nat × Value)} {M : Mm} {post : Option Value → Mm → Prop} {z : Int} (qx : Qx X post (some .int)) (hd : decode cc pc = .ok (.ireturn, 1)) (h : post (some (.int (iI z))) M) : G X pc lv [.int (iI z)] M := by
  obtain ⟨p, l, e, R, s, m, args, below, meth, c, nL2, P, n2, A, cells, slots, Q⟩ := X
  obtain ⟨⟨hx, hb, hml, hown, hts⟩, hK, hA, hAw, hiP, hSg, hlk, hR, hnL, hn, hn1, hn2, hnw⟩ := cx
  obtain ⟨rfl, rfl, hrt⟩ := qx
  intro H locs ls hl hP hS
  exact W.iret hx hb hrt (fun t ht hW => ⟨⟨some (.int (iI z)), M, rfl, h, by rw [ht]; exact hP⟩, hS.F ht⟩) hS.2.2 hd hlk
theorem g_zret {X : Cq} {cc : ByteArray} {own : String} {R0 : Room} {nL n : Nat} (cx : Cx X cc own R0 nL n) {pc : Nat} {lv : List (Nat × Value)} {M : Mm} {post : Option Value → Mm → Prop} {z : Int} (hz : z = 0 ∨ z = 1) (qx : Qx X post (some .boolean)) (hd : decode cc pc = .ok (.ireturn, 1)) (h : post (some (.int (iI z))) M) : G X pc lv [.int (iI z)] M := by
  obtain ⟨p, l, e, R, s, m, args, below, meth, c, nL2, P, n2, A, cells, slots, Q⟩ := X
  obtain ⟨⟨hx, hb, hml, hown, hts⟩, hK, hA, hAw, hiP, hSg, hlk, hR, hnL, hn, hn1, hn2, hnw⟩ := cx
  obtain ⟨rfl, rfl, hrt⟩ := qx
  intro H locs ls hl hP hS
  exact W.zret hx hb hrt (by rcases hz with rfl | rfl <;> rfl) (fun t ht hW => ⟨⟨some (.int (iI z)), M, rfl, h, by rw [ht]; exact hP⟩, hS.F ht⟩) hS.2.2 hd hlk
theorem g_lret {X : Cq} {cc : ByteArray} {own : String} {R0 : Room} {nL n : Nat} (cx : Cx X cc own R0 nL n) {pc : Nat} {lv : List (Nat × Value)} {M : Mm} {post : Option Value → Mm → Prop} {z : Int} (qx : Qx X post (some .long)) (hd : decode cc pc = .ok (.lreturn, 1)) (h : post (some (.long (lI z))) M) : G X pc lv [.long (lI z)] M := by
  obtain ⟨p, l, e, R, s, m, args, below, meth, c, nL2, P, n2, A, cells, slots, Q⟩ := X
  obtain ⟨⟨hx, hb, hml, hown, hts⟩, hK, hA, hAw, hiP, hSg, hlk, hR, hnL, hn, hn1, hn2, hnw⟩ := cx
  obtain ⟨rfl, rfl, hrt⟩ := qx
  intro H locs ls hl hP hS
  exact W.lret hx hb hrt (fun t ht hW => ⟨⟨some (.long (lI z)), M, rfl, h, by rw [ht]; exact hP⟩, hS.F ht⟩) hS.2.2 hd hlk
theorem g_vret {X : Cq} {cc : ByteArray} {own : String} {R0 : Room} {nL n : Nat} (cx : Cx X cc own R0 nL n) {pc : Nat} {lv : List (Nat × Value)} {M : Mm} {post : Option Value → Mm → Prop}  (qx : Qx X post none) (hd : decode cc pc = .ok (.return_, 1)) (h : post none M) : G X pc lv [] M := by
  obtain ⟨p, l, e, R, s, m, args, below, meth, c, nL2, P, n2, A, cells, slots, Q⟩ := X
  obtain ⟨⟨hx, hb, hml, hown, hts⟩, hK, hA, hAw, hiP, hSg, hlk, hR, hnL, hn, hn1, hn2, hnw⟩ := cx
  obtain ⟨rfl, rfl, hrt⟩ := qx
  intro H locs ls hl hP hS
  exact W.vret hx hb hrt (fun t ht hW => ⟨⟨none, M, rfl, h, by rw [ht]; exact hP⟩, hS.F ht⟩) hS.2.2 hd hlk
theorem g_aret {X : Cq} {cc : ByteArray} {own : String} {R0 : Room} {nL n : Nat} (cx : Cx X cc own R0 nL n) {pc : Nat} {lv : List (Nat × Value)} {M : Mm} {post : Option Value → Mm → Prop} {v : Value} {C : String} (hv : v = .null ∨ ∃ k0, v = .ref k0) (qx : Qx X post (some (.object C))) (hd : decode cc pc = .ok (.areturn, 1)) (h : post (some v) M) : G X pc lv [v] M := by
  obtain ⟨p, l, e, R, s, m, args, below, meth, c, nL2, P, n2, A, cells, slots, Q⟩ := X
  obtain ⟨⟨hx, hb, hml, hown, hts⟩, hK, hA, hAw, hiP, hSg, hlk, hR, hnL, hn, hn1, hn2, hnw⟩ := cx
  obtain ⟨rfl, rfl, hrt⟩ := qx
  intro H locs ls hl hP hS
  exact W.aret hx hb hrt (Or.inl ⟨_, rfl⟩) (by rcases hv with rfl | ⟨k0, rfl⟩; exact Or.inl rfl; exact Or.inr ⟨_, rfl⟩) (fun t ht hW => ⟨⟨some v, M, rfl, h, by rw [ht]; exact hP⟩, hS.F ht⟩) hS.2.2 hd hlk
def CPre (P : Pl) (n : Nat) (M : Mm) (sz : Nat) : State → Prop := fun U => U.heap.size = sz ∧ va_P P.1 vwCl (wld P n M) U.heap ∧ va_K P.1 vwCl (tysP P) U ∧ Sg P (aA P n sz) U ∧ NwU U
/-- a method's contract: from the state M, with these arguments, it comes to an answer and a state with 'post' -/
def CT (y : MethodName) (b : ByteArray) (mL : Nat) (rt : Option FieldType) (rm : Room) (n : Nat) (av : List Value) (M : Mm) (post : Option Value → Mm → Prop) : Prop := ∀ (l : Launch) (P : Pl) (sz : Nat), iP P n → Met l y (.code y b mL rt :: gw) rm (va_Pc (av.map (cz P)) (CPre P n M sz)) (QC P n sz post) 0 0 (aA P n sz)
theorem CT.of {y : MethodName} {b : ByteArray} {mL : Nat} {rt : Option FieldType} {rm : Room} {n : Nat} {av : List Value} {M : Mm} {post : Option Value → Mm → Prop} {lv0 : List (Nat × Value)} (hy : plainName y.cls = true) (hn : 77 ≤ n ∧ n ≤ 79) (hlv : ∀ P : Pl, lv_args 0 (av.map (cz P)) = lv0.map fun q => (q.1, cz P q.2)) (hlen : ∀ P : Pl, (lg_sl (av.map (cz P))).length ≤ mL)
    (k : ∀ X : Cq, Cx X b y.cls rm mL n → Cs X → Qx X post rt → G X 0 lv0 [] M) : CT y b mL rt rm n av M post := by
  intro l P sz hiP
  refine Met.ofW (cc := b) (maxL := mL) (ret := rt) hy rfl ?_
  intro p e s m args below meth c s₁ B hml hv
  obtain ⟨rfl, hsz, hP, hK, hSg, hNw⟩ := hv
  have hts := atoms_spec (ws := Cond.code y b mL rt :: gw) B.pre
  have hown : s.vm.findClass y.cls = some m.cls := findClass_of_methodNamed B.named
  subst hsz
  rw [lg_entry_eq]
  have hl := lv_entry (av.map (cz P)) (n := mL) (hlen P)
  rw [hlv P] at hl
  exact k (p, l, e, rm, s, m, (av.map (cz P)).toArray, below, meth, c, mL, P, n, aA P n s.heap.size, 0, 0, MQ below (QC P n s.heap.size post) (av.map (cz P)).toArray s 0 0 (aA P n s.heap.size))
    ⟨⟨B.exec, B.bytes, hml, hown, fun w hw => hts w (List.mem_cons_of_mem _ hw)⟩, hK, fun q h => Or.inr h, fun k hk => Or.inl ⟨k, hk, rfl⟩, hiP, hSg, B.notSynchronized, rfl, rfl, rfl, hn.1, hn.2, NwU_use hNw⟩ ⟨Nat.zero_le _, Nat.zero_le _⟩ ⟨rfl, rfl, B.returns⟩ s.heap [] _ hl hP va_S.rf
theorem CT.to {y : MethodName} {b : ByteArray} {mL : Nat} {rt : Option FieldType} {rm : Room} {n : Nat} {av : List Value} {M : Mm} {post post2 : Option Value → Mm → Prop} (h : CT y b mL rt rm n av M post) (hp : ∀ r M2, post r M2 → post2 r M2) : CT y b mL rt rm n av M post2 := by
  intro l P sz hiP
  intro p e ha hc hk s m args below hf hn hpre hkk
  obtain ⟨k, o, h1, h2, h3, ⟨⟨r, M2, q1, q2, q3⟩, q4⟩, q5⟩ := h l P sz hiP p e ha hc hk s m args below hf hn hpre hkk
  exact ⟨k, o, h1, h2, h3, ⟨⟨r, M2, q1, hp r M2 q2, q3⟩, q4⟩, q5⟩
theorem gw_good {ws : List Cond} (h : ∀ w ∈ ws, w ∈ gw) : GoodIn gw ws := fun w hw => ⟨h w hw, good_of_word (List.mem_filter.mp (h w hw)).2⟩
/-- what a call needs of the tables, of the called method alone -/
def wM (y : MethodName) (b : ByteArray) (mL : Nat) (rt : Option FieldType) (cnt : Nat) : Prop := (Cond.initialized y.cls ∈ gw ∧ Cond.code y b mL rt ∈ gw) ∧ y.cls ≠ "java/lang/invoke/MethodHandle" ∧ y.cls ≠ "java/lang/invoke/VarHandle" ∧ (parseMethodDescriptor y.desc).map (fun d => d.parameters.length) = some cnt
def wV (y : MethodName) : Prop := Cond.instanceMethod y ∈ gw ∧ Cond.selects y.cls y y ∈ gw
theorem cp_blind {P : Pl} {n sz : Nat} {M : Mm} {av : List Value} : FrameBlind (va_Pc av (CPre P n M sz)) := fun a U g mk q => ⟨q.1, q.2.1, q.2.2.1, va_K.moved (u := U) (U := U.calling g mk a) (Vm.Alike.refl U.vm) q.2.2.2.1, Sg_to (u := U) (U := U.calling g mk a) (Vm.Alike.refl U.vm) (fun _ _ _ => rfl) (fun _ h => h) q.2.2.2.2.1, NwU_same (u := U) (U := U.calling g mk a) rfl q.2.2.2.2.2⟩
theorem aA_sub {P : Pl} {n : Nat} {A : Nat → Prop} {s : State} {H : Heap} {locs : List Loc} (hA : ∀ q, s.heap.size ≤ q → A q) (hAw : ∀ k, k < n → A (P.2.1 k)) (hS : va_S A s.heap H locs) : ∀ q, aA P n H.size q → A q := by
  intro q h
  rcases h with ⟨k, hk, rfl⟩ | h
  · exact hAw k hk
  · exact hA q (Nat.le_trans hS.1 h)
theorem g_cont {p : Program} {l : Launch} {e : Env} {R : Room} {s : State} {m : MethodId} {args : Array Value} {below : List Frame} {meth : Method} {c : Code} {H : Heap} {locs : List Loc} {cells slots : Nat} {Q : State → Prop} {pc n : Nat} {P : Pl} {A : Nat → Prop} {ls : Array Slot} {rest st0 : List Value} {a : Array Value} {post : Option Value → Mm → Prop}
    (hr : va_Run p l e R s m args below meth c H locs cells slots 0 0 (F0 m pc ls st0) rest (QC P n H.size post a) (aA P n H.size)) (hS : va_S A s.heap H locs) (hAA : ∀ q, aA P n H.size q → A q)
    (kk : ∀ (r : Option Value) (M2 : Mm) (H1 : Heap) (locs1 : List Loc), post r M2 → va_P P.1 vwCl (wld P n M2) H1 → va_S A s.heap H1 locs1 → W p l e R s m args below meth c H1 locs1 cells slots Q (F0 m (pc + 3) ls ((r.map (cz P)).toList ++ rest))) : W p l e R s m args below meth c H locs cells slots Q (F0 m pc ls st0) := by
  intro T hT X
  obtain ⟨v, st₀, t, T', L, h0, X', hL, e1, e2, ⟨⟨r, M2, hv, hp, hb⟩, hz, hk⟩, st⟩ := hr T hT X
  cases hv
  rw [h0] at hz hk
  obtain ⟨t2, a1, b1⟩ := kk r M2 T'.heap (locs ++ L) hp (by rw [e1]; exact hb)
    ⟨Nat.le_trans hS.1 (by rw [e1]; exact hz), fun q h1 h2 => by rw [e1, hk q (Nat.lt_of_lt_of_le h1 hS.1) (fun z => h2 (hAA q z))]; exact hS.2.1 q h1 h2, fun q hq => by
      rcases List.mem_append.mp hq with h | h
      · exact hS.2.2 q h
      · exact hAA _ (hL q h)⟩ T' rfl X'
  exact ⟨t2, st t2 a1, b1⟩
theorem g_pre {s : State} {H : Heap} {locs : List Loc} {n : Nat} {P : Pl} {A : Nat → Prop} {M : Mm} (hK : va_K P.1 vwCl (tysP P) s) (hSg : Sg P A s) (hNw : NwU s) (hP : va_P P.1 vwCl (wld P n M) H) (hS : va_S A s.heap H locs) (hAA : ∀ q, aA P n H.size q → A q) (U : State) (hU : U.heap = H) (hW : s.WarmedH U.vm) : CPre P n M H.size U :=
  ⟨by rw [hU], by rw [hU]; exact hP, va_K.moved hW.alike hK, Sg_to hW.alike (fun a h1 h2 => by rw [hU]; exact hS.2.1 a h1 h2) hAA hSg, NwU_warm hW hNw⟩
theorem g_callV {X : Cq} {cc : ByteArray} {own : String} {R0 : Room} {nL n : Nat} (cx : Cx X cc own R0 nL n) {pc pc2 : Nat} {lv : List (Nat × Value)} {st : List Value} {M : Mm} {y : MethodName} {b : ByteArray} {mL cnt idx : Nat} {rt : Option FieldType} {rm : Room} {post : Option Value → Mm → Prop} {As st0 : List Value} {k0 ci N : Nat} {fs : List (Nat × Nat)} {T : u_T} (hC : CT y b mL rt rm n (.ref k0 :: As) M post) (hw : wM y b mL rt cnt) (hv : wV y) (hl0 : Cond.methodLink own idx y ∈ gw) (hs : shp n k0 = .inr (ci, fs)) (hk : k0 < n) (hc : vwCl[ci]? = some (y.cls, T, N)) (hrm : rm.cells = 0 ∧ rm.slots = 0 ∧ rm.frames + 1 ≤ R0.frames ∧ 8 + (mL + 11) + rm.locals ≤ R0.locals) (hcat : (st.map fun v => v.category).sum ≤ 8) (hcs : Cs X) (hcnt : As.length = cnt) (hst : st0 = As.reverse ++ .ref k0 :: st) (hd : decode cc pc = .ok (.invokevirtual idx, 3)) (hp : pc + 3 = pc2) (kk : ∀ (r : Option Value) (M2 : Mm), post r M2 → G X pc2 lv (r.toList ++ st) M2) : G X pc lv st0 M := by
  obtain ⟨p, l, e, R, s, m, args, below, meth, c, nL2, P, n2, A, cells, slots, Q⟩ := X
  obtain ⟨⟨hx, hb, hml, hown, hts⟩, hK, hA, hAw, hiP, hSg, hlk, hR, hnL, hn, hn1, hn2, hnw⟩ := cx
  obtain ⟨hcl, hsl⟩ := hcs
  subst hp
  subst hst
  subst hn
  subst hR
  intro H locs ls hl hP hS
  have hAA := aA_sub hA hAw hS
  refine g_cont (post := post) (rest := st.map (cz P)) (va_runV (As := As.map (cz P)) (b := P.2.1 k0) (C := y.cls) ⟨hx, hb, hml, hown, hts⟩ (hC l P H.size hiP) (cwV cnt hts (gw_good (ws := wsV own idx y.cls y (Cond.code y b mL rt :: gw)) ?_) rfl hrm.1 hrm.2.1 ⟨rfl, hw.2⟩ hrm.2.2) ⟨cp_blind, va_recv hK hP hc (q0 := k0) (by rw [wld_get hk]; unfold wc; rw [hs]; rfl), fun U hU hW => ⟨rfl, g_pre hK hSg (NwU_of hnw) hP hS hAA U hU hW⟩⟩ rfl (by rw [List.length_map]; exact hcnt) hl.1 (by rw [List.map_append, List.map_reverse]; rfl) (lv_room (by rw [catP]; exact hcat)) hd ⟨by omega, by omega⟩) hS hAA (fun r M2 H1 locs1 hpo hP1 hS1 => by
    have := kk r M2 hpo H1 locs1 ls hl hP1 hS1
    rw [List.map_append] at this
    cases r <;> exact this)
  intro w hw2
  simp only [wsV, List.cons_append, List.nil_append, List.mem_cons] at hw2
  rcases hw2 with rfl | rfl | rfl | rfl | rfl | hw2
  · exact hl0
  · exact hv.1
  · exact hv.2
  · exact hw.1.1
  · exact hw.1.2
  · exact hw2
theorem g_callS {X : Cq} {cc : ByteArray} {own : String} {R0 : Room} {nL n : Nat} (cx : Cx X cc own R0 nL n) {pc pc2 : Nat} {lv : List (Nat × Value)} {st : List Value} {M : Mm} {y : MethodName} {b : ByteArray} {mL cnt idx : Nat} {rt : Option FieldType} {rm : Room} {post : Option Value → Mm → Prop} {As st0 : List Value} (hC : CT y b mL rt rm n As M post) (hw : wM y b mL rt cnt) (hv : Cond.static y ∈ gw) (hl0 : Cond.methodLink own idx y ∈ gw) (hrm : rm.cells = 0 ∧ rm.slots = 0 ∧ rm.frames + 1 ≤ R0.frames ∧ 8 + (mL + 11) + rm.locals ≤ R0.locals) (hcat : (st.map fun v => v.category).sum ≤ 8) (hcs : Cs X) (hcnt : As.length = cnt) (hst : st0 = As.reverse ++ st) (hd : decode cc pc = .ok (.invokestatic idx, 3)) (hp : pc + 3 = pc2) (kk : ∀ (r : Option Value) (M2 : Mm), post r M2 → G X pc2 lv (r.toList ++ st) M2) : G X pc lv st0 M := by
  obtain ⟨p, l, e, R, s, m, args, below, meth, c, nL2, P, n2, A, cells, slots, Q⟩ := X
  obtain ⟨⟨hx, hb, hml, hown, hts⟩, hK, hA, hAw, hiP, hSg, hlk, hR, hnL, hn, hn1, hn2, hnw⟩ := cx
  obtain ⟨hcl, hsl⟩ := hcs
  subst hp
  subst hst
  subst hn
  subst hR
  intro H locs ls hl hP hS
  have hAA := aA_sub hA hAw hS
  refine g_cont (post := post) (rest := st.map (cz P)) (va_runS (As := As.map (cz P)) ⟨hx, hb, hml, hown, hts⟩ (hC l P H.size hiP) (va_cwS cnt hts (gw_good (ws := va_wsS own idx y (Cond.code y b mL rt :: gw)) ?_) rfl hrm.1 hrm.2.1 hw.2 hrm.2.2) ⟨cp_blind, fun U hU hW => ⟨rfl, g_pre hK hSg (NwU_of hnw) hP hS hAA U hU hW⟩⟩ rfl (by rw [List.length_map]; exact hcnt) hl.1 (by rw [List.map_append, List.map_reverse]) (lv_room (by rw [catP]; exact hcat)) hd ⟨by omega, by omega⟩) hS hAA (fun r M2 H1 locs1 hpo hP1 hS1 => by
    have := kk r M2 hpo H1 locs1 ls hl hP1 hS1
    rw [List.map_append] at this
    cases r <;> exact this)
  intro w hw2
  simp only [va_wsS, List.cons_append, List.nil_append, List.mem_cons] at hw2
  rcases hw2 with rfl | rfl | rfl | rfl | hw2
  · exact hl0
  · exact hv
  · exact hw.1.1
  · exact hw.1.2
  · exact hw2
theorem g_callSN {X : Cq} {cc : ByteArray} {own : String} {R0 : Room} {nL n : Nat} (cx : Cx X cc own R0 nL n) {pc pc2 : Nat} {lv : List (Nat × Value)} {st : List Value} {M : Mm} {y : MethodName} {b : ByteArray} {mL cnt idx : Nat} {rt : Option FieldType} {rm : Room} {post : Option Value → Mm → Prop} {As st0 : List Value} {host : String} (hC : CT y b mL rt rm n As M post) (hw : wM y b mL rt cnt) (hv : Cond.static y ∈ gw) (hl0 : Cond.methodLinkNest own idx y host ∈ nw) (hrm : rm.cells = 0 ∧ rm.slots = 0 ∧ rm.frames + 1 ≤ R0.frames ∧ 8 + (mL + 11) + rm.locals ≤ R0.locals) (hcat : (st.map fun v => v.category).sum ≤ 8) (hcs : Cs X) (hcnt : As.length = cnt) (hst : st0 = As.reverse ++ st) (hd : decode cc pc = .ok (.invokestatic idx, 3)) (hp : pc + 3 = pc2) (kk : ∀ (r : Option Value) (M2 : Mm), post r M2 → G X pc2 lv (r.toList ++ st) M2) : G X pc lv st0 M := by
  obtain ⟨p, l, e, R, s, m, args, below, meth, c, nL2, P, n2, A, cells, slots, Q⟩ := X
  obtain ⟨⟨hx, hb, hml, hown, hts⟩, hK, hA, hAw, hiP, hSg, hlk, hR, hnL, hn, hn1, hn2, hnw⟩ := cx
  obtain ⟨hcl, hsl⟩ := hcs
  subst hp
  subst hst
  subst hn
  subst hR
  intro H locs ls hl hP hS
  have hAA := aA_sub hA hAw hS
  refine g_cont (post := post) (rest := st.map (cz P)) (va_runSN (As := As.map (cz P)) (host := host) ⟨hx, hb, hml, hown, hts⟩ (hC l P H.size hiP) ⟨va_cnB cnt hts (gw_good (ws := Cond.code y b mL rt :: gw) ?_) rfl hrm.1 hrm.2.1 (va_Nw.of rfl (hnw _ hl0)) (hts _ hw.1.1) hw.2 hrm.2.2, hts _ hv, trivial⟩ ⟨cp_blind, fun U hU hW => ⟨rfl, g_pre hK hSg (NwU_of hnw) hP hS hAA U hU hW⟩⟩ rfl (by rw [List.length_map]; exact hcnt) hl.1 (by rw [List.map_append, List.map_reverse]) (lv_room (by rw [catP]; exact hcat)) hd ⟨by omega, by omega⟩) hS hAA (fun r M2 H1 locs1 hpo hP1 hS1 => by
    have := kk r M2 hpo H1 locs1 ls hl hP1 hS1
    rw [List.map_append] at this
    cases r <;> exact this)
  intro w hw2
  rcases List.mem_cons.mp hw2 with rfl | hw2
  · exact hw.1.2
  · exact hw2
