/-! THE CLAIM OUT OF ONE WALK OF THE LAW'S BODY. Your part is whole_start (and what it stands on); all else here is the same for every law, but numbers. -/
def R_law : String := "CoatBetweenLaw"
def lw_P (b : Addr) (xs : List Int32) (args : Array Value) (s : State) : Prop := args = #[.ref b] ∧ s.IntsAt b xs ∧ xs.length ≤ 260 ∧ (Jvm.Cond.and given_1 narrow_1).before args s = true
def lw_Q (_ : Array Value) (s : State) (o : Outcome) (t : State) : Prop := o = .returned (some (.int 1)) ∧ Framed s o t [] 600000 7302250
def lw_Z (below : List Frame) (a : Array Value) (s : State) : State → Prop := fun t => ∃ o, t.status = .running ∧ Ended t below o ∧ lw_Q a s o t
/-- the law's own end, with 1 on the stack, nothing written that was there before, its room as the claim has it -/
theorem lw_ret {p : Program} {l : Launch} {e : Env} {s : State} {m : MethodId} {below : List Frame} {meth : Method} {c : Code} {b : Nat} (hx : p.tables.exec = Jvm.exec) (hb : c.code = code) (hr : meth.sig.returnType = ret) (hlocks : meth.locks = false) {pc : Nat} {H : Heap} {ls : Array Slot} (hdg : decode code pc = .ok (.ireturn, 1)) : W p l e room_1 s m #[Value.ref b] below meth c H [] 600000 7302250 (lw_Z below #[Value.ref b] s) (F0 m pc ls [.int 1]) := by
  intro T hT X
  obtain ⟨fs, hret, hrun, hended, hW, hframe⟩ := X.leave (v := some (.int 1)) (hlocks := hlocks) (fun h => by rw [hr] at h; cases h)
  have hmeth' : T.vm.method? m = some meth := X.method'
  refine ⟨T.setFrames fs, ?_, .returned (some (.int 1)), hrun, hended, rfl, ⟨_, rfl⟩, hW, hframe⟩
  jvm_step X.here [X.here.top, hx, hb, hdg, hmeth', hr, ret, narrow_b1]
  (try refine ⟨rfl, ?_⟩); (try refine ⟨rfl, ?_⟩)
  first | (intro acts; rw [hret _ acts rfl rfl rfl]) | rw [hret _ _ rfl rfl rfl]
  exact Steps.refl _
/-- what holds at the law's entry: the machine, the code, the tables' words (any of lw_tbl by 'hts w (by decide +kernel)'), the script of L ints xs at the cell b, what the Statement gives of the start (any of its parts by flat_of_before) -/
def lw_At (p : Program) (s : State) (m : MethodId) (meth : Method) (c : Code) (b L : Nat) (xs : Nat → Int32) : Prop :=
  p.tables.exec = Jvm.exec ∧ c.code = code ∧ meth.sig.returnType = ret ∧ c.maxLocals = 18 ∧ s.vm.findClass R_law = some m.cls ∧ (∀ w ∈ lw_tbl, w.before #[Value.ref b] s = true) ∧ va_X b L xs s s.heap ∧ b < s.heap.size ∧ meth.locks = false ∧ (Jvm.Cond.and given_1 narrow_1).before #[Value.ref b] s = true
/-- the end's frame -/
def Ez : Yq → Prop
  | (p, l, e, R, s, m, args, below, meth, c, nL, P, A, Q) => meth.sig.returnType = ret ∧ (∀ q, A q → s.heap.size ≤ q) ∧ ∃ b : Nat, args = #[Value.ref b] ∧ Q = lw_Z below #[Value.ref b] s
theorem l_end {X : Yq} {P : Pl} (cx : Yx X cL_law RL room_1 18 P) (ez : Ez X) {lv : List (Nat × Value)} {w : va_W} {cs ss : Nat} (h : cs ≤ 600000 ∧ ss ≤ 7302250) : YG X 856 lv [.int (iI 1)] w cs ss := by
  obtain ⟨p, l, e, R, s, m, args, below, meth, c, nL2, P2, A, Q⟩ := X
  obtain ⟨hret, hAs, b, rfl, rfl⟩ := ez
  obtain ⟨⟨hx, hb2, hml, hown, hts⟩, hK, hA, hlk, hR, hnL, hPP, hnw⟩ := cx
  subst hR
  intro H locs ls hl hP hD hS
  exact va_forget (fun q hq => hAs _ (hS.2.2 q hq)) (W.widen (k := 600000) (n := 7302250) (by omega) (by omega) (lw_ret hx hb2 hret hlk dL_law_856))
theorem ys_ar {X : Yq} {cc : ByteArray} {own : String} {R0 : Room} {nL : Nat} {P P1 : Pl} (cx : Yx X cc own R0 nL P) (ys : Ys X P1) {a N : Nat} {V : Nat → Int} : ar P1 a N V = ar P a N V := by
  obtain ⟨p, l, e, R, s, m, args, below, meth, c, nL2, P2, A, Q⟩ := X
  obtain ⟨-, -, -, -, -, -, hPP, -⟩ := cx
  subst hPP
  unfold ar
  rw [ys.2.2]
theorem hcr_of {cs ss : Nat} (h : cs ≤ 599000 ∧ ss ≤ 7300000) : cs ≤ room_1.cells ∧ ss ≤ room_1.slots := by
  show cs ≤ 600000 ∧ ss ≤ 7302250
  omega
theorem GV_0 {V : Nat → Int} (hg : GV V) : 1 ≤ V 0 ∧ V 0 ≤ 5 := by
  have := hg.1.2.1
  omega
set_option maxHeartbeats 4000000 in
set_option maxRecDepth 100000 in
theorem law_E4 {X : Yq} {P : Pl} (cx : Yx X cL_law RL room_1 18 P) {b L : Nat} {xs : Nat → Int32} (sx : Sy X b L xs) (ez : Ez X) {av : Nat} {V : Nat → Int} {P1 : Pl} {w2 : va_W} {cs ss : Nat} (hcs : cs ≤ 600000 ∧ ss ≤ 7302250) : YG X 848 [(0, .ref b), (1, .ref (P1.2.1 0)), (3, .ref av), (5, .int (iI (V 9)))] [.int (iI 1)] (w2) cs ss := by
  refine l_if_eq cx (pc2 := 851) (tgt := 855) ⟨by decide, by decide⟩ dL_law_848 (by decide) rfl (fun h_1 => ?_) (fun h_1 => ?_)
  · skip
    omega
  · skip
    refine l_iconst cx (pc2 := 852) dL_law_851 rfl ?_
    refine l_goto cx (tgt := 856) dL_law_852 (by decide) ?_
    exact l_end cx ez hcs
set_option maxHeartbeats 4000000 in
set_option maxRecDepth 100000 in
theorem law_E3 {X : Yq} {P : Pl} (cx : Yx X cL_law RL room_1 18 P) {b L : Nat} {xs : Nat → Int32} (sx : Sy X b L xs) (ez : Ez X) {P1 : Pl} (ys : Ys X P1) {n : Nat} (hn : NN n) {R : va_W} {av : Nat} {V : Nat → Int} (q0 : Nat) (hV : R[q0]? = some (ar P av 64 V)) (hg : GV V) {cs ss : Nat} (hcs : cs ≤ 599000 ∧ ss ≤ 7300000) {M : Mm} (hT : TI M (V 0) 0 0) : YG X 837 [(0, .ref b), (1, .ref (P1.2.1 0)), (3, .ref av), (5, .int (iI (V 9)))] [.int (iI 1)] (wld P1 n M ++ R) cs ss := by
  have hcr := hcr_of hcs
  have hV1 : R[q0]? = some (ar P1 av 64 V) := by rw [ys_ar cx ys]; exact hV
  have h9 := hg.2.1
  have h32 := (nN_5 hg).2
  have h8 := GV_0 hg
  refine l_if_eq cx (pc2 := 840) (tgt := 855) ⟨by decide, by decide⟩ dL_law_837 (by decide) rfl (fun h_1 => ?_) (fun h_1 => ?_)
  · skip
    omega
  · skip
    refine l_aload_n cx (pc2 := 841) 1 rfl dL_law_840 rfl ?_
    refine l_aload_n cx (pc2 := 842) 0 rfl dL_law_841 rfl ?_
    refine l_aload_n cx (pc2 := 843) 2 rfl dL_law_842 rfl ?_
    refine l_iconst cx (pc2 := 844) dL_law_843 rfl ?_
    refine l_iaload cx (pc2 := 845) (N := 64) (V := V) (n + q0) (wR_get hV) (by first | assumption | omega | exact hg.1.1 _ | exact ⟨by omega, by omega⟩) (by first | assumption | omega | exact hg.1.1 _ | exact ⟨by omega, by omega⟩) (Nat.le_of_ble_eq_true rfl) dL_law_844 rfl ?_
    refine l_rwi (y := iI (V 0)) rfl ?_
    refine l_callS cx (pc2 := 848) (st := []) ys sx (As := [.ref (P1.2.1 0), .ref b, .int (iI (V 0))]) (c_L_tracks hn (V 0) h8 hT) wM_L_tracks wS_L_tracks kl_L_124 ⟨rfl, rfl, Nat.le_of_ble_eq_true rfl, Nat.le_of_ble_eq_true rfl⟩ (Nat.le_of_ble_eq_true rfl) ⟨by show cs + 1 ≤ 600000; omega, by show ss + 28 ≤ 7302250; omega⟩ rfl rfl dL_law_845 rfl ?_
    intro r w2 hr
    have e : r = some (.int (iI 1)) := hr
    subst e
    exact law_E4 cx sx ez ⟨by omega, by omega⟩
theorem TI_of {V : Nat → Int} {M M2 : Mm} (h : ChR V M) (hr : HoR M M2) : TI M2 (V 0) 0 0 := by
  have e23 := hr.2 23 (by decide) (Or.inl (by decide))
  have e73 := hr.2 73 (by decide) (Or.inr ⟨by decide, by decide⟩)
  have z73 : M2 73 2 = 0 := by rw [e73]; exact h.2.1.2.2.2.2
  refine ⟨hr.1, by rw [e23]; exact h.1.1.1, ⟨by rw [e23]; exact h.1.1.2.2, fun j hj => ?_⟩, ⟨z73, Int.le_refl _, by decide⟩, Or.inl rfl, ⟨fun _ j hj => ?_, fun _ => rfl⟩⟩
  · rw [z73] at hj
    exact absurd hj (Nat.not_lt_zero _)
  · exact absurd hj (Nat.not_lt_zero _)
set_option maxHeartbeats 4000000 in
set_option maxRecDepth 100000 in
theorem law_E2 {X : Yq} {P : Pl} (cx : Yx X cL_law RL room_1 18 P) {b L : Nat} {xs : Nat → Int32} (sx : Sy X b L xs) (ez : Ez X) {P1 : Pl} (ys : Ys X P1) {n : Nat} (hn : NN n) {R : va_W} {av : Nat} {V : Nat → Int} (q0 : Nat) (hV : R[q0]? = some (ar P av 64 V)) (hg : GV V) {cs ss : Nat} (hcs : cs ≤ 599000 ∧ ss ≤ 7300000) {M : Mm} (hM : ChR V M) : YG X 826 [(0, .ref b), (1, .ref (P1.2.1 0)), (3, .ref av), (5, .int (iI (V 9)))] [.int (iI 1)] (wld P1 n M ++ R) cs ss := by
  have hcr := hcr_of hcs
  have hV1 : R[q0]? = some (ar P1 av 64 V) := by rw [ys_ar cx ys]; exact hV
  have h9 := hg.2.1
  have h32 := (nN_5 hg).2
  have h8 := GV_0 hg
  refine l_if_eq cx (pc2 := 829) (tgt := 855) ⟨by decide, by decide⟩ dL_law_826 (by decide) rfl (fun h_1 => ?_) (fun h_1 => ?_)
  · skip
    omega
  · skip
    refine l_aload_n cx (pc2 := 830) 1 rfl dL_law_829 rfl ?_
    refine l_aload_n cx (pc2 := 831) 0 rfl dL_law_830 rfl ?_
    refine l_aload_n cx (pc2 := 832) 2 rfl dL_law_831 rfl ?_
    refine l_iconst cx (pc2 := 833) dL_law_832 rfl ?_
    refine l_iaload cx (pc2 := 834) (N := 64) (V := V) (n + q0) (wR_get hV) (by first | assumption | omega | exact hg.1.1 _ | exact ⟨by omega, by omega⟩) (by first | assumption | omega | exact hg.1.1 _ | exact ⟨by omega, by omega⟩) (Nat.le_of_ble_eq_true rfl) dL_law_833 rfl ?_
    refine l_rwi (y := iI (V 0)) rfl ?_
    refine l_callS cx (pc2 := 837) (st := []) ys sx (As := [.ref (P1.2.1 0), .ref b, .int (iI (V 0))]) (c_L_hours hn hM.2.2 hM.2.1 (V 0) h8 hM.1.1.1) wM_L_hours wS_L_hours kl_L_120 ⟨rfl, rfl, Nat.le_of_ble_eq_true rfl, Nat.le_of_ble_eq_true rfl⟩ (Nat.le_of_ble_eq_true rfl) ⟨hcr.1, hcr.2⟩ rfl rfl dL_law_834 rfl ?_
    rintro r w2 ⟨rfl, M2, hr, rfl⟩
    exact law_E3 cx sx ez ys hn q0 hV hg hcs (TI_of hM hr)
set_option maxHeartbeats 4000000 in
set_option maxRecDepth 100000 in
theorem law_E1 {X : Yq} {P : Pl} (cx : Yx X cL_law RL room_1 18 P) {b L : Nat} {xs : Nat → Int32} (sx : Sy X b L xs) (ez : Ez X) {P1 : Pl} (ys : Ys X P1) {n : Nat} (hn : NN n) {R : va_W} {av : Nat} {V : Nat → Int} (q0 : Nat) (hV : R[q0]? = some (ar P av 64 V)) (hg : GV V) {cs ss : Nat} (hcs : cs ≤ 599000 ∧ ss ≤ 7300000) {M : Mm} (hM : VOK V M) : YG X 818 [(0, .ref b), (1, .ref (P1.2.1 0)), (3, .ref av), (5, .int (iI (V 9)))] [] (wld P1 n M ++ R) cs ss := by
  have hcr := hcr_of hcs
  have hV1 : R[q0]? = some (ar P1 av 64 V) := by rw [ys_ar cx ys]; exact hV
  have h9 := hg.2.1
  have h32 := (nN_5 hg).2
  have h8 := GV_0 hg
  refine l_aload_n cx (pc2 := 819) 1 rfl dL_law_818 rfl ?_
  refine l_aload_n cx (pc2 := 820) 0 rfl dL_law_819 rfl ?_
  refine l_aload_n cx (pc2 := 821) 2 rfl dL_law_820 rfl ?_
  refine l_iload cx (pc2 := 823) 3 rfl dL_law_821 rfl ?_
  refine l_callS cx (pc2 := 826) (st := []) ys sx (As := [.ref (P1.2.1 0), .ref b, .ref av, .int (iI (V 9))]) (c_L_chances hn q0 hV1 hg hM) wM_L_chances wS_L_chances kl_L_116 ⟨rfl, rfl, Nat.le_of_ble_eq_true rfl, Nat.le_of_ble_eq_true rfl⟩ (Nat.le_of_ble_eq_true rfl) ⟨hcr.1, hcr.2⟩ rfl rfl dL_law_823 rfl ?_
  rintro r w2 ⟨rfl, M2, hr, rfl⟩
  exact law_E2 cx sx ez ys hn q0 hV hg hcs hr
