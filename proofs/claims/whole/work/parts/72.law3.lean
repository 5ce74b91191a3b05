-- ===== end of PART A; then your names; then what follows =====
/-! THE CLAIM OUT OF ONE WALK OF THE LAW'S BODY. Your part is whole_start (and what it stands on); all else here is the same for every law, but numbers. -/
def R_law : String := "ItemFactsLaw"
def lw_P (b : Addr) (xs : List Int32) (args : Array Value) (s : State) : Prop := args = #[.ref b] ∧ s.IntsAt b xs ∧ xs.length ≤ 2560 ∧ (Jvm.Cond.and given_1 narrow_1).before args s = true
def lw_Q (_ : Array Value) (s : State) (o : Outcome) (t : State) : Prop := o = .returned (some (.int 1)) ∧ Framed s o t [] 600000 7302250
def lw_Z (below : List Frame) (a : Array Value) (s : State) : State → Prop := fun t => ∃ o, t.status = .running ∧ Ended t below o ∧ lw_Q a s o t
/-- the law's own end, with 1 on the stack, nothing written that was there before, its room as the claim has it -/
theorem lw_ret {p : Program} {l : Launch} {e : Env} {s : State} {m : MethodId} {below : List Frame} {meth : Method} {c : Code} {b : Nat} (hx : p.tables.exec = Jvm.exec) (hb : c.code = code) (hr : meth.sig.returnType = ret) (hlocks : meth.locks = false) {pc : Nat} {H : Heap} {ls : Array Slot} (hdg : decode code pc = .ok (.ireturn, 1)) : W p l e room_1 s m #[Value.ref b] below meth c H [] 600000 7302250 (lw_Z below #[Value.ref b] s) (F0 m pc ls [.int 1]) := by
  intro T hT X
  obtain ⟨fs, hret, hrun, hended, hW, hframe⟩ := X.leave (v := some (.int 1)) (hlocks := hlocks) (fun h => by rw [hr] at h; cases h)
  have hmeth' : T.vm.method? m = some meth := X.method'
  refine ⟨T.setFrames fs, ?_, .returned (some (.int 1)), hrun, hended, rfl, ⟨_, rfl⟩, hW, hframe⟩
  jvm_step X.here [X.here.top, hx, hb, hdg, hmeth', hr, ret, narrow_b1]
  (try refine ⟨rfl, ?_⟩); (try refine ⟨rfl, ?_⟩)
  first | (intro acts; rw [hret _ acts rfl rfl rfl]) | rw [hret _ _ rfl rfl rfl]
  exact Steps.refl _
/-- what holds at the law's entry: the machine, the code, the tables' words (any of lw_tbl by 'hts w (by decide +kernel)'), the script of L ints xs at the cell b, what the Statement gives of the start (any of its parts by flat_of_before) -/
def lw_At (p : Program) (s : State) (m : MethodId) (meth : Method) (c : Code) (b L : Nat) (xs : Nat → Int32) : Prop :=
  p.tables.exec = Jvm.exec ∧ c.code = code ∧ meth.sig.returnType = ret ∧ c.maxLocals = 4 ∧ s.vm.findClass R_law = some m.cls ∧ (∀ w ∈ lw_tbl, w.before #[Value.ref b] s = true) ∧ va_X b L xs s s.heap ∧ b < s.heap.size ∧ meth.locks = false ∧ (Jvm.Cond.and given_1 narrow_1).before #[Value.ref b] s = true
theorem lw_hts {s : State} {b : Nat} (hts : ∀ w ∈ lw_tbl, w.before #[Value.ref b] s = true) : ∀ w ∈ wd_tb, w.before #[Value.ref b] s = true := fun w hw => hts w (List.mem_filter.mp hw).1
set_option maxRecDepth 8000 in
theorem lw_z_bw {s : State} {b : Nat} (hts : ∀ w ∈ lw_tbl, w.before #[Value.ref b] s = true) (hgv : (Jvm.Cond.and given_1 narrow_1).before #[Value.ref b] s = true) : ∃ t : Nat, va_Z "ItemFacts" "BEARS_WEIGHT" "[I" (.ref t) (wd_A s) s s.heap ∧ wd_T (wd_A s) s s.heap t x_bw := by
  have hs := flat_of_before _ hgv
  have hel : ∀ j : Nat, j < 4 → (Term.elem (Term.static "ItemFacts" "BEARS_WEIGHT" "[I") (.int (Int32.ofNat j))).eval #[Value.ref b] s none [] s = some (.int (x_bw.getD j 0)) := by
    intro j hj
    rcases (show j = 0 ∨ j = 1 ∨ j = 2 ∨ j = 3 by omega) with rfl | rfl | rfl | rfl
    · exact va_eqt (hs (.eq (.elem (Term.static "ItemFacts" "BEARS_WEIGHT" "[I") (.int 0)) (.int 50)) (by decide +kernel))
    · exact va_eqt (hs (.eq (.elem (Term.static "ItemFacts" "BEARS_WEIGHT" "[I") (.int 1)) (.int 500)) (by decide +kernel))
    · exact va_eqt (hs (.eq (.elem (Term.static "ItemFacts" "BEARS_WEIGHT" "[I") (.int 2)) (.int 2000)) (by decide +kernel))
    · exact va_eqt (hs (.eq (.elem (Term.static "ItemFacts" "BEARS_WEIGHT" "[I") (.int 3)) (.int 31500)) (by decide +kernel))
  obtain ⟨t, e1, e2⟩ := va_Tof (tm := (Term.static "ItemFacts" "BEARS_WEIGHT" "[I")) (ty := .int) (N := 4) (f := fun k => .int (x_bw.getD k 0)) (A := wd_A s) (by decide) (hs (.arrayOf (Term.static "ItemFacts" "BEARS_WEIGHT" "[I") .int) (by decide +kernel)) (va_eqt (hs (.eq (.length (Term.static "ItemFacts" "BEARS_WEIGHT" "[I")) (.int 4)) (by decide +kernel))) hel (fun a ha => Nat.not_le.mpr ha)
  exact ⟨t, va_Zref (hts _ wl_BEARS_WEIGHT) (hts _ (List.mem_filter.mp wi_F).1) e1 (fun a ha => Nat.not_le.mpr ha), e2⟩
set_option maxRecDepth 8000 in
theorem lw_z_bs {s : State} {b : Nat} (hts : ∀ w ∈ lw_tbl, w.before #[Value.ref b] s = true) (hgv : (Jvm.Cond.and given_1 narrow_1).before #[Value.ref b] s = true) : ∃ t : Nat, va_Z "ItemFacts" "BEARS_SIZE" "[I" (.ref t) (wd_A s) s s.heap ∧ wd_T (wd_A s) s s.heap t x_bs := by
  have hs := flat_of_before _ hgv
  have hel : ∀ j : Nat, j < 4 → (Term.elem (Term.static "ItemFacts" "BEARS_SIZE" "[I") (.int (Int32.ofNat j))).eval #[Value.ref b] s none [] s = some (.int (x_bs.getD j 0)) := by
    intro j hj
    rcases (show j = 0 ∨ j = 1 ∨ j = 2 ∨ j = 3 by omega) with rfl | rfl | rfl | rfl
    · exact va_eqt (hs (.eq (.elem (Term.static "ItemFacts" "BEARS_SIZE" "[I") (.int 0)) (.int 0)) (by decide +kernel))
    · exact va_eqt (hs (.eq (.elem (Term.static "ItemFacts" "BEARS_SIZE" "[I") (.int 1)) (.int 1)) (by decide +kernel))
    · exact va_eqt (hs (.eq (.elem (Term.static "ItemFacts" "BEARS_SIZE" "[I") (.int 2)) (.int 2)) (by decide +kernel))
    · exact va_eqt (hs (.eq (.elem (Term.static "ItemFacts" "BEARS_SIZE" "[I") (.int 3)) (.int 3)) (by decide +kernel))
  obtain ⟨t, e1, e2⟩ := va_Tof (tm := (Term.static "ItemFacts" "BEARS_SIZE" "[I")) (ty := .int) (N := 4) (f := fun k => .int (x_bs.getD k 0)) (A := wd_A s) (by decide) (hs (.arrayOf (Term.static "ItemFacts" "BEARS_SIZE" "[I") .int) (by decide +kernel)) (va_eqt (hs (.eq (.length (Term.static "ItemFacts" "BEARS_SIZE" "[I")) (.int 4)) (by decide +kernel))) hel (fun a ha => Nat.not_le.mpr ha)
  exact ⟨t, va_Zref (hts _ wl_BEARS_SIZE) (hts _ (List.mem_filter.mp wi_F).1) e1 (fun a ha => Nat.not_le.mpr ha), e2⟩
set_option maxRecDepth 8000 in
theorem lw_z_ex {s : State} {b : Nat} (hts : ∀ w ∈ lw_tbl, w.before #[Value.ref b] s = true) (hgv : (Jvm.Cond.and given_1 narrow_1).before #[Value.ref b] s = true) : ∃ t : Nat, va_Z "ItemFacts" "EXCLUDES" "[I" (.ref t) (wd_A s) s s.heap ∧ wd_T (wd_A s) s s.heap t x_ex := by
  have hs := flat_of_before _ hgv
  have hel : ∀ j : Nat, j < 6 → (Term.elem (Term.static "ItemFacts" "EXCLUDES" "[I") (.int (Int32.ofNat j))).eval #[Value.ref b] s none [] s = some (.int (x_ex.getD j 0)) := by
    intro j hj
    rcases (show j = 0 ∨ j = 1 ∨ j = 2 ∨ j = 3 ∨ j = 4 ∨ j = 5 by omega) with rfl | rfl | rfl | rfl | rfl | rfl
    · exact va_eqt (hs (.eq (.elem (Term.static "ItemFacts" "EXCLUDES" "[I") (.int 0)) (.int 0)) (by decide +kernel))
    · exact va_eqt (hs (.eq (.elem (Term.static "ItemFacts" "EXCLUDES" "[I") (.int 1)) (.int 4)) (by decide +kernel))
    · exact va_eqt (hs (.eq (.elem (Term.static "ItemFacts" "EXCLUDES" "[I") (.int 2)) (.int 10)) (by decide +kernel))
    · exact va_eqt (hs (.eq (.elem (Term.static "ItemFacts" "EXCLUDES" "[I") (.int 3)) (.int 36)) (by decide +kernel))
    · exact va_eqt (hs (.eq (.elem (Term.static "ItemFacts" "EXCLUDES" "[I") (.int 4)) (.int 32)) (by decide +kernel))
    · exact va_eqt (hs (.eq (.elem (Term.static "ItemFacts" "EXCLUDES" "[I") (.int 5)) (.int 24)) (by decide +kernel))
  obtain ⟨t, e1, e2⟩ := va_Tof (tm := (Term.static "ItemFacts" "EXCLUDES" "[I")) (ty := .int) (N := 6) (f := fun k => .int (x_ex.getD k 0)) (A := wd_A s) (by decide) (hs (.arrayOf (Term.static "ItemFacts" "EXCLUDES" "[I") .int) (by decide +kernel)) (va_eqt (hs (.eq (.length (Term.static "ItemFacts" "EXCLUDES" "[I")) (.int 6)) (by decide +kernel))) hel (fun a ha => Nat.not_le.mpr ha)
  exact ⟨t, va_Zref (hts _ wl_EXCLUDES) (hts _ (List.mem_filter.mp wi_F).1) e1 (fun a ha => Nat.not_le.mpr ha), e2⟩
theorem lw_arr {s : State} {args : Array Value} {ty : FieldType} (h : (Cond.arrayClass ty).before args s = true) (hp : ∀ C, ty ≠ .object C) : ∃ cA : ClassId, ArrOfT s cA ty ∧ va_RA s cA ty := by
  obtain ⟨cA, kA, comp, h1, h2, h3⟩ := Cond.arrayClass_spec h
  refine ⟨cA, fun n z => ⟨fun k h => (by cases h), kA, h2, comp, h3⟩, ?_⟩
  cases ty with
  | object C => exact absurd rfl (hp C)
  | _ => exact h1
theorem lw_arq {s : State} {args : Array Value} {C : String} (h : (Cond.arrayOver (.object C)).before args s = true) : ∃ cA : ClassId, ArrOfT s cA (.object C) ∧ va_RA s cA (.object C) := by
  obtain ⟨comp, c, k, h1, h2, h3, h4, h5⟩ := Cond.arrayOver_spec h
  exact ⟨c, fun n z => ⟨fun k h => (by cases h), k, h3, comp, h4⟩, k, comp, h3, h4, h1, h5⟩
set_option maxHeartbeats 4000000 in
set_option maxRecDepth 20000 in
theorem law_loop {p : Program} {l : Launch} {e : Env} {s : State} {m : MethodId} {below : List Frame} {meth : Method} {c : Code} {D : va_G} {T : Nat → ClassId} {b L : Nat} {xs : Nat → Int32} (hL : L ≤ 2560) (C0 : lw_At p s m meth c b L xs) {x y : Nat} : ∀ (z i : Nat), i ≤ L + 5 → L + 5 < i + z → ∀ (S : xS) (σ1 σ2 : wd_S) (H : Heap) (locs : List Loc) (ls : Array Slot), wd_2 D T s H locs σ1 σ2 → RX T σ1 x S → RM T σ2 y S → inv S → lv_has ls 4 [(3, .int (nI i)), (2, .ref y), (1, .ref x), (0, .ref b)] → W p l e room_1 s m #[Value.ref b] below meth c H locs (100 + 10 * i) (10000 + 100 * i) (lw_Z below #[Value.ref b] s) (F0 m 18 ls []) := by
  obtain ⟨hx, hb, hr, hml, hown, hts, hX, hbl, hlocks, hgv⟩ := C0
  have C : CallFix p m c code 4 s #[Value.ref b] wd_tb R_L := ⟨hx, hb, hml, hown, lw_hts hts⟩
  have hbA : ¬ wd_A s b := Nat.not_le.mpr hbl
  intro z
  induction z with
  | zero => intro i h1 h2; omega
  | succ z ih =>
    intro i hi0 hz S σ1 σ2 H locs ls h hrx hrm hinv hl
    refine lv_iload_n hx hb d_L_law_18 rfl (lv_at hl 0 rfl) ?_
    refine lv_aload_n hx hb d_L_law_19 rfl (lv_at hl 3 rfl) ?_
    refine va_slen hx hb hX hbl hbA h.2.2.2.1 d_L_law_20 ?_
    refine lv_iconst (v := 5) hx hb d_L_law_21 (by decide) ?_
    refine lv_isub hx hb d_L_law_22 ?_
    have hsub : (nI L - (5 : Int32)).toInt = (L : Int) - 5 := pk_sub_toInt (a := L) (b := 5) (by omega) (by decide)
    refine lv_icmp_gt (tgt := 675) hx hb d_L_law_23 (by decide) (fun c9 => ?_) (fun c9 => ?_)
    · refine lv_iconst (v := 1) hx hb d_L_law_675 (by decide) ?_
      refine va_forget (fun q hq => h.2.2.2.1.2.2 q hq) ?_
      refine W.widen (k := 600000) (n := 7302250) (by omega) (by omega) ?_
      exact lw_ret hx hb hr hlocks d_L_law_676
    · have hi : i + 5 ≤ L := by
        have c8 : ¬ nI L - (5 : Int32) < nI i := c9
        rw [Int32.lt_iff_toInt_lt, hsub, nI_toInt (by omega)] at c8
        omega
      have kk : ∀ (S1 : xS) (σ3 σ4 : wd_S) (H1 : Heap) (locs1 : List Loc), wd_2 D T s H1 locs1 σ3 σ4 → RX T σ3 x S1 → RM T σ4 y S1 → inv S1 → W p l e room_1 s m #[Value.ref b] below meth c H1 locs1 (100 + 10 * i + 10) (10000 + 100 * i + 100) (lw_Z below #[Value.ref b] s) (F0 m 669 ls []) := by
        intro S1 σ3 σ4 H1 locs1 h1 hrx1 hrm1 hinv1
        refine lv_iinc (v := nI (i + 5)) (lv' := [(3, .int (nI (i + 5))), (2, .ref y), (1, .ref x), (0, .ref b)]) hx hb d_L_law_669 hl (k := 0) rfl (show nI i + Int32.ofInt 5 = nI (i + 5) from nI_add i 5) (by decide) rfl (fun ls hl => ?_)
        refine lv_goto (tgt := 18) hx hb d_L_law_672 (by decide) ?_
        refine W.widen (k := 100 + 10 * (i + 5)) (n := 10000 + 100 * (i + 5)) (by omega) (by omega) ?_
        exact ih (i + 5) (by omega) (by omega) S1 σ3 σ4 H1 locs1 ls h1 hrx1 hrm1 hinv1 hl
      refine lv_aload_n hx hb d_L_law_26 rfl (lv_at hl 3 rfl) ?_
      refine lv_iload_n hx hb d_L_law_27 rfl (lv_at hl 0 rfl) ?_
      refine va_sld hx hb hX hbl hbA h.2.2.2.1 (vp_in_nI (show i < L by omega) (by omega)) d_L_law_28 ?_
      refine lv_bipush (v := 15) hx hb d_L_law_29 (by decide) ?_
      refine lv_iand hx hb d_L_law_31 ?_
      obtain ⟨j, hj, ej⟩ := pk_andE (xs (nI i).toNatClampNeg) (m := 15) 4 (by decide)
      rw [ej]
      have hcl : 100 + 10 * i + 10 ≤ 600000 := by omega
      have hsl : 10000 + 100 * i + 100 ≤ 7302250 := by omega
      rcases (show j = 0 ∨ j = 1 ∨ j = 2 ∨ j = 3 ∨ j = 4 ∨ j = 5 ∨ j = 6 ∨ j = 7 ∨ j = 8 ∨ j = 9 ∨ j = 10 ∨ j = 11 ∨ j = 12 ∨ j = 13 ∨ j = 14 ∨ j = 15 by omega) with rfl | rfl | rfl | rfl | rfl | rfl | rfl | rfl | rfl | rfl | rfl | rfl | rfl | rfl | rfl | rfl
      · refine lv_tableIn (off := 76) (tgt := 108) hx hb d_L_law_32 (by decide) (by decide) (by decide) (by decide) ?_
        exact lw_c0 C hX hbl hL hi hcl hsl h hrx hrm hinv hl kk
      · refine lv_tableIn (off := 129) (tgt := 161) hx hb d_L_law_32 (by decide) (by decide) (by decide) (by decide) ?_
        exact lw_c1 C hX hbl hL hi hcl hsl h hrx hrm hinv hl kk
      · refine lv_tableIn (off := 162) (tgt := 194) hx hb d_L_law_32 (by decide) (by decide) (by decide) (by decide) ?_
        exact lw_c2 C hX hbl hL hi hcl hsl h hrx hrm hinv hl kk
      · refine lv_tableIn (off := 195) (tgt := 227) hx hb d_L_law_32 (by decide) (by decide) (by decide) (by decide) ?_
        exact lw_c3 C hX hbl hL hi hcl hsl h hrx hrm hinv hl kk
      · refine lv_tableIn (off := 238) (tgt := 270) hx hb d_L_law_32 (by decide) (by decide) (by decide) (by decide) ?_
        exact lw_c4 C hX hbl hL hi hcl hsl h hrx hrm hinv hl kk
      · refine lv_tableIn (off := 271) (tgt := 303) hx hb d_L_law_32 (by decide) (by decide) (by decide) (by decide) ?_
        exact lw_c5 C hX hbl hL hi hcl hsl h hrx hrm hinv hl kk
      · refine lv_tableIn (off := 314) (tgt := 346) hx hb d_L_law_32 (by decide) (by decide) (by decide) (by decide) ?_
        exact lw_c6 C hX hbl hL hi hcl hsl h hrx hrm hinv hl kk
      · refine lv_tableIn (off := 373) (tgt := 405) hx hb d_L_law_32 (by decide) (by decide) (by decide) (by decide) ?_
        exact lw_c7 C hX hbl hL hi hcl hsl h hrx hrm hinv hl kk
      · refine lv_tableIn (off := 406) (tgt := 438) hx hb d_L_law_32 (by decide) (by decide) (by decide) (by decide) ?_
        exact lw_c8 C hX hbl hL hi hcl hsl h hrx hrm hinv hl kk
      · refine lv_tableIn (off := 449) (tgt := 481) hx hb d_L_law_32 (by decide) (by decide) (by decide) (by decide) ?_
        exact lw_c9 C hX hbl hL hi hcl hsl h hrx hrm hinv hl kk
      · refine lv_tableIn (off := 502) (tgt := 534) hx hb d_L_law_32 (by decide) (by decide) (by decide) (by decide) ?_
        exact lw_c10 C hX hbl hL hi hcl hsl h hrx hrm hinv hl kk
      · refine lv_tableIn (off := 535) (tgt := 567) hx hb d_L_law_32 (by decide) (by decide) (by decide) (by decide) ?_
        exact lw_c11 C hX hbl hL hi hcl hsl h hrx hrm hinv hl kk
      · refine lv_tableIn (off := 568) (tgt := 600) hx hb d_L_law_32 (by decide) (by decide) (by decide) (by decide) ?_
        exact lw_c12 C hX hbl hL hi hcl hsl h hrx hrm hinv hl kk
      · refine lv_tableIn (off := 591) (tgt := 623) hx hb d_L_law_32 (by decide) (by decide) (by decide) (by decide) ?_
        exact lw_c13 C hX hbl hL hi hcl hsl h hrx hrm hinv hl kk
      · refine lv_tableIn (off := 614) (tgt := 646) hx hb d_L_law_32 (by decide) (by decide) (by decide) (by decide) ?_
        exact lw_c14 C hX hbl hL hi hcl hsl h hrx hrm hinv hl kk
      · refine lv_tableOut (tgt := 669) hx hb d_L_law_32 (by decide) (by decide) ?_
        refine W.widen (k := 100 + 10 * i + 10) (n := 10000 + 100 * i + 100) (by omega) (by omega) ?_
        exact kk S σ1 σ2 H locs h hrx hrm hinv
set_option maxHeartbeats 4000000 in
set_option maxRecDepth 20000 in
/-- THE LAW, from its entry -/
theorem whole_start {p : Program} {e : Env} {s : State} {m : MethodId} {below : List Frame} {meth : Method} {c : Code} (l : Launch) {b L : Nat} {xs : Nat → Int32} (hL : L ≤ 2560) (C0 : lw_At p s m meth c b L xs) : W p l e room_1 s m #[Value.ref b] below meth c s.heap [] 0 0 (lw_Z below #[Value.ref b] s) (entryFrame m ([Value.ref b] : List Value).toArray 4) := by
  obtain ⟨hx, hb, hr, hml, hown, hts, hX, hbl, hlocks, hgv⟩ := id C0
  have hts' := lw_hts hts
  have C : CallFix p m c code 4 s #[Value.ref b] wd_tb R_L := ⟨hx, hb, hml, hown, hts'⟩
  obtain ⟨k0, iS0, hKn0⟩ := u_known (C := R_F) (T := F_F) (N := 8) (n := 8) hts' i_F (hts' _ wn_F)
  obtain ⟨k1, iS1, hKn1⟩ := u_known (C := R_I) (T := F_I) (N := 17) (n := 17) hts' i_I (hts' _ wn_I)
  obtain ⟨k2, iS2, hKn2⟩ := u_known (C := R_C) (T := F_C) (N := 5) (n := 5) hts' i_C (hts' _ wn_C)
  obtain ⟨k3, iS3, hKn3⟩ := u_known (C := R_P) (T := F_P) (N := 2) (n := 2) hts' i_P (hts' _ wn_P)
  obtain ⟨k4, iS4, hKn4⟩ := u_known (C := R_M) (T := F_M) (N := 23) (n := 23) hts' i_M (hts' _ wn_M)
  obtain ⟨dC, dI, hKc⟩ : ∃ (dC : Nat → ClassId) (dI : Nat → Nat → Nat), ∀ (k : Nat) (q : vw_C), classes[k]? = some q → u_Kn s q.1 q.2.1 q.2.2 (dC k) (dI k) := by
    refine ⟨fun k => match k with | 0 => k0 | 1 => k1 | 2 => k2 | 3 => k3 | _ => k4, fun k => match k with | 0 => iS0 | 1 => iS1 | 2 => iS2 | 3 => iS3 | _ => iS4, ?_⟩
    intro k q hq
    match k, hq with
    | 0, hq => cases hq; exact hKn0
    | 1, hq => cases hq; exact hKn1
    | 2, hq => cases hq; exact hKn2
    | 3, hq => cases hq; exact hKn3
    | 4, hq => cases hq; exact hKn4
    | k + 5, hq => simp [classes] at hq
  obtain ⟨c0, u0⟩ := lw_arr (ty := .int) (hts' _ wa_int) (fun C h => by cases h)
  obtain ⟨c1, u1⟩ := lw_arr (ty := .boolean) (hts' _ wa_boolean) (fun C h => by cases h)
  obtain ⟨c2, u2⟩ := lw_arq (hts _ wa_I)
  obtain ⟨c3, u3⟩ := lw_arq (hts _ wa_C)
  obtain ⟨T, e0, e1, e2, e3⟩ : ∃ T : Nat → ClassId, T 0 = c0 ∧ T 1 = c1 ∧ T 2 = c2 ∧ T 3 = c3 := ⟨fun k => match k with | 0 => c0 | 1 => c1 | 2 => c2 | _ => c3, rfl, rfl, rfl, rfl⟩
  subst e0; subst e1; subst e2; subst e3
  have hK : va_K (dC, dI) classes (wd_ty T) s := by
    refine ⟨hKc, fun k q hq => ?_⟩
    match k, hq with
    | 0, hq => cases hq; exact u0
    | 1, hq => cases hq; exact u1
    | 2, hq => cases hq; exact u2
    | 3, hq => cases hq; exact u3
    | k + 4, hq => simp [wd_ty] at hq
  have hZ : wd_Z (wd_A s) s s.heap := by
    intro q hq
    rcases List.mem_cons.mp hq with rfl | hq
    · exact lw_z_bw hts hgv
    · rcases List.mem_cons.mp hq with rfl | hq
      · exact lw_z_bs hts hgv
      · rcases List.mem_cons.mp hq with rfl | hq
        · exact lw_z_ex hts hgv
        · exact absurd hq List.not_mem_nil
  have hN : wd_N s := by
    intro w hw hn
    have h1 := hts w hw
    cases w with
    | fieldLinkNest a i b n d h => exact va_Nw.of rfl h1
    | methodLinkNest a i x h => exact va_Nw.of rfl h1
    | arrayOver ty =>
      cases ty with
      | object C => exact h1
      | _ => simp [wd_isN] at hn
    | _ => simp [wd_isN] at hn
  have h : wd_2 (dC, dI) T s s.heap [] (fun _ => none) (fun _ => none) := ⟨wd_W.nil, wd_W.nil, fun _ => Or.inl rfl, va_S.rf, hK, hZ, hN⟩
  have hl := lv_entry ([.ref b]) (n := 4) (Nat.le_of_ble_eq_true rfl)
  rw [lg_entry_eq]
  generalize (lg_sl ([.ref b]) ++ List.replicate (4 - (lg_sl ([.ref b])).length) Slot.unset).toArray = ls at hl ⊢
  have hl : lv_has ls 4 [(0, .ref b)] := hl
  refine wd_2n (fs := [.null, .int 0, .null, .int 0, .null, .null, .null, .null]) C h kc_F lk_L_7 wn_F wi_F df_F (Nat.le_of_ble_eq_true rfl) (Nat.le_of_ble_eq_true rfl) d_L_law_0 (fun x H h => ?_)
  refine lv_dup hx hb d_L_law_3 rfl ?_
  refine wd_2cv (As := []) (rest := [.ref x]) (st0 := [.ref x, .ref x]) C h k_F_init wm_F_init rfl lk_L_9 (c_F_init l (dC, dI) T (wd_O _ H) _ x (wd_us _ _ _)) rfl rfl ⟨Nat.le_of_ble_eq_true rfl, Nat.le_of_ble_eq_true rfl⟩ rfl hl.1 rfl (Nat.le_of_ble_eq_true rfl) d_L_law_4 ⟨Nat.le_of_ble_eq_true rfl, Nat.le_of_ble_eq_true rfl⟩ (fun σ1 H locs hrx h => ?_)
  refine lv_astore_n (lv' := [(1, .ref x), (0, .ref b)]) hx hb d_L_law_7 rfl hl (by decide) rfl (fun ls hl => ?_)
  refine wd_2n (fs := [.int 0, .null, .null, .null, .null, .null, .null, .null, .null, .null, .null, .null, .null, .null, .null, .null, .null, .null, .null, .int 0, .null, .int 0, .null]) C h.swap kc_M lk_L_10 wn_M wi_M df_M (Nat.le_of_ble_eq_true rfl) (Nat.le_of_ble_eq_true rfl) d_L_law_8 (fun y H h => ?_)
  refine lv_dup hx hb d_L_law_11 rfl ?_
  refine wd_2cv (As := []) (rest := [.ref y]) (st0 := [.ref y, .ref y]) C h k_M_init wm_M_init rfl lk_L_12 (c_M_init l (dC, dI) T (wd_O _ H) _ y (wd_us _ _ _)) rfl rfl ⟨Nat.le_of_ble_eq_true rfl, Nat.le_of_ble_eq_true rfl⟩ rfl hl.1 rfl (Nat.le_of_ble_eq_true rfl) d_L_law_12 ⟨Nat.le_of_ble_eq_true rfl, Nat.le_of_ble_eq_true rfl⟩ (fun σ2 H locs hrm h => ?_)
  refine lv_astore_n (lv' := [(2, .ref y), (1, .ref x), (0, .ref b)]) hx hb d_L_law_15 rfl hl (by decide) rfl (fun ls hl => ?_)
  refine lv_iconst (v := 0) hx hb d_L_law_16 (by decide) ?_
  refine lv_istore_n (lv' := [(3, .int 0), (2, .ref y), (1, .ref x), (0, .ref b)]) hx hb d_L_law_17 rfl hl (by decide) rfl (fun ls hl => ?_)
  refine W.widen (k := 100 + 10 * 0) (n := 10000 + 100 * 0) (Nat.le_of_ble_eq_true rfl) (Nat.le_of_ble_eq_true rfl) ?_
  exact law_loop hL C0 (L + 6) 0 (by omega) (by omega) _ σ1 σ2 H locs ls h.swap hrx hrm (fun k hk => absurd hk (Nat.not_lt_zero k)) hl
