set_option maxHeartbeats 4000000 in
set_option maxRecDepth 20000 in
theorem lw_c0 {p : Program} {l : Launch} {e : Env} {s : State} {m : MethodId} {below : List Frame} {meth : Method} {c : Code} {D : va_G} {T : Nat → ClassId} {b L : Nat} {xs : Nat → Int32} {i : Nat} {x y : Nat} {S : xS} {σ1 σ2 : wd_S} {H : Heap} {locs : List Loc} {cl sl : Nat} {ls : Array Slot} {Q : State → Prop} (C : CallFix p m c code 4 s #[Value.ref b] wd_tb R_L) (hX : va_X b L xs s s.heap) (hbl : b < s.heap.size) (hL : L ≤ 2560) (hi : i + 5 ≤ L) (hcl : cl + 10 ≤ 600000) (hsl : sl + 100 ≤ 7302250) (h : wd_2 D T s H locs σ1 σ2) (hrx : RX T σ1 x S) (hrm : RM T σ2 y S) (hinv : inv S) (hl : lv_has ls 4 [(3, .int (nI i)), (2, .ref y), (1, .ref x), (0, .ref b)]) (kk : ∀ (S1 : xS) (σ3 σ4 : wd_S) (H1 : Heap) (locs1 : List Loc), wd_2 D T s H1 locs1 σ3 σ4 → RX T σ3 x S1 → RM T σ4 y S1 → inv S1 → W p l e room_1 s m #[Value.ref b] below meth c H1 locs1 (cl + 10) (sl + 100) Q (F0 m 669 ls [])) : W p l e room_1 s m #[Value.ref b] below meth c H locs cl sl Q (F0 m 108 ls []) := by
  have hx := C.1
  have hb := C.2.1
  have hbA : ¬ wd_A s b := Nat.not_le.mpr hbl
  have hn : S.1 ≤ 120 := by obtain ⟨am, fm, hM⟩ := hrm; exact hM.2.2.2.2.2.2.2.2.1
  refine lv_aload_n hx hb d_L_law_108 rfl (lv_at hl 2 rfl) ?_
  refine lv_aload_n hx hb d_L_law_109 rfl (lv_at hl 3 rfl) ?_
  refine lv_iload_n hx hb d_L_law_110 rfl (lv_at hl 0 rfl) ?_
  refine lv_iconst (v := 1) hx hb d_L_law_111 (by decide) ?_
  refine lv_iadd hx hb d_L_law_112 ?_
  rw [show nI i + (1 : Int32) = nI (i + 1) from nI_add i 1]
  refine va_sld hx hb hX hbl hbA h.2.2.2.1 (vp_in_nI (show i + 1 < L by omega) (by omega)) d_L_law_113 ?_
  rw [nI_clamp (show i + 1 < 2 ^ 31 by omega)]
  refine lv_aload_n hx hb d_L_law_114 rfl (lv_at hl 3 rfl) ?_
  refine lv_iload_n hx hb d_L_law_115 rfl (lv_at hl 0 rfl) ?_
  refine lv_iconst (v := 2) hx hb d_L_law_116 (by decide) ?_
  refine lv_iadd hx hb d_L_law_117 ?_
  rw [show nI i + (2 : Int32) = nI (i + 2) from nI_add i 2]
  refine va_sld hx hb hX hbl hbA h.2.2.2.1 (vp_in_nI (show i + 2 < L by omega) (by omega)) d_L_law_118 ?_
  rw [nI_clamp (show i + 2 < 2 ^ 31 by omega)]
  refine lv_aload_n hx hb d_L_law_119 rfl (lv_at hl 3 rfl) ?_
  refine lv_iload_n hx hb d_L_law_120 rfl (lv_at hl 0 rfl) ?_
  refine lv_iconst (v := 3) hx hb d_L_law_121 (by decide) ?_
  refine lv_iadd hx hb d_L_law_122 ?_
  rw [show nI i + (3 : Int32) = nI (i + 3) from nI_add i 3]
  refine va_sld hx hb hX hbl hbA h.2.2.2.1 (vp_in_nI (show i + 3 < L by omega) (by omega)) d_L_law_123 ?_
  rw [nI_clamp (show i + 3 < 2 ^ 31 by omega)]
  refine lv_aload_n hx hb d_L_law_124 rfl (lv_at hl 3 rfl) ?_
  refine lv_iload_n hx hb d_L_law_125 rfl (lv_at hl 0 rfl) ?_
  refine lv_iconst (v := 4) hx hb d_L_law_126 (by decide) ?_
  refine lv_iadd hx hb d_L_law_127 ?_
  rw [show nI i + (4 : Int32) = nI (i + 4) from nI_add i 4]
  refine va_sld hx hb hX hbl hbA h.2.2.2.1 (vp_in_nI (show i + 4 < L by omega) (by omega)) d_L_law_128 ?_
  rw [nI_clamp (show i + 4 < 2 ^ 31 by omega)]
  obtain ⟨fx, hcx⟩ := RX.cell hrx
  refine wd_2ci (rest := []) (st0 := [.int (xs (i + 4)), .int (xs (i + 3)), .int (xs (i + 2)), .int (xs (i + 1)), .ref x]) C h kc_F hcx k_F_item wm_F_item wz_F_item lk_L_13 (w_F_item l D T (wd_O σ1 H) σ1 x S hrx hinv (xs (i + 1)) (xs (i + 2)) (xs (i + 3)) (xs (i + 4))) rfl rfl ⟨Nat.le_of_ble_eq_true rfl, Nat.le_of_ble_eq_true rfl⟩ rfl hl.1 rfl (Nat.le_of_ble_eq_true rfl) d_L_law_129 ⟨show cl + 3 ≤ 600000 by omega, show sl + 25 ≤ 7302250 by omega⟩ (fun r1 σ3 H locs hp1 h => ?_)
  refine lv_aload_n hx hb d_L_law_132 rfl (lv_at hl 1 rfl) ?_
  refine lv_aload_n hx hb d_L_law_133 rfl (lv_at hl 3 rfl) ?_
  refine lv_iload_n hx hb d_L_law_134 rfl (lv_at hl 0 rfl) ?_
  refine lv_iconst (v := 1) hx hb d_L_law_135 (by decide) ?_
  refine lv_iadd hx hb d_L_law_136 ?_
  rw [show nI i + (1 : Int32) = nI (i + 1) from nI_add i 1]
  refine va_sld hx hb hX hbl hbA h.2.2.2.1 (vp_in_nI (show i + 1 < L by omega) (by omega)) d_L_law_137 ?_
  rw [nI_clamp (show i + 1 < 2 ^ 31 by omega)]
  refine lv_aload_n hx hb d_L_law_138 rfl (lv_at hl 3 rfl) ?_
  refine lv_iload_n hx hb d_L_law_139 rfl (lv_at hl 0 rfl) ?_
  refine lv_iconst (v := 2) hx hb d_L_law_140 (by decide) ?_
  refine lv_iadd hx hb d_L_law_141 ?_
  rw [show nI i + (2 : Int32) = nI (i + 2) from nI_add i 2]
  refine va_sld hx hb hX hbl hbA h.2.2.2.1 (vp_in_nI (show i + 2 < L by omega) (by omega)) d_L_law_142 ?_
  rw [nI_clamp (show i + 2 < 2 ^ 31 by omega)]
  refine lv_aload_n hx hb d_L_law_143 rfl (lv_at hl 3 rfl) ?_
  refine lv_iload_n hx hb d_L_law_144 rfl (lv_at hl 0 rfl) ?_
  refine lv_iconst (v := 3) hx hb d_L_law_145 (by decide) ?_
  refine lv_iadd hx hb d_L_law_146 ?_
  rw [show nI i + (3 : Int32) = nI (i + 3) from nI_add i 3]
  refine va_sld hx hb hX hbl hbA h.2.2.2.1 (vp_in_nI (show i + 3 < L by omega) (by omega)) d_L_law_147 ?_
  rw [nI_clamp (show i + 3 < 2 ^ 31 by omega)]
  refine lv_aload_n hx hb d_L_law_148 rfl (lv_at hl 3 rfl) ?_
  refine lv_iload_n hx hb d_L_law_149 rfl (lv_at hl 0 rfl) ?_
  refine lv_iconst (v := 4) hx hb d_L_law_150 (by decide) ?_
  refine lv_iadd hx hb d_L_law_151 ?_
  rw [show nI i + (4 : Int32) = nI (i + 4) from nI_add i 4]
  refine va_sld hx hb hX hbl hbA h.2.2.2.1 (vp_in_nI (show i + 4 < L by omega) (by omega)) d_L_law_152 ?_
  rw [nI_clamp (show i + 4 < 2 ^ 31 by omega)]
  obtain ⟨fy, hcy⟩ := RM.cell hrm
  refine wd_2ci (rest := [.int r1]) (st0 := [.int (xs (i + 4)), .int (xs (i + 3)), .int (xs (i + 2)), .int (xs (i + 1)), .ref y, .int r1]) C h.swap kc_M hcy k_M_item wm_M_item wz_M_item lk_L_17 (w_M_item l D T (wd_O σ2 H) σ2 y S hrm hinv (xs (i + 1)) (xs (i + 2)) (xs (i + 3)) (xs (i + 4))) rfl rfl ⟨Nat.le_of_ble_eq_true rfl, Nat.le_of_ble_eq_true rfl⟩ rfl hl.1 rfl (Nat.le_of_ble_eq_true rfl) d_L_law_153 ⟨show cl + 3 + 0 ≤ 600000 by omega, show sl + 25 + 0 ≤ 7302250 by omega⟩ (fun r2 σ4 H locs hp2 h => ?_)
  refine lv_icmp_eq (tgt := 669) hx hb d_L_law_156 (by decide) (fun c9 => ?_) (fun c9 => absurd (hp1.1.trans hp2.1.symm) c9)
  refine W.widen (k := cl + 10) (n := sl + 100) (by omega) (by omega) ?_
  exact kk _ σ3 σ4 H locs h.swap hp1.2 hp2.2 (inv_item hinv)
set_option maxHeartbeats 4000000 in
set_option maxRecDepth 20000 in
theorem lw_c1 {p : Program} {l : Launch} {e : Env} {s : State} {m : MethodId} {below : List Frame} {meth : Method} {c : Code} {D : va_G} {T : Nat → ClassId} {b L : Nat} {xs : Nat → Int32} {i : Nat} {x y : Nat} {S : xS} {σ1 σ2 : wd_S} {H : Heap} {locs : List Loc} {cl sl : Nat} {ls : Array Slot} {Q : State → Prop} (C : CallFix p m c code 4 s #[Value.ref b] wd_tb R_L) (hX : va_X b L xs s s.heap) (hbl : b < s.heap.size) (hL : L ≤ 2560) (hi : i + 5 ≤ L) (hcl : cl + 10 ≤ 600000) (hsl : sl + 100 ≤ 7302250) (h : wd_2 D T s H locs σ1 σ2) (hrx : RX T σ1 x S) (hrm : RM T σ2 y S) (hinv : inv S) (hl : lv_has ls 4 [(3, .int (nI i)), (2, .ref y), (1, .ref x), (0, .ref b)]) (kk : ∀ (S1 : xS) (σ3 σ4 : wd_S) (H1 : Heap) (locs1 : List Loc), wd_2 D T s H1 locs1 σ3 σ4 → RX T σ3 x S1 → RM T σ4 y S1 → inv S1 → W p l e room_1 s m #[Value.ref b] below meth c H1 locs1 (cl + 10) (sl + 100) Q (F0 m 669 ls [])) : W p l e room_1 s m #[Value.ref b] below meth c H locs cl sl Q (F0 m 161 ls []) := by
  have hx := C.1
  have hb := C.2.1
  have hbA : ¬ wd_A s b := Nat.not_le.mpr hbl
  have hn : S.1 ≤ 120 := by obtain ⟨am, fm, hM⟩ := hrm; exact hM.2.2.2.2.2.2.2.2.1
  refine lv_aload_n hx hb d_L_law_161 rfl (lv_at hl 2 rfl) ?_
  refine lv_aload_n hx hb d_L_law_162 rfl (lv_at hl 3 rfl) ?_
  refine lv_iload_n hx hb d_L_law_163 rfl (lv_at hl 0 rfl) ?_
  refine lv_iconst (v := 1) hx hb d_L_law_164 (by decide) ?_
  refine lv_iadd hx hb d_L_law_165 ?_
  rw [show nI i + (1 : Int32) = nI (i + 1) from nI_add i 1]
  refine va_sld hx hb hX hbl hbA h.2.2.2.1 (vp_in_nI (show i + 1 < L by omega) (by omega)) d_L_law_166 ?_
  rw [nI_clamp (show i + 1 < 2 ^ 31 by omega)]
  refine lv_aload_n hx hb d_L_law_167 rfl (lv_at hl 3 rfl) ?_
  refine lv_iload_n hx hb d_L_law_168 rfl (lv_at hl 0 rfl) ?_
  refine lv_iconst (v := 2) hx hb d_L_law_169 (by decide) ?_
  refine lv_iadd hx hb d_L_law_170 ?_
  rw [show nI i + (2 : Int32) = nI (i + 2) from nI_add i 2]
  refine va_sld hx hb hX hbl hbA h.2.2.2.1 (vp_in_nI (show i + 2 < L by omega) (by omega)) d_L_law_171 ?_
  rw [nI_clamp (show i + 2 < 2 ^ 31 by omega)]
  obtain ⟨fx, hcx⟩ := RX.cell hrx
  refine wd_2ci (rest := []) (st0 := [.int (xs (i + 2)), .int (xs (i + 1)), .ref x]) C h kc_F hcx k_F_service wm_F_service wz_F_service lk_L_18 (w_F_service l D T (wd_O σ1 H) σ1 x S hrx hinv (xs (i + 1)) (xs (i + 2))) rfl rfl ⟨Nat.le_of_ble_eq_true rfl, Nat.le_of_ble_eq_true rfl⟩ rfl hl.1 rfl (Nat.le_of_ble_eq_true rfl) d_L_law_172 ⟨show cl + 0 ≤ 600000 by omega, show sl + 0 ≤ 7302250 by omega⟩ (fun r1 σ3 H locs hp1 h => ?_)
  refine lv_aload_n hx hb d_L_law_175 rfl (lv_at hl 1 rfl) ?_
  refine lv_aload_n hx hb d_L_law_176 rfl (lv_at hl 3 rfl) ?_
  refine lv_iload_n hx hb d_L_law_177 rfl (lv_at hl 0 rfl) ?_
  refine lv_iconst (v := 1) hx hb d_L_law_178 (by decide) ?_
  refine lv_iadd hx hb d_L_law_179 ?_
  rw [show nI i + (1 : Int32) = nI (i + 1) from nI_add i 1]
  refine va_sld hx hb hX hbl hbA h.2.2.2.1 (vp_in_nI (show i + 1 < L by omega) (by omega)) d_L_law_180 ?_
  rw [nI_clamp (show i + 1 < 2 ^ 31 by omega)]
  refine lv_aload_n hx hb d_L_law_181 rfl (lv_at hl 3 rfl) ?_
  refine lv_iload_n hx hb d_L_law_182 rfl (lv_at hl 0 rfl) ?_
  refine lv_iconst (v := 2) hx hb d_L_law_183 (by decide) ?_
  refine lv_iadd hx hb d_L_law_184 ?_
  rw [show nI i + (2 : Int32) = nI (i + 2) from nI_add i 2]
  refine va_sld hx hb hX hbl hbA h.2.2.2.1 (vp_in_nI (show i + 2 < L by omega) (by omega)) d_L_law_185 ?_
  rw [nI_clamp (show i + 2 < 2 ^ 31 by omega)]
  obtain ⟨fy, hcy⟩ := RM.cell hrm
  refine wd_2ci (rest := [.int r1]) (st0 := [.int (xs (i + 2)), .int (xs (i + 1)), .ref y, .int r1]) C h.swap kc_M hcy k_M_service wm_M_service wz_M_service lk_L_22 (w_M_service l D T (wd_O σ2 H) σ2 y S hrm hinv (xs (i + 1)) (xs (i + 2))) rfl rfl ⟨Nat.le_of_ble_eq_true rfl, Nat.le_of_ble_eq_true rfl⟩ rfl hl.1 rfl (Nat.le_of_ble_eq_true rfl) d_L_law_186 ⟨show cl + 0 + 0 ≤ 600000 by omega, show sl + 0 + 0 ≤ 7302250 by omega⟩ (fun r2 σ4 H locs hp2 h => ?_)
  refine lv_icmp_eq (tgt := 669) hx hb d_L_law_189 (by decide) (fun c9 => ?_) (fun c9 => absurd (hp1.1.trans hp2.1.symm) c9)
  refine W.widen (k := cl + 10) (n := sl + 100) (by omega) (by omega) ?_
  exact kk _ σ3 σ4 H locs h.swap hp1.2 hp2.2 (inv_upd hinv hn (ok_srv _))
set_option maxHeartbeats 4000000 in
set_option maxRecDepth 20000 in
theorem lw_c2 {p : Program} {l : Launch} {e : Env} {s : State} {m : MethodId} {below : List Frame} {meth : Method} {c : Code} {D : va_G} {T : Nat → ClassId} {b L : Nat} {xs : Nat → Int32} {i : Nat} {x y : Nat} {S : xS} {σ1 σ2 : wd_S} {H : Heap} {locs : List Loc} {cl sl : Nat} {ls : Array Slot} {Q : State → Prop} (C : CallFix p m c code 4 s #[Value.ref b] wd_tb R_L) (hX : va_X b L xs s s.heap) (hbl : b < s.heap.size) (hL : L ≤ 2560) (hi : i + 5 ≤ L) (hcl : cl + 10 ≤ 600000) (hsl : sl + 100 ≤ 7302250) (h : wd_2 D T s H locs σ1 σ2) (hrx : RX T σ1 x S) (hrm : RM T σ2 y S) (hinv : inv S) (hl : lv_has ls 4 [(3, .int (nI i)), (2, .ref y), (1, .ref x), (0, .ref b)]) (kk : ∀ (S1 : xS) (σ3 σ4 : wd_S) (H1 : Heap) (locs1 : List Loc), wd_2 D T s H1 locs1 σ3 σ4 → RX T σ3 x S1 → RM T σ4 y S1 → inv S1 → W p l e room_1 s m #[Value.ref b] below meth c H1 locs1 (cl + 10) (sl + 100) Q (F0 m 669 ls [])) : W p l e room_1 s m #[Value.ref b] below meth c H locs cl sl Q (F0 m 194 ls []) := by
  have hx := C.1
  have hb := C.2.1
  have hbA : ¬ wd_A s b := Nat.not_le.mpr hbl
  have hn : S.1 ≤ 120 := by obtain ⟨am, fm, hM⟩ := hrm; exact hM.2.2.2.2.2.2.2.2.1
  refine lv_aload_n hx hb d_L_law_194 rfl (lv_at hl 2 rfl) ?_
  refine lv_aload_n hx hb d_L_law_195 rfl (lv_at hl 3 rfl) ?_
  refine lv_iload_n hx hb d_L_law_196 rfl (lv_at hl 0 rfl) ?_
  refine lv_iconst (v := 1) hx hb d_L_law_197 (by decide) ?_
  refine lv_iadd hx hb d_L_law_198 ?_
  rw [show nI i + (1 : Int32) = nI (i + 1) from nI_add i 1]
  refine va_sld hx hb hX hbl hbA h.2.2.2.1 (vp_in_nI (show i + 1 < L by omega) (by omega)) d_L_law_199 ?_
  rw [nI_clamp (show i + 1 < 2 ^ 31 by omega)]
  refine lv_aload_n hx hb d_L_law_200 rfl (lv_at hl 3 rfl) ?_
  refine lv_iload_n hx hb d_L_law_201 rfl (lv_at hl 0 rfl) ?_
  refine lv_iconst (v := 2) hx hb d_L_law_202 (by decide) ?_
  refine lv_iadd hx hb d_L_law_203 ?_
  rw [show nI i + (2 : Int32) = nI (i + 2) from nI_add i 2]
  refine va_sld hx hb hX hbl hbA h.2.2.2.1 (vp_in_nI (show i + 2 < L by omega) (by omega)) d_L_law_204 ?_
  rw [nI_clamp (show i + 2 < 2 ^ 31 by omega)]
  obtain ⟨fx, hcx⟩ := RX.cell hrx
  refine wd_2ci (rest := []) (st0 := [.int (xs (i + 2)), .int (xs (i + 1)), .ref x]) C h kc_F hcx k_F_event wm_F_event wz_F_event lk_L_23 (w_F_event l D T (wd_O σ1 H) σ1 x S hrx hinv (xs (i + 1)) (xs (i + 2))) rfl rfl ⟨Nat.le_of_ble_eq_true rfl, Nat.le_of_ble_eq_true rfl⟩ rfl hl.1 rfl (Nat.le_of_ble_eq_true rfl) d_L_law_205 ⟨show cl + 0 ≤ 600000 by omega, show sl + 0 ≤ 7302250 by omega⟩ (fun r1 σ3 H locs hp1 h => ?_)
  refine lv_aload_n hx hb d_L_law_208 rfl (lv_at hl 1 rfl) ?_
  refine lv_aload_n hx hb d_L_law_209 rfl (lv_at hl 3 rfl) ?_
  refine lv_iload_n hx hb d_L_law_210 rfl (lv_at hl 0 rfl) ?_
  refine lv_iconst (v := 1) hx hb d_L_law_211 (by decide) ?_
  refine lv_iadd hx hb d_L_law_212 ?_
  rw [show nI i + (1 : Int32) = nI (i + 1) from nI_add i 1]
  refine va_sld hx hb hX hbl hbA h.2.2.2.1 (vp_in_nI (show i + 1 < L by omega) (by omega)) d_L_law_213 ?_
  rw [nI_clamp (show i + 1 < 2 ^ 31 by omega)]
  refine lv_aload_n hx hb d_L_law_214 rfl (lv_at hl 3 rfl) ?_
  refine lv_iload_n hx hb d_L_law_215 rfl (lv_at hl 0 rfl) ?_
  refine lv_iconst (v := 2) hx hb d_L_law_216 (by decide) ?_
  refine lv_iadd hx hb d_L_law_217 ?_
  rw [show nI i + (2 : Int32) = nI (i + 2) from nI_add i 2]
  refine va_sld hx hb hX hbl hbA h.2.2.2.1 (vp_in_nI (show i + 2 < L by omega) (by omega)) d_L_law_218 ?_
  rw [nI_clamp (show i + 2 < 2 ^ 31 by omega)]
  obtain ⟨fy, hcy⟩ := RM.cell hrm
  refine wd_2ci (rest := [.int r1]) (st0 := [.int (xs (i + 2)), .int (xs (i + 1)), .ref y, .int r1]) C h.swap kc_M hcy k_M_event wm_M_event wz_M_event lk_L_26 (w_M_event l D T (wd_O σ2 H) σ2 y S hrm hinv (xs (i + 1)) (xs (i + 2))) rfl rfl ⟨Nat.le_of_ble_eq_true rfl, Nat.le_of_ble_eq_true rfl⟩ rfl hl.1 rfl (Nat.le_of_ble_eq_true rfl) d_L_law_219 ⟨show cl + 0 + 0 ≤ 600000 by omega, show sl + 0 + 0 ≤ 7302250 by omega⟩ (fun r2 σ4 H locs hp2 h => ?_)
  refine lv_icmp_eq (tgt := 669) hx hb d_L_law_222 (by decide) (fun c9 => ?_) (fun c9 => absurd (hp1.1.trans hp2.1.symm) c9)
  refine W.widen (k := cl + 10) (n := sl + 100) (by omega) (by omega) ?_
  exact kk _ σ3 σ4 H locs h.swap hp1.2 hp2.2 (inv_upd hinv hn (ok_evt _ _))
set_option maxHeartbeats 4000000 in
set_option maxRecDepth 20000 in
theorem lw_c3 {p : Program} {l : Launch} {e : Env} {s : State} {m : MethodId} {below : List Frame} {meth : Method} {c : Code} {D : va_G} {T : Nat → ClassId} {b L : Nat} {xs : Nat → Int32} {i : Nat} {x y : Nat} {S : xS} {σ1 σ2 : wd_S} {H : Heap} {locs : List Loc} {cl sl : Nat} {ls : Array Slot} {Q : State → Prop} (C : CallFix p m c code 4 s #[Value.ref b] wd_tb R_L) (hX : va_X b L xs s s.heap) (hbl : b < s.heap.size) (hL : L ≤ 2560) (hi : i + 5 ≤ L) (hcl : cl + 10 ≤ 600000) (hsl : sl + 100 ≤ 7302250) (h : wd_2 D T s H locs σ1 σ2) (hrx : RX T σ1 x S) (hrm : RM T σ2 y S) (hinv : inv S) (hl : lv_has ls 4 [(3, .int (nI i)), (2, .ref y), (1, .ref x), (0, .ref b)]) (kk : ∀ (S1 : xS) (σ3 σ4 : wd_S) (H1 : Heap) (locs1 : List Loc), wd_2 D T s H1 locs1 σ3 σ4 → RX T σ3 x S1 → RM T σ4 y S1 → inv S1 → W p l e room_1 s m #[Value.ref b] below meth c H1 locs1 (cl + 10) (sl + 100) Q (F0 m 669 ls [])) : W p l e room_1 s m #[Value.ref b] below meth c H locs cl sl Q (F0 m 227 ls []) := by
  have hx := C.1
  have hb := C.2.1
  have hbA : ¬ wd_A s b := Nat.not_le.mpr hbl
  have hn : S.1 ≤ 120 := by obtain ⟨am, fm, hM⟩ := hrm; exact hM.2.2.2.2.2.2.2.2.1
  refine lv_aload_n hx hb d_L_law_227 rfl (lv_at hl 2 rfl) ?_
  refine lv_aload_n hx hb d_L_law_228 rfl (lv_at hl 3 rfl) ?_
  refine lv_iload_n hx hb d_L_law_229 rfl (lv_at hl 0 rfl) ?_
  refine lv_iconst (v := 1) hx hb d_L_law_230 (by decide) ?_
  refine lv_iadd hx hb d_L_law_231 ?_
  rw [show nI i + (1 : Int32) = nI (i + 1) from nI_add i 1]
  refine va_sld hx hb hX hbl hbA h.2.2.2.1 (vp_in_nI (show i + 1 < L by omega) (by omega)) d_L_law_232 ?_
  rw [nI_clamp (show i + 1 < 2 ^ 31 by omega)]
  refine lv_aload_n hx hb d_L_law_233 rfl (lv_at hl 3 rfl) ?_
  refine lv_iload_n hx hb d_L_law_234 rfl (lv_at hl 0 rfl) ?_
  refine lv_iconst (v := 2) hx hb d_L_law_235 (by decide) ?_
  refine lv_iadd hx hb d_L_law_236 ?_
  rw [show nI i + (2 : Int32) = nI (i + 2) from nI_add i 2]
  refine va_sld hx hb hX hbl hbA h.2.2.2.1 (vp_in_nI (show i + 2 < L by omega) (by omega)) d_L_law_237 ?_
  rw [nI_clamp (show i + 2 < 2 ^ 31 by omega)]
  refine lv_aload_n hx hb d_L_law_238 rfl (lv_at hl 3 rfl) ?_
  refine lv_iload_n hx hb d_L_law_239 rfl (lv_at hl 0 rfl) ?_
  refine lv_iconst (v := 3) hx hb d_L_law_240 (by decide) ?_
  refine lv_iadd hx hb d_L_law_241 ?_
  rw [show nI i + (3 : Int32) = nI (i + 3) from nI_add i 3]
  refine va_sld hx hb hX hbl hbA h.2.2.2.1 (vp_in_nI (show i + 3 < L by omega) (by omega)) d_L_law_242 ?_
  rw [nI_clamp (show i + 3 < 2 ^ 31 by omega)]
  obtain ⟨fx, hcx⟩ := RX.cell hrx
  refine wd_2ci (rest := []) (st0 := [.int (xs (i + 3)), .int (xs (i + 2)), .int (xs (i + 1)), .ref x]) C h kc_F hcx k_F_address wm_F_address wz_F_address lk_L_27 (w_F_address l D T (wd_O σ1 H) σ1 x S hrx hinv (xs (i + 1)) (xs (i + 2)) (xs (i + 3))) rfl rfl ⟨Nat.le_of_ble_eq_true rfl, Nat.le_of_ble_eq_true rfl⟩ rfl hl.1 rfl (Nat.le_of_ble_eq_true rfl) d_L_law_243 ⟨show cl + 0 ≤ 600000 by omega, show sl + 0 ≤ 7302250 by omega⟩ (fun r1 σ3 H locs hp1 h => ?_)
  refine lv_aload_n hx hb d_L_law_246 rfl (lv_at hl 1 rfl) ?_
  refine lv_aload_n hx hb d_L_law_247 rfl (lv_at hl 3 rfl) ?_
  refine lv_iload_n hx hb d_L_law_248 rfl (lv_at hl 0 rfl) ?_
  refine lv_iconst (v := 1) hx hb d_L_law_249 (by decide) ?_
  refine lv_iadd hx hb d_L_law_250 ?_
  rw [show nI i + (1 : Int32) = nI (i + 1) from nI_add i 1]
  refine va_sld hx hb hX hbl hbA h.2.2.2.1 (vp_in_nI (show i + 1 < L by omega) (by omega)) d_L_law_251 ?_
  rw [nI_clamp (show i + 1 < 2 ^ 31 by omega)]
  refine lv_aload_n hx hb d_L_law_252 rfl (lv_at hl 3 rfl) ?_
  refine lv_iload_n hx hb d_L_law_253 rfl (lv_at hl 0 rfl) ?_
  refine lv_iconst (v := 2) hx hb d_L_law_254 (by decide) ?_
  refine lv_iadd hx hb d_L_law_255 ?_
  rw [show nI i + (2 : Int32) = nI (i + 2) from nI_add i 2]
  refine va_sld hx hb hX hbl hbA h.2.2.2.1 (vp_in_nI (show i + 2 < L by omega) (by omega)) d_L_law_256 ?_
  rw [nI_clamp (show i + 2 < 2 ^ 31 by omega)]
  refine lv_aload_n hx hb d_L_law_257 rfl (lv_at hl 3 rfl) ?_
  refine lv_iload_n hx hb d_L_law_258 rfl (lv_at hl 0 rfl) ?_
  refine lv_iconst (v := 3) hx hb d_L_law_259 (by decide) ?_
  refine lv_iadd hx hb d_L_law_260 ?_
  rw [show nI i + (3 : Int32) = nI (i + 3) from nI_add i 3]
  refine va_sld hx hb hX hbl hbA h.2.2.2.1 (vp_in_nI (show i + 3 < L by omega) (by omega)) d_L_law_261 ?_
  rw [nI_clamp (show i + 3 < 2 ^ 31 by omega)]
  obtain ⟨fy, hcy⟩ := RM.cell hrm
  refine wd_2ci (rest := [.int r1]) (st0 := [.int (xs (i + 3)), .int (xs (i + 2)), .int (xs (i + 1)), .ref y, .int r1]) C h.swap kc_M hcy k_M_address wm_M_address wz_M_address lk_L_31 (w_M_address l D T (wd_O σ2 H) σ2 y S hrm hinv (xs (i + 1)) (xs (i + 2)) (xs (i + 3))) rfl rfl ⟨Nat.le_of_ble_eq_true rfl, Nat.le_of_ble_eq_true rfl⟩ rfl hl.1 rfl (Nat.le_of_ble_eq_true rfl) d_L_law_262 ⟨show cl + 0 + 0 ≤ 600000 by omega, show sl + 0 + 0 ≤ 7302250 by omega⟩ (fun r2 σ4 H locs hp2 h => ?_)
  refine lv_icmp_eq (tgt := 669) hx hb d_L_law_265 (by decide) (fun c9 => ?_) (fun c9 => absurd (hp1.1.trans hp2.1.symm) c9)
  refine W.widen (k := cl + 10) (n := sl + 100) (by omega) (by omega) ?_
  exact kk _ σ3 σ4 H locs h.swap hp1.2 hp2.2 (inv_upd hinv hn (ok_adr _ _))
set_option maxHeartbeats 4000000 in
set_option maxRecDepth 20000 in
theorem lw_c4 {p : Program} {l : Launch} {e : Env} {s : State} {m : MethodId} {below : List Frame} {meth : Method} {c : Code} {D : va_G} {T : Nat → ClassId} {b L : Nat} {xs : Nat → Int32} {i : Nat} {x y : Nat} {S : xS} {σ1 σ2 : wd_S} {H : Heap} {locs : List Loc} {cl sl : Nat} {ls : Array Slot} {Q : State → Prop} (C : CallFix p m c code 4 s #[Value.ref b] wd_tb R_L) (hX : va_X b L xs s s.heap) (hbl : b < s.heap.size) (hL : L ≤ 2560) (hi : i + 5 ≤ L) (hcl : cl + 10 ≤ 600000) (hsl : sl + 100 ≤ 7302250) (h : wd_2 D T s H locs σ1 σ2) (hrx : RX T σ1 x S) (hrm : RM T σ2 y S) (hinv : inv S) (hl : lv_has ls 4 [(3, .int (nI i)), (2, .ref y), (1, .ref x), (0, .ref b)]) (kk : ∀ (S1 : xS) (σ3 σ4 : wd_S) (H1 : Heap) (locs1 : List Loc), wd_2 D T s H1 locs1 σ3 σ4 → RX T σ3 x S1 → RM T σ4 y S1 → inv S1 → W p l e room_1 s m #[Value.ref b] below meth c H1 locs1 (cl + 10) (sl + 100) Q (F0 m 669 ls [])) : W p l e room_1 s m #[Value.ref b] below meth c H locs cl sl Q (F0 m 270 ls []) := by
  have hx := C.1
  have hb := C.2.1
  have hbA : ¬ wd_A s b := Nat.not_le.mpr hbl
  have hn : S.1 ≤ 120 := by obtain ⟨am, fm, hM⟩ := hrm; exact hM.2.2.2.2.2.2.2.2.1
  refine lv_aload_n hx hb d_L_law_270 rfl (lv_at hl 2 rfl) ?_
  refine lv_aload_n hx hb d_L_law_271 rfl (lv_at hl 3 rfl) ?_
  refine lv_iload_n hx hb d_L_law_272 rfl (lv_at hl 0 rfl) ?_
  refine lv_iconst (v := 1) hx hb d_L_law_273 (by decide) ?_
  refine lv_iadd hx hb d_L_law_274 ?_
  rw [show nI i + (1 : Int32) = nI (i + 1) from nI_add i 1]
  refine va_sld hx hb hX hbl hbA h.2.2.2.1 (vp_in_nI (show i + 1 < L by omega) (by omega)) d_L_law_275 ?_
  rw [nI_clamp (show i + 1 < 2 ^ 31 by omega)]
  refine lv_aload_n hx hb d_L_law_276 rfl (lv_at hl 3 rfl) ?_
  refine lv_iload_n hx hb d_L_law_277 rfl (lv_at hl 0 rfl) ?_
  refine lv_iconst (v := 2) hx hb d_L_law_278 (by decide) ?_
  refine lv_iadd hx hb d_L_law_279 ?_
  rw [show nI i + (2 : Int32) = nI (i + 2) from nI_add i 2]
  refine va_sld hx hb hX hbl hbA h.2.2.2.1 (vp_in_nI (show i + 2 < L by omega) (by omega)) d_L_law_280 ?_
  rw [nI_clamp (show i + 2 < 2 ^ 31 by omega)]
  obtain ⟨fx, hcx⟩ := RX.cell hrx
  refine wd_2ci (rest := []) (st0 := [.int (xs (i + 2)), .int (xs (i + 1)), .ref x]) C h kc_F hcx k_F_abroad wm_F_abroad wz_F_abroad lk_L_32 (w_F_abroad l D T (wd_O σ1 H) σ1 x S hrx hinv (xs (i + 1)) (xs (i + 2))) rfl rfl ⟨Nat.le_of_ble_eq_true rfl, Nat.le_of_ble_eq_true rfl⟩ rfl hl.1 rfl (Nat.le_of_ble_eq_true rfl) d_L_law_281 ⟨show cl + 0 ≤ 600000 by omega, show sl + 0 ≤ 7302250 by omega⟩ (fun r1 σ3 H locs hp1 h => ?_)
  refine lv_aload_n hx hb d_L_law_284 rfl (lv_at hl 1 rfl) ?_
  refine lv_aload_n hx hb d_L_law_285 rfl (lv_at hl 3 rfl) ?_
  refine lv_iload_n hx hb d_L_law_286 rfl (lv_at hl 0 rfl) ?_
  refine lv_iconst (v := 1) hx hb d_L_law_287 (by decide) ?_
  refine lv_iadd hx hb d_L_law_288 ?_
  rw [show nI i + (1 : Int32) = nI (i + 1) from nI_add i 1]
  refine va_sld hx hb hX hbl hbA h.2.2.2.1 (vp_in_nI (show i + 1 < L by omega) (by omega)) d_L_law_289 ?_
  rw [nI_clamp (show i + 1 < 2 ^ 31 by omega)]
  refine lv_aload_n hx hb d_L_law_290 rfl (lv_at hl 3 rfl) ?_
  refine lv_iload_n hx hb d_L_law_291 rfl (lv_at hl 0 rfl) ?_
  refine lv_iconst (v := 2) hx hb d_L_law_292 (by decide) ?_
  refine lv_iadd hx hb d_L_law_293 ?_
  rw [show nI i + (2 : Int32) = nI (i + 2) from nI_add i 2]
  refine va_sld hx hb hX hbl hbA h.2.2.2.1 (vp_in_nI (show i + 2 < L by omega) (by omega)) d_L_law_294 ?_
  rw [nI_clamp (show i + 2 < 2 ^ 31 by omega)]
  obtain ⟨fy, hcy⟩ := RM.cell hrm
  refine wd_2ci (rest := [.int r1]) (st0 := [.int (xs (i + 2)), .int (xs (i + 1)), .ref y, .int r1]) C h.swap kc_M hcy k_M_abroad wm_M_abroad wz_M_abroad lk_L_35 (w_M_abroad l D T (wd_O σ2 H) σ2 y S hrm hinv (xs (i + 1)) (xs (i + 2))) rfl rfl ⟨Nat.le_of_ble_eq_true rfl, Nat.le_of_ble_eq_true rfl⟩ rfl hl.1 rfl (Nat.le_of_ble_eq_true rfl) d_L_law_295 ⟨show cl + 0 + 0 ≤ 600000 by omega, show sl + 0 + 0 ≤ 7302250 by omega⟩ (fun r2 σ4 H locs hp2 h => ?_)
  refine lv_icmp_eq (tgt := 669) hx hb d_L_law_298 (by decide) (fun c9 => ?_) (fun c9 => absurd (hp1.1.trans hp2.1.symm) c9)
  refine W.widen (k := cl + 10) (n := sl + 100) (by omega) (by omega) ?_
  exact kk _ σ3 σ4 H locs h.swap hp1.2 hp2.2 (inv_upd hinv hn (ok_abr _))
set_option maxHeartbeats 4000000 in
set_option maxRecDepth 20000 in
theorem lw_c5 {p : Program} {l : Launch} {e : Env} {s : State} {m : MethodId} {below : List Frame} {meth : Method} {c : Code} {D : va_G} {T : Nat → ClassId} {b L : Nat} {xs : Nat → Int32} {i : Nat} {x y : Nat} {S : xS} {σ1 σ2 : wd_S} {H : Heap} {locs : List Loc} {cl sl : Nat} {ls : Array Slot} {Q : State → Prop} (C : CallFix p m c code 4 s #[Value.ref b] wd_tb R_L) (hX : va_X b L xs s s.heap) (hbl : b < s.heap.size) (hL : L ≤ 2560) (hi : i + 5 ≤ L) (hcl : cl + 10 ≤ 600000) (hsl : sl + 100 ≤ 7302250) (h : wd_2 D T s H locs σ1 σ2) (hrx : RX T σ1 x S) (hrm : RM T σ2 y S) (hinv : inv S) (hl : lv_has ls 4 [(3, .int (nI i)), (2, .ref y), (1, .ref x), (0, .ref b)]) (kk : ∀ (S1 : xS) (σ3 σ4 : wd_S) (H1 : Heap) (locs1 : List Loc), wd_2 D T s H1 locs1 σ3 σ4 → RX T σ3 x S1 → RM T σ4 y S1 → inv S1 → W p l e room_1 s m #[Value.ref b] below meth c H1 locs1 (cl + 10) (sl + 100) Q (F0 m 669 ls [])) : W p l e room_1 s m #[Value.ref b] below meth c H locs cl sl Q (F0 m 303 ls []) := by
  have hx := C.1
  have hb := C.2.1
  have hbA : ¬ wd_A s b := Nat.not_le.mpr hbl
  have hn : S.1 ≤ 120 := by obtain ⟨am, fm, hM⟩ := hrm; exact hM.2.2.2.2.2.2.2.2.1
  refine lv_aload_n hx hb d_L_law_303 rfl (lv_at hl 2 rfl) ?_
  refine lv_aload_n hx hb d_L_law_304 rfl (lv_at hl 3 rfl) ?_
  refine lv_iload_n hx hb d_L_law_305 rfl (lv_at hl 0 rfl) ?_
  refine lv_iconst (v := 1) hx hb d_L_law_306 (by decide) ?_
  refine lv_iadd hx hb d_L_law_307 ?_
  rw [show nI i + (1 : Int32) = nI (i + 1) from nI_add i 1]
  refine va_sld hx hb hX hbl hbA h.2.2.2.1 (vp_in_nI (show i + 1 < L by omega) (by omega)) d_L_law_308 ?_
  rw [nI_clamp (show i + 1 < 2 ^ 31 by omega)]
  refine lv_aload_n hx hb d_L_law_309 rfl (lv_at hl 3 rfl) ?_
  refine lv_iload_n hx hb d_L_law_310 rfl (lv_at hl 0 rfl) ?_
  refine lv_iconst (v := 2) hx hb d_L_law_311 (by decide) ?_
  refine lv_iadd hx hb d_L_law_312 ?_
  rw [show nI i + (2 : Int32) = nI (i + 2) from nI_add i 2]
  refine va_sld hx hb hX hbl hbA h.2.2.2.1 (vp_in_nI (show i + 2 < L by omega) (by omega)) d_L_law_313 ?_
  rw [nI_clamp (show i + 2 < 2 ^ 31 by omega)]
  refine lv_aload_n hx hb d_L_law_314 rfl (lv_at hl 3 rfl) ?_
  refine lv_iload_n hx hb d_L_law_315 rfl (lv_at hl 0 rfl) ?_
  refine lv_iconst (v := 3) hx hb d_L_law_316 (by decide) ?_
  refine lv_iadd hx hb d_L_law_317 ?_
  rw [show nI i + (3 : Int32) = nI (i + 3) from nI_add i 3]
  refine va_sld hx hb hX hbl hbA h.2.2.2.1 (vp_in_nI (show i + 3 < L by omega) (by omega)) d_L_law_318 ?_
  rw [nI_clamp (show i + 3 < 2 ^ 31 by omega)]
  obtain ⟨fx, hcx⟩ := RX.cell hrx
  refine wd_2ci (rest := []) (st0 := [.int (xs (i + 3)), .int (xs (i + 2)), .int (xs (i + 1)), .ref x]) C h kc_F hcx k_F_contents wm_F_contents wz_F_contents lk_L_36 (w_F_contents l D T (wd_O σ1 H) σ1 x S hrx hinv (xs (i + 1)) (xs (i + 2)) (xs (i + 3))) rfl rfl ⟨Nat.le_of_ble_eq_true rfl, Nat.le_of_ble_eq_true rfl⟩ rfl hl.1 rfl (Nat.le_of_ble_eq_true rfl) d_L_law_319 ⟨show cl + 0 ≤ 600000 by omega, show sl + 0 ≤ 7302250 by omega⟩ (fun r1 σ3 H locs hp1 h => ?_)
  refine lv_aload_n hx hb d_L_law_322 rfl (lv_at hl 1 rfl) ?_
  refine lv_aload_n hx hb d_L_law_323 rfl (lv_at hl 3 rfl) ?_
  refine lv_iload_n hx hb d_L_law_324 rfl (lv_at hl 0 rfl) ?_
  refine lv_iconst (v := 1) hx hb d_L_law_325 (by decide) ?_
  refine lv_iadd hx hb d_L_law_326 ?_
  rw [show nI i + (1 : Int32) = nI (i + 1) from nI_add i 1]
  refine va_sld hx hb hX hbl hbA h.2.2.2.1 (vp_in_nI (show i + 1 < L by omega) (by omega)) d_L_law_327 ?_
  rw [nI_clamp (show i + 1 < 2 ^ 31 by omega)]
  refine lv_aload_n hx hb d_L_law_328 rfl (lv_at hl 3 rfl) ?_
  refine lv_iload_n hx hb d_L_law_329 rfl (lv_at hl 0 rfl) ?_
  refine lv_iconst (v := 2) hx hb d_L_law_330 (by decide) ?_
  refine lv_iadd hx hb d_L_law_331 ?_
  rw [show nI i + (2 : Int32) = nI (i + 2) from nI_add i 2]
  refine va_sld hx hb hX hbl hbA h.2.2.2.1 (vp_in_nI (show i + 2 < L by omega) (by omega)) d_L_law_332 ?_
  rw [nI_clamp (show i + 2 < 2 ^ 31 by omega)]
  refine lv_aload_n hx hb d_L_law_333 rfl (lv_at hl 3 rfl) ?_
  refine lv_iload_n hx hb d_L_law_334 rfl (lv_at hl 0 rfl) ?_
  refine lv_iconst (v := 3) hx hb d_L_law_335 (by decide) ?_
  refine lv_iadd hx hb d_L_law_336 ?_
  rw [show nI i + (3 : Int32) = nI (i + 3) from nI_add i 3]
  refine va_sld hx hb hX hbl hbA h.2.2.2.1 (vp_in_nI (show i + 3 < L by omega) (by omega)) d_L_law_337 ?_
  rw [nI_clamp (show i + 3 < 2 ^ 31 by omega)]
  obtain ⟨fy, hcy⟩ := RM.cell hrm
  refine wd_2ci (rest := [.int r1]) (st0 := [.int (xs (i + 3)), .int (xs (i + 2)), .int (xs (i + 1)), .ref y, .int r1]) C h.swap kc_M hcy k_M_contents wm_M_contents wz_M_contents lk_L_39 (w_M_contents l D T (wd_O σ2 H) σ2 y S hrm hinv (xs (i + 1)) (xs (i + 2)) (xs (i + 3))) rfl rfl ⟨Nat.le_of_ble_eq_true rfl, Nat.le_of_ble_eq_true rfl⟩ rfl hl.1 rfl (Nat.le_of_ble_eq_true rfl) d_L_law_338 ⟨show cl + 0 + 0 ≤ 600000 by omega, show sl + 0 + 0 ≤ 7302250 by omega⟩ (fun r2 σ4 H locs hp2 h => ?_)
  refine lv_icmp_eq (tgt := 669) hx hb d_L_law_341 (by decide) (fun c9 => ?_) (fun c9 => absurd (hp1.1.trans hp2.1.symm) c9)
  refine W.widen (k := cl + 10) (n := sl + 100) (by omega) (by omega) ?_
  exact kk _ σ3 σ4 H locs h.swap hp1.2 hp2.2 (inv_upd hinv hn (ok_con _ _))
set_option maxHeartbeats 4000000 in
set_option maxRecDepth 20000 in
theorem lw_c6 {p : Program} {l : Launch} {e : Env} {s : State} {m : MethodId} {below : List Frame} {meth : Method} {c : Code} {D : va_G} {T : Nat → ClassId} {b L : Nat} {xs : Nat → Int32} {i : Nat} {x y : Nat} {S : xS} {σ1 σ2 : wd_S} {H : Heap} {locs : List Loc} {cl sl : Nat} {ls : Array Slot} {Q : State → Prop} (C : CallFix p m c code 4 s #[Value.ref b] wd_tb R_L) (hX : va_X b L xs s s.heap) (hbl : b < s.heap.size) (hL : L ≤ 2560) (hi : i + 5 ≤ L) (hcl : cl + 10 ≤ 600000) (hsl : sl + 100 ≤ 7302250) (h : wd_2 D T s H locs σ1 σ2) (hrx : RX T σ1 x S) (hrm : RM T σ2 y S) (hinv : inv S) (hl : lv_has ls 4 [(3, .int (nI i)), (2, .ref y), (1, .ref x), (0, .ref b)]) (kk : ∀ (S1 : xS) (σ3 σ4 : wd_S) (H1 : Heap) (locs1 : List Loc), wd_2 D T s H1 locs1 σ3 σ4 → RX T σ3 x S1 → RM T σ4 y S1 → inv S1 → W p l e room_1 s m #[Value.ref b] below meth c H1 locs1 (cl + 10) (sl + 100) Q (F0 m 669 ls [])) : W p l e room_1 s m #[Value.ref b] below meth c H locs cl sl Q (F0 m 346 ls []) := by
  have hx := C.1
  have hb := C.2.1
  have hbA : ¬ wd_A s b := Nat.not_le.mpr hbl
  have hn : S.1 ≤ 120 := by obtain ⟨am, fm, hM⟩ := hrm; exact hM.2.2.2.2.2.2.2.2.1
  refine lv_aload_n hx hb d_L_law_346 rfl (lv_at hl 2 rfl) ?_
  refine lv_aload_n hx hb d_L_law_347 rfl (lv_at hl 3 rfl) ?_
  refine lv_iload_n hx hb d_L_law_348 rfl (lv_at hl 0 rfl) ?_
  refine lv_iconst (v := 1) hx hb d_L_law_349 (by decide) ?_
  refine lv_iadd hx hb d_L_law_350 ?_
  rw [show nI i + (1 : Int32) = nI (i + 1) from nI_add i 1]
  refine va_sld hx hb hX hbl hbA h.2.2.2.1 (vp_in_nI (show i + 1 < L by omega) (by omega)) d_L_law_351 ?_
  rw [nI_clamp (show i + 1 < 2 ^ 31 by omega)]
  refine lv_aload_n hx hb d_L_law_352 rfl (lv_at hl 3 rfl) ?_
  refine lv_iload_n hx hb d_L_law_353 rfl (lv_at hl 0 rfl) ?_
  refine lv_iconst (v := 2) hx hb d_L_law_354 (by decide) ?_
  refine lv_iadd hx hb d_L_law_355 ?_
  rw [show nI i + (2 : Int32) = nI (i + 2) from nI_add i 2]
  refine va_sld hx hb hX hbl hbA h.2.2.2.1 (vp_in_nI (show i + 2 < L by omega) (by omega)) d_L_law_356 ?_
  rw [nI_clamp (show i + 2 < 2 ^ 31 by omega)]
  refine lv_aload_n hx hb d_L_law_357 rfl (lv_at hl 3 rfl) ?_
  refine lv_iload_n hx hb d_L_law_358 rfl (lv_at hl 0 rfl) ?_
  refine lv_iconst (v := 3) hx hb d_L_law_359 (by decide) ?_
  refine lv_iadd hx hb d_L_law_360 ?_
  rw [show nI i + (3 : Int32) = nI (i + 3) from nI_add i 3]
  refine va_sld hx hb hX hbl hbA h.2.2.2.1 (vp_in_nI (show i + 3 < L by omega) (by omega)) d_L_law_361 ?_
  rw [nI_clamp (show i + 3 < 2 ^ 31 by omega)]
  refine dia (xs (i + 3)) (z1 := 0) (z2 := 1) (fun z => F0 m 370 ls [.int z, .int (xs (i + 2)), .int (xs (i + 1)), .ref x]) (fun hc k9 => ?_) (fun hc k9 => ?_) ?_
  · refine lv_if_eq (tgt := 369) hx hb d_L_law_362 (by decide) (fun _ => ?_) (fun z => absurd hc z)
    refine lv_iconst (v := 0) hx hb d_L_law_369 (by decide) ?_
    exact k9
  · refine lv_if_eq (tgt := 369) hx hb d_L_law_362 (by decide) (fun z => absurd z hc) (fun _ => ?_)
    refine lv_iconst (v := 1) hx hb d_L_law_365 (by decide) ?_
    refine lv_goto (tgt := 370) hx hb d_L_law_366 (by decide) ?_
    exact k9
  obtain ⟨fx, hcx⟩ := RX.cell hrx
  refine wd_2ci (rest := []) (st0 := [.int (if xs (i + 3) = 0 then 0 else 1), .int (xs (i + 2)), .int (xs (i + 1)), .ref x]) C h kc_F hcx k_F_join wm_F_join wz_F_join lk_L_40 (w_F_join l D T (wd_O σ1 H) σ1 x S hrx hinv (xs (i + 1)) (xs (i + 2)) (if xs (i + 3) = 0 then 0 else 1)) rfl rfl ⟨Nat.le_of_ble_eq_true rfl, Nat.le_of_ble_eq_true rfl⟩ rfl hl.1 rfl (Nat.le_of_ble_eq_true rfl) d_L_law_370 ⟨show cl + 0 ≤ 600000 by omega, show sl + 0 ≤ 7302250 by omega⟩ (fun r1 σ3 H locs hp1 h => ?_)
  refine lv_aload_n hx hb d_L_law_373 rfl (lv_at hl 1 rfl) ?_
  refine lv_aload_n hx hb d_L_law_374 rfl (lv_at hl 3 rfl) ?_
  refine lv_iload_n hx hb d_L_law_375 rfl (lv_at hl 0 rfl) ?_
  refine lv_iconst (v := 1) hx hb d_L_law_376 (by decide) ?_
  refine lv_iadd hx hb d_L_law_377 ?_
  rw [show nI i + (1 : Int32) = nI (i + 1) from nI_add i 1]
  refine va_sld hx hb hX hbl hbA h.2.2.2.1 (vp_in_nI (show i + 1 < L by omega) (by omega)) d_L_law_378 ?_
  rw [nI_clamp (show i + 1 < 2 ^ 31 by omega)]
  refine lv_aload_n hx hb d_L_law_379 rfl (lv_at hl 3 rfl) ?_
  refine lv_iload_n hx hb d_L_law_380 rfl (lv_at hl 0 rfl) ?_
  refine lv_iconst (v := 2) hx hb d_L_law_381 (by decide) ?_
  refine lv_iadd hx hb d_L_law_382 ?_
  rw [show nI i + (2 : Int32) = nI (i + 2) from nI_add i 2]
  refine va_sld hx hb hX hbl hbA h.2.2.2.1 (vp_in_nI (show i + 2 < L by omega) (by omega)) d_L_law_383 ?_
  rw [nI_clamp (show i + 2 < 2 ^ 31 by omega)]
  refine lv_aload_n hx hb d_L_law_384 rfl (lv_at hl 3 rfl) ?_
  refine lv_iload_n hx hb d_L_law_385 rfl (lv_at hl 0 rfl) ?_
  refine lv_iconst (v := 3) hx hb d_L_law_386 (by decide) ?_
  refine lv_iadd hx hb d_L_law_387 ?_
  rw [show nI i + (3 : Int32) = nI (i + 3) from nI_add i 3]
  refine va_sld hx hb hX hbl hbA h.2.2.2.1 (vp_in_nI (show i + 3 < L by omega) (by omega)) d_L_law_388 ?_
  rw [nI_clamp (show i + 3 < 2 ^ 31 by omega)]
  refine dia (xs (i + 3)) (z1 := 0) (z2 := 1) (fun z => F0 m 397 ls [.int z, .int (xs (i + 2)), .int (xs (i + 1)), .ref y, .int r1]) (fun hc k9 => ?_) (fun hc k9 => ?_) ?_
  · refine lv_if_eq (tgt := 396) hx hb d_L_law_389 (by decide) (fun _ => ?_) (fun z => absurd hc z)
    refine lv_iconst (v := 0) hx hb d_L_law_396 (by decide) ?_
    exact k9
  · refine lv_if_eq (tgt := 396) hx hb d_L_law_389 (by decide) (fun z => absurd z hc) (fun _ => ?_)
    refine lv_iconst (v := 1) hx hb d_L_law_392 (by decide) ?_
    refine lv_goto (tgt := 397) hx hb d_L_law_393 (by decide) ?_
    exact k9
  obtain ⟨fy, hcy⟩ := RM.cell hrm
  refine wd_2ci (rest := [.int r1]) (st0 := [.int (if xs (i + 3) = 0 then 0 else 1), .int (xs (i + 2)), .int (xs (i + 1)), .ref y, .int r1]) C h.swap kc_M hcy k_M_join wm_M_join wz_M_join lk_L_44 (w_M_join l D T (wd_O σ2 H) σ2 y S hrm hinv (xs (i + 1)) (xs (i + 2)) (if xs (i + 3) = 0 then 0 else 1)) rfl rfl ⟨Nat.le_of_ble_eq_true rfl, Nat.le_of_ble_eq_true rfl⟩ rfl hl.1 rfl (Nat.le_of_ble_eq_true rfl) d_L_law_397 ⟨show cl + 0 + 0 ≤ 600000 by omega, show sl + 0 + 0 ≤ 7302250 by omega⟩ (fun r2 σ4 H locs hp2 h => ?_)
  refine lv_icmp_eq (tgt := 669) hx hb d_L_law_400 (by decide) (fun c9 => ?_) (fun c9 => absurd (hp1.1.trans hp2.1.symm) c9)
  refine W.widen (k := cl + 10) (n := sl + 100) (by omega) (by omega) ?_
  exact kk _ σ3 σ4 H locs h.swap hp1.2 hp2.2 (inv_join hinv hn)
set_option maxHeartbeats 4000000 in
set_option maxRecDepth 20000 in
theorem lw_c7 {p : Program} {l : Launch} {e : Env} {s : State} {m : MethodId} {below : List Frame} {meth : Method} {c : Code} {D : va_G} {T : Nat → ClassId} {b L : Nat} {xs : Nat → Int32} {i : Nat} {x y : Nat} {S : xS} {σ1 σ2 : wd_S} {H : Heap} {locs : List Loc} {cl sl : Nat} {ls : Array Slot} {Q : State → Prop} (C : CallFix p m c code 4 s #[Value.ref b] wd_tb R_L) (hX : va_X b L xs s s.heap) (hbl : b < s.heap.size) (hL : L ≤ 2560) (hi : i + 5 ≤ L) (hcl : cl + 10 ≤ 600000) (hsl : sl + 100 ≤ 7302250) (h : wd_2 D T s H locs σ1 σ2) (hrx : RX T σ1 x S) (hrm : RM T σ2 y S) (hinv : inv S) (hl : lv_has ls 4 [(3, .int (nI i)), (2, .ref y), (1, .ref x), (0, .ref b)]) (kk : ∀ (S1 : xS) (σ3 σ4 : wd_S) (H1 : Heap) (locs1 : List Loc), wd_2 D T s H1 locs1 σ3 σ4 → RX T σ3 x S1 → RM T σ4 y S1 → inv S1 → W p l e room_1 s m #[Value.ref b] below meth c H1 locs1 (cl + 10) (sl + 100) Q (F0 m 669 ls [])) : W p l e room_1 s m #[Value.ref b] below meth c H locs cl sl Q (F0 m 405 ls []) := by
  have hx := C.1
  have hb := C.2.1
  have hbA : ¬ wd_A s b := Nat.not_le.mpr hbl
  have hn : S.1 ≤ 120 := by obtain ⟨am, fm, hM⟩ := hrm; exact hM.2.2.2.2.2.2.2.2.1
  refine lv_aload_n hx hb d_L_law_405 rfl (lv_at hl 2 rfl) ?_
  refine lv_aload_n hx hb d_L_law_406 rfl (lv_at hl 3 rfl) ?_
  refine lv_iload_n hx hb d_L_law_407 rfl (lv_at hl 0 rfl) ?_
  refine lv_iconst (v := 1) hx hb d_L_law_408 (by decide) ?_
  refine lv_iadd hx hb d_L_law_409 ?_
  rw [show nI i + (1 : Int32) = nI (i + 1) from nI_add i 1]
  refine va_sld hx hb hX hbl hbA h.2.2.2.1 (vp_in_nI (show i + 1 < L by omega) (by omega)) d_L_law_410 ?_
  rw [nI_clamp (show i + 1 < 2 ^ 31 by omega)]
  refine lv_aload_n hx hb d_L_law_411 rfl (lv_at hl 3 rfl) ?_
  refine lv_iload_n hx hb d_L_law_412 rfl (lv_at hl 0 rfl) ?_
  refine lv_iconst (v := 2) hx hb d_L_law_413 (by decide) ?_
  refine lv_iadd hx hb d_L_law_414 ?_
  rw [show nI i + (2 : Int32) = nI (i + 2) from nI_add i 2]
  refine va_sld hx hb hX hbl hbA h.2.2.2.1 (vp_in_nI (show i + 2 < L by omega) (by omega)) d_L_law_415 ?_
  rw [nI_clamp (show i + 2 < 2 ^ 31 by omega)]
  obtain ⟨fx, hcx⟩ := RX.cell hrx
  refine wd_2ci (rest := []) (st0 := [.int (xs (i + 2)), .int (xs (i + 1)), .ref x]) C h kc_F hcx k_F_bulk wm_F_bulk wz_F_bulk lk_L_45 (w_F_bulk l D T (wd_O σ1 H) σ1 x S hrx hinv (xs (i + 1)) (xs (i + 2))) rfl rfl ⟨Nat.le_of_ble_eq_true rfl, Nat.le_of_ble_eq_true rfl⟩ rfl hl.1 rfl (Nat.le_of_ble_eq_true rfl) d_L_law_416 ⟨show cl + 0 ≤ 600000 by omega, show sl + 0 ≤ 7302250 by omega⟩ (fun r1 σ3 H locs hp1 h => ?_)
  refine lv_aload_n hx hb d_L_law_419 rfl (lv_at hl 1 rfl) ?_
  refine lv_aload_n hx hb d_L_law_420 rfl (lv_at hl 3 rfl) ?_
  refine lv_iload_n hx hb d_L_law_421 rfl (lv_at hl 0 rfl) ?_
  refine lv_iconst (v := 1) hx hb d_L_law_422 (by decide) ?_
  refine lv_iadd hx hb d_L_law_423 ?_
  rw [show nI i + (1 : Int32) = nI (i + 1) from nI_add i 1]
  refine va_sld hx hb hX hbl hbA h.2.2.2.1 (vp_in_nI (show i + 1 < L by omega) (by omega)) d_L_law_424 ?_
  rw [nI_clamp (show i + 1 < 2 ^ 31 by omega)]
  refine lv_aload_n hx hb d_L_law_425 rfl (lv_at hl 3 rfl) ?_
  refine lv_iload_n hx hb d_L_law_426 rfl (lv_at hl 0 rfl) ?_
  refine lv_iconst (v := 2) hx hb d_L_law_427 (by decide) ?_
  refine lv_iadd hx hb d_L_law_428 ?_
  rw [show nI i + (2 : Int32) = nI (i + 2) from nI_add i 2]
  refine va_sld hx hb hX hbl hbA h.2.2.2.1 (vp_in_nI (show i + 2 < L by omega) (by omega)) d_L_law_429 ?_
  rw [nI_clamp (show i + 2 < 2 ^ 31 by omega)]
  obtain ⟨fy, hcy⟩ := RM.cell hrm
  refine wd_2ci (rest := [.int r1]) (st0 := [.int (xs (i + 2)), .int (xs (i + 1)), .ref y, .int r1]) C h.swap kc_M hcy k_M_bulk wm_M_bulk wz_M_bulk lk_L_48 (w_M_bulk l D T (wd_O σ2 H) σ2 y S hrm hinv (xs (i + 1)) (xs (i + 2))) rfl rfl ⟨Nat.le_of_ble_eq_true rfl, Nat.le_of_ble_eq_true rfl⟩ rfl hl.1 rfl (Nat.le_of_ble_eq_true rfl) d_L_law_430 ⟨show cl + 0 + 0 ≤ 600000 by omega, show sl + 0 + 0 ≤ 7302250 by omega⟩ (fun r2 σ4 H locs hp2 h => ?_)
  refine lv_icmp_eq (tgt := 669) hx hb d_L_law_433 (by decide) (fun c9 => ?_) (fun c9 => absurd (hp1.1.trans hp2.1.symm) c9)
  refine W.widen (k := cl + 10) (n := sl + 100) (by omega) (by omega) ?_
  exact kk _ σ3 σ4 H locs h.swap hp1.2 hp2.2 (inv_bulk hinv hn)
set_option maxHeartbeats 4000000 in
set_option maxRecDepth 20000 in
theorem lw_c8 {p : Program} {l : Launch} {e : Env} {s : State} {m : MethodId} {below : List Frame} {meth : Method} {c : Code} {D : va_G} {T : Nat → ClassId} {b L : Nat} {xs : Nat → Int32} {i : Nat} {x y : Nat} {S : xS} {σ1 σ2 : wd_S} {H : Heap} {locs : List Loc} {cl sl : Nat} {ls : Array Slot} {Q : State → Prop} (C : CallFix p m c code 4 s #[Value.ref b] wd_tb R_L) (hX : va_X b L xs s s.heap) (hbl : b < s.heap.size) (hL : L ≤ 2560) (hi : i + 5 ≤ L) (hcl : cl + 10 ≤ 600000) (hsl : sl + 100 ≤ 7302250) (h : wd_2 D T s H locs σ1 σ2) (hrx : RX T σ1 x S) (hrm : RM T σ2 y S) (hinv : inv S) (hl : lv_has ls 4 [(3, .int (nI i)), (2, .ref y), (1, .ref x), (0, .ref b)]) (kk : ∀ (S1 : xS) (σ3 σ4 : wd_S) (H1 : Heap) (locs1 : List Loc), wd_2 D T s H1 locs1 σ3 σ4 → RX T σ3 x S1 → RM T σ4 y S1 → inv S1 → W p l e room_1 s m #[Value.ref b] below meth c H1 locs1 (cl + 10) (sl + 100) Q (F0 m 669 ls [])) : W p l e room_1 s m #[Value.ref b] below meth c H locs cl sl Q (F0 m 438 ls []) := by
  have hx := C.1
  have hb := C.2.1
  have hbA : ¬ wd_A s b := Nat.not_le.mpr hbl
  have hn : S.1 ≤ 120 := by obtain ⟨am, fm, hM⟩ := hrm; exact hM.2.2.2.2.2.2.2.2.1
  refine lv_aload_n hx hb d_L_law_438 rfl (lv_at hl 2 rfl) ?_
  refine lv_aload_n hx hb d_L_law_439 rfl (lv_at hl 3 rfl) ?_
  refine lv_iload_n hx hb d_L_law_440 rfl (lv_at hl 0 rfl) ?_
  refine lv_iconst (v := 1) hx hb d_L_law_441 (by decide) ?_
  refine lv_iadd hx hb d_L_law_442 ?_
  rw [show nI i + (1 : Int32) = nI (i + 1) from nI_add i 1]
  refine va_sld hx hb hX hbl hbA h.2.2.2.1 (vp_in_nI (show i + 1 < L by omega) (by omega)) d_L_law_443 ?_
  rw [nI_clamp (show i + 1 < 2 ^ 31 by omega)]
  refine lv_aload_n hx hb d_L_law_444 rfl (lv_at hl 3 rfl) ?_
  refine lv_iload_n hx hb d_L_law_445 rfl (lv_at hl 0 rfl) ?_
  refine lv_iconst (v := 2) hx hb d_L_law_446 (by decide) ?_
  refine lv_iadd hx hb d_L_law_447 ?_
  rw [show nI i + (2 : Int32) = nI (i + 2) from nI_add i 2]
  refine va_sld hx hb hX hbl hbA h.2.2.2.1 (vp_in_nI (show i + 2 < L by omega) (by omega)) d_L_law_448 ?_
  rw [nI_clamp (show i + 2 < 2 ^ 31 by omega)]
  refine lv_aload_n hx hb d_L_law_449 rfl (lv_at hl 3 rfl) ?_
  refine lv_iload_n hx hb d_L_law_450 rfl (lv_at hl 0 rfl) ?_
  refine lv_iconst (v := 3) hx hb d_L_law_451 (by decide) ?_
  refine lv_iadd hx hb d_L_law_452 ?_
  rw [show nI i + (3 : Int32) = nI (i + 3) from nI_add i 3]
  refine va_sld hx hb hX hbl hbA h.2.2.2.1 (vp_in_nI (show i + 3 < L by omega) (by omega)) d_L_law_453 ?_
  rw [nI_clamp (show i + 3 < 2 ^ 31 by omega)]
  obtain ⟨fx, hcx⟩ := RX.cell hrx
  refine wd_2ci (rest := []) (st0 := [.int (xs (i + 3)), .int (xs (i + 2)), .int (xs (i + 1)), .ref x]) C h kc_F hcx k_F_open wm_F_open wz_F_open lk_L_49 (w_F_open l D T (wd_O σ1 H) σ1 x S hrx hinv (xs (i + 1)) (xs (i + 2)) (xs (i + 3))) rfl rfl ⟨Nat.le_of_ble_eq_true rfl, Nat.le_of_ble_eq_true rfl⟩ rfl hl.1 rfl (Nat.le_of_ble_eq_true rfl) d_L_law_454 ⟨show cl + 0 ≤ 600000 by omega, show sl + 0 ≤ 7302250 by omega⟩ (fun r1 σ3 H locs hp1 h => ?_)
  refine lv_aload_n hx hb d_L_law_457 rfl (lv_at hl 1 rfl) ?_
  refine lv_aload_n hx hb d_L_law_458 rfl (lv_at hl 3 rfl) ?_
  refine lv_iload_n hx hb d_L_law_459 rfl (lv_at hl 0 rfl) ?_
  refine lv_iconst (v := 1) hx hb d_L_law_460 (by decide) ?_
  refine lv_iadd hx hb d_L_law_461 ?_
  rw [show nI i + (1 : Int32) = nI (i + 1) from nI_add i 1]
  refine va_sld hx hb hX hbl hbA h.2.2.2.1 (vp_in_nI (show i + 1 < L by omega) (by omega)) d_L_law_462 ?_
  rw [nI_clamp (show i + 1 < 2 ^ 31 by omega)]
  refine lv_aload_n hx hb d_L_law_463 rfl (lv_at hl 3 rfl) ?_
  refine lv_iload_n hx hb d_L_law_464 rfl (lv_at hl 0 rfl) ?_
  refine lv_iconst (v := 2) hx hb d_L_law_465 (by decide) ?_
  refine lv_iadd hx hb d_L_law_466 ?_
  rw [show nI i + (2 : Int32) = nI (i + 2) from nI_add i 2]
  refine va_sld hx hb hX hbl hbA h.2.2.2.1 (vp_in_nI (show i + 2 < L by omega) (by omega)) d_L_law_467 ?_
  rw [nI_clamp (show i + 2 < 2 ^ 31 by omega)]
  refine lv_aload_n hx hb d_L_law_468 rfl (lv_at hl 3 rfl) ?_
  refine lv_iload_n hx hb d_L_law_469 rfl (lv_at hl 0 rfl) ?_
  refine lv_iconst (v := 3) hx hb d_L_law_470 (by decide) ?_
  refine lv_iadd hx hb d_L_law_471 ?_
  rw [show nI i + (3 : Int32) = nI (i + 3) from nI_add i 3]
  refine va_sld hx hb hX hbl hbA h.2.2.2.1 (vp_in_nI (show i + 3 < L by omega) (by omega)) d_L_law_472 ?_
  rw [nI_clamp (show i + 3 < 2 ^ 31 by omega)]
  obtain ⟨fy, hcy⟩ := RM.cell hrm
  refine wd_2ci (rest := [.int r1]) (st0 := [.int (xs (i + 3)), .int (xs (i + 2)), .int (xs (i + 1)), .ref y, .int r1]) C h.swap kc_M hcy k_M_open wm_M_open wz_M_open lk_L_52 (w_M_open l D T (wd_O σ2 H) σ2 y S hrm hinv (xs (i + 1)) (xs (i + 2)) (xs (i + 3))) rfl rfl ⟨Nat.le_of_ble_eq_true rfl, Nat.le_of_ble_eq_true rfl⟩ rfl hl.1 rfl (Nat.le_of_ble_eq_true rfl) d_L_law_473 ⟨show cl + 0 + 0 ≤ 600000 by omega, show sl + 0 + 0 ≤ 7302250 by omega⟩ (fun r2 σ4 H locs hp2 h => ?_)
  refine lv_icmp_eq (tgt := 669) hx hb d_L_law_476 (by decide) (fun c9 => ?_) (fun c9 => absurd (hp1.1.trans hp2.1.symm) c9)
  refine W.widen (k := cl + 10) (n := sl + 100) (by omega) (by omega) ?_
  exact kk _ σ3 σ4 H locs h.swap hp1.2 hp2.2 (inv_upd hinv hn (ok_opn _ _))
set_option maxHeartbeats 4000000 in
set_option maxRecDepth 20000 in
theorem lw_c9 {p : Program} {l : Launch} {e : Env} {s : State} {m : MethodId} {below : List Frame} {meth : Method} {c : Code} {D : va_G} {T : Nat → ClassId} {b L : Nat} {xs : Nat → Int32} {i : Nat} {x y : Nat} {S : xS} {σ1 σ2 : wd_S} {H : Heap} {locs : List Loc} {cl sl : Nat} {ls : Array Slot} {Q : State → Prop} (C : CallFix p m c code 4 s #[Value.ref b] wd_tb R_L) (hX : va_X b L xs s s.heap) (hbl : b < s.heap.size) (hL : L ≤ 2560) (hi : i + 5 ≤ L) (hcl : cl + 10 ≤ 600000) (hsl : sl + 100 ≤ 7302250) (h : wd_2 D T s H locs σ1 σ2) (hrx : RX T σ1 x S) (hrm : RM T σ2 y S) (hinv : inv S) (hl : lv_has ls 4 [(3, .int (nI i)), (2, .ref y), (1, .ref x), (0, .ref b)]) (kk : ∀ (S1 : xS) (σ3 σ4 : wd_S) (H1 : Heap) (locs1 : List Loc), wd_2 D T s H1 locs1 σ3 σ4 → RX T σ3 x S1 → RM T σ4 y S1 → inv S1 → W p l e room_1 s m #[Value.ref b] below meth c H1 locs1 (cl + 10) (sl + 100) Q (F0 m 669 ls [])) : W p l e room_1 s m #[Value.ref b] below meth c H locs cl sl Q (F0 m 481 ls []) := by
  have hx := C.1
  have hb := C.2.1
  have hbA : ¬ wd_A s b := Nat.not_le.mpr hbl
  have hn : S.1 ≤ 120 := by obtain ⟨am, fm, hM⟩ := hrm; exact hM.2.2.2.2.2.2.2.2.1
  refine lv_aload_n hx hb d_L_law_481 rfl (lv_at hl 2 rfl) ?_
  refine lv_aload_n hx hb d_L_law_482 rfl (lv_at hl 3 rfl) ?_
  refine lv_iload_n hx hb d_L_law_483 rfl (lv_at hl 0 rfl) ?_
  refine lv_iconst (v := 1) hx hb d_L_law_484 (by decide) ?_
  refine lv_iadd hx hb d_L_law_485 ?_
  rw [show nI i + (1 : Int32) = nI (i + 1) from nI_add i 1]
  refine va_sld hx hb hX hbl hbA h.2.2.2.1 (vp_in_nI (show i + 1 < L by omega) (by omega)) d_L_law_486 ?_
  rw [nI_clamp (show i + 1 < 2 ^ 31 by omega)]
  refine lv_aload_n hx hb d_L_law_487 rfl (lv_at hl 3 rfl) ?_
  refine lv_iload_n hx hb d_L_law_488 rfl (lv_at hl 0 rfl) ?_
  refine lv_iconst (v := 2) hx hb d_L_law_489 (by decide) ?_
  refine lv_iadd hx hb d_L_law_490 ?_
  rw [show nI i + (2 : Int32) = nI (i + 2) from nI_add i 2]
  refine va_sld hx hb hX hbl hbA h.2.2.2.1 (vp_in_nI (show i + 2 < L by omega) (by omega)) d_L_law_491 ?_
  rw [nI_clamp (show i + 2 < 2 ^ 31 by omega)]
  refine lv_aload_n hx hb d_L_law_492 rfl (lv_at hl 3 rfl) ?_
  refine lv_iload_n hx hb d_L_law_493 rfl (lv_at hl 0 rfl) ?_
  refine lv_iconst (v := 3) hx hb d_L_law_494 (by decide) ?_
  refine lv_iadd hx hb d_L_law_495 ?_
  rw [show nI i + (3 : Int32) = nI (i + 3) from nI_add i 3]
  refine va_sld hx hb hX hbl hbA h.2.2.2.1 (vp_in_nI (show i + 3 < L by omega) (by omega)) d_L_law_496 ?_
  rw [nI_clamp (show i + 3 < 2 ^ 31 by omega)]
  refine lv_aload_n hx hb d_L_law_497 rfl (lv_at hl 3 rfl) ?_
  refine lv_iload_n hx hb d_L_law_498 rfl (lv_at hl 0 rfl) ?_
  refine lv_iconst (v := 4) hx hb d_L_law_499 (by decide) ?_
  refine lv_iadd hx hb d_L_law_500 ?_
  rw [show nI i + (4 : Int32) = nI (i + 4) from nI_add i 4]
  refine va_sld hx hb hX hbl hbA h.2.2.2.1 (vp_in_nI (show i + 4 < L by omega) (by omega)) d_L_law_501 ?_
  rw [nI_clamp (show i + 4 < 2 ^ 31 by omega)]
  obtain ⟨fx, hcx⟩ := RX.cell hrx
  refine wd_2ci (rest := []) (st0 := [.int (xs (i + 4)), .int (xs (i + 3)), .int (xs (i + 2)), .int (xs (i + 1)), .ref x]) C h kc_F hcx k_F_correct wm_F_correct wz_F_correct lk_L_53 (w_F_correct l D T (wd_O σ1 H) σ1 x S hrx hinv (xs (i + 1)) (xs (i + 2)) (xs (i + 3)) (xs (i + 4))) rfl rfl ⟨Nat.le_of_ble_eq_true rfl, Nat.le_of_ble_eq_true rfl⟩ rfl hl.1 rfl (Nat.le_of_ble_eq_true rfl) d_L_law_502 ⟨show cl + 1 ≤ 600000 by omega, show sl + 5 ≤ 7302250 by omega⟩ (fun r1 σ3 H locs hp1 h => ?_)
  refine lv_aload_n hx hb d_L_law_505 rfl (lv_at hl 1 rfl) ?_
  refine lv_aload_n hx hb d_L_law_506 rfl (lv_at hl 3 rfl) ?_
  refine lv_iload_n hx hb d_L_law_507 rfl (lv_at hl 0 rfl) ?_
  refine lv_iconst (v := 1) hx hb d_L_law_508 (by decide) ?_
  refine lv_iadd hx hb d_L_law_509 ?_
  rw [show nI i + (1 : Int32) = nI (i + 1) from nI_add i 1]
  refine va_sld hx hb hX hbl hbA h.2.2.2.1 (vp_in_nI (show i + 1 < L by omega) (by omega)) d_L_law_510 ?_
  rw [nI_clamp (show i + 1 < 2 ^ 31 by omega)]
  refine lv_aload_n hx hb d_L_law_511 rfl (lv_at hl 3 rfl) ?_
  refine lv_iload_n hx hb d_L_law_512 rfl (lv_at hl 0 rfl) ?_
  refine lv_iconst (v := 2) hx hb d_L_law_513 (by decide) ?_
  refine lv_iadd hx hb d_L_law_514 ?_
  rw [show nI i + (2 : Int32) = nI (i + 2) from nI_add i 2]
  refine va_sld hx hb hX hbl hbA h.2.2.2.1 (vp_in_nI (show i + 2 < L by omega) (by omega)) d_L_law_515 ?_
  rw [nI_clamp (show i + 2 < 2 ^ 31 by omega)]
  refine lv_aload_n hx hb d_L_law_516 rfl (lv_at hl 3 rfl) ?_
  refine lv_iload_n hx hb d_L_law_517 rfl (lv_at hl 0 rfl) ?_
  refine lv_iconst (v := 3) hx hb d_L_law_518 (by decide) ?_
  refine lv_iadd hx hb d_L_law_519 ?_
  rw [show nI i + (3 : Int32) = nI (i + 3) from nI_add i 3]
  refine va_sld hx hb hX hbl hbA h.2.2.2.1 (vp_in_nI (show i + 3 < L by omega) (by omega)) d_L_law_520 ?_
  rw [nI_clamp (show i + 3 < 2 ^ 31 by omega)]
  refine lv_aload_n hx hb d_L_law_521 rfl (lv_at hl 3 rfl) ?_
  refine lv_iload_n hx hb d_L_law_522 rfl (lv_at hl 0 rfl) ?_
  refine lv_iconst (v := 4) hx hb d_L_law_523 (by decide) ?_
  refine lv_iadd hx hb d_L_law_524 ?_
  rw [show nI i + (4 : Int32) = nI (i + 4) from nI_add i 4]
  refine va_sld hx hb hX hbl hbA h.2.2.2.1 (vp_in_nI (show i + 4 < L by omega) (by omega)) d_L_law_525 ?_
  rw [nI_clamp (show i + 4 < 2 ^ 31 by omega)]
  obtain ⟨fy, hcy⟩ := RM.cell hrm
  refine wd_2ci (rest := [.int r1]) (st0 := [.int (xs (i + 4)), .int (xs (i + 3)), .int (xs (i + 2)), .int (xs (i + 1)), .ref y, .int r1]) C h.swap kc_M hcy k_M_correct wm_M_correct wz_M_correct lk_L_56 (w_M_correct l D T (wd_O σ2 H) σ2 y S hrm hinv (xs (i + 1)) (xs (i + 2)) (xs (i + 3)) (xs (i + 4))) rfl rfl ⟨Nat.le_of_ble_eq_true rfl, Nat.le_of_ble_eq_true rfl⟩ rfl hl.1 rfl (Nat.le_of_ble_eq_true rfl) d_L_law_526 ⟨show cl + 1 + 0 ≤ 600000 by omega, show sl + 5 + 0 ≤ 7302250 by omega⟩ (fun r2 σ4 H locs hp2 h => ?_)
  refine lv_icmp_eq (tgt := 669) hx hb d_L_law_529 (by decide) (fun c9 => ?_) (fun c9 => absurd (hp1.1.trans hp2.1.symm) c9)
  refine W.widen (k := cl + 10) (n := sl + 100) (by omega) (by omega) ?_
  exact kk _ σ3 σ4 H locs h.swap hp1.2 hp2.2 (inv_corr hinv hn)
set_option maxHeartbeats 4000000 in
set_option maxRecDepth 20000 in
theorem lw_c10 {p : Program} {l : Launch} {e : Env} {s : State} {m : MethodId} {below : List Frame} {meth : Method} {c : Code} {D : va_G} {T : Nat → ClassId} {b L : Nat} {xs : Nat → Int32} {i : Nat} {x y : Nat} {S : xS} {σ1 σ2 : wd_S} {H : Heap} {locs : List Loc} {cl sl : Nat} {ls : Array Slot} {Q : State → Prop} (C : CallFix p m c code 4 s #[Value.ref b] wd_tb R_L) (hX : va_X b L xs s s.heap) (hbl : b < s.heap.size) (hL : L ≤ 2560) (hi : i + 5 ≤ L) (hcl : cl + 10 ≤ 600000) (hsl : sl + 100 ≤ 7302250) (h : wd_2 D T s H locs σ1 σ2) (hrx : RX T σ1 x S) (hrm : RM T σ2 y S) (hinv : inv S) (hl : lv_has ls 4 [(3, .int (nI i)), (2, .ref y), (1, .ref x), (0, .ref b)]) (kk : ∀ (S1 : xS) (σ3 σ4 : wd_S) (H1 : Heap) (locs1 : List Loc), wd_2 D T s H1 locs1 σ3 σ4 → RX T σ3 x S1 → RM T σ4 y S1 → inv S1 → W p l e room_1 s m #[Value.ref b] below meth c H1 locs1 (cl + 10) (sl + 100) Q (F0 m 669 ls [])) : W p l e room_1 s m #[Value.ref b] below meth c H locs cl sl Q (F0 m 534 ls []) := by
  have hx := C.1
  have hb := C.2.1
  have hbA : ¬ wd_A s b := Nat.not_le.mpr hbl
  have hn : S.1 ≤ 120 := by obtain ⟨am, fm, hM⟩ := hrm; exact hM.2.2.2.2.2.2.2.2.1
  refine lv_aload_n hx hb d_L_law_534 rfl (lv_at hl 2 rfl) ?_
  refine lv_aload_n hx hb d_L_law_535 rfl (lv_at hl 3 rfl) ?_
  refine lv_iload_n hx hb d_L_law_536 rfl (lv_at hl 0 rfl) ?_
  refine lv_iconst (v := 1) hx hb d_L_law_537 (by decide) ?_
  refine lv_iadd hx hb d_L_law_538 ?_
  rw [show nI i + (1 : Int32) = nI (i + 1) from nI_add i 1]
  refine va_sld hx hb hX hbl hbA h.2.2.2.1 (vp_in_nI (show i + 1 < L by omega) (by omega)) d_L_law_539 ?_
  rw [nI_clamp (show i + 1 < 2 ^ 31 by omega)]
  refine lv_aload_n hx hb d_L_law_540 rfl (lv_at hl 3 rfl) ?_
  refine lv_iload_n hx hb d_L_law_541 rfl (lv_at hl 0 rfl) ?_
  refine lv_iconst (v := 2) hx hb d_L_law_542 (by decide) ?_
  refine lv_iadd hx hb d_L_law_543 ?_
  rw [show nI i + (2 : Int32) = nI (i + 2) from nI_add i 2]
  refine va_sld hx hb hX hbl hbA h.2.2.2.1 (vp_in_nI (show i + 2 < L by omega) (by omega)) d_L_law_544 ?_
  rw [nI_clamp (show i + 2 < 2 ^ 31 by omega)]
  obtain ⟨fx, hcx⟩ := RX.cell hrx
  refine wd_2ci (rest := []) (st0 := [.int (xs (i + 2)), .int (xs (i + 1)), .ref x]) C h kc_F hcx k_F_row wm_F_row wz_F_row lk_L_57 (w_F_row l D T (wd_O σ1 H) σ1 x S hrx hinv (xs (i + 1)) (xs (i + 2))) rfl rfl ⟨Nat.le_of_ble_eq_true rfl, Nat.le_of_ble_eq_true rfl⟩ rfl hl.1 rfl (Nat.le_of_ble_eq_true rfl) d_L_law_545 ⟨show cl + 0 ≤ 600000 by omega, show sl + 0 ≤ 7302250 by omega⟩ (fun r1 σ3 H locs hp1 h => ?_)
  refine lv_aload_n hx hb d_L_law_548 rfl (lv_at hl 1 rfl) ?_
  refine lv_aload_n hx hb d_L_law_549 rfl (lv_at hl 3 rfl) ?_
  refine lv_iload_n hx hb d_L_law_550 rfl (lv_at hl 0 rfl) ?_
  refine lv_iconst (v := 1) hx hb d_L_law_551 (by decide) ?_
  refine lv_iadd hx hb d_L_law_552 ?_
  rw [show nI i + (1 : Int32) = nI (i + 1) from nI_add i 1]
  refine va_sld hx hb hX hbl hbA h.2.2.2.1 (vp_in_nI (show i + 1 < L by omega) (by omega)) d_L_law_553 ?_
  rw [nI_clamp (show i + 1 < 2 ^ 31 by omega)]
  refine lv_aload_n hx hb d_L_law_554 rfl (lv_at hl 3 rfl) ?_
  refine lv_iload_n hx hb d_L_law_555 rfl (lv_at hl 0 rfl) ?_
  refine lv_iconst (v := 2) hx hb d_L_law_556 (by decide) ?_
  refine lv_iadd hx hb d_L_law_557 ?_
  rw [show nI i + (2 : Int32) = nI (i + 2) from nI_add i 2]
  refine va_sld hx hb hX hbl hbA h.2.2.2.1 (vp_in_nI (show i + 2 < L by omega) (by omega)) d_L_law_558 ?_
  rw [nI_clamp (show i + 2 < 2 ^ 31 by omega)]
  obtain ⟨fy, hcy⟩ := RM.cell hrm
  refine wd_2ci (rest := [.int r1]) (st0 := [.int (xs (i + 2)), .int (xs (i + 1)), .ref y, .int r1]) C h.swap kc_M hcy k_M_row wm_M_row wz_M_row lk_L_60 (w_M_row l D T (wd_O σ2 H) σ2 y S hrm hinv (xs (i + 1)) (xs (i + 2))) rfl rfl ⟨Nat.le_of_ble_eq_true rfl, Nat.le_of_ble_eq_true rfl⟩ rfl hl.1 rfl (Nat.le_of_ble_eq_true rfl) d_L_law_559 ⟨show cl + 0 + 0 ≤ 600000 by omega, show sl + 0 + 0 ≤ 7302250 by omega⟩ (fun r2 σ4 H locs hp2 h => ?_)
  refine lv_icmp_eq (tgt := 669) hx hb d_L_law_562 (by decide) (fun c9 => ?_) (fun c9 => absurd (hp1.1.trans hp2.1.symm) c9)
  refine W.widen (k := cl + 10) (n := sl + 100) (by omega) (by omega) ?_
  exact kk _ σ3 σ4 H locs h.swap hp1.2 hp2.2 (hinv)
set_option maxHeartbeats 4000000 in
set_option maxRecDepth 20000 in
theorem lw_c11 {p : Program} {l : Launch} {e : Env} {s : State} {m : MethodId} {below : List Frame} {meth : Method} {c : Code} {D : va_G} {T : Nat → ClassId} {b L : Nat} {xs : Nat → Int32} {i : Nat} {x y : Nat} {S : xS} {σ1 σ2 : wd_S} {H : Heap} {locs : List Loc} {cl sl : Nat} {ls : Array Slot} {Q : State → Prop} (C : CallFix p m c code 4 s #[Value.ref b] wd_tb R_L) (hX : va_X b L xs s s.heap) (hbl : b < s.heap.size) (hL : L ≤ 2560) (hi : i + 5 ≤ L) (hcl : cl + 10 ≤ 600000) (hsl : sl + 100 ≤ 7302250) (h : wd_2 D T s H locs σ1 σ2) (hrx : RX T σ1 x S) (hrm : RM T σ2 y S) (hinv : inv S) (hl : lv_has ls 4 [(3, .int (nI i)), (2, .ref y), (1, .ref x), (0, .ref b)]) (kk : ∀ (S1 : xS) (σ3 σ4 : wd_S) (H1 : Heap) (locs1 : List Loc), wd_2 D T s H1 locs1 σ3 σ4 → RX T σ3 x S1 → RM T σ4 y S1 → inv S1 → W p l e room_1 s m #[Value.ref b] below meth c H1 locs1 (cl + 10) (sl + 100) Q (F0 m 669 ls [])) : W p l e room_1 s m #[Value.ref b] below meth c H locs cl sl Q (F0 m 567 ls []) := by
  have hx := C.1
  have hb := C.2.1
  have hbA : ¬ wd_A s b := Nat.not_le.mpr hbl
  have hn : S.1 ≤ 120 := by obtain ⟨am, fm, hM⟩ := hrm; exact hM.2.2.2.2.2.2.2.2.1
  refine lv_aload_n hx hb d_L_law_567 rfl (lv_at hl 2 rfl) ?_
  refine lv_aload_n hx hb d_L_law_568 rfl (lv_at hl 3 rfl) ?_
  refine lv_iload_n hx hb d_L_law_569 rfl (lv_at hl 0 rfl) ?_
  refine lv_iconst (v := 1) hx hb d_L_law_570 (by decide) ?_
  refine lv_iadd hx hb d_L_law_571 ?_
  rw [show nI i + (1 : Int32) = nI (i + 1) from nI_add i 1]
  refine va_sld hx hb hX hbl hbA h.2.2.2.1 (vp_in_nI (show i + 1 < L by omega) (by omega)) d_L_law_572 ?_
  rw [nI_clamp (show i + 1 < 2 ^ 31 by omega)]
  refine lv_aload_n hx hb d_L_law_573 rfl (lv_at hl 3 rfl) ?_
  refine lv_iload_n hx hb d_L_law_574 rfl (lv_at hl 0 rfl) ?_
  refine lv_iconst (v := 2) hx hb d_L_law_575 (by decide) ?_
  refine lv_iadd hx hb d_L_law_576 ?_
  rw [show nI i + (2 : Int32) = nI (i + 2) from nI_add i 2]
  refine va_sld hx hb hX hbl hbA h.2.2.2.1 (vp_in_nI (show i + 2 < L by omega) (by omega)) d_L_law_577 ?_
  rw [nI_clamp (show i + 2 < 2 ^ 31 by omega)]
  obtain ⟨fx, hcx⟩ := RX.cell hrx
  refine wd_2ci (rest := []) (st0 := [.int (xs (i + 2)), .int (xs (i + 1)), .ref x]) C h kc_F hcx k_F_about wm_F_about wz_F_about lk_L_61 (w_F_about l D T (wd_O σ1 H) σ1 x S hrx hinv (xs (i + 1)) (xs (i + 2))) rfl rfl ⟨Nat.le_of_ble_eq_true rfl, Nat.le_of_ble_eq_true rfl⟩ rfl hl.1 rfl (Nat.le_of_ble_eq_true rfl) d_L_law_578 ⟨show cl + 0 ≤ 600000 by omega, show sl + 0 ≤ 7302250 by omega⟩ (fun r1 σ3 H locs hp1 h => ?_)
  refine lv_aload_n hx hb d_L_law_581 rfl (lv_at hl 1 rfl) ?_
  refine lv_aload_n hx hb d_L_law_582 rfl (lv_at hl 3 rfl) ?_
  refine lv_iload_n hx hb d_L_law_583 rfl (lv_at hl 0 rfl) ?_
  refine lv_iconst (v := 1) hx hb d_L_law_584 (by decide) ?_
  refine lv_iadd hx hb d_L_law_585 ?_
  rw [show nI i + (1 : Int32) = nI (i + 1) from nI_add i 1]
  refine va_sld hx hb hX hbl hbA h.2.2.2.1 (vp_in_nI (show i + 1 < L by omega) (by omega)) d_L_law_586 ?_
  rw [nI_clamp (show i + 1 < 2 ^ 31 by omega)]
  refine lv_aload_n hx hb d_L_law_587 rfl (lv_at hl 3 rfl) ?_
  refine lv_iload_n hx hb d_L_law_588 rfl (lv_at hl 0 rfl) ?_
  refine lv_iconst (v := 2) hx hb d_L_law_589 (by decide) ?_
  refine lv_iadd hx hb d_L_law_590 ?_
  rw [show nI i + (2 : Int32) = nI (i + 2) from nI_add i 2]
  refine va_sld hx hb hX hbl hbA h.2.2.2.1 (vp_in_nI (show i + 2 < L by omega) (by omega)) d_L_law_591 ?_
  rw [nI_clamp (show i + 2 < 2 ^ 31 by omega)]
  obtain ⟨fy, hcy⟩ := RM.cell hrm
  refine wd_2ci (rest := [.int r1]) (st0 := [.int (xs (i + 2)), .int (xs (i + 1)), .ref y, .int r1]) C h.swap kc_M hcy k_M_about wm_M_about wz_M_about lk_L_64 (w_M_about l D T (wd_O σ2 H) σ2 y S hrm hinv (xs (i + 1)) (xs (i + 2))) rfl rfl ⟨Nat.le_of_ble_eq_true rfl, Nat.le_of_ble_eq_true rfl⟩ rfl hl.1 rfl (Nat.le_of_ble_eq_true rfl) d_L_law_592 ⟨show cl + 0 + 0 ≤ 600000 by omega, show sl + 0 + 0 ≤ 7302250 by omega⟩ (fun r2 σ4 H locs hp2 h => ?_)
  refine lv_icmp_eq (tgt := 669) hx hb d_L_law_595 (by decide) (fun c9 => ?_) (fun c9 => absurd (hp1.1.trans hp2.1.symm) c9)
  refine W.widen (k := cl + 10) (n := sl + 100) (by omega) (by omega) ?_
  exact kk _ σ3 σ4 H locs h.swap hp1.2 hp2.2 (inv_upd hinv hn (ok_abt _))
set_option maxHeartbeats 4000000 in
set_option maxRecDepth 20000 in
theorem lw_c12 {p : Program} {l : Launch} {e : Env} {s : State} {m : MethodId} {below : List Frame} {meth : Method} {c : Code} {D : va_G} {T : Nat → ClassId} {b L : Nat} {xs : Nat → Int32} {i : Nat} {x y : Nat} {S : xS} {σ1 σ2 : wd_S} {H : Heap} {locs : List Loc} {cl sl : Nat} {ls : Array Slot} {Q : State → Prop} (C : CallFix p m c code 4 s #[Value.ref b] wd_tb R_L) (hX : va_X b L xs s s.heap) (hbl : b < s.heap.size) (hL : L ≤ 2560) (hi : i + 5 ≤ L) (hcl : cl + 10 ≤ 600000) (hsl : sl + 100 ≤ 7302250) (h : wd_2 D T s H locs σ1 σ2) (hrx : RX T σ1 x S) (hrm : RM T σ2 y S) (hinv : inv S) (hl : lv_has ls 4 [(3, .int (nI i)), (2, .ref y), (1, .ref x), (0, .ref b)]) (kk : ∀ (S1 : xS) (σ3 σ4 : wd_S) (H1 : Heap) (locs1 : List Loc), wd_2 D T s H1 locs1 σ3 σ4 → RX T σ3 x S1 → RM T σ4 y S1 → inv S1 → W p l e room_1 s m #[Value.ref b] below meth c H1 locs1 (cl + 10) (sl + 100) Q (F0 m 669 ls [])) : W p l e room_1 s m #[Value.ref b] below meth c H locs cl sl Q (F0 m 600 ls []) := by
  have hx := C.1
  have hb := C.2.1
  have hbA : ¬ wd_A s b := Nat.not_le.mpr hbl
  have hn : S.1 ≤ 120 := by obtain ⟨am, fm, hM⟩ := hrm; exact hM.2.2.2.2.2.2.2.2.1
  refine lv_aload_n hx hb d_L_law_600 rfl (lv_at hl 2 rfl) ?_
  refine lv_aload_n hx hb d_L_law_601 rfl (lv_at hl 3 rfl) ?_
  refine lv_iload_n hx hb d_L_law_602 rfl (lv_at hl 0 rfl) ?_
  refine lv_iconst (v := 1) hx hb d_L_law_603 (by decide) ?_
  refine lv_iadd hx hb d_L_law_604 ?_
  rw [show nI i + (1 : Int32) = nI (i + 1) from nI_add i 1]
  refine va_sld hx hb hX hbl hbA h.2.2.2.1 (vp_in_nI (show i + 1 < L by omega) (by omega)) d_L_law_605 ?_
  rw [nI_clamp (show i + 1 < 2 ^ 31 by omega)]
  obtain ⟨fx, hcx⟩ := RX.cell hrx
  refine wd_2ci (rest := []) (st0 := [.int (xs (i + 1)), .ref x]) C h kc_F hcx k_F_pack wm_F_pack wz_F_pack lk_L_65 (w_F_pack l D T (wd_O σ1 H) σ1 x S hrx hinv (xs (i + 1))) rfl rfl ⟨Nat.le_of_ble_eq_true rfl, Nat.le_of_ble_eq_true rfl⟩ rfl hl.1 rfl (Nat.le_of_ble_eq_true rfl) d_L_law_606 ⟨show cl + 0 ≤ 600000 by omega, show sl + 0 ≤ 7302250 by omega⟩ (fun r1 σ3 H locs hp1 h => ?_)
  refine lv_aload_n hx hb d_L_law_609 rfl (lv_at hl 1 rfl) ?_
  refine lv_aload_n hx hb d_L_law_610 rfl (lv_at hl 3 rfl) ?_
  refine lv_iload_n hx hb d_L_law_611 rfl (lv_at hl 0 rfl) ?_
  refine lv_iconst (v := 1) hx hb d_L_law_612 (by decide) ?_
  refine lv_iadd hx hb d_L_law_613 ?_
  rw [show nI i + (1 : Int32) = nI (i + 1) from nI_add i 1]
  refine va_sld hx hb hX hbl hbA h.2.2.2.1 (vp_in_nI (show i + 1 < L by omega) (by omega)) d_L_law_614 ?_
  rw [nI_clamp (show i + 1 < 2 ^ 31 by omega)]
  obtain ⟨fy, hcy⟩ := RM.cell hrm
  refine wd_2ci (rest := [.int r1]) (st0 := [.int (xs (i + 1)), .ref y, .int r1]) C h.swap kc_M hcy k_M_pack wm_M_pack wz_M_pack lk_L_69 (w_M_pack l D T (wd_O σ2 H) σ2 y S hrm hinv (xs (i + 1))) rfl rfl ⟨Nat.le_of_ble_eq_true rfl, Nat.le_of_ble_eq_true rfl⟩ rfl hl.1 rfl (Nat.le_of_ble_eq_true rfl) d_L_law_615 ⟨show cl + 0 + 0 ≤ 600000 by omega, show sl + 0 + 0 ≤ 7302250 by omega⟩ (fun r2 σ4 H locs hp2 h => ?_)
  refine lv_icmp_eq (tgt := 669) hx hb d_L_law_618 (by decide) (fun c9 => ?_) (fun c9 => absurd (hp1.1.trans hp2.1.symm) c9)
  refine W.widen (k := cl + 10) (n := sl + 100) (by omega) (by omega) ?_
  exact kk _ σ3 σ4 H locs h.swap hp1.2 hp2.2 (inv_pack hinv)
set_option maxHeartbeats 4000000 in
set_option maxRecDepth 20000 in
theorem lw_c13 {p : Program} {l : Launch} {e : Env} {s : State} {m : MethodId} {below : List Frame} {meth : Method} {c : Code} {D : va_G} {T : Nat → ClassId} {b L : Nat} {xs : Nat → Int32} {i : Nat} {x y : Nat} {S : xS} {σ1 σ2 : wd_S} {H : Heap} {locs : List Loc} {cl sl : Nat} {ls : Array Slot} {Q : State → Prop} (C : CallFix p m c code 4 s #[Value.ref b] wd_tb R_L) (hX : va_X b L xs s s.heap) (hbl : b < s.heap.size) (hL : L ≤ 2560) (hi : i + 5 ≤ L) (hcl : cl + 10 ≤ 600000) (hsl : sl + 100 ≤ 7302250) (h : wd_2 D T s H locs σ1 σ2) (hrx : RX T σ1 x S) (hrm : RM T σ2 y S) (hinv : inv S) (hl : lv_has ls 4 [(3, .int (nI i)), (2, .ref y), (1, .ref x), (0, .ref b)]) (kk : ∀ (S1 : xS) (σ3 σ4 : wd_S) (H1 : Heap) (locs1 : List Loc), wd_2 D T s H1 locs1 σ3 σ4 → RX T σ3 x S1 → RM T σ4 y S1 → inv S1 → W p l e room_1 s m #[Value.ref b] below meth c H1 locs1 (cl + 10) (sl + 100) Q (F0 m 669 ls [])) : W p l e room_1 s m #[Value.ref b] below meth c H locs cl sl Q (F0 m 623 ls []) := by
  have hx := C.1
  have hb := C.2.1
  have hbA : ¬ wd_A s b := Nat.not_le.mpr hbl
  have hn : S.1 ≤ 120 := by obtain ⟨am, fm, hM⟩ := hrm; exact hM.2.2.2.2.2.2.2.2.1
  refine lv_aload_n hx hb d_L_law_623 rfl (lv_at hl 2 rfl) ?_
  refine lv_aload_n hx hb d_L_law_624 rfl (lv_at hl 3 rfl) ?_
  refine lv_iload_n hx hb d_L_law_625 rfl (lv_at hl 0 rfl) ?_
  refine lv_iconst (v := 1) hx hb d_L_law_626 (by decide) ?_
  refine lv_iadd hx hb d_L_law_627 ?_
  rw [show nI i + (1 : Int32) = nI (i + 1) from nI_add i 1]
  refine va_sld hx hb hX hbl hbA h.2.2.2.1 (vp_in_nI (show i + 1 < L by omega) (by omega)) d_L_law_628 ?_
  rw [nI_clamp (show i + 1 < 2 ^ 31 by omega)]
  obtain ⟨fx, hcx⟩ := RX.cell hrx
  refine wd_2ci (rest := []) (st0 := [.int (xs (i + 1)), .ref x]) C h kc_F hcx k_F_octet wm_F_octet wz_F_octet lk_L_70 (w_F_octet l D T (wd_O σ1 H) σ1 x S hrx hinv (xs (i + 1))) rfl rfl ⟨Nat.le_of_ble_eq_true rfl, Nat.le_of_ble_eq_true rfl⟩ rfl hl.1 rfl (Nat.le_of_ble_eq_true rfl) d_L_law_629 ⟨show cl + 0 ≤ 600000 by omega, show sl + 0 ≤ 7302250 by omega⟩ (fun r1 σ3 H locs hp1 h => ?_)
  refine lv_aload_n hx hb d_L_law_632 rfl (lv_at hl 1 rfl) ?_
  refine lv_aload_n hx hb d_L_law_633 rfl (lv_at hl 3 rfl) ?_
  refine lv_iload_n hx hb d_L_law_634 rfl (lv_at hl 0 rfl) ?_
  refine lv_iconst (v := 1) hx hb d_L_law_635 (by decide) ?_
  refine lv_iadd hx hb d_L_law_636 ?_
  rw [show nI i + (1 : Int32) = nI (i + 1) from nI_add i 1]
  refine va_sld hx hb hX hbl hbA h.2.2.2.1 (vp_in_nI (show i + 1 < L by omega) (by omega)) d_L_law_637 ?_
  rw [nI_clamp (show i + 1 < 2 ^ 31 by omega)]
  obtain ⟨fy, hcy⟩ := RM.cell hrm
  refine wd_2ci (rest := [.int r1]) (st0 := [.int (xs (i + 1)), .ref y, .int r1]) C h.swap kc_M hcy k_M_octet wm_M_octet wz_M_octet lk_L_73 (w_M_octet l D T (wd_O σ2 H) σ2 y S hrm hinv (xs (i + 1))) rfl rfl ⟨Nat.le_of_ble_eq_true rfl, Nat.le_of_ble_eq_true rfl⟩ rfl hl.1 rfl (Nat.le_of_ble_eq_true rfl) d_L_law_638 ⟨show cl + 0 + 0 ≤ 600000 by omega, show sl + 0 + 0 ≤ 7302250 by omega⟩ (fun r2 σ4 H locs hp2 h => ?_)
  refine lv_icmp_eq (tgt := 669) hx hb d_L_law_641 (by decide) (fun c9 => ?_) (fun c9 => absurd (hp1.1.trans hp2.1.symm) c9)
  refine W.widen (k := cl + 10) (n := sl + 100) (by omega) (by omega) ?_
  exact kk _ σ3 σ4 H locs h.swap hp1.2 hp2.2 (hinv)
set_option maxHeartbeats 4000000 in
set_option maxRecDepth 20000 in
theorem lw_c14 {p : Program} {l : Launch} {e : Env} {s : State} {m : MethodId} {below : List Frame} {meth : Method} {c : Code} {D : va_G} {T : Nat → ClassId} {b L : Nat} {xs : Nat → Int32} {i : Nat} {x y : Nat} {S : xS} {σ1 σ2 : wd_S} {H : Heap} {locs : List Loc} {cl sl : Nat} {ls : Array Slot} {Q : State → Prop} (C : CallFix p m c code 4 s #[Value.ref b] wd_tb R_L) (hX : va_X b L xs s s.heap) (hbl : b < s.heap.size) (hL : L ≤ 2560) (hi : i + 5 ≤ L) (hcl : cl + 10 ≤ 600000) (hsl : sl + 100 ≤ 7302250) (h : wd_2 D T s H locs σ1 σ2) (hrx : RX T σ1 x S) (hrm : RM T σ2 y S) (hinv : inv S) (hl : lv_has ls 4 [(3, .int (nI i)), (2, .ref y), (1, .ref x), (0, .ref b)]) (kk : ∀ (S1 : xS) (σ3 σ4 : wd_S) (H1 : Heap) (locs1 : List Loc), wd_2 D T s H1 locs1 σ3 σ4 → RX T σ3 x S1 → RM T σ4 y S1 → inv S1 → W p l e room_1 s m #[Value.ref b] below meth c H1 locs1 (cl + 10) (sl + 100) Q (F0 m 669 ls [])) : W p l e room_1 s m #[Value.ref b] below meth c H locs cl sl Q (F0 m 646 ls []) := by
  have hx := C.1
  have hb := C.2.1
  have hbA : ¬ wd_A s b := Nat.not_le.mpr hbl
  have hn : S.1 ≤ 120 := by obtain ⟨am, fm, hM⟩ := hrm; exact hM.2.2.2.2.2.2.2.2.1
  refine lv_aload_n hx hb d_L_law_646 rfl (lv_at hl 2 rfl) ?_
  refine lv_aload_n hx hb d_L_law_647 rfl (lv_at hl 3 rfl) ?_
  refine lv_iload_n hx hb d_L_law_648 rfl (lv_at hl 0 rfl) ?_
  refine lv_iconst (v := 1) hx hb d_L_law_649 (by decide) ?_
  refine lv_iadd hx hb d_L_law_650 ?_
  rw [show nI i + (1 : Int32) = nI (i + 1) from nI_add i 1]
  refine va_sld hx hb hX hbl hbA h.2.2.2.1 (vp_in_nI (show i + 1 < L by omega) (by omega)) d_L_law_651 ?_
  rw [nI_clamp (show i + 1 < 2 ^ 31 by omega)]
  obtain ⟨fx, hcx⟩ := RX.cell hrx
  refine wd_2ci (rest := []) (st0 := [.int (xs (i + 1)), .ref x]) C h kc_F hcx k_F_aside wm_F_aside wz_F_aside lk_L_74 (w_F_aside l D T (wd_O σ1 H) σ1 x S hrx hinv (xs (i + 1))) rfl rfl ⟨Nat.le_of_ble_eq_true rfl, Nat.le_of_ble_eq_true rfl⟩ rfl hl.1 rfl (Nat.le_of_ble_eq_true rfl) d_L_law_652 ⟨show cl + 0 ≤ 600000 by omega, show sl + 0 ≤ 7302250 by omega⟩ (fun r1 σ3 H locs hp1 h => ?_)
  refine lv_aload_n hx hb d_L_law_655 rfl (lv_at hl 1 rfl) ?_
  refine lv_aload_n hx hb d_L_law_656 rfl (lv_at hl 3 rfl) ?_
  refine lv_iload_n hx hb d_L_law_657 rfl (lv_at hl 0 rfl) ?_
  refine lv_iconst (v := 1) hx hb d_L_law_658 (by decide) ?_
  refine lv_iadd hx hb d_L_law_659 ?_
  rw [show nI i + (1 : Int32) = nI (i + 1) from nI_add i 1]
  refine va_sld hx hb hX hbl hbA h.2.2.2.1 (vp_in_nI (show i + 1 < L by omega) (by omega)) d_L_law_660 ?_
  rw [nI_clamp (show i + 1 < 2 ^ 31 by omega)]
  obtain ⟨fy, hcy⟩ := RM.cell hrm
  refine wd_2ci (rest := [.int r1]) (st0 := [.int (xs (i + 1)), .ref y, .int r1]) C h.swap kc_M hcy k_M_aside wm_M_aside wz_M_aside lk_L_77 (w_M_aside l D T (wd_O σ2 H) σ2 y S hrm hinv (xs (i + 1))) rfl rfl ⟨Nat.le_of_ble_eq_true rfl, Nat.le_of_ble_eq_true rfl⟩ rfl hl.1 rfl (Nat.le_of_ble_eq_true rfl) d_L_law_661 ⟨show cl + 0 + 0 ≤ 600000 by omega, show sl + 0 + 0 ≤ 7302250 by omega⟩ (fun r2 σ4 H locs hp2 h => ?_)
  refine lv_icmp_eq (tgt := 669) hx hb d_L_law_664 (by decide) (fun c9 => ?_) (fun c9 => absurd (hp1.1.trans hp2.1.symm) c9)
  refine W.widen (k := cl + 10) (n := sl + 100) (by omega) (by omega) ?_
  exact kk _ σ3 σ4 H locs h.swap hp1.2 hp2.2 (hinv)
