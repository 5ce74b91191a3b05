set_option maxHeartbeats 4000000 in
set_option maxRecDepth 20000 in
theorem c_M_put_1 (l : Launch) (D : va_G) (T : Nat → ClassId) (A : Nat → Prop) (σ : wd_S) (σ0 : wd_S) (y : Nat) (am : Nat → Nat) (n nc : Nat) (q : pq) (hk : mz T σ0 σ y am n nc q) (hl40 : q.2 + 1 ≤ 40) (v : Int32) : Met l y_M_put (Cond.code y_M_put b_M_put 4 none :: wd_tb) { frames := 0, cells := 0, slots := 0, locals := 0 } (va_Pc [.ref y, .int v, .int 1] (wd_Pre D T A σ)) (va_Qv (fun σ1 => mz T σ0 σ1 y am n nc (qa q (v >>> ((8 * 0) &&& 31)))) (wd_B D A) A) 0 0 A := by
  refine wd_ofW (by decide) (Nat.le_of_ble_eq_true rfl) ?_
  intro p e s m below meth c0 ls C hr hlocks hname h hl
  have hl : lv_has ls 4 [(0, .ref y), (1, .int v), (2, .int 1)] := hl
  have hx := C.1
  have hb := C.2.1
  refine lv_iload_n hx hb d_M_put_0 rfl (lv_at hl 2 rfl) ?_
  refine lv_iconst (v := 1) hx hb d_M_put_1 (by decide) ?_
  refine lv_isub hx hb d_M_put_2 ?_
  refine lv_istore_n (lv' := [(3, .int 0), (0, .ref y), (1, .int v), (2, .int 1)]) hx hb d_M_put_3 rfl hl (by decide) rfl (fun ls hl => ?_)
  refine lv_iload_n hx hb d_M_put_4 rfl (lv_at hl 0 rfl) ?_
  refine lv_if_lt (tgt := 43) hx hb d_M_put_5 (by decide) (fun c_1 => ?_) (fun c_1 => ?_)
  · exact absurd c_1 (by decide)
  refine lv_aload_n hx hb d_M_put_8 rfl (lv_at hl 1 rfl) ?_
  refine wd_get C h kc_M hk.1 22 (by decide) lk_M_68 rfl d_M_put_9 ?_
  refine lv_aload_n hx hb d_M_put_12 rfl (lv_at hl 1 rfl) ?_
  refine wd_get C h kc_M hk.1 21 (by decide) lk_M_122 rfl d_M_put_13 ?_
  refine lv_iload_n hx hb d_M_put_16 rfl (lv_at hl 2 rfl) ?_
  refine lv_bipush (v := 8) hx hb d_M_put_17 (by decide) ?_
  refine lv_iload_n hx hb d_M_put_19 rfl (lv_at hl 0 rfl) ?_
  refine lv_imul hx hb d_M_put_20 ?_
  refine lv_ishr hx hb d_M_put_21 ?_
  refine lv_sipush (v := 255) hx hb d_M_put_22 (by decide) ?_
  refine lv_iand hx hb d_M_put_25 ?_
  refine wd_iast C h 0 rfl hk.2.1 (vp_in_nI (show q.2 < 40 by omega) (by decide)) d_M_put_26 (fun H locs h => ?_)
  rw [nI_clamp (show q.2 < 2 ^ 31 by omega)] at h
  replace h : wd_C D T A s H locs (wd_up σ (am 22) (.inl (T 0, 40, .inl (upd q.1 q.2 ((v >>> ((8 * 0) &&& 31)) &&& 255))))) := h
  have h_2 : (wd_up σ (am 22) (.inl (T 0, 40, .inl (upd q.1 q.2 ((v >>> ((8 * 0) &&& 31)) &&& 255))))) (am 22) = some (.inl (T 0, 40, .inl (upd q.1 q.2 ((v >>> ((8 * 0) &&& 31)) &&& 255)))) := wd_us _ _ _
  have h_3 : (wd_up σ (am 22) (.inl (T 0, 40, .inl (upd q.1 q.2 ((v >>> ((8 * 0) &&& 31)) &&& 255))))) y = some (.inr (4, [.int (nI n), .ref (am 1), .ref (am 2), .ref (am 3), .ref (am 4), .ref (am 5), .ref (am 6), .ref (am 7), .ref (am 8), .ref (am 9), .ref (am 10), .ref (am 11), .ref (am 12), .ref (am 13), .ref (am 14), .ref (am 15), .ref (am 16), .ref (am 17), .ref (am 18), .int (nI nc), .ref (am 20), .int (nI q.2), .ref (am 22)])) := wd_uk hk.1 (wd_ne hk.1 hk.2.1 (by simp))
  refine lv_aload_n hx hb d_M_put_27 rfl (lv_at hl 1 rfl) ?_
  refine lv_dup hx hb d_M_put_28 rfl ?_
  refine wd_get C h kc_M h_3 21 (by decide) lk_M_122 rfl d_M_put_29 ?_
  refine lv_iconst (v := 1) hx hb d_M_put_32 (by decide) ?_
  refine lv_iadd hx hb d_M_put_33 ?_
  refine wd_put C h kc_M h_3 21 (by decide) lk_M_122 rfl (by rfl) (by rfl) (Nat.le_of_ble_eq_true rfl) d_M_put_34 (fun H locs h => ?_)
  rw [nI_1] at h
  replace h : wd_C D T A s H locs (wd_up (wd_up σ (am 22) (.inl (T 0, 40, .inl (upd q.1 q.2 ((v >>> ((8 * 0) &&& 31)) &&& 255))))) y (.inr (4, [.int (nI n), .ref (am 1), .ref (am 2), .ref (am 3), .ref (am 4), .ref (am 5), .ref (am 6), .ref (am 7), .ref (am 8), .ref (am 9), .ref (am 10), .ref (am 11), .ref (am 12), .ref (am 13), .ref (am 14), .ref (am 15), .ref (am 16), .ref (am 17), .ref (am 18), .int (nI nc), .ref (am 20), .int (nI (q.2 + 1)), .ref (am 22)]))) := h
  have h_4 : (wd_up (wd_up σ (am 22) (.inl (T 0, 40, .inl (upd q.1 q.2 ((v >>> ((8 * 0) &&& 31)) &&& 255))))) y (.inr (4, [.int (nI n), .ref (am 1), .ref (am 2), .ref (am 3), .ref (am 4), .ref (am 5), .ref (am 6), .ref (am 7), .ref (am 8), .ref (am 9), .ref (am 10), .ref (am 11), .ref (am 12), .ref (am 13), .ref (am 14), .ref (am 15), .ref (am 16), .ref (am 17), .ref (am 18), .int (nI nc), .ref (am 20), .int (nI (q.2 + 1)), .ref (am 22)]))) y = some (.inr (4, [.int (nI n), .ref (am 1), .ref (am 2), .ref (am 3), .ref (am 4), .ref (am 5), .ref (am 6), .ref (am 7), .ref (am 8), .ref (am 9), .ref (am 10), .ref (am 11), .ref (am 12), .ref (am 13), .ref (am 14), .ref (am 15), .ref (am 16), .ref (am 17), .ref (am 18), .int (nI nc), .ref (am 20), .int (nI (q.2 + 1)), .ref (am 22)])) := wd_us _ _ _
  have h_5 : (wd_up (wd_up σ (am 22) (.inl (T 0, 40, .inl (upd q.1 q.2 ((v >>> ((8 * 0) &&& 31)) &&& 255))))) y (.inr (4, [.int (nI n), .ref (am 1), .ref (am 2), .ref (am 3), .ref (am 4), .ref (am 5), .ref (am 6), .ref (am 7), .ref (am 8), .ref (am 9), .ref (am 10), .ref (am 11), .ref (am 12), .ref (am 13), .ref (am 14), .ref (am 15), .ref (am 16), .ref (am 17), .ref (am 18), .int (nI nc), .ref (am 20), .int (nI (q.2 + 1)), .ref (am 22)]))) (am 22) = some (.inl (T 0, 40, .inl (upd q.1 q.2 ((v >>> ((8 * 0) &&& 31)) &&& 255)))) := wd_uk h_2 (wd_ne h_2 h_3 (by simp))
  refine lv_iinc (v := (-1)) (lv' := [(3, .int (-1)), (0, .ref y), (1, .int v), (2, .int 1)]) hx hb d_M_put_37 hl (k := 0) rfl (by first | rfl | decide) (by decide) rfl (fun ls hl => ?_)
  refine lv_goto (tgt := 4) hx hb d_M_put_40 (by decide) ?_
  refine lv_iload_n hx hb d_M_put_4 rfl (lv_at hl 0 rfl) ?_
  refine lv_if_lt (tgt := 43) hx hb d_M_put_5 (by decide) (fun c_6 => ?_) (fun c_6 => ?_)
  rotate_left
  · exact absurd c_6 (by decide)
  exact wd_vret C hr hlocks h (⟨h_4, h_5, fun b h1 h2 => by rw [wd_un _ _ h1, wd_un _ _ h2]; exact hk.2.2 b h1 h2⟩) (Nat.le_of_ble_eq_true rfl) (Nat.le_of_ble_eq_true rfl) d_M_put_43

set_option maxHeartbeats 4000000 in
set_option maxRecDepth 20000 in
theorem c_M_put_2 (l : Launch) (D : va_G) (T : Nat → ClassId) (A : Nat → Prop) (σ : wd_S) (σ0 : wd_S) (y : Nat) (am : Nat → Nat) (n nc : Nat) (q : pq) (hk : mz T σ0 σ y am n nc q) (hl40 : q.2 + 2 ≤ 40) (v : Int32) : Met l y_M_put (Cond.code y_M_put b_M_put 4 none :: wd_tb) { frames := 0, cells := 0, slots := 0, locals := 0 } (va_Pc [.ref y, .int v, .int 2] (wd_Pre D T A σ)) (va_Qv (fun σ1 => mz T σ0 σ1 y am n nc (qa (qa q (v >>> ((8 * 1) &&& 31))) (v >>> ((8 * 0) &&& 31)))) (wd_B D A) A) 0 0 A := by
  refine wd_ofW (by decide) (Nat.le_of_ble_eq_true rfl) ?_
  intro p e s m below meth c0 ls C hr hlocks hname h hl
  have hl : lv_has ls 4 [(0, .ref y), (1, .int v), (2, .int 2)] := hl
  have hx := C.1
  have hb := C.2.1
  refine lv_iload_n hx hb d_M_put_0 rfl (lv_at hl 2 rfl) ?_
  refine lv_iconst (v := 1) hx hb d_M_put_1 (by decide) ?_
  refine lv_isub hx hb d_M_put_2 ?_
  refine lv_istore_n (lv' := [(3, .int 1), (0, .ref y), (1, .int v), (2, .int 2)]) hx hb d_M_put_3 rfl hl (by decide) rfl (fun ls hl => ?_)
  refine lv_iload_n hx hb d_M_put_4 rfl (lv_at hl 0 rfl) ?_
  refine lv_if_lt (tgt := 43) hx hb d_M_put_5 (by decide) (fun c_1 => ?_) (fun c_1 => ?_)
  · exact absurd c_1 (by decide)
  refine lv_aload_n hx hb d_M_put_8 rfl (lv_at hl 1 rfl) ?_
  refine wd_get C h kc_M hk.1 22 (by decide) lk_M_68 rfl d_M_put_9 ?_
  refine lv_aload_n hx hb d_M_put_12 rfl (lv_at hl 1 rfl) ?_
  refine wd_get C h kc_M hk.1 21 (by decide) lk_M_122 rfl d_M_put_13 ?_
  refine lv_iload_n hx hb d_M_put_16 rfl (lv_at hl 2 rfl) ?_
  refine lv_bipush (v := 8) hx hb d_M_put_17 (by decide) ?_
  refine lv_iload_n hx hb d_M_put_19 rfl (lv_at hl 0 rfl) ?_
  refine lv_imul hx hb d_M_put_20 ?_
  refine lv_ishr hx hb d_M_put_21 ?_
  refine lv_sipush (v := 255) hx hb d_M_put_22 (by decide) ?_
  refine lv_iand hx hb d_M_put_25 ?_
  refine wd_iast C h 0 rfl hk.2.1 (vp_in_nI (show q.2 < 40 by omega) (by decide)) d_M_put_26 (fun H locs h => ?_)
  rw [nI_clamp (show q.2 < 2 ^ 31 by omega)] at h
  replace h : wd_C D T A s H locs (wd_up σ (am 22) (.inl (T 0, 40, .inl (upd q.1 q.2 ((v >>> ((8 * 1) &&& 31)) &&& 255))))) := h
  have h_2 : (wd_up σ (am 22) (.inl (T 0, 40, .inl (upd q.1 q.2 ((v >>> ((8 * 1) &&& 31)) &&& 255))))) (am 22) = some (.inl (T 0, 40, .inl (upd q.1 q.2 ((v >>> ((8 * 1) &&& 31)) &&& 255)))) := wd_us _ _ _
  have h_3 : (wd_up σ (am 22) (.inl (T 0, 40, .inl (upd q.1 q.2 ((v >>> ((8 * 1) &&& 31)) &&& 255))))) y = some (.inr (4, [.int (nI n), .ref (am 1), .ref (am 2), .ref (am 3), .ref (am 4), .ref (am 5), .ref (am 6), .ref (am 7), .ref (am 8), .ref (am 9), .ref (am 10), .ref (am 11), .ref (am 12), .ref (am 13), .ref (am 14), .ref (am 15), .ref (am 16), .ref (am 17), .ref (am 18), .int (nI nc), .ref (am 20), .int (nI q.2), .ref (am 22)])) := wd_uk hk.1 (wd_ne hk.1 hk.2.1 (by simp))
  refine lv_aload_n hx hb d_M_put_27 rfl (lv_at hl 1 rfl) ?_
  refine lv_dup hx hb d_M_put_28 rfl ?_
  refine wd_get C h kc_M h_3 21 (by decide) lk_M_122 rfl d_M_put_29 ?_
  refine lv_iconst (v := 1) hx hb d_M_put_32 (by decide) ?_
  refine lv_iadd hx hb d_M_put_33 ?_
  refine wd_put C h kc_M h_3 21 (by decide) lk_M_122 rfl (by rfl) (by rfl) (Nat.le_of_ble_eq_true rfl) d_M_put_34 (fun H locs h => ?_)
  rw [nI_1] at h
  replace h : wd_C D T A s H locs (wd_up (wd_up σ (am 22) (.inl (T 0, 40, .inl (upd q.1 q.2 ((v >>> ((8 * 1) &&& 31)) &&& 255))))) y (.inr (4, [.int (nI n), .ref (am 1), .ref (am 2), .ref (am 3), .ref (am 4), .ref (am 5), .ref (am 6), .ref (am 7), .ref (am 8), .ref (am 9), .ref (am 10), .ref (am 11), .ref (am 12), .ref (am 13), .ref (am 14), .ref (am 15), .ref (am 16), .ref (am 17), .ref (am 18), .int (nI nc), .ref (am 20), .int (nI (q.2 + 1)), .ref (am 22)]))) := h
  have h_4 : (wd_up (wd_up σ (am 22) (.inl (T 0, 40, .inl (upd q.1 q.2 ((v >>> ((8 * 1) &&& 31)) &&& 255))))) y (.inr (4, [.int (nI n), .ref (am 1), .ref (am 2), .ref (am 3), .ref (am 4), .ref (am 5), .ref (am 6), .ref (am 7), .ref (am 8), .ref (am 9), .ref (am 10), .ref (am 11), .ref (am 12), .ref (am 13), .ref (am 14), .ref (am 15), .ref (am 16), .ref (am 17), .ref (am 18), .int (nI nc), .ref (am 20), .int (nI (q.2 + 1)), .ref (am 22)]))) y = some (.inr (4, [.int (nI n), .ref (am 1), .ref (am 2), .ref (am 3), .ref (am 4), .ref (am 5), .ref (am 6), .ref (am 7), .ref (am 8), .ref (am 9), .ref (am 10), .ref (am 11), .ref (am 12), .ref (am 13), .ref (am 14), .ref (am 15), .ref (am 16), .ref (am 17), .ref (am 18), .int (nI nc), .ref (am 20), .int (nI (q.2 + 1)), .ref (am 22)])) := wd_us _ _ _
  have h_5 : (wd_up (wd_up σ (am 22) (.inl (T 0, 40, .inl (upd q.1 q.2 ((v >>> ((8 * 1) &&& 31)) &&& 255))))) y (.inr (4, [.int (nI n), .ref (am 1), .ref (am 2), .ref (am 3), .ref (am 4), .ref (am 5), .ref (am 6), .ref (am 7), .ref (am 8), .ref (am 9), .ref (am 10), .ref (am 11), .ref (am 12), .ref (am 13), .ref (am 14), .ref (am 15), .ref (am 16), .ref (am 17), .ref (am 18), .int (nI nc), .ref (am 20), .int (nI (q.2 + 1)), .ref (am 22)]))) (am 22) = some (.inl (T 0, 40, .inl (upd q.1 q.2 ((v >>> ((8 * 1) &&& 31)) &&& 255)))) := wd_uk h_2 (wd_ne h_2 h_3 (by simp))
  refine lv_iinc (v := 0) (lv' := [(3, .int 0), (0, .ref y), (1, .int v), (2, .int 2)]) hx hb d_M_put_37 hl (k := 0) rfl (by first | rfl | decide) (by decide) rfl (fun ls hl => ?_)
  refine lv_goto (tgt := 4) hx hb d_M_put_40 (by decide) ?_
  refine lv_iload_n hx hb d_M_put_4 rfl (lv_at hl 0 rfl) ?_
  refine lv_if_lt (tgt := 43) hx hb d_M_put_5 (by decide) (fun c_6 => ?_) (fun c_6 => ?_)
  · exact absurd c_6 (by decide)
  refine lv_aload_n hx hb d_M_put_8 rfl (lv_at hl 1 rfl) ?_
  refine wd_get C h kc_M h_4 22 (by decide) lk_M_68 rfl d_M_put_9 ?_
  refine lv_aload_n hx hb d_M_put_12 rfl (lv_at hl 1 rfl) ?_
  refine wd_get C h kc_M h_4 21 (by decide) lk_M_122 rfl d_M_put_13 ?_
  refine lv_iload_n hx hb d_M_put_16 rfl (lv_at hl 2 rfl) ?_
  refine lv_bipush (v := 8) hx hb d_M_put_17 (by decide) ?_
  refine lv_iload_n hx hb d_M_put_19 rfl (lv_at hl 0 rfl) ?_
  refine lv_imul hx hb d_M_put_20 ?_
  refine lv_ishr hx hb d_M_put_21 ?_
  refine lv_sipush (v := 255) hx hb d_M_put_22 (by decide) ?_
  refine lv_iand hx hb d_M_put_25 ?_
  refine wd_iast C h 0 rfl h_5 (vp_in_nI (show (q.2 + 1) < 40 by omega) (by decide)) d_M_put_26 (fun H locs h => ?_)
  rw [nI_clamp (show (q.2 + 1) < 2 ^ 31 by omega)] at h
  replace h : wd_C D T A s H locs (wd_up (wd_up (wd_up σ (am 22) (.inl (T 0, 40, .inl (upd q.1 q.2 ((v >>> ((8 * 1) &&& 31)) &&& 255))))) y (.inr (4, [.int (nI n), .ref (am 1), .ref (am 2), .ref (am 3), .ref (am 4), .ref (am 5), .ref (am 6), .ref (am 7), .ref (am 8), .ref (am 9), .ref (am 10), .ref (am 11), .ref (am 12), .ref (am 13), .ref (am 14), .ref (am 15), .ref (am 16), .ref (am 17), .ref (am 18), .int (nI nc), .ref (am 20), .int (nI (q.2 + 1)), .ref (am 22)]))) (am 22) (.inl (T 0, 40, .inl (upd (upd q.1 q.2 ((v >>> ((8 * 1) &&& 31)) &&& 255)) (q.2 + 1) ((v >>> ((8 * 0) &&& 31)) &&& 255))))) := h
  have h_7 : (wd_up (wd_up (wd_up σ (am 22) (.inl (T 0, 40, .inl (upd q.1 q.2 ((v >>> ((8 * 1) &&& 31)) &&& 255))))) y (.inr (4, [.int (nI n), .ref (am 1), .ref (am 2), .ref (am 3), .ref (am 4), .ref (am 5), .ref (am 6), .ref (am 7), .ref (am 8), .ref (am 9), .ref (am 10), .ref (am 11), .ref (am 12), .ref (am 13), .ref (am 14), .ref (am 15), .ref (am 16), .ref (am 17), .ref (am 18), .int (nI nc), .ref (am 20), .int (nI (q.2 + 1)), .ref (am 22)]))) (am 22) (.inl (T 0, 40, .inl (upd (upd q.1 q.2 ((v >>> ((8 * 1) &&& 31)) &&& 255)) (q.2 + 1) ((v >>> ((8 * 0) &&& 31)) &&& 255))))) (am 22) = some (.inl (T 0, 40, .inl (upd (upd q.1 q.2 ((v >>> ((8 * 1) &&& 31)) &&& 255)) (q.2 + 1) ((v >>> ((8 * 0) &&& 31)) &&& 255)))) := wd_us _ _ _
  have h_8 : (wd_up (wd_up (wd_up σ (am 22) (.inl (T 0, 40, .inl (upd q.1 q.2 ((v >>> ((8 * 1) &&& 31)) &&& 255))))) y (.inr (4, [.int (nI n), .ref (am 1), .ref (am 2), .ref (am 3), .ref (am 4), .ref (am 5), .ref (am 6), .ref (am 7), .ref (am 8), .ref (am 9), .ref (am 10), .ref (am 11), .ref (am 12), .ref (am 13), .ref (am 14), .ref (am 15), .ref (am 16), .ref (am 17), .ref (am 18), .int (nI nc), .ref (am 20), .int (nI (q.2 + 1)), .ref (am 22)]))) (am 22) (.inl (T 0, 40, .inl (upd (upd q.1 q.2 ((v >>> ((8 * 1) &&& 31)) &&& 255)) (q.2 + 1) ((v >>> ((8 * 0) &&& 31)) &&& 255))))) y = some (.inr (4, [.int (nI n), .ref (am 1), .ref (am 2), .ref (am 3), .ref (am 4), .ref (am 5), .ref (am 6), .ref (am 7), .ref (am 8), .ref (am 9), .ref (am 10), .ref (am 11), .ref (am 12), .ref (am 13), .ref (am 14), .ref (am 15), .ref (am 16), .ref (am 17), .ref (am 18), .int (nI nc), .ref (am 20), .int (nI (q.2 + 1)), .ref (am 22)])) := wd_uk h_4 (wd_ne h_4 h_5 (by simp))
  refine lv_aload_n hx hb d_M_put_27 rfl (lv_at hl 1 rfl) ?_
  refine lv_dup hx hb d_M_put_28 rfl ?_
  refine wd_get C h kc_M h_8 21 (by decide) lk_M_122 rfl d_M_put_29 ?_
  refine lv_iconst (v := 1) hx hb d_M_put_32 (by decide) ?_
  refine lv_iadd hx hb d_M_put_33 ?_
  refine wd_put C h kc_M h_8 21 (by decide) lk_M_122 rfl (by rfl) (by rfl) (Nat.le_of_ble_eq_true rfl) d_M_put_34 (fun H locs h => ?_)
  rw [nI_1] at h
  replace h : wd_C D T A s H locs (wd_up (wd_up (wd_up (wd_up σ (am 22) (.inl (T 0, 40, .inl (upd q.1 q.2 ((v >>> ((8 * 1) &&& 31)) &&& 255))))) y (.inr (4, [.int (nI n), .ref (am 1), .ref (am 2), .ref (am 3), .ref (am 4), .ref (am 5), .ref (am 6), .ref (am 7), .ref (am 8), .ref (am 9), .ref (am 10), .ref (am 11), .ref (am 12), .ref (am 13), .ref (am 14), .ref (am 15), .ref (am 16), .ref (am 17), .ref (am 18), .int (nI nc), .ref (am 20), .int (nI (q.2 + 1)), .ref (am 22)]))) (am 22) (.inl (T 0, 40, .inl (upd (upd q.1 q.2 ((v >>> ((8 * 1) &&& 31)) &&& 255)) (q.2 + 1) ((v >>> ((8 * 0) &&& 31)) &&& 255))))) y (.inr (4, [.int (nI n), .ref (am 1), .ref (am 2), .ref (am 3), .ref (am 4), .ref (am 5), .ref (am 6), .ref (am 7), .ref (am 8), .ref (am 9), .ref (am 10), .ref (am 11), .ref (am 12), .ref (am 13), .ref (am 14), .ref (am 15), .ref (am 16), .ref (am 17), .ref (am 18), .int (nI nc), .ref (am 20), .int (nI (q.2 + 1 + 1)), .ref (am 22)]))) := h
  have h_9 : (wd_up (wd_up (wd_up (wd_up σ (am 22) (.inl (T 0, 40, .inl (upd q.1 q.2 ((v >>> ((8 * 1) &&& 31)) &&& 255))))) y (.inr (4, [.int (nI n), .ref (am 1), .ref (am 2), .ref (am 3), .ref (am 4), .ref (am 5), .ref (am 6), .ref (am 7), .ref (am 8), .ref (am 9), .ref (am 10), .ref (am 11), .ref (am 12), .ref (am 13), .ref (am 14), .ref (am 15), .ref (am 16), .ref (am 17), .ref (am 18), .int (nI nc), .ref (am 20), .int (nI (q.2 + 1)), .ref (am 22)]))) (am 22) (.inl (T 0, 40, .inl (upd (upd q.1 q.2 ((v >>> ((8 * 1) &&& 31)) &&& 255)) (q.2 + 1) ((v >>> ((8 * 0) &&& 31)) &&& 255))))) y (.inr (4, [.int (nI n), .ref (am 1), .ref (am 2), .ref (am 3), .ref (am 4), .ref (am 5), .ref (am 6), .ref (am 7), .ref (am 8), .ref (am 9), .ref (am 10), .ref (am 11), .ref (am 12), .ref (am 13), .ref (am 14), .ref (am 15), .ref (am 16), .ref (am 17), .ref (am 18), .int (nI nc), .ref (am 20), .int (nI (q.2 + 1 + 1)), .ref (am 22)]))) y = some (.inr (4, [.int (nI n), .ref (am 1), .ref (am 2), .ref (am 3), .ref (am 4), .ref (am 5), .ref (am 6), .ref (am 7), .ref (am 8), .ref (am 9), .ref (am 10), .ref (am 11), .ref (am 12), .ref (am 13), .ref (am 14), .ref (am 15), .ref (am 16), .ref (am 17), .ref (am 18), .int (nI nc), .ref (am 20), .int (nI (q.2 + 1 + 1)), .ref (am 22)])) := wd_us _ _ _
  have h_10 : (wd_up (wd_up (wd_up (wd_up σ (am 22) (.inl (T 0, 40, .inl (upd q.1 q.2 ((v >>> ((8 * 1) &&& 31)) &&& 255))))) y (.inr (4, [.int (nI n), .ref (am 1), .ref (am 2), .ref (am 3), .ref (am 4), .ref (am 5), .ref (am 6), .ref (am 7), .ref (am 8), .ref (am 9), .ref (am 10), .ref (am 11), .ref (am 12), .ref (am 13), .ref (am 14), .ref (am 15), .ref (am 16), .ref (am 17), .ref (am 18), .int (nI nc), .ref (am 20), .int (nI (q.2 + 1)), .ref (am 22)]))) (am 22) (.inl (T 0, 40, .inl (upd (upd q.1 q.2 ((v >>> ((8 * 1) &&& 31)) &&& 255)) (q.2 + 1) ((v >>> ((8 * 0) &&& 31)) &&& 255))))) y (.inr (4, [.int (nI n), .ref (am 1), .ref (am 2), .ref (am 3), .ref (am 4), .ref (am 5), .ref (am 6), .ref (am 7), .ref (am 8), .ref (am 9), .ref (am 10), .ref (am 11), .ref (am 12), .ref (am 13), .ref (am 14), .ref (am 15), .ref (am 16), .ref (am 17), .ref (am 18), .int (nI nc), .ref (am 20), .int (nI (q.2 + 1 + 1)), .ref (am 22)]))) (am 22) = some (.inl (T 0, 40, .inl (upd (upd q.1 q.2 ((v >>> ((8 * 1) &&& 31)) &&& 255)) (q.2 + 1) ((v >>> ((8 * 0) &&& 31)) &&& 255)))) := wd_uk h_7 (wd_ne h_7 h_8 (by simp))
  refine lv_iinc (v := (-1)) (lv' := [(3, .int (-1)), (0, .ref y), (1, .int v), (2, .int 2)]) hx hb d_M_put_37 hl (k := 0) rfl (by first | rfl | decide) (by decide) rfl (fun ls hl => ?_)
  refine lv_goto (tgt := 4) hx hb d_M_put_40 (by decide) ?_
  refine lv_iload_n hx hb d_M_put_4 rfl (lv_at hl 0 rfl) ?_
  refine lv_if_lt (tgt := 43) hx hb d_M_put_5 (by decide) (fun c_11 => ?_) (fun c_11 => ?_)
  rotate_left
  · exact absurd c_11 (by decide)
  exact wd_vret C hr hlocks h (⟨h_9, h_10, fun b h1 h2 => by rw [wd_un _ _ h1, wd_un _ _ h2, wd_un _ _ h1, wd_un _ _ h2]; exact hk.2.2 b h1 h2⟩) (Nat.le_of_ble_eq_true rfl) (Nat.le_of_ble_eq_true rfl) d_M_put_43

set_option maxHeartbeats 4000000 in
set_option maxRecDepth 20000 in
theorem c_M_put_3 (l : Launch) (D : va_G) (T : Nat → ClassId) (A : Nat → Prop) (σ : wd_S) (σ0 : wd_S) (y : Nat) (am : Nat → Nat) (n nc : Nat) (q : pq) (hk : mz T σ0 σ y am n nc q) (hl40 : q.2 + 3 ≤ 40) (v : Int32) : Met l y_M_put (Cond.code y_M_put b_M_put 4 none :: wd_tb) { frames := 0, cells := 0, slots := 0, locals := 0 } (va_Pc [.ref y, .int v, .int 3] (wd_Pre D T A σ)) (va_Qv (fun σ1 => mz T σ0 σ1 y am n nc (qa (qa (qa q (v >>> ((8 * 2) &&& 31))) (v >>> ((8 * 1) &&& 31))) (v >>> ((8 * 0) &&& 31)))) (wd_B D A) A) 0 0 A := by
  refine wd_ofW (by decide) (Nat.le_of_ble_eq_true rfl) ?_
  intro p e s m below meth c0 ls C hr hlocks hname h hl
  have hl : lv_has ls 4 [(0, .ref y), (1, .int v), (2, .int 3)] := hl
  have hx := C.1
  have hb := C.2.1
  refine lv_iload_n hx hb d_M_put_0 rfl (lv_at hl 2 rfl) ?_
  refine lv_iconst (v := 1) hx hb d_M_put_1 (by decide) ?_
  refine lv_isub hx hb d_M_put_2 ?_
  refine lv_istore_n (lv' := [(3, .int 2), (0, .ref y), (1, .int v), (2, .int 3)]) hx hb d_M_put_3 rfl hl (by decide) rfl (fun ls hl => ?_)
  refine lv_iload_n hx hb d_M_put_4 rfl (lv_at hl 0 rfl) ?_
  refine lv_if_lt (tgt := 43) hx hb d_M_put_5 (by decide) (fun c_1 => ?_) (fun c_1 => ?_)
  · exact absurd c_1 (by decide)
  refine lv_aload_n hx hb d_M_put_8 rfl (lv_at hl 1 rfl) ?_
  refine wd_get C h kc_M hk.1 22 (by decide) lk_M_68 rfl d_M_put_9 ?_
  refine lv_aload_n hx hb d_M_put_12 rfl (lv_at hl 1 rfl) ?_
  refine wd_get C h kc_M hk.1 21 (by decide) lk_M_122 rfl d_M_put_13 ?_
  refine lv_iload_n hx hb d_M_put_16 rfl (lv_at hl 2 rfl) ?_
  refine lv_bipush (v := 8) hx hb d_M_put_17 (by decide) ?_
  refine lv_iload_n hx hb d_M_put_19 rfl (lv_at hl 0 rfl) ?_
  refine lv_imul hx hb d_M_put_20 ?_
  refine lv_ishr hx hb d_M_put_21 ?_
  refine lv_sipush (v := 255) hx hb d_M_put_22 (by decide) ?_
  refine lv_iand hx hb d_M_put_25 ?_
  refine wd_iast C h 0 rfl hk.2.1 (vp_in_nI (show q.2 < 40 by omega) (by decide)) d_M_put_26 (fun H locs h => ?_)
  rw [nI_clamp (show q.2 < 2 ^ 31 by omega)] at h
  replace h : wd_C D T A s H locs (wd_up σ (am 22) (.inl (T 0, 40, .inl (upd q.1 q.2 ((v >>> ((8 * 2) &&& 31)) &&& 255))))) := h
  have h_2 : (wd_up σ (am 22) (.inl (T 0, 40, .inl (upd q.1 q.2 ((v >>> ((8 * 2) &&& 31)) &&& 255))))) (am 22) = some (.inl (T 0, 40, .inl (upd q.1 q.2 ((v >>> ((8 * 2) &&& 31)) &&& 255)))) := wd_us _ _ _
  have h_3 : (wd_up σ (am 22) (.inl (T 0, 40, .inl (upd q.1 q.2 ((v >>> ((8 * 2) &&& 31)) &&& 255))))) y = some (.inr (4, [.int (nI n), .ref (am 1), .ref (am 2), .ref (am 3), .ref (am 4), .ref (am 5), .ref (am 6), .ref (am 7), .ref (am 8), .ref (am 9), .ref (am 10), .ref (am 11), .ref (am 12), .ref (am 13), .ref (am 14), .ref (am 15), .ref (am 16), .ref (am 17), .ref (am 18), .int (nI nc), .ref (am 20), .int (nI q.2), .ref (am 22)])) := wd_uk hk.1 (wd_ne hk.1 hk.2.1 (by simp))
  refine lv_aload_n hx hb d_M_put_27 rfl (lv_at hl 1 rfl) ?_
  refine lv_dup hx hb d_M_put_28 rfl ?_
  refine wd_get C h kc_M h_3 21 (by decide) lk_M_122 rfl d_M_put_29 ?_
  refine lv_iconst (v := 1) hx hb d_M_put_32 (by decide) ?_
  refine lv_iadd hx hb d_M_put_33 ?_
  refine wd_put C h kc_M h_3 21 (by decide) lk_M_122 rfl (by rfl) (by rfl) (Nat.le_of_ble_eq_true rfl) d_M_put_34 (fun H locs h => ?_)
  rw [nI_1] at h
  replace h : wd_C D T A s H locs (wd_up (wd_up σ (am 22) (.inl (T 0, 40, .inl (upd q.1 q.2 ((v >>> ((8 * 2) &&& 31)) &&& 255))))) y (.inr (4, [.int (nI n), .ref (am 1), .ref (am 2), .ref (am 3), .ref (am 4), .ref (am 5), .ref (am 6), .ref (am 7), .ref (am 8), .ref (am 9), .ref (am 10), .ref (am 11), .ref (am 12), .ref (am 13), .ref (am 14), .ref (am 15), .ref (am 16), .ref (am 17), .ref (am 18), .int (nI nc), .ref (am 20), .int (nI (q.2 + 1)), .ref (am 22)]))) := h
  have h_4 : (wd_up (wd_up σ (am 22) (.inl (T 0, 40, .inl (upd q.1 q.2 ((v >>> ((8 * 2) &&& 31)) &&& 255))))) y (.inr (4, [.int (nI n), .ref (am 1), .ref (am 2), .ref (am 3), .ref (am 4), .ref (am 5), .ref (am 6), .ref (am 7), .ref (am 8), .ref (am 9), .ref (am 10), .ref (am 11), .ref (am 12), .ref (am 13), .ref (am 14), .ref (am 15), .ref (am 16), .ref (am 17), .ref (am 18), .int (nI nc), .ref (am 20), .int (nI (q.2 + 1)), .ref (am 22)]))) y = some (.inr (4, [.int (nI n), .ref (am 1), .ref (am 2), .ref (am 3), .ref (am 4), .ref (am 5), .ref (am 6), .ref (am 7), .ref (am 8), .ref (am 9), .ref (am 10), .ref (am 11), .ref (am 12), .ref (am 13), .ref (am 14), .ref (am 15), .ref (am 16), .ref (am 17), .ref (am 18), .int (nI nc), .ref (am 20), .int (nI (q.2 + 1)), .ref (am 22)])) := wd_us _ _ _
  have h_5 : (wd_up (wd_up σ (am 22) (.inl (T 0, 40, .inl (upd q.1 q.2 ((v >>> ((8 * 2) &&& 31)) &&& 255))))) y (.inr (4, [.int (nI n), .ref (am 1), .ref (am 2), .ref (am 3), .ref (am 4), .ref (am 5), .ref (am 6), .ref (am 7), .ref (am 8), .ref (am 9), .ref (am 10), .ref (am 11), .ref (am 12), .ref (am 13), .ref (am 14), .ref (am 15), .ref (am 16), .ref (am 17), .ref (am 18), .int (nI nc), .ref (am 20), .int (nI (q.2 + 1)), .ref (am 22)]))) (am 22) = some (.inl (T 0, 40, .inl (upd q.1 q.2 ((v >>> ((8 * 2) &&& 31)) &&& 255)))) := wd_uk h_2 (wd_ne h_2 h_3 (by simp))
  refine lv_iinc (v := 1) (lv' := [(3, .int 1), (0, .ref y), (1, .int v), (2, .int 3)]) hx hb d_M_put_37 hl (k := 0) rfl (by first | rfl | decide) (by decide) rfl (fun ls hl => ?_)
  refine lv_goto (tgt := 4) hx hb d_M_put_40 (by decide) ?_
  refine lv_iload_n hx hb d_M_put_4 rfl (lv_at hl 0 rfl) ?_
  refine lv_if_lt (tgt := 43) hx hb d_M_put_5 (by decide) (fun c_6 => ?_) (fun c_6 => ?_)
  · exact absurd c_6 (by decide)
  refine lv_aload_n hx hb d_M_put_8 rfl (lv_at hl 1 rfl) ?_
  refine wd_get C h kc_M h_4 22 (by decide) lk_M_68 rfl d_M_put_9 ?_
  refine lv_aload_n hx hb d_M_put_12 rfl (lv_at hl 1 rfl) ?_
  refine wd_get C h kc_M h_4 21 (by decide) lk_M_122 rfl d_M_put_13 ?_
  refine lv_iload_n hx hb d_M_put_16 rfl (lv_at hl 2 rfl) ?_
  refine lv_bipush (v := 8) hx hb d_M_put_17 (by decide) ?_
  refine lv_iload_n hx hb d_M_put_19 rfl (lv_at hl 0 rfl) ?_
  refine lv_imul hx hb d_M_put_20 ?_
  refine lv_ishr hx hb d_M_put_21 ?_
  refine lv_sipush (v := 255) hx hb d_M_put_22 (by decide) ?_
  refine lv_iand hx hb d_M_put_25 ?_
  refine wd_iast C h 0 rfl h_5 (vp_in_nI (show (q.2 + 1) < 40 by omega) (by decide)) d_M_put_26 (fun H locs h => ?_)
  rw [nI_clamp (show (q.2 + 1) < 2 ^ 31 by omega)] at h
  replace h : wd_C D T A s H locs (wd_up (wd_up (wd_up σ (am 22) (.inl (T 0, 40, .inl (upd q.1 q.2 ((v >>> ((8 * 2) &&& 31)) &&& 255))))) y (.inr (4, [.int (nI n), .ref (am 1), .ref (am 2), .ref (am 3), .ref (am 4), .ref (am 5), .ref (am 6), .ref (am 7), .ref (am 8), .ref (am 9), .ref (am 10), .ref (am 11), .ref (am 12), .ref (am 13), .ref (am 14), .ref (am 15), .ref (am 16), .ref (am 17), .ref (am 18), .int (nI nc), .ref (am 20), .int (nI (q.2 + 1)), .ref (am 22)]))) (am 22) (.inl (T 0, 40, .inl (upd (upd q.1 q.2 ((v >>> ((8 * 2) &&& 31)) &&& 255)) (q.2 + 1) ((v >>> ((8 * 1) &&& 31)) &&& 255))))) := h
  have h_7 : (wd_up (wd_up (wd_up σ (am 22) (.inl (T 0, 40, .inl (upd q.1 q.2 ((v >>> ((8 * 2) &&& 31)) &&& 255))))) y (.inr (4, [.int (nI n), .ref (am 1), .ref (am 2), .ref (am 3), .ref (am 4), .ref (am 5), .ref (am 6), .ref (am 7), .ref (am 8), .ref (am 9), .ref (am 10), .ref (am 11), .ref (am 12), .ref (am 13), .ref (am 14), .ref (am 15), .ref (am 16), .ref (am 17), .ref (am 18), .int (nI nc), .ref (am 20), .int (nI (q.2 + 1)), .ref (am 22)]))) (am 22) (.inl (T 0, 40, .inl (upd (upd q.1 q.2 ((v >>> ((8 * 2) &&& 31)) &&& 255)) (q.2 + 1) ((v >>> ((8 * 1) &&& 31)) &&& 255))))) (am 22) = some (.inl (T 0, 40, .inl (upd (upd q.1 q.2 ((v >>> ((8 * 2) &&& 31)) &&& 255)) (q.2 + 1) ((v >>> ((8 * 1) &&& 31)) &&& 255)))) := wd_us _ _ _
  have h_8 : (wd_up (wd_up (wd_up σ (am 22) (.inl (T 0, 40, .inl (upd q.1 q.2 ((v >>> ((8 * 2) &&& 31)) &&& 255))))) y (.inr (4, [.int (nI n), .ref (am 1), .ref (am 2), .ref (am 3), .ref (am 4), .ref (am 5), .ref (am 6), .ref (am 7), .ref (am 8), .ref (am 9), .ref (am 10), .ref (am 11), .ref (am 12), .ref (am 13), .ref (am 14), .ref (am 15), .ref (am 16), .ref (am 17), .ref (am 18), .int (nI nc), .ref (am 20), .int (nI (q.2 + 1)), .ref (am 22)]))) (am 22) (.inl (T 0, 40, .inl (upd (upd q.1 q.2 ((v >>> ((8 * 2) &&& 31)) &&& 255)) (q.2 + 1) ((v >>> ((8 * 1) &&& 31)) &&& 255))))) y = some (.inr (4, [.int (nI n), .ref (am 1), .ref (am 2), .ref (am 3), .ref (am 4), .ref (am 5), .ref (am 6), .ref (am 7), .ref (am 8), .ref (am 9), .ref (am 10), .ref (am 11), .ref (am 12), .ref (am 13), .ref (am 14), .ref (am 15), .ref (am 16), .ref (am 17), .ref (am 18), .int (nI nc), .ref (am 20), .int (nI (q.2 + 1)), .ref (am 22)])) := wd_uk h_4 (wd_ne h_4 h_5 (by simp))
  refine lv_aload_n hx hb d_M_put_27 rfl (lv_at hl 1 rfl) ?_
  refine lv_dup hx hb d_M_put_28 rfl ?_
  refine wd_get C h kc_M h_8 21 (by decide) lk_M_122 rfl d_M_put_29 ?_
  refine lv_iconst (v := 1) hx hb d_M_put_32 (by decide) ?_
  refine lv_iadd hx hb d_M_put_33 ?_
  refine wd_put C h kc_M h_8 21 (by decide) lk_M_122 rfl (by rfl) (by rfl) (Nat.le_of_ble_eq_true rfl) d_M_put_34 (fun H locs h => ?_)
  rw [nI_1] at h
  replace h : wd_C D T A s H locs (wd_up (wd_up (wd_up (wd_up σ (am 22) (.inl (T 0, 40, .inl (upd q.1 q.2 ((v >>> ((8 * 2) &&& 31)) &&& 255))))) y (.inr (4, [.int (nI n), .ref (am 1), .ref (am 2), .ref (am 3), .ref (am 4), .ref (am 5), .ref (am 6), .ref (am 7), .ref (am 8), .ref (am 9), .ref (am 10), .ref (am 11), .ref (am 12), .ref (am 13), .ref (am 14), .ref (am 15), .ref (am 16), .ref (am 17), .ref (am 18), .int (nI nc), .ref (am 20), .int (nI (q.2 + 1)), .ref (am 22)]))) (am 22) (.inl (T 0, 40, .inl (upd (upd q.1 q.2 ((v >>> ((8 * 2) &&& 31)) &&& 255)) (q.2 + 1) ((v >>> ((8 * 1) &&& 31)) &&& 255))))) y (.inr (4, [.int (nI n), .ref (am 1), .ref (am 2), .ref (am 3), .ref (am 4), .ref (am 5), .ref (am 6), .ref (am 7), .ref (am 8), .ref (am 9), .ref (am 10), .ref (am 11), .ref (am 12), .ref (am 13), .ref (am 14), .ref (am 15), .ref (am 16), .ref (am 17), .ref (am 18), .int (nI nc), .ref (am 20), .int (nI (q.2 + 1 + 1)), .ref (am 22)]))) := h
  have h_9 : (wd_up (wd_up (wd_up (wd_up σ (am 22) (.inl (T 0, 40, .inl (upd q.1 q.2 ((v >>> ((8 * 2) &&& 31)) &&& 255))))) y (.inr (4, [.int (nI n), .ref (am 1), .ref (am 2), .ref (am 3), .ref (am 4), .ref (am 5), .ref (am 6), .ref (am 7), .ref (am 8), .ref (am 9), .ref (am 10), .ref (am 11), .ref (am 12), .ref (am 13), .ref (am 14), .ref (am 15), .ref (am 16), .ref (am 17), .ref (am 18), .int (nI nc), .ref (am 20), .int (nI (q.2 + 1)), .ref (am 22)]))) (am 22) (.inl (T 0, 40, .inl (upd (upd q.1 q.2 ((v >>> ((8 * 2) &&& 31)) &&& 255)) (q.2 + 1) ((v >>> ((8 * 1) &&& 31)) &&& 255))))) y (.inr (4, [.int (nI n), .ref (am 1), .ref (am 2), .ref (am 3), .ref (am 4), .ref (am 5), .ref (am 6), .ref (am 7), .ref (am 8), .ref (am 9), .ref (am 10), .ref (am 11), .ref (am 12), .ref (am 13), .ref (am 14), .ref (am 15), .ref (am 16), .ref (am 17), .ref (am 18), .int (nI nc), .ref (am 20), .int (nI (q.2 + 1 + 1)), .ref (am 22)]))) y = some (.inr (4, [.int (nI n), .ref (am 1), .ref (am 2), .ref (am 3), .ref (am 4), .ref (am 5), .ref (am 6), .ref (am 7), .ref (am 8), .ref (am 9), .ref (am 10), .ref (am 11), .ref (am 12), .ref (am 13), .ref (am 14), .ref (am 15), .ref (am 16), .ref (am 17), .ref (am 18), .int (nI nc), .ref (am 20), .int (nI (q.2 + 1 + 1)), .ref (am 22)])) := wd_us _ _ _
  have h_10 : (wd_up (wd_up (wd_up (wd_up σ (am 22) (.inl (T 0, 40, .inl (upd q.1 q.2 ((v >>> ((8 * 2) &&& 31)) &&& 255))))) y (.inr (4, [.int (nI n), .ref (am 1), .ref (am 2), .ref (am 3), .ref (am 4), .ref (am 5), .ref (am 6), .ref (am 7), .ref (am 8), .ref (am 9), .ref (am 10), .ref (am 11), .ref (am 12), .ref (am 13), .ref (am 14), .ref (am 15), .ref (am 16), .ref (am 17), .ref (am 18), .int (nI nc), .ref (am 20), .int (nI (q.2 + 1)), .ref (am 22)]))) (am 22) (.inl (T 0, 40, .inl (upd (upd q.1 q.2 ((v >>> ((8 * 2) &&& 31)) &&& 255)) (q.2 + 1) ((v >>> ((8 * 1) &&& 31)) &&& 255))))) y (.inr (4, [.int (nI n), .ref (am 1), .ref (am 2), .ref (am 3), .ref (am 4), .ref (am 5), .ref (am 6), .ref (am 7), .ref (am 8), .ref (am 9), .ref (am 10), .ref (am 11), .ref (am 12), .ref (am 13), .ref (am 14), .ref (am 15), .ref (am 16), .ref (am 17), .ref (am 18), .int (nI nc), .ref (am 20), .int (nI (q.2 + 1 + 1)), .ref (am 22)]))) (am 22) = some (.inl (T 0, 40, .inl (upd (upd q.1 q.2 ((v >>> ((8 * 2) &&& 31)) &&& 255)) (q.2 + 1) ((v >>> ((8 * 1) &&& 31)) &&& 255)))) := wd_uk h_7 (wd_ne h_7 h_8 (by simp))
  refine lv_iinc (v := 0) (lv' := [(3, .int 0), (0, .ref y), (1, .int v), (2, .int 3)]) hx hb d_M_put_37 hl (k := 0) rfl (by first | rfl | decide) (by decide) rfl (fun ls hl => ?_)
  refine lv_goto (tgt := 4) hx hb d_M_put_40 (by decide) ?_
  refine lv_iload_n hx hb d_M_put_4 rfl (lv_at hl 0 rfl) ?_
  refine lv_if_lt (tgt := 43) hx hb d_M_put_5 (by decide) (fun c_11 => ?_) (fun c_11 => ?_)
  · exact absurd c_11 (by decide)
  refine lv_aload_n hx hb d_M_put_8 rfl (lv_at hl 1 rfl) ?_
  refine wd_get C h kc_M h_9 22 (by decide) lk_M_68 rfl d_M_put_9 ?_
  refine lv_aload_n hx hb d_M_put_12 rfl (lv_at hl 1 rfl) ?_
  refine wd_get C h kc_M h_9 21 (by decide) lk_M_122 rfl d_M_put_13 ?_
  refine lv_iload_n hx hb d_M_put_16 rfl (lv_at hl 2 rfl) ?_
  refine lv_bipush (v := 8) hx hb d_M_put_17 (by decide) ?_
  refine lv_iload_n hx hb d_M_put_19 rfl (lv_at hl 0 rfl) ?_
  refine lv_imul hx hb d_M_put_20 ?_
  refine lv_ishr hx hb d_M_put_21 ?_
  refine lv_sipush (v := 255) hx hb d_M_put_22 (by decide) ?_
  refine lv_iand hx hb d_M_put_25 ?_
  refine wd_iast C h 0 rfl h_10 (vp_in_nI (show (q.2 + 1 + 1) < 40 by omega) (by decide)) d_M_put_26 (fun H locs h => ?_)
  rw [nI_clamp (show (q.2 + 1 + 1) < 2 ^ 31 by omega)] at h
  replace h : wd_C D T A s H locs (wd_up (wd_up (wd_up (wd_up (wd_up σ (am 22) (.inl (T 0, 40, .inl (upd q.1 q.2 ((v >>> ((8 * 2) &&& 31)) &&& 255))))) y (.inr (4, [.int (nI n), .ref (am 1), .ref (am 2), .ref (am 3), .ref (am 4), .ref (am 5), .ref (am 6), .ref (am 7), .ref (am 8), .ref (am 9), .ref (am 10), .ref (am 11), .ref (am 12), .ref (am 13), .ref (am 14), .ref (am 15), .ref (am 16), .ref (am 17), .ref (am 18), .int (nI nc), .ref (am 20), .int (nI (q.2 + 1)), .ref (am 22)]))) (am 22) (.inl (T 0, 40, .inl (upd (upd q.1 q.2 ((v >>> ((8 * 2) &&& 31)) &&& 255)) (q.2 + 1) ((v >>> ((8 * 1) &&& 31)) &&& 255))))) y (.inr (4, [.int (nI n), .ref (am 1), .ref (am 2), .ref (am 3), .ref (am 4), .ref (am 5), .ref (am 6), .ref (am 7), .ref (am 8), .ref (am 9), .ref (am 10), .ref (am 11), .ref (am 12), .ref (am 13), .ref (am 14), .ref (am 15), .ref (am 16), .ref (am 17), .ref (am 18), .int (nI nc), .ref (am 20), .int (nI (q.2 + 1 + 1)), .ref (am 22)]))) (am 22) (.inl (T 0, 40, .inl (upd (upd (upd q.1 q.2 ((v >>> ((8 * 2) &&& 31)) &&& 255)) (q.2 + 1) ((v >>> ((8 * 1) &&& 31)) &&& 255)) (q.2 + 1 + 1) ((v >>> ((8 * 0) &&& 31)) &&& 255))))) := h
  have h_12 : (wd_up (wd_up (wd_up (wd_up (wd_up σ (am 22) (.inl (T 0, 40, .inl (upd q.1 q.2 ((v >>> ((8 * 2) &&& 31)) &&& 255))))) y (.inr (4, [.int (nI n), .ref (am 1), .ref (am 2), .ref (am 3), .ref (am 4), .ref (am 5), .ref (am 6), .ref (am 7), .ref (am 8), .ref (am 9), .ref (am 10), .ref (am 11), .ref (am 12), .ref (am 13), .ref (am 14), .ref (am 15), .ref (am 16), .ref (am 17), .ref (am 18), .int (nI nc), .ref (am 20), .int (nI (q.2 + 1)), .ref (am 22)]))) (am 22) (.inl (T 0, 40, .inl (upd (upd q.1 q.2 ((v >>> ((8 * 2) &&& 31)) &&& 255)) (q.2 + 1) ((v >>> ((8 * 1) &&& 31)) &&& 255))))) y (.inr (4, [.int (nI n), .ref (am 1), .ref (am 2), .ref (am 3), .ref (am 4), .ref (am 5), .ref (am 6), .ref (am 7), .ref (am 8), .ref (am 9), .ref (am 10), .ref (am 11), .ref (am 12), .ref (am 13), .ref (am 14), .ref (am 15), .ref (am 16), .ref (am 17), .ref (am 18), .int (nI nc), .ref (am 20), .int (nI (q.2 + 1 + 1)), .ref (am 22)]))) (am 22) (.inl (T 0, 40, .inl (upd (upd (upd q.1 q.2 ((v >>> ((8 * 2) &&& 31)) &&& 255)) (q.2 + 1) ((v >>> ((8 * 1) &&& 31)) &&& 255)) (q.2 + 1 + 1) ((v >>> ((8 * 0) &&& 31)) &&& 255))))) (am 22) = some (.inl (T 0, 40, .inl (upd (upd (upd q.1 q.2 ((v >>> ((8 * 2) &&& 31)) &&& 255)) (q.2 + 1) ((v >>> ((8 * 1) &&& 31)) &&& 255)) (q.2 + 1 + 1) ((v >>> ((8 * 0) &&& 31)) &&& 255)))) := wd_us _ _ _
  have h_13 : (wd_up (wd_up (wd_up (wd_up (wd_up σ (am 22) (.inl (T 0, 40, .inl (upd q.1 q.2 ((v >>> ((8 * 2) &&& 31)) &&& 255))))) y (.inr (4, [.int (nI n), .ref (am 1), .ref (am 2), .ref (am 3), .ref (am 4), .ref (am 5), .ref (am 6), .ref (am 7), .ref (am 8), .ref (am 9), .ref (am 10), .ref (am 11), .ref (am 12), .ref (am 13), .ref (am 14), .ref (am 15), .ref (am 16), .ref (am 17), .ref (am 18), .int (nI nc), .ref (am 20), .int (nI (q.2 + 1)), .ref (am 22)]))) (am 22) (.inl (T 0, 40, .inl (upd (upd q.1 q.2 ((v >>> ((8 * 2) &&& 31)) &&& 255)) (q.2 + 1) ((v >>> ((8 * 1) &&& 31)) &&& 255))))) y (.inr (4, [.int (nI n), .ref (am 1), .ref (am 2), .ref (am 3), .ref (am 4), .ref (am 5), .ref (am 6), .ref (am 7), .ref (am 8), .ref (am 9), .ref (am 10), .ref (am 11), .ref (am 12), .ref (am 13), .ref (am 14), .ref (am 15), .ref (am 16), .ref (am 17), .ref (am 18), .int (nI nc), .ref (am 20), .int (nI (q.2 + 1 + 1)), .ref (am 22)]))) (am 22) (.inl (T 0, 40, .inl (upd (upd (upd q.1 q.2 ((v >>> ((8 * 2) &&& 31)) &&& 255)) (q.2 + 1) ((v >>> ((8 * 1) &&& 31)) &&& 255)) (q.2 + 1 + 1) ((v >>> ((8 * 0) &&& 31)) &&& 255))))) y = some (.inr (4, [.int (nI n), .ref (am 1), .ref (am 2), .ref (am 3), .ref (am 4), .ref (am 5), .ref (am 6), .ref (am 7), .ref (am 8), .ref (am 9), .ref (am 10), .ref (am 11), .ref (am 12), .ref (am 13), .ref (am 14), .ref (am 15), .ref (am 16), .ref (am 17), .ref (am 18), .int (nI nc), .ref (am 20), .int (nI (q.2 + 1 + 1)), .ref (am 22)])) := wd_uk h_9 (wd_ne h_9 h_10 (by simp))
  refine lv_aload_n hx hb d_M_put_27 rfl (lv_at hl 1 rfl) ?_
  refine lv_dup hx hb d_M_put_28 rfl ?_
  refine wd_get C h kc_M h_13 21 (by decide) lk_M_122 rfl d_M_put_29 ?_
  refine lv_iconst (v := 1) hx hb d_M_put_32 (by decide) ?_
  refine lv_iadd hx hb d_M_put_33 ?_
  refine wd_put C h kc_M h_13 21 (by decide) lk_M_122 rfl (by rfl) (by rfl) (Nat.le_of_ble_eq_true rfl) d_M_put_34 (fun H locs h => ?_)
  rw [nI_1] at h
  replace h : wd_C D T A s H locs (wd_up (wd_up (wd_up (wd_up (wd_up (wd_up σ (am 22) (.inl (T 0, 40, .inl (upd q.1 q.2 ((v >>> ((8 * 2) &&& 31)) &&& 255))))) y (.inr (4, [.int (nI n), .ref (am 1), .ref (am 2), .ref (am 3), .ref (am 4), .ref (am 5), .ref (am 6), .ref (am 7), .ref (am 8), .ref (am 9), .ref (am 10), .ref (am 11), .ref (am 12), .ref (am 13), .ref (am 14), .ref (am 15), .ref (am 16), .ref (am 17), .ref (am 18), .int (nI nc), .ref (am 20), .int (nI (q.2 + 1)), .ref (am 22)]))) (am 22) (.inl (T 0, 40, .inl (upd (upd q.1 q.2 ((v >>> ((8 * 2) &&& 31)) &&& 255)) (q.2 + 1) ((v >>> ((8 * 1) &&& 31)) &&& 255))))) y (.inr (4, [.int (nI n), .ref (am 1), .ref (am 2), .ref (am 3), .ref (am 4), .ref (am 5), .ref (am 6), .ref (am 7), .ref (am 8), .ref (am 9), .ref (am 10), .ref (am 11), .ref (am 12), .ref (am 13), .ref (am 14), .ref (am 15), .ref (am 16), .ref (am 17), .ref (am 18), .int (nI nc), .ref (am 20), .int (nI (q.2 + 1 + 1)), .ref (am 22)]))) (am 22) (.inl (T 0, 40, .inl (upd (upd (upd q.1 q.2 ((v >>> ((8 * 2) &&& 31)) &&& 255)) (q.2 + 1) ((v >>> ((8 * 1) &&& 31)) &&& 255)) (q.2 + 1 + 1) ((v >>> ((8 * 0) &&& 31)) &&& 255))))) y (.inr (4, [.int (nI n), .ref (am 1), .ref (am 2), .ref (am 3), .ref (am 4), .ref (am 5), .ref (am 6), .ref (am 7), .ref (am 8), .ref (am 9), .ref (am 10), .ref (am 11), .ref (am 12), .ref (am 13), .ref (am 14), .ref (am 15), .ref (am 16), .ref (am 17), .ref (am 18), .int (nI nc), .ref (am 20), .int (nI (q.2 + 1 + 1 + 1)), .ref (am 22)]))) := h
  have h_14 : (wd_up (wd_up (wd_up (wd_up (wd_up (wd_up σ (am 22) (.inl (T 0, 40, .inl (upd q.1 q.2 ((v >>> ((8 * 2) &&& 31)) &&& 255))))) y (.inr (4, [.int (nI n), .ref (am 1), .ref (am 2), .ref (am 3), .ref (am 4), .ref (am 5), .ref (am 6), .ref (am 7), .ref (am 8), .ref (am 9), .ref (am 10), .ref (am 11), .ref (am 12), .ref (am 13), .ref (am 14), .ref (am 15), .ref (am 16), .ref (am 17), .ref (am 18), .int (nI nc), .ref (am 20), .int (nI (q.2 + 1)), .ref (am 22)]))) (am 22) (.inl (T 0, 40, .inl (upd (upd q.1 q.2 ((v >>> ((8 * 2) &&& 31)) &&& 255)) (q.2 + 1) ((v >>> ((8 * 1) &&& 31)) &&& 255))))) y (.inr (4, [.int (nI n), .ref (am 1), .ref (am 2), .ref (am 3), .ref (am 4), .ref (am 5), .ref (am 6), .ref (am 7), .ref (am 8), .ref (am 9), .ref (am 10), .ref (am 11), .ref (am 12), .ref (am 13), .ref (am 14), .ref (am 15), .ref (am 16), .ref (am 17), .ref (am 18), .int (nI nc), .ref (am 20), .int (nI (q.2 + 1 + 1)), .ref (am 22)]))) (am 22) (.inl (T 0, 40, .inl (upd (upd (upd q.1 q.2 ((v >>> ((8 * 2) &&& 31)) &&& 255)) (q.2 + 1) ((v >>> ((8 * 1) &&& 31)) &&& 255)) (q.2 + 1 + 1) ((v >>> ((8 * 0) &&& 31)) &&& 255))))) y (.inr (4, [.int (nI n), .ref (am 1), .ref (am 2), .ref (am 3), .ref (am 4), .ref (am 5), .ref (am 6), .ref (am 7), .ref (am 8), .ref (am 9), .ref (am 10), .ref (am 11), .ref (am 12), .ref (am 13), .ref (am 14), .ref (am 15), .ref (am 16), .ref (am 17), .ref (am 18), .int (nI nc), .ref (am 20), .int (nI (q.2 + 1 + 1 + 1)), .ref (am 22)]))) y = some (.inr (4, [.int (nI n), .ref (am 1), .ref (am 2), .ref (am 3), .ref (am 4), .ref (am 5), .ref (am 6), .ref (am 7), .ref (am 8), .ref (am 9), .ref (am 10), .ref (am 11), .ref (am 12), .ref (am 13), .ref (am 14), .ref (am 15), .ref (am 16), .ref (am 17), .ref (am 18), .int (nI nc), .ref (am 20), .int (nI (q.2 + 1 + 1 + 1)), .ref (am 22)])) := wd_us _ _ _
  have h_15 : (wd_up (wd_up (wd_up (wd_up (wd_up (wd_up σ (am 22) (.inl (T 0, 40, .inl (upd q.1 q.2 ((v >>> ((8 * 2) &&& 31)) &&& 255))))) y (.inr (4, [.int (nI n), .ref (am 1), .ref (am 2), .ref (am 3), .ref (am 4), .ref (am 5), .ref (am 6), .ref (am 7), .ref (am 8), .ref (am 9), .ref (am 10), .ref (am 11), .ref (am 12), .ref (am 13), .ref (am 14), .ref (am 15), .ref (am 16), .ref (am 17), .ref (am 18), .int (nI nc), .ref (am 20), .int (nI (q.2 + 1)), .ref (am 22)]))) (am 22) (.inl (T 0, 40, .inl (upd (upd q.1 q.2 ((v >>> ((8 * 2) &&& 31)) &&& 255)) (q.2 + 1) ((v >>> ((8 * 1) &&& 31)) &&& 255))))) y (.inr (4, [.int (nI n), .ref (am 1), .ref (am 2), .ref (am 3), .ref (am 4), .ref (am 5), .ref (am 6), .ref (am 7), .ref (am 8), .ref (am 9), .ref (am 10), .ref (am 11), .ref (am 12), .ref (am 13), .ref (am 14), .ref (am 15), .ref (am 16), .ref (am 17), .ref (am 18), .int (nI nc), .ref (am 20), .int (nI (q.2 + 1 + 1)), .ref (am 22)]))) (am 22) (.inl (T 0, 40, .inl (upd (upd (upd q.1 q.2 ((v >>> ((8 * 2) &&& 31)) &&& 255)) (q.2 + 1) ((v >>> ((8 * 1) &&& 31)) &&& 255)) (q.2 + 1 + 1) ((v >>> ((8 * 0) &&& 31)) &&& 255))))) y (.inr (4, [.int (nI n), .ref (am 1), .ref (am 2), .ref (am 3), .ref (am 4), .ref (am 5), .ref (am 6), .ref (am 7), .ref (am 8), .ref (am 9), .ref (am 10), .ref (am 11), .ref (am 12), .ref (am 13), .ref (am 14), .ref (am 15), .ref (am 16), .ref (am 17), .ref (am 18), .int (nI nc), .ref (am 20), .int (nI (q.2 + 1 + 1 + 1)), .ref (am 22)]))) (am 22) = some (.inl (T 0, 40, .inl (upd (upd (upd q.1 q.2 ((v >>> ((8 * 2) &&& 31)) &&& 255)) (q.2 + 1) ((v >>> ((8 * 1) &&& 31)) &&& 255)) (q.2 + 1 + 1) ((v >>> ((8 * 0) &&& 31)) &&& 255)))) := wd_uk h_12 (wd_ne h_12 h_13 (by simp))
  refine lv_iinc (v := (-1)) (lv' := [(3, .int (-1)), (0, .ref y), (1, .int v), (2, .int 3)]) hx hb d_M_put_37 hl (k := 0) rfl (by first | rfl | decide) (by decide) rfl (fun ls hl => ?_)
  refine lv_goto (tgt := 4) hx hb d_M_put_40 (by decide) ?_
  refine lv_iload_n hx hb d_M_put_4 rfl (lv_at hl 0 rfl) ?_
  refine lv_if_lt (tgt := 43) hx hb d_M_put_5 (by decide) (fun c_16 => ?_) (fun c_16 => ?_)
  rotate_left
  · exact absurd c_16 (by decide)
  exact wd_vret C hr hlocks h (⟨h_14, h_15, fun b h1 h2 => by rw [wd_un _ _ h1, wd_un _ _ h2, wd_un _ _ h1, wd_un _ _ h2, wd_un _ _ h1, wd_un _ _ h2]; exact hk.2.2 b h1 h2⟩) (Nat.le_of_ble_eq_true rfl) (Nat.le_of_ble_eq_true rfl) d_M_put_43

set_option maxHeartbeats 4000000 in
set_option maxRecDepth 20000 in
theorem c_M_pack (l : Launch) (D : va_G) (T : Nat → ClassId) (A : Nat → Prop) (σ : wd_S) (y : Nat) (am : Nat → Nat) (fm : Nat → Nat → Int32) (n : Nat) (R : Nat → Nat → Int32) (nc : Nat) (CR : Nat → Nat → Int32) (wg : Nat → Int32) (Q : pq) (hM : MB T σ y am fm n R nc CR wg Q) (hok : ∀ k, k < n → okr (R k)) (i : Int32) : Met l y_M_pack (Cond.code y_M_pack b_M_pack 4 (some .int) :: wd_tb) { frames := 2, cells := 0, slots := 0, locals := 43 } (va_Pc [.ref y, .int i] (wd_Pre D T A σ)) (va_Qi (fun r1 σ1 => r1 = (o_pack (n, R, nc, CR, wg, Q) i).1 ∧ RM T σ1 y (o_pack (n, R, nc, CR, wg, Q) i).2) (wd_B D A) A) 0 0 A := by
  refine wd_ofW (by decide) (Nat.le_of_ble_eq_true rfl) ?_
  intro p e s m below meth c0 ls C hr hlocks hname h hl
  have hl : lv_has ls 4 [(0, .ref y), (1, .int i)] := hl
  have hx := C.1
  have hb := C.2.1
  obtain ⟨⟨d0, dc, di⟩, m1, m2, m3, m4, m5, m6, m7, m8, m9, m10⟩ := id hM
  have c1 : σ (am 1) = some (.inl (T 0, 121, .inl (fm 1))) := dc 1 rfl
  have c2 : σ (am 2) = some (.inl (T 0, 121, .inl (fm 2))) := dc 2 rfl
  have c3 : σ (am 3) = some (.inl (T 0, 121, .inl (fm 3))) := dc 3 rfl
  have c5 : σ (am 5) = some (.inl (T 0, 121, .inl (fm 5))) := dc 5 rfl
  have c6 : σ (am 6) = some (.inl (T 0, 121, .inl (fm 6))) := dc 6 rfl
  have c7 : σ (am 7) = some (.inl (T 1, 121, .inl (fm 7))) := dc 7 rfl
  have c9 : σ (am 9) = some (.inl (T 0, 121, .inl (fm 9))) := dc 9 rfl
  have c10 : σ (am 10) = some (.inl (T 0, 121, .inl (fm 10))) := dc 10 rfl
  have c11 : σ (am 11) = some (.inl (T 0, 121, .inl (fm 11))) := dc 11 rfl
  have c12 : σ (am 12) = some (.inl (T 0, 121, .inl (fm 12))) := dc 12 rfl
  have c13 : σ (am 13) = some (.inl (T 0, 484, .inl (fm 13))) := dc 13 rfl
  have c14 : σ (am 14) = some (.inl (T 0, 484, .inl (fm 14))) := dc 14 rfl
  have c22 : σ (am 22) = some (.inl (T 0, 40, .inl (fm 22))) := dc 22 rfl
  refine lv_aload_n hx hb d_M_pack_0 rfl (lv_at hl 0 rfl) ?_
  refine lv_iload_n hx hb d_M_pack_1 rfl (lv_at hl 1 rfl) ?_
  refine wd_ci h (wd_rV (rest := []) (st0 := [.int i, .ref y]) C h kc_M d0 k_M_isItem wm_M_isItem wz_M_isItem lk_M_92 (c_M_isItem l D T A σ y am fm n R nc CR wg Q hM i) rfl rfl ⟨Nat.le_of_ble_eq_true rfl, Nat.le_of_ble_eq_true rfl⟩ rfl hl.1 rfl (Nat.le_of_ble_eq_true rfl) d_M_pack_2 ⟨Nat.le_of_ble_eq_true rfl, Nat.le_of_ble_eq_true rfl⟩) (fun r_1 σ_2 H locs hp_3 h => ?_)
  obtain ⟨e_4, es_5⟩ := hp_3
  rw [es_5] at h
  subst e_4
  refine lv_if_ne (tgt := 11) hx hb d_M_pack_5 (by decide) (fun c_6 => ?_) (fun c_6 => ?_)
  · obtain ⟨k, hk, -, rfl⟩ := o_in m8 c_6
    refine lv_aload_n hx hb d_M_pack_11 rfl (lv_at hl 0 rfl) ?_
    refine lv_iconst (v := 0) hx hb d_M_pack_12 (by decide) ?_
    refine wd_put C h kc_M d0 21 (by decide) lk_M_122 rfl (by rfl) (by rfl) (Nat.le_of_ble_eq_true rfl) d_M_pack_13 (fun H locs h => ?_)
    replace h : wd_C D T A s H locs (wd_up σ y (.inr (4, [.int (nI n), .ref (am 1), .ref (am 2), .ref (am 3), .ref (am 4), .ref (am 5), .ref (am 6), .ref (am 7), .ref (am 8), .ref (am 9), .ref (am 10), .ref (am 11), .ref (am 12), .ref (am 13), .ref (am 14), .ref (am 15), .ref (am 16), .ref (am 17), .ref (am 18), .int (nI nc), .ref (am 20), .int 0, .ref (am 22)]))) := h
    have h_7 : (wd_up σ y (.inr (4, [.int (nI n), .ref (am 1), .ref (am 2), .ref (am 3), .ref (am 4), .ref (am 5), .ref (am 6), .ref (am 7), .ref (am 8), .ref (am 9), .ref (am 10), .ref (am 11), .ref (am 12), .ref (am 13), .ref (am 14), .ref (am 15), .ref (am 16), .ref (am 17), .ref (am 18), .int (nI nc), .ref (am 20), .int 0, .ref (am 22)]))) y = some (.inr (4, [.int (nI n), .ref (am 1), .ref (am 2), .ref (am 3), .ref (am 4), .ref (am 5), .ref (am 6), .ref (am 7), .ref (am 8), .ref (am 9), .ref (am 10), .ref (am 11), .ref (am 12), .ref (am 13), .ref (am 14), .ref (am 15), .ref (am 16), .ref (am 17), .ref (am 18), .int (nI nc), .ref (am 20), .int 0, .ref (am 22)])) := wd_us _ _ _
    have h_8 : (wd_up σ y (.inr (4, [.int (nI n), .ref (am 1), .ref (am 2), .ref (am 3), .ref (am 4), .ref (am 5), .ref (am 6), .ref (am 7), .ref (am 8), .ref (am 9), .ref (am 10), .ref (am 11), .ref (am 12), .ref (am 13), .ref (am 14), .ref (am 15), .ref (am 16), .ref (am 17), .ref (am 18), .int (nI nc), .ref (am 20), .int 0, .ref (am 22)]))) (am 1) = some (.inl (T 0, 121, .inl (fm 1))) := wd_uk c1 (wd_ne c1 d0 (by simp))
    have h_9 : (wd_up σ y (.inr (4, [.int (nI n), .ref (am 1), .ref (am 2), .ref (am 3), .ref (am 4), .ref (am 5), .ref (am 6), .ref (am 7), .ref (am 8), .ref (am 9), .ref (am 10), .ref (am 11), .ref (am 12), .ref (am 13), .ref (am 14), .ref (am 15), .ref (am 16), .ref (am 17), .ref (am 18), .int (nI nc), .ref (am 20), .int 0, .ref (am 22)]))) (am 2) = some (.inl (T 0, 121, .inl (fm 2))) := wd_uk c2 (wd_ne c2 d0 (by simp))
    have h_10 : (wd_up σ y (.inr (4, [.int (nI n), .ref (am 1), .ref (am 2), .ref (am 3), .ref (am 4), .ref (am 5), .ref (am 6), .ref (am 7), .ref (am 8), .ref (am 9), .ref (am 10), .ref (am 11), .ref (am 12), .ref (am 13), .ref (am 14), .ref (am 15), .ref (am 16), .ref (am 17), .ref (am 18), .int (nI nc), .ref (am 20), .int 0, .ref (am 22)]))) (am 3) = some (.inl (T 0, 121, .inl (fm 3))) := wd_uk c3 (wd_ne c3 d0 (by simp))
    have h_11 : (wd_up σ y (.inr (4, [.int (nI n), .ref (am 1), .ref (am 2), .ref (am 3), .ref (am 4), .ref (am 5), .ref (am 6), .ref (am 7), .ref (am 8), .ref (am 9), .ref (am 10), .ref (am 11), .ref (am 12), .ref (am 13), .ref (am 14), .ref (am 15), .ref (am 16), .ref (am 17), .ref (am 18), .int (nI nc), .ref (am 20), .int 0, .ref (am 22)]))) (am 5) = some (.inl (T 0, 121, .inl (fm 5))) := wd_uk c5 (wd_ne c5 d0 (by simp))
    have h_12 : (wd_up σ y (.inr (4, [.int (nI n), .ref (am 1), .ref (am 2), .ref (am 3), .ref (am 4), .ref (am 5), .ref (am 6), .ref (am 7), .ref (am 8), .ref (am 9), .ref (am 10), .ref (am 11), .ref (am 12), .ref (am 13), .ref (am 14), .ref (am 15), .ref (am 16), .ref (am 17), .ref (am 18), .int (nI nc), .ref (am 20), .int 0, .ref (am 22)]))) (am 6) = some (.inl (T 0, 121, .inl (fm 6))) := wd_uk c6 (wd_ne c6 d0 (by simp))
    have h_13 : (wd_up σ y (.inr (4, [.int (nI n), .ref (am 1), .ref (am 2), .ref (am 3), .ref (am 4), .ref (am 5), .ref (am 6), .ref (am 7), .ref (am 8), .ref (am 9), .ref (am 10), .ref (am 11), .ref (am 12), .ref (am 13), .ref (am 14), .ref (am 15), .ref (am 16), .ref (am 17), .ref (am 18), .int (nI nc), .ref (am 20), .int 0, .ref (am 22)]))) (am 7) = some (.inl (T 1, 121, .inl (fm 7))) := wd_uk c7 (wd_ne c7 d0 (by simp))
    have h_14 : (wd_up σ y (.inr (4, [.int (nI n), .ref (am 1), .ref (am 2), .ref (am 3), .ref (am 4), .ref (am 5), .ref (am 6), .ref (am 7), .ref (am 8), .ref (am 9), .ref (am 10), .ref (am 11), .ref (am 12), .ref (am 13), .ref (am 14), .ref (am 15), .ref (am 16), .ref (am 17), .ref (am 18), .int (nI nc), .ref (am 20), .int 0, .ref (am 22)]))) (am 9) = some (.inl (T 0, 121, .inl (fm 9))) := wd_uk c9 (wd_ne c9 d0 (by simp))
    have h_15 : (wd_up σ y (.inr (4, [.int (nI n), .ref (am 1), .ref (am 2), .ref (am 3), .ref (am 4), .ref (am 5), .ref (am 6), .ref (am 7), .ref (am 8), .ref (am 9), .ref (am 10), .ref (am 11), .ref (am 12), .ref (am 13), .ref (am 14), .ref (am 15), .ref (am 16), .ref (am 17), .ref (am 18), .int (nI nc), .ref (am 20), .int 0, .ref (am 22)]))) (am 10) = some (.inl (T 0, 121, .inl (fm 10))) := wd_uk c10 (wd_ne c10 d0 (by simp))
    have h_16 : (wd_up σ y (.inr (4, [.int (nI n), .ref (am 1), .ref (am 2), .ref (am 3), .ref (am 4), .ref (am 5), .ref (am 6), .ref (am 7), .ref (am 8), .ref (am 9), .ref (am 10), .ref (am 11), .ref (am 12), .ref (am 13), .ref (am 14), .ref (am 15), .ref (am 16), .ref (am 17), .ref (am 18), .int (nI nc), .ref (am 20), .int 0, .ref (am 22)]))) (am 11) = some (.inl (T 0, 121, .inl (fm 11))) := wd_uk c11 (wd_ne c11 d0 (by simp))
    have h_17 : (wd_up σ y (.inr (4, [.int (nI n), .ref (am 1), .ref (am 2), .ref (am 3), .ref (am 4), .ref (am 5), .ref (am 6), .ref (am 7), .ref (am 8), .ref (am 9), .ref (am 10), .ref (am 11), .ref (am 12), .ref (am 13), .ref (am 14), .ref (am 15), .ref (am 16), .ref (am 17), .ref (am 18), .int (nI nc), .ref (am 20), .int 0, .ref (am 22)]))) (am 12) = some (.inl (T 0, 121, .inl (fm 12))) := wd_uk c12 (wd_ne c12 d0 (by simp))
    have h_18 : (wd_up σ y (.inr (4, [.int (nI n), .ref (am 1), .ref (am 2), .ref (am 3), .ref (am 4), .ref (am 5), .ref (am 6), .ref (am 7), .ref (am 8), .ref (am 9), .ref (am 10), .ref (am 11), .ref (am 12), .ref (am 13), .ref (am 14), .ref (am 15), .ref (am 16), .ref (am 17), .ref (am 18), .int (nI nc), .ref (am 20), .int 0, .ref (am 22)]))) (am 13) = some (.inl (T 0, 484, .inl (fm 13))) := wd_uk c13 (wd_ne c13 d0 (by simp))
    have h_19 : (wd_up σ y (.inr (4, [.int (nI n), .ref (am 1), .ref (am 2), .ref (am 3), .ref (am 4), .ref (am 5), .ref (am 6), .ref (am 7), .ref (am 8), .ref (am 9), .ref (am 10), .ref (am 11), .ref (am 12), .ref (am 13), .ref (am 14), .ref (am 15), .ref (am 16), .ref (am 17), .ref (am 18), .int (nI nc), .ref (am 20), .int 0, .ref (am 22)]))) (am 14) = some (.inl (T 0, 484, .inl (fm 14))) := wd_uk c14 (wd_ne c14 d0 (by simp))
    have h_20 : (wd_up σ y (.inr (4, [.int (nI n), .ref (am 1), .ref (am 2), .ref (am 3), .ref (am 4), .ref (am 5), .ref (am 6), .ref (am 7), .ref (am 8), .ref (am 9), .ref (am 10), .ref (am 11), .ref (am 12), .ref (am 13), .ref (am 14), .ref (am 15), .ref (am 16), .ref (am 17), .ref (am 18), .int (nI nc), .ref (am 20), .int 0, .ref (am 22)]))) (am 22) = some (.inl (T 0, 40, .inl (fm 22))) := wd_uk c22 (wd_ne c22 d0 (by simp))
    have hk0 : mz T σ (wd_up σ y (.inr (4, [.int (nI n), .ref (am 1), .ref (am 2), .ref (am 3), .ref (am 4), .ref (am 5), .ref (am 6), .ref (am 7), .ref (am 8), .ref (am 9), .ref (am 10), .ref (am 11), .ref (am 12), .ref (am 13), .ref (am 14), .ref (am 15), .ref (am 16), .ref (am 17), .ref (am 18), .int (nI nc), .ref (am 20), .int 0, .ref (am 22)]))) y am n nc (fm 22, 0) := ⟨wd_us _ _ _, wd_uk c22 (wd_ne c22 d0 (by simp)), fun b h1 h2 => wd_un _ _ h1⟩
    have hl0 : ((fm 22, 0) : pq).2 = 0 := rfl
    have h_21 : (wd_up σ y (.inr (4, [.int (nI n), .ref (am 1), .ref (am 2), .ref (am 3), .ref (am 4), .ref (am 5), .ref (am 6), .ref (am 7), .ref (am 8), .ref (am 9), .ref (am 10), .ref (am 11), .ref (am 12), .ref (am 13), .ref (am 14), .ref (am 15), .ref (am 16), .ref (am 17), .ref (am 18), .int (nI nc), .ref (am 20), .int 0, .ref (am 22)]))) (am 1) = some (.inl (T 0, 121, .inl (fm 1))) := (hk0.2.2 (am 1) (wd_ne c1 d0 (by simp)) (fun z => absurd (di 1 22 rfl rfl z) (by decide))).trans c1
    have h_22 : (wd_up σ y (.inr (4, [.int (nI n), .ref (am 1), .ref (am 2), .ref (am 3), .ref (am 4), .ref (am 5), .ref (am 6), .ref (am 7), .ref (am 8), .ref (am 9), .ref (am 10), .ref (am 11), .ref (am 12), .ref (am 13), .ref (am 14), .ref (am 15), .ref (am 16), .ref (am 17), .ref (am 18), .int (nI nc), .ref (am 20), .int 0, .ref (am 22)]))) (am 3) = some (.inl (T 0, 121, .inl (fm 3))) := (hk0.2.2 (am 3) (wd_ne c3 d0 (by simp)) (fun z => absurd (di 3 22 rfl rfl z) (by decide))).trans c3
    have h_23 : (wd_up σ y (.inr (4, [.int (nI n), .ref (am 1), .ref (am 2), .ref (am 3), .ref (am 4), .ref (am 5), .ref (am 6), .ref (am 7), .ref (am 8), .ref (am 9), .ref (am 10), .ref (am 11), .ref (am 12), .ref (am 13), .ref (am 14), .ref (am 15), .ref (am 16), .ref (am 17), .ref (am 18), .int (nI nc), .ref (am 20), .int 0, .ref (am 22)]))) (am 2) = some (.inl (T 0, 121, .inl (fm 2))) := (hk0.2.2 (am 2) (wd_ne c2 d0 (by simp)) (fun z => absurd (di 2 22 rfl rfl z) (by decide))).trans c2
    have h_24 : (wd_up σ y (.inr (4, [.int (nI n), .ref (am 1), .ref (am 2), .ref (am 3), .ref (am 4), .ref (am 5), .ref (am 6), .ref (am 7), .ref (am 8), .ref (am 9), .ref (am 10), .ref (am 11), .ref (am 12), .ref (am 13), .ref (am 14), .ref (am 15), .ref (am 16), .ref (am 17), .ref (am 18), .int (nI nc), .ref (am 20), .int 0, .ref (am 22)]))) (am 5) = some (.inl (T 0, 121, .inl (fm 5))) := (hk0.2.2 (am 5) (wd_ne c5 d0 (by simp)) (fun z => absurd (di 5 22 rfl rfl z) (by decide))).trans c5
    have h_25 : (wd_up σ y (.inr (4, [.int (nI n), .ref (am 1), .ref (am 2), .ref (am 3), .ref (am 4), .ref (am 5), .ref (am 6), .ref (am 7), .ref (am 8), .ref (am 9), .ref (am 10), .ref (am 11), .ref (am 12), .ref (am 13), .ref (am 14), .ref (am 15), .ref (am 16), .ref (am 17), .ref (am 18), .int (nI nc), .ref (am 20), .int 0, .ref (am 22)]))) (am 6) = some (.inl (T 0, 121, .inl (fm 6))) := (hk0.2.2 (am 6) (wd_ne c6 d0 (by simp)) (fun z => absurd (di 6 22 rfl rfl z) (by decide))).trans c6
    have h_26 : (wd_up σ y (.inr (4, [.int (nI n), .ref (am 1), .ref (am 2), .ref (am 3), .ref (am 4), .ref (am 5), .ref (am 6), .ref (am 7), .ref (am 8), .ref (am 9), .ref (am 10), .ref (am 11), .ref (am 12), .ref (am 13), .ref (am 14), .ref (am 15), .ref (am 16), .ref (am 17), .ref (am 18), .int (nI nc), .ref (am 20), .int 0, .ref (am 22)]))) (am 7) = some (.inl (T 1, 121, .inl (fm 7))) := (hk0.2.2 (am 7) (wd_ne c7 d0 (by simp)) (fun z => absurd (di 7 22 rfl rfl z) (by decide))).trans c7
    have h_27 : (wd_up σ y (.inr (4, [.int (nI n), .ref (am 1), .ref (am 2), .ref (am 3), .ref (am 4), .ref (am 5), .ref (am 6), .ref (am 7), .ref (am 8), .ref (am 9), .ref (am 10), .ref (am 11), .ref (am 12), .ref (am 13), .ref (am 14), .ref (am 15), .ref (am 16), .ref (am 17), .ref (am 18), .int (nI nc), .ref (am 20), .int 0, .ref (am 22)]))) (am 9) = some (.inl (T 0, 121, .inl (fm 9))) := (hk0.2.2 (am 9) (wd_ne c9 d0 (by simp)) (fun z => absurd (di 9 22 rfl rfl z) (by decide))).trans c9
    have h_28 : (wd_up σ y (.inr (4, [.int (nI n), .ref (am 1), .ref (am 2), .ref (am 3), .ref (am 4), .ref (am 5), .ref (am 6), .ref (am 7), .ref (am 8), .ref (am 9), .ref (am 10), .ref (am 11), .ref (am 12), .ref (am 13), .ref (am 14), .ref (am 15), .ref (am 16), .ref (am 17), .ref (am 18), .int (nI nc), .ref (am 20), .int 0, .ref (am 22)]))) (am 10) = some (.inl (T 0, 121, .inl (fm 10))) := (hk0.2.2 (am 10) (wd_ne c10 d0 (by simp)) (fun z => absurd (di 10 22 rfl rfl z) (by decide))).trans c10
    have h_29 : (wd_up σ y (.inr (4, [.int (nI n), .ref (am 1), .ref (am 2), .ref (am 3), .ref (am 4), .ref (am 5), .ref (am 6), .ref (am 7), .ref (am 8), .ref (am 9), .ref (am 10), .ref (am 11), .ref (am 12), .ref (am 13), .ref (am 14), .ref (am 15), .ref (am 16), .ref (am 17), .ref (am 18), .int (nI nc), .ref (am 20), .int 0, .ref (am 22)]))) (am 11) = some (.inl (T 0, 121, .inl (fm 11))) := (hk0.2.2 (am 11) (wd_ne c11 d0 (by simp)) (fun z => absurd (di 11 22 rfl rfl z) (by decide))).trans c11
    have h_30 : (wd_up σ y (.inr (4, [.int (nI n), .ref (am 1), .ref (am 2), .ref (am 3), .ref (am 4), .ref (am 5), .ref (am 6), .ref (am 7), .ref (am 8), .ref (am 9), .ref (am 10), .ref (am 11), .ref (am 12), .ref (am 13), .ref (am 14), .ref (am 15), .ref (am 16), .ref (am 17), .ref (am 18), .int (nI nc), .ref (am 20), .int 0, .ref (am 22)]))) (am 12) = some (.inl (T 0, 121, .inl (fm 12))) := (hk0.2.2 (am 12) (wd_ne c12 d0 (by simp)) (fun z => absurd (di 12 22 rfl rfl z) (by decide))).trans c12
    have h_31 : (wd_up σ y (.inr (4, [.int (nI n), .ref (am 1), .ref (am 2), .ref (am 3), .ref (am 4), .ref (am 5), .ref (am 6), .ref (am 7), .ref (am 8), .ref (am 9), .ref (am 10), .ref (am 11), .ref (am 12), .ref (am 13), .ref (am 14), .ref (am 15), .ref (am 16), .ref (am 17), .ref (am 18), .int (nI nc), .ref (am 20), .int 0, .ref (am 22)]))) (am 13) = some (.inl (T 0, 484, .inl (fm 13))) := (hk0.2.2 (am 13) (wd_ne c13 d0 (by simp)) (fun z => absurd (di 13 22 rfl rfl z) (by decide))).trans c13
    have h_32 : (wd_up σ y (.inr (4, [.int (nI n), .ref (am 1), .ref (am 2), .ref (am 3), .ref (am 4), .ref (am 5), .ref (am 6), .ref (am 7), .ref (am 8), .ref (am 9), .ref (am 10), .ref (am 11), .ref (am 12), .ref (am 13), .ref (am 14), .ref (am 15), .ref (am 16), .ref (am 17), .ref (am 18), .int (nI nc), .ref (am 20), .int 0, .ref (am 22)]))) (am 14) = some (.inl (T 0, 484, .inl (fm 14))) := (hk0.2.2 (am 14) (wd_ne c14 d0 (by simp)) (fun z => absurd (di 14 22 rfl rfl z) (by decide))).trans c14
    refine lv_aload_n hx hb d_M_pack_16 rfl (lv_at hl 0 rfl) ?_
    refine lv_iload_n hx hb d_M_pack_17 rfl (lv_at hl 1 rfl) ?_
    refine lv_iconst (v := 2) hx hb d_M_pack_18 (by decide) ?_
    refine wd_cv h (wd_rV (rest := []) (st0 := [.int 2, .int (nI (k + 1)), .ref y]) C h kc_M hk0.1 k_M_put wm_M_put wz_M_put lk_M_125 (c_M_put_2 l D T A (wd_up σ y (.inr (4, [.int (nI n), .ref (am 1), .ref (am 2), .ref (am 3), .ref (am 4), .ref (am 5), .ref (am 6), .ref (am 7), .ref (am 8), .ref (am 9), .ref (am 10), .ref (am 11), .ref (am 12), .ref (am 13), .ref (am 14), .ref (am 15), .ref (am 16), .ref (am 17), .ref (am 18), .int (nI nc), .ref (am 20), .int 0, .ref (am 22)]))) σ y am n nc (fm 22, 0) hk0 (by have := hl0; omega) (nI (k + 1))) rfl rfl ⟨Nat.le_of_ble_eq_true rfl, Nat.le_of_ble_eq_true rfl⟩ rfl hl.1 rfl (Nat.le_of_ble_eq_true rfl) d_M_pack_19 ⟨Nat.le_of_ble_eq_true rfl, Nat.le_of_ble_eq_true rfl⟩) (fun σ_34 H locs hp_35 h => ?_)
    rw [q_2 (by have := hl0; omega)] at hp_35
    have hl_37 : (p2 (fm 22, 0) (nI (k + 1))).2 = 2 := by rw [p2_len (by have := hl0; omega), hl0]
    generalize hq_q_36 : p2 (fm 22, 0) (nI (k + 1)) = q_36 at hp_35 hl_37
    have h_38 : σ_34 (am 1) = some (.inl (T 0, 121, .inl (fm 1))) := (hp_35.2.2 (am 1) (wd_ne c1 d0 (by simp)) (fun z => absurd (di 1 22 rfl rfl z) (by decide))).trans c1
    have h_39 : σ_34 (am 3) = some (.inl (T 0, 121, .inl (fm 3))) := (hp_35.2.2 (am 3) (wd_ne c3 d0 (by simp)) (fun z => absurd (di 3 22 rfl rfl z) (by decide))).trans c3
    have h_40 : σ_34 (am 2) = some (.inl (T 0, 121, .inl (fm 2))) := (hp_35.2.2 (am 2) (wd_ne c2 d0 (by simp)) (fun z => absurd (di 2 22 rfl rfl z) (by decide))).trans c2
    have h_41 : σ_34 (am 5) = some (.inl (T 0, 121, .inl (fm 5))) := (hp_35.2.2 (am 5) (wd_ne c5 d0 (by simp)) (fun z => absurd (di 5 22 rfl rfl z) (by decide))).trans c5
    have h_42 : σ_34 (am 6) = some (.inl (T 0, 121, .inl (fm 6))) := (hp_35.2.2 (am 6) (wd_ne c6 d0 (by simp)) (fun z => absurd (di 6 22 rfl rfl z) (by decide))).trans c6
    have h_43 : σ_34 (am 7) = some (.inl (T 1, 121, .inl (fm 7))) := (hp_35.2.2 (am 7) (wd_ne c7 d0 (by simp)) (fun z => absurd (di 7 22 rfl rfl z) (by decide))).trans c7
    have h_44 : σ_34 (am 9) = some (.inl (T 0, 121, .inl (fm 9))) := (hp_35.2.2 (am 9) (wd_ne c9 d0 (by simp)) (fun z => absurd (di 9 22 rfl rfl z) (by decide))).trans c9
    have h_45 : σ_34 (am 10) = some (.inl (T 0, 121, .inl (fm 10))) := (hp_35.2.2 (am 10) (wd_ne c10 d0 (by simp)) (fun z => absurd (di 10 22 rfl rfl z) (by decide))).trans c10
    have h_46 : σ_34 (am 11) = some (.inl (T 0, 121, .inl (fm 11))) := (hp_35.2.2 (am 11) (wd_ne c11 d0 (by simp)) (fun z => absurd (di 11 22 rfl rfl z) (by decide))).trans c11
    have h_47 : σ_34 (am 12) = some (.inl (T 0, 121, .inl (fm 12))) := (hp_35.2.2 (am 12) (wd_ne c12 d0 (by simp)) (fun z => absurd (di 12 22 rfl rfl z) (by decide))).trans c12
    have h_48 : σ_34 (am 13) = some (.inl (T 0, 484, .inl (fm 13))) := (hp_35.2.2 (am 13) (wd_ne c13 d0 (by simp)) (fun z => absurd (di 13 22 rfl rfl z) (by decide))).trans c13
    have h_49 : σ_34 (am 14) = some (.inl (T 0, 484, .inl (fm 14))) := (hp_35.2.2 (am 14) (wd_ne c14 d0 (by simp)) (fun z => absurd (di 14 22 rfl rfl z) (by decide))).trans c14
    refine lv_aload_n hx hb d_M_pack_22 rfl (lv_at hl 0 rfl) ?_
    refine lv_aload_n hx hb d_M_pack_23 rfl (lv_at hl 0 rfl) ?_
    refine wd_get C h kc_M hp_35.1 1 (by decide) lk_M_7 rfl d_M_pack_24 ?_
    refine lv_iload_n hx hb d_M_pack_27 rfl (lv_at hl 1 rfl) ?_
    refine wd_iald C h 0 rfl h_38 (vp_in_nI (show k + 1 < 121 by omega) (by decide)) d_M_pack_28 ?_
    rw [nI_clamp (show k + 1 < 2 ^ 31 by omega)]
    rw [show fm 1 (k + 1) = R k 0 from m1 k hk 0 (by decide)]
    refine lv_bipush (v := 16) hx hb d_M_pack_29 (by decide) ?_
    refine lv_aload_n hx hb d_M_pack_31 rfl (lv_at hl 0 rfl) ?_
    refine wd_get C h kc_M hp_35.1 3 (by decide) lk_M_16 rfl d_M_pack_32 ?_
    refine lv_iload_n hx hb d_M_pack_35 rfl (lv_at hl 1 rfl) ?_
    refine wd_iald C h 0 rfl h_39 (vp_in_nI (show k + 1 < 121 by omega) (by decide)) d_M_pack_36 ?_
    rw [nI_clamp (show k + 1 < 2 ^ 31 by omega)]
    rw [show fm 3 (k + 1) = R k 2 from m1 k hk 2 (by decide)]
    refine lv_imul hx hb d_M_pack_37 ?_
    refine lv_iadd hx hb d_M_pack_38 ?_
    refine lv_iconst (v := 1) hx hb d_M_pack_39 (by decide) ?_
    refine wd_cv h (wd_rV (rest := []) (st0 := [.int 1, .int ((R k 0) + (16 * (R k 2))), .ref y]) C h kc_M hp_35.1 k_M_put wm_M_put wz_M_put lk_M_125 (c_M_put_1 l D T A σ_34 σ y am n nc q_36 hp_35 (by have := hl_37; omega) ((R k 0) + (16 * (R k 2)))) rfl rfl ⟨Nat.le_of_ble_eq_true rfl, Nat.le_of_ble_eq_true rfl⟩ rfl hl.1 rfl (Nat.le_of_ble_eq_true rfl) d_M_pack_40 ⟨Nat.le_of_ble_eq_true rfl, Nat.le_of_ble_eq_true rfl⟩) (fun σ_51 H locs hp_52 h => ?_)
    rw [q_1 (by have := hl_37; omega)] at hp_52
    have hl_54 : (pa q_36 ((R k 0) + (16 * (R k 2)))).2 = 3 := by rw [pa_len (by have := hl_37; omega), hl_37]
    generalize hq_q_53 : pa q_36 ((R k 0) + (16 * (R k 2))) = q_53 at hp_52 hl_54
    have h_55 : σ_51 (am 1) = some (.inl (T 0, 121, .inl (fm 1))) := (hp_52.2.2 (am 1) (wd_ne c1 d0 (by simp)) (fun z => absurd (di 1 22 rfl rfl z) (by decide))).trans c1
    have h_56 : σ_51 (am 3) = some (.inl (T 0, 121, .inl (fm 3))) := (hp_52.2.2 (am 3) (wd_ne c3 d0 (by simp)) (fun z => absurd (di 3 22 rfl rfl z) (by decide))).trans c3
    have h_57 : σ_51 (am 2) = some (.inl (T 0, 121, .inl (fm 2))) := (hp_52.2.2 (am 2) (wd_ne c2 d0 (by simp)) (fun z => absurd (di 2 22 rfl rfl z) (by decide))).trans c2
    have h_58 : σ_51 (am 5) = some (.inl (T 0, 121, .inl (fm 5))) := (hp_52.2.2 (am 5) (wd_ne c5 d0 (by simp)) (fun z => absurd (di 5 22 rfl rfl z) (by decide))).trans c5
    have h_59 : σ_51 (am 6) = some (.inl (T 0, 121, .inl (fm 6))) := (hp_52.2.2 (am 6) (wd_ne c6 d0 (by simp)) (fun z => absurd (di 6 22 rfl rfl z) (by decide))).trans c6
    have h_60 : σ_51 (am 7) = some (.inl (T 1, 121, .inl (fm 7))) := (hp_52.2.2 (am 7) (wd_ne c7 d0 (by simp)) (fun z => absurd (di 7 22 rfl rfl z) (by decide))).trans c7
    have h_61 : σ_51 (am 9) = some (.inl (T 0, 121, .inl (fm 9))) := (hp_52.2.2 (am 9) (wd_ne c9 d0 (by simp)) (fun z => absurd (di 9 22 rfl rfl z) (by decide))).trans c9
    have h_62 : σ_51 (am 10) = some (.inl (T 0, 121, .inl (fm 10))) := (hp_52.2.2 (am 10) (wd_ne c10 d0 (by simp)) (fun z => absurd (di 10 22 rfl rfl z) (by decide))).trans c10
    have h_63 : σ_51 (am 11) = some (.inl (T 0, 121, .inl (fm 11))) := (hp_52.2.2 (am 11) (wd_ne c11 d0 (by simp)) (fun z => absurd (di 11 22 rfl rfl z) (by decide))).trans c11
    have h_64 : σ_51 (am 12) = some (.inl (T 0, 121, .inl (fm 12))) := (hp_52.2.2 (am 12) (wd_ne c12 d0 (by simp)) (fun z => absurd (di 12 22 rfl rfl z) (by decide))).trans c12
    have h_65 : σ_51 (am 13) = some (.inl (T 0, 484, .inl (fm 13))) := (hp_52.2.2 (am 13) (wd_ne c13 d0 (by simp)) (fun z => absurd (di 13 22 rfl rfl z) (by decide))).trans c13
    have h_66 : σ_51 (am 14) = some (.inl (T 0, 484, .inl (fm 14))) := (hp_52.2.2 (am 14) (wd_ne c14 d0 (by simp)) (fun z => absurd (di 14 22 rfl rfl z) (by decide))).trans c14
    refine lv_aload_n hx hb d_M_pack_43 rfl (lv_at hl 0 rfl) ?_
    refine lv_aload_n hx hb d_M_pack_44 rfl (lv_at hl 0 rfl) ?_
    refine wd_get C h kc_M hp_52.1 2 (by decide) lk_M_13 rfl d_M_pack_45 ?_
    refine lv_iload_n hx hb d_M_pack_48 rfl (lv_at hl 1 rfl) ?_
    refine wd_iald C h 0 rfl h_57 (vp_in_nI (show k + 1 < 121 by omega) (by decide)) d_M_pack_49 ?_
    rw [nI_clamp (show k + 1 < 2 ^ 31 by omega)]
    rw [show fm 2 (k + 1) = R k 1 from m1 k hk 1 (by decide)]
    refine lv_iconst (v := 2) hx hb d_M_pack_50 (by decide) ?_
    refine wd_cv h (wd_rV (rest := []) (st0 := [.int 2, .int (R k 1), .ref y]) C h kc_M hp_52.1 k_M_put wm_M_put wz_M_put lk_M_125 (c_M_put_2 l D T A σ_51 σ y am n nc q_53 hp_52 (by have := hl_54; omega) (R k 1)) rfl rfl ⟨Nat.le_of_ble_eq_true rfl, Nat.le_of_ble_eq_true rfl⟩ rfl hl.1 rfl (Nat.le_of_ble_eq_true rfl) d_M_pack_51 ⟨Nat.le_of_ble_eq_true rfl, Nat.le_of_ble_eq_true rfl⟩) (fun σ_68 H locs hp_69 h => ?_)
    rw [q_2 (by have := hl_54; omega)] at hp_69
    have hl_71 : (p2 q_53 (R k 1)).2 = 5 := by rw [p2_len (by have := hl_54; omega), hl_54]
    generalize hq_q_70 : p2 q_53 (R k 1) = q_70 at hp_69 hl_71
    have h_72 : σ_68 (am 1) = some (.inl (T 0, 121, .inl (fm 1))) := (hp_69.2.2 (am 1) (wd_ne c1 d0 (by simp)) (fun z => absurd (di 1 22 rfl rfl z) (by decide))).trans c1
    have h_73 : σ_68 (am 3) = some (.inl (T 0, 121, .inl (fm 3))) := (hp_69.2.2 (am 3) (wd_ne c3 d0 (by simp)) (fun z => absurd (di 3 22 rfl rfl z) (by decide))).trans c3
    have h_74 : σ_68 (am 2) = some (.inl (T 0, 121, .inl (fm 2))) := (hp_69.2.2 (am 2) (wd_ne c2 d0 (by simp)) (fun z => absurd (di 2 22 rfl rfl z) (by decide))).trans c2
    have h_75 : σ_68 (am 5) = some (.inl (T 0, 121, .inl (fm 5))) := (hp_69.2.2 (am 5) (wd_ne c5 d0 (by simp)) (fun z => absurd (di 5 22 rfl rfl z) (by decide))).trans c5
    have h_76 : σ_68 (am 6) = some (.inl (T 0, 121, .inl (fm 6))) := (hp_69.2.2 (am 6) (wd_ne c6 d0 (by simp)) (fun z => absurd (di 6 22 rfl rfl z) (by decide))).trans c6
    have h_77 : σ_68 (am 7) = some (.inl (T 1, 121, .inl (fm 7))) := (hp_69.2.2 (am 7) (wd_ne c7 d0 (by simp)) (fun z => absurd (di 7 22 rfl rfl z) (by decide))).trans c7
    have h_78 : σ_68 (am 9) = some (.inl (T 0, 121, .inl (fm 9))) := (hp_69.2.2 (am 9) (wd_ne c9 d0 (by simp)) (fun z => absurd (di 9 22 rfl rfl z) (by decide))).trans c9
    have h_79 : σ_68 (am 10) = some (.inl (T 0, 121, .inl (fm 10))) := (hp_69.2.2 (am 10) (wd_ne c10 d0 (by simp)) (fun z => absurd (di 10 22 rfl rfl z) (by decide))).trans c10
    have h_80 : σ_68 (am 11) = some (.inl (T 0, 121, .inl (fm 11))) := (hp_69.2.2 (am 11) (wd_ne c11 d0 (by simp)) (fun z => absurd (di 11 22 rfl rfl z) (by decide))).trans c11
    have h_81 : σ_68 (am 12) = some (.inl (T 0, 121, .inl (fm 12))) := (hp_69.2.2 (am 12) (wd_ne c12 d0 (by simp)) (fun z => absurd (di 12 22 rfl rfl z) (by decide))).trans c12
    have h_82 : σ_68 (am 13) = some (.inl (T 0, 484, .inl (fm 13))) := (hp_69.2.2 (am 13) (wd_ne c13 d0 (by simp)) (fun z => absurd (di 13 22 rfl rfl z) (by decide))).trans c13
    have h_83 : σ_68 (am 14) = some (.inl (T 0, 484, .inl (fm 14))) := (hp_69.2.2 (am 14) (wd_ne c14 d0 (by simp)) (fun z => absurd (di 14 22 rfl rfl z) (by decide))).trans c14
    refine lv_aload_n hx hb d_M_pack_54 rfl (lv_at hl 0 rfl) ?_
    refine lv_aload_n hx hb d_M_pack_55 rfl (lv_at hl 0 rfl) ?_
    refine wd_get C h kc_M hp_69.1 5 (by decide) lk_M_22 rfl d_M_pack_56 ?_
    refine lv_iload_n hx hb d_M_pack_59 rfl (lv_at hl 1 rfl) ?_
    refine wd_iald C h 0 rfl h_75 (vp_in_nI (show k + 1 < 121 by omega) (by decide)) d_M_pack_60 ?_
    rw [nI_clamp (show k + 1 < 2 ^ 31 by omega)]
    rw [show fm 5 (k + 1) = R k 4 from m1 k hk 4 (by decide)]
    refine lv_iconst (v := 1) hx hb d_M_pack_61 (by decide) ?_
    refine wd_cv h (wd_rV (rest := []) (st0 := [.int 1, .int (R k 4), .ref y]) C h kc_M hp_69.1 k_M_put wm_M_put wz_M_put lk_M_125 (c_M_put_1 l D T A σ_68 σ y am n nc q_70 hp_69 (by have := hl_71; omega) (R k 4)) rfl rfl ⟨Nat.le_of_ble_eq_true rfl, Nat.le_of_ble_eq_true rfl⟩ rfl hl.1 rfl (Nat.le_of_ble_eq_true rfl) d_M_pack_62 ⟨Nat.le_of_ble_eq_true rfl, Nat.le_of_ble_eq_true rfl⟩) (fun σ_85 H locs hp_86 h => ?_)
    rw [q_1 (by have := hl_71; omega)] at hp_86
    have hl_88 : (pa q_70 (R k 4)).2 = 6 := by rw [pa_len (by have := hl_71; omega), hl_71]
    generalize hq_q_87 : pa q_70 (R k 4) = q_87 at hp_86 hl_88
    have h_89 : σ_85 (am 1) = some (.inl (T 0, 121, .inl (fm 1))) := (hp_86.2.2 (am 1) (wd_ne c1 d0 (by simp)) (fun z => absurd (di 1 22 rfl rfl z) (by decide))).trans c1
    have h_90 : σ_85 (am 3) = some (.inl (T 0, 121, .inl (fm 3))) := (hp_86.2.2 (am 3) (wd_ne c3 d0 (by simp)) (fun z => absurd (di 3 22 rfl rfl z) (by decide))).trans c3
    have h_91 : σ_85 (am 2) = some (.inl (T 0, 121, .inl (fm 2))) := (hp_86.2.2 (am 2) (wd_ne c2 d0 (by simp)) (fun z => absurd (di 2 22 rfl rfl z) (by decide))).trans c2
    have h_92 : σ_85 (am 5) = some (.inl (T 0, 121, .inl (fm 5))) := (hp_86.2.2 (am 5) (wd_ne c5 d0 (by simp)) (fun z => absurd (di 5 22 rfl rfl z) (by decide))).trans c5
    have h_93 : σ_85 (am 6) = some (.inl (T 0, 121, .inl (fm 6))) := (hp_86.2.2 (am 6) (wd_ne c6 d0 (by simp)) (fun z => absurd (di 6 22 rfl rfl z) (by decide))).trans c6
    have h_94 : σ_85 (am 7) = some (.inl (T 1, 121, .inl (fm 7))) := (hp_86.2.2 (am 7) (wd_ne c7 d0 (by simp)) (fun z => absurd (di 7 22 rfl rfl z) (by decide))).trans c7
    have h_95 : σ_85 (am 9) = some (.inl (T 0, 121, .inl (fm 9))) := (hp_86.2.2 (am 9) (wd_ne c9 d0 (by simp)) (fun z => absurd (di 9 22 rfl rfl z) (by decide))).trans c9
    have h_96 : σ_85 (am 10) = some (.inl (T 0, 121, .inl (fm 10))) := (hp_86.2.2 (am 10) (wd_ne c10 d0 (by simp)) (fun z => absurd (di 10 22 rfl rfl z) (by decide))).trans c10
    have h_97 : σ_85 (am 11) = some (.inl (T 0, 121, .inl (fm 11))) := (hp_86.2.2 (am 11) (wd_ne c11 d0 (by simp)) (fun z => absurd (di 11 22 rfl rfl z) (by decide))).trans c11
    have h_98 : σ_85 (am 12) = some (.inl (T 0, 121, .inl (fm 12))) := (hp_86.2.2 (am 12) (wd_ne c12 d0 (by simp)) (fun z => absurd (di 12 22 rfl rfl z) (by decide))).trans c12
    have h_99 : σ_85 (am 13) = some (.inl (T 0, 484, .inl (fm 13))) := (hp_86.2.2 (am 13) (wd_ne c13 d0 (by simp)) (fun z => absurd (di 13 22 rfl rfl z) (by decide))).trans c13
    have h_100 : σ_85 (am 14) = some (.inl (T 0, 484, .inl (fm 14))) := (hp_86.2.2 (am 14) (wd_ne c14 d0 (by simp)) (fun z => absurd (di 14 22 rfl rfl z) (by decide))).trans c14
    refine lv_aload_n hx hb d_M_pack_65 rfl (lv_at hl 0 rfl) ?_
    refine lv_aload_n hx hb d_M_pack_66 rfl (lv_at hl 0 rfl) ?_
    refine wd_get C h kc_M hp_86.1 6 (by decide) lk_M_25 rfl d_M_pack_67 ?_
    refine lv_iload_n hx hb d_M_pack_70 rfl (lv_at hl 1 rfl) ?_
    refine wd_iald C h 0 rfl h_93 (vp_in_nI (show k + 1 < 121 by omega) (by decide)) d_M_pack_71 ?_
    rw [nI_clamp (show k + 1 < 2 ^ 31 by omega)]
    rw [show fm 6 (k + 1) = R k 5 from m1 k hk 5 (by decide)]
    refine lv_aload_n hx hb d_M_pack_72 rfl (lv_at hl 0 rfl) ?_
    refine wd_get C h kc_M hp_86.1 7 (by decide) lk_M_28 rfl d_M_pack_73 ?_
    refine lv_iload_n hx hb d_M_pack_76 rfl (lv_at hl 1 rfl) ?_
    refine wd_zald C h 1 rfl h_94 (vp_in_nI (show k + 1 < 121 by omega) (by decide)) d_M_pack_77 ?_
    rw [nI_clamp (show k + 1 < 2 ^ 31 by omega)]
    rw [show fm 7 (k + 1) = R k 6 from m1 k hk 6 (by decide)]
    refine dia (R k 6) (z1 := 0) (z2 := 128) (fun z => F0 m 88 ls [.int z, .int (R k 5), .ref y]) (fun hc kk => ?_) (fun hc kk => ?_) ?_
    · refine lv_if_eq (tgt := 87) hx hb d_M_pack_78 (by decide) (fun _ => ?_) (fun z => absurd hc z)
      refine lv_iconst (v := 0) hx hb d_M_pack_87 (by decide) ?_
      exact kk
    · refine lv_if_eq (tgt := 87) hx hb d_M_pack_78 (by decide) (fun z => absurd z hc) (fun _ => ?_)
      refine lv_sipush (v := 128) hx hb d_M_pack_81 (by decide) ?_
      refine lv_goto (tgt := 88) hx hb d_M_pack_84 (by decide) ?_
      exact kk
    refine lv_iadd hx hb d_M_pack_88 ?_
    rw [st_128]
    refine lv_iconst (v := 1) hx hb d_M_pack_89 (by decide) ?_
    refine wd_cv h (wd_rV (rest := []) (st0 := [.int 1, .int (if R k 6 = 0 then R k 5 else R k 5 + 128), .ref y]) C h kc_M hp_86.1 k_M_put wm_M_put wz_M_put lk_M_125 (c_M_put_1 l D T A σ_85 σ y am n nc q_87 hp_86 (by have := hl_88; omega) (if R k 6 = 0 then R k 5 else R k 5 + 128)) rfl rfl ⟨Nat.le_of_ble_eq_true rfl, Nat.le_of_ble_eq_true rfl⟩ rfl hl.1 rfl (Nat.le_of_ble_eq_true rfl) d_M_pack_90 ⟨Nat.le_of_ble_eq_true rfl, Nat.le_of_ble_eq_true rfl⟩) (fun σ_102 H locs hp_103 h => ?_)
    rw [q_1 (by have := hl_88; omega)] at hp_103
    have hl_105 : (pa q_87 (if R k 6 = 0 then R k 5 else R k 5 + 128)).2 = 7 := by rw [pa_len (by have := hl_88; omega), hl_88]
    generalize hq_q_104 : pa q_87 (if R k 6 = 0 then R k 5 else R k 5 + 128) = q_104 at hp_103 hl_105
    have h_106 : σ_102 (am 1) = some (.inl (T 0, 121, .inl (fm 1))) := (hp_103.2.2 (am 1) (wd_ne c1 d0 (by simp)) (fun z => absurd (di 1 22 rfl rfl z) (by decide))).trans c1
    have h_107 : σ_102 (am 3) = some (.inl (T 0, 121, .inl (fm 3))) := (hp_103.2.2 (am 3) (wd_ne c3 d0 (by simp)) (fun z => absurd (di 3 22 rfl rfl z) (by decide))).trans c3
    have h_108 : σ_102 (am 2) = some (.inl (T 0, 121, .inl (fm 2))) := (hp_103.2.2 (am 2) (wd_ne c2 d0 (by simp)) (fun z => absurd (di 2 22 rfl rfl z) (by decide))).trans c2
    have h_109 : σ_102 (am 5) = some (.inl (T 0, 121, .inl (fm 5))) := (hp_103.2.2 (am 5) (wd_ne c5 d0 (by simp)) (fun z => absurd (di 5 22 rfl rfl z) (by decide))).trans c5
    have h_110 : σ_102 (am 6) = some (.inl (T 0, 121, .inl (fm 6))) := (hp_103.2.2 (am 6) (wd_ne c6 d0 (by simp)) (fun z => absurd (di 6 22 rfl rfl z) (by decide))).trans c6
    have h_111 : σ_102 (am 7) = some (.inl (T 1, 121, .inl (fm 7))) := (hp_103.2.2 (am 7) (wd_ne c7 d0 (by simp)) (fun z => absurd (di 7 22 rfl rfl z) (by decide))).trans c7
    have h_112 : σ_102 (am 9) = some (.inl (T 0, 121, .inl (fm 9))) := (hp_103.2.2 (am 9) (wd_ne c9 d0 (by simp)) (fun z => absurd (di 9 22 rfl rfl z) (by decide))).trans c9
    have h_113 : σ_102 (am 10) = some (.inl (T 0, 121, .inl (fm 10))) := (hp_103.2.2 (am 10) (wd_ne c10 d0 (by simp)) (fun z => absurd (di 10 22 rfl rfl z) (by decide))).trans c10
    have h_114 : σ_102 (am 11) = some (.inl (T 0, 121, .inl (fm 11))) := (hp_103.2.2 (am 11) (wd_ne c11 d0 (by simp)) (fun z => absurd (di 11 22 rfl rfl z) (by decide))).trans c11
    have h_115 : σ_102 (am 12) = some (.inl (T 0, 121, .inl (fm 12))) := (hp_103.2.2 (am 12) (wd_ne c12 d0 (by simp)) (fun z => absurd (di 12 22 rfl rfl z) (by decide))).trans c12
    have h_116 : σ_102 (am 13) = some (.inl (T 0, 484, .inl (fm 13))) := (hp_103.2.2 (am 13) (wd_ne c13 d0 (by simp)) (fun z => absurd (di 13 22 rfl rfl z) (by decide))).trans c13
    have h_117 : σ_102 (am 14) = some (.inl (T 0, 484, .inl (fm 14))) := (hp_103.2.2 (am 14) (wd_ne c14 d0 (by simp)) (fun z => absurd (di 14 22 rfl rfl z) (by decide))).trans c14
    refine lv_aload_n hx hb d_M_pack_93 rfl (lv_at hl 0 rfl) ?_
    refine lv_aload_n hx hb d_M_pack_94 rfl (lv_at hl 0 rfl) ?_
    refine wd_get C h kc_M hp_103.1 9 (by decide) lk_M_35 rfl d_M_pack_95 ?_
    refine lv_iload_n hx hb d_M_pack_98 rfl (lv_at hl 1 rfl) ?_
    refine wd_iald C h 0 rfl h_112 (vp_in_nI (show k + 1 < 121 by omega) (by decide)) d_M_pack_99 ?_
    rw [nI_clamp (show k + 1 < 2 ^ 31 by omega)]
    rw [show fm 9 (k + 1) = R k 7 from m1 k hk 7 (by decide)]
    refine lv_iconst (v := 2) hx hb d_M_pack_100 (by decide) ?_
    refine wd_cv h (wd_rV (rest := []) (st0 := [.int 2, .int (R k 7), .ref y]) C h kc_M hp_103.1 k_M_put wm_M_put wz_M_put lk_M_125 (c_M_put_2 l D T A σ_102 σ y am n nc q_104 hp_103 (by have := hl_105; omega) (R k 7)) rfl rfl ⟨Nat.le_of_ble_eq_true rfl, Nat.le_of_ble_eq_true rfl⟩ rfl hl.1 rfl (Nat.le_of_ble_eq_true rfl) d_M_pack_101 ⟨Nat.le_of_ble_eq_true rfl, Nat.le_of_ble_eq_true rfl⟩) (fun σ_119 H locs hp_120 h => ?_)
    rw [q_e (by have := hl_105; omega)] at hp_120
    have hl_122 : (pe q_104 (R k 7)).2 = 9 := by rw [pe_len (by have := hl_105; omega), hl_105]
    generalize hq_q_121 : pe q_104 (R k 7) = q_121 at hp_120 hl_122
    have h_123 : σ_119 (am 1) = some (.inl (T 0, 121, .inl (fm 1))) := (hp_120.2.2 (am 1) (wd_ne c1 d0 (by simp)) (fun z => absurd (di 1 22 rfl rfl z) (by decide))).trans c1
    have h_124 : σ_119 (am 3) = some (.inl (T 0, 121, .inl (fm 3))) := (hp_120.2.2 (am 3) (wd_ne c3 d0 (by simp)) (fun z => absurd (di 3 22 rfl rfl z) (by decide))).trans c3
    have h_125 : σ_119 (am 2) = some (.inl (T 0, 121, .inl (fm 2))) := (hp_120.2.2 (am 2) (wd_ne c2 d0 (by simp)) (fun z => absurd (di 2 22 rfl rfl z) (by decide))).trans c2
    have h_126 : σ_119 (am 5) = some (.inl (T 0, 121, .inl (fm 5))) := (hp_120.2.2 (am 5) (wd_ne c5 d0 (by simp)) (fun z => absurd (di 5 22 rfl rfl z) (by decide))).trans c5
    have h_127 : σ_119 (am 6) = some (.inl (T 0, 121, .inl (fm 6))) := (hp_120.2.2 (am 6) (wd_ne c6 d0 (by simp)) (fun z => absurd (di 6 22 rfl rfl z) (by decide))).trans c6
    have h_128 : σ_119 (am 7) = some (.inl (T 1, 121, .inl (fm 7))) := (hp_120.2.2 (am 7) (wd_ne c7 d0 (by simp)) (fun z => absurd (di 7 22 rfl rfl z) (by decide))).trans c7
    have h_129 : σ_119 (am 9) = some (.inl (T 0, 121, .inl (fm 9))) := (hp_120.2.2 (am 9) (wd_ne c9 d0 (by simp)) (fun z => absurd (di 9 22 rfl rfl z) (by decide))).trans c9
    have h_130 : σ_119 (am 10) = some (.inl (T 0, 121, .inl (fm 10))) := (hp_120.2.2 (am 10) (wd_ne c10 d0 (by simp)) (fun z => absurd (di 10 22 rfl rfl z) (by decide))).trans c10
    have h_131 : σ_119 (am 11) = some (.inl (T 0, 121, .inl (fm 11))) := (hp_120.2.2 (am 11) (wd_ne c11 d0 (by simp)) (fun z => absurd (di 11 22 rfl rfl z) (by decide))).trans c11
    have h_132 : σ_119 (am 12) = some (.inl (T 0, 121, .inl (fm 12))) := (hp_120.2.2 (am 12) (wd_ne c12 d0 (by simp)) (fun z => absurd (di 12 22 rfl rfl z) (by decide))).trans c12
    have h_133 : σ_119 (am 13) = some (.inl (T 0, 484, .inl (fm 13))) := (hp_120.2.2 (am 13) (wd_ne c13 d0 (by simp)) (fun z => absurd (di 13 22 rfl rfl z) (by decide))).trans c13
    have h_134 : σ_119 (am 14) = some (.inl (T 0, 484, .inl (fm 14))) := (hp_120.2.2 (am 14) (wd_ne c14 d0 (by simp)) (fun z => absurd (di 14 22 rfl rfl z) (by decide))).trans c14
    refine lv_aload_n hx hb d_M_pack_104 rfl (lv_at hl 0 rfl) ?_
    refine lv_aload_n hx hb d_M_pack_105 rfl (lv_at hl 0 rfl) ?_
    refine wd_get C h kc_M hp_120.1 10 (by decide) lk_M_38 rfl d_M_pack_106 ?_
    refine lv_iload_n hx hb d_M_pack_109 rfl (lv_at hl 1 rfl) ?_
    refine wd_iald C h 0 rfl h_130 (vp_in_nI (show k + 1 < 121 by omega) (by decide)) d_M_pack_110 ?_
    rw [nI_clamp (show k + 1 < 2 ^ 31 by omega)]
    rw [show fm 10 (k + 1) = R k 8 from m1 k hk 8 (by decide)]
    refine lv_iconst (v := 2) hx hb d_M_pack_111 (by decide) ?_
    refine wd_cv h (wd_rV (rest := []) (st0 := [.int 2, .int (R k 8), .ref y]) C h kc_M hp_120.1 k_M_put wm_M_put wz_M_put lk_M_125 (c_M_put_2 l D T A σ_119 σ y am n nc q_121 hp_120 (by have := hl_122; omega) (R k 8)) rfl rfl ⟨Nat.le_of_ble_eq_true rfl, Nat.le_of_ble_eq_true rfl⟩ rfl hl.1 rfl (Nat.le_of_ble_eq_true rfl) d_M_pack_112 ⟨Nat.le_of_ble_eq_true rfl, Nat.le_of_ble_eq_true rfl⟩) (fun σ_136 H locs hp_137 h => ?_)
    rw [q_e (by have := hl_122; omega)] at hp_137
    have hl_139 : (pe q_121 (R k 8)).2 = 11 := by rw [pe_len (by have := hl_122; omega), hl_122]
    generalize hq_q_138 : pe q_121 (R k 8) = q_138 at hp_137 hl_139
    have h_140 : σ_136 (am 1) = some (.inl (T 0, 121, .inl (fm 1))) := (hp_137.2.2 (am 1) (wd_ne c1 d0 (by simp)) (fun z => absurd (di 1 22 rfl rfl z) (by decide))).trans c1
    have h_141 : σ_136 (am 3) = some (.inl (T 0, 121, .inl (fm 3))) := (hp_137.2.2 (am 3) (wd_ne c3 d0 (by simp)) (fun z => absurd (di 3 22 rfl rfl z) (by decide))).trans c3
    have h_142 : σ_136 (am 2) = some (.inl (T 0, 121, .inl (fm 2))) := (hp_137.2.2 (am 2) (wd_ne c2 d0 (by simp)) (fun z => absurd (di 2 22 rfl rfl z) (by decide))).trans c2
    have h_143 : σ_136 (am 5) = some (.inl (T 0, 121, .inl (fm 5))) := (hp_137.2.2 (am 5) (wd_ne c5 d0 (by simp)) (fun z => absurd (di 5 22 rfl rfl z) (by decide))).trans c5
    have h_144 : σ_136 (am 6) = some (.inl (T 0, 121, .inl (fm 6))) := (hp_137.2.2 (am 6) (wd_ne c6 d0 (by simp)) (fun z => absurd (di 6 22 rfl rfl z) (by decide))).trans c6
    have h_145 : σ_136 (am 7) = some (.inl (T 1, 121, .inl (fm 7))) := (hp_137.2.2 (am 7) (wd_ne c7 d0 (by simp)) (fun z => absurd (di 7 22 rfl rfl z) (by decide))).trans c7
    have h_146 : σ_136 (am 9) = some (.inl (T 0, 121, .inl (fm 9))) := (hp_137.2.2 (am 9) (wd_ne c9 d0 (by simp)) (fun z => absurd (di 9 22 rfl rfl z) (by decide))).trans c9
    have h_147 : σ_136 (am 10) = some (.inl (T 0, 121, .inl (fm 10))) := (hp_137.2.2 (am 10) (wd_ne c10 d0 (by simp)) (fun z => absurd (di 10 22 rfl rfl z) (by decide))).trans c10
    have h_148 : σ_136 (am 11) = some (.inl (T 0, 121, .inl (fm 11))) := (hp_137.2.2 (am 11) (wd_ne c11 d0 (by simp)) (fun z => absurd (di 11 22 rfl rfl z) (by decide))).trans c11
    have h_149 : σ_136 (am 12) = some (.inl (T 0, 121, .inl (fm 12))) := (hp_137.2.2 (am 12) (wd_ne c12 d0 (by simp)) (fun z => absurd (di 12 22 rfl rfl z) (by decide))).trans c12
    have h_150 : σ_136 (am 13) = some (.inl (T 0, 484, .inl (fm 13))) := (hp_137.2.2 (am 13) (wd_ne c13 d0 (by simp)) (fun z => absurd (di 13 22 rfl rfl z) (by decide))).trans c13
    have h_151 : σ_136 (am 14) = some (.inl (T 0, 484, .inl (fm 14))) := (hp_137.2.2 (am 14) (wd_ne c14 d0 (by simp)) (fun z => absurd (di 14 22 rfl rfl z) (by decide))).trans c14
    refine lv_aload_n hx hb d_M_pack_115 rfl (lv_at hl 0 rfl) ?_
    refine lv_aload_n hx hb d_M_pack_116 rfl (lv_at hl 0 rfl) ?_
    refine wd_get C h kc_M hp_137.1 11 (by decide) lk_M_41 rfl d_M_pack_117 ?_
    refine lv_iload_n hx hb d_M_pack_120 rfl (lv_at hl 1 rfl) ?_
    refine wd_iald C h 0 rfl h_148 (vp_in_nI (show k + 1 < 121 by omega) (by decide)) d_M_pack_121 ?_
    rw [nI_clamp (show k + 1 < 2 ^ 31 by omega)]
    rw [show fm 11 (k + 1) = R k 9 from m1 k hk 9 (by decide)]
    refine lv_iconst (v := 1) hx hb d_M_pack_122 (by decide) ?_
    refine wd_cv h (wd_rV (rest := []) (st0 := [.int 1, .int (R k 9), .ref y]) C h kc_M hp_137.1 k_M_put wm_M_put wz_M_put lk_M_125 (c_M_put_1 l D T A σ_136 σ y am n nc q_138 hp_137 (by have := hl_139; omega) (R k 9)) rfl rfl ⟨Nat.le_of_ble_eq_true rfl, Nat.le_of_ble_eq_true rfl⟩ rfl hl.1 rfl (Nat.le_of_ble_eq_true rfl) d_M_pack_123 ⟨Nat.le_of_ble_eq_true rfl, Nat.le_of_ble_eq_true rfl⟩) (fun σ_153 H locs hp_154 h => ?_)
    rw [q_1 (by have := hl_139; omega)] at hp_154
    have hl_156 : (pa q_138 (R k 9)).2 = 12 := by rw [pa_len (by have := hl_139; omega), hl_139]
    generalize hq_q_155 : pa q_138 (R k 9) = q_155 at hp_154 hl_156
    have h_157 : σ_153 (am 1) = some (.inl (T 0, 121, .inl (fm 1))) := (hp_154.2.2 (am 1) (wd_ne c1 d0 (by simp)) (fun z => absurd (di 1 22 rfl rfl z) (by decide))).trans c1
    have h_158 : σ_153 (am 3) = some (.inl (T 0, 121, .inl (fm 3))) := (hp_154.2.2 (am 3) (wd_ne c3 d0 (by simp)) (fun z => absurd (di 3 22 rfl rfl z) (by decide))).trans c3
    have h_159 : σ_153 (am 2) = some (.inl (T 0, 121, .inl (fm 2))) := (hp_154.2.2 (am 2) (wd_ne c2 d0 (by simp)) (fun z => absurd (di 2 22 rfl rfl z) (by decide))).trans c2
    have h_160 : σ_153 (am 5) = some (.inl (T 0, 121, .inl (fm 5))) := (hp_154.2.2 (am 5) (wd_ne c5 d0 (by simp)) (fun z => absurd (di 5 22 rfl rfl z) (by decide))).trans c5
    have h_161 : σ_153 (am 6) = some (.inl (T 0, 121, .inl (fm 6))) := (hp_154.2.2 (am 6) (wd_ne c6 d0 (by simp)) (fun z => absurd (di 6 22 rfl rfl z) (by decide))).trans c6
    have h_162 : σ_153 (am 7) = some (.inl (T 1, 121, .inl (fm 7))) := (hp_154.2.2 (am 7) (wd_ne c7 d0 (by simp)) (fun z => absurd (di 7 22 rfl rfl z) (by decide))).trans c7
    have h_163 : σ_153 (am 9) = some (.inl (T 0, 121, .inl (fm 9))) := (hp_154.2.2 (am 9) (wd_ne c9 d0 (by simp)) (fun z => absurd (di 9 22 rfl rfl z) (by decide))).trans c9
    have h_164 : σ_153 (am 10) = some (.inl (T 0, 121, .inl (fm 10))) := (hp_154.2.2 (am 10) (wd_ne c10 d0 (by simp)) (fun z => absurd (di 10 22 rfl rfl z) (by decide))).trans c10
    have h_165 : σ_153 (am 11) = some (.inl (T 0, 121, .inl (fm 11))) := (hp_154.2.2 (am 11) (wd_ne c11 d0 (by simp)) (fun z => absurd (di 11 22 rfl rfl z) (by decide))).trans c11
    have h_166 : σ_153 (am 12) = some (.inl (T 0, 121, .inl (fm 12))) := (hp_154.2.2 (am 12) (wd_ne c12 d0 (by simp)) (fun z => absurd (di 12 22 rfl rfl z) (by decide))).trans c12
    have h_167 : σ_153 (am 13) = some (.inl (T 0, 484, .inl (fm 13))) := (hp_154.2.2 (am 13) (wd_ne c13 d0 (by simp)) (fun z => absurd (di 13 22 rfl rfl z) (by decide))).trans c13
    have h_168 : σ_153 (am 14) = some (.inl (T 0, 484, .inl (fm 14))) := (hp_154.2.2 (am 14) (wd_ne c14 d0 (by simp)) (fun z => absurd (di 14 22 rfl rfl z) (by decide))).trans c14
    refine lv_aload_n hx hb d_M_pack_126 rfl (lv_at hl 0 rfl) ?_
    refine lv_aload_n hx hb d_M_pack_127 rfl (lv_at hl 0 rfl) ?_
    refine wd_get C h kc_M hp_154.1 12 (by decide) lk_M_44 rfl d_M_pack_128 ?_
    refine lv_iload_n hx hb d_M_pack_131 rfl (lv_at hl 1 rfl) ?_
    refine wd_iald C h 0 rfl h_166 (vp_in_nI (show k + 1 < 121 by omega) (by decide)) d_M_pack_132 ?_
    rw [nI_clamp (show k + 1 < 2 ^ 31 by omega)]
    rw [show fm 12 (k + 1) = R k 14 from m1 k hk 14 (by decide)]
    refine lv_iconst (v := 1) hx hb d_M_pack_133 (by decide) ?_
    refine wd_cv h (wd_rV (rest := []) (st0 := [.int 1, .int (R k 14), .ref y]) C h kc_M hp_154.1 k_M_put wm_M_put wz_M_put lk_M_125 (c_M_put_1 l D T A σ_153 σ y am n nc q_155 hp_154 (by have := hl_156; omega) (R k 14)) rfl rfl ⟨Nat.le_of_ble_eq_true rfl, Nat.le_of_ble_eq_true rfl⟩ rfl hl.1 rfl (Nat.le_of_ble_eq_true rfl) d_M_pack_134 ⟨Nat.le_of_ble_eq_true rfl, Nat.le_of_ble_eq_true rfl⟩) (fun σ_170 H locs hp_171 h => ?_)
    rw [q_1 (by have := hl_156; omega)] at hp_171
    have hl_173 : (pa q_155 (R k 14)).2 = 13 := by rw [pa_len (by have := hl_156; omega), hl_156]
    generalize hq_q_172 : pa q_155 (R k 14) = q_172 at hp_171 hl_173
    have h_174 : σ_170 (am 1) = some (.inl (T 0, 121, .inl (fm 1))) := (hp_171.2.2 (am 1) (wd_ne c1 d0 (by simp)) (fun z => absurd (di 1 22 rfl rfl z) (by decide))).trans c1
    have h_175 : σ_170 (am 3) = some (.inl (T 0, 121, .inl (fm 3))) := (hp_171.2.2 (am 3) (wd_ne c3 d0 (by simp)) (fun z => absurd (di 3 22 rfl rfl z) (by decide))).trans c3
    have h_176 : σ_170 (am 2) = some (.inl (T 0, 121, .inl (fm 2))) := (hp_171.2.2 (am 2) (wd_ne c2 d0 (by simp)) (fun z => absurd (di 2 22 rfl rfl z) (by decide))).trans c2
    have h_177 : σ_170 (am 5) = some (.inl (T 0, 121, .inl (fm 5))) := (hp_171.2.2 (am 5) (wd_ne c5 d0 (by simp)) (fun z => absurd (di 5 22 rfl rfl z) (by decide))).trans c5
    have h_178 : σ_170 (am 6) = some (.inl (T 0, 121, .inl (fm 6))) := (hp_171.2.2 (am 6) (wd_ne c6 d0 (by simp)) (fun z => absurd (di 6 22 rfl rfl z) (by decide))).trans c6
    have h_179 : σ_170 (am 7) = some (.inl (T 1, 121, .inl (fm 7))) := (hp_171.2.2 (am 7) (wd_ne c7 d0 (by simp)) (fun z => absurd (di 7 22 rfl rfl z) (by decide))).trans c7
    have h_180 : σ_170 (am 9) = some (.inl (T 0, 121, .inl (fm 9))) := (hp_171.2.2 (am 9) (wd_ne c9 d0 (by simp)) (fun z => absurd (di 9 22 rfl rfl z) (by decide))).trans c9
    have h_181 : σ_170 (am 10) = some (.inl (T 0, 121, .inl (fm 10))) := (hp_171.2.2 (am 10) (wd_ne c10 d0 (by simp)) (fun z => absurd (di 10 22 rfl rfl z) (by decide))).trans c10
    have h_182 : σ_170 (am 11) = some (.inl (T 0, 121, .inl (fm 11))) := (hp_171.2.2 (am 11) (wd_ne c11 d0 (by simp)) (fun z => absurd (di 11 22 rfl rfl z) (by decide))).trans c11
    have h_183 : σ_170 (am 12) = some (.inl (T 0, 121, .inl (fm 12))) := (hp_171.2.2 (am 12) (wd_ne c12 d0 (by simp)) (fun z => absurd (di 12 22 rfl rfl z) (by decide))).trans c12
    have h_184 : σ_170 (am 13) = some (.inl (T 0, 484, .inl (fm 13))) := (hp_171.2.2 (am 13) (wd_ne c13 d0 (by simp)) (fun z => absurd (di 13 22 rfl rfl z) (by decide))).trans c13
    have h_185 : σ_170 (am 14) = some (.inl (T 0, 484, .inl (fm 14))) := (hp_171.2.2 (am 14) (wd_ne c14 d0 (by simp)) (fun z => absurd (di 14 22 rfl rfl z) (by decide))).trans c14
    refine lv_iconst (v := 4) hx hb d_M_pack_137 (by decide) ?_
    refine lv_iload_n hx hb d_M_pack_138 rfl (lv_at hl 1 rfl) ?_
    refine lv_imul hx hb d_M_pack_139 ?_
    rw [mu40 (k + 1)]
    obtain ⟨mm, hmm, emm⟩ := mm_in (hok k hk).2.2.2.2.2.2.2.2.2
    refine lv_istore_n (lv' := [(2, .int (nI (4 * (k + 1) + 0))), (0, .ref y), (1, .int (nI (k + 1)))]) hx hb d_M_pack_140 rfl hl (by decide) rfl (fun ls hl => ?_)
    have hl2 : ∃ j : Nat, j ≤ mm ∧ mz T σ σ_170 y am n nc (msq (R k) q_172 j) ∧ lv_has ls 4 [(2, .int (nI (4 * (k + 1) + j))), (1, .int (nI (k + 1))), (0, .ref y)] := ⟨0, Nat.zero_le _, hp_171, lv_sub hl [0, 2, 1] rfl⟩
    clear hl
    obtain ⟨j, p0, hpj, hl⟩ := hl2
    obtain ⟨z, hz⟩ : ∃ z : Nat, mm < j + z := ⟨mm + 1, by omega⟩
    generalize hσ : σ_170 = σj at h hpj
    clear hσ
    induction z generalizing j ls H locs σj with
    | zero => omega
    | succ z ih =>
      have hlj := msq_len (r := R k) hl_173 j (by omega)
      have h_186 : σj (am 1) = some (.inl (T 0, 121, .inl (fm 1))) := (hpj.2.2 (am 1) (wd_ne c1 d0 (by simp)) (fun z => absurd (di 1 22 rfl rfl z) (by decide))).trans c1
      have h_187 : σj (am 3) = some (.inl (T 0, 121, .inl (fm 3))) := (hpj.2.2 (am 3) (wd_ne c3 d0 (by simp)) (fun z => absurd (di 3 22 rfl rfl z) (by decide))).trans c3
      have h_188 : σj (am 2) = some (.inl (T 0, 121, .inl (fm 2))) := (hpj.2.2 (am 2) (wd_ne c2 d0 (by simp)) (fun z => absurd (di 2 22 rfl rfl z) (by decide))).trans c2
      have h_189 : σj (am 5) = some (.inl (T 0, 121, .inl (fm 5))) := (hpj.2.2 (am 5) (wd_ne c5 d0 (by simp)) (fun z => absurd (di 5 22 rfl rfl z) (by decide))).trans c5
      have h_190 : σj (am 6) = some (.inl (T 0, 121, .inl (fm 6))) := (hpj.2.2 (am 6) (wd_ne c6 d0 (by simp)) (fun z => absurd (di 6 22 rfl rfl z) (by decide))).trans c6
      have h_191 : σj (am 7) = some (.inl (T 1, 121, .inl (fm 7))) := (hpj.2.2 (am 7) (wd_ne c7 d0 (by simp)) (fun z => absurd (di 7 22 rfl rfl z) (by decide))).trans c7
      have h_192 : σj (am 9) = some (.inl (T 0, 121, .inl (fm 9))) := (hpj.2.2 (am 9) (wd_ne c9 d0 (by simp)) (fun z => absurd (di 9 22 rfl rfl z) (by decide))).trans c9
      have h_193 : σj (am 10) = some (.inl (T 0, 121, .inl (fm 10))) := (hpj.2.2 (am 10) (wd_ne c10 d0 (by simp)) (fun z => absurd (di 10 22 rfl rfl z) (by decide))).trans c10
      have h_194 : σj (am 11) = some (.inl (T 0, 121, .inl (fm 11))) := (hpj.2.2 (am 11) (wd_ne c11 d0 (by simp)) (fun z => absurd (di 11 22 rfl rfl z) (by decide))).trans c11
      have h_195 : σj (am 12) = some (.inl (T 0, 121, .inl (fm 12))) := (hpj.2.2 (am 12) (wd_ne c12 d0 (by simp)) (fun z => absurd (di 12 22 rfl rfl z) (by decide))).trans c12
      have h_196 : σj (am 13) = some (.inl (T 0, 484, .inl (fm 13))) := (hpj.2.2 (am 13) (wd_ne c13 d0 (by simp)) (fun z => absurd (di 13 22 rfl rfl z) (by decide))).trans c13
      have h_197 : σj (am 14) = some (.inl (T 0, 484, .inl (fm 14))) := (hpj.2.2 (am 14) (wd_ne c14 d0 (by simp)) (fun z => absurd (di 14 22 rfl rfl z) (by decide))).trans c14
      refine lv_iload_n hx hb d_M_pack_141 rfl (lv_at hl 0 rfl) ?_
      refine lv_iconst (v := 4) hx hb d_M_pack_142 (by decide) ?_
      refine lv_iload_n hx hb d_M_pack_143 rfl (lv_at hl 1 rfl) ?_
      refine lv_imul hx hb d_M_pack_144 ?_
      refine lv_aload_n hx hb d_M_pack_145 rfl (lv_at hl 2 rfl) ?_
      refine wd_get C h kc_M hpj.1 12 (by decide) lk_M_44 rfl d_M_pack_146 ?_
      refine lv_iload_n hx hb d_M_pack_149 rfl (lv_at hl 1 rfl) ?_
      refine wd_iald C h 0 rfl h_195 (vp_in_nI (show k + 1 < 121 by omega) (by decide)) d_M_pack_150 ?_
      rw [nI_clamp (show k + 1 < 2 ^ 31 by omega)]
      rw [show fm 12 (k + 1) = R k 14 from m1 k hk 14 (by decide)]
      refine lv_iadd hx hb d_M_pack_151 ?_
      refine lv_icmp_ge (tgt := 183) hx hb d_M_pack_152 (by decide) (fun c_198 => ?_) (fun c_198 => ?_)
      · have hjm : j = mm := by
          rw [emm, mu4] at c_198
          have := ix_d (j := 4 * (k + 1) + j) (n := 4 * (k + 1) + mm) (by omega) (by omega) c_198
          omega
        subst hjm
        have hpc : pc (R k) q_172 = msq (R k) q_172 j := pc_msq hmm emm
        generalize hqm : (msq (R k) q_172 j) = qm at hpj hlj hpc
        have h_199 : σj (am 1) = some (.inl (T 0, 121, .inl (fm 1))) := (hpj.2.2 (am 1) (wd_ne c1 d0 (by simp)) (fun z => absurd (di 1 22 rfl rfl z) (by decide))).trans c1
        have h_200 : σj (am 3) = some (.inl (T 0, 121, .inl (fm 3))) := (hpj.2.2 (am 3) (wd_ne c3 d0 (by simp)) (fun z => absurd (di 3 22 rfl rfl z) (by decide))).trans c3
        have h_201 : σj (am 2) = some (.inl (T 0, 121, .inl (fm 2))) := (hpj.2.2 (am 2) (wd_ne c2 d0 (by simp)) (fun z => absurd (di 2 22 rfl rfl z) (by decide))).trans c2
        have h_202 : σj (am 5) = some (.inl (T 0, 121, .inl (fm 5))) := (hpj.2.2 (am 5) (wd_ne c5 d0 (by simp)) (fun z => absurd (di 5 22 rfl rfl z) (by decide))).trans c5
        have h_203 : σj (am 6) = some (.inl (T 0, 121, .inl (fm 6))) := (hpj.2.2 (am 6) (wd_ne c6 d0 (by simp)) (fun z => absurd (di 6 22 rfl rfl z) (by decide))).trans c6
        have h_204 : σj (am 7) = some (.inl (T 1, 121, .inl (fm 7))) := (hpj.2.2 (am 7) (wd_ne c7 d0 (by simp)) (fun z => absurd (di 7 22 rfl rfl z) (by decide))).trans c7
        have h_205 : σj (am 9) = some (.inl (T 0, 121, .inl (fm 9))) := (hpj.2.2 (am 9) (wd_ne c9 d0 (by simp)) (fun z => absurd (di 9 22 rfl rfl z) (by decide))).trans c9
        have h_206 : σj (am 10) = some (.inl (T 0, 121, .inl (fm 10))) := (hpj.2.2 (am 10) (wd_ne c10 d0 (by simp)) (fun z => absurd (di 10 22 rfl rfl z) (by decide))).trans c10
        have h_207 : σj (am 11) = some (.inl (T 0, 121, .inl (fm 11))) := (hpj.2.2 (am 11) (wd_ne c11 d0 (by simp)) (fun z => absurd (di 11 22 rfl rfl z) (by decide))).trans c11
        have h_208 : σj (am 12) = some (.inl (T 0, 121, .inl (fm 12))) := (hpj.2.2 (am 12) (wd_ne c12 d0 (by simp)) (fun z => absurd (di 12 22 rfl rfl z) (by decide))).trans c12
        have h_209 : σj (am 13) = some (.inl (T 0, 484, .inl (fm 13))) := (hpj.2.2 (am 13) (wd_ne c13 d0 (by simp)) (fun z => absurd (di 13 22 rfl rfl z) (by decide))).trans c13
        have h_210 : σj (am 14) = some (.inl (T 0, 484, .inl (fm 14))) := (hpj.2.2 (am 14) (wd_ne c14 d0 (by simp)) (fun z => absurd (di 14 22 rfl rfl z) (by decide))).trans c14
        refine lv_iconst (v := 0) hx hb d_M_pack_183 (by decide) ?_
        refine lv_istore_n (lv' := [(2, .int 0), (1, .int (nI (k + 1))), (0, .ref y)]) hx hb d_M_pack_184 rfl hl (by decide) rfl (fun ls hl => ?_)
        refine lv_iconst (v := 0) hx hb d_M_pack_185 (by decide) ?_
        refine lv_istore_n (lv' := [(3, .int 0), (2, .int 0), (1, .int (nI (k + 1))), (0, .ref y)]) hx hb d_M_pack_186 rfl hl (by decide) rfl (fun ls hl => ?_)
        have hl2 : ∃ j2 : Nat, j2 ≤ qm.2 ∧ lv_has ls 4 [(3, .int (nI j2)), (2, .int (px qm.1 j2)), (1, .int (nI (k + 1))), (0, .ref y)] := ⟨0, Nat.zero_le _, lv_sub hl [0, 1, 2, 3] rfl⟩
        clear hl
        obtain ⟨j2, p2, hl⟩ := hl2
        obtain ⟨z2, hz2⟩ : ∃ z2 : Nat, qm.2 < j2 + z2 := ⟨qm.2 + 1, by omega⟩
        induction z2 generalizing j2 ls with
        | zero => omega
        | succ z2 ih2 =>
          refine lv_iload_n hx hb d_M_pack_187 rfl (lv_at hl 0 rfl) ?_
          refine lv_aload_n hx hb d_M_pack_188 rfl (lv_at hl 3 rfl) ?_
          refine wd_get C h kc_M hpj.1 21 (by decide) lk_M_122 rfl d_M_pack_189 ?_
          refine lv_icmp_ge (tgt := 210) hx hb d_M_pack_192 (by decide) (fun c_211 => ?_) (fun c_211 => ?_)
          · have hj2 : j2 = qm.2 := ix_d (by omega) p2 c_211
            rw [hj2] at hl
            refine lv_aload_n hx hb d_M_pack_210 rfl (lv_at hl 3 rfl) ?_
            refine lv_iload_n hx hb d_M_pack_211 rfl (lv_at hl 1 rfl) ?_
            refine lv_iconst (v := 1) hx hb d_M_pack_212 (by decide) ?_
            refine wd_cv h (wd_rV (rest := []) (st0 := [.int 1, .int (px qm.1 qm.2), .ref y]) C h kc_M hpj.1 k_M_put wm_M_put wz_M_put lk_M_125 (c_M_put_1 l D T A σj σ y am n nc qm hpj (by have := hlj; omega) (px qm.1 qm.2)) rfl rfl ⟨Nat.le_of_ble_eq_true rfl, Nat.le_of_ble_eq_true rfl⟩ rfl hl.1 rfl (Nat.le_of_ble_eq_true rfl) d_M_pack_213 ⟨Nat.le_of_ble_eq_true rfl, Nat.le_of_ble_eq_true rfl⟩) (fun σ_213 H locs hp_214 h => ?_)
            rw [q_1 (by have := hlj; omega)] at hp_214
            have hl_216 : (pa qm (px qm.1 qm.2)).2 = 13 + 4 * j + 1 := by rw [pa_len (by have := hlj; omega), hlj]
            generalize hq_q_215 : pa qm (px qm.1 qm.2) = q_215 at hp_214 hl_216
            have h_217 : σ_213 (am 1) = some (.inl (T 0, 121, .inl (fm 1))) := (hp_214.2.2 (am 1) (wd_ne c1 d0 (by simp)) (fun z => absurd (di 1 22 rfl rfl z) (by decide))).trans c1
            have h_218 : σ_213 (am 3) = some (.inl (T 0, 121, .inl (fm 3))) := (hp_214.2.2 (am 3) (wd_ne c3 d0 (by simp)) (fun z => absurd (di 3 22 rfl rfl z) (by decide))).trans c3
            have h_219 : σ_213 (am 2) = some (.inl (T 0, 121, .inl (fm 2))) := (hp_214.2.2 (am 2) (wd_ne c2 d0 (by simp)) (fun z => absurd (di 2 22 rfl rfl z) (by decide))).trans c2
            have h_220 : σ_213 (am 5) = some (.inl (T 0, 121, .inl (fm 5))) := (hp_214.2.2 (am 5) (wd_ne c5 d0 (by simp)) (fun z => absurd (di 5 22 rfl rfl z) (by decide))).trans c5
            have h_221 : σ_213 (am 6) = some (.inl (T 0, 121, .inl (fm 6))) := (hp_214.2.2 (am 6) (wd_ne c6 d0 (by simp)) (fun z => absurd (di 6 22 rfl rfl z) (by decide))).trans c6
            have h_222 : σ_213 (am 7) = some (.inl (T 1, 121, .inl (fm 7))) := (hp_214.2.2 (am 7) (wd_ne c7 d0 (by simp)) (fun z => absurd (di 7 22 rfl rfl z) (by decide))).trans c7
            have h_223 : σ_213 (am 9) = some (.inl (T 0, 121, .inl (fm 9))) := (hp_214.2.2 (am 9) (wd_ne c9 d0 (by simp)) (fun z => absurd (di 9 22 rfl rfl z) (by decide))).trans c9
            have h_224 : σ_213 (am 10) = some (.inl (T 0, 121, .inl (fm 10))) := (hp_214.2.2 (am 10) (wd_ne c10 d0 (by simp)) (fun z => absurd (di 10 22 rfl rfl z) (by decide))).trans c10
            have h_225 : σ_213 (am 11) = some (.inl (T 0, 121, .inl (fm 11))) := (hp_214.2.2 (am 11) (wd_ne c11 d0 (by simp)) (fun z => absurd (di 11 22 rfl rfl z) (by decide))).trans c11
            have h_226 : σ_213 (am 12) = some (.inl (T 0, 121, .inl (fm 12))) := (hp_214.2.2 (am 12) (wd_ne c12 d0 (by simp)) (fun z => absurd (di 12 22 rfl rfl z) (by decide))).trans c12
            have h_227 : σ_213 (am 13) = some (.inl (T 0, 484, .inl (fm 13))) := (hp_214.2.2 (am 13) (wd_ne c13 d0 (by simp)) (fun z => absurd (di 13 22 rfl rfl z) (by decide))).trans c13
            have h_228 : σ_213 (am 14) = some (.inl (T 0, 484, .inl (fm 14))) := (hp_214.2.2 (am 14) (wd_ne c14 d0 (by simp)) (fun z => absurd (di 14 22 rfl rfl z) (by decide))).trans c14
            refine lv_aload_n hx hb d_M_pack_216 rfl (lv_at hl 3 rfl) ?_
            refine wd_get C h kc_M hp_214.1 21 (by decide) lk_M_122 rfl d_M_pack_217 ?_
            exact wd_iret C hr hlocks h (by have hfin : pf (fm 22) (nI (k + 1)) (R k) = q_215 := by { unfold pf; rw [show ph (fm 22) (nI (k + 1)) (R k) = q_172 from by { unfold ph; rw [hq_q_36, hq_q_53, hq_q_70, hq_q_87, hq_q_104, hq_q_121, hq_q_138, hq_q_155, hq_q_172] }, hpc, hq_q_215] }; have hag := agr_pf (fm 22) Q.1 (nI (k + 1)) (R k); rw [hfin] at hag; rw [o_pack_some (S := (n, R, nc, CR, wg, Q)) (o_find_ok m8 hk)]; exact ⟨congrArg nI hag.1, (hM.pack hp_214 hag pf_30).rm⟩) (Nat.le_of_ble_eq_true rfl) (Nat.le_of_ble_eq_true rfl) d_M_pack_220
          · have hlt2 : j2 < qm.2 := ix_c (by omega) p2 c_211
            refine lv_iload_n hx hb d_M_pack_195 rfl (lv_at hl 1 rfl) ?_
            refine lv_aload_n hx hb d_M_pack_196 rfl (lv_at hl 3 rfl) ?_
            refine wd_get C h kc_M hpj.1 22 (by decide) lk_M_68 rfl d_M_pack_197 ?_
            refine lv_iload_n hx hb d_M_pack_200 rfl (lv_at hl 0 rfl) ?_
            refine wd_iald C h 0 rfl hpj.2.1 (vp_in_nI (show j2 < 40 by omega) (by decide)) d_M_pack_201 ?_
            rw [nI_clamp (show j2 < 2 ^ 31 by omega)]
            refine lv_ixor hx hb d_M_pack_202 ?_
            refine lv_istore_n (lv' := [(2, .int ((px qm.1 j2) ^^^ (qm.1 j2))), (3, .int (nI j2)), (1, .int (nI (k + 1))), (0, .ref y)]) hx hb d_M_pack_203 rfl hl (by decide) rfl (fun ls hl => ?_)
            refine lv_iinc (v := ((nI j2) + 1)) (lv' := [(3, .int ((nI j2) + 1)), (2, .int ((px qm.1 j2) ^^^ (qm.1 j2))), (1, .int (nI (k + 1))), (0, .ref y)]) hx hb d_M_pack_204 hl (k := 1) rfl (by first | rfl | decide) (by decide) rfl (fun ls hl => ?_)
            refine lv_goto (tgt := 187) hx hb d_M_pack_207 (by decide) ?_
            have hl3 : lv_has ls 4 [(3, .int (nI (j2 + 1))), (2, .int (px qm.1 (j2 + 1))), (1, .int (nI (k + 1))), (0, .ref y)] := by
              rw [← nI_1]
              exact lv_sub hl [0, 1, 2, 3] rfl
            exact ih2 (ls := ls) (j2 := j2 + 1) hlt2 hl3 (by omega)
      · have hjm : j < mm := by
          rw [emm, mu4] at c_198
          have := ix_c (j := 4 * (k + 1) + j) (n := 4 * (k + 1) + mm) (by omega) (by omega) c_198
          omega
        refine lv_aload_n hx hb d_M_pack_155 rfl (lv_at hl 2 rfl) ?_
        refine lv_aload_n hx hb d_M_pack_156 rfl (lv_at hl 2 rfl) ?_
        refine wd_get C h kc_M hpj.1 13 (by decide) lk_M_47 rfl d_M_pack_157 ?_
        refine lv_iload_n hx hb d_M_pack_160 rfl (lv_at hl 0 rfl) ?_
        refine wd_iald C h 0 rfl h_196 (vp_in_nI (show 4 * (k + 1) + j < 484 by omega) (by decide)) d_M_pack_161 ?_
        rw [nI_clamp (show 4 * (k + 1) + j < 2 ^ 31 by omega)]
        rw [(m3 k hk j (by omega)).1]
        refine lv_iconst (v := 1) hx hb d_M_pack_162 (by decide) ?_
        refine wd_cv h (wd_rV (rest := []) (st0 := [.int 1, .int (R k (15 + 2 * j)), .ref y]) C h kc_M hpj.1 k_M_put wm_M_put wz_M_put lk_M_125 (c_M_put_1 l D T A σj σ y am n nc (msq (R k) q_172 j) hpj (by have := hlj; omega) (R k (15 + 2 * j))) rfl rfl ⟨Nat.le_of_ble_eq_true rfl, Nat.le_of_ble_eq_true rfl⟩ rfl hl.1 rfl (Nat.le_of_ble_eq_true rfl) d_M_pack_163 ⟨Nat.le_of_ble_eq_true rfl, Nat.le_of_ble_eq_true rfl⟩) (fun σ_230 H locs hp_231 h => ?_)
        rw [q_1 (by have := hlj; omega)] at hp_231
        have hl_233 : (pa (msq (R k) q_172 j) (R k (15 + 2 * j))).2 = 13 + 4 * j + 1 := by rw [pa_len (by have := hlj; omega), hlj]
        have h_234 : σ_230 (am 1) = some (.inl (T 0, 121, .inl (fm 1))) := (hp_231.2.2 (am 1) (wd_ne c1 d0 (by simp)) (fun z => absurd (di 1 22 rfl rfl z) (by decide))).trans c1
        have h_235 : σ_230 (am 3) = some (.inl (T 0, 121, .inl (fm 3))) := (hp_231.2.2 (am 3) (wd_ne c3 d0 (by simp)) (fun z => absurd (di 3 22 rfl rfl z) (by decide))).trans c3
        have h_236 : σ_230 (am 2) = some (.inl (T 0, 121, .inl (fm 2))) := (hp_231.2.2 (am 2) (wd_ne c2 d0 (by simp)) (fun z => absurd (di 2 22 rfl rfl z) (by decide))).trans c2
        have h_237 : σ_230 (am 5) = some (.inl (T 0, 121, .inl (fm 5))) := (hp_231.2.2 (am 5) (wd_ne c5 d0 (by simp)) (fun z => absurd (di 5 22 rfl rfl z) (by decide))).trans c5
        have h_238 : σ_230 (am 6) = some (.inl (T 0, 121, .inl (fm 6))) := (hp_231.2.2 (am 6) (wd_ne c6 d0 (by simp)) (fun z => absurd (di 6 22 rfl rfl z) (by decide))).trans c6
        have h_239 : σ_230 (am 7) = some (.inl (T 1, 121, .inl (fm 7))) := (hp_231.2.2 (am 7) (wd_ne c7 d0 (by simp)) (fun z => absurd (di 7 22 rfl rfl z) (by decide))).trans c7
        have h_240 : σ_230 (am 9) = some (.inl (T 0, 121, .inl (fm 9))) := (hp_231.2.2 (am 9) (wd_ne c9 d0 (by simp)) (fun z => absurd (di 9 22 rfl rfl z) (by decide))).trans c9
        have h_241 : σ_230 (am 10) = some (.inl (T 0, 121, .inl (fm 10))) := (hp_231.2.2 (am 10) (wd_ne c10 d0 (by simp)) (fun z => absurd (di 10 22 rfl rfl z) (by decide))).trans c10
        have h_242 : σ_230 (am 11) = some (.inl (T 0, 121, .inl (fm 11))) := (hp_231.2.2 (am 11) (wd_ne c11 d0 (by simp)) (fun z => absurd (di 11 22 rfl rfl z) (by decide))).trans c11
        have h_243 : σ_230 (am 12) = some (.inl (T 0, 121, .inl (fm 12))) := (hp_231.2.2 (am 12) (wd_ne c12 d0 (by simp)) (fun z => absurd (di 12 22 rfl rfl z) (by decide))).trans c12
        have h_244 : σ_230 (am 13) = some (.inl (T 0, 484, .inl (fm 13))) := (hp_231.2.2 (am 13) (wd_ne c13 d0 (by simp)) (fun z => absurd (di 13 22 rfl rfl z) (by decide))).trans c13
        have h_245 : σ_230 (am 14) = some (.inl (T 0, 484, .inl (fm 14))) := (hp_231.2.2 (am 14) (wd_ne c14 d0 (by simp)) (fun z => absurd (di 14 22 rfl rfl z) (by decide))).trans c14
        refine lv_aload_n hx hb d_M_pack_166 rfl (lv_at hl 2 rfl) ?_
        refine lv_aload_n hx hb d_M_pack_167 rfl (lv_at hl 2 rfl) ?_
        refine wd_get C h kc_M hp_231.1 14 (by decide) lk_M_50 rfl d_M_pack_168 ?_
        refine lv_iload_n hx hb d_M_pack_171 rfl (lv_at hl 0 rfl) ?_
        refine wd_iald C h 0 rfl h_245 (vp_in_nI (show 4 * (k + 1) + j < 484 by omega) (by decide)) d_M_pack_172 ?_
        rw [nI_clamp (show 4 * (k + 1) + j < 2 ^ 31 by omega)]
        rw [(m3 k hk j (by omega)).2]
        refine lv_iconst (v := 3) hx hb d_M_pack_173 (by decide) ?_
        refine wd_cv h (wd_rV (rest := []) (st0 := [.int 3, .int (R k (16 + 2 * j)), .ref y]) C h kc_M hp_231.1 k_M_put wm_M_put wz_M_put lk_M_125 (c_M_put_3 l D T A σ_230 σ y am n nc (pa (msq (R k) q_172 j) (R k (15 + 2 * j))) hp_231 (by have := hl_233; omega) (R k (16 + 2 * j))) rfl rfl ⟨Nat.le_of_ble_eq_true rfl, Nat.le_of_ble_eq_true rfl⟩ rfl hl.1 rfl (Nat.le_of_ble_eq_true rfl) d_M_pack_174 ⟨Nat.le_of_ble_eq_true rfl, Nat.le_of_ble_eq_true rfl⟩) (fun σ_247 H locs hp_248 h => ?_)
        rw [q_3 (r := R k) (j := j) (by have := hlj; omega)] at hp_248
        refine lv_iinc (v := ((nI (4 * (k + 1) + j)) + 1)) (lv' := [(2, .int ((nI (4 * (k + 1) + j)) + 1)), (1, .int (nI (k + 1))), (0, .ref y)]) hx hb d_M_pack_177 hl (k := 0) rfl (by first | rfl | decide) (by decide) rfl (fun ls hl => ?_)
        refine lv_goto (tgt := 141) hx hb d_M_pack_180 (by decide) ?_
        have hl3 : lv_has ls 4 [(2, .int (nI (4 * (k + 1) + (j + 1)))), (1, .int (nI (k + 1))), (0, .ref y)] := by
          rw [show 4 * (k + 1) + (j + 1) = 4 * (k + 1) + j + 1 from rfl, ← nI_1 (4 * (k + 1) + j)]
          exact lv_sub hl [0, 1, 2] rfl
        exact ih (H := _) (locs := _) (σj := _) (ls := ls) (j := j + 1) (h := h) (p0 := by omega) (hpj := hp_248) (hl := hl3) (hz := by omega)
  · refine lv_bipush (v := (-101)) hx hb d_M_pack_8 (by decide) ?_
    exact wd_iret C hr hlocks h (by rw [o_pack_none (S := (n, R, nc, CR, wg, Q)) (o_find_no c_6)]; exact ⟨rfl, hM.rm⟩) (Nat.le_of_ble_eq_true rfl) (Nat.le_of_ble_eq_true rfl) d_M_pack_10
