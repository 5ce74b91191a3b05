theorem wd_none {σ : wd_S} {a b : Nat} {e : va_E} (h : wd_up σ a e b = none) : b ≠ a ∧ σ b = none := by
  by_cases z : b = a
  · subst z; rw [wd_us] at h; cases h
  · rw [wd_un _ _ z] at h; exact ⟨z, h⟩
theorem newr_hi {kd w z sd : Int32} {j : Nat} (h : 15 ≤ j) : newr kd w z sd j = 0 := by
  unfold newr
  rw [if_neg (by omega), if_neg (by omega), if_neg (by omega), if_neg (by omega), if_neg (by omega), if_neg (by omega), if_neg (by omega)]
theorem newr_w (T : Nat → ClassId) (kd w z sd : Int32) : aN T 4 (fun _ => 0) = aN T 4 (fun j => newr kd w z sd (15 + 2 * j)) := by
  rw [show (fun j => newr kd w z sd (15 + 2 * j)) = fun _ => 0 from funext fun j => newr_hi (by omega)]
theorem newr_c (T : Nat → ClassId) (kd w z sd : Int32) : aN T 4 (fun _ => 0) = aN T 4 (fun j => newr kd w z sd (16 + 2 * j)) := by
  rw [show (fun j => newr kd w z sd (16 + 2 * j)) = fun _ => 0 from funext fun j => newr_hi (by omega)]

set_option maxHeartbeats 4000000 in
set_option maxRecDepth 20000 in
theorem c_C_init (l : Launch) (D : va_G) (T : Nat → ClassId) (A : Nat → Prop) (σ : wd_S) (a : Nat) (ha : σ a = some (.inr (2, [.int 0, .int 0, .int 0, .int 0, .int 0]))) (i wh was v re : Int32) : Met l y_C_init (Cond.code y_C_init b_C_init 6 none :: wd_tb) { frames := 1, cells := 0, slots := 0, locals := 12 } (va_Pc [.ref a, .int i, .int wh, .int was, .int v, .int re] (wd_Pre D T A σ)) (va_Qv (fun σ1 => σ1 = wd_up σ a (xC (crow i wh was v re))) (wd_B D A) A) 0 0 A := by
  refine wd_ofW (by decide) (Nat.le_of_ble_eq_true rfl) ?_
  intro p e s m below meth c0 ls C hr hlocks hname h hl
  have hl : lv_has ls 6 [(0, .ref a), (1, .int i), (2, .int wh), (3, .int was), (4, .int v), (5, .int re)] := hl
  have hx := C.1
  have hb := C.2.1
  refine lv_aload_n hx hb d_C_init_0 rfl (lv_at hl 0 rfl) ?_
  refine W.objInit hx hb C.2.2.2.1 (C.2.2.2.2 _ lk_C_3) (C.2.2.2.2 _ wm_obj) (C.2.2.2.2 _ wc_obj) rfl (by rw [C.2.2.1]; exact hl.1) rfl d_C_init_1 (Nat.le_of_ble_eq_true rfl) (Nat.le_of_ble_eq_true rfl) ?_
  refine W.eq (g2 := F0 m 4 ls []) rfl ?_
  refine lv_aload_n hx hb d_C_init_4 rfl (lv_at hl 0 rfl) ?_
  refine lv_iload_n hx hb d_C_init_5 rfl (lv_at hl 1 rfl) ?_
  refine wd_putF C h kc_C ha 0 (by decide) lk_C_9 rfl hname rfl (by rfl) (by rfl) (Nat.le_of_ble_eq_true rfl) d_C_init_6 (fun H locs h => ?_)
  have h : wd_C D T A s H locs (wd_up σ a (.inr (2, [.int i, .int 0, .int 0, .int 0, .int 0]))) := h
  have h_1 : (wd_up σ a (.inr (2, [.int i, .int 0, .int 0, .int 0, .int 0]))) a = some (.inr (2, [.int i, .int 0, .int 0, .int 0, .int 0])) := wd_us _ _ _
  refine lv_aload_n hx hb d_C_init_9 rfl (lv_at hl 0 rfl) ?_
  refine lv_iload_n hx hb d_C_init_10 rfl (lv_at hl 2 rfl) ?_
  refine wd_putF C h kc_C h_1 1 (by decide) lk_C_15 rfl hname rfl (by rfl) (by rfl) (Nat.le_of_ble_eq_true rfl) d_C_init_11 (fun H locs h => ?_)
  rw [wd_uu] at h
  have h : wd_C D T A s H locs (wd_up σ a (.inr (2, [.int i, .int wh, .int 0, .int 0, .int 0]))) := h
  have h_2 : (wd_up σ a (.inr (2, [.int i, .int wh, .int 0, .int 0, .int 0]))) a = some (.inr (2, [.int i, .int wh, .int 0, .int 0, .int 0])) := wd_us _ _ _
  refine lv_aload_n hx hb d_C_init_14 rfl (lv_at hl 0 rfl) ?_
  refine lv_iload_n hx hb d_C_init_15 rfl (lv_at hl 3 rfl) ?_
  refine wd_putF C h kc_C h_2 2 (by decide) lk_C_18 rfl hname rfl (by rfl) (by rfl) (Nat.le_of_ble_eq_true rfl) d_C_init_16 (fun H locs h => ?_)
  rw [wd_uu] at h
  have h : wd_C D T A s H locs (wd_up σ a (.inr (2, [.int i, .int wh, .int was, .int 0, .int 0]))) := h
  have h_3 : (wd_up σ a (.inr (2, [.int i, .int wh, .int was, .int 0, .int 0]))) a = some (.inr (2, [.int i, .int wh, .int was, .int 0, .int 0])) := wd_us _ _ _
  refine lv_aload_n hx hb d_C_init_19 rfl (lv_at hl 0 rfl) ?_
  refine lv_iload hx hb d_C_init_20 (lv_at hl 4 rfl) ?_
  refine wd_putF C h kc_C h_3 3 (by decide) lk_C_21 rfl hname rfl (by rfl) (by rfl) (Nat.le_of_ble_eq_true rfl) d_C_init_22 (fun H locs h => ?_)
  rw [wd_uu] at h
  have h : wd_C D T A s H locs (wd_up σ a (.inr (2, [.int i, .int wh, .int was, .int v, .int 0]))) := h
  have h_4 : (wd_up σ a (.inr (2, [.int i, .int wh, .int was, .int v, .int 0]))) a = some (.inr (2, [.int i, .int wh, .int was, .int v, .int 0])) := wd_us _ _ _
  refine lv_aload_n hx hb d_C_init_25 rfl (lv_at hl 0 rfl) ?_
  refine lv_iload hx hb d_C_init_26 (lv_at hl 5 rfl) ?_
  refine wd_putF C h kc_C h_4 4 (by decide) lk_C_24 rfl hname rfl (by rfl) (by rfl) (Nat.le_of_ble_eq_true rfl) d_C_init_28 (fun H locs h => ?_)
  rw [wd_uu] at h
  have h : wd_C D T A s H locs (wd_up σ a (.inr (2, [.int i, .int wh, .int was, .int v, .int re]))) := h
  have h_5 : (wd_up σ a (.inr (2, [.int i, .int wh, .int was, .int v, .int re]))) a = some (.inr (2, [.int i, .int wh, .int was, .int v, .int re])) := wd_us _ _ _
  exact wd_vret C hr hlocks h (rfl) (Nat.le_of_ble_eq_true rfl) (Nat.le_of_ble_eq_true rfl) d_C_init_31

set_option maxHeartbeats 4000000 in
set_option maxRecDepth 20000 in
theorem c_P_init (l : Launch) (D : va_G) (T : Nat → ClassId) (A : Nat → Prop) (σ : wd_S) (a : Nat) (ha : σ a = some (.inr (3, [.null, .int 0]))) : Met l y_P_init (Cond.code y_P_init b_P_init 1 none :: wd_tb) { frames := 1, cells := 1, slots := 30, locals := 12 } (va_Pc [.ref a] (wd_Pre D T A σ)) (va_Qv (fun σ1 => ∃ q : Nat, σ q = none ∧ σ1 q = some (aN T 30 (fun _ => 0)) ∧ σ1 a = some (.inr (3, [.ref q, .int 0])) ∧ ∀ b, b ≠ a → b ≠ q → σ1 b = σ b) (wd_B D A) A) 1 30 A := by
  refine wd_ofW (by decide) (Nat.le_of_ble_eq_true rfl) ?_
  intro p e s m below meth c0 ls C hr hlocks hname h hl
  have hl : lv_has ls 1 [(0, .ref a)] := hl
  have hx := C.1
  have hb := C.2.1
  refine lv_aload_n hx hb d_P_init_0 rfl (lv_at hl 0 rfl) ?_
  refine W.objInit hx hb C.2.2.2.1 (C.2.2.2.2 _ lk_P_3) (C.2.2.2.2 _ wm_obj) (C.2.2.2.2 _ wc_obj) rfl (by rw [C.2.2.1]; exact hl.1) rfl d_P_init_1 (Nat.le_of_ble_eq_true rfl) (Nat.le_of_ble_eq_true rfl) ?_
  refine W.eq (g2 := F0 m 4 ls []) rfl ?_
  refine lv_aload_n hx hb d_P_init_4 rfl (lv_at hl 0 rfl) ?_
  refine lv_bipush (v := 30) hx hb d_P_init_5 (by decide) ?_
  refine wd_newi C h 0 rfl wa_int 30 30 (by decide) (by decide) (by decide) (Nat.le_of_ble_eq_true rfl) (Nat.le_of_ble_eq_true rfl) d_P_init_7 (fun q_1 H hq_2 h => ?_)
  have ne_5 : a ≠ q_1 := wd_nn ha hq_2
  have h_4 : (wd_up σ q_1 (.inl (T 0, 30, .inl (fun _ => 0)))) a = some (.inr (3, [.null, .int 0])) := wd_uk ha ne_5
  have h_3 : (wd_up σ q_1 (.inl (T 0, 30, .inl (fun _ => 0)))) q_1 = some (.inl (T 0, 30, .inl (fun _ => 0))) := wd_us _ _ _
  refine wd_putF C h kc_P h_4 0 (by decide) lk_P_11 rfl hname rfl (by rfl) (by rfl) (Nat.le_of_ble_eq_true rfl) d_P_init_9 (fun H locs h => ?_)
  have h : wd_C D T A s H locs (wd_up (wd_up σ q_1 (.inl (T 0, 30, .inl (fun _ => 0)))) a (.inr (3, [.ref q_1, .int 0]))) := h
  have h_6 : (wd_up (wd_up σ q_1 (.inl (T 0, 30, .inl (fun _ => 0)))) a (.inr (3, [.ref q_1, .int 0]))) a = some (.inr (3, [.ref q_1, .int 0])) := wd_us _ _ _
  have h_7 : (wd_up (wd_up σ q_1 (.inl (T 0, 30, .inl (fun _ => 0)))) a (.inr (3, [.ref q_1, .int 0]))) q_1 = some (.inl (T 0, 30, .inl (fun _ => 0))) := wd_uk h_3 (Ne.symm ne_5)
  refine lv_aload_n hx hb d_P_init_12 rfl (lv_at hl 0 rfl) ?_
  refine lv_iconst (v := 0) hx hb d_P_init_13 (by decide) ?_
  refine wd_put C h kc_P h_6 1 (by decide) lk_P_15 rfl (by rfl) (by rfl) (Nat.le_of_ble_eq_true rfl) d_P_init_14 (fun H locs h => ?_)
  rw [wd_uu] at h
  have h : wd_C D T A s H locs (wd_up (wd_up σ q_1 (.inl (T 0, 30, .inl (fun _ => 0)))) a (.inr (3, [.ref q_1, .int 0]))) := h
  have h_8 : (wd_up (wd_up σ q_1 (.inl (T 0, 30, .inl (fun _ => 0)))) a (.inr (3, [.ref q_1, .int 0]))) a = some (.inr (3, [.ref q_1, .int 0])) := wd_us _ _ _
  have h_9 : (wd_up (wd_up σ q_1 (.inl (T 0, 30, .inl (fun _ => 0)))) a (.inr (3, [.ref q_1, .int 0]))) q_1 = some (.inl (T 0, 30, .inl (fun _ => 0))) := wd_uk h_3 (Ne.symm ne_5)
  exact wd_vret C hr hlocks h (⟨q_1, hq_2, h_9, h_8, fun b h1 h2 => by rw [wd_un _ _ h1, wd_un _ _ h2]⟩) (Nat.le_of_ble_eq_true rfl) (Nat.le_of_ble_eq_true rfl) d_P_init_17

set_option maxHeartbeats 4000000 in
set_option maxRecDepth 20000 in
theorem c_I_init (l : Launch) (D : va_G) (T : Nat → ClassId) (A : Nat → Prop) (σ : wd_S) (a : Nat) (ha : σ a = some (.inr (1, [.int 0, .int 0, .int 0, .int 0, .int 0, .int 0, .int 0, .int 0, .int 0, .int 0, .int 0, .int 0, .int 0, .int 0, .int 0, .null, .null]))) (kd w z sd : Int32) : Met l y_I_init (Cond.code y_I_init b_I_init 5 none :: wd_tb) { frames := 1, cells := 2, slots := 8, locals := 12 } (va_Pc [.ref a, .int kd, .int w, .int z, .int sd] (wd_Pre D T A σ)) (va_Qv (fun σ1 => ∃ q1 q2 : Nat, σ q1 = none ∧ σ q2 = none ∧ q1 ≠ q2 ∧ σ1 q1 = some (aN T 4 (fun j => newr kd w z sd (15 + 2 * j))) ∧ σ1 q2 = some (aN T 4 (fun j => newr kd w z sd (16 + 2 * j))) ∧ σ1 a = some (xI (newr kd w z sd) q1 q2) ∧ ∀ b, b ≠ a → b ≠ q1 → b ≠ q2 → σ1 b = σ b) (wd_B D A) A) 2 8 A := by
  refine wd_ofW (by decide) (Nat.le_of_ble_eq_true rfl) ?_
  intro p e s m below meth c0 ls C hr hlocks hname h hl
  have hl : lv_has ls 5 [(0, .ref a), (1, .int kd), (2, .int w), (3, .int z), (4, .int sd)] := hl
  have hx := C.1
  have hb := C.2.1
  refine lv_aload_n hx hb d_I_init_0 rfl (lv_at hl 0 rfl) ?_
  refine W.objInit hx hb C.2.2.2.1 (C.2.2.2.2 _ lk_I_3) (C.2.2.2.2 _ wm_obj) (C.2.2.2.2 _ wc_obj) rfl (by rw [C.2.2.1]; exact hl.1) rfl d_I_init_1 (Nat.le_of_ble_eq_true rfl) (Nat.le_of_ble_eq_true rfl) ?_
  refine W.eq (g2 := F0 m 4 ls []) rfl ?_
  refine lv_aload_n hx hb d_I_init_4 rfl (lv_at hl 0 rfl) ?_
  refine lv_iload_n hx hb d_I_init_5 rfl (lv_at hl 1 rfl) ?_
  refine wd_put C h kc_I ha 0 (by decide) lk_I_9 rfl (by rfl) (by rfl) (Nat.le_of_ble_eq_true rfl) d_I_init_6 (fun H locs h => ?_)
  have h : wd_C D T A s H locs (wd_up σ a (.inr (1, [.int kd, .int 0, .int 0, .int 0, .int 0, .int 0, .int 0, .int 0, .int 0, .int 0, .int 0, .int 0, .int 0, .int 0, .int 0, .null, .null]))) := h
  have h_1 : (wd_up σ a (.inr (1, [.int kd, .int 0, .int 0, .int 0, .int 0, .int 0, .int 0, .int 0, .int 0, .int 0, .int 0, .int 0, .int 0, .int 0, .int 0, .null, .null]))) a = some (.inr (1, [.int kd, .int 0, .int 0, .int 0, .int 0, .int 0, .int 0, .int 0, .int 0, .int 0, .int 0, .int 0, .int 0, .int 0, .int 0, .null, .null])) := wd_us _ _ _
  refine lv_aload_n hx hb d_I_init_9 rfl (lv_at hl 0 rfl) ?_
  refine lv_iload_n hx hb d_I_init_10 rfl (lv_at hl 2 rfl) ?_
  refine wd_put C h kc_I h_1 1 (by decide) lk_I_15 rfl (by rfl) (by rfl) (Nat.le_of_ble_eq_true rfl) d_I_init_11 (fun H locs h => ?_)
  rw [wd_uu] at h
  have h : wd_C D T A s H locs (wd_up σ a (.inr (1, [.int kd, .int w, .int 0, .int 0, .int 0, .int 0, .int 0, .int 0, .int 0, .int 0, .int 0, .int 0, .int 0, .int 0, .int 0, .null, .null]))) := h
  have h_2 : (wd_up σ a (.inr (1, [.int kd, .int w, .int 0, .int 0, .int 0, .int 0, .int 0, .int 0, .int 0, .int 0, .int 0, .int 0, .int 0, .int 0, .int 0, .null, .null]))) a = some (.inr (1, [.int kd, .int w, .int 0, .int 0, .int 0, .int 0, .int 0, .int 0, .int 0, .int 0, .int 0, .int 0, .int 0, .int 0, .int 0, .null, .null])) := wd_us _ _ _
  refine lv_aload_n hx hb d_I_init_14 rfl (lv_at hl 0 rfl) ?_
  refine lv_iload_n hx hb d_I_init_15 rfl (lv_at hl 3 rfl) ?_
  refine wd_put C h kc_I h_2 2 (by decide) lk_I_18 rfl (by rfl) (by rfl) (Nat.le_of_ble_eq_true rfl) d_I_init_16 (fun H locs h => ?_)
  rw [wd_uu] at h
  have h : wd_C D T A s H locs (wd_up σ a (.inr (1, [.int kd, .int w, .int z, .int 0, .int 0, .int 0, .int 0, .int 0, .int 0, .int 0, .int 0, .int 0, .int 0, .int 0, .int 0, .null, .null]))) := h
  have h_3 : (wd_up σ a (.inr (1, [.int kd, .int w, .int z, .int 0, .int 0, .int 0, .int 0, .int 0, .int 0, .int 0, .int 0, .int 0, .int 0, .int 0, .int 0, .null, .null]))) a = some (.inr (1, [.int kd, .int w, .int z, .int 0, .int 0, .int 0, .int 0, .int 0, .int 0, .int 0, .int 0, .int 0, .int 0, .int 0, .int 0, .null, .null])) := wd_us _ _ _
  refine lv_aload_n hx hb d_I_init_19 rfl (lv_at hl 0 rfl) ?_
  refine lv_iload hx hb d_I_init_20 (lv_at hl 4 rfl) ?_
  refine wd_putF C h kc_I h_3 3 (by decide) lk_I_21 rfl hname rfl (by rfl) (by rfl) (Nat.le_of_ble_eq_true rfl) d_I_init_22 (fun H locs h => ?_)
  rw [wd_uu] at h
  have h : wd_C D T A s H locs (wd_up σ a (.inr (1, [.int kd, .int w, .int z, .int sd, .int 0, .int 0, .int 0, .int 0, .int 0, .int 0, .int 0, .int 0, .int 0, .int 0, .int 0, .null, .null]))) := h
  have h_4 : (wd_up σ a (.inr (1, [.int kd, .int w, .int z, .int sd, .int 0, .int 0, .int 0, .int 0, .int 0, .int 0, .int 0, .int 0, .int 0, .int 0, .int 0, .null, .null]))) a = some (.inr (1, [.int kd, .int w, .int z, .int sd, .int 0, .int 0, .int 0, .int 0, .int 0, .int 0, .int 0, .int 0, .int 0, .int 0, .int 0, .null, .null])) := wd_us _ _ _
  refine lv_aload_n hx hb d_I_init_25 rfl (lv_at hl 0 rfl) ?_
  refine lv_iconst (v := 0) hx hb d_I_init_26 (by decide) ?_
  refine wd_put C h kc_I h_4 4 (by decide) lk_I_24 rfl (by rfl) (by rfl) (Nat.le_of_ble_eq_true rfl) d_I_init_27 (fun H locs h => ?_)
  rw [wd_uu] at h
  have h : wd_C D T A s H locs (wd_up σ a (.inr (1, [.int kd, .int w, .int z, .int sd, .int 0, .int 0, .int 0, .int 0, .int 0, .int 0, .int 0, .int 0, .int 0, .int 0, .int 0, .null, .null]))) := h
  have h_5 : (wd_up σ a (.inr (1, [.int kd, .int w, .int z, .int sd, .int 0, .int 0, .int 0, .int 0, .int 0, .int 0, .int 0, .int 0, .int 0, .int 0, .int 0, .null, .null]))) a = some (.inr (1, [.int kd, .int w, .int z, .int sd, .int 0, .int 0, .int 0, .int 0, .int 0, .int 0, .int 0, .int 0, .int 0, .int 0, .int 0, .null, .null])) := wd_us _ _ _
  refine lv_aload_n hx hb d_I_init_30 rfl (lv_at hl 0 rfl) ?_
  refine lv_iconst (v := 0) hx hb d_I_init_31 (by decide) ?_
  refine wd_put C h kc_I h_5 5 (by decide) lk_I_27 rfl (by rfl) (by rfl) (Nat.le_of_ble_eq_true rfl) d_I_init_32 (fun H locs h => ?_)
  rw [wd_uu] at h
  have h : wd_C D T A s H locs (wd_up σ a (.inr (1, [.int kd, .int w, .int z, .int sd, .int 0, .int 0, .int 0, .int 0, .int 0, .int 0, .int 0, .int 0, .int 0, .int 0, .int 0, .null, .null]))) := h
  have h_6 : (wd_up σ a (.inr (1, [.int kd, .int w, .int z, .int sd, .int 0, .int 0, .int 0, .int 0, .int 0, .int 0, .int 0, .int 0, .int 0, .int 0, .int 0, .null, .null]))) a = some (.inr (1, [.int kd, .int w, .int z, .int sd, .int 0, .int 0, .int 0, .int 0, .int 0, .int 0, .int 0, .int 0, .int 0, .int 0, .int 0, .null, .null])) := wd_us _ _ _
  refine lv_aload_n hx hb d_I_init_35 rfl (lv_at hl 0 rfl) ?_
  refine lv_iconst (v := 0) hx hb d_I_init_36 (by decide) ?_
  refine wd_put C h kc_I h_6 6 (by decide) lk_I_30 rfl (by rfl) (by rfl) (Nat.le_of_ble_eq_true rfl) d_I_init_37 (fun H locs h => ?_)
  rw [wd_uu] at h
  have h : wd_C D T A s H locs (wd_up σ a (.inr (1, [.int kd, .int w, .int z, .int sd, .int 0, .int 0, .int 0, .int 0, .int 0, .int 0, .int 0, .int 0, .int 0, .int 0, .int 0, .null, .null]))) := h
  have h_7 : (wd_up σ a (.inr (1, [.int kd, .int w, .int z, .int sd, .int 0, .int 0, .int 0, .int 0, .int 0, .int 0, .int 0, .int 0, .int 0, .int 0, .int 0, .null, .null]))) a = some (.inr (1, [.int kd, .int w, .int z, .int sd, .int 0, .int 0, .int 0, .int 0, .int 0, .int 0, .int 0, .int 0, .int 0, .int 0, .int 0, .null, .null])) := wd_us _ _ _
  refine lv_aload_n hx hb d_I_init_40 rfl (lv_at hl 0 rfl) ?_
  refine lv_iconst (v := (-1)) hx hb d_I_init_41 (by decide) ?_
  refine wd_put C h kc_I h_7 7 (by decide) lk_I_34 rfl (by rfl) (by rfl) (Nat.le_of_ble_eq_true rfl) d_I_init_42 (fun H locs h => ?_)
  rw [wd_uu] at h
  have h : wd_C D T A s H locs (wd_up σ a (.inr (1, [.int kd, .int w, .int z, .int sd, .int 0, .int 0, .int 0, .int (-1), .int 0, .int 0, .int 0, .int 0, .int 0, .int 0, .int 0, .null, .null]))) := h
  have h_8 : (wd_up σ a (.inr (1, [.int kd, .int w, .int z, .int sd, .int 0, .int 0, .int 0, .int (-1), .int 0, .int 0, .int 0, .int 0, .int 0, .int 0, .int 0, .null, .null]))) a = some (.inr (1, [.int kd, .int w, .int z, .int sd, .int 0, .int 0, .int 0, .int (-1), .int 0, .int 0, .int 0, .int 0, .int 0, .int 0, .int 0, .null, .null])) := wd_us _ _ _
  refine lv_aload_n hx hb d_I_init_45 rfl (lv_at hl 0 rfl) ?_
  refine lv_iconst (v := (-1)) hx hb d_I_init_46 (by decide) ?_
  refine wd_put C h kc_I h_8 8 (by decide) lk_I_37 rfl (by rfl) (by rfl) (Nat.le_of_ble_eq_true rfl) d_I_init_47 (fun H locs h => ?_)
  rw [wd_uu] at h
  have h : wd_C D T A s H locs (wd_up σ a (.inr (1, [.int kd, .int w, .int z, .int sd, .int 0, .int 0, .int 0, .int (-1), .int (-1), .int 0, .int 0, .int 0, .int 0, .int 0, .int 0, .null, .null]))) := h
  have h_9 : (wd_up σ a (.inr (1, [.int kd, .int w, .int z, .int sd, .int 0, .int 0, .int 0, .int (-1), .int (-1), .int 0, .int 0, .int 0, .int 0, .int 0, .int 0, .null, .null]))) a = some (.inr (1, [.int kd, .int w, .int z, .int sd, .int 0, .int 0, .int 0, .int (-1), .int (-1), .int 0, .int 0, .int 0, .int 0, .int 0, .int 0, .null, .null])) := wd_us _ _ _
  refine lv_aload_n hx hb d_I_init_50 rfl (lv_at hl 0 rfl) ?_
  refine lv_iconst (v := 0) hx hb d_I_init_51 (by decide) ?_
  refine wd_put C h kc_I h_9 9 (by decide) lk_I_40 rfl (by rfl) (by rfl) (Nat.le_of_ble_eq_true rfl) d_I_init_52 (fun H locs h => ?_)
  rw [wd_uu] at h
  have h : wd_C D T A s H locs (wd_up σ a (.inr (1, [.int kd, .int w, .int z, .int sd, .int 0, .int 0, .int 0, .int (-1), .int (-1), .int 0, .int 0, .int 0, .int 0, .int 0, .int 0, .null, .null]))) := h
  have h_10 : (wd_up σ a (.inr (1, [.int kd, .int w, .int z, .int sd, .int 0, .int 0, .int 0, .int (-1), .int (-1), .int 0, .int 0, .int 0, .int 0, .int 0, .int 0, .null, .null]))) a = some (.inr (1, [.int kd, .int w, .int z, .int sd, .int 0, .int 0, .int 0, .int (-1), .int (-1), .int 0, .int 0, .int 0, .int 0, .int 0, .int 0, .null, .null])) := wd_us _ _ _
  refine lv_aload_n hx hb d_I_init_55 rfl (lv_at hl 0 rfl) ?_
  refine lv_iconst (v := 0) hx hb d_I_init_56 (by decide) ?_
  refine wd_put C h kc_I h_10 10 (by decide) lk_I_43 rfl (by rfl) (by rfl) (Nat.le_of_ble_eq_true rfl) d_I_init_57 (fun H locs h => ?_)
  rw [wd_uu] at h
  have h : wd_C D T A s H locs (wd_up σ a (.inr (1, [.int kd, .int w, .int z, .int sd, .int 0, .int 0, .int 0, .int (-1), .int (-1), .int 0, .int 0, .int 0, .int 0, .int 0, .int 0, .null, .null]))) := h
  have h_11 : (wd_up σ a (.inr (1, [.int kd, .int w, .int z, .int sd, .int 0, .int 0, .int 0, .int (-1), .int (-1), .int 0, .int 0, .int 0, .int 0, .int 0, .int 0, .null, .null]))) a = some (.inr (1, [.int kd, .int w, .int z, .int sd, .int 0, .int 0, .int 0, .int (-1), .int (-1), .int 0, .int 0, .int 0, .int 0, .int 0, .int 0, .null, .null])) := wd_us _ _ _
  refine lv_aload_n hx hb d_I_init_60 rfl (lv_at hl 0 rfl) ?_
  refine lv_iconst (v := 0) hx hb d_I_init_61 (by decide) ?_
  refine wd_put C h kc_I h_11 11 (by decide) lk_I_46 rfl (by rfl) (by rfl) (Nat.le_of_ble_eq_true rfl) d_I_init_62 (fun H locs h => ?_)
  rw [wd_uu] at h
  have h : wd_C D T A s H locs (wd_up σ a (.inr (1, [.int kd, .int w, .int z, .int sd, .int 0, .int 0, .int 0, .int (-1), .int (-1), .int 0, .int 0, .int 0, .int 0, .int 0, .int 0, .null, .null]))) := h
  have h_12 : (wd_up σ a (.inr (1, [.int kd, .int w, .int z, .int sd, .int 0, .int 0, .int 0, .int (-1), .int (-1), .int 0, .int 0, .int 0, .int 0, .int 0, .int 0, .null, .null]))) a = some (.inr (1, [.int kd, .int w, .int z, .int sd, .int 0, .int 0, .int 0, .int (-1), .int (-1), .int 0, .int 0, .int 0, .int 0, .int 0, .int 0, .null, .null])) := wd_us _ _ _
  refine lv_aload_n hx hb d_I_init_65 rfl (lv_at hl 0 rfl) ?_
  refine lv_iconst (v := 0) hx hb d_I_init_66 (by decide) ?_
  refine wd_put C h kc_I h_12 12 (by decide) lk_I_49 rfl (by rfl) (by rfl) (Nat.le_of_ble_eq_true rfl) d_I_init_67 (fun H locs h => ?_)
  rw [wd_uu] at h
  have h : wd_C D T A s H locs (wd_up σ a (.inr (1, [.int kd, .int w, .int z, .int sd, .int 0, .int 0, .int 0, .int (-1), .int (-1), .int 0, .int 0, .int 0, .int 0, .int 0, .int 0, .null, .null]))) := h
  have h_13 : (wd_up σ a (.inr (1, [.int kd, .int w, .int z, .int sd, .int 0, .int 0, .int 0, .int (-1), .int (-1), .int 0, .int 0, .int 0, .int 0, .int 0, .int 0, .null, .null]))) a = some (.inr (1, [.int kd, .int w, .int z, .int sd, .int 0, .int 0, .int 0, .int (-1), .int (-1), .int 0, .int 0, .int 0, .int 0, .int 0, .int 0, .null, .null])) := wd_us _ _ _
  refine lv_aload_n hx hb d_I_init_70 rfl (lv_at hl 0 rfl) ?_
  refine lv_iconst (v := (-1)) hx hb d_I_init_71 (by decide) ?_
  refine wd_put C h kc_I h_13 13 (by decide) lk_I_52 rfl (by rfl) (by rfl) (Nat.le_of_ble_eq_true rfl) d_I_init_72 (fun H locs h => ?_)
  rw [wd_uu] at h
  have h : wd_C D T A s H locs (wd_up σ a (.inr (1, [.int kd, .int w, .int z, .int sd, .int 0, .int 0, .int 0, .int (-1), .int (-1), .int 0, .int 0, .int 0, .int 0, .int (-1), .int 0, .null, .null]))) := h
  have h_14 : (wd_up σ a (.inr (1, [.int kd, .int w, .int z, .int sd, .int 0, .int 0, .int 0, .int (-1), .int (-1), .int 0, .int 0, .int 0, .int 0, .int (-1), .int 0, .null, .null]))) a = some (.inr (1, [.int kd, .int w, .int z, .int sd, .int 0, .int 0, .int 0, .int (-1), .int (-1), .int 0, .int 0, .int 0, .int 0, .int (-1), .int 0, .null, .null])) := wd_us _ _ _
  refine lv_aload_n hx hb d_I_init_75 rfl (lv_at hl 0 rfl) ?_
  refine lv_iconst (v := 0) hx hb d_I_init_76 (by decide) ?_
  refine wd_put C h kc_I h_14 14 (by decide) lk_I_55 rfl (by rfl) (by rfl) (Nat.le_of_ble_eq_true rfl) d_I_init_77 (fun H locs h => ?_)
  rw [wd_uu] at h
  have h : wd_C D T A s H locs (wd_up σ a (.inr (1, [.int kd, .int w, .int z, .int sd, .int 0, .int 0, .int 0, .int (-1), .int (-1), .int 0, .int 0, .int 0, .int 0, .int (-1), .int 0, .null, .null]))) := h
  have h_15 : (wd_up σ a (.inr (1, [.int kd, .int w, .int z, .int sd, .int 0, .int 0, .int 0, .int (-1), .int (-1), .int 0, .int 0, .int 0, .int 0, .int (-1), .int 0, .null, .null]))) a = some (.inr (1, [.int kd, .int w, .int z, .int sd, .int 0, .int 0, .int 0, .int (-1), .int (-1), .int 0, .int 0, .int 0, .int 0, .int (-1), .int 0, .null, .null])) := wd_us _ _ _
  refine lv_aload_n hx hb d_I_init_80 rfl (lv_at hl 0 rfl) ?_
  refine lv_iconst (v := 4) hx hb d_I_init_81 (by decide) ?_
  refine wd_newi C h 0 rfl wa_int 4 4 (by decide) (by decide) (by decide) (Nat.le_of_ble_eq_true rfl) (Nat.le_of_ble_eq_true rfl) d_I_init_82 (fun q_16 H hq_17 h => ?_)
  have ne_20 : a ≠ q_16 := wd_nn h_15 hq_17
  have h_19 : (wd_up (wd_up σ a (.inr (1, [.int kd, .int w, .int z, .int sd, .int 0, .int 0, .int 0, .int (-1), .int (-1), .int 0, .int 0, .int 0, .int 0, .int (-1), .int 0, .null, .null]))) q_16 (.inl (T 0, 4, .inl (fun _ => 0)))) a = some (.inr (1, [.int kd, .int w, .int z, .int sd, .int 0, .int 0, .int 0, .int (-1), .int (-1), .int 0, .int 0, .int 0, .int 0, .int (-1), .int 0, .null, .null])) := wd_uk h_15 ne_20
  have h_18 : (wd_up (wd_up σ a (.inr (1, [.int kd, .int w, .int z, .int sd, .int 0, .int 0, .int 0, .int (-1), .int (-1), .int 0, .int 0, .int 0, .int 0, .int (-1), .int 0, .null, .null]))) q_16 (.inl (T 0, 4, .inl (fun _ => 0)))) q_16 = some (.inl (T 0, 4, .inl (fun _ => 0))) := wd_us _ _ _
  refine wd_putF C h kc_I h_19 15 (by decide) lk_I_58 rfl hname rfl (by rfl) (by rfl) (Nat.le_of_ble_eq_true rfl) d_I_init_84 (fun H locs h => ?_)
  have h : wd_C D T A s H locs (wd_up (wd_up (wd_up σ a (.inr (1, [.int kd, .int w, .int z, .int sd, .int 0, .int 0, .int 0, .int (-1), .int (-1), .int 0, .int 0, .int 0, .int 0, .int (-1), .int 0, .null, .null]))) q_16 (.inl (T 0, 4, .inl (fun _ => 0)))) a (.inr (1, [.int kd, .int w, .int z, .int sd, .int 0, .int 0, .int 0, .int (-1), .int (-1), .int 0, .int 0, .int 0, .int 0, .int (-1), .int 0, .ref q_16, .null]))) := h
  have h_21 : (wd_up (wd_up (wd_up σ a (.inr (1, [.int kd, .int w, .int z, .int sd, .int 0, .int 0, .int 0, .int (-1), .int (-1), .int 0, .int 0, .int 0, .int 0, .int (-1), .int 0, .null, .null]))) q_16 (.inl (T 0, 4, .inl (fun _ => 0)))) a (.inr (1, [.int kd, .int w, .int z, .int sd, .int 0, .int 0, .int 0, .int (-1), .int (-1), .int 0, .int 0, .int 0, .int 0, .int (-1), .int 0, .ref q_16, .null]))) a = some (.inr (1, [.int kd, .int w, .int z, .int sd, .int 0, .int 0, .int 0, .int (-1), .int (-1), .int 0, .int 0, .int 0, .int 0, .int (-1), .int 0, .ref q_16, .null])) := wd_us _ _ _
  have h_22 : (wd_up (wd_up (wd_up σ a (.inr (1, [.int kd, .int w, .int z, .int sd, .int 0, .int 0, .int 0, .int (-1), .int (-1), .int 0, .int 0, .int 0, .int 0, .int (-1), .int 0, .null, .null]))) q_16 (.inl (T 0, 4, .inl (fun _ => 0)))) a (.inr (1, [.int kd, .int w, .int z, .int sd, .int 0, .int 0, .int 0, .int (-1), .int (-1), .int 0, .int 0, .int 0, .int 0, .int (-1), .int 0, .ref q_16, .null]))) q_16 = some (.inl (T 0, 4, .inl (fun _ => 0))) := wd_uk h_18 (Ne.symm ne_20)
  refine lv_aload_n hx hb d_I_init_87 rfl (lv_at hl 0 rfl) ?_
  refine lv_iconst (v := 4) hx hb d_I_init_88 (by decide) ?_
  refine wd_newi C h 0 rfl wa_int 4 4 (by decide) (by decide) (by decide) (Nat.le_of_ble_eq_true rfl) (Nat.le_of_ble_eq_true rfl) d_I_init_89 (fun q_23 H hq_24 h => ?_)
  have ne_27 : a ≠ q_23 := wd_nn h_21 hq_24
  have h_26 : (wd_up (wd_up (wd_up (wd_up σ a (.inr (1, [.int kd, .int w, .int z, .int sd, .int 0, .int 0, .int 0, .int (-1), .int (-1), .int 0, .int 0, .int 0, .int 0, .int (-1), .int 0, .null, .null]))) q_16 (.inl (T 0, 4, .inl (fun _ => 0)))) a (.inr (1, [.int kd, .int w, .int z, .int sd, .int 0, .int 0, .int 0, .int (-1), .int (-1), .int 0, .int 0, .int 0, .int 0, .int (-1), .int 0, .ref q_16, .null]))) q_23 (.inl (T 0, 4, .inl (fun _ => 0)))) a = some (.inr (1, [.int kd, .int w, .int z, .int sd, .int 0, .int 0, .int 0, .int (-1), .int (-1), .int 0, .int 0, .int 0, .int 0, .int (-1), .int 0, .ref q_16, .null])) := wd_uk h_21 ne_27
  have ne_29 : q_16 ≠ q_23 := wd_nn h_22 hq_24
  have h_28 : (wd_up (wd_up (wd_up (wd_up σ a (.inr (1, [.int kd, .int w, .int z, .int sd, .int 0, .int 0, .int 0, .int (-1), .int (-1), .int 0, .int 0, .int 0, .int 0, .int (-1), .int 0, .null, .null]))) q_16 (.inl (T 0, 4, .inl (fun _ => 0)))) a (.inr (1, [.int kd, .int w, .int z, .int sd, .int 0, .int 0, .int 0, .int (-1), .int (-1), .int 0, .int 0, .int 0, .int 0, .int (-1), .int 0, .ref q_16, .null]))) q_23 (.inl (T 0, 4, .inl (fun _ => 0)))) q_16 = some (.inl (T 0, 4, .inl (fun _ => 0))) := wd_uk h_22 ne_29
  have h_25 : (wd_up (wd_up (wd_up (wd_up σ a (.inr (1, [.int kd, .int w, .int z, .int sd, .int 0, .int 0, .int 0, .int (-1), .int (-1), .int 0, .int 0, .int 0, .int 0, .int (-1), .int 0, .null, .null]))) q_16 (.inl (T 0, 4, .inl (fun _ => 0)))) a (.inr (1, [.int kd, .int w, .int z, .int sd, .int 0, .int 0, .int 0, .int (-1), .int (-1), .int 0, .int 0, .int 0, .int 0, .int (-1), .int 0, .ref q_16, .null]))) q_23 (.inl (T 0, 4, .inl (fun _ => 0)))) q_23 = some (.inl (T 0, 4, .inl (fun _ => 0))) := wd_us _ _ _
  refine wd_putF C h kc_I h_26 16 (by decide) lk_I_62 rfl hname rfl (by rfl) (by rfl) (Nat.le_of_ble_eq_true rfl) d_I_init_91 (fun H locs h => ?_)
  have h : wd_C D T A s H locs (wd_up (wd_up (wd_up (wd_up (wd_up σ a (.inr (1, [.int kd, .int w, .int z, .int sd, .int 0, .int 0, .int 0, .int (-1), .int (-1), .int 0, .int 0, .int 0, .int 0, .int (-1), .int 0, .null, .null]))) q_16 (.inl (T 0, 4, .inl (fun _ => 0)))) a (.inr (1, [.int kd, .int w, .int z, .int sd, .int 0, .int 0, .int 0, .int (-1), .int (-1), .int 0, .int 0, .int 0, .int 0, .int (-1), .int 0, .ref q_16, .null]))) q_23 (.inl (T 0, 4, .inl (fun _ => 0)))) a (.inr (1, [.int kd, .int w, .int z, .int sd, .int 0, .int 0, .int 0, .int (-1), .int (-1), .int 0, .int 0, .int 0, .int 0, .int (-1), .int 0, .ref q_16, .ref q_23]))) := h
  have h_30 : (wd_up (wd_up (wd_up (wd_up (wd_up σ a (.inr (1, [.int kd, .int w, .int z, .int sd, .int 0, .int 0, .int 0, .int (-1), .int (-1), .int 0, .int 0, .int 0, .int 0, .int (-1), .int 0, .null, .null]))) q_16 (.inl (T 0, 4, .inl (fun _ => 0)))) a (.inr (1, [.int kd, .int w, .int z, .int sd, .int 0, .int 0, .int 0, .int (-1), .int (-1), .int 0, .int 0, .int 0, .int 0, .int (-1), .int 0, .ref q_16, .null]))) q_23 (.inl (T 0, 4, .inl (fun _ => 0)))) a (.inr (1, [.int kd, .int w, .int z, .int sd, .int 0, .int 0, .int 0, .int (-1), .int (-1), .int 0, .int 0, .int 0, .int 0, .int (-1), .int 0, .ref q_16, .ref q_23]))) a = some (.inr (1, [.int kd, .int w, .int z, .int sd, .int 0, .int 0, .int 0, .int (-1), .int (-1), .int 0, .int 0, .int 0, .int 0, .int (-1), .int 0, .ref q_16, .ref q_23])) := wd_us _ _ _
  have h_31 : (wd_up (wd_up (wd_up (wd_up (wd_up σ a (.inr (1, [.int kd, .int w, .int z, .int sd, .int 0, .int 0, .int 0, .int (-1), .int (-1), .int 0, .int 0, .int 0, .int 0, .int (-1), .int 0, .null, .null]))) q_16 (.inl (T 0, 4, .inl (fun _ => 0)))) a (.inr (1, [.int kd, .int w, .int z, .int sd, .int 0, .int 0, .int 0, .int (-1), .int (-1), .int 0, .int 0, .int 0, .int 0, .int (-1), .int 0, .ref q_16, .null]))) q_23 (.inl (T 0, 4, .inl (fun _ => 0)))) a (.inr (1, [.int kd, .int w, .int z, .int sd, .int 0, .int 0, .int 0, .int (-1), .int (-1), .int 0, .int 0, .int 0, .int 0, .int (-1), .int 0, .ref q_16, .ref q_23]))) q_16 = some (.inl (T 0, 4, .inl (fun _ => 0))) := wd_uk h_28 (Ne.symm ne_20)
  have h_32 : (wd_up (wd_up (wd_up (wd_up (wd_up σ a (.inr (1, [.int kd, .int w, .int z, .int sd, .int 0, .int 0, .int 0, .int (-1), .int (-1), .int 0, .int 0, .int 0, .int 0, .int (-1), .int 0, .null, .null]))) q_16 (.inl (T 0, 4, .inl (fun _ => 0)))) a (.inr (1, [.int kd, .int w, .int z, .int sd, .int 0, .int 0, .int 0, .int (-1), .int (-1), .int 0, .int 0, .int 0, .int 0, .int (-1), .int 0, .ref q_16, .null]))) q_23 (.inl (T 0, 4, .inl (fun _ => 0)))) a (.inr (1, [.int kd, .int w, .int z, .int sd, .int 0, .int 0, .int 0, .int (-1), .int (-1), .int 0, .int 0, .int 0, .int 0, .int (-1), .int 0, .ref q_16, .ref q_23]))) q_23 = some (.inl (T 0, 4, .inl (fun _ => 0))) := wd_uk h_25 (Ne.symm ne_27)
  exact wd_vret C hr hlocks h (⟨q_16, q_23, (wd_none hq_17).2, (wd_none (wd_none (wd_none hq_24).2).2).2, ne_29, h_31.trans (congrArg some (newr_w T kd w z sd)), h_32.trans (congrArg some (newr_c T kd w z sd)), h_30, fun b h1 h2 h3 => by rw [wd_un _ _ h1, wd_un _ _ h3, wd_un _ _ h1, wd_un _ _ h2, wd_un _ _ h1]⟩) (Nat.le_of_ble_eq_true rfl) (Nat.le_of_ble_eq_true rfl) d_I_init_94

set_option maxHeartbeats 4000000 in
set_option maxRecDepth 20000 in
theorem c_F_init (l : Launch) (D : va_G) (T : Nat → ClassId) (A : Nat → Prop) (σ : wd_S) (a : Nat) (ha : σ a = some (.inr (0, [.null, .int 0, .null, .int 0, .null, .null, .null, .null]))) : Met l y_F_init (Cond.code y_F_init b_F_init 1 none :: wd_tb) { frames := 2, cells := 7, slots := 435, locals := 32 } (va_Pc [.ref a] (wd_Pre D T A σ)) (va_Qv (fun σ1 => RX T σ1 a (0, fun _ _ => 0, 0, fun _ _ => 0, fun _ => 0, (fun _ => 0, 0))) (wd_B D A) A) 7 435 A := by
  refine wd_ofW (by decide) (Nat.le_of_ble_eq_true rfl) ?_
  intro p e s m below meth c0 ls C hr hlocks hname h hl
  have hl : lv_has ls 1 [(0, .ref a)] := hl
  have hx := C.1
  have hb := C.2.1
  refine lv_aload_n hx hb d_F_init_0 rfl (lv_at hl 0 rfl) ?_
  refine W.objInit hx hb C.2.2.2.1 (C.2.2.2.2 _ lk_F_1) (C.2.2.2.2 _ wm_obj) (C.2.2.2.2 _ wc_obj) rfl (by rw [C.2.2.1]; exact hl.1) rfl d_F_init_1 (Nat.le_of_ble_eq_true rfl) (Nat.le_of_ble_eq_true rfl) ?_
  refine W.eq (g2 := F0 m 4 ls []) rfl ?_
  refine lv_aload_n hx hb d_F_init_4 rfl (lv_at hl 0 rfl) ?_
  refine lv_bipush (v := 120) hx hb d_F_init_5 (by decide) ?_
  refine wd_newq C h 2 rfl lk_F_9 wa_I 120 120 (by decide) (by decide) (by decide) (Nat.le_of_ble_eq_true rfl) (Nat.le_of_ble_eq_true rfl) d_F_init_7 (fun q_1 H hq_2 h => ?_)
  have ne_5 : a ≠ q_1 := wd_nn ha hq_2
  have h_4 : (wd_up σ q_1 (.inl (T 2, 120, .inr (.inr (.inr (.inr (fun _ => none))))))) a = some (.inr (0, [.null, .int 0, .null, .int 0, .null, .null, .null, .null])) := wd_uk ha ne_5
  have h_3 : (wd_up σ q_1 (.inl (T 2, 120, .inr (.inr (.inr (.inr (fun _ => none))))))) q_1 = some (.inl (T 2, 120, .inr (.inr (.inr (.inr (fun _ => none)))))) := wd_us _ _ _
  refine wd_putF C h kc_F h_4 0 (by decide) lk_F_11 rfl hname rfl (by rfl) (by rfl) (Nat.le_of_ble_eq_true rfl) d_F_init_10 (fun H locs h => ?_)
  have h : wd_C D T A s H locs (wd_up (wd_up σ q_1 (.inl (T 2, 120, .inr (.inr (.inr (.inr (fun _ => none))))))) a (.inr (0, [.ref q_1, .int 0, .null, .int 0, .null, .null, .null, .null]))) := h
  have h_6 : (wd_up (wd_up σ q_1 (.inl (T 2, 120, .inr (.inr (.inr (.inr (fun _ => none))))))) a (.inr (0, [.ref q_1, .int 0, .null, .int 0, .null, .null, .null, .null]))) a = some (.inr (0, [.ref q_1, .int 0, .null, .int 0, .null, .null, .null, .null])) := wd_us _ _ _
  have h_7 : (wd_up (wd_up σ q_1 (.inl (T 2, 120, .inr (.inr (.inr (.inr (fun _ => none))))))) a (.inr (0, [.ref q_1, .int 0, .null, .int 0, .null, .null, .null, .null]))) q_1 = some (.inl (T 2, 120, .inr (.inr (.inr (.inr (fun _ => none)))))) := wd_uk h_3 (Ne.symm ne_5)
  refine lv_aload_n hx hb d_F_init_13 rfl (lv_at hl 0 rfl) ?_
  refine lv_iconst (v := 0) hx hb d_F_init_14 (by decide) ?_
  refine wd_put C h kc_F h_6 1 (by decide) lk_F_15 rfl (by rfl) (by rfl) (Nat.le_of_ble_eq_true rfl) d_F_init_15 (fun H locs h => ?_)
  rw [wd_uu] at h
  have h : wd_C D T A s H locs (wd_up (wd_up σ q_1 (.inl (T 2, 120, .inr (.inr (.inr (.inr (fun _ => none))))))) a (.inr (0, [.ref q_1, .int 0, .null, .int 0, .null, .null, .null, .null]))) := h
  have h_8 : (wd_up (wd_up σ q_1 (.inl (T 2, 120, .inr (.inr (.inr (.inr (fun _ => none))))))) a (.inr (0, [.ref q_1, .int 0, .null, .int 0, .null, .null, .null, .null]))) a = some (.inr (0, [.ref q_1, .int 0, .null, .int 0, .null, .null, .null, .null])) := wd_us _ _ _
  have h_9 : (wd_up (wd_up σ q_1 (.inl (T 2, 120, .inr (.inr (.inr (.inr (fun _ => none))))))) a (.inr (0, [.ref q_1, .int 0, .null, .int 0, .null, .null, .null, .null]))) q_1 = some (.inl (T 2, 120, .inr (.inr (.inr (.inr (fun _ => none)))))) := wd_uk h_3 (Ne.symm ne_5)
  refine lv_aload_n hx hb d_F_init_18 rfl (lv_at hl 0 rfl) ?_
  refine lv_sipush (v := 200) hx hb d_F_init_19 (by decide) ?_
  refine wd_newq C h 3 rfl lk_F_19 wa_C 200 200 (by decide) (by decide) (by decide) (Nat.le_of_ble_eq_true rfl) (Nat.le_of_ble_eq_true rfl) d_F_init_22 (fun q_10 H hq_11 h => ?_)
  have ne_14 : a ≠ q_10 := wd_nn h_8 hq_11
  have h_13 : (wd_up (wd_up (wd_up σ q_1 (.inl (T 2, 120, .inr (.inr (.inr (.inr (fun _ => none))))))) a (.inr (0, [.ref q_1, .int 0, .null, .int 0, .null, .null, .null, .null]))) q_10 (.inl (T 3, 200, .inr (.inr (.inr (.inr (fun _ => none))))))) a = some (.inr (0, [.ref q_1, .int 0, .null, .int 0, .null, .null, .null, .null])) := wd_uk h_8 ne_14
  have ne_16 : q_1 ≠ q_10 := wd_nn h_9 hq_11
  have h_15 : (wd_up (wd_up (wd_up σ q_1 (.inl (T 2, 120, .inr (.inr (.inr (.inr (fun _ => none))))))) a (.inr (0, [.ref q_1, .int 0, .null, .int 0, .null, .null, .null, .null]))) q_10 (.inl (T 3, 200, .inr (.inr (.inr (.inr (fun _ => none))))))) q_1 = some (.inl (T 2, 120, .inr (.inr (.inr (.inr (fun _ => none)))))) := wd_uk h_9 ne_16
  have h_12 : (wd_up (wd_up (wd_up σ q_1 (.inl (T 2, 120, .inr (.inr (.inr (.inr (fun _ => none))))))) a (.inr (0, [.ref q_1, .int 0, .null, .int 0, .null, .null, .null, .null]))) q_10 (.inl (T 3, 200, .inr (.inr (.inr (.inr (fun _ => none))))))) q_10 = some (.inl (T 3, 200, .inr (.inr (.inr (.inr (fun _ => none)))))) := wd_us _ _ _
  refine wd_putF C h kc_F h_13 2 (by decide) lk_F_21 rfl hname rfl (by rfl) (by rfl) (Nat.le_of_ble_eq_true rfl) d_F_init_25 (fun H locs h => ?_)
  have h : wd_C D T A s H locs (wd_up (wd_up (wd_up (wd_up σ q_1 (.inl (T 2, 120, .inr (.inr (.inr (.inr (fun _ => none))))))) a (.inr (0, [.ref q_1, .int 0, .null, .int 0, .null, .null, .null, .null]))) q_10 (.inl (T 3, 200, .inr (.inr (.inr (.inr (fun _ => none))))))) a (.inr (0, [.ref q_1, .int 0, .ref q_10, .int 0, .null, .null, .null, .null]))) := h
  have h_17 : (wd_up (wd_up (wd_up (wd_up σ q_1 (.inl (T 2, 120, .inr (.inr (.inr (.inr (fun _ => none))))))) a (.inr (0, [.ref q_1, .int 0, .null, .int 0, .null, .null, .null, .null]))) q_10 (.inl (T 3, 200, .inr (.inr (.inr (.inr (fun _ => none))))))) a (.inr (0, [.ref q_1, .int 0, .ref q_10, .int 0, .null, .null, .null, .null]))) a = some (.inr (0, [.ref q_1, .int 0, .ref q_10, .int 0, .null, .null, .null, .null])) := wd_us _ _ _
  have h_18 : (wd_up (wd_up (wd_up (wd_up σ q_1 (.inl (T 2, 120, .inr (.inr (.inr (.inr (fun _ => none))))))) a (.inr (0, [.ref q_1, .int 0, .null, .int 0, .null, .null, .null, .null]))) q_10 (.inl (T 3, 200, .inr (.inr (.inr (.inr (fun _ => none))))))) a (.inr (0, [.ref q_1, .int 0, .ref q_10, .int 0, .null, .null, .null, .null]))) q_1 = some (.inl (T 2, 120, .inr (.inr (.inr (.inr (fun _ => none)))))) := wd_uk h_15 (Ne.symm ne_5)
  have h_19 : (wd_up (wd_up (wd_up (wd_up σ q_1 (.inl (T 2, 120, .inr (.inr (.inr (.inr (fun _ => none))))))) a (.inr (0, [.ref q_1, .int 0, .null, .int 0, .null, .null, .null, .null]))) q_10 (.inl (T 3, 200, .inr (.inr (.inr (.inr (fun _ => none))))))) a (.inr (0, [.ref q_1, .int 0, .ref q_10, .int 0, .null, .null, .null, .null]))) q_10 = some (.inl (T 3, 200, .inr (.inr (.inr (.inr (fun _ => none)))))) := wd_uk h_12 (Ne.symm ne_14)
  refine lv_aload_n hx hb d_F_init_28 rfl (lv_at hl 0 rfl) ?_
  refine lv_iconst (v := 0) hx hb d_F_init_29 (by decide) ?_
  refine wd_put C h kc_F h_17 3 (by decide) lk_F_25 rfl (by rfl) (by rfl) (Nat.le_of_ble_eq_true rfl) d_F_init_30 (fun H locs h => ?_)
  rw [wd_uu] at h
  have h : wd_C D T A s H locs (wd_up (wd_up (wd_up (wd_up σ q_1 (.inl (T 2, 120, .inr (.inr (.inr (.inr (fun _ => none))))))) a (.inr (0, [.ref q_1, .int 0, .null, .int 0, .null, .null, .null, .null]))) q_10 (.inl (T 3, 200, .inr (.inr (.inr (.inr (fun _ => none))))))) a (.inr (0, [.ref q_1, .int 0, .ref q_10, .int 0, .null, .null, .null, .null]))) := h
  have h_20 : (wd_up (wd_up (wd_up (wd_up σ q_1 (.inl (T 2, 120, .inr (.inr (.inr (.inr (fun _ => none))))))) a (.inr (0, [.ref q_1, .int 0, .null, .int 0, .null, .null, .null, .null]))) q_10 (.inl (T 3, 200, .inr (.inr (.inr (.inr (fun _ => none))))))) a (.inr (0, [.ref q_1, .int 0, .ref q_10, .int 0, .null, .null, .null, .null]))) a = some (.inr (0, [.ref q_1, .int 0, .ref q_10, .int 0, .null, .null, .null, .null])) := wd_us _ _ _
  have h_21 : (wd_up (wd_up (wd_up (wd_up σ q_1 (.inl (T 2, 120, .inr (.inr (.inr (.inr (fun _ => none))))))) a (.inr (0, [.ref q_1, .int 0, .null, .int 0, .null, .null, .null, .null]))) q_10 (.inl (T 3, 200, .inr (.inr (.inr (.inr (fun _ => none))))))) a (.inr (0, [.ref q_1, .int 0, .ref q_10, .int 0, .null, .null, .null, .null]))) q_1 = some (.inl (T 2, 120, .inr (.inr (.inr (.inr (fun _ => none)))))) := wd_uk h_15 (Ne.symm ne_5)
  have h_22 : (wd_up (wd_up (wd_up (wd_up σ q_1 (.inl (T 2, 120, .inr (.inr (.inr (.inr (fun _ => none))))))) a (.inr (0, [.ref q_1, .int 0, .null, .int 0, .null, .null, .null, .null]))) q_10 (.inl (T 3, 200, .inr (.inr (.inr (.inr (fun _ => none))))))) a (.inr (0, [.ref q_1, .int 0, .ref q_10, .int 0, .null, .null, .null, .null]))) q_10 = some (.inl (T 3, 200, .inr (.inr (.inr (.inr (fun _ => none)))))) := wd_uk h_12 (Ne.symm ne_14)
  refine lv_aload_n hx hb d_F_init_33 rfl (lv_at hl 0 rfl) ?_
  refine lv_bipush (v := 31) hx hb d_F_init_34 (by decide) ?_
  refine wd_newi C h 0 rfl wa_int 31 31 (by decide) (by decide) (by decide) (Nat.le_of_ble_eq_true rfl) (Nat.le_of_ble_eq_true rfl) d_F_init_36 (fun q_23 H hq_24 h => ?_)
  have ne_27 : a ≠ q_23 := wd_nn h_20 hq_24
  have h_26 : (wd_up (wd_up (wd_up (wd_up (wd_up σ q_1 (.inl (T 2, 120, .inr (.inr (.inr (.inr (fun _ => none))))))) a (.inr (0, [.ref q_1, .int 0, .null, .int 0, .null, .null, .null, .null]))) q_10 (.inl (T 3, 200, .inr (.inr (.inr (.inr (fun _ => none))))))) a (.inr (0, [.ref q_1, .int 0, .ref q_10, .int 0, .null, .null, .null, .null]))) q_23 (.inl (T 0, 31, .inl (fun _ => 0)))) a = some (.inr (0, [.ref q_1, .int 0, .ref q_10, .int 0, .null, .null, .null, .null])) := wd_uk h_20 ne_27
  have ne_29 : q_1 ≠ q_23 := wd_nn h_21 hq_24
  have h_28 : (wd_up (wd_up (wd_up (wd_up (wd_up σ q_1 (.inl (T 2, 120, .inr (.inr (.inr (.inr (fun _ => none))))))) a (.inr (0, [.ref q_1, .int 0, .null, .int 0, .null, .null, .null, .null]))) q_10 (.inl (T 3, 200, .inr (.inr (.inr (.inr (fun _ => none))))))) a (.inr (0, [.ref q_1, .int 0, .ref q_10, .int 0, .null, .null, .null, .null]))) q_23 (.inl (T 0, 31, .inl (fun _ => 0)))) q_1 = some (.inl (T 2, 120, .inr (.inr (.inr (.inr (fun _ => none)))))) := wd_uk h_21 ne_29
  have ne_31 : q_10 ≠ q_23 := wd_nn h_22 hq_24
  have h_30 : (wd_up (wd_up (wd_up (wd_up (wd_up σ q_1 (.inl (T 2, 120, .inr (.inr (.inr (.inr (fun _ => none))))))) a (.inr (0, [.ref q_1, .int 0, .null, .int 0, .null, .null, .null, .null]))) q_10 (.inl (T 3, 200, .inr (.inr (.inr (.inr (fun _ => none))))))) a (.inr (0, [.ref q_1, .int 0, .ref q_10, .int 0, .null, .null, .null, .null]))) q_23 (.inl (T 0, 31, .inl (fun _ => 0)))) q_10 = some (.inl (T 3, 200, .inr (.inr (.inr (.inr (fun _ => none)))))) := wd_uk h_22 ne_31
  have h_25 : (wd_up (wd_up (wd_up (wd_up (wd_up σ q_1 (.inl (T 2, 120, .inr (.inr (.inr (.inr (fun _ => none))))))) a (.inr (0, [.ref q_1, .int 0, .null, .int 0, .null, .null, .null, .null]))) q_10 (.inl (T 3, 200, .inr (.inr (.inr (.inr (fun _ => none))))))) a (.inr (0, [.ref q_1, .int 0, .ref q_10, .int 0, .null, .null, .null, .null]))) q_23 (.inl (T 0, 31, .inl (fun _ => 0)))) q_23 = some (.inl (T 0, 31, .inl (fun _ => 0))) := wd_us _ _ _
  refine wd_putF C h kc_F h_26 4 (by decide) lk_F_28 rfl hname rfl (by rfl) (by rfl) (Nat.le_of_ble_eq_true rfl) d_F_init_38 (fun H locs h => ?_)
  have h : wd_C D T A s H locs (wd_up (wd_up (wd_up (wd_up (wd_up (wd_up σ q_1 (.inl (T 2, 120, .inr (.inr (.inr (.inr (fun _ => none))))))) a (.inr (0, [.ref q_1, .int 0, .null, .int 0, .null, .null, .null, .null]))) q_10 (.inl (T 3, 200, .inr (.inr (.inr (.inr (fun _ => none))))))) a (.inr (0, [.ref q_1, .int 0, .ref q_10, .int 0, .null, .null, .null, .null]))) q_23 (.inl (T 0, 31, .inl (fun _ => 0)))) a (.inr (0, [.ref q_1, .int 0, .ref q_10, .int 0, .ref q_23, .null, .null, .null]))) := h
  have h_32 : (wd_up (wd_up (wd_up (wd_up (wd_up (wd_up σ q_1 (.inl (T 2, 120, .inr (.inr (.inr (.inr (fun _ => none))))))) a (.inr (0, [.ref q_1, .int 0, .null, .int 0, .null, .null, .null, .null]))) q_10 (.inl (T 3, 200, .inr (.inr (.inr (.inr (fun _ => none))))))) a (.inr (0, [.ref q_1, .int 0, .ref q_10, .int 0, .null, .null, .null, .null]))) q_23 (.inl (T 0, 31, .inl (fun _ => 0)))) a (.inr (0, [.ref q_1, .int 0, .ref q_10, .int 0, .ref q_23, .null, .null, .null]))) a = some (.inr (0, [.ref q_1, .int 0, .ref q_10, .int 0, .ref q_23, .null, .null, .null])) := wd_us _ _ _
  have h_33 : (wd_up (wd_up (wd_up (wd_up (wd_up (wd_up σ q_1 (.inl (T 2, 120, .inr (.inr (.inr (.inr (fun _ => none))))))) a (.inr (0, [.ref q_1, .int 0, .null, .int 0, .null, .null, .null, .null]))) q_10 (.inl (T 3, 200, .inr (.inr (.inr (.inr (fun _ => none))))))) a (.inr (0, [.ref q_1, .int 0, .ref q_10, .int 0, .null, .null, .null, .null]))) q_23 (.inl (T 0, 31, .inl (fun _ => 0)))) a (.inr (0, [.ref q_1, .int 0, .ref q_10, .int 0, .ref q_23, .null, .null, .null]))) q_1 = some (.inl (T 2, 120, .inr (.inr (.inr (.inr (fun _ => none)))))) := wd_uk h_28 (Ne.symm ne_5)
  have h_34 : (wd_up (wd_up (wd_up (wd_up (wd_up (wd_up σ q_1 (.inl (T 2, 120, .inr (.inr (.inr (.inr (fun _ => none))))))) a (.inr (0, [.ref q_1, .int 0, .null, .int 0, .null, .null, .null, .null]))) q_10 (.inl (T 3, 200, .inr (.inr (.inr (.inr (fun _ => none))))))) a (.inr (0, [.ref q_1, .int 0, .ref q_10, .int 0, .null, .null, .null, .null]))) q_23 (.inl (T 0, 31, .inl (fun _ => 0)))) a (.inr (0, [.ref q_1, .int 0, .ref q_10, .int 0, .ref q_23, .null, .null, .null]))) q_10 = some (.inl (T 3, 200, .inr (.inr (.inr (.inr (fun _ => none)))))) := wd_uk h_30 (Ne.symm ne_14)
  have h_35 : (wd_up (wd_up (wd_up (wd_up (wd_up (wd_up σ q_1 (.inl (T 2, 120, .inr (.inr (.inr (.inr (fun _ => none))))))) a (.inr (0, [.ref q_1, .int 0, .null, .int 0, .null, .null, .null, .null]))) q_10 (.inl (T 3, 200, .inr (.inr (.inr (.inr (fun _ => none))))))) a (.inr (0, [.ref q_1, .int 0, .ref q_10, .int 0, .null, .null, .null, .null]))) q_23 (.inl (T 0, 31, .inl (fun _ => 0)))) a (.inr (0, [.ref q_1, .int 0, .ref q_10, .int 0, .ref q_23, .null, .null, .null]))) q_23 = some (.inl (T 0, 31, .inl (fun _ => 0))) := wd_uk h_25 (Ne.symm ne_27)
  refine lv_aload_n hx hb d_F_init_41 rfl (lv_at hl 0 rfl) ?_
  refine lv_bipush (v := 31) hx hb d_F_init_42 (by decide) ?_
  refine wd_newz C h 1 rfl wa_boolean 31 31 (by decide) (by decide) (by decide) (Nat.le_of_ble_eq_true rfl) (Nat.le_of_ble_eq_true rfl) d_F_init_44 (fun q_36 H hq_37 h => ?_)
  have ne_40 : a ≠ q_36 := wd_nn h_32 hq_37
  have h_39 : (wd_up (wd_up (wd_up (wd_up (wd_up (wd_up (wd_up σ q_1 (.inl (T 2, 120, .inr (.inr (.inr (.inr (fun _ => none))))))) a (.inr (0, [.ref q_1, .int 0, .null, .int 0, .null, .null, .null, .null]))) q_10 (.inl (T 3, 200, .inr (.inr (.inr (.inr (fun _ => none))))))) a (.inr (0, [.ref q_1, .int 0, .ref q_10, .int 0, .null, .null, .null, .null]))) q_23 (.inl (T 0, 31, .inl (fun _ => 0)))) a (.inr (0, [.ref q_1, .int 0, .ref q_10, .int 0, .ref q_23, .null, .null, .null]))) q_36 (.inl (T 1, 31, .inl (fun _ => 0)))) a = some (.inr (0, [.ref q_1, .int 0, .ref q_10, .int 0, .ref q_23, .null, .null, .null])) := wd_uk h_32 ne_40
  have ne_42 : q_1 ≠ q_36 := wd_nn h_33 hq_37
  have h_41 : (wd_up (wd_up (wd_up (wd_up (wd_up (wd_up (wd_up σ q_1 (.inl (T 2, 120, .inr (.inr (.inr (.inr (fun _ => none))))))) a (.inr (0, [.ref q_1, .int 0, .null, .int 0, .null, .null, .null, .null]))) q_10 (.inl (T 3, 200, .inr (.inr (.inr (.inr (fun _ => none))))))) a (.inr (0, [.ref q_1, .int 0, .ref q_10, .int 0, .null, .null, .null, .null]))) q_23 (.inl (T 0, 31, .inl (fun _ => 0)))) a (.inr (0, [.ref q_1, .int 0, .ref q_10, .int 0, .ref q_23, .null, .null, .null]))) q_36 (.inl (T 1, 31, .inl (fun _ => 0)))) q_1 = some (.inl (T 2, 120, .inr (.inr (.inr (.inr (fun _ => none)))))) := wd_uk h_33 ne_42
  have ne_44 : q_10 ≠ q_36 := wd_nn h_34 hq_37
  have h_43 : (wd_up (wd_up (wd_up (wd_up (wd_up (wd_up (wd_up σ q_1 (.inl (T 2, 120, .inr (.inr (.inr (.inr (fun _ => none))))))) a (.inr (0, [.ref q_1, .int 0, .null, .int 0, .null, .null, .null, .null]))) q_10 (.inl (T 3, 200, .inr (.inr (.inr (.inr (fun _ => none))))))) a (.inr (0, [.ref q_1, .int 0, .ref q_10, .int 0, .null, .null, .null, .null]))) q_23 (.inl (T 0, 31, .inl (fun _ => 0)))) a (.inr (0, [.ref q_1, .int 0, .ref q_10, .int 0, .ref q_23, .null, .null, .null]))) q_36 (.inl (T 1, 31, .inl (fun _ => 0)))) q_10 = some (.inl (T 3, 200, .inr (.inr (.inr (.inr (fun _ => none)))))) := wd_uk h_34 ne_44
  have ne_46 : q_23 ≠ q_36 := wd_nn h_35 hq_37
  have h_45 : (wd_up (wd_up (wd_up (wd_up (wd_up (wd_up (wd_up σ q_1 (.inl (T 2, 120, .inr (.inr (.inr (.inr (fun _ => none))))))) a (.inr (0, [.ref q_1, .int 0, .null, .int 0, .null, .null, .null, .null]))) q_10 (.inl (T 3, 200, .inr (.inr (.inr (.inr (fun _ => none))))))) a (.inr (0, [.ref q_1, .int 0, .ref q_10, .int 0, .null, .null, .null, .null]))) q_23 (.inl (T 0, 31, .inl (fun _ => 0)))) a (.inr (0, [.ref q_1, .int 0, .ref q_10, .int 0, .ref q_23, .null, .null, .null]))) q_36 (.inl (T 1, 31, .inl (fun _ => 0)))) q_23 = some (.inl (T 0, 31, .inl (fun _ => 0))) := wd_uk h_35 ne_46
  have h_38 : (wd_up (wd_up (wd_up (wd_up (wd_up (wd_up (wd_up σ q_1 (.inl (T 2, 120, .inr (.inr (.inr (.inr (fun _ => none))))))) a (.inr (0, [.ref q_1, .int 0, .null, .int 0, .null, .null, .null, .null]))) q_10 (.inl (T 3, 200, .inr (.inr (.inr (.inr (fun _ => none))))))) a (.inr (0, [.ref q_1, .int 0, .ref q_10, .int 0, .null, .null, .null, .null]))) q_23 (.inl (T 0, 31, .inl (fun _ => 0)))) a (.inr (0, [.ref q_1, .int 0, .ref q_10, .int 0, .ref q_23, .null, .null, .null]))) q_36 (.inl (T 1, 31, .inl (fun _ => 0)))) q_36 = some (.inl (T 1, 31, .inl (fun _ => 0))) := wd_us _ _ _
  refine wd_putF C h kc_F h_39 5 (by decide) lk_F_32 rfl hname rfl (by rfl) (by rfl) (Nat.le_of_ble_eq_true rfl) d_F_init_46 (fun H locs h => ?_)
  have h : wd_C D T A s H locs (wd_up (wd_up (wd_up (wd_up (wd_up (wd_up (wd_up (wd_up σ q_1 (.inl (T 2, 120, .inr (.inr (.inr (.inr (fun _ => none))))))) a (.inr (0, [.ref q_1, .int 0, .null, .int 0, .null, .null, .null, .null]))) q_10 (.inl (T 3, 200, .inr (.inr (.inr (.inr (fun _ => none))))))) a (.inr (0, [.ref q_1, .int 0, .ref q_10, .int 0, .null, .null, .null, .null]))) q_23 (.inl (T 0, 31, .inl (fun _ => 0)))) a (.inr (0, [.ref q_1, .int 0, .ref q_10, .int 0, .ref q_23, .null, .null, .null]))) q_36 (.inl (T 1, 31, .inl (fun _ => 0)))) a (.inr (0, [.ref q_1, .int 0, .ref q_10, .int 0, .ref q_23, .ref q_36, .null, .null]))) := h
  have h_47 : (wd_up (wd_up (wd_up (wd_up (wd_up (wd_up (wd_up (wd_up σ q_1 (.inl (T 2, 120, .inr (.inr (.inr (.inr (fun _ => none))))))) a (.inr (0, [.ref q_1, .int 0, .null, .int 0, .null, .null, .null, .null]))) q_10 (.inl (T 3, 200, .inr (.inr (.inr (.inr (fun _ => none))))))) a (.inr (0, [.ref q_1, .int 0, .ref q_10, .int 0, .null, .null, .null, .null]))) q_23 (.inl (T 0, 31, .inl (fun _ => 0)))) a (.inr (0, [.ref q_1, .int 0, .ref q_10, .int 0, .ref q_23, .null, .null, .null]))) q_36 (.inl (T 1, 31, .inl (fun _ => 0)))) a (.inr (0, [.ref q_1, .int 0, .ref q_10, .int 0, .ref q_23, .ref q_36, .null, .null]))) a = some (.inr (0, [.ref q_1, .int 0, .ref q_10, .int 0, .ref q_23, .ref q_36, .null, .null])) := wd_us _ _ _
  have h_48 : (wd_up (wd_up (wd_up (wd_up (wd_up (wd_up (wd_up (wd_up σ q_1 (.inl (T 2, 120, .inr (.inr (.inr (.inr (fun _ => none))))))) a (.inr (0, [.ref q_1, .int 0, .null, .int 0, .null, .null, .null, .null]))) q_10 (.inl (T 3, 200, .inr (.inr (.inr (.inr (fun _ => none))))))) a (.inr (0, [.ref q_1, .int 0, .ref q_10, .int 0, .null, .null, .null, .null]))) q_23 (.inl (T 0, 31, .inl (fun _ => 0)))) a (.inr (0, [.ref q_1, .int 0, .ref q_10, .int 0, .ref q_23, .null, .null, .null]))) q_36 (.inl (T 1, 31, .inl (fun _ => 0)))) a (.inr (0, [.ref q_1, .int 0, .ref q_10, .int 0, .ref q_23, .ref q_36, .null, .null]))) q_1 = some (.inl (T 2, 120, .inr (.inr (.inr (.inr (fun _ => none)))))) := wd_uk h_41 (Ne.symm ne_5)
  have h_49 : (wd_up (wd_up (wd_up (wd_up (wd_up (wd_up (wd_up (wd_up σ q_1 (.inl (T 2, 120, .inr (.inr (.inr (.inr (fun _ => none))))))) a (.inr (0, [.ref q_1, .int 0, .null, .int 0, .null, .null, .null, .null]))) q_10 (.inl (T 3, 200, .inr (.inr (.inr (.inr (fun _ => none))))))) a (.inr (0, [.ref q_1, .int 0, .ref q_10, .int 0, .null, .null, .null, .null]))) q_23 (.inl (T 0, 31, .inl (fun _ => 0)))) a (.inr (0, [.ref q_1, .int 0, .ref q_10, .int 0, .ref q_23, .null, .null, .null]))) q_36 (.inl (T 1, 31, .inl (fun _ => 0)))) a (.inr (0, [.ref q_1, .int 0, .ref q_10, .int 0, .ref q_23, .ref q_36, .null, .null]))) q_10 = some (.inl (T 3, 200, .inr (.inr (.inr (.inr (fun _ => none)))))) := wd_uk h_43 (Ne.symm ne_14)
  have h_50 : (wd_up (wd_up (wd_up (wd_up (wd_up (wd_up (wd_up (wd_up σ q_1 (.inl (T 2, 120, .inr (.inr (.inr (.inr (fun _ => none))))))) a (.inr (0, [.ref q_1, .int 0, .null, .int 0, .null, .null, .null, .null]))) q_10 (.inl (T 3, 200, .inr (.inr (.inr (.inr (fun _ => none))))))) a (.inr (0, [.ref q_1, .int 0, .ref q_10, .int 0, .null, .null, .null, .null]))) q_23 (.inl (T 0, 31, .inl (fun _ => 0)))) a (.inr (0, [.ref q_1, .int 0, .ref q_10, .int 0, .ref q_23, .null, .null, .null]))) q_36 (.inl (T 1, 31, .inl (fun _ => 0)))) a (.inr (0, [.ref q_1, .int 0, .ref q_10, .int 0, .ref q_23, .ref q_36, .null, .null]))) q_23 = some (.inl (T 0, 31, .inl (fun _ => 0))) := wd_uk h_45 (Ne.symm ne_27)
  have h_51 : (wd_up (wd_up (wd_up (wd_up (wd_up (wd_up (wd_up (wd_up σ q_1 (.inl (T 2, 120, .inr (.inr (.inr (.inr (fun _ => none))))))) a (.inr (0, [.ref q_1, .int 0, .null, .int 0, .null, .null, .null, .null]))) q_10 (.inl (T 3, 200, .inr (.inr (.inr (.inr (fun _ => none))))))) a (.inr (0, [.ref q_1, .int 0, .ref q_10, .int 0, .null, .null, .null, .null]))) q_23 (.inl (T 0, 31, .inl (fun _ => 0)))) a (.inr (0, [.ref q_1, .int 0, .ref q_10, .int 0, .ref q_23, .null, .null, .null]))) q_36 (.inl (T 1, 31, .inl (fun _ => 0)))) a (.inr (0, [.ref q_1, .int 0, .ref q_10, .int 0, .ref q_23, .ref q_36, .null, .null]))) q_36 = some (.inl (T 1, 31, .inl (fun _ => 0))) := wd_uk h_38 (Ne.symm ne_40)
  refine lv_aload_n hx hb d_F_init_49 rfl (lv_at hl 0 rfl) ?_
  refine lv_bipush (v := 21) hx hb d_F_init_50 (by decide) ?_
  refine wd_newi C h 0 rfl wa_int 21 21 (by decide) (by decide) (by decide) (Nat.le_of_ble_eq_true rfl) (Nat.le_of_ble_eq_true rfl) d_F_init_52 (fun q_52 H hq_53 h => ?_)
  have ne_56 : a ≠ q_52 := wd_nn h_47 hq_53
  have h_55 : (wd_up (wd_up (wd_up (wd_up (wd_up (wd_up (wd_up (wd_up (wd_up σ q_1 (.inl (T 2, 120, .inr (.inr (.inr (.inr (fun _ => none))))))) a (.inr (0, [.ref q_1, .int 0, .null, .int 0, .null, .null, .null, .null]))) q_10 (.inl (T 3, 200, .inr (.inr (.inr (.inr (fun _ => none))))))) a (.inr (0, [.ref q_1, .int 0, .ref q_10, .int 0, .null, .null, .null, .null]))) q_23 (.inl (T 0, 31, .inl (fun _ => 0)))) a (.inr (0, [.ref q_1, .int 0, .ref q_10, .int 0, .ref q_23, .null, .null, .null]))) q_36 (.inl (T 1, 31, .inl (fun _ => 0)))) a (.inr (0, [.ref q_1, .int 0, .ref q_10, .int 0, .ref q_23, .ref q_36, .null, .null]))) q_52 (.inl (T 0, 21, .inl (fun _ => 0)))) a = some (.inr (0, [.ref q_1, .int 0, .ref q_10, .int 0, .ref q_23, .ref q_36, .null, .null])) := wd_uk h_47 ne_56
  have ne_58 : q_1 ≠ q_52 := wd_nn h_48 hq_53
  have h_57 : (wd_up (wd_up (wd_up (wd_up (wd_up (wd_up (wd_up (wd_up (wd_up σ q_1 (.inl (T 2, 120, .inr (.inr (.inr (.inr (fun _ => none))))))) a (.inr (0, [.ref q_1, .int 0, .null, .int 0, .null, .null, .null, .null]))) q_10 (.inl (T 3, 200, .inr (.inr (.inr (.inr (fun _ => none))))))) a (.inr (0, [.ref q_1, .int 0, .ref q_10, .int 0, .null, .null, .null, .null]))) q_23 (.inl (T 0, 31, .inl (fun _ => 0)))) a (.inr (0, [.ref q_1, .int 0, .ref q_10, .int 0, .ref q_23, .null, .null, .null]))) q_36 (.inl (T 1, 31, .inl (fun _ => 0)))) a (.inr (0, [.ref q_1, .int 0, .ref q_10, .int 0, .ref q_23, .ref q_36, .null, .null]))) q_52 (.inl (T 0, 21, .inl (fun _ => 0)))) q_1 = some (.inl (T 2, 120, .inr (.inr (.inr (.inr (fun _ => none)))))) := wd_uk h_48 ne_58
  have ne_60 : q_10 ≠ q_52 := wd_nn h_49 hq_53
  have h_59 : (wd_up (wd_up (wd_up (wd_up (wd_up (wd_up (wd_up (wd_up (wd_up σ q_1 (.inl (T 2, 120, .inr (.inr (.inr (.inr (fun _ => none))))))) a (.inr (0, [.ref q_1, .int 0, .null, .int 0, .null, .null, .null, .null]))) q_10 (.inl (T 3, 200, .inr (.inr (.inr (.inr (fun _ => none))))))) a (.inr (0, [.ref q_1, .int 0, .ref q_10, .int 0, .null, .null, .null, .null]))) q_23 (.inl (T 0, 31, .inl (fun _ => 0)))) a (.inr (0, [.ref q_1, .int 0, .ref q_10, .int 0, .ref q_23, .null, .null, .null]))) q_36 (.inl (T 1, 31, .inl (fun _ => 0)))) a (.inr (0, [.ref q_1, .int 0, .ref q_10, .int 0, .ref q_23, .ref q_36, .null, .null]))) q_52 (.inl (T 0, 21, .inl (fun _ => 0)))) q_10 = some (.inl (T 3, 200, .inr (.inr (.inr (.inr (fun _ => none)))))) := wd_uk h_49 ne_60
  have ne_62 : q_23 ≠ q_52 := wd_nn h_50 hq_53
  have h_61 : (wd_up (wd_up (wd_up (wd_up (wd_up (wd_up (wd_up (wd_up (wd_up σ q_1 (.inl (T 2, 120, .inr (.inr (.inr (.inr (fun _ => none))))))) a (.inr (0, [.ref q_1, .int 0, .null, .int 0, .null, .null, .null, .null]))) q_10 (.inl (T 3, 200, .inr (.inr (.inr (.inr (fun _ => none))))))) a (.inr (0, [.ref q_1, .int 0, .ref q_10, .int 0, .null, .null, .null, .null]))) q_23 (.inl (T 0, 31, .inl (fun _ => 0)))) a (.inr (0, [.ref q_1, .int 0, .ref q_10, .int 0, .ref q_23, .null, .null, .null]))) q_36 (.inl (T 1, 31, .inl (fun _ => 0)))) a (.inr (0, [.ref q_1, .int 0, .ref q_10, .int 0, .ref q_23, .ref q_36, .null, .null]))) q_52 (.inl (T 0, 21, .inl (fun _ => 0)))) q_23 = some (.inl (T 0, 31, .inl (fun _ => 0))) := wd_uk h_50 ne_62
  have ne_64 : q_36 ≠ q_52 := wd_nn h_51 hq_53
  have h_63 : (wd_up (wd_up (wd_up (wd_up (wd_up (wd_up (wd_up (wd_up (wd_up σ q_1 (.inl (T 2, 120, .inr (.inr (.inr (.inr (fun _ => none))))))) a (.inr (0, [.ref q_1, .int 0, .null, .int 0, .null, .null, .null, .null]))) q_10 (.inl (T 3, 200, .inr (.inr (.inr (.inr (fun _ => none))))))) a (.inr (0, [.ref q_1, .int 0, .ref q_10, .int 0, .null, .null, .null, .null]))) q_23 (.inl (T 0, 31, .inl (fun _ => 0)))) a (.inr (0, [.ref q_1, .int 0, .ref q_10, .int 0, .ref q_23, .null, .null, .null]))) q_36 (.inl (T 1, 31, .inl (fun _ => 0)))) a (.inr (0, [.ref q_1, .int 0, .ref q_10, .int 0, .ref q_23, .ref q_36, .null, .null]))) q_52 (.inl (T 0, 21, .inl (fun _ => 0)))) q_36 = some (.inl (T 1, 31, .inl (fun _ => 0))) := wd_uk h_51 ne_64
  have h_54 : (wd_up (wd_up (wd_up (wd_up (wd_up (wd_up (wd_up (wd_up (wd_up σ q_1 (.inl (T 2, 120, .inr (.inr (.inr (.inr (fun _ => none))))))) a (.inr (0, [.ref q_1, .int 0, .null, .int 0, .null, .null, .null, .null]))) q_10 (.inl (T 3, 200, .inr (.inr (.inr (.inr (fun _ => none))))))) a (.inr (0, [.ref q_1, .int 0, .ref q_10, .int 0, .null, .null, .null, .null]))) q_23 (.inl (T 0, 31, .inl (fun _ => 0)))) a (.inr (0, [.ref q_1, .int 0, .ref q_10, .int 0, .ref q_23, .null, .null, .null]))) q_36 (.inl (T 1, 31, .inl (fun _ => 0)))) a (.inr (0, [.ref q_1, .int 0, .ref q_10, .int 0, .ref q_23, .ref q_36, .null, .null]))) q_52 (.inl (T 0, 21, .inl (fun _ => 0)))) q_52 = some (.inl (T 0, 21, .inl (fun _ => 0))) := wd_us _ _ _
  refine wd_putF C h kc_F h_55 6 (by decide) lk_F_36 rfl hname rfl (by rfl) (by rfl) (Nat.le_of_ble_eq_true rfl) d_F_init_54 (fun H locs h => ?_)
  have h : wd_C D T A s H locs (wd_up (wd_up (wd_up (wd_up (wd_up (wd_up (wd_up (wd_up (wd_up (wd_up σ q_1 (.inl (T 2, 120, .inr (.inr (.inr (.inr (fun _ => none))))))) a (.inr (0, [.ref q_1, .int 0, .null, .int 0, .null, .null, .null, .null]))) q_10 (.inl (T 3, 200, .inr (.inr (.inr (.inr (fun _ => none))))))) a (.inr (0, [.ref q_1, .int 0, .ref q_10, .int 0, .null, .null, .null, .null]))) q_23 (.inl (T 0, 31, .inl (fun _ => 0)))) a (.inr (0, [.ref q_1, .int 0, .ref q_10, .int 0, .ref q_23, .null, .null, .null]))) q_36 (.inl (T 1, 31, .inl (fun _ => 0)))) a (.inr (0, [.ref q_1, .int 0, .ref q_10, .int 0, .ref q_23, .ref q_36, .null, .null]))) q_52 (.inl (T 0, 21, .inl (fun _ => 0)))) a (.inr (0, [.ref q_1, .int 0, .ref q_10, .int 0, .ref q_23, .ref q_36, .ref q_52, .null]))) := h
  have h_65 : (wd_up (wd_up (wd_up (wd_up (wd_up (wd_up (wd_up (wd_up (wd_up (wd_up σ q_1 (.inl (T 2, 120, .inr (.inr (.inr (.inr (fun _ => none))))))) a (.inr (0, [.ref q_1, .int 0, .null, .int 0, .null, .null, .null, .null]))) q_10 (.inl (T 3, 200, .inr (.inr (.inr (.inr (fun _ => none))))))) a (.inr (0, [.ref q_1, .int 0, .ref q_10, .int 0, .null, .null, .null, .null]))) q_23 (.inl (T 0, 31, .inl (fun _ => 0)))) a (.inr (0, [.ref q_1, .int 0, .ref q_10, .int 0, .ref q_23, .null, .null, .null]))) q_36 (.inl (T 1, 31, .inl (fun _ => 0)))) a (.inr (0, [.ref q_1, .int 0, .ref q_10, .int 0, .ref q_23, .ref q_36, .null, .null]))) q_52 (.inl (T 0, 21, .inl (fun _ => 0)))) a (.inr (0, [.ref q_1, .int 0, .ref q_10, .int 0, .ref q_23, .ref q_36, .ref q_52, .null]))) a = some (.inr (0, [.ref q_1, .int 0, .ref q_10, .int 0, .ref q_23, .ref q_36, .ref q_52, .null])) := wd_us _ _ _
  have h_66 : (wd_up (wd_up (wd_up (wd_up (wd_up (wd_up (wd_up (wd_up (wd_up (wd_up σ q_1 (.inl (T 2, 120, .inr (.inr (.inr (.inr (fun _ => none))))))) a (.inr (0, [.ref q_1, .int 0, .null, .int 0, .null, .null, .null, .null]))) q_10 (.inl (T 3, 200, .inr (.inr (.inr (.inr (fun _ => none))))))) a (.inr (0, [.ref q_1, .int 0, .ref q_10, .int 0, .null, .null, .null, .null]))) q_23 (.inl (T 0, 31, .inl (fun _ => 0)))) a (.inr (0, [.ref q_1, .int 0, .ref q_10, .int 0, .ref q_23, .null, .null, .null]))) q_36 (.inl (T 1, 31, .inl (fun _ => 0)))) a (.inr (0, [.ref q_1, .int 0, .ref q_10, .int 0, .ref q_23, .ref q_36, .null, .null]))) q_52 (.inl (T 0, 21, .inl (fun _ => 0)))) a (.inr (0, [.ref q_1, .int 0, .ref q_10, .int 0, .ref q_23, .ref q_36, .ref q_52, .null]))) q_1 = some (.inl (T 2, 120, .inr (.inr (.inr (.inr (fun _ => none)))))) := wd_uk h_57 (Ne.symm ne_5)
  have h_67 : (wd_up (wd_up (wd_up (wd_up (wd_up (wd_up (wd_up (wd_up (wd_up (wd_up σ q_1 (.inl (T 2, 120, .inr (.inr (.inr (.inr (fun _ => none))))))) a (.inr (0, [.ref q_1, .int 0, .null, .int 0, .null, .null, .null, .null]))) q_10 (.inl (T 3, 200, .inr (.inr (.inr (.inr (fun _ => none))))))) a (.inr (0, [.ref q_1, .int 0, .ref q_10, .int 0, .null, .null, .null, .null]))) q_23 (.inl (T 0, 31, .inl (fun _ => 0)))) a (.inr (0, [.ref q_1, .int 0, .ref q_10, .int 0, .ref q_23, .null, .null, .null]))) q_36 (.inl (T 1, 31, .inl (fun _ => 0)))) a (.inr (0, [.ref q_1, .int 0, .ref q_10, .int 0, .ref q_23, .ref q_36, .null, .null]))) q_52 (.inl (T 0, 21, .inl (fun _ => 0)))) a (.inr (0, [.ref q_1, .int 0, .ref q_10, .int 0, .ref q_23, .ref q_36, .ref q_52, .null]))) q_10 = some (.inl (T 3, 200, .inr (.inr (.inr (.inr (fun _ => none)))))) := wd_uk h_59 (Ne.symm ne_14)
  have h_68 : (wd_up (wd_up (wd_up (wd_up (wd_up (wd_up (wd_up (wd_up (wd_up (wd_up σ q_1 (.inl (T 2, 120, .inr (.inr (.inr (.inr (fun _ => none))))))) a (.inr (0, [.ref q_1, .int 0, .null, .int 0, .null, .null, .null, .null]))) q_10 (.inl (T 3, 200, .inr (.inr (.inr (.inr (fun _ => none))))))) a (.inr (0, [.ref q_1, .int 0, .ref q_10, .int 0, .null, .null, .null, .null]))) q_23 (.inl (T 0, 31, .inl (fun _ => 0)))) a (.inr (0, [.ref q_1, .int 0, .ref q_10, .int 0, .ref q_23, .null, .null, .null]))) q_36 (.inl (T 1, 31, .inl (fun _ => 0)))) a (.inr (0, [.ref q_1, .int 0, .ref q_10, .int 0, .ref q_23, .ref q_36, .null, .null]))) q_52 (.inl (T 0, 21, .inl (fun _ => 0)))) a (.inr (0, [.ref q_1, .int 0, .ref q_10, .int 0, .ref q_23, .ref q_36, .ref q_52, .null]))) q_23 = some (.inl (T 0, 31, .inl (fun _ => 0))) := wd_uk h_61 (Ne.symm ne_27)
  have h_69 : (wd_up (wd_up (wd_up (wd_up (wd_up (wd_up (wd_up (wd_up (wd_up (wd_up σ q_1 (.inl (T 2, 120, .inr (.inr (.inr (.inr (fun _ => none))))))) a (.inr (0, [.ref q_1, .int 0, .null, .int 0, .null, .null, .null, .null]))) q_10 (.inl (T 3, 200, .inr (.inr (.inr (.inr (fun _ => none))))))) a (.inr (0, [.ref q_1, .int 0, .ref q_10, .int 0, .null, .null, .null, .null]))) q_23 (.inl (T 0, 31, .inl (fun _ => 0)))) a (.inr (0, [.ref q_1, .int 0, .ref q_10, .int 0, .ref q_23, .null, .null, .null]))) q_36 (.inl (T 1, 31, .inl (fun _ => 0)))) a (.inr (0, [.ref q_1, .int 0, .ref q_10, .int 0, .ref q_23, .ref q_36, .null, .null]))) q_52 (.inl (T 0, 21, .inl (fun _ => 0)))) a (.inr (0, [.ref q_1, .int 0, .ref q_10, .int 0, .ref q_23, .ref q_36, .ref q_52, .null]))) q_36 = some (.inl (T 1, 31, .inl (fun _ => 0))) := wd_uk h_63 (Ne.symm ne_40)
  have h_70 : (wd_up (wd_up (wd_up (wd_up (wd_up (wd_up (wd_up (wd_up (wd_up (wd_up σ q_1 (.inl (T 2, 120, .inr (.inr (.inr (.inr (fun _ => none))))))) a (.inr (0, [.ref q_1, .int 0, .null, .int 0, .null, .null, .null, .null]))) q_10 (.inl (T 3, 200, .inr (.inr (.inr (.inr (fun _ => none))))))) a (.inr (0, [.ref q_1, .int 0, .ref q_10, .int 0, .null, .null, .null, .null]))) q_23 (.inl (T 0, 31, .inl (fun _ => 0)))) a (.inr (0, [.ref q_1, .int 0, .ref q_10, .int 0, .ref q_23, .null, .null, .null]))) q_36 (.inl (T 1, 31, .inl (fun _ => 0)))) a (.inr (0, [.ref q_1, .int 0, .ref q_10, .int 0, .ref q_23, .ref q_36, .null, .null]))) q_52 (.inl (T 0, 21, .inl (fun _ => 0)))) a (.inr (0, [.ref q_1, .int 0, .ref q_10, .int 0, .ref q_23, .ref q_36, .ref q_52, .null]))) q_52 = some (.inl (T 0, 21, .inl (fun _ => 0))) := wd_uk h_54 (Ne.symm ne_56)
  refine lv_aload_n hx hb d_F_init_57 rfl (lv_at hl 0 rfl) ?_
  refine wd_new (fs := [.null, .int 0]) C h kc_P lk_F_39 wn_P wi_P df_P (Nat.le_of_ble_eq_true rfl) (Nat.le_of_ble_eq_true rfl) d_F_init_58 (fun q_71 H hq_72 h => ?_)
  have ne_75 : a ≠ q_71 := wd_nn h_65 hq_72
  have h_74 : (wd_up (wd_up (wd_up (wd_up (wd_up (wd_up (wd_up (wd_up (wd_up (wd_up (wd_up σ q_1 (.inl (T 2, 120, .inr (.inr (.inr (.inr (fun _ => none))))))) a (.inr (0, [.ref q_1, .int 0, .null, .int 0, .null, .null, .null, .null]))) q_10 (.inl (T 3, 200, .inr (.inr (.inr (.inr (fun _ => none))))))) a (.inr (0, [.ref q_1, .int 0, .ref q_10, .int 0, .null, .null, .null, .null]))) q_23 (.inl (T 0, 31, .inl (fun _ => 0)))) a (.inr (0, [.ref q_1, .int 0, .ref q_10, .int 0, .ref q_23, .null, .null, .null]))) q_36 (.inl (T 1, 31, .inl (fun _ => 0)))) a (.inr (0, [.ref q_1, .int 0, .ref q_10, .int 0, .ref q_23, .ref q_36, .null, .null]))) q_52 (.inl (T 0, 21, .inl (fun _ => 0)))) a (.inr (0, [.ref q_1, .int 0, .ref q_10, .int 0, .ref q_23, .ref q_36, .ref q_52, .null]))) q_71 (.inr (3, [.null, .int 0]))) a = some (.inr (0, [.ref q_1, .int 0, .ref q_10, .int 0, .ref q_23, .ref q_36, .ref q_52, .null])) := wd_uk h_65 ne_75
  have ne_77 : q_1 ≠ q_71 := wd_nn h_66 hq_72
  have h_76 : (wd_up (wd_up (wd_up (wd_up (wd_up (wd_up (wd_up (wd_up (wd_up (wd_up (wd_up σ q_1 (.inl (T 2, 120, .inr (.inr (.inr (.inr (fun _ => none))))))) a (.inr (0, [.ref q_1, .int 0, .null, .int 0, .null, .null, .null, .null]))) q_10 (.inl (T 3, 200, .inr (.inr (.inr (.inr (fun _ => none))))))) a (.inr (0, [.ref q_1, .int 0, .ref q_10, .int 0, .null, .null, .null, .null]))) q_23 (.inl (T 0, 31, .inl (fun _ => 0)))) a (.inr (0, [.ref q_1, .int 0, .ref q_10, .int 0, .ref q_23, .null, .null, .null]))) q_36 (.inl (T 1, 31, .inl (fun _ => 0)))) a (.inr (0, [.ref q_1, .int 0, .ref q_10, .int 0, .ref q_23, .ref q_36, .null, .null]))) q_52 (.inl (T 0, 21, .inl (fun _ => 0)))) a (.inr (0, [.ref q_1, .int 0, .ref q_10, .int 0, .ref q_23, .ref q_36, .ref q_52, .null]))) q_71 (.inr (3, [.null, .int 0]))) q_1 = some (.inl (T 2, 120, .inr (.inr (.inr (.inr (fun _ => none)))))) := wd_uk h_66 ne_77
  have ne_79 : q_10 ≠ q_71 := wd_nn h_67 hq_72
  have h_78 : (wd_up (wd_up (wd_up (wd_up (wd_up (wd_up (wd_up (wd_up (wd_up (wd_up (wd_up σ q_1 (.inl (T 2, 120, .inr (.inr (.inr (.inr (fun _ => none))))))) a (.inr (0, [.ref q_1, .int 0, .null, .int 0, .null, .null, .null, .null]))) q_10 (.inl (T 3, 200, .inr (.inr (.inr (.inr (fun _ => none))))))) a (.inr (0, [.ref q_1, .int 0, .ref q_10, .int 0, .null, .null, .null, .null]))) q_23 (.inl (T 0, 31, .inl (fun _ => 0)))) a (.inr (0, [.ref q_1, .int 0, .ref q_10, .int 0, .ref q_23, .null, .null, .null]))) q_36 (.inl (T 1, 31, .inl (fun _ => 0)))) a (.inr (0, [.ref q_1, .int 0, .ref q_10, .int 0, .ref q_23, .ref q_36, .null, .null]))) q_52 (.inl (T 0, 21, .inl (fun _ => 0)))) a (.inr (0, [.ref q_1, .int 0, .ref q_10, .int 0, .ref q_23, .ref q_36, .ref q_52, .null]))) q_71 (.inr (3, [.null, .int 0]))) q_10 = some (.inl (T 3, 200, .inr (.inr (.inr (.inr (fun _ => none)))))) := wd_uk h_67 ne_79
  have ne_81 : q_23 ≠ q_71 := wd_nn h_68 hq_72
  have h_80 : (wd_up (wd_up (wd_up (wd_up (wd_up (wd_up (wd_up (wd_up (wd_up (wd_up (wd_up σ q_1 (.inl (T 2, 120, .inr (.inr (.inr (.inr (fun _ => none))))))) a (.inr (0, [.ref q_1, .int 0, .null, .int 0, .null, .null, .null, .null]))) q_10 (.inl (T 3, 200, .inr (.inr (.inr (.inr (fun _ => none))))))) a (.inr (0, [.ref q_1, .int 0, .ref q_10, .int 0, .null, .null, .null, .null]))) q_23 (.inl (T 0, 31, .inl (fun _ => 0)))) a (.inr (0, [.ref q_1, .int 0, .ref q_10, .int 0, .ref q_23, .null, .null, .null]))) q_36 (.inl (T 1, 31, .inl (fun _ => 0)))) a (.inr (0, [.ref q_1, .int 0, .ref q_10, .int 0, .ref q_23, .ref q_36, .null, .null]))) q_52 (.inl (T 0, 21, .inl (fun _ => 0)))) a (.inr (0, [.ref q_1, .int 0, .ref q_10, .int 0, .ref q_23, .ref q_36, .ref q_52, .null]))) q_71 (.inr (3, [.null, .int 0]))) q_23 = some (.inl (T 0, 31, .inl (fun _ => 0))) := wd_uk h_68 ne_81
  have ne_83 : q_36 ≠ q_71 := wd_nn h_69 hq_72
  have h_82 : (wd_up (wd_up (wd_up (wd_up (wd_up (wd_up (wd_up (wd_up (wd_up (wd_up (wd_up σ q_1 (.inl (T 2, 120, .inr (.inr (.inr (.inr (fun _ => none))))))) a (.inr (0, [.ref q_1, .int 0, .null, .int 0, .null, .null, .null, .null]))) q_10 (.inl (T 3, 200, .inr (.inr (.inr (.inr (fun _ => none))))))) a (.inr (0, [.ref q_1, .int 0, .ref q_10, .int 0, .null, .null, .null, .null]))) q_23 (.inl (T 0, 31, .inl (fun _ => 0)))) a (.inr (0, [.ref q_1, .int 0, .ref q_10, .int 0, .ref q_23, .null, .null, .null]))) q_36 (.inl (T 1, 31, .inl (fun _ => 0)))) a (.inr (0, [.ref q_1, .int 0, .ref q_10, .int 0, .ref q_23, .ref q_36, .null, .null]))) q_52 (.inl (T 0, 21, .inl (fun _ => 0)))) a (.inr (0, [.ref q_1, .int 0, .ref q_10, .int 0, .ref q_23, .ref q_36, .ref q_52, .null]))) q_71 (.inr (3, [.null, .int 0]))) q_36 = some (.inl (T 1, 31, .inl (fun _ => 0))) := wd_uk h_69 ne_83
  have ne_85 : q_52 ≠ q_71 := wd_nn h_70 hq_72
  have h_84 : (wd_up (wd_up (wd_up (wd_up (wd_up (wd_up (wd_up (wd_up (wd_up (wd_up (wd_up σ q_1 (.inl (T 2, 120, .inr (.inr (.inr (.inr (fun _ => none))))))) a (.inr (0, [.ref q_1, .int 0, .null, .int 0, .null, .null, .null, .null]))) q_10 (.inl (T 3, 200, .inr (.inr (.inr (.inr (fun _ => none))))))) a (.inr (0, [.ref q_1, .int 0, .ref q_10, .int 0, .null, .null, .null, .null]))) q_23 (.inl (T 0, 31, .inl (fun _ => 0)))) a (.inr (0, [.ref q_1, .int 0, .ref q_10, .int 0, .ref q_23, .null, .null, .null]))) q_36 (.inl (T 1, 31, .inl (fun _ => 0)))) a (.inr (0, [.ref q_1, .int 0, .ref q_10, .int 0, .ref q_23, .ref q_36, .null, .null]))) q_52 (.inl (T 0, 21, .inl (fun _ => 0)))) a (.inr (0, [.ref q_1, .int 0, .ref q_10, .int 0, .ref q_23, .ref q_36, .ref q_52, .null]))) q_71 (.inr (3, [.null, .int 0]))) q_52 = some (.inl (T 0, 21, .inl (fun _ => 0))) := wd_uk h_70 ne_85
  have h_73 : (wd_up (wd_up (wd_up (wd_up (wd_up (wd_up (wd_up (wd_up (wd_up (wd_up (wd_up σ q_1 (.inl (T 2, 120, .inr (.inr (.inr (.inr (fun _ => none))))))) a (.inr (0, [.ref q_1, .int 0, .null, .int 0, .null, .null, .null, .null]))) q_10 (.inl (T 3, 200, .inr (.inr (.inr (.inr (fun _ => none))))))) a (.inr (0, [.ref q_1, .int 0, .ref q_10, .int 0, .null, .null, .null, .null]))) q_23 (.inl (T 0, 31, .inl (fun _ => 0)))) a (.inr (0, [.ref q_1, .int 0, .ref q_10, .int 0, .ref q_23, .null, .null, .null]))) q_36 (.inl (T 1, 31, .inl (fun _ => 0)))) a (.inr (0, [.ref q_1, .int 0, .ref q_10, .int 0, .ref q_23, .ref q_36, .null, .null]))) q_52 (.inl (T 0, 21, .inl (fun _ => 0)))) a (.inr (0, [.ref q_1, .int 0, .ref q_10, .int 0, .ref q_23, .ref q_36, .ref q_52, .null]))) q_71 (.inr (3, [.null, .int 0]))) q_71 = some (.inr (3, [.null, .int 0])) := wd_us _ _ _
  refine lv_dup hx hb d_F_init_61 rfl ?_
  refine wd_cv h (wd_rIN (rest := [.ref q_71, .ref a]) (st0 := [.ref q_71, .ref q_71, .ref a]) C h k_P_init wm_P_init rfl lk_F_41 (c_P_init l D T A (wd_up (wd_up (wd_up (wd_up (wd_up (wd_up (wd_up (wd_up (wd_up (wd_up (wd_up σ q_1 (.inl (T 2, 120, .inr (.inr (.inr (.inr (fun _ => none))))))) a (.inr (0, [.ref q_1, .int 0, .null, .int 0, .null, .null, .null, .null]))) q_10 (.inl (T 3, 200, .inr (.inr (.inr (.inr (fun _ => none))))))) a (.inr (0, [.ref q_1, .int 0, .ref q_10, .int 0, .null, .null, .null, .null]))) q_23 (.inl (T 0, 31, .inl (fun _ => 0)))) a (.inr (0, [.ref q_1, .int 0, .ref q_10, .int 0, .ref q_23, .null, .null, .null]))) q_36 (.inl (T 1, 31, .inl (fun _ => 0)))) a (.inr (0, [.ref q_1, .int 0, .ref q_10, .int 0, .ref q_23, .ref q_36, .null, .null]))) q_52 (.inl (T 0, 21, .inl (fun _ => 0)))) a (.inr (0, [.ref q_1, .int 0, .ref q_10, .int 0, .ref q_23, .ref q_36, .ref q_52, .null]))) q_71 (.inr (3, [.null, .int 0]))) q_71 h_73) rfl rfl ⟨Nat.le_of_ble_eq_true rfl, Nat.le_of_ble_eq_true rfl⟩ rfl hl.1 rfl (Nat.le_of_ble_eq_true rfl) d_F_init_62 ⟨Nat.le_of_ble_eq_true rfl, Nat.le_of_ble_eq_true rfl⟩) (fun σ_87 H locs hp_88 h => ?_)
  obtain ⟨ab, u1, u2, u3, u4⟩ := hp_88
  have ne_90 : a ≠ ab := wd_nn h_74 u1
  have h_89 : σ_87 a = some (.inr (0, [.ref q_1, .int 0, .ref q_10, .int 0, .ref q_23, .ref q_36, .ref q_52, .null])) := (u4 a ne_75 ne_90).trans h_74
  have ne_92 : q_1 ≠ ab := wd_nn h_76 u1
  have h_91 : σ_87 q_1 = some (.inl (T 2, 120, .inr (.inr (.inr (.inr (fun _ => none)))))) := (u4 q_1 ne_77 ne_92).trans h_76
  have ne_94 : q_10 ≠ ab := wd_nn h_78 u1
  have h_93 : σ_87 q_10 = some (.inl (T 3, 200, .inr (.inr (.inr (.inr (fun _ => none)))))) := (u4 q_10 ne_79 ne_94).trans h_78
  have ne_96 : q_23 ≠ ab := wd_nn h_80 u1
  have h_95 : σ_87 q_23 = some (.inl (T 0, 31, .inl (fun _ => 0))) := (u4 q_23 ne_81 ne_96).trans h_80
  have ne_98 : q_36 ≠ ab := wd_nn h_82 u1
  have h_97 : σ_87 q_36 = some (.inl (T 1, 31, .inl (fun _ => 0))) := (u4 q_36 ne_83 ne_98).trans h_82
  have ne_100 : q_52 ≠ ab := wd_nn h_84 u1
  have h_99 : σ_87 q_52 = some (.inl (T 0, 21, .inl (fun _ => 0))) := (u4 q_52 ne_85 ne_100).trans h_84
  refine wd_putF C h kc_F h_89 7 (by decide) lk_F_42 rfl hname rfl (by rfl) (by rfl) (Nat.le_of_ble_eq_true rfl) d_F_init_65 (fun H locs h => ?_)
  have h : wd_C D T A s H locs (wd_up σ_87 a (.inr (0, [.ref q_1, .int 0, .ref q_10, .int 0, .ref q_23, .ref q_36, .ref q_52, .ref q_71]))) := h
  have h_101 : (wd_up σ_87 a (.inr (0, [.ref q_1, .int 0, .ref q_10, .int 0, .ref q_23, .ref q_36, .ref q_52, .ref q_71]))) a = some (.inr (0, [.ref q_1, .int 0, .ref q_10, .int 0, .ref q_23, .ref q_36, .ref q_52, .ref q_71])) := wd_us _ _ _
  have h_102 : (wd_up σ_87 a (.inr (0, [.ref q_1, .int 0, .ref q_10, .int 0, .ref q_23, .ref q_36, .ref q_52, .ref q_71]))) q_1 = some (.inl (T 2, 120, .inr (.inr (.inr (.inr (fun _ => none)))))) := wd_uk h_91 (Ne.symm ne_5)
  have h_103 : (wd_up σ_87 a (.inr (0, [.ref q_1, .int 0, .ref q_10, .int 0, .ref q_23, .ref q_36, .ref q_52, .ref q_71]))) q_10 = some (.inl (T 3, 200, .inr (.inr (.inr (.inr (fun _ => none)))))) := wd_uk h_93 (Ne.symm ne_14)
  have h_104 : (wd_up σ_87 a (.inr (0, [.ref q_1, .int 0, .ref q_10, .int 0, .ref q_23, .ref q_36, .ref q_52, .ref q_71]))) q_23 = some (.inl (T 0, 31, .inl (fun _ => 0))) := wd_uk h_95 (Ne.symm ne_27)
  have h_105 : (wd_up σ_87 a (.inr (0, [.ref q_1, .int 0, .ref q_10, .int 0, .ref q_23, .ref q_36, .ref q_52, .ref q_71]))) q_36 = some (.inl (T 1, 31, .inl (fun _ => 0))) := wd_uk h_97 (Ne.symm ne_40)
  have h_106 : (wd_up σ_87 a (.inr (0, [.ref q_1, .int 0, .ref q_10, .int 0, .ref q_23, .ref q_36, .ref q_52, .ref q_71]))) q_52 = some (.inl (T 0, 21, .inl (fun _ => 0))) := wd_uk h_99 (Ne.symm ne_56)
  have h_107 : (wd_up σ_87 a (.inr (0, [.ref q_1, .int 0, .ref q_10, .int 0, .ref q_23, .ref q_36, .ref q_52, .ref q_71]))) q_71 = some (.inr (3, [.ref ab, .int 0])) := wd_uk u3 (Ne.symm ne_75)
  have h_108 : (wd_up σ_87 a (.inr (0, [.ref q_1, .int 0, .ref q_10, .int 0, .ref q_23, .ref q_36, .ref q_52, .ref q_71]))) ab = some (aN T 30 (fun _ => 0)) := wd_uk u2 (Ne.symm ne_90)
  exact wd_vret C hr hlocks h (RB.rx (aI := q_1) (aC := q_10) (aJ := q_23) (aW := q_36) (aB := q_52) (aP := q_71) (ab := ab) (fI := fun _ => none) (fC := fun _ => none) (jn := fun _ => 0) (wn := fun _ => 0) (bk := fun _ => 0) (qb := fun _ => 0) (ia := fun _ => 0) (aa := fun _ => 0) (ca := fun _ => 0) ⟨h_101, h_102, h_103, h_104, h_105, h_106, ⟨h_107, h_108, Nat.zero_le _, fun _ _ _ => rfl⟩, ⟨rfl, fun j hj => absurd hj (Nat.not_lt_zero j)⟩, ⟨fun k hk => absurd hk (Nat.not_lt_zero k), fun k j hk => absurd hk (Nat.not_lt_zero k), fun k j hk => absurd hk (Nat.not_lt_zero k)⟩, fun k hk => absurd hk (Nat.not_lt_zero k), ⟨fun _ _ _ => rfl, fun _ _ _ => rfl, fun _ _ => rfl⟩, Nat.zero_le _, Nat.zero_le _, ne_46⟩) (Nat.le_of_ble_eq_true rfl) (Nat.le_of_ble_eq_true rfl) d_F_init_68

set_option maxHeartbeats 4000000 in
set_option maxRecDepth 20000 in
theorem c_F_item (l : Launch) (D : va_G) (T : Nat → ClassId) (A : Nat → Prop) (σ : wd_S) (x n : Nat) (R : Nat → Nat → Int32) (nc : Nat) (CR : Nat → Nat → Int32) (wg : Nat → Int32) (Q : pq) (aI aC aJ aW aB aP ab : Nat) (fI fC : Nat → Option Nat) (jn wn bk qb : Nat → Int32) (ia aa ca : Nat → Nat) (hB : RB T σ x n R nc CR wg Q aI aC aJ aW aB aP ab fI fC jn wn bk qb ia aa ca) (kd w z sd : Int32) : Met l y_F_item (Cond.code y_F_item b_F_item 5 (some .int) :: wd_tb) { frames := 2, cells := 3, slots := 25, locals := 36 } (va_Pc [.ref x, .int kd, .int w, .int z, .int sd] (wd_Pre D T A σ)) (va_Qi (fun r1 σ1 => r1 = (o_item (n, R, nc, CR, wg, Q) kd w z sd).1 ∧ RX T σ1 x (o_item (n, R, nc, CR, wg, Q) kd w z sd).2) (wd_B D A) A) 3 25 A := by
  refine wd_ofW (by decide) (Nat.le_of_ble_eq_true rfl) ?_
  intro p e s m below meth c0 ls C hr hlocks hname h hl
  have hl : lv_has ls 5 [(0, .ref x), (1, .int kd), (2, .int w), (3, .int z), (4, .int sd)] := hl
  have hx := C.1
  have hb := C.2.1
  obtain ⟨b1, b2, b3, b4, b5, b6, b7, b8, b9, b10, b11, b12, b13, b14⟩ := id hB
  refine lv_iload_n hx hb d_F_item_0 rfl (lv_at hl 1 rfl) ?_
  refine lv_iconst (v := 0) hx hb d_F_item_1 (by decide) ?_
  refine lv_iconst (v := 3) hx hb d_F_item_2 (by decide) ?_
  refine wd_ci h (wd_rS (rest := []) (st0 := [.int 3, .int 0, .int kd]) C h k_F_within wt_F_within lk_F_46 (c_F_within l D T A σ kd 0 3) rfl rfl ⟨Nat.le_of_ble_eq_true rfl, Nat.le_of_ble_eq_true rfl⟩ rfl hl.1 rfl (Nat.le_of_ble_eq_true rfl) d_F_item_3 ⟨Nat.le_of_ble_eq_true rfl, Nat.le_of_ble_eq_true rfl⟩) (fun r_1 σ_2 H locs hp_3 h => ?_)
  obtain ⟨e_4, es_5⟩ := hp_3
  rw [es_5] at h
  subst e_4
  refine lv_if_eq (tgt := 40) hx hb d_F_item_6 (by decide) (fun c_6 => ?_) (fun c_6 => ?_)
  · refine lv_bipush (v := (-102)) hx hb d_F_item_40 (by decide) ?_
    exact wd_iret C hr hlocks h (by unfold o_item; simp only [eq_true c_6, ↓reduceIte]; exact ⟨trivial, hB.rx⟩) (Nat.le_of_ble_eq_true rfl) (Nat.le_of_ble_eq_true rfl) d_F_item_42
  · refine lv_iload_n hx hb d_F_item_9 rfl (lv_at hl 2 rfl) ?_
    refine lv_iconst (v := 1) hx hb d_F_item_10 (by decide) ?_
    refine lv_ldc (v := 100000) hx hb C.2.2.2.1 (C.2.2.2.2 _ lk_F_50) d_F_item_11 ?_
    refine wd_ci h (wd_rS (rest := []) (st0 := [.int 100000, .int 1, .int w]) C h k_F_within wt_F_within lk_F_46 (c_F_within l D T A σ w 1 100000) rfl rfl ⟨Nat.le_of_ble_eq_true rfl, Nat.le_of_ble_eq_true rfl⟩ rfl hl.1 rfl (Nat.le_of_ble_eq_true rfl) d_F_item_13 ⟨Nat.le_of_ble_eq_true rfl, Nat.le_of_ble_eq_true rfl⟩) (fun r_7 σ_8 H locs hp_9 h => ?_)
    obtain ⟨e_10, es_11⟩ := hp_9
    rw [es_11] at h
    subst e_10
    refine lv_if_eq (tgt := 40) hx hb d_F_item_16 (by decide) (fun c_12 => ?_) (fun c_12 => ?_)
    · refine lv_bipush (v := (-102)) hx hb d_F_item_40 (by decide) ?_
      exact wd_iret C hr hlocks h (by unfold o_item; simp only [eq_false c_6, eq_true c_12, ↓reduceIte]; exact ⟨trivial, hB.rx⟩) (Nat.le_of_ble_eq_true rfl) (Nat.le_of_ble_eq_true rfl) d_F_item_42
    · refine lv_iload_n hx hb d_F_item_19 rfl (lv_at hl 3 rfl) ?_
      refine lv_iconst (v := 0) hx hb d_F_item_20 (by decide) ?_
      refine lv_bipush (v := 9) hx hb d_F_item_21 (by decide) ?_
      refine wd_ci h (wd_rS (rest := []) (st0 := [.int 9, .int 0, .int z]) C h k_F_within wt_F_within lk_F_46 (c_F_within l D T A σ z 0 9) rfl rfl ⟨Nat.le_of_ble_eq_true rfl, Nat.le_of_ble_eq_true rfl⟩ rfl hl.1 rfl (Nat.le_of_ble_eq_true rfl) d_F_item_23 ⟨Nat.le_of_ble_eq_true rfl, Nat.le_of_ble_eq_true rfl⟩) (fun r_13 σ_14 H locs hp_15 h => ?_)
      obtain ⟨e_16, es_17⟩ := hp_15
      rw [es_17] at h
      subst e_16
      refine lv_if_eq (tgt := 40) hx hb d_F_item_26 (by decide) (fun c_18 => ?_) (fun c_18 => ?_)
      · refine lv_bipush (v := (-102)) hx hb d_F_item_40 (by decide) ?_
        exact wd_iret C hr hlocks h (by unfold o_item; simp only [eq_false c_6, eq_false c_12, eq_true c_18, ↓reduceIte]; exact ⟨trivial, hB.rx⟩) (Nat.le_of_ble_eq_true rfl) (Nat.le_of_ble_eq_true rfl) d_F_item_42
      · refine lv_iload hx hb d_F_item_29 (lv_at hl 4 rfl) ?_
        refine lv_iconst (v := 0) hx hb d_F_item_31 (by decide) ?_
        refine lv_bipush (v := 99) hx hb d_F_item_32 (by decide) ?_
        refine wd_ci h (wd_rS (rest := []) (st0 := [.int 99, .int 0, .int sd]) C h k_F_within wt_F_within lk_F_46 (c_F_within l D T A σ sd 0 99) rfl rfl ⟨Nat.le_of_ble_eq_true rfl, Nat.le_of_ble_eq_true rfl⟩ rfl hl.1 rfl (Nat.le_of_ble_eq_true rfl) d_F_item_34 ⟨Nat.le_of_ble_eq_true rfl, Nat.le_of_ble_eq_true rfl⟩) (fun r_19 σ_20 H locs hp_21 h => ?_)
        obtain ⟨e_22, es_23⟩ := hp_21
        rw [es_23] at h
        subst e_22
        refine lv_if_ne (tgt := 43) hx hb d_F_item_37 (by decide) (fun c_24 => ?_) (fun c_24 => ?_)
        · refine lv_aload_n hx hb d_F_item_43 rfl (lv_at hl 0 rfl) ?_
          refine wd_get C h kc_F b1 1 (by decide) lk_F_15 rfl d_F_item_44 ?_
          refine lv_bipush (v := 120) hx hb d_F_item_47 (by decide) ?_
          refine lv_icmp_lt (tgt := 55) hx hb d_F_item_49 (by decide) (fun c_25 => ?_) (fun c_25 => ?_)
          · refine lv_iload_n hx hb d_F_item_55 rfl (lv_at hl 2 rfl) ?_
            refine wd_gets C h ks_bw lk_F_51 d_F_item_56 (fun t_26 ht_27 => ?_)
            refine lv_iconst (v := 3) hx hb d_F_item_59 (by decide) ?_
            refine wd_ti C h ht_27 (by unfold vp_in; decide) d_F_item_60 ?_
            refine W.eq (g2 := F0 m 61 ls (.int 31500 :: .int w :: [])) rfl ?_
            refine lv_icmp_le (tgt := 67) hx hb d_F_item_61 (by decide) (fun c_28 => ?_) (fun c_28 => ?_)
            · refine lv_iload_n hx hb d_F_item_67 rfl (lv_at hl 3 rfl) ?_
              refine wd_gets C h ks_bs lk_F_54 d_F_item_68 (fun t_29 ht_30 => ?_)
              refine lv_iconst (v := 3) hx hb d_F_item_71 (by decide) ?_
              refine wd_ti C h ht_30 (by unfold vp_in; decide) d_F_item_72 ?_
              refine W.eq (g2 := F0 m 73 ls (.int 3 :: .int z :: [])) rfl ?_
              refine lv_icmp_le (tgt := 79) hx hb d_F_item_73 (by decide) (fun c_31 => ?_) (fun c_31 => ?_)
              · refine lv_aload_n hx hb d_F_item_79 rfl (lv_at hl 0 rfl) ?_
                refine wd_get C h kc_F b1 0 (by decide) lk_F_11 rfl d_F_item_80 ?_
                refine lv_aload_n hx hb d_F_item_83 rfl (lv_at hl 0 rfl) ?_
                refine wd_get C h kc_F b1 1 (by decide) lk_F_15 rfl d_F_item_84 ?_
                refine wd_new (fs := [.int 0, .int 0, .int 0, .int 0, .int 0, .int 0, .int 0, .int 0, .int 0, .int 0, .int 0, .int 0, .int 0, .int 0, .int 0, .null, .null]) C h kc_I lk_F_9 wn_I wi_I df_I (Nat.le_of_ble_eq_true rfl) (Nat.le_of_ble_eq_true rfl) d_F_item_87 (fun q_32 H hq_33 h => ?_)
                have ne_36 : x ≠ q_32 := wd_nn b1 hq_33
                have h_35 : (wd_up σ q_32 (.inr (1, [.int 0, .int 0, .int 0, .int 0, .int 0, .int 0, .int 0, .int 0, .int 0, .int 0, .int 0, .int 0, .int 0, .int 0, .int 0, .null, .null]))) x = some (.inr (0, [.ref aI, .int (nI n), .ref aC, .int (nI nc), .ref aJ, .ref aW, .ref aB, .ref aP])) := wd_uk b1 ne_36
                have ne_38 : aI ≠ q_32 := wd_nn b2 hq_33
                have h_37 : (wd_up σ q_32 (.inr (1, [.int 0, .int 0, .int 0, .int 0, .int 0, .int 0, .int 0, .int 0, .int 0, .int 0, .int 0, .int 0, .int 0, .int 0, .int 0, .null, .null]))) aI = some (aQ T 2 120 fI) := wd_uk b2 ne_38
                have h_34 : (wd_up σ q_32 (.inr (1, [.int 0, .int 0, .int 0, .int 0, .int 0, .int 0, .int 0, .int 0, .int 0, .int 0, .int 0, .int 0, .int 0, .int 0, .int 0, .null, .null]))) q_32 = some (.inr (1, [.int 0, .int 0, .int 0, .int 0, .int 0, .int 0, .int 0, .int 0, .int 0, .int 0, .int 0, .int 0, .int 0, .int 0, .int 0, .null, .null])) := wd_us _ _ _
                refine lv_dup hx hb d_F_item_90 rfl ?_
                refine lv_iload_n hx hb d_F_item_91 rfl (lv_at hl 1 rfl) ?_
                refine lv_iload_n hx hb d_F_item_92 rfl (lv_at hl 2 rfl) ?_
                refine lv_iload_n hx hb d_F_item_93 rfl (lv_at hl 3 rfl) ?_
                refine wd_ci h (wd_rS (rest := [.ref q_32, .ref q_32, .int (nI n), .ref aI]) (st0 := [.int z, .int w, .int kd, .ref q_32, .ref q_32, .int (nI n), .ref aI]) C h k_F_turned wt_F_turned lk_F_57 (c_F_turned l D T A (wd_up σ q_32 (.inr (1, [.int 0, .int 0, .int 0, .int 0, .int 0, .int 0, .int 0, .int 0, .int 0, .int 0, .int 0, .int 0, .int 0, .int 0, .int 0, .null, .null]))) kd w z (xw_03 c_6)) rfl rfl ⟨Nat.le_of_ble_eq_true rfl, Nat.le_of_ble_eq_true rfl⟩ rfl hl.1 rfl (Nat.le_of_ble_eq_true rfl) d_F_item_94 ⟨Nat.le_of_ble_eq_true rfl, Nat.le_of_ble_eq_true rfl⟩) (fun r_39 σ_40 H locs hp_41 h => ?_)
                obtain ⟨e_42, es_43⟩ := hp_41
                rw [es_43] at h
                subst e_42
                refine lv_iload_n hx hb d_F_item_97 rfl (lv_at hl 2 rfl) ?_
                refine lv_iload_n hx hb d_F_item_98 rfl (lv_at hl 3 rfl) ?_
                refine lv_iload hx hb d_F_item_99 (lv_at hl 4 rfl) ?_
                refine wd_cv h (wd_rIN (rest := [.ref q_32, .int (nI n), .ref aI]) (st0 := [.int sd, .int z, .int w, .int (xt kd w z), .ref q_32, .ref q_32, .int (nI n), .ref aI]) C h k_I_init wm_I_init rfl lk_F_61 (c_I_init l D T A (wd_up σ q_32 (.inr (1, [.int 0, .int 0, .int 0, .int 0, .int 0, .int 0, .int 0, .int 0, .int 0, .int 0, .int 0, .int 0, .int 0, .int 0, .int 0, .null, .null]))) q_32 h_34 (xt kd w z) w z sd) rfl rfl ⟨Nat.le_of_ble_eq_true rfl, Nat.le_of_ble_eq_true rfl⟩ rfl hl.1 rfl (Nat.le_of_ble_eq_true rfl) d_F_item_101 ⟨Nat.le_of_ble_eq_true rfl, Nat.le_of_ble_eq_true rfl⟩) (fun σ_45 H locs hp_46 h => ?_)
                obtain ⟨q1, q2, i1, i2, i3, i4, i5, i6, i7⟩ := hp_46
                obtain ⟨j1, k1⟩ := wd_none i1
                obtain ⟨j2, k2⟩ := wd_none i2
                have h_47 : σ_45 x = some (.inr (0, [.ref aI, .int (nI n), .ref aC, .int (nI nc), .ref aJ, .ref aW, .ref aB, .ref aP])) := (i7 x ne_36 (wd_nn h_35 i1) (wd_nn h_35 i2)).trans h_35
                have h_48 : σ_45 aI = some (aQ T 2 120 fI) := (i7 aI ne_38 (wd_nn h_37 i1) (wd_nn h_37 i2)).trans h_37
                have hlt : n < 120 := (nI_ltI (a := n) (b := 120) (by omega) (by decide)).mp c_25
                refine wd_astq C h 2 rfl h_48 i6 rfl (vp_in_nI hlt (by decide)) d_F_item_104 (fun H locs h => ?_)
                have h : wd_C D T A s H locs (wd_up σ_45 aI (.inl (T 2, 120, .inr (.inr (.inr (.inr (va_up fI (nI n).toNatClampNeg (some q_32)))))))) := h
                have h_49 : (wd_up σ_45 aI (.inl (T 2, 120, .inr (.inr (.inr (.inr (va_up fI (nI n).toNatClampNeg (some q_32)))))))) aI = some (.inl (T 2, 120, .inr (.inr (.inr (.inr (va_up fI (nI n).toNatClampNeg (some q_32))))))) := wd_us _ _ _
                have h_50 : (wd_up σ_45 aI (.inl (T 2, 120, .inr (.inr (.inr (.inr (va_up fI (nI n).toNatClampNeg (some q_32)))))))) x = some (.inr (0, [.ref aI, .int (nI n), .ref aC, .int (nI nc), .ref aJ, .ref aW, .ref aB, .ref aP])) := wd_uk h_47 (wd_ne h_47 h_48 (by simp))
                have h_51 : (wd_up σ_45 aI (.inl (T 2, 120, .inr (.inr (.inr (.inr (va_up fI (nI n).toNatClampNeg (some q_32)))))))) q_32 = some (xI (newr (xt kd w z) w z sd) q1 q2) := wd_uk i6 (Ne.symm ne_38)
                have h_52 : (wd_up σ_45 aI (.inl (T 2, 120, .inr (.inr (.inr (.inr (va_up fI (nI n).toNatClampNeg (some q_32)))))))) q1 = some (aN T 4 (fun j => newr (xt kd w z) w z sd (15 + 2 * j))) := wd_uk i4 (wd_ne i4 h_48 (by simp))
                have h_53 : (wd_up σ_45 aI (.inl (T 2, 120, .inr (.inr (.inr (.inr (va_up fI (nI n).toNatClampNeg (some q_32)))))))) q2 = some (aN T 4 (fun j => newr (xt kd w z) w z sd (16 + 2 * j))) := wd_uk i5 (wd_ne i5 h_48 (by simp))
                refine lv_aload_n hx hb d_F_item_105 rfl (lv_at hl 0 rfl) ?_
                refine lv_dup hx hb d_F_item_106 rfl ?_
                refine wd_get C h kc_F h_50 1 (by decide) lk_F_15 rfl d_F_item_107 ?_
                refine lv_iconst (v := 1) hx hb d_F_item_110 (by decide) ?_
                refine lv_iadd hx hb d_F_item_111 ?_
                refine wd_put C h kc_F h_50 1 (by decide) lk_F_15 rfl (by rfl) (by rfl) (Nat.le_of_ble_eq_true rfl) d_F_item_112 (fun H locs h => ?_)
                have h : wd_C D T A s H locs (wd_up (wd_up σ_45 aI (.inl (T 2, 120, .inr (.inr (.inr (.inr (va_up fI (nI n).toNatClampNeg (some q_32)))))))) x (.inr (0, [.ref aI, .int ((nI n) + 1), .ref aC, .int (nI nc), .ref aJ, .ref aW, .ref aB, .ref aP]))) := h
                have h_54 : (wd_up (wd_up σ_45 aI (.inl (T 2, 120, .inr (.inr (.inr (.inr (va_up fI (nI n).toNatClampNeg (some q_32)))))))) x (.inr (0, [.ref aI, .int ((nI n) + 1), .ref aC, .int (nI nc), .ref aJ, .ref aW, .ref aB, .ref aP]))) x = some (.inr (0, [.ref aI, .int ((nI n) + 1), .ref aC, .int (nI nc), .ref aJ, .ref aW, .ref aB, .ref aP])) := wd_us _ _ _
                have h_55 : (wd_up (wd_up σ_45 aI (.inl (T 2, 120, .inr (.inr (.inr (.inr (va_up fI (nI n).toNatClampNeg (some q_32)))))))) x (.inr (0, [.ref aI, .int ((nI n) + 1), .ref aC, .int (nI nc), .ref aJ, .ref aW, .ref aB, .ref aP]))) aI = some (.inl (T 2, 120, .inr (.inr (.inr (.inr (va_up fI (nI n).toNatClampNeg (some q_32))))))) := wd_uk h_49 (wd_ne h_49 h_50 (by simp))
                have h_56 : (wd_up (wd_up σ_45 aI (.inl (T 2, 120, .inr (.inr (.inr (.inr (va_up fI (nI n).toNatClampNeg (some q_32)))))))) x (.inr (0, [.ref aI, .int ((nI n) + 1), .ref aC, .int (nI nc), .ref aJ, .ref aW, .ref aB, .ref aP]))) q_32 = some (xI (newr (xt kd w z) w z sd) q1 q2) := wd_uk h_51 (Ne.symm ne_36)
                have h_57 : (wd_up (wd_up σ_45 aI (.inl (T 2, 120, .inr (.inr (.inr (.inr (va_up fI (nI n).toNatClampNeg (some q_32)))))))) x (.inr (0, [.ref aI, .int ((nI n) + 1), .ref aC, .int (nI nc), .ref aJ, .ref aW, .ref aB, .ref aP]))) q1 = some (aN T 4 (fun j => newr (xt kd w z) w z sd (15 + 2 * j))) := wd_uk h_52 (wd_ne h_52 h_50 (by simp))
                have h_58 : (wd_up (wd_up σ_45 aI (.inl (T 2, 120, .inr (.inr (.inr (.inr (va_up fI (nI n).toNatClampNeg (some q_32)))))))) x (.inr (0, [.ref aI, .int ((nI n) + 1), .ref aC, .int (nI nc), .ref aJ, .ref aW, .ref aB, .ref aP]))) q2 = some (aN T 4 (fun j => newr (xt kd w z) w z sd (16 + 2 * j))) := wd_uk h_53 (wd_ne h_53 h_50 (by simp))
                refine lv_aload_n hx hb d_F_item_115 rfl (lv_at hl 0 rfl) ?_
                refine wd_get C h kc_F h_54 1 (by decide) lk_F_15 rfl d_F_item_116 ?_
                exact wd_iret C hr hlocks h (by unfold o_item; simp only [eq_false c_6, eq_false c_12, eq_false c_18, eq_false c_24, eq_true c_25, eq_true c_28, eq_true c_31, ↓reduceIte]; exact ⟨nI_1 n, hB.add (q := q_32) (q1 := q1) (q2 := q2) (r := newr (xt kd w z) w z sd) hlt hq_33 k1 k2 i3 (Ne.symm j1) (Ne.symm j2) h_56 h_57 h_58 (by rw [← nI_1]; exact h_54) (h_55.trans (by rw [nI_clamp (show n < 2 ^ 31 by omega)])) (fun b h1 h2 h3 h4 h5 => by rw [wd_un _ _ h4, wd_un _ _ h5, i7 b h1 h2 h3, wd_un _ _ h1]) rfl rfl⟩) (Nat.le_of_ble_eq_true rfl) (Nat.le_of_ble_eq_true rfl) d_F_item_119
              · refine lv_bipush (v := (-110)) hx hb d_F_item_76 (by decide) ?_
                exact wd_iret C hr hlocks h (by unfold o_item; simp only [eq_false c_6, eq_false c_12, eq_false c_18, eq_false c_24, eq_true c_25, eq_true c_28, eq_false c_31, ↓reduceIte]; exact ⟨trivial, hB.rx⟩) (Nat.le_of_ble_eq_true rfl) (Nat.le_of_ble_eq_true rfl) d_F_item_78
            · refine lv_bipush (v := (-109)) hx hb d_F_item_64 (by decide) ?_
              exact wd_iret C hr hlocks h (by unfold o_item; simp only [eq_false c_6, eq_false c_12, eq_false c_18, eq_false c_24, eq_true c_25, eq_false c_28, ↓reduceIte]; exact ⟨trivial, hB.rx⟩) (Nat.le_of_ble_eq_true rfl) (Nat.le_of_ble_eq_true rfl) d_F_item_66
          · refine lv_bipush (v := (-104)) hx hb d_F_item_52 (by decide) ?_
            exact wd_iret C hr hlocks h (by unfold o_item; simp only [eq_false c_6, eq_false c_12, eq_false c_18, eq_false c_24, eq_false c_25, ↓reduceIte]; exact ⟨trivial, hB.rx⟩) (Nat.le_of_ble_eq_true rfl) (Nat.le_of_ble_eq_true rfl) d_F_item_54
        · refine lv_bipush (v := (-102)) hx hb d_F_item_40 (by decide) ?_
          exact wd_iret C hr hlocks h (by unfold o_item; simp only [eq_false c_6, eq_false c_12, eq_false c_18, eq_true c_24, ↓reduceIte]; exact ⟨trivial, hB.rx⟩) (Nat.le_of_ble_eq_true rfl) (Nat.le_of_ble_eq_true rfl) d_F_item_42

theorem xm0_k {r : Nat → Int32} {wh v : Int32} (h : okr r) (hy : ¬ xy wh v = 0) : xm0 r wh v 0 = 0 ∨ xm0 r wh v 0 = 1 ∨ xm0 r wh v 0 = 2 ∨ xm0 r wh v 0 = 3 := by
  by_cases h0 : wh = 0
  · subst h0
    have hy : ¬ xw v 0 3 = 0 := by simpa [xy] using hy
    simpa [xm0, upd] using xw_03 hy
  · have : xm0 r wh v 0 = r 0 := by
      unfold xm0
      rw [if_neg h0]
      repeat' split
      all_goals first | rfl | exact pk_un (by decide)
    rw [this]
    exact h.k

set_option maxHeartbeats 4000000 in
set_option maxRecDepth 20000 in
theorem c_F_correct (l : Launch) (D : va_G) (T : Nat → ClassId) (A : Nat → Prop) (σ : wd_S) (x n : Nat) (R : Nat → Nat → Int32) (nc : Nat) (CR : Nat → Nat → Int32) (wg : Nat → Int32) (Q : pq) (aI aC aJ aW aB aP ab : Nat) (fI fC : Nat → Option Nat) (jn wn bk qb : Nat → Int32) (ia aa ca : Nat → Nat) (hB : RB T σ x n R nc CR wg Q aI aC aJ aW aB aP ab fI fC jn wn bk qb ia aa ca) (hok : ∀ k, k < n → okr (R k)) (i wh v re : Int32) : Met l y_F_correct (Cond.code y_F_correct b_F_correct 6 (some .int) :: wd_tb) { frames := 2, cells := 1, slots := 5, locals := 45 } (va_Pc [.ref x, .int i, .int wh, .int v, .int re] (wd_Pre D T A σ)) (va_Qi (fun r1 σ1 => r1 = (o_corr (n, R, nc, CR, wg, Q) i wh v re).1 ∧ RX T σ1 x (o_corr (n, R, nc, CR, wg, Q) i wh v re).2) (wd_B D A) A) 1 5 A := by
  refine wd_ofW (by decide) (Nat.le_of_ble_eq_true rfl) ?_
  intro p e s m below meth c0 ls C hr hlocks hname h hl
  have hl : lv_has ls 6 [(0, .ref x), (1, .int i), (2, .int wh), (3, .int v), (4, .int re)] := hl
  have hx := C.1
  have hb := C.2.1
  obtain ⟨b1, b2, b3, b4, b5, b6, b7, b8, b9, b10, b11, b12, b13, b14⟩ := id hB
  refine lv_aload_n hx hb d_F_correct_0 rfl (lv_at hl 0 rfl) ?_
  refine lv_iload_n hx hb d_F_correct_1 rfl (lv_at hl 1 rfl) ?_
  refine wd_cq h (wd_rV (rest := []) (st0 := [.int i, .ref x]) C h kc_F b1 k_F_find wm_F_find wz_F_find lk_F_64 (c_F_find l D T A σ x aI n fI ia _ _ _ _ _ _ b1 b2 b12 (fun k hk => (b9.1 k hk).1) i) rfl rfl ⟨Nat.le_of_ble_eq_true rfl, Nat.le_of_ble_eq_true rfl⟩ rfl hl.1 rfl (Nat.le_of_ble_eq_true rfl) d_F_correct_2 ⟨Nat.le_of_ble_eq_true rfl, Nat.le_of_ble_eq_true rfl⟩) (fun r_1 σ_2 H locs hp_3 h => ?_)
  obtain ⟨e_4, es_5⟩ := hp_3
  rw [es_5] at h
  rw [e_4]
  rcases hf : o_find n i with _ | k
  · refine W.eq (g2 := F0 m 5 ls [.null]) rfl ?_
    refine lv_astoreN (lv' := [(5, .null), (0, .ref x), (1, .int i), (2, .int wh), (3, .int v), (4, .int re)]) hx hb d_F_correct_5 hl (by decide) rfl (fun ls hl => ?_)
    refine lv_aloadN hx hb d_F_correct_7 (lv_at hl 0 rfl) ?_
    refine lv_ifnonnullN hx hb d_F_correct_9 ?_
    refine lv_bipush (v := (-101)) hx hb d_F_correct_12 (by decide) ?_
    exact wd_iret C hr hlocks h (by unfold o_corr; rw [show o_find (n, R, nc, CR, wg, Q).1 i = none from hf]; exact ⟨rfl, hB.rx⟩) (Nat.le_of_ble_eq_true rfl) (Nat.le_of_ble_eq_true rfl) d_F_correct_14
  · refine W.eq (g2 := F0 m 5 ls [.ref (ia k)]) rfl ?_
    obtain ⟨hk, hik1, hik⟩ := o_find_some b12 hf
    obtain ⟨g1, g2, g3, g4⟩ := b9.1 k hk
    refine lv_astore (lv' := [(5, .ref (ia k)), (0, .ref x), (1, .int i), (2, .int wh), (3, .int v), (4, .int re)]) hx hb d_F_correct_5 hl (by decide) rfl (fun ls hl => ?_)
    refine lv_aload hx hb d_F_correct_7 (lv_at hl 0 rfl) ?_
    refine lv_ifnonnull (tgt := 15) hx hb d_F_correct_9 (by decide) ?_
    refine lv_iload_n hx hb d_F_correct_15 rfl (lv_at hl 3 rfl) ?_
    refine lv_iload_n hx hb d_F_correct_16 rfl (lv_at hl 4 rfl) ?_
    refine wd_ci h (wd_rS (rest := []) (st0 := [.int v, .int wh]) C h k_F_mayBecome wt_F_mayBecome lk_F_138 (c_F_mayBecome l D T A σ wh v) rfl rfl ⟨Nat.le_of_ble_eq_true rfl, Nat.le_of_ble_eq_true rfl⟩ rfl hl.1 rfl (Nat.le_of_ble_eq_true rfl) d_F_correct_17 ⟨Nat.le_of_ble_eq_true rfl, Nat.le_of_ble_eq_true rfl⟩) (fun r_6 σ_7 H locs hp_8 h => ?_)
    obtain ⟨e_9, es_10⟩ := hp_8
    rw [es_10] at h
    subst e_9
    refine lv_if_eq (tgt := 34) hx hb d_F_correct_20 (by decide) (fun c_11 => ?_) (fun c_11 => ?_)
    · refine lv_bipush (v := (-102)) hx hb d_F_correct_34 (by decide) ?_
      exact wd_iret C hr hlocks h (by unfold o_corr; rw [show o_find (n, R, nc, CR, wg, Q).1 i = some k from hf]; simp only [eq_true c_11, ↓reduceIte, true_and, false_and, not_true_eq_false, not_false_eq_true, and_true, and_false]; first | exact ⟨trivial, hB.rx⟩ | exact hB.rx) (Nat.le_of_ble_eq_true rfl) (Nat.le_of_ble_eq_true rfl) d_F_correct_36
    · refine lv_iload hx hb d_F_correct_23 (lv_at hl 5 rfl) ?_
      refine lv_iconst (v := 1) hx hb d_F_correct_25 (by decide) ?_
      refine lv_bipush (v := 9) hx hb d_F_correct_26 (by decide) ?_
      refine wd_ci h (wd_rS (rest := []) (st0 := [.int 9, .int 1, .int re]) C h k_F_within wt_F_within lk_F_46 (c_F_within l D T A σ re 1 9) rfl rfl ⟨Nat.le_of_ble_eq_true rfl, Nat.le_of_ble_eq_true rfl⟩ rfl hl.1 rfl (Nat.le_of_ble_eq_true rfl) d_F_correct_28 ⟨Nat.le_of_ble_eq_true rfl, Nat.le_of_ble_eq_true rfl⟩) (fun r_12 σ_13 H locs hp_14 h => ?_)
      obtain ⟨e_15, es_16⟩ := hp_14
      rw [es_16] at h
      subst e_15
      refine lv_if_ne (tgt := 37) hx hb d_F_correct_31 (by decide) (fun c_17 => ?_) (fun c_17 => ?_)
      · refine lv_aload hx hb d_F_correct_37 (lv_at hl 0 rfl) ?_
        refine lv_iload_n hx hb d_F_correct_39 rfl (lv_at hl 3 rfl) ?_
        refine lv_iload_n hx hb d_F_correct_40 rfl (lv_at hl 4 rfl) ?_
        refine wd_ci h (wd_rVN (rest := []) (st0 := [.int v, .int wh, .ref (ia k)]) C h kc_I g2 k_I_wouldStay wm_I_wouldStay wz_I_wouldStay lk_F_142 (c_I_wouldStay l D T A σ (ia k) (R k) (aa (2 * k)) (aa (2 * k + 1)) g2 wh v) rfl rfl ⟨Nat.le_of_ble_eq_true rfl, Nat.le_of_ble_eq_true rfl⟩ rfl hl.1 rfl (Nat.le_of_ble_eq_true rfl) d_F_correct_41 ⟨Nat.le_of_ble_eq_true rfl, Nat.le_of_ble_eq_true rfl⟩) (fun r_18 σ_19 H locs hp_20 h => ?_)
        obtain ⟨e_21, es_22⟩ := hp_20
        rw [es_22] at h
        subst e_21
        refine lv_if_eq (tgt := 50) hx hb d_F_correct_44 (by decide) (fun c_23 => ?_) (fun c_23 => ?_)
        · refine lv_aload_n hx hb d_F_correct_50 rfl (lv_at hl 1 rfl) ?_
          refine wd_get C h kc_F b1 3 (by decide) lk_F_25 rfl d_F_correct_51 ?_
          refine lv_sipush (v := 200) hx hb d_F_correct_54 (by decide) ?_
          refine lv_icmp_lt (tgt := 63) hx hb d_F_correct_57 (by decide) (fun c_24 => ?_) (fun c_24 => ?_)
          · refine lv_iload_n hx hb d_F_correct_63 rfl (lv_at hl 3 rfl) ?_
            refine lv_iconst (v := 1) hx hb d_F_correct_64 (by decide) ?_
            refine lv_icmp_ne (tgt := 80) hx hb d_F_correct_65 (by decide) (fun c_25 => ?_) (fun c_25 => ?_)
            · refine lv_iload_n hx hb d_F_correct_80 rfl (lv_at hl 3 rfl) ?_
              refine lv_iconst (v := 2) hx hb d_F_correct_81 (by decide) ?_
              refine lv_icmp_ne (tgt := 97) hx hb d_F_correct_82 (by decide) (fun c_26 => ?_) (fun c_26 => ?_)
              · refine lv_aload_n hx hb d_F_correct_97 rfl (lv_at hl 1 rfl) ?_
                refine wd_get C h kc_F b1 2 (by decide) lk_F_21 rfl d_F_correct_98 ?_
                refine lv_aload_n hx hb d_F_correct_101 rfl (lv_at hl 1 rfl) ?_
                refine wd_get C h kc_F b1 3 (by decide) lk_F_25 rfl d_F_correct_102 ?_
                refine wd_new (fs := [.int 0, .int 0, .int 0, .int 0, .int 0]) C h kc_C lk_F_19 wn_C wi_C df_C (Nat.le_of_ble_eq_true rfl) (Nat.le_of_ble_eq_true rfl) d_F_correct_105 (fun q_27 H hq_28 h => ?_)
                have ne_31 : x ≠ q_27 := wd_nn b1 hq_28
                have h_30 : (wd_up σ q_27 (.inr (2, [.int 0, .int 0, .int 0, .int 0, .int 0]))) x = some (.inr (0, [.ref aI, .int (nI n), .ref aC, .int (nI nc), .ref aJ, .ref aW, .ref aB, .ref aP])) := wd_uk b1 ne_31
                have ne_33 : aC ≠ q_27 := wd_nn b3 hq_28
                have h_32 : (wd_up σ q_27 (.inr (2, [.int 0, .int 0, .int 0, .int 0, .int 0]))) aC = some (aQ T 3 200 fC) := wd_uk b3 ne_33
                have ne_35 : (ia k) ≠ q_27 := wd_nn g2 hq_28
                have h_34 : (wd_up σ q_27 (.inr (2, [.int 0, .int 0, .int 0, .int 0, .int 0]))) (ia k) = some (xI (R k) (aa (2 * k)) (aa (2 * k + 1))) := wd_uk g2 ne_35
                have h_29 : (wd_up σ q_27 (.inr (2, [.int 0, .int 0, .int 0, .int 0, .int 0]))) q_27 = some (.inr (2, [.int 0, .int 0, .int 0, .int 0, .int 0])) := wd_us _ _ _
                refine lv_dup hx hb d_F_correct_108 rfl ?_
                refine lv_iload_n hx hb d_F_correct_109 rfl (lv_at hl 2 rfl) ?_
                refine lv_iload_n hx hb d_F_correct_110 rfl (lv_at hl 3 rfl) ?_
                refine lv_aload hx hb d_F_correct_111 (lv_at hl 0 rfl) ?_
                refine lv_iload_n hx hb d_F_correct_113 rfl (lv_at hl 3 rfl) ?_
                refine wd_ci h (wd_rVN (rest := [.int wh, .int i, .ref q_27, .ref q_27, .int (nI nc), .ref aC]) (st0 := [.int wh, .ref (ia k), .int wh, .int i, .ref q_27, .ref q_27, .int (nI nc), .ref aC]) C h kc_I h_34 k_I_correctable wm_I_correctable wz_I_correctable lk_F_145 (c_I_correctable l D T A (wd_up σ q_27 (.inr (2, [.int 0, .int 0, .int 0, .int 0, .int 0]))) (ia k) (R k) (aa (2 * k)) (aa (2 * k + 1)) h_34 wh) rfl rfl ⟨Nat.le_of_ble_eq_true rfl, Nat.le_of_ble_eq_true rfl⟩ rfl hl.1 rfl (Nat.le_of_ble_eq_true rfl) d_F_correct_114 ⟨Nat.le_of_ble_eq_true rfl, Nat.le_of_ble_eq_true rfl⟩) (fun r_36 σ_37 H locs hp_38 h => ?_)
                obtain ⟨e_39, es_40⟩ := hp_38
                rw [es_40] at h
                subst e_39
                refine lv_iload_n hx hb d_F_correct_117 rfl (lv_at hl 4 rfl) ?_
                refine lv_iload hx hb d_F_correct_118 (lv_at hl 5 rfl) ?_
                refine wd_cv h (wd_rIN (rest := [.ref q_27, .int (nI nc), .ref aC]) (st0 := [.int re, .int v, .int (xc (R k) wh), .int wh, .int i, .ref q_27, .ref q_27, .int (nI nc), .ref aC]) C h k_C_init wm_C_init rfl lk_F_148 (c_C_init l D T A (wd_up σ q_27 (.inr (2, [.int 0, .int 0, .int 0, .int 0, .int 0]))) q_27 h_29 i wh (xc (R k) wh) v re) rfl rfl ⟨Nat.le_of_ble_eq_true rfl, Nat.le_of_ble_eq_true rfl⟩ rfl hl.1 rfl (Nat.le_of_ble_eq_true rfl) d_F_correct_120 ⟨Nat.le_of_ble_eq_true rfl, Nat.le_of_ble_eq_true rfl⟩) (fun σ_42 H locs hp_43 h => ?_)
                rw [wd_uu] at hp_43
                rw [hp_43] at h
                have hqc : (wd_up σ q_27 (xC (crow i wh (xc (R k) wh) v re))) q_27 = some (xC (crow i wh (xc (R k) wh) v re)) := wd_us _ _ _
                have h_44 : (wd_up σ q_27 (xC (crow i wh (xc (R k) wh) v re))) x = some (.inr (0, [.ref aI, .int (nI n), .ref aC, .int (nI nc), .ref aJ, .ref aW, .ref aB, .ref aP])) := wd_uk b1 ne_31
                have h_45 : (wd_up σ q_27 (xC (crow i wh (xc (R k) wh) v re))) aC = some (aQ T 3 200 fC) := wd_uk b3 ne_33
                have h_46 : (wd_up σ q_27 (xC (crow i wh (xc (R k) wh) v re))) (ia k) = some (xI (R k) (aa (2 * k)) (aa (2 * k + 1))) := wd_uk g2 ne_35
                have hlt : nc < 200 := (nI_ltI (a := nc) (b := 200) (by omega) (by decide)).mp c_24
                refine wd_astq C h 3 rfl h_45 hqc rfl (vp_in_nI hlt (by decide)) d_F_correct_123 (fun H locs h => ?_)
                have h : wd_C D T A s H locs (wd_up (wd_up σ q_27 (xC (crow i wh (xc (R k) wh) v re))) aC (.inl (T 3, 200, .inr (.inr (.inr (.inr (va_up fC (nI nc).toNatClampNeg (some q_27)))))))) := h
                have h_47 : (wd_up (wd_up σ q_27 (xC (crow i wh (xc (R k) wh) v re))) aC (.inl (T 3, 200, .inr (.inr (.inr (.inr (va_up fC (nI nc).toNatClampNeg (some q_27)))))))) aC = some (.inl (T 3, 200, .inr (.inr (.inr (.inr (va_up fC (nI nc).toNatClampNeg (some q_27))))))) := wd_us _ _ _
                have h_48 : (wd_up (wd_up σ q_27 (xC (crow i wh (xc (R k) wh) v re))) aC (.inl (T 3, 200, .inr (.inr (.inr (.inr (va_up fC (nI nc).toNatClampNeg (some q_27)))))))) x = some (.inr (0, [.ref aI, .int (nI n), .ref aC, .int (nI nc), .ref aJ, .ref aW, .ref aB, .ref aP])) := wd_uk h_44 (wd_ne h_44 h_45 (by simp))
                have h_49 : (wd_up (wd_up σ q_27 (xC (crow i wh (xc (R k) wh) v re))) aC (.inl (T 3, 200, .inr (.inr (.inr (.inr (va_up fC (nI nc).toNatClampNeg (some q_27)))))))) (ia k) = some (xI (R k) (aa (2 * k)) (aa (2 * k + 1))) := wd_uk h_46 (wd_ne h_46 h_45 (by simp))
                have h_50 : (wd_up (wd_up σ q_27 (xC (crow i wh (xc (R k) wh) v re))) aC (.inl (T 3, 200, .inr (.inr (.inr (.inr (va_up fC (nI nc).toNatClampNeg (some q_27)))))))) q_27 = some (xC (crow i wh (xc (R k) wh) v re)) := wd_uk hqc (Ne.symm ne_33)
                refine lv_aload_n hx hb d_F_correct_124 rfl (lv_at hl 1 rfl) ?_
                refine lv_dup hx hb d_F_correct_125 rfl ?_
                refine wd_get C h kc_F h_48 3 (by decide) lk_F_25 rfl d_F_correct_126 ?_
                refine lv_iconst (v := 1) hx hb d_F_correct_129 (by decide) ?_
                refine lv_iadd hx hb d_F_correct_130 ?_
                refine wd_put C h kc_F h_48 3 (by decide) lk_F_25 rfl (by rfl) (by rfl) (Nat.le_of_ble_eq_true rfl) d_F_correct_131 (fun H locs h => ?_)
                have h : wd_C D T A s H locs (wd_up (wd_up (wd_up σ q_27 (xC (crow i wh (xc (R k) wh) v re))) aC (.inl (T 3, 200, .inr (.inr (.inr (.inr (va_up fC (nI nc).toNatClampNeg (some q_27)))))))) x (.inr (0, [.ref aI, .int (nI n), .ref aC, .int ((nI nc) + 1), .ref aJ, .ref aW, .ref aB, .ref aP]))) := h
                have h_51 : (wd_up (wd_up (wd_up σ q_27 (xC (crow i wh (xc (R k) wh) v re))) aC (.inl (T 3, 200, .inr (.inr (.inr (.inr (va_up fC (nI nc).toNatClampNeg (some q_27)))))))) x (.inr (0, [.ref aI, .int (nI n), .ref aC, .int ((nI nc) + 1), .ref aJ, .ref aW, .ref aB, .ref aP]))) x = some (.inr (0, [.ref aI, .int (nI n), .ref aC, .int ((nI nc) + 1), .ref aJ, .ref aW, .ref aB, .ref aP])) := wd_us _ _ _
                have h_52 : (wd_up (wd_up (wd_up σ q_27 (xC (crow i wh (xc (R k) wh) v re))) aC (.inl (T 3, 200, .inr (.inr (.inr (.inr (va_up fC (nI nc).toNatClampNeg (some q_27)))))))) x (.inr (0, [.ref aI, .int (nI n), .ref aC, .int ((nI nc) + 1), .ref aJ, .ref aW, .ref aB, .ref aP]))) aC = some (.inl (T 3, 200, .inr (.inr (.inr (.inr (va_up fC (nI nc).toNatClampNeg (some q_27))))))) := wd_uk h_47 (wd_ne h_47 h_48 (by simp))
                have h_53 : (wd_up (wd_up (wd_up σ q_27 (xC (crow i wh (xc (R k) wh) v re))) aC (.inl (T 3, 200, .inr (.inr (.inr (.inr (va_up fC (nI nc).toNatClampNeg (some q_27)))))))) x (.inr (0, [.ref aI, .int (nI n), .ref aC, .int ((nI nc) + 1), .ref aJ, .ref aW, .ref aB, .ref aP]))) (ia k) = some (xI (R k) (aa (2 * k)) (aa (2 * k + 1))) := wd_uk h_49 (wd_ne h_49 h_48 (by simp))
                have h_54 : (wd_up (wd_up (wd_up σ q_27 (xC (crow i wh (xc (R k) wh) v re))) aC (.inl (T 3, 200, .inr (.inr (.inr (.inr (va_up fC (nI nc).toNatClampNeg (some q_27)))))))) x (.inr (0, [.ref aI, .int (nI n), .ref aC, .int ((nI nc) + 1), .ref aJ, .ref aW, .ref aB, .ref aP]))) q_27 = some (xC (crow i wh (xc (R k) wh) v re)) := wd_uk h_50 (Ne.symm ne_31)
                refine lv_aload hx hb d_F_correct_134 (lv_at hl 0 rfl) ?_
                refine lv_iload_n hx hb d_F_correct_136 rfl (lv_at hl 3 rfl) ?_
                refine lv_iload_n hx hb d_F_correct_137 rfl (lv_at hl 4 rfl) ?_
                refine wd_cv h (wd_rVN (rest := []) (st0 := [.int v, .int wh, .ref (ia k)]) C h kc_I h_53 k_I_become wm_I_become wz_I_become lk_F_151 (c_I_become l D T A (wd_up (wd_up (wd_up σ q_27 (xC (crow i wh (xc (R k) wh) v re))) aC (.inl (T 3, 200, .inr (.inr (.inr (.inr (va_up fC (nI nc).toNatClampNeg (some q_27)))))))) x (.inr (0, [.ref aI, .int (nI n), .ref aC, .int ((nI nc) + 1), .ref aJ, .ref aW, .ref aB, .ref aP]))) (ia k) (R k) (aa (2 * k)) (aa (2 * k + 1)) h_53 wh v (xm0_k (hok k hk) c_11)) rfl rfl ⟨Nat.le_of_ble_eq_true rfl, Nat.le_of_ble_eq_true rfl⟩ rfl hl.1 rfl (Nat.le_of_ble_eq_true rfl) d_F_correct_138 ⟨Nat.le_of_ble_eq_true rfl, Nat.le_of_ble_eq_true rfl⟩) (fun σ_56 H locs hp_57 h => ?_)
                rw [hp_57] at h
                have h : wd_C D T A s H locs (wd_up (wd_up (wd_up (wd_up σ q_27 (xC (crow i wh (xc (R k) wh) v re))) aC (.inl (T 3, 200, .inr (.inr (.inr (.inr (va_up fC (nI nc).toNatClampNeg (some q_27)))))))) x (.inr (0, [.ref aI, .int (nI n), .ref aC, .int ((nI nc) + 1), .ref aJ, .ref aW, .ref aB, .ref aP]))) (ia k) (xI (xm (R k) wh v) (aa (2 * k)) (aa (2 * k + 1)))) := h
                have h_58 : (wd_up (wd_up (wd_up (wd_up σ q_27 (xC (crow i wh (xc (R k) wh) v re))) aC (.inl (T 3, 200, .inr (.inr (.inr (.inr (va_up fC (nI nc).toNatClampNeg (some q_27)))))))) x (.inr (0, [.ref aI, .int (nI n), .ref aC, .int ((nI nc) + 1), .ref aJ, .ref aW, .ref aB, .ref aP]))) (ia k) (xI (xm (R k) wh v) (aa (2 * k)) (aa (2 * k + 1)))) (ia k) = some (xI (xm (R k) wh v) (aa (2 * k)) (aa (2 * k + 1))) := wd_us _ _ _
                have h_59 : (wd_up (wd_up (wd_up (wd_up σ q_27 (xC (crow i wh (xc (R k) wh) v re))) aC (.inl (T 3, 200, .inr (.inr (.inr (.inr (va_up fC (nI nc).toNatClampNeg (some q_27)))))))) x (.inr (0, [.ref aI, .int (nI n), .ref aC, .int ((nI nc) + 1), .ref aJ, .ref aW, .ref aB, .ref aP]))) (ia k) (xI (xm (R k) wh v) (aa (2 * k)) (aa (2 * k + 1)))) x = some (.inr (0, [.ref aI, .int (nI n), .ref aC, .int ((nI nc) + 1), .ref aJ, .ref aW, .ref aB, .ref aP])) := wd_uk h_51 (wd_ne h_51 h_53 (by simp))
                have h_60 : (wd_up (wd_up (wd_up (wd_up σ q_27 (xC (crow i wh (xc (R k) wh) v re))) aC (.inl (T 3, 200, .inr (.inr (.inr (.inr (va_up fC (nI nc).toNatClampNeg (some q_27)))))))) x (.inr (0, [.ref aI, .int (nI n), .ref aC, .int ((nI nc) + 1), .ref aJ, .ref aW, .ref aB, .ref aP]))) (ia k) (xI (xm (R k) wh v) (aa (2 * k)) (aa (2 * k + 1)))) aC = some (.inl (T 3, 200, .inr (.inr (.inr (.inr (va_up fC (nI nc).toNatClampNeg (some q_27))))))) := wd_uk h_52 (wd_ne h_52 h_53 (by simp))
                have h_61 : (wd_up (wd_up (wd_up (wd_up σ q_27 (xC (crow i wh (xc (R k) wh) v re))) aC (.inl (T 3, 200, .inr (.inr (.inr (.inr (va_up fC (nI nc).toNatClampNeg (some q_27)))))))) x (.inr (0, [.ref aI, .int (nI n), .ref aC, .int ((nI nc) + 1), .ref aJ, .ref aW, .ref aB, .ref aP]))) (ia k) (xI (xm (R k) wh v) (aa (2 * k)) (aa (2 * k + 1)))) q_27 = some (xC (crow i wh (xc (R k) wh) v re)) := wd_uk h_54 (Ne.symm ne_35)
                refine lv_aload_n hx hb d_F_correct_141 rfl (lv_at hl 1 rfl) ?_
                refine wd_get C h kc_F h_59 3 (by decide) lk_F_25 rfl d_F_correct_142 ?_
                exact wd_iret C hr hlocks h (by unfold o_corr; rw [show o_find (n, R, nc, CR, wg, Q).1 i = some k from hf]; simp only [eq_false c_11, eq_false c_17, eq_true c_23, eq_true c_24, eq_false c_25, eq_false c_26, ↓reduceIte, true_and, false_and, not_true_eq_false, not_false_eq_true, and_true, and_false]; exact ⟨nI_1 nc, hB.corr (q := q_27) (r := xm (R k) wh v) (c := crow i wh (xc (R k) wh) v re) hlt hk hq_28 h_61 (by rw [← nI_1]; exact h_59) (h_60.trans (by rw [nI_clamp (show nc < 2 ^ 31 by omega)])) h_58 (fun b h1 h2 h3 h4 => by rw [wd_un _ _ h4, wd_un _ _ h2, wd_un _ _ h3, wd_un _ _ h1]) (xm_lo (by decide)) (xm_lo (by decide)) (fun j hj => xm_lo (by omega))⟩) (Nat.le_of_ble_eq_true rfl) (Nat.le_of_ble_eq_true rfl) d_F_correct_145
              · refine lv_iload_n hx hb d_F_correct_85 rfl (lv_at hl 4 rfl) ?_
                refine wd_gets C h ks_bs lk_F_54 d_F_correct_86 (fun t_62 ht_63 => ?_)
                refine lv_iconst (v := 3) hx hb d_F_correct_89 (by decide) ?_
                refine wd_ti C h ht_63 (by unfold vp_in; decide) d_F_correct_90 ?_
                refine W.eq (g2 := F0 m 91 ls (.int 3 :: .int v :: [])) rfl ?_
                refine lv_icmp_le (tgt := 97) hx hb d_F_correct_91 (by decide) (fun c_64 => ?_) (fun c_64 => ?_)
                · refine lv_aload_n hx hb d_F_correct_97 rfl (lv_at hl 1 rfl) ?_
                  refine wd_get C h kc_F b1 2 (by decide) lk_F_21 rfl d_F_correct_98 ?_
                  refine lv_aload_n hx hb d_F_correct_101 rfl (lv_at hl 1 rfl) ?_
                  refine wd_get C h kc_F b1 3 (by decide) lk_F_25 rfl d_F_correct_102 ?_
                  refine wd_new (fs := [.int 0, .int 0, .int 0, .int 0, .int 0]) C h kc_C lk_F_19 wn_C wi_C df_C (Nat.le_of_ble_eq_true rfl) (Nat.le_of_ble_eq_true rfl) d_F_correct_105 (fun q_65 H hq_66 h => ?_)
                  have ne_69 : x ≠ q_65 := wd_nn b1 hq_66
                  have h_68 : (wd_up σ q_65 (.inr (2, [.int 0, .int 0, .int 0, .int 0, .int 0]))) x = some (.inr (0, [.ref aI, .int (nI n), .ref aC, .int (nI nc), .ref aJ, .ref aW, .ref aB, .ref aP])) := wd_uk b1 ne_69
                  have ne_71 : aC ≠ q_65 := wd_nn b3 hq_66
                  have h_70 : (wd_up σ q_65 (.inr (2, [.int 0, .int 0, .int 0, .int 0, .int 0]))) aC = some (aQ T 3 200 fC) := wd_uk b3 ne_71
                  have ne_73 : (ia k) ≠ q_65 := wd_nn g2 hq_66
                  have h_72 : (wd_up σ q_65 (.inr (2, [.int 0, .int 0, .int 0, .int 0, .int 0]))) (ia k) = some (xI (R k) (aa (2 * k)) (aa (2 * k + 1))) := wd_uk g2 ne_73
                  have h_67 : (wd_up σ q_65 (.inr (2, [.int 0, .int 0, .int 0, .int 0, .int 0]))) q_65 = some (.inr (2, [.int 0, .int 0, .int 0, .int 0, .int 0])) := wd_us _ _ _
                  refine lv_dup hx hb d_F_correct_108 rfl ?_
                  refine lv_iload_n hx hb d_F_correct_109 rfl (lv_at hl 2 rfl) ?_
                  refine lv_iload_n hx hb d_F_correct_110 rfl (lv_at hl 3 rfl) ?_
                  refine lv_aload hx hb d_F_correct_111 (lv_at hl 0 rfl) ?_
                  refine lv_iload_n hx hb d_F_correct_113 rfl (lv_at hl 3 rfl) ?_
                  refine wd_ci h (wd_rVN (rest := [.int wh, .int i, .ref q_65, .ref q_65, .int (nI nc), .ref aC]) (st0 := [.int wh, .ref (ia k), .int wh, .int i, .ref q_65, .ref q_65, .int (nI nc), .ref aC]) C h kc_I h_72 k_I_correctable wm_I_correctable wz_I_correctable lk_F_145 (c_I_correctable l D T A (wd_up σ q_65 (.inr (2, [.int 0, .int 0, .int 0, .int 0, .int 0]))) (ia k) (R k) (aa (2 * k)) (aa (2 * k + 1)) h_72 wh) rfl rfl ⟨Nat.le_of_ble_eq_true rfl, Nat.le_of_ble_eq_true rfl⟩ rfl hl.1 rfl (Nat.le_of_ble_eq_true rfl) d_F_correct_114 ⟨Nat.le_of_ble_eq_true rfl, Nat.le_of_ble_eq_true rfl⟩) (fun r_74 σ_75 H locs hp_76 h => ?_)
                  obtain ⟨e_77, es_78⟩ := hp_76
                  rw [es_78] at h
                  subst e_77
                  refine lv_iload_n hx hb d_F_correct_117 rfl (lv_at hl 4 rfl) ?_
                  refine lv_iload hx hb d_F_correct_118 (lv_at hl 5 rfl) ?_
                  refine wd_cv h (wd_rIN (rest := [.ref q_65, .int (nI nc), .ref aC]) (st0 := [.int re, .int v, .int (xc (R k) wh), .int wh, .int i, .ref q_65, .ref q_65, .int (nI nc), .ref aC]) C h k_C_init wm_C_init rfl lk_F_148 (c_C_init l D T A (wd_up σ q_65 (.inr (2, [.int 0, .int 0, .int 0, .int 0, .int 0]))) q_65 h_67 i wh (xc (R k) wh) v re) rfl rfl ⟨Nat.le_of_ble_eq_true rfl, Nat.le_of_ble_eq_true rfl⟩ rfl hl.1 rfl (Nat.le_of_ble_eq_true rfl) d_F_correct_120 ⟨Nat.le_of_ble_eq_true rfl, Nat.le_of_ble_eq_true rfl⟩) (fun σ_80 H locs hp_81 h => ?_)
                  rw [wd_uu] at hp_81
                  rw [hp_81] at h
                  have hqc : (wd_up σ q_65 (xC (crow i wh (xc (R k) wh) v re))) q_65 = some (xC (crow i wh (xc (R k) wh) v re)) := wd_us _ _ _
                  have h_82 : (wd_up σ q_65 (xC (crow i wh (xc (R k) wh) v re))) x = some (.inr (0, [.ref aI, .int (nI n), .ref aC, .int (nI nc), .ref aJ, .ref aW, .ref aB, .ref aP])) := wd_uk b1 ne_69
                  have h_83 : (wd_up σ q_65 (xC (crow i wh (xc (R k) wh) v re))) aC = some (aQ T 3 200 fC) := wd_uk b3 ne_71
                  have h_84 : (wd_up σ q_65 (xC (crow i wh (xc (R k) wh) v re))) (ia k) = some (xI (R k) (aa (2 * k)) (aa (2 * k + 1))) := wd_uk g2 ne_73
                  have hlt : nc < 200 := (nI_ltI (a := nc) (b := 200) (by omega) (by decide)).mp c_24
                  refine wd_astq C h 3 rfl h_83 hqc rfl (vp_in_nI hlt (by decide)) d_F_correct_123 (fun H locs h => ?_)
                  have h : wd_C D T A s H locs (wd_up (wd_up σ q_65 (xC (crow i wh (xc (R k) wh) v re))) aC (.inl (T 3, 200, .inr (.inr (.inr (.inr (va_up fC (nI nc).toNatClampNeg (some q_65)))))))) := h
                  have h_85 : (wd_up (wd_up σ q_65 (xC (crow i wh (xc (R k) wh) v re))) aC (.inl (T 3, 200, .inr (.inr (.inr (.inr (va_up fC (nI nc).toNatClampNeg (some q_65)))))))) aC = some (.inl (T 3, 200, .inr (.inr (.inr (.inr (va_up fC (nI nc).toNatClampNeg (some q_65))))))) := wd_us _ _ _
                  have h_86 : (wd_up (wd_up σ q_65 (xC (crow i wh (xc (R k) wh) v re))) aC (.inl (T 3, 200, .inr (.inr (.inr (.inr (va_up fC (nI nc).toNatClampNeg (some q_65)))))))) x = some (.inr (0, [.ref aI, .int (nI n), .ref aC, .int (nI nc), .ref aJ, .ref aW, .ref aB, .ref aP])) := wd_uk h_82 (wd_ne h_82 h_83 (by simp))
                  have h_87 : (wd_up (wd_up σ q_65 (xC (crow i wh (xc (R k) wh) v re))) aC (.inl (T 3, 200, .inr (.inr (.inr (.inr (va_up fC (nI nc).toNatClampNeg (some q_65)))))))) (ia k) = some (xI (R k) (aa (2 * k)) (aa (2 * k + 1))) := wd_uk h_84 (wd_ne h_84 h_83 (by simp))
                  have h_88 : (wd_up (wd_up σ q_65 (xC (crow i wh (xc (R k) wh) v re))) aC (.inl (T 3, 200, .inr (.inr (.inr (.inr (va_up fC (nI nc).toNatClampNeg (some q_65)))))))) q_65 = some (xC (crow i wh (xc (R k) wh) v re)) := wd_uk hqc (Ne.symm ne_71)
                  refine lv_aload_n hx hb d_F_correct_124 rfl (lv_at hl 1 rfl) ?_
                  refine lv_dup hx hb d_F_correct_125 rfl ?_
                  refine wd_get C h kc_F h_86 3 (by decide) lk_F_25 rfl d_F_correct_126 ?_
                  refine lv_iconst (v := 1) hx hb d_F_correct_129 (by decide) ?_
                  refine lv_iadd hx hb d_F_correct_130 ?_
                  refine wd_put C h kc_F h_86 3 (by decide) lk_F_25 rfl (by rfl) (by rfl) (Nat.le_of_ble_eq_true rfl) d_F_correct_131 (fun H locs h => ?_)
                  have h : wd_C D T A s H locs (wd_up (wd_up (wd_up σ q_65 (xC (crow i wh (xc (R k) wh) v re))) aC (.inl (T 3, 200, .inr (.inr (.inr (.inr (va_up fC (nI nc).toNatClampNeg (some q_65)))))))) x (.inr (0, [.ref aI, .int (nI n), .ref aC, .int ((nI nc) + 1), .ref aJ, .ref aW, .ref aB, .ref aP]))) := h
                  have h_89 : (wd_up (wd_up (wd_up σ q_65 (xC (crow i wh (xc (R k) wh) v re))) aC (.inl (T 3, 200, .inr (.inr (.inr (.inr (va_up fC (nI nc).toNatClampNeg (some q_65)))))))) x (.inr (0, [.ref aI, .int (nI n), .ref aC, .int ((nI nc) + 1), .ref aJ, .ref aW, .ref aB, .ref aP]))) x = some (.inr (0, [.ref aI, .int (nI n), .ref aC, .int ((nI nc) + 1), .ref aJ, .ref aW, .ref aB, .ref aP])) := wd_us _ _ _
                  have h_90 : (wd_up (wd_up (wd_up σ q_65 (xC (crow i wh (xc (R k) wh) v re))) aC (.inl (T 3, 200, .inr (.inr (.inr (.inr (va_up fC (nI nc).toNatClampNeg (some q_65)))))))) x (.inr (0, [.ref aI, .int (nI n), .ref aC, .int ((nI nc) + 1), .ref aJ, .ref aW, .ref aB, .ref aP]))) aC = some (.inl (T 3, 200, .inr (.inr (.inr (.inr (va_up fC (nI nc).toNatClampNeg (some q_65))))))) := wd_uk h_85 (wd_ne h_85 h_86 (by simp))
                  have h_91 : (wd_up (wd_up (wd_up σ q_65 (xC (crow i wh (xc (R k) wh) v re))) aC (.inl (T 3, 200, .inr (.inr (.inr (.inr (va_up fC (nI nc).toNatClampNeg (some q_65)))))))) x (.inr (0, [.ref aI, .int (nI n), .ref aC, .int ((nI nc) + 1), .ref aJ, .ref aW, .ref aB, .ref aP]))) (ia k) = some (xI (R k) (aa (2 * k)) (aa (2 * k + 1))) := wd_uk h_87 (wd_ne h_87 h_86 (by simp))
                  have h_92 : (wd_up (wd_up (wd_up σ q_65 (xC (crow i wh (xc (R k) wh) v re))) aC (.inl (T 3, 200, .inr (.inr (.inr (.inr (va_up fC (nI nc).toNatClampNeg (some q_65)))))))) x (.inr (0, [.ref aI, .int (nI n), .ref aC, .int ((nI nc) + 1), .ref aJ, .ref aW, .ref aB, .ref aP]))) q_65 = some (xC (crow i wh (xc (R k) wh) v re)) := wd_uk h_88 (Ne.symm ne_69)
                  refine lv_aload hx hb d_F_correct_134 (lv_at hl 0 rfl) ?_
                  refine lv_iload_n hx hb d_F_correct_136 rfl (lv_at hl 3 rfl) ?_
                  refine lv_iload_n hx hb d_F_correct_137 rfl (lv_at hl 4 rfl) ?_
                  refine wd_cv h (wd_rVN (rest := []) (st0 := [.int v, .int wh, .ref (ia k)]) C h kc_I h_91 k_I_become wm_I_become wz_I_become lk_F_151 (c_I_become l D T A (wd_up (wd_up (wd_up σ q_65 (xC (crow i wh (xc (R k) wh) v re))) aC (.inl (T 3, 200, .inr (.inr (.inr (.inr (va_up fC (nI nc).toNatClampNeg (some q_65)))))))) x (.inr (0, [.ref aI, .int (nI n), .ref aC, .int ((nI nc) + 1), .ref aJ, .ref aW, .ref aB, .ref aP]))) (ia k) (R k) (aa (2 * k)) (aa (2 * k + 1)) h_91 wh v (xm0_k (hok k hk) c_11)) rfl rfl ⟨Nat.le_of_ble_eq_true rfl, Nat.le_of_ble_eq_true rfl⟩ rfl hl.1 rfl (Nat.le_of_ble_eq_true rfl) d_F_correct_138 ⟨Nat.le_of_ble_eq_true rfl, Nat.le_of_ble_eq_true rfl⟩) (fun σ_94 H locs hp_95 h => ?_)
                  rw [hp_95] at h
                  have h : wd_C D T A s H locs (wd_up (wd_up (wd_up (wd_up σ q_65 (xC (crow i wh (xc (R k) wh) v re))) aC (.inl (T 3, 200, .inr (.inr (.inr (.inr (va_up fC (nI nc).toNatClampNeg (some q_65)))))))) x (.inr (0, [.ref aI, .int (nI n), .ref aC, .int ((nI nc) + 1), .ref aJ, .ref aW, .ref aB, .ref aP]))) (ia k) (xI (xm (R k) wh v) (aa (2 * k)) (aa (2 * k + 1)))) := h
                  have h_96 : (wd_up (wd_up (wd_up (wd_up σ q_65 (xC (crow i wh (xc (R k) wh) v re))) aC (.inl (T 3, 200, .inr (.inr (.inr (.inr (va_up fC (nI nc).toNatClampNeg (some q_65)))))))) x (.inr (0, [.ref aI, .int (nI n), .ref aC, .int ((nI nc) + 1), .ref aJ, .ref aW, .ref aB, .ref aP]))) (ia k) (xI (xm (R k) wh v) (aa (2 * k)) (aa (2 * k + 1)))) (ia k) = some (xI (xm (R k) wh v) (aa (2 * k)) (aa (2 * k + 1))) := wd_us _ _ _
                  have h_97 : (wd_up (wd_up (wd_up (wd_up σ q_65 (xC (crow i wh (xc (R k) wh) v re))) aC (.inl (T 3, 200, .inr (.inr (.inr (.inr (va_up fC (nI nc).toNatClampNeg (some q_65)))))))) x (.inr (0, [.ref aI, .int (nI n), .ref aC, .int ((nI nc) + 1), .ref aJ, .ref aW, .ref aB, .ref aP]))) (ia k) (xI (xm (R k) wh v) (aa (2 * k)) (aa (2 * k + 1)))) x = some (.inr (0, [.ref aI, .int (nI n), .ref aC, .int ((nI nc) + 1), .ref aJ, .ref aW, .ref aB, .ref aP])) := wd_uk h_89 (wd_ne h_89 h_91 (by simp))
                  have h_98 : (wd_up (wd_up (wd_up (wd_up σ q_65 (xC (crow i wh (xc (R k) wh) v re))) aC (.inl (T 3, 200, .inr (.inr (.inr (.inr (va_up fC (nI nc).toNatClampNeg (some q_65)))))))) x (.inr (0, [.ref aI, .int (nI n), .ref aC, .int ((nI nc) + 1), .ref aJ, .ref aW, .ref aB, .ref aP]))) (ia k) (xI (xm (R k) wh v) (aa (2 * k)) (aa (2 * k + 1)))) aC = some (.inl (T 3, 200, .inr (.inr (.inr (.inr (va_up fC (nI nc).toNatClampNeg (some q_65))))))) := wd_uk h_90 (wd_ne h_90 h_91 (by simp))
                  have h_99 : (wd_up (wd_up (wd_up (wd_up σ q_65 (xC (crow i wh (xc (R k) wh) v re))) aC (.inl (T 3, 200, .inr (.inr (.inr (.inr (va_up fC (nI nc).toNatClampNeg (some q_65)))))))) x (.inr (0, [.ref aI, .int (nI n), .ref aC, .int ((nI nc) + 1), .ref aJ, .ref aW, .ref aB, .ref aP]))) (ia k) (xI (xm (R k) wh v) (aa (2 * k)) (aa (2 * k + 1)))) q_65 = some (xC (crow i wh (xc (R k) wh) v re)) := wd_uk h_92 (Ne.symm ne_73)
                  refine lv_aload_n hx hb d_F_correct_141 rfl (lv_at hl 1 rfl) ?_
                  refine wd_get C h kc_F h_97 3 (by decide) lk_F_25 rfl d_F_correct_142 ?_
                  exact wd_iret C hr hlocks h (by unfold o_corr; rw [show o_find (n, R, nc, CR, wg, Q).1 i = some k from hf]; simp only [eq_false c_11, eq_false c_17, eq_true c_23, eq_true c_24, eq_false c_25, eq_true c_26, eq_true c_64, ↓reduceIte, true_and, false_and, not_true_eq_false, not_false_eq_true, and_true, and_false]; exact ⟨nI_1 nc, hB.corr (q := q_65) (r := xm (R k) wh v) (c := crow i wh (xc (R k) wh) v re) hlt hk hq_66 h_99 (by rw [← nI_1]; exact h_97) (h_98.trans (by rw [nI_clamp (show nc < 2 ^ 31 by omega)])) h_96 (fun b h1 h2 h3 h4 => by rw [wd_un _ _ h4, wd_un _ _ h2, wd_un _ _ h3, wd_un _ _ h1]) (xm_lo (by decide)) (xm_lo (by decide)) (fun j hj => xm_lo (by omega))⟩) (Nat.le_of_ble_eq_true rfl) (Nat.le_of_ble_eq_true rfl) d_F_correct_145
                · refine lv_bipush (v := (-110)) hx hb d_F_correct_94 (by decide) ?_
                  exact wd_iret C hr hlocks h (by unfold o_corr; rw [show o_find (n, R, nc, CR, wg, Q).1 i = some k from hf]; simp only [eq_false c_11, eq_false c_17, eq_true c_23, eq_true c_24, eq_false c_25, eq_true c_26, eq_false c_64, ↓reduceIte, true_and, false_and, not_true_eq_false, not_false_eq_true, and_true, and_false]; first | exact ⟨trivial, hB.rx⟩ | exact hB.rx) (Nat.le_of_ble_eq_true rfl) (Nat.le_of_ble_eq_true rfl) d_F_correct_96
            · refine lv_iload_n hx hb d_F_correct_68 rfl (lv_at hl 4 rfl) ?_
              refine wd_gets C h ks_bw lk_F_51 d_F_correct_69 (fun t_100 ht_101 => ?_)
              refine lv_iconst (v := 3) hx hb d_F_correct_72 (by decide) ?_
              refine wd_ti C h ht_101 (by unfold vp_in; decide) d_F_correct_73 ?_
              refine W.eq (g2 := F0 m 74 ls (.int 31500 :: .int v :: [])) rfl ?_
              refine lv_icmp_le (tgt := 80) hx hb d_F_correct_74 (by decide) (fun c_102 => ?_) (fun c_102 => ?_)
              · refine lv_iload_n hx hb d_F_correct_80 rfl (lv_at hl 3 rfl) ?_
                refine lv_iconst (v := 2) hx hb d_F_correct_81 (by decide) ?_
                refine lv_icmp_ne (tgt := 97) hx hb d_F_correct_82 (by decide) (fun c_103 => ?_) (fun c_103 => ?_)
                · refine lv_aload_n hx hb d_F_correct_97 rfl (lv_at hl 1 rfl) ?_
                  refine wd_get C h kc_F b1 2 (by decide) lk_F_21 rfl d_F_correct_98 ?_
                  refine lv_aload_n hx hb d_F_correct_101 rfl (lv_at hl 1 rfl) ?_
                  refine wd_get C h kc_F b1 3 (by decide) lk_F_25 rfl d_F_correct_102 ?_
                  refine wd_new (fs := [.int 0, .int 0, .int 0, .int 0, .int 0]) C h kc_C lk_F_19 wn_C wi_C df_C (Nat.le_of_ble_eq_true rfl) (Nat.le_of_ble_eq_true rfl) d_F_correct_105 (fun q_104 H hq_105 h => ?_)
                  have ne_108 : x ≠ q_104 := wd_nn b1 hq_105
                  have h_107 : (wd_up σ q_104 (.inr (2, [.int 0, .int 0, .int 0, .int 0, .int 0]))) x = some (.inr (0, [.ref aI, .int (nI n), .ref aC, .int (nI nc), .ref aJ, .ref aW, .ref aB, .ref aP])) := wd_uk b1 ne_108
                  have ne_110 : aC ≠ q_104 := wd_nn b3 hq_105
                  have h_109 : (wd_up σ q_104 (.inr (2, [.int 0, .int 0, .int 0, .int 0, .int 0]))) aC = some (aQ T 3 200 fC) := wd_uk b3 ne_110
                  have ne_112 : (ia k) ≠ q_104 := wd_nn g2 hq_105
                  have h_111 : (wd_up σ q_104 (.inr (2, [.int 0, .int 0, .int 0, .int 0, .int 0]))) (ia k) = some (xI (R k) (aa (2 * k)) (aa (2 * k + 1))) := wd_uk g2 ne_112
                  have h_106 : (wd_up σ q_104 (.inr (2, [.int 0, .int 0, .int 0, .int 0, .int 0]))) q_104 = some (.inr (2, [.int 0, .int 0, .int 0, .int 0, .int 0])) := wd_us _ _ _
                  refine lv_dup hx hb d_F_correct_108 rfl ?_
                  refine lv_iload_n hx hb d_F_correct_109 rfl (lv_at hl 2 rfl) ?_
                  refine lv_iload_n hx hb d_F_correct_110 rfl (lv_at hl 3 rfl) ?_
                  refine lv_aload hx hb d_F_correct_111 (lv_at hl 0 rfl) ?_
                  refine lv_iload_n hx hb d_F_correct_113 rfl (lv_at hl 3 rfl) ?_
                  refine wd_ci h (wd_rVN (rest := [.int wh, .int i, .ref q_104, .ref q_104, .int (nI nc), .ref aC]) (st0 := [.int wh, .ref (ia k), .int wh, .int i, .ref q_104, .ref q_104, .int (nI nc), .ref aC]) C h kc_I h_111 k_I_correctable wm_I_correctable wz_I_correctable lk_F_145 (c_I_correctable l D T A (wd_up σ q_104 (.inr (2, [.int 0, .int 0, .int 0, .int 0, .int 0]))) (ia k) (R k) (aa (2 * k)) (aa (2 * k + 1)) h_111 wh) rfl rfl ⟨Nat.le_of_ble_eq_true rfl, Nat.le_of_ble_eq_true rfl⟩ rfl hl.1 rfl (Nat.le_of_ble_eq_true rfl) d_F_correct_114 ⟨Nat.le_of_ble_eq_true rfl, Nat.le_of_ble_eq_true rfl⟩) (fun r_113 σ_114 H locs hp_115 h => ?_)
                  obtain ⟨e_116, es_117⟩ := hp_115
                  rw [es_117] at h
                  subst e_116
                  refine lv_iload_n hx hb d_F_correct_117 rfl (lv_at hl 4 rfl) ?_
                  refine lv_iload hx hb d_F_correct_118 (lv_at hl 5 rfl) ?_
                  refine wd_cv h (wd_rIN (rest := [.ref q_104, .int (nI nc), .ref aC]) (st0 := [.int re, .int v, .int (xc (R k) wh), .int wh, .int i, .ref q_104, .ref q_104, .int (nI nc), .ref aC]) C h k_C_init wm_C_init rfl lk_F_148 (c_C_init l D T A (wd_up σ q_104 (.inr (2, [.int 0, .int 0, .int 0, .int 0, .int 0]))) q_104 h_106 i wh (xc (R k) wh) v re) rfl rfl ⟨Nat.le_of_ble_eq_true rfl, Nat.le_of_ble_eq_true rfl⟩ rfl hl.1 rfl (Nat.le_of_ble_eq_true rfl) d_F_correct_120 ⟨Nat.le_of_ble_eq_true rfl, Nat.le_of_ble_eq_true rfl⟩) (fun σ_119 H locs hp_120 h => ?_)
                  rw [wd_uu] at hp_120
                  rw [hp_120] at h
                  have hqc : (wd_up σ q_104 (xC (crow i wh (xc (R k) wh) v re))) q_104 = some (xC (crow i wh (xc (R k) wh) v re)) := wd_us _ _ _
                  have h_121 : (wd_up σ q_104 (xC (crow i wh (xc (R k) wh) v re))) x = some (.inr (0, [.ref aI, .int (nI n), .ref aC, .int (nI nc), .ref aJ, .ref aW, .ref aB, .ref aP])) := wd_uk b1 ne_108
                  have h_122 : (wd_up σ q_104 (xC (crow i wh (xc (R k) wh) v re))) aC = some (aQ T 3 200 fC) := wd_uk b3 ne_110
                  have h_123 : (wd_up σ q_104 (xC (crow i wh (xc (R k) wh) v re))) (ia k) = some (xI (R k) (aa (2 * k)) (aa (2 * k + 1))) := wd_uk g2 ne_112
                  have hlt : nc < 200 := (nI_ltI (a := nc) (b := 200) (by omega) (by decide)).mp c_24
                  refine wd_astq C h 3 rfl h_122 hqc rfl (vp_in_nI hlt (by decide)) d_F_correct_123 (fun H locs h => ?_)
                  have h : wd_C D T A s H locs (wd_up (wd_up σ q_104 (xC (crow i wh (xc (R k) wh) v re))) aC (.inl (T 3, 200, .inr (.inr (.inr (.inr (va_up fC (nI nc).toNatClampNeg (some q_104)))))))) := h
                  have h_124 : (wd_up (wd_up σ q_104 (xC (crow i wh (xc (R k) wh) v re))) aC (.inl (T 3, 200, .inr (.inr (.inr (.inr (va_up fC (nI nc).toNatClampNeg (some q_104)))))))) aC = some (.inl (T 3, 200, .inr (.inr (.inr (.inr (va_up fC (nI nc).toNatClampNeg (some q_104))))))) := wd_us _ _ _
                  have h_125 : (wd_up (wd_up σ q_104 (xC (crow i wh (xc (R k) wh) v re))) aC (.inl (T 3, 200, .inr (.inr (.inr (.inr (va_up fC (nI nc).toNatClampNeg (some q_104)))))))) x = some (.inr (0, [.ref aI, .int (nI n), .ref aC, .int (nI nc), .ref aJ, .ref aW, .ref aB, .ref aP])) := wd_uk h_121 (wd_ne h_121 h_122 (by simp))
                  have h_126 : (wd_up (wd_up σ q_104 (xC (crow i wh (xc (R k) wh) v re))) aC (.inl (T 3, 200, .inr (.inr (.inr (.inr (va_up fC (nI nc).toNatClampNeg (some q_104)))))))) (ia k) = some (xI (R k) (aa (2 * k)) (aa (2 * k + 1))) := wd_uk h_123 (wd_ne h_123 h_122 (by simp))
                  have h_127 : (wd_up (wd_up σ q_104 (xC (crow i wh (xc (R k) wh) v re))) aC (.inl (T 3, 200, .inr (.inr (.inr (.inr (va_up fC (nI nc).toNatClampNeg (some q_104)))))))) q_104 = some (xC (crow i wh (xc (R k) wh) v re)) := wd_uk hqc (Ne.symm ne_110)
                  refine lv_aload_n hx hb d_F_correct_124 rfl (lv_at hl 1 rfl) ?_
                  refine lv_dup hx hb d_F_correct_125 rfl ?_
                  refine wd_get C h kc_F h_125 3 (by decide) lk_F_25 rfl d_F_correct_126 ?_
                  refine lv_iconst (v := 1) hx hb d_F_correct_129 (by decide) ?_
                  refine lv_iadd hx hb d_F_correct_130 ?_
                  refine wd_put C h kc_F h_125 3 (by decide) lk_F_25 rfl (by rfl) (by rfl) (Nat.le_of_ble_eq_true rfl) d_F_correct_131 (fun H locs h => ?_)
                  have h : wd_C D T A s H locs (wd_up (wd_up (wd_up σ q_104 (xC (crow i wh (xc (R k) wh) v re))) aC (.inl (T 3, 200, .inr (.inr (.inr (.inr (va_up fC (nI nc).toNatClampNeg (some q_104)))))))) x (.inr (0, [.ref aI, .int (nI n), .ref aC, .int ((nI nc) + 1), .ref aJ, .ref aW, .ref aB, .ref aP]))) := h
                  have h_128 : (wd_up (wd_up (wd_up σ q_104 (xC (crow i wh (xc (R k) wh) v re))) aC (.inl (T 3, 200, .inr (.inr (.inr (.inr (va_up fC (nI nc).toNatClampNeg (some q_104)))))))) x (.inr (0, [.ref aI, .int (nI n), .ref aC, .int ((nI nc) + 1), .ref aJ, .ref aW, .ref aB, .ref aP]))) x = some (.inr (0, [.ref aI, .int (nI n), .ref aC, .int ((nI nc) + 1), .ref aJ, .ref aW, .ref aB, .ref aP])) := wd_us _ _ _
                  have h_129 : (wd_up (wd_up (wd_up σ q_104 (xC (crow i wh (xc (R k) wh) v re))) aC (.inl (T 3, 200, .inr (.inr (.inr (.inr (va_up fC (nI nc).toNatClampNeg (some q_104)))))))) x (.inr (0, [.ref aI, .int (nI n), .ref aC, .int ((nI nc) + 1), .ref aJ, .ref aW, .ref aB, .ref aP]))) aC = some (.inl (T 3, 200, .inr (.inr (.inr (.inr (va_up fC (nI nc).toNatClampNeg (some q_104))))))) := wd_uk h_124 (wd_ne h_124 h_125 (by simp))
                  have h_130 : (wd_up (wd_up (wd_up σ q_104 (xC (crow i wh (xc (R k) wh) v re))) aC (.inl (T 3, 200, .inr (.inr (.inr (.inr (va_up fC (nI nc).toNatClampNeg (some q_104)))))))) x (.inr (0, [.ref aI, .int (nI n), .ref aC, .int ((nI nc) + 1), .ref aJ, .ref aW, .ref aB, .ref aP]))) (ia k) = some (xI (R k) (aa (2 * k)) (aa (2 * k + 1))) := wd_uk h_126 (wd_ne h_126 h_125 (by simp))
                  have h_131 : (wd_up (wd_up (wd_up σ q_104 (xC (crow i wh (xc (R k) wh) v re))) aC (.inl (T 3, 200, .inr (.inr (.inr (.inr (va_up fC (nI nc).toNatClampNeg (some q_104)))))))) x (.inr (0, [.ref aI, .int (nI n), .ref aC, .int ((nI nc) + 1), .ref aJ, .ref aW, .ref aB, .ref aP]))) q_104 = some (xC (crow i wh (xc (R k) wh) v re)) := wd_uk h_127 (Ne.symm ne_108)
                  refine lv_aload hx hb d_F_correct_134 (lv_at hl 0 rfl) ?_
                  refine lv_iload_n hx hb d_F_correct_136 rfl (lv_at hl 3 rfl) ?_
                  refine lv_iload_n hx hb d_F_correct_137 rfl (lv_at hl 4 rfl) ?_
                  refine wd_cv h (wd_rVN (rest := []) (st0 := [.int v, .int wh, .ref (ia k)]) C h kc_I h_130 k_I_become wm_I_become wz_I_become lk_F_151 (c_I_become l D T A (wd_up (wd_up (wd_up σ q_104 (xC (crow i wh (xc (R k) wh) v re))) aC (.inl (T 3, 200, .inr (.inr (.inr (.inr (va_up fC (nI nc).toNatClampNeg (some q_104)))))))) x (.inr (0, [.ref aI, .int (nI n), .ref aC, .int ((nI nc) + 1), .ref aJ, .ref aW, .ref aB, .ref aP]))) (ia k) (R k) (aa (2 * k)) (aa (2 * k + 1)) h_130 wh v (xm0_k (hok k hk) c_11)) rfl rfl ⟨Nat.le_of_ble_eq_true rfl, Nat.le_of_ble_eq_true rfl⟩ rfl hl.1 rfl (Nat.le_of_ble_eq_true rfl) d_F_correct_138 ⟨Nat.le_of_ble_eq_true rfl, Nat.le_of_ble_eq_true rfl⟩) (fun σ_133 H locs hp_134 h => ?_)
                  rw [hp_134] at h
                  have h : wd_C D T A s H locs (wd_up (wd_up (wd_up (wd_up σ q_104 (xC (crow i wh (xc (R k) wh) v re))) aC (.inl (T 3, 200, .inr (.inr (.inr (.inr (va_up fC (nI nc).toNatClampNeg (some q_104)))))))) x (.inr (0, [.ref aI, .int (nI n), .ref aC, .int ((nI nc) + 1), .ref aJ, .ref aW, .ref aB, .ref aP]))) (ia k) (xI (xm (R k) wh v) (aa (2 * k)) (aa (2 * k + 1)))) := h
                  have h_135 : (wd_up (wd_up (wd_up (wd_up σ q_104 (xC (crow i wh (xc (R k) wh) v re))) aC (.inl (T 3, 200, .inr (.inr (.inr (.inr (va_up fC (nI nc).toNatClampNeg (some q_104)))))))) x (.inr (0, [.ref aI, .int (nI n), .ref aC, .int ((nI nc) + 1), .ref aJ, .ref aW, .ref aB, .ref aP]))) (ia k) (xI (xm (R k) wh v) (aa (2 * k)) (aa (2 * k + 1)))) (ia k) = some (xI (xm (R k) wh v) (aa (2 * k)) (aa (2 * k + 1))) := wd_us _ _ _
                  have h_136 : (wd_up (wd_up (wd_up (wd_up σ q_104 (xC (crow i wh (xc (R k) wh) v re))) aC (.inl (T 3, 200, .inr (.inr (.inr (.inr (va_up fC (nI nc).toNatClampNeg (some q_104)))))))) x (.inr (0, [.ref aI, .int (nI n), .ref aC, .int ((nI nc) + 1), .ref aJ, .ref aW, .ref aB, .ref aP]))) (ia k) (xI (xm (R k) wh v) (aa (2 * k)) (aa (2 * k + 1)))) x = some (.inr (0, [.ref aI, .int (nI n), .ref aC, .int ((nI nc) + 1), .ref aJ, .ref aW, .ref aB, .ref aP])) := wd_uk h_128 (wd_ne h_128 h_130 (by simp))
                  have h_137 : (wd_up (wd_up (wd_up (wd_up σ q_104 (xC (crow i wh (xc (R k) wh) v re))) aC (.inl (T 3, 200, .inr (.inr (.inr (.inr (va_up fC (nI nc).toNatClampNeg (some q_104)))))))) x (.inr (0, [.ref aI, .int (nI n), .ref aC, .int ((nI nc) + 1), .ref aJ, .ref aW, .ref aB, .ref aP]))) (ia k) (xI (xm (R k) wh v) (aa (2 * k)) (aa (2 * k + 1)))) aC = some (.inl (T 3, 200, .inr (.inr (.inr (.inr (va_up fC (nI nc).toNatClampNeg (some q_104))))))) := wd_uk h_129 (wd_ne h_129 h_130 (by simp))
                  have h_138 : (wd_up (wd_up (wd_up (wd_up σ q_104 (xC (crow i wh (xc (R k) wh) v re))) aC (.inl (T 3, 200, .inr (.inr (.inr (.inr (va_up fC (nI nc).toNatClampNeg (some q_104)))))))) x (.inr (0, [.ref aI, .int (nI n), .ref aC, .int ((nI nc) + 1), .ref aJ, .ref aW, .ref aB, .ref aP]))) (ia k) (xI (xm (R k) wh v) (aa (2 * k)) (aa (2 * k + 1)))) q_104 = some (xC (crow i wh (xc (R k) wh) v re)) := wd_uk h_131 (Ne.symm ne_112)
                  refine lv_aload_n hx hb d_F_correct_141 rfl (lv_at hl 1 rfl) ?_
                  refine wd_get C h kc_F h_136 3 (by decide) lk_F_25 rfl d_F_correct_142 ?_
                  exact wd_iret C hr hlocks h (by unfold o_corr; rw [show o_find (n, R, nc, CR, wg, Q).1 i = some k from hf]; simp only [eq_false c_11, eq_false c_17, eq_true c_23, eq_true c_24, eq_true c_25, eq_true c_102, eq_false c_103, ↓reduceIte, true_and, false_and, not_true_eq_false, not_false_eq_true, and_true, and_false]; exact ⟨nI_1 nc, hB.corr (q := q_104) (r := xm (R k) wh v) (c := crow i wh (xc (R k) wh) v re) hlt hk hq_105 h_138 (by rw [← nI_1]; exact h_136) (h_137.trans (by rw [nI_clamp (show nc < 2 ^ 31 by omega)])) h_135 (fun b h1 h2 h3 h4 => by rw [wd_un _ _ h4, wd_un _ _ h2, wd_un _ _ h3, wd_un _ _ h1]) (xm_lo (by decide)) (xm_lo (by decide)) (fun j hj => xm_lo (by omega))⟩) (Nat.le_of_ble_eq_true rfl) (Nat.le_of_ble_eq_true rfl) d_F_correct_145
                · refine lv_iload_n hx hb d_F_correct_85 rfl (lv_at hl 4 rfl) ?_
                  refine wd_gets C h ks_bs lk_F_54 d_F_correct_86 (fun t_139 ht_140 => ?_)
                  refine lv_iconst (v := 3) hx hb d_F_correct_89 (by decide) ?_
                  refine wd_ti C h ht_140 (by unfold vp_in; decide) d_F_correct_90 ?_
                  refine W.eq (g2 := F0 m 91 ls (.int 3 :: .int v :: [])) rfl ?_
                  refine lv_icmp_le (tgt := 97) hx hb d_F_correct_91 (by decide) (fun c_141 => ?_) (fun c_141 => ?_)
                  · refine lv_aload_n hx hb d_F_correct_97 rfl (lv_at hl 1 rfl) ?_
                    refine wd_get C h kc_F b1 2 (by decide) lk_F_21 rfl d_F_correct_98 ?_
                    refine lv_aload_n hx hb d_F_correct_101 rfl (lv_at hl 1 rfl) ?_
                    refine wd_get C h kc_F b1 3 (by decide) lk_F_25 rfl d_F_correct_102 ?_
                    refine wd_new (fs := [.int 0, .int 0, .int 0, .int 0, .int 0]) C h kc_C lk_F_19 wn_C wi_C df_C (Nat.le_of_ble_eq_true rfl) (Nat.le_of_ble_eq_true rfl) d_F_correct_105 (fun q_142 H hq_143 h => ?_)
                    have ne_146 : x ≠ q_142 := wd_nn b1 hq_143
                    have h_145 : (wd_up σ q_142 (.inr (2, [.int 0, .int 0, .int 0, .int 0, .int 0]))) x = some (.inr (0, [.ref aI, .int (nI n), .ref aC, .int (nI nc), .ref aJ, .ref aW, .ref aB, .ref aP])) := wd_uk b1 ne_146
                    have ne_148 : aC ≠ q_142 := wd_nn b3 hq_143
                    have h_147 : (wd_up σ q_142 (.inr (2, [.int 0, .int 0, .int 0, .int 0, .int 0]))) aC = some (aQ T 3 200 fC) := wd_uk b3 ne_148
                    have ne_150 : (ia k) ≠ q_142 := wd_nn g2 hq_143
                    have h_149 : (wd_up σ q_142 (.inr (2, [.int 0, .int 0, .int 0, .int 0, .int 0]))) (ia k) = some (xI (R k) (aa (2 * k)) (aa (2 * k + 1))) := wd_uk g2 ne_150
                    have h_144 : (wd_up σ q_142 (.inr (2, [.int 0, .int 0, .int 0, .int 0, .int 0]))) q_142 = some (.inr (2, [.int 0, .int 0, .int 0, .int 0, .int 0])) := wd_us _ _ _
                    refine lv_dup hx hb d_F_correct_108 rfl ?_
                    refine lv_iload_n hx hb d_F_correct_109 rfl (lv_at hl 2 rfl) ?_
                    refine lv_iload_n hx hb d_F_correct_110 rfl (lv_at hl 3 rfl) ?_
                    refine lv_aload hx hb d_F_correct_111 (lv_at hl 0 rfl) ?_
                    refine lv_iload_n hx hb d_F_correct_113 rfl (lv_at hl 3 rfl) ?_
                    refine wd_ci h (wd_rVN (rest := [.int wh, .int i, .ref q_142, .ref q_142, .int (nI nc), .ref aC]) (st0 := [.int wh, .ref (ia k), .int wh, .int i, .ref q_142, .ref q_142, .int (nI nc), .ref aC]) C h kc_I h_149 k_I_correctable wm_I_correctable wz_I_correctable lk_F_145 (c_I_correctable l D T A (wd_up σ q_142 (.inr (2, [.int 0, .int 0, .int 0, .int 0, .int 0]))) (ia k) (R k) (aa (2 * k)) (aa (2 * k + 1)) h_149 wh) rfl rfl ⟨Nat.le_of_ble_eq_true rfl, Nat.le_of_ble_eq_true rfl⟩ rfl hl.1 rfl (Nat.le_of_ble_eq_true rfl) d_F_correct_114 ⟨Nat.le_of_ble_eq_true rfl, Nat.le_of_ble_eq_true rfl⟩) (fun r_151 σ_152 H locs hp_153 h => ?_)
                    obtain ⟨e_154, es_155⟩ := hp_153
                    rw [es_155] at h
                    subst e_154
                    refine lv_iload_n hx hb d_F_correct_117 rfl (lv_at hl 4 rfl) ?_
                    refine lv_iload hx hb d_F_correct_118 (lv_at hl 5 rfl) ?_
                    refine wd_cv h (wd_rIN (rest := [.ref q_142, .int (nI nc), .ref aC]) (st0 := [.int re, .int v, .int (xc (R k) wh), .int wh, .int i, .ref q_142, .ref q_142, .int (nI nc), .ref aC]) C h k_C_init wm_C_init rfl lk_F_148 (c_C_init l D T A (wd_up σ q_142 (.inr (2, [.int 0, .int 0, .int 0, .int 0, .int 0]))) q_142 h_144 i wh (xc (R k) wh) v re) rfl rfl ⟨Nat.le_of_ble_eq_true rfl, Nat.le_of_ble_eq_true rfl⟩ rfl hl.1 rfl (Nat.le_of_ble_eq_true rfl) d_F_correct_120 ⟨Nat.le_of_ble_eq_true rfl, Nat.le_of_ble_eq_true rfl⟩) (fun σ_157 H locs hp_158 h => ?_)
                    rw [wd_uu] at hp_158
                    rw [hp_158] at h
                    have hqc : (wd_up σ q_142 (xC (crow i wh (xc (R k) wh) v re))) q_142 = some (xC (crow i wh (xc (R k) wh) v re)) := wd_us _ _ _
                    have h_159 : (wd_up σ q_142 (xC (crow i wh (xc (R k) wh) v re))) x = some (.inr (0, [.ref aI, .int (nI n), .ref aC, .int (nI nc), .ref aJ, .ref aW, .ref aB, .ref aP])) := wd_uk b1 ne_146
                    have h_160 : (wd_up σ q_142 (xC (crow i wh (xc (R k) wh) v re))) aC = some (aQ T 3 200 fC) := wd_uk b3 ne_148
                    have h_161 : (wd_up σ q_142 (xC (crow i wh (xc (R k) wh) v re))) (ia k) = some (xI (R k) (aa (2 * k)) (aa (2 * k + 1))) := wd_uk g2 ne_150
                    have hlt : nc < 200 := (nI_ltI (a := nc) (b := 200) (by omega) (by decide)).mp c_24
                    refine wd_astq C h 3 rfl h_160 hqc rfl (vp_in_nI hlt (by decide)) d_F_correct_123 (fun H locs h => ?_)
                    have h : wd_C D T A s H locs (wd_up (wd_up σ q_142 (xC (crow i wh (xc (R k) wh) v re))) aC (.inl (T 3, 200, .inr (.inr (.inr (.inr (va_up fC (nI nc).toNatClampNeg (some q_142)))))))) := h
                    have h_162 : (wd_up (wd_up σ q_142 (xC (crow i wh (xc (R k) wh) v re))) aC (.inl (T 3, 200, .inr (.inr (.inr (.inr (va_up fC (nI nc).toNatClampNeg (some q_142)))))))) aC = some (.inl (T 3, 200, .inr (.inr (.inr (.inr (va_up fC (nI nc).toNatClampNeg (some q_142))))))) := wd_us _ _ _
                    have h_163 : (wd_up (wd_up σ q_142 (xC (crow i wh (xc (R k) wh) v re))) aC (.inl (T 3, 200, .inr (.inr (.inr (.inr (va_up fC (nI nc).toNatClampNeg (some q_142)))))))) x = some (.inr (0, [.ref aI, .int (nI n), .ref aC, .int (nI nc), .ref aJ, .ref aW, .ref aB, .ref aP])) := wd_uk h_159 (wd_ne h_159 h_160 (by simp))
                    have h_164 : (wd_up (wd_up σ q_142 (xC (crow i wh (xc (R k) wh) v re))) aC (.inl (T 3, 200, .inr (.inr (.inr (.inr (va_up fC (nI nc).toNatClampNeg (some q_142)))))))) (ia k) = some (xI (R k) (aa (2 * k)) (aa (2 * k + 1))) := wd_uk h_161 (wd_ne h_161 h_160 (by simp))
                    have h_165 : (wd_up (wd_up σ q_142 (xC (crow i wh (xc (R k) wh) v re))) aC (.inl (T 3, 200, .inr (.inr (.inr (.inr (va_up fC (nI nc).toNatClampNeg (some q_142)))))))) q_142 = some (xC (crow i wh (xc (R k) wh) v re)) := wd_uk hqc (Ne.symm ne_148)
                    refine lv_aload_n hx hb d_F_correct_124 rfl (lv_at hl 1 rfl) ?_
                    refine lv_dup hx hb d_F_correct_125 rfl ?_
                    refine wd_get C h kc_F h_163 3 (by decide) lk_F_25 rfl d_F_correct_126 ?_
                    refine lv_iconst (v := 1) hx hb d_F_correct_129 (by decide) ?_
                    refine lv_iadd hx hb d_F_correct_130 ?_
                    refine wd_put C h kc_F h_163 3 (by decide) lk_F_25 rfl (by rfl) (by rfl) (Nat.le_of_ble_eq_true rfl) d_F_correct_131 (fun H locs h => ?_)
                    have h : wd_C D T A s H locs (wd_up (wd_up (wd_up σ q_142 (xC (crow i wh (xc (R k) wh) v re))) aC (.inl (T 3, 200, .inr (.inr (.inr (.inr (va_up fC (nI nc).toNatClampNeg (some q_142)))))))) x (.inr (0, [.ref aI, .int (nI n), .ref aC, .int ((nI nc) + 1), .ref aJ, .ref aW, .ref aB, .ref aP]))) := h
                    have h_166 : (wd_up (wd_up (wd_up σ q_142 (xC (crow i wh (xc (R k) wh) v re))) aC (.inl (T 3, 200, .inr (.inr (.inr (.inr (va_up fC (nI nc).toNatClampNeg (some q_142)))))))) x (.inr (0, [.ref aI, .int (nI n), .ref aC, .int ((nI nc) + 1), .ref aJ, .ref aW, .ref aB, .ref aP]))) x = some (.inr (0, [.ref aI, .int (nI n), .ref aC, .int ((nI nc) + 1), .ref aJ, .ref aW, .ref aB, .ref aP])) := wd_us _ _ _
                    have h_167 : (wd_up (wd_up (wd_up σ q_142 (xC (crow i wh (xc (R k) wh) v re))) aC (.inl (T 3, 200, .inr (.inr (.inr (.inr (va_up fC (nI nc).toNatClampNeg (some q_142)))))))) x (.inr (0, [.ref aI, .int (nI n), .ref aC, .int ((nI nc) + 1), .ref aJ, .ref aW, .ref aB, .ref aP]))) aC = some (.inl (T 3, 200, .inr (.inr (.inr (.inr (va_up fC (nI nc).toNatClampNeg (some q_142))))))) := wd_uk h_162 (wd_ne h_162 h_163 (by simp))
                    have h_168 : (wd_up (wd_up (wd_up σ q_142 (xC (crow i wh (xc (R k) wh) v re))) aC (.inl (T 3, 200, .inr (.inr (.inr (.inr (va_up fC (nI nc).toNatClampNeg (some q_142)))))))) x (.inr (0, [.ref aI, .int (nI n), .ref aC, .int ((nI nc) + 1), .ref aJ, .ref aW, .ref aB, .ref aP]))) (ia k) = some (xI (R k) (aa (2 * k)) (aa (2 * k + 1))) := wd_uk h_164 (wd_ne h_164 h_163 (by simp))
                    have h_169 : (wd_up (wd_up (wd_up σ q_142 (xC (crow i wh (xc (R k) wh) v re))) aC (.inl (T 3, 200, .inr (.inr (.inr (.inr (va_up fC (nI nc).toNatClampNeg (some q_142)))))))) x (.inr (0, [.ref aI, .int (nI n), .ref aC, .int ((nI nc) + 1), .ref aJ, .ref aW, .ref aB, .ref aP]))) q_142 = some (xC (crow i wh (xc (R k) wh) v re)) := wd_uk h_165 (Ne.symm ne_146)
                    refine lv_aload hx hb d_F_correct_134 (lv_at hl 0 rfl) ?_
                    refine lv_iload_n hx hb d_F_correct_136 rfl (lv_at hl 3 rfl) ?_
                    refine lv_iload_n hx hb d_F_correct_137 rfl (lv_at hl 4 rfl) ?_
                    refine wd_cv h (wd_rVN (rest := []) (st0 := [.int v, .int wh, .ref (ia k)]) C h kc_I h_168 k_I_become wm_I_become wz_I_become lk_F_151 (c_I_become l D T A (wd_up (wd_up (wd_up σ q_142 (xC (crow i wh (xc (R k) wh) v re))) aC (.inl (T 3, 200, .inr (.inr (.inr (.inr (va_up fC (nI nc).toNatClampNeg (some q_142)))))))) x (.inr (0, [.ref aI, .int (nI n), .ref aC, .int ((nI nc) + 1), .ref aJ, .ref aW, .ref aB, .ref aP]))) (ia k) (R k) (aa (2 * k)) (aa (2 * k + 1)) h_168 wh v (xm0_k (hok k hk) c_11)) rfl rfl ⟨Nat.le_of_ble_eq_true rfl, Nat.le_of_ble_eq_true rfl⟩ rfl hl.1 rfl (Nat.le_of_ble_eq_true rfl) d_F_correct_138 ⟨Nat.le_of_ble_eq_true rfl, Nat.le_of_ble_eq_true rfl⟩) (fun σ_171 H locs hp_172 h => ?_)
                    rw [hp_172] at h
                    have h : wd_C D T A s H locs (wd_up (wd_up (wd_up (wd_up σ q_142 (xC (crow i wh (xc (R k) wh) v re))) aC (.inl (T 3, 200, .inr (.inr (.inr (.inr (va_up fC (nI nc).toNatClampNeg (some q_142)))))))) x (.inr (0, [.ref aI, .int (nI n), .ref aC, .int ((nI nc) + 1), .ref aJ, .ref aW, .ref aB, .ref aP]))) (ia k) (xI (xm (R k) wh v) (aa (2 * k)) (aa (2 * k + 1)))) := h
                    have h_173 : (wd_up (wd_up (wd_up (wd_up σ q_142 (xC (crow i wh (xc (R k) wh) v re))) aC (.inl (T 3, 200, .inr (.inr (.inr (.inr (va_up fC (nI nc).toNatClampNeg (some q_142)))))))) x (.inr (0, [.ref aI, .int (nI n), .ref aC, .int ((nI nc) + 1), .ref aJ, .ref aW, .ref aB, .ref aP]))) (ia k) (xI (xm (R k) wh v) (aa (2 * k)) (aa (2 * k + 1)))) (ia k) = some (xI (xm (R k) wh v) (aa (2 * k)) (aa (2 * k + 1))) := wd_us _ _ _
                    have h_174 : (wd_up (wd_up (wd_up (wd_up σ q_142 (xC (crow i wh (xc (R k) wh) v re))) aC (.inl (T 3, 200, .inr (.inr (.inr (.inr (va_up fC (nI nc).toNatClampNeg (some q_142)))))))) x (.inr (0, [.ref aI, .int (nI n), .ref aC, .int ((nI nc) + 1), .ref aJ, .ref aW, .ref aB, .ref aP]))) (ia k) (xI (xm (R k) wh v) (aa (2 * k)) (aa (2 * k + 1)))) x = some (.inr (0, [.ref aI, .int (nI n), .ref aC, .int ((nI nc) + 1), .ref aJ, .ref aW, .ref aB, .ref aP])) := wd_uk h_166 (wd_ne h_166 h_168 (by simp))
                    have h_175 : (wd_up (wd_up (wd_up (wd_up σ q_142 (xC (crow i wh (xc (R k) wh) v re))) aC (.inl (T 3, 200, .inr (.inr (.inr (.inr (va_up fC (nI nc).toNatClampNeg (some q_142)))))))) x (.inr (0, [.ref aI, .int (nI n), .ref aC, .int ((nI nc) + 1), .ref aJ, .ref aW, .ref aB, .ref aP]))) (ia k) (xI (xm (R k) wh v) (aa (2 * k)) (aa (2 * k + 1)))) aC = some (.inl (T 3, 200, .inr (.inr (.inr (.inr (va_up fC (nI nc).toNatClampNeg (some q_142))))))) := wd_uk h_167 (wd_ne h_167 h_168 (by simp))
                    have h_176 : (wd_up (wd_up (wd_up (wd_up σ q_142 (xC (crow i wh (xc (R k) wh) v re))) aC (.inl (T 3, 200, .inr (.inr (.inr (.inr (va_up fC (nI nc).toNatClampNeg (some q_142)))))))) x (.inr (0, [.ref aI, .int (nI n), .ref aC, .int ((nI nc) + 1), .ref aJ, .ref aW, .ref aB, .ref aP]))) (ia k) (xI (xm (R k) wh v) (aa (2 * k)) (aa (2 * k + 1)))) q_142 = some (xC (crow i wh (xc (R k) wh) v re)) := wd_uk h_169 (Ne.symm ne_150)
                    refine lv_aload_n hx hb d_F_correct_141 rfl (lv_at hl 1 rfl) ?_
                    refine wd_get C h kc_F h_174 3 (by decide) lk_F_25 rfl d_F_correct_142 ?_
                    exact wd_iret C hr hlocks h (by unfold o_corr; rw [show o_find (n, R, nc, CR, wg, Q).1 i = some k from hf]; simp only [eq_false c_11, eq_false c_17, eq_true c_23, eq_true c_24, eq_true c_25, eq_true c_102, eq_true c_103, eq_true c_141, ↓reduceIte, true_and, false_and, not_true_eq_false, not_false_eq_true, and_true, and_false]; exact ⟨nI_1 nc, hB.corr (q := q_142) (r := xm (R k) wh v) (c := crow i wh (xc (R k) wh) v re) hlt hk hq_143 h_176 (by rw [← nI_1]; exact h_174) (h_175.trans (by rw [nI_clamp (show nc < 2 ^ 31 by omega)])) h_173 (fun b h1 h2 h3 h4 => by rw [wd_un _ _ h4, wd_un _ _ h2, wd_un _ _ h3, wd_un _ _ h1]) (xm_lo (by decide)) (xm_lo (by decide)) (fun j hj => xm_lo (by omega))⟩) (Nat.le_of_ble_eq_true rfl) (Nat.le_of_ble_eq_true rfl) d_F_correct_145
                  · refine lv_bipush (v := (-110)) hx hb d_F_correct_94 (by decide) ?_
                    exact wd_iret C hr hlocks h (by unfold o_corr; rw [show o_find (n, R, nc, CR, wg, Q).1 i = some k from hf]; simp only [eq_false c_11, eq_false c_17, eq_true c_23, eq_true c_24, eq_true c_25, eq_true c_102, eq_true c_103, eq_false c_141, ↓reduceIte, true_and, false_and, not_true_eq_false, not_false_eq_true, and_true, and_false]; first | exact ⟨trivial, hB.rx⟩ | exact hB.rx) (Nat.le_of_ble_eq_true rfl) (Nat.le_of_ble_eq_true rfl) d_F_correct_96
              · refine lv_bipush (v := (-109)) hx hb d_F_correct_77 (by decide) ?_
                exact wd_iret C hr hlocks h (by unfold o_corr; rw [show o_find (n, R, nc, CR, wg, Q).1 i = some k from hf]; simp only [eq_false c_11, eq_false c_17, eq_true c_23, eq_true c_24, eq_true c_25, eq_false c_102, ↓reduceIte, true_and, false_and, not_true_eq_false, not_false_eq_true, and_true, and_false]; first | exact ⟨trivial, hB.rx⟩ | exact hB.rx) (Nat.le_of_ble_eq_true rfl) (Nat.le_of_ble_eq_true rfl) d_F_correct_79
          · refine lv_bipush (v := (-104)) hx hb d_F_correct_60 (by decide) ?_
            exact wd_iret C hr hlocks h (by unfold o_corr; rw [show o_find (n, R, nc, CR, wg, Q).1 i = some k from hf]; simp only [eq_false c_11, eq_false c_17, eq_true c_23, eq_false c_24, ↓reduceIte, true_and, false_and, not_true_eq_false, not_false_eq_true, and_true, and_false]; first | exact ⟨trivial, hB.rx⟩ | exact hB.rx) (Nat.le_of_ble_eq_true rfl) (Nat.le_of_ble_eq_true rfl) d_F_correct_62
        · refine lv_bipush (v := (-103)) hx hb d_F_correct_47 (by decide) ?_
          exact wd_iret C hr hlocks h (by unfold o_corr; rw [show o_find (n, R, nc, CR, wg, Q).1 i = some k from hf]; simp only [eq_false c_11, eq_false c_17, eq_false c_23, ↓reduceIte, true_and, false_and, not_true_eq_false, not_false_eq_true, and_true, and_false]; first | exact ⟨trivial, hB.rx⟩ | exact hB.rx) (Nat.le_of_ble_eq_true rfl) (Nat.le_of_ble_eq_true rfl) d_F_correct_49
      · refine lv_bipush (v := (-102)) hx hb d_F_correct_34 (by decide) ?_
        exact wd_iret C hr hlocks h (by unfold o_corr; rw [show o_find (n, R, nc, CR, wg, Q).1 i = some k from hf]; simp only [eq_false c_11, eq_true c_17, ↓reduceIte, true_and, false_and, not_true_eq_false, not_false_eq_true, and_true, and_false]; first | exact ⟨trivial, hB.rx⟩ | exact hB.rx) (Nat.le_of_ble_eq_true rfl) (Nat.le_of_ble_eq_true rfl) d_F_correct_36
