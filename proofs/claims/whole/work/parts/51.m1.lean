set_option maxHeartbeats 4000000 in
set_option maxRecDepth 20000 in
theorem c_M_within (l : Launch) (D : va_G) (T : Nat → ClassId) (A : Nat → Prop) (σ : wd_S) (v lo hi : Int32) : Met l y_M_within (Cond.code y_M_within b_M_within 3 (some .boolean) :: wd_tb) { frames := 0, cells := 0, slots := 0, locals := 0 } (va_Pc [.int v, .int lo, .int hi] (wd_Pre D T A σ)) (va_Qi (fun r1 σ1 => r1 = xw v lo hi ∧ σ1 = σ) (wd_B D A) A) 0 0 A := by
  refine wd_ofW (by decide) (Nat.le_of_ble_eq_true rfl) ?_
  intro p e s m below meth c0 ls C hr hlocks hname h hl
  have hl : lv_has ls 3 [(0, .int v), (1, .int lo), (2, .int hi)] := hl
  have hx := C.1
  have hb := C.2.1
  refine lv_iload_n hx hb d_M_within_0 rfl (lv_at hl 0 rfl) ?_
  refine lv_iload_n hx hb d_M_within_1 rfl (lv_at hl 1 rfl) ?_
  refine lv_icmp_lt (tgt := 14) hx hb d_M_within_2 (by decide) (fun c_1 => ?_) (fun c_1 => ?_)
  · refine lv_iconst (v := 0) hx hb d_M_within_14 (by decide) ?_
    exact wd_zret C hr hlocks h (by decide) (⟨by simp [xw, c_1], rfl⟩) (Nat.le_of_ble_eq_true rfl) (Nat.le_of_ble_eq_true rfl) d_M_within_15
  · refine lv_iload_n hx hb d_M_within_5 rfl (lv_at hl 0 rfl) ?_
    refine lv_iload_n hx hb d_M_within_6 rfl (lv_at hl 2 rfl) ?_
    refine lv_icmp_gt (tgt := 14) hx hb d_M_within_7 (by decide) (fun c_2 => ?_) (fun c_2 => ?_)
    · refine lv_iconst (v := 0) hx hb d_M_within_14 (by decide) ?_
      exact wd_zret C hr hlocks h (by decide) (⟨by simp [xw, c_1, c_2], rfl⟩) (Nat.le_of_ble_eq_true rfl) (Nat.le_of_ble_eq_true rfl) d_M_within_15
    · refine lv_iconst (v := 1) hx hb d_M_within_10 (by decide) ?_
      refine lv_goto (tgt := 15) hx hb d_M_within_11 (by decide) ?_
      exact wd_zret C hr hlocks h (by decide) (⟨by simp [xw, c_1, c_2], rfl⟩) (Nat.le_of_ble_eq_true rfl) (Nat.le_of_ble_eq_true rfl) d_M_within_15

set_option maxHeartbeats 4000000 in
set_option maxRecDepth 20000 in
theorem c_M_isItem (l : Launch) (D : va_G) (T : Nat → ClassId) (A : Nat → Prop) (σ : wd_S) (y : Nat) (am : Nat → Nat) (fm : Nat → Nat → Int32) (n : Nat) (R : Nat → Nat → Int32) (nc : Nat) (CR : Nat → Nat → Int32) (wg : Nat → Int32) (Q : pq) (hM : MB T σ y am fm n R nc CR wg Q) (i : Int32) : Met l y_M_isItem (Cond.code y_M_isItem b_M_isItem 2 (some .boolean) :: wd_tb) { frames := 1, cells := 0, slots := 0, locals := 22 } (va_Pc [.ref y, .int i] (wd_Pre D T A σ)) (va_Qi (fun r1 σ1 => r1 = xw i 1 (nI n) ∧ σ1 = σ) (wd_B D A) A) 0 0 A := by
  refine wd_ofW (by decide) (Nat.le_of_ble_eq_true rfl) ?_
  intro p e s m below meth c0 ls C hr hlocks hname h hl
  have hl : lv_has ls 2 [(0, .ref y), (1, .int i)] := hl
  have hx := C.1
  have hb := C.2.1
  obtain ⟨⟨d0, dc, di⟩, m1, m2, m3, m4, m5, m6, m7, m8, m9, m10⟩ := id hM
  refine lv_iload_n hx hb d_M_isItem_0 rfl (lv_at hl 1 rfl) ?_
  refine lv_iconst (v := 1) hx hb d_M_isItem_1 (by decide) ?_
  refine lv_aload_n hx hb d_M_isItem_2 rfl (lv_at hl 0 rfl) ?_
  refine wd_get C h kc_M d0 0 (by decide) lk_M_71 rfl d_M_isItem_3 ?_
  refine wd_ci h (wd_rS (rest := []) (st0 := [.int (nI n), .int 1, .int i]) C h k_M_within wt_M_within lk_M_75 (c_M_within l D T A σ i 1 (nI n)) rfl rfl ⟨Nat.le_of_ble_eq_true rfl, Nat.le_of_ble_eq_true rfl⟩ rfl hl.1 rfl (Nat.le_of_ble_eq_true rfl) d_M_isItem_6 ⟨Nat.le_of_ble_eq_true rfl, Nat.le_of_ble_eq_true rfl⟩) (fun r_1 σ_2 H locs hp_3 h => ?_)
  obtain ⟨e_4, es_5⟩ := hp_3
  rw [es_5] at h
  subst e_4
  exact wd_zret C hr hlocks h (xw_01 _ _ _) (⟨rfl, rfl⟩) (Nat.le_of_ble_eq_true rfl) (Nat.le_of_ble_eq_true rfl) d_M_isItem_9

set_option maxHeartbeats 4000000 in
set_option maxRecDepth 20000 in
theorem c_M_isOver (l : Launch) (D : va_G) (T : Nat → ClassId) (A : Nat → Prop) (σ : wd_S) (y : Nat) (am : Nat → Nat) (fm : Nat → Nat → Int32) (n : Nat) (R : Nat → Nat → Int32) (nc : Nat) (CR : Nat → Nat → Int32) (wg : Nat → Int32) (Q : pq) (hM : MB T σ y am fm n R nc CR wg Q) (k : Nat) (hk : k < n) : Met l y_M_isOver (Cond.code y_M_isOver b_M_isOver 2 (some .boolean) :: wd_tb) { frames := 0, cells := 0, slots := 0, locals := 0 } (va_Pc [.ref y, .int (nI (k + 1))] (wd_Pre D T A σ)) (va_Qi (fun r1 σ1 => r1 = xe (R k 5) ∧ σ1 = σ) (wd_B D A) A) 0 0 A := by
  refine wd_ofW (by decide) (Nat.le_of_ble_eq_true rfl) ?_
  intro p e s m below meth c0 ls C hr hlocks hname h hl
  have hl : lv_has ls 2 [(0, .ref y), (1, .int (nI (k + 1)))] := hl
  have hx := C.1
  have hb := C.2.1
  obtain ⟨⟨d0, dc, di⟩, m1, m2, m3, m4, m5, m6, m7, m8, m9, m10⟩ := id hM
  have c6 : σ (am 6) = some (.inl (T 0, 121, .inl (fm 6))) := dc 6 rfl
  refine lv_aload_n hx hb d_M_isOver_0 rfl (lv_at hl 0 rfl) ?_
  refine wd_get C h kc_M d0 6 (by decide) lk_M_25 rfl d_M_isOver_1 ?_
  refine lv_iload_n hx hb d_M_isOver_4 rfl (lv_at hl 1 rfl) ?_
  refine wd_iald C h 0 rfl c6 (vp_in_nI (show k + 1 < 121 by omega) (by decide)) d_M_isOver_5 ?_
  rw [nI_clamp (show k + 1 < 2 ^ 31 by omega)]
  rw [show fm 6 (k + 1) = R k 5 from m1 k hk 5 (by decide)]
  refine lv_iconst (v := 5) hx hb d_M_isOver_6 (by decide) ?_
  refine lv_icmp_eq (tgt := 21) hx hb d_M_isOver_7 (by decide) (fun c_1 => ?_) (fun c_1 => ?_)
  · refine lv_iconst (v := 1) hx hb d_M_isOver_21 (by decide) ?_
    refine lv_goto (tgt := 26) hx hb d_M_isOver_22 (by decide) ?_
    exact wd_zret C hr hlocks h (by decide) (⟨by simp [xe, c_1], rfl⟩) (Nat.le_of_ble_eq_true rfl) (Nat.le_of_ble_eq_true rfl) d_M_isOver_26
  · refine lv_aload_n hx hb d_M_isOver_10 rfl (lv_at hl 0 rfl) ?_
    refine wd_get C h kc_M d0 6 (by decide) lk_M_25 rfl d_M_isOver_11 ?_
    refine lv_iload_n hx hb d_M_isOver_14 rfl (lv_at hl 1 rfl) ?_
    refine wd_iald C h 0 rfl c6 (vp_in_nI (show k + 1 < 121 by omega) (by decide)) d_M_isOver_15 ?_
    rw [nI_clamp (show k + 1 < 2 ^ 31 by omega)]
    rw [show fm 6 (k + 1) = R k 5 from m1 k hk 5 (by decide)]
    refine lv_bipush (v := 9) hx hb d_M_isOver_16 (by decide) ?_
    refine lv_icmp_ne (tgt := 25) hx hb d_M_isOver_18 (by decide) (fun c_2 => ?_) (fun c_2 => ?_)
    · refine lv_iconst (v := 0) hx hb d_M_isOver_25 (by decide) ?_
      exact wd_zret C hr hlocks h (by decide) (⟨by simp [xe, c_1, c_2], rfl⟩) (Nat.le_of_ble_eq_true rfl) (Nat.le_of_ble_eq_true rfl) d_M_isOver_26
    · refine lv_iconst (v := 1) hx hb d_M_isOver_21 (by decide) ?_
      refine lv_goto (tgt := 26) hx hb d_M_isOver_22 (by decide) ?_
      exact wd_zret C hr hlocks h (by decide) (⟨by simp [xe, c_1, c_2], rfl⟩) (Nat.le_of_ble_eq_true rfl) (Nat.le_of_ble_eq_true rfl) d_M_isOver_26

set_option maxHeartbeats 4000000 in
set_option maxRecDepth 20000 in
theorem c_M_has (l : Launch) (D : va_G) (T : Nat → ClassId) (A : Nat → Prop) (σ : wd_S) (y : Nat) (am : Nat → Nat) (fm : Nat → Nat → Int32) (n : Nat) (R : Nat → Nat → Int32) (nc : Nat) (CR : Nat → Nat → Int32) (wg : Nat → Int32) (Q : pq) (hM : MB T σ y am fm n R nc CR wg Q) (k : Nat) (hk : k < n) (t : Int32) : Met l y_M_has (Cond.code y_M_has b_M_has 3 (some .boolean) :: wd_tb) { frames := 0, cells := 0, slots := 0, locals := 0 } (va_Pc [.ref y, .int (nI (k + 1)), .int t] (wd_Pre D T A σ)) (va_Qi (fun r1 σ1 => r1 = xh (R k 4) t ∧ σ1 = σ) (wd_B D A) A) 0 0 A := by
  refine wd_ofW (by decide) (Nat.le_of_ble_eq_true rfl) ?_
  intro p e s m below meth c0 ls C hr hlocks hname h hl
  have hl : lv_has ls 3 [(0, .ref y), (1, .int (nI (k + 1))), (2, .int t)] := hl
  have hx := C.1
  have hb := C.2.1
  obtain ⟨⟨d0, dc, di⟩, m1, m2, m3, m4, m5, m6, m7, m8, m9, m10⟩ := id hM
  have c5 : σ (am 5) = some (.inl (T 0, 121, .inl (fm 5))) := dc 5 rfl
  refine lv_aload_n hx hb d_M_has_0 rfl (lv_at hl 0 rfl) ?_
  refine wd_get C h kc_M d0 5 (by decide) lk_M_22 rfl d_M_has_1 ?_
  refine lv_iload_n hx hb d_M_has_4 rfl (lv_at hl 1 rfl) ?_
  refine wd_iald C h 0 rfl c5 (vp_in_nI (show k + 1 < 121 by omega) (by decide)) d_M_has_5 ?_
  rw [nI_clamp (show k + 1 < 2 ^ 31 by omega)]
  rw [show fm 5 (k + 1) = R k 4 from m1 k hk 4 (by decide)]
  refine lv_iload_n hx hb d_M_has_6 rfl (lv_at hl 2 rfl) ?_
  refine lv_ishr hx hb d_M_has_7 ?_
  refine lv_iconst (v := 1) hx hb d_M_has_8 (by decide) ?_
  refine lv_iand hx hb d_M_has_9 ?_
  refine lv_iconst (v := 1) hx hb d_M_has_10 (by decide) ?_
  refine lv_icmp_ne (tgt := 18) hx hb d_M_has_11 (by decide) (fun c_1 => ?_) (fun c_1 => ?_)
  · refine lv_iconst (v := 0) hx hb d_M_has_18 (by decide) ?_
    exact wd_zret C hr hlocks h (by decide) (⟨by simp [xh, c_1], rfl⟩) (Nat.le_of_ble_eq_true rfl) (Nat.le_of_ble_eq_true rfl) d_M_has_19
  · refine lv_iconst (v := 1) hx hb d_M_has_14 (by decide) ?_
    refine lv_goto (tgt := 19) hx hb d_M_has_15 (by decide) ?_
    exact wd_zret C hr hlocks h (by decide) (⟨by simp [xh, c_1], rfl⟩) (Nat.le_of_ble_eq_true rfl) (Nat.le_of_ble_eq_true rfl) d_M_has_19

set_option maxHeartbeats 4000000 in
set_option maxRecDepth 20000 in
theorem c_M_mostOf (l : Launch) (D : va_G) (T : Nat → ClassId) (A : Nat → Prop) (σ : wd_S) (k : Int32) : Met l y_M_mostOf (Cond.code y_M_mostOf b_M_mostOf 1 (some .int) :: wd_tb) { frames := 0, cells := 0, slots := 0, locals := 0 } (va_Pc [.int k] (wd_Pre D T A σ)) (va_Qi (fun r1 σ1 => r1 = ym k ∧ σ1 = σ) (wd_B D A) A) 0 0 A := by
  refine wd_ofW (by decide) (Nat.le_of_ble_eq_true rfl) ?_
  intro p e s m below meth c0 ls C hr hlocks hname h hl
  have hl : lv_has ls 1 [(0, .int k)] := hl
  have hx := C.1
  have hb := C.2.1
  refine lv_iload_n hx hb d_M_mostOf_0 rfl (lv_at hl 0 rfl) ?_
  refine lv_if_ne (tgt := 9) hx hb d_M_mostOf_1 (by decide) (fun c_1 => ?_) (fun c_1 => ?_)
  · refine lv_iload_n hx hb d_M_mostOf_9 rfl (lv_at hl 0 rfl) ?_
    refine lv_iconst (v := 1) hx hb d_M_mostOf_10 (by decide) ?_
    refine lv_icmp_ne (tgt := 20) hx hb d_M_mostOf_11 (by decide) (fun c_2 => ?_) (fun c_2 => ?_)
    · refine lv_iload_n hx hb d_M_mostOf_20 rfl (lv_at hl 0 rfl) ?_
      refine lv_iconst (v := 2) hx hb d_M_mostOf_21 (by decide) ?_
      refine lv_icmp_ne (tgt := 31) hx hb d_M_mostOf_22 (by decide) (fun c_3 => ?_) (fun c_3 => ?_)
      · refine lv_sipush (v := 31500) hx hb d_M_mostOf_31 (by decide) ?_
        exact wd_iret C hr hlocks h (⟨by simp [ym, c_1, c_2, c_3], rfl⟩) (Nat.le_of_ble_eq_true rfl) (Nat.le_of_ble_eq_true rfl) d_M_mostOf_34
      · refine lv_sipush (v := 2000) hx hb d_M_mostOf_25 (by decide) ?_
        refine lv_goto (tgt := 34) hx hb d_M_mostOf_28 (by decide) ?_
        exact wd_iret C hr hlocks h (⟨by simp [ym, c_1, c_2, c_3], rfl⟩) (Nat.le_of_ble_eq_true rfl) (Nat.le_of_ble_eq_true rfl) d_M_mostOf_34
    · refine lv_sipush (v := 500) hx hb d_M_mostOf_14 (by decide) ?_
      refine lv_goto (tgt := 34) hx hb d_M_mostOf_17 (by decide) ?_
      exact wd_iret C hr hlocks h (⟨by simp [ym, c_1, c_2], rfl⟩) (Nat.le_of_ble_eq_true rfl) (Nat.le_of_ble_eq_true rfl) d_M_mostOf_34
  · refine lv_bipush (v := 50) hx hb d_M_mostOf_4 (by decide) ?_
    refine lv_goto (tgt := 34) hx hb d_M_mostOf_6 (by decide) ?_
    exact wd_iret C hr hlocks h (⟨by simp [ym, c_1], rfl⟩) (Nat.le_of_ble_eq_true rfl) (Nat.le_of_ble_eq_true rfl) d_M_mostOf_34

set_option maxHeartbeats 4000000 in
set_option maxRecDepth 20000 in
theorem c_M_tooMuch (l : Launch) (D : va_G) (T : Nat → ClassId) (A : Nat → Prop) (σ : wd_S) (w z : Int32) : Met l y_M_tooMuch (Cond.code y_M_tooMuch b_M_tooMuch 2 (some .int) :: wd_tb) { frames := 0, cells := 0, slots := 0, locals := 0 } (va_Pc [.int w, .int z] (wd_Pre D T A σ)) (va_Qi (fun r1 σ1 => r1 = yt w z ∧ σ1 = σ) (wd_B D A) A) 0 0 A := by
  refine wd_ofW (by decide) (Nat.le_of_ble_eq_true rfl) ?_
  intro p e s m below meth c0 ls C hr hlocks hname h hl
  have hl : lv_has ls 2 [(0, .int w), (1, .int z)] := hl
  have hx := C.1
  have hb := C.2.1
  refine lv_iload_n hx hb d_M_tooMuch_0 rfl (lv_at hl 0 rfl) ?_
  refine lv_sipush (v := 31500) hx hb d_M_tooMuch_1 (by decide) ?_
  refine lv_icmp_le (tgt := 12) hx hb d_M_tooMuch_4 (by decide) (fun c_1 => ?_) (fun c_1 => ?_)
  · refine lv_iload_n hx hb d_M_tooMuch_12 rfl (lv_at hl 1 rfl) ?_
    refine lv_iconst (v := 3) hx hb d_M_tooMuch_13 (by decide) ?_
    refine lv_icmp_le (tgt := 22) hx hb d_M_tooMuch_14 (by decide) (fun c_2 => ?_) (fun c_2 => ?_)
    · refine lv_iconst (v := 0) hx hb d_M_tooMuch_22 (by decide) ?_
      exact wd_iret C hr hlocks h (⟨by simp [yt, c_1, c_2], rfl⟩) (Nat.le_of_ble_eq_true rfl) (Nat.le_of_ble_eq_true rfl) d_M_tooMuch_23
    · refine lv_bipush (v := (-110)) hx hb d_M_tooMuch_17 (by decide) ?_
      refine lv_goto (tgt := 23) hx hb d_M_tooMuch_19 (by decide) ?_
      exact wd_iret C hr hlocks h (⟨by simp [yt, c_1, c_2], rfl⟩) (Nat.le_of_ble_eq_true rfl) (Nat.le_of_ble_eq_true rfl) d_M_tooMuch_23
  · refine lv_bipush (v := (-109)) hx hb d_M_tooMuch_7 (by decide) ?_
    refine lv_goto (tgt := 23) hx hb d_M_tooMuch_9 (by decide) ?_
    exact wd_iret C hr hlocks h (⟨by simp [yt, c_1], rfl⟩) (Nat.le_of_ble_eq_true rfl) (Nat.le_of_ble_eq_true rfl) d_M_tooMuch_23

set_option maxHeartbeats 4000000 in
set_option maxRecDepth 20000 in
theorem c_M_ledTo (l : Launch) (D : va_G) (T : Nat → ClassId) (A : Nat → Prop) (σ : wd_S) (st ev : Int32) : Met l y_M_ledTo (Cond.code y_M_ledTo b_M_ledTo 2 (some .int) :: wd_tb) { frames := 0, cells := 0, slots := 0, locals := 0 } (va_Pc [.int st, .int ev] (wd_Pre D T A σ)) (va_Qi (fun r1 σ1 => r1 = yd st ev ∧ σ1 = σ) (wd_B D A) A) 0 0 A := by
  refine wd_ofW (by decide) (Nat.le_of_ble_eq_true rfl) ?_
  intro p e s m below meth c0 ls C hr hlocks hname h hl
  have hl : lv_has ls 2 [(0, .int st), (1, .int ev)] := hl
  have hx := C.1
  have hb := C.2.1
  refine lv_iload_n hx hb d_M_ledTo_0 rfl (lv_at hl 1 rfl) ?_
  by_cases k_1 : ev = 0
  · refine lv_tableIn (tgt := 60) hx hb d_M_ledTo_1 (by rw [k_1]; decide) (by rw [k_1]; decide) (by rw [k_1]; rfl) (by decide) ?_
    refine lv_iload_n hx hb d_M_ledTo_60 rfl (lv_at hl 0 rfl) ?_
    refine lv_if_ne (tgt := 68) hx hb d_M_ledTo_61 (by decide) (fun c_2 => ?_) (fun c_2 => ?_)
    · refine lv_iconst (v := (-1)) hx hb d_M_ledTo_68 (by decide) ?_
      exact wd_iret C hr hlocks h (⟨by simp [yd, k_1, c_2], rfl⟩) (Nat.le_of_ble_eq_true rfl) (Nat.le_of_ble_eq_true rfl) d_M_ledTo_69
    · refine lv_iconst (v := 1) hx hb d_M_ledTo_64 (by decide) ?_
      refine lv_goto (tgt := 69) hx hb d_M_ledTo_65 (by decide) ?_
      exact wd_iret C hr hlocks h (⟨by simp [yd, k_1, c_2], rfl⟩) (Nat.le_of_ble_eq_true rfl) (Nat.le_of_ble_eq_true rfl) d_M_ledTo_69
  by_cases k_3 : ev = 1
  · refine lv_tableIn (tgt := 70) hx hb d_M_ledTo_1 (by rw [k_3]; decide) (by rw [k_3]; decide) (by rw [k_3]; rfl) (by decide) ?_
    refine lv_iload_n hx hb d_M_ledTo_70 rfl (lv_at hl 0 rfl) ?_
    refine lv_iconst (v := 1) hx hb d_M_ledTo_71 (by decide) ?_
    refine lv_icmp_eq (tgt := 80) hx hb d_M_ledTo_72 (by decide) (fun c_4 => ?_) (fun c_4 => ?_)
    · refine lv_iconst (v := 2) hx hb d_M_ledTo_80 (by decide) ?_
      refine lv_goto (tgt := 96) hx hb d_M_ledTo_81 (by decide) ?_
      exact wd_iret C hr hlocks h (⟨by simp [yd, k_3, c_4], rfl⟩) (Nat.le_of_ble_eq_true rfl) (Nat.le_of_ble_eq_true rfl) d_M_ledTo_96
    · refine lv_iload_n hx hb d_M_ledTo_75 rfl (lv_at hl 0 rfl) ?_
      refine lv_iconst (v := 3) hx hb d_M_ledTo_76 (by decide) ?_
      refine lv_icmp_ne (tgt := 84) hx hb d_M_ledTo_77 (by decide) (fun c_5 => ?_) (fun c_5 => ?_)
      · refine lv_iload_n hx hb d_M_ledTo_84 rfl (lv_at hl 0 rfl) ?_
        refine lv_bipush (v := 7) hx hb d_M_ledTo_85 (by decide) ?_
        refine lv_icmp_ne (tgt := 95) hx hb d_M_ledTo_87 (by decide) (fun c_6 => ?_) (fun c_6 => ?_)
        · refine lv_iconst (v := (-1)) hx hb d_M_ledTo_95 (by decide) ?_
          exact wd_iret C hr hlocks h (⟨by simp [yd, k_3, c_4, c_5, c_6], rfl⟩) (Nat.le_of_ble_eq_true rfl) (Nat.le_of_ble_eq_true rfl) d_M_ledTo_96
        · refine lv_bipush (v := 7) hx hb d_M_ledTo_90 (by decide) ?_
          refine lv_goto (tgt := 96) hx hb d_M_ledTo_92 (by decide) ?_
          exact wd_iret C hr hlocks h (⟨by simp [yd, k_3, c_4, c_5, c_6], rfl⟩) (Nat.le_of_ble_eq_true rfl) (Nat.le_of_ble_eq_true rfl) d_M_ledTo_96
      · refine lv_iconst (v := 2) hx hb d_M_ledTo_80 (by decide) ?_
        refine lv_goto (tgt := 96) hx hb d_M_ledTo_81 (by decide) ?_
        exact wd_iret C hr hlocks h (⟨by simp [yd, k_3, c_4, c_5], rfl⟩) (Nat.le_of_ble_eq_true rfl) (Nat.le_of_ble_eq_true rfl) d_M_ledTo_96
  by_cases k_7 : ev = 2
  · refine lv_tableIn (tgt := 97) hx hb d_M_ledTo_1 (by rw [k_7]; decide) (by rw [k_7]; decide) (by rw [k_7]; rfl) (by decide) ?_
    refine lv_iload_n hx hb d_M_ledTo_97 rfl (lv_at hl 0 rfl) ?_
    refine lv_iconst (v := 2) hx hb d_M_ledTo_98 (by decide) ?_
    refine lv_icmp_ne (tgt := 106) hx hb d_M_ledTo_99 (by decide) (fun c_8 => ?_) (fun c_8 => ?_)
    · refine lv_iconst (v := (-1)) hx hb d_M_ledTo_106 (by decide) ?_
      exact wd_iret C hr hlocks h (⟨by simp [yd, k_7, c_8], rfl⟩) (Nat.le_of_ble_eq_true rfl) (Nat.le_of_ble_eq_true rfl) d_M_ledTo_107
    · refine lv_iconst (v := 3) hx hb d_M_ledTo_102 (by decide) ?_
      refine lv_goto (tgt := 107) hx hb d_M_ledTo_103 (by decide) ?_
      exact wd_iret C hr hlocks h (⟨by simp [yd, k_7, c_8], rfl⟩) (Nat.le_of_ble_eq_true rfl) (Nat.le_of_ble_eq_true rfl) d_M_ledTo_107
  by_cases k_9 : ev = 3
  · refine lv_tableIn (tgt := 108) hx hb d_M_ledTo_1 (by rw [k_9]; decide) (by rw [k_9]; decide) (by rw [k_9]; rfl) (by decide) ?_
    refine lv_iload_n hx hb d_M_ledTo_108 rfl (lv_at hl 0 rfl) ?_
    refine lv_iconst (v := 3) hx hb d_M_ledTo_109 (by decide) ?_
    refine lv_icmp_eq (tgt := 119) hx hb d_M_ledTo_110 (by decide) (fun c_10 => ?_) (fun c_10 => ?_)
    · refine lv_iconst (v := 4) hx hb d_M_ledTo_119 (by decide) ?_
      refine lv_goto (tgt := 124) hx hb d_M_ledTo_120 (by decide) ?_
      exact wd_iret C hr hlocks h (⟨by simp [yd, k_9, c_10], rfl⟩) (Nat.le_of_ble_eq_true rfl) (Nat.le_of_ble_eq_true rfl) d_M_ledTo_124
    · refine lv_iload_n hx hb d_M_ledTo_113 rfl (lv_at hl 0 rfl) ?_
      refine lv_bipush (v := 6) hx hb d_M_ledTo_114 (by decide) ?_
      refine lv_icmp_ne (tgt := 123) hx hb d_M_ledTo_116 (by decide) (fun c_11 => ?_) (fun c_11 => ?_)
      · refine lv_iconst (v := (-1)) hx hb d_M_ledTo_123 (by decide) ?_
        exact wd_iret C hr hlocks h (⟨by simp [yd, k_9, c_10, c_11], rfl⟩) (Nat.le_of_ble_eq_true rfl) (Nat.le_of_ble_eq_true rfl) d_M_ledTo_124
      · refine lv_iconst (v := 4) hx hb d_M_ledTo_119 (by decide) ?_
        refine lv_goto (tgt := 124) hx hb d_M_ledTo_120 (by decide) ?_
        exact wd_iret C hr hlocks h (⟨by simp [yd, k_9, c_10, c_11], rfl⟩) (Nat.le_of_ble_eq_true rfl) (Nat.le_of_ble_eq_true rfl) d_M_ledTo_124
  by_cases k_12 : ev = 4
  · refine lv_tableIn (tgt := 125) hx hb d_M_ledTo_1 (by rw [k_12]; decide) (by rw [k_12]; decide) (by rw [k_12]; rfl) (by decide) ?_
    refine lv_iload_n hx hb d_M_ledTo_125 rfl (lv_at hl 0 rfl) ?_
    refine lv_iconst (v := 4) hx hb d_M_ledTo_126 (by decide) ?_
    refine lv_icmp_eq (tgt := 136) hx hb d_M_ledTo_127 (by decide) (fun c_13 => ?_) (fun c_13 => ?_)
    · refine lv_iconst (v := 5) hx hb d_M_ledTo_136 (by decide) ?_
      refine lv_goto (tgt := 141) hx hb d_M_ledTo_137 (by decide) ?_
      exact wd_iret C hr hlocks h (⟨by simp [yd, k_12, c_13], rfl⟩) (Nat.le_of_ble_eq_true rfl) (Nat.le_of_ble_eq_true rfl) d_M_ledTo_141
    · refine lv_iload_n hx hb d_M_ledTo_130 rfl (lv_at hl 0 rfl) ?_
      refine lv_bipush (v := 7) hx hb d_M_ledTo_131 (by decide) ?_
      refine lv_icmp_ne (tgt := 140) hx hb d_M_ledTo_133 (by decide) (fun c_14 => ?_) (fun c_14 => ?_)
      · refine lv_iconst (v := (-1)) hx hb d_M_ledTo_140 (by decide) ?_
        exact wd_iret C hr hlocks h (⟨by simp [yd, k_12, c_13, c_14], rfl⟩) (Nat.le_of_ble_eq_true rfl) (Nat.le_of_ble_eq_true rfl) d_M_ledTo_141
      · refine lv_iconst (v := 5) hx hb d_M_ledTo_136 (by decide) ?_
        refine lv_goto (tgt := 141) hx hb d_M_ledTo_137 (by decide) ?_
        exact wd_iret C hr hlocks h (⟨by simp [yd, k_12, c_13, c_14], rfl⟩) (Nat.le_of_ble_eq_true rfl) (Nat.le_of_ble_eq_true rfl) d_M_ledTo_141
  by_cases k_15 : ev = 5
  · refine lv_tableIn (tgt := 142) hx hb d_M_ledTo_1 (by rw [k_15]; decide) (by rw [k_15]; decide) (by rw [k_15]; rfl) (by decide) ?_
    refine lv_iload_n hx hb d_M_ledTo_142 rfl (lv_at hl 0 rfl) ?_
    refine lv_iconst (v := 4) hx hb d_M_ledTo_143 (by decide) ?_
    refine lv_icmp_ne (tgt := 152) hx hb d_M_ledTo_144 (by decide) (fun c_16 => ?_) (fun c_16 => ?_)
    · refine lv_iconst (v := (-1)) hx hb d_M_ledTo_152 (by decide) ?_
      exact wd_iret C hr hlocks h (⟨by simp [yd, k_15, c_16], rfl⟩) (Nat.le_of_ble_eq_true rfl) (Nat.le_of_ble_eq_true rfl) d_M_ledTo_153
    · refine lv_bipush (v := 6) hx hb d_M_ledTo_147 (by decide) ?_
      refine lv_goto (tgt := 153) hx hb d_M_ledTo_149 (by decide) ?_
      exact wd_iret C hr hlocks h (⟨by simp [yd, k_15, c_16], rfl⟩) (Nat.le_of_ble_eq_true rfl) (Nat.le_of_ble_eq_true rfl) d_M_ledTo_153
  by_cases k_17 : ev = 6
  · refine lv_tableIn (tgt := 154) hx hb d_M_ledTo_1 (by rw [k_17]; decide) (by rw [k_17]; decide) (by rw [k_17]; rfl) (by decide) ?_
    refine lv_iload_n hx hb d_M_ledTo_154 rfl (lv_at hl 0 rfl) ?_
    refine lv_iconst (v := 4) hx hb d_M_ledTo_155 (by decide) ?_
    refine lv_icmp_eq (tgt := 165) hx hb d_M_ledTo_156 (by decide) (fun c_18 => ?_) (fun c_18 => ?_)
    · refine lv_bipush (v := 7) hx hb d_M_ledTo_165 (by decide) ?_
      refine lv_goto (tgt := 171) hx hb d_M_ledTo_167 (by decide) ?_
      exact wd_iret C hr hlocks h (⟨by simp [yd, k_17, c_18], rfl⟩) (Nat.le_of_ble_eq_true rfl) (Nat.le_of_ble_eq_true rfl) d_M_ledTo_171
    · refine lv_iload_n hx hb d_M_ledTo_159 rfl (lv_at hl 0 rfl) ?_
      refine lv_bipush (v := 6) hx hb d_M_ledTo_160 (by decide) ?_
      refine lv_icmp_ne (tgt := 170) hx hb d_M_ledTo_162 (by decide) (fun c_19 => ?_) (fun c_19 => ?_)
      · refine lv_iconst (v := (-1)) hx hb d_M_ledTo_170 (by decide) ?_
        exact wd_iret C hr hlocks h (⟨by simp [yd, k_17, c_18, c_19], rfl⟩) (Nat.le_of_ble_eq_true rfl) (Nat.le_of_ble_eq_true rfl) d_M_ledTo_171
      · refine lv_bipush (v := 7) hx hb d_M_ledTo_165 (by decide) ?_
        refine lv_goto (tgt := 171) hx hb d_M_ledTo_167 (by decide) ?_
        exact wd_iret C hr hlocks h (⟨by simp [yd, k_17, c_18, c_19], rfl⟩) (Nat.le_of_ble_eq_true rfl) (Nat.le_of_ble_eq_true rfl) d_M_ledTo_171
  by_cases k_20 : ev = 7
  · refine lv_tableIn (tgt := 194) hx hb d_M_ledTo_1 (by rw [k_20]; decide) (by rw [k_20]; decide) (by rw [k_20]; rfl) (by decide) ?_
    refine lv_iload_n hx hb d_M_ledTo_194 rfl (lv_at hl 0 rfl) ?_
    exact wd_iret C hr hlocks h (⟨by simp [yd, k_20], rfl⟩) (Nat.le_of_ble_eq_true rfl) (Nat.le_of_ble_eq_true rfl) d_M_ledTo_195
  by_cases k_21 : ev = 8
  · refine lv_tableIn (tgt := 194) hx hb d_M_ledTo_1 (by rw [k_21]; decide) (by rw [k_21]; decide) (by rw [k_21]; rfl) (by decide) ?_
    refine lv_iload_n hx hb d_M_ledTo_194 rfl (lv_at hl 0 rfl) ?_
    exact wd_iret C hr hlocks h (⟨by simp [yd, k_21], rfl⟩) (Nat.le_of_ble_eq_true rfl) (Nat.le_of_ble_eq_true rfl) d_M_ledTo_195
  by_cases k_22 : ev = 9
  · refine lv_tableIn (tgt := 172) hx hb d_M_ledTo_1 (by rw [k_22]; decide) (by rw [k_22]; decide) (by rw [k_22]; rfl) (by decide) ?_
    refine lv_iload_n hx hb d_M_ledTo_172 rfl (lv_at hl 0 rfl) ?_
    refine lv_bipush (v := 7) hx hb d_M_ledTo_173 (by decide) ?_
    refine lv_icmp_eq (tgt := 184) hx hb d_M_ledTo_175 (by decide) (fun c_23 => ?_) (fun c_23 => ?_)
    · refine lv_bipush (v := 8) hx hb d_M_ledTo_184 (by decide) ?_
      refine lv_goto (tgt := 190) hx hb d_M_ledTo_186 (by decide) ?_
      exact wd_iret C hr hlocks h (⟨by simp [yd, k_22, c_23], rfl⟩) (Nat.le_of_ble_eq_true rfl) (Nat.le_of_ble_eq_true rfl) d_M_ledTo_190
    · refine lv_iload_n hx hb d_M_ledTo_178 rfl (lv_at hl 0 rfl) ?_
      refine lv_bipush (v := 6) hx hb d_M_ledTo_179 (by decide) ?_
      refine lv_icmp_ne (tgt := 189) hx hb d_M_ledTo_181 (by decide) (fun c_24 => ?_) (fun c_24 => ?_)
      · refine lv_iconst (v := (-1)) hx hb d_M_ledTo_189 (by decide) ?_
        exact wd_iret C hr hlocks h (⟨by simp [yd, k_22, c_23, c_24], rfl⟩) (Nat.le_of_ble_eq_true rfl) (Nat.le_of_ble_eq_true rfl) d_M_ledTo_190
      · refine lv_bipush (v := 8) hx hb d_M_ledTo_184 (by decide) ?_
        refine lv_goto (tgt := 190) hx hb d_M_ledTo_186 (by decide) ?_
        exact wd_iret C hr hlocks h (⟨by simp [yd, k_22, c_23, c_24], rfl⟩) (Nat.le_of_ble_eq_true rfl) (Nat.le_of_ble_eq_true rfl) d_M_ledTo_190
  by_cases k_25 : ev = 10
  · refine lv_tableIn (tgt := 191) hx hb d_M_ledTo_1 (by rw [k_25]; decide) (by rw [k_25]; decide) (by rw [k_25]; rfl) (by decide) ?_
    refine lv_bipush (v := 9) hx hb d_M_ledTo_191 (by decide) ?_
    exact wd_iret C hr hlocks h (⟨by simp [yd, k_25], rfl⟩) (Nat.le_of_ble_eq_true rfl) (Nat.le_of_ble_eq_true rfl) d_M_ledTo_193
  have n_26 := sw_ne k_1 (show ((0 : Int32)).toInt = 0 from by decide)
  have n_27 := sw_ne k_3 (show ((1 : Int32)).toInt = 1 from by decide)
  have n_28 := sw_ne k_7 (show ((2 : Int32)).toInt = 2 from by decide)
  have n_29 := sw_ne k_9 (show ((3 : Int32)).toInt = 3 from by decide)
  have n_30 := sw_ne k_12 (show ((4 : Int32)).toInt = 4 from by decide)
  have n_31 := sw_ne k_15 (show ((5 : Int32)).toInt = 5 from by decide)
  have n_32 := sw_ne k_17 (show ((6 : Int32)).toInt = 6 from by decide)
  have n_33 := sw_ne k_20 (show ((7 : Int32)).toInt = 7 from by decide)
  have n_34 := sw_ne k_21 (show ((8 : Int32)).toInt = 8 from by decide)
  have n_35 := sw_ne k_22 (show ((9 : Int32)).toInt = 9 from by decide)
  have n_36 := sw_ne k_25 (show ((10 : Int32)).toInt = 10 from by decide)
  refine lv_tableOut (tgt := 194) hx hb d_M_ledTo_1 (by omega) (by decide) ?_
  refine lv_iload_n hx hb d_M_ledTo_194 rfl (lv_at hl 0 rfl) ?_
  exact wd_iret C hr hlocks h (⟨by simp [yd, k_1, k_3, k_7, k_9, k_12, k_15, k_17, k_20, k_21, k_22, k_25], rfl⟩) (Nat.le_of_ble_eq_true rfl) (Nat.le_of_ble_eq_true rfl) d_M_ledTo_195

set_option maxHeartbeats 4000000 in
set_option maxRecDepth 20000 in
theorem c_M_excludes (l : Launch) (D : va_G) (T : Nat → ClassId) (A : Nat → Prop) (σ : wd_S) (a b : Int32) : Met l y_M_excludes (Cond.code y_M_excludes b_M_excludes 4 (some .boolean) :: wd_tb) { frames := 0, cells := 0, slots := 0, locals := 0 } (va_Pc [.int a, .int b] (wd_Pre D T A σ)) (va_Qi (fun r1 σ1 => r1 = ye a b ∧ σ1 = σ) (wd_B D A) A) 0 0 A := by
  refine wd_ofW (by decide) (Nat.le_of_ble_eq_true rfl) ?_
  intro p e s m below meth c0 ls C hr hlocks hname h hl
  have hl : lv_has ls 4 [(0, .int a), (1, .int b)] := hl
  have hx := C.1
  have hb := C.2.1
  refine lv_iload_n hx hb d_M_excludes_0 rfl (lv_at hl 0 rfl) ?_
  refine lv_iload_n hx hb d_M_excludes_1 rfl (lv_at hl 1 rfl) ?_
  refine lv_icmp_ge (tgt := 9) hx hb d_M_excludes_2 (by decide) (fun c_1 => ?_) (fun c_1 => ?_)
  · refine lv_iload_n hx hb d_M_excludes_9 rfl (lv_at hl 1 rfl) ?_
    refine lv_istore_n (lv' := [(2, .int b), (0, .int a), (1, .int b)]) hx hb d_M_excludes_10 rfl hl (by decide) rfl (fun ls hl => ?_)
    refine lv_iload_n hx hb d_M_excludes_11 rfl (lv_at hl 1 rfl) ?_
    refine lv_iload_n hx hb d_M_excludes_12 rfl (lv_at hl 2 rfl) ?_
    refine lv_icmp_ge (tgt := 20) hx hb d_M_excludes_13 (by decide) (fun _ => ?_) (fun z => absurd c_1 z)
    refine lv_iload_n hx hb d_M_excludes_20 rfl (lv_at hl 1 rfl) ?_
    refine lv_istore_n (lv' := [(3, .int a), (2, .int b), (0, .int a), (1, .int b)]) hx hb d_M_excludes_21 rfl hl (by decide) rfl (fun ls hl => ?_)
    refine lv_iload_n hx hb d_M_excludes_22 rfl (lv_at hl 1 rfl) ?_
    refine lv_iconst (v := 2) hx hb d_M_excludes_23 (by decide) ?_
    refine lv_icmp_ne (tgt := 32) hx hb d_M_excludes_24 (by decide) (fun c_3 => ?_) (fun c_3 => ?_)
    · refine lv_iload_n hx hb d_M_excludes_32 rfl (lv_at hl 1 rfl) ?_
      refine lv_iconst (v := 1) hx hb d_M_excludes_33 (by decide) ?_
      refine lv_icmp_ne (tgt := 42) hx hb d_M_excludes_34 (by decide) (fun c_4 => ?_) (fun c_4 => ?_)
      · refine lv_iload_n hx hb d_M_excludes_42 rfl (lv_at hl 1 rfl) ?_
        refine lv_iconst (v := 4) hx hb d_M_excludes_43 (by decide) ?_
        refine lv_icmp_ne (tgt := 52) hx hb d_M_excludes_44 (by decide) (fun c_5 => ?_) (fun c_5 => ?_)
        · refine lv_iload_n hx hb d_M_excludes_52 rfl (lv_at hl 1 rfl) ?_
          refine lv_iconst (v := 3) hx hb d_M_excludes_53 (by decide) ?_
          refine lv_icmp_ne (tgt := 66) hx hb d_M_excludes_54 (by decide) (fun c_6 => ?_) (fun c_6 => ?_)
          · refine lv_iconst (v := 0) hx hb d_M_excludes_66 (by decide) ?_
            exact wd_zret C hr hlocks h (by decide) (⟨by simp [ye, eq_true c_1, eq_false c_3, eq_false c_4, eq_false c_5, eq_false c_6]; try simp [c_1], rfl⟩) (Nat.le_of_ble_eq_true rfl) (Nat.le_of_ble_eq_true rfl) d_M_excludes_67
          · refine lv_iload_n hx hb d_M_excludes_57 rfl (lv_at hl 0 rfl) ?_
            refine lv_iconst (v := 5) hx hb d_M_excludes_58 (by decide) ?_
            refine lv_icmp_ne (tgt := 66) hx hb d_M_excludes_59 (by decide) (fun c_7 => ?_) (fun c_7 => ?_)
            · refine lv_iconst (v := 0) hx hb d_M_excludes_66 (by decide) ?_
              exact wd_zret C hr hlocks h (by decide) (⟨by simp [ye, eq_true c_1, eq_false c_3, eq_false c_4, eq_false c_5, eq_true c_6, eq_false c_7]; try simp [c_1, c_6], rfl⟩) (Nat.le_of_ble_eq_true rfl) (Nat.le_of_ble_eq_true rfl) d_M_excludes_67
            · refine lv_iconst (v := 1) hx hb d_M_excludes_62 (by decide) ?_
              refine lv_goto (tgt := 67) hx hb d_M_excludes_63 (by decide) ?_
              exact wd_zret C hr hlocks h (by decide) (⟨by simp [ye, eq_true c_1, eq_false c_3, eq_false c_4, eq_false c_5, eq_true c_6, eq_true c_7]; try simp [c_1, c_6, c_7], rfl⟩) (Nat.le_of_ble_eq_true rfl) (Nat.le_of_ble_eq_true rfl) d_M_excludes_67
        · refine lv_iload_n hx hb d_M_excludes_47 rfl (lv_at hl 0 rfl) ?_
          refine lv_iconst (v := 5) hx hb d_M_excludes_48 (by decide) ?_
          refine lv_icmp_eq (tgt := 62) hx hb d_M_excludes_49 (by decide) (fun c_8 => ?_) (fun c_8 => ?_)
          · refine lv_iconst (v := 1) hx hb d_M_excludes_62 (by decide) ?_
            refine lv_goto (tgt := 67) hx hb d_M_excludes_63 (by decide) ?_
            exact wd_zret C hr hlocks h (by decide) (⟨by simp [ye, eq_true c_1, eq_false c_3, eq_false c_4, eq_true c_5, eq_true c_8]; try simp [c_1, c_5, c_8], rfl⟩) (Nat.le_of_ble_eq_true rfl) (Nat.le_of_ble_eq_true rfl) d_M_excludes_67
          · refine lv_iload_n hx hb d_M_excludes_52 rfl (lv_at hl 1 rfl) ?_
            refine lv_iconst (v := 3) hx hb d_M_excludes_53 (by decide) ?_
            refine lv_icmp_ne (tgt := 66) hx hb d_M_excludes_54 (by decide) (fun _ => ?_) (fun z => absurd z (show ¬ b = 3 from by rw [c_5]; decide))
            refine lv_iconst (v := 0) hx hb d_M_excludes_66 (by decide) ?_
            exact wd_zret C hr hlocks h (by decide) (⟨by simp [ye, eq_true c_1, eq_false c_3, eq_false c_4, eq_true c_5, eq_false c_8]; try simp [c_1, c_5], rfl⟩) (Nat.le_of_ble_eq_true rfl) (Nat.le_of_ble_eq_true rfl) d_M_excludes_67
      · refine lv_iload_n hx hb d_M_excludes_37 rfl (lv_at hl 0 rfl) ?_
        refine lv_iconst (v := 2) hx hb d_M_excludes_38 (by decide) ?_
        refine lv_icmp_eq (tgt := 62) hx hb d_M_excludes_39 (by decide) (fun c_10 => ?_) (fun c_10 => ?_)
        · refine lv_iconst (v := 1) hx hb d_M_excludes_62 (by decide) ?_
          refine lv_goto (tgt := 67) hx hb d_M_excludes_63 (by decide) ?_
          exact wd_zret C hr hlocks h (by decide) (⟨by simp [ye, eq_true c_1, eq_false c_3, eq_true c_4, eq_true c_10]; try simp [c_1, c_4, c_10], rfl⟩) (Nat.le_of_ble_eq_true rfl) (Nat.le_of_ble_eq_true rfl) d_M_excludes_67
        · refine lv_iload_n hx hb d_M_excludes_42 rfl (lv_at hl 1 rfl) ?_
          refine lv_iconst (v := 4) hx hb d_M_excludes_43 (by decide) ?_
          refine lv_icmp_ne (tgt := 52) hx hb d_M_excludes_44 (by decide) (fun _ => ?_) (fun z => absurd z (show ¬ b = 4 from by rw [c_4]; decide))
          refine lv_iload_n hx hb d_M_excludes_52 rfl (lv_at hl 1 rfl) ?_
          refine lv_iconst (v := 3) hx hb d_M_excludes_53 (by decide) ?_
          refine lv_icmp_ne (tgt := 66) hx hb d_M_excludes_54 (by decide) (fun _ => ?_) (fun z => absurd z (show ¬ b = 3 from by rw [c_4]; decide))
          refine lv_iconst (v := 0) hx hb d_M_excludes_66 (by decide) ?_
          exact wd_zret C hr hlocks h (by decide) (⟨by simp [ye, eq_true c_1, eq_false c_3, eq_true c_4, eq_false c_10]; try simp [c_1, c_4], rfl⟩) (Nat.le_of_ble_eq_true rfl) (Nat.le_of_ble_eq_true rfl) d_M_excludes_67
    · refine lv_iload_n hx hb d_M_excludes_27 rfl (lv_at hl 0 rfl) ?_
      refine lv_iconst (v := 3) hx hb d_M_excludes_28 (by decide) ?_
      refine lv_icmp_eq (tgt := 62) hx hb d_M_excludes_29 (by decide) (fun c_13 => ?_) (fun c_13 => ?_)
      · refine lv_iconst (v := 1) hx hb d_M_excludes_62 (by decide) ?_
        refine lv_goto (tgt := 67) hx hb d_M_excludes_63 (by decide) ?_
        exact wd_zret C hr hlocks h (by decide) (⟨by simp [ye, eq_true c_1, eq_true c_3, eq_true c_13]; try simp [c_1, c_3, c_13], rfl⟩) (Nat.le_of_ble_eq_true rfl) (Nat.le_of_ble_eq_true rfl) d_M_excludes_67
      · refine lv_iload_n hx hb d_M_excludes_32 rfl (lv_at hl 1 rfl) ?_
        refine lv_iconst (v := 1) hx hb d_M_excludes_33 (by decide) ?_
        refine lv_icmp_ne (tgt := 42) hx hb d_M_excludes_34 (by decide) (fun _ => ?_) (fun z => absurd z (show ¬ b = 1 from by rw [c_3]; decide))
        refine lv_iload_n hx hb d_M_excludes_42 rfl (lv_at hl 1 rfl) ?_
        refine lv_iconst (v := 4) hx hb d_M_excludes_43 (by decide) ?_
        refine lv_icmp_ne (tgt := 52) hx hb d_M_excludes_44 (by decide) (fun _ => ?_) (fun z => absurd z (show ¬ b = 4 from by rw [c_3]; decide))
        refine lv_iload_n hx hb d_M_excludes_52 rfl (lv_at hl 1 rfl) ?_
        refine lv_iconst (v := 3) hx hb d_M_excludes_53 (by decide) ?_
        refine lv_icmp_ne (tgt := 66) hx hb d_M_excludes_54 (by decide) (fun _ => ?_) (fun z => absurd z (show ¬ b = 3 from by rw [c_3]; decide))
        refine lv_iconst (v := 0) hx hb d_M_excludes_66 (by decide) ?_
        exact wd_zret C hr hlocks h (by decide) (⟨by simp [ye, eq_true c_1, eq_true c_3, eq_false c_13]; try simp [c_1, c_3], rfl⟩) (Nat.le_of_ble_eq_true rfl) (Nat.le_of_ble_eq_true rfl) d_M_excludes_67
  · refine lv_iload_n hx hb d_M_excludes_5 rfl (lv_at hl 0 rfl) ?_
    refine lv_goto (tgt := 10) hx hb d_M_excludes_6 (by decide) ?_
    refine lv_istore_n (lv' := [(2, .int a), (0, .int a), (1, .int b)]) hx hb d_M_excludes_10 rfl hl (by decide) rfl (fun ls hl => ?_)
    refine lv_iload_n hx hb d_M_excludes_11 rfl (lv_at hl 1 rfl) ?_
    refine lv_iload_n hx hb d_M_excludes_12 rfl (lv_at hl 2 rfl) ?_
    refine lv_icmp_ge (tgt := 20) hx hb d_M_excludes_13 (by decide) (fun z => absurd z c_1) (fun _ => ?_)
    refine lv_iload_n hx hb d_M_excludes_16 rfl (lv_at hl 2 rfl) ?_
    refine lv_goto (tgt := 21) hx hb d_M_excludes_17 (by decide) ?_
    refine lv_istore_n (lv' := [(3, .int b), (2, .int a), (0, .int a), (1, .int b)]) hx hb d_M_excludes_21 rfl hl (by decide) rfl (fun ls hl => ?_)
    refine lv_iload_n hx hb d_M_excludes_22 rfl (lv_at hl 1 rfl) ?_
    refine lv_iconst (v := 2) hx hb d_M_excludes_23 (by decide) ?_
    refine lv_icmp_ne (tgt := 32) hx hb d_M_excludes_24 (by decide) (fun c_18 => ?_) (fun c_18 => ?_)
    · refine lv_iload_n hx hb d_M_excludes_32 rfl (lv_at hl 1 rfl) ?_
      refine lv_iconst (v := 1) hx hb d_M_excludes_33 (by decide) ?_
      refine lv_icmp_ne (tgt := 42) hx hb d_M_excludes_34 (by decide) (fun c_19 => ?_) (fun c_19 => ?_)
      · refine lv_iload_n hx hb d_M_excludes_42 rfl (lv_at hl 1 rfl) ?_
        refine lv_iconst (v := 4) hx hb d_M_excludes_43 (by decide) ?_
        refine lv_icmp_ne (tgt := 52) hx hb d_M_excludes_44 (by decide) (fun c_20 => ?_) (fun c_20 => ?_)
        · refine lv_iload_n hx hb d_M_excludes_52 rfl (lv_at hl 1 rfl) ?_
          refine lv_iconst (v := 3) hx hb d_M_excludes_53 (by decide) ?_
          refine lv_icmp_ne (tgt := 66) hx hb d_M_excludes_54 (by decide) (fun c_21 => ?_) (fun c_21 => ?_)
          · refine lv_iconst (v := 0) hx hb d_M_excludes_66 (by decide) ?_
            exact wd_zret C hr hlocks h (by decide) (⟨by simp [ye, eq_false c_1, eq_false c_18, eq_false c_19, eq_false c_20, eq_false c_21], rfl⟩) (Nat.le_of_ble_eq_true rfl) (Nat.le_of_ble_eq_true rfl) d_M_excludes_67
          · refine lv_iload_n hx hb d_M_excludes_57 rfl (lv_at hl 0 rfl) ?_
            refine lv_iconst (v := 5) hx hb d_M_excludes_58 (by decide) ?_
            refine lv_icmp_ne (tgt := 66) hx hb d_M_excludes_59 (by decide) (fun c_22 => ?_) (fun c_22 => ?_)
            · refine lv_iconst (v := 0) hx hb d_M_excludes_66 (by decide) ?_
              exact wd_zret C hr hlocks h (by decide) (⟨by simp [ye, eq_false c_1, eq_false c_18, eq_false c_19, eq_false c_20, eq_true c_21, eq_false c_22]; try simp [c_21], rfl⟩) (Nat.le_of_ble_eq_true rfl) (Nat.le_of_ble_eq_true rfl) d_M_excludes_67
            · refine lv_iconst (v := 1) hx hb d_M_excludes_62 (by decide) ?_
              refine lv_goto (tgt := 67) hx hb d_M_excludes_63 (by decide) ?_
              exact wd_zret C hr hlocks h (by decide) (⟨by simp [ye, eq_false c_1, eq_false c_18, eq_false c_19, eq_false c_20, eq_true c_21, eq_true c_22]; try simp [c_21, c_22], rfl⟩) (Nat.le_of_ble_eq_true rfl) (Nat.le_of_ble_eq_true rfl) d_M_excludes_67
        · refine lv_iload_n hx hb d_M_excludes_47 rfl (lv_at hl 0 rfl) ?_
          refine lv_iconst (v := 5) hx hb d_M_excludes_48 (by decide) ?_
          refine lv_icmp_eq (tgt := 62) hx hb d_M_excludes_49 (by decide) (fun c_23 => ?_) (fun c_23 => ?_)
          · refine lv_iconst (v := 1) hx hb d_M_excludes_62 (by decide) ?_
            refine lv_goto (tgt := 67) hx hb d_M_excludes_63 (by decide) ?_
            exact wd_zret C hr hlocks h (by decide) (⟨by simp [ye, eq_false c_1, eq_false c_18, eq_false c_19, eq_true c_20, eq_true c_23]; try simp [c_20, c_23], rfl⟩) (Nat.le_of_ble_eq_true rfl) (Nat.le_of_ble_eq_true rfl) d_M_excludes_67
          · refine lv_iload_n hx hb d_M_excludes_52 rfl (lv_at hl 1 rfl) ?_
            refine lv_iconst (v := 3) hx hb d_M_excludes_53 (by decide) ?_
            refine lv_icmp_ne (tgt := 66) hx hb d_M_excludes_54 (by decide) (fun _ => ?_) (fun z => absurd z (show ¬ a = 3 from by rw [c_20]; decide))
            refine lv_iconst (v := 0) hx hb d_M_excludes_66 (by decide) ?_
            exact wd_zret C hr hlocks h (by decide) (⟨by simp [ye, eq_false c_1, eq_false c_18, eq_false c_19, eq_true c_20, eq_false c_23]; try simp [c_20], rfl⟩) (Nat.le_of_ble_eq_true rfl) (Nat.le_of_ble_eq_true rfl) d_M_excludes_67
      · refine lv_iload_n hx hb d_M_excludes_37 rfl (lv_at hl 0 rfl) ?_
        refine lv_iconst (v := 2) hx hb d_M_excludes_38 (by decide) ?_
        refine lv_icmp_eq (tgt := 62) hx hb d_M_excludes_39 (by decide) (fun c_25 => ?_) (fun c_25 => ?_)
        · refine lv_iconst (v := 1) hx hb d_M_excludes_62 (by decide) ?_
          refine lv_goto (tgt := 67) hx hb d_M_excludes_63 (by decide) ?_
          exact wd_zret C hr hlocks h (by decide) (⟨by simp [ye, eq_false c_1, eq_false c_18, eq_true c_19, eq_true c_25]; try simp [c_19, c_25], rfl⟩) (Nat.le_of_ble_eq_true rfl) (Nat.le_of_ble_eq_true rfl) d_M_excludes_67
        · refine lv_iload_n hx hb d_M_excludes_42 rfl (lv_at hl 1 rfl) ?_
          refine lv_iconst (v := 4) hx hb d_M_excludes_43 (by decide) ?_
          refine lv_icmp_ne (tgt := 52) hx hb d_M_excludes_44 (by decide) (fun _ => ?_) (fun z => absurd z (show ¬ a = 4 from by rw [c_19]; decide))
          refine lv_iload_n hx hb d_M_excludes_52 rfl (lv_at hl 1 rfl) ?_
          refine lv_iconst (v := 3) hx hb d_M_excludes_53 (by decide) ?_
          refine lv_icmp_ne (tgt := 66) hx hb d_M_excludes_54 (by decide) (fun _ => ?_) (fun z => absurd z (show ¬ a = 3 from by rw [c_19]; decide))
          refine lv_iconst (v := 0) hx hb d_M_excludes_66 (by decide) ?_
          exact wd_zret C hr hlocks h (by decide) (⟨by simp [ye, eq_false c_1, eq_false c_18, eq_true c_19, eq_false c_25]; try simp [c_19], rfl⟩) (Nat.le_of_ble_eq_true rfl) (Nat.le_of_ble_eq_true rfl) d_M_excludes_67
    · refine lv_iload_n hx hb d_M_excludes_27 rfl (lv_at hl 0 rfl) ?_
      refine lv_iconst (v := 3) hx hb d_M_excludes_28 (by decide) ?_
      refine lv_icmp_eq (tgt := 62) hx hb d_M_excludes_29 (by decide) (fun c_28 => ?_) (fun c_28 => ?_)
      · refine lv_iconst (v := 1) hx hb d_M_excludes_62 (by decide) ?_
        refine lv_goto (tgt := 67) hx hb d_M_excludes_63 (by decide) ?_
        exact wd_zret C hr hlocks h (by decide) (⟨by simp [ye, eq_false c_1, eq_true c_18, eq_true c_28]; try simp [c_18, c_28], rfl⟩) (Nat.le_of_ble_eq_true rfl) (Nat.le_of_ble_eq_true rfl) d_M_excludes_67
      · refine lv_iload_n hx hb d_M_excludes_32 rfl (lv_at hl 1 rfl) ?_
        refine lv_iconst (v := 1) hx hb d_M_excludes_33 (by decide) ?_
        refine lv_icmp_ne (tgt := 42) hx hb d_M_excludes_34 (by decide) (fun _ => ?_) (fun z => absurd z (show ¬ a = 1 from by rw [c_18]; decide))
        refine lv_iload_n hx hb d_M_excludes_42 rfl (lv_at hl 1 rfl) ?_
        refine lv_iconst (v := 4) hx hb d_M_excludes_43 (by decide) ?_
        refine lv_icmp_ne (tgt := 52) hx hb d_M_excludes_44 (by decide) (fun _ => ?_) (fun z => absurd z (show ¬ a = 4 from by rw [c_18]; decide))
        refine lv_iload_n hx hb d_M_excludes_52 rfl (lv_at hl 1 rfl) ?_
        refine lv_iconst (v := 3) hx hb d_M_excludes_53 (by decide) ?_
        refine lv_icmp_ne (tgt := 66) hx hb d_M_excludes_54 (by decide) (fun _ => ?_) (fun z => absurd z (show ¬ a = 3 from by rw [c_18]; decide))
        refine lv_iconst (v := 0) hx hb d_M_excludes_66 (by decide) ?_
        exact wd_zret C hr hlocks h (by decide) (⟨by simp [ye, eq_false c_1, eq_true c_18, eq_false c_28]; try simp [c_18], rfl⟩) (Nat.le_of_ble_eq_true rfl) (Nat.le_of_ble_eq_true rfl) d_M_excludes_67

set_option maxHeartbeats 4000000 in
set_option maxRecDepth 20000 in
theorem c_M_address (l : Launch) (D : va_G) (T : Nat → ClassId) (A : Nat → Prop) (σ : wd_S) (y : Nat) (am : Nat → Nat) (fm : Nat → Nat → Int32) (n : Nat) (R : Nat → Nat → Int32) (nc : Nat) (CR : Nat → Nat → Int32) (wg : Nat → Int32) (Q : pq) (hM : MB T σ y am fm n R nc CR wg Q) (i wh en : Int32) : Met l y_M_address (Cond.code y_M_address b_M_address 5 (some .int) :: wd_tb) { frames := 2, cells := 0, slots := 0, locals := 43 } (va_Pc [.ref y, .int i, .int wh, .int en] (wd_Pre D T A σ)) (va_Qi (fun r1 σ1 => r1 = (o_upd (n, R, nc, CR, wg, Q) i (f_adr wh en)).1 ∧ RM T σ1 y (o_upd (n, R, nc, CR, wg, Q) i (f_adr wh en)).2) (wd_B D A) A) 0 0 A := by
  refine wd_ofW (by decide) (Nat.le_of_ble_eq_true rfl) ?_
  intro p e s m below meth c0 ls C hr hlocks hname h hl
  have hl : lv_has ls 5 [(0, .ref y), (1, .int i), (2, .int wh), (3, .int en)] := hl
  have hx := C.1
  have hb := C.2.1
  obtain ⟨⟨d0, dc, di⟩, m1, m2, m3, m4, m5, m6, m7, m8, m9, m10⟩ := id hM
  have c9 : σ (am 9) = some (.inl (T 0, 121, .inl (fm 9))) := dc 9 rfl
  have c10 : σ (am 10) = some (.inl (T 0, 121, .inl (fm 10))) := dc 10 rfl
  refine lv_aload_n hx hb d_M_address_0 rfl (lv_at hl 0 rfl) ?_
  refine lv_iload_n hx hb d_M_address_1 rfl (lv_at hl 1 rfl) ?_
  refine wd_ci h (wd_rV (rest := []) (st0 := [.int i, .ref y]) C h kc_M d0 k_M_isItem wm_M_isItem wz_M_isItem lk_M_92 (c_M_isItem l D T A σ y am fm n R nc CR wg Q hM i) rfl rfl ⟨Nat.le_of_ble_eq_true rfl, Nat.le_of_ble_eq_true rfl⟩ rfl hl.1 rfl (Nat.le_of_ble_eq_true rfl) d_M_address_2 ⟨Nat.le_of_ble_eq_true rfl, Nat.le_of_ble_eq_true rfl⟩) (fun r_1 σ_2 H locs hp_3 h => ?_)
  obtain ⟨e_4, es_5⟩ := hp_3
  rw [es_5] at h
  subst e_4
  refine lv_if_ne (tgt := 11) hx hb d_M_address_5 (by decide) (fun c_6 => ?_) (fun c_6 => ?_)
  · obtain ⟨k, hk, -, rfl⟩ := o_in m8 c_6
    refine lv_iload_n hx hb d_M_address_11 rfl (lv_at hl 2 rfl) ?_
    refine lv_iconst (v := 0) hx hb d_M_address_12 (by decide) ?_
    refine lv_iconst (v := 1) hx hb d_M_address_13 (by decide) ?_
    refine wd_ci h (wd_rS (rest := []) (st0 := [.int 1, .int 0, .int wh]) C h k_M_within wt_M_within lk_M_75 (c_M_within l D T A σ wh 0 1) rfl rfl ⟨Nat.le_of_ble_eq_true rfl, Nat.le_of_ble_eq_true rfl⟩ rfl hl.1 rfl (Nat.le_of_ble_eq_true rfl) d_M_address_14 ⟨Nat.le_of_ble_eq_true rfl, Nat.le_of_ble_eq_true rfl⟩) (fun r_7 σ_8 H locs hp_9 h => ?_)
    obtain ⟨e_10, es_11⟩ := hp_9
    rw [es_11] at h
    subst e_10
    refine lv_if_eq (tgt := 31) hx hb d_M_address_17 (by decide) (fun c_12 => ?_) (fun c_12 => ?_)
    · refine lv_bipush (v := (-102)) hx hb d_M_address_31 (by decide) ?_
      exact wd_iret C hr hlocks h (by rw [o_upd_some (S := (n, R, nc, CR, wg, Q)) (o_find_ok m8 hk), show f_adr wh en (R k) = ((-102), (R k)) from by simp [f_adr, eq_true c_12]]; exact ⟨rfl, by rw [va_up_id]; exact hM.rm⟩) (Nat.le_of_ble_eq_true rfl) (Nat.le_of_ble_eq_true rfl) d_M_address_33
    · refine lv_iload_n hx hb d_M_address_20 rfl (lv_at hl 3 rfl) ?_
      refine lv_iconst (v := 0) hx hb d_M_address_21 (by decide) ?_
      refine lv_sipush (v := 9999) hx hb d_M_address_22 (by decide) ?_
      refine wd_ci h (wd_rS (rest := []) (st0 := [.int 9999, .int 0, .int en]) C h k_M_within wt_M_within lk_M_75 (c_M_within l D T A σ en 0 9999) rfl rfl ⟨Nat.le_of_ble_eq_true rfl, Nat.le_of_ble_eq_true rfl⟩ rfl hl.1 rfl (Nat.le_of_ble_eq_true rfl) d_M_address_25 ⟨Nat.le_of_ble_eq_true rfl, Nat.le_of_ble_eq_true rfl⟩) (fun r_13 σ_14 H locs hp_15 h => ?_)
      obtain ⟨e_16, es_17⟩ := hp_15
      rw [es_17] at h
      subst e_16
      refine lv_if_ne (tgt := 34) hx hb d_M_address_28 (by decide) (fun c_18 => ?_) (fun c_18 => ?_)
      · refine lv_aload_n hx hb d_M_address_34 rfl (lv_at hl 0 rfl) ?_
        refine lv_iload_n hx hb d_M_address_35 rfl (lv_at hl 1 rfl) ?_
        refine wd_ci h (wd_rV (rest := []) (st0 := [.int (nI (k + 1)), .ref y]) C h kc_M d0 k_M_isOver wm_M_isOver wz_M_isOver lk_M_100 (c_M_isOver l D T A σ y am fm n R nc CR wg Q hM k hk ) rfl rfl ⟨Nat.le_of_ble_eq_true rfl, Nat.le_of_ble_eq_true rfl⟩ rfl hl.1 rfl (Nat.le_of_ble_eq_true rfl) d_M_address_36 ⟨Nat.le_of_ble_eq_true rfl, Nat.le_of_ble_eq_true rfl⟩) (fun r_19 σ_20 H locs hp_21 h => ?_)
        obtain ⟨e_22, es_23⟩ := hp_21
        rw [es_23] at h
        subst e_22
        refine lv_if_ne (tgt := 52) hx hb d_M_address_39 (by decide) (fun c_24 => ?_) (fun c_24 => ?_)
        · refine lv_bipush (v := (-103)) hx hb d_M_address_52 (by decide) ?_
          exact wd_iret C hr hlocks h (by rw [o_upd_some (S := (n, R, nc, CR, wg, Q)) (o_find_ok m8 hk), show f_adr wh en (R k) = ((-103), (R k)) from by simp [f_adr, eq_false c_12, eq_false c_18, eq_false c_24]]; exact ⟨rfl, by rw [va_up_id]; exact hM.rm⟩) (Nat.le_of_ble_eq_true rfl) (Nat.le_of_ble_eq_true rfl) d_M_address_54
        · refine lv_aload_n hx hb d_M_address_42 rfl (lv_at hl 0 rfl) ?_
          refine wd_get C h kc_M d0 10 (by decide) lk_M_38 rfl d_M_address_43 ?_
          refine lv_iload_n hx hb d_M_address_46 rfl (lv_at hl 1 rfl) ?_
          refine wd_iald C h 0 rfl c10 (vp_in_nI (show k + 1 < 121 by omega) (by decide)) d_M_address_47 ?_
          rw [nI_clamp (show k + 1 < 2 ^ 31 by omega)]
          rw [show fm 10 (k + 1) = R k 8 from m1 k hk 8 (by decide)]
          refine lv_iconst (v := (-1)) hx hb d_M_address_48 (by decide) ?_
          refine lv_icmp_eq (tgt := 55) hx hb d_M_address_49 (by decide) (fun c_25 => ?_) (fun c_25 => ?_)
          · refine lv_iload_n hx hb d_M_address_55 rfl (lv_at hl 2 rfl) ?_
            refine lv_if_ne (tgt := 68) hx hb d_M_address_56 (by decide) (fun c_26 => ?_) (fun c_26 => ?_)
            · refine lv_aload_n hx hb d_M_address_68 rfl (lv_at hl 0 rfl) ?_
              refine wd_get C h kc_M d0 10 (by decide) lk_M_38 rfl d_M_address_69 ?_
              refine lv_iload_n hx hb d_M_address_72 rfl (lv_at hl 1 rfl) ?_
              refine wd_iald C h 0 rfl c10 (vp_in_nI (show k + 1 < 121 by omega) (by decide)) d_M_address_73 ?_
              rw [nI_clamp (show k + 1 < 2 ^ 31 by omega)]
              rw [show fm 10 (k + 1) = R k 8 from m1 k hk 8 (by decide)]
              refine lv_istore (lv' := [(4, .int (R k 8)), (0, .ref y), (1, .int (nI (k + 1))), (2, .int wh), (3, .int en)]) hx hb d_M_address_74 hl (by decide) rfl (fun ls hl => ?_)
              refine lv_iload_n hx hb d_M_address_76 rfl (lv_at hl 3 rfl) ?_
              refine lv_if_ne (tgt := 90) hx hb d_M_address_77 (by decide) (fun _ => ?_) (fun z => absurd z (show ¬ wh = 0 from c_26))
              refine lv_aload_n hx hb d_M_address_90 rfl (lv_at hl 1 rfl) ?_
              refine wd_get C h kc_M d0 10 (by decide) lk_M_38 rfl d_M_address_91 ?_
              refine lv_iload_n hx hb d_M_address_94 rfl (lv_at hl 2 rfl) ?_
              refine lv_iload_n hx hb d_M_address_95 rfl (lv_at hl 4 rfl) ?_
              refine wd_iast C h 0 rfl c10 (vp_in_nI (show k + 1 < 121 by omega) (by decide)) d_M_address_96 (fun H locs h => ?_)
              rw [nI_clamp (show k + 1 < 2 ^ 31 by omega)] at h
              have h : wd_C D T A s H locs (wd_up σ (am 10) (.inl (T 0, 121, .inl (upd (fm 10) (k + 1) en)))) := h
              have h_28 : (wd_up σ (am 10) (.inl (T 0, 121, .inl (upd (fm 10) (k + 1) en)))) (am 10) = some (.inl (T 0, 121, .inl (upd (fm 10) (k + 1) en))) := wd_us _ _ _
              have h_29 : (wd_up σ (am 10) (.inl (T 0, 121, .inl (upd (fm 10) (k + 1) en)))) y = some (.inr (4, [.int (nI n), .ref (am 1), .ref (am 2), .ref (am 3), .ref (am 4), .ref (am 5), .ref (am 6), .ref (am 7), .ref (am 8), .ref (am 9), .ref (am 10), .ref (am 11), .ref (am 12), .ref (am 13), .ref (am 14), .ref (am 15), .ref (am 16), .ref (am 17), .ref (am 18), .int (nI nc), .ref (am 20), .int (nI Q.2), .ref (am 22)])) := wd_uk d0 (wd_ne d0 c10 (by simp))
              have h_30 : (wd_up σ (am 10) (.inl (T 0, 121, .inl (upd (fm 10) (k + 1) en)))) (am 9) = some (.inl (T 0, 121, .inl (fm 9))) := wd_uk c9 (fun z => absurd (di 9 10 rfl rfl z) (by decide))
              refine lv_iload hx hb d_M_address_97 (lv_at hl 0 rfl) ?_
              exact wd_iret C hr hlocks h (by rw [o_upd_some (S := (n, R, nc, CR, wg, Q)) (o_find_ok m8 hk), show f_adr wh en (R k) = ((R k 8), (upd (R k) 8 en)) from by simp [f_adr, eq_false c_12, eq_false c_18, eq_true c_24, eq_true c_25, eq_false c_26]]; exact ⟨rfl, (hM.set hk (f := 8) (by decide) en).rm⟩) (Nat.le_of_ble_eq_true rfl) (Nat.le_of_ble_eq_true rfl) d_M_address_99
            · refine lv_aload_n hx hb d_M_address_59 rfl (lv_at hl 0 rfl) ?_
              refine wd_get C h kc_M d0 9 (by decide) lk_M_35 rfl d_M_address_60 ?_
              refine lv_iload_n hx hb d_M_address_63 rfl (lv_at hl 1 rfl) ?_
              refine wd_iald C h 0 rfl c9 (vp_in_nI (show k + 1 < 121 by omega) (by decide)) d_M_address_64 ?_
              rw [nI_clamp (show k + 1 < 2 ^ 31 by omega)]
              rw [show fm 9 (k + 1) = R k 7 from m1 k hk 7 (by decide)]
              refine lv_goto (tgt := 74) hx hb d_M_address_65 (by decide) ?_
              refine lv_istore (lv' := [(4, .int (R k 7)), (0, .ref y), (1, .int (nI (k + 1))), (2, .int wh), (3, .int en)]) hx hb d_M_address_74 hl (by decide) rfl (fun ls hl => ?_)
              refine lv_iload_n hx hb d_M_address_76 rfl (lv_at hl 3 rfl) ?_
              refine lv_if_ne (tgt := 90) hx hb d_M_address_77 (by decide) (fun z => absurd (show wh = 0 from c_26) z) (fun _ => ?_)
              refine lv_aload_n hx hb d_M_address_80 rfl (lv_at hl 1 rfl) ?_
              refine wd_get C h kc_M d0 9 (by decide) lk_M_35 rfl d_M_address_81 ?_
              refine lv_iload_n hx hb d_M_address_84 rfl (lv_at hl 2 rfl) ?_
              refine lv_iload_n hx hb d_M_address_85 rfl (lv_at hl 4 rfl) ?_
              refine wd_iast C h 0 rfl c9 (vp_in_nI (show k + 1 < 121 by omega) (by decide)) d_M_address_86 (fun H locs h => ?_)
              rw [nI_clamp (show k + 1 < 2 ^ 31 by omega)] at h
              have h : wd_C D T A s H locs (wd_up σ (am 9) (.inl (T 0, 121, .inl (upd (fm 9) (k + 1) en)))) := h
              have h_32 : (wd_up σ (am 9) (.inl (T 0, 121, .inl (upd (fm 9) (k + 1) en)))) (am 9) = some (.inl (T 0, 121, .inl (upd (fm 9) (k + 1) en))) := wd_us _ _ _
              have h_33 : (wd_up σ (am 9) (.inl (T 0, 121, .inl (upd (fm 9) (k + 1) en)))) y = some (.inr (4, [.int (nI n), .ref (am 1), .ref (am 2), .ref (am 3), .ref (am 4), .ref (am 5), .ref (am 6), .ref (am 7), .ref (am 8), .ref (am 9), .ref (am 10), .ref (am 11), .ref (am 12), .ref (am 13), .ref (am 14), .ref (am 15), .ref (am 16), .ref (am 17), .ref (am 18), .int (nI nc), .ref (am 20), .int (nI Q.2), .ref (am 22)])) := wd_uk d0 (wd_ne d0 c9 (by simp))
              have h_34 : (wd_up σ (am 9) (.inl (T 0, 121, .inl (upd (fm 9) (k + 1) en)))) (am 10) = some (.inl (T 0, 121, .inl (fm 10))) := wd_uk c10 (fun z => absurd (di 10 9 rfl rfl z) (by decide))
              refine lv_goto (tgt := 97) hx hb d_M_address_87 (by decide) ?_
              refine lv_iload hx hb d_M_address_97 (lv_at hl 0 rfl) ?_
              exact wd_iret C hr hlocks h (by rw [o_upd_some (S := (n, R, nc, CR, wg, Q)) (o_find_ok m8 hk), show f_adr wh en (R k) = ((R k 7), (upd (R k) 7 en)) from by simp [f_adr, eq_false c_12, eq_false c_18, eq_true c_24, eq_true c_25, eq_true c_26]]; exact ⟨rfl, (hM.set hk (f := 7) (by decide) en).rm⟩) (Nat.le_of_ble_eq_true rfl) (Nat.le_of_ble_eq_true rfl) d_M_address_99
          · refine lv_bipush (v := (-103)) hx hb d_M_address_52 (by decide) ?_
            exact wd_iret C hr hlocks h (by rw [o_upd_some (S := (n, R, nc, CR, wg, Q)) (o_find_ok m8 hk), show f_adr wh en (R k) = ((-103), (R k)) from by simp [f_adr, eq_false c_12, eq_false c_18, eq_true c_24, eq_false c_25]]; exact ⟨rfl, by rw [va_up_id]; exact hM.rm⟩) (Nat.le_of_ble_eq_true rfl) (Nat.le_of_ble_eq_true rfl) d_M_address_54
      · refine lv_bipush (v := (-102)) hx hb d_M_address_31 (by decide) ?_
        exact wd_iret C hr hlocks h (by rw [o_upd_some (S := (n, R, nc, CR, wg, Q)) (o_find_ok m8 hk), show f_adr wh en (R k) = ((-102), (R k)) from by simp [f_adr, eq_false c_12, eq_true c_18]]; exact ⟨rfl, by rw [va_up_id]; exact hM.rm⟩) (Nat.le_of_ble_eq_true rfl) (Nat.le_of_ble_eq_true rfl) d_M_address_33
  · refine lv_bipush (v := (-101)) hx hb d_M_address_8 (by decide) ?_
    exact wd_iret C hr hlocks h (by rw [o_upd_none (S := (n, R, nc, CR, wg, Q)) (o_find_no c_6)]; exact ⟨rfl, hM.rm⟩) (Nat.le_of_ble_eq_true rfl) (Nat.le_of_ble_eq_true rfl) d_M_address_10

set_option maxHeartbeats 4000000 in
set_option maxRecDepth 20000 in
theorem c_M_abroad (l : Launch) (D : va_G) (T : Nat → ClassId) (A : Nat → Prop) (σ : wd_S) (y : Nat) (am : Nat → Nat) (fm : Nat → Nat → Int32) (n : Nat) (R : Nat → Nat → Int32) (nc : Nat) (CR : Nat → Nat → Int32) (wg : Nat → Int32) (Q : pq) (hM : MB T σ y am fm n R nc CR wg Q) (hok : ∀ k, k < n → okr (R k)) (i la : Int32) : Met l y_M_abroad (Cond.code y_M_abroad b_M_abroad 3 (some .int) :: wd_tb) { frames := 2, cells := 0, slots := 0, locals := 43 } (va_Pc [.ref y, .int i, .int la] (wd_Pre D T A σ)) (va_Qi (fun r1 σ1 => r1 = (o_upd (n, R, nc, CR, wg, Q) i (f_abr la)).1 ∧ RM T σ1 y (o_upd (n, R, nc, CR, wg, Q) i (f_abr la)).2) (wd_B D A) A) 0 0 A := by
  refine wd_ofW (by decide) (Nat.le_of_ble_eq_true rfl) ?_
  intro p e s m below meth c0 ls C hr hlocks hname h hl
  have hl : lv_has ls 3 [(0, .ref y), (1, .int i), (2, .int la)] := hl
  have hx := C.1
  have hb := C.2.1
  obtain ⟨⟨d0, dc, di⟩, m1, m2, m3, m4, m5, m6, m7, m8, m9, m10⟩ := id hM
  have c6 : σ (am 6) = some (.inl (T 0, 121, .inl (fm 6))) := dc 6 rfl
  have c11 : σ (am 11) = some (.inl (T 0, 121, .inl (fm 11))) := dc 11 rfl
  refine lv_aload_n hx hb d_M_abroad_0 rfl (lv_at hl 0 rfl) ?_
  refine lv_iload_n hx hb d_M_abroad_1 rfl (lv_at hl 1 rfl) ?_
  refine wd_ci h (wd_rV (rest := []) (st0 := [.int i, .ref y]) C h kc_M d0 k_M_isItem wm_M_isItem wz_M_isItem lk_M_92 (c_M_isItem l D T A σ y am fm n R nc CR wg Q hM i) rfl rfl ⟨Nat.le_of_ble_eq_true rfl, Nat.le_of_ble_eq_true rfl⟩ rfl hl.1 rfl (Nat.le_of_ble_eq_true rfl) d_M_abroad_2 ⟨Nat.le_of_ble_eq_true rfl, Nat.le_of_ble_eq_true rfl⟩) (fun r_1 σ_2 H locs hp_3 h => ?_)
  obtain ⟨e_4, es_5⟩ := hp_3
  rw [es_5] at h
  subst e_4
  refine lv_if_ne (tgt := 11) hx hb d_M_abroad_5 (by decide) (fun c_6 => ?_) (fun c_6 => ?_)
  · obtain ⟨k, hk, -, rfl⟩ := o_in m8 c_6
    refine lv_iload_n hx hb d_M_abroad_11 rfl (lv_at hl 2 rfl) ?_
    refine lv_iconst (v := 1) hx hb d_M_abroad_12 (by decide) ?_
    refine lv_bipush (v := 30) hx hb d_M_abroad_13 (by decide) ?_
    refine wd_ci h (wd_rS (rest := []) (st0 := [.int 30, .int 1, .int la]) C h k_M_within wt_M_within lk_M_75 (c_M_within l D T A σ la 1 30) rfl rfl ⟨Nat.le_of_ble_eq_true rfl, Nat.le_of_ble_eq_true rfl⟩ rfl hl.1 rfl (Nat.le_of_ble_eq_true rfl) d_M_abroad_15 ⟨Nat.le_of_ble_eq_true rfl, Nat.le_of_ble_eq_true rfl⟩) (fun r_7 σ_8 H locs hp_9 h => ?_)
    obtain ⟨e_10, es_11⟩ := hp_9
    rw [es_11] at h
    subst e_10
    refine lv_if_ne (tgt := 24) hx hb d_M_abroad_18 (by decide) (fun c_12 => ?_) (fun c_12 => ?_)
    · refine lv_aload_n hx hb d_M_abroad_24 rfl (lv_at hl 0 rfl) ?_
      refine wd_get C h kc_M d0 11 (by decide) lk_M_41 rfl d_M_abroad_25 ?_
      refine lv_iload_n hx hb d_M_abroad_28 rfl (lv_at hl 1 rfl) ?_
      refine wd_iald C h 0 rfl c11 (vp_in_nI (show k + 1 < 121 by omega) (by decide)) d_M_abroad_29 ?_
      rw [nI_clamp (show k + 1 < 2 ^ 31 by omega)]
      rw [show fm 11 (k + 1) = R k 9 from m1 k hk 9 (by decide)]
      refine lv_if_gt (tgt := 43) hx hb d_M_abroad_30 (by decide) (fun c_13 => ?_) (fun c_13 => ?_)
      · refine lv_bipush (v := (-103)) hx hb d_M_abroad_43 (by decide) ?_
        exact wd_iret C hr hlocks h (by rw [o_upd_some (S := (n, R, nc, CR, wg, Q)) (o_find_ok m8 hk), show f_abr la (R k) = ((-103), (R k)) from by simp [f_abr, eq_false c_12, eq_true c_13, eq_false (z_pos c_13)]]; exact ⟨rfl, by rw [va_up_id]; exact hM.rm⟩) (Nat.le_of_ble_eq_true rfl) (Nat.le_of_ble_eq_true rfl) d_M_abroad_45
      · refine lv_aload_n hx hb d_M_abroad_33 rfl (lv_at hl 0 rfl) ?_
        refine wd_get C h kc_M d0 6 (by decide) lk_M_25 rfl d_M_abroad_34 ?_
        refine lv_iload_n hx hb d_M_abroad_37 rfl (lv_at hl 1 rfl) ?_
        refine wd_iald C h 0 rfl c6 (vp_in_nI (show k + 1 < 121 by omega) (by decide)) d_M_abroad_38 ?_
        rw [nI_clamp (show k + 1 < 2 ^ 31 by omega)]
        rw [show fm 6 (k + 1) = R k 5 from m1 k hk 5 (by decide)]
        refine lv_iconst (v := 1) hx hb d_M_abroad_39 (by decide) ?_
        refine lv_icmp_le (tgt := 46) hx hb d_M_abroad_40 (by decide) (fun c_14 => ?_) (fun c_14 => ?_)
        · refine lv_aload_n hx hb d_M_abroad_46 rfl (lv_at hl 0 rfl) ?_
          refine wd_get C h kc_M d0 11 (by decide) lk_M_41 rfl d_M_abroad_47 ?_
          refine lv_iload_n hx hb d_M_abroad_50 rfl (lv_at hl 1 rfl) ?_
          refine lv_iload_n hx hb d_M_abroad_51 rfl (lv_at hl 2 rfl) ?_
          refine wd_iast C h 0 rfl c11 (vp_in_nI (show k + 1 < 121 by omega) (by decide)) d_M_abroad_52 (fun H locs h => ?_)
          rw [nI_clamp (show k + 1 < 2 ^ 31 by omega)] at h
          have h : wd_C D T A s H locs (wd_up σ (am 11) (.inl (T 0, 121, .inl (upd (fm 11) (k + 1) la)))) := h
          have h_15 : (wd_up σ (am 11) (.inl (T 0, 121, .inl (upd (fm 11) (k + 1) la)))) (am 11) = some (.inl (T 0, 121, .inl (upd (fm 11) (k + 1) la))) := wd_us _ _ _
          have h_16 : (wd_up σ (am 11) (.inl (T 0, 121, .inl (upd (fm 11) (k + 1) la)))) y = some (.inr (4, [.int (nI n), .ref (am 1), .ref (am 2), .ref (am 3), .ref (am 4), .ref (am 5), .ref (am 6), .ref (am 7), .ref (am 8), .ref (am 9), .ref (am 10), .ref (am 11), .ref (am 12), .ref (am 13), .ref (am 14), .ref (am 15), .ref (am 16), .ref (am 17), .ref (am 18), .int (nI nc), .ref (am 20), .int (nI Q.2), .ref (am 22)])) := wd_uk d0 (wd_ne d0 c11 (by simp))
          have h_17 : (wd_up σ (am 11) (.inl (T 0, 121, .inl (upd (fm 11) (k + 1) la)))) (am 6) = some (.inl (T 0, 121, .inl (fm 6))) := wd_uk c6 (fun z => absurd (di 6 11 rfl rfl z) (by decide))
          refine lv_iconst (v := 1) hx hb d_M_abroad_53 (by decide) ?_
          exact wd_iret C hr hlocks h (by rw [o_upd_some (S := (n, R, nc, CR, wg, Q)) (o_find_ok m8 hk), show f_abr la (R k) = (1, (upd (R k) 9 la)) from by rcases st_le (hok k hk).2.2.2.2.1.1 c_14 with e | e <;> simp [f_abr, e, eq_false c_12, eq_false c_13, eq_true c_14, eq_true (z_npos (hok k hk).2.2.2.2.2.2.1.1 c_13)]]; exact ⟨rfl, (hM.set hk (f := 9) (by decide) la).rm⟩) (Nat.le_of_ble_eq_true rfl) (Nat.le_of_ble_eq_true rfl) d_M_abroad_54
        · refine lv_bipush (v := (-103)) hx hb d_M_abroad_43 (by decide) ?_
          exact wd_iret C hr hlocks h (by rw [o_upd_some (S := (n, R, nc, CR, wg, Q)) (o_find_ok m8 hk), show f_abr la (R k) = ((-103), (R k)) from by simp [f_abr, eq_false c_12, eq_false c_13, eq_false c_14, eq_true (z_npos (hok k hk).2.2.2.2.2.2.1.1 c_13), eq_false (st_gt c_14).1, eq_false (st_gt c_14).2]]; exact ⟨rfl, by rw [va_up_id]; exact hM.rm⟩) (Nat.le_of_ble_eq_true rfl) (Nat.le_of_ble_eq_true rfl) d_M_abroad_45
    · refine lv_bipush (v := (-102)) hx hb d_M_abroad_21 (by decide) ?_
      exact wd_iret C hr hlocks h (by rw [o_upd_some (S := (n, R, nc, CR, wg, Q)) (o_find_ok m8 hk), show f_abr la (R k) = ((-102), (R k)) from by simp [f_abr, eq_true c_12]]; exact ⟨rfl, by rw [va_up_id]; exact hM.rm⟩) (Nat.le_of_ble_eq_true rfl) (Nat.le_of_ble_eq_true rfl) d_M_abroad_23
  · refine lv_bipush (v := (-101)) hx hb d_M_abroad_8 (by decide) ?_
    exact wd_iret C hr hlocks h (by rw [o_upd_none (S := (n, R, nc, CR, wg, Q)) (o_find_no c_6)]; exact ⟨rfl, hM.rm⟩) (Nat.le_of_ble_eq_true rfl) (Nat.le_of_ble_eq_true rfl) d_M_abroad_10

set_option maxHeartbeats 4000000 in
set_option maxRecDepth 20000 in
theorem c_M_open (l : Launch) (D : va_G) (T : Nat → ClassId) (A : Nat → Prop) (σ : wd_S) (y : Nat) (am : Nat → Nat) (fm : Nat → Nat → Int32) (n : Nat) (R : Nat → Nat → Int32) (nc : Nat) (CR : Nat → Nat → Int32) (wg : Nat → Int32) (Q : pq) (hM : MB T σ y am fm n R nc CR wg Q) (i p1 p2 : Int32) : Met l y_M_open (Cond.code y_M_open b_M_open 4 (some .int) :: wd_tb) { frames := 2, cells := 0, slots := 0, locals := 43 } (va_Pc [.ref y, .int i, .int p1, .int p2] (wd_Pre D T A σ)) (va_Qi (fun r1 σ1 => r1 = (o_upd (n, R, nc, CR, wg, Q) i (f_opn p1 p2)).1 ∧ RM T σ1 y (o_upd (n, R, nc, CR, wg, Q) i (f_opn p1 p2)).2) (wd_B D A) A) 0 0 A := by
  refine wd_ofW (by decide) (Nat.le_of_ble_eq_true rfl) ?_
  intro p e s m below meth c0 ls C hr hlocks hname h hl
  have hl : lv_has ls 4 [(0, .ref y), (1, .int i), (2, .int p1), (3, .int p2)] := hl
  have hx := C.1
  have hb := C.2.1
  obtain ⟨⟨d0, dc, di⟩, m1, m2, m3, m4, m5, m6, m7, m8, m9, m10⟩ := id hM
  have c6 : σ (am 6) = some (.inl (T 0, 121, .inl (fm 6))) := dc 6 rfl
  have c7 : σ (am 7) = some (.inl (T 1, 121, .inl (fm 7))) := dc 7 rfl
  have c10 : σ (am 10) = some (.inl (T 0, 121, .inl (fm 10))) := dc 10 rfl
  have c18 : σ (am 18) = some (.inl (T 0, 121, .inl (fm 18))) := dc 18 rfl
  refine lv_aload_n hx hb d_M_open_0 rfl (lv_at hl 0 rfl) ?_
  refine lv_iload_n hx hb d_M_open_1 rfl (lv_at hl 1 rfl) ?_
  refine wd_ci h (wd_rV (rest := []) (st0 := [.int i, .ref y]) C h kc_M d0 k_M_isItem wm_M_isItem wz_M_isItem lk_M_92 (c_M_isItem l D T A σ y am fm n R nc CR wg Q hM i) rfl rfl ⟨Nat.le_of_ble_eq_true rfl, Nat.le_of_ble_eq_true rfl⟩ rfl hl.1 rfl (Nat.le_of_ble_eq_true rfl) d_M_open_2 ⟨Nat.le_of_ble_eq_true rfl, Nat.le_of_ble_eq_true rfl⟩) (fun r_1 σ_2 H locs hp_3 h => ?_)
  obtain ⟨e_4, es_5⟩ := hp_3
  rw [es_5] at h
  subst e_4
  refine lv_if_ne (tgt := 11) hx hb d_M_open_5 (by decide) (fun c_6 => ?_) (fun c_6 => ?_)
  · obtain ⟨k, hk, -, rfl⟩ := o_in m8 c_6
    refine lv_iload_n hx hb d_M_open_11 rfl (lv_at hl 2 rfl) ?_
    refine lv_iconst (v := 0) hx hb d_M_open_12 (by decide) ?_
    refine lv_bipush (v := 19) hx hb d_M_open_13 (by decide) ?_
    refine wd_ci h (wd_rS (rest := []) (st0 := [.int 19, .int 0, .int p1]) C h k_M_within wt_M_within lk_M_75 (c_M_within l D T A σ p1 0 19) rfl rfl ⟨Nat.le_of_ble_eq_true rfl, Nat.le_of_ble_eq_true rfl⟩ rfl hl.1 rfl (Nat.le_of_ble_eq_true rfl) d_M_open_15 ⟨Nat.le_of_ble_eq_true rfl, Nat.le_of_ble_eq_true rfl⟩) (fun r_7 σ_8 H locs hp_9 h => ?_)
    obtain ⟨e_10, es_11⟩ := hp_9
    rw [es_11] at h
    subst e_10
    refine lv_if_eq (tgt := 31) hx hb d_M_open_18 (by decide) (fun c_12 => ?_) (fun c_12 => ?_)
    · refine lv_bipush (v := (-102)) hx hb d_M_open_31 (by decide) ?_
      exact wd_iret C hr hlocks h (by rw [o_upd_some (S := (n, R, nc, CR, wg, Q)) (o_find_ok m8 hk), show f_opn p1 p2 (R k) = ((-102), (R k)) from by simp [f_opn, eq_true c_12]]; exact ⟨rfl, by rw [va_up_id]; exact hM.rm⟩) (Nat.le_of_ble_eq_true rfl) (Nat.le_of_ble_eq_true rfl) d_M_open_33
    · refine lv_iload_n hx hb d_M_open_21 rfl (lv_at hl 3 rfl) ?_
      refine lv_iconst (v := 0) hx hb d_M_open_22 (by decide) ?_
      refine lv_bipush (v := 19) hx hb d_M_open_23 (by decide) ?_
      refine wd_ci h (wd_rS (rest := []) (st0 := [.int 19, .int 0, .int p2]) C h k_M_within wt_M_within lk_M_75 (c_M_within l D T A σ p2 0 19) rfl rfl ⟨Nat.le_of_ble_eq_true rfl, Nat.le_of_ble_eq_true rfl⟩ rfl hl.1 rfl (Nat.le_of_ble_eq_true rfl) d_M_open_25 ⟨Nat.le_of_ble_eq_true rfl, Nat.le_of_ble_eq_true rfl⟩) (fun r_13 σ_14 H locs hp_15 h => ?_)
      obtain ⟨e_16, es_17⟩ := hp_15
      rw [es_17] at h
      subst e_16
      refine lv_if_ne (tgt := 34) hx hb d_M_open_28 (by decide) (fun c_18 => ?_) (fun c_18 => ?_)
      · refine lv_aload_n hx hb d_M_open_34 rfl (lv_at hl 0 rfl) ?_
        refine wd_get C h kc_M d0 6 (by decide) lk_M_25 rfl d_M_open_35 ?_
        refine lv_iload_n hx hb d_M_open_38 rfl (lv_at hl 1 rfl) ?_
        refine wd_iald C h 0 rfl c6 (vp_in_nI (show k + 1 < 121 by omega) (by decide)) d_M_open_39 ?_
        rw [nI_clamp (show k + 1 < 2 ^ 31 by omega)]
        rw [show fm 6 (k + 1) = R k 5 from m1 k hk 5 (by decide)]
        refine lv_bipush (v := 8) hx hb d_M_open_40 (by decide) ?_
        refine lv_icmp_ne (tgt := 54) hx hb d_M_open_42 (by decide) (fun c_19 => ?_) (fun c_19 => ?_)
        · refine lv_bipush (v := (-103)) hx hb d_M_open_54 (by decide) ?_
          exact wd_iret C hr hlocks h (by rw [o_upd_some (S := (n, R, nc, CR, wg, Q)) (o_find_ok m8 hk), show f_opn p1 p2 (R k) = ((-103), (R k)) from by simp [f_opn, eq_false c_12, eq_false c_18, eq_false c_19]]; exact ⟨rfl, by rw [va_up_id]; exact hM.rm⟩) (Nat.le_of_ble_eq_true rfl) (Nat.le_of_ble_eq_true rfl) d_M_open_56
        · refine lv_aload_n hx hb d_M_open_45 rfl (lv_at hl 0 rfl) ?_
          refine wd_get C h kc_M d0 7 (by decide) lk_M_28 rfl d_M_open_46 ?_
          refine lv_iload_n hx hb d_M_open_49 rfl (lv_at hl 1 rfl) ?_
          refine wd_zald C h 1 rfl c7 (vp_in_nI (show k + 1 < 121 by omega) (by decide)) d_M_open_50 ?_
          rw [nI_clamp (show k + 1 < 2 ^ 31 by omega)]
          rw [show fm 7 (k + 1) = R k 6 from m1 k hk 6 (by decide)]
          refine lv_if_eq (tgt := 57) hx hb d_M_open_51 (by decide) (fun c_20 => ?_) (fun c_20 => ?_)
          · refine lv_iload_n hx hb d_M_open_57 rfl (lv_at hl 2 rfl) ?_
            refine lv_iload_n hx hb d_M_open_58 rfl (lv_at hl 3 rfl) ?_
            refine lv_icmp_ne (tgt := 65) hx hb d_M_open_59 (by decide) (fun c_21 => ?_) (fun c_21 => ?_)
            · refine lv_aload_n hx hb d_M_open_65 rfl (lv_at hl 0 rfl) ?_
              refine wd_get C h kc_M d0 6 (by decide) lk_M_25 rfl d_M_open_66 ?_
              refine lv_iload_n hx hb d_M_open_69 rfl (lv_at hl 1 rfl) ?_
              refine lv_iconst (v := 1) hx hb d_M_open_70 (by decide) ?_
              refine wd_iast C h 0 rfl c6 (vp_in_nI (show k + 1 < 121 by omega) (by decide)) d_M_open_71 (fun H locs h => ?_)
              rw [nI_clamp (show k + 1 < 2 ^ 31 by omega)] at h
              have h : wd_C D T A s H locs (wd_up σ (am 6) (.inl (T 0, 121, .inl (upd (fm 6) (k + 1) 1)))) := h
              have h_22 : (wd_up σ (am 6) (.inl (T 0, 121, .inl (upd (fm 6) (k + 1) 1)))) (am 6) = some (.inl (T 0, 121, .inl (upd (fm 6) (k + 1) 1))) := wd_us _ _ _
              have h_23 : (wd_up σ (am 6) (.inl (T 0, 121, .inl (upd (fm 6) (k + 1) 1)))) y = some (.inr (4, [.int (nI n), .ref (am 1), .ref (am 2), .ref (am 3), .ref (am 4), .ref (am 5), .ref (am 6), .ref (am 7), .ref (am 8), .ref (am 9), .ref (am 10), .ref (am 11), .ref (am 12), .ref (am 13), .ref (am 14), .ref (am 15), .ref (am 16), .ref (am 17), .ref (am 18), .int (nI nc), .ref (am 20), .int (nI Q.2), .ref (am 22)])) := wd_uk d0 (wd_ne d0 c6 (by simp))
              have h_24 : (wd_up σ (am 6) (.inl (T 0, 121, .inl (upd (fm 6) (k + 1) 1)))) (am 7) = some (.inl (T 1, 121, .inl (fm 7))) := wd_uk c7 (fun z => absurd (di 7 6 rfl rfl z) (by decide))
              have h_25 : (wd_up σ (am 6) (.inl (T 0, 121, .inl (upd (fm 6) (k + 1) 1)))) (am 10) = some (.inl (T 0, 121, .inl (fm 10))) := wd_uk c10 (fun z => absurd (di 10 6 rfl rfl z) (by decide))
              have h_26 : (wd_up σ (am 6) (.inl (T 0, 121, .inl (upd (fm 6) (k + 1) 1)))) (am 18) = some (.inl (T 0, 121, .inl (fm 18))) := wd_uk c18 (fun z => absurd (di 18 6 rfl rfl z) (by decide))
              refine lv_aload_n hx hb d_M_open_72 rfl (lv_at hl 0 rfl) ?_
              refine wd_get C h kc_M h_23 10 (by decide) lk_M_38 rfl d_M_open_73 ?_
              refine lv_iload_n hx hb d_M_open_76 rfl (lv_at hl 1 rfl) ?_
              refine lv_iconst (v := (-1)) hx hb d_M_open_77 (by decide) ?_
              refine wd_iast C h 0 rfl h_25 (vp_in_nI (show k + 1 < 121 by omega) (by decide)) d_M_open_78 (fun H locs h => ?_)
              rw [nI_clamp (show k + 1 < 2 ^ 31 by omega)] at h
              have h : wd_C D T A s H locs (wd_up (wd_up σ (am 6) (.inl (T 0, 121, .inl (upd (fm 6) (k + 1) 1)))) (am 10) (.inl (T 0, 121, .inl (upd (fm 10) (k + 1) (-1))))) := h
              have h_27 : (wd_up (wd_up σ (am 6) (.inl (T 0, 121, .inl (upd (fm 6) (k + 1) 1)))) (am 10) (.inl (T 0, 121, .inl (upd (fm 10) (k + 1) (-1))))) (am 10) = some (.inl (T 0, 121, .inl (upd (fm 10) (k + 1) (-1)))) := wd_us _ _ _
              have h_28 : (wd_up (wd_up σ (am 6) (.inl (T 0, 121, .inl (upd (fm 6) (k + 1) 1)))) (am 10) (.inl (T 0, 121, .inl (upd (fm 10) (k + 1) (-1))))) y = some (.inr (4, [.int (nI n), .ref (am 1), .ref (am 2), .ref (am 3), .ref (am 4), .ref (am 5), .ref (am 6), .ref (am 7), .ref (am 8), .ref (am 9), .ref (am 10), .ref (am 11), .ref (am 12), .ref (am 13), .ref (am 14), .ref (am 15), .ref (am 16), .ref (am 17), .ref (am 18), .int (nI nc), .ref (am 20), .int (nI Q.2), .ref (am 22)])) := wd_uk h_23 (wd_ne h_23 h_25 (by simp))
              have h_29 : (wd_up (wd_up σ (am 6) (.inl (T 0, 121, .inl (upd (fm 6) (k + 1) 1)))) (am 10) (.inl (T 0, 121, .inl (upd (fm 10) (k + 1) (-1))))) (am 6) = some (.inl (T 0, 121, .inl (upd (fm 6) (k + 1) 1))) := wd_uk h_22 (fun z => absurd (di 6 10 rfl rfl z) (by decide))
              have h_30 : (wd_up (wd_up σ (am 6) (.inl (T 0, 121, .inl (upd (fm 6) (k + 1) 1)))) (am 10) (.inl (T 0, 121, .inl (upd (fm 10) (k + 1) (-1))))) (am 7) = some (.inl (T 1, 121, .inl (fm 7))) := wd_uk h_24 (fun z => absurd (di 7 10 rfl rfl z) (by decide))
              have h_31 : (wd_up (wd_up σ (am 6) (.inl (T 0, 121, .inl (upd (fm 6) (k + 1) 1)))) (am 10) (.inl (T 0, 121, .inl (upd (fm 10) (k + 1) (-1))))) (am 18) = some (.inl (T 0, 121, .inl (fm 18))) := wd_uk h_26 (fun z => absurd (di 18 10 rfl rfl z) (by decide))
              refine lv_aload_n hx hb d_M_open_79 rfl (lv_at hl 0 rfl) ?_
              refine wd_get C h kc_M h_28 18 (by decide) lk_M_62 rfl d_M_open_80 ?_
              refine lv_iload_n hx hb d_M_open_83 rfl (lv_at hl 1 rfl) ?_
              refine lv_bipush (v := 100) hx hb d_M_open_84 (by decide) ?_
              refine lv_iload_n hx hb d_M_open_86 rfl (lv_at hl 2 rfl) ?_
              refine lv_imul hx hb d_M_open_87 ?_
              refine lv_iload_n hx hb d_M_open_88 rfl (lv_at hl 3 rfl) ?_
              refine lv_iadd hx hb d_M_open_89 ?_
              refine wd_iast C h 0 rfl h_31 (vp_in_nI (show k + 1 < 121 by omega) (by decide)) d_M_open_90 (fun H locs h => ?_)
              rw [nI_clamp (show k + 1 < 2 ^ 31 by omega)] at h
              have h : wd_C D T A s H locs (wd_up (wd_up (wd_up σ (am 6) (.inl (T 0, 121, .inl (upd (fm 6) (k + 1) 1)))) (am 10) (.inl (T 0, 121, .inl (upd (fm 10) (k + 1) (-1))))) (am 18) (.inl (T 0, 121, .inl (upd (fm 18) (k + 1) ((100 * p1) + p2))))) := h
              have h_32 : (wd_up (wd_up (wd_up σ (am 6) (.inl (T 0, 121, .inl (upd (fm 6) (k + 1) 1)))) (am 10) (.inl (T 0, 121, .inl (upd (fm 10) (k + 1) (-1))))) (am 18) (.inl (T 0, 121, .inl (upd (fm 18) (k + 1) ((100 * p1) + p2))))) (am 18) = some (.inl (T 0, 121, .inl (upd (fm 18) (k + 1) ((100 * p1) + p2)))) := wd_us _ _ _
              have h_33 : (wd_up (wd_up (wd_up σ (am 6) (.inl (T 0, 121, .inl (upd (fm 6) (k + 1) 1)))) (am 10) (.inl (T 0, 121, .inl (upd (fm 10) (k + 1) (-1))))) (am 18) (.inl (T 0, 121, .inl (upd (fm 18) (k + 1) ((100 * p1) + p2))))) y = some (.inr (4, [.int (nI n), .ref (am 1), .ref (am 2), .ref (am 3), .ref (am 4), .ref (am 5), .ref (am 6), .ref (am 7), .ref (am 8), .ref (am 9), .ref (am 10), .ref (am 11), .ref (am 12), .ref (am 13), .ref (am 14), .ref (am 15), .ref (am 16), .ref (am 17), .ref (am 18), .int (nI nc), .ref (am 20), .int (nI Q.2), .ref (am 22)])) := wd_uk h_28 (wd_ne h_28 h_31 (by simp))
              have h_34 : (wd_up (wd_up (wd_up σ (am 6) (.inl (T 0, 121, .inl (upd (fm 6) (k + 1) 1)))) (am 10) (.inl (T 0, 121, .inl (upd (fm 10) (k + 1) (-1))))) (am 18) (.inl (T 0, 121, .inl (upd (fm 18) (k + 1) ((100 * p1) + p2))))) (am 6) = some (.inl (T 0, 121, .inl (upd (fm 6) (k + 1) 1))) := wd_uk h_29 (fun z => absurd (di 6 18 rfl rfl z) (by decide))
              have h_35 : (wd_up (wd_up (wd_up σ (am 6) (.inl (T 0, 121, .inl (upd (fm 6) (k + 1) 1)))) (am 10) (.inl (T 0, 121, .inl (upd (fm 10) (k + 1) (-1))))) (am 18) (.inl (T 0, 121, .inl (upd (fm 18) (k + 1) ((100 * p1) + p2))))) (am 7) = some (.inl (T 1, 121, .inl (fm 7))) := wd_uk h_30 (fun z => absurd (di 7 18 rfl rfl z) (by decide))
              have h_36 : (wd_up (wd_up (wd_up σ (am 6) (.inl (T 0, 121, .inl (upd (fm 6) (k + 1) 1)))) (am 10) (.inl (T 0, 121, .inl (upd (fm 10) (k + 1) (-1))))) (am 18) (.inl (T 0, 121, .inl (upd (fm 18) (k + 1) ((100 * p1) + p2))))) (am 10) = some (.inl (T 0, 121, .inl (upd (fm 10) (k + 1) (-1)))) := wd_uk h_27 (fun z => absurd (di 10 18 rfl rfl z) (by decide))
              refine lv_iconst (v := 1) hx hb d_M_open_91 (by decide) ?_
              exact wd_iret C hr hlocks h (by rw [o_upd_some (S := (n, R, nc, CR, wg, Q)) (o_find_ok m8 hk), show f_opn p1 p2 (R k) = (1, (upd (upd (upd (R k) 5 1) 8 (-1)) 13 (100 * p1 + p2))) from by simp [f_opn, eq_false c_12, eq_false c_18, eq_true c_19, eq_true c_20, eq_false c_21]]; exact ⟨rfl, (by have q := (((hM.set hk (f := 5) (by decide) 1).set hk (f := 8) (by decide) (-1)).set hk (f := 13) (by decide) (100 * p1 + p2)); rw [va_up_self, bx_uu, va_up_self, bx_uu] at q; exact q.rm)⟩) (Nat.le_of_ble_eq_true rfl) (Nat.le_of_ble_eq_true rfl) d_M_open_92
            · refine lv_bipush (v := (-108)) hx hb d_M_open_62 (by decide) ?_
              exact wd_iret C hr hlocks h (by rw [o_upd_some (S := (n, R, nc, CR, wg, Q)) (o_find_ok m8 hk), show f_opn p1 p2 (R k) = ((-108), (R k)) from by simp [f_opn, eq_false c_12, eq_false c_18, eq_true c_19, eq_true c_20, eq_true c_21]]; exact ⟨rfl, by rw [va_up_id]; exact hM.rm⟩) (Nat.le_of_ble_eq_true rfl) (Nat.le_of_ble_eq_true rfl) d_M_open_64
          · refine lv_bipush (v := (-103)) hx hb d_M_open_54 (by decide) ?_
            exact wd_iret C hr hlocks h (by rw [o_upd_some (S := (n, R, nc, CR, wg, Q)) (o_find_ok m8 hk), show f_opn p1 p2 (R k) = ((-103), (R k)) from by simp [f_opn, eq_false c_12, eq_false c_18, eq_true c_19, eq_false c_20]]; exact ⟨rfl, by rw [va_up_id]; exact hM.rm⟩) (Nat.le_of_ble_eq_true rfl) (Nat.le_of_ble_eq_true rfl) d_M_open_56
      · refine lv_bipush (v := (-102)) hx hb d_M_open_31 (by decide) ?_
        exact wd_iret C hr hlocks h (by rw [o_upd_some (S := (n, R, nc, CR, wg, Q)) (o_find_ok m8 hk), show f_opn p1 p2 (R k) = ((-102), (R k)) from by simp [f_opn, eq_false c_12, eq_true c_18]]; exact ⟨rfl, by rw [va_up_id]; exact hM.rm⟩) (Nat.le_of_ble_eq_true rfl) (Nat.le_of_ble_eq_true rfl) d_M_open_33
  · refine lv_bipush (v := (-101)) hx hb d_M_open_8 (by decide) ?_
    exact wd_iret C hr hlocks h (by rw [o_upd_none (S := (n, R, nc, CR, wg, Q)) (o_find_no c_6)]; exact ⟨rfl, hM.rm⟩) (Nat.le_of_ble_eq_true rfl) (Nat.le_of_ble_eq_true rfl) d_M_open_10

theorem abt_out {wh : Int32} (h0 : ¬ wh = 0) (h1 : ¬ wh = 1) (h2 : ¬ wh = 2) (h3 : ¬ wh = 3) (h4 : ¬ wh = 4) (h5 : ¬ wh = 5) (h6 : ¬ wh = 6) (h7 : ¬ wh = 7) (h8 : ¬ wh = 8) (h9 : ¬ wh = 9) (h10 : ¬ wh = 10) (h11 : ¬ wh = 11) (h12 : ¬ wh = 12) (h13 : ¬ wh = 13) : xw wh 0 13 = 0 := by
  rcases Classical.em (xw wh 0 13 = 0) with h | h
  · exact h
  · obtain ⟨u, v⟩ := xw_out h
    rw [Int32.lt_iff_toInt_lt] at u v
    have e0 : (0 : Int32).toInt = 0 := rfl
    have e1 : (13 : Int32).toInt = 13 := rfl
    have g0 := sw_ne h0 (show (0 : Int32).toInt = 0 from rfl)
    have g1 := sw_ne h1 (show (1 : Int32).toInt = 1 from rfl)
    have g2 := sw_ne h2 (show (2 : Int32).toInt = 2 from rfl)
    have g3 := sw_ne h3 (show (3 : Int32).toInt = 3 from rfl)
    have g4 := sw_ne h4 (show (4 : Int32).toInt = 4 from rfl)
    have g5 := sw_ne h5 (show (5 : Int32).toInt = 5 from rfl)
    have g6 := sw_ne h6 (show (6 : Int32).toInt = 6 from rfl)
    have g7 := sw_ne h7 (show (7 : Int32).toInt = 7 from rfl)
    have g8 := sw_ne h8 (show (8 : Int32).toInt = 8 from rfl)
    have g9 := sw_ne h9 (show (9 : Int32).toInt = 9 from rfl)
    have g10 := sw_ne h10 (show (10 : Int32).toInt = 10 from rfl)
    have g11 := sw_ne h11 (show (11 : Int32).toInt = 11 from rfl)
    have g12 := sw_ne h12 (show (12 : Int32).toInt = 12 from rfl)
    have g13 := sw_ne h13 (show (13 : Int32).toInt = 13 from rfl)
    omega

set_option maxHeartbeats 4000000 in
set_option maxRecDepth 20000 in
theorem c_M_about (l : Launch) (D : va_G) (T : Nat → ClassId) (A : Nat → Prop) (σ : wd_S) (y : Nat) (am : Nat → Nat) (fm : Nat → Nat → Int32) (n : Nat) (R : Nat → Nat → Int32) (nc : Nat) (CR : Nat → Nat → Int32) (wg : Nat → Int32) (Q : pq) (hM : MB T σ y am fm n R nc CR wg Q) (i wh : Int32) : Met l y_M_about (Cond.code y_M_about b_M_about 3 (some .int) :: wd_tb) { frames := 2, cells := 0, slots := 0, locals := 43 } (va_Pc [.ref y, .int i, .int wh] (wd_Pre D T A σ)) (va_Qi (fun r1 σ1 => r1 = (o_upd (n, R, nc, CR, wg, Q) i (f_abt wh)).1 ∧ RM T σ1 y (o_upd (n, R, nc, CR, wg, Q) i (f_abt wh)).2) (wd_B D A) A) 0 0 A := by
  refine wd_ofW (by decide) (Nat.le_of_ble_eq_true rfl) ?_
  intro p e s m below meth c0 ls C hr hlocks hname h hl
  have hl : lv_has ls 3 [(0, .ref y), (1, .int i), (2, .int wh)] := hl
  have hx := C.1
  have hb := C.2.1
  obtain ⟨⟨d0, dc, di⟩, m1, m2, m3, m4, m5, m6, m7, m8, m9, m10⟩ := id hM
  have c1 : σ (am 1) = some (.inl (T 0, 121, .inl (fm 1))) := dc 1 rfl
  have c2 : σ (am 2) = some (.inl (T 0, 121, .inl (fm 2))) := dc 2 rfl
  have c3 : σ (am 3) = some (.inl (T 0, 121, .inl (fm 3))) := dc 3 rfl
  have c4 : σ (am 4) = some (.inl (T 0, 121, .inl (fm 4))) := dc 4 rfl
  have c5 : σ (am 5) = some (.inl (T 0, 121, .inl (fm 5))) := dc 5 rfl
  have c6 : σ (am 6) = some (.inl (T 0, 121, .inl (fm 6))) := dc 6 rfl
  have c7 : σ (am 7) = some (.inl (T 1, 121, .inl (fm 7))) := dc 7 rfl
  have c8 : σ (am 8) = some (.inl (T 0, 121, .inl (fm 8))) := dc 8 rfl
  have c9 : σ (am 9) = some (.inl (T 0, 121, .inl (fm 9))) := dc 9 rfl
  have c10 : σ (am 10) = some (.inl (T 0, 121, .inl (fm 10))) := dc 10 rfl
  have c11 : σ (am 11) = some (.inl (T 0, 121, .inl (fm 11))) := dc 11 rfl
  have c15 : σ (am 15) = some (.inl (T 0, 121, .inl (fm 15))) := dc 15 rfl
  have c17 : σ (am 17) = some (.inl (T 0, 121, .inl (fm 17))) := dc 17 rfl
  have c18 : σ (am 18) = some (.inl (T 0, 121, .inl (fm 18))) := dc 18 rfl
  refine lv_aload_n hx hb d_M_about_0 rfl (lv_at hl 0 rfl) ?_
  refine lv_iload_n hx hb d_M_about_1 rfl (lv_at hl 1 rfl) ?_
  refine wd_ci h (wd_rV (rest := []) (st0 := [.int i, .ref y]) C h kc_M d0 k_M_isItem wm_M_isItem wz_M_isItem lk_M_92 (c_M_isItem l D T A σ y am fm n R nc CR wg Q hM i) rfl rfl ⟨Nat.le_of_ble_eq_true rfl, Nat.le_of_ble_eq_true rfl⟩ rfl hl.1 rfl (Nat.le_of_ble_eq_true rfl) d_M_about_2 ⟨Nat.le_of_ble_eq_true rfl, Nat.le_of_ble_eq_true rfl⟩) (fun r_1 σ_2 H locs hp_3 h => ?_)
  obtain ⟨e_4, es_5⟩ := hp_3
  rw [es_5] at h
  subst e_4
  refine lv_if_ne (tgt := 11) hx hb d_M_about_5 (by decide) (fun c_6 => ?_) (fun c_6 => ?_)
  · obtain ⟨k, hk, -, rfl⟩ := o_in m8 c_6
    refine lv_iload_n hx hb d_M_about_11 rfl (lv_at hl 2 rfl) ?_
    by_cases k_7 : wh = 0
    · refine lv_tableIn (tgt := 84) hx hb d_M_about_12 (by rw [k_7]; decide) (by rw [k_7]; decide) (by rw [k_7]; rfl) (by decide) ?_
      refine lv_aload_n hx hb d_M_about_84 rfl (lv_at hl 0 rfl) ?_
      refine wd_get C h kc_M d0 6 (by decide) lk_M_25 rfl d_M_about_85 ?_
      refine lv_iload_n hx hb d_M_about_88 rfl (lv_at hl 1 rfl) ?_
      refine wd_iald C h 0 rfl c6 (vp_in_nI (show k + 1 < 121 by omega) (by decide)) d_M_about_89 ?_
      rw [nI_clamp (show k + 1 < 2 ^ 31 by omega)]
      rw [show fm 6 (k + 1) = R k 5 from m1 k hk 5 (by decide)]
      exact wd_iret C hr hlocks h (by rw [o_upd_some (S := (n, R, nc, CR, wg, Q)) (o_find_ok m8 hk), show f_abt wh (R k) = ((R k 5), (R k)) from by subst k_7; simp [f_abt, xf, xw]]; exact ⟨rfl, by rw [va_up_id]; exact hM.rm⟩) (Nat.le_of_ble_eq_true rfl) (Nat.le_of_ble_eq_true rfl) d_M_about_90
    by_cases k_8 : wh = 1
    · refine lv_tableIn (tgt := 91) hx hb d_M_about_12 (by rw [k_8]; decide) (by rw [k_8]; decide) (by rw [k_8]; rfl) (by decide) ?_
      refine lv_aload_n hx hb d_M_about_91 rfl (lv_at hl 0 rfl) ?_
      refine wd_get C h kc_M d0 1 (by decide) lk_M_7 rfl d_M_about_92 ?_
      refine lv_iload_n hx hb d_M_about_95 rfl (lv_at hl 1 rfl) ?_
      refine wd_iald C h 0 rfl c1 (vp_in_nI (show k + 1 < 121 by omega) (by decide)) d_M_about_96 ?_
      rw [nI_clamp (show k + 1 < 2 ^ 31 by omega)]
      rw [show fm 1 (k + 1) = R k 0 from m1 k hk 0 (by decide)]
      exact wd_iret C hr hlocks h (by rw [o_upd_some (S := (n, R, nc, CR, wg, Q)) (o_find_ok m8 hk), show f_abt wh (R k) = ((R k 0), (R k)) from by subst k_8; simp [f_abt, xf, xw]]; exact ⟨rfl, by rw [va_up_id]; exact hM.rm⟩) (Nat.le_of_ble_eq_true rfl) (Nat.le_of_ble_eq_true rfl) d_M_about_97
    by_cases k_9 : wh = 2
    · refine lv_tableIn (tgt := 98) hx hb d_M_about_12 (by rw [k_9]; decide) (by rw [k_9]; decide) (by rw [k_9]; rfl) (by decide) ?_
      refine lv_aload_n hx hb d_M_about_98 rfl (lv_at hl 0 rfl) ?_
      refine wd_get C h kc_M d0 2 (by decide) lk_M_13 rfl d_M_about_99 ?_
      refine lv_iload_n hx hb d_M_about_102 rfl (lv_at hl 1 rfl) ?_
      refine wd_iald C h 0 rfl c2 (vp_in_nI (show k + 1 < 121 by omega) (by decide)) d_M_about_103 ?_
      rw [nI_clamp (show k + 1 < 2 ^ 31 by omega)]
      rw [show fm 2 (k + 1) = R k 1 from m1 k hk 1 (by decide)]
      exact wd_iret C hr hlocks h (by rw [o_upd_some (S := (n, R, nc, CR, wg, Q)) (o_find_ok m8 hk), show f_abt wh (R k) = ((R k 1), (R k)) from by subst k_9; simp [f_abt, xf, xw]]; exact ⟨rfl, by rw [va_up_id]; exact hM.rm⟩) (Nat.le_of_ble_eq_true rfl) (Nat.le_of_ble_eq_true rfl) d_M_about_104
    by_cases k_10 : wh = 3
    · refine lv_tableIn (tgt := 105) hx hb d_M_about_12 (by rw [k_10]; decide) (by rw [k_10]; decide) (by rw [k_10]; rfl) (by decide) ?_
      refine lv_aload_n hx hb d_M_about_105 rfl (lv_at hl 0 rfl) ?_
      refine wd_get C h kc_M d0 3 (by decide) lk_M_16 rfl d_M_about_106 ?_
      refine lv_iload_n hx hb d_M_about_109 rfl (lv_at hl 1 rfl) ?_
      refine wd_iald C h 0 rfl c3 (vp_in_nI (show k + 1 < 121 by omega) (by decide)) d_M_about_110 ?_
      rw [nI_clamp (show k + 1 < 2 ^ 31 by omega)]
      rw [show fm 3 (k + 1) = R k 2 from m1 k hk 2 (by decide)]
      exact wd_iret C hr hlocks h (by rw [o_upd_some (S := (n, R, nc, CR, wg, Q)) (o_find_ok m8 hk), show f_abt wh (R k) = ((R k 2), (R k)) from by subst k_10; simp [f_abt, xf, xw]]; exact ⟨rfl, by rw [va_up_id]; exact hM.rm⟩) (Nat.le_of_ble_eq_true rfl) (Nat.le_of_ble_eq_true rfl) d_M_about_111
    by_cases k_11 : wh = 4
    · refine lv_tableIn (tgt := 112) hx hb d_M_about_12 (by rw [k_11]; decide) (by rw [k_11]; decide) (by rw [k_11]; rfl) (by decide) ?_
      refine lv_aload_n hx hb d_M_about_112 rfl (lv_at hl 0 rfl) ?_
      refine wd_get C h kc_M d0 5 (by decide) lk_M_22 rfl d_M_about_113 ?_
      refine lv_iload_n hx hb d_M_about_116 rfl (lv_at hl 1 rfl) ?_
      refine wd_iald C h 0 rfl c5 (vp_in_nI (show k + 1 < 121 by omega) (by decide)) d_M_about_117 ?_
      rw [nI_clamp (show k + 1 < 2 ^ 31 by omega)]
      rw [show fm 5 (k + 1) = R k 4 from m1 k hk 4 (by decide)]
      exact wd_iret C hr hlocks h (by rw [o_upd_some (S := (n, R, nc, CR, wg, Q)) (o_find_ok m8 hk), show f_abt wh (R k) = ((R k 4), (R k)) from by subst k_11; simp [f_abt, xf, xw]]; exact ⟨rfl, by rw [va_up_id]; exact hM.rm⟩) (Nat.le_of_ble_eq_true rfl) (Nat.le_of_ble_eq_true rfl) d_M_about_118
    by_cases k_12 : wh = 5
    · refine lv_tableIn (tgt := 119) hx hb d_M_about_12 (by rw [k_12]; decide) (by rw [k_12]; decide) (by rw [k_12]; rfl) (by decide) ?_
      refine lv_aload_n hx hb d_M_about_119 rfl (lv_at hl 0 rfl) ?_
      refine wd_get C h kc_M d0 9 (by decide) lk_M_35 rfl d_M_about_120 ?_
      refine lv_iload_n hx hb d_M_about_123 rfl (lv_at hl 1 rfl) ?_
      refine wd_iald C h 0 rfl c9 (vp_in_nI (show k + 1 < 121 by omega) (by decide)) d_M_about_124 ?_
      rw [nI_clamp (show k + 1 < 2 ^ 31 by omega)]
      rw [show fm 9 (k + 1) = R k 7 from m1 k hk 7 (by decide)]
      exact wd_iret C hr hlocks h (by rw [o_upd_some (S := (n, R, nc, CR, wg, Q)) (o_find_ok m8 hk), show f_abt wh (R k) = ((R k 7), (R k)) from by subst k_12; simp [f_abt, xf, xw]]; exact ⟨rfl, by rw [va_up_id]; exact hM.rm⟩) (Nat.le_of_ble_eq_true rfl) (Nat.le_of_ble_eq_true rfl) d_M_about_125
    by_cases k_13 : wh = 6
    · refine lv_tableIn (tgt := 126) hx hb d_M_about_12 (by rw [k_13]; decide) (by rw [k_13]; decide) (by rw [k_13]; rfl) (by decide) ?_
      refine lv_aload_n hx hb d_M_about_126 rfl (lv_at hl 0 rfl) ?_
      refine wd_get C h kc_M d0 10 (by decide) lk_M_38 rfl d_M_about_127 ?_
      refine lv_iload_n hx hb d_M_about_130 rfl (lv_at hl 1 rfl) ?_
      refine wd_iald C h 0 rfl c10 (vp_in_nI (show k + 1 < 121 by omega) (by decide)) d_M_about_131 ?_
      rw [nI_clamp (show k + 1 < 2 ^ 31 by omega)]
      rw [show fm 10 (k + 1) = R k 8 from m1 k hk 8 (by decide)]
      exact wd_iret C hr hlocks h (by rw [o_upd_some (S := (n, R, nc, CR, wg, Q)) (o_find_ok m8 hk), show f_abt wh (R k) = ((R k 8), (R k)) from by subst k_13; simp [f_abt, xf, xw]]; exact ⟨rfl, by rw [va_up_id]; exact hM.rm⟩) (Nat.le_of_ble_eq_true rfl) (Nat.le_of_ble_eq_true rfl) d_M_about_132
    by_cases k_14 : wh = 7
    · refine lv_tableIn (tgt := 133) hx hb d_M_about_12 (by rw [k_14]; decide) (by rw [k_14]; decide) (by rw [k_14]; rfl) (by decide) ?_
      refine lv_aload_n hx hb d_M_about_133 rfl (lv_at hl 0 rfl) ?_
      refine wd_get C h kc_M d0 11 (by decide) lk_M_41 rfl d_M_about_134 ?_
      refine lv_iload_n hx hb d_M_about_137 rfl (lv_at hl 1 rfl) ?_
      refine wd_iald C h 0 rfl c11 (vp_in_nI (show k + 1 < 121 by omega) (by decide)) d_M_about_138 ?_
      rw [nI_clamp (show k + 1 < 2 ^ 31 by omega)]
      rw [show fm 11 (k + 1) = R k 9 from m1 k hk 9 (by decide)]
      exact wd_iret C hr hlocks h (by rw [o_upd_some (S := (n, R, nc, CR, wg, Q)) (o_find_ok m8 hk), show f_abt wh (R k) = ((R k 9), (R k)) from by subst k_14; simp [f_abt, xf, xw]]; exact ⟨rfl, by rw [va_up_id]; exact hM.rm⟩) (Nat.le_of_ble_eq_true rfl) (Nat.le_of_ble_eq_true rfl) d_M_about_139
    by_cases k_15 : wh = 8
    · refine lv_tableIn (tgt := 140) hx hb d_M_about_12 (by rw [k_15]; decide) (by rw [k_15]; decide) (by rw [k_15]; rfl) (by decide) ?_
      refine lv_aload_n hx hb d_M_about_140 rfl (lv_at hl 0 rfl) ?_
      refine wd_get C h kc_M d0 15 (by decide) lk_M_53 rfl d_M_about_141 ?_
      refine lv_iload_n hx hb d_M_about_144 rfl (lv_at hl 1 rfl) ?_
      refine wd_iald C h 0 rfl c15 (vp_in_nI (show k + 1 < 121 by omega) (by decide)) d_M_about_145 ?_
      rw [nI_clamp (show k + 1 < 2 ^ 31 by omega)]
      rw [show fm 15 (k + 1) = R k 10 from m1 k hk 10 (by decide)]
      exact wd_iret C hr hlocks h (by rw [o_upd_some (S := (n, R, nc, CR, wg, Q)) (o_find_ok m8 hk), show f_abt wh (R k) = ((R k 10), (R k)) from by subst k_15; simp [f_abt, xf, xw]]; exact ⟨rfl, by rw [va_up_id]; exact hM.rm⟩) (Nat.le_of_ble_eq_true rfl) (Nat.le_of_ble_eq_true rfl) d_M_about_146
    by_cases k_16 : wh = 9
    · refine lv_tableIn (tgt := 147) hx hb d_M_about_12 (by rw [k_16]; decide) (by rw [k_16]; decide) (by rw [k_16]; rfl) (by decide) ?_
      refine lv_aload_n hx hb d_M_about_147 rfl (lv_at hl 0 rfl) ?_
      refine wd_get C h kc_M d0 17 (by decide) lk_M_59 rfl d_M_about_148 ?_
      refine lv_iload_n hx hb d_M_about_151 rfl (lv_at hl 1 rfl) ?_
      refine wd_iald C h 0 rfl c17 (vp_in_nI (show k + 1 < 121 by omega) (by decide)) d_M_about_152 ?_
      rw [nI_clamp (show k + 1 < 2 ^ 31 by omega)]
      rw [show fm 17 (k + 1) = R k 11 from m1 k hk 11 (by decide)]
      exact wd_iret C hr hlocks h (by rw [o_upd_some (S := (n, R, nc, CR, wg, Q)) (o_find_ok m8 hk), show f_abt wh (R k) = ((R k 11), (R k)) from by subst k_16; simp [f_abt, xf, xw]]; exact ⟨rfl, by rw [va_up_id]; exact hM.rm⟩) (Nat.le_of_ble_eq_true rfl) (Nat.le_of_ble_eq_true rfl) d_M_about_153
    by_cases k_17 : wh = 10
    · refine lv_tableIn (tgt := 154) hx hb d_M_about_12 (by rw [k_17]; decide) (by rw [k_17]; decide) (by rw [k_17]; rfl) (by decide) ?_
      refine lv_aload_n hx hb d_M_about_154 rfl (lv_at hl 0 rfl) ?_
      refine wd_get C h kc_M d0 8 (by decide) lk_M_32 rfl d_M_about_155 ?_
      refine lv_iload_n hx hb d_M_about_158 rfl (lv_at hl 1 rfl) ?_
      refine wd_iald C h 0 rfl c8 (vp_in_nI (show k + 1 < 121 by omega) (by decide)) d_M_about_159 ?_
      rw [nI_clamp (show k + 1 < 2 ^ 31 by omega)]
      rw [show fm 8 (k + 1) = R k 12 from m1 k hk 12 (by decide)]
      exact wd_iret C hr hlocks h (by rw [o_upd_some (S := (n, R, nc, CR, wg, Q)) (o_find_ok m8 hk), show f_abt wh (R k) = ((R k 12), (R k)) from by subst k_17; simp [f_abt, xf, xw]]; exact ⟨rfl, by rw [va_up_id]; exact hM.rm⟩) (Nat.le_of_ble_eq_true rfl) (Nat.le_of_ble_eq_true rfl) d_M_about_160
    by_cases k_18 : wh = 11
    · refine lv_tableIn (tgt := 161) hx hb d_M_about_12 (by rw [k_18]; decide) (by rw [k_18]; decide) (by rw [k_18]; rfl) (by decide) ?_
      refine lv_aload_n hx hb d_M_about_161 rfl (lv_at hl 0 rfl) ?_
      refine wd_get C h kc_M d0 7 (by decide) lk_M_28 rfl d_M_about_162 ?_
      refine lv_iload_n hx hb d_M_about_165 rfl (lv_at hl 1 rfl) ?_
      refine wd_zald C h 1 rfl c7 (vp_in_nI (show k + 1 < 121 by omega) (by decide)) d_M_about_166 ?_
      rw [nI_clamp (show k + 1 < 2 ^ 31 by omega)]
      rw [show fm 7 (k + 1) = R k 6 from m1 k hk 6 (by decide)]
      refine lv_if_eq (tgt := 174) hx hb d_M_about_167 (by decide) (fun c_19 => ?_) (fun c_19 => ?_)
      · refine lv_iconst (v := 0) hx hb d_M_about_174 (by decide) ?_
        exact wd_iret C hr hlocks h (by rw [o_upd_some (S := (n, R, nc, CR, wg, Q)) (o_find_ok m8 hk), show f_abt wh (R k) = (0, (R k)) from by subst k_18; simp [f_abt, xf, xw, eq_true c_19]]; exact ⟨rfl, by rw [va_up_id]; exact hM.rm⟩) (Nat.le_of_ble_eq_true rfl) (Nat.le_of_ble_eq_true rfl) d_M_about_175
      · refine lv_iconst (v := 1) hx hb d_M_about_170 (by decide) ?_
        refine lv_goto (tgt := 175) hx hb d_M_about_171 (by decide) ?_
        exact wd_iret C hr hlocks h (by rw [o_upd_some (S := (n, R, nc, CR, wg, Q)) (o_find_ok m8 hk), show f_abt wh (R k) = (1, (R k)) from by subst k_18; simp [f_abt, xf, xw, eq_false c_19]]; exact ⟨rfl, by rw [va_up_id]; exact hM.rm⟩) (Nat.le_of_ble_eq_true rfl) (Nat.le_of_ble_eq_true rfl) d_M_about_175
    by_cases k_20 : wh = 12
    · refine lv_tableIn (tgt := 176) hx hb d_M_about_12 (by rw [k_20]; decide) (by rw [k_20]; decide) (by rw [k_20]; rfl) (by decide) ?_
      refine lv_aload_n hx hb d_M_about_176 rfl (lv_at hl 0 rfl) ?_
      refine wd_get C h kc_M d0 4 (by decide) lk_M_19 rfl d_M_about_177 ?_
      refine lv_iload_n hx hb d_M_about_180 rfl (lv_at hl 1 rfl) ?_
      refine wd_iald C h 0 rfl c4 (vp_in_nI (show k + 1 < 121 by omega) (by decide)) d_M_about_181 ?_
      rw [nI_clamp (show k + 1 < 2 ^ 31 by omega)]
      rw [show fm 4 (k + 1) = R k 3 from m1 k hk 3 (by decide)]
      exact wd_iret C hr hlocks h (by rw [o_upd_some (S := (n, R, nc, CR, wg, Q)) (o_find_ok m8 hk), show f_abt wh (R k) = ((R k 3), (R k)) from by subst k_20; simp [f_abt, xf, xw]]; exact ⟨rfl, by rw [va_up_id]; exact hM.rm⟩) (Nat.le_of_ble_eq_true rfl) (Nat.le_of_ble_eq_true rfl) d_M_about_182
    by_cases k_21 : wh = 13
    · refine lv_tableIn (tgt := 183) hx hb d_M_about_12 (by rw [k_21]; decide) (by rw [k_21]; decide) (by rw [k_21]; rfl) (by decide) ?_
      refine lv_aload_n hx hb d_M_about_183 rfl (lv_at hl 0 rfl) ?_
      refine wd_get C h kc_M d0 18 (by decide) lk_M_62 rfl d_M_about_184 ?_
      refine lv_iload_n hx hb d_M_about_187 rfl (lv_at hl 1 rfl) ?_
      refine wd_iald C h 0 rfl c18 (vp_in_nI (show k + 1 < 121 by omega) (by decide)) d_M_about_188 ?_
      rw [nI_clamp (show k + 1 < 2 ^ 31 by omega)]
      rw [show fm 18 (k + 1) = R k 13 from m1 k hk 13 (by decide)]
      exact wd_iret C hr hlocks h (by rw [o_upd_some (S := (n, R, nc, CR, wg, Q)) (o_find_ok m8 hk), show f_abt wh (R k) = ((R k 13), (R k)) from by subst k_21; simp [f_abt, xf, xw]]; exact ⟨rfl, by rw [va_up_id]; exact hM.rm⟩) (Nat.le_of_ble_eq_true rfl) (Nat.le_of_ble_eq_true rfl) d_M_about_189
    have n_22 := sw_ne k_7 (show ((0 : Int32)).toInt = 0 from by decide)
    have n_23 := sw_ne k_8 (show ((1 : Int32)).toInt = 1 from by decide)
    have n_24 := sw_ne k_9 (show ((2 : Int32)).toInt = 2 from by decide)
    have n_25 := sw_ne k_10 (show ((3 : Int32)).toInt = 3 from by decide)
    have n_26 := sw_ne k_11 (show ((4 : Int32)).toInt = 4 from by decide)
    have n_27 := sw_ne k_12 (show ((5 : Int32)).toInt = 5 from by decide)
    have n_28 := sw_ne k_13 (show ((6 : Int32)).toInt = 6 from by decide)
    have n_29 := sw_ne k_14 (show ((7 : Int32)).toInt = 7 from by decide)
    have n_30 := sw_ne k_15 (show ((8 : Int32)).toInt = 8 from by decide)
    have n_31 := sw_ne k_16 (show ((9 : Int32)).toInt = 9 from by decide)
    have n_32 := sw_ne k_17 (show ((10 : Int32)).toInt = 10 from by decide)
    have n_33 := sw_ne k_18 (show ((11 : Int32)).toInt = 11 from by decide)
    have n_34 := sw_ne k_20 (show ((12 : Int32)).toInt = 12 from by decide)
    have n_35 := sw_ne k_21 (show ((13 : Int32)).toInt = 13 from by decide)
    refine lv_tableOut (tgt := 190) hx hb d_M_about_12 (by omega) (by decide) ?_
    refine lv_bipush (v := (-102)) hx hb d_M_about_190 (by decide) ?_
    exact wd_iret C hr hlocks h (by rw [o_upd_some (S := (n, R, nc, CR, wg, Q)) (o_find_ok m8 hk), show f_abt wh (R k) = ((-102), (R k)) from by have e9 : xw wh 0 13 = 0 := abt_out k_7 k_8 k_9 k_10 k_11 k_12 k_13 k_14 k_15 k_16 k_17 k_18 k_20 k_21; simp [f_abt, e9]]; exact ⟨rfl, by rw [va_up_id]; exact hM.rm⟩) (Nat.le_of_ble_eq_true rfl) (Nat.le_of_ble_eq_true rfl) d_M_about_192
  · refine lv_bipush (v := (-101)) hx hb d_M_about_8 (by decide) ?_
    exact wd_iret C hr hlocks h (by rw [o_upd_none (S := (n, R, nc, CR, wg, Q)) (o_find_no c_6)]; exact ⟨rfl, hM.rm⟩) (Nat.le_of_ble_eq_true rfl) (Nat.le_of_ble_eq_true rfl) d_M_about_10
