set_option maxHeartbeats 4000000 in
set_option maxRecDepth 20000 in
theorem c_M_bulk (l : Launch) (D : va_G) (T : Nat → ClassId) (A : Nat → Prop) (σ : wd_S) (y : Nat) (am : Nat → Nat) (fm : Nat → Nat → Int32) (n : Nat) (R : Nat → Nat → Int32) (nc : Nat) (CR : Nat → Nat → Int32) (wg : Nat → Int32) (Q : pq) (hM : MB T σ y am fm n R nc CR wg Q) (hok : ∀ k, k < n → okr (R k)) (i c : Int32) : Met l y_M_bulk (Cond.code y_M_bulk b_M_bulk 3 (some .int) :: wd_tb) { frames := 2, cells := 0, slots := 0, locals := 43 } (va_Pc [.ref y, .int i, .int c] (wd_Pre D T A σ)) (va_Qi (fun r1 σ1 => r1 = (o_bulk (n, R, nc, CR, wg, Q) i c).1 ∧ RM T σ1 y (o_bulk (n, R, nc, CR, wg, Q) i c).2) (wd_B D A) A) 0 0 A := by
  refine wd_ofW (by decide) (Nat.le_of_ble_eq_true rfl) ?_
  intro p e s m below meth c0 ls C hr hlocks hname h hl
  have hl : lv_has ls 3 [(0, .ref y), (1, .int i), (2, .int c)] := hl
  have hx := C.1
  have hb := C.2.1
  obtain ⟨⟨d0, dc, di⟩, m1, m2, m3, m4, m5, m6, m7, m8, m9, m10⟩ := id hM
  have c17 : σ (am 17) = some (.inl (T 0, 121, .inl (fm 17))) := dc 17 rfl
  refine lv_aload_n hx hb d_M_bulk_0 rfl (lv_at hl 0 rfl) ?_
  refine lv_iload_n hx hb d_M_bulk_1 rfl (lv_at hl 1 rfl) ?_
  refine wd_ci h (wd_rV (rest := []) (st0 := [.int i, .ref y]) C h kc_M d0 k_M_isItem wm_M_isItem wz_M_isItem lk_M_92 (c_M_isItem l D T A σ y am fm n R nc CR wg Q hM i) rfl rfl ⟨Nat.le_of_ble_eq_true rfl, Nat.le_of_ble_eq_true rfl⟩ rfl hl.1 rfl (Nat.le_of_ble_eq_true rfl) d_M_bulk_2 ⟨Nat.le_of_ble_eq_true rfl, Nat.le_of_ble_eq_true rfl⟩) (fun r_1 σ_2 H locs hp_3 h => ?_)
  obtain ⟨e_4, es_5⟩ := hp_3
  rw [es_5] at h
  subst e_4
  refine lv_if_ne (tgt := 11) hx hb d_M_bulk_5 (by decide) (fun c_6 => ?_) (fun c_6 => ?_)
  · obtain ⟨k, hk, -, rfl⟩ := o_in m8 c_6
    refine lv_iload_n hx hb d_M_bulk_11 rfl (lv_at hl 2 rfl) ?_
    refine lv_iconst (v := 1) hx hb d_M_bulk_12 (by decide) ?_
    refine lv_bipush (v := 20) hx hb d_M_bulk_13 (by decide) ?_
    refine wd_ci h (wd_rS (rest := []) (st0 := [.int 20, .int 1, .int c]) C h k_M_within wt_M_within lk_M_75 (c_M_within l D T A σ c 1 20) rfl rfl ⟨Nat.le_of_ble_eq_true rfl, Nat.le_of_ble_eq_true rfl⟩ rfl hl.1 rfl (Nat.le_of_ble_eq_true rfl) d_M_bulk_15 ⟨Nat.le_of_ble_eq_true rfl, Nat.le_of_ble_eq_true rfl⟩) (fun r_7 σ_8 H locs hp_9 h => ?_)
    obtain ⟨e_10, es_11⟩ := hp_9
    rw [es_11] at h
    subst e_10
    refine lv_if_ne (tgt := 24) hx hb d_M_bulk_18 (by decide) (fun c_12 => ?_) (fun c_12 => ?_)
    · obtain ⟨m, q1, q2, rfl⟩ := c_in (n := 20) c_12 rfl (by decide)
      refine lv_aload_n hx hb d_M_bulk_24 rfl (lv_at hl 0 rfl) ?_
      refine wd_get C h kc_M d0 17 (by decide) lk_M_59 rfl d_M_bulk_25 ?_
      refine lv_iload_n hx hb d_M_bulk_28 rfl (lv_at hl 1 rfl) ?_
      refine wd_iald C h 0 rfl c17 (vp_in_nI (show k + 1 < 121 by omega) (by decide)) d_M_bulk_29 ?_
      rw [nI_clamp (show k + 1 < 2 ^ 31 by omega)]
      rw [show fm 17 (k + 1) = R k 11 from m1 k hk 11 (by decide)]
      refine lv_if_le (tgt := 36) hx hb d_M_bulk_30 (by decide) (fun c_13 => ?_) (fun c_13 => ?_)
      · refine lv_aload_n hx hb d_M_bulk_36 rfl (lv_at hl 0 rfl) ?_
        refine wd_get C h kc_M d0 17 (by decide) lk_M_59 rfl d_M_bulk_37 ?_
        refine lv_iload_n hx hb d_M_bulk_40 rfl (lv_at hl 1 rfl) ?_
        refine lv_iload_n hx hb d_M_bulk_41 rfl (lv_at hl 2 rfl) ?_
        refine wd_iast C h 0 rfl c17 (vp_in_nI (show k + 1 < 121 by omega) (by decide)) d_M_bulk_42 (fun H locs h => ?_)
        rw [nI_clamp (show k + 1 < 2 ^ 31 by omega)] at h
        have h : wd_C D T A s H locs (wd_up σ (am 17) (.inl (T 0, 121, .inl (upd (fm 17) (k + 1) (nI m))))) := h
        have h_14 : (wd_up σ (am 17) (.inl (T 0, 121, .inl (upd (fm 17) (k + 1) (nI m))))) (am 17) = some (.inl (T 0, 121, .inl (upd (fm 17) (k + 1) (nI m)))) := wd_us _ _ _
        have h_15 : (wd_up σ (am 17) (.inl (T 0, 121, .inl (upd (fm 17) (k + 1) (nI m))))) y = some (.inr (4, [.int (nI n), .ref (am 1), .ref (am 2), .ref (am 3), .ref (am 4), .ref (am 5), .ref (am 6), .ref (am 7), .ref (am 8), .ref (am 9), .ref (am 10), .ref (am 11), .ref (am 12), .ref (am 13), .ref (am 14), .ref (am 15), .ref (am 16), .ref (am 17), .ref (am 18), .int (nI nc), .ref (am 20), .int (nI Q.2), .ref (am 22)])) := wd_uk d0 (wd_ne d0 c17 (by simp))
        have hM1 := hM.set hk (f := 11) (by decide) (nI m)
        refine lv_aload_n hx hb d_M_bulk_43 rfl (lv_at hl 0 rfl) ?_
        refine lv_aload_n hx hb d_M_bulk_44 rfl (lv_at hl 0 rfl) ?_
        refine wd_get C h kc_M h_15 17 (by decide) lk_M_59 rfl d_M_bulk_45 ?_
        refine lv_iload_n hx hb d_M_bulk_48 rfl (lv_at hl 2 rfl) ?_
        refine wd_ci h (wd_rV (rest := []) (st0 := [.int (nI m), .ref (am 17), .ref y]) C h kc_M h_15 k_M_belonging wm_M_belonging wz_M_belonging lk_M_112 (c_M_belonging_17 l D T A (wd_up σ (am 17) (.inl (T 0, 121, .inl (upd (fm 17) (k + 1) (nI m))))) y am _ n _ nc CR wg Q hM1 (nI m)) rfl rfl ⟨Nat.le_of_ble_eq_true rfl, Nat.le_of_ble_eq_true rfl⟩ rfl hl.1 rfl (Nat.le_of_ble_eq_true rfl) d_M_bulk_49 ⟨Nat.le_of_ble_eq_true rfl, Nat.le_of_ble_eq_true rfl⟩) (fun r_16 σ_17 H locs hp_18 h => ?_)
        obtain ⟨e_19, es_20⟩ := hp_18
        rw [es_20] at h
        subst e_19
        exact wd_iret C hr hlocks h (by unfold o_bulk; rw [show o_find (n, R, nc, CR, wg, Q).1 _ = some k from o_find_ok m8 hk]; simp only [eq_false c_12, eq_true (z_le (hok k hk).2.2.2.2.2.2.2.2.1.1 c_13), ↓reduceIte]; exact ⟨by rw [cnt_set (by rw [(z_le (hok k hk).2.2.2.2.2.2.2.2.1.1 c_13)]; exact fun u => nI_ne0 (by omega) (by omega) u.symm) n hk, pk_us, if_pos rfl], hM1.rm⟩) (Nat.le_of_ble_eq_true rfl) (Nat.le_of_ble_eq_true rfl) d_M_bulk_52
      · refine lv_bipush (v := (-103)) hx hb d_M_bulk_33 (by decide) ?_
        exact wd_iret C hr hlocks h (by unfold o_bulk; rw [show o_find (n, R, nc, CR, wg, Q).1 _ = some k from o_find_ok m8 hk]; simp only [eq_false c_12, eq_false (z_gt c_13), ↓reduceIte]; exact ⟨trivial, hM.rm⟩) (Nat.le_of_ble_eq_true rfl) (Nat.le_of_ble_eq_true rfl) d_M_bulk_35
    · refine lv_bipush (v := (-102)) hx hb d_M_bulk_21 (by decide) ?_
      exact wd_iret C hr hlocks h (by unfold o_bulk; rw [show o_find (n, R, nc, CR, wg, Q).1 _ = some k from o_find_ok m8 hk]; simp only [eq_true c_12, ↓reduceIte]; exact ⟨trivial, hM.rm⟩) (Nat.le_of_ble_eq_true rfl) (Nat.le_of_ble_eq_true rfl) d_M_bulk_23
  · refine lv_bipush (v := (-101)) hx hb d_M_bulk_8 (by decide) ?_
    exact wd_iret C hr hlocks h (by unfold o_bulk; rw [show o_find (n, R, nc, CR, wg, Q).1 i = none from o_find_no c_6]; exact ⟨rfl, hM.rm⟩) (Nat.le_of_ble_eq_true rfl) (Nat.le_of_ble_eq_true rfl) d_M_bulk_10

set_option maxHeartbeats 4000000 in
set_option maxRecDepth 20000 in
theorem c_M_join (l : Launch) (D : va_G) (T : Nat → ClassId) (A : Nat → Prop) (σ : wd_S) (y : Nat) (am : Nat → Nat) (fm : Nat → Nat → Int32) (n : Nat) (R : Nat → Nat → Int32) (nc : Nat) (CR : Nat → Nat → Int32) (wg : Nat → Int32) (Q : pq) (hM : MB T σ y am fm n R nc CR wg Q) (hok : ∀ k, k < n → okr (R k)) (i c wt : Int32) : Met l y_M_join (Cond.code y_M_join b_M_join 4 (some .int) :: wd_tb) { frames := 2, cells := 0, slots := 0, locals := 43 } (va_Pc [.ref y, .int i, .int c, .int wt] (wd_Pre D T A σ)) (va_Qi (fun r1 σ1 => r1 = (o_join (n, R, nc, CR, wg, Q) i c wt).1 ∧ RM T σ1 y (o_join (n, R, nc, CR, wg, Q) i c wt).2) (wd_B D A) A) 0 0 A := by
  refine wd_ofW (by decide) (Nat.le_of_ble_eq_true rfl) ?_
  intro p e s m below meth c0 ls C hr hlocks hname h hl
  have hl : lv_has ls 4 [(0, .ref y), (1, .int i), (2, .int c), (3, .int wt)] := hl
  have hx := C.1
  have hb := C.2.1
  obtain ⟨⟨d0, dc, di⟩, m1, m2, m3, m4, m5, m6, m7, m8, m9, m10⟩ := id hM
  have c6 : σ (am 6) = some (.inl (T 0, 121, .inl (fm 6))) := dc 6 rfl
  have c15 : σ (am 15) = some (.inl (T 0, 121, .inl (fm 15))) := dc 15 rfl
  have c16 : σ (am 16) = some (.inl (T 1, 31, .inl (fm 16))) := dc 16 rfl
  refine lv_aload_n hx hb d_M_join_0 rfl (lv_at hl 0 rfl) ?_
  refine lv_iload_n hx hb d_M_join_1 rfl (lv_at hl 1 rfl) ?_
  refine wd_ci h (wd_rV (rest := []) (st0 := [.int i, .ref y]) C h kc_M d0 k_M_isItem wm_M_isItem wz_M_isItem lk_M_92 (c_M_isItem l D T A σ y am fm n R nc CR wg Q hM i) rfl rfl ⟨Nat.le_of_ble_eq_true rfl, Nat.le_of_ble_eq_true rfl⟩ rfl hl.1 rfl (Nat.le_of_ble_eq_true rfl) d_M_join_2 ⟨Nat.le_of_ble_eq_true rfl, Nat.le_of_ble_eq_true rfl⟩) (fun r_1 σ_2 H locs hp_3 h => ?_)
  obtain ⟨e_4, es_5⟩ := hp_3
  rw [es_5] at h
  subst e_4
  refine lv_if_ne (tgt := 11) hx hb d_M_join_5 (by decide) (fun c_6 => ?_) (fun c_6 => ?_)
  · obtain ⟨k, hk, -, rfl⟩ := o_in m8 c_6
    refine lv_iload_n hx hb d_M_join_11 rfl (lv_at hl 2 rfl) ?_
    refine lv_iconst (v := 1) hx hb d_M_join_12 (by decide) ?_
    refine lv_bipush (v := 30) hx hb d_M_join_13 (by decide) ?_
    refine wd_ci h (wd_rS (rest := []) (st0 := [.int 30, .int 1, .int c]) C h k_M_within wt_M_within lk_M_75 (c_M_within l D T A σ c 1 30) rfl rfl ⟨Nat.le_of_ble_eq_true rfl, Nat.le_of_ble_eq_true rfl⟩ rfl hl.1 rfl (Nat.le_of_ble_eq_true rfl) d_M_join_15 ⟨Nat.le_of_ble_eq_true rfl, Nat.le_of_ble_eq_true rfl⟩) (fun r_7 σ_8 H locs hp_9 h => ?_)
    obtain ⟨e_10, es_11⟩ := hp_9
    rw [es_11] at h
    subst e_10
    refine lv_if_ne (tgt := 24) hx hb d_M_join_18 (by decide) (fun c_12 => ?_) (fun c_12 => ?_)
    · obtain ⟨m, q1, q2, rfl⟩ := c_in (n := 30) c_12 rfl (by decide)
      refine lv_aload_n hx hb d_M_join_24 rfl (lv_at hl 0 rfl) ?_
      refine wd_get C h kc_M d0 15 (by decide) lk_M_53 rfl d_M_join_25 ?_
      refine lv_iload_n hx hb d_M_join_28 rfl (lv_at hl 1 rfl) ?_
      refine wd_iald C h 0 rfl c15 (vp_in_nI (show k + 1 < 121 by omega) (by decide)) d_M_join_29 ?_
      rw [nI_clamp (show k + 1 < 2 ^ 31 by omega)]
      rw [show fm 15 (k + 1) = R k 10 from m1 k hk 10 (by decide)]
      refine lv_if_gt (tgt := 41) hx hb d_M_join_30 (by decide) (fun c_13 => ?_) (fun c_13 => ?_)
      · refine lv_bipush (v := (-103)) hx hb d_M_join_41 (by decide) ?_
        exact wd_iret C hr hlocks h (by unfold o_join; rw [show o_find (n, R, nc, CR, wg, Q).1 _ = some k from o_find_ok m8 hk]; simp only [eq_false c_12, eq_false (z_pos c_13), ↓reduceIte]; exact ⟨trivial, hM.rm⟩) (Nat.le_of_ble_eq_true rfl) (Nat.le_of_ble_eq_true rfl) d_M_join_43
      · refine lv_aload_n hx hb d_M_join_33 rfl (lv_at hl 0 rfl) ?_
        refine lv_iload_n hx hb d_M_join_34 rfl (lv_at hl 1 rfl) ?_
        refine wd_ci h (wd_rV (rest := []) (st0 := [.int (nI (k + 1)), .ref y]) C h kc_M d0 k_M_isOver wm_M_isOver wz_M_isOver lk_M_100 (c_M_isOver l D T A σ y am fm n R nc CR wg Q hM k hk ) rfl rfl ⟨Nat.le_of_ble_eq_true rfl, Nat.le_of_ble_eq_true rfl⟩ rfl hl.1 rfl (Nat.le_of_ble_eq_true rfl) d_M_join_35 ⟨Nat.le_of_ble_eq_true rfl, Nat.le_of_ble_eq_true rfl⟩) (fun r_14 σ_15 H locs hp_16 h => ?_)
        obtain ⟨e_17, es_18⟩ := hp_16
        rw [es_18] at h
        subst e_17
        refine lv_if_eq (tgt := 44) hx hb d_M_join_38 (by decide) (fun c_19 => ?_) (fun c_19 => ?_)
        · refine lv_aload_n hx hb d_M_join_44 rfl (lv_at hl 0 rfl) ?_
          refine lv_aload_n hx hb d_M_join_45 rfl (lv_at hl 0 rfl) ?_
          refine wd_get C h kc_M d0 15 (by decide) lk_M_53 rfl d_M_join_46 ?_
          refine lv_iload_n hx hb d_M_join_49 rfl (lv_at hl 2 rfl) ?_
          refine wd_ci h (wd_rV (rest := []) (st0 := [.int (nI m), .ref (am 15), .ref y]) C h kc_M d0 k_M_belonging wm_M_belonging wz_M_belonging lk_M_112 (c_M_belonging_15 l D T A σ y am fm n R nc CR wg Q hM (nI m)) rfl rfl ⟨Nat.le_of_ble_eq_true rfl, Nat.le_of_ble_eq_true rfl⟩ rfl hl.1 rfl (Nat.le_of_ble_eq_true rfl) d_M_join_50 ⟨Nat.le_of_ble_eq_true rfl, Nat.le_of_ble_eq_true rfl⟩) (fun r_20 σ_21 H locs hp_22 h => ?_)
          obtain ⟨e_23, es_24⟩ := hp_22
          rw [es_24] at h
          subst e_23
          refine lv_if_ne (tgt := 63) hx hb d_M_join_53 (by decide) (fun c_25 => ?_) (fun c_25 => ?_)
          · refine lv_aload_n hx hb d_M_join_63 rfl (lv_at hl 0 rfl) ?_
            refine wd_get C h kc_M d0 15 (by decide) lk_M_53 rfl d_M_join_64 ?_
            refine lv_iload_n hx hb d_M_join_67 rfl (lv_at hl 1 rfl) ?_
            refine lv_iload_n hx hb d_M_join_68 rfl (lv_at hl 2 rfl) ?_
            refine wd_iast C h 0 rfl c15 (vp_in_nI (show k + 1 < 121 by omega) (by decide)) d_M_join_69 (fun H locs h => ?_)
            rw [nI_clamp (show k + 1 < 2 ^ 31 by omega)] at h
            have h : wd_C D T A s H locs (wd_up σ (am 15) (.inl (T 0, 121, .inl (upd (fm 15) (k + 1) (nI m))))) := h
            have h_26 : (wd_up σ (am 15) (.inl (T 0, 121, .inl (upd (fm 15) (k + 1) (nI m))))) (am 15) = some (.inl (T 0, 121, .inl (upd (fm 15) (k + 1) (nI m)))) := wd_us _ _ _
            have h_27 : (wd_up σ (am 15) (.inl (T 0, 121, .inl (upd (fm 15) (k + 1) (nI m))))) y = some (.inr (4, [.int (nI n), .ref (am 1), .ref (am 2), .ref (am 3), .ref (am 4), .ref (am 5), .ref (am 6), .ref (am 7), .ref (am 8), .ref (am 9), .ref (am 10), .ref (am 11), .ref (am 12), .ref (am 13), .ref (am 14), .ref (am 15), .ref (am 16), .ref (am 17), .ref (am 18), .int (nI nc), .ref (am 20), .int (nI Q.2), .ref (am 22)])) := wd_uk d0 (wd_ne d0 c15 (by simp))
            have h_28 : (wd_up σ (am 15) (.inl (T 0, 121, .inl (upd (fm 15) (k + 1) (nI m))))) (am 6) = some (.inl (T 0, 121, .inl (fm 6))) := wd_uk c6 (fun z => absurd (di 6 15 rfl rfl z) (by decide))
            have h_29 : (wd_up σ (am 15) (.inl (T 0, 121, .inl (upd (fm 15) (k + 1) (nI m))))) (am 16) = some (.inl (T 1, 31, .inl (fm 16))) := wd_uk c16 (fun z => absurd (di 16 15 rfl rfl z) (by decide))
            have hM1 := hM.set hk (f := 10) (by decide) (nI m)
            refine lv_aload_n hx hb d_M_join_70 rfl (lv_at hl 0 rfl) ?_
            refine lv_aload_n hx hb d_M_join_71 rfl (lv_at hl 0 rfl) ?_
            refine wd_get C h kc_M h_27 15 (by decide) lk_M_53 rfl d_M_join_72 ?_
            refine lv_iload_n hx hb d_M_join_75 rfl (lv_at hl 2 rfl) ?_
            refine wd_ci h (wd_rV (rest := []) (st0 := [.int (nI m), .ref (am 15), .ref y]) C h kc_M h_27 k_M_belonging wm_M_belonging wz_M_belonging lk_M_112 (c_M_belonging_15 l D T A (wd_up σ (am 15) (.inl (T 0, 121, .inl (upd (fm 15) (k + 1) (nI m))))) y am _ n _ nc CR _ Q hM1 (nI m)) rfl rfl ⟨Nat.le_of_ble_eq_true rfl, Nat.le_of_ble_eq_true rfl⟩ rfl hl.1 rfl (Nat.le_of_ble_eq_true rfl) d_M_join_76 ⟨Nat.le_of_ble_eq_true rfl, Nat.le_of_ble_eq_true rfl⟩) (fun r_30 σ_31 H locs hp_32 h => ?_)
            obtain ⟨e_33, es_34⟩ := hp_32
            rw [es_34] at h
            subst e_33
            exact wd_iret C hr hlocks h (by unfold o_join; rw [show o_find (n, R, nc, CR, wg, Q).1 _ = some k from o_find_ok m8 hk]; have hle := cnt_le (R := R) (f := 10) (c := nI m) n; have hcz := c_25; rw [nI_z (by omega)] at hcz; simp only [eq_false c_12, eq_true (z_npos (hok k hk).2.2.2.2.2.2.2.1.1 c_13), eq_true c_19, eq_false hcz, nI_clamp (show m < 2 ^ 31 by omega), ↓reduceIte]; exact ⟨by rw [cnt_set (by rw [(z_npos (hok k hk).2.2.2.2.2.2.2.1.1 c_13)]; exact fun u => nI_ne0 (by omega) (by omega) u.symm) n hk, pk_us, if_pos rfl], hM1.rm⟩) (Nat.le_of_ble_eq_true rfl) (Nat.le_of_ble_eq_true rfl) d_M_join_79
          · refine lv_aload_n hx hb d_M_join_56 rfl (lv_at hl 0 rfl) ?_
            refine wd_get C h kc_M d0 16 (by decide) lk_M_56 rfl d_M_join_57 ?_
            refine lv_iload_n hx hb d_M_join_60 rfl (lv_at hl 2 rfl) ?_
            refine lv_iload_n hx hb d_M_join_61 rfl (lv_at hl 3 rfl) ?_
            refine wd_zast C h 1 rfl c16 (vp_in_nI (show m < 31 by omega) (by decide)) d_M_join_62 (fun H locs h => ?_)
            rw [nI_clamp (show m < 2 ^ 31 by omega)] at h
            have h : wd_C D T A s H locs (wd_up σ (am 16) (.inl (T 1, 31, .inl (upd (fm 16) m (vp_nar .boolean wt))))) := h
            have h_35 : (wd_up σ (am 16) (.inl (T 1, 31, .inl (upd (fm 16) m (vp_nar .boolean wt))))) (am 16) = some (.inl (T 1, 31, .inl (upd (fm 16) m (vp_nar .boolean wt)))) := wd_us _ _ _
            have h_36 : (wd_up σ (am 16) (.inl (T 1, 31, .inl (upd (fm 16) m (vp_nar .boolean wt))))) y = some (.inr (4, [.int (nI n), .ref (am 1), .ref (am 2), .ref (am 3), .ref (am 4), .ref (am 5), .ref (am 6), .ref (am 7), .ref (am 8), .ref (am 9), .ref (am 10), .ref (am 11), .ref (am 12), .ref (am 13), .ref (am 14), .ref (am 15), .ref (am 16), .ref (am 17), .ref (am 18), .int (nI nc), .ref (am 20), .int (nI Q.2), .ref (am 22)])) := wd_uk d0 (wd_ne d0 c16 (by simp))
            have h_37 : (wd_up σ (am 16) (.inl (T 1, 31, .inl (upd (fm 16) m (vp_nar .boolean wt))))) (am 6) = some (.inl (T 0, 121, .inl (fm 6))) := wd_uk c6 (fun z => absurd (di 6 16 rfl rfl z) (by decide))
            have h_38 : (wd_up σ (am 16) (.inl (T 1, 31, .inl (upd (fm 16) m (vp_nar .boolean wt))))) (am 15) = some (.inl (T 0, 121, .inl (fm 15))) := wd_uk c15 (fun z => absurd (di 15 16 rfl rfl z) (by decide))
            have hM0 := hM.wait (m := m) (vp_nar .boolean wt)
            refine lv_aload_n hx hb d_M_join_63 rfl (lv_at hl 0 rfl) ?_
            refine wd_get C h kc_M h_36 15 (by decide) lk_M_53 rfl d_M_join_64 ?_
            refine lv_iload_n hx hb d_M_join_67 rfl (lv_at hl 1 rfl) ?_
            refine lv_iload_n hx hb d_M_join_68 rfl (lv_at hl 2 rfl) ?_
            refine wd_iast C h 0 rfl h_38 (vp_in_nI (show k + 1 < 121 by omega) (by decide)) d_M_join_69 (fun H locs h => ?_)
            rw [nI_clamp (show k + 1 < 2 ^ 31 by omega)] at h
            have h : wd_C D T A s H locs (wd_up (wd_up σ (am 16) (.inl (T 1, 31, .inl (upd (fm 16) m (vp_nar .boolean wt))))) (am 15) (.inl (T 0, 121, .inl (upd (fm 15) (k + 1) (nI m))))) := h
            have h_39 : (wd_up (wd_up σ (am 16) (.inl (T 1, 31, .inl (upd (fm 16) m (vp_nar .boolean wt))))) (am 15) (.inl (T 0, 121, .inl (upd (fm 15) (k + 1) (nI m))))) (am 15) = some (.inl (T 0, 121, .inl (upd (fm 15) (k + 1) (nI m)))) := wd_us _ _ _
            have h_40 : (wd_up (wd_up σ (am 16) (.inl (T 1, 31, .inl (upd (fm 16) m (vp_nar .boolean wt))))) (am 15) (.inl (T 0, 121, .inl (upd (fm 15) (k + 1) (nI m))))) y = some (.inr (4, [.int (nI n), .ref (am 1), .ref (am 2), .ref (am 3), .ref (am 4), .ref (am 5), .ref (am 6), .ref (am 7), .ref (am 8), .ref (am 9), .ref (am 10), .ref (am 11), .ref (am 12), .ref (am 13), .ref (am 14), .ref (am 15), .ref (am 16), .ref (am 17), .ref (am 18), .int (nI nc), .ref (am 20), .int (nI Q.2), .ref (am 22)])) := wd_uk h_36 (wd_ne h_36 h_38 (by simp))
            have h_41 : (wd_up (wd_up σ (am 16) (.inl (T 1, 31, .inl (upd (fm 16) m (vp_nar .boolean wt))))) (am 15) (.inl (T 0, 121, .inl (upd (fm 15) (k + 1) (nI m))))) (am 6) = some (.inl (T 0, 121, .inl (fm 6))) := wd_uk h_37 (fun z => absurd (di 6 15 rfl rfl z) (by decide))
            have h_42 : (wd_up (wd_up σ (am 16) (.inl (T 1, 31, .inl (upd (fm 16) m (vp_nar .boolean wt))))) (am 15) (.inl (T 0, 121, .inl (upd (fm 15) (k + 1) (nI m))))) (am 16) = some (.inl (T 1, 31, .inl (upd (fm 16) m (vp_nar .boolean wt)))) := wd_uk h_35 (fun z => absurd (di 16 15 rfl rfl z) (by decide))
            have hM1 := hM0.set hk (f := 10) (by decide) (nI m)
            refine lv_aload_n hx hb d_M_join_70 rfl (lv_at hl 0 rfl) ?_
            refine lv_aload_n hx hb d_M_join_71 rfl (lv_at hl 0 rfl) ?_
            refine wd_get C h kc_M h_40 15 (by decide) lk_M_53 rfl d_M_join_72 ?_
            refine lv_iload_n hx hb d_M_join_75 rfl (lv_at hl 2 rfl) ?_
            refine wd_ci h (wd_rV (rest := []) (st0 := [.int (nI m), .ref (am 15), .ref y]) C h kc_M h_40 k_M_belonging wm_M_belonging wz_M_belonging lk_M_112 (c_M_belonging_15 l D T A (wd_up (wd_up σ (am 16) (.inl (T 1, 31, .inl (upd (fm 16) m (vp_nar .boolean wt))))) (am 15) (.inl (T 0, 121, .inl (upd (fm 15) (k + 1) (nI m))))) y am _ n _ nc CR _ Q hM1 (nI m)) rfl rfl ⟨Nat.le_of_ble_eq_true rfl, Nat.le_of_ble_eq_true rfl⟩ rfl hl.1 rfl (Nat.le_of_ble_eq_true rfl) d_M_join_76 ⟨Nat.le_of_ble_eq_true rfl, Nat.le_of_ble_eq_true rfl⟩) (fun r_43 σ_44 H locs hp_45 h => ?_)
            obtain ⟨e_46, es_47⟩ := hp_45
            rw [es_47] at h
            subst e_46
            exact wd_iret C hr hlocks h (by unfold o_join; rw [show o_find (n, R, nc, CR, wg, Q).1 _ = some k from o_find_ok m8 hk]; have hle := cnt_le (R := R) (f := 10) (c := nI m) n; have hcz := c_25; rw [nI_z (by omega)] at hcz; simp only [eq_false c_12, eq_true (z_npos (hok k hk).2.2.2.2.2.2.2.1.1 c_13), eq_true c_19, eq_true hcz, nI_clamp (show m < 2 ^ 31 by omega), ↓reduceIte]; exact ⟨by rw [cnt_set (by rw [(z_npos (hok k hk).2.2.2.2.2.2.2.1.1 c_13)]; exact fun u => nI_ne0 (by omega) (by omega) u.symm) n hk, pk_us, if_pos rfl], hM1.rm⟩) (Nat.le_of_ble_eq_true rfl) (Nat.le_of_ble_eq_true rfl) d_M_join_79
        · refine lv_bipush (v := (-103)) hx hb d_M_join_41 (by decide) ?_
          exact wd_iret C hr hlocks h (by unfold o_join; rw [show o_find (n, R, nc, CR, wg, Q).1 _ = some k from o_find_ok m8 hk]; simp only [eq_false c_12, eq_true (z_npos (hok k hk).2.2.2.2.2.2.2.1.1 c_13), eq_false c_19, ↓reduceIte]; exact ⟨trivial, hM.rm⟩) (Nat.le_of_ble_eq_true rfl) (Nat.le_of_ble_eq_true rfl) d_M_join_43
    · refine lv_bipush (v := (-102)) hx hb d_M_join_21 (by decide) ?_
      exact wd_iret C hr hlocks h (by unfold o_join; rw [show o_find (n, R, nc, CR, wg, Q).1 _ = some k from o_find_ok m8 hk]; simp only [eq_true c_12, ↓reduceIte]; exact ⟨trivial, hM.rm⟩) (Nat.le_of_ble_eq_true rfl) (Nat.le_of_ble_eq_true rfl) d_M_join_23
  · refine lv_bipush (v := (-101)) hx hb d_M_join_8 (by decide) ?_
    exact wd_iret C hr hlocks h (by unfold o_join; rw [show o_find (n, R, nc, CR, wg, Q).1 i = none from o_find_no c_6]; exact ⟨rfl, hM.rm⟩) (Nat.le_of_ble_eq_true rfl) (Nat.le_of_ble_eq_true rfl) d_M_join_10

set_option maxHeartbeats 4000000 in
set_option maxRecDepth 20000 in
theorem c_M_mustWait (l : Launch) (D : va_G) (T : Nat → ClassId) (A : Nat → Prop) (σ : wd_S) (y : Nat) (am : Nat → Nat) (fm : Nat → Nat → Int32) (n : Nat) (R : Nat → Nat → Int32) (nc : Nat) (CR : Nat → Nat → Int32) (wg : Nat → Int32) (Q : pq) (hM : MB T σ y am fm n R nc CR wg Q) (hok : ∀ k, k < n → okr (R k)) (k : Nat) (hk : k < n) : Met l y_M_mustWait (Cond.code y_M_mustWait b_M_mustWait 5 (some .boolean) :: wd_tb) { frames := 1, cells := 0, slots := 0, locals := 21 } (va_Pc [.ref y, .int (nI (k + 1))] (wd_Pre D T A σ)) (va_Qi (fun r1 σ1 => r1 = o_mw n R wg (R k 10) ∧ σ1 = σ) (wd_B D A) A) 0 0 A := by
  refine wd_ofW (by decide) (Nat.le_of_ble_eq_true rfl) ?_
  intro p e s m below meth c0 ls C hr hlocks hname h hl
  have hl : lv_has ls 5 [(0, .ref y), (1, .int (nI (k + 1)))] := hl
  have hx := C.1
  have hb := C.2.1
  obtain ⟨⟨d0, dc, di⟩, m1, m2, m3, m4, m5, m6, m7, m8, m9, m10⟩ := id hM
  have c6 : σ (am 6) = some (.inl (T 0, 121, .inl (fm 6))) := dc 6 rfl
  have c15 : σ (am 15) = some (.inl (T 0, 121, .inl (fm 15))) := dc 15 rfl
  have c16 : σ (am 16) = some (.inl (T 1, 31, .inl (fm 16))) := dc 16 rfl
  refine lv_aload_n hx hb d_M_mustWait_0 rfl (lv_at hl 0 rfl) ?_
  refine wd_get C h kc_M d0 15 (by decide) lk_M_53 rfl d_M_mustWait_1 ?_
  refine lv_iload_n hx hb d_M_mustWait_4 rfl (lv_at hl 1 rfl) ?_
  refine wd_iald C h 0 rfl c15 (vp_in_nI (show k + 1 < 121 by omega) (by decide)) d_M_mustWait_5 ?_
  rw [nI_clamp (show k + 1 < 2 ^ 31 by omega)]
  rw [show fm 15 (k + 1) = R k 10 from m1 k hk 10 (by decide)]
  refine lv_istore_n (lv' := [(2, .int (R k 10)), (0, .ref y), (1, .int (nI (k + 1)))]) hx hb d_M_mustWait_6 rfl hl (by decide) rfl (fun ls hl => ?_)
  refine lv_iconst (v := 1) hx hb d_M_mustWait_7 (by decide) ?_
  refine lv_istore_n (lv' := [(3, .int 1), (2, .int (R k 10)), (0, .ref y), (1, .int (nI (k + 1)))]) hx hb d_M_mustWait_8 rfl hl (by decide) rfl (fun ls hl => ?_)
  refine lv_iconst (v := 1) hx hb d_M_mustWait_9 (by decide) ?_
  refine lv_istore (lv' := [(4, .int 1), (3, .int 1), (2, .int (R k 10)), (0, .ref y), (1, .int (nI (k + 1)))]) hx hb d_M_mustWait_10 hl (by decide) rfl (fun ls hl => ?_)
  generalize hH : s.heap = H at h ⊢
  generalize ([] : List Loc) = locs at h ⊢
  clear hH
  have hl2 : ∃ (j : Nat), (j ≤ n) ∧ lv_has ls 5 [(4, .int (nI (j + 1))), (3, .int (aw R (R k 10) j)), (2, .int (R k 10)), (1, .int (nI (k + 1))), (0, .ref y)] := ⟨0, Nat.zero_le _, lv_sub hl [0, 1, 2, 4, 3] rfl⟩
  clear hl
  obtain ⟨j, p0, hl⟩ := hl2
  obtain ⟨z, hz⟩ : ∃ z : Nat, n < j + z := ⟨n + 1, by omega⟩
  induction z generalizing j ls H locs with
  | zero => omega
  | succ z ih =>
    refine lv_iload hx hb d_M_mustWait_12 (lv_at hl 0 rfl) ?_
    refine lv_aload_n hx hb d_M_mustWait_14 rfl (lv_at hl 4 rfl) ?_
    refine wd_get C h kc_M d0 0 (by decide) lk_M_71 rfl d_M_mustWait_15 ?_
    refine lv_icmp_gt (tgt := 68) hx hb d_M_mustWait_18 (by decide) (fun c_1 => ?_) (fun c_1 => ?_)
    · refine lv_iload_n hx hb d_M_mustWait_68 rfl (lv_at hl 2 rfl) ?_
      refine lv_if_le (tgt := 89) hx hb d_M_mustWait_69 (by decide) (fun c_2 => ?_) (fun c_2 => ?_)
      · refine lv_iconst (v := 0) hx hb d_M_mustWait_89 (by decide) ?_
        exact wd_zret C hr hlocks h (by decide) (⟨by have hjn := gt_x m8 p0 c_1; subst hjn; simp [o_mw, eq_true ((xw_130 (hok k hk).2.2.2.2.2.2.2.1).mpr c_2)], rfl⟩) (Nat.le_of_ble_eq_true rfl) (Nat.le_of_ble_eq_true rfl) d_M_mustWait_90
      · refine lv_aload_n hx hb d_M_mustWait_72 rfl (lv_at hl 4 rfl) ?_
        refine wd_get C h kc_M d0 16 (by decide) lk_M_56 rfl d_M_mustWait_73 ?_
        refine lv_iload_n hx hb d_M_mustWait_76 rfl (lv_at hl 2 rfl) ?_
        refine wd_zald C h 1 rfl c16 (by have h9 := (hok k hk).2.2.2.2.2.2.2.1; rw [vp_in_iff]; omega) d_M_mustWait_77 ?_
        rw [show (R k 10).toNatClampNeg = (R k 10).toNatClampNeg from rfl]
        rw [m6 (R k 10).toNatClampNeg (by have h9 := (hok k hk).2.2.2.2.2.2.2.1; show (R k 10).toInt.toNat ≤ 30; omega)]
        refine lv_if_eq (tgt := 89) hx hb d_M_mustWait_78 (by decide) (fun c_3 => ?_) (fun c_3 => ?_)
        · refine lv_iconst (v := 0) hx hb d_M_mustWait_89 (by decide) ?_
          exact wd_zret C hr hlocks h (by decide) (⟨by have hjn := gt_x m8 p0 c_1; subst hjn; simp [o_mw, eq_false (fun u => c_2 ((xw_130 (hok k hk).2.2.2.2.2.2.2.1).mp u)), eq_true c_3], rfl⟩) (Nat.le_of_ble_eq_true rfl) (Nat.le_of_ble_eq_true rfl) d_M_mustWait_90
        · refine lv_iload_n hx hb d_M_mustWait_81 rfl (lv_at hl 1 rfl) ?_
          refine lv_if_ne (tgt := 89) hx hb d_M_mustWait_82 (by decide) (fun c_4 => ?_) (fun c_4 => ?_)
          · refine lv_iconst (v := 0) hx hb d_M_mustWait_89 (by decide) ?_
            exact wd_zret C hr hlocks h (by decide) (⟨by have hjn := gt_x m8 p0 c_1; subst hjn; simp [o_mw, eq_false (fun u => c_2 ((xw_130 (hok k hk).2.2.2.2.2.2.2.1).mp u)), eq_false c_3, aw_any.symm.trans (eq_false c_4)], rfl⟩) (Nat.le_of_ble_eq_true rfl) (Nat.le_of_ble_eq_true rfl) d_M_mustWait_90
          · refine lv_iconst (v := 1) hx hb d_M_mustWait_85 (by decide) ?_
            refine lv_goto (tgt := 90) hx hb d_M_mustWait_86 (by decide) ?_
            exact wd_zret C hr hlocks h (by decide) (⟨by have hjn := gt_x m8 p0 c_1; subst hjn; simp [o_mw, eq_false (fun u => c_2 ((xw_130 (hok k hk).2.2.2.2.2.2.2.1).mp u)), eq_false c_3, aw_any.symm.trans (eq_true c_4)], rfl⟩) (Nat.le_of_ble_eq_true rfl) (Nat.le_of_ble_eq_true rfl) d_M_mustWait_90
    · have hlt := lt_x m8 p0 c_1
      refine lv_iload_n hx hb d_M_mustWait_21 rfl (lv_at hl 1 rfl) ?_
      refine lv_if_eq (tgt := 60) hx hb d_M_mustWait_22 (by decide) (fun c_5 => ?_) (fun c_5 => ?_)
      · refine lv_iconst (v := 0) hx hb d_M_mustWait_60 (by decide) ?_
        refine lv_istore_n (lv' := [(3, .int 0), (4, .int (nI (j + 1))), (2, .int (R k 10)), (1, .int (nI (k + 1))), (0, .ref y)]) hx hb d_M_mustWait_61 rfl hl (by decide) rfl (fun ls hl => ?_)
        refine lv_iinc (v := ((nI (j + 1)) + 1)) (lv' := [(4, .int ((nI (j + 1)) + 1)), (3, .int 0), (2, .int (R k 10)), (1, .int (nI (k + 1))), (0, .ref y)]) hx hb d_M_mustWait_62 hl (k := 1) rfl (by first | rfl | decide) (by decide) rfl (fun ls hl => ?_)
        refine lv_goto (tgt := 12) hx hb d_M_mustWait_65 (by decide) ?_
        have hl3 : lv_has ls 5 [(4, .int (nI (j + 1 + 1))), (3, .int (aw R (R k 10) (j + 1))), (2, .int (R k 10)), (1, .int (nI (k + 1))), (0, .ref y)] := by
          rw [← nI_1 (j + 1), aw_0 c_5]
          exact lv_sub hl [0, 1, 2, 3, 4] rfl
        exact ih (H := _) (locs := _) (ls := ls) (j := j + 1) h hlt hl3 (by omega)
      · refine lv_aload_n hx hb d_M_mustWait_25 rfl (lv_at hl 4 rfl) ?_
        refine wd_get C h kc_M d0 15 (by decide) lk_M_53 rfl d_M_mustWait_26 ?_
        refine lv_iload hx hb d_M_mustWait_29 (lv_at hl 0 rfl) ?_
        refine wd_iald C h 0 rfl c15 (vp_in_nI (show j + 1 < 121 by omega) (by decide)) d_M_mustWait_31 ?_
        rw [nI_clamp (show j + 1 < 2 ^ 31 by omega)]
        rw [show fm 15 (j + 1) = R j 10 from m1 j hlt 10 (by decide)]
        refine lv_iload_n hx hb d_M_mustWait_32 rfl (lv_at hl 2 rfl) ?_
        refine lv_icmp_ne (tgt := 56) hx hb d_M_mustWait_33 (by decide) (fun c_6 => ?_) (fun c_6 => ?_)
        · refine lv_iconst (v := 1) hx hb d_M_mustWait_56 (by decide) ?_
          refine lv_goto (tgt := 61) hx hb d_M_mustWait_57 (by decide) ?_
          refine lv_istore_n (lv' := [(3, .int 1), (4, .int (nI (j + 1))), (2, .int (R k 10)), (1, .int (nI (k + 1))), (0, .ref y)]) hx hb d_M_mustWait_61 rfl hl (by decide) rfl (fun ls hl => ?_)
          refine lv_iinc (v := ((nI (j + 1)) + 1)) (lv' := [(4, .int ((nI (j + 1)) + 1)), (3, .int 1), (2, .int (R k 10)), (1, .int (nI (k + 1))), (0, .ref y)]) hx hb d_M_mustWait_62 hl (k := 1) rfl (by first | rfl | decide) (by decide) rfl (fun ls hl => ?_)
          refine lv_goto (tgt := 12) hx hb d_M_mustWait_65 (by decide) ?_
          have hl3 : lv_has ls 5 [(4, .int (nI (j + 1 + 1))), (3, .int (aw R (R k 10) (j + 1))), (2, .int (R k 10)), (1, .int (nI (k + 1))), (0, .ref y)] := by
            rw [← nI_1 (j + 1), aw_1 c_5 (by simp [eq_false c_6])]
            exact lv_sub hl [0, 1, 2, 3, 4] rfl
          exact ih (H := _) (locs := _) (ls := ls) (j := j + 1) h hlt hl3 (by omega)
        · refine lv_aload_n hx hb d_M_mustWait_36 rfl (lv_at hl 4 rfl) ?_
          refine wd_get C h kc_M d0 6 (by decide) lk_M_25 rfl d_M_mustWait_37 ?_
          refine lv_iload hx hb d_M_mustWait_40 (lv_at hl 0 rfl) ?_
          refine wd_iald C h 0 rfl c6 (vp_in_nI (show j + 1 < 121 by omega) (by decide)) d_M_mustWait_42 ?_
          rw [nI_clamp (show j + 1 < 2 ^ 31 by omega)]
          rw [show fm 6 (j + 1) = R j 5 from m1 j hlt 5 (by decide)]
          refine lv_iconst (v := 4) hx hb d_M_mustWait_43 (by decide) ?_
          refine lv_icmp_eq (tgt := 56) hx hb d_M_mustWait_44 (by decide) (fun c_7 => ?_) (fun c_7 => ?_)
          · refine lv_iconst (v := 1) hx hb d_M_mustWait_56 (by decide) ?_
            refine lv_goto (tgt := 61) hx hb d_M_mustWait_57 (by decide) ?_
            refine lv_istore_n (lv' := [(3, .int 1), (4, .int (nI (j + 1))), (2, .int (R k 10)), (1, .int (nI (k + 1))), (0, .ref y)]) hx hb d_M_mustWait_61 rfl hl (by decide) rfl (fun ls hl => ?_)
            refine lv_iinc (v := ((nI (j + 1)) + 1)) (lv' := [(4, .int ((nI (j + 1)) + 1)), (3, .int 1), (2, .int (R k 10)), (1, .int (nI (k + 1))), (0, .ref y)]) hx hb d_M_mustWait_62 hl (k := 1) rfl (by first | rfl | decide) (by decide) rfl (fun ls hl => ?_)
            refine lv_goto (tgt := 12) hx hb d_M_mustWait_65 (by decide) ?_
            have hl3 : lv_has ls 5 [(4, .int (nI (j + 1 + 1))), (3, .int (aw R (R k 10) (j + 1))), (2, .int (R k 10)), (1, .int (nI (k + 1))), (0, .ref y)] := by
              rw [← nI_1 (j + 1), aw_1 c_5 (by simp [eq_true c_6, eq_true c_7])]
              exact lv_sub hl [0, 1, 2, 3, 4] rfl
            exact ih (H := _) (locs := _) (ls := ls) (j := j + 1) h hlt hl3 (by omega)
          · refine lv_aload_n hx hb d_M_mustWait_47 rfl (lv_at hl 4 rfl) ?_
            refine lv_iload hx hb d_M_mustWait_48 (lv_at hl 0 rfl) ?_
            refine wd_ci h (wd_rV (rest := []) (st0 := [.int (nI (j + 1)), .ref y]) C h kc_M d0 k_M_isOver wm_M_isOver wz_M_isOver lk_M_100 (c_M_isOver l D T A σ y am fm n R nc CR wg Q hM j hlt ) rfl rfl ⟨Nat.le_of_ble_eq_true rfl, Nat.le_of_ble_eq_true rfl⟩ rfl hl.1 rfl (Nat.le_of_ble_eq_true rfl) d_M_mustWait_50 ⟨Nat.le_of_ble_eq_true rfl, Nat.le_of_ble_eq_true rfl⟩) (fun r_8 σ_9 H locs hp_10 h => ?_)
            obtain ⟨e_11, es_12⟩ := hp_10
            rw [es_12] at h
            subst e_11
            refine lv_if_eq (tgt := 60) hx hb d_M_mustWait_53 (by decide) (fun c_13 => ?_) (fun c_13 => ?_)
            · refine lv_iconst (v := 0) hx hb d_M_mustWait_60 (by decide) ?_
              refine lv_istore_n (lv' := [(3, .int 0), (4, .int (nI (j + 1))), (2, .int (R k 10)), (1, .int (nI (k + 1))), (0, .ref y)]) hx hb d_M_mustWait_61 rfl hl (by decide) rfl (fun ls hl => ?_)
              refine lv_iinc (v := ((nI (j + 1)) + 1)) (lv' := [(4, .int ((nI (j + 1)) + 1)), (3, .int 0), (2, .int (R k 10)), (1, .int (nI (k + 1))), (0, .ref y)]) hx hb d_M_mustWait_62 hl (k := 1) rfl (by first | rfl | decide) (by decide) rfl (fun ls hl => ?_)
              refine lv_goto (tgt := 12) hx hb d_M_mustWait_65 (by decide) ?_
              have hl3 : lv_has ls 5 [(4, .int (nI (j + 1 + 1))), (3, .int (aw R (R k 10) (j + 1))), (2, .int (R k 10)), (1, .int (nI (k + 1))), (0, .ref y)] := by
                rw [← nI_1 (j + 1), aw_2 c_6 c_7 c_13]
                exact lv_sub hl [0, 1, 2, 3, 4] rfl
              exact ih (H := _) (locs := _) (ls := ls) (j := j + 1) h hlt hl3 (by omega)
            · refine lv_iconst (v := 1) hx hb d_M_mustWait_56 (by decide) ?_
              refine lv_goto (tgt := 61) hx hb d_M_mustWait_57 (by decide) ?_
              refine lv_istore_n (lv' := [(3, .int 1), (4, .int (nI (j + 1))), (2, .int (R k 10)), (1, .int (nI (k + 1))), (0, .ref y)]) hx hb d_M_mustWait_61 rfl hl (by decide) rfl (fun ls hl => ?_)
              refine lv_iinc (v := ((nI (j + 1)) + 1)) (lv' := [(4, .int ((nI (j + 1)) + 1)), (3, .int 1), (2, .int (R k 10)), (1, .int (nI (k + 1))), (0, .ref y)]) hx hb d_M_mustWait_62 hl (k := 1) rfl (by first | rfl | decide) (by decide) rfl (fun ls hl => ?_)
              refine lv_goto (tgt := 12) hx hb d_M_mustWait_65 (by decide) ?_
              have hl3 : lv_has ls 5 [(4, .int (nI (j + 1 + 1))), (3, .int (aw R (R k 10) (j + 1))), (2, .int (R k 10)), (1, .int (nI (k + 1))), (0, .ref y)] := by
                rw [← nI_1 (j + 1), aw_1 c_5 (by simp [eq_true c_6, eq_false c_7, eq_false c_13])]
                exact lv_sub hl [0, 1, 2, 3, 4] rfl
              exact ih (H := _) (locs := _) (ls := ls) (j := j + 1) h hlt hl3 (by omega)

set_option maxHeartbeats 4000000 in
set_option maxRecDepth 20000 in
theorem c_M_event (l : Launch) (D : va_G) (T : Nat → ClassId) (A : Nat → Prop) (σ : wd_S) (y : Nat) (am : Nat → Nat) (fm : Nat → Nat → Int32) (n : Nat) (R : Nat → Nat → Int32) (nc : Nat) (CR : Nat → Nat → Int32) (wg : Nat → Int32) (Q : pq) (hM : MB T σ y am fm n R nc CR wg Q) (hok : ∀ k, k < n → okr (R k)) (i ev : Int32) : Met l y_M_event (Cond.code y_M_event b_M_event 4 (some .int) :: wd_tb) { frames := 2, cells := 0, slots := 0, locals := 45 } (va_Pc [.ref y, .int i, .int ev] (wd_Pre D T A σ)) (va_Qi (fun r1 σ1 => r1 = (o_upd (n, R, nc, CR, wg, Q) i (f_evt (o_mw n R wg) ev)).1 ∧ RM T σ1 y (o_upd (n, R, nc, CR, wg, Q) i (f_evt (o_mw n R wg) ev)).2) (wd_B D A) A) 0 0 A := by
  refine wd_ofW (by decide) (Nat.le_of_ble_eq_true rfl) ?_
  intro p e s m below meth c0 ls C hr hlocks hname h hl
  have hl : lv_has ls 4 [(0, .ref y), (1, .int i), (2, .int ev)] := hl
  have hx := C.1
  have hb := C.2.1
  obtain ⟨⟨d0, dc, di⟩, m1, m2, m3, m4, m5, m6, m7, m8, m9, m10⟩ := id hM
  have c6 : σ (am 6) = some (.inl (T 0, 121, .inl (fm 6))) := dc 6 rfl
  have c7 : σ (am 7) = some (.inl (T 1, 121, .inl (fm 7))) := dc 7 rfl
  have c8 : σ (am 8) = some (.inl (T 0, 121, .inl (fm 8))) := dc 8 rfl
  have c11 : σ (am 11) = some (.inl (T 0, 121, .inl (fm 11))) := dc 11 rfl
  have c12 : σ (am 12) = some (.inl (T 0, 121, .inl (fm 12))) := dc 12 rfl
  refine lv_aload_n hx hb d_M_event_0 rfl (lv_at hl 0 rfl) ?_
  refine lv_iload_n hx hb d_M_event_1 rfl (lv_at hl 1 rfl) ?_
  refine wd_ci h (wd_rV (rest := []) (st0 := [.int i, .ref y]) C h kc_M d0 k_M_isItem wm_M_isItem wz_M_isItem lk_M_92 (c_M_isItem l D T A σ y am fm n R nc CR wg Q hM i) rfl rfl ⟨Nat.le_of_ble_eq_true rfl, Nat.le_of_ble_eq_true rfl⟩ rfl hl.1 rfl (Nat.le_of_ble_eq_true rfl) d_M_event_2 ⟨Nat.le_of_ble_eq_true rfl, Nat.le_of_ble_eq_true rfl⟩) (fun r_1 σ_2 H locs hp_3 h => ?_)
  obtain ⟨e_4, es_5⟩ := hp_3
  rw [es_5] at h
  subst e_4
  refine lv_if_ne (tgt := 11) hx hb d_M_event_5 (by decide) (fun c_6 => ?_) (fun c_6 => ?_)
  · obtain ⟨k, hk, -, rfl⟩ := o_in m8 c_6
    refine lv_iload_n hx hb d_M_event_11 rfl (lv_at hl 2 rfl) ?_
    refine lv_iconst (v := 0) hx hb d_M_event_12 (by decide) ?_
    refine lv_bipush (v := 10) hx hb d_M_event_13 (by decide) ?_
    refine wd_ci h (wd_rS (rest := []) (st0 := [.int 10, .int 0, .int ev]) C h k_M_within wt_M_within lk_M_75 (c_M_within l D T A σ ev 0 10) rfl rfl ⟨Nat.le_of_ble_eq_true rfl, Nat.le_of_ble_eq_true rfl⟩ rfl hl.1 rfl (Nat.le_of_ble_eq_true rfl) d_M_event_15 ⟨Nat.le_of_ble_eq_true rfl, Nat.le_of_ble_eq_true rfl⟩) (fun r_7 σ_8 H locs hp_9 h => ?_)
    obtain ⟨e_10, es_11⟩ := hp_9
    rw [es_11] at h
    subst e_10
    refine lv_if_ne (tgt := 24) hx hb d_M_event_18 (by decide) (fun c_12 => ?_) (fun c_12 => ?_)
    · refine lv_aload_n hx hb d_M_event_24 rfl (lv_at hl 0 rfl) ?_
      refine lv_iload_n hx hb d_M_event_25 rfl (lv_at hl 1 rfl) ?_
      refine wd_ci h (wd_rV (rest := []) (st0 := [.int (nI (k + 1)), .ref y]) C h kc_M d0 k_M_isOver wm_M_isOver wz_M_isOver lk_M_100 (c_M_isOver l D T A σ y am fm n R nc CR wg Q hM k hk ) rfl rfl ⟨Nat.le_of_ble_eq_true rfl, Nat.le_of_ble_eq_true rfl⟩ rfl hl.1 rfl (Nat.le_of_ble_eq_true rfl) d_M_event_26 ⟨Nat.le_of_ble_eq_true rfl, Nat.le_of_ble_eq_true rfl⟩) (fun r_13 σ_14 H locs hp_15 h => ?_)
      obtain ⟨e_16, es_17⟩ := hp_15
      rw [es_17] at h
      subst e_16
      refine lv_if_eq (tgt := 45) hx hb d_M_event_29 (by decide) (fun c_18 => ?_) (fun c_18 => ?_)
      · refine lv_aload_n hx hb d_M_event_45 rfl (lv_at hl 0 rfl) ?_
        refine wd_get C h kc_M d0 6 (by decide) lk_M_25 rfl d_M_event_46 ?_
        refine lv_iload_n hx hb d_M_event_49 rfl (lv_at hl 1 rfl) ?_
        refine wd_iald C h 0 rfl c6 (vp_in_nI (show k + 1 < 121 by omega) (by decide)) d_M_event_50 ?_
        rw [nI_clamp (show k + 1 < 2 ^ 31 by omega)]
        rw [show fm 6 (k + 1) = R k 5 from m1 k hk 5 (by decide)]
        refine lv_iload_n hx hb d_M_event_51 rfl (lv_at hl 2 rfl) ?_
        refine wd_ci h (wd_rS (rest := []) (st0 := [.int ev, .int (R k 5)]) C h k_M_ledTo wt_M_ledTo lk_M_106 (c_M_ledTo l D T A σ (R k 5) ev) rfl rfl ⟨Nat.le_of_ble_eq_true rfl, Nat.le_of_ble_eq_true rfl⟩ rfl hl.1 rfl (Nat.le_of_ble_eq_true rfl) d_M_event_52 ⟨Nat.le_of_ble_eq_true rfl, Nat.le_of_ble_eq_true rfl⟩) (fun r_19 σ_20 H locs hp_21 h => ?_)
        obtain ⟨e_22, es_23⟩ := hp_21
        rw [es_23] at h
        subst e_22
        refine lv_istore_n (lv' := [(3, .int (yd (R k 5) ev)), (0, .ref y), (1, .int (nI (k + 1))), (2, .int ev)]) hx hb d_M_event_55 rfl hl (by decide) rfl (fun ls hl => ?_)
        refine lv_iload_n hx hb d_M_event_56 rfl (lv_at hl 0 rfl) ?_
        refine lv_iconst (v := (-1)) hx hb d_M_event_57 (by decide) ?_
        refine lv_icmp_eq (tgt := 97) hx hb d_M_event_58 (by decide) (fun c_24 => ?_) (fun c_24 => ?_)
        · refine lv_bipush (v := (-103)) hx hb d_M_event_97 (by decide) ?_
          exact wd_iret C hr hlocks h (by have hxb := xb_a (r := R k) (hok k hk).2.2.2.2.1.1 c_24; rw [o_upd_some (S := (n, R, nc, CR, wg, Q)) (o_find_ok m8 hk), show f_evt (o_mw n R wg) ev (R k) = ((-103), (R k)) from by (simp [f_evt, eq_false c_12, eq_true c_18, eq_true c_24, hxb]; try simp [c_18, c_24])]; exact ⟨rfl, by rw [va_up_id]; exact hM.rm⟩) (Nat.le_of_ble_eq_true rfl) (Nat.le_of_ble_eq_true rfl) d_M_event_99
        · refine lv_aload_n hx hb d_M_event_61 rfl (lv_at hl 1 rfl) ?_
          refine wd_get C h kc_M d0 7 (by decide) lk_M_28 rfl d_M_event_62 ?_
          refine lv_iload_n hx hb d_M_event_65 rfl (lv_at hl 2 rfl) ?_
          refine wd_zald C h 1 rfl c7 (vp_in_nI (show k + 1 < 121 by omega) (by decide)) d_M_event_66 ?_
          rw [nI_clamp (show k + 1 < 2 ^ 31 by omega)]
          rw [show fm 7 (k + 1) = R k 6 from m1 k hk 6 (by decide)]
          refine lv_if_eq (tgt := 82) hx hb d_M_event_67 (by decide) (fun c_25 => ?_) (fun c_25 => ?_)
          · refine lv_iload_n hx hb d_M_event_82 rfl (lv_at hl 3 rfl) ?_
            refine lv_bipush (v := 8) hx hb d_M_event_83 (by decide) ?_
            refine lv_icmp_ne (tgt := 100) hx hb d_M_event_85 (by decide) (fun c_26 => ?_) (fun c_26 => ?_)
            · refine lv_iload_n hx hb d_M_event_100 rfl (lv_at hl 3 rfl) ?_
              refine lv_iconst (v := 2) hx hb d_M_event_101 (by decide) ?_
              refine lv_icmp_ne (tgt := 126) hx hb d_M_event_102 (by decide) (fun c_27 => ?_) (fun c_27 => ?_)
              · refine lv_iload_n hx hb d_M_event_126 rfl (lv_at hl 3 rfl) ?_
                refine lv_iconst (v := 4) hx hb d_M_event_127 (by decide) ?_
                refine lv_icmp_ne (tgt := 152) hx hb d_M_event_128 (by decide) (fun c_28 => ?_) (fun c_28 => ?_)
                · refine lv_aload_n hx hb d_M_event_152 rfl (lv_at hl 1 rfl) ?_
                  refine wd_get C h kc_M d0 7 (by decide) lk_M_28 rfl d_M_event_153 ?_
                  refine lv_iload_n hx hb d_M_event_156 rfl (lv_at hl 2 rfl) ?_
                  refine lv_iload_n hx hb d_M_event_157 rfl (lv_at hl 3 rfl) ?_
                  refine lv_bipush (v := 7) hx hb d_M_event_158 (by decide) ?_
                  refine lv_icmp_eq (tgt := 178) hx hb d_M_event_160 (by decide) (fun c_29 => ?_) (fun c_29 => ?_)
                  · refine lv_iconst (v := 1) hx hb d_M_event_178 (by decide) ?_
                    refine lv_goto (tgt := 183) hx hb d_M_event_179 (by decide) ?_
                    refine wd_zast C h 1 rfl c7 (vp_in_nI (show k + 1 < 121 by omega) (by decide)) d_M_event_183 (fun H locs h => ?_)
                    rw [show vp_nar .boolean 1 = 1 from rfl] at h
                    rw [nI_clamp (show k + 1 < 2 ^ 31 by omega)] at h
                    have h : wd_C D T A s H locs (wd_up σ (am 7) (.inl (T 1, 121, .inl (upd (fm 7) (k + 1) 1)))) := h
                    have h_30 : (wd_up σ (am 7) (.inl (T 1, 121, .inl (upd (fm 7) (k + 1) 1)))) (am 7) = some (.inl (T 1, 121, .inl (upd (fm 7) (k + 1) 1))) := wd_us _ _ _
                    have h_31 : (wd_up σ (am 7) (.inl (T 1, 121, .inl (upd (fm 7) (k + 1) 1)))) y = some (.inr (4, [.int (nI n), .ref (am 1), .ref (am 2), .ref (am 3), .ref (am 4), .ref (am 5), .ref (am 6), .ref (am 7), .ref (am 8), .ref (am 9), .ref (am 10), .ref (am 11), .ref (am 12), .ref (am 13), .ref (am 14), .ref (am 15), .ref (am 16), .ref (am 17), .ref (am 18), .int (nI nc), .ref (am 20), .int (nI Q.2), .ref (am 22)])) := wd_uk d0 (wd_ne d0 c7 (by simp))
                    have h_32 : (wd_up σ (am 7) (.inl (T 1, 121, .inl (upd (fm 7) (k + 1) 1)))) (am 6) = some (.inl (T 0, 121, .inl (fm 6))) := wd_uk c6 (fun z => absurd (di 6 7 rfl rfl z) (by decide))
                    have h_33 : (wd_up σ (am 7) (.inl (T 1, 121, .inl (upd (fm 7) (k + 1) 1)))) (am 8) = some (.inl (T 0, 121, .inl (fm 8))) := wd_uk c8 (fun z => absurd (di 8 7 rfl rfl z) (by decide))
                    have h_34 : (wd_up σ (am 7) (.inl (T 1, 121, .inl (upd (fm 7) (k + 1) 1)))) (am 11) = some (.inl (T 0, 121, .inl (fm 11))) := wd_uk c11 (fun z => absurd (di 11 7 rfl rfl z) (by decide))
                    have h_35 : (wd_up σ (am 7) (.inl (T 1, 121, .inl (upd (fm 7) (k + 1) 1)))) (am 12) = some (.inl (T 0, 121, .inl (fm 12))) := wd_uk c12 (fun z => absurd (di 12 7 rfl rfl z) (by decide))
                    refine lv_aload_n hx hb d_M_event_184 rfl (lv_at hl 1 rfl) ?_
                    refine wd_get C h kc_M h_31 6 (by decide) lk_M_25 rfl d_M_event_185 ?_
                    refine lv_iload_n hx hb d_M_event_188 rfl (lv_at hl 2 rfl) ?_
                    refine lv_iload_n hx hb d_M_event_189 rfl (lv_at hl 0 rfl) ?_
                    refine wd_iast C h 0 rfl h_32 (vp_in_nI (show k + 1 < 121 by omega) (by decide)) d_M_event_190 (fun H locs h => ?_)
                    rw [nI_clamp (show k + 1 < 2 ^ 31 by omega)] at h
                    have h : wd_C D T A s H locs (wd_up (wd_up σ (am 7) (.inl (T 1, 121, .inl (upd (fm 7) (k + 1) 1)))) (am 6) (.inl (T 0, 121, .inl (upd (fm 6) (k + 1) (yd (R k 5) ev))))) := h
                    have h_36 : (wd_up (wd_up σ (am 7) (.inl (T 1, 121, .inl (upd (fm 7) (k + 1) 1)))) (am 6) (.inl (T 0, 121, .inl (upd (fm 6) (k + 1) (yd (R k 5) ev))))) (am 6) = some (.inl (T 0, 121, .inl (upd (fm 6) (k + 1) (yd (R k 5) ev)))) := wd_us _ _ _
                    have h_37 : (wd_up (wd_up σ (am 7) (.inl (T 1, 121, .inl (upd (fm 7) (k + 1) 1)))) (am 6) (.inl (T 0, 121, .inl (upd (fm 6) (k + 1) (yd (R k 5) ev))))) y = some (.inr (4, [.int (nI n), .ref (am 1), .ref (am 2), .ref (am 3), .ref (am 4), .ref (am 5), .ref (am 6), .ref (am 7), .ref (am 8), .ref (am 9), .ref (am 10), .ref (am 11), .ref (am 12), .ref (am 13), .ref (am 14), .ref (am 15), .ref (am 16), .ref (am 17), .ref (am 18), .int (nI nc), .ref (am 20), .int (nI Q.2), .ref (am 22)])) := wd_uk h_31 (wd_ne h_31 h_32 (by simp))
                    have h_38 : (wd_up (wd_up σ (am 7) (.inl (T 1, 121, .inl (upd (fm 7) (k + 1) 1)))) (am 6) (.inl (T 0, 121, .inl (upd (fm 6) (k + 1) (yd (R k 5) ev))))) (am 7) = some (.inl (T 1, 121, .inl (upd (fm 7) (k + 1) 1))) := wd_uk h_30 (fun z => absurd (di 7 6 rfl rfl z) (by decide))
                    have h_39 : (wd_up (wd_up σ (am 7) (.inl (T 1, 121, .inl (upd (fm 7) (k + 1) 1)))) (am 6) (.inl (T 0, 121, .inl (upd (fm 6) (k + 1) (yd (R k 5) ev))))) (am 8) = some (.inl (T 0, 121, .inl (fm 8))) := wd_uk h_33 (fun z => absurd (di 8 6 rfl rfl z) (by decide))
                    have h_40 : (wd_up (wd_up σ (am 7) (.inl (T 1, 121, .inl (upd (fm 7) (k + 1) 1)))) (am 6) (.inl (T 0, 121, .inl (upd (fm 6) (k + 1) (yd (R k 5) ev))))) (am 11) = some (.inl (T 0, 121, .inl (fm 11))) := wd_uk h_34 (fun z => absurd (di 11 6 rfl rfl z) (by decide))
                    have h_41 : (wd_up (wd_up σ (am 7) (.inl (T 1, 121, .inl (upd (fm 7) (k + 1) 1)))) (am 6) (.inl (T 0, 121, .inl (upd (fm 6) (k + 1) (yd (R k 5) ev))))) (am 12) = some (.inl (T 0, 121, .inl (fm 12))) := wd_uk h_35 (fun z => absurd (di 12 6 rfl rfl z) (by decide))
                    refine lv_iload_n hx hb d_M_event_191 rfl (lv_at hl 0 rfl) ?_
                    exact wd_iret C hr hlocks h (by have hxb := xb_d (r := R k) c_12 (Or.inl c_25) (Or.inl (show ¬ ev = 8 from by rw [c_29]; decide)); rw [o_upd_some (S := (n, R, nc, CR, wg, Q)) (o_find_ok m8 hk), show f_evt (o_mw n R wg) ev (R k) = ((yd (R k 5) ev), (xu (R k) ev (yd (R k 5) ev))) from by (simp [f_evt, eq_false c_12, eq_true c_18, eq_false c_24, eq_true c_25, eq_false c_26, eq_false c_27, eq_false c_28, eq_true c_29, hxb]; try simp [c_18, c_25, c_29])]; exact ⟨rfl, by have q9 := (hM.set2 (v' := 0) hk (f := 6) (f' := 5) (by decide) (by decide) 1 (yd (R k 5) ev)).rm; rw [ev_rec (ev := ev) (Or.inl ⟨c_29, rfl⟩)] at q9; exact q9⟩) (Nat.le_of_ble_eq_true rfl) (Nat.le_of_ble_eq_true rfl) d_M_event_192
                  · refine lv_iload_n hx hb d_M_event_163 rfl (lv_at hl 3 rfl) ?_
                    refine lv_bipush (v := 8) hx hb d_M_event_164 (by decide) ?_
                    refine lv_icmp_eq (tgt := 182) hx hb d_M_event_166 (by decide) (fun z => absurd z (show ¬ ev = 8 from c_26)) (fun _ => ?_)
                    refine lv_aload_n hx hb d_M_event_169 rfl (lv_at hl 1 rfl) ?_
                    refine wd_get C h kc_M d0 7 (by decide) lk_M_28 rfl d_M_event_170 ?_
                    refine lv_iload_n hx hb d_M_event_173 rfl (lv_at hl 2 rfl) ?_
                    refine wd_zald C h 1 rfl c7 (vp_in_nI (show k + 1 < 121 by omega) (by decide)) d_M_event_174 ?_
                    rw [nI_clamp (show k + 1 < 2 ^ 31 by omega)]
                    rw [show fm 7 (k + 1) = R k 6 from m1 k hk 6 (by decide)]
                    refine lv_if_eq (tgt := 182) hx hb d_M_event_175 (by decide) (fun _ => ?_) (fun z => absurd (show (R k 6) = 0 from c_25) z)
                    refine lv_iconst (v := 0) hx hb d_M_event_182 (by decide) ?_
                    refine wd_zast C h 1 rfl c7 (vp_in_nI (show k + 1 < 121 by omega) (by decide)) d_M_event_183 (fun H locs h => ?_)
                    rw [show vp_nar .boolean 0 = 0 from rfl] at h
                    rw [nI_clamp (show k + 1 < 2 ^ 31 by omega)] at h
                    have h : wd_C D T A s H locs (wd_up σ (am 7) (.inl (T 1, 121, .inl (upd (fm 7) (k + 1) 0)))) := h
                    have h_44 : (wd_up σ (am 7) (.inl (T 1, 121, .inl (upd (fm 7) (k + 1) 0)))) (am 7) = some (.inl (T 1, 121, .inl (upd (fm 7) (k + 1) 0))) := wd_us _ _ _
                    have h_45 : (wd_up σ (am 7) (.inl (T 1, 121, .inl (upd (fm 7) (k + 1) 0)))) y = some (.inr (4, [.int (nI n), .ref (am 1), .ref (am 2), .ref (am 3), .ref (am 4), .ref (am 5), .ref (am 6), .ref (am 7), .ref (am 8), .ref (am 9), .ref (am 10), .ref (am 11), .ref (am 12), .ref (am 13), .ref (am 14), .ref (am 15), .ref (am 16), .ref (am 17), .ref (am 18), .int (nI nc), .ref (am 20), .int (nI Q.2), .ref (am 22)])) := wd_uk d0 (wd_ne d0 c7 (by simp))
                    have h_46 : (wd_up σ (am 7) (.inl (T 1, 121, .inl (upd (fm 7) (k + 1) 0)))) (am 6) = some (.inl (T 0, 121, .inl (fm 6))) := wd_uk c6 (fun z => absurd (di 6 7 rfl rfl z) (by decide))
                    have h_47 : (wd_up σ (am 7) (.inl (T 1, 121, .inl (upd (fm 7) (k + 1) 0)))) (am 8) = some (.inl (T 0, 121, .inl (fm 8))) := wd_uk c8 (fun z => absurd (di 8 7 rfl rfl z) (by decide))
                    have h_48 : (wd_up σ (am 7) (.inl (T 1, 121, .inl (upd (fm 7) (k + 1) 0)))) (am 11) = some (.inl (T 0, 121, .inl (fm 11))) := wd_uk c11 (fun z => absurd (di 11 7 rfl rfl z) (by decide))
                    have h_49 : (wd_up σ (am 7) (.inl (T 1, 121, .inl (upd (fm 7) (k + 1) 0)))) (am 12) = some (.inl (T 0, 121, .inl (fm 12))) := wd_uk c12 (fun z => absurd (di 12 7 rfl rfl z) (by decide))
                    refine lv_aload_n hx hb d_M_event_184 rfl (lv_at hl 1 rfl) ?_
                    refine wd_get C h kc_M h_45 6 (by decide) lk_M_25 rfl d_M_event_185 ?_
                    refine lv_iload_n hx hb d_M_event_188 rfl (lv_at hl 2 rfl) ?_
                    refine lv_iload_n hx hb d_M_event_189 rfl (lv_at hl 0 rfl) ?_
                    refine wd_iast C h 0 rfl h_46 (vp_in_nI (show k + 1 < 121 by omega) (by decide)) d_M_event_190 (fun H locs h => ?_)
                    rw [nI_clamp (show k + 1 < 2 ^ 31 by omega)] at h
                    have h : wd_C D T A s H locs (wd_up (wd_up σ (am 7) (.inl (T 1, 121, .inl (upd (fm 7) (k + 1) 0)))) (am 6) (.inl (T 0, 121, .inl (upd (fm 6) (k + 1) (yd (R k 5) ev))))) := h
                    have h_50 : (wd_up (wd_up σ (am 7) (.inl (T 1, 121, .inl (upd (fm 7) (k + 1) 0)))) (am 6) (.inl (T 0, 121, .inl (upd (fm 6) (k + 1) (yd (R k 5) ev))))) (am 6) = some (.inl (T 0, 121, .inl (upd (fm 6) (k + 1) (yd (R k 5) ev)))) := wd_us _ _ _
                    have h_51 : (wd_up (wd_up σ (am 7) (.inl (T 1, 121, .inl (upd (fm 7) (k + 1) 0)))) (am 6) (.inl (T 0, 121, .inl (upd (fm 6) (k + 1) (yd (R k 5) ev))))) y = some (.inr (4, [.int (nI n), .ref (am 1), .ref (am 2), .ref (am 3), .ref (am 4), .ref (am 5), .ref (am 6), .ref (am 7), .ref (am 8), .ref (am 9), .ref (am 10), .ref (am 11), .ref (am 12), .ref (am 13), .ref (am 14), .ref (am 15), .ref (am 16), .ref (am 17), .ref (am 18), .int (nI nc), .ref (am 20), .int (nI Q.2), .ref (am 22)])) := wd_uk h_45 (wd_ne h_45 h_46 (by simp))
                    have h_52 : (wd_up (wd_up σ (am 7) (.inl (T 1, 121, .inl (upd (fm 7) (k + 1) 0)))) (am 6) (.inl (T 0, 121, .inl (upd (fm 6) (k + 1) (yd (R k 5) ev))))) (am 7) = some (.inl (T 1, 121, .inl (upd (fm 7) (k + 1) 0))) := wd_uk h_44 (fun z => absurd (di 7 6 rfl rfl z) (by decide))
                    have h_53 : (wd_up (wd_up σ (am 7) (.inl (T 1, 121, .inl (upd (fm 7) (k + 1) 0)))) (am 6) (.inl (T 0, 121, .inl (upd (fm 6) (k + 1) (yd (R k 5) ev))))) (am 8) = some (.inl (T 0, 121, .inl (fm 8))) := wd_uk h_47 (fun z => absurd (di 8 6 rfl rfl z) (by decide))
                    have h_54 : (wd_up (wd_up σ (am 7) (.inl (T 1, 121, .inl (upd (fm 7) (k + 1) 0)))) (am 6) (.inl (T 0, 121, .inl (upd (fm 6) (k + 1) (yd (R k 5) ev))))) (am 11) = some (.inl (T 0, 121, .inl (fm 11))) := wd_uk h_48 (fun z => absurd (di 11 6 rfl rfl z) (by decide))
                    have h_55 : (wd_up (wd_up σ (am 7) (.inl (T 1, 121, .inl (upd (fm 7) (k + 1) 0)))) (am 6) (.inl (T 0, 121, .inl (upd (fm 6) (k + 1) (yd (R k 5) ev))))) (am 12) = some (.inl (T 0, 121, .inl (fm 12))) := wd_uk h_49 (fun z => absurd (di 12 6 rfl rfl z) (by decide))
                    refine lv_iload_n hx hb d_M_event_191 rfl (lv_at hl 0 rfl) ?_
                    exact wd_iret C hr hlocks h (by have hxb := xb_d (r := R k) c_12 (Or.inl c_25) (Or.inl c_26); rw [o_upd_some (S := (n, R, nc, CR, wg, Q)) (o_find_ok m8 hk), show f_evt (o_mw n R wg) ev (R k) = ((yd (R k 5) ev), (xu (R k) ev (yd (R k 5) ev))) from by (simp [f_evt, eq_false c_12, eq_true c_18, eq_false c_24, eq_true c_25, eq_false c_26, eq_false c_27, eq_false c_28, eq_false c_29, hxb]; try simp [c_18, c_25])]; exact ⟨rfl, by have q9 := (hM.set2 (v' := 0) hk (f := 6) (f' := 5) (by decide) (by decide) 0 (yd (R k 5) ev)).rm; rw [ev_rec (ev := ev) (Or.inr (Or.inr ⟨c_29, c_26, (Eq.symm c_25)⟩))] at q9; exact q9⟩) (Nat.le_of_ble_eq_true rfl) (Nat.le_of_ble_eq_true rfl) d_M_event_192
                · refine lv_aload_n hx hb d_M_event_131 rfl (lv_at hl 1 rfl) ?_
                  refine wd_get C h kc_M d0 6 (by decide) lk_M_25 rfl d_M_event_132 ?_
                  refine lv_iload_n hx hb d_M_event_135 rfl (lv_at hl 2 rfl) ?_
                  refine wd_iald C h 0 rfl c6 (vp_in_nI (show k + 1 < 121 by omega) (by decide)) d_M_event_136 ?_
                  rw [nI_clamp (show k + 1 < 2 ^ 31 by omega)]
                  rw [show fm 6 (k + 1) = R k 5 from m1 k hk 5 (by decide)]
                  refine lv_iconst (v := 4) hx hb d_M_event_137 (by decide) ?_
                  refine lv_icmp_ne (tgt := 152) hx hb d_M_event_138 (by decide) (fun c_56 => ?_) (fun c_56 => ?_)
                  · refine lv_aload_n hx hb d_M_event_152 rfl (lv_at hl 1 rfl) ?_
                    refine wd_get C h kc_M d0 7 (by decide) lk_M_28 rfl d_M_event_153 ?_
                    refine lv_iload_n hx hb d_M_event_156 rfl (lv_at hl 2 rfl) ?_
                    refine lv_iload_n hx hb d_M_event_157 rfl (lv_at hl 3 rfl) ?_
                    refine lv_bipush (v := 7) hx hb d_M_event_158 (by decide) ?_
                    refine lv_icmp_eq (tgt := 178) hx hb d_M_event_160 (by decide) (fun z => absurd z (show ¬ ev = 7 from by rw [c_28]; decide)) (fun _ => ?_)
                    refine lv_iload_n hx hb d_M_event_163 rfl (lv_at hl 3 rfl) ?_
                    refine lv_bipush (v := 8) hx hb d_M_event_164 (by decide) ?_
                    refine lv_icmp_eq (tgt := 182) hx hb d_M_event_166 (by decide) (fun z => absurd z (show ¬ ev = 8 from by rw [c_28]; decide)) (fun _ => ?_)
                    refine lv_aload_n hx hb d_M_event_169 rfl (lv_at hl 1 rfl) ?_
                    refine wd_get C h kc_M d0 7 (by decide) lk_M_28 rfl d_M_event_170 ?_
                    refine lv_iload_n hx hb d_M_event_173 rfl (lv_at hl 2 rfl) ?_
                    refine wd_zald C h 1 rfl c7 (vp_in_nI (show k + 1 < 121 by omega) (by decide)) d_M_event_174 ?_
                    rw [nI_clamp (show k + 1 < 2 ^ 31 by omega)]
                    rw [show fm 7 (k + 1) = R k 6 from m1 k hk 6 (by decide)]
                    refine lv_if_eq (tgt := 182) hx hb d_M_event_175 (by decide) (fun _ => ?_) (fun z => absurd (show (R k 6) = 0 from c_25) z)
                    refine lv_iconst (v := 0) hx hb d_M_event_182 (by decide) ?_
                    refine wd_zast C h 1 rfl c7 (vp_in_nI (show k + 1 < 121 by omega) (by decide)) d_M_event_183 (fun H locs h => ?_)
                    rw [show vp_nar .boolean 0 = 0 from rfl] at h
                    rw [nI_clamp (show k + 1 < 2 ^ 31 by omega)] at h
                    have h : wd_C D T A s H locs (wd_up σ (am 7) (.inl (T 1, 121, .inl (upd (fm 7) (k + 1) 0)))) := h
                    have h_60 : (wd_up σ (am 7) (.inl (T 1, 121, .inl (upd (fm 7) (k + 1) 0)))) (am 7) = some (.inl (T 1, 121, .inl (upd (fm 7) (k + 1) 0))) := wd_us _ _ _
                    have h_61 : (wd_up σ (am 7) (.inl (T 1, 121, .inl (upd (fm 7) (k + 1) 0)))) y = some (.inr (4, [.int (nI n), .ref (am 1), .ref (am 2), .ref (am 3), .ref (am 4), .ref (am 5), .ref (am 6), .ref (am 7), .ref (am 8), .ref (am 9), .ref (am 10), .ref (am 11), .ref (am 12), .ref (am 13), .ref (am 14), .ref (am 15), .ref (am 16), .ref (am 17), .ref (am 18), .int (nI nc), .ref (am 20), .int (nI Q.2), .ref (am 22)])) := wd_uk d0 (wd_ne d0 c7 (by simp))
                    have h_62 : (wd_up σ (am 7) (.inl (T 1, 121, .inl (upd (fm 7) (k + 1) 0)))) (am 6) = some (.inl (T 0, 121, .inl (fm 6))) := wd_uk c6 (fun z => absurd (di 6 7 rfl rfl z) (by decide))
                    have h_63 : (wd_up σ (am 7) (.inl (T 1, 121, .inl (upd (fm 7) (k + 1) 0)))) (am 8) = some (.inl (T 0, 121, .inl (fm 8))) := wd_uk c8 (fun z => absurd (di 8 7 rfl rfl z) (by decide))
                    have h_64 : (wd_up σ (am 7) (.inl (T 1, 121, .inl (upd (fm 7) (k + 1) 0)))) (am 11) = some (.inl (T 0, 121, .inl (fm 11))) := wd_uk c11 (fun z => absurd (di 11 7 rfl rfl z) (by decide))
                    have h_65 : (wd_up σ (am 7) (.inl (T 1, 121, .inl (upd (fm 7) (k + 1) 0)))) (am 12) = some (.inl (T 0, 121, .inl (fm 12))) := wd_uk c12 (fun z => absurd (di 12 7 rfl rfl z) (by decide))
                    refine lv_aload_n hx hb d_M_event_184 rfl (lv_at hl 1 rfl) ?_
                    refine wd_get C h kc_M h_61 6 (by decide) lk_M_25 rfl d_M_event_185 ?_
                    refine lv_iload_n hx hb d_M_event_188 rfl (lv_at hl 2 rfl) ?_
                    refine lv_iload_n hx hb d_M_event_189 rfl (lv_at hl 0 rfl) ?_
                    refine wd_iast C h 0 rfl h_62 (vp_in_nI (show k + 1 < 121 by omega) (by decide)) d_M_event_190 (fun H locs h => ?_)
                    rw [nI_clamp (show k + 1 < 2 ^ 31 by omega)] at h
                    have h : wd_C D T A s H locs (wd_up (wd_up σ (am 7) (.inl (T 1, 121, .inl (upd (fm 7) (k + 1) 0)))) (am 6) (.inl (T 0, 121, .inl (upd (fm 6) (k + 1) (yd (R k 5) ev))))) := h
                    have h_66 : (wd_up (wd_up σ (am 7) (.inl (T 1, 121, .inl (upd (fm 7) (k + 1) 0)))) (am 6) (.inl (T 0, 121, .inl (upd (fm 6) (k + 1) (yd (R k 5) ev))))) (am 6) = some (.inl (T 0, 121, .inl (upd (fm 6) (k + 1) (yd (R k 5) ev)))) := wd_us _ _ _
                    have h_67 : (wd_up (wd_up σ (am 7) (.inl (T 1, 121, .inl (upd (fm 7) (k + 1) 0)))) (am 6) (.inl (T 0, 121, .inl (upd (fm 6) (k + 1) (yd (R k 5) ev))))) y = some (.inr (4, [.int (nI n), .ref (am 1), .ref (am 2), .ref (am 3), .ref (am 4), .ref (am 5), .ref (am 6), .ref (am 7), .ref (am 8), .ref (am 9), .ref (am 10), .ref (am 11), .ref (am 12), .ref (am 13), .ref (am 14), .ref (am 15), .ref (am 16), .ref (am 17), .ref (am 18), .int (nI nc), .ref (am 20), .int (nI Q.2), .ref (am 22)])) := wd_uk h_61 (wd_ne h_61 h_62 (by simp))
                    have h_68 : (wd_up (wd_up σ (am 7) (.inl (T 1, 121, .inl (upd (fm 7) (k + 1) 0)))) (am 6) (.inl (T 0, 121, .inl (upd (fm 6) (k + 1) (yd (R k 5) ev))))) (am 7) = some (.inl (T 1, 121, .inl (upd (fm 7) (k + 1) 0))) := wd_uk h_60 (fun z => absurd (di 7 6 rfl rfl z) (by decide))
                    have h_69 : (wd_up (wd_up σ (am 7) (.inl (T 1, 121, .inl (upd (fm 7) (k + 1) 0)))) (am 6) (.inl (T 0, 121, .inl (upd (fm 6) (k + 1) (yd (R k 5) ev))))) (am 8) = some (.inl (T 0, 121, .inl (fm 8))) := wd_uk h_63 (fun z => absurd (di 8 6 rfl rfl z) (by decide))
                    have h_70 : (wd_up (wd_up σ (am 7) (.inl (T 1, 121, .inl (upd (fm 7) (k + 1) 0)))) (am 6) (.inl (T 0, 121, .inl (upd (fm 6) (k + 1) (yd (R k 5) ev))))) (am 11) = some (.inl (T 0, 121, .inl (fm 11))) := wd_uk h_64 (fun z => absurd (di 11 6 rfl rfl z) (by decide))
                    have h_71 : (wd_up (wd_up σ (am 7) (.inl (T 1, 121, .inl (upd (fm 7) (k + 1) 0)))) (am 6) (.inl (T 0, 121, .inl (upd (fm 6) (k + 1) (yd (R k 5) ev))))) (am 12) = some (.inl (T 0, 121, .inl (fm 12))) := wd_uk h_65 (fun z => absurd (di 12 6 rfl rfl z) (by decide))
                    refine lv_iload_n hx hb d_M_event_191 rfl (lv_at hl 0 rfl) ?_
                    exact wd_iret C hr hlocks h (by have hxb := xb_d (r := R k) c_12 (Or.inl c_25) (Or.inl (show ¬ ev = 8 from by rw [c_28]; decide)); rw [o_upd_some (S := (n, R, nc, CR, wg, Q)) (o_find_ok m8 hk), show f_evt (o_mw n R wg) ev (R k) = ((yd (R k 5) ev), (xu (R k) ev (yd (R k 5) ev))) from by (simp [f_evt, eq_false c_12, eq_true c_18, eq_false c_24, eq_true c_25, eq_false c_26, eq_false c_27, eq_true c_28, eq_false c_56, hxb]; try simp [c_18, c_25, c_28])]; exact ⟨rfl, by have q9 := (hM.set2 (v' := 0) hk (f := 6) (f' := 5) (by decide) (by decide) 0 (yd (R k 5) ev)).rm; rw [ev_rec (ev := ev) (Or.inr (Or.inr ⟨(show ¬ ev = 7 from by rw [c_28]; decide), (show ¬ ev = 8 from by rw [c_28]; decide), (Eq.symm c_25)⟩))] at q9; exact q9⟩) (Nat.le_of_ble_eq_true rfl) (Nat.le_of_ble_eq_true rfl) d_M_event_192
                  · refine lv_aload_n hx hb d_M_event_141 rfl (lv_at hl 1 rfl) ?_
                    refine lv_iload_n hx hb d_M_event_142 rfl (lv_at hl 2 rfl) ?_
                    refine wd_ci h (wd_rV (rest := []) (st0 := [.int (nI (k + 1)), .ref y]) C h kc_M d0 k_M_mustWait wm_M_mustWait wz_M_mustWait lk_M_109 (c_M_mustWait l D T A σ y am fm n R nc CR wg Q hM hok k hk) rfl rfl ⟨Nat.le_of_ble_eq_true rfl, Nat.le_of_ble_eq_true rfl⟩ rfl hl.1 rfl (Nat.le_of_ble_eq_true rfl) d_M_event_143 ⟨Nat.le_of_ble_eq_true rfl, Nat.le_of_ble_eq_true rfl⟩) (fun r_72 σ_73 H locs hp_74 h => ?_)
                    obtain ⟨e_75, es_76⟩ := hp_74
                    rw [es_76] at h
                    subst e_75
                    refine lv_if_eq (tgt := 152) hx hb d_M_event_146 (by decide) (fun c_77 => ?_) (fun c_77 => ?_)
                    · refine lv_aload_n hx hb d_M_event_152 rfl (lv_at hl 1 rfl) ?_
                      refine wd_get C h kc_M d0 7 (by decide) lk_M_28 rfl d_M_event_153 ?_
                      refine lv_iload_n hx hb d_M_event_156 rfl (lv_at hl 2 rfl) ?_
                      refine lv_iload_n hx hb d_M_event_157 rfl (lv_at hl 3 rfl) ?_
                      refine lv_bipush (v := 7) hx hb d_M_event_158 (by decide) ?_
                      refine lv_icmp_eq (tgt := 178) hx hb d_M_event_160 (by decide) (fun z => absurd z (show ¬ ev = 7 from by rw [c_28]; decide)) (fun _ => ?_)
                      refine lv_iload_n hx hb d_M_event_163 rfl (lv_at hl 3 rfl) ?_
                      refine lv_bipush (v := 8) hx hb d_M_event_164 (by decide) ?_
                      refine lv_icmp_eq (tgt := 182) hx hb d_M_event_166 (by decide) (fun z => absurd z (show ¬ ev = 8 from by rw [c_28]; decide)) (fun _ => ?_)
                      refine lv_aload_n hx hb d_M_event_169 rfl (lv_at hl 1 rfl) ?_
                      refine wd_get C h kc_M d0 7 (by decide) lk_M_28 rfl d_M_event_170 ?_
                      refine lv_iload_n hx hb d_M_event_173 rfl (lv_at hl 2 rfl) ?_
                      refine wd_zald C h 1 rfl c7 (vp_in_nI (show k + 1 < 121 by omega) (by decide)) d_M_event_174 ?_
                      rw [nI_clamp (show k + 1 < 2 ^ 31 by omega)]
                      rw [show fm 7 (k + 1) = R k 6 from m1 k hk 6 (by decide)]
                      refine lv_if_eq (tgt := 182) hx hb d_M_event_175 (by decide) (fun _ => ?_) (fun z => absurd (show (R k 6) = 0 from c_25) z)
                      refine lv_iconst (v := 0) hx hb d_M_event_182 (by decide) ?_
                      refine wd_zast C h 1 rfl c7 (vp_in_nI (show k + 1 < 121 by omega) (by decide)) d_M_event_183 (fun H locs h => ?_)
                      rw [show vp_nar .boolean 0 = 0 from rfl] at h
                      rw [nI_clamp (show k + 1 < 2 ^ 31 by omega)] at h
                      have h : wd_C D T A s H locs (wd_up σ (am 7) (.inl (T 1, 121, .inl (upd (fm 7) (k + 1) 0)))) := h
                      have h_81 : (wd_up σ (am 7) (.inl (T 1, 121, .inl (upd (fm 7) (k + 1) 0)))) (am 7) = some (.inl (T 1, 121, .inl (upd (fm 7) (k + 1) 0))) := wd_us _ _ _
                      have h_82 : (wd_up σ (am 7) (.inl (T 1, 121, .inl (upd (fm 7) (k + 1) 0)))) y = some (.inr (4, [.int (nI n), .ref (am 1), .ref (am 2), .ref (am 3), .ref (am 4), .ref (am 5), .ref (am 6), .ref (am 7), .ref (am 8), .ref (am 9), .ref (am 10), .ref (am 11), .ref (am 12), .ref (am 13), .ref (am 14), .ref (am 15), .ref (am 16), .ref (am 17), .ref (am 18), .int (nI nc), .ref (am 20), .int (nI Q.2), .ref (am 22)])) := wd_uk d0 (wd_ne d0 c7 (by simp))
                      have h_83 : (wd_up σ (am 7) (.inl (T 1, 121, .inl (upd (fm 7) (k + 1) 0)))) (am 6) = some (.inl (T 0, 121, .inl (fm 6))) := wd_uk c6 (fun z => absurd (di 6 7 rfl rfl z) (by decide))
                      have h_84 : (wd_up σ (am 7) (.inl (T 1, 121, .inl (upd (fm 7) (k + 1) 0)))) (am 8) = some (.inl (T 0, 121, .inl (fm 8))) := wd_uk c8 (fun z => absurd (di 8 7 rfl rfl z) (by decide))
                      have h_85 : (wd_up σ (am 7) (.inl (T 1, 121, .inl (upd (fm 7) (k + 1) 0)))) (am 11) = some (.inl (T 0, 121, .inl (fm 11))) := wd_uk c11 (fun z => absurd (di 11 7 rfl rfl z) (by decide))
                      have h_86 : (wd_up σ (am 7) (.inl (T 1, 121, .inl (upd (fm 7) (k + 1) 0)))) (am 12) = some (.inl (T 0, 121, .inl (fm 12))) := wd_uk c12 (fun z => absurd (di 12 7 rfl rfl z) (by decide))
                      refine lv_aload_n hx hb d_M_event_184 rfl (lv_at hl 1 rfl) ?_
                      refine wd_get C h kc_M h_82 6 (by decide) lk_M_25 rfl d_M_event_185 ?_
                      refine lv_iload_n hx hb d_M_event_188 rfl (lv_at hl 2 rfl) ?_
                      refine lv_iload_n hx hb d_M_event_189 rfl (lv_at hl 0 rfl) ?_
                      refine wd_iast C h 0 rfl h_83 (vp_in_nI (show k + 1 < 121 by omega) (by decide)) d_M_event_190 (fun H locs h => ?_)
                      rw [nI_clamp (show k + 1 < 2 ^ 31 by omega)] at h
                      have h : wd_C D T A s H locs (wd_up (wd_up σ (am 7) (.inl (T 1, 121, .inl (upd (fm 7) (k + 1) 0)))) (am 6) (.inl (T 0, 121, .inl (upd (fm 6) (k + 1) (yd (R k 5) ev))))) := h
                      have h_87 : (wd_up (wd_up σ (am 7) (.inl (T 1, 121, .inl (upd (fm 7) (k + 1) 0)))) (am 6) (.inl (T 0, 121, .inl (upd (fm 6) (k + 1) (yd (R k 5) ev))))) (am 6) = some (.inl (T 0, 121, .inl (upd (fm 6) (k + 1) (yd (R k 5) ev)))) := wd_us _ _ _
                      have h_88 : (wd_up (wd_up σ (am 7) (.inl (T 1, 121, .inl (upd (fm 7) (k + 1) 0)))) (am 6) (.inl (T 0, 121, .inl (upd (fm 6) (k + 1) (yd (R k 5) ev))))) y = some (.inr (4, [.int (nI n), .ref (am 1), .ref (am 2), .ref (am 3), .ref (am 4), .ref (am 5), .ref (am 6), .ref (am 7), .ref (am 8), .ref (am 9), .ref (am 10), .ref (am 11), .ref (am 12), .ref (am 13), .ref (am 14), .ref (am 15), .ref (am 16), .ref (am 17), .ref (am 18), .int (nI nc), .ref (am 20), .int (nI Q.2), .ref (am 22)])) := wd_uk h_82 (wd_ne h_82 h_83 (by simp))
                      have h_89 : (wd_up (wd_up σ (am 7) (.inl (T 1, 121, .inl (upd (fm 7) (k + 1) 0)))) (am 6) (.inl (T 0, 121, .inl (upd (fm 6) (k + 1) (yd (R k 5) ev))))) (am 7) = some (.inl (T 1, 121, .inl (upd (fm 7) (k + 1) 0))) := wd_uk h_81 (fun z => absurd (di 7 6 rfl rfl z) (by decide))
                      have h_90 : (wd_up (wd_up σ (am 7) (.inl (T 1, 121, .inl (upd (fm 7) (k + 1) 0)))) (am 6) (.inl (T 0, 121, .inl (upd (fm 6) (k + 1) (yd (R k 5) ev))))) (am 8) = some (.inl (T 0, 121, .inl (fm 8))) := wd_uk h_84 (fun z => absurd (di 8 6 rfl rfl z) (by decide))
                      have h_91 : (wd_up (wd_up σ (am 7) (.inl (T 1, 121, .inl (upd (fm 7) (k + 1) 0)))) (am 6) (.inl (T 0, 121, .inl (upd (fm 6) (k + 1) (yd (R k 5) ev))))) (am 11) = some (.inl (T 0, 121, .inl (fm 11))) := wd_uk h_85 (fun z => absurd (di 11 6 rfl rfl z) (by decide))
                      have h_92 : (wd_up (wd_up σ (am 7) (.inl (T 1, 121, .inl (upd (fm 7) (k + 1) 0)))) (am 6) (.inl (T 0, 121, .inl (upd (fm 6) (k + 1) (yd (R k 5) ev))))) (am 12) = some (.inl (T 0, 121, .inl (fm 12))) := wd_uk h_86 (fun z => absurd (di 12 6 rfl rfl z) (by decide))
                      refine lv_iload_n hx hb d_M_event_191 rfl (lv_at hl 0 rfl) ?_
                      exact wd_iret C hr hlocks h (by have hxb := xb_d (r := R k) c_12 (Or.inl c_25) (Or.inl (show ¬ ev = 8 from by rw [c_28]; decide)); rw [o_upd_some (S := (n, R, nc, CR, wg, Q)) (o_find_ok m8 hk), show f_evt (o_mw n R wg) ev (R k) = ((yd (R k 5) ev), (xu (R k) ev (yd (R k 5) ev))) from by (simp [f_evt, eq_false c_12, eq_true c_18, eq_false c_24, eq_true c_25, eq_false c_26, eq_false c_27, eq_true c_28, eq_true c_56, eq_true c_77, hxb]; try simp [c_18, c_25, c_28, c_56, c_77])]; exact ⟨rfl, by have q9 := (hM.set2 (v' := 0) hk (f := 6) (f' := 5) (by decide) (by decide) 0 (yd (R k 5) ev)).rm; rw [ev_rec (ev := ev) (Or.inr (Or.inr ⟨(show ¬ ev = 7 from by rw [c_28]; decide), (show ¬ ev = 8 from by rw [c_28]; decide), (Eq.symm c_25)⟩))] at q9; exact q9⟩) (Nat.le_of_ble_eq_true rfl) (Nat.le_of_ble_eq_true rfl) d_M_event_192
                    · refine lv_bipush (v := (-107)) hx hb d_M_event_149 (by decide) ?_
                      exact wd_iret C hr hlocks h (by have hxb := xb_d (r := R k) c_12 (Or.inl c_25) (Or.inl (show ¬ ev = 8 from by rw [c_28]; decide)); rw [o_upd_some (S := (n, R, nc, CR, wg, Q)) (o_find_ok m8 hk), show f_evt (o_mw n R wg) ev (R k) = ((-107), (R k)) from by (simp [f_evt, eq_false c_12, eq_true c_18, eq_false c_24, eq_true c_25, eq_false c_26, eq_false c_27, eq_true c_28, eq_true c_56, eq_false c_77, hxb]; try simp [c_18, c_25, c_28, c_56])]; exact ⟨rfl, by rw [va_up_id]; exact hM.rm⟩) (Nat.le_of_ble_eq_true rfl) (Nat.le_of_ble_eq_true rfl) d_M_event_151
              · refine lv_aload_n hx hb d_M_event_105 rfl (lv_at hl 1 rfl) ?_
                refine wd_get C h kc_M d0 11 (by decide) lk_M_41 rfl d_M_event_106 ?_
                refine lv_iload_n hx hb d_M_event_109 rfl (lv_at hl 2 rfl) ?_
                refine wd_iald C h 0 rfl c11 (vp_in_nI (show k + 1 < 121 by omega) (by decide)) d_M_event_110 ?_
                rw [nI_clamp (show k + 1 < 2 ^ 31 by omega)]
                rw [show fm 11 (k + 1) = R k 9 from m1 k hk 9 (by decide)]
                refine lv_if_le (tgt := 126) hx hb d_M_event_111 (by decide) (fun c_93 => ?_) (fun c_93 => ?_)
                · refine lv_iload_n hx hb d_M_event_126 rfl (lv_at hl 3 rfl) ?_
                  refine lv_iconst (v := 4) hx hb d_M_event_127 (by decide) ?_
                  refine lv_icmp_ne (tgt := 152) hx hb d_M_event_128 (by decide) (fun _ => ?_) (fun z => absurd z (show ¬ ev = 4 from by rw [c_27]; decide))
                  refine lv_aload_n hx hb d_M_event_152 rfl (lv_at hl 1 rfl) ?_
                  refine wd_get C h kc_M d0 7 (by decide) lk_M_28 rfl d_M_event_153 ?_
                  refine lv_iload_n hx hb d_M_event_156 rfl (lv_at hl 2 rfl) ?_
                  refine lv_iload_n hx hb d_M_event_157 rfl (lv_at hl 3 rfl) ?_
                  refine lv_bipush (v := 7) hx hb d_M_event_158 (by decide) ?_
                  refine lv_icmp_eq (tgt := 178) hx hb d_M_event_160 (by decide) (fun z => absurd z (show ¬ ev = 7 from by rw [c_27]; decide)) (fun _ => ?_)
                  refine lv_iload_n hx hb d_M_event_163 rfl (lv_at hl 3 rfl) ?_
                  refine lv_bipush (v := 8) hx hb d_M_event_164 (by decide) ?_
                  refine lv_icmp_eq (tgt := 182) hx hb d_M_event_166 (by decide) (fun z => absurd z (show ¬ ev = 8 from by rw [c_27]; decide)) (fun _ => ?_)
                  refine lv_aload_n hx hb d_M_event_169 rfl (lv_at hl 1 rfl) ?_
                  refine wd_get C h kc_M d0 7 (by decide) lk_M_28 rfl d_M_event_170 ?_
                  refine lv_iload_n hx hb d_M_event_173 rfl (lv_at hl 2 rfl) ?_
                  refine wd_zald C h 1 rfl c7 (vp_in_nI (show k + 1 < 121 by omega) (by decide)) d_M_event_174 ?_
                  rw [nI_clamp (show k + 1 < 2 ^ 31 by omega)]
                  rw [show fm 7 (k + 1) = R k 6 from m1 k hk 6 (by decide)]
                  refine lv_if_eq (tgt := 182) hx hb d_M_event_175 (by decide) (fun _ => ?_) (fun z => absurd (show (R k 6) = 0 from c_25) z)
                  refine lv_iconst (v := 0) hx hb d_M_event_182 (by decide) ?_
                  refine wd_zast C h 1 rfl c7 (vp_in_nI (show k + 1 < 121 by omega) (by decide)) d_M_event_183 (fun H locs h => ?_)
                  rw [show vp_nar .boolean 0 = 0 from rfl] at h
                  rw [nI_clamp (show k + 1 < 2 ^ 31 by omega)] at h
                  have h : wd_C D T A s H locs (wd_up σ (am 7) (.inl (T 1, 121, .inl (upd (fm 7) (k + 1) 0)))) := h
                  have h_98 : (wd_up σ (am 7) (.inl (T 1, 121, .inl (upd (fm 7) (k + 1) 0)))) (am 7) = some (.inl (T 1, 121, .inl (upd (fm 7) (k + 1) 0))) := wd_us _ _ _
                  have h_99 : (wd_up σ (am 7) (.inl (T 1, 121, .inl (upd (fm 7) (k + 1) 0)))) y = some (.inr (4, [.int (nI n), .ref (am 1), .ref (am 2), .ref (am 3), .ref (am 4), .ref (am 5), .ref (am 6), .ref (am 7), .ref (am 8), .ref (am 9), .ref (am 10), .ref (am 11), .ref (am 12), .ref (am 13), .ref (am 14), .ref (am 15), .ref (am 16), .ref (am 17), .ref (am 18), .int (nI nc), .ref (am 20), .int (nI Q.2), .ref (am 22)])) := wd_uk d0 (wd_ne d0 c7 (by simp))
                  have h_100 : (wd_up σ (am 7) (.inl (T 1, 121, .inl (upd (fm 7) (k + 1) 0)))) (am 6) = some (.inl (T 0, 121, .inl (fm 6))) := wd_uk c6 (fun z => absurd (di 6 7 rfl rfl z) (by decide))
                  have h_101 : (wd_up σ (am 7) (.inl (T 1, 121, .inl (upd (fm 7) (k + 1) 0)))) (am 8) = some (.inl (T 0, 121, .inl (fm 8))) := wd_uk c8 (fun z => absurd (di 8 7 rfl rfl z) (by decide))
                  have h_102 : (wd_up σ (am 7) (.inl (T 1, 121, .inl (upd (fm 7) (k + 1) 0)))) (am 11) = some (.inl (T 0, 121, .inl (fm 11))) := wd_uk c11 (fun z => absurd (di 11 7 rfl rfl z) (by decide))
                  have h_103 : (wd_up σ (am 7) (.inl (T 1, 121, .inl (upd (fm 7) (k + 1) 0)))) (am 12) = some (.inl (T 0, 121, .inl (fm 12))) := wd_uk c12 (fun z => absurd (di 12 7 rfl rfl z) (by decide))
                  refine lv_aload_n hx hb d_M_event_184 rfl (lv_at hl 1 rfl) ?_
                  refine wd_get C h kc_M h_99 6 (by decide) lk_M_25 rfl d_M_event_185 ?_
                  refine lv_iload_n hx hb d_M_event_188 rfl (lv_at hl 2 rfl) ?_
                  refine lv_iload_n hx hb d_M_event_189 rfl (lv_at hl 0 rfl) ?_
                  refine wd_iast C h 0 rfl h_100 (vp_in_nI (show k + 1 < 121 by omega) (by decide)) d_M_event_190 (fun H locs h => ?_)
                  rw [nI_clamp (show k + 1 < 2 ^ 31 by omega)] at h
                  have h : wd_C D T A s H locs (wd_up (wd_up σ (am 7) (.inl (T 1, 121, .inl (upd (fm 7) (k + 1) 0)))) (am 6) (.inl (T 0, 121, .inl (upd (fm 6) (k + 1) (yd (R k 5) ev))))) := h
                  have h_104 : (wd_up (wd_up σ (am 7) (.inl (T 1, 121, .inl (upd (fm 7) (k + 1) 0)))) (am 6) (.inl (T 0, 121, .inl (upd (fm 6) (k + 1) (yd (R k 5) ev))))) (am 6) = some (.inl (T 0, 121, .inl (upd (fm 6) (k + 1) (yd (R k 5) ev)))) := wd_us _ _ _
                  have h_105 : (wd_up (wd_up σ (am 7) (.inl (T 1, 121, .inl (upd (fm 7) (k + 1) 0)))) (am 6) (.inl (T 0, 121, .inl (upd (fm 6) (k + 1) (yd (R k 5) ev))))) y = some (.inr (4, [.int (nI n), .ref (am 1), .ref (am 2), .ref (am 3), .ref (am 4), .ref (am 5), .ref (am 6), .ref (am 7), .ref (am 8), .ref (am 9), .ref (am 10), .ref (am 11), .ref (am 12), .ref (am 13), .ref (am 14), .ref (am 15), .ref (am 16), .ref (am 17), .ref (am 18), .int (nI nc), .ref (am 20), .int (nI Q.2), .ref (am 22)])) := wd_uk h_99 (wd_ne h_99 h_100 (by simp))
                  have h_106 : (wd_up (wd_up σ (am 7) (.inl (T 1, 121, .inl (upd (fm 7) (k + 1) 0)))) (am 6) (.inl (T 0, 121, .inl (upd (fm 6) (k + 1) (yd (R k 5) ev))))) (am 7) = some (.inl (T 1, 121, .inl (upd (fm 7) (k + 1) 0))) := wd_uk h_98 (fun z => absurd (di 7 6 rfl rfl z) (by decide))
                  have h_107 : (wd_up (wd_up σ (am 7) (.inl (T 1, 121, .inl (upd (fm 7) (k + 1) 0)))) (am 6) (.inl (T 0, 121, .inl (upd (fm 6) (k + 1) (yd (R k 5) ev))))) (am 8) = some (.inl (T 0, 121, .inl (fm 8))) := wd_uk h_101 (fun z => absurd (di 8 6 rfl rfl z) (by decide))
                  have h_108 : (wd_up (wd_up σ (am 7) (.inl (T 1, 121, .inl (upd (fm 7) (k + 1) 0)))) (am 6) (.inl (T 0, 121, .inl (upd (fm 6) (k + 1) (yd (R k 5) ev))))) (am 11) = some (.inl (T 0, 121, .inl (fm 11))) := wd_uk h_102 (fun z => absurd (di 11 6 rfl rfl z) (by decide))
                  have h_109 : (wd_up (wd_up σ (am 7) (.inl (T 1, 121, .inl (upd (fm 7) (k + 1) 0)))) (am 6) (.inl (T 0, 121, .inl (upd (fm 6) (k + 1) (yd (R k 5) ev))))) (am 12) = some (.inl (T 0, 121, .inl (fm 12))) := wd_uk h_103 (fun z => absurd (di 12 6 rfl rfl z) (by decide))
                  refine lv_iload_n hx hb d_M_event_191 rfl (lv_at hl 0 rfl) ?_
                  exact wd_iret C hr hlocks h (by have hxb := xb_d (r := R k) c_12 (Or.inl c_25) (Or.inl (show ¬ ev = 8 from by rw [c_27]; decide)); rw [o_upd_some (S := (n, R, nc, CR, wg, Q)) (o_find_ok m8 hk), show f_evt (o_mw n R wg) ev (R k) = ((yd (R k 5) ev), (xu (R k) ev (yd (R k 5) ev))) from by (simp [f_evt, eq_false c_12, eq_true c_18, eq_false c_24, eq_true c_25, eq_false c_26, eq_true c_27, eq_true c_93, eq_true (z_le (hok k hk).2.2.2.2.2.2.1.1 c_93), hxb]; try simp [c_18, c_25, c_27, c_93])]; exact ⟨rfl, by have q9 := (hM.set2 (v' := 0) hk (f := 6) (f' := 5) (by decide) (by decide) 0 (yd (R k 5) ev)).rm; rw [ev_rec (ev := ev) (Or.inr (Or.inr ⟨(show ¬ ev = 7 from by rw [c_27]; decide), (show ¬ ev = 8 from by rw [c_27]; decide), (Eq.symm c_25)⟩))] at q9; exact q9⟩) (Nat.le_of_ble_eq_true rfl) (Nat.le_of_ble_eq_true rfl) d_M_event_192
                · refine lv_aload_n hx hb d_M_event_114 rfl (lv_at hl 1 rfl) ?_
                  refine wd_get C h kc_M d0 12 (by decide) lk_M_44 rfl d_M_event_115 ?_
                  refine lv_iload_n hx hb d_M_event_118 rfl (lv_at hl 2 rfl) ?_
                  refine wd_iald C h 0 rfl c12 (vp_in_nI (show k + 1 < 121 by omega) (by decide)) d_M_event_119 ?_
                  rw [nI_clamp (show k + 1 < 2 ^ 31 by omega)]
                  rw [show fm 12 (k + 1) = R k 14 from m1 k hk 14 (by decide)]
                  refine lv_if_ne (tgt := 126) hx hb d_M_event_120 (by decide) (fun c_110 => ?_) (fun c_110 => ?_)
                  · refine lv_iload_n hx hb d_M_event_126 rfl (lv_at hl 3 rfl) ?_
                    refine lv_iconst (v := 4) hx hb d_M_event_127 (by decide) ?_
                    refine lv_icmp_ne (tgt := 152) hx hb d_M_event_128 (by decide) (fun _ => ?_) (fun z => absurd z (show ¬ ev = 4 from by rw [c_27]; decide))
                    refine lv_aload_n hx hb d_M_event_152 rfl (lv_at hl 1 rfl) ?_
                    refine wd_get C h kc_M d0 7 (by decide) lk_M_28 rfl d_M_event_153 ?_
                    refine lv_iload_n hx hb d_M_event_156 rfl (lv_at hl 2 rfl) ?_
                    refine lv_iload_n hx hb d_M_event_157 rfl (lv_at hl 3 rfl) ?_
                    refine lv_bipush (v := 7) hx hb d_M_event_158 (by decide) ?_
                    refine lv_icmp_eq (tgt := 178) hx hb d_M_event_160 (by decide) (fun z => absurd z (show ¬ ev = 7 from by rw [c_27]; decide)) (fun _ => ?_)
                    refine lv_iload_n hx hb d_M_event_163 rfl (lv_at hl 3 rfl) ?_
                    refine lv_bipush (v := 8) hx hb d_M_event_164 (by decide) ?_
                    refine lv_icmp_eq (tgt := 182) hx hb d_M_event_166 (by decide) (fun z => absurd z (show ¬ ev = 8 from by rw [c_27]; decide)) (fun _ => ?_)
                    refine lv_aload_n hx hb d_M_event_169 rfl (lv_at hl 1 rfl) ?_
                    refine wd_get C h kc_M d0 7 (by decide) lk_M_28 rfl d_M_event_170 ?_
                    refine lv_iload_n hx hb d_M_event_173 rfl (lv_at hl 2 rfl) ?_
                    refine wd_zald C h 1 rfl c7 (vp_in_nI (show k + 1 < 121 by omega) (by decide)) d_M_event_174 ?_
                    rw [nI_clamp (show k + 1 < 2 ^ 31 by omega)]
                    rw [show fm 7 (k + 1) = R k 6 from m1 k hk 6 (by decide)]
                    refine lv_if_eq (tgt := 182) hx hb d_M_event_175 (by decide) (fun _ => ?_) (fun z => absurd (show (R k 6) = 0 from c_25) z)
                    refine lv_iconst (v := 0) hx hb d_M_event_182 (by decide) ?_
                    refine wd_zast C h 1 rfl c7 (vp_in_nI (show k + 1 < 121 by omega) (by decide)) d_M_event_183 (fun H locs h => ?_)
                    rw [show vp_nar .boolean 0 = 0 from rfl] at h
                    rw [nI_clamp (show k + 1 < 2 ^ 31 by omega)] at h
                    have h : wd_C D T A s H locs (wd_up σ (am 7) (.inl (T 1, 121, .inl (upd (fm 7) (k + 1) 0)))) := h
                    have h_115 : (wd_up σ (am 7) (.inl (T 1, 121, .inl (upd (fm 7) (k + 1) 0)))) (am 7) = some (.inl (T 1, 121, .inl (upd (fm 7) (k + 1) 0))) := wd_us _ _ _
                    have h_116 : (wd_up σ (am 7) (.inl (T 1, 121, .inl (upd (fm 7) (k + 1) 0)))) y = some (.inr (4, [.int (nI n), .ref (am 1), .ref (am 2), .ref (am 3), .ref (am 4), .ref (am 5), .ref (am 6), .ref (am 7), .ref (am 8), .ref (am 9), .ref (am 10), .ref (am 11), .ref (am 12), .ref (am 13), .ref (am 14), .ref (am 15), .ref (am 16), .ref (am 17), .ref (am 18), .int (nI nc), .ref (am 20), .int (nI Q.2), .ref (am 22)])) := wd_uk d0 (wd_ne d0 c7 (by simp))
                    have h_117 : (wd_up σ (am 7) (.inl (T 1, 121, .inl (upd (fm 7) (k + 1) 0)))) (am 6) = some (.inl (T 0, 121, .inl (fm 6))) := wd_uk c6 (fun z => absurd (di 6 7 rfl rfl z) (by decide))
                    have h_118 : (wd_up σ (am 7) (.inl (T 1, 121, .inl (upd (fm 7) (k + 1) 0)))) (am 8) = some (.inl (T 0, 121, .inl (fm 8))) := wd_uk c8 (fun z => absurd (di 8 7 rfl rfl z) (by decide))
                    have h_119 : (wd_up σ (am 7) (.inl (T 1, 121, .inl (upd (fm 7) (k + 1) 0)))) (am 11) = some (.inl (T 0, 121, .inl (fm 11))) := wd_uk c11 (fun z => absurd (di 11 7 rfl rfl z) (by decide))
                    have h_120 : (wd_up σ (am 7) (.inl (T 1, 121, .inl (upd (fm 7) (k + 1) 0)))) (am 12) = some (.inl (T 0, 121, .inl (fm 12))) := wd_uk c12 (fun z => absurd (di 12 7 rfl rfl z) (by decide))
                    refine lv_aload_n hx hb d_M_event_184 rfl (lv_at hl 1 rfl) ?_
                    refine wd_get C h kc_M h_116 6 (by decide) lk_M_25 rfl d_M_event_185 ?_
                    refine lv_iload_n hx hb d_M_event_188 rfl (lv_at hl 2 rfl) ?_
                    refine lv_iload_n hx hb d_M_event_189 rfl (lv_at hl 0 rfl) ?_
                    refine wd_iast C h 0 rfl h_117 (vp_in_nI (show k + 1 < 121 by omega) (by decide)) d_M_event_190 (fun H locs h => ?_)
                    rw [nI_clamp (show k + 1 < 2 ^ 31 by omega)] at h
                    have h : wd_C D T A s H locs (wd_up (wd_up σ (am 7) (.inl (T 1, 121, .inl (upd (fm 7) (k + 1) 0)))) (am 6) (.inl (T 0, 121, .inl (upd (fm 6) (k + 1) (yd (R k 5) ev))))) := h
                    have h_121 : (wd_up (wd_up σ (am 7) (.inl (T 1, 121, .inl (upd (fm 7) (k + 1) 0)))) (am 6) (.inl (T 0, 121, .inl (upd (fm 6) (k + 1) (yd (R k 5) ev))))) (am 6) = some (.inl (T 0, 121, .inl (upd (fm 6) (k + 1) (yd (R k 5) ev)))) := wd_us _ _ _
                    have h_122 : (wd_up (wd_up σ (am 7) (.inl (T 1, 121, .inl (upd (fm 7) (k + 1) 0)))) (am 6) (.inl (T 0, 121, .inl (upd (fm 6) (k + 1) (yd (R k 5) ev))))) y = some (.inr (4, [.int (nI n), .ref (am 1), .ref (am 2), .ref (am 3), .ref (am 4), .ref (am 5), .ref (am 6), .ref (am 7), .ref (am 8), .ref (am 9), .ref (am 10), .ref (am 11), .ref (am 12), .ref (am 13), .ref (am 14), .ref (am 15), .ref (am 16), .ref (am 17), .ref (am 18), .int (nI nc), .ref (am 20), .int (nI Q.2), .ref (am 22)])) := wd_uk h_116 (wd_ne h_116 h_117 (by simp))
                    have h_123 : (wd_up (wd_up σ (am 7) (.inl (T 1, 121, .inl (upd (fm 7) (k + 1) 0)))) (am 6) (.inl (T 0, 121, .inl (upd (fm 6) (k + 1) (yd (R k 5) ev))))) (am 7) = some (.inl (T 1, 121, .inl (upd (fm 7) (k + 1) 0))) := wd_uk h_115 (fun z => absurd (di 7 6 rfl rfl z) (by decide))
                    have h_124 : (wd_up (wd_up σ (am 7) (.inl (T 1, 121, .inl (upd (fm 7) (k + 1) 0)))) (am 6) (.inl (T 0, 121, .inl (upd (fm 6) (k + 1) (yd (R k 5) ev))))) (am 8) = some (.inl (T 0, 121, .inl (fm 8))) := wd_uk h_118 (fun z => absurd (di 8 6 rfl rfl z) (by decide))
                    have h_125 : (wd_up (wd_up σ (am 7) (.inl (T 1, 121, .inl (upd (fm 7) (k + 1) 0)))) (am 6) (.inl (T 0, 121, .inl (upd (fm 6) (k + 1) (yd (R k 5) ev))))) (am 11) = some (.inl (T 0, 121, .inl (fm 11))) := wd_uk h_119 (fun z => absurd (di 11 6 rfl rfl z) (by decide))
                    have h_126 : (wd_up (wd_up σ (am 7) (.inl (T 1, 121, .inl (upd (fm 7) (k + 1) 0)))) (am 6) (.inl (T 0, 121, .inl (upd (fm 6) (k + 1) (yd (R k 5) ev))))) (am 12) = some (.inl (T 0, 121, .inl (fm 12))) := wd_uk h_120 (fun z => absurd (di 12 6 rfl rfl z) (by decide))
                    refine lv_iload_n hx hb d_M_event_191 rfl (lv_at hl 0 rfl) ?_
                    exact wd_iret C hr hlocks h (by have hxb := xb_d (r := R k) c_12 (Or.inl c_25) (Or.inl (show ¬ ev = 8 from by rw [c_27]; decide)); rw [o_upd_some (S := (n, R, nc, CR, wg, Q)) (o_find_ok m8 hk), show f_evt (o_mw n R wg) ev (R k) = ((yd (R k 5) ev), (xu (R k) ev (yd (R k 5) ev))) from by (simp [f_evt, eq_false c_12, eq_true c_18, eq_false c_24, eq_true c_25, eq_false c_26, eq_true c_27, eq_false c_93, eq_false c_110, eq_false (z_gt c_93), hxb]; try simp [c_18, c_25, c_27])]; exact ⟨rfl, by have q9 := (hM.set2 (v' := 0) hk (f := 6) (f' := 5) (by decide) (by decide) 0 (yd (R k 5) ev)).rm; rw [ev_rec (ev := ev) (Or.inr (Or.inr ⟨(show ¬ ev = 7 from by rw [c_27]; decide), (show ¬ ev = 8 from by rw [c_27]; decide), (Eq.symm c_25)⟩))] at q9; exact q9⟩) (Nat.le_of_ble_eq_true rfl) (Nat.le_of_ble_eq_true rfl) d_M_event_192
                  · refine lv_bipush (v := (-106)) hx hb d_M_event_123 (by decide) ?_
                    exact wd_iret C hr hlocks h (by have hxb := xb_d (r := R k) c_12 (Or.inl c_25) (Or.inl (show ¬ ev = 8 from by rw [c_27]; decide)); rw [o_upd_some (S := (n, R, nc, CR, wg, Q)) (o_find_ok m8 hk), show f_evt (o_mw n R wg) ev (R k) = ((-106), (R k)) from by (simp [f_evt, eq_false c_12, eq_true c_18, eq_false c_24, eq_true c_25, eq_false c_26, eq_true c_27, eq_false c_93, eq_true c_110, eq_false (z_gt c_93), hxb]; try simp [c_18, c_25, c_27, c_110])]; exact ⟨rfl, by rw [va_up_id]; exact hM.rm⟩) (Nat.le_of_ble_eq_true rfl) (Nat.le_of_ble_eq_true rfl) d_M_event_125
            · refine lv_aload_n hx hb d_M_event_88 rfl (lv_at hl 1 rfl) ?_
              refine wd_get C h kc_M d0 7 (by decide) lk_M_28 rfl d_M_event_89 ?_
              refine lv_iload_n hx hb d_M_event_92 rfl (lv_at hl 2 rfl) ?_
              refine wd_zald C h 1 rfl c7 (vp_in_nI (show k + 1 < 121 by omega) (by decide)) d_M_event_93 ?_
              rw [nI_clamp (show k + 1 < 2 ^ 31 by omega)]
              rw [show fm 7 (k + 1) = R k 6 from m1 k hk 6 (by decide)]
              refine lv_if_ne (tgt := 100) hx hb d_M_event_94 (by decide) (fun z => absurd (show (R k 6) = 0 from c_25) z) (fun _ => ?_)
              refine lv_bipush (v := (-103)) hx hb d_M_event_97 (by decide) ?_
              exact wd_iret C hr hlocks h (by have hxb := xb_c (r := R k) c_25 c_26; rw [o_upd_some (S := (n, R, nc, CR, wg, Q)) (o_find_ok m8 hk), show f_evt (o_mw n R wg) ev (R k) = ((-103), (R k)) from by (simp [f_evt, eq_false c_12, eq_true c_18, eq_false c_24, eq_true c_25, eq_true c_26, hxb]; try simp [c_18, c_25, c_26])]; exact ⟨rfl, by rw [va_up_id]; exact hM.rm⟩) (Nat.le_of_ble_eq_true rfl) (Nat.le_of_ble_eq_true rfl) d_M_event_99
          · refine lv_iload_n hx hb d_M_event_70 rfl (lv_at hl 3 rfl) ?_
            refine lv_bipush (v := 8) hx hb d_M_event_71 (by decide) ?_
            refine lv_icmp_eq (tgt := 82) hx hb d_M_event_73 (by decide) (fun c_128 => ?_) (fun c_128 => ?_)
            · refine lv_iload_n hx hb d_M_event_82 rfl (lv_at hl 3 rfl) ?_
              refine lv_bipush (v := 8) hx hb d_M_event_83 (by decide) ?_
              refine lv_icmp_ne (tgt := 100) hx hb d_M_event_85 (by decide) (fun z => absurd (show ev = 8 from c_128) z) (fun _ => ?_)
              refine lv_aload_n hx hb d_M_event_88 rfl (lv_at hl 1 rfl) ?_
              refine wd_get C h kc_M d0 7 (by decide) lk_M_28 rfl d_M_event_89 ?_
              refine lv_iload_n hx hb d_M_event_92 rfl (lv_at hl 2 rfl) ?_
              refine wd_zald C h 1 rfl c7 (vp_in_nI (show k + 1 < 121 by omega) (by decide)) d_M_event_93 ?_
              rw [nI_clamp (show k + 1 < 2 ^ 31 by omega)]
              rw [show fm 7 (k + 1) = R k 6 from m1 k hk 6 (by decide)]
              refine lv_if_ne (tgt := 100) hx hb d_M_event_94 (by decide) (fun _ => ?_) (fun z => absurd z (show ¬ (R k 6) = 0 from c_25))
              refine lv_iload_n hx hb d_M_event_100 rfl (lv_at hl 3 rfl) ?_
              refine lv_iconst (v := 2) hx hb d_M_event_101 (by decide) ?_
              refine lv_icmp_ne (tgt := 126) hx hb d_M_event_102 (by decide) (fun _ => ?_) (fun z => absurd z (show ¬ ev = 2 from by rw [c_128]; decide))
              refine lv_iload_n hx hb d_M_event_126 rfl (lv_at hl 3 rfl) ?_
              refine lv_iconst (v := 4) hx hb d_M_event_127 (by decide) ?_
              refine lv_icmp_ne (tgt := 152) hx hb d_M_event_128 (by decide) (fun _ => ?_) (fun z => absurd z (show ¬ ev = 4 from by rw [c_128]; decide))
              refine lv_aload_n hx hb d_M_event_152 rfl (lv_at hl 1 rfl) ?_
              refine wd_get C h kc_M d0 7 (by decide) lk_M_28 rfl d_M_event_153 ?_
              refine lv_iload_n hx hb d_M_event_156 rfl (lv_at hl 2 rfl) ?_
              refine lv_iload_n hx hb d_M_event_157 rfl (lv_at hl 3 rfl) ?_
              refine lv_bipush (v := 7) hx hb d_M_event_158 (by decide) ?_
              refine lv_icmp_eq (tgt := 178) hx hb d_M_event_160 (by decide) (fun z => absurd z (show ¬ ev = 7 from by rw [c_128]; decide)) (fun _ => ?_)
              refine lv_iload_n hx hb d_M_event_163 rfl (lv_at hl 3 rfl) ?_
              refine lv_bipush (v := 8) hx hb d_M_event_164 (by decide) ?_
              refine lv_icmp_eq (tgt := 182) hx hb d_M_event_166 (by decide) (fun _ => ?_) (fun z => absurd (show ev = 8 from c_128) z)
              refine lv_iconst (v := 0) hx hb d_M_event_182 (by decide) ?_
              refine wd_zast C h 1 rfl c7 (vp_in_nI (show k + 1 < 121 by omega) (by decide)) d_M_event_183 (fun H locs h => ?_)
              rw [show vp_nar .boolean 0 = 0 from rfl] at h
              rw [nI_clamp (show k + 1 < 2 ^ 31 by omega)] at h
              have h : wd_C D T A s H locs (wd_up σ (am 7) (.inl (T 1, 121, .inl (upd (fm 7) (k + 1) 0)))) := h
              have h_135 : (wd_up σ (am 7) (.inl (T 1, 121, .inl (upd (fm 7) (k + 1) 0)))) (am 7) = some (.inl (T 1, 121, .inl (upd (fm 7) (k + 1) 0))) := wd_us _ _ _
              have h_136 : (wd_up σ (am 7) (.inl (T 1, 121, .inl (upd (fm 7) (k + 1) 0)))) y = some (.inr (4, [.int (nI n), .ref (am 1), .ref (am 2), .ref (am 3), .ref (am 4), .ref (am 5), .ref (am 6), .ref (am 7), .ref (am 8), .ref (am 9), .ref (am 10), .ref (am 11), .ref (am 12), .ref (am 13), .ref (am 14), .ref (am 15), .ref (am 16), .ref (am 17), .ref (am 18), .int (nI nc), .ref (am 20), .int (nI Q.2), .ref (am 22)])) := wd_uk d0 (wd_ne d0 c7 (by simp))
              have h_137 : (wd_up σ (am 7) (.inl (T 1, 121, .inl (upd (fm 7) (k + 1) 0)))) (am 6) = some (.inl (T 0, 121, .inl (fm 6))) := wd_uk c6 (fun z => absurd (di 6 7 rfl rfl z) (by decide))
              have h_138 : (wd_up σ (am 7) (.inl (T 1, 121, .inl (upd (fm 7) (k + 1) 0)))) (am 8) = some (.inl (T 0, 121, .inl (fm 8))) := wd_uk c8 (fun z => absurd (di 8 7 rfl rfl z) (by decide))
              have h_139 : (wd_up σ (am 7) (.inl (T 1, 121, .inl (upd (fm 7) (k + 1) 0)))) (am 11) = some (.inl (T 0, 121, .inl (fm 11))) := wd_uk c11 (fun z => absurd (di 11 7 rfl rfl z) (by decide))
              have h_140 : (wd_up σ (am 7) (.inl (T 1, 121, .inl (upd (fm 7) (k + 1) 0)))) (am 12) = some (.inl (T 0, 121, .inl (fm 12))) := wd_uk c12 (fun z => absurd (di 12 7 rfl rfl z) (by decide))
              refine lv_aload_n hx hb d_M_event_184 rfl (lv_at hl 1 rfl) ?_
              refine wd_get C h kc_M h_136 6 (by decide) lk_M_25 rfl d_M_event_185 ?_
              refine lv_iload_n hx hb d_M_event_188 rfl (lv_at hl 2 rfl) ?_
              refine lv_iload_n hx hb d_M_event_189 rfl (lv_at hl 0 rfl) ?_
              refine wd_iast C h 0 rfl h_137 (vp_in_nI (show k + 1 < 121 by omega) (by decide)) d_M_event_190 (fun H locs h => ?_)
              rw [nI_clamp (show k + 1 < 2 ^ 31 by omega)] at h
              have h : wd_C D T A s H locs (wd_up (wd_up σ (am 7) (.inl (T 1, 121, .inl (upd (fm 7) (k + 1) 0)))) (am 6) (.inl (T 0, 121, .inl (upd (fm 6) (k + 1) (yd (R k 5) ev))))) := h
              have h_141 : (wd_up (wd_up σ (am 7) (.inl (T 1, 121, .inl (upd (fm 7) (k + 1) 0)))) (am 6) (.inl (T 0, 121, .inl (upd (fm 6) (k + 1) (yd (R k 5) ev))))) (am 6) = some (.inl (T 0, 121, .inl (upd (fm 6) (k + 1) (yd (R k 5) ev)))) := wd_us _ _ _
              have h_142 : (wd_up (wd_up σ (am 7) (.inl (T 1, 121, .inl (upd (fm 7) (k + 1) 0)))) (am 6) (.inl (T 0, 121, .inl (upd (fm 6) (k + 1) (yd (R k 5) ev))))) y = some (.inr (4, [.int (nI n), .ref (am 1), .ref (am 2), .ref (am 3), .ref (am 4), .ref (am 5), .ref (am 6), .ref (am 7), .ref (am 8), .ref (am 9), .ref (am 10), .ref (am 11), .ref (am 12), .ref (am 13), .ref (am 14), .ref (am 15), .ref (am 16), .ref (am 17), .ref (am 18), .int (nI nc), .ref (am 20), .int (nI Q.2), .ref (am 22)])) := wd_uk h_136 (wd_ne h_136 h_137 (by simp))
              have h_143 : (wd_up (wd_up σ (am 7) (.inl (T 1, 121, .inl (upd (fm 7) (k + 1) 0)))) (am 6) (.inl (T 0, 121, .inl (upd (fm 6) (k + 1) (yd (R k 5) ev))))) (am 7) = some (.inl (T 1, 121, .inl (upd (fm 7) (k + 1) 0))) := wd_uk h_135 (fun z => absurd (di 7 6 rfl rfl z) (by decide))
              have h_144 : (wd_up (wd_up σ (am 7) (.inl (T 1, 121, .inl (upd (fm 7) (k + 1) 0)))) (am 6) (.inl (T 0, 121, .inl (upd (fm 6) (k + 1) (yd (R k 5) ev))))) (am 8) = some (.inl (T 0, 121, .inl (fm 8))) := wd_uk h_138 (fun z => absurd (di 8 6 rfl rfl z) (by decide))
              have h_145 : (wd_up (wd_up σ (am 7) (.inl (T 1, 121, .inl (upd (fm 7) (k + 1) 0)))) (am 6) (.inl (T 0, 121, .inl (upd (fm 6) (k + 1) (yd (R k 5) ev))))) (am 11) = some (.inl (T 0, 121, .inl (fm 11))) := wd_uk h_139 (fun z => absurd (di 11 6 rfl rfl z) (by decide))
              have h_146 : (wd_up (wd_up σ (am 7) (.inl (T 1, 121, .inl (upd (fm 7) (k + 1) 0)))) (am 6) (.inl (T 0, 121, .inl (upd (fm 6) (k + 1) (yd (R k 5) ev))))) (am 12) = some (.inl (T 0, 121, .inl (fm 12))) := wd_uk h_140 (fun z => absurd (di 12 6 rfl rfl z) (by decide))
              refine lv_iload_n hx hb d_M_event_191 rfl (lv_at hl 0 rfl) ?_
              exact wd_iret C hr hlocks h (by have hxb := xb_d (r := R k) c_12 (Or.inr (Or.inl c_128)) (Or.inr c_25); rw [o_upd_some (S := (n, R, nc, CR, wg, Q)) (o_find_ok m8 hk), show f_evt (o_mw n R wg) ev (R k) = ((yd (R k 5) ev), (xu (R k) ev (yd (R k 5) ev))) from by (simp [f_evt, eq_false c_12, eq_true c_18, eq_false c_24, eq_false c_25, eq_true c_128, hxb]; try simp [c_18, c_128])]; exact ⟨rfl, by have q9 := (hM.set2 (v' := 0) hk (f := 6) (f' := 5) (by decide) (by decide) 0 (yd (R k 5) ev)).rm; rw [ev_rec (ev := ev) (Or.inr (Or.inl ⟨c_128, rfl⟩))] at q9; exact q9⟩) (Nat.le_of_ble_eq_true rfl) (Nat.le_of_ble_eq_true rfl) d_M_event_192
            · refine lv_iload_n hx hb d_M_event_76 rfl (lv_at hl 3 rfl) ?_
              refine lv_bipush (v := 10) hx hb d_M_event_77 (by decide) ?_
              refine lv_icmp_ne (tgt := 97) hx hb d_M_event_79 (by decide) (fun c_147 => ?_) (fun c_147 => ?_)
              · refine lv_bipush (v := (-103)) hx hb d_M_event_97 (by decide) ?_
                exact wd_iret C hr hlocks h (by have hxb := xb_b (r := R k) c_25 c_128 c_147; rw [o_upd_some (S := (n, R, nc, CR, wg, Q)) (o_find_ok m8 hk), show f_evt (o_mw n R wg) ev (R k) = ((-103), (R k)) from by (simp [f_evt, eq_false c_12, eq_true c_18, eq_false c_24, eq_false c_25, eq_false c_128, eq_false c_147, hxb]; try simp [c_18])]; exact ⟨rfl, by rw [va_up_id]; exact hM.rm⟩) (Nat.le_of_ble_eq_true rfl) (Nat.le_of_ble_eq_true rfl) d_M_event_99
              · refine lv_iload_n hx hb d_M_event_82 rfl (lv_at hl 3 rfl) ?_
                refine lv_bipush (v := 8) hx hb d_M_event_83 (by decide) ?_
                refine lv_icmp_ne (tgt := 100) hx hb d_M_event_85 (by decide) (fun _ => ?_) (fun z => absurd z (show ¬ ev = 8 from by rw [c_147]; decide))
                refine lv_iload_n hx hb d_M_event_100 rfl (lv_at hl 3 rfl) ?_
                refine lv_iconst (v := 2) hx hb d_M_event_101 (by decide) ?_
                refine lv_icmp_ne (tgt := 126) hx hb d_M_event_102 (by decide) (fun _ => ?_) (fun z => absurd z (show ¬ ev = 2 from by rw [c_147]; decide))
                refine lv_iload_n hx hb d_M_event_126 rfl (lv_at hl 3 rfl) ?_
                refine lv_iconst (v := 4) hx hb d_M_event_127 (by decide) ?_
                refine lv_icmp_ne (tgt := 152) hx hb d_M_event_128 (by decide) (fun _ => ?_) (fun z => absurd z (show ¬ ev = 4 from by rw [c_147]; decide))
                refine lv_aload_n hx hb d_M_event_152 rfl (lv_at hl 1 rfl) ?_
                refine wd_get C h kc_M d0 7 (by decide) lk_M_28 rfl d_M_event_153 ?_
                refine lv_iload_n hx hb d_M_event_156 rfl (lv_at hl 2 rfl) ?_
                refine lv_iload_n hx hb d_M_event_157 rfl (lv_at hl 3 rfl) ?_
                refine lv_bipush (v := 7) hx hb d_M_event_158 (by decide) ?_
                refine lv_icmp_eq (tgt := 178) hx hb d_M_event_160 (by decide) (fun z => absurd z (show ¬ ev = 7 from by rw [c_147]; decide)) (fun _ => ?_)
                refine lv_iload_n hx hb d_M_event_163 rfl (lv_at hl 3 rfl) ?_
                refine lv_bipush (v := 8) hx hb d_M_event_164 (by decide) ?_
                refine lv_icmp_eq (tgt := 182) hx hb d_M_event_166 (by decide) (fun z => absurd z (show ¬ ev = 8 from by rw [c_147]; decide)) (fun _ => ?_)
                refine lv_aload_n hx hb d_M_event_169 rfl (lv_at hl 1 rfl) ?_
                refine wd_get C h kc_M d0 7 (by decide) lk_M_28 rfl d_M_event_170 ?_
                refine lv_iload_n hx hb d_M_event_173 rfl (lv_at hl 2 rfl) ?_
                refine wd_zald C h 1 rfl c7 (vp_in_nI (show k + 1 < 121 by omega) (by decide)) d_M_event_174 ?_
                rw [nI_clamp (show k + 1 < 2 ^ 31 by omega)]
                rw [show fm 7 (k + 1) = R k 6 from m1 k hk 6 (by decide)]
                refine lv_if_eq (tgt := 182) hx hb d_M_event_175 (by decide) (fun z => absurd z (show ¬ (R k 6) = 0 from c_25)) (fun _ => ?_)
                refine lv_iconst (v := 1) hx hb d_M_event_178 (by decide) ?_
                refine lv_goto (tgt := 183) hx hb d_M_event_179 (by decide) ?_
                refine wd_zast C h 1 rfl c7 (vp_in_nI (show k + 1 < 121 by omega) (by decide)) d_M_event_183 (fun H locs h => ?_)
                rw [show vp_nar .boolean 1 = 1 from rfl] at h
                rw [nI_clamp (show k + 1 < 2 ^ 31 by omega)] at h
                have h : wd_C D T A s H locs (wd_up σ (am 7) (.inl (T 1, 121, .inl (upd (fm 7) (k + 1) 1)))) := h
                have h_154 : (wd_up σ (am 7) (.inl (T 1, 121, .inl (upd (fm 7) (k + 1) 1)))) (am 7) = some (.inl (T 1, 121, .inl (upd (fm 7) (k + 1) 1))) := wd_us _ _ _
                have h_155 : (wd_up σ (am 7) (.inl (T 1, 121, .inl (upd (fm 7) (k + 1) 1)))) y = some (.inr (4, [.int (nI n), .ref (am 1), .ref (am 2), .ref (am 3), .ref (am 4), .ref (am 5), .ref (am 6), .ref (am 7), .ref (am 8), .ref (am 9), .ref (am 10), .ref (am 11), .ref (am 12), .ref (am 13), .ref (am 14), .ref (am 15), .ref (am 16), .ref (am 17), .ref (am 18), .int (nI nc), .ref (am 20), .int (nI Q.2), .ref (am 22)])) := wd_uk d0 (wd_ne d0 c7 (by simp))
                have h_156 : (wd_up σ (am 7) (.inl (T 1, 121, .inl (upd (fm 7) (k + 1) 1)))) (am 6) = some (.inl (T 0, 121, .inl (fm 6))) := wd_uk c6 (fun z => absurd (di 6 7 rfl rfl z) (by decide))
                have h_157 : (wd_up σ (am 7) (.inl (T 1, 121, .inl (upd (fm 7) (k + 1) 1)))) (am 8) = some (.inl (T 0, 121, .inl (fm 8))) := wd_uk c8 (fun z => absurd (di 8 7 rfl rfl z) (by decide))
                have h_158 : (wd_up σ (am 7) (.inl (T 1, 121, .inl (upd (fm 7) (k + 1) 1)))) (am 11) = some (.inl (T 0, 121, .inl (fm 11))) := wd_uk c11 (fun z => absurd (di 11 7 rfl rfl z) (by decide))
                have h_159 : (wd_up σ (am 7) (.inl (T 1, 121, .inl (upd (fm 7) (k + 1) 1)))) (am 12) = some (.inl (T 0, 121, .inl (fm 12))) := wd_uk c12 (fun z => absurd (di 12 7 rfl rfl z) (by decide))
                refine lv_aload_n hx hb d_M_event_184 rfl (lv_at hl 1 rfl) ?_
                refine wd_get C h kc_M h_155 6 (by decide) lk_M_25 rfl d_M_event_185 ?_
                refine lv_iload_n hx hb d_M_event_188 rfl (lv_at hl 2 rfl) ?_
                refine lv_iload_n hx hb d_M_event_189 rfl (lv_at hl 0 rfl) ?_
                refine wd_iast C h 0 rfl h_156 (vp_in_nI (show k + 1 < 121 by omega) (by decide)) d_M_event_190 (fun H locs h => ?_)
                rw [nI_clamp (show k + 1 < 2 ^ 31 by omega)] at h
                have h : wd_C D T A s H locs (wd_up (wd_up σ (am 7) (.inl (T 1, 121, .inl (upd (fm 7) (k + 1) 1)))) (am 6) (.inl (T 0, 121, .inl (upd (fm 6) (k + 1) (yd (R k 5) ev))))) := h
                have h_160 : (wd_up (wd_up σ (am 7) (.inl (T 1, 121, .inl (upd (fm 7) (k + 1) 1)))) (am 6) (.inl (T 0, 121, .inl (upd (fm 6) (k + 1) (yd (R k 5) ev))))) (am 6) = some (.inl (T 0, 121, .inl (upd (fm 6) (k + 1) (yd (R k 5) ev)))) := wd_us _ _ _
                have h_161 : (wd_up (wd_up σ (am 7) (.inl (T 1, 121, .inl (upd (fm 7) (k + 1) 1)))) (am 6) (.inl (T 0, 121, .inl (upd (fm 6) (k + 1) (yd (R k 5) ev))))) y = some (.inr (4, [.int (nI n), .ref (am 1), .ref (am 2), .ref (am 3), .ref (am 4), .ref (am 5), .ref (am 6), .ref (am 7), .ref (am 8), .ref (am 9), .ref (am 10), .ref (am 11), .ref (am 12), .ref (am 13), .ref (am 14), .ref (am 15), .ref (am 16), .ref (am 17), .ref (am 18), .int (nI nc), .ref (am 20), .int (nI Q.2), .ref (am 22)])) := wd_uk h_155 (wd_ne h_155 h_156 (by simp))
                have h_162 : (wd_up (wd_up σ (am 7) (.inl (T 1, 121, .inl (upd (fm 7) (k + 1) 1)))) (am 6) (.inl (T 0, 121, .inl (upd (fm 6) (k + 1) (yd (R k 5) ev))))) (am 7) = some (.inl (T 1, 121, .inl (upd (fm 7) (k + 1) 1))) := wd_uk h_154 (fun z => absurd (di 7 6 rfl rfl z) (by decide))
                have h_163 : (wd_up (wd_up σ (am 7) (.inl (T 1, 121, .inl (upd (fm 7) (k + 1) 1)))) (am 6) (.inl (T 0, 121, .inl (upd (fm 6) (k + 1) (yd (R k 5) ev))))) (am 8) = some (.inl (T 0, 121, .inl (fm 8))) := wd_uk h_157 (fun z => absurd (di 8 6 rfl rfl z) (by decide))
                have h_164 : (wd_up (wd_up σ (am 7) (.inl (T 1, 121, .inl (upd (fm 7) (k + 1) 1)))) (am 6) (.inl (T 0, 121, .inl (upd (fm 6) (k + 1) (yd (R k 5) ev))))) (am 11) = some (.inl (T 0, 121, .inl (fm 11))) := wd_uk h_158 (fun z => absurd (di 11 6 rfl rfl z) (by decide))
                have h_165 : (wd_up (wd_up σ (am 7) (.inl (T 1, 121, .inl (upd (fm 7) (k + 1) 1)))) (am 6) (.inl (T 0, 121, .inl (upd (fm 6) (k + 1) (yd (R k 5) ev))))) (am 12) = some (.inl (T 0, 121, .inl (fm 12))) := wd_uk h_159 (fun z => absurd (di 12 6 rfl rfl z) (by decide))
                refine lv_iload_n hx hb d_M_event_191 rfl (lv_at hl 0 rfl) ?_
                exact wd_iret C hr hlocks h (by have hxb := xb_d (r := R k) c_12 (Or.inr (Or.inr c_147)) (Or.inl (show ¬ ev = 8 from by rw [c_147]; decide)); rw [o_upd_some (S := (n, R, nc, CR, wg, Q)) (o_find_ok m8 hk), show f_evt (o_mw n R wg) ev (R k) = ((yd (R k 5) ev), (xu (R k) ev (yd (R k 5) ev))) from by (simp [f_evt, eq_false c_12, eq_true c_18, eq_false c_24, eq_false c_25, eq_false c_128, eq_true c_147, hxb]; try simp [c_18, c_147])]; exact ⟨rfl, by have q9 := (hM.set2 (v' := 0) hk (f := 6) (f' := 5) (by decide) (by decide) 1 (yd (R k 5) ev)).rm; rw [ev_rec (ev := ev) (Or.inr (Or.inr ⟨(show ¬ ev = 7 from by rw [c_147]; decide), (show ¬ ev = 8 from by rw [c_147]; decide), ((hok k hk).2.2.2.2.2.1.resolve_left c_25).symm⟩))] at q9; exact q9⟩) (Nat.le_of_ble_eq_true rfl) (Nat.le_of_ble_eq_true rfl) d_M_event_192
      · refine lv_aload_n hx hb d_M_event_32 rfl (lv_at hl 0 rfl) ?_
        refine wd_get C h kc_M d0 8 (by decide) lk_M_32 rfl d_M_event_33 ?_
        refine lv_iload_n hx hb d_M_event_36 rfl (lv_at hl 1 rfl) ?_
        refine lv_dup2_11 hx hb d_M_event_37 rfl rfl ?_
        refine wd_iald C h 0 rfl c8 (vp_in_nI (show k + 1 < 121 by omega) (by decide)) d_M_event_38 ?_
        rw [nI_clamp (show k + 1 < 2 ^ 31 by omega)]
        rw [show fm 8 (k + 1) = R k 12 from m1 k hk 12 (by decide)]
        refine lv_iconst (v := 1) hx hb d_M_event_39 (by decide) ?_
        refine lv_iadd hx hb d_M_event_40 ?_
        refine wd_iast C h 0 rfl c8 (vp_in_nI (show k + 1 < 121 by omega) (by decide)) d_M_event_41 (fun H locs h => ?_)
        rw [nI_clamp (show k + 1 < 2 ^ 31 by omega)] at h
        have h : wd_C D T A s H locs (wd_up σ (am 8) (.inl (T 0, 121, .inl (upd (fm 8) (k + 1) ((R k 12) + 1))))) := h
        have h_166 : (wd_up σ (am 8) (.inl (T 0, 121, .inl (upd (fm 8) (k + 1) ((R k 12) + 1))))) (am 8) = some (.inl (T 0, 121, .inl (upd (fm 8) (k + 1) ((R k 12) + 1)))) := wd_us _ _ _
        have h_167 : (wd_up σ (am 8) (.inl (T 0, 121, .inl (upd (fm 8) (k + 1) ((R k 12) + 1))))) y = some (.inr (4, [.int (nI n), .ref (am 1), .ref (am 2), .ref (am 3), .ref (am 4), .ref (am 5), .ref (am 6), .ref (am 7), .ref (am 8), .ref (am 9), .ref (am 10), .ref (am 11), .ref (am 12), .ref (am 13), .ref (am 14), .ref (am 15), .ref (am 16), .ref (am 17), .ref (am 18), .int (nI nc), .ref (am 20), .int (nI Q.2), .ref (am 22)])) := wd_uk d0 (wd_ne d0 c8 (by simp))
        have h_168 : (wd_up σ (am 8) (.inl (T 0, 121, .inl (upd (fm 8) (k + 1) ((R k 12) + 1))))) (am 6) = some (.inl (T 0, 121, .inl (fm 6))) := wd_uk c6 (fun z => absurd (di 6 8 rfl rfl z) (by decide))
        have h_169 : (wd_up σ (am 8) (.inl (T 0, 121, .inl (upd (fm 8) (k + 1) ((R k 12) + 1))))) (am 7) = some (.inl (T 1, 121, .inl (fm 7))) := wd_uk c7 (fun z => absurd (di 7 8 rfl rfl z) (by decide))
        have h_170 : (wd_up σ (am 8) (.inl (T 0, 121, .inl (upd (fm 8) (k + 1) ((R k 12) + 1))))) (am 11) = some (.inl (T 0, 121, .inl (fm 11))) := wd_uk c11 (fun z => absurd (di 11 8 rfl rfl z) (by decide))
        have h_171 : (wd_up σ (am 8) (.inl (T 0, 121, .inl (upd (fm 8) (k + 1) ((R k 12) + 1))))) (am 12) = some (.inl (T 0, 121, .inl (fm 12))) := wd_uk c12 (fun z => absurd (di 12 8 rfl rfl z) (by decide))
        refine lv_bipush (v := (-105)) hx hb d_M_event_42 (by decide) ?_
        exact wd_iret C hr hlocks h (by rw [o_upd_some (S := (n, R, nc, CR, wg, Q)) (o_find_ok m8 hk), show f_evt (o_mw n R wg) ev (R k) = ((-105), (upd (R k) 12 ((R k 12) + 1))) from by (simp [f_evt, eq_false c_12, eq_false c_18])]; exact ⟨rfl, (hM.set hk (f := 12) (by decide) ((R k 12) + 1)).rm⟩) (Nat.le_of_ble_eq_true rfl) (Nat.le_of_ble_eq_true rfl) d_M_event_44
    · refine lv_bipush (v := (-102)) hx hb d_M_event_21 (by decide) ?_
      exact wd_iret C hr hlocks h (by rw [o_upd_some (S := (n, R, nc, CR, wg, Q)) (o_find_ok m8 hk), show f_evt (o_mw n R wg) ev (R k) = ((-102), (R k)) from by (simp [f_evt, eq_true c_12]; try simp [c_12])]; exact ⟨rfl, by rw [va_up_id]; exact hM.rm⟩) (Nat.le_of_ble_eq_true rfl) (Nat.le_of_ble_eq_true rfl) d_M_event_23
  · refine lv_bipush (v := (-101)) hx hb d_M_event_8 (by decide) ?_
    exact wd_iret C hr hlocks h (by rw [o_upd_none (S := (n, R, nc, CR, wg, Q)) (o_find_no c_6)]; exact ⟨rfl, hM.rm⟩) (Nat.le_of_ble_eq_true rfl) (Nat.le_of_ble_eq_true rfl) d_M_event_10
