set_option maxHeartbeats 4000000 in
set_option maxRecDepth 20000 in
theorem c_F_contents (l : Launch) (D : va_G) (T : Nat → ClassId) (A : Nat → Prop) (σ : wd_S) (x n : Nat) (R : Nat → Nat → Int32) (nc : Nat) (CR : Nat → Nat → Int32) (wg : Nat → Int32) (Q : pq) (aI aC aJ aW aB aP ab : Nat) (fI fC : Nat → Option Nat) (jn wn bk qb : Nat → Int32) (ia aa ca : Nat → Nat) (hB : RB T σ x n R nc CR wg Q aI aC aJ aW aB aP ab fI fC jn wn bk qb ia aa ca) (hok : ∀ k, k < n → okr (R k)) (i wh ce : Int32) : Met l y_F_contents (Cond.code y_F_contents b_F_contents 5 (some .int) :: wd_tb) { frames := 2, cells := 0, slots := 0, locals := 43 } (va_Pc [.ref x, .int i, .int wh, .int ce] (wd_Pre D T A σ)) (va_Qi (fun r1 σ1 => r1 = (o_upd (n, R, nc, CR, wg, Q) i (f_con wh ce)).1 ∧ RX T σ1 x (o_upd (n, R, nc, CR, wg, Q) i (f_con wh ce)).2) (wd_B D A) A) 0 0 A := by
  refine wd_ofW (by decide) (Nat.le_of_ble_eq_true rfl) ?_
  intro p e s m below meth c0 ls C hr hlocks hname h hl
  have hl : lv_has ls 5 [(0, .ref x), (1, .int i), (2, .int wh), (3, .int ce)] := hl
  have hx := C.1
  have hb := C.2.1
  obtain ⟨b1, b2, b3, b4, b5, b6, b7, b8, b9, b10, b11, b12, b13, b14⟩ := id hB
  refine lv_aload_n hx hb d_F_contents_0 rfl (lv_at hl 0 rfl) ?_
  refine lv_iload_n hx hb d_F_contents_1 rfl (lv_at hl 1 rfl) ?_
  refine wd_cq h (wd_rV (rest := []) (st0 := [.int i, .ref x]) C h kc_F b1 k_F_find wm_F_find wz_F_find lk_F_64 (c_F_find l D T A σ x aI n fI ia _ _ _ _ _ _ b1 b2 b12 (fun k hk => (b9.1 k hk).1) i) rfl rfl ⟨Nat.le_of_ble_eq_true rfl, Nat.le_of_ble_eq_true rfl⟩ rfl hl.1 rfl (Nat.le_of_ble_eq_true rfl) d_F_contents_2 ⟨Nat.le_of_ble_eq_true rfl, Nat.le_of_ble_eq_true rfl⟩) (fun r_1 σ_2 H locs hp_3 h => ?_)
  obtain ⟨e_4, es_5⟩ := hp_3
  rw [es_5] at h
  rw [e_4]
  rcases hf : o_find n i with _ | k
  · refine W.eq (g2 := F0 m 5 ls [.null]) rfl ?_
    refine lv_astoreN (lv' := [(4, .null), (0, .ref x), (1, .int i), (2, .int wh), (3, .int ce)]) hx hb d_F_contents_5 hl (by decide) rfl (fun ls hl => ?_)
    refine lv_aloadN hx hb d_F_contents_7 (lv_at hl 0 rfl) ?_
    refine lv_ifnonnullN hx hb d_F_contents_9 ?_
    refine lv_bipush (v := (-101)) hx hb d_F_contents_12 (by decide) ?_
    exact wd_iret C hr hlocks h (by rw [o_upd_none (S := (n, R, nc, CR, wg, Q)) hf]; exact ⟨rfl, hB.rx⟩) (Nat.le_of_ble_eq_true rfl) (Nat.le_of_ble_eq_true rfl) d_F_contents_14
  · refine W.eq (g2 := F0 m 5 ls [.ref (ia k)]) rfl ?_
    obtain ⟨hk, hik1, hik⟩ := o_find_some b12 hf
    obtain ⟨g1, g2, g3, g4⟩ := b9.1 k hk
    have naa : aa (2 * k) ≠ aa (2 * k + 1) := fun z => by have := b9.2.2 (2 * k) (2 * k + 1) (by omega) (by omega) z; omega
    refine lv_astore (lv' := [(4, .ref (ia k)), (0, .ref x), (1, .int i), (2, .int wh), (3, .int ce)]) hx hb d_F_contents_5 hl (by decide) rfl (fun ls hl => ?_)
    refine lv_aload hx hb d_F_contents_7 (lv_at hl 0 rfl) ?_
    refine lv_ifnonnull (tgt := 15) hx hb d_F_contents_9 (by decide) ?_
    refine lv_iload_n hx hb d_F_contents_15 rfl (lv_at hl 3 rfl) ?_
    refine lv_iconst (v := 0) hx hb d_F_contents_16 (by decide) ?_
    refine lv_bipush (v := 99) hx hb d_F_contents_17 (by decide) ?_
    refine wd_ci h (wd_rS (rest := []) (st0 := [.int 99, .int 0, .int wh]) C h k_F_within wt_F_within lk_F_46 (c_F_within l D T A σ wh 0 99) rfl rfl ⟨Nat.le_of_ble_eq_true rfl, Nat.le_of_ble_eq_true rfl⟩ rfl hl.1 rfl (Nat.le_of_ble_eq_true rfl) d_F_contents_19 ⟨Nat.le_of_ble_eq_true rfl, Nat.le_of_ble_eq_true rfl⟩) (fun r_6 σ_7 H locs hp_8 h => ?_)
    obtain ⟨e_9, es_10⟩ := hp_8
    rw [es_10] at h
    subst e_9
    refine lv_if_eq (tgt := 35) hx hb d_F_contents_22 (by decide) (fun c_11 => ?_) (fun c_11 => ?_)
    · refine lv_bipush (v := (-102)) hx hb d_F_contents_35 (by decide) ?_
      exact wd_iret C hr hlocks h (by rw [o_upd_some (S := (n, R, nc, CR, wg, Q)) hf, show f_con wh ce (R k) = ((-102), (R k)) from by simp [f_con, eq_true c_11]]; exact ⟨rfl, by rw [va_up_id]; exact hB.rx⟩) (Nat.le_of_ble_eq_true rfl) (Nat.le_of_ble_eq_true rfl) d_F_contents_37
    · refine lv_iload_n hx hb d_F_contents_25 rfl (lv_at hl 4 rfl) ?_
      refine lv_iconst (v := 0) hx hb d_F_contents_26 (by decide) ?_
      refine lv_ldc (v := 100000) hx hb C.2.2.2.1 (C.2.2.2.2 _ lk_F_50) d_F_contents_27 ?_
      refine wd_ci h (wd_rS (rest := []) (st0 := [.int 100000, .int 0, .int ce]) C h k_F_within wt_F_within lk_F_46 (c_F_within l D T A σ ce 0 100000) rfl rfl ⟨Nat.le_of_ble_eq_true rfl, Nat.le_of_ble_eq_true rfl⟩ rfl hl.1 rfl (Nat.le_of_ble_eq_true rfl) d_F_contents_29 ⟨Nat.le_of_ble_eq_true rfl, Nat.le_of_ble_eq_true rfl⟩) (fun r_12 σ_13 H locs hp_14 h => ?_)
      obtain ⟨e_15, es_16⟩ := hp_14
      rw [es_16] at h
      subst e_15
      refine lv_if_ne (tgt := 38) hx hb d_F_contents_32 (by decide) (fun c_17 => ?_) (fun c_17 => ?_)
      · refine lv_aload hx hb d_F_contents_38 (lv_at hl 0 rfl) ?_
        refine wd_getN C h kc_I g2 9 (by decide) lk_F_97 rfl d_F_contents_40 ?_
        refine lv_if_eq (tgt := 54) hx hb d_F_contents_43 (by decide) (fun c_18 => ?_) (fun c_18 => ?_)
        · refine lv_bipush (v := (-103)) hx hb d_F_contents_54 (by decide) ?_
          exact wd_iret C hr hlocks h (by rw [o_upd_some (S := (n, R, nc, CR, wg, Q)) hf, show f_con wh ce (R k) = ((-103), (R k)) from by simp [f_con, eq_false c_11, eq_false c_17, eq_true c_18]]; exact ⟨rfl, by rw [va_up_id]; exact hB.rx⟩) (Nat.le_of_ble_eq_true rfl) (Nat.le_of_ble_eq_true rfl) d_F_contents_56
        · refine lv_aload hx hb d_F_contents_46 (lv_at hl 0 rfl) ?_
          refine wd_ci h (wd_rVN (rest := []) (st0 := [.ref (ia k)]) C h kc_I g2 k_I_isAtEnd wm_I_isAtEnd wz_I_isAtEnd lk_F_72 (c_I_isAtEnd l D T A σ (ia k) (R k) (aa (2 * k)) (aa (2 * k + 1)) g2 ) rfl rfl ⟨Nat.le_of_ble_eq_true rfl, Nat.le_of_ble_eq_true rfl⟩ rfl hl.1 rfl (Nat.le_of_ble_eq_true rfl) d_F_contents_48 ⟨Nat.le_of_ble_eq_true rfl, Nat.le_of_ble_eq_true rfl⟩) (fun r_19 σ_20 H locs hp_21 h => ?_)
          obtain ⟨e_22, es_23⟩ := hp_21
          rw [es_23] at h
          subst e_22
          refine lv_if_eq (tgt := 57) hx hb d_F_contents_51 (by decide) (fun c_24 => ?_) (fun c_24 => ?_)
          · refine lv_aload hx hb d_F_contents_57 (lv_at hl 0 rfl) ?_
            refine wd_getN C h kc_I g2 14 (by decide) lk_F_100 rfl d_F_contents_59 ?_
            refine lv_iconst (v := 4) hx hb d_F_contents_62 (by decide) ?_
            refine lv_icmp_lt (tgt := 69) hx hb d_F_contents_63 (by decide) (fun c_25 => ?_) (fun c_25 => ?_)
            · refine lv_aload hx hb d_F_contents_69 (lv_at hl 0 rfl) ?_
              refine wd_getN C h kc_I g2 15 (by decide) lk_F_122 rfl d_F_contents_71 ?_
              refine lv_aload hx hb d_F_contents_74 (lv_at hl 0 rfl) ?_
              refine wd_getN C h kc_I g2 14 (by decide) lk_F_100 rfl d_F_contents_76 ?_
              refine lv_iload_n hx hb d_F_contents_79 rfl (lv_at hl 3 rfl) ?_
              refine wd_iast C h 0 rfl g3 ((hok k hk).m c_25) d_F_contents_80 (fun H locs h => ?_)
              have h : wd_C D T A s H locs (wd_up σ (aa (2 * k)) (.inl (T 0, 4, .inl (upd (fun j => R k (15 + 2 * j)) (R k 14).toNatClampNeg wh)))) := h
              have h_26 : (wd_up σ (aa (2 * k)) (.inl (T 0, 4, .inl (upd (fun j => R k (15 + 2 * j)) (R k 14).toNatClampNeg wh)))) (aa (2 * k)) = some (.inl (T 0, 4, .inl (upd (fun j => R k (15 + 2 * j)) (R k 14).toNatClampNeg wh))) := wd_us _ _ _
              have h_27 : (wd_up σ (aa (2 * k)) (.inl (T 0, 4, .inl (upd (fun j => R k (15 + 2 * j)) (R k 14).toNatClampNeg wh)))) x = some (.inr (0, [.ref aI, .int (nI n), .ref aC, .int (nI nc), .ref aJ, .ref aW, .ref aB, .ref aP])) := wd_uk b1 (wd_ne b1 g3 (by simp))
              have h_28 : (wd_up σ (aa (2 * k)) (.inl (T 0, 4, .inl (upd (fun j => R k (15 + 2 * j)) (R k 14).toNatClampNeg wh)))) (ia k) = some (xI (R k) (aa (2 * k)) (aa (2 * k + 1))) := wd_uk g2 (wd_ne g2 g3 (by simp))
              have h_29 : (wd_up σ (aa (2 * k)) (.inl (T 0, 4, .inl (upd (fun j => R k (15 + 2 * j)) (R k 14).toNatClampNeg wh)))) (aa (2 * k + 1)) = some (aN T 4 (fun j => R k (16 + 2 * j))) := wd_uk g4 (Ne.symm naa)
              refine lv_aload hx hb d_F_contents_81 (lv_at hl 0 rfl) ?_
              refine wd_getN C h kc_I h_28 16 (by decide) lk_F_125 rfl d_F_contents_83 ?_
              refine lv_aload hx hb d_F_contents_86 (lv_at hl 0 rfl) ?_
              refine wd_getN C h kc_I h_28 14 (by decide) lk_F_100 rfl d_F_contents_88 ?_
              refine lv_iload_n hx hb d_F_contents_91 rfl (lv_at hl 4 rfl) ?_
              refine wd_iast C h 0 rfl h_29 ((hok k hk).m c_25) d_F_contents_92 (fun H locs h => ?_)
              have h : wd_C D T A s H locs (wd_up (wd_up σ (aa (2 * k)) (.inl (T 0, 4, .inl (upd (fun j => R k (15 + 2 * j)) (R k 14).toNatClampNeg wh)))) (aa (2 * k + 1)) (.inl (T 0, 4, .inl (upd (fun j => R k (16 + 2 * j)) (R k 14).toNatClampNeg ce)))) := h
              have h_30 : (wd_up (wd_up σ (aa (2 * k)) (.inl (T 0, 4, .inl (upd (fun j => R k (15 + 2 * j)) (R k 14).toNatClampNeg wh)))) (aa (2 * k + 1)) (.inl (T 0, 4, .inl (upd (fun j => R k (16 + 2 * j)) (R k 14).toNatClampNeg ce)))) (aa (2 * k + 1)) = some (.inl (T 0, 4, .inl (upd (fun j => R k (16 + 2 * j)) (R k 14).toNatClampNeg ce))) := wd_us _ _ _
              have h_31 : (wd_up (wd_up σ (aa (2 * k)) (.inl (T 0, 4, .inl (upd (fun j => R k (15 + 2 * j)) (R k 14).toNatClampNeg wh)))) (aa (2 * k + 1)) (.inl (T 0, 4, .inl (upd (fun j => R k (16 + 2 * j)) (R k 14).toNatClampNeg ce)))) x = some (.inr (0, [.ref aI, .int (nI n), .ref aC, .int (nI nc), .ref aJ, .ref aW, .ref aB, .ref aP])) := wd_uk h_27 (wd_ne h_27 h_29 (by simp))
              have h_32 : (wd_up (wd_up σ (aa (2 * k)) (.inl (T 0, 4, .inl (upd (fun j => R k (15 + 2 * j)) (R k 14).toNatClampNeg wh)))) (aa (2 * k + 1)) (.inl (T 0, 4, .inl (upd (fun j => R k (16 + 2 * j)) (R k 14).toNatClampNeg ce)))) (ia k) = some (xI (R k) (aa (2 * k)) (aa (2 * k + 1))) := wd_uk h_28 (wd_ne h_28 h_29 (by simp))
              have h_33 : (wd_up (wd_up σ (aa (2 * k)) (.inl (T 0, 4, .inl (upd (fun j => R k (15 + 2 * j)) (R k 14).toNatClampNeg wh)))) (aa (2 * k + 1)) (.inl (T 0, 4, .inl (upd (fun j => R k (16 + 2 * j)) (R k 14).toNatClampNeg ce)))) (aa (2 * k)) = some (.inl (T 0, 4, .inl (upd (fun j => R k (15 + 2 * j)) (R k 14).toNatClampNeg wh))) := wd_uk h_26 naa
              refine lv_aload hx hb d_F_contents_93 (lv_at hl 0 rfl) ?_
              refine lv_dup hx hb d_F_contents_95 rfl ?_
              refine wd_getN C h kc_I h_32 14 (by decide) lk_F_100 rfl d_F_contents_96 ?_
              refine lv_iconst (v := 1) hx hb d_F_contents_99 (by decide) ?_
              refine lv_iadd hx hb d_F_contents_100 ?_
              refine wd_putN C h kc_I h_32 14 (by decide) lk_F_100 rfl (by rfl) (by rfl) (Nat.le_of_ble_eq_true rfl) d_F_contents_101 (fun H locs h => ?_)
              have h : wd_C D T A s H locs (wd_up (wd_up (wd_up σ (aa (2 * k)) (.inl (T 0, 4, .inl (upd (fun j => R k (15 + 2 * j)) (R k 14).toNatClampNeg wh)))) (aa (2 * k + 1)) (.inl (T 0, 4, .inl (upd (fun j => R k (16 + 2 * j)) (R k 14).toNatClampNeg ce)))) (ia k) (.inr (1, [.int (R k 0), .int (R k 1), .int (R k 2), .int (R k 3), .int (R k 4), .int (R k 5), .int (R k 6), .int (R k 7), .int (R k 8), .int (R k 9), .int (R k 10), .int (R k 11), .int (R k 12), .int (R k 13), .int ((R k 14) + 1), .ref (aa (2 * k)), .ref (aa (2 * k + 1))]))) := h
              have h_34 : (wd_up (wd_up (wd_up σ (aa (2 * k)) (.inl (T 0, 4, .inl (upd (fun j => R k (15 + 2 * j)) (R k 14).toNatClampNeg wh)))) (aa (2 * k + 1)) (.inl (T 0, 4, .inl (upd (fun j => R k (16 + 2 * j)) (R k 14).toNatClampNeg ce)))) (ia k) (.inr (1, [.int (R k 0), .int (R k 1), .int (R k 2), .int (R k 3), .int (R k 4), .int (R k 5), .int (R k 6), .int (R k 7), .int (R k 8), .int (R k 9), .int (R k 10), .int (R k 11), .int (R k 12), .int (R k 13), .int ((R k 14) + 1), .ref (aa (2 * k)), .ref (aa (2 * k + 1))]))) (ia k) = some (.inr (1, [.int (R k 0), .int (R k 1), .int (R k 2), .int (R k 3), .int (R k 4), .int (R k 5), .int (R k 6), .int (R k 7), .int (R k 8), .int (R k 9), .int (R k 10), .int (R k 11), .int (R k 12), .int (R k 13), .int ((R k 14) + 1), .ref (aa (2 * k)), .ref (aa (2 * k + 1))])) := wd_us _ _ _
              have h_35 : (wd_up (wd_up (wd_up σ (aa (2 * k)) (.inl (T 0, 4, .inl (upd (fun j => R k (15 + 2 * j)) (R k 14).toNatClampNeg wh)))) (aa (2 * k + 1)) (.inl (T 0, 4, .inl (upd (fun j => R k (16 + 2 * j)) (R k 14).toNatClampNeg ce)))) (ia k) (.inr (1, [.int (R k 0), .int (R k 1), .int (R k 2), .int (R k 3), .int (R k 4), .int (R k 5), .int (R k 6), .int (R k 7), .int (R k 8), .int (R k 9), .int (R k 10), .int (R k 11), .int (R k 12), .int (R k 13), .int ((R k 14) + 1), .ref (aa (2 * k)), .ref (aa (2 * k + 1))]))) x = some (.inr (0, [.ref aI, .int (nI n), .ref aC, .int (nI nc), .ref aJ, .ref aW, .ref aB, .ref aP])) := wd_uk h_31 (wd_ne h_31 h_32 (by simp))
              have h_36 : (wd_up (wd_up (wd_up σ (aa (2 * k)) (.inl (T 0, 4, .inl (upd (fun j => R k (15 + 2 * j)) (R k 14).toNatClampNeg wh)))) (aa (2 * k + 1)) (.inl (T 0, 4, .inl (upd (fun j => R k (16 + 2 * j)) (R k 14).toNatClampNeg ce)))) (ia k) (.inr (1, [.int (R k 0), .int (R k 1), .int (R k 2), .int (R k 3), .int (R k 4), .int (R k 5), .int (R k 6), .int (R k 7), .int (R k 8), .int (R k 9), .int (R k 10), .int (R k 11), .int (R k 12), .int (R k 13), .int ((R k 14) + 1), .ref (aa (2 * k)), .ref (aa (2 * k + 1))]))) (aa (2 * k)) = some (.inl (T 0, 4, .inl (upd (fun j => R k (15 + 2 * j)) (R k 14).toNatClampNeg wh))) := wd_uk h_33 (wd_ne h_33 h_32 (by simp))
              have h_37 : (wd_up (wd_up (wd_up σ (aa (2 * k)) (.inl (T 0, 4, .inl (upd (fun j => R k (15 + 2 * j)) (R k 14).toNatClampNeg wh)))) (aa (2 * k + 1)) (.inl (T 0, 4, .inl (upd (fun j => R k (16 + 2 * j)) (R k 14).toNatClampNeg ce)))) (ia k) (.inr (1, [.int (R k 0), .int (R k 1), .int (R k 2), .int (R k 3), .int (R k 4), .int (R k 5), .int (R k 6), .int (R k 7), .int (R k 8), .int (R k 9), .int (R k 10), .int (R k 11), .int (R k 12), .int (R k 13), .int ((R k 14) + 1), .ref (aa (2 * k)), .ref (aa (2 * k + 1))]))) (aa (2 * k + 1)) = some (.inl (T 0, 4, .inl (upd (fun j => R k (16 + 2 * j)) (R k 14).toNatClampNeg ce))) := wd_uk h_30 (wd_ne h_30 h_32 (by simp))
              refine lv_aload hx hb d_F_contents_104 (lv_at hl 0 rfl) ?_
              refine wd_getN C h kc_I h_34 14 (by decide) lk_F_100 rfl d_F_contents_106 ?_
              exact wd_iret C hr hlocks h (by rw [o_upd_some (S := (n, R, nc, CR, wg, Q)) hf, show f_con wh ce (R k) = (((R k 14) + 1), (upd (upd (upd (R k) (15 + 2 * (R k 14).toNatClampNeg) wh) (16 + 2 * (R k 14).toNatClampNeg) ce) 14 (R k 14 + 1))) from by simp [f_con, eq_false c_11, eq_false c_17, eq_false c_18, eq_true c_24, eq_true c_25]]; exact ⟨rfl, ((hB.rc.cont hk).rb (b11.up (con_lo (by decide)) (con_lo (by decide)))).rx⟩) (Nat.le_of_ble_eq_true rfl) (Nat.le_of_ble_eq_true rfl) d_F_contents_109
            · refine lv_bipush (v := (-104)) hx hb d_F_contents_66 (by decide) ?_
              exact wd_iret C hr hlocks h (by rw [o_upd_some (S := (n, R, nc, CR, wg, Q)) hf, show f_con wh ce (R k) = ((-104), (R k)) from by simp [f_con, eq_false c_11, eq_false c_17, eq_false c_18, eq_true c_24, eq_false c_25]]; exact ⟨rfl, by rw [va_up_id]; exact hB.rx⟩) (Nat.le_of_ble_eq_true rfl) (Nat.le_of_ble_eq_true rfl) d_F_contents_68
          · refine lv_bipush (v := (-103)) hx hb d_F_contents_54 (by decide) ?_
            exact wd_iret C hr hlocks h (by rw [o_upd_some (S := (n, R, nc, CR, wg, Q)) hf, show f_con wh ce (R k) = ((-103), (R k)) from by simp [f_con, eq_false c_11, eq_false c_17, eq_false c_18, eq_false c_24]]; exact ⟨rfl, by rw [va_up_id]; exact hB.rx⟩) (Nat.le_of_ble_eq_true rfl) (Nat.le_of_ble_eq_true rfl) d_F_contents_56
      · refine lv_bipush (v := (-102)) hx hb d_F_contents_35 (by decide) ?_
        exact wd_iret C hr hlocks h (by rw [o_upd_some (S := (n, R, nc, CR, wg, Q)) hf, show f_con wh ce (R k) = ((-102), (R k)) from by simp [f_con, eq_false c_11, eq_true c_17]]; exact ⟨rfl, by rw [va_up_id]; exact hB.rx⟩) (Nat.le_of_ble_eq_true rfl) (Nat.le_of_ble_eq_true rfl) d_F_contents_37

set_option maxHeartbeats 4000000 in
set_option maxRecDepth 20000 in
theorem c_F_join (l : Launch) (D : va_G) (T : Nat → ClassId) (A : Nat → Prop) (σ : wd_S) (x n : Nat) (R : Nat → Nat → Int32) (nc : Nat) (CR : Nat → Nat → Int32) (wg : Nat → Int32) (Q : pq) (aI aC aJ aW aB aP ab : Nat) (fI fC : Nat → Option Nat) (jn wn bk qb : Nat → Int32) (ia aa ca : Nat → Nat) (hB : RB T σ x n R nc CR wg Q aI aC aJ aW aB aP ab fI fC jn wn bk qb ia aa ca) (i c wt : Int32) : Met l y_F_join (Cond.code y_F_join b_F_join 5 (some .int) :: wd_tb) { frames := 2, cells := 0, slots := 0, locals := 43 } (va_Pc [.ref x, .int i, .int c, .int wt] (wd_Pre D T A σ)) (va_Qi (fun r1 σ1 => r1 = (o_join (n, R, nc, CR, wg, Q) i c wt).1 ∧ RX T σ1 x (o_join (n, R, nc, CR, wg, Q) i c wt).2) (wd_B D A) A) 0 0 A := by
  refine wd_ofW (by decide) (Nat.le_of_ble_eq_true rfl) ?_
  intro p e s m below meth c0 ls C hr hlocks hname h hl
  have hl : lv_has ls 5 [(0, .ref x), (1, .int i), (2, .int c), (3, .int wt)] := hl
  have hx := C.1
  have hb := C.2.1
  obtain ⟨b1, b2, b3, b4, b5, b6, b7, b8, b9, b10, b11, b12, b13, b14⟩ := id hB
  refine lv_aload_n hx hb d_F_join_0 rfl (lv_at hl 0 rfl) ?_
  refine lv_iload_n hx hb d_F_join_1 rfl (lv_at hl 1 rfl) ?_
  refine wd_cq h (wd_rV (rest := []) (st0 := [.int i, .ref x]) C h kc_F b1 k_F_find wm_F_find wz_F_find lk_F_64 (c_F_find l D T A σ x aI n fI ia _ _ _ _ _ _ b1 b2 b12 (fun k hk => (b9.1 k hk).1) i) rfl rfl ⟨Nat.le_of_ble_eq_true rfl, Nat.le_of_ble_eq_true rfl⟩ rfl hl.1 rfl (Nat.le_of_ble_eq_true rfl) d_F_join_2 ⟨Nat.le_of_ble_eq_true rfl, Nat.le_of_ble_eq_true rfl⟩) (fun r_1 σ_2 H locs hp_3 h => ?_)
  obtain ⟨e_4, es_5⟩ := hp_3
  rw [es_5] at h
  rw [e_4]
  rcases hf : o_find n i with _ | k
  · refine W.eq (g2 := F0 m 5 ls [.null]) rfl ?_
    refine lv_astoreN (lv' := [(4, .null), (0, .ref x), (1, .int i), (2, .int c), (3, .int wt)]) hx hb d_F_join_5 hl (by decide) rfl (fun ls hl => ?_)
    refine lv_aloadN hx hb d_F_join_7 (lv_at hl 0 rfl) ?_
    refine lv_ifnonnullN hx hb d_F_join_9 ?_
    refine lv_bipush (v := (-101)) hx hb d_F_join_12 (by decide) ?_
    exact wd_iret C hr hlocks h (by unfold o_join; rw [show o_find (n, R, nc, CR, wg, Q).1 i = none from hf]; exact ⟨rfl, hB.rx⟩) (Nat.le_of_ble_eq_true rfl) (Nat.le_of_ble_eq_true rfl) d_F_join_14
  · refine W.eq (g2 := F0 m 5 ls [.ref (ia k)]) rfl ?_
    obtain ⟨hk, hik1, hik⟩ := o_find_some b12 hf
    obtain ⟨g1, g2, g3, g4⟩ := b9.1 k hk
    refine lv_astore (lv' := [(4, .ref (ia k)), (0, .ref x), (1, .int i), (2, .int c), (3, .int wt)]) hx hb d_F_join_5 hl (by decide) rfl (fun ls hl => ?_)
    refine lv_aload hx hb d_F_join_7 (lv_at hl 0 rfl) ?_
    refine lv_ifnonnull (tgt := 15) hx hb d_F_join_9 (by decide) ?_
    refine lv_iload_n hx hb d_F_join_15 rfl (lv_at hl 3 rfl) ?_
    refine lv_iconst (v := 1) hx hb d_F_join_16 (by decide) ?_
    refine lv_bipush (v := 30) hx hb d_F_join_17 (by decide) ?_
    refine wd_ci h (wd_rS (rest := []) (st0 := [.int 30, .int 1, .int c]) C h k_F_within wt_F_within lk_F_46 (c_F_within l D T A σ c 1 30) rfl rfl ⟨Nat.le_of_ble_eq_true rfl, Nat.le_of_ble_eq_true rfl⟩ rfl hl.1 rfl (Nat.le_of_ble_eq_true rfl) d_F_join_19 ⟨Nat.le_of_ble_eq_true rfl, Nat.le_of_ble_eq_true rfl⟩) (fun r_6 σ_7 H locs hp_8 h => ?_)
    obtain ⟨e_9, es_10⟩ := hp_8
    rw [es_10] at h
    subst e_9
    refine lv_if_ne (tgt := 28) hx hb d_F_join_22 (by decide) (fun c_11 => ?_) (fun c_11 => ?_)
    · refine lv_aload hx hb d_F_join_28 (lv_at hl 0 rfl) ?_
      refine wd_getN C h kc_I g2 10 (by decide) lk_F_106 rfl d_F_join_30 ?_
      refine lv_if_ne (tgt := 44) hx hb d_F_join_33 (by decide) (fun c_12 => ?_) (fun c_12 => ?_)
      · refine lv_bipush (v := (-103)) hx hb d_F_join_44 (by decide) ?_
        exact wd_iret C hr hlocks h (by unfold o_join; rw [show o_find (n, R, nc, CR, wg, Q).1 i = some k from hf]; simp only [eq_false c_11, eq_false c_12, ↓reduceIte]; exact ⟨trivial, hB.rx⟩) (Nat.le_of_ble_eq_true rfl) (Nat.le_of_ble_eq_true rfl) d_F_join_46
      · refine lv_aload hx hb d_F_join_36 (lv_at hl 0 rfl) ?_
        refine wd_ci h (wd_rVN (rest := []) (st0 := [.ref (ia k)]) C h kc_I g2 k_I_isAtEnd wm_I_isAtEnd wz_I_isAtEnd lk_F_72 (c_I_isAtEnd l D T A σ (ia k) (R k) (aa (2 * k)) (aa (2 * k + 1)) g2 ) rfl rfl ⟨Nat.le_of_ble_eq_true rfl, Nat.le_of_ble_eq_true rfl⟩ rfl hl.1 rfl (Nat.le_of_ble_eq_true rfl) d_F_join_38 ⟨Nat.le_of_ble_eq_true rfl, Nat.le_of_ble_eq_true rfl⟩) (fun r_13 σ_14 H locs hp_15 h => ?_)
        obtain ⟨e_16, es_17⟩ := hp_15
        rw [es_17] at h
        subst e_16
        refine lv_if_eq (tgt := 47) hx hb d_F_join_41 (by decide) (fun c_18 => ?_) (fun c_18 => ?_)
        · refine lv_aload_n hx hb d_F_join_47 rfl (lv_at hl 1 rfl) ?_
          refine wd_get C h kc_F b1 4 (by decide) lk_F_28 rfl d_F_join_48 ?_
          refine lv_iload_n hx hb d_F_join_51 rfl (lv_at hl 3 rfl) ?_
          refine wd_iald C h 0 rfl b4 (xw_vp c_11 (by decide) (by decide)) d_F_join_52 ?_
          refine lv_if_ne (tgt := 63) hx hb d_F_join_53 (by decide) (fun c_19 => ?_) (fun c_19 => ?_)
          · refine lv_aload hx hb d_F_join_63 (lv_at hl 0 rfl) ?_
            refine lv_iload_n hx hb d_F_join_65 rfl (lv_at hl 3 rfl) ?_
            refine wd_putN C h kc_I g2 10 (by decide) lk_F_106 rfl (by rfl) (by rfl) (Nat.le_of_ble_eq_true rfl) d_F_join_66 (fun H locs h => ?_)
            have h : wd_C D T A s H locs (wd_up σ (ia k) (.inr (1, [.int (R k 0), .int (R k 1), .int (R k 2), .int (R k 3), .int (R k 4), .int (R k 5), .int (R k 6), .int (R k 7), .int (R k 8), .int (R k 9), .int c, .int (R k 11), .int (R k 12), .int (R k 13), .int (R k 14), .ref (aa (2 * k)), .ref (aa (2 * k + 1))]))) := h
            have h_20 : (wd_up σ (ia k) (.inr (1, [.int (R k 0), .int (R k 1), .int (R k 2), .int (R k 3), .int (R k 4), .int (R k 5), .int (R k 6), .int (R k 7), .int (R k 8), .int (R k 9), .int c, .int (R k 11), .int (R k 12), .int (R k 13), .int (R k 14), .ref (aa (2 * k)), .ref (aa (2 * k + 1))]))) (ia k) = some (.inr (1, [.int (R k 0), .int (R k 1), .int (R k 2), .int (R k 3), .int (R k 4), .int (R k 5), .int (R k 6), .int (R k 7), .int (R k 8), .int (R k 9), .int c, .int (R k 11), .int (R k 12), .int (R k 13), .int (R k 14), .ref (aa (2 * k)), .ref (aa (2 * k + 1))])) := wd_us _ _ _
            have h_21 : (wd_up σ (ia k) (.inr (1, [.int (R k 0), .int (R k 1), .int (R k 2), .int (R k 3), .int (R k 4), .int (R k 5), .int (R k 6), .int (R k 7), .int (R k 8), .int (R k 9), .int c, .int (R k 11), .int (R k 12), .int (R k 13), .int (R k 14), .ref (aa (2 * k)), .ref (aa (2 * k + 1))]))) x = some (.inr (0, [.ref aI, .int (nI n), .ref aC, .int (nI nc), .ref aJ, .ref aW, .ref aB, .ref aP])) := wd_uk b1 (wd_ne b1 g2 (by simp))
            have h_22 : (wd_up σ (ia k) (.inr (1, [.int (R k 0), .int (R k 1), .int (R k 2), .int (R k 3), .int (R k 4), .int (R k 5), .int (R k 6), .int (R k 7), .int (R k 8), .int (R k 9), .int c, .int (R k 11), .int (R k 12), .int (R k 13), .int (R k 14), .ref (aa (2 * k)), .ref (aa (2 * k + 1))]))) aJ = some (.inl (T 0, 31, .inl jn)) := wd_uk b4 (wd_ne b4 g2 (by simp))
            have h_23 : (wd_up σ (ia k) (.inr (1, [.int (R k 0), .int (R k 1), .int (R k 2), .int (R k 3), .int (R k 4), .int (R k 5), .int (R k 6), .int (R k 7), .int (R k 8), .int (R k 9), .int c, .int (R k 11), .int (R k 12), .int (R k 13), .int (R k 14), .ref (aa (2 * k)), .ref (aa (2 * k + 1))]))) aW = some (.inl (T 1, 31, .inl wn)) := wd_uk b5 (wd_ne b5 g2 (by simp))
            refine lv_aload_n hx hb d_F_join_69 rfl (lv_at hl 1 rfl) ?_
            refine wd_get C h kc_F h_21 4 (by decide) lk_F_28 rfl d_F_join_70 ?_
            refine lv_iload_n hx hb d_F_join_73 rfl (lv_at hl 3 rfl) ?_
            refine lv_dup2_11 hx hb d_F_join_74 rfl rfl ?_
            refine wd_iald C h 0 rfl h_22 (xw_vp c_11 (by decide) (by decide)) d_F_join_75 ?_
            refine lv_iconst (v := 1) hx hb d_F_join_76 (by decide) ?_
            refine lv_iadd hx hb d_F_join_77 ?_
            refine wd_iast C h 0 rfl h_22 (xw_vp c_11 (by decide) (by decide)) d_F_join_78 (fun H locs h => ?_)
            have h : wd_C D T A s H locs (wd_up (wd_up σ (ia k) (.inr (1, [.int (R k 0), .int (R k 1), .int (R k 2), .int (R k 3), .int (R k 4), .int (R k 5), .int (R k 6), .int (R k 7), .int (R k 8), .int (R k 9), .int c, .int (R k 11), .int (R k 12), .int (R k 13), .int (R k 14), .ref (aa (2 * k)), .ref (aa (2 * k + 1))]))) aJ (.inl (T 0, 31, .inl (upd jn c.toNatClampNeg ((jn c.toNatClampNeg) + 1))))) := h
            have h_24 : (wd_up (wd_up σ (ia k) (.inr (1, [.int (R k 0), .int (R k 1), .int (R k 2), .int (R k 3), .int (R k 4), .int (R k 5), .int (R k 6), .int (R k 7), .int (R k 8), .int (R k 9), .int c, .int (R k 11), .int (R k 12), .int (R k 13), .int (R k 14), .ref (aa (2 * k)), .ref (aa (2 * k + 1))]))) aJ (.inl (T 0, 31, .inl (upd jn c.toNatClampNeg ((jn c.toNatClampNeg) + 1))))) aJ = some (.inl (T 0, 31, .inl (upd jn c.toNatClampNeg ((jn c.toNatClampNeg) + 1)))) := wd_us _ _ _
            have h_25 : (wd_up (wd_up σ (ia k) (.inr (1, [.int (R k 0), .int (R k 1), .int (R k 2), .int (R k 3), .int (R k 4), .int (R k 5), .int (R k 6), .int (R k 7), .int (R k 8), .int (R k 9), .int c, .int (R k 11), .int (R k 12), .int (R k 13), .int (R k 14), .ref (aa (2 * k)), .ref (aa (2 * k + 1))]))) aJ (.inl (T 0, 31, .inl (upd jn c.toNatClampNeg ((jn c.toNatClampNeg) + 1))))) x = some (.inr (0, [.ref aI, .int (nI n), .ref aC, .int (nI nc), .ref aJ, .ref aW, .ref aB, .ref aP])) := wd_uk h_21 (wd_ne h_21 h_22 (by simp))
            have h_26 : (wd_up (wd_up σ (ia k) (.inr (1, [.int (R k 0), .int (R k 1), .int (R k 2), .int (R k 3), .int (R k 4), .int (R k 5), .int (R k 6), .int (R k 7), .int (R k 8), .int (R k 9), .int c, .int (R k 11), .int (R k 12), .int (R k 13), .int (R k 14), .ref (aa (2 * k)), .ref (aa (2 * k + 1))]))) aJ (.inl (T 0, 31, .inl (upd jn c.toNatClampNeg ((jn c.toNatClampNeg) + 1))))) aW = some (.inl (T 1, 31, .inl wn)) := wd_uk h_23 (Ne.symm b14)
            have h_27 : (wd_up (wd_up σ (ia k) (.inr (1, [.int (R k 0), .int (R k 1), .int (R k 2), .int (R k 3), .int (R k 4), .int (R k 5), .int (R k 6), .int (R k 7), .int (R k 8), .int (R k 9), .int c, .int (R k 11), .int (R k 12), .int (R k 13), .int (R k 14), .ref (aa (2 * k)), .ref (aa (2 * k + 1))]))) aJ (.inl (T 0, 31, .inl (upd jn c.toNatClampNeg ((jn c.toNatClampNeg) + 1))))) (ia k) = some (.inr (1, [.int (R k 0), .int (R k 1), .int (R k 2), .int (R k 3), .int (R k 4), .int (R k 5), .int (R k 6), .int (R k 7), .int (R k 8), .int (R k 9), .int c, .int (R k 11), .int (R k 12), .int (R k 13), .int (R k 14), .ref (aa (2 * k)), .ref (aa (2 * k + 1))])) := wd_uk h_20 (wd_ne h_20 h_22 (by simp))
            refine lv_aload_n hx hb d_F_join_79 rfl (lv_at hl 1 rfl) ?_
            refine wd_get C h kc_F h_25 4 (by decide) lk_F_28 rfl d_F_join_80 ?_
            refine lv_iload_n hx hb d_F_join_83 rfl (lv_at hl 3 rfl) ?_
            refine wd_iald C h 0 rfl h_24 (xw_vp c_11 (by decide) (by decide)) d_F_join_84 ?_
            exact wd_iret C hr hlocks h (by unfold o_join; rw [show o_find (n, R, nc, CR, wg, Q).1 i = some k from hf]; obtain ⟨m, m1, m2, rfl⟩ := c_in (n := 30) c_11 rfl (by decide); rw [nI_clamp (show m < 2 ^ 31 by omega)] at h c_19 ⊢; have hj := b11.1 m m1 m2; have hle := cnt_le (R := R) (f := 10) (c := nI m) n; rw [hj, nI_z (by omega)] at c_19; simp only [eq_false c_11, eq_true c_12, eq_true c_18, c_19, ↓reduceIte]; exact ⟨by rw [pk_us, hj, nI_1], ((hB.rc.item hk (fun j hj => upd_hi (by decide) hj)).cJ.rb (b11.join hk c_12 m2)).rx⟩) (Nat.le_of_ble_eq_true rfl) (Nat.le_of_ble_eq_true rfl) d_F_join_85
          · refine lv_aload_n hx hb d_F_join_56 rfl (lv_at hl 1 rfl) ?_
            refine wd_get C h kc_F b1 5 (by decide) lk_F_32 rfl d_F_join_57 ?_
            refine lv_iload_n hx hb d_F_join_60 rfl (lv_at hl 3 rfl) ?_
            refine lv_iload_n hx hb d_F_join_61 rfl (lv_at hl 4 rfl) ?_
            refine wd_zast C h 1 rfl b5 (xw_vp c_11 (by decide) (by decide)) d_F_join_62 (fun H locs h => ?_)
            have h : wd_C D T A s H locs (wd_up σ aW (.inl (T 1, 31, .inl (upd wn c.toNatClampNeg (vp_nar .boolean wt))))) := h
            have h_28 : (wd_up σ aW (.inl (T 1, 31, .inl (upd wn c.toNatClampNeg (vp_nar .boolean wt))))) aW = some (.inl (T 1, 31, .inl (upd wn c.toNatClampNeg (vp_nar .boolean wt)))) := wd_us _ _ _
            have h_29 : (wd_up σ aW (.inl (T 1, 31, .inl (upd wn c.toNatClampNeg (vp_nar .boolean wt))))) x = some (.inr (0, [.ref aI, .int (nI n), .ref aC, .int (nI nc), .ref aJ, .ref aW, .ref aB, .ref aP])) := wd_uk b1 (wd_ne b1 b5 (by simp))
            have h_30 : (wd_up σ aW (.inl (T 1, 31, .inl (upd wn c.toNatClampNeg (vp_nar .boolean wt))))) aJ = some (.inl (T 0, 31, .inl jn)) := wd_uk b4 b14
            have h_31 : (wd_up σ aW (.inl (T 1, 31, .inl (upd wn c.toNatClampNeg (vp_nar .boolean wt))))) (ia k) = some (xI (R k) (aa (2 * k)) (aa (2 * k + 1))) := wd_uk g2 (wd_ne g2 b5 (by simp))
            refine lv_aload hx hb d_F_join_63 (lv_at hl 0 rfl) ?_
            refine lv_iload_n hx hb d_F_join_65 rfl (lv_at hl 3 rfl) ?_
            refine wd_putN C h kc_I h_31 10 (by decide) lk_F_106 rfl (by rfl) (by rfl) (Nat.le_of_ble_eq_true rfl) d_F_join_66 (fun H locs h => ?_)
            have h : wd_C D T A s H locs (wd_up (wd_up σ aW (.inl (T 1, 31, .inl (upd wn c.toNatClampNeg (vp_nar .boolean wt))))) (ia k) (.inr (1, [.int (R k 0), .int (R k 1), .int (R k 2), .int (R k 3), .int (R k 4), .int (R k 5), .int (R k 6), .int (R k 7), .int (R k 8), .int (R k 9), .int c, .int (R k 11), .int (R k 12), .int (R k 13), .int (R k 14), .ref (aa (2 * k)), .ref (aa (2 * k + 1))]))) := h
            have h_32 : (wd_up (wd_up σ aW (.inl (T 1, 31, .inl (upd wn c.toNatClampNeg (vp_nar .boolean wt))))) (ia k) (.inr (1, [.int (R k 0), .int (R k 1), .int (R k 2), .int (R k 3), .int (R k 4), .int (R k 5), .int (R k 6), .int (R k 7), .int (R k 8), .int (R k 9), .int c, .int (R k 11), .int (R k 12), .int (R k 13), .int (R k 14), .ref (aa (2 * k)), .ref (aa (2 * k + 1))]))) (ia k) = some (.inr (1, [.int (R k 0), .int (R k 1), .int (R k 2), .int (R k 3), .int (R k 4), .int (R k 5), .int (R k 6), .int (R k 7), .int (R k 8), .int (R k 9), .int c, .int (R k 11), .int (R k 12), .int (R k 13), .int (R k 14), .ref (aa (2 * k)), .ref (aa (2 * k + 1))])) := wd_us _ _ _
            have h_33 : (wd_up (wd_up σ aW (.inl (T 1, 31, .inl (upd wn c.toNatClampNeg (vp_nar .boolean wt))))) (ia k) (.inr (1, [.int (R k 0), .int (R k 1), .int (R k 2), .int (R k 3), .int (R k 4), .int (R k 5), .int (R k 6), .int (R k 7), .int (R k 8), .int (R k 9), .int c, .int (R k 11), .int (R k 12), .int (R k 13), .int (R k 14), .ref (aa (2 * k)), .ref (aa (2 * k + 1))]))) x = some (.inr (0, [.ref aI, .int (nI n), .ref aC, .int (nI nc), .ref aJ, .ref aW, .ref aB, .ref aP])) := wd_uk h_29 (wd_ne h_29 h_31 (by simp))
            have h_34 : (wd_up (wd_up σ aW (.inl (T 1, 31, .inl (upd wn c.toNatClampNeg (vp_nar .boolean wt))))) (ia k) (.inr (1, [.int (R k 0), .int (R k 1), .int (R k 2), .int (R k 3), .int (R k 4), .int (R k 5), .int (R k 6), .int (R k 7), .int (R k 8), .int (R k 9), .int c, .int (R k 11), .int (R k 12), .int (R k 13), .int (R k 14), .ref (aa (2 * k)), .ref (aa (2 * k + 1))]))) aJ = some (.inl (T 0, 31, .inl jn)) := wd_uk h_30 (wd_ne h_30 h_31 (by simp))
            have h_35 : (wd_up (wd_up σ aW (.inl (T 1, 31, .inl (upd wn c.toNatClampNeg (vp_nar .boolean wt))))) (ia k) (.inr (1, [.int (R k 0), .int (R k 1), .int (R k 2), .int (R k 3), .int (R k 4), .int (R k 5), .int (R k 6), .int (R k 7), .int (R k 8), .int (R k 9), .int c, .int (R k 11), .int (R k 12), .int (R k 13), .int (R k 14), .ref (aa (2 * k)), .ref (aa (2 * k + 1))]))) aW = some (.inl (T 1, 31, .inl (upd wn c.toNatClampNeg (vp_nar .boolean wt)))) := wd_uk h_28 (wd_ne h_28 h_31 (by simp))
            refine lv_aload_n hx hb d_F_join_69 rfl (lv_at hl 1 rfl) ?_
            refine wd_get C h kc_F h_33 4 (by decide) lk_F_28 rfl d_F_join_70 ?_
            refine lv_iload_n hx hb d_F_join_73 rfl (lv_at hl 3 rfl) ?_
            refine lv_dup2_11 hx hb d_F_join_74 rfl rfl ?_
            refine wd_iald C h 0 rfl h_34 (xw_vp c_11 (by decide) (by decide)) d_F_join_75 ?_
            refine lv_iconst (v := 1) hx hb d_F_join_76 (by decide) ?_
            refine lv_iadd hx hb d_F_join_77 ?_
            refine wd_iast C h 0 rfl h_34 (xw_vp c_11 (by decide) (by decide)) d_F_join_78 (fun H locs h => ?_)
            have h : wd_C D T A s H locs (wd_up (wd_up (wd_up σ aW (.inl (T 1, 31, .inl (upd wn c.toNatClampNeg (vp_nar .boolean wt))))) (ia k) (.inr (1, [.int (R k 0), .int (R k 1), .int (R k 2), .int (R k 3), .int (R k 4), .int (R k 5), .int (R k 6), .int (R k 7), .int (R k 8), .int (R k 9), .int c, .int (R k 11), .int (R k 12), .int (R k 13), .int (R k 14), .ref (aa (2 * k)), .ref (aa (2 * k + 1))]))) aJ (.inl (T 0, 31, .inl (upd jn c.toNatClampNeg ((jn c.toNatClampNeg) + 1))))) := h
            have h_36 : (wd_up (wd_up (wd_up σ aW (.inl (T 1, 31, .inl (upd wn c.toNatClampNeg (vp_nar .boolean wt))))) (ia k) (.inr (1, [.int (R k 0), .int (R k 1), .int (R k 2), .int (R k 3), .int (R k 4), .int (R k 5), .int (R k 6), .int (R k 7), .int (R k 8), .int (R k 9), .int c, .int (R k 11), .int (R k 12), .int (R k 13), .int (R k 14), .ref (aa (2 * k)), .ref (aa (2 * k + 1))]))) aJ (.inl (T 0, 31, .inl (upd jn c.toNatClampNeg ((jn c.toNatClampNeg) + 1))))) aJ = some (.inl (T 0, 31, .inl (upd jn c.toNatClampNeg ((jn c.toNatClampNeg) + 1)))) := wd_us _ _ _
            have h_37 : (wd_up (wd_up (wd_up σ aW (.inl (T 1, 31, .inl (upd wn c.toNatClampNeg (vp_nar .boolean wt))))) (ia k) (.inr (1, [.int (R k 0), .int (R k 1), .int (R k 2), .int (R k 3), .int (R k 4), .int (R k 5), .int (R k 6), .int (R k 7), .int (R k 8), .int (R k 9), .int c, .int (R k 11), .int (R k 12), .int (R k 13), .int (R k 14), .ref (aa (2 * k)), .ref (aa (2 * k + 1))]))) aJ (.inl (T 0, 31, .inl (upd jn c.toNatClampNeg ((jn c.toNatClampNeg) + 1))))) x = some (.inr (0, [.ref aI, .int (nI n), .ref aC, .int (nI nc), .ref aJ, .ref aW, .ref aB, .ref aP])) := wd_uk h_33 (wd_ne h_33 h_34 (by simp))
            have h_38 : (wd_up (wd_up (wd_up σ aW (.inl (T 1, 31, .inl (upd wn c.toNatClampNeg (vp_nar .boolean wt))))) (ia k) (.inr (1, [.int (R k 0), .int (R k 1), .int (R k 2), .int (R k 3), .int (R k 4), .int (R k 5), .int (R k 6), .int (R k 7), .int (R k 8), .int (R k 9), .int c, .int (R k 11), .int (R k 12), .int (R k 13), .int (R k 14), .ref (aa (2 * k)), .ref (aa (2 * k + 1))]))) aJ (.inl (T 0, 31, .inl (upd jn c.toNatClampNeg ((jn c.toNatClampNeg) + 1))))) aW = some (.inl (T 1, 31, .inl (upd wn c.toNatClampNeg (vp_nar .boolean wt)))) := wd_uk h_35 (Ne.symm b14)
            have h_39 : (wd_up (wd_up (wd_up σ aW (.inl (T 1, 31, .inl (upd wn c.toNatClampNeg (vp_nar .boolean wt))))) (ia k) (.inr (1, [.int (R k 0), .int (R k 1), .int (R k 2), .int (R k 3), .int (R k 4), .int (R k 5), .int (R k 6), .int (R k 7), .int (R k 8), .int (R k 9), .int c, .int (R k 11), .int (R k 12), .int (R k 13), .int (R k 14), .ref (aa (2 * k)), .ref (aa (2 * k + 1))]))) aJ (.inl (T 0, 31, .inl (upd jn c.toNatClampNeg ((jn c.toNatClampNeg) + 1))))) (ia k) = some (.inr (1, [.int (R k 0), .int (R k 1), .int (R k 2), .int (R k 3), .int (R k 4), .int (R k 5), .int (R k 6), .int (R k 7), .int (R k 8), .int (R k 9), .int c, .int (R k 11), .int (R k 12), .int (R k 13), .int (R k 14), .ref (aa (2 * k)), .ref (aa (2 * k + 1))])) := wd_uk h_32 (wd_ne h_32 h_34 (by simp))
            refine lv_aload_n hx hb d_F_join_79 rfl (lv_at hl 1 rfl) ?_
            refine wd_get C h kc_F h_37 4 (by decide) lk_F_28 rfl d_F_join_80 ?_
            refine lv_iload_n hx hb d_F_join_83 rfl (lv_at hl 3 rfl) ?_
            refine wd_iald C h 0 rfl h_36 (xw_vp c_11 (by decide) (by decide)) d_F_join_84 ?_
            exact wd_iret C hr hlocks h (by unfold o_join; rw [show o_find (n, R, nc, CR, wg, Q).1 i = some k from hf]; obtain ⟨m, m1, m2, rfl⟩ := c_in (n := 30) c_11 rfl (by decide); rw [nI_clamp (show m < 2 ^ 31 by omega)] at h c_19 ⊢; have hj := b11.1 m m1 m2; have hle := cnt_le (R := R) (f := 10) (c := nI m) n; rw [hj, nI_z (by omega)] at c_19; simp only [eq_false c_11, eq_true c_12, eq_true c_18, c_19, ↓reduceIte]; exact ⟨by rw [pk_us, hj, c_19]; rfl, ((hB.rc.cW.item hk (fun j hj => upd_hi (by decide) hj)).cJ.rb ((b11.wait (m := m)).join hk c_12 m2)).rx⟩) (Nat.le_of_ble_eq_true rfl) (Nat.le_of_ble_eq_true rfl) d_F_join_85
        · refine lv_bipush (v := (-103)) hx hb d_F_join_44 (by decide) ?_
          exact wd_iret C hr hlocks h (by unfold o_join; rw [show o_find (n, R, nc, CR, wg, Q).1 i = some k from hf]; simp only [eq_false c_11, eq_true c_12, eq_false c_18, ↓reduceIte]; exact ⟨trivial, hB.rx⟩) (Nat.le_of_ble_eq_true rfl) (Nat.le_of_ble_eq_true rfl) d_F_join_46
    · refine lv_bipush (v := (-102)) hx hb d_F_join_25 (by decide) ?_
      exact wd_iret C hr hlocks h (by unfold o_join; rw [show o_find (n, R, nc, CR, wg, Q).1 i = some k from hf]; simp only [eq_true c_11, ↓reduceIte]; exact ⟨trivial, hB.rx⟩) (Nat.le_of_ble_eq_true rfl) (Nat.le_of_ble_eq_true rfl) d_F_join_27

set_option maxHeartbeats 4000000 in
set_option maxRecDepth 20000 in
theorem c_F_bulk (l : Launch) (D : va_G) (T : Nat → ClassId) (A : Nat → Prop) (σ : wd_S) (x n : Nat) (R : Nat → Nat → Int32) (nc : Nat) (CR : Nat → Nat → Int32) (wg : Nat → Int32) (Q : pq) (aI aC aJ aW aB aP ab : Nat) (fI fC : Nat → Option Nat) (jn wn bk qb : Nat → Int32) (ia aa ca : Nat → Nat) (hB : RB T σ x n R nc CR wg Q aI aC aJ aW aB aP ab fI fC jn wn bk qb ia aa ca) (i c : Int32) : Met l y_F_bulk (Cond.code y_F_bulk b_F_bulk 4 (some .int) :: wd_tb) { frames := 2, cells := 0, slots := 0, locals := 43 } (va_Pc [.ref x, .int i, .int c] (wd_Pre D T A σ)) (va_Qi (fun r1 σ1 => r1 = (o_bulk (n, R, nc, CR, wg, Q) i c).1 ∧ RX T σ1 x (o_bulk (n, R, nc, CR, wg, Q) i c).2) (wd_B D A) A) 0 0 A := by
  refine wd_ofW (by decide) (Nat.le_of_ble_eq_true rfl) ?_
  intro p e s m below meth c0 ls C hr hlocks hname h hl
  have hl : lv_has ls 4 [(0, .ref x), (1, .int i), (2, .int c)] := hl
  have hx := C.1
  have hb := C.2.1
  obtain ⟨b1, b2, b3, b4, b5, b6, b7, b8, b9, b10, b11, b12, b13, b14⟩ := id hB
  refine lv_aload_n hx hb d_F_bulk_0 rfl (lv_at hl 0 rfl) ?_
  refine lv_iload_n hx hb d_F_bulk_1 rfl (lv_at hl 1 rfl) ?_
  refine wd_cq h (wd_rV (rest := []) (st0 := [.int i, .ref x]) C h kc_F b1 k_F_find wm_F_find wz_F_find lk_F_64 (c_F_find l D T A σ x aI n fI ia _ _ _ _ _ _ b1 b2 b12 (fun k hk => (b9.1 k hk).1) i) rfl rfl ⟨Nat.le_of_ble_eq_true rfl, Nat.le_of_ble_eq_true rfl⟩ rfl hl.1 rfl (Nat.le_of_ble_eq_true rfl) d_F_bulk_2 ⟨Nat.le_of_ble_eq_true rfl, Nat.le_of_ble_eq_true rfl⟩) (fun r_1 σ_2 H locs hp_3 h => ?_)
  obtain ⟨e_4, es_5⟩ := hp_3
  rw [es_5] at h
  rw [e_4]
  rcases hf : o_find n i with _ | k
  · refine W.eq (g2 := F0 m 5 ls [.null]) rfl ?_
    refine lv_astore_nN (lv' := [(3, .null), (0, .ref x), (1, .int i), (2, .int c)]) hx hb d_F_bulk_5 rfl hl (by decide) rfl (fun ls hl => ?_)
    refine lv_aload_nN hx hb d_F_bulk_6 rfl (lv_at hl 0 rfl) ?_
    refine lv_ifnonnullN hx hb d_F_bulk_7 ?_
    refine lv_bipush (v := (-101)) hx hb d_F_bulk_10 (by decide) ?_
    exact wd_iret C hr hlocks h (by unfold o_bulk; rw [show o_find (n, R, nc, CR, wg, Q).1 i = none from hf]; exact ⟨rfl, hB.rx⟩) (Nat.le_of_ble_eq_true rfl) (Nat.le_of_ble_eq_true rfl) d_F_bulk_12
  · refine W.eq (g2 := F0 m 5 ls [.ref (ia k)]) rfl ?_
    obtain ⟨hk, hik1, hik⟩ := o_find_some b12 hf
    obtain ⟨g1, g2, g3, g4⟩ := b9.1 k hk
    refine lv_astore_n (lv' := [(3, .ref (ia k)), (0, .ref x), (1, .int i), (2, .int c)]) hx hb d_F_bulk_5 rfl hl (by decide) rfl (fun ls hl => ?_)
    refine lv_aload_n hx hb d_F_bulk_6 rfl (lv_at hl 0 rfl) ?_
    refine lv_ifnonnull (tgt := 13) hx hb d_F_bulk_7 (by decide) ?_
    refine lv_iload_n hx hb d_F_bulk_13 rfl (lv_at hl 3 rfl) ?_
    refine lv_iconst (v := 1) hx hb d_F_bulk_14 (by decide) ?_
    refine lv_bipush (v := 20) hx hb d_F_bulk_15 (by decide) ?_
    refine wd_ci h (wd_rS (rest := []) (st0 := [.int 20, .int 1, .int c]) C h k_F_within wt_F_within lk_F_46 (c_F_within l D T A σ c 1 20) rfl rfl ⟨Nat.le_of_ble_eq_true rfl, Nat.le_of_ble_eq_true rfl⟩ rfl hl.1 rfl (Nat.le_of_ble_eq_true rfl) d_F_bulk_17 ⟨Nat.le_of_ble_eq_true rfl, Nat.le_of_ble_eq_true rfl⟩) (fun r_6 σ_7 H locs hp_8 h => ?_)
    obtain ⟨e_9, es_10⟩ := hp_8
    rw [es_10] at h
    subst e_9
    refine lv_if_ne (tgt := 26) hx hb d_F_bulk_20 (by decide) (fun c_11 => ?_) (fun c_11 => ?_)
    · refine lv_aload_n hx hb d_F_bulk_26 rfl (lv_at hl 0 rfl) ?_
      refine wd_getN C h kc_I g2 11 (by decide) lk_F_128 rfl d_F_bulk_27 ?_
      refine lv_if_eq (tgt := 36) hx hb d_F_bulk_30 (by decide) (fun c_12 => ?_) (fun c_12 => ?_)
      · refine lv_aload_n hx hb d_F_bulk_36 rfl (lv_at hl 0 rfl) ?_
        refine lv_iload_n hx hb d_F_bulk_37 rfl (lv_at hl 3 rfl) ?_
        refine wd_putN C h kc_I g2 11 (by decide) lk_F_128 rfl (by rfl) (by rfl) (Nat.le_of_ble_eq_true rfl) d_F_bulk_38 (fun H locs h => ?_)
        have h : wd_C D T A s H locs (wd_up σ (ia k) (.inr (1, [.int (R k 0), .int (R k 1), .int (R k 2), .int (R k 3), .int (R k 4), .int (R k 5), .int (R k 6), .int (R k 7), .int (R k 8), .int (R k 9), .int (R k 10), .int c, .int (R k 12), .int (R k 13), .int (R k 14), .ref (aa (2 * k)), .ref (aa (2 * k + 1))]))) := h
        have h_13 : (wd_up σ (ia k) (.inr (1, [.int (R k 0), .int (R k 1), .int (R k 2), .int (R k 3), .int (R k 4), .int (R k 5), .int (R k 6), .int (R k 7), .int (R k 8), .int (R k 9), .int (R k 10), .int c, .int (R k 12), .int (R k 13), .int (R k 14), .ref (aa (2 * k)), .ref (aa (2 * k + 1))]))) (ia k) = some (.inr (1, [.int (R k 0), .int (R k 1), .int (R k 2), .int (R k 3), .int (R k 4), .int (R k 5), .int (R k 6), .int (R k 7), .int (R k 8), .int (R k 9), .int (R k 10), .int c, .int (R k 12), .int (R k 13), .int (R k 14), .ref (aa (2 * k)), .ref (aa (2 * k + 1))])) := wd_us _ _ _
        have h_14 : (wd_up σ (ia k) (.inr (1, [.int (R k 0), .int (R k 1), .int (R k 2), .int (R k 3), .int (R k 4), .int (R k 5), .int (R k 6), .int (R k 7), .int (R k 8), .int (R k 9), .int (R k 10), .int c, .int (R k 12), .int (R k 13), .int (R k 14), .ref (aa (2 * k)), .ref (aa (2 * k + 1))]))) x = some (.inr (0, [.ref aI, .int (nI n), .ref aC, .int (nI nc), .ref aJ, .ref aW, .ref aB, .ref aP])) := wd_uk b1 (wd_ne b1 g2 (by simp))
        have h_15 : (wd_up σ (ia k) (.inr (1, [.int (R k 0), .int (R k 1), .int (R k 2), .int (R k 3), .int (R k 4), .int (R k 5), .int (R k 6), .int (R k 7), .int (R k 8), .int (R k 9), .int (R k 10), .int c, .int (R k 12), .int (R k 13), .int (R k 14), .ref (aa (2 * k)), .ref (aa (2 * k + 1))]))) aB = some (.inl (T 0, 21, .inl bk)) := wd_uk b6 (wd_ne b6 g2 (by simp))
        refine lv_aload_n hx hb d_F_bulk_41 rfl (lv_at hl 1 rfl) ?_
        refine wd_get C h kc_F h_14 6 (by decide) lk_F_36 rfl d_F_bulk_42 ?_
        refine lv_iload_n hx hb d_F_bulk_45 rfl (lv_at hl 3 rfl) ?_
        refine lv_dup2_11 hx hb d_F_bulk_46 rfl rfl ?_
        refine wd_iald C h 0 rfl h_15 (xw_vp c_11 (by decide) (by decide)) d_F_bulk_47 ?_
        refine lv_iconst (v := 1) hx hb d_F_bulk_48 (by decide) ?_
        refine lv_iadd hx hb d_F_bulk_49 ?_
        refine wd_iast C h 0 rfl h_15 (xw_vp c_11 (by decide) (by decide)) d_F_bulk_50 (fun H locs h => ?_)
        have h : wd_C D T A s H locs (wd_up (wd_up σ (ia k) (.inr (1, [.int (R k 0), .int (R k 1), .int (R k 2), .int (R k 3), .int (R k 4), .int (R k 5), .int (R k 6), .int (R k 7), .int (R k 8), .int (R k 9), .int (R k 10), .int c, .int (R k 12), .int (R k 13), .int (R k 14), .ref (aa (2 * k)), .ref (aa (2 * k + 1))]))) aB (.inl (T 0, 21, .inl (upd bk c.toNatClampNeg ((bk c.toNatClampNeg) + 1))))) := h
        have h_16 : (wd_up (wd_up σ (ia k) (.inr (1, [.int (R k 0), .int (R k 1), .int (R k 2), .int (R k 3), .int (R k 4), .int (R k 5), .int (R k 6), .int (R k 7), .int (R k 8), .int (R k 9), .int (R k 10), .int c, .int (R k 12), .int (R k 13), .int (R k 14), .ref (aa (2 * k)), .ref (aa (2 * k + 1))]))) aB (.inl (T 0, 21, .inl (upd bk c.toNatClampNeg ((bk c.toNatClampNeg) + 1))))) aB = some (.inl (T 0, 21, .inl (upd bk c.toNatClampNeg ((bk c.toNatClampNeg) + 1)))) := wd_us _ _ _
        have h_17 : (wd_up (wd_up σ (ia k) (.inr (1, [.int (R k 0), .int (R k 1), .int (R k 2), .int (R k 3), .int (R k 4), .int (R k 5), .int (R k 6), .int (R k 7), .int (R k 8), .int (R k 9), .int (R k 10), .int c, .int (R k 12), .int (R k 13), .int (R k 14), .ref (aa (2 * k)), .ref (aa (2 * k + 1))]))) aB (.inl (T 0, 21, .inl (upd bk c.toNatClampNeg ((bk c.toNatClampNeg) + 1))))) x = some (.inr (0, [.ref aI, .int (nI n), .ref aC, .int (nI nc), .ref aJ, .ref aW, .ref aB, .ref aP])) := wd_uk h_14 (wd_ne h_14 h_15 (by simp))
        have h_18 : (wd_up (wd_up σ (ia k) (.inr (1, [.int (R k 0), .int (R k 1), .int (R k 2), .int (R k 3), .int (R k 4), .int (R k 5), .int (R k 6), .int (R k 7), .int (R k 8), .int (R k 9), .int (R k 10), .int c, .int (R k 12), .int (R k 13), .int (R k 14), .ref (aa (2 * k)), .ref (aa (2 * k + 1))]))) aB (.inl (T 0, 21, .inl (upd bk c.toNatClampNeg ((bk c.toNatClampNeg) + 1))))) (ia k) = some (.inr (1, [.int (R k 0), .int (R k 1), .int (R k 2), .int (R k 3), .int (R k 4), .int (R k 5), .int (R k 6), .int (R k 7), .int (R k 8), .int (R k 9), .int (R k 10), .int c, .int (R k 12), .int (R k 13), .int (R k 14), .ref (aa (2 * k)), .ref (aa (2 * k + 1))])) := wd_uk h_13 (wd_ne h_13 h_15 (by simp))
        refine lv_aload_n hx hb d_F_bulk_51 rfl (lv_at hl 1 rfl) ?_
        refine wd_get C h kc_F h_17 6 (by decide) lk_F_36 rfl d_F_bulk_52 ?_
        refine lv_iload_n hx hb d_F_bulk_55 rfl (lv_at hl 3 rfl) ?_
        refine wd_iald C h 0 rfl h_16 (xw_vp c_11 (by decide) (by decide)) d_F_bulk_56 ?_
        exact wd_iret C hr hlocks h (by unfold o_bulk; rw [show o_find (n, R, nc, CR, wg, Q).1 i = some k from hf]; obtain ⟨m, m1, m2, rfl⟩ := c_in (n := 20) c_11 rfl (by decide); rw [nI_clamp (show m < 2 ^ 31 by omega)] at h ⊢; have hj := b11.2.1 m m1 m2; simp only [eq_false c_11, eq_true c_12, ↓reduceIte]; exact ⟨by rw [pk_us, hj, nI_1], ((hB.rc.item hk (fun j hj => upd_hi (by decide) hj)).cB.rb (b11.bulk hk c_12 m2)).rx⟩) (Nat.le_of_ble_eq_true rfl) (Nat.le_of_ble_eq_true rfl) d_F_bulk_57
      · refine lv_bipush (v := (-103)) hx hb d_F_bulk_33 (by decide) ?_
        exact wd_iret C hr hlocks h (by unfold o_bulk; rw [show o_find (n, R, nc, CR, wg, Q).1 i = some k from hf]; simp only [eq_false c_11, eq_false c_12, ↓reduceIte]; exact ⟨trivial, hB.rx⟩) (Nat.le_of_ble_eq_true rfl) (Nat.le_of_ble_eq_true rfl) d_F_bulk_35
    · refine lv_bipush (v := (-102)) hx hb d_F_bulk_23 (by decide) ?_
      exact wd_iret C hr hlocks h (by unfold o_bulk; rw [show o_find (n, R, nc, CR, wg, Q).1 i = some k from hf]; simp only [eq_true c_11, ↓reduceIte]; exact ⟨trivial, hB.rx⟩) (Nat.le_of_ble_eq_true rfl) (Nat.le_of_ble_eq_true rfl) d_F_bulk_25
