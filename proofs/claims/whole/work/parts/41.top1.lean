theorem o_vp {n : Nat} {i : Int32} (hn : n ≤ 120) (h : ¬ xw i 1 (nI n) = 0) : vp_in (i - 1) 120 := by
  obtain ⟨k, h1, h2, h3⟩ := o_in hn h
  rw [h2]
  exact vp_in_nI (by omega) (by decide)

set_option maxHeartbeats 4000000 in
set_option maxRecDepth 20000 in
theorem c_F_find (l : Launch) (D : va_G) (T : Nat → ClassId) (A : Nat → Prop) (σ : wd_S) (x aI n : Nat) (fI : Nat → Option Nat) (ia : Nat → Nat) (v2 v3 v4 v5 v6 v7 : Value) (b1 : σ x = some (.inr (0, [.ref aI, .int (nI n), v2, v3, v4, v5, v6, v7]))) (b2 : σ aI = some (aQ T 2 120 fI)) (hn : n ≤ 120) (hf : ∀ k, k < n → fI k = some (ia k)) (i : Int32) : Met l y_F_find (Cond.code y_F_find b_F_find 2 (some (.object "ItemFacts$Item")) :: wd_tb) { frames := 1, cells := 0, slots := 0, locals := 22 } (va_Pc [.ref x, .int i] (wd_Pre D T A σ)) (va_Qq (fun r1 σ1 => r1 = (o_find n i).map ia ∧ σ1 = σ) (wd_B D A) A) 0 0 A := by
  refine wd_ofW (by decide) (Nat.le_of_ble_eq_true rfl) ?_
  intro p e s m below meth c0 ls C hr hlocks hname h hl
  have hl : lv_has ls 2 [(0, .ref x), (1, .int i)] := hl
  have hx := C.1
  have hb := C.2.1
  refine lv_iload_n hx hb d_F_find_0 rfl (lv_at hl 1 rfl) ?_
  refine lv_iconst (v := 1) hx hb d_F_find_1 (by decide) ?_
  refine lv_aload_n hx hb d_F_find_2 rfl (lv_at hl 0 rfl) ?_
  refine wd_get C h kc_F b1 1 (by decide) lk_F_15 rfl d_F_find_3 ?_
  refine wd_ci h (wd_rS (rest := []) (st0 := [.int (nI n), .int 1, .int i]) C h k_F_within wt_F_within lk_F_46 (c_F_within l D T A σ i 1 (nI n)) rfl rfl ⟨Nat.le_of_ble_eq_true rfl, Nat.le_of_ble_eq_true rfl⟩ rfl hl.1 rfl (Nat.le_of_ble_eq_true rfl) d_F_find_6 ⟨Nat.le_of_ble_eq_true rfl, Nat.le_of_ble_eq_true rfl⟩) (fun r_1 σ_2 H locs hp_3 h => ?_)
  obtain ⟨e_4, es_5⟩ := hp_3
  rw [es_5] at h
  subst e_4
  refine lv_if_ne (tgt := 14) hx hb d_F_find_9 (by decide) (fun c_6 => ?_) (fun c_6 => ?_)
  · refine lv_aload_n hx hb d_F_find_14 rfl (lv_at hl 0 rfl) ?_
    refine wd_get C h kc_F b1 0 (by decide) lk_F_11 rfl d_F_find_15 ?_
    refine lv_iload_n hx hb d_F_find_18 rfl (lv_at hl 1 rfl) ?_
    refine lv_iconst (v := 1) hx hb d_F_find_19 (by decide) ?_
    refine lv_isub hx hb d_F_find_20 ?_
    refine wd_aldq C h 2 rfl b2 (o_vp hn c_6) d_F_find_21 ?_
    exact wd_aret (x := (fI (i - 1).toNatClampNeg)) C hr hlocks h (⟨by obtain ⟨k, h1, h2, h3⟩ := o_in hn c_6; rw [show o_find n i = some k from by simp [o_find, c_6, h2, nI_clamp (show k < 2 ^ 31 by omega)], h2, nI_clamp (show k < 2 ^ 31 by omega), hf k h1]; rfl, rfl⟩) (Nat.le_of_ble_eq_true rfl) (Nat.le_of_ble_eq_true rfl) d_F_find_22
  · refine lv_null hx hb d_F_find_12 ?_
    exact wd_aret (x := none) C hr hlocks h (⟨by simp [o_find, c_6], rfl⟩) (Nat.le_of_ble_eq_true rfl) (Nat.le_of_ble_eq_true rfl) d_F_find_13

set_option maxHeartbeats 4000000 in
set_option maxRecDepth 20000 in
theorem c_F_service (l : Launch) (D : va_G) (T : Nat → ClassId) (A : Nat → Prop) (σ : wd_S) (x n : Nat) (R : Nat → Nat → Int32) (nc : Nat) (CR : Nat → Nat → Int32) (wg : Nat → Int32) (Q : pq) (aI aC aJ aW aB aP ab : Nat) (fI fC : Nat → Option Nat) (jn wn bk qb : Nat → Int32) (ia aa ca : Nat → Nat) (hB : RB T σ x n R nc CR wg Q aI aC aJ aW aB aP ab fI fC jn wn bk qb ia aa ca) (i t : Int32) : Met l y_F_service (Cond.code y_F_service b_F_service 5 (some .int) :: wd_tb) { frames := 2, cells := 0, slots := 0, locals := 45 } (va_Pc [.ref x, .int i, .int t] (wd_Pre D T A σ)) (va_Qi (fun r1 σ1 => r1 = (o_upd (n, R, nc, CR, wg, Q) i (f_srv t)).1 ∧ RX T σ1 x (o_upd (n, R, nc, CR, wg, Q) i (f_srv t)).2) (wd_B D A) A) 0 0 A := by
  refine wd_ofW (by decide) (Nat.le_of_ble_eq_true rfl) ?_
  intro p e s m below meth c0 ls C hr hlocks hname h hl
  have hl : lv_has ls 5 [(0, .ref x), (1, .int i), (2, .int t)] := hl
  have hx := C.1
  have hb := C.2.1
  obtain ⟨b1, b2, b3, b4, b5, b6, b7, b8, b9, b10, b11, b12, b13, b14⟩ := id hB
  refine lv_aload_n hx hb d_F_service_0 rfl (lv_at hl 0 rfl) ?_
  refine lv_iload_n hx hb d_F_service_1 rfl (lv_at hl 1 rfl) ?_
  refine wd_cq h (wd_rV (rest := []) (st0 := [.int i, .ref x]) C h kc_F b1 k_F_find wm_F_find wz_F_find lk_F_64 (c_F_find l D T A σ x aI n fI ia _ _ _ _ _ _ b1 b2 b12 (fun k hk => (b9.1 k hk).1) i) rfl rfl ⟨Nat.le_of_ble_eq_true rfl, Nat.le_of_ble_eq_true rfl⟩ rfl hl.1 rfl (Nat.le_of_ble_eq_true rfl) d_F_service_2 ⟨Nat.le_of_ble_eq_true rfl, Nat.le_of_ble_eq_true rfl⟩) (fun r_1 σ_2 H locs hp_3 h => ?_)
  obtain ⟨e_4, es_5⟩ := hp_3
  rw [es_5] at h
  rw [e_4]
  rcases hf : o_find n i with _ | k
  · refine W.eq (g2 := F0 m 5 ls [.null]) rfl ?_
    refine lv_astore_nN (lv' := [(3, .null), (0, .ref x), (1, .int i), (2, .int t)]) hx hb d_F_service_5 rfl hl (by decide) rfl (fun ls hl => ?_)
    refine lv_aload_nN hx hb d_F_service_6 rfl (lv_at hl 0 rfl) ?_
    refine lv_ifnonnullN hx hb d_F_service_7 ?_
    refine lv_bipush (v := (-101)) hx hb d_F_service_10 (by decide) ?_
    exact wd_iret C hr hlocks h (by rw [o_upd_none (S := (n, R, nc, CR, wg, Q)) hf]; exact ⟨rfl, hB.rx⟩) (Nat.le_of_ble_eq_true rfl) (Nat.le_of_ble_eq_true rfl) d_F_service_12
  · refine W.eq (g2 := F0 m 5 ls [.ref (ia k)]) rfl ?_
    obtain ⟨hk, hik1, hik⟩ := o_find_some b12 hf
    obtain ⟨g1, g2, g3, g4⟩ := b9.1 k hk
    refine lv_astore_n (lv' := [(3, .ref (ia k)), (0, .ref x), (1, .int i), (2, .int t)]) hx hb d_F_service_5 rfl hl (by decide) rfl (fun ls hl => ?_)
    refine lv_aload_n hx hb d_F_service_6 rfl (lv_at hl 0 rfl) ?_
    refine lv_ifnonnull (tgt := 13) hx hb d_F_service_7 (by decide) ?_
    refine lv_iload_n hx hb d_F_service_13 rfl (lv_at hl 3 rfl) ?_
    refine lv_iconst (v := 0) hx hb d_F_service_14 (by decide) ?_
    refine lv_iconst (v := 5) hx hb d_F_service_15 (by decide) ?_
    refine wd_ci h (wd_rS (rest := []) (st0 := [.int 5, .int 0, .int t]) C h k_F_within wt_F_within lk_F_46 (c_F_within l D T A σ t 0 5) rfl rfl ⟨Nat.le_of_ble_eq_true rfl, Nat.le_of_ble_eq_true rfl⟩ rfl hl.1 rfl (Nat.le_of_ble_eq_true rfl) d_F_service_16 ⟨Nat.le_of_ble_eq_true rfl, Nat.le_of_ble_eq_true rfl⟩) (fun r_6 σ_7 H locs hp_8 h => ?_)
    obtain ⟨e_9, es_10⟩ := hp_8
    rw [es_10] at h
    subst e_9
    refine lv_if_ne (tgt := 25) hx hb d_F_service_19 (by decide) (fun c_11 => ?_) (fun c_11 => ?_)
    · refine lv_aload_n hx hb d_F_service_25 rfl (lv_at hl 0 rfl) ?_
      refine lv_iload_n hx hb d_F_service_26 rfl (lv_at hl 3 rfl) ?_
      refine wd_ci h (wd_rVN (rest := []) (st0 := [.int t, .ref (ia k)]) C h kc_I g2 k_I_has wm_I_has wz_I_has lk_F_68 (c_I_has l D T A σ (ia k) (R k) (aa (2 * k)) (aa (2 * k + 1)) g2 t) rfl rfl ⟨Nat.le_of_ble_eq_true rfl, Nat.le_of_ble_eq_true rfl⟩ rfl hl.1 rfl (Nat.le_of_ble_eq_true rfl) d_F_service_27 ⟨Nat.le_of_ble_eq_true rfl, Nat.le_of_ble_eq_true rfl⟩) (fun r_12 σ_13 H locs hp_14 h => ?_)
      obtain ⟨e_15, es_16⟩ := hp_14
      rw [es_16] at h
      subst e_15
      refine lv_if_ne (tgt := 40) hx hb d_F_service_30 (by decide) (fun c_17 => ?_) (fun c_17 => ?_)
      · refine lv_bipush (v := (-103)) hx hb d_F_service_40 (by decide) ?_
        exact wd_iret C hr hlocks h (by rw [o_upd_some (S := (n, R, nc, CR, wg, Q)) hf, show f_srv t (R k) = ((-103), (R k)) from by simp [f_srv, eq_false c_11, eq_false c_17]]; exact ⟨rfl, by rw [va_up_id]; exact hB.rx⟩) (Nat.le_of_ble_eq_true rfl) (Nat.le_of_ble_eq_true rfl) d_F_service_42
      · refine lv_aload_n hx hb d_F_service_33 rfl (lv_at hl 0 rfl) ?_
        refine wd_ci h (wd_rVN (rest := []) (st0 := [.ref (ia k)]) C h kc_I g2 k_I_isAtEnd wm_I_isAtEnd wz_I_isAtEnd lk_F_72 (c_I_isAtEnd l D T A σ (ia k) (R k) (aa (2 * k)) (aa (2 * k + 1)) g2 ) rfl rfl ⟨Nat.le_of_ble_eq_true rfl, Nat.le_of_ble_eq_true rfl⟩ rfl hl.1 rfl (Nat.le_of_ble_eq_true rfl) d_F_service_34 ⟨Nat.le_of_ble_eq_true rfl, Nat.le_of_ble_eq_true rfl⟩) (fun r_18 σ_19 H locs hp_20 h => ?_)
        obtain ⟨e_21, es_22⟩ := hp_20
        rw [es_22] at h
        subst e_21
        refine lv_if_eq (tgt := 43) hx hb d_F_service_37 (by decide) (fun c_23 => ?_) (fun c_23 => ?_)
        · refine lv_aload_n hx hb d_F_service_43 rfl (lv_at hl 0 rfl) ?_
          refine lv_iload_n hx hb d_F_service_44 rfl (lv_at hl 3 rfl) ?_
          refine wd_ci h (wd_rVN (rest := []) (st0 := [.int t, .ref (ia k)]) C h kc_I g2 k_I_leastExcluding wm_I_leastExcluding wz_I_leastExcluding lk_F_76 (c_I_leastExcluding l D T A σ (ia k) (R k) (aa (2 * k)) (aa (2 * k + 1)) g2 t) rfl rfl ⟨Nat.le_of_ble_eq_true rfl, Nat.le_of_ble_eq_true rfl⟩ rfl hl.1 rfl (Nat.le_of_ble_eq_true rfl) d_F_service_45 ⟨Nat.le_of_ble_eq_true rfl, Nat.le_of_ble_eq_true rfl⟩) (fun r_24 σ_25 H locs hp_26 h => ?_)
          obtain ⟨e_27, es_28⟩ := hp_26
          rw [es_28] at h
          subst e_27
          refine lv_istore (lv' := [(4, .int (xl (R k 4) t)), (3, .ref (ia k)), (0, .ref x), (1, .int i), (2, .int t)]) hx hb d_F_service_48 hl (by decide) rfl (fun ls hl => ?_)
          refine lv_iload hx hb d_F_service_50 (lv_at hl 0 rfl) ?_
          refine lv_iconst (v := (-1)) hx hb d_F_service_52 (by decide) ?_
          refine lv_icmp_eq (tgt := 63) hx hb d_F_service_53 (by decide) (fun c_29 => ?_) (fun c_29 => ?_)
          · refine lv_aload_n hx hb d_F_service_63 rfl (lv_at hl 1 rfl) ?_
            refine lv_iload_n hx hb d_F_service_64 rfl (lv_at hl 4 rfl) ?_
            refine wd_ci h (wd_rVN (rest := []) (st0 := [.int t, .ref (ia k)]) C h kc_I g2 k_I_lacksWhatIsWanted wm_I_lacksWhatIsWanted wz_I_lacksWhatIsWanted lk_F_80 (c_I_lacksWhatIsWanted l D T A σ (ia k) (R k) (aa (2 * k)) (aa (2 * k + 1)) g2 t) rfl rfl ⟨Nat.le_of_ble_eq_true rfl, Nat.le_of_ble_eq_true rfl⟩ rfl hl.1 rfl (Nat.le_of_ble_eq_true rfl) d_F_service_65 ⟨Nat.le_of_ble_eq_true rfl, Nat.le_of_ble_eq_true rfl⟩) (fun r_30 σ_31 H locs hp_32 h => ?_)
            obtain ⟨e_33, es_34⟩ := hp_32
            rw [es_34] at h
            subst e_33
            refine lv_if_eq (tgt := 74) hx hb d_F_service_68 (by decide) (fun c_35 => ?_) (fun c_35 => ?_)
            · refine lv_aload_n hx hb d_F_service_74 rfl (lv_at hl 1 rfl) ?_
              refine lv_dup hx hb d_F_service_75 rfl ?_
              refine wd_getN C h kc_I g2 4 (by decide) lk_F_83 rfl d_F_service_76 ?_
              refine lv_iconst (v := 1) hx hb d_F_service_79 (by decide) ?_
              refine lv_iload_n hx hb d_F_service_80 rfl (lv_at hl 4 rfl) ?_
              refine lv_ishl hx hb d_F_service_81 ?_
              refine lv_ior hx hb d_F_service_82 ?_
              refine wd_putN C h kc_I g2 4 (by decide) lk_F_83 rfl (by rfl) (by rfl) (Nat.le_of_ble_eq_true rfl) d_F_service_83 (fun H locs h => ?_)
              have h : wd_C D T A s H locs (wd_up σ (ia k) (.inr (1, [.int (R k 0), .int (R k 1), .int (R k 2), .int (R k 3), .int ((R k 4) ||| (1 <<< (t &&& 31))), .int (R k 5), .int (R k 6), .int (R k 7), .int (R k 8), .int (R k 9), .int (R k 10), .int (R k 11), .int (R k 12), .int (R k 13), .int (R k 14), .ref (aa (2 * k)), .ref (aa (2 * k + 1))]))) := h
              have h_36 : (wd_up σ (ia k) (.inr (1, [.int (R k 0), .int (R k 1), .int (R k 2), .int (R k 3), .int ((R k 4) ||| (1 <<< (t &&& 31))), .int (R k 5), .int (R k 6), .int (R k 7), .int (R k 8), .int (R k 9), .int (R k 10), .int (R k 11), .int (R k 12), .int (R k 13), .int (R k 14), .ref (aa (2 * k)), .ref (aa (2 * k + 1))]))) (ia k) = some (.inr (1, [.int (R k 0), .int (R k 1), .int (R k 2), .int (R k 3), .int ((R k 4) ||| (1 <<< (t &&& 31))), .int (R k 5), .int (R k 6), .int (R k 7), .int (R k 8), .int (R k 9), .int (R k 10), .int (R k 11), .int (R k 12), .int (R k 13), .int (R k 14), .ref (aa (2 * k)), .ref (aa (2 * k + 1))])) := wd_us _ _ _
              have h_37 : (wd_up σ (ia k) (.inr (1, [.int (R k 0), .int (R k 1), .int (R k 2), .int (R k 3), .int ((R k 4) ||| (1 <<< (t &&& 31))), .int (R k 5), .int (R k 6), .int (R k 7), .int (R k 8), .int (R k 9), .int (R k 10), .int (R k 11), .int (R k 12), .int (R k 13), .int (R k 14), .ref (aa (2 * k)), .ref (aa (2 * k + 1))]))) x = some (.inr (0, [.ref aI, .int (nI n), .ref aC, .int (nI nc), .ref aJ, .ref aW, .ref aB, .ref aP])) := wd_uk b1 (wd_ne b1 g2 (by simp))
              refine lv_aload_n hx hb d_F_service_86 rfl (lv_at hl 1 rfl) ?_
              refine wd_getN C h kc_I h_36 4 (by decide) lk_F_83 rfl d_F_service_87 ?_
              refine wd_ci h (wd_rS (rest := []) (st0 := [.int ((R k 4) ||| (1 <<< (t &&& 31)))]) C h k_J_bitCount wt_J_bitCount lk_F_86 (c_J_bitCount l D T A (wd_up σ (ia k) (.inr (1, [.int (R k 0), .int (R k 1), .int (R k 2), .int (R k 3), .int ((R k 4) ||| (1 <<< (t &&& 31))), .int (R k 5), .int (R k 6), .int (R k 7), .int (R k 8), .int (R k 9), .int (R k 10), .int (R k 11), .int (R k 12), .int (R k 13), .int (R k 14), .ref (aa (2 * k)), .ref (aa (2 * k + 1))]))) ((R k 4) ||| (1 <<< (t &&& 31)))) rfl rfl ⟨Nat.le_of_ble_eq_true rfl, Nat.le_of_ble_eq_true rfl⟩ rfl hl.1 rfl (Nat.le_of_ble_eq_true rfl) d_F_service_90 ⟨Nat.le_of_ble_eq_true rfl, Nat.le_of_ble_eq_true rfl⟩) (fun r_38 σ_39 H locs hp_40 h => ?_)
              obtain ⟨e_41, es_42⟩ := hp_40
              rw [es_42] at h
              subst e_41
              exact wd_iret C hr hlocks h (by rw [o_upd_some (S := (n, R, nc, CR, wg, Q)) hf, show f_srv t (R k) = ((bc ((R k 4) ||| (1 <<< (t &&& 31)))), (upd (R k) 4 ((R k 4) ||| (1 <<< (t &&& 31))))) from by simp [f_srv, eq_false c_11, eq_true c_17, eq_true c_23, eq_true c_29, eq_true c_35]]; exact ⟨rfl, (hB.item (r := (upd (R k) 4 ((R k 4) ||| (1 <<< (t &&& 31))))) hk rfl rfl (fun j hj => upd_hi (by decide) hj)).rx⟩) (Nat.le_of_ble_eq_true rfl) (Nat.le_of_ble_eq_true rfl) d_F_service_93
            · refine lv_bipush (v := (-111)) hx hb d_F_service_71 (by decide) ?_
              exact wd_iret C hr hlocks h (by rw [o_upd_some (S := (n, R, nc, CR, wg, Q)) hf, show f_srv t (R k) = ((-111), (R k)) from by simp [f_srv, eq_false c_11, eq_true c_17, eq_true c_23, eq_true c_29, eq_false c_35]]; exact ⟨rfl, by rw [va_up_id]; exact hB.rx⟩) (Nat.le_of_ble_eq_true rfl) (Nat.le_of_ble_eq_true rfl) d_F_service_73
          · refine lv_sipush (v := (-200)) hx hb d_F_service_56 (by decide) ?_
            refine lv_iload hx hb d_F_service_59 (lv_at hl 0 rfl) ?_
            refine lv_isub hx hb d_F_service_61 ?_
            exact wd_iret C hr hlocks h (by rw [o_upd_some (S := (n, R, nc, CR, wg, Q)) hf, show f_srv t (R k) = (((-200) - (xl (R k 4) t)), (R k)) from by simp [f_srv, eq_false c_11, eq_true c_17, eq_true c_23, eq_false c_29]]; exact ⟨rfl, by rw [va_up_id]; exact hB.rx⟩) (Nat.le_of_ble_eq_true rfl) (Nat.le_of_ble_eq_true rfl) d_F_service_62
        · refine lv_bipush (v := (-103)) hx hb d_F_service_40 (by decide) ?_
          exact wd_iret C hr hlocks h (by rw [o_upd_some (S := (n, R, nc, CR, wg, Q)) hf, show f_srv t (R k) = ((-103), (R k)) from by simp [f_srv, eq_false c_11, eq_true c_17, eq_false c_23]]; exact ⟨rfl, by rw [va_up_id]; exact hB.rx⟩) (Nat.le_of_ble_eq_true rfl) (Nat.le_of_ble_eq_true rfl) d_F_service_42
    · refine lv_bipush (v := (-102)) hx hb d_F_service_22 (by decide) ?_
      exact wd_iret C hr hlocks h (by rw [o_upd_some (S := (n, R, nc, CR, wg, Q)) hf, show f_srv t (R k) = ((-102), (R k)) from by simp [f_srv, eq_true c_11]]; exact ⟨rfl, by rw [va_up_id]; exact hB.rx⟩) (Nat.le_of_ble_eq_true rfl) (Nat.le_of_ble_eq_true rfl) d_F_service_24

set_option maxHeartbeats 4000000 in
set_option maxRecDepth 20000 in
theorem c_F_address (l : Launch) (D : va_G) (T : Nat → ClassId) (A : Nat → Prop) (σ : wd_S) (x n : Nat) (R : Nat → Nat → Int32) (nc : Nat) (CR : Nat → Nat → Int32) (wg : Nat → Int32) (Q : pq) (aI aC aJ aW aB aP ab : Nat) (fI fC : Nat → Option Nat) (jn wn bk qb : Nat → Int32) (ia aa ca : Nat → Nat) (hB : RB T σ x n R nc CR wg Q aI aC aJ aW aB aP ab fI fC jn wn bk qb ia aa ca) (i wh en : Int32) : Met l y_F_address (Cond.code y_F_address b_F_address 6 (some .int) :: wd_tb) { frames := 2, cells := 0, slots := 0, locals := 43 } (va_Pc [.ref x, .int i, .int wh, .int en] (wd_Pre D T A σ)) (va_Qi (fun r1 σ1 => r1 = (o_upd (n, R, nc, CR, wg, Q) i (f_adr wh en)).1 ∧ RX T σ1 x (o_upd (n, R, nc, CR, wg, Q) i (f_adr wh en)).2) (wd_B D A) A) 0 0 A := by
  refine wd_ofW (by decide) (Nat.le_of_ble_eq_true rfl) ?_
  intro p e s m below meth c0 ls C hr hlocks hname h hl
  have hl : lv_has ls 6 [(0, .ref x), (1, .int i), (2, .int wh), (3, .int en)] := hl
  have hx := C.1
  have hb := C.2.1
  obtain ⟨b1, b2, b3, b4, b5, b6, b7, b8, b9, b10, b11, b12, b13, b14⟩ := id hB
  refine lv_aload_n hx hb d_F_address_0 rfl (lv_at hl 0 rfl) ?_
  refine lv_iload_n hx hb d_F_address_1 rfl (lv_at hl 1 rfl) ?_
  refine wd_cq h (wd_rV (rest := []) (st0 := [.int i, .ref x]) C h kc_F b1 k_F_find wm_F_find wz_F_find lk_F_64 (c_F_find l D T A σ x aI n fI ia _ _ _ _ _ _ b1 b2 b12 (fun k hk => (b9.1 k hk).1) i) rfl rfl ⟨Nat.le_of_ble_eq_true rfl, Nat.le_of_ble_eq_true rfl⟩ rfl hl.1 rfl (Nat.le_of_ble_eq_true rfl) d_F_address_2 ⟨Nat.le_of_ble_eq_true rfl, Nat.le_of_ble_eq_true rfl⟩) (fun r_1 σ_2 H locs hp_3 h => ?_)
  obtain ⟨e_4, es_5⟩ := hp_3
  rw [es_5] at h
  rw [e_4]
  rcases hf : o_find n i with _ | k
  · refine W.eq (g2 := F0 m 5 ls [.null]) rfl ?_
    refine lv_astoreN (lv' := [(4, .null), (0, .ref x), (1, .int i), (2, .int wh), (3, .int en)]) hx hb d_F_address_5 hl (by decide) rfl (fun ls hl => ?_)
    refine lv_aloadN hx hb d_F_address_7 (lv_at hl 0 rfl) ?_
    refine lv_ifnonnullN hx hb d_F_address_9 ?_
    refine lv_bipush (v := (-101)) hx hb d_F_address_12 (by decide) ?_
    exact wd_iret C hr hlocks h (by rw [o_upd_none (S := (n, R, nc, CR, wg, Q)) hf]; exact ⟨rfl, hB.rx⟩) (Nat.le_of_ble_eq_true rfl) (Nat.le_of_ble_eq_true rfl) d_F_address_14
  · refine W.eq (g2 := F0 m 5 ls [.ref (ia k)]) rfl ?_
    obtain ⟨hk, hik1, hik⟩ := o_find_some b12 hf
    obtain ⟨g1, g2, g3, g4⟩ := b9.1 k hk
    refine lv_astore (lv' := [(4, .ref (ia k)), (0, .ref x), (1, .int i), (2, .int wh), (3, .int en)]) hx hb d_F_address_5 hl (by decide) rfl (fun ls hl => ?_)
    refine lv_aload hx hb d_F_address_7 (lv_at hl 0 rfl) ?_
    refine lv_ifnonnull (tgt := 15) hx hb d_F_address_9 (by decide) ?_
    refine lv_iload_n hx hb d_F_address_15 rfl (lv_at hl 3 rfl) ?_
    refine lv_iconst (v := 0) hx hb d_F_address_16 (by decide) ?_
    refine lv_iconst (v := 1) hx hb d_F_address_17 (by decide) ?_
    refine wd_ci h (wd_rS (rest := []) (st0 := [.int 1, .int 0, .int wh]) C h k_F_within wt_F_within lk_F_46 (c_F_within l D T A σ wh 0 1) rfl rfl ⟨Nat.le_of_ble_eq_true rfl, Nat.le_of_ble_eq_true rfl⟩ rfl hl.1 rfl (Nat.le_of_ble_eq_true rfl) d_F_address_18 ⟨Nat.le_of_ble_eq_true rfl, Nat.le_of_ble_eq_true rfl⟩) (fun r_6 σ_7 H locs hp_8 h => ?_)
    obtain ⟨e_9, es_10⟩ := hp_8
    rw [es_10] at h
    subst e_9
    refine lv_if_eq (tgt := 35) hx hb d_F_address_21 (by decide) (fun c_11 => ?_) (fun c_11 => ?_)
    · refine lv_bipush (v := (-102)) hx hb d_F_address_35 (by decide) ?_
      exact wd_iret C hr hlocks h (by rw [o_upd_some (S := (n, R, nc, CR, wg, Q)) hf, show f_adr wh en (R k) = ((-102), (R k)) from by simp [f_adr, eq_true c_11]]; exact ⟨rfl, by rw [va_up_id]; exact hB.rx⟩) (Nat.le_of_ble_eq_true rfl) (Nat.le_of_ble_eq_true rfl) d_F_address_37
    · refine lv_iload_n hx hb d_F_address_24 rfl (lv_at hl 4 rfl) ?_
      refine lv_iconst (v := 0) hx hb d_F_address_25 (by decide) ?_
      refine lv_sipush (v := 9999) hx hb d_F_address_26 (by decide) ?_
      refine wd_ci h (wd_rS (rest := []) (st0 := [.int 9999, .int 0, .int en]) C h k_F_within wt_F_within lk_F_46 (c_F_within l D T A σ en 0 9999) rfl rfl ⟨Nat.le_of_ble_eq_true rfl, Nat.le_of_ble_eq_true rfl⟩ rfl hl.1 rfl (Nat.le_of_ble_eq_true rfl) d_F_address_29 ⟨Nat.le_of_ble_eq_true rfl, Nat.le_of_ble_eq_true rfl⟩) (fun r_12 σ_13 H locs hp_14 h => ?_)
      obtain ⟨e_15, es_16⟩ := hp_14
      rw [es_16] at h
      subst e_15
      refine lv_if_ne (tgt := 38) hx hb d_F_address_32 (by decide) (fun c_17 => ?_) (fun c_17 => ?_)
      · refine lv_aload hx hb d_F_address_38 (lv_at hl 0 rfl) ?_
        refine wd_ci h (wd_rVN (rest := []) (st0 := [.ref (ia k)]) C h kc_I g2 k_I_isAtEnd wm_I_isAtEnd wz_I_isAtEnd lk_F_72 (c_I_isAtEnd l D T A σ (ia k) (R k) (aa (2 * k)) (aa (2 * k + 1)) g2 ) rfl rfl ⟨Nat.le_of_ble_eq_true rfl, Nat.le_of_ble_eq_true rfl⟩ rfl hl.1 rfl (Nat.le_of_ble_eq_true rfl) d_F_address_40 ⟨Nat.le_of_ble_eq_true rfl, Nat.le_of_ble_eq_true rfl⟩) (fun r_18 σ_19 H locs hp_20 h => ?_)
        obtain ⟨e_21, es_22⟩ := hp_20
        rw [es_22] at h
        subst e_21
        refine lv_if_ne (tgt := 55) hx hb d_F_address_43 (by decide) (fun c_23 => ?_) (fun c_23 => ?_)
        · refine lv_bipush (v := (-103)) hx hb d_F_address_55 (by decide) ?_
          exact wd_iret C hr hlocks h (by rw [o_upd_some (S := (n, R, nc, CR, wg, Q)) hf, show f_adr wh en (R k) = ((-103), (R k)) from by simp [f_adr, eq_false c_11, eq_false c_17, eq_false c_23]]; exact ⟨rfl, by rw [va_up_id]; exact hB.rx⟩) (Nat.le_of_ble_eq_true rfl) (Nat.le_of_ble_eq_true rfl) d_F_address_57
        · refine lv_aload hx hb d_F_address_46 (lv_at hl 0 rfl) ?_
          refine wd_getN C h kc_I g2 8 (by decide) lk_F_116 rfl d_F_address_48 ?_
          refine lv_iconst (v := (-1)) hx hb d_F_address_51 (by decide) ?_
          refine lv_icmp_eq (tgt := 58) hx hb d_F_address_52 (by decide) (fun c_24 => ?_) (fun c_24 => ?_)
          · refine lv_iload_n hx hb d_F_address_58 rfl (lv_at hl 3 rfl) ?_
            refine lv_if_ne (tgt := 78) hx hb d_F_address_59 (by decide) (fun c_25 => ?_) (fun c_25 => ?_)
            · refine lv_aload hx hb d_F_address_78 (lv_at hl 0 rfl) ?_
              refine wd_getN C h kc_I g2 8 (by decide) lk_F_116 rfl d_F_address_80 ?_
              refine lv_istore (lv' := [(5, .int (R k 8)), (4, .ref (ia k)), (0, .ref x), (1, .int i), (2, .int wh), (3, .int en)]) hx hb d_F_address_83 hl (by decide) rfl (fun ls hl => ?_)
              refine lv_aload hx hb d_F_address_85 (lv_at hl 1 rfl) ?_
              refine lv_iload_n hx hb d_F_address_87 rfl (lv_at hl 5 rfl) ?_
              refine wd_putN C h kc_I g2 8 (by decide) lk_F_116 rfl (by rfl) (by rfl) (Nat.le_of_ble_eq_true rfl) d_F_address_88 (fun H locs h => ?_)
              have h : wd_C D T A s H locs (wd_up σ (ia k) (.inr (1, [.int (R k 0), .int (R k 1), .int (R k 2), .int (R k 3), .int (R k 4), .int (R k 5), .int (R k 6), .int (R k 7), .int en, .int (R k 9), .int (R k 10), .int (R k 11), .int (R k 12), .int (R k 13), .int (R k 14), .ref (aa (2 * k)), .ref (aa (2 * k + 1))]))) := h
              have h_26 : (wd_up σ (ia k) (.inr (1, [.int (R k 0), .int (R k 1), .int (R k 2), .int (R k 3), .int (R k 4), .int (R k 5), .int (R k 6), .int (R k 7), .int en, .int (R k 9), .int (R k 10), .int (R k 11), .int (R k 12), .int (R k 13), .int (R k 14), .ref (aa (2 * k)), .ref (aa (2 * k + 1))]))) (ia k) = some (.inr (1, [.int (R k 0), .int (R k 1), .int (R k 2), .int (R k 3), .int (R k 4), .int (R k 5), .int (R k 6), .int (R k 7), .int en, .int (R k 9), .int (R k 10), .int (R k 11), .int (R k 12), .int (R k 13), .int (R k 14), .ref (aa (2 * k)), .ref (aa (2 * k + 1))])) := wd_us _ _ _
              have h_27 : (wd_up σ (ia k) (.inr (1, [.int (R k 0), .int (R k 1), .int (R k 2), .int (R k 3), .int (R k 4), .int (R k 5), .int (R k 6), .int (R k 7), .int en, .int (R k 9), .int (R k 10), .int (R k 11), .int (R k 12), .int (R k 13), .int (R k 14), .ref (aa (2 * k)), .ref (aa (2 * k + 1))]))) x = some (.inr (0, [.ref aI, .int (nI n), .ref aC, .int (nI nc), .ref aJ, .ref aW, .ref aB, .ref aP])) := wd_uk b1 (wd_ne b1 g2 (by simp))
              refine lv_iload hx hb d_F_address_91 (lv_at hl 0 rfl) ?_
              exact wd_iret C hr hlocks h (by rw [o_upd_some (S := (n, R, nc, CR, wg, Q)) hf, show f_adr wh en (R k) = ((R k 8), (upd (R k) 8 en)) from by simp [f_adr, eq_false c_11, eq_false c_17, eq_true c_23, eq_true c_24, eq_false c_25]]; exact ⟨rfl, (hB.item (r := (upd (R k) 8 en)) hk rfl rfl (fun j hj => upd_hi (by decide) hj)).rx⟩) (Nat.le_of_ble_eq_true rfl) (Nat.le_of_ble_eq_true rfl) d_F_address_93
            · refine lv_aload hx hb d_F_address_62 (lv_at hl 0 rfl) ?_
              refine wd_getN C h kc_I g2 7 (by decide) lk_F_119 rfl d_F_address_64 ?_
              refine lv_istore (lv' := [(5, .int (R k 7)), (4, .ref (ia k)), (0, .ref x), (1, .int i), (2, .int wh), (3, .int en)]) hx hb d_F_address_67 hl (by decide) rfl (fun ls hl => ?_)
              refine lv_aload hx hb d_F_address_69 (lv_at hl 1 rfl) ?_
              refine lv_iload_n hx hb d_F_address_71 rfl (lv_at hl 5 rfl) ?_
              refine wd_putN C h kc_I g2 7 (by decide) lk_F_119 rfl (by rfl) (by rfl) (Nat.le_of_ble_eq_true rfl) d_F_address_72 (fun H locs h => ?_)
              have h : wd_C D T A s H locs (wd_up σ (ia k) (.inr (1, [.int (R k 0), .int (R k 1), .int (R k 2), .int (R k 3), .int (R k 4), .int (R k 5), .int (R k 6), .int en, .int (R k 8), .int (R k 9), .int (R k 10), .int (R k 11), .int (R k 12), .int (R k 13), .int (R k 14), .ref (aa (2 * k)), .ref (aa (2 * k + 1))]))) := h
              have h_28 : (wd_up σ (ia k) (.inr (1, [.int (R k 0), .int (R k 1), .int (R k 2), .int (R k 3), .int (R k 4), .int (R k 5), .int (R k 6), .int en, .int (R k 8), .int (R k 9), .int (R k 10), .int (R k 11), .int (R k 12), .int (R k 13), .int (R k 14), .ref (aa (2 * k)), .ref (aa (2 * k + 1))]))) (ia k) = some (.inr (1, [.int (R k 0), .int (R k 1), .int (R k 2), .int (R k 3), .int (R k 4), .int (R k 5), .int (R k 6), .int en, .int (R k 8), .int (R k 9), .int (R k 10), .int (R k 11), .int (R k 12), .int (R k 13), .int (R k 14), .ref (aa (2 * k)), .ref (aa (2 * k + 1))])) := wd_us _ _ _
              have h_29 : (wd_up σ (ia k) (.inr (1, [.int (R k 0), .int (R k 1), .int (R k 2), .int (R k 3), .int (R k 4), .int (R k 5), .int (R k 6), .int en, .int (R k 8), .int (R k 9), .int (R k 10), .int (R k 11), .int (R k 12), .int (R k 13), .int (R k 14), .ref (aa (2 * k)), .ref (aa (2 * k + 1))]))) x = some (.inr (0, [.ref aI, .int (nI n), .ref aC, .int (nI nc), .ref aJ, .ref aW, .ref aB, .ref aP])) := wd_uk b1 (wd_ne b1 g2 (by simp))
              refine lv_goto (tgt := 91) hx hb d_F_address_75 (by decide) ?_
              refine lv_iload hx hb d_F_address_91 (lv_at hl 0 rfl) ?_
              exact wd_iret C hr hlocks h (by rw [o_upd_some (S := (n, R, nc, CR, wg, Q)) hf, show f_adr wh en (R k) = ((R k 7), (upd (R k) 7 en)) from by simp [f_adr, eq_false c_11, eq_false c_17, eq_true c_23, eq_true c_24, eq_true c_25]]; exact ⟨rfl, (hB.item (r := (upd (R k) 7 en)) hk rfl rfl (fun j hj => upd_hi (by decide) hj)).rx⟩) (Nat.le_of_ble_eq_true rfl) (Nat.le_of_ble_eq_true rfl) d_F_address_93
          · refine lv_bipush (v := (-103)) hx hb d_F_address_55 (by decide) ?_
            exact wd_iret C hr hlocks h (by rw [o_upd_some (S := (n, R, nc, CR, wg, Q)) hf, show f_adr wh en (R k) = ((-103), (R k)) from by simp [f_adr, eq_false c_11, eq_false c_17, eq_true c_23, eq_false c_24]]; exact ⟨rfl, by rw [va_up_id]; exact hB.rx⟩) (Nat.le_of_ble_eq_true rfl) (Nat.le_of_ble_eq_true rfl) d_F_address_57
      · refine lv_bipush (v := (-102)) hx hb d_F_address_35 (by decide) ?_
        exact wd_iret C hr hlocks h (by rw [o_upd_some (S := (n, R, nc, CR, wg, Q)) hf, show f_adr wh en (R k) = ((-102), (R k)) from by simp [f_adr, eq_false c_11, eq_true c_17]]; exact ⟨rfl, by rw [va_up_id]; exact hB.rx⟩) (Nat.le_of_ble_eq_true rfl) (Nat.le_of_ble_eq_true rfl) d_F_address_37

set_option maxHeartbeats 4000000 in
set_option maxRecDepth 20000 in
theorem c_F_abroad (l : Launch) (D : va_G) (T : Nat → ClassId) (A : Nat → Prop) (σ : wd_S) (x n : Nat) (R : Nat → Nat → Int32) (nc : Nat) (CR : Nat → Nat → Int32) (wg : Nat → Int32) (Q : pq) (aI aC aJ aW aB aP ab : Nat) (fI fC : Nat → Option Nat) (jn wn bk qb : Nat → Int32) (ia aa ca : Nat → Nat) (hB : RB T σ x n R nc CR wg Q aI aC aJ aW aB aP ab fI fC jn wn bk qb ia aa ca) (i la : Int32) : Met l y_F_abroad (Cond.code y_F_abroad b_F_abroad 4 (some .int) :: wd_tb) { frames := 2, cells := 0, slots := 0, locals := 43 } (va_Pc [.ref x, .int i, .int la] (wd_Pre D T A σ)) (va_Qi (fun r1 σ1 => r1 = (o_upd (n, R, nc, CR, wg, Q) i (f_abr la)).1 ∧ RX T σ1 x (o_upd (n, R, nc, CR, wg, Q) i (f_abr la)).2) (wd_B D A) A) 0 0 A := by
  refine wd_ofW (by decide) (Nat.le_of_ble_eq_true rfl) ?_
  intro p e s m below meth c0 ls C hr hlocks hname h hl
  have hl : lv_has ls 4 [(0, .ref x), (1, .int i), (2, .int la)] := hl
  have hx := C.1
  have hb := C.2.1
  obtain ⟨b1, b2, b3, b4, b5, b6, b7, b8, b9, b10, b11, b12, b13, b14⟩ := id hB
  refine lv_aload_n hx hb d_F_abroad_0 rfl (lv_at hl 0 rfl) ?_
  refine lv_iload_n hx hb d_F_abroad_1 rfl (lv_at hl 1 rfl) ?_
  refine wd_cq h (wd_rV (rest := []) (st0 := [.int i, .ref x]) C h kc_F b1 k_F_find wm_F_find wz_F_find lk_F_64 (c_F_find l D T A σ x aI n fI ia _ _ _ _ _ _ b1 b2 b12 (fun k hk => (b9.1 k hk).1) i) rfl rfl ⟨Nat.le_of_ble_eq_true rfl, Nat.le_of_ble_eq_true rfl⟩ rfl hl.1 rfl (Nat.le_of_ble_eq_true rfl) d_F_abroad_2 ⟨Nat.le_of_ble_eq_true rfl, Nat.le_of_ble_eq_true rfl⟩) (fun r_1 σ_2 H locs hp_3 h => ?_)
  obtain ⟨e_4, es_5⟩ := hp_3
  rw [es_5] at h
  rw [e_4]
  rcases hf : o_find n i with _ | k
  · refine W.eq (g2 := F0 m 5 ls [.null]) rfl ?_
    refine lv_astore_nN (lv' := [(3, .null), (0, .ref x), (1, .int i), (2, .int la)]) hx hb d_F_abroad_5 rfl hl (by decide) rfl (fun ls hl => ?_)
    refine lv_aload_nN hx hb d_F_abroad_6 rfl (lv_at hl 0 rfl) ?_
    refine lv_ifnonnullN hx hb d_F_abroad_7 ?_
    refine lv_bipush (v := (-101)) hx hb d_F_abroad_10 (by decide) ?_
    exact wd_iret C hr hlocks h (by rw [o_upd_none (S := (n, R, nc, CR, wg, Q)) hf]; exact ⟨rfl, hB.rx⟩) (Nat.le_of_ble_eq_true rfl) (Nat.le_of_ble_eq_true rfl) d_F_abroad_12
  · refine W.eq (g2 := F0 m 5 ls [.ref (ia k)]) rfl ?_
    obtain ⟨hk, hik1, hik⟩ := o_find_some b12 hf
    obtain ⟨g1, g2, g3, g4⟩ := b9.1 k hk
    refine lv_astore_n (lv' := [(3, .ref (ia k)), (0, .ref x), (1, .int i), (2, .int la)]) hx hb d_F_abroad_5 rfl hl (by decide) rfl (fun ls hl => ?_)
    refine lv_aload_n hx hb d_F_abroad_6 rfl (lv_at hl 0 rfl) ?_
    refine lv_ifnonnull (tgt := 13) hx hb d_F_abroad_7 (by decide) ?_
    refine lv_iload_n hx hb d_F_abroad_13 rfl (lv_at hl 3 rfl) ?_
    refine lv_iconst (v := 1) hx hb d_F_abroad_14 (by decide) ?_
    refine lv_bipush (v := 30) hx hb d_F_abroad_15 (by decide) ?_
    refine wd_ci h (wd_rS (rest := []) (st0 := [.int 30, .int 1, .int la]) C h k_F_within wt_F_within lk_F_46 (c_F_within l D T A σ la 1 30) rfl rfl ⟨Nat.le_of_ble_eq_true rfl, Nat.le_of_ble_eq_true rfl⟩ rfl hl.1 rfl (Nat.le_of_ble_eq_true rfl) d_F_abroad_17 ⟨Nat.le_of_ble_eq_true rfl, Nat.le_of_ble_eq_true rfl⟩) (fun r_6 σ_7 H locs hp_8 h => ?_)
    obtain ⟨e_9, es_10⟩ := hp_8
    rw [es_10] at h
    subst e_9
    refine lv_if_ne (tgt := 26) hx hb d_F_abroad_20 (by decide) (fun c_11 => ?_) (fun c_11 => ?_)
    · refine lv_aload_n hx hb d_F_abroad_26 rfl (lv_at hl 0 rfl) ?_
      refine wd_getN C h kc_I g2 9 (by decide) lk_F_97 rfl d_F_abroad_27 ?_
      refine lv_if_ne (tgt := 48) hx hb d_F_abroad_30 (by decide) (fun c_12 => ?_) (fun c_12 => ?_)
      · refine lv_bipush (v := (-103)) hx hb d_F_abroad_48 (by decide) ?_
        exact wd_iret C hr hlocks h (by rw [o_upd_some (S := (n, R, nc, CR, wg, Q)) hf, show f_abr la (R k) = ((-103), (R k)) from by simp [f_abr, eq_false c_11, eq_false c_12]]; exact ⟨rfl, by rw [va_up_id]; exact hB.rx⟩) (Nat.le_of_ble_eq_true rfl) (Nat.le_of_ble_eq_true rfl) d_F_abroad_50
      · refine lv_aload_n hx hb d_F_abroad_33 rfl (lv_at hl 0 rfl) ?_
        refine wd_getN C h kc_I g2 5 (by decide) lk_F_103 rfl d_F_abroad_34 ?_
        refine lv_if_eq (tgt := 51) hx hb d_F_abroad_37 (by decide) (fun c_13 => ?_) (fun c_13 => ?_)
        · refine lv_aload_n hx hb d_F_abroad_51 rfl (lv_at hl 0 rfl) ?_
          refine lv_iload_n hx hb d_F_abroad_52 rfl (lv_at hl 3 rfl) ?_
          refine wd_putN C h kc_I g2 9 (by decide) lk_F_97 rfl (by rfl) (by rfl) (Nat.le_of_ble_eq_true rfl) d_F_abroad_53 (fun H locs h => ?_)
          have h : wd_C D T A s H locs (wd_up σ (ia k) (.inr (1, [.int (R k 0), .int (R k 1), .int (R k 2), .int (R k 3), .int (R k 4), .int (R k 5), .int (R k 6), .int (R k 7), .int (R k 8), .int la, .int (R k 10), .int (R k 11), .int (R k 12), .int (R k 13), .int (R k 14), .ref (aa (2 * k)), .ref (aa (2 * k + 1))]))) := h
          have h_14 : (wd_up σ (ia k) (.inr (1, [.int (R k 0), .int (R k 1), .int (R k 2), .int (R k 3), .int (R k 4), .int (R k 5), .int (R k 6), .int (R k 7), .int (R k 8), .int la, .int (R k 10), .int (R k 11), .int (R k 12), .int (R k 13), .int (R k 14), .ref (aa (2 * k)), .ref (aa (2 * k + 1))]))) (ia k) = some (.inr (1, [.int (R k 0), .int (R k 1), .int (R k 2), .int (R k 3), .int (R k 4), .int (R k 5), .int (R k 6), .int (R k 7), .int (R k 8), .int la, .int (R k 10), .int (R k 11), .int (R k 12), .int (R k 13), .int (R k 14), .ref (aa (2 * k)), .ref (aa (2 * k + 1))])) := wd_us _ _ _
          have h_15 : (wd_up σ (ia k) (.inr (1, [.int (R k 0), .int (R k 1), .int (R k 2), .int (R k 3), .int (R k 4), .int (R k 5), .int (R k 6), .int (R k 7), .int (R k 8), .int la, .int (R k 10), .int (R k 11), .int (R k 12), .int (R k 13), .int (R k 14), .ref (aa (2 * k)), .ref (aa (2 * k + 1))]))) x = some (.inr (0, [.ref aI, .int (nI n), .ref aC, .int (nI nc), .ref aJ, .ref aW, .ref aB, .ref aP])) := wd_uk b1 (wd_ne b1 g2 (by simp))
          refine lv_iconst (v := 1) hx hb d_F_abroad_56 (by decide) ?_
          exact wd_iret C hr hlocks h (by rw [o_upd_some (S := (n, R, nc, CR, wg, Q)) hf, show f_abr la (R k) = (1, (upd (R k) 9 la)) from by simp [f_abr, eq_false c_11, eq_true c_12, eq_true c_13]]; exact ⟨rfl, (hB.item (r := (upd (R k) 9 la)) hk rfl rfl (fun j hj => upd_hi (by decide) hj)).rx⟩) (Nat.le_of_ble_eq_true rfl) (Nat.le_of_ble_eq_true rfl) d_F_abroad_57
        · refine lv_aload_n hx hb d_F_abroad_40 rfl (lv_at hl 0 rfl) ?_
          refine wd_getN C h kc_I g2 5 (by decide) lk_F_103 rfl d_F_abroad_41 ?_
          refine lv_iconst (v := 1) hx hb d_F_abroad_44 (by decide) ?_
          refine lv_icmp_eq (tgt := 51) hx hb d_F_abroad_45 (by decide) (fun c_16 => ?_) (fun c_16 => ?_)
          · refine lv_aload_n hx hb d_F_abroad_51 rfl (lv_at hl 0 rfl) ?_
            refine lv_iload_n hx hb d_F_abroad_52 rfl (lv_at hl 3 rfl) ?_
            refine wd_putN C h kc_I g2 9 (by decide) lk_F_97 rfl (by rfl) (by rfl) (Nat.le_of_ble_eq_true rfl) d_F_abroad_53 (fun H locs h => ?_)
            have h : wd_C D T A s H locs (wd_up σ (ia k) (.inr (1, [.int (R k 0), .int (R k 1), .int (R k 2), .int (R k 3), .int (R k 4), .int (R k 5), .int (R k 6), .int (R k 7), .int (R k 8), .int la, .int (R k 10), .int (R k 11), .int (R k 12), .int (R k 13), .int (R k 14), .ref (aa (2 * k)), .ref (aa (2 * k + 1))]))) := h
            have h_17 : (wd_up σ (ia k) (.inr (1, [.int (R k 0), .int (R k 1), .int (R k 2), .int (R k 3), .int (R k 4), .int (R k 5), .int (R k 6), .int (R k 7), .int (R k 8), .int la, .int (R k 10), .int (R k 11), .int (R k 12), .int (R k 13), .int (R k 14), .ref (aa (2 * k)), .ref (aa (2 * k + 1))]))) (ia k) = some (.inr (1, [.int (R k 0), .int (R k 1), .int (R k 2), .int (R k 3), .int (R k 4), .int (R k 5), .int (R k 6), .int (R k 7), .int (R k 8), .int la, .int (R k 10), .int (R k 11), .int (R k 12), .int (R k 13), .int (R k 14), .ref (aa (2 * k)), .ref (aa (2 * k + 1))])) := wd_us _ _ _
            have h_18 : (wd_up σ (ia k) (.inr (1, [.int (R k 0), .int (R k 1), .int (R k 2), .int (R k 3), .int (R k 4), .int (R k 5), .int (R k 6), .int (R k 7), .int (R k 8), .int la, .int (R k 10), .int (R k 11), .int (R k 12), .int (R k 13), .int (R k 14), .ref (aa (2 * k)), .ref (aa (2 * k + 1))]))) x = some (.inr (0, [.ref aI, .int (nI n), .ref aC, .int (nI nc), .ref aJ, .ref aW, .ref aB, .ref aP])) := wd_uk b1 (wd_ne b1 g2 (by simp))
            refine lv_iconst (v := 1) hx hb d_F_abroad_56 (by decide) ?_
            exact wd_iret C hr hlocks h (by rw [o_upd_some (S := (n, R, nc, CR, wg, Q)) hf, show f_abr la (R k) = (1, (upd (R k) 9 la)) from by simp [f_abr, eq_false c_11, eq_true c_12, eq_false c_13, eq_true c_16]]; exact ⟨rfl, (hB.item (r := (upd (R k) 9 la)) hk rfl rfl (fun j hj => upd_hi (by decide) hj)).rx⟩) (Nat.le_of_ble_eq_true rfl) (Nat.le_of_ble_eq_true rfl) d_F_abroad_57
          · refine lv_bipush (v := (-103)) hx hb d_F_abroad_48 (by decide) ?_
            exact wd_iret C hr hlocks h (by rw [o_upd_some (S := (n, R, nc, CR, wg, Q)) hf, show f_abr la (R k) = ((-103), (R k)) from by simp [f_abr, eq_false c_11, eq_true c_12, eq_false c_13, eq_false c_16]]; exact ⟨rfl, by rw [va_up_id]; exact hB.rx⟩) (Nat.le_of_ble_eq_true rfl) (Nat.le_of_ble_eq_true rfl) d_F_abroad_50
    · refine lv_bipush (v := (-102)) hx hb d_F_abroad_23 (by decide) ?_
      exact wd_iret C hr hlocks h (by rw [o_upd_some (S := (n, R, nc, CR, wg, Q)) hf, show f_abr la (R k) = ((-102), (R k)) from by simp [f_abr, eq_true c_11]]; exact ⟨rfl, by rw [va_up_id]; exact hB.rx⟩) (Nat.le_of_ble_eq_true rfl) (Nat.le_of_ble_eq_true rfl) d_F_abroad_25

set_option maxHeartbeats 4000000 in
set_option maxRecDepth 20000 in
theorem c_F_open (l : Launch) (D : va_G) (T : Nat → ClassId) (A : Nat → Prop) (σ : wd_S) (x n : Nat) (R : Nat → Nat → Int32) (nc : Nat) (CR : Nat → Nat → Int32) (wg : Nat → Int32) (Q : pq) (aI aC aJ aW aB aP ab : Nat) (fI fC : Nat → Option Nat) (jn wn bk qb : Nat → Int32) (ia aa ca : Nat → Nat) (hB : RB T σ x n R nc CR wg Q aI aC aJ aW aB aP ab fI fC jn wn bk qb ia aa ca) (i p1 p2 : Int32) : Met l y_F_open (Cond.code y_F_open b_F_open 5 (some .int) :: wd_tb) { frames := 2, cells := 0, slots := 0, locals := 43 } (va_Pc [.ref x, .int i, .int p1, .int p2] (wd_Pre D T A σ)) (va_Qi (fun r1 σ1 => r1 = (o_upd (n, R, nc, CR, wg, Q) i (f_opn p1 p2)).1 ∧ RX T σ1 x (o_upd (n, R, nc, CR, wg, Q) i (f_opn p1 p2)).2) (wd_B D A) A) 0 0 A := by
  refine wd_ofW (by decide) (Nat.le_of_ble_eq_true rfl) ?_
  intro p e s m below meth c0 ls C hr hlocks hname h hl
  have hl : lv_has ls 5 [(0, .ref x), (1, .int i), (2, .int p1), (3, .int p2)] := hl
  have hx := C.1
  have hb := C.2.1
  obtain ⟨b1, b2, b3, b4, b5, b6, b7, b8, b9, b10, b11, b12, b13, b14⟩ := id hB
  refine lv_aload_n hx hb d_F_open_0 rfl (lv_at hl 0 rfl) ?_
  refine lv_iload_n hx hb d_F_open_1 rfl (lv_at hl 1 rfl) ?_
  refine wd_cq h (wd_rV (rest := []) (st0 := [.int i, .ref x]) C h kc_F b1 k_F_find wm_F_find wz_F_find lk_F_64 (c_F_find l D T A σ x aI n fI ia _ _ _ _ _ _ b1 b2 b12 (fun k hk => (b9.1 k hk).1) i) rfl rfl ⟨Nat.le_of_ble_eq_true rfl, Nat.le_of_ble_eq_true rfl⟩ rfl hl.1 rfl (Nat.le_of_ble_eq_true rfl) d_F_open_2 ⟨Nat.le_of_ble_eq_true rfl, Nat.le_of_ble_eq_true rfl⟩) (fun r_1 σ_2 H locs hp_3 h => ?_)
  obtain ⟨e_4, es_5⟩ := hp_3
  rw [es_5] at h
  rw [e_4]
  rcases hf : o_find n i with _ | k
  · refine W.eq (g2 := F0 m 5 ls [.null]) rfl ?_
    refine lv_astoreN (lv' := [(4, .null), (0, .ref x), (1, .int i), (2, .int p1), (3, .int p2)]) hx hb d_F_open_5 hl (by decide) rfl (fun ls hl => ?_)
    refine lv_aloadN hx hb d_F_open_7 (lv_at hl 0 rfl) ?_
    refine lv_ifnonnullN hx hb d_F_open_9 ?_
    refine lv_bipush (v := (-101)) hx hb d_F_open_12 (by decide) ?_
    exact wd_iret C hr hlocks h (by rw [o_upd_none (S := (n, R, nc, CR, wg, Q)) hf]; exact ⟨rfl, hB.rx⟩) (Nat.le_of_ble_eq_true rfl) (Nat.le_of_ble_eq_true rfl) d_F_open_14
  · refine W.eq (g2 := F0 m 5 ls [.ref (ia k)]) rfl ?_
    obtain ⟨hk, hik1, hik⟩ := o_find_some b12 hf
    obtain ⟨g1, g2, g3, g4⟩ := b9.1 k hk
    refine lv_astore (lv' := [(4, .ref (ia k)), (0, .ref x), (1, .int i), (2, .int p1), (3, .int p2)]) hx hb d_F_open_5 hl (by decide) rfl (fun ls hl => ?_)
    refine lv_aload hx hb d_F_open_7 (lv_at hl 0 rfl) ?_
    refine lv_ifnonnull (tgt := 15) hx hb d_F_open_9 (by decide) ?_
    refine lv_iload_n hx hb d_F_open_15 rfl (lv_at hl 3 rfl) ?_
    refine lv_iconst (v := 0) hx hb d_F_open_16 (by decide) ?_
    refine lv_bipush (v := 19) hx hb d_F_open_17 (by decide) ?_
    refine wd_ci h (wd_rS (rest := []) (st0 := [.int 19, .int 0, .int p1]) C h k_F_within wt_F_within lk_F_46 (c_F_within l D T A σ p1 0 19) rfl rfl ⟨Nat.le_of_ble_eq_true rfl, Nat.le_of_ble_eq_true rfl⟩ rfl hl.1 rfl (Nat.le_of_ble_eq_true rfl) d_F_open_19 ⟨Nat.le_of_ble_eq_true rfl, Nat.le_of_ble_eq_true rfl⟩) (fun r_6 σ_7 H locs hp_8 h => ?_)
    obtain ⟨e_9, es_10⟩ := hp_8
    rw [es_10] at h
    subst e_9
    refine lv_if_eq (tgt := 35) hx hb d_F_open_22 (by decide) (fun c_11 => ?_) (fun c_11 => ?_)
    · refine lv_bipush (v := (-102)) hx hb d_F_open_35 (by decide) ?_
      exact wd_iret C hr hlocks h (by rw [o_upd_some (S := (n, R, nc, CR, wg, Q)) hf, show f_opn p1 p2 (R k) = ((-102), (R k)) from by simp [f_opn, eq_true c_11]]; exact ⟨rfl, by rw [va_up_id]; exact hB.rx⟩) (Nat.le_of_ble_eq_true rfl) (Nat.le_of_ble_eq_true rfl) d_F_open_37
    · refine lv_iload_n hx hb d_F_open_25 rfl (lv_at hl 4 rfl) ?_
      refine lv_iconst (v := 0) hx hb d_F_open_26 (by decide) ?_
      refine lv_bipush (v := 19) hx hb d_F_open_27 (by decide) ?_
      refine wd_ci h (wd_rS (rest := []) (st0 := [.int 19, .int 0, .int p2]) C h k_F_within wt_F_within lk_F_46 (c_F_within l D T A σ p2 0 19) rfl rfl ⟨Nat.le_of_ble_eq_true rfl, Nat.le_of_ble_eq_true rfl⟩ rfl hl.1 rfl (Nat.le_of_ble_eq_true rfl) d_F_open_29 ⟨Nat.le_of_ble_eq_true rfl, Nat.le_of_ble_eq_true rfl⟩) (fun r_12 σ_13 H locs hp_14 h => ?_)
      obtain ⟨e_15, es_16⟩ := hp_14
      rw [es_16] at h
      subst e_15
      refine lv_if_ne (tgt := 38) hx hb d_F_open_32 (by decide) (fun c_17 => ?_) (fun c_17 => ?_)
      · refine lv_aload hx hb d_F_open_38 (lv_at hl 0 rfl) ?_
        refine wd_getN C h kc_I g2 5 (by decide) lk_F_103 rfl d_F_open_40 ?_
        refine lv_bipush (v := 8) hx hb d_F_open_43 (by decide) ?_
        refine lv_icmp_ne (tgt := 56) hx hb d_F_open_45 (by decide) (fun c_18 => ?_) (fun c_18 => ?_)
        · refine lv_bipush (v := (-103)) hx hb d_F_open_56 (by decide) ?_
          exact wd_iret C hr hlocks h (by rw [o_upd_some (S := (n, R, nc, CR, wg, Q)) hf, show f_opn p1 p2 (R k) = ((-103), (R k)) from by simp [f_opn, eq_false c_11, eq_false c_17, eq_false c_18]]; exact ⟨rfl, by rw [va_up_id]; exact hB.rx⟩) (Nat.le_of_ble_eq_true rfl) (Nat.le_of_ble_eq_true rfl) d_F_open_58
        · refine lv_aload hx hb d_F_open_48 (lv_at hl 0 rfl) ?_
          refine wd_getN C h kc_I g2 6 (by decide) lk_F_131 rfl d_F_open_50 ?_
          refine lv_if_eq (tgt := 59) hx hb d_F_open_53 (by decide) (fun c_19 => ?_) (fun c_19 => ?_)
          · refine lv_iload_n hx hb d_F_open_59 rfl (lv_at hl 3 rfl) ?_
            refine lv_iload_n hx hb d_F_open_60 rfl (lv_at hl 4 rfl) ?_
            refine lv_icmp_ne (tgt := 67) hx hb d_F_open_61 (by decide) (fun c_20 => ?_) (fun c_20 => ?_)
            · refine lv_aload hx hb d_F_open_67 (lv_at hl 0 rfl) ?_
              refine lv_iconst (v := 1) hx hb d_F_open_69 (by decide) ?_
              refine wd_putN C h kc_I g2 5 (by decide) lk_F_103 rfl (by rfl) (by rfl) (Nat.le_of_ble_eq_true rfl) d_F_open_70 (fun H locs h => ?_)
              have h : wd_C D T A s H locs (wd_up σ (ia k) (.inr (1, [.int (R k 0), .int (R k 1), .int (R k 2), .int (R k 3), .int (R k 4), .int 1, .int (R k 6), .int (R k 7), .int (R k 8), .int (R k 9), .int (R k 10), .int (R k 11), .int (R k 12), .int (R k 13), .int (R k 14), .ref (aa (2 * k)), .ref (aa (2 * k + 1))]))) := h
              have h_21 : (wd_up σ (ia k) (.inr (1, [.int (R k 0), .int (R k 1), .int (R k 2), .int (R k 3), .int (R k 4), .int 1, .int (R k 6), .int (R k 7), .int (R k 8), .int (R k 9), .int (R k 10), .int (R k 11), .int (R k 12), .int (R k 13), .int (R k 14), .ref (aa (2 * k)), .ref (aa (2 * k + 1))]))) (ia k) = some (.inr (1, [.int (R k 0), .int (R k 1), .int (R k 2), .int (R k 3), .int (R k 4), .int 1, .int (R k 6), .int (R k 7), .int (R k 8), .int (R k 9), .int (R k 10), .int (R k 11), .int (R k 12), .int (R k 13), .int (R k 14), .ref (aa (2 * k)), .ref (aa (2 * k + 1))])) := wd_us _ _ _
              have h_22 : (wd_up σ (ia k) (.inr (1, [.int (R k 0), .int (R k 1), .int (R k 2), .int (R k 3), .int (R k 4), .int 1, .int (R k 6), .int (R k 7), .int (R k 8), .int (R k 9), .int (R k 10), .int (R k 11), .int (R k 12), .int (R k 13), .int (R k 14), .ref (aa (2 * k)), .ref (aa (2 * k + 1))]))) x = some (.inr (0, [.ref aI, .int (nI n), .ref aC, .int (nI nc), .ref aJ, .ref aW, .ref aB, .ref aP])) := wd_uk b1 (wd_ne b1 g2 (by simp))
              refine lv_aload hx hb d_F_open_73 (lv_at hl 0 rfl) ?_
              refine lv_iconst (v := (-1)) hx hb d_F_open_75 (by decide) ?_
              refine wd_putN C h kc_I h_21 8 (by decide) lk_F_116 rfl (by rfl) (by rfl) (Nat.le_of_ble_eq_true rfl) d_F_open_76 (fun H locs h => ?_)
              rw [wd_uu] at h
              have h : wd_C D T A s H locs (wd_up σ (ia k) (.inr (1, [.int (R k 0), .int (R k 1), .int (R k 2), .int (R k 3), .int (R k 4), .int 1, .int (R k 6), .int (R k 7), .int (-1), .int (R k 9), .int (R k 10), .int (R k 11), .int (R k 12), .int (R k 13), .int (R k 14), .ref (aa (2 * k)), .ref (aa (2 * k + 1))]))) := h
              have h_23 : (wd_up σ (ia k) (.inr (1, [.int (R k 0), .int (R k 1), .int (R k 2), .int (R k 3), .int (R k 4), .int 1, .int (R k 6), .int (R k 7), .int (-1), .int (R k 9), .int (R k 10), .int (R k 11), .int (R k 12), .int (R k 13), .int (R k 14), .ref (aa (2 * k)), .ref (aa (2 * k + 1))]))) (ia k) = some (.inr (1, [.int (R k 0), .int (R k 1), .int (R k 2), .int (R k 3), .int (R k 4), .int 1, .int (R k 6), .int (R k 7), .int (-1), .int (R k 9), .int (R k 10), .int (R k 11), .int (R k 12), .int (R k 13), .int (R k 14), .ref (aa (2 * k)), .ref (aa (2 * k + 1))])) := wd_us _ _ _
              have h_24 : (wd_up σ (ia k) (.inr (1, [.int (R k 0), .int (R k 1), .int (R k 2), .int (R k 3), .int (R k 4), .int 1, .int (R k 6), .int (R k 7), .int (-1), .int (R k 9), .int (R k 10), .int (R k 11), .int (R k 12), .int (R k 13), .int (R k 14), .ref (aa (2 * k)), .ref (aa (2 * k + 1))]))) x = some (.inr (0, [.ref aI, .int (nI n), .ref aC, .int (nI nc), .ref aJ, .ref aW, .ref aB, .ref aP])) := wd_uk b1 (wd_ne b1 g2 (by simp))
              refine lv_aload hx hb d_F_open_79 (lv_at hl 0 rfl) ?_
              refine lv_bipush (v := 100) hx hb d_F_open_81 (by decide) ?_
              refine lv_iload_n hx hb d_F_open_83 rfl (lv_at hl 3 rfl) ?_
              refine lv_imul hx hb d_F_open_84 ?_
              refine lv_iload_n hx hb d_F_open_85 rfl (lv_at hl 4 rfl) ?_
              refine lv_iadd hx hb d_F_open_86 ?_
              refine wd_putN C h kc_I h_23 13 (by decide) lk_F_135 rfl (by rfl) (by rfl) (Nat.le_of_ble_eq_true rfl) d_F_open_87 (fun H locs h => ?_)
              rw [wd_uu] at h
              have h : wd_C D T A s H locs (wd_up σ (ia k) (.inr (1, [.int (R k 0), .int (R k 1), .int (R k 2), .int (R k 3), .int (R k 4), .int 1, .int (R k 6), .int (R k 7), .int (-1), .int (R k 9), .int (R k 10), .int (R k 11), .int (R k 12), .int ((100 * p1) + p2), .int (R k 14), .ref (aa (2 * k)), .ref (aa (2 * k + 1))]))) := h
              have h_25 : (wd_up σ (ia k) (.inr (1, [.int (R k 0), .int (R k 1), .int (R k 2), .int (R k 3), .int (R k 4), .int 1, .int (R k 6), .int (R k 7), .int (-1), .int (R k 9), .int (R k 10), .int (R k 11), .int (R k 12), .int ((100 * p1) + p2), .int (R k 14), .ref (aa (2 * k)), .ref (aa (2 * k + 1))]))) (ia k) = some (.inr (1, [.int (R k 0), .int (R k 1), .int (R k 2), .int (R k 3), .int (R k 4), .int 1, .int (R k 6), .int (R k 7), .int (-1), .int (R k 9), .int (R k 10), .int (R k 11), .int (R k 12), .int ((100 * p1) + p2), .int (R k 14), .ref (aa (2 * k)), .ref (aa (2 * k + 1))])) := wd_us _ _ _
              have h_26 : (wd_up σ (ia k) (.inr (1, [.int (R k 0), .int (R k 1), .int (R k 2), .int (R k 3), .int (R k 4), .int 1, .int (R k 6), .int (R k 7), .int (-1), .int (R k 9), .int (R k 10), .int (R k 11), .int (R k 12), .int ((100 * p1) + p2), .int (R k 14), .ref (aa (2 * k)), .ref (aa (2 * k + 1))]))) x = some (.inr (0, [.ref aI, .int (nI n), .ref aC, .int (nI nc), .ref aJ, .ref aW, .ref aB, .ref aP])) := wd_uk b1 (wd_ne b1 g2 (by simp))
              refine lv_iconst (v := 1) hx hb d_F_open_90 (by decide) ?_
              exact wd_iret C hr hlocks h (by rw [o_upd_some (S := (n, R, nc, CR, wg, Q)) hf, show f_opn p1 p2 (R k) = (1, (upd (upd (upd (R k) 5 1) 8 (-1)) 13 ((100 * p1) + p2))) from by simp [f_opn, eq_false c_11, eq_false c_17, eq_true c_18, eq_true c_19, eq_false c_20]]; exact ⟨rfl, (hB.item (r := (upd (upd (upd (R k) 5 1) 8 (-1)) 13 ((100 * p1) + p2))) hk rfl rfl (fun j hj => ((upd_hi (by decide) hj).trans (upd_hi (by decide) hj)).trans (upd_hi (by decide) hj))).rx⟩) (Nat.le_of_ble_eq_true rfl) (Nat.le_of_ble_eq_true rfl) d_F_open_91
            · refine lv_bipush (v := (-108)) hx hb d_F_open_64 (by decide) ?_
              exact wd_iret C hr hlocks h (by rw [o_upd_some (S := (n, R, nc, CR, wg, Q)) hf, show f_opn p1 p2 (R k) = ((-108), (R k)) from by simp [f_opn, eq_false c_11, eq_false c_17, eq_true c_18, eq_true c_19, eq_true c_20]]; exact ⟨rfl, by rw [va_up_id]; exact hB.rx⟩) (Nat.le_of_ble_eq_true rfl) (Nat.le_of_ble_eq_true rfl) d_F_open_66
          · refine lv_bipush (v := (-103)) hx hb d_F_open_56 (by decide) ?_
            exact wd_iret C hr hlocks h (by rw [o_upd_some (S := (n, R, nc, CR, wg, Q)) hf, show f_opn p1 p2 (R k) = ((-103), (R k)) from by simp [f_opn, eq_false c_11, eq_false c_17, eq_true c_18, eq_false c_19]]; exact ⟨rfl, by rw [va_up_id]; exact hB.rx⟩) (Nat.le_of_ble_eq_true rfl) (Nat.le_of_ble_eq_true rfl) d_F_open_58
      · refine lv_bipush (v := (-102)) hx hb d_F_open_35 (by decide) ?_
        exact wd_iret C hr hlocks h (by rw [o_upd_some (S := (n, R, nc, CR, wg, Q)) hf, show f_opn p1 p2 (R k) = ((-102), (R k)) from by simp [f_opn, eq_false c_11, eq_true c_17]]; exact ⟨rfl, by rw [va_up_id]; exact hB.rx⟩) (Nat.le_of_ble_eq_true rfl) (Nat.le_of_ble_eq_true rfl) d_F_open_37

set_option maxHeartbeats 4000000 in
set_option maxRecDepth 20000 in
theorem c_F_about (l : Launch) (D : va_G) (T : Nat → ClassId) (A : Nat → Prop) (σ : wd_S) (x n : Nat) (R : Nat → Nat → Int32) (nc : Nat) (CR : Nat → Nat → Int32) (wg : Nat → Int32) (Q : pq) (aI aC aJ aW aB aP ab : Nat) (fI fC : Nat → Option Nat) (jn wn bk qb : Nat → Int32) (ia aa ca : Nat → Nat) (hB : RB T σ x n R nc CR wg Q aI aC aJ aW aB aP ab fI fC jn wn bk qb ia aa ca) (i wh : Int32) : Met l y_F_about (Cond.code y_F_about b_F_about 4 (some .int) :: wd_tb) { frames := 2, cells := 0, slots := 0, locals := 43 } (va_Pc [.ref x, .int i, .int wh] (wd_Pre D T A σ)) (va_Qi (fun r1 σ1 => r1 = (o_upd (n, R, nc, CR, wg, Q) i (f_abt wh)).1 ∧ RX T σ1 x (o_upd (n, R, nc, CR, wg, Q) i (f_abt wh)).2) (wd_B D A) A) 0 0 A := by
  refine wd_ofW (by decide) (Nat.le_of_ble_eq_true rfl) ?_
  intro p e s m below meth c0 ls C hr hlocks hname h hl
  have hl : lv_has ls 4 [(0, .ref x), (1, .int i), (2, .int wh)] := hl
  have hx := C.1
  have hb := C.2.1
  obtain ⟨b1, b2, b3, b4, b5, b6, b7, b8, b9, b10, b11, b12, b13, b14⟩ := id hB
  refine lv_aload_n hx hb d_F_about_0 rfl (lv_at hl 0 rfl) ?_
  refine lv_iload_n hx hb d_F_about_1 rfl (lv_at hl 1 rfl) ?_
  refine wd_cq h (wd_rV (rest := []) (st0 := [.int i, .ref x]) C h kc_F b1 k_F_find wm_F_find wz_F_find lk_F_64 (c_F_find l D T A σ x aI n fI ia _ _ _ _ _ _ b1 b2 b12 (fun k hk => (b9.1 k hk).1) i) rfl rfl ⟨Nat.le_of_ble_eq_true rfl, Nat.le_of_ble_eq_true rfl⟩ rfl hl.1 rfl (Nat.le_of_ble_eq_true rfl) d_F_about_2 ⟨Nat.le_of_ble_eq_true rfl, Nat.le_of_ble_eq_true rfl⟩) (fun r_1 σ_2 H locs hp_3 h => ?_)
  obtain ⟨e_4, es_5⟩ := hp_3
  rw [es_5] at h
  rw [e_4]
  rcases hf : o_find n i with _ | k
  · refine W.eq (g2 := F0 m 5 ls [.null]) rfl ?_
    refine lv_astore_nN (lv' := [(3, .null), (0, .ref x), (1, .int i), (2, .int wh)]) hx hb d_F_about_5 rfl hl (by decide) rfl (fun ls hl => ?_)
    refine lv_aload_nN hx hb d_F_about_6 rfl (lv_at hl 0 rfl) ?_
    refine lv_ifnonnullN hx hb d_F_about_7 ?_
    refine lv_bipush (v := (-101)) hx hb d_F_about_10 (by decide) ?_
    exact wd_iret C hr hlocks h (by rw [o_upd_none (S := (n, R, nc, CR, wg, Q)) hf]; exact ⟨rfl, hB.rx⟩) (Nat.le_of_ble_eq_true rfl) (Nat.le_of_ble_eq_true rfl) d_F_about_12
  · refine W.eq (g2 := F0 m 5 ls [.ref (ia k)]) rfl ?_
    obtain ⟨hk, hik1, hik⟩ := o_find_some b12 hf
    obtain ⟨g1, g2, g3, g4⟩ := b9.1 k hk
    refine lv_astore_n (lv' := [(3, .ref (ia k)), (0, .ref x), (1, .int i), (2, .int wh)]) hx hb d_F_about_5 rfl hl (by decide) rfl (fun ls hl => ?_)
    refine lv_aload_n hx hb d_F_about_6 rfl (lv_at hl 0 rfl) ?_
    refine lv_ifnonnull (tgt := 13) hx hb d_F_about_7 (by decide) ?_
    refine lv_iload_n hx hb d_F_about_13 rfl (lv_at hl 3 rfl) ?_
    refine lv_iconst (v := 0) hx hb d_F_about_14 (by decide) ?_
    refine lv_bipush (v := 13) hx hb d_F_about_15 (by decide) ?_
    refine wd_ci h (wd_rS (rest := []) (st0 := [.int 13, .int 0, .int wh]) C h k_F_within wt_F_within lk_F_46 (c_F_within l D T A σ wh 0 13) rfl rfl ⟨Nat.le_of_ble_eq_true rfl, Nat.le_of_ble_eq_true rfl⟩ rfl hl.1 rfl (Nat.le_of_ble_eq_true rfl) d_F_about_17 ⟨Nat.le_of_ble_eq_true rfl, Nat.le_of_ble_eq_true rfl⟩) (fun r_6 σ_7 H locs hp_8 h => ?_)
    obtain ⟨e_9, es_10⟩ := hp_8
    rw [es_10] at h
    subst e_9
    refine lv_if_ne (tgt := 26) hx hb d_F_about_20 (by decide) (fun c_11 => ?_) (fun c_11 => ?_)
    · refine lv_aload_n hx hb d_F_about_26 rfl (lv_at hl 0 rfl) ?_
      refine lv_iload_n hx hb d_F_about_27 rfl (lv_at hl 3 rfl) ?_
      refine wd_ci h (wd_rVN (rest := []) (st0 := [.int wh, .ref (ia k)]) C h kc_I g2 k_I_fact wm_I_fact wz_I_fact lk_F_157 (c_I_fact l D T A σ (ia k) (R k) (aa (2 * k)) (aa (2 * k + 1)) g2 wh) rfl rfl ⟨Nat.le_of_ble_eq_true rfl, Nat.le_of_ble_eq_true rfl⟩ rfl hl.1 rfl (Nat.le_of_ble_eq_true rfl) d_F_about_28 ⟨Nat.le_of_ble_eq_true rfl, Nat.le_of_ble_eq_true rfl⟩) (fun r_12 σ_13 H locs hp_14 h => ?_)
      obtain ⟨e_15, es_16⟩ := hp_14
      rw [es_16] at h
      subst e_15
      exact wd_iret C hr hlocks h (by rw [o_upd_some (S := (n, R, nc, CR, wg, Q)) hf, show f_abt wh (R k) = ((xf (R k) wh), (R k)) from by simp [f_abt, eq_false c_11]]; exact ⟨rfl, by rw [va_up_id]; exact hB.rx⟩) (Nat.le_of_ble_eq_true rfl) (Nat.le_of_ble_eq_true rfl) d_F_about_31
    · refine lv_bipush (v := (-102)) hx hb d_F_about_23 (by decide) ?_
      exact wd_iret C hr hlocks h (by rw [o_upd_some (S := (n, R, nc, CR, wg, Q)) hf, show f_abt wh (R k) = ((-102), (R k)) from by simp [f_abt, eq_true c_11]]; exact ⟨rfl, by rw [va_up_id]; exact hB.rx⟩) (Nat.le_of_ble_eq_true rfl) (Nat.le_of_ble_eq_true rfl) d_F_about_25
