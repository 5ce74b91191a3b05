set_option maxHeartbeats 4000000 in
set_option maxRecDepth 20000 in
theorem c_F_mustWait (l : Launch) (D : va_G) (T : Nat → ClassId) (A : Nat → Prop) (σ : wd_S) (x n : Nat) (R : Nat → Nat → Int32) (nc : Nat) (CR : Nat → Nat → Int32) (wg : Nat → Int32) (Q : pq) (aI aC aJ aW aB aP ab : Nat) (fI fC : Nat → Option Nat) (jn wn bk qb : Nat → Int32) (ia aa ca : Nat → Nat) (hB : RB T σ x n R nc CR wg Q aI aC aJ aW aB aP ab fI fC jn wn bk qb ia aa ca) (c : Int32) : Met l y_F_mustWait (Cond.code y_F_mustWait b_F_mustWait 4 (some .boolean) :: wd_tb) { frames := 1, cells := 0, slots := 0, locals := 22 } (va_Pc [.ref x, .int c] (wd_Pre D T A σ)) (va_Qi (fun r1 σ1 => r1 = o_mw n R wg c ∧ σ1 = σ) (wd_B D A) A) 0 0 A := by
  refine wd_ofW (by decide) (Nat.le_of_ble_eq_true rfl) ?_
  intro p e s m below meth c0 ls C hr hlocks hname h hl
  have hl : lv_has ls 4 [(0, .ref x), (1, .int c)] := hl
  have hx := C.1
  have hb := C.2.1
  obtain ⟨b1, b2, b3, b4, b5, b6, b7, b8, b9, b10, b11, b12, b13, b14⟩ := id hB
  refine lv_iload_n hx hb d_F_mustWait_0 rfl (lv_at hl 1 rfl) ?_
  refine lv_iconst (v := 1) hx hb d_F_mustWait_1 (by decide) ?_
  refine lv_bipush (v := 30) hx hb d_F_mustWait_2 (by decide) ?_
  refine wd_ci h (wd_rS (rest := []) (st0 := [.int 30, .int 1, .int c]) C h k_F_within wt_F_within lk_F_46 (c_F_within l D T A σ c 1 30) rfl rfl ⟨Nat.le_of_ble_eq_true rfl, Nat.le_of_ble_eq_true rfl⟩ rfl hl.1 rfl (Nat.le_of_ble_eq_true rfl) d_F_mustWait_4 ⟨Nat.le_of_ble_eq_true rfl, Nat.le_of_ble_eq_true rfl⟩) (fun r_1 σ_2 H locs hp_3 h => ?_)
  obtain ⟨e_4, es_5⟩ := hp_3
  rw [es_5] at h
  subst e_4
  refine lv_if_eq (tgt := 19) hx hb d_F_mustWait_7 (by decide) (fun c_6 => ?_) (fun c_6 => ?_)
  · refine lv_iconst (v := 0) hx hb d_F_mustWait_19 (by decide) ?_
    exact wd_zret C hr hlocks h (by decide) (⟨by simp [o_mw, eq_true c_6], rfl⟩) (Nat.le_of_ble_eq_true rfl) (Nat.le_of_ble_eq_true rfl) d_F_mustWait_20
  · refine lv_aload_n hx hb d_F_mustWait_10 rfl (lv_at hl 0 rfl) ?_
    refine wd_get C h kc_F b1 5 (by decide) lk_F_32 rfl d_F_mustWait_11 ?_
    refine lv_iload_n hx hb d_F_mustWait_14 rfl (lv_at hl 1 rfl) ?_
    refine wd_zald C h 1 rfl b5 (xw_vp c_6 (by decide) (by decide)) d_F_mustWait_15 ?_
    have hwg := b11.2.2 c.toNatClampNeg (xw_le c_6 rfl)
    rw [hwg]
    refine lv_if_ne (tgt := 21) hx hb d_F_mustWait_16 (by decide) (fun c_7 => ?_) (fun c_7 => ?_)
    · refine lv_iconst (v := 0) hx hb d_F_mustWait_21 (by decide) ?_
      refine lv_istore_n (lv' := [(2, .int 0), (0, .ref x), (1, .int c)]) hx hb d_F_mustWait_22 rfl hl (by decide) rfl (fun ls hl => ?_)
      have hl2 : ∃ j : Nat, j ≤ n ∧ anyw R c j = false ∧ lv_has ls 4 [(2, .int (nI j)), (1, .int c), (0, .ref x)] := ⟨0, Nat.zero_le _, rfl, lv_sub hl [0, 2, 1] rfl⟩
      clear hl
      obtain ⟨j, hj, hany, hl⟩ := hl2
      obtain ⟨z, hz⟩ : ∃ z : Nat, n < j + z := ⟨n + 1, by omega⟩
      induction z generalizing j ls H locs with
      | zero => omega
      | succ z ih =>
        refine lv_iload_n hx hb d_F_mustWait_23 rfl (lv_at hl 0 rfl) ?_
        refine lv_aload_n hx hb d_F_mustWait_24 rfl (lv_at hl 2 rfl) ?_
        refine wd_get C h kc_F b1 1 (by decide) lk_F_15 rfl d_F_mustWait_25 ?_
        refine lv_icmp_ge (tgt := 73) hx hb d_F_mustWait_28 (by decide) (fun c_8 => ?_) (fun c_8 => ?_)
        · refine lv_iconst (v := 0) hx hb d_F_mustWait_73 (by decide) ?_
          exact wd_zret C hr hlocks h (by decide) (⟨by rw [ix_d (by omega) hj c_8] at hany; simp [o_mw, eq_false c_6, eq_false c_7, hany], rfl⟩) (Nat.le_of_ble_eq_true rfl) (Nat.le_of_ble_eq_true rfl) d_F_mustWait_74
        · refine lv_aload_n hx hb d_F_mustWait_31 rfl (lv_at hl 2 rfl) ?_
          refine wd_get C h kc_F b1 0 (by decide) lk_F_11 rfl d_F_mustWait_32 ?_
          refine lv_iload_n hx hb d_F_mustWait_35 rfl (lv_at hl 0 rfl) ?_
          have hlt := ix_c (by omega) hj c_8
          refine wd_aldq C h 2 rfl b2 (vp_in_nI (show j < 120 by omega) (by decide)) d_F_mustWait_36 ?_
          obtain ⟨g1, g2, g3, g4⟩ := b9.1 j hlt
          refine W.eq (g2 := F0 m 37 ls (.ref (ia j) :: [])) (by rw [nI_clamp (by omega), g1]; rfl) ?_
          refine lv_astore_n (lv' := [(3, .ref (ia j)), (2, .int (nI j)), (1, .int c), (0, .ref x)]) hx hb d_F_mustWait_37 rfl hl (by decide) rfl (fun ls hl => ?_)
          refine lv_aload_n hx hb d_F_mustWait_38 rfl (lv_at hl 0 rfl) ?_
          refine lv_ifnull hx hb d_F_mustWait_39 ?_
          refine lv_aload_n hx hb d_F_mustWait_42 rfl (lv_at hl 0 rfl) ?_
          refine wd_getN C h kc_I g2 10 (by decide) lk_F_106 rfl d_F_mustWait_43 ?_
          refine lv_iload_n hx hb d_F_mustWait_46 rfl (lv_at hl 2 rfl) ?_
          refine lv_icmp_ne (tgt := 67) hx hb d_F_mustWait_47 (by decide) (fun c_9 => ?_) (fun c_9 => ?_)
          · refine lv_iinc (v := ((nI j) + 1)) (lv' := [(2, .int ((nI j) + 1)), (3, .ref (ia j)), (1, .int c), (0, .ref x)]) hx hb d_F_mustWait_67 hl (k := 1) rfl (by first | rfl | decide) (by decide) rfl (fun ls hl => ?_)
            refine lv_goto (tgt := 23) hx hb d_F_mustWait_70 (by decide) ?_
            have hl3 : lv_has ls 4 [(2, .int (nI (j + 1))), (1, .int c), (0, .ref x)] := by
              rw [← nI_1]
              exact lv_sub hl [0, 2, 3] rfl
            exact ih (H := _) (locs := _) (ls := ls) (j := j + 1) h hlt (anyw_f hany (by simp [eq_false c_9])) hl3 (by omega)
          · refine lv_aload_n hx hb d_F_mustWait_50 rfl (lv_at hl 0 rfl) ?_
            refine wd_getN C h kc_I g2 5 (by decide) lk_F_103 rfl d_F_mustWait_51 ?_
            refine lv_iconst (v := 4) hx hb d_F_mustWait_54 (by decide) ?_
            refine lv_icmp_eq (tgt := 67) hx hb d_F_mustWait_55 (by decide) (fun c_10 => ?_) (fun c_10 => ?_)
            · refine lv_iinc (v := ((nI j) + 1)) (lv' := [(2, .int ((nI j) + 1)), (3, .ref (ia j)), (1, .int c), (0, .ref x)]) hx hb d_F_mustWait_67 hl (k := 1) rfl (by first | rfl | decide) (by decide) rfl (fun ls hl => ?_)
              refine lv_goto (tgt := 23) hx hb d_F_mustWait_70 (by decide) ?_
              have hl3 : lv_has ls 4 [(2, .int (nI (j + 1))), (1, .int c), (0, .ref x)] := by
                rw [← nI_1]
                exact lv_sub hl [0, 2, 3] rfl
              exact ih (H := _) (locs := _) (ls := ls) (j := j + 1) h hlt (anyw_f hany (by simp [eq_true c_9, eq_true c_10])) hl3 (by omega)
            · refine lv_aload_n hx hb d_F_mustWait_58 rfl (lv_at hl 0 rfl) ?_
              refine wd_ci h (wd_rVN (rest := []) (st0 := [.ref (ia j)]) C h kc_I g2 k_I_isAtEnd wm_I_isAtEnd wz_I_isAtEnd lk_F_72 (c_I_isAtEnd l D T A σ (ia j) (R j) (aa (2 * j)) (aa (2 * j + 1)) g2 ) rfl rfl ⟨Nat.le_of_ble_eq_true rfl, Nat.le_of_ble_eq_true rfl⟩ rfl hl.1 rfl (Nat.le_of_ble_eq_true rfl) d_F_mustWait_59 ⟨Nat.le_of_ble_eq_true rfl, Nat.le_of_ble_eq_true rfl⟩) (fun r_11 σ_12 H locs hp_13 h => ?_)
              obtain ⟨e_14, es_15⟩ := hp_13
              rw [es_15] at h
              subst e_14
              refine lv_if_ne (tgt := 67) hx hb d_F_mustWait_62 (by decide) (fun c_16 => ?_) (fun c_16 => ?_)
              · refine lv_iinc (v := ((nI j) + 1)) (lv' := [(2, .int ((nI j) + 1)), (3, .ref (ia j)), (1, .int c), (0, .ref x)]) hx hb d_F_mustWait_67 hl (k := 1) rfl (by first | rfl | decide) (by decide) rfl (fun ls hl => ?_)
                refine lv_goto (tgt := 23) hx hb d_F_mustWait_70 (by decide) ?_
                have hl3 : lv_has ls 4 [(2, .int (nI (j + 1))), (1, .int c), (0, .ref x)] := by
                  rw [← nI_1]
                  exact lv_sub hl [0, 2, 3] rfl
                exact ih (H := _) (locs := _) (ls := ls) (j := j + 1) h hlt (anyw_f hany (by simp [eq_true c_9, eq_false c_10, eq_false c_16])) hl3 (by omega)
              · refine lv_iconst (v := 1) hx hb d_F_mustWait_65 (by decide) ?_
                exact wd_zret C hr hlocks h (by decide) (⟨by simp [o_mw, eq_false c_6, eq_false c_7, anyw_t c_9 c_10 c_16 n hlt], rfl⟩) (Nat.le_of_ble_eq_true rfl) (Nat.le_of_ble_eq_true rfl) d_F_mustWait_66
    · refine lv_iconst (v := 0) hx hb d_F_mustWait_19 (by decide) ?_
      exact wd_zret C hr hlocks h (by decide) (⟨by simp [o_mw, eq_false c_6, eq_true c_7], rfl⟩) (Nat.le_of_ble_eq_true rfl) (Nat.le_of_ble_eq_true rfl) d_F_mustWait_20

theorem xu_lo {r : Nat → Int32} {ev nx : Int32} {j : Nat} (h5 : j ≠ 5) (h6 : j ≠ 6) : xu r ev nx j = r j := by
  unfold xu
  split
  · rw [pk_un h6, pk_un h5]
  · split
    · rw [pk_un h6, pk_un h5]
    · rw [pk_un h5]

set_option maxHeartbeats 4000000 in
set_option maxRecDepth 20000 in
theorem c_F_event (l : Launch) (D : va_G) (T : Nat → ClassId) (A : Nat → Prop) (σ : wd_S) (x n : Nat) (R : Nat → Nat → Int32) (nc : Nat) (CR : Nat → Nat → Int32) (wg : Nat → Int32) (Q : pq) (aI aC aJ aW aB aP ab : Nat) (fI fC : Nat → Option Nat) (jn wn bk qb : Nat → Int32) (ia aa ca : Nat → Nat) (hB : RB T σ x n R nc CR wg Q aI aC aJ aW aB aP ab fI fC jn wn bk qb ia aa ca) (i ev : Int32) : Met l y_F_event (Cond.code y_F_event b_F_event 5 (some .int) :: wd_tb) { frames := 2, cells := 0, slots := 0, locals := 45 } (va_Pc [.ref x, .int i, .int ev] (wd_Pre D T A σ)) (va_Qi (fun r1 σ1 => r1 = (o_upd (n, R, nc, CR, wg, Q) i (f_evt (o_mw n R wg) ev)).1 ∧ RX T σ1 x (o_upd (n, R, nc, CR, wg, Q) i (f_evt (o_mw n R wg) ev)).2) (wd_B D A) A) 0 0 A := by
  refine wd_ofW (by decide) (Nat.le_of_ble_eq_true rfl) ?_
  intro p e s m below meth c0 ls C hr hlocks hname h hl
  have hl : lv_has ls 5 [(0, .ref x), (1, .int i), (2, .int ev)] := hl
  have hx := C.1
  have hb := C.2.1
  obtain ⟨b1, b2, b3, b4, b5, b6, b7, b8, b9, b10, b11, b12, b13, b14⟩ := id hB
  refine lv_aload_n hx hb d_F_event_0 rfl (lv_at hl 0 rfl) ?_
  refine lv_iload_n hx hb d_F_event_1 rfl (lv_at hl 1 rfl) ?_
  refine wd_cq h (wd_rV (rest := []) (st0 := [.int i, .ref x]) C h kc_F b1 k_F_find wm_F_find wz_F_find lk_F_64 (c_F_find l D T A σ x aI n fI ia _ _ _ _ _ _ b1 b2 b12 (fun k hk => (b9.1 k hk).1) i) rfl rfl ⟨Nat.le_of_ble_eq_true rfl, Nat.le_of_ble_eq_true rfl⟩ rfl hl.1 rfl (Nat.le_of_ble_eq_true rfl) d_F_event_2 ⟨Nat.le_of_ble_eq_true rfl, Nat.le_of_ble_eq_true rfl⟩) (fun r_1 σ_2 H locs hp_3 h => ?_)
  obtain ⟨e_4, es_5⟩ := hp_3
  rw [es_5] at h
  rw [e_4]
  rcases hf : o_find n i with _ | k
  · refine W.eq (g2 := F0 m 5 ls [.null]) rfl ?_
    refine lv_astore_nN (lv' := [(3, .null), (0, .ref x), (1, .int i), (2, .int ev)]) hx hb d_F_event_5 rfl hl (by decide) rfl (fun ls hl => ?_)
    refine lv_aload_nN hx hb d_F_event_6 rfl (lv_at hl 0 rfl) ?_
    refine lv_ifnonnullN hx hb d_F_event_7 ?_
    refine lv_bipush (v := (-101)) hx hb d_F_event_10 (by decide) ?_
    exact wd_iret C hr hlocks h (by rw [o_upd_none (S := (n, R, nc, CR, wg, Q)) hf]; exact ⟨rfl, hB.rx⟩) (Nat.le_of_ble_eq_true rfl) (Nat.le_of_ble_eq_true rfl) d_F_event_12
  · refine W.eq (g2 := F0 m 5 ls [.ref (ia k)]) rfl ?_
    obtain ⟨hk, hik1, hik⟩ := o_find_some b12 hf
    obtain ⟨g1, g2, g3, g4⟩ := b9.1 k hk
    refine lv_astore_n (lv' := [(3, .ref (ia k)), (0, .ref x), (1, .int i), (2, .int ev)]) hx hb d_F_event_5 rfl hl (by decide) rfl (fun ls hl => ?_)
    refine lv_aload_n hx hb d_F_event_6 rfl (lv_at hl 0 rfl) ?_
    refine lv_ifnonnull (tgt := 13) hx hb d_F_event_7 (by decide) ?_
    refine lv_iload_n hx hb d_F_event_13 rfl (lv_at hl 3 rfl) ?_
    refine lv_iconst (v := 0) hx hb d_F_event_14 (by decide) ?_
    refine lv_bipush (v := 10) hx hb d_F_event_15 (by decide) ?_
    refine wd_ci h (wd_rS (rest := []) (st0 := [.int 10, .int 0, .int ev]) C h k_F_within wt_F_within lk_F_46 (c_F_within l D T A σ ev 0 10) rfl rfl ⟨Nat.le_of_ble_eq_true rfl, Nat.le_of_ble_eq_true rfl⟩ rfl hl.1 rfl (Nat.le_of_ble_eq_true rfl) d_F_event_17 ⟨Nat.le_of_ble_eq_true rfl, Nat.le_of_ble_eq_true rfl⟩) (fun r_6 σ_7 H locs hp_8 h => ?_)
    obtain ⟨e_9, es_10⟩ := hp_8
    rw [es_10] at h
    subst e_9
    refine lv_if_ne (tgt := 26) hx hb d_F_event_20 (by decide) (fun c_11 => ?_) (fun c_11 => ?_)
    · refine lv_aload_n hx hb d_F_event_26 rfl (lv_at hl 0 rfl) ?_
      refine wd_ci h (wd_rVN (rest := []) (st0 := [.ref (ia k)]) C h kc_I g2 k_I_isAtEnd wm_I_isAtEnd wz_I_isAtEnd lk_F_72 (c_I_isAtEnd l D T A σ (ia k) (R k) (aa (2 * k)) (aa (2 * k + 1)) g2 ) rfl rfl ⟨Nat.le_of_ble_eq_true rfl, Nat.le_of_ble_eq_true rfl⟩ rfl hl.1 rfl (Nat.le_of_ble_eq_true rfl) d_F_event_27 ⟨Nat.le_of_ble_eq_true rfl, Nat.le_of_ble_eq_true rfl⟩) (fun r_12 σ_13 H locs hp_14 h => ?_)
      obtain ⟨e_15, es_16⟩ := hp_14
      rw [es_16] at h
      subst e_15
      refine lv_if_eq (tgt := 46) hx hb d_F_event_30 (by decide) (fun c_17 => ?_) (fun c_17 => ?_)
      · refine lv_aload_n hx hb d_F_event_46 rfl (lv_at hl 0 rfl) ?_
        refine lv_iload_n hx hb d_F_event_47 rfl (lv_at hl 3 rfl) ?_
        refine wd_ci h (wd_rVN (rest := []) (st0 := [.int ev, .ref (ia k)]) C h kc_I g2 k_I_stateBehind wm_I_stateBehind wz_I_stateBehind lk_F_94 (c_I_stateBehind l D T A σ (ia k) (R k) (aa (2 * k)) (aa (2 * k + 1)) g2 ev) rfl rfl ⟨Nat.le_of_ble_eq_true rfl, Nat.le_of_ble_eq_true rfl⟩ rfl hl.1 rfl (Nat.le_of_ble_eq_true rfl) d_F_event_48 ⟨Nat.le_of_ble_eq_true rfl, Nat.le_of_ble_eq_true rfl⟩) (fun r_18 σ_19 H locs hp_20 h => ?_)
        obtain ⟨e_21, es_22⟩ := hp_20
        rw [es_22] at h
        subst e_21
        refine lv_istore (lv' := [(4, .int (xb (R k) ev)), (3, .ref (ia k)), (0, .ref x), (1, .int i), (2, .int ev)]) hx hb d_F_event_51 hl (by decide) rfl (fun ls hl => ?_)
        refine lv_iload hx hb d_F_event_53 (lv_at hl 0 rfl) ?_
        refine lv_iconst (v := (-1)) hx hb d_F_event_55 (by decide) ?_
        refine lv_icmp_ne (tgt := 62) hx hb d_F_event_56 (by decide) (fun c_23 => ?_) (fun c_23 => ?_)
        · refine lv_iload_n hx hb d_F_event_62 rfl (lv_at hl 4 rfl) ?_
          refine lv_iconst (v := 2) hx hb d_F_event_63 (by decide) ?_
          refine lv_icmp_ne (tgt := 84) hx hb d_F_event_64 (by decide) (fun c_24 => ?_) (fun c_24 => ?_)
          · refine lv_iload_n hx hb d_F_event_84 rfl (lv_at hl 4 rfl) ?_
            refine lv_iconst (v := 4) hx hb d_F_event_85 (by decide) ?_
            refine lv_icmp_ne (tgt := 111) hx hb d_F_event_86 (by decide) (fun c_25 => ?_) (fun c_25 => ?_)
            · refine lv_aload_n hx hb d_F_event_111 rfl (lv_at hl 1 rfl) ?_
              refine lv_iload_n hx hb d_F_event_112 rfl (lv_at hl 4 rfl) ?_
              refine lv_iload hx hb d_F_event_113 (lv_at hl 0 rfl) ?_
              refine wd_cv h (wd_rVN (rest := []) (st0 := [.int (xb (R k) ev), .int ev, .ref (ia k)]) C h kc_I g2 k_I_undergo wm_I_undergo wz_I_undergo lk_F_112 (c_I_undergo l D T A σ (ia k) (R k) (aa (2 * k)) (aa (2 * k + 1)) g2 ev (xb (R k) ev)) rfl rfl ⟨Nat.le_of_ble_eq_true rfl, Nat.le_of_ble_eq_true rfl⟩ rfl hl.1 rfl (Nat.le_of_ble_eq_true rfl) d_F_event_115 ⟨Nat.le_of_ble_eq_true rfl, Nat.le_of_ble_eq_true rfl⟩) (fun σ_27 H locs hp_28 h => ?_)
              rw [hp_28] at h
              refine lv_iload hx hb d_F_event_118 (lv_at hl 0 rfl) ?_
              exact wd_iret C hr hlocks h (by rw [o_upd_some (S := (n, R, nc, CR, wg, Q)) hf, show f_evt (o_mw n R wg) ev (R k) = ((xb (R k) ev), (xu (R k) ev (xb (R k) ev))) from by simp [f_evt, eq_false c_11, eq_true c_17, eq_false c_23, eq_false c_24, eq_false c_25]]; exact ⟨rfl, (hB.item (r := (xu (R k) ev (xb (R k) ev))) hk (xu_lo (by decide) (by decide)) (xu_lo (by decide) (by decide)) (fun j hj => xu_lo (by omega) (by omega))).rx⟩) (Nat.le_of_ble_eq_true rfl) (Nat.le_of_ble_eq_true rfl) d_F_event_120
            · refine lv_aload_n hx hb d_F_event_89 rfl (lv_at hl 1 rfl) ?_
              refine wd_getN C h kc_I g2 5 (by decide) lk_F_103 rfl d_F_event_90 ?_
              refine lv_iconst (v := 4) hx hb d_F_event_93 (by decide) ?_
              refine lv_icmp_ne (tgt := 111) hx hb d_F_event_94 (by decide) (fun c_29 => ?_) (fun c_29 => ?_)
              · refine lv_aload_n hx hb d_F_event_111 rfl (lv_at hl 1 rfl) ?_
                refine lv_iload_n hx hb d_F_event_112 rfl (lv_at hl 4 rfl) ?_
                refine lv_iload hx hb d_F_event_113 (lv_at hl 0 rfl) ?_
                refine wd_cv h (wd_rVN (rest := []) (st0 := [.int (xb (R k) ev), .int ev, .ref (ia k)]) C h kc_I g2 k_I_undergo wm_I_undergo wz_I_undergo lk_F_112 (c_I_undergo l D T A σ (ia k) (R k) (aa (2 * k)) (aa (2 * k + 1)) g2 ev (xb (R k) ev)) rfl rfl ⟨Nat.le_of_ble_eq_true rfl, Nat.le_of_ble_eq_true rfl⟩ rfl hl.1 rfl (Nat.le_of_ble_eq_true rfl) d_F_event_115 ⟨Nat.le_of_ble_eq_true rfl, Nat.le_of_ble_eq_true rfl⟩) (fun σ_31 H locs hp_32 h => ?_)
                rw [hp_32] at h
                refine lv_iload hx hb d_F_event_118 (lv_at hl 0 rfl) ?_
                exact wd_iret C hr hlocks h (by rw [o_upd_some (S := (n, R, nc, CR, wg, Q)) hf, show f_evt (o_mw n R wg) ev (R k) = ((xb (R k) ev), (xu (R k) ev (xb (R k) ev))) from by simp [f_evt, eq_false c_11, eq_true c_17, eq_false c_23, eq_false c_24, eq_true c_25, eq_false c_29]]; exact ⟨rfl, (hB.item (r := (xu (R k) ev (xb (R k) ev))) hk (xu_lo (by decide) (by decide)) (xu_lo (by decide) (by decide)) (fun j hj => xu_lo (by omega) (by omega))).rx⟩) (Nat.le_of_ble_eq_true rfl) (Nat.le_of_ble_eq_true rfl) d_F_event_120
              · refine lv_aload_n hx hb d_F_event_97 rfl (lv_at hl 2 rfl) ?_
                refine lv_aload_n hx hb d_F_event_98 rfl (lv_at hl 1 rfl) ?_
                refine wd_getN C h kc_I g2 10 (by decide) lk_F_106 rfl d_F_event_99 ?_
                refine wd_ci h (wd_rV (rest := []) (st0 := [.int (R k 10), .ref x]) C h kc_F b1 k_F_mustWait wm_F_mustWait wz_F_mustWait lk_F_109 (c_F_mustWait l D T A σ x n R nc CR wg Q aI aC aJ aW aB aP ab fI fC jn wn bk qb ia aa ca hB (R k 10)) rfl rfl ⟨Nat.le_of_ble_eq_true rfl, Nat.le_of_ble_eq_true rfl⟩ rfl hl.1 rfl (Nat.le_of_ble_eq_true rfl) d_F_event_102 ⟨Nat.le_of_ble_eq_true rfl, Nat.le_of_ble_eq_true rfl⟩) (fun r_33 σ_34 H locs hp_35 h => ?_)
                obtain ⟨e_36, es_37⟩ := hp_35
                rw [es_37] at h
                subst e_36
                refine lv_if_eq (tgt := 111) hx hb d_F_event_105 (by decide) (fun c_38 => ?_) (fun c_38 => ?_)
                · refine lv_aload_n hx hb d_F_event_111 rfl (lv_at hl 1 rfl) ?_
                  refine lv_iload_n hx hb d_F_event_112 rfl (lv_at hl 4 rfl) ?_
                  refine lv_iload hx hb d_F_event_113 (lv_at hl 0 rfl) ?_
                  refine wd_cv h (wd_rVN (rest := []) (st0 := [.int (xb (R k) ev), .int ev, .ref (ia k)]) C h kc_I g2 k_I_undergo wm_I_undergo wz_I_undergo lk_F_112 (c_I_undergo l D T A σ (ia k) (R k) (aa (2 * k)) (aa (2 * k + 1)) g2 ev (xb (R k) ev)) rfl rfl ⟨Nat.le_of_ble_eq_true rfl, Nat.le_of_ble_eq_true rfl⟩ rfl hl.1 rfl (Nat.le_of_ble_eq_true rfl) d_F_event_115 ⟨Nat.le_of_ble_eq_true rfl, Nat.le_of_ble_eq_true rfl⟩) (fun σ_40 H locs hp_41 h => ?_)
                  rw [hp_41] at h
                  refine lv_iload hx hb d_F_event_118 (lv_at hl 0 rfl) ?_
                  exact wd_iret C hr hlocks h (by rw [o_upd_some (S := (n, R, nc, CR, wg, Q)) hf, show f_evt (o_mw n R wg) ev (R k) = ((xb (R k) ev), (xu (R k) ev (xb (R k) ev))) from by simp [f_evt, eq_false c_11, eq_true c_17, eq_false c_23, eq_false c_24, eq_true c_25, eq_true c_29, eq_true c_38]]; exact ⟨rfl, (hB.item (r := (xu (R k) ev (xb (R k) ev))) hk (xu_lo (by decide) (by decide)) (xu_lo (by decide) (by decide)) (fun j hj => xu_lo (by omega) (by omega))).rx⟩) (Nat.le_of_ble_eq_true rfl) (Nat.le_of_ble_eq_true rfl) d_F_event_120
                · refine lv_bipush (v := (-107)) hx hb d_F_event_108 (by decide) ?_
                  exact wd_iret C hr hlocks h (by rw [o_upd_some (S := (n, R, nc, CR, wg, Q)) hf, show f_evt (o_mw n R wg) ev (R k) = ((-107), (R k)) from by simp [f_evt, eq_false c_11, eq_true c_17, eq_false c_23, eq_false c_24, eq_true c_25, eq_true c_29, eq_false c_38]]; exact ⟨rfl, by rw [va_up_id]; exact hB.rx⟩) (Nat.le_of_ble_eq_true rfl) (Nat.le_of_ble_eq_true rfl) d_F_event_110
          · refine lv_aload_n hx hb d_F_event_67 rfl (lv_at hl 1 rfl) ?_
            refine wd_getN C h kc_I g2 9 (by decide) lk_F_97 rfl d_F_event_68 ?_
            refine lv_if_eq (tgt := 84) hx hb d_F_event_71 (by decide) (fun c_42 => ?_) (fun c_42 => ?_)
            · refine lv_iload_n hx hb d_F_event_84 rfl (lv_at hl 4 rfl) ?_
              refine lv_iconst (v := 4) hx hb d_F_event_85 (by decide) ?_
              refine lv_icmp_ne (tgt := 111) hx hb d_F_event_86 (by decide) (fun c_43 => ?_) (fun c_43 => ?_)
              · refine lv_aload_n hx hb d_F_event_111 rfl (lv_at hl 1 rfl) ?_
                refine lv_iload_n hx hb d_F_event_112 rfl (lv_at hl 4 rfl) ?_
                refine lv_iload hx hb d_F_event_113 (lv_at hl 0 rfl) ?_
                refine wd_cv h (wd_rVN (rest := []) (st0 := [.int (xb (R k) ev), .int ev, .ref (ia k)]) C h kc_I g2 k_I_undergo wm_I_undergo wz_I_undergo lk_F_112 (c_I_undergo l D T A σ (ia k) (R k) (aa (2 * k)) (aa (2 * k + 1)) g2 ev (xb (R k) ev)) rfl rfl ⟨Nat.le_of_ble_eq_true rfl, Nat.le_of_ble_eq_true rfl⟩ rfl hl.1 rfl (Nat.le_of_ble_eq_true rfl) d_F_event_115 ⟨Nat.le_of_ble_eq_true rfl, Nat.le_of_ble_eq_true rfl⟩) (fun σ_45 H locs hp_46 h => ?_)
                rw [hp_46] at h
                refine lv_iload hx hb d_F_event_118 (lv_at hl 0 rfl) ?_
                exact wd_iret C hr hlocks h (by rw [o_upd_some (S := (n, R, nc, CR, wg, Q)) hf, show f_evt (o_mw n R wg) ev (R k) = ((xb (R k) ev), (xu (R k) ev (xb (R k) ev))) from by simp [f_evt, eq_false c_11, eq_true c_17, eq_false c_23, eq_true c_24, eq_true c_42, eq_false c_43]]; exact ⟨rfl, (hB.item (r := (xu (R k) ev (xb (R k) ev))) hk (xu_lo (by decide) (by decide)) (xu_lo (by decide) (by decide)) (fun j hj => xu_lo (by omega) (by omega))).rx⟩) (Nat.le_of_ble_eq_true rfl) (Nat.le_of_ble_eq_true rfl) d_F_event_120
              · refine lv_aload_n hx hb d_F_event_89 rfl (lv_at hl 1 rfl) ?_
                refine wd_getN C h kc_I g2 5 (by decide) lk_F_103 rfl d_F_event_90 ?_
                refine lv_iconst (v := 4) hx hb d_F_event_93 (by decide) ?_
                refine lv_icmp_ne (tgt := 111) hx hb d_F_event_94 (by decide) (fun c_47 => ?_) (fun c_47 => ?_)
                · refine lv_aload_n hx hb d_F_event_111 rfl (lv_at hl 1 rfl) ?_
                  refine lv_iload_n hx hb d_F_event_112 rfl (lv_at hl 4 rfl) ?_
                  refine lv_iload hx hb d_F_event_113 (lv_at hl 0 rfl) ?_
                  refine wd_cv h (wd_rVN (rest := []) (st0 := [.int (xb (R k) ev), .int ev, .ref (ia k)]) C h kc_I g2 k_I_undergo wm_I_undergo wz_I_undergo lk_F_112 (c_I_undergo l D T A σ (ia k) (R k) (aa (2 * k)) (aa (2 * k + 1)) g2 ev (xb (R k) ev)) rfl rfl ⟨Nat.le_of_ble_eq_true rfl, Nat.le_of_ble_eq_true rfl⟩ rfl hl.1 rfl (Nat.le_of_ble_eq_true rfl) d_F_event_115 ⟨Nat.le_of_ble_eq_true rfl, Nat.le_of_ble_eq_true rfl⟩) (fun σ_49 H locs hp_50 h => ?_)
                  rw [hp_50] at h
                  refine lv_iload hx hb d_F_event_118 (lv_at hl 0 rfl) ?_
                  exact wd_iret C hr hlocks h (by rw [o_upd_some (S := (n, R, nc, CR, wg, Q)) hf, show f_evt (o_mw n R wg) ev (R k) = ((xb (R k) ev), (xu (R k) ev (xb (R k) ev))) from by simp [f_evt, eq_false c_11, eq_true c_17, eq_false c_23, eq_true c_24, eq_true c_42, eq_true c_43, eq_false c_47]]; exact ⟨rfl, (hB.item (r := (xu (R k) ev (xb (R k) ev))) hk (xu_lo (by decide) (by decide)) (xu_lo (by decide) (by decide)) (fun j hj => xu_lo (by omega) (by omega))).rx⟩) (Nat.le_of_ble_eq_true rfl) (Nat.le_of_ble_eq_true rfl) d_F_event_120
                · refine lv_aload_n hx hb d_F_event_97 rfl (lv_at hl 2 rfl) ?_
                  refine lv_aload_n hx hb d_F_event_98 rfl (lv_at hl 1 rfl) ?_
                  refine wd_getN C h kc_I g2 10 (by decide) lk_F_106 rfl d_F_event_99 ?_
                  refine wd_ci h (wd_rV (rest := []) (st0 := [.int (R k 10), .ref x]) C h kc_F b1 k_F_mustWait wm_F_mustWait wz_F_mustWait lk_F_109 (c_F_mustWait l D T A σ x n R nc CR wg Q aI aC aJ aW aB aP ab fI fC jn wn bk qb ia aa ca hB (R k 10)) rfl rfl ⟨Nat.le_of_ble_eq_true rfl, Nat.le_of_ble_eq_true rfl⟩ rfl hl.1 rfl (Nat.le_of_ble_eq_true rfl) d_F_event_102 ⟨Nat.le_of_ble_eq_true rfl, Nat.le_of_ble_eq_true rfl⟩) (fun r_51 σ_52 H locs hp_53 h => ?_)
                  obtain ⟨e_54, es_55⟩ := hp_53
                  rw [es_55] at h
                  subst e_54
                  refine lv_if_eq (tgt := 111) hx hb d_F_event_105 (by decide) (fun c_56 => ?_) (fun c_56 => ?_)
                  · refine lv_aload_n hx hb d_F_event_111 rfl (lv_at hl 1 rfl) ?_
                    refine lv_iload_n hx hb d_F_event_112 rfl (lv_at hl 4 rfl) ?_
                    refine lv_iload hx hb d_F_event_113 (lv_at hl 0 rfl) ?_
                    refine wd_cv h (wd_rVN (rest := []) (st0 := [.int (xb (R k) ev), .int ev, .ref (ia k)]) C h kc_I g2 k_I_undergo wm_I_undergo wz_I_undergo lk_F_112 (c_I_undergo l D T A σ (ia k) (R k) (aa (2 * k)) (aa (2 * k + 1)) g2 ev (xb (R k) ev)) rfl rfl ⟨Nat.le_of_ble_eq_true rfl, Nat.le_of_ble_eq_true rfl⟩ rfl hl.1 rfl (Nat.le_of_ble_eq_true rfl) d_F_event_115 ⟨Nat.le_of_ble_eq_true rfl, Nat.le_of_ble_eq_true rfl⟩) (fun σ_58 H locs hp_59 h => ?_)
                    rw [hp_59] at h
                    refine lv_iload hx hb d_F_event_118 (lv_at hl 0 rfl) ?_
                    exact wd_iret C hr hlocks h (by rw [o_upd_some (S := (n, R, nc, CR, wg, Q)) hf, show f_evt (o_mw n R wg) ev (R k) = ((xb (R k) ev), (xu (R k) ev (xb (R k) ev))) from by simp [f_evt, eq_false c_11, eq_true c_17, eq_false c_23, eq_true c_24, eq_true c_42, eq_true c_43, eq_true c_47, eq_true c_56]]; exact ⟨rfl, (hB.item (r := (xu (R k) ev (xb (R k) ev))) hk (xu_lo (by decide) (by decide)) (xu_lo (by decide) (by decide)) (fun j hj => xu_lo (by omega) (by omega))).rx⟩) (Nat.le_of_ble_eq_true rfl) (Nat.le_of_ble_eq_true rfl) d_F_event_120
                  · refine lv_bipush (v := (-107)) hx hb d_F_event_108 (by decide) ?_
                    exact wd_iret C hr hlocks h (by rw [o_upd_some (S := (n, R, nc, CR, wg, Q)) hf, show f_evt (o_mw n R wg) ev (R k) = ((-107), (R k)) from by simp [f_evt, eq_false c_11, eq_true c_17, eq_false c_23, eq_true c_24, eq_true c_42, eq_true c_43, eq_true c_47, eq_false c_56]]; exact ⟨rfl, by rw [va_up_id]; exact hB.rx⟩) (Nat.le_of_ble_eq_true rfl) (Nat.le_of_ble_eq_true rfl) d_F_event_110
            · refine lv_aload_n hx hb d_F_event_74 rfl (lv_at hl 1 rfl) ?_
              refine wd_getN C h kc_I g2 14 (by decide) lk_F_100 rfl d_F_event_75 ?_
              refine lv_if_ne (tgt := 84) hx hb d_F_event_78 (by decide) (fun c_60 => ?_) (fun c_60 => ?_)
              · refine lv_iload_n hx hb d_F_event_84 rfl (lv_at hl 4 rfl) ?_
                refine lv_iconst (v := 4) hx hb d_F_event_85 (by decide) ?_
                refine lv_icmp_ne (tgt := 111) hx hb d_F_event_86 (by decide) (fun c_61 => ?_) (fun c_61 => ?_)
                · refine lv_aload_n hx hb d_F_event_111 rfl (lv_at hl 1 rfl) ?_
                  refine lv_iload_n hx hb d_F_event_112 rfl (lv_at hl 4 rfl) ?_
                  refine lv_iload hx hb d_F_event_113 (lv_at hl 0 rfl) ?_
                  refine wd_cv h (wd_rVN (rest := []) (st0 := [.int (xb (R k) ev), .int ev, .ref (ia k)]) C h kc_I g2 k_I_undergo wm_I_undergo wz_I_undergo lk_F_112 (c_I_undergo l D T A σ (ia k) (R k) (aa (2 * k)) (aa (2 * k + 1)) g2 ev (xb (R k) ev)) rfl rfl ⟨Nat.le_of_ble_eq_true rfl, Nat.le_of_ble_eq_true rfl⟩ rfl hl.1 rfl (Nat.le_of_ble_eq_true rfl) d_F_event_115 ⟨Nat.le_of_ble_eq_true rfl, Nat.le_of_ble_eq_true rfl⟩) (fun σ_63 H locs hp_64 h => ?_)
                  rw [hp_64] at h
                  refine lv_iload hx hb d_F_event_118 (lv_at hl 0 rfl) ?_
                  exact wd_iret C hr hlocks h (by rw [o_upd_some (S := (n, R, nc, CR, wg, Q)) hf, show f_evt (o_mw n R wg) ev (R k) = ((xb (R k) ev), (xu (R k) ev (xb (R k) ev))) from by simp [f_evt, eq_false c_11, eq_true c_17, eq_false c_23, eq_true c_24, eq_false c_42, eq_false c_60, eq_false c_61]]; exact ⟨rfl, (hB.item (r := (xu (R k) ev (xb (R k) ev))) hk (xu_lo (by decide) (by decide)) (xu_lo (by decide) (by decide)) (fun j hj => xu_lo (by omega) (by omega))).rx⟩) (Nat.le_of_ble_eq_true rfl) (Nat.le_of_ble_eq_true rfl) d_F_event_120
                · refine lv_aload_n hx hb d_F_event_89 rfl (lv_at hl 1 rfl) ?_
                  refine wd_getN C h kc_I g2 5 (by decide) lk_F_103 rfl d_F_event_90 ?_
                  refine lv_iconst (v := 4) hx hb d_F_event_93 (by decide) ?_
                  refine lv_icmp_ne (tgt := 111) hx hb d_F_event_94 (by decide) (fun c_65 => ?_) (fun c_65 => ?_)
                  · refine lv_aload_n hx hb d_F_event_111 rfl (lv_at hl 1 rfl) ?_
                    refine lv_iload_n hx hb d_F_event_112 rfl (lv_at hl 4 rfl) ?_
                    refine lv_iload hx hb d_F_event_113 (lv_at hl 0 rfl) ?_
                    refine wd_cv h (wd_rVN (rest := []) (st0 := [.int (xb (R k) ev), .int ev, .ref (ia k)]) C h kc_I g2 k_I_undergo wm_I_undergo wz_I_undergo lk_F_112 (c_I_undergo l D T A σ (ia k) (R k) (aa (2 * k)) (aa (2 * k + 1)) g2 ev (xb (R k) ev)) rfl rfl ⟨Nat.le_of_ble_eq_true rfl, Nat.le_of_ble_eq_true rfl⟩ rfl hl.1 rfl (Nat.le_of_ble_eq_true rfl) d_F_event_115 ⟨Nat.le_of_ble_eq_true rfl, Nat.le_of_ble_eq_true rfl⟩) (fun σ_67 H locs hp_68 h => ?_)
                    rw [hp_68] at h
                    refine lv_iload hx hb d_F_event_118 (lv_at hl 0 rfl) ?_
                    exact wd_iret C hr hlocks h (by rw [o_upd_some (S := (n, R, nc, CR, wg, Q)) hf, show f_evt (o_mw n R wg) ev (R k) = ((xb (R k) ev), (xu (R k) ev (xb (R k) ev))) from by simp [f_evt, eq_false c_11, eq_true c_17, eq_false c_23, eq_true c_24, eq_false c_42, eq_false c_60, eq_true c_61, eq_false c_65]]; exact ⟨rfl, (hB.item (r := (xu (R k) ev (xb (R k) ev))) hk (xu_lo (by decide) (by decide)) (xu_lo (by decide) (by decide)) (fun j hj => xu_lo (by omega) (by omega))).rx⟩) (Nat.le_of_ble_eq_true rfl) (Nat.le_of_ble_eq_true rfl) d_F_event_120
                  · refine lv_aload_n hx hb d_F_event_97 rfl (lv_at hl 2 rfl) ?_
                    refine lv_aload_n hx hb d_F_event_98 rfl (lv_at hl 1 rfl) ?_
                    refine wd_getN C h kc_I g2 10 (by decide) lk_F_106 rfl d_F_event_99 ?_
                    refine wd_ci h (wd_rV (rest := []) (st0 := [.int (R k 10), .ref x]) C h kc_F b1 k_F_mustWait wm_F_mustWait wz_F_mustWait lk_F_109 (c_F_mustWait l D T A σ x n R nc CR wg Q aI aC aJ aW aB aP ab fI fC jn wn bk qb ia aa ca hB (R k 10)) rfl rfl ⟨Nat.le_of_ble_eq_true rfl, Nat.le_of_ble_eq_true rfl⟩ rfl hl.1 rfl (Nat.le_of_ble_eq_true rfl) d_F_event_102 ⟨Nat.le_of_ble_eq_true rfl, Nat.le_of_ble_eq_true rfl⟩) (fun r_69 σ_70 H locs hp_71 h => ?_)
                    obtain ⟨e_72, es_73⟩ := hp_71
                    rw [es_73] at h
                    subst e_72
                    refine lv_if_eq (tgt := 111) hx hb d_F_event_105 (by decide) (fun c_74 => ?_) (fun c_74 => ?_)
                    · refine lv_aload_n hx hb d_F_event_111 rfl (lv_at hl 1 rfl) ?_
                      refine lv_iload_n hx hb d_F_event_112 rfl (lv_at hl 4 rfl) ?_
                      refine lv_iload hx hb d_F_event_113 (lv_at hl 0 rfl) ?_
                      refine wd_cv h (wd_rVN (rest := []) (st0 := [.int (xb (R k) ev), .int ev, .ref (ia k)]) C h kc_I g2 k_I_undergo wm_I_undergo wz_I_undergo lk_F_112 (c_I_undergo l D T A σ (ia k) (R k) (aa (2 * k)) (aa (2 * k + 1)) g2 ev (xb (R k) ev)) rfl rfl ⟨Nat.le_of_ble_eq_true rfl, Nat.le_of_ble_eq_true rfl⟩ rfl hl.1 rfl (Nat.le_of_ble_eq_true rfl) d_F_event_115 ⟨Nat.le_of_ble_eq_true rfl, Nat.le_of_ble_eq_true rfl⟩) (fun σ_76 H locs hp_77 h => ?_)
                      rw [hp_77] at h
                      refine lv_iload hx hb d_F_event_118 (lv_at hl 0 rfl) ?_
                      exact wd_iret C hr hlocks h (by rw [o_upd_some (S := (n, R, nc, CR, wg, Q)) hf, show f_evt (o_mw n R wg) ev (R k) = ((xb (R k) ev), (xu (R k) ev (xb (R k) ev))) from by simp [f_evt, eq_false c_11, eq_true c_17, eq_false c_23, eq_true c_24, eq_false c_42, eq_false c_60, eq_true c_61, eq_true c_65, eq_true c_74]]; exact ⟨rfl, (hB.item (r := (xu (R k) ev (xb (R k) ev))) hk (xu_lo (by decide) (by decide)) (xu_lo (by decide) (by decide)) (fun j hj => xu_lo (by omega) (by omega))).rx⟩) (Nat.le_of_ble_eq_true rfl) (Nat.le_of_ble_eq_true rfl) d_F_event_120
                    · refine lv_bipush (v := (-107)) hx hb d_F_event_108 (by decide) ?_
                      exact wd_iret C hr hlocks h (by rw [o_upd_some (S := (n, R, nc, CR, wg, Q)) hf, show f_evt (o_mw n R wg) ev (R k) = ((-107), (R k)) from by simp [f_evt, eq_false c_11, eq_true c_17, eq_false c_23, eq_true c_24, eq_false c_42, eq_false c_60, eq_true c_61, eq_true c_65, eq_false c_74]]; exact ⟨rfl, by rw [va_up_id]; exact hB.rx⟩) (Nat.le_of_ble_eq_true rfl) (Nat.le_of_ble_eq_true rfl) d_F_event_110
              · refine lv_bipush (v := (-106)) hx hb d_F_event_81 (by decide) ?_
                exact wd_iret C hr hlocks h (by rw [o_upd_some (S := (n, R, nc, CR, wg, Q)) hf, show f_evt (o_mw n R wg) ev (R k) = ((-106), (R k)) from by simp [f_evt, eq_false c_11, eq_true c_17, eq_false c_23, eq_true c_24, eq_false c_42, eq_true c_60]]; exact ⟨rfl, by rw [va_up_id]; exact hB.rx⟩) (Nat.le_of_ble_eq_true rfl) (Nat.le_of_ble_eq_true rfl) d_F_event_83
        · refine lv_bipush (v := (-103)) hx hb d_F_event_59 (by decide) ?_
          exact wd_iret C hr hlocks h (by rw [o_upd_some (S := (n, R, nc, CR, wg, Q)) hf, show f_evt (o_mw n R wg) ev (R k) = ((-103), (R k)) from by simp [f_evt, eq_false c_11, eq_true c_17, eq_true c_23]]; exact ⟨rfl, by rw [va_up_id]; exact hB.rx⟩) (Nat.le_of_ble_eq_true rfl) (Nat.le_of_ble_eq_true rfl) d_F_event_61
      · refine lv_aload_n hx hb d_F_event_33 rfl (lv_at hl 0 rfl) ?_
        refine lv_dup hx hb d_F_event_34 rfl ?_
        refine wd_getN C h kc_I g2 12 (by decide) lk_F_91 rfl d_F_event_35 ?_
        refine lv_iconst (v := 1) hx hb d_F_event_38 (by decide) ?_
        refine lv_iadd hx hb d_F_event_39 ?_
        refine wd_putN C h kc_I g2 12 (by decide) lk_F_91 rfl (by rfl) (by rfl) (Nat.le_of_ble_eq_true rfl) d_F_event_40 (fun H locs h => ?_)
        have h : wd_C D T A s H locs (wd_up σ (ia k) (.inr (1, [.int (R k 0), .int (R k 1), .int (R k 2), .int (R k 3), .int (R k 4), .int (R k 5), .int (R k 6), .int (R k 7), .int (R k 8), .int (R k 9), .int (R k 10), .int (R k 11), .int ((R k 12) + 1), .int (R k 13), .int (R k 14), .ref (aa (2 * k)), .ref (aa (2 * k + 1))]))) := h
        have h_78 : (wd_up σ (ia k) (.inr (1, [.int (R k 0), .int (R k 1), .int (R k 2), .int (R k 3), .int (R k 4), .int (R k 5), .int (R k 6), .int (R k 7), .int (R k 8), .int (R k 9), .int (R k 10), .int (R k 11), .int ((R k 12) + 1), .int (R k 13), .int (R k 14), .ref (aa (2 * k)), .ref (aa (2 * k + 1))]))) (ia k) = some (.inr (1, [.int (R k 0), .int (R k 1), .int (R k 2), .int (R k 3), .int (R k 4), .int (R k 5), .int (R k 6), .int (R k 7), .int (R k 8), .int (R k 9), .int (R k 10), .int (R k 11), .int ((R k 12) + 1), .int (R k 13), .int (R k 14), .ref (aa (2 * k)), .ref (aa (2 * k + 1))])) := wd_us _ _ _
        have h_79 : (wd_up σ (ia k) (.inr (1, [.int (R k 0), .int (R k 1), .int (R k 2), .int (R k 3), .int (R k 4), .int (R k 5), .int (R k 6), .int (R k 7), .int (R k 8), .int (R k 9), .int (R k 10), .int (R k 11), .int ((R k 12) + 1), .int (R k 13), .int (R k 14), .ref (aa (2 * k)), .ref (aa (2 * k + 1))]))) x = some (.inr (0, [.ref aI, .int (nI n), .ref aC, .int (nI nc), .ref aJ, .ref aW, .ref aB, .ref aP])) := wd_uk b1 (wd_ne b1 g2 (by simp))
        refine lv_bipush (v := (-105)) hx hb d_F_event_43 (by decide) ?_
        exact wd_iret C hr hlocks h (by rw [o_upd_some (S := (n, R, nc, CR, wg, Q)) hf, show f_evt (o_mw n R wg) ev (R k) = ((-105), (upd (R k) 12 ((R k 12) + 1))) from by simp [f_evt, eq_false c_11, eq_false c_17]]; exact ⟨rfl, (hB.item (r := (upd (R k) 12 ((R k 12) + 1))) hk rfl rfl (fun j hj => upd_hi (by decide) hj)).rx⟩) (Nat.le_of_ble_eq_true rfl) (Nat.le_of_ble_eq_true rfl) d_F_event_45
    · refine lv_bipush (v := (-102)) hx hb d_F_event_23 (by decide) ?_
      exact wd_iret C hr hlocks h (by rw [o_upd_some (S := (n, R, nc, CR, wg, Q)) hf, show f_evt (o_mw n R wg) ev (R k) = ((-102), (R k)) from by simp [f_evt, eq_true c_11]]; exact ⟨rfl, by rw [va_up_id]; exact hB.rx⟩) (Nat.le_of_ble_eq_true rfl) (Nat.le_of_ble_eq_true rfl) d_F_event_25

set_option maxHeartbeats 4000000 in
set_option maxRecDepth 20000 in
theorem c_F_row (l : Launch) (D : va_G) (T : Nat → ClassId) (A : Nat → Prop) (σ : wd_S) (x n : Nat) (R : Nat → Nat → Int32) (nc : Nat) (CR : Nat → Nat → Int32) (wg : Nat → Int32) (Q : pq) (aI aC aJ aW aB aP ab : Nat) (fI fC : Nat → Option Nat) (jn wn bk qb : Nat → Int32) (ia aa ca : Nat → Nat) (hB : RB T σ x n R nc CR wg Q aI aC aJ aW aB aP ab fI fC jn wn bk qb ia aa ca) (i wh : Int32) : Met l y_F_row (Cond.code y_F_row b_F_row 4 (some .int) :: wd_tb) { frames := 1, cells := 0, slots := 0, locals := 22 } (va_Pc [.ref x, .int i, .int wh] (wd_Pre D T A σ)) (va_Qi (fun r1 σ1 => r1 = o_row nc CR i wh ∧ σ1 = σ) (wd_B D A) A) 0 0 A := by
  refine wd_ofW (by decide) (Nat.le_of_ble_eq_true rfl) ?_
  intro p e s m below meth c0 ls C hr hlocks hname h hl
  have hl : lv_has ls 4 [(0, .ref x), (1, .int i), (2, .int wh)] := hl
  have hx := C.1
  have hb := C.2.1
  obtain ⟨b1, b2, b3, b4, b5, b6, b7, b8, b9, b10, b11, b12, b13, b14⟩ := id hB
  refine lv_iload_n hx hb d_F_row_0 rfl (lv_at hl 1 rfl) ?_
  refine lv_iconst (v := 0) hx hb d_F_row_1 (by decide) ?_
  refine lv_aload_n hx hb d_F_row_2 rfl (lv_at hl 0 rfl) ?_
  refine wd_get C h kc_F b1 3 (by decide) lk_F_25 rfl d_F_row_3 ?_
  refine lv_iconst (v := 1) hx hb d_F_row_6 (by decide) ?_
  refine lv_isub hx hb d_F_row_7 ?_
  refine wd_ci h (wd_rS (rest := []) (st0 := [.int ((nI nc) - 1), .int 0, .int i]) C h k_F_within wt_F_within lk_F_46 (c_F_within l D T A σ i 0 ((nI nc) - 1)) rfl rfl ⟨Nat.le_of_ble_eq_true rfl, Nat.le_of_ble_eq_true rfl⟩ rfl hl.1 rfl (Nat.le_of_ble_eq_true rfl) d_F_row_8 ⟨Nat.le_of_ble_eq_true rfl, Nat.le_of_ble_eq_true rfl⟩) (fun r_1 σ_2 H locs hp_3 h => ?_)
  obtain ⟨e_4, es_5⟩ := hp_3
  rw [es_5] at h
  subst e_4
  refine lv_if_ne (tgt := 16) hx hb d_F_row_11 (by decide) (fun c_6 => ?_) (fun c_6 => ?_)
  · refine lv_aload_n hx hb d_F_row_16 rfl (lv_at hl 0 rfl) ?_
    refine wd_get C h kc_F b1 2 (by decide) lk_F_21 rfl d_F_row_17 ?_
    refine lv_iload_n hx hb d_F_row_20 rfl (lv_at hl 1 rfl) ?_
    refine wd_aldq C h 3 rfl b3 (by obtain ⟨k, hk, rfl⟩ := r_in (by omega) c_6; exact vp_in_nI (show k < 200 by omega) (by decide)) d_F_row_21 ?_
    obtain ⟨k, hk, rfl⟩ := r_in (by omega) c_6
    obtain ⟨g1, g2⟩ := b10 k hk
    refine W.eq (g2 := F0 m 22 ls (.ref (ca k) :: [])) (by rw [nI_clamp (by omega), g1]; rfl) ?_
    refine lv_astore_n (lv' := [(3, .ref (ca k)), (0, .ref x), (1, .int (nI k)), (2, .int wh)]) hx hb d_F_row_22 rfl hl (by decide) rfl (fun ls hl => ?_)
    refine lv_aload_n hx hb d_F_row_23 rfl (lv_at hl 0 rfl) ?_
    refine lv_ifnonnull (tgt := 29) hx hb d_F_row_24 (by decide) ?_
    refine lv_aload_n hx hb d_F_row_29 rfl (lv_at hl 0 rfl) ?_
    refine lv_iload_n hx hb d_F_row_30 rfl (lv_at hl 3 rfl) ?_
    refine wd_ci h (wd_rVN (rest := []) (st0 := [.int wh, .ref (ca k)]) C h kc_C g2 k_C_part wm_C_part wz_C_part lk_F_154 (c_C_part l D T A σ (ca k) (CR k) g2 wh) rfl rfl ⟨Nat.le_of_ble_eq_true rfl, Nat.le_of_ble_eq_true rfl⟩ rfl hl.1 rfl (Nat.le_of_ble_eq_true rfl) d_F_row_31 ⟨Nat.le_of_ble_eq_true rfl, Nat.le_of_ble_eq_true rfl⟩) (fun r_7 σ_8 H locs hp_9 h => ?_)
    obtain ⟨e_10, es_11⟩ := hp_9
    rw [es_11] at h
    subst e_10
    exact wd_iret C hr hlocks h (⟨by simp [o_row, eq_false c_6, nI_clamp (show k < 2 ^ 31 by omega)], rfl⟩) (Nat.le_of_ble_eq_true rfl) (Nat.le_of_ble_eq_true rfl) d_F_row_34
  · refine lv_iconst (v := (-1)) hx hb d_F_row_14 (by decide) ?_
    exact wd_iret C hr hlocks h (⟨by simp [o_row, eq_true c_6], rfl⟩) (Nat.le_of_ble_eq_true rfl) (Nat.le_of_ble_eq_true rfl) d_F_row_15

set_option maxHeartbeats 4000000 in
set_option maxRecDepth 20000 in
theorem c_F_octet (l : Launch) (D : va_G) (T : Nat → ClassId) (A : Nat → Prop) (σ : wd_S) (x n : Nat) (R : Nat → Nat → Int32) (nc : Nat) (CR : Nat → Nat → Int32) (wg : Nat → Int32) (Q : pq) (aI aC aJ aW aB aP ab : Nat) (fI fC : Nat → Option Nat) (jn wn bk qb : Nat → Int32) (ia aa ca : Nat → Nat) (hB : RB T σ x n R nc CR wg Q aI aC aJ aW aB aP ab fI fC jn wn bk qb ia aa ca) (i : Int32) : Met l y_F_octet (Cond.code y_F_octet b_F_octet 2 (some .int) :: wd_tb) { frames := 2, cells := 0, slots := 0, locals := 43 } (va_Pc [.ref x, .int i] (wd_Pre D T A σ)) (va_Qi (fun r1 σ1 => r1 = o_oct Q i ∧ σ1 = σ) (wd_B D A) A) 0 0 A := by
  refine wd_ofW (by decide) (Nat.le_of_ble_eq_true rfl) ?_
  intro p e s m below meth c0 ls C hr hlocks hname h hl
  have hl : lv_has ls 2 [(0, .ref x), (1, .int i)] := hl
  have hx := C.1
  have hb := C.2.1
  obtain ⟨b1, b2, b3, b4, b5, b6, b7, b8, b9, b10, b11, b12, b13, b14⟩ := id hB
  refine lv_aload_n hx hb d_F_octet_0 rfl (lv_at hl 0 rfl) ?_
  refine wd_get C h kc_F b1 7 (by decide) lk_F_42 rfl d_F_octet_1 ?_
  refine lv_iload_n hx hb d_F_octet_4 rfl (lv_at hl 1 rfl) ?_
  refine wd_ci h (wd_rVN (rest := []) (st0 := [.int i, .ref aP]) C h kc_P b7.1 k_P_at wm_P_at wz_P_at lk_F_167 (c_P_at l D T A σ σ aP ab (qb, Q.2) b7 i) rfl rfl ⟨Nat.le_of_ble_eq_true rfl, Nat.le_of_ble_eq_true rfl⟩ rfl hl.1 rfl (Nat.le_of_ble_eq_true rfl) d_F_octet_5 ⟨Nat.le_of_ble_eq_true rfl, Nat.le_of_ble_eq_true rfl⟩) (fun r_1 σ_2 H locs hp_3 h => ?_)
  obtain ⟨e_4, es_5⟩ := hp_3
  rw [es_5] at h
  subst e_4
  exact wd_iret C hr hlocks h (⟨xo_eq b8 b7.2.2.1 i, rfl⟩) (Nat.le_of_ble_eq_true rfl) (Nat.le_of_ble_eq_true rfl) d_F_octet_8

set_option maxHeartbeats 4000000 in
set_option maxRecDepth 20000 in
theorem c_F_pack (l : Launch) (D : va_G) (T : Nat → ClassId) (A : Nat → Prop) (σ : wd_S) (x n : Nat) (R : Nat → Nat → Int32) (nc : Nat) (CR : Nat → Nat → Int32) (wg : Nat → Int32) (Q : pq) (aI aC aJ aW aB aP ab : Nat) (fI fC : Nat → Option Nat) (jn wn bk qb : Nat → Int32) (ia aa ca : Nat → Nat) (hB : RB T σ x n R nc CR wg Q aI aC aJ aW aB aP ab fI fC jn wn bk qb ia aa ca) (i : Int32) : Met l y_F_pack (Cond.code y_F_pack b_F_pack 3 (some .int) :: wd_tb) { frames := 4, cells := 0, slots := 0, locals := 86 } (va_Pc [.ref x, .int i] (wd_Pre D T A σ)) (va_Qi (fun r1 σ1 => r1 = (o_pack (n, R, nc, CR, wg, Q) i).1 ∧ RX T σ1 x (o_pack (n, R, nc, CR, wg, Q) i).2) (wd_B D A) A) 0 0 A := by
  refine wd_ofW (by decide) (Nat.le_of_ble_eq_true rfl) ?_
  intro p e s m below meth c0 ls C hr hlocks hname h hl
  have hl : lv_has ls 3 [(0, .ref x), (1, .int i)] := hl
  have hx := C.1
  have hb := C.2.1
  obtain ⟨b1, b2, b3, b4, b5, b6, b7, b8, b9, b10, b11, b12, b13, b14⟩ := id hB
  refine lv_aload_n hx hb d_F_pack_0 rfl (lv_at hl 0 rfl) ?_
  refine lv_iload_n hx hb d_F_pack_1 rfl (lv_at hl 1 rfl) ?_
  refine wd_cq h (wd_rV (rest := []) (st0 := [.int i, .ref x]) C h kc_F b1 k_F_find wm_F_find wz_F_find lk_F_64 (c_F_find l D T A σ x aI n fI ia _ _ _ _ _ _ b1 b2 b12 (fun k hk => (b9.1 k hk).1) i) rfl rfl ⟨Nat.le_of_ble_eq_true rfl, Nat.le_of_ble_eq_true rfl⟩ rfl hl.1 rfl (Nat.le_of_ble_eq_true rfl) d_F_pack_2 ⟨Nat.le_of_ble_eq_true rfl, Nat.le_of_ble_eq_true rfl⟩) (fun r_1 σ_2 H locs hp_3 h => ?_)
  obtain ⟨e_4, es_5⟩ := hp_3
  rw [es_5] at h
  rw [e_4]
  rcases hf : o_find n i with _ | k
  · refine W.eq (g2 := F0 m 5 ls [.null]) rfl ?_
    refine lv_astore_nN (lv' := [(2, .null), (0, .ref x), (1, .int i)]) hx hb d_F_pack_5 rfl hl (by decide) rfl (fun ls hl => ?_)
    refine lv_aload_nN hx hb d_F_pack_6 rfl (lv_at hl 0 rfl) ?_
    refine lv_ifnonnullN hx hb d_F_pack_7 ?_
    refine lv_bipush (v := (-101)) hx hb d_F_pack_10 (by decide) ?_
    exact wd_iret C hr hlocks h (by rw [o_pack_none (S := (n, R, nc, CR, wg, Q)) hf]; exact ⟨rfl, hB.rx⟩) (Nat.le_of_ble_eq_true rfl) (Nat.le_of_ble_eq_true rfl) d_F_pack_12
  · refine W.eq (g2 := F0 m 5 ls [.ref (ia k)]) rfl ?_
    obtain ⟨hk, hik1, hik⟩ := o_find_some b12 hf
    obtain ⟨g1, g2, g3, g4⟩ := b9.1 k hk
    refine lv_astore_n (lv' := [(2, .ref (ia k)), (0, .ref x), (1, .int i)]) hx hb d_F_pack_5 rfl hl (by decide) rfl (fun ls hl => ?_)
    refine lv_aload_n hx hb d_F_pack_6 rfl (lv_at hl 0 rfl) ?_
    refine lv_ifnonnull (tgt := 13) hx hb d_F_pack_7 (by decide) ?_
    refine lv_aload_n hx hb d_F_pack_13 rfl (lv_at hl 1 rfl) ?_
    refine wd_get C h kc_F b1 7 (by decide) lk_F_42 rfl d_F_pack_14 ?_
    refine lv_iload_n hx hb d_F_pack_17 rfl (lv_at hl 2 rfl) ?_
    refine lv_aload_n hx hb d_F_pack_18 rfl (lv_at hl 0 rfl) ?_
    refine wd_cv h (wd_rVN (rest := []) (st0 := [.ref (ia k), .int i, .ref aP]) C h kc_P b7.1 k_P_fill wm_P_fill wz_P_fill lk_F_160 (c_P_fill l D T A σ σ aP ab (qb, Q.2) b7 (ia k) (aa (2 * k)) (aa (2 * k + 1)) (R k) g2 g3 g4 (wd_ne g2 b7.1 (by simp)) (wd_ne g2 b7.2.1 (by simp)) (wd_ne g3 b7.1 (by simp)) (wd_ne g3 b7.2.1 (by simp)) (wd_ne g4 b7.1 (by simp)) (wd_ne g4 b7.2.1 (by simp)) i) rfl rfl ⟨Nat.le_of_ble_eq_true rfl, Nat.le_of_ble_eq_true rfl⟩ rfl hl.1 rfl (Nat.le_of_ble_eq_true rfl) d_F_pack_19 ⟨Nat.le_of_ble_eq_true rfl, Nat.le_of_ble_eq_true rfl⟩) (fun σ_7 H locs hp_8 h => ?_)
    have hx1 := (hp_8.2.2.2 x (wd_ne b1 b7.1 (by simp)) (wd_ne b1 b7.2.1 (by simp))).trans b1
    refine lv_aload_n hx hb d_F_pack_22 rfl (lv_at hl 1 rfl) ?_
    refine wd_get C h kc_F hx1 7 (by decide) lk_F_42 rfl d_F_pack_23 ?_
    refine wd_getN C h kc_P hp_8.1 1 (by decide) lk_F_164 rfl d_F_pack_26 ?_
    exact wd_iret C hr hlocks h (by rw [o_pack_some (S := (n, R, nc, CR, wg, Q)) hf]; exact ⟨congrArg nI (agr_pf qb Q.1 i (R k)).1, (hB.pack hp_8 (agr_pf qb Q.1 i (R k))).rx⟩) (Nat.le_of_ble_eq_true rfl) (Nat.le_of_ble_eq_true rfl) d_F_pack_29

set_option maxHeartbeats 4000000 in
set_option maxRecDepth 20000 in
theorem c_F_aside (l : Launch) (D : va_G) (T : Nat → ClassId) (A : Nat → Prop) (σ : wd_S) (x n : Nat) (R : Nat → Nat → Int32) (nc : Nat) (CR : Nat → Nat → Int32) (wg : Nat → Int32) (Q : pq) (aI aC aJ aW aB aP ab : Nat) (fI fC : Nat → Option Nat) (jn wn bk qb : Nat → Int32) (ia aa ca : Nat → Nat) (hB : RB T σ x n R nc CR wg Q aI aC aJ aW aB aP ab fI fC jn wn bk qb ia aa ca) (i : Int32) : Met l y_F_aside (Cond.code y_F_aside b_F_aside 5 (some .int) :: wd_tb) { frames := 1, cells := 0, slots := 0, locals := 20 } (va_Pc [.ref x, .int i] (wd_Pre D T A σ)) (va_Qi (fun r1 σ1 => r1 = o_asd n R i ∧ σ1 = σ) (wd_B D A) A) 0 0 A := by
  refine wd_ofW (by decide) (Nat.le_of_ble_eq_true rfl) ?_
  intro p e s m below meth c0 ls C hr hlocks hname h hl
  have hl : lv_has ls 5 [(0, .ref x), (1, .int i)] := hl
  have hx := C.1
  have hb := C.2.1
  obtain ⟨b1, b2, b3, b4, b5, b6, b7, b8, b9, b10, b11, b12, b13, b14⟩ := id hB
  refine lv_iload_n hx hb d_F_aside_0 rfl (lv_at hl 1 rfl) ?_
  refine lv_if_ge (tgt := 6) hx hb d_F_aside_1 (by decide) (fun c_1 => ?_) (fun c_1 => ?_)
  · refine lv_iconst (v := 0) hx hb d_F_aside_6 (by decide) ?_
    refine lv_istore_n (lv' := [(2, .int 0), (0, .ref x), (1, .int i)]) hx hb d_F_aside_7 rfl hl (by decide) rfl (fun ls hl => ?_)
    refine lv_iconst (v := 0) hx hb d_F_aside_8 (by decide) ?_
    refine lv_istore_n (lv' := [(3, .int 0), (2, .int 0), (0, .ref x), (1, .int i)]) hx hb d_F_aside_9 rfl hl (by decide) rfl (fun ls hl => ?_)
    generalize hH : s.heap = H at h ⊢
    generalize ([] : List Loc) = locs at h ⊢
    have hl2 : ∃ j b : Nat, j ≤ n ∧ asf R i (n - j) j b = asf R i n 0 0 ∧ lv_has ls 5 [(3, .int (nI j)), (2, .int (nI b)), (1, .int i), (0, .ref x)] := ⟨0, 0, Nat.zero_le _, rfl, lv_sub hl [0, 1, 3, 2] rfl⟩
    clear hl
    obtain ⟨j, b, hj, has, hl⟩ := hl2
    obtain ⟨z, hz⟩ : ∃ z : Nat, n < j + z := ⟨n + 1, by omega⟩
    clear hH
    induction z generalizing j b ls H locs with
    | zero => omega
    | succ z ih =>
      refine lv_iload_n hx hb d_F_aside_10 rfl (lv_at hl 0 rfl) ?_
      refine lv_aload_n hx hb d_F_aside_11 rfl (lv_at hl 3 rfl) ?_
      refine wd_get C h kc_F b1 1 (by decide) lk_F_15 rfl d_F_aside_12 ?_
      refine lv_icmp_ge (tgt := 57) hx hb d_F_aside_15 (by decide) (fun c_2 => ?_) (fun c_2 => ?_)
      · refine lv_iconst (v := (-1)) hx hb d_F_aside_57 (by decide) ?_
        exact wd_iret C hr hlocks h (⟨by have := ix_d (by omega) hj c_2; subst this; rw [Nat.sub_self] at has; simp only [o_asd, eq_false (Int32.not_lt.mpr c_1), ↓reduceIte, ← has, asf], rfl⟩) (Nat.le_of_ble_eq_true rfl) (Nat.le_of_ble_eq_true rfl) d_F_aside_58
      · refine lv_aload_n hx hb d_F_aside_18 rfl (lv_at hl 3 rfl) ?_
        refine wd_get C h kc_F b1 0 (by decide) lk_F_11 rfl d_F_aside_19 ?_
        refine lv_iload_n hx hb d_F_aside_22 rfl (lv_at hl 0 rfl) ?_
        have hlt := ix_c (by omega) hj c_2
        refine wd_aldq C h 2 rfl b2 (vp_in_nI (show j < 120 by omega) (by decide)) d_F_aside_23 ?_
        obtain ⟨g1, g2, g3, g4⟩ := b9.1 j hlt
        refine W.eq (g2 := F0 m 24 ls (.ref (ia j) :: [])) (by rw [nI_clamp (by omega), g1]; rfl) ?_
        refine lv_astore (lv' := [(4, .ref (ia j)), (3, .int (nI j)), (2, .int (nI b)), (1, .int i), (0, .ref x)]) hx hb d_F_aside_24 hl (by decide) rfl (fun ls hl => ?_)
        refine lv_aload hx hb d_F_aside_26 (lv_at hl 0 rfl) ?_
        refine lv_ifnull hx hb d_F_aside_28 ?_
        refine lv_aload hx hb d_F_aside_31 (lv_at hl 0 rfl) ?_
        refine wd_ci h (wd_rVN (rest := []) (st0 := [.ref (ia j)]) C h kc_I g2 k_I_isSetAside wm_I_isSetAside wz_I_isSetAside lk_F_170 (c_I_isSetAside l D T A σ (ia j) (R j) (aa (2 * j)) (aa (2 * j + 1)) g2 ) rfl rfl ⟨Nat.le_of_ble_eq_true rfl, Nat.le_of_ble_eq_true rfl⟩ rfl hl.1 rfl (Nat.le_of_ble_eq_true rfl) d_F_aside_33 ⟨Nat.le_of_ble_eq_true rfl, Nat.le_of_ble_eq_true rfl⟩) (fun r_3 σ_4 H locs hp_5 h => ?_)
        obtain ⟨e_6, es_7⟩ := hp_5
        rw [es_7] at h
        subst e_6
        refine lv_if_eq (tgt := 51) hx hb d_F_aside_36 (by decide) (fun c_8 => ?_) (fun c_8 => ?_)
        · refine lv_iinc (v := ((nI j) + 1)) (lv' := [(3, .int ((nI j) + 1)), (4, .ref (ia j)), (2, .int (nI b)), (1, .int i), (0, .ref x)]) hx hb d_F_aside_51 hl (k := 1) rfl (by first | rfl | decide) (by decide) rfl (fun ls hl => ?_)
          refine lv_goto (tgt := 10) hx hb d_F_aside_54 (by decide) ?_
          have hl3 : lv_has ls 5 [(3, .int (nI (j + 1))), (2, .int (nI b)), (1, .int i), (0, .ref x)] := by
            rw [← nI_1]
            exact lv_sub hl [0, 2, 3, 4] rfl
          rw [show n - j = (n - (j + 1)) + 1 by omega] at has
          exact ih (H := _) (locs := _) (ls := ls) (j := j + 1) (b := b) h hlt (by rw [← has]; simp only [asf, eq_true c_8, ↓reduceIte]) hl3 (by omega)
        · refine lv_iload_n hx hb d_F_aside_39 rfl (lv_at hl 2 rfl) ?_
          refine lv_iload_n hx hb d_F_aside_40 rfl (lv_at hl 3 rfl) ?_
          refine lv_icmp_ne (tgt := 48) hx hb d_F_aside_41 (by decide) (fun c_9 => ?_) (fun c_9 => ?_)
          · refine lv_iinc (v := ((nI b) + 1)) (lv' := [(2, .int ((nI b) + 1)), (4, .ref (ia j)), (3, .int (nI j)), (1, .int i), (0, .ref x)]) hx hb d_F_aside_48 hl (k := 2) rfl (by first | rfl | decide) (by decide) rfl (fun ls hl => ?_)
            refine lv_iinc (v := ((nI j) + 1)) (lv' := [(3, .int ((nI j) + 1)), (2, .int ((nI b) + 1)), (4, .ref (ia j)), (1, .int i), (0, .ref x)]) hx hb d_F_aside_51 hl (k := 2) rfl (by first | rfl | decide) (by decide) rfl (fun ls hl => ?_)
            refine lv_goto (tgt := 10) hx hb d_F_aside_54 (by decide) ?_
            have hl3 : lv_has ls 5 [(3, .int (nI (j + 1))), (2, .int (nI (b + 1))), (1, .int i), (0, .ref x)] := by
              rw [← nI_1, ← nI_1]
              exact lv_sub hl [0, 1, 3, 4] rfl
            rw [show n - j = (n - (j + 1)) + 1 by omega] at has
            exact ih (H := _) (locs := _) (ls := ls) (j := j + 1) (b := (b + 1)) h hlt (by rw [← has]; simp only [asf, eq_false c_8, eq_false c_9, ↓reduceIte]) hl3 (by omega)
          · refine lv_iload_n hx hb d_F_aside_44 rfl (lv_at hl 1 rfl) ?_
            refine lv_iconst (v := 1) hx hb d_F_aside_45 (by decide) ?_
            refine lv_iadd hx hb d_F_aside_46 ?_
            exact wd_iret C hr hlocks h (⟨by rw [show n - j = (n - (j + 1)) + 1 by omega] at has; simp only [o_asd, eq_false (Int32.not_lt.mpr c_1), ↓reduceIte, ← has, asf, eq_false c_8, eq_true c_9, nI_1], rfl⟩) (Nat.le_of_ble_eq_true rfl) (Nat.le_of_ble_eq_true rfl) d_F_aside_47
  · refine lv_iconst (v := (-1)) hx hb d_F_aside_4 (by decide) ?_
    exact wd_iret C hr hlocks h (⟨by simp [o_asd, eq_true (Int32.not_le.mp c_1)], rfl⟩) (Nat.le_of_ble_eq_true rfl) (Nat.le_of_ble_eq_true rfl) d_F_aside_5
