set_option maxHeartbeats 4000000 in
set_option maxRecDepth 20000 in
theorem c_M_service (l : Launch) (D : va_G) (T : Nat → ClassId) (A : Nat → Prop) (σ : wd_S) (y : Nat) (am : Nat → Nat) (fm : Nat → Nat → Int32) (n : Nat) (R : Nat → Nat → Int32) (nc : Nat) (CR : Nat → Nat → Int32) (wg : Nat → Int32) (Q : pq) (hM : MB T σ y am fm n R nc CR wg Q) (hok : ∀ k, k < n → okr (R k)) (i t : Int32) : Met l y_M_service (Cond.code y_M_service b_M_service 6 (some .int) :: wd_tb) { frames := 2, cells := 0, slots := 0, locals := 43 } (va_Pc [.ref y, .int i, .int t] (wd_Pre D T A σ)) (va_Qi (fun r1 σ1 => r1 = (o_upd (n, R, nc, CR, wg, Q) i (f_srv t)).1 ∧ RM T σ1 y (o_upd (n, R, nc, CR, wg, Q) i (f_srv t)).2) (wd_B D A) A) 0 0 A := by
  refine wd_ofW (by decide) (Nat.le_of_ble_eq_true rfl) ?_
  intro p e s m below meth c0 ls C hr hlocks hname h hl
  have hl : lv_has ls 6 [(0, .ref y), (1, .int i), (2, .int t)] := hl
  have hx := C.1
  have hb := C.2.1
  obtain ⟨⟨d0, dc, di⟩, m1, m2, m3, m4, m5, m6, m7, m8, m9, m10⟩ := id hM
  have c1 : σ (am 1) = some (.inl (T 0, 121, .inl (fm 1))) := dc 1 rfl
  have c5 : σ (am 5) = some (.inl (T 0, 121, .inl (fm 5))) := dc 5 rfl
  have c6 : σ (am 6) = some (.inl (T 0, 121, .inl (fm 6))) := dc 6 rfl
  refine lv_aload_n hx hb d_M_service_0 rfl (lv_at hl 0 rfl) ?_
  refine lv_iload_n hx hb d_M_service_1 rfl (lv_at hl 1 rfl) ?_
  refine wd_ci h (wd_rV (rest := []) (st0 := [.int i, .ref y]) C h kc_M d0 k_M_isItem wm_M_isItem wz_M_isItem lk_M_92 (c_M_isItem l D T A σ y am fm n R nc CR wg Q hM i) rfl rfl ⟨Nat.le_of_ble_eq_true rfl, Nat.le_of_ble_eq_true rfl⟩ rfl hl.1 rfl (Nat.le_of_ble_eq_true rfl) d_M_service_2 ⟨Nat.le_of_ble_eq_true rfl, Nat.le_of_ble_eq_true rfl⟩) (fun r_1 σ_2 H locs hp_3 h => ?_)
  obtain ⟨e_4, es_5⟩ := hp_3
  rw [es_5] at h
  subst e_4
  refine lv_if_ne (tgt := 11) hx hb d_M_service_5 (by decide) (fun c_6 => ?_) (fun c_6 => ?_)
  · obtain ⟨k, hk, -, rfl⟩ := o_in m8 c_6
    refine lv_iload_n hx hb d_M_service_11 rfl (lv_at hl 2 rfl) ?_
    refine lv_iconst (v := 0) hx hb d_M_service_12 (by decide) ?_
    refine lv_iconst (v := 5) hx hb d_M_service_13 (by decide) ?_
    refine wd_ci h (wd_rS (rest := []) (st0 := [.int 5, .int 0, .int t]) C h k_M_within wt_M_within lk_M_75 (c_M_within l D T A σ t 0 5) rfl rfl ⟨Nat.le_of_ble_eq_true rfl, Nat.le_of_ble_eq_true rfl⟩ rfl hl.1 rfl (Nat.le_of_ble_eq_true rfl) d_M_service_14 ⟨Nat.le_of_ble_eq_true rfl, Nat.le_of_ble_eq_true rfl⟩) (fun r_7 σ_8 H locs hp_9 h => ?_)
    obtain ⟨e_10, es_11⟩ := hp_9
    rw [es_11] at h
    subst e_10
    refine lv_if_ne (tgt := 23) hx hb d_M_service_17 (by decide) (fun c_12 => ?_) (fun c_12 => ?_)
    · refine lv_aload_n hx hb d_M_service_23 rfl (lv_at hl 0 rfl) ?_
      refine lv_iload_n hx hb d_M_service_24 rfl (lv_at hl 1 rfl) ?_
      refine lv_iload_n hx hb d_M_service_25 rfl (lv_at hl 2 rfl) ?_
      refine wd_ci h (wd_rV (rest := []) (st0 := [.int t, .int (nI (k + 1)), .ref y]) C h kc_M d0 k_M_has wm_M_has wz_M_has lk_M_96 (c_M_has l D T A σ y am fm n R nc CR wg Q hM k hk t) rfl rfl ⟨Nat.le_of_ble_eq_true rfl, Nat.le_of_ble_eq_true rfl⟩ rfl hl.1 rfl (Nat.le_of_ble_eq_true rfl) d_M_service_26 ⟨Nat.le_of_ble_eq_true rfl, Nat.le_of_ble_eq_true rfl⟩) (fun r_13 σ_14 H locs hp_15 h => ?_)
      obtain ⟨e_16, es_17⟩ := hp_15
      rw [es_17] at h
      subst e_16
      refine lv_if_ne (tgt := 40) hx hb d_M_service_29 (by decide) (fun c_18 => ?_) (fun c_18 => ?_)
      · refine lv_bipush (v := (-103)) hx hb d_M_service_40 (by decide) ?_
        exact wd_iret C hr hlocks h (by rw [o_upd_some (S := (n, R, nc, CR, wg, Q)) (o_find_ok m8 hk), show f_srv t (R k) = ((-103), (R k)) from by simp [f_srv, eq_false c_12, eq_false c_18]]; exact ⟨rfl, by rw [va_up_id]; exact hM.rm⟩) (Nat.le_of_ble_eq_true rfl) (Nat.le_of_ble_eq_true rfl) d_M_service_42
      · refine lv_aload_n hx hb d_M_service_32 rfl (lv_at hl 0 rfl) ?_
        refine lv_iload_n hx hb d_M_service_33 rfl (lv_at hl 1 rfl) ?_
        refine wd_ci h (wd_rV (rest := []) (st0 := [.int (nI (k + 1)), .ref y]) C h kc_M d0 k_M_isOver wm_M_isOver wz_M_isOver lk_M_100 (c_M_isOver l D T A σ y am fm n R nc CR wg Q hM k hk ) rfl rfl ⟨Nat.le_of_ble_eq_true rfl, Nat.le_of_ble_eq_true rfl⟩ rfl hl.1 rfl (Nat.le_of_ble_eq_true rfl) d_M_service_34 ⟨Nat.le_of_ble_eq_true rfl, Nat.le_of_ble_eq_true rfl⟩) (fun r_19 σ_20 H locs hp_21 h => ?_)
        obtain ⟨e_22, es_23⟩ := hp_21
        rw [es_23] at h
        subst e_22
        refine lv_if_eq (tgt := 43) hx hb d_M_service_37 (by decide) (fun c_24 => ?_) (fun c_24 => ?_)
        · refine lv_iconst (v := 0) hx hb d_M_service_43 (by decide) ?_
          refine lv_istore_n (lv' := [(3, .int 0), (0, .ref y), (1, .int (nI (k + 1))), (2, .int t)]) hx hb d_M_service_44 rfl hl (by decide) rfl (fun ls hl => ?_)
          have hl2 : ∃ (j : Nat), (j ≤ 6) ∧ (yl (R k 4) t (6 - j) j = yl (R k 4) t 6 0) ∧ lv_has ls 6 [(3, .int (nI j)), (2, .int t), (1, .int (nI (k + 1))), (0, .ref y)] := ⟨0, by omega, rfl, lv_sub hl [0, 3, 2, 1] rfl⟩
          clear hl
          obtain ⟨j, p0, p1, hl⟩ := hl2
          obtain ⟨z, hz⟩ : ∃ z : Nat, 6 < j + z := ⟨6 + 1, by omega⟩
          induction z generalizing j ls H locs with
          | zero => omega
          | succ z ih =>
            refine lv_iload_n hx hb d_M_service_45 rfl (lv_at hl 0 rfl) ?_
            refine lv_bipush (v := 6) hx hb d_M_service_46 (by decide) ?_
            refine lv_icmp_ge (tgt := 80) hx hb d_M_service_48 (by decide) (fun c_25 => ?_) (fun c_25 => ?_)
            · have hj6 : j = 6 := ix_d (n := 6) (by decide) p0 c_25
              have hxl : xl (R k 4) t = -1 := by
                rw [← yl_xl (hok k hk).2.2.2.1 c_12, ← p1, hj6]; rfl
              clear p1 hj6
              refine lv_iload_n hx hb d_M_service_80 rfl (lv_at hl 1 rfl) ?_
              refine lv_iconst (v := 1) hx hb d_M_service_81 (by decide) ?_
              refine lv_icmp_eq (tgt := 95) hx hb d_M_service_82 (by decide) (fun c_26 => ?_) (fun c_26 => ?_)
              · refine lv_aload_n hx hb d_M_service_95 rfl (lv_at hl 3 rfl) ?_
                refine lv_iload_n hx hb d_M_service_96 rfl (lv_at hl 2 rfl) ?_
                refine lv_iconst (v := 0) hx hb d_M_service_97 (by decide) ?_
                refine wd_ci h (wd_rV (rest := []) (st0 := [.int 0, .int (nI (k + 1)), .ref y]) C h kc_M d0 k_M_has wm_M_has wz_M_has lk_M_96 (c_M_has l D T A σ y am fm n R nc CR wg Q hM k hk 0) rfl rfl ⟨Nat.le_of_ble_eq_true rfl, Nat.le_of_ble_eq_true rfl⟩ rfl hl.1 rfl (Nat.le_of_ble_eq_true rfl) d_M_service_98 ⟨Nat.le_of_ble_eq_true rfl, Nat.le_of_ble_eq_true rfl⟩) (fun r_27 σ_28 H locs hp_29 h => ?_)
                obtain ⟨e_30, es_31⟩ := hp_29
                rw [es_31] at h
                subst e_30
                refine lv_if_eq (tgt := 108) hx hb d_M_service_101 (by decide) (fun c_32 => ?_) (fun c_32 => ?_)
                · refine lv_iconst (v := 0) hx hb d_M_service_108 (by decide) ?_
                  refine lv_istore_n (lv' := [(3, .int 0), (2, .int t), (1, .int (nI (k + 1))), (0, .ref y)]) hx hb d_M_service_109 rfl hl (by decide) rfl (fun ls hl => ?_)
                  refine lv_iload_n hx hb d_M_service_110 rfl (lv_at hl 0 rfl) ?_
                  refine lv_if_eq (tgt := 143) hx hb d_M_service_111 (by decide) (fun c_33 => ?_) (fun c_33 => ?_)
                  rotate_left
                  · exact absurd c_33 (by decide)
                  refine lv_bipush (v := (-111)) hx hb d_M_service_143 (by decide) ?_
                  exact wd_iret C hr hlocks h (by have hxk : ¬ xk (R k) t = 0 := by { simp [xk, c_26, eq_true c_32] }; rw [o_upd_some (S := (n, R, nc, CR, wg, Q)) (o_find_ok m8 hk), show f_srv t (R k) = ((-111), (R k)) from by simp [f_srv, eq_false c_12, eq_true c_18, eq_true c_24, hxl, hxk]]; exact ⟨rfl, by rw [va_up_id]; exact hM.rm⟩) (Nat.le_of_ble_eq_true rfl) (Nat.le_of_ble_eq_true rfl) d_M_service_145
                · refine lv_iconst (v := 1) hx hb d_M_service_104 (by decide) ?_
                  refine lv_goto (tgt := 109) hx hb d_M_service_105 (by decide) ?_
                  refine lv_istore_n (lv' := [(3, .int 1), (2, .int t), (1, .int (nI (k + 1))), (0, .ref y)]) hx hb d_M_service_109 rfl hl (by decide) rfl (fun ls hl => ?_)
                  refine lv_iload_n hx hb d_M_service_110 rfl (lv_at hl 0 rfl) ?_
                  refine lv_if_eq (tgt := 143) hx hb d_M_service_111 (by decide) (fun c_34 => ?_) (fun c_34 => ?_)
                  · exact absurd c_34 (by decide)
                  refine lv_iload_n hx hb d_M_service_114 rfl (lv_at hl 1 rfl) ?_
                  refine lv_iconst (v := 5) hx hb d_M_service_115 (by decide) ?_
                  refine lv_icmp_ne (tgt := 129) hx hb d_M_service_116 (by decide) (fun _ => ?_) (fun z => absurd z (show ¬ t = 5 from by rw [c_26]; decide))
                  refine lv_iload_n hx hb d_M_service_129 rfl (lv_at hl 1 rfl) ?_
                  refine lv_iconst (v := 4) hx hb d_M_service_130 (by decide) ?_
                  refine lv_icmp_ne (tgt := 146) hx hb d_M_service_131 (by decide) (fun _ => ?_) (fun z => absurd z (show ¬ t = 4 from by rw [c_26]; decide))
                  refine lv_aload_n hx hb d_M_service_146 rfl (lv_at hl 3 rfl) ?_
                  refine wd_get C h kc_M d0 5 (by decide) lk_M_22 rfl d_M_service_147 ?_
                  refine lv_iload_n hx hb d_M_service_150 rfl (lv_at hl 2 rfl) ?_
                  refine lv_dup2_11 hx hb d_M_service_151 rfl rfl ?_
                  refine wd_iald C h 0 rfl c5 (vp_in_nI (show k + 1 < 121 by omega) (by decide)) d_M_service_152 ?_
                  rw [nI_clamp (show k + 1 < 2 ^ 31 by omega)]
                  rw [show fm 5 (k + 1) = R k 4 from m1 k hk 4 (by decide)]
                  refine lv_iconst (v := 1) hx hb d_M_service_153 (by decide) ?_
                  refine lv_iload_n hx hb d_M_service_154 rfl (lv_at hl 1 rfl) ?_
                  refine lv_ishl hx hb d_M_service_155 ?_
                  refine lv_ior hx hb d_M_service_156 ?_
                  refine wd_iast C h 0 rfl c5 (vp_in_nI (show k + 1 < 121 by omega) (by decide)) d_M_service_157 (fun H locs h => ?_)
                  rw [nI_clamp (show k + 1 < 2 ^ 31 by omega)] at h
                  replace h : wd_C D T A s H locs (wd_up σ (am 5) (.inl (T 0, 121, .inl (upd (fm 5) (k + 1) ((R k 4) ||| (1 <<< (t &&& 31))))))) := h
                  have h_37 : (wd_up σ (am 5) (.inl (T 0, 121, .inl (upd (fm 5) (k + 1) ((R k 4) ||| (1 <<< (t &&& 31))))))) (am 5) = some (.inl (T 0, 121, .inl (upd (fm 5) (k + 1) ((R k 4) ||| (1 <<< (t &&& 31)))))) := wd_us _ _ _
                  have h_38 : (wd_up σ (am 5) (.inl (T 0, 121, .inl (upd (fm 5) (k + 1) ((R k 4) ||| (1 <<< (t &&& 31))))))) y = some (.inr (4, [.int (nI n), .ref (am 1), .ref (am 2), .ref (am 3), .ref (am 4), .ref (am 5), .ref (am 6), .ref (am 7), .ref (am 8), .ref (am 9), .ref (am 10), .ref (am 11), .ref (am 12), .ref (am 13), .ref (am 14), .ref (am 15), .ref (am 16), .ref (am 17), .ref (am 18), .int (nI nc), .ref (am 20), .int (nI Q.2), .ref (am 22)])) := wd_uk d0 (wd_ne d0 c5 (by simp))
                  have h_39 : (wd_up σ (am 5) (.inl (T 0, 121, .inl (upd (fm 5) (k + 1) ((R k 4) ||| (1 <<< (t &&& 31))))))) (am 1) = some (.inl (T 0, 121, .inl (fm 1))) := wd_uk c1 (fun z => absurd (di 1 5 rfl rfl z) (by decide))
                  have h_40 : (wd_up σ (am 5) (.inl (T 0, 121, .inl (upd (fm 5) (k + 1) ((R k 4) ||| (1 <<< (t &&& 31))))))) (am 6) = some (.inl (T 0, 121, .inl (fm 6))) := wd_uk c6 (fun z => absurd (di 6 5 rfl rfl z) (by decide))
                  have hM1 := hM.set hk (f := 4) (by decide) (R k 4 ||| (1 <<< (t &&& 31)))
                  refine lv_iconst (v := 0) hx hb d_M_service_158 (by decide) ?_
                  refine lv_istore (lv' := [(4, .int 0), (3, .int 1), (2, .int t), (1, .int (nI (k + 1))), (0, .ref y)]) hx hb d_M_service_159 hl (by decide) rfl (fun ls hl => ?_)
                  refine lv_iconst (v := 0) hx hb d_M_service_161 (by decide) ?_
                  refine lv_istore (lv' := [(5, .int 0), (4, .int 0), (3, .int 1), (2, .int t), (1, .int (nI (k + 1))), (0, .ref y)]) hx hb d_M_service_162 hl (by decide) rfl (fun ls hl => ?_)
                  have hl2 : ∃ (j2 : Nat) (rg : Int32), (j2 ≤ 6) ∧ lv_has ls 6 [(5, .int (nI j2)), (4, .int (yc (R k 4 ||| (1 <<< (t &&& 31))) j2)), (3, .int rg), (2, .int t), (1, .int (nI (k + 1))), (0, .ref y)] := ⟨0, 1, by omega, lv_sub hl [0, 1, 2, 3, 4, 5] rfl⟩
                  clear hl
                  obtain ⟨j2, rg, p2, hl⟩ := hl2
                  obtain ⟨z2, hz2⟩ : ∃ z2 : Nat, 6 < j2 + z2 := ⟨7, by omega⟩
                  induction z2 generalizing j2 ls H locs with
                  | zero => omega
                  | succ z2 ih2 =>
                    refine lv_iload hx hb d_M_service_164 (lv_at hl 0 rfl) ?_
                    refine lv_bipush (v := 6) hx hb d_M_service_166 (by decide) ?_
                    refine lv_icmp_ge (tgt := 197) hx hb d_M_service_168 (by decide) (fun c_41 => ?_) (fun c_41 => ?_)
                    · refine lv_iload hx hb d_M_service_197 (lv_at hl 1 rfl) ?_
                      exact wd_iret C hr hlocks h (by have hxk : xk (R k) t = 0 := by { simp [xk, c_26, eq_false c_32] }; have hj6 : j2 = 6 := ix_d (n := 6) (by decide) p2 c_41; rw [hj6, yc_bc (hok k hk).2.2.2.1 c_12, o_upd_some (S := (n, R, nc, CR, wg, Q)) (o_find_ok m8 hk), show f_srv t (R k) = (bc (R k 4 ||| (1 <<< (t &&& 31))), upd (R k) 4 (R k 4 ||| (1 <<< (t &&& 31)))) from by simp [f_srv, eq_false c_12, eq_true c_18, eq_true c_24, hxl, hxk]]; exact ⟨rfl, hM1.rm⟩) (Nat.le_of_ble_eq_true rfl) (Nat.le_of_ble_eq_true rfl) d_M_service_199
                    · refine lv_iload hx hb d_M_service_171 (lv_at hl 1 rfl) ?_
                      refine lv_aload_n hx hb d_M_service_173 rfl (lv_at hl 5 rfl) ?_
                      refine lv_iload_n hx hb d_M_service_174 rfl (lv_at hl 4 rfl) ?_
                      refine lv_iload hx hb d_M_service_175 (lv_at hl 0 rfl) ?_
                      refine wd_ci h (wd_rV (rest := [.int (yc (R k 4 ||| (1 <<< (t &&& 31))) j2)]) (st0 := [.int (nI j2), .int (nI (k + 1)), .ref y, .int (yc (R k 4 ||| (1 <<< (t &&& 31))) j2)]) C h kc_M h_38 k_M_has wm_M_has wz_M_has lk_M_96 (c_M_has l D T A (wd_up σ (am 5) (.inl (T 0, 121, .inl (upd (fm 5) (k + 1) ((R k 4) ||| (1 <<< (t &&& 31))))))) y am _ n _ nc CR wg Q hM1 k hk (nI j2)) rfl rfl ⟨Nat.le_of_ble_eq_true rfl, Nat.le_of_ble_eq_true rfl⟩ rfl hl.1 rfl (Nat.le_of_ble_eq_true rfl) d_M_service_177 ⟨Nat.le_of_ble_eq_true rfl, Nat.le_of_ble_eq_true rfl⟩) (fun r_42 σ_43 H locs hp_44 h => ?_)
                      obtain ⟨e_45, es_46⟩ := hp_44
                      rw [es_46] at h
                      subst e_45
                      rw [show (va_up R k (upd (R k) 4 (R k 4 ||| (1 <<< (t &&& 31))))) k 4 = (R k 4 ||| (1 <<< (t &&& 31))) from by rw [va_up_self]; rfl]
                      refine lv_if_eq (tgt := 187) hx hb d_M_service_180 (by decide) (fun c_47 => ?_) (fun c_47 => ?_)
                      · refine lv_iconst (v := 0) hx hb d_M_service_187 (by decide) ?_
                        refine lv_iadd hx hb d_M_service_188 ?_
                        refine lv_istore (lv' := [(4, .int ((yc (R k 4 ||| (1 <<< (t &&& 31))) j2) + 0)), (5, .int (nI j2)), (3, .int rg), (2, .int t), (1, .int (nI (k + 1))), (0, .ref y)]) hx hb d_M_service_189 hl (by decide) rfl (fun ls hl => ?_)
                        refine lv_iinc (v := ((nI j2) + 1)) (lv' := [(5, .int ((nI j2) + 1)), (4, .int ((yc (R k 4 ||| (1 <<< (t &&& 31))) j2) + 0)), (3, .int rg), (2, .int t), (1, .int (nI (k + 1))), (0, .ref y)]) hx hb d_M_service_191 hl (k := 1) rfl (by first | rfl | decide) (by decide) rfl (fun ls hl => ?_)
                        refine lv_goto (tgt := 164) hx hb d_M_service_194 (by decide) ?_
                        have hl3 : lv_has ls 6 [(5, .int (nI (j2 + 1))), (4, .int (yc (R k 4 ||| (1 <<< (t &&& 31))) (j2 + 1))), (3, .int rg), (2, .int t), (1, .int (nI (k + 1))), (0, .ref y)] := by
                          rw [← nI_1 j2, show yc (R k 4 ||| (1 <<< (t &&& 31))) (j2 + 1) = yc (R k 4 ||| (1 <<< (t &&& 31))) j2 + (if xh (R k 4 ||| (1 <<< (t &&& 31))) (nI j2) = 0 then 0 else 1) from rfl, if_pos c_47]
                          exact lv_sub hl [0, 1, 2, 3, 4, 5] rfl
                        exact ih2 (H := _) (locs := _) (ls := ls) (j2 := j2 + 1) h (by have := ix_c (n := 6) (by decide) p2 c_41; omega) hl3 (by omega)
                      · refine lv_iconst (v := 1) hx hb d_M_service_183 (by decide) ?_
                        refine lv_goto (tgt := 188) hx hb d_M_service_184 (by decide) ?_
                        refine lv_iadd hx hb d_M_service_188 ?_
                        refine lv_istore (lv' := [(4, .int ((yc (R k 4 ||| (1 <<< (t &&& 31))) j2) + 1)), (5, .int (nI j2)), (3, .int rg), (2, .int t), (1, .int (nI (k + 1))), (0, .ref y)]) hx hb d_M_service_189 hl (by decide) rfl (fun ls hl => ?_)
                        refine lv_iinc (v := ((nI j2) + 1)) (lv' := [(5, .int ((nI j2) + 1)), (4, .int ((yc (R k 4 ||| (1 <<< (t &&& 31))) j2) + 1)), (3, .int rg), (2, .int t), (1, .int (nI (k + 1))), (0, .ref y)]) hx hb d_M_service_191 hl (k := 1) rfl (by first | rfl | decide) (by decide) rfl (fun ls hl => ?_)
                        refine lv_goto (tgt := 164) hx hb d_M_service_194 (by decide) ?_
                        have hl3 : lv_has ls 6 [(5, .int (nI (j2 + 1))), (4, .int (yc (R k 4 ||| (1 <<< (t &&& 31))) (j2 + 1))), (3, .int rg), (2, .int t), (1, .int (nI (k + 1))), (0, .ref y)] := by
                          rw [← nI_1 j2, show yc (R k 4 ||| (1 <<< (t &&& 31))) (j2 + 1) = yc (R k 4 ||| (1 <<< (t &&& 31))) j2 + (if xh (R k 4 ||| (1 <<< (t &&& 31))) (nI j2) = 0 then 0 else 1) from rfl, if_neg c_47]
                          exact lv_sub hl [0, 1, 2, 3, 4, 5] rfl
                        exact ih2 (H := _) (locs := _) (ls := ls) (j2 := j2 + 1) h (by have := ix_c (n := 6) (by decide) p2 c_41; omega) hl3 (by omega)
              · refine lv_iload_n hx hb d_M_service_85 rfl (lv_at hl 1 rfl) ?_
                refine lv_iconst (v := 3) hx hb d_M_service_86 (by decide) ?_
                refine lv_icmp_eq (tgt := 95) hx hb d_M_service_87 (by decide) (fun c_48 => ?_) (fun c_48 => ?_)
                · refine lv_aload_n hx hb d_M_service_95 rfl (lv_at hl 3 rfl) ?_
                  refine lv_iload_n hx hb d_M_service_96 rfl (lv_at hl 2 rfl) ?_
                  refine lv_iconst (v := 0) hx hb d_M_service_97 (by decide) ?_
                  refine wd_ci h (wd_rV (rest := []) (st0 := [.int 0, .int (nI (k + 1)), .ref y]) C h kc_M d0 k_M_has wm_M_has wz_M_has lk_M_96 (c_M_has l D T A σ y am fm n R nc CR wg Q hM k hk 0) rfl rfl ⟨Nat.le_of_ble_eq_true rfl, Nat.le_of_ble_eq_true rfl⟩ rfl hl.1 rfl (Nat.le_of_ble_eq_true rfl) d_M_service_98 ⟨Nat.le_of_ble_eq_true rfl, Nat.le_of_ble_eq_true rfl⟩) (fun r_49 σ_50 H locs hp_51 h => ?_)
                  obtain ⟨e_52, es_53⟩ := hp_51
                  rw [es_53] at h
                  subst e_52
                  refine lv_if_eq (tgt := 108) hx hb d_M_service_101 (by decide) (fun c_54 => ?_) (fun c_54 => ?_)
                  · refine lv_iconst (v := 0) hx hb d_M_service_108 (by decide) ?_
                    refine lv_istore_n (lv' := [(3, .int 0), (2, .int t), (1, .int (nI (k + 1))), (0, .ref y)]) hx hb d_M_service_109 rfl hl (by decide) rfl (fun ls hl => ?_)
                    refine lv_iload_n hx hb d_M_service_110 rfl (lv_at hl 0 rfl) ?_
                    refine lv_if_eq (tgt := 143) hx hb d_M_service_111 (by decide) (fun c_55 => ?_) (fun c_55 => ?_)
                    rotate_left
                    · exact absurd c_55 (by decide)
                    refine lv_bipush (v := (-111)) hx hb d_M_service_143 (by decide) ?_
                    exact wd_iret C hr hlocks h (by have hxk : ¬ xk (R k) t = 0 := by { simp [xk, c_26, c_48, eq_true c_54] }; rw [o_upd_some (S := (n, R, nc, CR, wg, Q)) (o_find_ok m8 hk), show f_srv t (R k) = ((-111), (R k)) from by simp [f_srv, eq_false c_12, eq_true c_18, eq_true c_24, hxl, hxk]]; exact ⟨rfl, by rw [va_up_id]; exact hM.rm⟩) (Nat.le_of_ble_eq_true rfl) (Nat.le_of_ble_eq_true rfl) d_M_service_145
                  · refine lv_iconst (v := 1) hx hb d_M_service_104 (by decide) ?_
                    refine lv_goto (tgt := 109) hx hb d_M_service_105 (by decide) ?_
                    refine lv_istore_n (lv' := [(3, .int 1), (2, .int t), (1, .int (nI (k + 1))), (0, .ref y)]) hx hb d_M_service_109 rfl hl (by decide) rfl (fun ls hl => ?_)
                    refine lv_iload_n hx hb d_M_service_110 rfl (lv_at hl 0 rfl) ?_
                    refine lv_if_eq (tgt := 143) hx hb d_M_service_111 (by decide) (fun c_56 => ?_) (fun c_56 => ?_)
                    · exact absurd c_56 (by decide)
                    refine lv_iload_n hx hb d_M_service_114 rfl (lv_at hl 1 rfl) ?_
                    refine lv_iconst (v := 5) hx hb d_M_service_115 (by decide) ?_
                    refine lv_icmp_ne (tgt := 129) hx hb d_M_service_116 (by decide) (fun _ => ?_) (fun z => absurd z (show ¬ t = 5 from by rw [c_48]; decide))
                    refine lv_iload_n hx hb d_M_service_129 rfl (lv_at hl 1 rfl) ?_
                    refine lv_iconst (v := 4) hx hb d_M_service_130 (by decide) ?_
                    refine lv_icmp_ne (tgt := 146) hx hb d_M_service_131 (by decide) (fun _ => ?_) (fun z => absurd z (show ¬ t = 4 from by rw [c_48]; decide))
                    refine lv_aload_n hx hb d_M_service_146 rfl (lv_at hl 3 rfl) ?_
                    refine wd_get C h kc_M d0 5 (by decide) lk_M_22 rfl d_M_service_147 ?_
                    refine lv_iload_n hx hb d_M_service_150 rfl (lv_at hl 2 rfl) ?_
                    refine lv_dup2_11 hx hb d_M_service_151 rfl rfl ?_
                    refine wd_iald C h 0 rfl c5 (vp_in_nI (show k + 1 < 121 by omega) (by decide)) d_M_service_152 ?_
                    rw [nI_clamp (show k + 1 < 2 ^ 31 by omega)]
                    rw [show fm 5 (k + 1) = R k 4 from m1 k hk 4 (by decide)]
                    refine lv_iconst (v := 1) hx hb d_M_service_153 (by decide) ?_
                    refine lv_iload_n hx hb d_M_service_154 rfl (lv_at hl 1 rfl) ?_
                    refine lv_ishl hx hb d_M_service_155 ?_
                    refine lv_ior hx hb d_M_service_156 ?_
                    refine wd_iast C h 0 rfl c5 (vp_in_nI (show k + 1 < 121 by omega) (by decide)) d_M_service_157 (fun H locs h => ?_)
                    rw [nI_clamp (show k + 1 < 2 ^ 31 by omega)] at h
                    replace h : wd_C D T A s H locs (wd_up σ (am 5) (.inl (T 0, 121, .inl (upd (fm 5) (k + 1) ((R k 4) ||| (1 <<< (t &&& 31))))))) := h
                    have h_59 : (wd_up σ (am 5) (.inl (T 0, 121, .inl (upd (fm 5) (k + 1) ((R k 4) ||| (1 <<< (t &&& 31))))))) (am 5) = some (.inl (T 0, 121, .inl (upd (fm 5) (k + 1) ((R k 4) ||| (1 <<< (t &&& 31)))))) := wd_us _ _ _
                    have h_60 : (wd_up σ (am 5) (.inl (T 0, 121, .inl (upd (fm 5) (k + 1) ((R k 4) ||| (1 <<< (t &&& 31))))))) y = some (.inr (4, [.int (nI n), .ref (am 1), .ref (am 2), .ref (am 3), .ref (am 4), .ref (am 5), .ref (am 6), .ref (am 7), .ref (am 8), .ref (am 9), .ref (am 10), .ref (am 11), .ref (am 12), .ref (am 13), .ref (am 14), .ref (am 15), .ref (am 16), .ref (am 17), .ref (am 18), .int (nI nc), .ref (am 20), .int (nI Q.2), .ref (am 22)])) := wd_uk d0 (wd_ne d0 c5 (by simp))
                    have h_61 : (wd_up σ (am 5) (.inl (T 0, 121, .inl (upd (fm 5) (k + 1) ((R k 4) ||| (1 <<< (t &&& 31))))))) (am 1) = some (.inl (T 0, 121, .inl (fm 1))) := wd_uk c1 (fun z => absurd (di 1 5 rfl rfl z) (by decide))
                    have h_62 : (wd_up σ (am 5) (.inl (T 0, 121, .inl (upd (fm 5) (k + 1) ((R k 4) ||| (1 <<< (t &&& 31))))))) (am 6) = some (.inl (T 0, 121, .inl (fm 6))) := wd_uk c6 (fun z => absurd (di 6 5 rfl rfl z) (by decide))
                    have hM1 := hM.set hk (f := 4) (by decide) (R k 4 ||| (1 <<< (t &&& 31)))
                    refine lv_iconst (v := 0) hx hb d_M_service_158 (by decide) ?_
                    refine lv_istore (lv' := [(4, .int 0), (3, .int 1), (2, .int t), (1, .int (nI (k + 1))), (0, .ref y)]) hx hb d_M_service_159 hl (by decide) rfl (fun ls hl => ?_)
                    refine lv_iconst (v := 0) hx hb d_M_service_161 (by decide) ?_
                    refine lv_istore (lv' := [(5, .int 0), (4, .int 0), (3, .int 1), (2, .int t), (1, .int (nI (k + 1))), (0, .ref y)]) hx hb d_M_service_162 hl (by decide) rfl (fun ls hl => ?_)
                    have hl2 : ∃ (j2 : Nat) (rg : Int32), (j2 ≤ 6) ∧ lv_has ls 6 [(5, .int (nI j2)), (4, .int (yc (R k 4 ||| (1 <<< (t &&& 31))) j2)), (3, .int rg), (2, .int t), (1, .int (nI (k + 1))), (0, .ref y)] := ⟨0, 1, by omega, lv_sub hl [0, 1, 2, 3, 4, 5] rfl⟩
                    clear hl
                    obtain ⟨j2, rg, p2, hl⟩ := hl2
                    obtain ⟨z2, hz2⟩ : ∃ z2 : Nat, 6 < j2 + z2 := ⟨7, by omega⟩
                    induction z2 generalizing j2 ls H locs with
                    | zero => omega
                    | succ z2 ih2 =>
                      refine lv_iload hx hb d_M_service_164 (lv_at hl 0 rfl) ?_
                      refine lv_bipush (v := 6) hx hb d_M_service_166 (by decide) ?_
                      refine lv_icmp_ge (tgt := 197) hx hb d_M_service_168 (by decide) (fun c_63 => ?_) (fun c_63 => ?_)
                      · refine lv_iload hx hb d_M_service_197 (lv_at hl 1 rfl) ?_
                        exact wd_iret C hr hlocks h (by have hxk : xk (R k) t = 0 := by { simp [xk, c_26, c_48, eq_false c_54] }; have hj6 : j2 = 6 := ix_d (n := 6) (by decide) p2 c_63; rw [hj6, yc_bc (hok k hk).2.2.2.1 c_12, o_upd_some (S := (n, R, nc, CR, wg, Q)) (o_find_ok m8 hk), show f_srv t (R k) = (bc (R k 4 ||| (1 <<< (t &&& 31))), upd (R k) 4 (R k 4 ||| (1 <<< (t &&& 31)))) from by simp [f_srv, eq_false c_12, eq_true c_18, eq_true c_24, hxl, hxk]]; exact ⟨rfl, hM1.rm⟩) (Nat.le_of_ble_eq_true rfl) (Nat.le_of_ble_eq_true rfl) d_M_service_199
                      · refine lv_iload hx hb d_M_service_171 (lv_at hl 1 rfl) ?_
                        refine lv_aload_n hx hb d_M_service_173 rfl (lv_at hl 5 rfl) ?_
                        refine lv_iload_n hx hb d_M_service_174 rfl (lv_at hl 4 rfl) ?_
                        refine lv_iload hx hb d_M_service_175 (lv_at hl 0 rfl) ?_
                        refine wd_ci h (wd_rV (rest := [.int (yc (R k 4 ||| (1 <<< (t &&& 31))) j2)]) (st0 := [.int (nI j2), .int (nI (k + 1)), .ref y, .int (yc (R k 4 ||| (1 <<< (t &&& 31))) j2)]) C h kc_M h_60 k_M_has wm_M_has wz_M_has lk_M_96 (c_M_has l D T A (wd_up σ (am 5) (.inl (T 0, 121, .inl (upd (fm 5) (k + 1) ((R k 4) ||| (1 <<< (t &&& 31))))))) y am _ n _ nc CR wg Q hM1 k hk (nI j2)) rfl rfl ⟨Nat.le_of_ble_eq_true rfl, Nat.le_of_ble_eq_true rfl⟩ rfl hl.1 rfl (Nat.le_of_ble_eq_true rfl) d_M_service_177 ⟨Nat.le_of_ble_eq_true rfl, Nat.le_of_ble_eq_true rfl⟩) (fun r_64 σ_65 H locs hp_66 h => ?_)
                        obtain ⟨e_67, es_68⟩ := hp_66
                        rw [es_68] at h
                        subst e_67
                        rw [show (va_up R k (upd (R k) 4 (R k 4 ||| (1 <<< (t &&& 31))))) k 4 = (R k 4 ||| (1 <<< (t &&& 31))) from by rw [va_up_self]; rfl]
                        refine lv_if_eq (tgt := 187) hx hb d_M_service_180 (by decide) (fun c_69 => ?_) (fun c_69 => ?_)
                        · refine lv_iconst (v := 0) hx hb d_M_service_187 (by decide) ?_
                          refine lv_iadd hx hb d_M_service_188 ?_
                          refine lv_istore (lv' := [(4, .int ((yc (R k 4 ||| (1 <<< (t &&& 31))) j2) + 0)), (5, .int (nI j2)), (3, .int rg), (2, .int t), (1, .int (nI (k + 1))), (0, .ref y)]) hx hb d_M_service_189 hl (by decide) rfl (fun ls hl => ?_)
                          refine lv_iinc (v := ((nI j2) + 1)) (lv' := [(5, .int ((nI j2) + 1)), (4, .int ((yc (R k 4 ||| (1 <<< (t &&& 31))) j2) + 0)), (3, .int rg), (2, .int t), (1, .int (nI (k + 1))), (0, .ref y)]) hx hb d_M_service_191 hl (k := 1) rfl (by first | rfl | decide) (by decide) rfl (fun ls hl => ?_)
                          refine lv_goto (tgt := 164) hx hb d_M_service_194 (by decide) ?_
                          have hl3 : lv_has ls 6 [(5, .int (nI (j2 + 1))), (4, .int (yc (R k 4 ||| (1 <<< (t &&& 31))) (j2 + 1))), (3, .int rg), (2, .int t), (1, .int (nI (k + 1))), (0, .ref y)] := by
                            rw [← nI_1 j2, show yc (R k 4 ||| (1 <<< (t &&& 31))) (j2 + 1) = yc (R k 4 ||| (1 <<< (t &&& 31))) j2 + (if xh (R k 4 ||| (1 <<< (t &&& 31))) (nI j2) = 0 then 0 else 1) from rfl, if_pos c_69]
                            exact lv_sub hl [0, 1, 2, 3, 4, 5] rfl
                          exact ih2 (H := _) (locs := _) (ls := ls) (j2 := j2 + 1) h (by have := ix_c (n := 6) (by decide) p2 c_63; omega) hl3 (by omega)
                        · refine lv_iconst (v := 1) hx hb d_M_service_183 (by decide) ?_
                          refine lv_goto (tgt := 188) hx hb d_M_service_184 (by decide) ?_
                          refine lv_iadd hx hb d_M_service_188 ?_
                          refine lv_istore (lv' := [(4, .int ((yc (R k 4 ||| (1 <<< (t &&& 31))) j2) + 1)), (5, .int (nI j2)), (3, .int rg), (2, .int t), (1, .int (nI (k + 1))), (0, .ref y)]) hx hb d_M_service_189 hl (by decide) rfl (fun ls hl => ?_)
                          refine lv_iinc (v := ((nI j2) + 1)) (lv' := [(5, .int ((nI j2) + 1)), (4, .int ((yc (R k 4 ||| (1 <<< (t &&& 31))) j2) + 1)), (3, .int rg), (2, .int t), (1, .int (nI (k + 1))), (0, .ref y)]) hx hb d_M_service_191 hl (k := 1) rfl (by first | rfl | decide) (by decide) rfl (fun ls hl => ?_)
                          refine lv_goto (tgt := 164) hx hb d_M_service_194 (by decide) ?_
                          have hl3 : lv_has ls 6 [(5, .int (nI (j2 + 1))), (4, .int (yc (R k 4 ||| (1 <<< (t &&& 31))) (j2 + 1))), (3, .int rg), (2, .int t), (1, .int (nI (k + 1))), (0, .ref y)] := by
                            rw [← nI_1 j2, show yc (R k 4 ||| (1 <<< (t &&& 31))) (j2 + 1) = yc (R k 4 ||| (1 <<< (t &&& 31))) j2 + (if xh (R k 4 ||| (1 <<< (t &&& 31))) (nI j2) = 0 then 0 else 1) from rfl, if_neg c_69]
                            exact lv_sub hl [0, 1, 2, 3, 4, 5] rfl
                          exact ih2 (H := _) (locs := _) (ls := ls) (j2 := j2 + 1) h (by have := ix_c (n := 6) (by decide) p2 c_63; omega) hl3 (by omega)
                · refine lv_iload_n hx hb d_M_service_90 rfl (lv_at hl 1 rfl) ?_
                  refine lv_iconst (v := 4) hx hb d_M_service_91 (by decide) ?_
                  refine lv_icmp_ne (tgt := 104) hx hb d_M_service_92 (by decide) (fun c_70 => ?_) (fun c_70 => ?_)
                  · refine lv_iconst (v := 1) hx hb d_M_service_104 (by decide) ?_
                    refine lv_goto (tgt := 109) hx hb d_M_service_105 (by decide) ?_
                    refine lv_istore_n (lv' := [(3, .int 1), (2, .int t), (1, .int (nI (k + 1))), (0, .ref y)]) hx hb d_M_service_109 rfl hl (by decide) rfl (fun ls hl => ?_)
                    refine lv_iload_n hx hb d_M_service_110 rfl (lv_at hl 0 rfl) ?_
                    refine lv_if_eq (tgt := 143) hx hb d_M_service_111 (by decide) (fun c_71 => ?_) (fun c_71 => ?_)
                    · exact absurd c_71 (by decide)
                    refine lv_iload_n hx hb d_M_service_114 rfl (lv_at hl 1 rfl) ?_
                    refine lv_iconst (v := 5) hx hb d_M_service_115 (by decide) ?_
                    refine lv_icmp_ne (tgt := 129) hx hb d_M_service_116 (by decide) (fun c_72 => ?_) (fun c_72 => ?_)
                    · refine lv_iload_n hx hb d_M_service_129 rfl (lv_at hl 1 rfl) ?_
                      refine lv_iconst (v := 4) hx hb d_M_service_130 (by decide) ?_
                      refine lv_icmp_ne (tgt := 146) hx hb d_M_service_131 (by decide) (fun _ => ?_) (fun z => absurd z (show ¬ t = 4 from c_70))
                      refine lv_aload_n hx hb d_M_service_146 rfl (lv_at hl 3 rfl) ?_
                      refine wd_get C h kc_M d0 5 (by decide) lk_M_22 rfl d_M_service_147 ?_
                      refine lv_iload_n hx hb d_M_service_150 rfl (lv_at hl 2 rfl) ?_
                      refine lv_dup2_11 hx hb d_M_service_151 rfl rfl ?_
                      refine wd_iald C h 0 rfl c5 (vp_in_nI (show k + 1 < 121 by omega) (by decide)) d_M_service_152 ?_
                      rw [nI_clamp (show k + 1 < 2 ^ 31 by omega)]
                      rw [show fm 5 (k + 1) = R k 4 from m1 k hk 4 (by decide)]
                      refine lv_iconst (v := 1) hx hb d_M_service_153 (by decide) ?_
                      refine lv_iload_n hx hb d_M_service_154 rfl (lv_at hl 1 rfl) ?_
                      refine lv_ishl hx hb d_M_service_155 ?_
                      refine lv_ior hx hb d_M_service_156 ?_
                      refine wd_iast C h 0 rfl c5 (vp_in_nI (show k + 1 < 121 by omega) (by decide)) d_M_service_157 (fun H locs h => ?_)
                      rw [nI_clamp (show k + 1 < 2 ^ 31 by omega)] at h
                      replace h : wd_C D T A s H locs (wd_up σ (am 5) (.inl (T 0, 121, .inl (upd (fm 5) (k + 1) ((R k 4) ||| (1 <<< (t &&& 31))))))) := h
                      have h_74 : (wd_up σ (am 5) (.inl (T 0, 121, .inl (upd (fm 5) (k + 1) ((R k 4) ||| (1 <<< (t &&& 31))))))) (am 5) = some (.inl (T 0, 121, .inl (upd (fm 5) (k + 1) ((R k 4) ||| (1 <<< (t &&& 31)))))) := wd_us _ _ _
                      have h_75 : (wd_up σ (am 5) (.inl (T 0, 121, .inl (upd (fm 5) (k + 1) ((R k 4) ||| (1 <<< (t &&& 31))))))) y = some (.inr (4, [.int (nI n), .ref (am 1), .ref (am 2), .ref (am 3), .ref (am 4), .ref (am 5), .ref (am 6), .ref (am 7), .ref (am 8), .ref (am 9), .ref (am 10), .ref (am 11), .ref (am 12), .ref (am 13), .ref (am 14), .ref (am 15), .ref (am 16), .ref (am 17), .ref (am 18), .int (nI nc), .ref (am 20), .int (nI Q.2), .ref (am 22)])) := wd_uk d0 (wd_ne d0 c5 (by simp))
                      have h_76 : (wd_up σ (am 5) (.inl (T 0, 121, .inl (upd (fm 5) (k + 1) ((R k 4) ||| (1 <<< (t &&& 31))))))) (am 1) = some (.inl (T 0, 121, .inl (fm 1))) := wd_uk c1 (fun z => absurd (di 1 5 rfl rfl z) (by decide))
                      have h_77 : (wd_up σ (am 5) (.inl (T 0, 121, .inl (upd (fm 5) (k + 1) ((R k 4) ||| (1 <<< (t &&& 31))))))) (am 6) = some (.inl (T 0, 121, .inl (fm 6))) := wd_uk c6 (fun z => absurd (di 6 5 rfl rfl z) (by decide))
                      have hM1 := hM.set hk (f := 4) (by decide) (R k 4 ||| (1 <<< (t &&& 31)))
                      refine lv_iconst (v := 0) hx hb d_M_service_158 (by decide) ?_
                      refine lv_istore (lv' := [(4, .int 0), (3, .int 1), (2, .int t), (1, .int (nI (k + 1))), (0, .ref y)]) hx hb d_M_service_159 hl (by decide) rfl (fun ls hl => ?_)
                      refine lv_iconst (v := 0) hx hb d_M_service_161 (by decide) ?_
                      refine lv_istore (lv' := [(5, .int 0), (4, .int 0), (3, .int 1), (2, .int t), (1, .int (nI (k + 1))), (0, .ref y)]) hx hb d_M_service_162 hl (by decide) rfl (fun ls hl => ?_)
                      have hl2 : ∃ (j2 : Nat) (rg : Int32), (j2 ≤ 6) ∧ lv_has ls 6 [(5, .int (nI j2)), (4, .int (yc (R k 4 ||| (1 <<< (t &&& 31))) j2)), (3, .int rg), (2, .int t), (1, .int (nI (k + 1))), (0, .ref y)] := ⟨0, 1, by omega, lv_sub hl [0, 1, 2, 3, 4, 5] rfl⟩
                      clear hl
                      obtain ⟨j2, rg, p2, hl⟩ := hl2
                      obtain ⟨z2, hz2⟩ : ∃ z2 : Nat, 6 < j2 + z2 := ⟨7, by omega⟩
                      induction z2 generalizing j2 ls H locs with
                      | zero => omega
                      | succ z2 ih2 =>
                        refine lv_iload hx hb d_M_service_164 (lv_at hl 0 rfl) ?_
                        refine lv_bipush (v := 6) hx hb d_M_service_166 (by decide) ?_
                        refine lv_icmp_ge (tgt := 197) hx hb d_M_service_168 (by decide) (fun c_78 => ?_) (fun c_78 => ?_)
                        · refine lv_iload hx hb d_M_service_197 (lv_at hl 1 rfl) ?_
                          exact wd_iret C hr hlocks h (by have hxk : xk (R k) t = 0 := by { simp [xk, c_26, c_48, c_70, c_72] }; have hj6 : j2 = 6 := ix_d (n := 6) (by decide) p2 c_78; rw [hj6, yc_bc (hok k hk).2.2.2.1 c_12, o_upd_some (S := (n, R, nc, CR, wg, Q)) (o_find_ok m8 hk), show f_srv t (R k) = (bc (R k 4 ||| (1 <<< (t &&& 31))), upd (R k) 4 (R k 4 ||| (1 <<< (t &&& 31)))) from by simp [f_srv, eq_false c_12, eq_true c_18, eq_true c_24, hxl, hxk]]; exact ⟨rfl, hM1.rm⟩) (Nat.le_of_ble_eq_true rfl) (Nat.le_of_ble_eq_true rfl) d_M_service_199
                        · refine lv_iload hx hb d_M_service_171 (lv_at hl 1 rfl) ?_
                          refine lv_aload_n hx hb d_M_service_173 rfl (lv_at hl 5 rfl) ?_
                          refine lv_iload_n hx hb d_M_service_174 rfl (lv_at hl 4 rfl) ?_
                          refine lv_iload hx hb d_M_service_175 (lv_at hl 0 rfl) ?_
                          refine wd_ci h (wd_rV (rest := [.int (yc (R k 4 ||| (1 <<< (t &&& 31))) j2)]) (st0 := [.int (nI j2), .int (nI (k + 1)), .ref y, .int (yc (R k 4 ||| (1 <<< (t &&& 31))) j2)]) C h kc_M h_75 k_M_has wm_M_has wz_M_has lk_M_96 (c_M_has l D T A (wd_up σ (am 5) (.inl (T 0, 121, .inl (upd (fm 5) (k + 1) ((R k 4) ||| (1 <<< (t &&& 31))))))) y am _ n _ nc CR wg Q hM1 k hk (nI j2)) rfl rfl ⟨Nat.le_of_ble_eq_true rfl, Nat.le_of_ble_eq_true rfl⟩ rfl hl.1 rfl (Nat.le_of_ble_eq_true rfl) d_M_service_177 ⟨Nat.le_of_ble_eq_true rfl, Nat.le_of_ble_eq_true rfl⟩) (fun r_79 σ_80 H locs hp_81 h => ?_)
                          obtain ⟨e_82, es_83⟩ := hp_81
                          rw [es_83] at h
                          subst e_82
                          rw [show (va_up R k (upd (R k) 4 (R k 4 ||| (1 <<< (t &&& 31))))) k 4 = (R k 4 ||| (1 <<< (t &&& 31))) from by rw [va_up_self]; rfl]
                          refine lv_if_eq (tgt := 187) hx hb d_M_service_180 (by decide) (fun c_84 => ?_) (fun c_84 => ?_)
                          · refine lv_iconst (v := 0) hx hb d_M_service_187 (by decide) ?_
                            refine lv_iadd hx hb d_M_service_188 ?_
                            refine lv_istore (lv' := [(4, .int ((yc (R k 4 ||| (1 <<< (t &&& 31))) j2) + 0)), (5, .int (nI j2)), (3, .int rg), (2, .int t), (1, .int (nI (k + 1))), (0, .ref y)]) hx hb d_M_service_189 hl (by decide) rfl (fun ls hl => ?_)
                            refine lv_iinc (v := ((nI j2) + 1)) (lv' := [(5, .int ((nI j2) + 1)), (4, .int ((yc (R k 4 ||| (1 <<< (t &&& 31))) j2) + 0)), (3, .int rg), (2, .int t), (1, .int (nI (k + 1))), (0, .ref y)]) hx hb d_M_service_191 hl (k := 1) rfl (by first | rfl | decide) (by decide) rfl (fun ls hl => ?_)
                            refine lv_goto (tgt := 164) hx hb d_M_service_194 (by decide) ?_
                            have hl3 : lv_has ls 6 [(5, .int (nI (j2 + 1))), (4, .int (yc (R k 4 ||| (1 <<< (t &&& 31))) (j2 + 1))), (3, .int rg), (2, .int t), (1, .int (nI (k + 1))), (0, .ref y)] := by
                              rw [← nI_1 j2, show yc (R k 4 ||| (1 <<< (t &&& 31))) (j2 + 1) = yc (R k 4 ||| (1 <<< (t &&& 31))) j2 + (if xh (R k 4 ||| (1 <<< (t &&& 31))) (nI j2) = 0 then 0 else 1) from rfl, if_pos c_84]
                              exact lv_sub hl [0, 1, 2, 3, 4, 5] rfl
                            exact ih2 (H := _) (locs := _) (ls := ls) (j2 := j2 + 1) h (by have := ix_c (n := 6) (by decide) p2 c_78; omega) hl3 (by omega)
                          · refine lv_iconst (v := 1) hx hb d_M_service_183 (by decide) ?_
                            refine lv_goto (tgt := 188) hx hb d_M_service_184 (by decide) ?_
                            refine lv_iadd hx hb d_M_service_188 ?_
                            refine lv_istore (lv' := [(4, .int ((yc (R k 4 ||| (1 <<< (t &&& 31))) j2) + 1)), (5, .int (nI j2)), (3, .int rg), (2, .int t), (1, .int (nI (k + 1))), (0, .ref y)]) hx hb d_M_service_189 hl (by decide) rfl (fun ls hl => ?_)
                            refine lv_iinc (v := ((nI j2) + 1)) (lv' := [(5, .int ((nI j2) + 1)), (4, .int ((yc (R k 4 ||| (1 <<< (t &&& 31))) j2) + 1)), (3, .int rg), (2, .int t), (1, .int (nI (k + 1))), (0, .ref y)]) hx hb d_M_service_191 hl (k := 1) rfl (by first | rfl | decide) (by decide) rfl (fun ls hl => ?_)
                            refine lv_goto (tgt := 164) hx hb d_M_service_194 (by decide) ?_
                            have hl3 : lv_has ls 6 [(5, .int (nI (j2 + 1))), (4, .int (yc (R k 4 ||| (1 <<< (t &&& 31))) (j2 + 1))), (3, .int rg), (2, .int t), (1, .int (nI (k + 1))), (0, .ref y)] := by
                              rw [← nI_1 j2, show yc (R k 4 ||| (1 <<< (t &&& 31))) (j2 + 1) = yc (R k 4 ||| (1 <<< (t &&& 31))) j2 + (if xh (R k 4 ||| (1 <<< (t &&& 31))) (nI j2) = 0 then 0 else 1) from rfl, if_neg c_84]
                              exact lv_sub hl [0, 1, 2, 3, 4, 5] rfl
                            exact ih2 (H := _) (locs := _) (ls := ls) (j2 := j2 + 1) h (by have := ix_c (n := 6) (by decide) p2 c_78; omega) hl3 (by omega)
                    · refine lv_aload_n hx hb d_M_service_119 rfl (lv_at hl 3 rfl) ?_
                      refine wd_get C h kc_M d0 1 (by decide) lk_M_7 rfl d_M_service_120 ?_
                      refine lv_iload_n hx hb d_M_service_123 rfl (lv_at hl 2 rfl) ?_
                      refine wd_iald C h 0 rfl c1 (vp_in_nI (show k + 1 < 121 by omega) (by decide)) d_M_service_124 ?_
                      rw [nI_clamp (show k + 1 < 2 ^ 31 by omega)]
                      rw [show fm 1 (k + 1) = R k 0 from m1 k hk 0 (by decide)]
                      refine lv_iconst (v := 2) hx hb d_M_service_125 (by decide) ?_
                      refine lv_icmp_lt (tgt := 143) hx hb d_M_service_126 (by decide) (fun c_85 => ?_) (fun c_85 => ?_)
                      · refine lv_bipush (v := (-111)) hx hb d_M_service_143 (by decide) ?_
                        exact wd_iret C hr hlocks h (by have hxk : ¬ xk (R k) t = 0 := by { simp [xk, c_26, c_48, c_70, c_72, eq_false (Int32.not_le.mpr c_85)] }; rw [o_upd_some (S := (n, R, nc, CR, wg, Q)) (o_find_ok m8 hk), show f_srv t (R k) = ((-111), (R k)) from by simp [f_srv, eq_false c_12, eq_true c_18, eq_true c_24, hxl, hxk]]; exact ⟨rfl, by rw [va_up_id]; exact hM.rm⟩) (Nat.le_of_ble_eq_true rfl) (Nat.le_of_ble_eq_true rfl) d_M_service_145
                      · refine lv_iload_n hx hb d_M_service_129 rfl (lv_at hl 1 rfl) ?_
                        refine lv_iconst (v := 4) hx hb d_M_service_130 (by decide) ?_
                        refine lv_icmp_ne (tgt := 146) hx hb d_M_service_131 (by decide) (fun _ => ?_) (fun z => absurd z (show ¬ t = 4 from by rw [c_72]; decide))
                        refine lv_aload_n hx hb d_M_service_146 rfl (lv_at hl 3 rfl) ?_
                        refine wd_get C h kc_M d0 5 (by decide) lk_M_22 rfl d_M_service_147 ?_
                        refine lv_iload_n hx hb d_M_service_150 rfl (lv_at hl 2 rfl) ?_
                        refine lv_dup2_11 hx hb d_M_service_151 rfl rfl ?_
                        refine wd_iald C h 0 rfl c5 (vp_in_nI (show k + 1 < 121 by omega) (by decide)) d_M_service_152 ?_
                        rw [nI_clamp (show k + 1 < 2 ^ 31 by omega)]
                        rw [show fm 5 (k + 1) = R k 4 from m1 k hk 4 (by decide)]
                        refine lv_iconst (v := 1) hx hb d_M_service_153 (by decide) ?_
                        refine lv_iload_n hx hb d_M_service_154 rfl (lv_at hl 1 rfl) ?_
                        refine lv_ishl hx hb d_M_service_155 ?_
                        refine lv_ior hx hb d_M_service_156 ?_
                        refine wd_iast C h 0 rfl c5 (vp_in_nI (show k + 1 < 121 by omega) (by decide)) d_M_service_157 (fun H locs h => ?_)
                        rw [nI_clamp (show k + 1 < 2 ^ 31 by omega)] at h
                        replace h : wd_C D T A s H locs (wd_up σ (am 5) (.inl (T 0, 121, .inl (upd (fm 5) (k + 1) ((R k 4) ||| (1 <<< (t &&& 31))))))) := h
                        have h_87 : (wd_up σ (am 5) (.inl (T 0, 121, .inl (upd (fm 5) (k + 1) ((R k 4) ||| (1 <<< (t &&& 31))))))) (am 5) = some (.inl (T 0, 121, .inl (upd (fm 5) (k + 1) ((R k 4) ||| (1 <<< (t &&& 31)))))) := wd_us _ _ _
                        have h_88 : (wd_up σ (am 5) (.inl (T 0, 121, .inl (upd (fm 5) (k + 1) ((R k 4) ||| (1 <<< (t &&& 31))))))) y = some (.inr (4, [.int (nI n), .ref (am 1), .ref (am 2), .ref (am 3), .ref (am 4), .ref (am 5), .ref (am 6), .ref (am 7), .ref (am 8), .ref (am 9), .ref (am 10), .ref (am 11), .ref (am 12), .ref (am 13), .ref (am 14), .ref (am 15), .ref (am 16), .ref (am 17), .ref (am 18), .int (nI nc), .ref (am 20), .int (nI Q.2), .ref (am 22)])) := wd_uk d0 (wd_ne d0 c5 (by simp))
                        have h_89 : (wd_up σ (am 5) (.inl (T 0, 121, .inl (upd (fm 5) (k + 1) ((R k 4) ||| (1 <<< (t &&& 31))))))) (am 1) = some (.inl (T 0, 121, .inl (fm 1))) := wd_uk c1 (fun z => absurd (di 1 5 rfl rfl z) (by decide))
                        have h_90 : (wd_up σ (am 5) (.inl (T 0, 121, .inl (upd (fm 5) (k + 1) ((R k 4) ||| (1 <<< (t &&& 31))))))) (am 6) = some (.inl (T 0, 121, .inl (fm 6))) := wd_uk c6 (fun z => absurd (di 6 5 rfl rfl z) (by decide))
                        have hM1 := hM.set hk (f := 4) (by decide) (R k 4 ||| (1 <<< (t &&& 31)))
                        refine lv_iconst (v := 0) hx hb d_M_service_158 (by decide) ?_
                        refine lv_istore (lv' := [(4, .int 0), (3, .int 1), (2, .int t), (1, .int (nI (k + 1))), (0, .ref y)]) hx hb d_M_service_159 hl (by decide) rfl (fun ls hl => ?_)
                        refine lv_iconst (v := 0) hx hb d_M_service_161 (by decide) ?_
                        refine lv_istore (lv' := [(5, .int 0), (4, .int 0), (3, .int 1), (2, .int t), (1, .int (nI (k + 1))), (0, .ref y)]) hx hb d_M_service_162 hl (by decide) rfl (fun ls hl => ?_)
                        have hl2 : ∃ (j2 : Nat) (rg : Int32), (j2 ≤ 6) ∧ lv_has ls 6 [(5, .int (nI j2)), (4, .int (yc (R k 4 ||| (1 <<< (t &&& 31))) j2)), (3, .int rg), (2, .int t), (1, .int (nI (k + 1))), (0, .ref y)] := ⟨0, 1, by omega, lv_sub hl [0, 1, 2, 3, 4, 5] rfl⟩
                        clear hl
                        obtain ⟨j2, rg, p2, hl⟩ := hl2
                        obtain ⟨z2, hz2⟩ : ∃ z2 : Nat, 6 < j2 + z2 := ⟨7, by omega⟩
                        induction z2 generalizing j2 ls H locs with
                        | zero => omega
                        | succ z2 ih2 =>
                          refine lv_iload hx hb d_M_service_164 (lv_at hl 0 rfl) ?_
                          refine lv_bipush (v := 6) hx hb d_M_service_166 (by decide) ?_
                          refine lv_icmp_ge (tgt := 197) hx hb d_M_service_168 (by decide) (fun c_91 => ?_) (fun c_91 => ?_)
                          · refine lv_iload hx hb d_M_service_197 (lv_at hl 1 rfl) ?_
                            exact wd_iret C hr hlocks h (by have hxk : xk (R k) t = 0 := by { simp [xk, c_26, c_48, c_70, c_72, eq_true (Int32.not_lt.mp c_85)] }; have hj6 : j2 = 6 := ix_d (n := 6) (by decide) p2 c_91; rw [hj6, yc_bc (hok k hk).2.2.2.1 c_12, o_upd_some (S := (n, R, nc, CR, wg, Q)) (o_find_ok m8 hk), show f_srv t (R k) = (bc (R k 4 ||| (1 <<< (t &&& 31))), upd (R k) 4 (R k 4 ||| (1 <<< (t &&& 31)))) from by simp [f_srv, eq_false c_12, eq_true c_18, eq_true c_24, hxl, hxk]]; exact ⟨rfl, hM1.rm⟩) (Nat.le_of_ble_eq_true rfl) (Nat.le_of_ble_eq_true rfl) d_M_service_199
                          · refine lv_iload hx hb d_M_service_171 (lv_at hl 1 rfl) ?_
                            refine lv_aload_n hx hb d_M_service_173 rfl (lv_at hl 5 rfl) ?_
                            refine lv_iload_n hx hb d_M_service_174 rfl (lv_at hl 4 rfl) ?_
                            refine lv_iload hx hb d_M_service_175 (lv_at hl 0 rfl) ?_
                            refine wd_ci h (wd_rV (rest := [.int (yc (R k 4 ||| (1 <<< (t &&& 31))) j2)]) (st0 := [.int (nI j2), .int (nI (k + 1)), .ref y, .int (yc (R k 4 ||| (1 <<< (t &&& 31))) j2)]) C h kc_M h_88 k_M_has wm_M_has wz_M_has lk_M_96 (c_M_has l D T A (wd_up σ (am 5) (.inl (T 0, 121, .inl (upd (fm 5) (k + 1) ((R k 4) ||| (1 <<< (t &&& 31))))))) y am _ n _ nc CR wg Q hM1 k hk (nI j2)) rfl rfl ⟨Nat.le_of_ble_eq_true rfl, Nat.le_of_ble_eq_true rfl⟩ rfl hl.1 rfl (Nat.le_of_ble_eq_true rfl) d_M_service_177 ⟨Nat.le_of_ble_eq_true rfl, Nat.le_of_ble_eq_true rfl⟩) (fun r_92 σ_93 H locs hp_94 h => ?_)
                            obtain ⟨e_95, es_96⟩ := hp_94
                            rw [es_96] at h
                            subst e_95
                            rw [show (va_up R k (upd (R k) 4 (R k 4 ||| (1 <<< (t &&& 31))))) k 4 = (R k 4 ||| (1 <<< (t &&& 31))) from by rw [va_up_self]; rfl]
                            refine lv_if_eq (tgt := 187) hx hb d_M_service_180 (by decide) (fun c_97 => ?_) (fun c_97 => ?_)
                            · refine lv_iconst (v := 0) hx hb d_M_service_187 (by decide) ?_
                              refine lv_iadd hx hb d_M_service_188 ?_
                              refine lv_istore (lv' := [(4, .int ((yc (R k 4 ||| (1 <<< (t &&& 31))) j2) + 0)), (5, .int (nI j2)), (3, .int rg), (2, .int t), (1, .int (nI (k + 1))), (0, .ref y)]) hx hb d_M_service_189 hl (by decide) rfl (fun ls hl => ?_)
                              refine lv_iinc (v := ((nI j2) + 1)) (lv' := [(5, .int ((nI j2) + 1)), (4, .int ((yc (R k 4 ||| (1 <<< (t &&& 31))) j2) + 0)), (3, .int rg), (2, .int t), (1, .int (nI (k + 1))), (0, .ref y)]) hx hb d_M_service_191 hl (k := 1) rfl (by first | rfl | decide) (by decide) rfl (fun ls hl => ?_)
                              refine lv_goto (tgt := 164) hx hb d_M_service_194 (by decide) ?_
                              have hl3 : lv_has ls 6 [(5, .int (nI (j2 + 1))), (4, .int (yc (R k 4 ||| (1 <<< (t &&& 31))) (j2 + 1))), (3, .int rg), (2, .int t), (1, .int (nI (k + 1))), (0, .ref y)] := by
                                rw [← nI_1 j2, show yc (R k 4 ||| (1 <<< (t &&& 31))) (j2 + 1) = yc (R k 4 ||| (1 <<< (t &&& 31))) j2 + (if xh (R k 4 ||| (1 <<< (t &&& 31))) (nI j2) = 0 then 0 else 1) from rfl, if_pos c_97]
                                exact lv_sub hl [0, 1, 2, 3, 4, 5] rfl
                              exact ih2 (H := _) (locs := _) (ls := ls) (j2 := j2 + 1) h (by have := ix_c (n := 6) (by decide) p2 c_91; omega) hl3 (by omega)
                            · refine lv_iconst (v := 1) hx hb d_M_service_183 (by decide) ?_
                              refine lv_goto (tgt := 188) hx hb d_M_service_184 (by decide) ?_
                              refine lv_iadd hx hb d_M_service_188 ?_
                              refine lv_istore (lv' := [(4, .int ((yc (R k 4 ||| (1 <<< (t &&& 31))) j2) + 1)), (5, .int (nI j2)), (3, .int rg), (2, .int t), (1, .int (nI (k + 1))), (0, .ref y)]) hx hb d_M_service_189 hl (by decide) rfl (fun ls hl => ?_)
                              refine lv_iinc (v := ((nI j2) + 1)) (lv' := [(5, .int ((nI j2) + 1)), (4, .int ((yc (R k 4 ||| (1 <<< (t &&& 31))) j2) + 1)), (3, .int rg), (2, .int t), (1, .int (nI (k + 1))), (0, .ref y)]) hx hb d_M_service_191 hl (k := 1) rfl (by first | rfl | decide) (by decide) rfl (fun ls hl => ?_)
                              refine lv_goto (tgt := 164) hx hb d_M_service_194 (by decide) ?_
                              have hl3 : lv_has ls 6 [(5, .int (nI (j2 + 1))), (4, .int (yc (R k 4 ||| (1 <<< (t &&& 31))) (j2 + 1))), (3, .int rg), (2, .int t), (1, .int (nI (k + 1))), (0, .ref y)] := by
                                rw [← nI_1 j2, show yc (R k 4 ||| (1 <<< (t &&& 31))) (j2 + 1) = yc (R k 4 ||| (1 <<< (t &&& 31))) j2 + (if xh (R k 4 ||| (1 <<< (t &&& 31))) (nI j2) = 0 then 0 else 1) from rfl, if_neg c_97]
                                exact lv_sub hl [0, 1, 2, 3, 4, 5] rfl
                              exact ih2 (H := _) (locs := _) (ls := ls) (j2 := j2 + 1) h (by have := ix_c (n := 6) (by decide) p2 c_91; omega) hl3 (by omega)
                  · refine lv_aload_n hx hb d_M_service_95 rfl (lv_at hl 3 rfl) ?_
                    refine lv_iload_n hx hb d_M_service_96 rfl (lv_at hl 2 rfl) ?_
                    refine lv_iconst (v := 0) hx hb d_M_service_97 (by decide) ?_
                    refine wd_ci h (wd_rV (rest := []) (st0 := [.int 0, .int (nI (k + 1)), .ref y]) C h kc_M d0 k_M_has wm_M_has wz_M_has lk_M_96 (c_M_has l D T A σ y am fm n R nc CR wg Q hM k hk 0) rfl rfl ⟨Nat.le_of_ble_eq_true rfl, Nat.le_of_ble_eq_true rfl⟩ rfl hl.1 rfl (Nat.le_of_ble_eq_true rfl) d_M_service_98 ⟨Nat.le_of_ble_eq_true rfl, Nat.le_of_ble_eq_true rfl⟩) (fun r_98 σ_99 H locs hp_100 h => ?_)
                    obtain ⟨e_101, es_102⟩ := hp_100
                    rw [es_102] at h
                    subst e_101
                    refine lv_if_eq (tgt := 108) hx hb d_M_service_101 (by decide) (fun c_103 => ?_) (fun c_103 => ?_)
                    · refine lv_iconst (v := 0) hx hb d_M_service_108 (by decide) ?_
                      refine lv_istore_n (lv' := [(3, .int 0), (2, .int t), (1, .int (nI (k + 1))), (0, .ref y)]) hx hb d_M_service_109 rfl hl (by decide) rfl (fun ls hl => ?_)
                      refine lv_iload_n hx hb d_M_service_110 rfl (lv_at hl 0 rfl) ?_
                      refine lv_if_eq (tgt := 143) hx hb d_M_service_111 (by decide) (fun c_104 => ?_) (fun c_104 => ?_)
                      rotate_left
                      · exact absurd c_104 (by decide)
                      refine lv_bipush (v := (-111)) hx hb d_M_service_143 (by decide) ?_
                      exact wd_iret C hr hlocks h (by have hxk : ¬ xk (R k) t = 0 := by { simp [xk, c_26, c_48, c_70, eq_true c_103] }; rw [o_upd_some (S := (n, R, nc, CR, wg, Q)) (o_find_ok m8 hk), show f_srv t (R k) = ((-111), (R k)) from by simp [f_srv, eq_false c_12, eq_true c_18, eq_true c_24, hxl, hxk]]; exact ⟨rfl, by rw [va_up_id]; exact hM.rm⟩) (Nat.le_of_ble_eq_true rfl) (Nat.le_of_ble_eq_true rfl) d_M_service_145
                    · refine lv_iconst (v := 1) hx hb d_M_service_104 (by decide) ?_
                      refine lv_goto (tgt := 109) hx hb d_M_service_105 (by decide) ?_
                      refine lv_istore_n (lv' := [(3, .int 1), (2, .int t), (1, .int (nI (k + 1))), (0, .ref y)]) hx hb d_M_service_109 rfl hl (by decide) rfl (fun ls hl => ?_)
                      refine lv_iload_n hx hb d_M_service_110 rfl (lv_at hl 0 rfl) ?_
                      refine lv_if_eq (tgt := 143) hx hb d_M_service_111 (by decide) (fun c_105 => ?_) (fun c_105 => ?_)
                      · exact absurd c_105 (by decide)
                      refine lv_iload_n hx hb d_M_service_114 rfl (lv_at hl 1 rfl) ?_
                      refine lv_iconst (v := 5) hx hb d_M_service_115 (by decide) ?_
                      refine lv_icmp_ne (tgt := 129) hx hb d_M_service_116 (by decide) (fun _ => ?_) (fun z => absurd z (show ¬ t = 5 from by rw [c_70]; decide))
                      refine lv_iload_n hx hb d_M_service_129 rfl (lv_at hl 1 rfl) ?_
                      refine lv_iconst (v := 4) hx hb d_M_service_130 (by decide) ?_
                      refine lv_icmp_ne (tgt := 146) hx hb d_M_service_131 (by decide) (fun z => absurd (show t = 4 from c_70) z) (fun _ => ?_)
                      refine lv_aload_n hx hb d_M_service_134 rfl (lv_at hl 3 rfl) ?_
                      refine wd_get C h kc_M d0 1 (by decide) lk_M_7 rfl d_M_service_135 ?_
                      refine lv_iload_n hx hb d_M_service_138 rfl (lv_at hl 2 rfl) ?_
                      refine wd_iald C h 0 rfl c1 (vp_in_nI (show k + 1 < 121 by omega) (by decide)) d_M_service_139 ?_
                      rw [nI_clamp (show k + 1 < 2 ^ 31 by omega)]
                      rw [show fm 1 (k + 1) = R k 0 from m1 k hk 0 (by decide)]
                      refine lv_if_ne (tgt := 146) hx hb d_M_service_140 (by decide) (fun c_108 => ?_) (fun c_108 => ?_)
                      · refine lv_aload_n hx hb d_M_service_146 rfl (lv_at hl 3 rfl) ?_
                        refine wd_get C h kc_M d0 5 (by decide) lk_M_22 rfl d_M_service_147 ?_
                        refine lv_iload_n hx hb d_M_service_150 rfl (lv_at hl 2 rfl) ?_
                        refine lv_dup2_11 hx hb d_M_service_151 rfl rfl ?_
                        refine wd_iald C h 0 rfl c5 (vp_in_nI (show k + 1 < 121 by omega) (by decide)) d_M_service_152 ?_
                        rw [nI_clamp (show k + 1 < 2 ^ 31 by omega)]
                        rw [show fm 5 (k + 1) = R k 4 from m1 k hk 4 (by decide)]
                        refine lv_iconst (v := 1) hx hb d_M_service_153 (by decide) ?_
                        refine lv_iload_n hx hb d_M_service_154 rfl (lv_at hl 1 rfl) ?_
                        refine lv_ishl hx hb d_M_service_155 ?_
                        refine lv_ior hx hb d_M_service_156 ?_
                        refine wd_iast C h 0 rfl c5 (vp_in_nI (show k + 1 < 121 by omega) (by decide)) d_M_service_157 (fun H locs h => ?_)
                        rw [nI_clamp (show k + 1 < 2 ^ 31 by omega)] at h
                        replace h : wd_C D T A s H locs (wd_up σ (am 5) (.inl (T 0, 121, .inl (upd (fm 5) (k + 1) ((R k 4) ||| (1 <<< (t &&& 31))))))) := h
                        have h_109 : (wd_up σ (am 5) (.inl (T 0, 121, .inl (upd (fm 5) (k + 1) ((R k 4) ||| (1 <<< (t &&& 31))))))) (am 5) = some (.inl (T 0, 121, .inl (upd (fm 5) (k + 1) ((R k 4) ||| (1 <<< (t &&& 31)))))) := wd_us _ _ _
                        have h_110 : (wd_up σ (am 5) (.inl (T 0, 121, .inl (upd (fm 5) (k + 1) ((R k 4) ||| (1 <<< (t &&& 31))))))) y = some (.inr (4, [.int (nI n), .ref (am 1), .ref (am 2), .ref (am 3), .ref (am 4), .ref (am 5), .ref (am 6), .ref (am 7), .ref (am 8), .ref (am 9), .ref (am 10), .ref (am 11), .ref (am 12), .ref (am 13), .ref (am 14), .ref (am 15), .ref (am 16), .ref (am 17), .ref (am 18), .int (nI nc), .ref (am 20), .int (nI Q.2), .ref (am 22)])) := wd_uk d0 (wd_ne d0 c5 (by simp))
                        have h_111 : (wd_up σ (am 5) (.inl (T 0, 121, .inl (upd (fm 5) (k + 1) ((R k 4) ||| (1 <<< (t &&& 31))))))) (am 1) = some (.inl (T 0, 121, .inl (fm 1))) := wd_uk c1 (fun z => absurd (di 1 5 rfl rfl z) (by decide))
                        have h_112 : (wd_up σ (am 5) (.inl (T 0, 121, .inl (upd (fm 5) (k + 1) ((R k 4) ||| (1 <<< (t &&& 31))))))) (am 6) = some (.inl (T 0, 121, .inl (fm 6))) := wd_uk c6 (fun z => absurd (di 6 5 rfl rfl z) (by decide))
                        have hM1 := hM.set hk (f := 4) (by decide) (R k 4 ||| (1 <<< (t &&& 31)))
                        refine lv_iconst (v := 0) hx hb d_M_service_158 (by decide) ?_
                        refine lv_istore (lv' := [(4, .int 0), (3, .int 1), (2, .int t), (1, .int (nI (k + 1))), (0, .ref y)]) hx hb d_M_service_159 hl (by decide) rfl (fun ls hl => ?_)
                        refine lv_iconst (v := 0) hx hb d_M_service_161 (by decide) ?_
                        refine lv_istore (lv' := [(5, .int 0), (4, .int 0), (3, .int 1), (2, .int t), (1, .int (nI (k + 1))), (0, .ref y)]) hx hb d_M_service_162 hl (by decide) rfl (fun ls hl => ?_)
                        have hl2 : ∃ (j2 : Nat) (rg : Int32), (j2 ≤ 6) ∧ lv_has ls 6 [(5, .int (nI j2)), (4, .int (yc (R k 4 ||| (1 <<< (t &&& 31))) j2)), (3, .int rg), (2, .int t), (1, .int (nI (k + 1))), (0, .ref y)] := ⟨0, 1, by omega, lv_sub hl [0, 1, 2, 3, 4, 5] rfl⟩
                        clear hl
                        obtain ⟨j2, rg, p2, hl⟩ := hl2
                        obtain ⟨z2, hz2⟩ : ∃ z2 : Nat, 6 < j2 + z2 := ⟨7, by omega⟩
                        induction z2 generalizing j2 ls H locs with
                        | zero => omega
                        | succ z2 ih2 =>
                          refine lv_iload hx hb d_M_service_164 (lv_at hl 0 rfl) ?_
                          refine lv_bipush (v := 6) hx hb d_M_service_166 (by decide) ?_
                          refine lv_icmp_ge (tgt := 197) hx hb d_M_service_168 (by decide) (fun c_113 => ?_) (fun c_113 => ?_)
                          · refine lv_iload hx hb d_M_service_197 (lv_at hl 1 rfl) ?_
                            exact wd_iret C hr hlocks h (by have hxk : xk (R k) t = 0 := by { simp [xk, c_26, c_48, c_70, eq_false c_103, eq_false c_108] }; have hj6 : j2 = 6 := ix_d (n := 6) (by decide) p2 c_113; rw [hj6, yc_bc (hok k hk).2.2.2.1 c_12, o_upd_some (S := (n, R, nc, CR, wg, Q)) (o_find_ok m8 hk), show f_srv t (R k) = (bc (R k 4 ||| (1 <<< (t &&& 31))), upd (R k) 4 (R k 4 ||| (1 <<< (t &&& 31)))) from by simp [f_srv, eq_false c_12, eq_true c_18, eq_true c_24, hxl, hxk]]; exact ⟨rfl, hM1.rm⟩) (Nat.le_of_ble_eq_true rfl) (Nat.le_of_ble_eq_true rfl) d_M_service_199
                          · refine lv_iload hx hb d_M_service_171 (lv_at hl 1 rfl) ?_
                            refine lv_aload_n hx hb d_M_service_173 rfl (lv_at hl 5 rfl) ?_
                            refine lv_iload_n hx hb d_M_service_174 rfl (lv_at hl 4 rfl) ?_
                            refine lv_iload hx hb d_M_service_175 (lv_at hl 0 rfl) ?_
                            refine wd_ci h (wd_rV (rest := [.int (yc (R k 4 ||| (1 <<< (t &&& 31))) j2)]) (st0 := [.int (nI j2), .int (nI (k + 1)), .ref y, .int (yc (R k 4 ||| (1 <<< (t &&& 31))) j2)]) C h kc_M h_110 k_M_has wm_M_has wz_M_has lk_M_96 (c_M_has l D T A (wd_up σ (am 5) (.inl (T 0, 121, .inl (upd (fm 5) (k + 1) ((R k 4) ||| (1 <<< (t &&& 31))))))) y am _ n _ nc CR wg Q hM1 k hk (nI j2)) rfl rfl ⟨Nat.le_of_ble_eq_true rfl, Nat.le_of_ble_eq_true rfl⟩ rfl hl.1 rfl (Nat.le_of_ble_eq_true rfl) d_M_service_177 ⟨Nat.le_of_ble_eq_true rfl, Nat.le_of_ble_eq_true rfl⟩) (fun r_114 σ_115 H locs hp_116 h => ?_)
                            obtain ⟨e_117, es_118⟩ := hp_116
                            rw [es_118] at h
                            subst e_117
                            rw [show (va_up R k (upd (R k) 4 (R k 4 ||| (1 <<< (t &&& 31))))) k 4 = (R k 4 ||| (1 <<< (t &&& 31))) from by rw [va_up_self]; rfl]
                            refine lv_if_eq (tgt := 187) hx hb d_M_service_180 (by decide) (fun c_119 => ?_) (fun c_119 => ?_)
                            · refine lv_iconst (v := 0) hx hb d_M_service_187 (by decide) ?_
                              refine lv_iadd hx hb d_M_service_188 ?_
                              refine lv_istore (lv' := [(4, .int ((yc (R k 4 ||| (1 <<< (t &&& 31))) j2) + 0)), (5, .int (nI j2)), (3, .int rg), (2, .int t), (1, .int (nI (k + 1))), (0, .ref y)]) hx hb d_M_service_189 hl (by decide) rfl (fun ls hl => ?_)
                              refine lv_iinc (v := ((nI j2) + 1)) (lv' := [(5, .int ((nI j2) + 1)), (4, .int ((yc (R k 4 ||| (1 <<< (t &&& 31))) j2) + 0)), (3, .int rg), (2, .int t), (1, .int (nI (k + 1))), (0, .ref y)]) hx hb d_M_service_191 hl (k := 1) rfl (by first | rfl | decide) (by decide) rfl (fun ls hl => ?_)
                              refine lv_goto (tgt := 164) hx hb d_M_service_194 (by decide) ?_
                              have hl3 : lv_has ls 6 [(5, .int (nI (j2 + 1))), (4, .int (yc (R k 4 ||| (1 <<< (t &&& 31))) (j2 + 1))), (3, .int rg), (2, .int t), (1, .int (nI (k + 1))), (0, .ref y)] := by
                                rw [← nI_1 j2, show yc (R k 4 ||| (1 <<< (t &&& 31))) (j2 + 1) = yc (R k 4 ||| (1 <<< (t &&& 31))) j2 + (if xh (R k 4 ||| (1 <<< (t &&& 31))) (nI j2) = 0 then 0 else 1) from rfl, if_pos c_119]
                                exact lv_sub hl [0, 1, 2, 3, 4, 5] rfl
                              exact ih2 (H := _) (locs := _) (ls := ls) (j2 := j2 + 1) h (by have := ix_c (n := 6) (by decide) p2 c_113; omega) hl3 (by omega)
                            · refine lv_iconst (v := 1) hx hb d_M_service_183 (by decide) ?_
                              refine lv_goto (tgt := 188) hx hb d_M_service_184 (by decide) ?_
                              refine lv_iadd hx hb d_M_service_188 ?_
                              refine lv_istore (lv' := [(4, .int ((yc (R k 4 ||| (1 <<< (t &&& 31))) j2) + 1)), (5, .int (nI j2)), (3, .int rg), (2, .int t), (1, .int (nI (k + 1))), (0, .ref y)]) hx hb d_M_service_189 hl (by decide) rfl (fun ls hl => ?_)
                              refine lv_iinc (v := ((nI j2) + 1)) (lv' := [(5, .int ((nI j2) + 1)), (4, .int ((yc (R k 4 ||| (1 <<< (t &&& 31))) j2) + 1)), (3, .int rg), (2, .int t), (1, .int (nI (k + 1))), (0, .ref y)]) hx hb d_M_service_191 hl (k := 1) rfl (by first | rfl | decide) (by decide) rfl (fun ls hl => ?_)
                              refine lv_goto (tgt := 164) hx hb d_M_service_194 (by decide) ?_
                              have hl3 : lv_has ls 6 [(5, .int (nI (j2 + 1))), (4, .int (yc (R k 4 ||| (1 <<< (t &&& 31))) (j2 + 1))), (3, .int rg), (2, .int t), (1, .int (nI (k + 1))), (0, .ref y)] := by
                                rw [← nI_1 j2, show yc (R k 4 ||| (1 <<< (t &&& 31))) (j2 + 1) = yc (R k 4 ||| (1 <<< (t &&& 31))) j2 + (if xh (R k 4 ||| (1 <<< (t &&& 31))) (nI j2) = 0 then 0 else 1) from rfl, if_neg c_119]
                                exact lv_sub hl [0, 1, 2, 3, 4, 5] rfl
                              exact ih2 (H := _) (locs := _) (ls := ls) (j2 := j2 + 1) h (by have := ix_c (n := 6) (by decide) p2 c_113; omega) hl3 (by omega)
                      · refine lv_bipush (v := (-111)) hx hb d_M_service_143 (by decide) ?_
                        exact wd_iret C hr hlocks h (by have hxk : ¬ xk (R k) t = 0 := by { simp [xk, c_26, c_48, c_70, eq_false c_103, eq_true c_108] }; rw [o_upd_some (S := (n, R, nc, CR, wg, Q)) (o_find_ok m8 hk), show f_srv t (R k) = ((-111), (R k)) from by simp [f_srv, eq_false c_12, eq_true c_18, eq_true c_24, hxl, hxk]]; exact ⟨rfl, by rw [va_up_id]; exact hM.rm⟩) (Nat.le_of_ble_eq_true rfl) (Nat.le_of_ble_eq_true rfl) d_M_service_145
            · have hlt : j < 6 := ix_c (n := 6) (by decide) p0 c_25
              refine lv_aload_n hx hb d_M_service_51 rfl (lv_at hl 3 rfl) ?_
              refine lv_iload_n hx hb d_M_service_52 rfl (lv_at hl 2 rfl) ?_
              refine lv_iload_n hx hb d_M_service_53 rfl (lv_at hl 0 rfl) ?_
              refine wd_ci h (wd_rV (rest := []) (st0 := [.int (nI j), .int (nI (k + 1)), .ref y]) C h kc_M d0 k_M_has wm_M_has wz_M_has lk_M_96 (c_M_has l D T A σ y am fm n R nc CR wg Q hM k hk (nI j)) rfl rfl ⟨Nat.le_of_ble_eq_true rfl, Nat.le_of_ble_eq_true rfl⟩ rfl hl.1 rfl (Nat.le_of_ble_eq_true rfl) d_M_service_54 ⟨Nat.le_of_ble_eq_true rfl, Nat.le_of_ble_eq_true rfl⟩) (fun r_120 σ_121 H locs hp_122 h => ?_)
              obtain ⟨e_123, es_124⟩ := hp_122
              rw [es_124] at h
              subst e_123
              refine lv_if_eq (tgt := 74) hx hb d_M_service_57 (by decide) (fun c_125 => ?_) (fun c_125 => ?_)
              · refine lv_iinc (v := ((nI j) + 1)) (lv' := [(3, .int ((nI j) + 1)), (2, .int t), (1, .int (nI (k + 1))), (0, .ref y)]) hx hb d_M_service_74 hl (k := 0) rfl (by first | rfl | decide) (by decide) rfl (fun ls hl => ?_)
                refine lv_goto (tgt := 45) hx hb d_M_service_77 (by decide) ?_
                have hl3 : lv_has ls 6 [(3, .int (nI (j + 1))), (2, .int t), (1, .int (nI (k + 1))), (0, .ref y)] := by
                  rw [← nI_1]
                  exact lv_sub hl [0, 1, 2, 3] rfl
                rw [show 6 - j = (6 - (j + 1)) + 1 by omega] at p1
                exact ih (H := _) (locs := _) (ls := ls) (j := j + 1) h (by omega) (by rw [← p1]; simp [yl, eq_true c_125]) hl3 (by omega)
              · refine lv_iload_n hx hb d_M_service_60 rfl (lv_at hl 1 rfl) ?_
                refine lv_iload_n hx hb d_M_service_61 rfl (lv_at hl 0 rfl) ?_
                refine wd_ci h (wd_rS (rest := []) (st0 := [.int (nI j), .int t]) C h k_M_excludes wt_M_excludes lk_M_103 (c_M_excludes l D T A σ t (nI j)) rfl rfl ⟨Nat.le_of_ble_eq_true rfl, Nat.le_of_ble_eq_true rfl⟩ rfl hl.1 rfl (Nat.le_of_ble_eq_true rfl) d_M_service_62 ⟨Nat.le_of_ble_eq_true rfl, Nat.le_of_ble_eq_true rfl⟩) (fun r_126 σ_127 H locs hp_128 h => ?_)
                obtain ⟨e_129, es_130⟩ := hp_128
                rw [es_130] at h
                subst e_129
                refine lv_if_eq (tgt := 74) hx hb d_M_service_65 (by decide) (fun c_131 => ?_) (fun c_131 => ?_)
                · refine lv_iinc (v := ((nI j) + 1)) (lv' := [(3, .int ((nI j) + 1)), (2, .int t), (1, .int (nI (k + 1))), (0, .ref y)]) hx hb d_M_service_74 hl (k := 0) rfl (by first | rfl | decide) (by decide) rfl (fun ls hl => ?_)
                  refine lv_goto (tgt := 45) hx hb d_M_service_77 (by decide) ?_
                  have hl3 : lv_has ls 6 [(3, .int (nI (j + 1))), (2, .int t), (1, .int (nI (k + 1))), (0, .ref y)] := by
                    rw [← nI_1]
                    exact lv_sub hl [0, 1, 2, 3] rfl
                  rw [show 6 - j = (6 - (j + 1)) + 1 by omega] at p1
                  exact ih (H := _) (locs := _) (ls := ls) (j := j + 1) h (by omega) (by rw [← p1]; simp [yl, eq_false c_125, eq_true c_131]) hl3 (by omega)
                · refine lv_sipush (v := (-200)) hx hb d_M_service_68 (by decide) ?_
                  refine lv_iload_n hx hb d_M_service_71 rfl (lv_at hl 0 rfl) ?_
                  refine lv_isub hx hb d_M_service_72 ?_
                  exact wd_iret C hr hlocks h (by have hxl : xl (R k 4) t = nI j := by { rw [← yl_xl (hok k hk).2.2.2.1 c_12, ← p1, show 6 - j = (6 - (j + 1)) + 1 by omega]; simp [yl, eq_false c_125, eq_false c_131] }; have hne : ¬ nI j = -1 := fun u => nI_pos (n := j) (by omega) (by rw [u]; decide); rw [o_upd_some (S := (n, R, nc, CR, wg, Q)) (o_find_ok m8 hk), show f_srv t (R k) = ((-200 - nI j), (R k)) from by simp [f_srv, eq_false c_12, eq_true c_18, eq_true c_24, hxl, hne]]; exact ⟨rfl, by rw [va_up_id]; exact hM.rm⟩) (Nat.le_of_ble_eq_true rfl) (Nat.le_of_ble_eq_true rfl) d_M_service_73
        · refine lv_bipush (v := (-103)) hx hb d_M_service_40 (by decide) ?_
          exact wd_iret C hr hlocks h (by rw [o_upd_some (S := (n, R, nc, CR, wg, Q)) (o_find_ok m8 hk), show f_srv t (R k) = ((-103), (R k)) from by simp [f_srv, eq_false c_12, eq_true c_18, eq_false c_24]]; exact ⟨rfl, by rw [va_up_id]; exact hM.rm⟩) (Nat.le_of_ble_eq_true rfl) (Nat.le_of_ble_eq_true rfl) d_M_service_42
    · refine lv_bipush (v := (-102)) hx hb d_M_service_20 (by decide) ?_
      exact wd_iret C hr hlocks h (by rw [o_upd_some (S := (n, R, nc, CR, wg, Q)) (o_find_ok m8 hk), show f_srv t (R k) = ((-102), (R k)) from by simp [f_srv, eq_true c_12]]; exact ⟨rfl, by rw [va_up_id]; exact hM.rm⟩) (Nat.le_of_ble_eq_true rfl) (Nat.le_of_ble_eq_true rfl) d_M_service_22
  · refine lv_bipush (v := (-101)) hx hb d_M_service_8 (by decide) ?_
    exact wd_iret C hr hlocks h (by rw [o_upd_none (S := (n, R, nc, CR, wg, Q)) (o_find_no c_6)]; exact ⟨rfl, hM.rm⟩) (Nat.le_of_ble_eq_true rfl) (Nat.le_of_ble_eq_true rfl) d_M_service_10

theorem wh_4 {wh : Int32} (h : ¬ xw wh 0 4 = 0) (h0 : ¬ wh = 0) (h1 : ¬ wh = 1) (h2 : ¬ wh = 2) (h3 : ¬ wh = 3) : wh = 4 := by
  obtain ⟨m, hm, rfl⟩ := q_in (n := 4) h rfl (by decide)
  rcases (show m = 0 ∨ m = 1 ∨ m = 2 ∨ m = 3 ∨ m = 4 by omega) with rfl | rfl | rfl | rfl | rfl
  · exact absurd rfl h0
  · exact absurd rfl h1
  · exact absurd rfl h2
  · exact absurd rfl h3
  · rfl
set_option maxHeartbeats 4000000 in
set_option maxRecDepth 20000 in
theorem c_M_factOf (l : Launch) (D : va_G) (T : Nat → ClassId) (A : Nat → Prop) (σ : wd_S) (y : Nat) (am : Nat → Nat) (fm : Nat → Nat → Int32) (n : Nat) (R : Nat → Nat → Int32) (nc : Nat) (CR : Nat → Nat → Int32) (wg : Nat → Int32) (Q : pq) (hM : MB T σ y am fm n R nc CR wg Q) (k : Nat) (hk : k < n) (wh : Int32) (hw : ¬ xw wh 0 4 = 0) : Met l y_M_factOf (Cond.code y_M_factOf b_M_factOf 3 (some .int) :: wd_tb) { frames := 0, cells := 0, slots := 0, locals := 0 } (va_Pc [.ref y, .int (nI (k + 1)), .int wh] (wd_Pre D T A σ)) (va_Qi (fun r1 σ1 => r1 = xc (R k) wh ∧ σ1 = σ) (wd_B D A) A) 0 0 A := by
  refine wd_ofW (by decide) (Nat.le_of_ble_eq_true rfl) ?_
  intro p e s m below meth c0 ls C hr hlocks hname h hl
  have hl : lv_has ls 3 [(0, .ref y), (1, .int (nI (k + 1))), (2, .int wh)] := hl
  have hx := C.1
  have hb := C.2.1
  obtain ⟨⟨d0, dc, di⟩, m1, m2, m3, m4, m5, m6, m7, m8, m9, m10⟩ := id hM
  have c1 : σ (am 1) = some (.inl (T 0, 121, .inl (fm 1))) := dc 1 rfl
  have c2 : σ (am 2) = some (.inl (T 0, 121, .inl (fm 2))) := dc 2 rfl
  have c3 : σ (am 3) = some (.inl (T 0, 121, .inl (fm 3))) := dc 3 rfl
  have c9 : σ (am 9) = some (.inl (T 0, 121, .inl (fm 9))) := dc 9 rfl
  have c10 : σ (am 10) = some (.inl (T 0, 121, .inl (fm 10))) := dc 10 rfl
  refine lv_iload_n hx hb d_M_factOf_0 rfl (lv_at hl 2 rfl) ?_
  refine lv_if_ne (tgt := 13) hx hb d_M_factOf_1 (by decide) (fun c_1 => ?_) (fun c_1 => ?_)
  · refine lv_iload_n hx hb d_M_factOf_13 rfl (lv_at hl 2 rfl) ?_
    refine lv_iconst (v := 1) hx hb d_M_factOf_14 (by decide) ?_
    refine lv_icmp_ne (tgt := 27) hx hb d_M_factOf_15 (by decide) (fun c_2 => ?_) (fun c_2 => ?_)
    · refine lv_iload_n hx hb d_M_factOf_27 rfl (lv_at hl 2 rfl) ?_
      refine lv_iconst (v := 2) hx hb d_M_factOf_28 (by decide) ?_
      refine lv_icmp_ne (tgt := 41) hx hb d_M_factOf_29 (by decide) (fun c_3 => ?_) (fun c_3 => ?_)
      · refine lv_iload_n hx hb d_M_factOf_41 rfl (lv_at hl 2 rfl) ?_
        refine lv_iconst (v := 3) hx hb d_M_factOf_42 (by decide) ?_
        refine lv_icmp_ne (tgt := 55) hx hb d_M_factOf_43 (by decide) (fun c_4 => ?_) (fun c_4 => ?_)
        · refine lv_aload_n hx hb d_M_factOf_55 rfl (lv_at hl 0 rfl) ?_
          refine wd_get C h kc_M d0 10 (by decide) lk_M_38 rfl d_M_factOf_56 ?_
          refine lv_iload_n hx hb d_M_factOf_59 rfl (lv_at hl 1 rfl) ?_
          refine wd_iald C h 0 rfl c10 (vp_in_nI (show k + 1 < 121 by omega) (by decide)) d_M_factOf_60 ?_
          rw [nI_clamp (show k + 1 < 2 ^ 31 by omega)]
          rw [show fm 10 (k + 1) = R k 8 from m1 k hk 8 (by decide)]
          exact wd_iret C hr hlocks h (⟨by have e4 := wh_4 hw c_1 c_2 c_3 c_4; simp [xc, e4], rfl⟩) (Nat.le_of_ble_eq_true rfl) (Nat.le_of_ble_eq_true rfl) d_M_factOf_61
        · refine lv_aload_n hx hb d_M_factOf_46 rfl (lv_at hl 0 rfl) ?_
          refine wd_get C h kc_M d0 9 (by decide) lk_M_35 rfl d_M_factOf_47 ?_
          refine lv_iload_n hx hb d_M_factOf_50 rfl (lv_at hl 1 rfl) ?_
          refine wd_iald C h 0 rfl c9 (vp_in_nI (show k + 1 < 121 by omega) (by decide)) d_M_factOf_51 ?_
          rw [nI_clamp (show k + 1 < 2 ^ 31 by omega)]
          rw [show fm 9 (k + 1) = R k 7 from m1 k hk 7 (by decide)]
          refine lv_goto (tgt := 61) hx hb d_M_factOf_52 (by decide) ?_
          exact wd_iret C hr hlocks h (⟨by simp [xc, eq_false c_1, eq_false c_2, eq_false c_3, eq_true c_4]; try simp [c_4], rfl⟩) (Nat.le_of_ble_eq_true rfl) (Nat.le_of_ble_eq_true rfl) d_M_factOf_61
      · refine lv_aload_n hx hb d_M_factOf_32 rfl (lv_at hl 0 rfl) ?_
        refine wd_get C h kc_M d0 3 (by decide) lk_M_16 rfl d_M_factOf_33 ?_
        refine lv_iload_n hx hb d_M_factOf_36 rfl (lv_at hl 1 rfl) ?_
        refine wd_iald C h 0 rfl c3 (vp_in_nI (show k + 1 < 121 by omega) (by decide)) d_M_factOf_37 ?_
        rw [nI_clamp (show k + 1 < 2 ^ 31 by omega)]
        rw [show fm 3 (k + 1) = R k 2 from m1 k hk 2 (by decide)]
        refine lv_goto (tgt := 61) hx hb d_M_factOf_38 (by decide) ?_
        exact wd_iret C hr hlocks h (⟨by simp [xc, eq_false c_1, eq_false c_2, eq_true c_3]; try simp [c_3], rfl⟩) (Nat.le_of_ble_eq_true rfl) (Nat.le_of_ble_eq_true rfl) d_M_factOf_61
    · refine lv_aload_n hx hb d_M_factOf_18 rfl (lv_at hl 0 rfl) ?_
      refine wd_get C h kc_M d0 2 (by decide) lk_M_13 rfl d_M_factOf_19 ?_
      refine lv_iload_n hx hb d_M_factOf_22 rfl (lv_at hl 1 rfl) ?_
      refine wd_iald C h 0 rfl c2 (vp_in_nI (show k + 1 < 121 by omega) (by decide)) d_M_factOf_23 ?_
      rw [nI_clamp (show k + 1 < 2 ^ 31 by omega)]
      rw [show fm 2 (k + 1) = R k 1 from m1 k hk 1 (by decide)]
      refine lv_goto (tgt := 61) hx hb d_M_factOf_24 (by decide) ?_
      exact wd_iret C hr hlocks h (⟨by simp [xc, eq_false c_1, eq_true c_2]; try simp [c_2], rfl⟩) (Nat.le_of_ble_eq_true rfl) (Nat.le_of_ble_eq_true rfl) d_M_factOf_61
  · refine lv_aload_n hx hb d_M_factOf_4 rfl (lv_at hl 0 rfl) ?_
    refine wd_get C h kc_M d0 1 (by decide) lk_M_7 rfl d_M_factOf_5 ?_
    refine lv_iload_n hx hb d_M_factOf_8 rfl (lv_at hl 1 rfl) ?_
    refine wd_iald C h 0 rfl c1 (vp_in_nI (show k + 1 < 121 by omega) (by decide)) d_M_factOf_9 ?_
    rw [nI_clamp (show k + 1 < 2 ^ 31 by omega)]
    rw [show fm 1 (k + 1) = R k 0 from m1 k hk 0 (by decide)]
    refine lv_goto (tgt := 61) hx hb d_M_factOf_10 (by decide) ?_
    exact wd_iret C hr hlocks h (⟨by simp [xc, eq_true c_1]; try simp [c_1], rfl⟩) (Nat.le_of_ble_eq_true rfl) (Nat.le_of_ble_eq_true rfl) d_M_factOf_61
