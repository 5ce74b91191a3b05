set_option maxHeartbeats 4000000 in
set_option maxRecDepth 20000 in
theorem c_F_turned_0 (l : Launch) (D : va_G) (T : Nat → ClassId) (A : Nat → Prop) (σ : wd_S) (w z : Int32) : Met l y_F_turned (Cond.code y_F_turned b_F_turned 4 (some .int) :: wd_tb) { frames := 0, cells := 0, slots := 0, locals := 0 } (va_Pc [.int 0, .int w, .int z] (wd_Pre D T A σ)) (va_Qi (fun r1 σ1 => r1 = xt 0 w z ∧ σ1 = σ) (wd_B D A) A) 0 0 A := by
  refine wd_ofW (by decide) (Nat.le_of_ble_eq_true rfl) ?_
  intro p e s m below meth c0 ls C hr hlocks hname h hl
  have hl : lv_has ls 4 [(0, .int 0), (1, .int w), (2, .int z)] := hl
  have hx := C.1
  have hb := C.2.1
  refine lv_iload_n hx hb d_F_turned_0 rfl (lv_at hl 0 rfl) ?_
  refine lv_istore_n (lv' := [(3, .int 0), (0, .int 0), (1, .int w), (2, .int z)]) hx hb d_F_turned_1 rfl hl (by decide) rfl (fun ls hl => ?_)
  refine lv_iload_n hx hb d_F_turned_2 rfl (lv_at hl 0 rfl) ?_
  refine lv_iconst (v := 3) hx hb d_F_turned_3 (by decide) ?_
  refine lv_icmp_ge (tgt := 33) hx hb d_F_turned_4 (by decide) (fun c_1 => ?_) (fun c_1 => ?_)
  · exact absurd c_1 (by decide)
  refine lv_iload_n hx hb d_F_turned_7 rfl (lv_at hl 2 rfl) ?_
  refine wd_gets C h ks_bw lk_F_51 d_F_turned_8 (fun t_2 ht_3 => ?_)
  refine lv_iload_n hx hb d_F_turned_11 rfl (lv_at hl 0 rfl) ?_
  refine wd_ti C h ht_3 (by unfold vp_in; decide) d_F_turned_12 ?_
  refine W.eq (g2 := F0 m 13 ls (.int 50 :: .int w :: [])) rfl ?_
  refine lv_icmp_gt (tgt := 27) hx hb d_F_turned_13 (by decide) (fun c_4 => ?_) (fun c_4 => ?_)
  · refine lv_iinc (v := 1) (lv' := [(3, .int 1), (0, .int 0), (1, .int w), (2, .int z)]) hx hb d_F_turned_27 hl (k := 0) rfl (by first | rfl | decide) (by decide) rfl (fun ls hl => ?_)
    refine lv_goto (tgt := 2) hx hb d_F_turned_30 (by decide) ?_
    refine lv_iload_n hx hb d_F_turned_2 rfl (lv_at hl 0 rfl) ?_
    refine lv_iconst (v := 3) hx hb d_F_turned_3 (by decide) ?_
    refine lv_icmp_ge (tgt := 33) hx hb d_F_turned_4 (by decide) (fun c_5 => ?_) (fun c_5 => ?_)
    · exact absurd c_5 (by decide)
    refine lv_iload_n hx hb d_F_turned_7 rfl (lv_at hl 2 rfl) ?_
    refine wd_gets C h ks_bw lk_F_51 d_F_turned_8 (fun t_6 ht_7 => ?_)
    refine lv_iload_n hx hb d_F_turned_11 rfl (lv_at hl 0 rfl) ?_
    refine wd_ti C h ht_7 (by unfold vp_in; decide) d_F_turned_12 ?_
    refine W.eq (g2 := F0 m 13 ls (.int 500 :: .int w :: [])) rfl ?_
    refine lv_icmp_gt (tgt := 27) hx hb d_F_turned_13 (by decide) (fun c_8 => ?_) (fun c_8 => ?_)
    · refine lv_iinc (v := 2) (lv' := [(3, .int 2), (0, .int 0), (1, .int w), (2, .int z)]) hx hb d_F_turned_27 hl (k := 0) rfl (by first | rfl | decide) (by decide) rfl (fun ls hl => ?_)
      refine lv_goto (tgt := 2) hx hb d_F_turned_30 (by decide) ?_
      refine lv_iload_n hx hb d_F_turned_2 rfl (lv_at hl 0 rfl) ?_
      refine lv_iconst (v := 3) hx hb d_F_turned_3 (by decide) ?_
      refine lv_icmp_ge (tgt := 33) hx hb d_F_turned_4 (by decide) (fun c_9 => ?_) (fun c_9 => ?_)
      · exact absurd c_9 (by decide)
      refine lv_iload_n hx hb d_F_turned_7 rfl (lv_at hl 2 rfl) ?_
      refine wd_gets C h ks_bw lk_F_51 d_F_turned_8 (fun t_10 ht_11 => ?_)
      refine lv_iload_n hx hb d_F_turned_11 rfl (lv_at hl 0 rfl) ?_
      refine wd_ti C h ht_11 (by unfold vp_in; decide) d_F_turned_12 ?_
      refine W.eq (g2 := F0 m 13 ls (.int 2000 :: .int w :: [])) rfl ?_
      refine lv_icmp_gt (tgt := 27) hx hb d_F_turned_13 (by decide) (fun c_12 => ?_) (fun c_12 => ?_)
      · refine lv_iinc (v := 3) (lv' := [(3, .int 3), (0, .int 0), (1, .int w), (2, .int z)]) hx hb d_F_turned_27 hl (k := 0) rfl (by first | rfl | decide) (by decide) rfl (fun ls hl => ?_)
        refine lv_goto (tgt := 2) hx hb d_F_turned_30 (by decide) ?_
        refine lv_iload_n hx hb d_F_turned_2 rfl (lv_at hl 0 rfl) ?_
        refine lv_iconst (v := 3) hx hb d_F_turned_3 (by decide) ?_
        refine lv_icmp_ge (tgt := 33) hx hb d_F_turned_4 (by decide) (fun c_13 => ?_) (fun c_13 => ?_)
        rotate_left
        · exact absurd c_13 (by decide)
        refine lv_iconst (v := 3) hx hb d_F_turned_33 (by decide) ?_
        exact wd_iret C hr hlocks h (⟨by simp [xt, c_4, c_8, c_12], rfl⟩) (Nat.le_of_ble_eq_true rfl) (Nat.le_of_ble_eq_true rfl) d_F_turned_34
      · refine lv_iload_n hx hb d_F_turned_16 rfl (lv_at hl 3 rfl) ?_
        refine wd_gets C h ks_bs lk_F_54 d_F_turned_17 (fun t_14 ht_15 => ?_)
        refine lv_iload_n hx hb d_F_turned_20 rfl (lv_at hl 0 rfl) ?_
        refine wd_ti C h ht_15 (by unfold vp_in; decide) d_F_turned_21 ?_
        refine W.eq (g2 := F0 m 22 ls (.int 2 :: .int z :: [])) rfl ?_
        refine lv_icmp_gt (tgt := 27) hx hb d_F_turned_22 (by decide) (fun c_16 => ?_) (fun c_16 => ?_)
        · refine lv_iinc (v := 3) (lv' := [(3, .int 3), (0, .int 0), (1, .int w), (2, .int z)]) hx hb d_F_turned_27 hl (k := 0) rfl (by first | rfl | decide) (by decide) rfl (fun ls hl => ?_)
          refine lv_goto (tgt := 2) hx hb d_F_turned_30 (by decide) ?_
          refine lv_iload_n hx hb d_F_turned_2 rfl (lv_at hl 0 rfl) ?_
          refine lv_iconst (v := 3) hx hb d_F_turned_3 (by decide) ?_
          refine lv_icmp_ge (tgt := 33) hx hb d_F_turned_4 (by decide) (fun c_17 => ?_) (fun c_17 => ?_)
          rotate_left
          · exact absurd c_17 (by decide)
          refine lv_iconst (v := 3) hx hb d_F_turned_33 (by decide) ?_
          exact wd_iret C hr hlocks h (⟨by simp [xt, c_4, c_8, c_12, c_16], rfl⟩) (Nat.le_of_ble_eq_true rfl) (Nat.le_of_ble_eq_true rfl) d_F_turned_34
        · refine lv_iload_n hx hb d_F_turned_25 rfl (lv_at hl 0 rfl) ?_
          exact wd_iret C hr hlocks h (⟨by simp [xt, c_4, c_8, c_12, c_16], rfl⟩) (Nat.le_of_ble_eq_true rfl) (Nat.le_of_ble_eq_true rfl) d_F_turned_26
    · refine lv_iload_n hx hb d_F_turned_16 rfl (lv_at hl 3 rfl) ?_
      refine wd_gets C h ks_bs lk_F_54 d_F_turned_17 (fun t_18 ht_19 => ?_)
      refine lv_iload_n hx hb d_F_turned_20 rfl (lv_at hl 0 rfl) ?_
      refine wd_ti C h ht_19 (by unfold vp_in; decide) d_F_turned_21 ?_
      refine W.eq (g2 := F0 m 22 ls (.int 1 :: .int z :: [])) rfl ?_
      refine lv_icmp_gt (tgt := 27) hx hb d_F_turned_22 (by decide) (fun c_20 => ?_) (fun c_20 => ?_)
      · refine lv_iinc (v := 2) (lv' := [(3, .int 2), (0, .int 0), (1, .int w), (2, .int z)]) hx hb d_F_turned_27 hl (k := 0) rfl (by first | rfl | decide) (by decide) rfl (fun ls hl => ?_)
        refine lv_goto (tgt := 2) hx hb d_F_turned_30 (by decide) ?_
        refine lv_iload_n hx hb d_F_turned_2 rfl (lv_at hl 0 rfl) ?_
        refine lv_iconst (v := 3) hx hb d_F_turned_3 (by decide) ?_
        refine lv_icmp_ge (tgt := 33) hx hb d_F_turned_4 (by decide) (fun c_21 => ?_) (fun c_21 => ?_)
        · exact absurd c_21 (by decide)
        refine lv_iload_n hx hb d_F_turned_7 rfl (lv_at hl 2 rfl) ?_
        refine wd_gets C h ks_bw lk_F_51 d_F_turned_8 (fun t_22 ht_23 => ?_)
        refine lv_iload_n hx hb d_F_turned_11 rfl (lv_at hl 0 rfl) ?_
        refine wd_ti C h ht_23 (by unfold vp_in; decide) d_F_turned_12 ?_
        refine W.eq (g2 := F0 m 13 ls (.int 2000 :: .int w :: [])) rfl ?_
        refine lv_icmp_gt (tgt := 27) hx hb d_F_turned_13 (by decide) (fun c_24 => ?_) (fun c_24 => ?_)
        · refine lv_iinc (v := 3) (lv' := [(3, .int 3), (0, .int 0), (1, .int w), (2, .int z)]) hx hb d_F_turned_27 hl (k := 0) rfl (by first | rfl | decide) (by decide) rfl (fun ls hl => ?_)
          refine lv_goto (tgt := 2) hx hb d_F_turned_30 (by decide) ?_
          refine lv_iload_n hx hb d_F_turned_2 rfl (lv_at hl 0 rfl) ?_
          refine lv_iconst (v := 3) hx hb d_F_turned_3 (by decide) ?_
          refine lv_icmp_ge (tgt := 33) hx hb d_F_turned_4 (by decide) (fun c_25 => ?_) (fun c_25 => ?_)
          rotate_left
          · exact absurd c_25 (by decide)
          refine lv_iconst (v := 3) hx hb d_F_turned_33 (by decide) ?_
          exact wd_iret C hr hlocks h (⟨by simp [xt, c_4, c_8, c_20, c_24], rfl⟩) (Nat.le_of_ble_eq_true rfl) (Nat.le_of_ble_eq_true rfl) d_F_turned_34
        · refine lv_iload_n hx hb d_F_turned_16 rfl (lv_at hl 3 rfl) ?_
          refine wd_gets C h ks_bs lk_F_54 d_F_turned_17 (fun t_26 ht_27 => ?_)
          refine lv_iload_n hx hb d_F_turned_20 rfl (lv_at hl 0 rfl) ?_
          refine wd_ti C h ht_27 (by unfold vp_in; decide) d_F_turned_21 ?_
          refine W.eq (g2 := F0 m 22 ls (.int 2 :: .int z :: [])) rfl ?_
          refine lv_icmp_gt (tgt := 27) hx hb d_F_turned_22 (by decide) (fun c_28 => ?_) (fun c_28 => ?_)
          · refine lv_iinc (v := 3) (lv' := [(3, .int 3), (0, .int 0), (1, .int w), (2, .int z)]) hx hb d_F_turned_27 hl (k := 0) rfl (by first | rfl | decide) (by decide) rfl (fun ls hl => ?_)
            refine lv_goto (tgt := 2) hx hb d_F_turned_30 (by decide) ?_
            refine lv_iload_n hx hb d_F_turned_2 rfl (lv_at hl 0 rfl) ?_
            refine lv_iconst (v := 3) hx hb d_F_turned_3 (by decide) ?_
            refine lv_icmp_ge (tgt := 33) hx hb d_F_turned_4 (by decide) (fun c_29 => ?_) (fun c_29 => ?_)
            rotate_left
            · exact absurd c_29 (by decide)
            refine lv_iconst (v := 3) hx hb d_F_turned_33 (by decide) ?_
            exact wd_iret C hr hlocks h (⟨by simp [xt, c_4, c_8, c_20, c_24, c_28], rfl⟩) (Nat.le_of_ble_eq_true rfl) (Nat.le_of_ble_eq_true rfl) d_F_turned_34
          · refine lv_iload_n hx hb d_F_turned_25 rfl (lv_at hl 0 rfl) ?_
            exact wd_iret C hr hlocks h (⟨by simp [xt, c_4, c_8, c_20, c_24, c_28], rfl⟩) (Nat.le_of_ble_eq_true rfl) (Nat.le_of_ble_eq_true rfl) d_F_turned_26
      · refine lv_iload_n hx hb d_F_turned_25 rfl (lv_at hl 0 rfl) ?_
        exact wd_iret C hr hlocks h (⟨by simp [xt, c_4, c_8, c_20], rfl⟩) (Nat.le_of_ble_eq_true rfl) (Nat.le_of_ble_eq_true rfl) d_F_turned_26
  · refine lv_iload_n hx hb d_F_turned_16 rfl (lv_at hl 3 rfl) ?_
    refine wd_gets C h ks_bs lk_F_54 d_F_turned_17 (fun t_30 ht_31 => ?_)
    refine lv_iload_n hx hb d_F_turned_20 rfl (lv_at hl 0 rfl) ?_
    refine wd_ti C h ht_31 (by unfold vp_in; decide) d_F_turned_21 ?_
    refine W.eq (g2 := F0 m 22 ls (.int 0 :: .int z :: [])) rfl ?_
    refine lv_icmp_gt (tgt := 27) hx hb d_F_turned_22 (by decide) (fun c_32 => ?_) (fun c_32 => ?_)
    · refine lv_iinc (v := 1) (lv' := [(3, .int 1), (0, .int 0), (1, .int w), (2, .int z)]) hx hb d_F_turned_27 hl (k := 0) rfl (by first | rfl | decide) (by decide) rfl (fun ls hl => ?_)
      refine lv_goto (tgt := 2) hx hb d_F_turned_30 (by decide) ?_
      refine lv_iload_n hx hb d_F_turned_2 rfl (lv_at hl 0 rfl) ?_
      refine lv_iconst (v := 3) hx hb d_F_turned_3 (by decide) ?_
      refine lv_icmp_ge (tgt := 33) hx hb d_F_turned_4 (by decide) (fun c_33 => ?_) (fun c_33 => ?_)
      · exact absurd c_33 (by decide)
      refine lv_iload_n hx hb d_F_turned_7 rfl (lv_at hl 2 rfl) ?_
      refine wd_gets C h ks_bw lk_F_51 d_F_turned_8 (fun t_34 ht_35 => ?_)
      refine lv_iload_n hx hb d_F_turned_11 rfl (lv_at hl 0 rfl) ?_
      refine wd_ti C h ht_35 (by unfold vp_in; decide) d_F_turned_12 ?_
      refine W.eq (g2 := F0 m 13 ls (.int 500 :: .int w :: [])) rfl ?_
      refine lv_icmp_gt (tgt := 27) hx hb d_F_turned_13 (by decide) (fun c_36 => ?_) (fun c_36 => ?_)
      · refine lv_iinc (v := 2) (lv' := [(3, .int 2), (0, .int 0), (1, .int w), (2, .int z)]) hx hb d_F_turned_27 hl (k := 0) rfl (by first | rfl | decide) (by decide) rfl (fun ls hl => ?_)
        refine lv_goto (tgt := 2) hx hb d_F_turned_30 (by decide) ?_
        refine lv_iload_n hx hb d_F_turned_2 rfl (lv_at hl 0 rfl) ?_
        refine lv_iconst (v := 3) hx hb d_F_turned_3 (by decide) ?_
        refine lv_icmp_ge (tgt := 33) hx hb d_F_turned_4 (by decide) (fun c_37 => ?_) (fun c_37 => ?_)
        · exact absurd c_37 (by decide)
        refine lv_iload_n hx hb d_F_turned_7 rfl (lv_at hl 2 rfl) ?_
        refine wd_gets C h ks_bw lk_F_51 d_F_turned_8 (fun t_38 ht_39 => ?_)
        refine lv_iload_n hx hb d_F_turned_11 rfl (lv_at hl 0 rfl) ?_
        refine wd_ti C h ht_39 (by unfold vp_in; decide) d_F_turned_12 ?_
        refine W.eq (g2 := F0 m 13 ls (.int 2000 :: .int w :: [])) rfl ?_
        refine lv_icmp_gt (tgt := 27) hx hb d_F_turned_13 (by decide) (fun c_40 => ?_) (fun c_40 => ?_)
        · refine lv_iinc (v := 3) (lv' := [(3, .int 3), (0, .int 0), (1, .int w), (2, .int z)]) hx hb d_F_turned_27 hl (k := 0) rfl (by first | rfl | decide) (by decide) rfl (fun ls hl => ?_)
          refine lv_goto (tgt := 2) hx hb d_F_turned_30 (by decide) ?_
          refine lv_iload_n hx hb d_F_turned_2 rfl (lv_at hl 0 rfl) ?_
          refine lv_iconst (v := 3) hx hb d_F_turned_3 (by decide) ?_
          refine lv_icmp_ge (tgt := 33) hx hb d_F_turned_4 (by decide) (fun c_41 => ?_) (fun c_41 => ?_)
          rotate_left
          · exact absurd c_41 (by decide)
          refine lv_iconst (v := 3) hx hb d_F_turned_33 (by decide) ?_
          exact wd_iret C hr hlocks h (⟨by simp [xt, c_4, c_32, c_36, c_40], rfl⟩) (Nat.le_of_ble_eq_true rfl) (Nat.le_of_ble_eq_true rfl) d_F_turned_34
        · refine lv_iload_n hx hb d_F_turned_16 rfl (lv_at hl 3 rfl) ?_
          refine wd_gets C h ks_bs lk_F_54 d_F_turned_17 (fun t_42 ht_43 => ?_)
          refine lv_iload_n hx hb d_F_turned_20 rfl (lv_at hl 0 rfl) ?_
          refine wd_ti C h ht_43 (by unfold vp_in; decide) d_F_turned_21 ?_
          refine W.eq (g2 := F0 m 22 ls (.int 2 :: .int z :: [])) rfl ?_
          refine lv_icmp_gt (tgt := 27) hx hb d_F_turned_22 (by decide) (fun c_44 => ?_) (fun c_44 => ?_)
          · refine lv_iinc (v := 3) (lv' := [(3, .int 3), (0, .int 0), (1, .int w), (2, .int z)]) hx hb d_F_turned_27 hl (k := 0) rfl (by first | rfl | decide) (by decide) rfl (fun ls hl => ?_)
            refine lv_goto (tgt := 2) hx hb d_F_turned_30 (by decide) ?_
            refine lv_iload_n hx hb d_F_turned_2 rfl (lv_at hl 0 rfl) ?_
            refine lv_iconst (v := 3) hx hb d_F_turned_3 (by decide) ?_
            refine lv_icmp_ge (tgt := 33) hx hb d_F_turned_4 (by decide) (fun c_45 => ?_) (fun c_45 => ?_)
            rotate_left
            · exact absurd c_45 (by decide)
            refine lv_iconst (v := 3) hx hb d_F_turned_33 (by decide) ?_
            exact wd_iret C hr hlocks h (⟨by simp [xt, c_4, c_32, c_36, c_40, c_44], rfl⟩) (Nat.le_of_ble_eq_true rfl) (Nat.le_of_ble_eq_true rfl) d_F_turned_34
          · refine lv_iload_n hx hb d_F_turned_25 rfl (lv_at hl 0 rfl) ?_
            exact wd_iret C hr hlocks h (⟨by simp [xt, c_4, c_32, c_36, c_40, c_44], rfl⟩) (Nat.le_of_ble_eq_true rfl) (Nat.le_of_ble_eq_true rfl) d_F_turned_26
      · refine lv_iload_n hx hb d_F_turned_16 rfl (lv_at hl 3 rfl) ?_
        refine wd_gets C h ks_bs lk_F_54 d_F_turned_17 (fun t_46 ht_47 => ?_)
        refine lv_iload_n hx hb d_F_turned_20 rfl (lv_at hl 0 rfl) ?_
        refine wd_ti C h ht_47 (by unfold vp_in; decide) d_F_turned_21 ?_
        refine W.eq (g2 := F0 m 22 ls (.int 1 :: .int z :: [])) rfl ?_
        refine lv_icmp_gt (tgt := 27) hx hb d_F_turned_22 (by decide) (fun c_48 => ?_) (fun c_48 => ?_)
        · refine lv_iinc (v := 2) (lv' := [(3, .int 2), (0, .int 0), (1, .int w), (2, .int z)]) hx hb d_F_turned_27 hl (k := 0) rfl (by first | rfl | decide) (by decide) rfl (fun ls hl => ?_)
          refine lv_goto (tgt := 2) hx hb d_F_turned_30 (by decide) ?_
          refine lv_iload_n hx hb d_F_turned_2 rfl (lv_at hl 0 rfl) ?_
          refine lv_iconst (v := 3) hx hb d_F_turned_3 (by decide) ?_
          refine lv_icmp_ge (tgt := 33) hx hb d_F_turned_4 (by decide) (fun c_49 => ?_) (fun c_49 => ?_)
          · exact absurd c_49 (by decide)
          refine lv_iload_n hx hb d_F_turned_7 rfl (lv_at hl 2 rfl) ?_
          refine wd_gets C h ks_bw lk_F_51 d_F_turned_8 (fun t_50 ht_51 => ?_)
          refine lv_iload_n hx hb d_F_turned_11 rfl (lv_at hl 0 rfl) ?_
          refine wd_ti C h ht_51 (by unfold vp_in; decide) d_F_turned_12 ?_
          refine W.eq (g2 := F0 m 13 ls (.int 2000 :: .int w :: [])) rfl ?_
          refine lv_icmp_gt (tgt := 27) hx hb d_F_turned_13 (by decide) (fun c_52 => ?_) (fun c_52 => ?_)
          · refine lv_iinc (v := 3) (lv' := [(3, .int 3), (0, .int 0), (1, .int w), (2, .int z)]) hx hb d_F_turned_27 hl (k := 0) rfl (by first | rfl | decide) (by decide) rfl (fun ls hl => ?_)
            refine lv_goto (tgt := 2) hx hb d_F_turned_30 (by decide) ?_
            refine lv_iload_n hx hb d_F_turned_2 rfl (lv_at hl 0 rfl) ?_
            refine lv_iconst (v := 3) hx hb d_F_turned_3 (by decide) ?_
            refine lv_icmp_ge (tgt := 33) hx hb d_F_turned_4 (by decide) (fun c_53 => ?_) (fun c_53 => ?_)
            rotate_left
            · exact absurd c_53 (by decide)
            refine lv_iconst (v := 3) hx hb d_F_turned_33 (by decide) ?_
            exact wd_iret C hr hlocks h (⟨by simp [xt, c_4, c_32, c_36, c_48, c_52], rfl⟩) (Nat.le_of_ble_eq_true rfl) (Nat.le_of_ble_eq_true rfl) d_F_turned_34
          · refine lv_iload_n hx hb d_F_turned_16 rfl (lv_at hl 3 rfl) ?_
            refine wd_gets C h ks_bs lk_F_54 d_F_turned_17 (fun t_54 ht_55 => ?_)
            refine lv_iload_n hx hb d_F_turned_20 rfl (lv_at hl 0 rfl) ?_
            refine wd_ti C h ht_55 (by unfold vp_in; decide) d_F_turned_21 ?_
            refine W.eq (g2 := F0 m 22 ls (.int 2 :: .int z :: [])) rfl ?_
            refine lv_icmp_gt (tgt := 27) hx hb d_F_turned_22 (by decide) (fun c_56 => ?_) (fun c_56 => ?_)
            · refine lv_iinc (v := 3) (lv' := [(3, .int 3), (0, .int 0), (1, .int w), (2, .int z)]) hx hb d_F_turned_27 hl (k := 0) rfl (by first | rfl | decide) (by decide) rfl (fun ls hl => ?_)
              refine lv_goto (tgt := 2) hx hb d_F_turned_30 (by decide) ?_
              refine lv_iload_n hx hb d_F_turned_2 rfl (lv_at hl 0 rfl) ?_
              refine lv_iconst (v := 3) hx hb d_F_turned_3 (by decide) ?_
              refine lv_icmp_ge (tgt := 33) hx hb d_F_turned_4 (by decide) (fun c_57 => ?_) (fun c_57 => ?_)
              rotate_left
              · exact absurd c_57 (by decide)
              refine lv_iconst (v := 3) hx hb d_F_turned_33 (by decide) ?_
              exact wd_iret C hr hlocks h (⟨by simp [xt, c_4, c_32, c_36, c_48, c_52, c_56], rfl⟩) (Nat.le_of_ble_eq_true rfl) (Nat.le_of_ble_eq_true rfl) d_F_turned_34
            · refine lv_iload_n hx hb d_F_turned_25 rfl (lv_at hl 0 rfl) ?_
              exact wd_iret C hr hlocks h (⟨by simp [xt, c_4, c_32, c_36, c_48, c_52, c_56], rfl⟩) (Nat.le_of_ble_eq_true rfl) (Nat.le_of_ble_eq_true rfl) d_F_turned_26
        · refine lv_iload_n hx hb d_F_turned_25 rfl (lv_at hl 0 rfl) ?_
          exact wd_iret C hr hlocks h (⟨by simp [xt, c_4, c_32, c_36, c_48], rfl⟩) (Nat.le_of_ble_eq_true rfl) (Nat.le_of_ble_eq_true rfl) d_F_turned_26
    · refine lv_iload_n hx hb d_F_turned_25 rfl (lv_at hl 0 rfl) ?_
      exact wd_iret C hr hlocks h (⟨by simp [xt, c_4, c_32], rfl⟩) (Nat.le_of_ble_eq_true rfl) (Nat.le_of_ble_eq_true rfl) d_F_turned_26

set_option maxHeartbeats 4000000 in
set_option maxRecDepth 20000 in
theorem c_F_turned_1 (l : Launch) (D : va_G) (T : Nat → ClassId) (A : Nat → Prop) (σ : wd_S) (w z : Int32) : Met l y_F_turned (Cond.code y_F_turned b_F_turned 4 (some .int) :: wd_tb) { frames := 0, cells := 0, slots := 0, locals := 0 } (va_Pc [.int 1, .int w, .int z] (wd_Pre D T A σ)) (va_Qi (fun r1 σ1 => r1 = xt 1 w z ∧ σ1 = σ) (wd_B D A) A) 0 0 A := by
  refine wd_ofW (by decide) (Nat.le_of_ble_eq_true rfl) ?_
  intro p e s m below meth c0 ls C hr hlocks hname h hl
  have hl : lv_has ls 4 [(0, .int 1), (1, .int w), (2, .int z)] := hl
  have hx := C.1
  have hb := C.2.1
  refine lv_iload_n hx hb d_F_turned_0 rfl (lv_at hl 0 rfl) ?_
  refine lv_istore_n (lv' := [(3, .int 1), (0, .int 1), (1, .int w), (2, .int z)]) hx hb d_F_turned_1 rfl hl (by decide) rfl (fun ls hl => ?_)
  refine lv_iload_n hx hb d_F_turned_2 rfl (lv_at hl 0 rfl) ?_
  refine lv_iconst (v := 3) hx hb d_F_turned_3 (by decide) ?_
  refine lv_icmp_ge (tgt := 33) hx hb d_F_turned_4 (by decide) (fun c_1 => ?_) (fun c_1 => ?_)
  · exact absurd c_1 (by decide)
  refine lv_iload_n hx hb d_F_turned_7 rfl (lv_at hl 2 rfl) ?_
  refine wd_gets C h ks_bw lk_F_51 d_F_turned_8 (fun t_2 ht_3 => ?_)
  refine lv_iload_n hx hb d_F_turned_11 rfl (lv_at hl 0 rfl) ?_
  refine wd_ti C h ht_3 (by unfold vp_in; decide) d_F_turned_12 ?_
  refine W.eq (g2 := F0 m 13 ls (.int 500 :: .int w :: [])) rfl ?_
  refine lv_icmp_gt (tgt := 27) hx hb d_F_turned_13 (by decide) (fun c_4 => ?_) (fun c_4 => ?_)
  · refine lv_iinc (v := 2) (lv' := [(3, .int 2), (0, .int 1), (1, .int w), (2, .int z)]) hx hb d_F_turned_27 hl (k := 0) rfl (by first | rfl | decide) (by decide) rfl (fun ls hl => ?_)
    refine lv_goto (tgt := 2) hx hb d_F_turned_30 (by decide) ?_
    refine lv_iload_n hx hb d_F_turned_2 rfl (lv_at hl 0 rfl) ?_
    refine lv_iconst (v := 3) hx hb d_F_turned_3 (by decide) ?_
    refine lv_icmp_ge (tgt := 33) hx hb d_F_turned_4 (by decide) (fun c_5 => ?_) (fun c_5 => ?_)
    · exact absurd c_5 (by decide)
    refine lv_iload_n hx hb d_F_turned_7 rfl (lv_at hl 2 rfl) ?_
    refine wd_gets C h ks_bw lk_F_51 d_F_turned_8 (fun t_6 ht_7 => ?_)
    refine lv_iload_n hx hb d_F_turned_11 rfl (lv_at hl 0 rfl) ?_
    refine wd_ti C h ht_7 (by unfold vp_in; decide) d_F_turned_12 ?_
    refine W.eq (g2 := F0 m 13 ls (.int 2000 :: .int w :: [])) rfl ?_
    refine lv_icmp_gt (tgt := 27) hx hb d_F_turned_13 (by decide) (fun c_8 => ?_) (fun c_8 => ?_)
    · refine lv_iinc (v := 3) (lv' := [(3, .int 3), (0, .int 1), (1, .int w), (2, .int z)]) hx hb d_F_turned_27 hl (k := 0) rfl (by first | rfl | decide) (by decide) rfl (fun ls hl => ?_)
      refine lv_goto (tgt := 2) hx hb d_F_turned_30 (by decide) ?_
      refine lv_iload_n hx hb d_F_turned_2 rfl (lv_at hl 0 rfl) ?_
      refine lv_iconst (v := 3) hx hb d_F_turned_3 (by decide) ?_
      refine lv_icmp_ge (tgt := 33) hx hb d_F_turned_4 (by decide) (fun c_9 => ?_) (fun c_9 => ?_)
      rotate_left
      · exact absurd c_9 (by decide)
      refine lv_iconst (v := 3) hx hb d_F_turned_33 (by decide) ?_
      exact wd_iret C hr hlocks h (⟨by simp [xt, c_4, c_8], rfl⟩) (Nat.le_of_ble_eq_true rfl) (Nat.le_of_ble_eq_true rfl) d_F_turned_34
    · refine lv_iload_n hx hb d_F_turned_16 rfl (lv_at hl 3 rfl) ?_
      refine wd_gets C h ks_bs lk_F_54 d_F_turned_17 (fun t_10 ht_11 => ?_)
      refine lv_iload_n hx hb d_F_turned_20 rfl (lv_at hl 0 rfl) ?_
      refine wd_ti C h ht_11 (by unfold vp_in; decide) d_F_turned_21 ?_
      refine W.eq (g2 := F0 m 22 ls (.int 2 :: .int z :: [])) rfl ?_
      refine lv_icmp_gt (tgt := 27) hx hb d_F_turned_22 (by decide) (fun c_12 => ?_) (fun c_12 => ?_)
      · refine lv_iinc (v := 3) (lv' := [(3, .int 3), (0, .int 1), (1, .int w), (2, .int z)]) hx hb d_F_turned_27 hl (k := 0) rfl (by first | rfl | decide) (by decide) rfl (fun ls hl => ?_)
        refine lv_goto (tgt := 2) hx hb d_F_turned_30 (by decide) ?_
        refine lv_iload_n hx hb d_F_turned_2 rfl (lv_at hl 0 rfl) ?_
        refine lv_iconst (v := 3) hx hb d_F_turned_3 (by decide) ?_
        refine lv_icmp_ge (tgt := 33) hx hb d_F_turned_4 (by decide) (fun c_13 => ?_) (fun c_13 => ?_)
        rotate_left
        · exact absurd c_13 (by decide)
        refine lv_iconst (v := 3) hx hb d_F_turned_33 (by decide) ?_
        exact wd_iret C hr hlocks h (⟨by simp [xt, c_4, c_8, c_12], rfl⟩) (Nat.le_of_ble_eq_true rfl) (Nat.le_of_ble_eq_true rfl) d_F_turned_34
      · refine lv_iload_n hx hb d_F_turned_25 rfl (lv_at hl 0 rfl) ?_
        exact wd_iret C hr hlocks h (⟨by simp [xt, c_4, c_8, c_12], rfl⟩) (Nat.le_of_ble_eq_true rfl) (Nat.le_of_ble_eq_true rfl) d_F_turned_26
  · refine lv_iload_n hx hb d_F_turned_16 rfl (lv_at hl 3 rfl) ?_
    refine wd_gets C h ks_bs lk_F_54 d_F_turned_17 (fun t_14 ht_15 => ?_)
    refine lv_iload_n hx hb d_F_turned_20 rfl (lv_at hl 0 rfl) ?_
    refine wd_ti C h ht_15 (by unfold vp_in; decide) d_F_turned_21 ?_
    refine W.eq (g2 := F0 m 22 ls (.int 1 :: .int z :: [])) rfl ?_
    refine lv_icmp_gt (tgt := 27) hx hb d_F_turned_22 (by decide) (fun c_16 => ?_) (fun c_16 => ?_)
    · refine lv_iinc (v := 2) (lv' := [(3, .int 2), (0, .int 1), (1, .int w), (2, .int z)]) hx hb d_F_turned_27 hl (k := 0) rfl (by first | rfl | decide) (by decide) rfl (fun ls hl => ?_)
      refine lv_goto (tgt := 2) hx hb d_F_turned_30 (by decide) ?_
      refine lv_iload_n hx hb d_F_turned_2 rfl (lv_at hl 0 rfl) ?_
      refine lv_iconst (v := 3) hx hb d_F_turned_3 (by decide) ?_
      refine lv_icmp_ge (tgt := 33) hx hb d_F_turned_4 (by decide) (fun c_17 => ?_) (fun c_17 => ?_)
      · exact absurd c_17 (by decide)
      refine lv_iload_n hx hb d_F_turned_7 rfl (lv_at hl 2 rfl) ?_
      refine wd_gets C h ks_bw lk_F_51 d_F_turned_8 (fun t_18 ht_19 => ?_)
      refine lv_iload_n hx hb d_F_turned_11 rfl (lv_at hl 0 rfl) ?_
      refine wd_ti C h ht_19 (by unfold vp_in; decide) d_F_turned_12 ?_
      refine W.eq (g2 := F0 m 13 ls (.int 2000 :: .int w :: [])) rfl ?_
      refine lv_icmp_gt (tgt := 27) hx hb d_F_turned_13 (by decide) (fun c_20 => ?_) (fun c_20 => ?_)
      · refine lv_iinc (v := 3) (lv' := [(3, .int 3), (0, .int 1), (1, .int w), (2, .int z)]) hx hb d_F_turned_27 hl (k := 0) rfl (by first | rfl | decide) (by decide) rfl (fun ls hl => ?_)
        refine lv_goto (tgt := 2) hx hb d_F_turned_30 (by decide) ?_
        refine lv_iload_n hx hb d_F_turned_2 rfl (lv_at hl 0 rfl) ?_
        refine lv_iconst (v := 3) hx hb d_F_turned_3 (by decide) ?_
        refine lv_icmp_ge (tgt := 33) hx hb d_F_turned_4 (by decide) (fun c_21 => ?_) (fun c_21 => ?_)
        rotate_left
        · exact absurd c_21 (by decide)
        refine lv_iconst (v := 3) hx hb d_F_turned_33 (by decide) ?_
        exact wd_iret C hr hlocks h (⟨by simp [xt, c_4, c_16, c_20], rfl⟩) (Nat.le_of_ble_eq_true rfl) (Nat.le_of_ble_eq_true rfl) d_F_turned_34
      · refine lv_iload_n hx hb d_F_turned_16 rfl (lv_at hl 3 rfl) ?_
        refine wd_gets C h ks_bs lk_F_54 d_F_turned_17 (fun t_22 ht_23 => ?_)
        refine lv_iload_n hx hb d_F_turned_20 rfl (lv_at hl 0 rfl) ?_
        refine wd_ti C h ht_23 (by unfold vp_in; decide) d_F_turned_21 ?_
        refine W.eq (g2 := F0 m 22 ls (.int 2 :: .int z :: [])) rfl ?_
        refine lv_icmp_gt (tgt := 27) hx hb d_F_turned_22 (by decide) (fun c_24 => ?_) (fun c_24 => ?_)
        · refine lv_iinc (v := 3) (lv' := [(3, .int 3), (0, .int 1), (1, .int w), (2, .int z)]) hx hb d_F_turned_27 hl (k := 0) rfl (by first | rfl | decide) (by decide) rfl (fun ls hl => ?_)
          refine lv_goto (tgt := 2) hx hb d_F_turned_30 (by decide) ?_
          refine lv_iload_n hx hb d_F_turned_2 rfl (lv_at hl 0 rfl) ?_
          refine lv_iconst (v := 3) hx hb d_F_turned_3 (by decide) ?_
          refine lv_icmp_ge (tgt := 33) hx hb d_F_turned_4 (by decide) (fun c_25 => ?_) (fun c_25 => ?_)
          rotate_left
          · exact absurd c_25 (by decide)
          refine lv_iconst (v := 3) hx hb d_F_turned_33 (by decide) ?_
          exact wd_iret C hr hlocks h (⟨by simp [xt, c_4, c_16, c_20, c_24], rfl⟩) (Nat.le_of_ble_eq_true rfl) (Nat.le_of_ble_eq_true rfl) d_F_turned_34
        · refine lv_iload_n hx hb d_F_turned_25 rfl (lv_at hl 0 rfl) ?_
          exact wd_iret C hr hlocks h (⟨by simp [xt, c_4, c_16, c_20, c_24], rfl⟩) (Nat.le_of_ble_eq_true rfl) (Nat.le_of_ble_eq_true rfl) d_F_turned_26
    · refine lv_iload_n hx hb d_F_turned_25 rfl (lv_at hl 0 rfl) ?_
      exact wd_iret C hr hlocks h (⟨by simp [xt, c_4, c_16], rfl⟩) (Nat.le_of_ble_eq_true rfl) (Nat.le_of_ble_eq_true rfl) d_F_turned_26

set_option maxHeartbeats 4000000 in
set_option maxRecDepth 20000 in
theorem c_F_turned_2 (l : Launch) (D : va_G) (T : Nat → ClassId) (A : Nat → Prop) (σ : wd_S) (w z : Int32) : Met l y_F_turned (Cond.code y_F_turned b_F_turned 4 (some .int) :: wd_tb) { frames := 0, cells := 0, slots := 0, locals := 0 } (va_Pc [.int 2, .int w, .int z] (wd_Pre D T A σ)) (va_Qi (fun r1 σ1 => r1 = xt 2 w z ∧ σ1 = σ) (wd_B D A) A) 0 0 A := by
  refine wd_ofW (by decide) (Nat.le_of_ble_eq_true rfl) ?_
  intro p e s m below meth c0 ls C hr hlocks hname h hl
  have hl : lv_has ls 4 [(0, .int 2), (1, .int w), (2, .int z)] := hl
  have hx := C.1
  have hb := C.2.1
  refine lv_iload_n hx hb d_F_turned_0 rfl (lv_at hl 0 rfl) ?_
  refine lv_istore_n (lv' := [(3, .int 2), (0, .int 2), (1, .int w), (2, .int z)]) hx hb d_F_turned_1 rfl hl (by decide) rfl (fun ls hl => ?_)
  refine lv_iload_n hx hb d_F_turned_2 rfl (lv_at hl 0 rfl) ?_
  refine lv_iconst (v := 3) hx hb d_F_turned_3 (by decide) ?_
  refine lv_icmp_ge (tgt := 33) hx hb d_F_turned_4 (by decide) (fun c_1 => ?_) (fun c_1 => ?_)
  · exact absurd c_1 (by decide)
  refine lv_iload_n hx hb d_F_turned_7 rfl (lv_at hl 2 rfl) ?_
  refine wd_gets C h ks_bw lk_F_51 d_F_turned_8 (fun t_2 ht_3 => ?_)
  refine lv_iload_n hx hb d_F_turned_11 rfl (lv_at hl 0 rfl) ?_
  refine wd_ti C h ht_3 (by unfold vp_in; decide) d_F_turned_12 ?_
  refine W.eq (g2 := F0 m 13 ls (.int 2000 :: .int w :: [])) rfl ?_
  refine lv_icmp_gt (tgt := 27) hx hb d_F_turned_13 (by decide) (fun c_4 => ?_) (fun c_4 => ?_)
  · refine lv_iinc (v := 3) (lv' := [(3, .int 3), (0, .int 2), (1, .int w), (2, .int z)]) hx hb d_F_turned_27 hl (k := 0) rfl (by first | rfl | decide) (by decide) rfl (fun ls hl => ?_)
    refine lv_goto (tgt := 2) hx hb d_F_turned_30 (by decide) ?_
    refine lv_iload_n hx hb d_F_turned_2 rfl (lv_at hl 0 rfl) ?_
    refine lv_iconst (v := 3) hx hb d_F_turned_3 (by decide) ?_
    refine lv_icmp_ge (tgt := 33) hx hb d_F_turned_4 (by decide) (fun c_5 => ?_) (fun c_5 => ?_)
    rotate_left
    · exact absurd c_5 (by decide)
    refine lv_iconst (v := 3) hx hb d_F_turned_33 (by decide) ?_
    exact wd_iret C hr hlocks h (⟨by simp [xt, c_4], rfl⟩) (Nat.le_of_ble_eq_true rfl) (Nat.le_of_ble_eq_true rfl) d_F_turned_34
  · refine lv_iload_n hx hb d_F_turned_16 rfl (lv_at hl 3 rfl) ?_
    refine wd_gets C h ks_bs lk_F_54 d_F_turned_17 (fun t_6 ht_7 => ?_)
    refine lv_iload_n hx hb d_F_turned_20 rfl (lv_at hl 0 rfl) ?_
    refine wd_ti C h ht_7 (by unfold vp_in; decide) d_F_turned_21 ?_
    refine W.eq (g2 := F0 m 22 ls (.int 2 :: .int z :: [])) rfl ?_
    refine lv_icmp_gt (tgt := 27) hx hb d_F_turned_22 (by decide) (fun c_8 => ?_) (fun c_8 => ?_)
    · refine lv_iinc (v := 3) (lv' := [(3, .int 3), (0, .int 2), (1, .int w), (2, .int z)]) hx hb d_F_turned_27 hl (k := 0) rfl (by first | rfl | decide) (by decide) rfl (fun ls hl => ?_)
      refine lv_goto (tgt := 2) hx hb d_F_turned_30 (by decide) ?_
      refine lv_iload_n hx hb d_F_turned_2 rfl (lv_at hl 0 rfl) ?_
      refine lv_iconst (v := 3) hx hb d_F_turned_3 (by decide) ?_
      refine lv_icmp_ge (tgt := 33) hx hb d_F_turned_4 (by decide) (fun c_9 => ?_) (fun c_9 => ?_)
      rotate_left
      · exact absurd c_9 (by decide)
      refine lv_iconst (v := 3) hx hb d_F_turned_33 (by decide) ?_
      exact wd_iret C hr hlocks h (⟨by simp [xt, c_4, c_8], rfl⟩) (Nat.le_of_ble_eq_true rfl) (Nat.le_of_ble_eq_true rfl) d_F_turned_34
    · refine lv_iload_n hx hb d_F_turned_25 rfl (lv_at hl 0 rfl) ?_
      exact wd_iret C hr hlocks h (⟨by simp [xt, c_4, c_8], rfl⟩) (Nat.le_of_ble_eq_true rfl) (Nat.le_of_ble_eq_true rfl) d_F_turned_26

set_option maxHeartbeats 4000000 in
set_option maxRecDepth 20000 in
theorem c_F_turned_3 (l : Launch) (D : va_G) (T : Nat → ClassId) (A : Nat → Prop) (σ : wd_S) (w z : Int32) : Met l y_F_turned (Cond.code y_F_turned b_F_turned 4 (some .int) :: wd_tb) { frames := 0, cells := 0, slots := 0, locals := 0 } (va_Pc [.int 3, .int w, .int z] (wd_Pre D T A σ)) (va_Qi (fun r1 σ1 => r1 = xt 3 w z ∧ σ1 = σ) (wd_B D A) A) 0 0 A := by
  refine wd_ofW (by decide) (Nat.le_of_ble_eq_true rfl) ?_
  intro p e s m below meth c0 ls C hr hlocks hname h hl
  have hl : lv_has ls 4 [(0, .int 3), (1, .int w), (2, .int z)] := hl
  have hx := C.1
  have hb := C.2.1
  refine lv_iload_n hx hb d_F_turned_0 rfl (lv_at hl 0 rfl) ?_
  refine lv_istore_n (lv' := [(3, .int 3), (0, .int 3), (1, .int w), (2, .int z)]) hx hb d_F_turned_1 rfl hl (by decide) rfl (fun ls hl => ?_)
  refine lv_iload_n hx hb d_F_turned_2 rfl (lv_at hl 0 rfl) ?_
  refine lv_iconst (v := 3) hx hb d_F_turned_3 (by decide) ?_
  refine lv_icmp_ge (tgt := 33) hx hb d_F_turned_4 (by decide) (fun c_1 => ?_) (fun c_1 => ?_)
  rotate_left
  · exact absurd c_1 (by decide)
  refine lv_iconst (v := 3) hx hb d_F_turned_33 (by decide) ?_
  exact wd_iret C hr hlocks h (⟨by simp [xt], rfl⟩) (Nat.le_of_ble_eq_true rfl) (Nat.le_of_ble_eq_true rfl) d_F_turned_34

theorem c_F_turned (l : Launch) (D : va_G) (T : Nat → ClassId) (A : Nat → Prop) (σ : wd_S) (k w z : Int32) (hk : k = 0 ∨ k = 1 ∨ k = 2 ∨ k = 3) : Met l y_F_turned (Cond.code y_F_turned b_F_turned 4 (some .int) :: wd_tb) { frames := 0, cells := 0, slots := 0, locals := 0 } (va_Pc [.int k, .int w, .int z] (wd_Pre D T A σ)) (va_Qi (fun r1 σ1 => r1 = xt k w z ∧ σ1 = σ) (wd_B D A) A) 0 0 A := by
  rcases hk with rfl | rfl | rfl | rfl
  · exact c_F_turned_0 l D T A σ w z
  · exact c_F_turned_1 l D T A σ w z
  · exact c_F_turned_2 l D T A σ w z
  · exact c_F_turned_3 l D T A σ w z

set_option maxHeartbeats 4000000 in
set_option maxRecDepth 20000 in
theorem c_I_undergo (l : Launch) (D : va_G) (T : Nat → ClassId) (A : Nat → Prop) (σ : wd_S) (a : Nat) (r : Nat → Int32) (w c : Nat) (ha : σ a = some (xI r w c)) (ev nx : Int32) : Met l y_I_undergo (Cond.code y_I_undergo b_I_undergo 3 none :: wd_tb) { frames := 0, cells := 0, slots := 0, locals := 0 } (va_Pc [.ref a, .int ev, .int nx] (wd_Pre D T A σ)) (va_Qv (fun σ1 => σ1 = wd_up σ a (xI (xu r ev nx) w c)) (wd_B D A) A) 0 0 A := by
  refine wd_ofW (by decide) (Nat.le_of_ble_eq_true rfl) ?_
  intro p e s m below meth c0 ls C hr hlocks hname h hl
  have hl : lv_has ls 3 [(0, .ref a), (1, .int ev), (2, .int nx)] := hl
  have hx := C.1
  have hb := C.2.1
  refine lv_aload_n hx hb d_I_undergo_0 rfl (lv_at hl 0 rfl) ?_
  refine lv_iload_n hx hb d_I_undergo_1 rfl (lv_at hl 2 rfl) ?_
  refine wd_put C h kc_I ha 5 (by decide) lk_I_27 rfl (by rfl) (by rfl) (Nat.le_of_ble_eq_true rfl) d_I_undergo_2 (fun H locs h => ?_)
  have h : wd_C D T A s H locs (wd_up σ a (.inr (1, [.int (r 0), .int (r 1), .int (r 2), .int (r 3), .int (r 4), .int nx, .int (r 6), .int (r 7), .int (r 8), .int (r 9), .int (r 10), .int (r 11), .int (r 12), .int (r 13), .int (r 14), .ref w, .ref c]))) := h
  have h_1 : (wd_up σ a (.inr (1, [.int (r 0), .int (r 1), .int (r 2), .int (r 3), .int (r 4), .int nx, .int (r 6), .int (r 7), .int (r 8), .int (r 9), .int (r 10), .int (r 11), .int (r 12), .int (r 13), .int (r 14), .ref w, .ref c]))) a = some (.inr (1, [.int (r 0), .int (r 1), .int (r 2), .int (r 3), .int (r 4), .int nx, .int (r 6), .int (r 7), .int (r 8), .int (r 9), .int (r 10), .int (r 11), .int (r 12), .int (r 13), .int (r 14), .ref w, .ref c])) := wd_us _ _ _
  refine lv_iload_n hx hb d_I_undergo_5 rfl (lv_at hl 1 rfl) ?_
  refine lv_bipush (v := 7) hx hb d_I_undergo_6 (by decide) ?_
  refine lv_icmp_ne (tgt := 19) hx hb d_I_undergo_8 (by decide) (fun c_2 => ?_) (fun c_2 => ?_)
  · refine lv_iload_n hx hb d_I_undergo_19 rfl (lv_at hl 1 rfl) ?_
    refine lv_bipush (v := 8) hx hb d_I_undergo_20 (by decide) ?_
    refine lv_icmp_ne (tgt := 30) hx hb d_I_undergo_22 (by decide) (fun c_3 => ?_) (fun c_3 => ?_)
    · exact wd_vret C hr hlocks h (by rw [show xu r ev nx = (upd r 5 nx) from by simp [xu, c_2, c_3]]; rfl) (Nat.le_of_ble_eq_true rfl) (Nat.le_of_ble_eq_true rfl) d_I_undergo_30
    · refine lv_aload_n hx hb d_I_undergo_25 rfl (lv_at hl 0 rfl) ?_
      refine lv_iconst (v := 0) hx hb d_I_undergo_26 (by decide) ?_
      refine wd_put C h kc_I h_1 6 (by decide) lk_I_30 rfl (by rfl) (by rfl) (Nat.le_of_ble_eq_true rfl) d_I_undergo_27 (fun H locs h => ?_)
      rw [wd_uu] at h
      have h : wd_C D T A s H locs (wd_up σ a (.inr (1, [.int (r 0), .int (r 1), .int (r 2), .int (r 3), .int (r 4), .int nx, .int 0, .int (r 7), .int (r 8), .int (r 9), .int (r 10), .int (r 11), .int (r 12), .int (r 13), .int (r 14), .ref w, .ref c]))) := h
      have h_4 : (wd_up σ a (.inr (1, [.int (r 0), .int (r 1), .int (r 2), .int (r 3), .int (r 4), .int nx, .int 0, .int (r 7), .int (r 8), .int (r 9), .int (r 10), .int (r 11), .int (r 12), .int (r 13), .int (r 14), .ref w, .ref c]))) a = some (.inr (1, [.int (r 0), .int (r 1), .int (r 2), .int (r 3), .int (r 4), .int nx, .int 0, .int (r 7), .int (r 8), .int (r 9), .int (r 10), .int (r 11), .int (r 12), .int (r 13), .int (r 14), .ref w, .ref c])) := wd_us _ _ _
      exact wd_vret C hr hlocks h (by rw [show xu r ev nx = (upd (upd r 5 nx) 6 0) from by simp [xu, c_2, c_3]]; rfl) (Nat.le_of_ble_eq_true rfl) (Nat.le_of_ble_eq_true rfl) d_I_undergo_30
  · refine lv_aload_n hx hb d_I_undergo_11 rfl (lv_at hl 0 rfl) ?_
    refine lv_iconst (v := 1) hx hb d_I_undergo_12 (by decide) ?_
    refine wd_put C h kc_I h_1 6 (by decide) lk_I_30 rfl (by rfl) (by rfl) (Nat.le_of_ble_eq_true rfl) d_I_undergo_13 (fun H locs h => ?_)
    rw [wd_uu] at h
    have h : wd_C D T A s H locs (wd_up σ a (.inr (1, [.int (r 0), .int (r 1), .int (r 2), .int (r 3), .int (r 4), .int nx, .int 1, .int (r 7), .int (r 8), .int (r 9), .int (r 10), .int (r 11), .int (r 12), .int (r 13), .int (r 14), .ref w, .ref c]))) := h
    have h_5 : (wd_up σ a (.inr (1, [.int (r 0), .int (r 1), .int (r 2), .int (r 3), .int (r 4), .int nx, .int 1, .int (r 7), .int (r 8), .int (r 9), .int (r 10), .int (r 11), .int (r 12), .int (r 13), .int (r 14), .ref w, .ref c]))) a = some (.inr (1, [.int (r 0), .int (r 1), .int (r 2), .int (r 3), .int (r 4), .int nx, .int 1, .int (r 7), .int (r 8), .int (r 9), .int (r 10), .int (r 11), .int (r 12), .int (r 13), .int (r 14), .ref w, .ref c])) := wd_us _ _ _
    refine lv_goto (tgt := 30) hx hb d_I_undergo_16 (by decide) ?_
    exact wd_vret C hr hlocks h (by rw [show xu r ev nx = (upd (upd r 5 nx) 6 1) from by simp [xu, c_2]]; rfl) (Nat.le_of_ble_eq_true rfl) (Nat.le_of_ble_eq_true rfl) d_I_undergo_30

set_option maxHeartbeats 4000000 in
set_option maxRecDepth 20000 in
theorem c_I_leastExcluding (l : Launch) (D : va_G) (T : Nat → ClassId) (A : Nat → Prop) (σ : wd_S) (a : Nat) (r : Nat → Int32) (w c : Nat) (ha : σ a = some (xI r w c)) (t : Int32) : Met l y_I_leastExcluding (Cond.code y_I_leastExcluding b_I_leastExcluding 4 (some .int) :: wd_tb) { frames := 1, cells := 0, slots := 0, locals := 22 } (va_Pc [.ref a, .int t] (wd_Pre D T A σ)) (va_Qi (fun r1 σ1 => r1 = xl (r 4) t ∧ σ1 = σ) (wd_B D A) A) 0 0 A := by
  refine wd_ofW (by decide) (Nat.le_of_ble_eq_true rfl) ?_
  intro p e s m below meth c0 ls C hr hlocks hname h hl
  have hl : lv_has ls 4 [(0, .ref a), (1, .int t)] := hl
  have hx := C.1
  have hb := C.2.1
  refine lv_iload_n hx hb d_I_leastExcluding_0 rfl (lv_at hl 1 rfl) ?_
  refine lv_iconst (v := 0) hx hb d_I_leastExcluding_1 (by decide) ?_
  refine lv_iconst (v := 5) hx hb d_I_leastExcluding_2 (by decide) ?_
  refine wd_ci h (wd_rSN (rest := []) (st0 := [.int 5, .int 0, .int t]) C h k_F_within wt_F_within lk_I_65 (c_F_within l D T A σ t 0 5) rfl rfl ⟨Nat.le_of_ble_eq_true rfl, Nat.le_of_ble_eq_true rfl⟩ rfl hl.1 rfl (Nat.le_of_ble_eq_true rfl) d_I_leastExcluding_3 ⟨Nat.le_of_ble_eq_true rfl, Nat.le_of_ble_eq_true rfl⟩) (fun r_1 σ_2 H locs hp_3 h => ?_)
  obtain ⟨e_4, es_5⟩ := hp_3
  rw [es_5] at h
  subst e_4
  refine lv_if_ne (tgt := 11) hx hb d_I_leastExcluding_6 (by decide) (fun c_6 => ?_) (fun c_6 => ?_)
  · refine lv_aload_n hx hb d_I_leastExcluding_11 rfl (lv_at hl 0 rfl) ?_
    refine wd_get C h kc_I ha 4 (by decide) lk_I_24 rfl d_I_leastExcluding_12 ?_
    refine wd_getsN C h ks_ex lk_I_69 d_I_leastExcluding_15 (fun t_7 ht_8 => ?_)
    refine lv_iload_n hx hb d_I_leastExcluding_18 rfl (lv_at hl 1 rfl) ?_
    refine wd_ti C h ht_8 (xw_vp c_6 (by decide) (by decide)) d_I_leastExcluding_19 ?_
    refine lv_iand hx hb d_I_leastExcluding_20 ?_
    refine lv_istore_n (lv' := [(2, .int ((r 4) &&& (x_ex.getD t.toNatClampNeg 0))), (0, .ref a), (1, .int t)]) hx hb d_I_leastExcluding_21 rfl hl (by decide) rfl (fun ls hl => ?_)
    refine lv_iconst (v := 0) hx hb d_I_leastExcluding_22 (by decide) ?_
    refine lv_istore_n (lv' := [(3, .int 0), (2, .int ((r 4) &&& (x_ex.getD t.toNatClampNeg 0))), (0, .ref a), (1, .int t)]) hx hb d_I_leastExcluding_23 rfl hl (by decide) rfl (fun ls hl => ?_)
    refine lv_iload_n hx hb d_I_leastExcluding_24 rfl (lv_at hl 0 rfl) ?_
    refine lv_bipush (v := 6) hx hb d_I_leastExcluding_25 (by decide) ?_
    refine lv_icmp_ge (tgt := 47) hx hb d_I_leastExcluding_27 (by decide) (fun c_9 => ?_) (fun c_9 => ?_)
    · exact absurd c_9 (by decide)
    refine lv_iload_n hx hb d_I_leastExcluding_30 rfl (lv_at hl 1 rfl) ?_
    refine lv_iload_n hx hb d_I_leastExcluding_31 rfl (lv_at hl 0 rfl) ?_
    refine lv_ishr hx hb d_I_leastExcluding_32 ?_
    refine lv_iconst (v := 1) hx hb d_I_leastExcluding_33 (by decide) ?_
    refine lv_iand hx hb d_I_leastExcluding_34 ?_
    refine lv_iconst (v := 1) hx hb d_I_leastExcluding_35 (by decide) ?_
    refine lv_icmp_ne (tgt := 41) hx hb d_I_leastExcluding_36 (by decide) (fun c_10 => ?_) (fun c_10 => ?_)
    · refine lv_iinc (v := 1) (lv' := [(3, .int 1), (2, .int ((r 4) &&& (x_ex.getD t.toNatClampNeg 0))), (0, .ref a), (1, .int t)]) hx hb d_I_leastExcluding_41 hl (k := 0) rfl (by first | rfl | decide) (by decide) rfl (fun ls hl => ?_)
      refine lv_goto (tgt := 24) hx hb d_I_leastExcluding_44 (by decide) ?_
      refine lv_iload_n hx hb d_I_leastExcluding_24 rfl (lv_at hl 0 rfl) ?_
      refine lv_bipush (v := 6) hx hb d_I_leastExcluding_25 (by decide) ?_
      refine lv_icmp_ge (tgt := 47) hx hb d_I_leastExcluding_27 (by decide) (fun c_11 => ?_) (fun c_11 => ?_)
      · exact absurd c_11 (by decide)
      refine lv_iload_n hx hb d_I_leastExcluding_30 rfl (lv_at hl 1 rfl) ?_
      refine lv_iload_n hx hb d_I_leastExcluding_31 rfl (lv_at hl 0 rfl) ?_
      refine lv_ishr hx hb d_I_leastExcluding_32 ?_
      refine lv_iconst (v := 1) hx hb d_I_leastExcluding_33 (by decide) ?_
      refine lv_iand hx hb d_I_leastExcluding_34 ?_
      refine lv_iconst (v := 1) hx hb d_I_leastExcluding_35 (by decide) ?_
      refine lv_icmp_ne (tgt := 41) hx hb d_I_leastExcluding_36 (by decide) (fun c_12 => ?_) (fun c_12 => ?_)
      · refine lv_iinc (v := 2) (lv' := [(3, .int 2), (2, .int ((r 4) &&& (x_ex.getD t.toNatClampNeg 0))), (0, .ref a), (1, .int t)]) hx hb d_I_leastExcluding_41 hl (k := 0) rfl (by first | rfl | decide) (by decide) rfl (fun ls hl => ?_)
        refine lv_goto (tgt := 24) hx hb d_I_leastExcluding_44 (by decide) ?_
        refine lv_iload_n hx hb d_I_leastExcluding_24 rfl (lv_at hl 0 rfl) ?_
        refine lv_bipush (v := 6) hx hb d_I_leastExcluding_25 (by decide) ?_
        refine lv_icmp_ge (tgt := 47) hx hb d_I_leastExcluding_27 (by decide) (fun c_13 => ?_) (fun c_13 => ?_)
        · exact absurd c_13 (by decide)
        refine lv_iload_n hx hb d_I_leastExcluding_30 rfl (lv_at hl 1 rfl) ?_
        refine lv_iload_n hx hb d_I_leastExcluding_31 rfl (lv_at hl 0 rfl) ?_
        refine lv_ishr hx hb d_I_leastExcluding_32 ?_
        refine lv_iconst (v := 1) hx hb d_I_leastExcluding_33 (by decide) ?_
        refine lv_iand hx hb d_I_leastExcluding_34 ?_
        refine lv_iconst (v := 1) hx hb d_I_leastExcluding_35 (by decide) ?_
        refine lv_icmp_ne (tgt := 41) hx hb d_I_leastExcluding_36 (by decide) (fun c_14 => ?_) (fun c_14 => ?_)
        · refine lv_iinc (v := 3) (lv' := [(3, .int 3), (2, .int ((r 4) &&& (x_ex.getD t.toNatClampNeg 0))), (0, .ref a), (1, .int t)]) hx hb d_I_leastExcluding_41 hl (k := 0) rfl (by first | rfl | decide) (by decide) rfl (fun ls hl => ?_)
          refine lv_goto (tgt := 24) hx hb d_I_leastExcluding_44 (by decide) ?_
          refine lv_iload_n hx hb d_I_leastExcluding_24 rfl (lv_at hl 0 rfl) ?_
          refine lv_bipush (v := 6) hx hb d_I_leastExcluding_25 (by decide) ?_
          refine lv_icmp_ge (tgt := 47) hx hb d_I_leastExcluding_27 (by decide) (fun c_15 => ?_) (fun c_15 => ?_)
          · exact absurd c_15 (by decide)
          refine lv_iload_n hx hb d_I_leastExcluding_30 rfl (lv_at hl 1 rfl) ?_
          refine lv_iload_n hx hb d_I_leastExcluding_31 rfl (lv_at hl 0 rfl) ?_
          refine lv_ishr hx hb d_I_leastExcluding_32 ?_
          refine lv_iconst (v := 1) hx hb d_I_leastExcluding_33 (by decide) ?_
          refine lv_iand hx hb d_I_leastExcluding_34 ?_
          refine lv_iconst (v := 1) hx hb d_I_leastExcluding_35 (by decide) ?_
          refine lv_icmp_ne (tgt := 41) hx hb d_I_leastExcluding_36 (by decide) (fun c_16 => ?_) (fun c_16 => ?_)
          · refine lv_iinc (v := 4) (lv' := [(3, .int 4), (2, .int ((r 4) &&& (x_ex.getD t.toNatClampNeg 0))), (0, .ref a), (1, .int t)]) hx hb d_I_leastExcluding_41 hl (k := 0) rfl (by first | rfl | decide) (by decide) rfl (fun ls hl => ?_)
            refine lv_goto (tgt := 24) hx hb d_I_leastExcluding_44 (by decide) ?_
            refine lv_iload_n hx hb d_I_leastExcluding_24 rfl (lv_at hl 0 rfl) ?_
            refine lv_bipush (v := 6) hx hb d_I_leastExcluding_25 (by decide) ?_
            refine lv_icmp_ge (tgt := 47) hx hb d_I_leastExcluding_27 (by decide) (fun c_17 => ?_) (fun c_17 => ?_)
            · exact absurd c_17 (by decide)
            refine lv_iload_n hx hb d_I_leastExcluding_30 rfl (lv_at hl 1 rfl) ?_
            refine lv_iload_n hx hb d_I_leastExcluding_31 rfl (lv_at hl 0 rfl) ?_
            refine lv_ishr hx hb d_I_leastExcluding_32 ?_
            refine lv_iconst (v := 1) hx hb d_I_leastExcluding_33 (by decide) ?_
            refine lv_iand hx hb d_I_leastExcluding_34 ?_
            refine lv_iconst (v := 1) hx hb d_I_leastExcluding_35 (by decide) ?_
            refine lv_icmp_ne (tgt := 41) hx hb d_I_leastExcluding_36 (by decide) (fun c_18 => ?_) (fun c_18 => ?_)
            · refine lv_iinc (v := 5) (lv' := [(3, .int 5), (2, .int ((r 4) &&& (x_ex.getD t.toNatClampNeg 0))), (0, .ref a), (1, .int t)]) hx hb d_I_leastExcluding_41 hl (k := 0) rfl (by first | rfl | decide) (by decide) rfl (fun ls hl => ?_)
              refine lv_goto (tgt := 24) hx hb d_I_leastExcluding_44 (by decide) ?_
              refine lv_iload_n hx hb d_I_leastExcluding_24 rfl (lv_at hl 0 rfl) ?_
              refine lv_bipush (v := 6) hx hb d_I_leastExcluding_25 (by decide) ?_
              refine lv_icmp_ge (tgt := 47) hx hb d_I_leastExcluding_27 (by decide) (fun c_19 => ?_) (fun c_19 => ?_)
              · exact absurd c_19 (by decide)
              refine lv_iload_n hx hb d_I_leastExcluding_30 rfl (lv_at hl 1 rfl) ?_
              refine lv_iload_n hx hb d_I_leastExcluding_31 rfl (lv_at hl 0 rfl) ?_
              refine lv_ishr hx hb d_I_leastExcluding_32 ?_
              refine lv_iconst (v := 1) hx hb d_I_leastExcluding_33 (by decide) ?_
              refine lv_iand hx hb d_I_leastExcluding_34 ?_
              refine lv_iconst (v := 1) hx hb d_I_leastExcluding_35 (by decide) ?_
              refine lv_icmp_ne (tgt := 41) hx hb d_I_leastExcluding_36 (by decide) (fun c_20 => ?_) (fun c_20 => ?_)
              · refine lv_iinc (v := 6) (lv' := [(3, .int 6), (2, .int ((r 4) &&& (x_ex.getD t.toNatClampNeg 0))), (0, .ref a), (1, .int t)]) hx hb d_I_leastExcluding_41 hl (k := 0) rfl (by first | rfl | decide) (by decide) rfl (fun ls hl => ?_)
                refine lv_goto (tgt := 24) hx hb d_I_leastExcluding_44 (by decide) ?_
                refine lv_iload_n hx hb d_I_leastExcluding_24 rfl (lv_at hl 0 rfl) ?_
                refine lv_bipush (v := 6) hx hb d_I_leastExcluding_25 (by decide) ?_
                refine lv_icmp_ge (tgt := 47) hx hb d_I_leastExcluding_27 (by decide) (fun c_21 => ?_) (fun c_21 => ?_)
                rotate_left
                · exact absurd c_21 (by decide)
                refine lv_iconst (v := (-1)) hx hb d_I_leastExcluding_47 (by decide) ?_
                exact wd_iret C hr hlocks h (⟨by simp only [xl, xl0, c_6, c_10, c_12, c_14, c_16, c_18, c_20, ↓reduceIte], rfl⟩) (Nat.le_of_ble_eq_true rfl) (Nat.le_of_ble_eq_true rfl) d_I_leastExcluding_48
              · refine lv_iload_n hx hb d_I_leastExcluding_39 rfl (lv_at hl 0 rfl) ?_
                exact wd_iret C hr hlocks h (⟨by simp only [xl, xl0, c_6, c_10, c_12, c_14, c_16, c_18, c_20, ↓reduceIte], rfl⟩) (Nat.le_of_ble_eq_true rfl) (Nat.le_of_ble_eq_true rfl) d_I_leastExcluding_40
            · refine lv_iload_n hx hb d_I_leastExcluding_39 rfl (lv_at hl 0 rfl) ?_
              exact wd_iret C hr hlocks h (⟨by simp only [xl, xl0, c_6, c_10, c_12, c_14, c_16, c_18, ↓reduceIte], rfl⟩) (Nat.le_of_ble_eq_true rfl) (Nat.le_of_ble_eq_true rfl) d_I_leastExcluding_40
          · refine lv_iload_n hx hb d_I_leastExcluding_39 rfl (lv_at hl 0 rfl) ?_
            exact wd_iret C hr hlocks h (⟨by simp only [xl, xl0, c_6, c_10, c_12, c_14, c_16, ↓reduceIte], rfl⟩) (Nat.le_of_ble_eq_true rfl) (Nat.le_of_ble_eq_true rfl) d_I_leastExcluding_40
        · refine lv_iload_n hx hb d_I_leastExcluding_39 rfl (lv_at hl 0 rfl) ?_
          exact wd_iret C hr hlocks h (⟨by simp only [xl, xl0, c_6, c_10, c_12, c_14, ↓reduceIte], rfl⟩) (Nat.le_of_ble_eq_true rfl) (Nat.le_of_ble_eq_true rfl) d_I_leastExcluding_40
      · refine lv_iload_n hx hb d_I_leastExcluding_39 rfl (lv_at hl 0 rfl) ?_
        exact wd_iret C hr hlocks h (⟨by simp only [xl, xl0, c_6, c_10, c_12, ↓reduceIte], rfl⟩) (Nat.le_of_ble_eq_true rfl) (Nat.le_of_ble_eq_true rfl) d_I_leastExcluding_40
    · refine lv_iload_n hx hb d_I_leastExcluding_39 rfl (lv_at hl 0 rfl) ?_
      exact wd_iret C hr hlocks h (⟨by simp only [xl, xl0, c_6, c_10, ↓reduceIte], rfl⟩) (Nat.le_of_ble_eq_true rfl) (Nat.le_of_ble_eq_true rfl) d_I_leastExcluding_40
  · refine lv_iconst (v := (-1)) hx hb d_I_leastExcluding_9 (by decide) ?_
    exact wd_iret C hr hlocks h (⟨by simp only [xl, xl0, c_6, ↓reduceIte], rfl⟩) (Nat.le_of_ble_eq_true rfl) (Nat.le_of_ble_eq_true rfl) d_I_leastExcluding_10

set_option maxHeartbeats 4000000 in
set_option maxRecDepth 20000 in
theorem c_I_lacksWhatIsWanted (l : Launch) (D : va_G) (T : Nat → ClassId) (A : Nat → Prop) (σ : wd_S) (a : Nat) (r : Nat → Int32) (w c : Nat) (ha : σ a = some (xI r w c)) (t : Int32) : Met l y_I_lacksWhatIsWanted (Cond.code y_I_lacksWhatIsWanted b_I_lacksWhatIsWanted 2 (some .boolean) :: wd_tb) { frames := 1, cells := 0, slots := 0, locals := 21 } (va_Pc [.ref a, .int t] (wd_Pre D T A σ)) (va_Qi (fun r1 σ1 => r1 = xk r t ∧ σ1 = σ) (wd_B D A) A) 0 0 A := by
  refine wd_ofW (by decide) (Nat.le_of_ble_eq_true rfl) ?_
  intro p e s m below meth c0 ls C hr hlocks hname h hl
  have hl : lv_has ls 2 [(0, .ref a), (1, .int t)] := hl
  have hx := C.1
  have hb := C.2.1
  refine lv_iload_n hx hb d_I_lacksWhatIsWanted_0 rfl (lv_at hl 1 rfl) ?_
  by_cases k_1 : t = 1
  · refine lv_tableIn (tgt := 36) hx hb d_I_lacksWhatIsWanted_1 (by rw [k_1]; decide) (by rw [k_1]; decide) (by rw [k_1]; rfl) (by decide) ?_
    refine lv_aload_n hx hb d_I_lacksWhatIsWanted_36 rfl (lv_at hl 0 rfl) ?_
    refine lv_iconst (v := 0) hx hb d_I_lacksWhatIsWanted_37 (by decide) ?_
    refine wd_ci h (wd_rV (rest := []) (st0 := [.int 0, .ref a]) C h kc_I ha k_I_has wm_I_has wz_I_has lk_I_72 (c_I_has l D T A σ a r w c ha 0) rfl rfl ⟨Nat.le_of_ble_eq_true rfl, Nat.le_of_ble_eq_true rfl⟩ rfl hl.1 rfl (Nat.le_of_ble_eq_true rfl) d_I_lacksWhatIsWanted_38 ⟨Nat.le_of_ble_eq_true rfl, Nat.le_of_ble_eq_true rfl⟩) (fun r_2 σ_3 H locs hp_4 h => ?_)
    obtain ⟨e_5, es_6⟩ := hp_4
    rw [es_6] at h
    subst e_5
    refine lv_if_ne (tgt := 48) hx hb d_I_lacksWhatIsWanted_41 (by decide) (fun c_7 => ?_) (fun c_7 => ?_)
    · refine lv_iconst (v := 0) hx hb d_I_lacksWhatIsWanted_48 (by decide) ?_
      exact wd_zret C hr hlocks h (by decide) (⟨by simp [xk, k_1, c_7], rfl⟩) (Nat.le_of_ble_eq_true rfl) (Nat.le_of_ble_eq_true rfl) d_I_lacksWhatIsWanted_49
    · refine lv_iconst (v := 1) hx hb d_I_lacksWhatIsWanted_44 (by decide) ?_
      refine lv_goto (tgt := 49) hx hb d_I_lacksWhatIsWanted_45 (by decide) ?_
      exact wd_zret C hr hlocks h (by decide) (⟨by simp [xk, k_1, c_7], rfl⟩) (Nat.le_of_ble_eq_true rfl) (Nat.le_of_ble_eq_true rfl) d_I_lacksWhatIsWanted_49
  by_cases k_8 : t = 2
  · refine lv_tableIn (tgt := 85) hx hb d_I_lacksWhatIsWanted_1 (by rw [k_8]; decide) (by rw [k_8]; decide) (by rw [k_8]; rfl) (by decide) ?_
    refine lv_iconst (v := 0) hx hb d_I_lacksWhatIsWanted_85 (by decide) ?_
    exact wd_zret C hr hlocks h (by decide) (⟨by simp [xk, k_8], rfl⟩) (Nat.le_of_ble_eq_true rfl) (Nat.le_of_ble_eq_true rfl) d_I_lacksWhatIsWanted_86
  by_cases k_9 : t = 3
  · refine lv_tableIn (tgt := 36) hx hb d_I_lacksWhatIsWanted_1 (by rw [k_9]; decide) (by rw [k_9]; decide) (by rw [k_9]; rfl) (by decide) ?_
    refine lv_aload_n hx hb d_I_lacksWhatIsWanted_36 rfl (lv_at hl 0 rfl) ?_
    refine lv_iconst (v := 0) hx hb d_I_lacksWhatIsWanted_37 (by decide) ?_
    refine wd_ci h (wd_rV (rest := []) (st0 := [.int 0, .ref a]) C h kc_I ha k_I_has wm_I_has wz_I_has lk_I_72 (c_I_has l D T A σ a r w c ha 0) rfl rfl ⟨Nat.le_of_ble_eq_true rfl, Nat.le_of_ble_eq_true rfl⟩ rfl hl.1 rfl (Nat.le_of_ble_eq_true rfl) d_I_lacksWhatIsWanted_38 ⟨Nat.le_of_ble_eq_true rfl, Nat.le_of_ble_eq_true rfl⟩) (fun r_10 σ_11 H locs hp_12 h => ?_)
    obtain ⟨e_13, es_14⟩ := hp_12
    rw [es_14] at h
    subst e_13
    refine lv_if_ne (tgt := 48) hx hb d_I_lacksWhatIsWanted_41 (by decide) (fun c_15 => ?_) (fun c_15 => ?_)
    · refine lv_iconst (v := 0) hx hb d_I_lacksWhatIsWanted_48 (by decide) ?_
      exact wd_zret C hr hlocks h (by decide) (⟨by simp [xk, k_9, c_15], rfl⟩) (Nat.le_of_ble_eq_true rfl) (Nat.le_of_ble_eq_true rfl) d_I_lacksWhatIsWanted_49
    · refine lv_iconst (v := 1) hx hb d_I_lacksWhatIsWanted_44 (by decide) ?_
      refine lv_goto (tgt := 49) hx hb d_I_lacksWhatIsWanted_45 (by decide) ?_
      exact wd_zret C hr hlocks h (by decide) (⟨by simp [xk, k_9, c_15], rfl⟩) (Nat.le_of_ble_eq_true rfl) (Nat.le_of_ble_eq_true rfl) d_I_lacksWhatIsWanted_49
  by_cases k_16 : t = 4
  · refine lv_tableIn (tgt := 50) hx hb d_I_lacksWhatIsWanted_1 (by rw [k_16]; decide) (by rw [k_16]; decide) (by rw [k_16]; rfl) (by decide) ?_
    refine lv_aload_n hx hb d_I_lacksWhatIsWanted_50 rfl (lv_at hl 0 rfl) ?_
    refine lv_iconst (v := 0) hx hb d_I_lacksWhatIsWanted_51 (by decide) ?_
    refine wd_ci h (wd_rV (rest := []) (st0 := [.int 0, .ref a]) C h kc_I ha k_I_has wm_I_has wz_I_has lk_I_72 (c_I_has l D T A σ a r w c ha 0) rfl rfl ⟨Nat.le_of_ble_eq_true rfl, Nat.le_of_ble_eq_true rfl⟩ rfl hl.1 rfl (Nat.le_of_ble_eq_true rfl) d_I_lacksWhatIsWanted_52 ⟨Nat.le_of_ble_eq_true rfl, Nat.le_of_ble_eq_true rfl⟩) (fun r_17 σ_18 H locs hp_19 h => ?_)
    obtain ⟨e_20, es_21⟩ := hp_19
    rw [es_21] at h
    subst e_20
    refine lv_if_eq (tgt := 65) hx hb d_I_lacksWhatIsWanted_55 (by decide) (fun c_22 => ?_) (fun c_22 => ?_)
    · refine lv_iconst (v := 1) hx hb d_I_lacksWhatIsWanted_65 (by decide) ?_
      refine lv_goto (tgt := 70) hx hb d_I_lacksWhatIsWanted_66 (by decide) ?_
      exact wd_zret C hr hlocks h (by decide) (⟨by simp [xk, k_16, c_22], rfl⟩) (Nat.le_of_ble_eq_true rfl) (Nat.le_of_ble_eq_true rfl) d_I_lacksWhatIsWanted_70
    · refine lv_aload_n hx hb d_I_lacksWhatIsWanted_58 rfl (lv_at hl 0 rfl) ?_
      refine wd_get C h kc_I ha 0 (by decide) lk_I_9 rfl d_I_lacksWhatIsWanted_59 ?_
      refine lv_if_ne (tgt := 69) hx hb d_I_lacksWhatIsWanted_62 (by decide) (fun c_23 => ?_) (fun c_23 => ?_)
      · refine lv_iconst (v := 0) hx hb d_I_lacksWhatIsWanted_69 (by decide) ?_
        exact wd_zret C hr hlocks h (by decide) (⟨by simp [xk, k_16, c_22, c_23], rfl⟩) (Nat.le_of_ble_eq_true rfl) (Nat.le_of_ble_eq_true rfl) d_I_lacksWhatIsWanted_70
      · refine lv_iconst (v := 1) hx hb d_I_lacksWhatIsWanted_65 (by decide) ?_
        refine lv_goto (tgt := 70) hx hb d_I_lacksWhatIsWanted_66 (by decide) ?_
        exact wd_zret C hr hlocks h (by decide) (⟨by simp [xk, k_16, c_22, c_23], rfl⟩) (Nat.le_of_ble_eq_true rfl) (Nat.le_of_ble_eq_true rfl) d_I_lacksWhatIsWanted_70
  by_cases k_24 : t = 5
  · refine lv_tableIn (tgt := 71) hx hb d_I_lacksWhatIsWanted_1 (by rw [k_24]; decide) (by rw [k_24]; decide) (by rw [k_24]; rfl) (by decide) ?_
    refine lv_aload_n hx hb d_I_lacksWhatIsWanted_71 rfl (lv_at hl 0 rfl) ?_
    refine wd_get C h kc_I ha 0 (by decide) lk_I_9 rfl d_I_lacksWhatIsWanted_72 ?_
    refine lv_iconst (v := 2) hx hb d_I_lacksWhatIsWanted_75 (by decide) ?_
    refine lv_icmp_ge (tgt := 83) hx hb d_I_lacksWhatIsWanted_76 (by decide) (fun c_25 => ?_) (fun c_25 => ?_)
    · refine lv_iconst (v := 0) hx hb d_I_lacksWhatIsWanted_83 (by decide) ?_
      exact wd_zret C hr hlocks h (by decide) (⟨by simp [xk, k_24, c_25], rfl⟩) (Nat.le_of_ble_eq_true rfl) (Nat.le_of_ble_eq_true rfl) d_I_lacksWhatIsWanted_84
    · refine lv_iconst (v := 1) hx hb d_I_lacksWhatIsWanted_79 (by decide) ?_
      refine lv_goto (tgt := 84) hx hb d_I_lacksWhatIsWanted_80 (by decide) ?_
      exact wd_zret C hr hlocks h (by decide) (⟨by simp [xk, k_24, c_25], rfl⟩) (Nat.le_of_ble_eq_true rfl) (Nat.le_of_ble_eq_true rfl) d_I_lacksWhatIsWanted_84
  have n_26 := sw_ne k_1 (show ((1 : Int32)).toInt = 1 from by decide)
  have n_27 := sw_ne k_8 (show ((2 : Int32)).toInt = 2 from by decide)
  have n_28 := sw_ne k_9 (show ((3 : Int32)).toInt = 3 from by decide)
  have n_29 := sw_ne k_16 (show ((4 : Int32)).toInt = 4 from by decide)
  have n_30 := sw_ne k_24 (show ((5 : Int32)).toInt = 5 from by decide)
  refine lv_tableOut (tgt := 85) hx hb d_I_lacksWhatIsWanted_1 (by omega) (by decide) ?_
  refine lv_iconst (v := 0) hx hb d_I_lacksWhatIsWanted_85 (by decide) ?_
  exact wd_zret C hr hlocks h (by decide) (⟨by simp [xk, k_1, k_8, k_9, k_16, k_24], rfl⟩) (Nat.le_of_ble_eq_true rfl) (Nat.le_of_ble_eq_true rfl) d_I_lacksWhatIsWanted_86

set_option maxHeartbeats 4000000 in
set_option maxRecDepth 20000 in
theorem c_F_mayBecome (l : Launch) (D : va_G) (T : Nat → ClassId) (A : Nat → Prop) (σ : wd_S) (wh v : Int32) : Met l y_F_mayBecome (Cond.code y_F_mayBecome b_F_mayBecome 2 (some .boolean) :: wd_tb) { frames := 1, cells := 0, slots := 0, locals := 22 } (va_Pc [.int wh, .int v] (wd_Pre D T A σ)) (va_Qi (fun r1 σ1 => r1 = xy wh v ∧ σ1 = σ) (wd_B D A) A) 0 0 A := by
  refine wd_ofW (by decide) (Nat.le_of_ble_eq_true rfl) ?_
  intro p e s m below meth c0 ls C hr hlocks hname h hl
  have hl : lv_has ls 2 [(0, .int wh), (1, .int v)] := hl
  have hx := C.1
  have hb := C.2.1
  refine lv_iload_n hx hb d_F_mayBecome_0 rfl (lv_at hl 0 rfl) ?_
  by_cases k_1 : wh = 0
  · refine lv_tableIn (tgt := 36) hx hb d_F_mayBecome_1 (by rw [k_1]; decide) (by rw [k_1]; decide) (by rw [k_1]; rfl) (by decide) ?_
    refine lv_iload_n hx hb d_F_mayBecome_36 rfl (lv_at hl 1 rfl) ?_
    refine lv_iconst (v := 0) hx hb d_F_mayBecome_37 (by decide) ?_
    refine lv_iconst (v := 3) hx hb d_F_mayBecome_38 (by decide) ?_
    refine wd_ci h (wd_rS (rest := []) (st0 := [.int 3, .int 0, .int v]) C h k_F_within wt_F_within lk_F_46 (c_F_within l D T A σ v 0 3) rfl rfl ⟨Nat.le_of_ble_eq_true rfl, Nat.le_of_ble_eq_true rfl⟩ rfl hl.1 rfl (Nat.le_of_ble_eq_true rfl) d_F_mayBecome_39 ⟨Nat.le_of_ble_eq_true rfl, Nat.le_of_ble_eq_true rfl⟩) (fun r_2 σ_3 H locs hp_4 h => ?_)
    obtain ⟨e_5, es_6⟩ := hp_4
    rw [es_6] at h
    subst e_5
    exact wd_zret C hr hlocks h (xw_01 _ _ _) (⟨by simp [xy, k_1], rfl⟩) (Nat.le_of_ble_eq_true rfl) (Nat.le_of_ble_eq_true rfl) d_F_mayBecome_42
  by_cases k_7 : wh = 1
  · refine lv_tableIn (tgt := 43) hx hb d_F_mayBecome_1 (by rw [k_7]; decide) (by rw [k_7]; decide) (by rw [k_7]; rfl) (by decide) ?_
    refine lv_iload_n hx hb d_F_mayBecome_43 rfl (lv_at hl 1 rfl) ?_
    refine lv_iconst (v := 1) hx hb d_F_mayBecome_44 (by decide) ?_
    refine lv_ldc (v := 100000) hx hb C.2.2.2.1 (C.2.2.2.2 _ lk_F_50) d_F_mayBecome_45 ?_
    refine wd_ci h (wd_rS (rest := []) (st0 := [.int 100000, .int 1, .int v]) C h k_F_within wt_F_within lk_F_46 (c_F_within l D T A σ v 1 100000) rfl rfl ⟨Nat.le_of_ble_eq_true rfl, Nat.le_of_ble_eq_true rfl⟩ rfl hl.1 rfl (Nat.le_of_ble_eq_true rfl) d_F_mayBecome_47 ⟨Nat.le_of_ble_eq_true rfl, Nat.le_of_ble_eq_true rfl⟩) (fun r_8 σ_9 H locs hp_10 h => ?_)
    obtain ⟨e_11, es_12⟩ := hp_10
    rw [es_12] at h
    subst e_11
    exact wd_zret C hr hlocks h (xw_01 _ _ _) (⟨by simp [xy, k_7], rfl⟩) (Nat.le_of_ble_eq_true rfl) (Nat.le_of_ble_eq_true rfl) d_F_mayBecome_50
  by_cases k_13 : wh = 2
  · refine lv_tableIn (tgt := 51) hx hb d_F_mayBecome_1 (by rw [k_13]; decide) (by rw [k_13]; decide) (by rw [k_13]; rfl) (by decide) ?_
    refine lv_iload_n hx hb d_F_mayBecome_51 rfl (lv_at hl 1 rfl) ?_
    refine lv_iconst (v := 0) hx hb d_F_mayBecome_52 (by decide) ?_
    refine lv_bipush (v := 9) hx hb d_F_mayBecome_53 (by decide) ?_
    refine wd_ci h (wd_rS (rest := []) (st0 := [.int 9, .int 0, .int v]) C h k_F_within wt_F_within lk_F_46 (c_F_within l D T A σ v 0 9) rfl rfl ⟨Nat.le_of_ble_eq_true rfl, Nat.le_of_ble_eq_true rfl⟩ rfl hl.1 rfl (Nat.le_of_ble_eq_true rfl) d_F_mayBecome_55 ⟨Nat.le_of_ble_eq_true rfl, Nat.le_of_ble_eq_true rfl⟩) (fun r_14 σ_15 H locs hp_16 h => ?_)
    obtain ⟨e_17, es_18⟩ := hp_16
    rw [es_18] at h
    subst e_17
    exact wd_zret C hr hlocks h (xw_01 _ _ _) (⟨by simp [xy, k_13], rfl⟩) (Nat.le_of_ble_eq_true rfl) (Nat.le_of_ble_eq_true rfl) d_F_mayBecome_58
  by_cases k_19 : wh = 3
  · refine lv_tableIn (tgt := 59) hx hb d_F_mayBecome_1 (by rw [k_19]; decide) (by rw [k_19]; decide) (by rw [k_19]; rfl) (by decide) ?_
    refine lv_iload_n hx hb d_F_mayBecome_59 rfl (lv_at hl 1 rfl) ?_
    refine lv_iconst (v := 0) hx hb d_F_mayBecome_60 (by decide) ?_
    refine lv_sipush (v := 9999) hx hb d_F_mayBecome_61 (by decide) ?_
    refine wd_ci h (wd_rS (rest := []) (st0 := [.int 9999, .int 0, .int v]) C h k_F_within wt_F_within lk_F_46 (c_F_within l D T A σ v 0 9999) rfl rfl ⟨Nat.le_of_ble_eq_true rfl, Nat.le_of_ble_eq_true rfl⟩ rfl hl.1 rfl (Nat.le_of_ble_eq_true rfl) d_F_mayBecome_64 ⟨Nat.le_of_ble_eq_true rfl, Nat.le_of_ble_eq_true rfl⟩) (fun r_20 σ_21 H locs hp_22 h => ?_)
    obtain ⟨e_23, es_24⟩ := hp_22
    rw [es_24] at h
    subst e_23
    exact wd_zret C hr hlocks h (xw_01 _ _ _) (⟨by simp [xy, k_19], rfl⟩) (Nat.le_of_ble_eq_true rfl) (Nat.le_of_ble_eq_true rfl) d_F_mayBecome_67
  by_cases k_25 : wh = 4
  · refine lv_tableIn (tgt := 59) hx hb d_F_mayBecome_1 (by rw [k_25]; decide) (by rw [k_25]; decide) (by rw [k_25]; rfl) (by decide) ?_
    refine lv_iload_n hx hb d_F_mayBecome_59 rfl (lv_at hl 1 rfl) ?_
    refine lv_iconst (v := 0) hx hb d_F_mayBecome_60 (by decide) ?_
    refine lv_sipush (v := 9999) hx hb d_F_mayBecome_61 (by decide) ?_
    refine wd_ci h (wd_rS (rest := []) (st0 := [.int 9999, .int 0, .int v]) C h k_F_within wt_F_within lk_F_46 (c_F_within l D T A σ v 0 9999) rfl rfl ⟨Nat.le_of_ble_eq_true rfl, Nat.le_of_ble_eq_true rfl⟩ rfl hl.1 rfl (Nat.le_of_ble_eq_true rfl) d_F_mayBecome_64 ⟨Nat.le_of_ble_eq_true rfl, Nat.le_of_ble_eq_true rfl⟩) (fun r_26 σ_27 H locs hp_28 h => ?_)
    obtain ⟨e_29, es_30⟩ := hp_28
    rw [es_30] at h
    subst e_29
    exact wd_zret C hr hlocks h (xw_01 _ _ _) (⟨by simp [xy, k_25], rfl⟩) (Nat.le_of_ble_eq_true rfl) (Nat.le_of_ble_eq_true rfl) d_F_mayBecome_67
  have n_31 := sw_ne k_1 (show ((0 : Int32)).toInt = 0 from by decide)
  have n_32 := sw_ne k_7 (show ((1 : Int32)).toInt = 1 from by decide)
  have n_33 := sw_ne k_13 (show ((2 : Int32)).toInt = 2 from by decide)
  have n_34 := sw_ne k_19 (show ((3 : Int32)).toInt = 3 from by decide)
  have n_35 := sw_ne k_25 (show ((4 : Int32)).toInt = 4 from by decide)
  refine lv_tableOut (tgt := 68) hx hb d_F_mayBecome_1 (by omega) (by decide) ?_
  refine lv_iconst (v := 0) hx hb d_F_mayBecome_68 (by decide) ?_
  exact wd_zret C hr hlocks h (by decide) (⟨by simp [xy, k_1, k_7, k_13, k_19, k_25], rfl⟩) (Nat.le_of_ble_eq_true rfl) (Nat.le_of_ble_eq_true rfl) d_F_mayBecome_69

set_option maxHeartbeats 4000000 in
set_option maxRecDepth 20000 in
theorem c_I_wouldStay (l : Launch) (D : va_G) (T : Nat → ClassId) (A : Nat → Prop) (σ : wd_S) (a : Nat) (r : Nat → Int32) (w c : Nat) (ha : σ a = some (xI r w c)) (wh v : Int32) : Met l y_I_wouldStay (Cond.code y_I_wouldStay b_I_wouldStay 3 (some .boolean) :: wd_tb) { frames := 1, cells := 0, slots := 0, locals := 23 } (va_Pc [.ref a, .int wh, .int v] (wd_Pre D T A σ)) (va_Qi (fun r1 σ1 => r1 = xs r wh v ∧ σ1 = σ) (wd_B D A) A) 0 0 A := by
  refine wd_ofW (by decide) (Nat.le_of_ble_eq_true rfl) ?_
  intro p e s m below meth c0 ls C hr hlocks hname h hl
  have hl : lv_has ls 3 [(0, .ref a), (1, .int wh), (2, .int v)] := hl
  have hx := C.1
  have hb := C.2.1
  refine lv_iload_n hx hb d_I_wouldStay_0 rfl (lv_at hl 1 rfl) ?_
  refine lv_if_ne (tgt := 38) hx hb d_I_wouldStay_1 (by decide) (fun c_1 => ?_) (fun c_1 => ?_)
  · refine lv_aload_n hx hb d_I_wouldStay_38 rfl (lv_at hl 0 rfl) ?_
    refine lv_iload_n hx hb d_I_wouldStay_39 rfl (lv_at hl 1 rfl) ?_
    refine wd_ci h (wd_rV (rest := []) (st0 := [.int wh, .ref a]) C h kc_I ha k_I_correctable wm_I_correctable wz_I_correctable lk_I_80 (c_I_correctable l D T A σ a r w c ha wh) rfl rfl ⟨Nat.le_of_ble_eq_true rfl, Nat.le_of_ble_eq_true rfl⟩ rfl hl.1 rfl (Nat.le_of_ble_eq_true rfl) d_I_wouldStay_40 ⟨Nat.le_of_ble_eq_true rfl, Nat.le_of_ble_eq_true rfl⟩) (fun r_2 σ_3 H locs hp_4 h => ?_)
    obtain ⟨e_5, es_6⟩ := hp_4
    rw [es_6] at h
    subst e_5
    refine lv_iload_n hx hb d_I_wouldStay_43 rfl (lv_at hl 2 rfl) ?_
    refine lv_icmp_ne (tgt := 51) hx hb d_I_wouldStay_44 (by decide) (fun c_7 => ?_) (fun c_7 => ?_)
    · refine lv_iconst (v := 0) hx hb d_I_wouldStay_51 (by decide) ?_
      exact wd_zret C hr hlocks h (by decide) (⟨by simp [xs, c_1, c_7], rfl⟩) (Nat.le_of_ble_eq_true rfl) (Nat.le_of_ble_eq_true rfl) d_I_wouldStay_52
    · refine lv_iconst (v := 1) hx hb d_I_wouldStay_47 (by decide) ?_
      refine lv_goto (tgt := 52) hx hb d_I_wouldStay_48 (by decide) ?_
      exact wd_zret C hr hlocks h (by decide) (⟨by simp [xs, c_1, c_7], rfl⟩) (Nat.le_of_ble_eq_true rfl) (Nat.le_of_ble_eq_true rfl) d_I_wouldStay_52
  · refine lv_iload_n hx hb d_I_wouldStay_4 rfl (lv_at hl 2 rfl) ?_
    refine lv_iconst (v := 0) hx hb d_I_wouldStay_5 (by decide) ?_
    refine lv_iconst (v := 3) hx hb d_I_wouldStay_6 (by decide) ?_
    refine wd_ci h (wd_rSN (rest := []) (st0 := [.int 3, .int 0, .int v]) C h k_F_within wt_F_within lk_I_65 (c_F_within l D T A σ v 0 3) rfl rfl ⟨Nat.le_of_ble_eq_true rfl, Nat.le_of_ble_eq_true rfl⟩ rfl hl.1 rfl (Nat.le_of_ble_eq_true rfl) d_I_wouldStay_7 ⟨Nat.le_of_ble_eq_true rfl, Nat.le_of_ble_eq_true rfl⟩) (fun r_8 σ_9 H locs hp_10 h => ?_)
    obtain ⟨e_11, es_12⟩ := hp_10
    rw [es_12] at h
    subst e_11
    refine lv_if_eq (tgt := 36) hx hb d_I_wouldStay_10 (by decide) (fun c_13 => ?_) (fun c_13 => ?_)
    · refine lv_iconst (v := 0) hx hb d_I_wouldStay_36 (by decide) ?_
      exact wd_zret C hr hlocks h (by decide) (⟨by simp [xs, c_1, c_13], rfl⟩) (Nat.le_of_ble_eq_true rfl) (Nat.le_of_ble_eq_true rfl) d_I_wouldStay_37
    · refine lv_iload_n hx hb d_I_wouldStay_13 rfl (lv_at hl 2 rfl) ?_
      refine lv_aload_n hx hb d_I_wouldStay_14 rfl (lv_at hl 0 rfl) ?_
      refine wd_get C h kc_I ha 1 (by decide) lk_I_15 rfl d_I_wouldStay_15 ?_
      refine lv_aload_n hx hb d_I_wouldStay_18 rfl (lv_at hl 0 rfl) ?_
      refine wd_get C h kc_I ha 2 (by decide) lk_I_18 rfl d_I_wouldStay_19 ?_
      refine wd_ci h (wd_rSN (rest := []) (st0 := [.int (r 2), .int (r 1), .int v]) C h k_F_turned wt_F_turned lk_I_76 (c_F_turned l D T A σ v (r 1) (r 2) (xw_03 c_13)) rfl rfl ⟨Nat.le_of_ble_eq_true rfl, Nat.le_of_ble_eq_true rfl⟩ rfl hl.1 rfl (Nat.le_of_ble_eq_true rfl) d_I_wouldStay_22 ⟨Nat.le_of_ble_eq_true rfl, Nat.le_of_ble_eq_true rfl⟩) (fun r_14 σ_15 H locs hp_16 h => ?_)
      obtain ⟨e_17, es_18⟩ := hp_16
      rw [es_18] at h
      subst e_17
      refine lv_aload_n hx hb d_I_wouldStay_25 rfl (lv_at hl 0 rfl) ?_
      refine wd_get C h kc_I ha 0 (by decide) lk_I_9 rfl d_I_wouldStay_26 ?_
      refine lv_icmp_ne (tgt := 36) hx hb d_I_wouldStay_29 (by decide) (fun c_19 => ?_) (fun c_19 => ?_)
      · refine lv_iconst (v := 0) hx hb d_I_wouldStay_36 (by decide) ?_
        exact wd_zret C hr hlocks h (by decide) (⟨by simp [xs, c_1, c_13, c_19], rfl⟩) (Nat.le_of_ble_eq_true rfl) (Nat.le_of_ble_eq_true rfl) d_I_wouldStay_37
      · refine lv_iconst (v := 1) hx hb d_I_wouldStay_32 (by decide) ?_
        refine lv_goto (tgt := 37) hx hb d_I_wouldStay_33 (by decide) ?_
        exact wd_zret C hr hlocks h (by decide) (⟨by simp [xs, c_1, c_13, c_19], rfl⟩) (Nat.le_of_ble_eq_true rfl) (Nat.le_of_ble_eq_true rfl) d_I_wouldStay_37

set_option maxHeartbeats 4000000 in
set_option maxRecDepth 20000 in
theorem c_I_become (l : Launch) (D : va_G) (T : Nat → ClassId) (A : Nat → Prop) (σ : wd_S) (a : Nat) (r : Nat → Int32) (w c : Nat) (ha : σ a = some (xI r w c)) (wh v : Int32) (hk : xm0 r wh v 0 = 0 ∨ xm0 r wh v 0 = 1 ∨ xm0 r wh v 0 = 2 ∨ xm0 r wh v 0 = 3) : Met l y_I_become (Cond.code y_I_become b_I_become 3 none :: wd_tb) { frames := 1, cells := 0, slots := 0, locals := 23 } (va_Pc [.ref a, .int wh, .int v] (wd_Pre D T A σ)) (va_Qv (fun σ1 => σ1 = wd_up σ a (xI (xm r wh v) w c)) (wd_B D A) A) 0 0 A := by
  refine wd_ofW (by decide) (Nat.le_of_ble_eq_true rfl) ?_
  intro p e s m below meth c0 ls C hr hlocks hname h hl
  have hl : lv_has ls 3 [(0, .ref a), (1, .int wh), (2, .int v)] := hl
  have hx := C.1
  have hb := C.2.1
  refine lv_iload_n hx hb d_I_become_0 rfl (lv_at hl 1 rfl) ?_
  by_cases k_1 : wh = 0
  · refine lv_tableIn (tgt := 36) hx hb d_I_become_1 (by rw [k_1]; decide) (by rw [k_1]; decide) (by rw [k_1]; rfl) (by decide) ?_
    refine lv_aload_n hx hb d_I_become_36 rfl (lv_at hl 0 rfl) ?_
    refine lv_iload_n hx hb d_I_become_37 rfl (lv_at hl 2 rfl) ?_
    refine wd_put C h kc_I ha 0 (by decide) lk_I_9 rfl (by rfl) (by rfl) (Nat.le_of_ble_eq_true rfl) d_I_become_38 (fun H locs h => ?_)
    have h : wd_C D T A s H locs (wd_up σ a (.inr (1, [.int v, .int (r 1), .int (r 2), .int (r 3), .int (r 4), .int (r 5), .int (r 6), .int (r 7), .int (r 8), .int (r 9), .int (r 10), .int (r 11), .int (r 12), .int (r 13), .int (r 14), .ref w, .ref c]))) := h
    have h_2 : (wd_up σ a (.inr (1, [.int v, .int (r 1), .int (r 2), .int (r 3), .int (r 4), .int (r 5), .int (r 6), .int (r 7), .int (r 8), .int (r 9), .int (r 10), .int (r 11), .int (r 12), .int (r 13), .int (r 14), .ref w, .ref c]))) a = some (.inr (1, [.int v, .int (r 1), .int (r 2), .int (r 3), .int (r 4), .int (r 5), .int (r 6), .int (r 7), .int (r 8), .int (r 9), .int (r 10), .int (r 11), .int (r 12), .int (r 13), .int (r 14), .ref w, .ref c])) := wd_us _ _ _
    refine lv_goto (tgt := 76) hx hb d_I_become_41 (by decide) ?_
    refine lv_aload_n hx hb d_I_become_76 rfl (lv_at hl 0 rfl) ?_
    refine lv_aload_n hx hb d_I_become_77 rfl (lv_at hl 0 rfl) ?_
    refine wd_get C h kc_I h_2 0 (by decide) lk_I_9 rfl d_I_become_78 ?_
    refine lv_aload_n hx hb d_I_become_81 rfl (lv_at hl 0 rfl) ?_
    refine wd_get C h kc_I h_2 1 (by decide) lk_I_15 rfl d_I_become_82 ?_
    refine lv_aload_n hx hb d_I_become_85 rfl (lv_at hl 0 rfl) ?_
    refine wd_get C h kc_I h_2 2 (by decide) lk_I_18 rfl d_I_become_86 ?_
    refine wd_ci h (wd_rSN (rest := [.ref a]) (st0 := [.int (r 2), .int (r 1), .int v, .ref a]) C h k_F_turned wt_F_turned lk_I_76 (c_F_turned l D T A (wd_up σ a (.inr (1, [.int v, .int (r 1), .int (r 2), .int (r 3), .int (r 4), .int (r 5), .int (r 6), .int (r 7), .int (r 8), .int (r 9), .int (r 10), .int (r 11), .int (r 12), .int (r 13), .int (r 14), .ref w, .ref c]))) v (r 1) (r 2) (by simpa [xm0, upd, k_1] using hk)) rfl rfl ⟨Nat.le_of_ble_eq_true rfl, Nat.le_of_ble_eq_true rfl⟩ rfl hl.1 rfl (Nat.le_of_ble_eq_true rfl) d_I_become_89 ⟨Nat.le_of_ble_eq_true rfl, Nat.le_of_ble_eq_true rfl⟩) (fun r_3 σ_4 H locs hp_5 h => ?_)
    obtain ⟨e_6, es_7⟩ := hp_5
    rw [es_7] at h
    subst e_6
    refine wd_put C h kc_I h_2 0 (by decide) lk_I_9 rfl (by rfl) (by rfl) (Nat.le_of_ble_eq_true rfl) d_I_become_92 (fun H locs h => ?_)
    rw [wd_uu] at h
    have h : wd_C D T A s H locs (wd_up σ a (.inr (1, [.int (xt v (r 1) (r 2)), .int (r 1), .int (r 2), .int (r 3), .int (r 4), .int (r 5), .int (r 6), .int (r 7), .int (r 8), .int (r 9), .int (r 10), .int (r 11), .int (r 12), .int (r 13), .int (r 14), .ref w, .ref c]))) := h
    have h_8 : (wd_up σ a (.inr (1, [.int (xt v (r 1) (r 2)), .int (r 1), .int (r 2), .int (r 3), .int (r 4), .int (r 5), .int (r 6), .int (r 7), .int (r 8), .int (r 9), .int (r 10), .int (r 11), .int (r 12), .int (r 13), .int (r 14), .ref w, .ref c]))) a = some (.inr (1, [.int (xt v (r 1) (r 2)), .int (r 1), .int (r 2), .int (r 3), .int (r 4), .int (r 5), .int (r 6), .int (r 7), .int (r 8), .int (r 9), .int (r 10), .int (r 11), .int (r 12), .int (r 13), .int (r 14), .ref w, .ref c])) := wd_us _ _ _
    exact wd_vret C hr hlocks h (by rw [show xm r wh v = upd (upd r 0 v) 0 (xt ((upd r 0 v) 0) ((upd r 0 v) 1) ((upd r 0 v) 2)) from by unfold xm; rw [show xm0 r wh v = (upd r 0 v) from by simp [xm0, k_1]]]; rfl) (Nat.le_of_ble_eq_true rfl) (Nat.le_of_ble_eq_true rfl) d_I_become_95
  by_cases k_9 : wh = 1
  · refine lv_tableIn (tgt := 44) hx hb d_I_become_1 (by rw [k_9]; decide) (by rw [k_9]; decide) (by rw [k_9]; rfl) (by decide) ?_
    refine lv_aload_n hx hb d_I_become_44 rfl (lv_at hl 0 rfl) ?_
    refine lv_iload_n hx hb d_I_become_45 rfl (lv_at hl 2 rfl) ?_
    refine wd_put C h kc_I ha 1 (by decide) lk_I_15 rfl (by rfl) (by rfl) (Nat.le_of_ble_eq_true rfl) d_I_become_46 (fun H locs h => ?_)
    have h : wd_C D T A s H locs (wd_up σ a (.inr (1, [.int (r 0), .int v, .int (r 2), .int (r 3), .int (r 4), .int (r 5), .int (r 6), .int (r 7), .int (r 8), .int (r 9), .int (r 10), .int (r 11), .int (r 12), .int (r 13), .int (r 14), .ref w, .ref c]))) := h
    have h_10 : (wd_up σ a (.inr (1, [.int (r 0), .int v, .int (r 2), .int (r 3), .int (r 4), .int (r 5), .int (r 6), .int (r 7), .int (r 8), .int (r 9), .int (r 10), .int (r 11), .int (r 12), .int (r 13), .int (r 14), .ref w, .ref c]))) a = some (.inr (1, [.int (r 0), .int v, .int (r 2), .int (r 3), .int (r 4), .int (r 5), .int (r 6), .int (r 7), .int (r 8), .int (r 9), .int (r 10), .int (r 11), .int (r 12), .int (r 13), .int (r 14), .ref w, .ref c])) := wd_us _ _ _
    refine lv_goto (tgt := 76) hx hb d_I_become_49 (by decide) ?_
    refine lv_aload_n hx hb d_I_become_76 rfl (lv_at hl 0 rfl) ?_
    refine lv_aload_n hx hb d_I_become_77 rfl (lv_at hl 0 rfl) ?_
    refine wd_get C h kc_I h_10 0 (by decide) lk_I_9 rfl d_I_become_78 ?_
    refine lv_aload_n hx hb d_I_become_81 rfl (lv_at hl 0 rfl) ?_
    refine wd_get C h kc_I h_10 1 (by decide) lk_I_15 rfl d_I_become_82 ?_
    refine lv_aload_n hx hb d_I_become_85 rfl (lv_at hl 0 rfl) ?_
    refine wd_get C h kc_I h_10 2 (by decide) lk_I_18 rfl d_I_become_86 ?_
    refine wd_ci h (wd_rSN (rest := [.ref a]) (st0 := [.int (r 2), .int v, .int (r 0), .ref a]) C h k_F_turned wt_F_turned lk_I_76 (c_F_turned l D T A (wd_up σ a (.inr (1, [.int (r 0), .int v, .int (r 2), .int (r 3), .int (r 4), .int (r 5), .int (r 6), .int (r 7), .int (r 8), .int (r 9), .int (r 10), .int (r 11), .int (r 12), .int (r 13), .int (r 14), .ref w, .ref c]))) (r 0) v (r 2) (by simpa [xm0, upd, k_9] using hk)) rfl rfl ⟨Nat.le_of_ble_eq_true rfl, Nat.le_of_ble_eq_true rfl⟩ rfl hl.1 rfl (Nat.le_of_ble_eq_true rfl) d_I_become_89 ⟨Nat.le_of_ble_eq_true rfl, Nat.le_of_ble_eq_true rfl⟩) (fun r_11 σ_12 H locs hp_13 h => ?_)
    obtain ⟨e_14, es_15⟩ := hp_13
    rw [es_15] at h
    subst e_14
    refine wd_put C h kc_I h_10 0 (by decide) lk_I_9 rfl (by rfl) (by rfl) (Nat.le_of_ble_eq_true rfl) d_I_become_92 (fun H locs h => ?_)
    rw [wd_uu] at h
    have h : wd_C D T A s H locs (wd_up σ a (.inr (1, [.int (xt (r 0) v (r 2)), .int v, .int (r 2), .int (r 3), .int (r 4), .int (r 5), .int (r 6), .int (r 7), .int (r 8), .int (r 9), .int (r 10), .int (r 11), .int (r 12), .int (r 13), .int (r 14), .ref w, .ref c]))) := h
    have h_16 : (wd_up σ a (.inr (1, [.int (xt (r 0) v (r 2)), .int v, .int (r 2), .int (r 3), .int (r 4), .int (r 5), .int (r 6), .int (r 7), .int (r 8), .int (r 9), .int (r 10), .int (r 11), .int (r 12), .int (r 13), .int (r 14), .ref w, .ref c]))) a = some (.inr (1, [.int (xt (r 0) v (r 2)), .int v, .int (r 2), .int (r 3), .int (r 4), .int (r 5), .int (r 6), .int (r 7), .int (r 8), .int (r 9), .int (r 10), .int (r 11), .int (r 12), .int (r 13), .int (r 14), .ref w, .ref c])) := wd_us _ _ _
    exact wd_vret C hr hlocks h (by rw [show xm r wh v = upd (upd r 1 v) 0 (xt ((upd r 1 v) 0) ((upd r 1 v) 1) ((upd r 1 v) 2)) from by unfold xm; rw [show xm0 r wh v = (upd r 1 v) from by simp [xm0, k_9]]]; rfl) (Nat.le_of_ble_eq_true rfl) (Nat.le_of_ble_eq_true rfl) d_I_become_95
  by_cases k_17 : wh = 2
  · refine lv_tableIn (tgt := 52) hx hb d_I_become_1 (by rw [k_17]; decide) (by rw [k_17]; decide) (by rw [k_17]; rfl) (by decide) ?_
    refine lv_aload_n hx hb d_I_become_52 rfl (lv_at hl 0 rfl) ?_
    refine lv_iload_n hx hb d_I_become_53 rfl (lv_at hl 2 rfl) ?_
    refine wd_put C h kc_I ha 2 (by decide) lk_I_18 rfl (by rfl) (by rfl) (Nat.le_of_ble_eq_true rfl) d_I_become_54 (fun H locs h => ?_)
    have h : wd_C D T A s H locs (wd_up σ a (.inr (1, [.int (r 0), .int (r 1), .int v, .int (r 3), .int (r 4), .int (r 5), .int (r 6), .int (r 7), .int (r 8), .int (r 9), .int (r 10), .int (r 11), .int (r 12), .int (r 13), .int (r 14), .ref w, .ref c]))) := h
    have h_18 : (wd_up σ a (.inr (1, [.int (r 0), .int (r 1), .int v, .int (r 3), .int (r 4), .int (r 5), .int (r 6), .int (r 7), .int (r 8), .int (r 9), .int (r 10), .int (r 11), .int (r 12), .int (r 13), .int (r 14), .ref w, .ref c]))) a = some (.inr (1, [.int (r 0), .int (r 1), .int v, .int (r 3), .int (r 4), .int (r 5), .int (r 6), .int (r 7), .int (r 8), .int (r 9), .int (r 10), .int (r 11), .int (r 12), .int (r 13), .int (r 14), .ref w, .ref c])) := wd_us _ _ _
    refine lv_goto (tgt := 76) hx hb d_I_become_57 (by decide) ?_
    refine lv_aload_n hx hb d_I_become_76 rfl (lv_at hl 0 rfl) ?_
    refine lv_aload_n hx hb d_I_become_77 rfl (lv_at hl 0 rfl) ?_
    refine wd_get C h kc_I h_18 0 (by decide) lk_I_9 rfl d_I_become_78 ?_
    refine lv_aload_n hx hb d_I_become_81 rfl (lv_at hl 0 rfl) ?_
    refine wd_get C h kc_I h_18 1 (by decide) lk_I_15 rfl d_I_become_82 ?_
    refine lv_aload_n hx hb d_I_become_85 rfl (lv_at hl 0 rfl) ?_
    refine wd_get C h kc_I h_18 2 (by decide) lk_I_18 rfl d_I_become_86 ?_
    refine wd_ci h (wd_rSN (rest := [.ref a]) (st0 := [.int v, .int (r 1), .int (r 0), .ref a]) C h k_F_turned wt_F_turned lk_I_76 (c_F_turned l D T A (wd_up σ a (.inr (1, [.int (r 0), .int (r 1), .int v, .int (r 3), .int (r 4), .int (r 5), .int (r 6), .int (r 7), .int (r 8), .int (r 9), .int (r 10), .int (r 11), .int (r 12), .int (r 13), .int (r 14), .ref w, .ref c]))) (r 0) (r 1) v (by simpa [xm0, upd, k_17] using hk)) rfl rfl ⟨Nat.le_of_ble_eq_true rfl, Nat.le_of_ble_eq_true rfl⟩ rfl hl.1 rfl (Nat.le_of_ble_eq_true rfl) d_I_become_89 ⟨Nat.le_of_ble_eq_true rfl, Nat.le_of_ble_eq_true rfl⟩) (fun r_19 σ_20 H locs hp_21 h => ?_)
    obtain ⟨e_22, es_23⟩ := hp_21
    rw [es_23] at h
    subst e_22
    refine wd_put C h kc_I h_18 0 (by decide) lk_I_9 rfl (by rfl) (by rfl) (Nat.le_of_ble_eq_true rfl) d_I_become_92 (fun H locs h => ?_)
    rw [wd_uu] at h
    have h : wd_C D T A s H locs (wd_up σ a (.inr (1, [.int (xt (r 0) (r 1) v), .int (r 1), .int v, .int (r 3), .int (r 4), .int (r 5), .int (r 6), .int (r 7), .int (r 8), .int (r 9), .int (r 10), .int (r 11), .int (r 12), .int (r 13), .int (r 14), .ref w, .ref c]))) := h
    have h_24 : (wd_up σ a (.inr (1, [.int (xt (r 0) (r 1) v), .int (r 1), .int v, .int (r 3), .int (r 4), .int (r 5), .int (r 6), .int (r 7), .int (r 8), .int (r 9), .int (r 10), .int (r 11), .int (r 12), .int (r 13), .int (r 14), .ref w, .ref c]))) a = some (.inr (1, [.int (xt (r 0) (r 1) v), .int (r 1), .int v, .int (r 3), .int (r 4), .int (r 5), .int (r 6), .int (r 7), .int (r 8), .int (r 9), .int (r 10), .int (r 11), .int (r 12), .int (r 13), .int (r 14), .ref w, .ref c])) := wd_us _ _ _
    exact wd_vret C hr hlocks h (by rw [show xm r wh v = upd (upd r 2 v) 0 (xt ((upd r 2 v) 0) ((upd r 2 v) 1) ((upd r 2 v) 2)) from by unfold xm; rw [show xm0 r wh v = (upd r 2 v) from by simp [xm0, k_17]]]; rfl) (Nat.le_of_ble_eq_true rfl) (Nat.le_of_ble_eq_true rfl) d_I_become_95
  by_cases k_25 : wh = 3
  · refine lv_tableIn (tgt := 60) hx hb d_I_become_1 (by rw [k_25]; decide) (by rw [k_25]; decide) (by rw [k_25]; rfl) (by decide) ?_
    refine lv_aload_n hx hb d_I_become_60 rfl (lv_at hl 0 rfl) ?_
    refine lv_iload_n hx hb d_I_become_61 rfl (lv_at hl 2 rfl) ?_
    refine wd_put C h kc_I ha 7 (by decide) lk_I_34 rfl (by rfl) (by rfl) (Nat.le_of_ble_eq_true rfl) d_I_become_62 (fun H locs h => ?_)
    have h : wd_C D T A s H locs (wd_up σ a (.inr (1, [.int (r 0), .int (r 1), .int (r 2), .int (r 3), .int (r 4), .int (r 5), .int (r 6), .int v, .int (r 8), .int (r 9), .int (r 10), .int (r 11), .int (r 12), .int (r 13), .int (r 14), .ref w, .ref c]))) := h
    have h_26 : (wd_up σ a (.inr (1, [.int (r 0), .int (r 1), .int (r 2), .int (r 3), .int (r 4), .int (r 5), .int (r 6), .int v, .int (r 8), .int (r 9), .int (r 10), .int (r 11), .int (r 12), .int (r 13), .int (r 14), .ref w, .ref c]))) a = some (.inr (1, [.int (r 0), .int (r 1), .int (r 2), .int (r 3), .int (r 4), .int (r 5), .int (r 6), .int v, .int (r 8), .int (r 9), .int (r 10), .int (r 11), .int (r 12), .int (r 13), .int (r 14), .ref w, .ref c])) := wd_us _ _ _
    refine lv_goto (tgt := 76) hx hb d_I_become_65 (by decide) ?_
    refine lv_aload_n hx hb d_I_become_76 rfl (lv_at hl 0 rfl) ?_
    refine lv_aload_n hx hb d_I_become_77 rfl (lv_at hl 0 rfl) ?_
    refine wd_get C h kc_I h_26 0 (by decide) lk_I_9 rfl d_I_become_78 ?_
    refine lv_aload_n hx hb d_I_become_81 rfl (lv_at hl 0 rfl) ?_
    refine wd_get C h kc_I h_26 1 (by decide) lk_I_15 rfl d_I_become_82 ?_
    refine lv_aload_n hx hb d_I_become_85 rfl (lv_at hl 0 rfl) ?_
    refine wd_get C h kc_I h_26 2 (by decide) lk_I_18 rfl d_I_become_86 ?_
    refine wd_ci h (wd_rSN (rest := [.ref a]) (st0 := [.int (r 2), .int (r 1), .int (r 0), .ref a]) C h k_F_turned wt_F_turned lk_I_76 (c_F_turned l D T A (wd_up σ a (.inr (1, [.int (r 0), .int (r 1), .int (r 2), .int (r 3), .int (r 4), .int (r 5), .int (r 6), .int v, .int (r 8), .int (r 9), .int (r 10), .int (r 11), .int (r 12), .int (r 13), .int (r 14), .ref w, .ref c]))) (r 0) (r 1) (r 2) (by simpa [xm0, upd, k_25] using hk)) rfl rfl ⟨Nat.le_of_ble_eq_true rfl, Nat.le_of_ble_eq_true rfl⟩ rfl hl.1 rfl (Nat.le_of_ble_eq_true rfl) d_I_become_89 ⟨Nat.le_of_ble_eq_true rfl, Nat.le_of_ble_eq_true rfl⟩) (fun r_27 σ_28 H locs hp_29 h => ?_)
    obtain ⟨e_30, es_31⟩ := hp_29
    rw [es_31] at h
    subst e_30
    refine wd_put C h kc_I h_26 0 (by decide) lk_I_9 rfl (by rfl) (by rfl) (Nat.le_of_ble_eq_true rfl) d_I_become_92 (fun H locs h => ?_)
    rw [wd_uu] at h
    have h : wd_C D T A s H locs (wd_up σ a (.inr (1, [.int (xt (r 0) (r 1) (r 2)), .int (r 1), .int (r 2), .int (r 3), .int (r 4), .int (r 5), .int (r 6), .int v, .int (r 8), .int (r 9), .int (r 10), .int (r 11), .int (r 12), .int (r 13), .int (r 14), .ref w, .ref c]))) := h
    have h_32 : (wd_up σ a (.inr (1, [.int (xt (r 0) (r 1) (r 2)), .int (r 1), .int (r 2), .int (r 3), .int (r 4), .int (r 5), .int (r 6), .int v, .int (r 8), .int (r 9), .int (r 10), .int (r 11), .int (r 12), .int (r 13), .int (r 14), .ref w, .ref c]))) a = some (.inr (1, [.int (xt (r 0) (r 1) (r 2)), .int (r 1), .int (r 2), .int (r 3), .int (r 4), .int (r 5), .int (r 6), .int v, .int (r 8), .int (r 9), .int (r 10), .int (r 11), .int (r 12), .int (r 13), .int (r 14), .ref w, .ref c])) := wd_us _ _ _
    exact wd_vret C hr hlocks h (by rw [show xm r wh v = upd (upd r 7 v) 0 (xt ((upd r 7 v) 0) ((upd r 7 v) 1) ((upd r 7 v) 2)) from by unfold xm; rw [show xm0 r wh v = (upd r 7 v) from by simp [xm0, k_25]]]; rfl) (Nat.le_of_ble_eq_true rfl) (Nat.le_of_ble_eq_true rfl) d_I_become_95
  by_cases k_33 : wh = 4
  · refine lv_tableIn (tgt := 68) hx hb d_I_become_1 (by rw [k_33]; decide) (by rw [k_33]; decide) (by rw [k_33]; rfl) (by decide) ?_
    refine lv_aload_n hx hb d_I_become_68 rfl (lv_at hl 0 rfl) ?_
    refine lv_iload_n hx hb d_I_become_69 rfl (lv_at hl 2 rfl) ?_
    refine wd_put C h kc_I ha 8 (by decide) lk_I_37 rfl (by rfl) (by rfl) (Nat.le_of_ble_eq_true rfl) d_I_become_70 (fun H locs h => ?_)
    have h : wd_C D T A s H locs (wd_up σ a (.inr (1, [.int (r 0), .int (r 1), .int (r 2), .int (r 3), .int (r 4), .int (r 5), .int (r 6), .int (r 7), .int v, .int (r 9), .int (r 10), .int (r 11), .int (r 12), .int (r 13), .int (r 14), .ref w, .ref c]))) := h
    have h_34 : (wd_up σ a (.inr (1, [.int (r 0), .int (r 1), .int (r 2), .int (r 3), .int (r 4), .int (r 5), .int (r 6), .int (r 7), .int v, .int (r 9), .int (r 10), .int (r 11), .int (r 12), .int (r 13), .int (r 14), .ref w, .ref c]))) a = some (.inr (1, [.int (r 0), .int (r 1), .int (r 2), .int (r 3), .int (r 4), .int (r 5), .int (r 6), .int (r 7), .int v, .int (r 9), .int (r 10), .int (r 11), .int (r 12), .int (r 13), .int (r 14), .ref w, .ref c])) := wd_us _ _ _
    refine lv_goto (tgt := 76) hx hb d_I_become_73 (by decide) ?_
    refine lv_aload_n hx hb d_I_become_76 rfl (lv_at hl 0 rfl) ?_
    refine lv_aload_n hx hb d_I_become_77 rfl (lv_at hl 0 rfl) ?_
    refine wd_get C h kc_I h_34 0 (by decide) lk_I_9 rfl d_I_become_78 ?_
    refine lv_aload_n hx hb d_I_become_81 rfl (lv_at hl 0 rfl) ?_
    refine wd_get C h kc_I h_34 1 (by decide) lk_I_15 rfl d_I_become_82 ?_
    refine lv_aload_n hx hb d_I_become_85 rfl (lv_at hl 0 rfl) ?_
    refine wd_get C h kc_I h_34 2 (by decide) lk_I_18 rfl d_I_become_86 ?_
    refine wd_ci h (wd_rSN (rest := [.ref a]) (st0 := [.int (r 2), .int (r 1), .int (r 0), .ref a]) C h k_F_turned wt_F_turned lk_I_76 (c_F_turned l D T A (wd_up σ a (.inr (1, [.int (r 0), .int (r 1), .int (r 2), .int (r 3), .int (r 4), .int (r 5), .int (r 6), .int (r 7), .int v, .int (r 9), .int (r 10), .int (r 11), .int (r 12), .int (r 13), .int (r 14), .ref w, .ref c]))) (r 0) (r 1) (r 2) (by simpa [xm0, upd, k_33] using hk)) rfl rfl ⟨Nat.le_of_ble_eq_true rfl, Nat.le_of_ble_eq_true rfl⟩ rfl hl.1 rfl (Nat.le_of_ble_eq_true rfl) d_I_become_89 ⟨Nat.le_of_ble_eq_true rfl, Nat.le_of_ble_eq_true rfl⟩) (fun r_35 σ_36 H locs hp_37 h => ?_)
    obtain ⟨e_38, es_39⟩ := hp_37
    rw [es_39] at h
    subst e_38
    refine wd_put C h kc_I h_34 0 (by decide) lk_I_9 rfl (by rfl) (by rfl) (Nat.le_of_ble_eq_true rfl) d_I_become_92 (fun H locs h => ?_)
    rw [wd_uu] at h
    have h : wd_C D T A s H locs (wd_up σ a (.inr (1, [.int (xt (r 0) (r 1) (r 2)), .int (r 1), .int (r 2), .int (r 3), .int (r 4), .int (r 5), .int (r 6), .int (r 7), .int v, .int (r 9), .int (r 10), .int (r 11), .int (r 12), .int (r 13), .int (r 14), .ref w, .ref c]))) := h
    have h_40 : (wd_up σ a (.inr (1, [.int (xt (r 0) (r 1) (r 2)), .int (r 1), .int (r 2), .int (r 3), .int (r 4), .int (r 5), .int (r 6), .int (r 7), .int v, .int (r 9), .int (r 10), .int (r 11), .int (r 12), .int (r 13), .int (r 14), .ref w, .ref c]))) a = some (.inr (1, [.int (xt (r 0) (r 1) (r 2)), .int (r 1), .int (r 2), .int (r 3), .int (r 4), .int (r 5), .int (r 6), .int (r 7), .int v, .int (r 9), .int (r 10), .int (r 11), .int (r 12), .int (r 13), .int (r 14), .ref w, .ref c])) := wd_us _ _ _
    exact wd_vret C hr hlocks h (by rw [show xm r wh v = upd (upd r 8 v) 0 (xt ((upd r 8 v) 0) ((upd r 8 v) 1) ((upd r 8 v) 2)) from by unfold xm; rw [show xm0 r wh v = (upd r 8 v) from by simp [xm0, k_33]]]; rfl) (Nat.le_of_ble_eq_true rfl) (Nat.le_of_ble_eq_true rfl) d_I_become_95
  have n_41 := sw_ne k_1 (show ((0 : Int32)).toInt = 0 from by decide)
  have n_42 := sw_ne k_9 (show ((1 : Int32)).toInt = 1 from by decide)
  have n_43 := sw_ne k_17 (show ((2 : Int32)).toInt = 2 from by decide)
  have n_44 := sw_ne k_25 (show ((3 : Int32)).toInt = 3 from by decide)
  have n_45 := sw_ne k_33 (show ((4 : Int32)).toInt = 4 from by decide)
  refine lv_tableOut (tgt := 76) hx hb d_I_become_1 (by omega) (by decide) ?_
  refine lv_aload_n hx hb d_I_become_76 rfl (lv_at hl 0 rfl) ?_
  refine lv_aload_n hx hb d_I_become_77 rfl (lv_at hl 0 rfl) ?_
  refine wd_get C h kc_I ha 0 (by decide) lk_I_9 rfl d_I_become_78 ?_
  refine lv_aload_n hx hb d_I_become_81 rfl (lv_at hl 0 rfl) ?_
  refine wd_get C h kc_I ha 1 (by decide) lk_I_15 rfl d_I_become_82 ?_
  refine lv_aload_n hx hb d_I_become_85 rfl (lv_at hl 0 rfl) ?_
  refine wd_get C h kc_I ha 2 (by decide) lk_I_18 rfl d_I_become_86 ?_
  refine wd_ci h (wd_rSN (rest := [.ref a]) (st0 := [.int (r 2), .int (r 1), .int (r 0), .ref a]) C h k_F_turned wt_F_turned lk_I_76 (c_F_turned l D T A σ (r 0) (r 1) (r 2) (by simpa [xm0, upd, k_1, k_9, k_17, k_25, k_33] using hk)) rfl rfl ⟨Nat.le_of_ble_eq_true rfl, Nat.le_of_ble_eq_true rfl⟩ rfl hl.1 rfl (Nat.le_of_ble_eq_true rfl) d_I_become_89 ⟨Nat.le_of_ble_eq_true rfl, Nat.le_of_ble_eq_true rfl⟩) (fun r_46 σ_47 H locs hp_48 h => ?_)
  obtain ⟨e_49, es_50⟩ := hp_48
  rw [es_50] at h
  subst e_49
  refine wd_put C h kc_I ha 0 (by decide) lk_I_9 rfl (by rfl) (by rfl) (Nat.le_of_ble_eq_true rfl) d_I_become_92 (fun H locs h => ?_)
  have h : wd_C D T A s H locs (wd_up σ a (.inr (1, [.int (xt (r 0) (r 1) (r 2)), .int (r 1), .int (r 2), .int (r 3), .int (r 4), .int (r 5), .int (r 6), .int (r 7), .int (r 8), .int (r 9), .int (r 10), .int (r 11), .int (r 12), .int (r 13), .int (r 14), .ref w, .ref c]))) := h
  have h_51 : (wd_up σ a (.inr (1, [.int (xt (r 0) (r 1) (r 2)), .int (r 1), .int (r 2), .int (r 3), .int (r 4), .int (r 5), .int (r 6), .int (r 7), .int (r 8), .int (r 9), .int (r 10), .int (r 11), .int (r 12), .int (r 13), .int (r 14), .ref w, .ref c]))) a = some (.inr (1, [.int (xt (r 0) (r 1) (r 2)), .int (r 1), .int (r 2), .int (r 3), .int (r 4), .int (r 5), .int (r 6), .int (r 7), .int (r 8), .int (r 9), .int (r 10), .int (r 11), .int (r 12), .int (r 13), .int (r 14), .ref w, .ref c])) := wd_us _ _ _
  exact wd_vret C hr hlocks h (by rw [show xm r wh v = upd r 0 (xt (r 0) (r 1) (r 2)) from by unfold xm; rw [show xm0 r wh v = r from by simp [xm0, k_1, k_9, k_17, k_25, k_33]]]; rfl) (Nat.le_of_ble_eq_true rfl) (Nat.le_of_ble_eq_true rfl) d_I_become_95

set_option maxHeartbeats 4000000 in
set_option maxRecDepth 20000 in
theorem c_C_part (l : Launch) (D : va_G) (T : Nat → ClassId) (A : Nat → Prop) (σ : wd_S) (a : Nat) (k : Nat → Int32) (ha : σ a = some (xC k)) (wh : Int32) : Met l y_C_part (Cond.code y_C_part b_C_part 2 (some .int) :: wd_tb) { frames := 0, cells := 0, slots := 0, locals := 0 } (va_Pc [.ref a, .int wh] (wd_Pre D T A σ)) (va_Qi (fun r1 σ1 => r1 = xp k wh ∧ σ1 = σ) (wd_B D A) A) 0 0 A := by
  refine wd_ofW (by decide) (Nat.le_of_ble_eq_true rfl) ?_
  intro p e s m below meth c0 ls C hr hlocks hname h hl
  have hl : lv_has ls 2 [(0, .ref a), (1, .int wh)] := hl
  have hx := C.1
  have hb := C.2.1
  refine lv_iload_n hx hb d_C_part_0 rfl (lv_at hl 1 rfl) ?_
  by_cases k_1 : wh = 0
  · refine lv_tableIn (tgt := 36) hx hb d_C_part_1 (by rw [k_1]; decide) (by rw [k_1]; decide) (by rw [k_1]; rfl) (by decide) ?_
    refine lv_aload_n hx hb d_C_part_36 rfl (lv_at hl 0 rfl) ?_
    refine wd_get C h kc_C ha 0 (by decide) lk_C_9 rfl d_C_part_37 ?_
    exact wd_iret C hr hlocks h (⟨by simp [xp, k_1], rfl⟩) (Nat.le_of_ble_eq_true rfl) (Nat.le_of_ble_eq_true rfl) d_C_part_40
  by_cases k_2 : wh = 1
  · refine lv_tableIn (tgt := 41) hx hb d_C_part_1 (by rw [k_2]; decide) (by rw [k_2]; decide) (by rw [k_2]; rfl) (by decide) ?_
    refine lv_aload_n hx hb d_C_part_41 rfl (lv_at hl 0 rfl) ?_
    refine wd_get C h kc_C ha 1 (by decide) lk_C_15 rfl d_C_part_42 ?_
    exact wd_iret C hr hlocks h (⟨by simp [xp, k_2], rfl⟩) (Nat.le_of_ble_eq_true rfl) (Nat.le_of_ble_eq_true rfl) d_C_part_45
  by_cases k_3 : wh = 2
  · refine lv_tableIn (tgt := 46) hx hb d_C_part_1 (by rw [k_3]; decide) (by rw [k_3]; decide) (by rw [k_3]; rfl) (by decide) ?_
    refine lv_aload_n hx hb d_C_part_46 rfl (lv_at hl 0 rfl) ?_
    refine wd_get C h kc_C ha 2 (by decide) lk_C_18 rfl d_C_part_47 ?_
    exact wd_iret C hr hlocks h (⟨by simp [xp, k_3], rfl⟩) (Nat.le_of_ble_eq_true rfl) (Nat.le_of_ble_eq_true rfl) d_C_part_50
  by_cases k_4 : wh = 3
  · refine lv_tableIn (tgt := 51) hx hb d_C_part_1 (by rw [k_4]; decide) (by rw [k_4]; decide) (by rw [k_4]; rfl) (by decide) ?_
    refine lv_aload_n hx hb d_C_part_51 rfl (lv_at hl 0 rfl) ?_
    refine wd_get C h kc_C ha 3 (by decide) lk_C_21 rfl d_C_part_52 ?_
    exact wd_iret C hr hlocks h (⟨by simp [xp, k_4], rfl⟩) (Nat.le_of_ble_eq_true rfl) (Nat.le_of_ble_eq_true rfl) d_C_part_55
  by_cases k_5 : wh = 4
  · refine lv_tableIn (tgt := 56) hx hb d_C_part_1 (by rw [k_5]; decide) (by rw [k_5]; decide) (by rw [k_5]; rfl) (by decide) ?_
    refine lv_aload_n hx hb d_C_part_56 rfl (lv_at hl 0 rfl) ?_
    refine wd_get C h kc_C ha 4 (by decide) lk_C_24 rfl d_C_part_57 ?_
    exact wd_iret C hr hlocks h (⟨by simp [xp, k_5], rfl⟩) (Nat.le_of_ble_eq_true rfl) (Nat.le_of_ble_eq_true rfl) d_C_part_60
  have n_6 := sw_ne k_1 (show ((0 : Int32)).toInt = 0 from by decide)
  have n_7 := sw_ne k_2 (show ((1 : Int32)).toInt = 1 from by decide)
  have n_8 := sw_ne k_3 (show ((2 : Int32)).toInt = 2 from by decide)
  have n_9 := sw_ne k_4 (show ((3 : Int32)).toInt = 3 from by decide)
  have n_10 := sw_ne k_5 (show ((4 : Int32)).toInt = 4 from by decide)
  refine lv_tableOut (tgt := 61) hx hb d_C_part_1 (by omega) (by decide) ?_
  refine lv_iconst (v := (-1)) hx hb d_C_part_61 (by decide) ?_
  exact wd_iret C hr hlocks h (⟨by simp [xp, k_1, k_2, k_3, k_4, k_5], rfl⟩) (Nat.le_of_ble_eq_true rfl) (Nat.le_of_ble_eq_true rfl) d_C_part_62

set_option maxHeartbeats 4000000 in
set_option maxRecDepth 20000 in
theorem c_J_bitCount (l : Launch) (D : va_G) (T : Nat → ClassId) (A : Nat → Prop) (σ : wd_S) (i : Int32) : Met l y_J_bitCount (Cond.code y_J_bitCount b_J_bitCount 1 (some .int) :: wd_tb) { frames := 0, cells := 0, slots := 0, locals := 0 } (va_Pc [.int i] (wd_Pre D T A σ)) (va_Qi (fun r1 σ1 => r1 = bc i ∧ σ1 = σ) (wd_B D A) A) 0 0 A := by
  refine wd_ofW (by decide) (Nat.le_of_ble_eq_true rfl) ?_
  intro p e s m below meth c0 ls C hr hlocks hname h hl
  have hl : lv_has ls 1 [(0, .int i)] := hl
  have hx := C.1
  have hb := C.2.1
  refine lv_iload_n hx hb d_J_bitCount_0 rfl (lv_at hl 0 rfl) ?_
  refine lv_iload_n hx hb d_J_bitCount_1 rfl (lv_at hl 0 rfl) ?_
  refine lv_iconst (v := 1) hx hb d_J_bitCount_2 (by decide) ?_
  refine lv_iushr hx hb d_J_bitCount_3 rfl ?_
  refine lv_ldcw (v := 1431655765) hx hb C.2.2.2.1 (C.2.2.2.2 _ lk_J_265) d_J_bitCount_4 ?_
  refine lv_iand hx hb d_J_bitCount_7 ?_
  refine lv_isub hx hb d_J_bitCount_8 ?_
  refine lv_istore_n (lv' := [(0, .int (bc1 i))]) hx hb d_J_bitCount_9 rfl hl (by decide) rfl (fun ls hl => ?_)
  refine lv_iload_n hx hb d_J_bitCount_10 rfl (lv_at hl 0 rfl) ?_
  refine lv_ldcw (v := 858993459) hx hb C.2.2.2.1 (C.2.2.2.2 _ lk_J_266) d_J_bitCount_11 ?_
  refine lv_iand hx hb d_J_bitCount_14 ?_
  refine lv_iload_n hx hb d_J_bitCount_15 rfl (lv_at hl 0 rfl) ?_
  refine lv_iconst (v := 2) hx hb d_J_bitCount_16 (by decide) ?_
  refine lv_iushr hx hb d_J_bitCount_17 rfl ?_
  refine lv_ldcw (v := 858993459) hx hb C.2.2.2.1 (C.2.2.2.2 _ lk_J_266) d_J_bitCount_18 ?_
  refine lv_iand hx hb d_J_bitCount_21 ?_
  refine lv_iadd hx hb d_J_bitCount_22 ?_
  refine lv_istore_n (lv' := [(0, .int (bc2 (bc1 i)))]) hx hb d_J_bitCount_23 rfl hl (by decide) rfl (fun ls hl => ?_)
  refine lv_iload_n hx hb d_J_bitCount_24 rfl (lv_at hl 0 rfl) ?_
  refine lv_iload_n hx hb d_J_bitCount_25 rfl (lv_at hl 0 rfl) ?_
  refine lv_iconst (v := 4) hx hb d_J_bitCount_26 (by decide) ?_
  refine lv_iushr hx hb d_J_bitCount_27 rfl ?_
  refine lv_iadd hx hb d_J_bitCount_28 ?_
  refine lv_ldcw (v := 252645135) hx hb C.2.2.2.1 (C.2.2.2.2 _ lk_J_267) d_J_bitCount_29 ?_
  refine lv_iand hx hb d_J_bitCount_32 ?_
  refine lv_istore_n (lv' := [(0, .int (bc3 (bc2 (bc1 i))))]) hx hb d_J_bitCount_33 rfl hl (by decide) rfl (fun ls hl => ?_)
  refine lv_iload_n hx hb d_J_bitCount_34 rfl (lv_at hl 0 rfl) ?_
  refine lv_iload_n hx hb d_J_bitCount_35 rfl (lv_at hl 0 rfl) ?_
  refine lv_bipush (v := 8) hx hb d_J_bitCount_36 (by decide) ?_
  refine lv_iushr hx hb d_J_bitCount_38 rfl ?_
  refine lv_iadd hx hb d_J_bitCount_39 ?_
  refine lv_istore_n (lv' := [(0, .int (bc4 (bc3 (bc2 (bc1 i)))))]) hx hb d_J_bitCount_40 rfl hl (by decide) rfl (fun ls hl => ?_)
  refine lv_iload_n hx hb d_J_bitCount_41 rfl (lv_at hl 0 rfl) ?_
  refine lv_iload_n hx hb d_J_bitCount_42 rfl (lv_at hl 0 rfl) ?_
  refine lv_bipush (v := 16) hx hb d_J_bitCount_43 (by decide) ?_
  refine lv_iushr hx hb d_J_bitCount_45 rfl ?_
  refine lv_iadd hx hb d_J_bitCount_46 ?_
  refine lv_istore_n (lv' := [(0, .int (bc5 (bc4 (bc3 (bc2 (bc1 i))))))]) hx hb d_J_bitCount_47 rfl hl (by decide) rfl (fun ls hl => ?_)
  refine lv_iload_n hx hb d_J_bitCount_48 rfl (lv_at hl 0 rfl) ?_
  refine lv_bipush (v := 63) hx hb d_J_bitCount_49 (by decide) ?_
  refine lv_iand hx hb d_J_bitCount_51 ?_
  exact wd_iret C hr hlocks h (⟨rfl, rfl⟩) (Nat.le_of_ble_eq_true rfl) (Nat.le_of_ble_eq_true rfl) d_J_bitCount_52
