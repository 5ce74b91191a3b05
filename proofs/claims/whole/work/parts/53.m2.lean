set_option maxHeartbeats 4000000 in
set_option maxRecDepth 20000 in
theorem c_M_turned_0 (l : Launch) (D : va_G) (T : Nat → ClassId) (A : Nat → Prop) (σ : wd_S) (w z : Int32) (hw : ¬ (31500 : Int32) < w) (hz : z ≤ 3) : Met l y_M_turned (Cond.code y_M_turned b_M_turned 4 (some .int) :: wd_tb) { frames := 1, cells := 0, slots := 0, locals := 20 } (va_Pc [.int 0, .int w, .int z] (wd_Pre D T A σ)) (va_Qi (fun r1 σ1 => r1 = xt 0 w z ∧ σ1 = σ) (wd_B D A) A) 0 0 A := by
  refine wd_ofW (by decide) (Nat.le_of_ble_eq_true rfl) ?_
  intro p e s m below meth c0 ls C hr hlocks hname h hl
  have hl : lv_has ls 4 [(0, .int 0), (1, .int w), (2, .int z)] := hl
  have hx := C.1
  have hb := C.2.1
  refine lv_iload_n hx hb d_M_turned_0 rfl (lv_at hl 0 rfl) ?_
  refine lv_istore_n (lv' := [(3, .int 0), (0, .int 0), (1, .int w), (2, .int z)]) hx hb d_M_turned_1 rfl hl (by decide) rfl (fun ls hl => ?_)
  refine lv_iload_n hx hb d_M_turned_2 rfl (lv_at hl 0 rfl) ?_
  refine wd_ci h (wd_rS (rest := []) (st0 := [.int 0]) C h k_M_mostOf wt_M_mostOf lk_M_79 (c_M_mostOf l D T A σ 0) rfl rfl ⟨Nat.le_of_ble_eq_true rfl, Nat.le_of_ble_eq_true rfl⟩ rfl hl.1 rfl (Nat.le_of_ble_eq_true rfl) d_M_turned_3 ⟨Nat.le_of_ble_eq_true rfl, Nat.le_of_ble_eq_true rfl⟩) (fun r_1 σ_2 H locs hp_3 h => ?_)
  obtain ⟨e_4, es_5⟩ := hp_3
  rw [es_5] at h
  subst e_4
  rw [show ym 0 = 50 from rfl]
  refine lv_iload_n hx hb d_M_turned_6 rfl (lv_at hl 2 rfl) ?_
  refine lv_icmp_lt (tgt := 15) hx hb d_M_turned_7 (by decide) (fun c_6 => ?_) (fun c_6 => ?_)
  · refine lv_iinc (v := 1) (lv' := [(3, .int 1), (0, .int 0), (1, .int w), (2, .int z)]) hx hb d_M_turned_15 hl (k := 0) rfl (by first | rfl | decide) (by decide) rfl (fun ls hl => ?_)
    refine lv_goto (tgt := 2) hx hb d_M_turned_18 (by decide) ?_
    refine lv_iload_n hx hb d_M_turned_2 rfl (lv_at hl 0 rfl) ?_
    refine wd_ci h (wd_rS (rest := []) (st0 := [.int 1]) C h k_M_mostOf wt_M_mostOf lk_M_79 (c_M_mostOf l D T A σ 1) rfl rfl ⟨Nat.le_of_ble_eq_true rfl, Nat.le_of_ble_eq_true rfl⟩ rfl hl.1 rfl (Nat.le_of_ble_eq_true rfl) d_M_turned_3 ⟨Nat.le_of_ble_eq_true rfl, Nat.le_of_ble_eq_true rfl⟩) (fun r_7 σ_8 H locs hp_9 h => ?_)
    obtain ⟨e_10, es_11⟩ := hp_9
    rw [es_11] at h
    subst e_10
    rw [show ym 1 = 500 from rfl]
    refine lv_iload_n hx hb d_M_turned_6 rfl (lv_at hl 2 rfl) ?_
    refine lv_icmp_lt (tgt := 15) hx hb d_M_turned_7 (by decide) (fun c_12 => ?_) (fun c_12 => ?_)
    · refine lv_iinc (v := 2) (lv' := [(3, .int 2), (0, .int 0), (1, .int w), (2, .int z)]) hx hb d_M_turned_15 hl (k := 0) rfl (by first | rfl | decide) (by decide) rfl (fun ls hl => ?_)
      refine lv_goto (tgt := 2) hx hb d_M_turned_18 (by decide) ?_
      refine lv_iload_n hx hb d_M_turned_2 rfl (lv_at hl 0 rfl) ?_
      refine wd_ci h (wd_rS (rest := []) (st0 := [.int 2]) C h k_M_mostOf wt_M_mostOf lk_M_79 (c_M_mostOf l D T A σ 2) rfl rfl ⟨Nat.le_of_ble_eq_true rfl, Nat.le_of_ble_eq_true rfl⟩ rfl hl.1 rfl (Nat.le_of_ble_eq_true rfl) d_M_turned_3 ⟨Nat.le_of_ble_eq_true rfl, Nat.le_of_ble_eq_true rfl⟩) (fun r_13 σ_14 H locs hp_15 h => ?_)
      obtain ⟨e_16, es_17⟩ := hp_15
      rw [es_17] at h
      subst e_16
      rw [show ym 2 = 2000 from rfl]
      refine lv_iload_n hx hb d_M_turned_6 rfl (lv_at hl 2 rfl) ?_
      refine lv_icmp_lt (tgt := 15) hx hb d_M_turned_7 (by decide) (fun c_18 => ?_) (fun c_18 => ?_)
      · refine lv_iinc (v := 3) (lv' := [(3, .int 3), (0, .int 0), (1, .int w), (2, .int z)]) hx hb d_M_turned_15 hl (k := 0) rfl (by first | rfl | decide) (by decide) rfl (fun ls hl => ?_)
        refine lv_goto (tgt := 2) hx hb d_M_turned_18 (by decide) ?_
        refine lv_iload_n hx hb d_M_turned_2 rfl (lv_at hl 0 rfl) ?_
        refine wd_ci h (wd_rS (rest := []) (st0 := [.int 3]) C h k_M_mostOf wt_M_mostOf lk_M_79 (c_M_mostOf l D T A σ 3) rfl rfl ⟨Nat.le_of_ble_eq_true rfl, Nat.le_of_ble_eq_true rfl⟩ rfl hl.1 rfl (Nat.le_of_ble_eq_true rfl) d_M_turned_3 ⟨Nat.le_of_ble_eq_true rfl, Nat.le_of_ble_eq_true rfl⟩) (fun r_19 σ_20 H locs hp_21 h => ?_)
        obtain ⟨e_22, es_23⟩ := hp_21
        rw [es_23] at h
        subst e_22
        rw [show ym 3 = 31500 from rfl]
        refine lv_iload_n hx hb d_M_turned_6 rfl (lv_at hl 2 rfl) ?_
        refine lv_icmp_lt (tgt := 15) hx hb d_M_turned_7 (by decide) (fun z => absurd z hw) (fun _ => ?_)
        refine lv_iload_n hx hb d_M_turned_10 rfl (lv_at hl 0 rfl) ?_
        refine lv_iload_n hx hb d_M_turned_11 rfl (lv_at hl 3 rfl) ?_
        refine lv_icmp_ge (tgt := 21) hx hb d_M_turned_12 (by decide) (fun _ => ?_) (fun z => absurd hz z)
        refine lv_iload_n hx hb d_M_turned_21 rfl (lv_at hl 0 rfl) ?_
        exact wd_iret C hr hlocks h (⟨by simp [xt, eq_true c_6, eq_true c_12, eq_true c_18], rfl⟩) (Nat.le_of_ble_eq_true rfl) (Nat.le_of_ble_eq_true rfl) d_M_turned_22
      · refine lv_iload_n hx hb d_M_turned_10 rfl (lv_at hl 0 rfl) ?_
        refine lv_iload_n hx hb d_M_turned_11 rfl (lv_at hl 3 rfl) ?_
        refine lv_icmp_ge (tgt := 21) hx hb d_M_turned_12 (by decide) (fun c_26 => ?_) (fun c_26 => ?_)
        · refine lv_iload_n hx hb d_M_turned_21 rfl (lv_at hl 0 rfl) ?_
          exact wd_iret C hr hlocks h (⟨by simp [xt, eq_true c_6, eq_true c_12, eq_false c_18, eq_false (Int32.not_lt.mpr c_26)], rfl⟩) (Nat.le_of_ble_eq_true rfl) (Nat.le_of_ble_eq_true rfl) d_M_turned_22
        · refine lv_iinc (v := 3) (lv' := [(3, .int 3), (0, .int 0), (1, .int w), (2, .int z)]) hx hb d_M_turned_15 hl (k := 0) rfl (by first | rfl | decide) (by decide) rfl (fun ls hl => ?_)
          refine lv_goto (tgt := 2) hx hb d_M_turned_18 (by decide) ?_
          refine lv_iload_n hx hb d_M_turned_2 rfl (lv_at hl 0 rfl) ?_
          refine wd_ci h (wd_rS (rest := []) (st0 := [.int 3]) C h k_M_mostOf wt_M_mostOf lk_M_79 (c_M_mostOf l D T A σ 3) rfl rfl ⟨Nat.le_of_ble_eq_true rfl, Nat.le_of_ble_eq_true rfl⟩ rfl hl.1 rfl (Nat.le_of_ble_eq_true rfl) d_M_turned_3 ⟨Nat.le_of_ble_eq_true rfl, Nat.le_of_ble_eq_true rfl⟩) (fun r_27 σ_28 H locs hp_29 h => ?_)
          obtain ⟨e_30, es_31⟩ := hp_29
          rw [es_31] at h
          subst e_30
          rw [show ym 3 = 31500 from rfl]
          refine lv_iload_n hx hb d_M_turned_6 rfl (lv_at hl 2 rfl) ?_
          refine lv_icmp_lt (tgt := 15) hx hb d_M_turned_7 (by decide) (fun z => absurd z hw) (fun _ => ?_)
          refine lv_iload_n hx hb d_M_turned_10 rfl (lv_at hl 0 rfl) ?_
          refine lv_iload_n hx hb d_M_turned_11 rfl (lv_at hl 3 rfl) ?_
          refine lv_icmp_ge (tgt := 21) hx hb d_M_turned_12 (by decide) (fun _ => ?_) (fun z => absurd hz z)
          refine lv_iload_n hx hb d_M_turned_21 rfl (lv_at hl 0 rfl) ?_
          exact wd_iret C hr hlocks h (⟨by simp [xt, eq_true c_6, eq_true c_12, eq_false c_18, eq_true (Int32.not_le.mp c_26)], rfl⟩) (Nat.le_of_ble_eq_true rfl) (Nat.le_of_ble_eq_true rfl) d_M_turned_22
    · refine lv_iload_n hx hb d_M_turned_10 rfl (lv_at hl 0 rfl) ?_
      refine lv_iload_n hx hb d_M_turned_11 rfl (lv_at hl 3 rfl) ?_
      refine lv_icmp_ge (tgt := 21) hx hb d_M_turned_12 (by decide) (fun c_34 => ?_) (fun c_34 => ?_)
      · refine lv_iload_n hx hb d_M_turned_21 rfl (lv_at hl 0 rfl) ?_
        exact wd_iret C hr hlocks h (⟨by simp [xt, eq_true c_6, eq_false c_12, eq_false (Int32.not_lt.mpr c_34)], rfl⟩) (Nat.le_of_ble_eq_true rfl) (Nat.le_of_ble_eq_true rfl) d_M_turned_22
      · refine lv_iinc (v := 2) (lv' := [(3, .int 2), (0, .int 0), (1, .int w), (2, .int z)]) hx hb d_M_turned_15 hl (k := 0) rfl (by first | rfl | decide) (by decide) rfl (fun ls hl => ?_)
        refine lv_goto (tgt := 2) hx hb d_M_turned_18 (by decide) ?_
        refine lv_iload_n hx hb d_M_turned_2 rfl (lv_at hl 0 rfl) ?_
        refine wd_ci h (wd_rS (rest := []) (st0 := [.int 2]) C h k_M_mostOf wt_M_mostOf lk_M_79 (c_M_mostOf l D T A σ 2) rfl rfl ⟨Nat.le_of_ble_eq_true rfl, Nat.le_of_ble_eq_true rfl⟩ rfl hl.1 rfl (Nat.le_of_ble_eq_true rfl) d_M_turned_3 ⟨Nat.le_of_ble_eq_true rfl, Nat.le_of_ble_eq_true rfl⟩) (fun r_35 σ_36 H locs hp_37 h => ?_)
        obtain ⟨e_38, es_39⟩ := hp_37
        rw [es_39] at h
        subst e_38
        rw [show ym 2 = 2000 from rfl]
        refine lv_iload_n hx hb d_M_turned_6 rfl (lv_at hl 2 rfl) ?_
        refine lv_icmp_lt (tgt := 15) hx hb d_M_turned_7 (by decide) (fun c_40 => ?_) (fun c_40 => ?_)
        · refine lv_iinc (v := 3) (lv' := [(3, .int 3), (0, .int 0), (1, .int w), (2, .int z)]) hx hb d_M_turned_15 hl (k := 0) rfl (by first | rfl | decide) (by decide) rfl (fun ls hl => ?_)
          refine lv_goto (tgt := 2) hx hb d_M_turned_18 (by decide) ?_
          refine lv_iload_n hx hb d_M_turned_2 rfl (lv_at hl 0 rfl) ?_
          refine wd_ci h (wd_rS (rest := []) (st0 := [.int 3]) C h k_M_mostOf wt_M_mostOf lk_M_79 (c_M_mostOf l D T A σ 3) rfl rfl ⟨Nat.le_of_ble_eq_true rfl, Nat.le_of_ble_eq_true rfl⟩ rfl hl.1 rfl (Nat.le_of_ble_eq_true rfl) d_M_turned_3 ⟨Nat.le_of_ble_eq_true rfl, Nat.le_of_ble_eq_true rfl⟩) (fun r_41 σ_42 H locs hp_43 h => ?_)
          obtain ⟨e_44, es_45⟩ := hp_43
          rw [es_45] at h
          subst e_44
          rw [show ym 3 = 31500 from rfl]
          refine lv_iload_n hx hb d_M_turned_6 rfl (lv_at hl 2 rfl) ?_
          refine lv_icmp_lt (tgt := 15) hx hb d_M_turned_7 (by decide) (fun z => absurd z hw) (fun _ => ?_)
          refine lv_iload_n hx hb d_M_turned_10 rfl (lv_at hl 0 rfl) ?_
          refine lv_iload_n hx hb d_M_turned_11 rfl (lv_at hl 3 rfl) ?_
          refine lv_icmp_ge (tgt := 21) hx hb d_M_turned_12 (by decide) (fun _ => ?_) (fun z => absurd hz z)
          refine lv_iload_n hx hb d_M_turned_21 rfl (lv_at hl 0 rfl) ?_
          exact wd_iret C hr hlocks h (⟨by simp [xt, eq_true c_6, eq_false c_12, eq_true (Int32.not_le.mp c_34), eq_true c_40], rfl⟩) (Nat.le_of_ble_eq_true rfl) (Nat.le_of_ble_eq_true rfl) d_M_turned_22
        · refine lv_iload_n hx hb d_M_turned_10 rfl (lv_at hl 0 rfl) ?_
          refine lv_iload_n hx hb d_M_turned_11 rfl (lv_at hl 3 rfl) ?_
          refine lv_icmp_ge (tgt := 21) hx hb d_M_turned_12 (by decide) (fun c_48 => ?_) (fun c_48 => ?_)
          · refine lv_iload_n hx hb d_M_turned_21 rfl (lv_at hl 0 rfl) ?_
            exact wd_iret C hr hlocks h (⟨by simp [xt, eq_true c_6, eq_false c_12, eq_true (Int32.not_le.mp c_34), eq_false c_40, eq_false (Int32.not_lt.mpr c_48)], rfl⟩) (Nat.le_of_ble_eq_true rfl) (Nat.le_of_ble_eq_true rfl) d_M_turned_22
          · refine lv_iinc (v := 3) (lv' := [(3, .int 3), (0, .int 0), (1, .int w), (2, .int z)]) hx hb d_M_turned_15 hl (k := 0) rfl (by first | rfl | decide) (by decide) rfl (fun ls hl => ?_)
            refine lv_goto (tgt := 2) hx hb d_M_turned_18 (by decide) ?_
            refine lv_iload_n hx hb d_M_turned_2 rfl (lv_at hl 0 rfl) ?_
            refine wd_ci h (wd_rS (rest := []) (st0 := [.int 3]) C h k_M_mostOf wt_M_mostOf lk_M_79 (c_M_mostOf l D T A σ 3) rfl rfl ⟨Nat.le_of_ble_eq_true rfl, Nat.le_of_ble_eq_true rfl⟩ rfl hl.1 rfl (Nat.le_of_ble_eq_true rfl) d_M_turned_3 ⟨Nat.le_of_ble_eq_true rfl, Nat.le_of_ble_eq_true rfl⟩) (fun r_49 σ_50 H locs hp_51 h => ?_)
            obtain ⟨e_52, es_53⟩ := hp_51
            rw [es_53] at h
            subst e_52
            rw [show ym 3 = 31500 from rfl]
            refine lv_iload_n hx hb d_M_turned_6 rfl (lv_at hl 2 rfl) ?_
            refine lv_icmp_lt (tgt := 15) hx hb d_M_turned_7 (by decide) (fun z => absurd z hw) (fun _ => ?_)
            refine lv_iload_n hx hb d_M_turned_10 rfl (lv_at hl 0 rfl) ?_
            refine lv_iload_n hx hb d_M_turned_11 rfl (lv_at hl 3 rfl) ?_
            refine lv_icmp_ge (tgt := 21) hx hb d_M_turned_12 (by decide) (fun _ => ?_) (fun z => absurd hz z)
            refine lv_iload_n hx hb d_M_turned_21 rfl (lv_at hl 0 rfl) ?_
            exact wd_iret C hr hlocks h (⟨by simp [xt, eq_true c_6, eq_false c_12, eq_true (Int32.not_le.mp c_34), eq_false c_40, eq_true (Int32.not_le.mp c_48)], rfl⟩) (Nat.le_of_ble_eq_true rfl) (Nat.le_of_ble_eq_true rfl) d_M_turned_22
  · refine lv_iload_n hx hb d_M_turned_10 rfl (lv_at hl 0 rfl) ?_
    refine lv_iload_n hx hb d_M_turned_11 rfl (lv_at hl 3 rfl) ?_
    refine lv_icmp_ge (tgt := 21) hx hb d_M_turned_12 (by decide) (fun c_56 => ?_) (fun c_56 => ?_)
    · refine lv_iload_n hx hb d_M_turned_21 rfl (lv_at hl 0 rfl) ?_
      exact wd_iret C hr hlocks h (⟨by simp [xt, eq_false c_6, eq_false (Int32.not_lt.mpr c_56)], rfl⟩) (Nat.le_of_ble_eq_true rfl) (Nat.le_of_ble_eq_true rfl) d_M_turned_22
    · refine lv_iinc (v := 1) (lv' := [(3, .int 1), (0, .int 0), (1, .int w), (2, .int z)]) hx hb d_M_turned_15 hl (k := 0) rfl (by first | rfl | decide) (by decide) rfl (fun ls hl => ?_)
      refine lv_goto (tgt := 2) hx hb d_M_turned_18 (by decide) ?_
      refine lv_iload_n hx hb d_M_turned_2 rfl (lv_at hl 0 rfl) ?_
      refine wd_ci h (wd_rS (rest := []) (st0 := [.int 1]) C h k_M_mostOf wt_M_mostOf lk_M_79 (c_M_mostOf l D T A σ 1) rfl rfl ⟨Nat.le_of_ble_eq_true rfl, Nat.le_of_ble_eq_true rfl⟩ rfl hl.1 rfl (Nat.le_of_ble_eq_true rfl) d_M_turned_3 ⟨Nat.le_of_ble_eq_true rfl, Nat.le_of_ble_eq_true rfl⟩) (fun r_57 σ_58 H locs hp_59 h => ?_)
      obtain ⟨e_60, es_61⟩ := hp_59
      rw [es_61] at h
      subst e_60
      rw [show ym 1 = 500 from rfl]
      refine lv_iload_n hx hb d_M_turned_6 rfl (lv_at hl 2 rfl) ?_
      refine lv_icmp_lt (tgt := 15) hx hb d_M_turned_7 (by decide) (fun c_62 => ?_) (fun c_62 => ?_)
      · refine lv_iinc (v := 2) (lv' := [(3, .int 2), (0, .int 0), (1, .int w), (2, .int z)]) hx hb d_M_turned_15 hl (k := 0) rfl (by first | rfl | decide) (by decide) rfl (fun ls hl => ?_)
        refine lv_goto (tgt := 2) hx hb d_M_turned_18 (by decide) ?_
        refine lv_iload_n hx hb d_M_turned_2 rfl (lv_at hl 0 rfl) ?_
        refine wd_ci h (wd_rS (rest := []) (st0 := [.int 2]) C h k_M_mostOf wt_M_mostOf lk_M_79 (c_M_mostOf l D T A σ 2) rfl rfl ⟨Nat.le_of_ble_eq_true rfl, Nat.le_of_ble_eq_true rfl⟩ rfl hl.1 rfl (Nat.le_of_ble_eq_true rfl) d_M_turned_3 ⟨Nat.le_of_ble_eq_true rfl, Nat.le_of_ble_eq_true rfl⟩) (fun r_63 σ_64 H locs hp_65 h => ?_)
        obtain ⟨e_66, es_67⟩ := hp_65
        rw [es_67] at h
        subst e_66
        rw [show ym 2 = 2000 from rfl]
        refine lv_iload_n hx hb d_M_turned_6 rfl (lv_at hl 2 rfl) ?_
        refine lv_icmp_lt (tgt := 15) hx hb d_M_turned_7 (by decide) (fun c_68 => ?_) (fun c_68 => ?_)
        · refine lv_iinc (v := 3) (lv' := [(3, .int 3), (0, .int 0), (1, .int w), (2, .int z)]) hx hb d_M_turned_15 hl (k := 0) rfl (by first | rfl | decide) (by decide) rfl (fun ls hl => ?_)
          refine lv_goto (tgt := 2) hx hb d_M_turned_18 (by decide) ?_
          refine lv_iload_n hx hb d_M_turned_2 rfl (lv_at hl 0 rfl) ?_
          refine wd_ci h (wd_rS (rest := []) (st0 := [.int 3]) C h k_M_mostOf wt_M_mostOf lk_M_79 (c_M_mostOf l D T A σ 3) rfl rfl ⟨Nat.le_of_ble_eq_true rfl, Nat.le_of_ble_eq_true rfl⟩ rfl hl.1 rfl (Nat.le_of_ble_eq_true rfl) d_M_turned_3 ⟨Nat.le_of_ble_eq_true rfl, Nat.le_of_ble_eq_true rfl⟩) (fun r_69 σ_70 H locs hp_71 h => ?_)
          obtain ⟨e_72, es_73⟩ := hp_71
          rw [es_73] at h
          subst e_72
          rw [show ym 3 = 31500 from rfl]
          refine lv_iload_n hx hb d_M_turned_6 rfl (lv_at hl 2 rfl) ?_
          refine lv_icmp_lt (tgt := 15) hx hb d_M_turned_7 (by decide) (fun z => absurd z hw) (fun _ => ?_)
          refine lv_iload_n hx hb d_M_turned_10 rfl (lv_at hl 0 rfl) ?_
          refine lv_iload_n hx hb d_M_turned_11 rfl (lv_at hl 3 rfl) ?_
          refine lv_icmp_ge (tgt := 21) hx hb d_M_turned_12 (by decide) (fun _ => ?_) (fun z => absurd hz z)
          refine lv_iload_n hx hb d_M_turned_21 rfl (lv_at hl 0 rfl) ?_
          exact wd_iret C hr hlocks h (⟨by simp [xt, eq_false c_6, eq_true (Int32.not_le.mp c_56), eq_true c_62, eq_true c_68], rfl⟩) (Nat.le_of_ble_eq_true rfl) (Nat.le_of_ble_eq_true rfl) d_M_turned_22
        · refine lv_iload_n hx hb d_M_turned_10 rfl (lv_at hl 0 rfl) ?_
          refine lv_iload_n hx hb d_M_turned_11 rfl (lv_at hl 3 rfl) ?_
          refine lv_icmp_ge (tgt := 21) hx hb d_M_turned_12 (by decide) (fun c_76 => ?_) (fun c_76 => ?_)
          · refine lv_iload_n hx hb d_M_turned_21 rfl (lv_at hl 0 rfl) ?_
            exact wd_iret C hr hlocks h (⟨by simp [xt, eq_false c_6, eq_true (Int32.not_le.mp c_56), eq_true c_62, eq_false c_68, eq_false (Int32.not_lt.mpr c_76)], rfl⟩) (Nat.le_of_ble_eq_true rfl) (Nat.le_of_ble_eq_true rfl) d_M_turned_22
          · refine lv_iinc (v := 3) (lv' := [(3, .int 3), (0, .int 0), (1, .int w), (2, .int z)]) hx hb d_M_turned_15 hl (k := 0) rfl (by first | rfl | decide) (by decide) rfl (fun ls hl => ?_)
            refine lv_goto (tgt := 2) hx hb d_M_turned_18 (by decide) ?_
            refine lv_iload_n hx hb d_M_turned_2 rfl (lv_at hl 0 rfl) ?_
            refine wd_ci h (wd_rS (rest := []) (st0 := [.int 3]) C h k_M_mostOf wt_M_mostOf lk_M_79 (c_M_mostOf l D T A σ 3) rfl rfl ⟨Nat.le_of_ble_eq_true rfl, Nat.le_of_ble_eq_true rfl⟩ rfl hl.1 rfl (Nat.le_of_ble_eq_true rfl) d_M_turned_3 ⟨Nat.le_of_ble_eq_true rfl, Nat.le_of_ble_eq_true rfl⟩) (fun r_77 σ_78 H locs hp_79 h => ?_)
            obtain ⟨e_80, es_81⟩ := hp_79
            rw [es_81] at h
            subst e_80
            rw [show ym 3 = 31500 from rfl]
            refine lv_iload_n hx hb d_M_turned_6 rfl (lv_at hl 2 rfl) ?_
            refine lv_icmp_lt (tgt := 15) hx hb d_M_turned_7 (by decide) (fun z => absurd z hw) (fun _ => ?_)
            refine lv_iload_n hx hb d_M_turned_10 rfl (lv_at hl 0 rfl) ?_
            refine lv_iload_n hx hb d_M_turned_11 rfl (lv_at hl 3 rfl) ?_
            refine lv_icmp_ge (tgt := 21) hx hb d_M_turned_12 (by decide) (fun _ => ?_) (fun z => absurd hz z)
            refine lv_iload_n hx hb d_M_turned_21 rfl (lv_at hl 0 rfl) ?_
            exact wd_iret C hr hlocks h (⟨by simp [xt, eq_false c_6, eq_true (Int32.not_le.mp c_56), eq_true c_62, eq_false c_68, eq_true (Int32.not_le.mp c_76)], rfl⟩) (Nat.le_of_ble_eq_true rfl) (Nat.le_of_ble_eq_true rfl) d_M_turned_22
      · refine lv_iload_n hx hb d_M_turned_10 rfl (lv_at hl 0 rfl) ?_
        refine lv_iload_n hx hb d_M_turned_11 rfl (lv_at hl 3 rfl) ?_
        refine lv_icmp_ge (tgt := 21) hx hb d_M_turned_12 (by decide) (fun c_84 => ?_) (fun c_84 => ?_)
        · refine lv_iload_n hx hb d_M_turned_21 rfl (lv_at hl 0 rfl) ?_
          exact wd_iret C hr hlocks h (⟨by simp [xt, eq_false c_6, eq_true (Int32.not_le.mp c_56), eq_false c_62, eq_false (Int32.not_lt.mpr c_84)], rfl⟩) (Nat.le_of_ble_eq_true rfl) (Nat.le_of_ble_eq_true rfl) d_M_turned_22
        · refine lv_iinc (v := 2) (lv' := [(3, .int 2), (0, .int 0), (1, .int w), (2, .int z)]) hx hb d_M_turned_15 hl (k := 0) rfl (by first | rfl | decide) (by decide) rfl (fun ls hl => ?_)
          refine lv_goto (tgt := 2) hx hb d_M_turned_18 (by decide) ?_
          refine lv_iload_n hx hb d_M_turned_2 rfl (lv_at hl 0 rfl) ?_
          refine wd_ci h (wd_rS (rest := []) (st0 := [.int 2]) C h k_M_mostOf wt_M_mostOf lk_M_79 (c_M_mostOf l D T A σ 2) rfl rfl ⟨Nat.le_of_ble_eq_true rfl, Nat.le_of_ble_eq_true rfl⟩ rfl hl.1 rfl (Nat.le_of_ble_eq_true rfl) d_M_turned_3 ⟨Nat.le_of_ble_eq_true rfl, Nat.le_of_ble_eq_true rfl⟩) (fun r_85 σ_86 H locs hp_87 h => ?_)
          obtain ⟨e_88, es_89⟩ := hp_87
          rw [es_89] at h
          subst e_88
          rw [show ym 2 = 2000 from rfl]
          refine lv_iload_n hx hb d_M_turned_6 rfl (lv_at hl 2 rfl) ?_
          refine lv_icmp_lt (tgt := 15) hx hb d_M_turned_7 (by decide) (fun c_90 => ?_) (fun c_90 => ?_)
          · refine lv_iinc (v := 3) (lv' := [(3, .int 3), (0, .int 0), (1, .int w), (2, .int z)]) hx hb d_M_turned_15 hl (k := 0) rfl (by first | rfl | decide) (by decide) rfl (fun ls hl => ?_)
            refine lv_goto (tgt := 2) hx hb d_M_turned_18 (by decide) ?_
            refine lv_iload_n hx hb d_M_turned_2 rfl (lv_at hl 0 rfl) ?_
            refine wd_ci h (wd_rS (rest := []) (st0 := [.int 3]) C h k_M_mostOf wt_M_mostOf lk_M_79 (c_M_mostOf l D T A σ 3) rfl rfl ⟨Nat.le_of_ble_eq_true rfl, Nat.le_of_ble_eq_true rfl⟩ rfl hl.1 rfl (Nat.le_of_ble_eq_true rfl) d_M_turned_3 ⟨Nat.le_of_ble_eq_true rfl, Nat.le_of_ble_eq_true rfl⟩) (fun r_91 σ_92 H locs hp_93 h => ?_)
            obtain ⟨e_94, es_95⟩ := hp_93
            rw [es_95] at h
            subst e_94
            rw [show ym 3 = 31500 from rfl]
            refine lv_iload_n hx hb d_M_turned_6 rfl (lv_at hl 2 rfl) ?_
            refine lv_icmp_lt (tgt := 15) hx hb d_M_turned_7 (by decide) (fun z => absurd z hw) (fun _ => ?_)
            refine lv_iload_n hx hb d_M_turned_10 rfl (lv_at hl 0 rfl) ?_
            refine lv_iload_n hx hb d_M_turned_11 rfl (lv_at hl 3 rfl) ?_
            refine lv_icmp_ge (tgt := 21) hx hb d_M_turned_12 (by decide) (fun _ => ?_) (fun z => absurd hz z)
            refine lv_iload_n hx hb d_M_turned_21 rfl (lv_at hl 0 rfl) ?_
            exact wd_iret C hr hlocks h (⟨by simp [xt, eq_false c_6, eq_true (Int32.not_le.mp c_56), eq_false c_62, eq_true (Int32.not_le.mp c_84), eq_true c_90], rfl⟩) (Nat.le_of_ble_eq_true rfl) (Nat.le_of_ble_eq_true rfl) d_M_turned_22
          · refine lv_iload_n hx hb d_M_turned_10 rfl (lv_at hl 0 rfl) ?_
            refine lv_iload_n hx hb d_M_turned_11 rfl (lv_at hl 3 rfl) ?_
            refine lv_icmp_ge (tgt := 21) hx hb d_M_turned_12 (by decide) (fun c_98 => ?_) (fun c_98 => ?_)
            · refine lv_iload_n hx hb d_M_turned_21 rfl (lv_at hl 0 rfl) ?_
              exact wd_iret C hr hlocks h (⟨by simp [xt, eq_false c_6, eq_true (Int32.not_le.mp c_56), eq_false c_62, eq_true (Int32.not_le.mp c_84), eq_false c_90, eq_false (Int32.not_lt.mpr c_98)], rfl⟩) (Nat.le_of_ble_eq_true rfl) (Nat.le_of_ble_eq_true rfl) d_M_turned_22
            · refine lv_iinc (v := 3) (lv' := [(3, .int 3), (0, .int 0), (1, .int w), (2, .int z)]) hx hb d_M_turned_15 hl (k := 0) rfl (by first | rfl | decide) (by decide) rfl (fun ls hl => ?_)
              refine lv_goto (tgt := 2) hx hb d_M_turned_18 (by decide) ?_
              refine lv_iload_n hx hb d_M_turned_2 rfl (lv_at hl 0 rfl) ?_
              refine wd_ci h (wd_rS (rest := []) (st0 := [.int 3]) C h k_M_mostOf wt_M_mostOf lk_M_79 (c_M_mostOf l D T A σ 3) rfl rfl ⟨Nat.le_of_ble_eq_true rfl, Nat.le_of_ble_eq_true rfl⟩ rfl hl.1 rfl (Nat.le_of_ble_eq_true rfl) d_M_turned_3 ⟨Nat.le_of_ble_eq_true rfl, Nat.le_of_ble_eq_true rfl⟩) (fun r_99 σ_100 H locs hp_101 h => ?_)
              obtain ⟨e_102, es_103⟩ := hp_101
              rw [es_103] at h
              subst e_102
              rw [show ym 3 = 31500 from rfl]
              refine lv_iload_n hx hb d_M_turned_6 rfl (lv_at hl 2 rfl) ?_
              refine lv_icmp_lt (tgt := 15) hx hb d_M_turned_7 (by decide) (fun z => absurd z hw) (fun _ => ?_)
              refine lv_iload_n hx hb d_M_turned_10 rfl (lv_at hl 0 rfl) ?_
              refine lv_iload_n hx hb d_M_turned_11 rfl (lv_at hl 3 rfl) ?_
              refine lv_icmp_ge (tgt := 21) hx hb d_M_turned_12 (by decide) (fun _ => ?_) (fun z => absurd hz z)
              refine lv_iload_n hx hb d_M_turned_21 rfl (lv_at hl 0 rfl) ?_
              exact wd_iret C hr hlocks h (⟨by simp [xt, eq_false c_6, eq_true (Int32.not_le.mp c_56), eq_false c_62, eq_true (Int32.not_le.mp c_84), eq_false c_90, eq_true (Int32.not_le.mp c_98)], rfl⟩) (Nat.le_of_ble_eq_true rfl) (Nat.le_of_ble_eq_true rfl) d_M_turned_22

set_option maxHeartbeats 4000000 in
set_option maxRecDepth 20000 in
theorem c_M_turned_1 (l : Launch) (D : va_G) (T : Nat → ClassId) (A : Nat → Prop) (σ : wd_S) (w z : Int32) (hw : ¬ (31500 : Int32) < w) (hz : z ≤ 3) : Met l y_M_turned (Cond.code y_M_turned b_M_turned 4 (some .int) :: wd_tb) { frames := 1, cells := 0, slots := 0, locals := 20 } (va_Pc [.int 1, .int w, .int z] (wd_Pre D T A σ)) (va_Qi (fun r1 σ1 => r1 = xt 1 w z ∧ σ1 = σ) (wd_B D A) A) 0 0 A := by
  refine wd_ofW (by decide) (Nat.le_of_ble_eq_true rfl) ?_
  intro p e s m below meth c0 ls C hr hlocks hname h hl
  have hl : lv_has ls 4 [(0, .int 1), (1, .int w), (2, .int z)] := hl
  have hx := C.1
  have hb := C.2.1
  refine lv_iload_n hx hb d_M_turned_0 rfl (lv_at hl 0 rfl) ?_
  refine lv_istore_n (lv' := [(3, .int 1), (0, .int 1), (1, .int w), (2, .int z)]) hx hb d_M_turned_1 rfl hl (by decide) rfl (fun ls hl => ?_)
  refine lv_iload_n hx hb d_M_turned_2 rfl (lv_at hl 0 rfl) ?_
  refine wd_ci h (wd_rS (rest := []) (st0 := [.int 1]) C h k_M_mostOf wt_M_mostOf lk_M_79 (c_M_mostOf l D T A σ 1) rfl rfl ⟨Nat.le_of_ble_eq_true rfl, Nat.le_of_ble_eq_true rfl⟩ rfl hl.1 rfl (Nat.le_of_ble_eq_true rfl) d_M_turned_3 ⟨Nat.le_of_ble_eq_true rfl, Nat.le_of_ble_eq_true rfl⟩) (fun r_1 σ_2 H locs hp_3 h => ?_)
  obtain ⟨e_4, es_5⟩ := hp_3
  rw [es_5] at h
  subst e_4
  rw [show ym 1 = 500 from rfl]
  refine lv_iload_n hx hb d_M_turned_6 rfl (lv_at hl 2 rfl) ?_
  refine lv_icmp_lt (tgt := 15) hx hb d_M_turned_7 (by decide) (fun c_6 => ?_) (fun c_6 => ?_)
  · refine lv_iinc (v := 2) (lv' := [(3, .int 2), (0, .int 1), (1, .int w), (2, .int z)]) hx hb d_M_turned_15 hl (k := 0) rfl (by first | rfl | decide) (by decide) rfl (fun ls hl => ?_)
    refine lv_goto (tgt := 2) hx hb d_M_turned_18 (by decide) ?_
    refine lv_iload_n hx hb d_M_turned_2 rfl (lv_at hl 0 rfl) ?_
    refine wd_ci h (wd_rS (rest := []) (st0 := [.int 2]) C h k_M_mostOf wt_M_mostOf lk_M_79 (c_M_mostOf l D T A σ 2) rfl rfl ⟨Nat.le_of_ble_eq_true rfl, Nat.le_of_ble_eq_true rfl⟩ rfl hl.1 rfl (Nat.le_of_ble_eq_true rfl) d_M_turned_3 ⟨Nat.le_of_ble_eq_true rfl, Nat.le_of_ble_eq_true rfl⟩) (fun r_7 σ_8 H locs hp_9 h => ?_)
    obtain ⟨e_10, es_11⟩ := hp_9
    rw [es_11] at h
    subst e_10
    rw [show ym 2 = 2000 from rfl]
    refine lv_iload_n hx hb d_M_turned_6 rfl (lv_at hl 2 rfl) ?_
    refine lv_icmp_lt (tgt := 15) hx hb d_M_turned_7 (by decide) (fun c_12 => ?_) (fun c_12 => ?_)
    · refine lv_iinc (v := 3) (lv' := [(3, .int 3), (0, .int 1), (1, .int w), (2, .int z)]) hx hb d_M_turned_15 hl (k := 0) rfl (by first | rfl | decide) (by decide) rfl (fun ls hl => ?_)
      refine lv_goto (tgt := 2) hx hb d_M_turned_18 (by decide) ?_
      refine lv_iload_n hx hb d_M_turned_2 rfl (lv_at hl 0 rfl) ?_
      refine wd_ci h (wd_rS (rest := []) (st0 := [.int 3]) C h k_M_mostOf wt_M_mostOf lk_M_79 (c_M_mostOf l D T A σ 3) rfl rfl ⟨Nat.le_of_ble_eq_true rfl, Nat.le_of_ble_eq_true rfl⟩ rfl hl.1 rfl (Nat.le_of_ble_eq_true rfl) d_M_turned_3 ⟨Nat.le_of_ble_eq_true rfl, Nat.le_of_ble_eq_true rfl⟩) (fun r_13 σ_14 H locs hp_15 h => ?_)
      obtain ⟨e_16, es_17⟩ := hp_15
      rw [es_17] at h
      subst e_16
      rw [show ym 3 = 31500 from rfl]
      refine lv_iload_n hx hb d_M_turned_6 rfl (lv_at hl 2 rfl) ?_
      refine lv_icmp_lt (tgt := 15) hx hb d_M_turned_7 (by decide) (fun z => absurd z hw) (fun _ => ?_)
      refine lv_iload_n hx hb d_M_turned_10 rfl (lv_at hl 0 rfl) ?_
      refine lv_iload_n hx hb d_M_turned_11 rfl (lv_at hl 3 rfl) ?_
      refine lv_icmp_ge (tgt := 21) hx hb d_M_turned_12 (by decide) (fun _ => ?_) (fun z => absurd hz z)
      refine lv_iload_n hx hb d_M_turned_21 rfl (lv_at hl 0 rfl) ?_
      exact wd_iret C hr hlocks h (⟨by simp [xt, eq_true c_6, eq_true c_12], rfl⟩) (Nat.le_of_ble_eq_true rfl) (Nat.le_of_ble_eq_true rfl) d_M_turned_22
    · refine lv_iload_n hx hb d_M_turned_10 rfl (lv_at hl 0 rfl) ?_
      refine lv_iload_n hx hb d_M_turned_11 rfl (lv_at hl 3 rfl) ?_
      refine lv_icmp_ge (tgt := 21) hx hb d_M_turned_12 (by decide) (fun c_20 => ?_) (fun c_20 => ?_)
      · refine lv_iload_n hx hb d_M_turned_21 rfl (lv_at hl 0 rfl) ?_
        exact wd_iret C hr hlocks h (⟨by simp [xt, eq_true c_6, eq_false c_12, eq_false (Int32.not_lt.mpr c_20)], rfl⟩) (Nat.le_of_ble_eq_true rfl) (Nat.le_of_ble_eq_true rfl) d_M_turned_22
      · refine lv_iinc (v := 3) (lv' := [(3, .int 3), (0, .int 1), (1, .int w), (2, .int z)]) hx hb d_M_turned_15 hl (k := 0) rfl (by first | rfl | decide) (by decide) rfl (fun ls hl => ?_)
        refine lv_goto (tgt := 2) hx hb d_M_turned_18 (by decide) ?_
        refine lv_iload_n hx hb d_M_turned_2 rfl (lv_at hl 0 rfl) ?_
        refine wd_ci h (wd_rS (rest := []) (st0 := [.int 3]) C h k_M_mostOf wt_M_mostOf lk_M_79 (c_M_mostOf l D T A σ 3) rfl rfl ⟨Nat.le_of_ble_eq_true rfl, Nat.le_of_ble_eq_true rfl⟩ rfl hl.1 rfl (Nat.le_of_ble_eq_true rfl) d_M_turned_3 ⟨Nat.le_of_ble_eq_true rfl, Nat.le_of_ble_eq_true rfl⟩) (fun r_21 σ_22 H locs hp_23 h => ?_)
        obtain ⟨e_24, es_25⟩ := hp_23
        rw [es_25] at h
        subst e_24
        rw [show ym 3 = 31500 from rfl]
        refine lv_iload_n hx hb d_M_turned_6 rfl (lv_at hl 2 rfl) ?_
        refine lv_icmp_lt (tgt := 15) hx hb d_M_turned_7 (by decide) (fun z => absurd z hw) (fun _ => ?_)
        refine lv_iload_n hx hb d_M_turned_10 rfl (lv_at hl 0 rfl) ?_
        refine lv_iload_n hx hb d_M_turned_11 rfl (lv_at hl 3 rfl) ?_
        refine lv_icmp_ge (tgt := 21) hx hb d_M_turned_12 (by decide) (fun _ => ?_) (fun z => absurd hz z)
        refine lv_iload_n hx hb d_M_turned_21 rfl (lv_at hl 0 rfl) ?_
        exact wd_iret C hr hlocks h (⟨by simp [xt, eq_true c_6, eq_false c_12, eq_true (Int32.not_le.mp c_20)], rfl⟩) (Nat.le_of_ble_eq_true rfl) (Nat.le_of_ble_eq_true rfl) d_M_turned_22
  · refine lv_iload_n hx hb d_M_turned_10 rfl (lv_at hl 0 rfl) ?_
    refine lv_iload_n hx hb d_M_turned_11 rfl (lv_at hl 3 rfl) ?_
    refine lv_icmp_ge (tgt := 21) hx hb d_M_turned_12 (by decide) (fun c_28 => ?_) (fun c_28 => ?_)
    · refine lv_iload_n hx hb d_M_turned_21 rfl (lv_at hl 0 rfl) ?_
      exact wd_iret C hr hlocks h (⟨by simp [xt, eq_false c_6, eq_false (Int32.not_lt.mpr c_28)], rfl⟩) (Nat.le_of_ble_eq_true rfl) (Nat.le_of_ble_eq_true rfl) d_M_turned_22
    · refine lv_iinc (v := 2) (lv' := [(3, .int 2), (0, .int 1), (1, .int w), (2, .int z)]) hx hb d_M_turned_15 hl (k := 0) rfl (by first | rfl | decide) (by decide) rfl (fun ls hl => ?_)
      refine lv_goto (tgt := 2) hx hb d_M_turned_18 (by decide) ?_
      refine lv_iload_n hx hb d_M_turned_2 rfl (lv_at hl 0 rfl) ?_
      refine wd_ci h (wd_rS (rest := []) (st0 := [.int 2]) C h k_M_mostOf wt_M_mostOf lk_M_79 (c_M_mostOf l D T A σ 2) rfl rfl ⟨Nat.le_of_ble_eq_true rfl, Nat.le_of_ble_eq_true rfl⟩ rfl hl.1 rfl (Nat.le_of_ble_eq_true rfl) d_M_turned_3 ⟨Nat.le_of_ble_eq_true rfl, Nat.le_of_ble_eq_true rfl⟩) (fun r_29 σ_30 H locs hp_31 h => ?_)
      obtain ⟨e_32, es_33⟩ := hp_31
      rw [es_33] at h
      subst e_32
      rw [show ym 2 = 2000 from rfl]
      refine lv_iload_n hx hb d_M_turned_6 rfl (lv_at hl 2 rfl) ?_
      refine lv_icmp_lt (tgt := 15) hx hb d_M_turned_7 (by decide) (fun c_34 => ?_) (fun c_34 => ?_)
      · refine lv_iinc (v := 3) (lv' := [(3, .int 3), (0, .int 1), (1, .int w), (2, .int z)]) hx hb d_M_turned_15 hl (k := 0) rfl (by first | rfl | decide) (by decide) rfl (fun ls hl => ?_)
        refine lv_goto (tgt := 2) hx hb d_M_turned_18 (by decide) ?_
        refine lv_iload_n hx hb d_M_turned_2 rfl (lv_at hl 0 rfl) ?_
        refine wd_ci h (wd_rS (rest := []) (st0 := [.int 3]) C h k_M_mostOf wt_M_mostOf lk_M_79 (c_M_mostOf l D T A σ 3) rfl rfl ⟨Nat.le_of_ble_eq_true rfl, Nat.le_of_ble_eq_true rfl⟩ rfl hl.1 rfl (Nat.le_of_ble_eq_true rfl) d_M_turned_3 ⟨Nat.le_of_ble_eq_true rfl, Nat.le_of_ble_eq_true rfl⟩) (fun r_35 σ_36 H locs hp_37 h => ?_)
        obtain ⟨e_38, es_39⟩ := hp_37
        rw [es_39] at h
        subst e_38
        rw [show ym 3 = 31500 from rfl]
        refine lv_iload_n hx hb d_M_turned_6 rfl (lv_at hl 2 rfl) ?_
        refine lv_icmp_lt (tgt := 15) hx hb d_M_turned_7 (by decide) (fun z => absurd z hw) (fun _ => ?_)
        refine lv_iload_n hx hb d_M_turned_10 rfl (lv_at hl 0 rfl) ?_
        refine lv_iload_n hx hb d_M_turned_11 rfl (lv_at hl 3 rfl) ?_
        refine lv_icmp_ge (tgt := 21) hx hb d_M_turned_12 (by decide) (fun _ => ?_) (fun z => absurd hz z)
        refine lv_iload_n hx hb d_M_turned_21 rfl (lv_at hl 0 rfl) ?_
        exact wd_iret C hr hlocks h (⟨by simp [xt, eq_false c_6, eq_true (Int32.not_le.mp c_28), eq_true c_34], rfl⟩) (Nat.le_of_ble_eq_true rfl) (Nat.le_of_ble_eq_true rfl) d_M_turned_22
      · refine lv_iload_n hx hb d_M_turned_10 rfl (lv_at hl 0 rfl) ?_
        refine lv_iload_n hx hb d_M_turned_11 rfl (lv_at hl 3 rfl) ?_
        refine lv_icmp_ge (tgt := 21) hx hb d_M_turned_12 (by decide) (fun c_42 => ?_) (fun c_42 => ?_)
        · refine lv_iload_n hx hb d_M_turned_21 rfl (lv_at hl 0 rfl) ?_
          exact wd_iret C hr hlocks h (⟨by simp [xt, eq_false c_6, eq_true (Int32.not_le.mp c_28), eq_false c_34, eq_false (Int32.not_lt.mpr c_42)], rfl⟩) (Nat.le_of_ble_eq_true rfl) (Nat.le_of_ble_eq_true rfl) d_M_turned_22
        · refine lv_iinc (v := 3) (lv' := [(3, .int 3), (0, .int 1), (1, .int w), (2, .int z)]) hx hb d_M_turned_15 hl (k := 0) rfl (by first | rfl | decide) (by decide) rfl (fun ls hl => ?_)
          refine lv_goto (tgt := 2) hx hb d_M_turned_18 (by decide) ?_
          refine lv_iload_n hx hb d_M_turned_2 rfl (lv_at hl 0 rfl) ?_
          refine wd_ci h (wd_rS (rest := []) (st0 := [.int 3]) C h k_M_mostOf wt_M_mostOf lk_M_79 (c_M_mostOf l D T A σ 3) rfl rfl ⟨Nat.le_of_ble_eq_true rfl, Nat.le_of_ble_eq_true rfl⟩ rfl hl.1 rfl (Nat.le_of_ble_eq_true rfl) d_M_turned_3 ⟨Nat.le_of_ble_eq_true rfl, Nat.le_of_ble_eq_true rfl⟩) (fun r_43 σ_44 H locs hp_45 h => ?_)
          obtain ⟨e_46, es_47⟩ := hp_45
          rw [es_47] at h
          subst e_46
          rw [show ym 3 = 31500 from rfl]
          refine lv_iload_n hx hb d_M_turned_6 rfl (lv_at hl 2 rfl) ?_
          refine lv_icmp_lt (tgt := 15) hx hb d_M_turned_7 (by decide) (fun z => absurd z hw) (fun _ => ?_)
          refine lv_iload_n hx hb d_M_turned_10 rfl (lv_at hl 0 rfl) ?_
          refine lv_iload_n hx hb d_M_turned_11 rfl (lv_at hl 3 rfl) ?_
          refine lv_icmp_ge (tgt := 21) hx hb d_M_turned_12 (by decide) (fun _ => ?_) (fun z => absurd hz z)
          refine lv_iload_n hx hb d_M_turned_21 rfl (lv_at hl 0 rfl) ?_
          exact wd_iret C hr hlocks h (⟨by simp [xt, eq_false c_6, eq_true (Int32.not_le.mp c_28), eq_false c_34, eq_true (Int32.not_le.mp c_42)], rfl⟩) (Nat.le_of_ble_eq_true rfl) (Nat.le_of_ble_eq_true rfl) d_M_turned_22

set_option maxHeartbeats 4000000 in
set_option maxRecDepth 20000 in
theorem c_M_turned_2 (l : Launch) (D : va_G) (T : Nat → ClassId) (A : Nat → Prop) (σ : wd_S) (w z : Int32) (hw : ¬ (31500 : Int32) < w) (hz : z ≤ 3) : Met l y_M_turned (Cond.code y_M_turned b_M_turned 4 (some .int) :: wd_tb) { frames := 1, cells := 0, slots := 0, locals := 20 } (va_Pc [.int 2, .int w, .int z] (wd_Pre D T A σ)) (va_Qi (fun r1 σ1 => r1 = xt 2 w z ∧ σ1 = σ) (wd_B D A) A) 0 0 A := by
  refine wd_ofW (by decide) (Nat.le_of_ble_eq_true rfl) ?_
  intro p e s m below meth c0 ls C hr hlocks hname h hl
  have hl : lv_has ls 4 [(0, .int 2), (1, .int w), (2, .int z)] := hl
  have hx := C.1
  have hb := C.2.1
  refine lv_iload_n hx hb d_M_turned_0 rfl (lv_at hl 0 rfl) ?_
  refine lv_istore_n (lv' := [(3, .int 2), (0, .int 2), (1, .int w), (2, .int z)]) hx hb d_M_turned_1 rfl hl (by decide) rfl (fun ls hl => ?_)
  refine lv_iload_n hx hb d_M_turned_2 rfl (lv_at hl 0 rfl) ?_
  refine wd_ci h (wd_rS (rest := []) (st0 := [.int 2]) C h k_M_mostOf wt_M_mostOf lk_M_79 (c_M_mostOf l D T A σ 2) rfl rfl ⟨Nat.le_of_ble_eq_true rfl, Nat.le_of_ble_eq_true rfl⟩ rfl hl.1 rfl (Nat.le_of_ble_eq_true rfl) d_M_turned_3 ⟨Nat.le_of_ble_eq_true rfl, Nat.le_of_ble_eq_true rfl⟩) (fun r_1 σ_2 H locs hp_3 h => ?_)
  obtain ⟨e_4, es_5⟩ := hp_3
  rw [es_5] at h
  subst e_4
  rw [show ym 2 = 2000 from rfl]
  refine lv_iload_n hx hb d_M_turned_6 rfl (lv_at hl 2 rfl) ?_
  refine lv_icmp_lt (tgt := 15) hx hb d_M_turned_7 (by decide) (fun c_6 => ?_) (fun c_6 => ?_)
  · refine lv_iinc (v := 3) (lv' := [(3, .int 3), (0, .int 2), (1, .int w), (2, .int z)]) hx hb d_M_turned_15 hl (k := 0) rfl (by first | rfl | decide) (by decide) rfl (fun ls hl => ?_)
    refine lv_goto (tgt := 2) hx hb d_M_turned_18 (by decide) ?_
    refine lv_iload_n hx hb d_M_turned_2 rfl (lv_at hl 0 rfl) ?_
    refine wd_ci h (wd_rS (rest := []) (st0 := [.int 3]) C h k_M_mostOf wt_M_mostOf lk_M_79 (c_M_mostOf l D T A σ 3) rfl rfl ⟨Nat.le_of_ble_eq_true rfl, Nat.le_of_ble_eq_true rfl⟩ rfl hl.1 rfl (Nat.le_of_ble_eq_true rfl) d_M_turned_3 ⟨Nat.le_of_ble_eq_true rfl, Nat.le_of_ble_eq_true rfl⟩) (fun r_7 σ_8 H locs hp_9 h => ?_)
    obtain ⟨e_10, es_11⟩ := hp_9
    rw [es_11] at h
    subst e_10
    rw [show ym 3 = 31500 from rfl]
    refine lv_iload_n hx hb d_M_turned_6 rfl (lv_at hl 2 rfl) ?_
    refine lv_icmp_lt (tgt := 15) hx hb d_M_turned_7 (by decide) (fun z => absurd z hw) (fun _ => ?_)
    refine lv_iload_n hx hb d_M_turned_10 rfl (lv_at hl 0 rfl) ?_
    refine lv_iload_n hx hb d_M_turned_11 rfl (lv_at hl 3 rfl) ?_
    refine lv_icmp_ge (tgt := 21) hx hb d_M_turned_12 (by decide) (fun _ => ?_) (fun z => absurd hz z)
    refine lv_iload_n hx hb d_M_turned_21 rfl (lv_at hl 0 rfl) ?_
    exact wd_iret C hr hlocks h (⟨by simp [xt, eq_true c_6], rfl⟩) (Nat.le_of_ble_eq_true rfl) (Nat.le_of_ble_eq_true rfl) d_M_turned_22
  · refine lv_iload_n hx hb d_M_turned_10 rfl (lv_at hl 0 rfl) ?_
    refine lv_iload_n hx hb d_M_turned_11 rfl (lv_at hl 3 rfl) ?_
    refine lv_icmp_ge (tgt := 21) hx hb d_M_turned_12 (by decide) (fun c_14 => ?_) (fun c_14 => ?_)
    · refine lv_iload_n hx hb d_M_turned_21 rfl (lv_at hl 0 rfl) ?_
      exact wd_iret C hr hlocks h (⟨by simp [xt, eq_false c_6, eq_false (Int32.not_lt.mpr c_14)], rfl⟩) (Nat.le_of_ble_eq_true rfl) (Nat.le_of_ble_eq_true rfl) d_M_turned_22
    · refine lv_iinc (v := 3) (lv' := [(3, .int 3), (0, .int 2), (1, .int w), (2, .int z)]) hx hb d_M_turned_15 hl (k := 0) rfl (by first | rfl | decide) (by decide) rfl (fun ls hl => ?_)
      refine lv_goto (tgt := 2) hx hb d_M_turned_18 (by decide) ?_
      refine lv_iload_n hx hb d_M_turned_2 rfl (lv_at hl 0 rfl) ?_
      refine wd_ci h (wd_rS (rest := []) (st0 := [.int 3]) C h k_M_mostOf wt_M_mostOf lk_M_79 (c_M_mostOf l D T A σ 3) rfl rfl ⟨Nat.le_of_ble_eq_true rfl, Nat.le_of_ble_eq_true rfl⟩ rfl hl.1 rfl (Nat.le_of_ble_eq_true rfl) d_M_turned_3 ⟨Nat.le_of_ble_eq_true rfl, Nat.le_of_ble_eq_true rfl⟩) (fun r_15 σ_16 H locs hp_17 h => ?_)
      obtain ⟨e_18, es_19⟩ := hp_17
      rw [es_19] at h
      subst e_18
      rw [show ym 3 = 31500 from rfl]
      refine lv_iload_n hx hb d_M_turned_6 rfl (lv_at hl 2 rfl) ?_
      refine lv_icmp_lt (tgt := 15) hx hb d_M_turned_7 (by decide) (fun z => absurd z hw) (fun _ => ?_)
      refine lv_iload_n hx hb d_M_turned_10 rfl (lv_at hl 0 rfl) ?_
      refine lv_iload_n hx hb d_M_turned_11 rfl (lv_at hl 3 rfl) ?_
      refine lv_icmp_ge (tgt := 21) hx hb d_M_turned_12 (by decide) (fun _ => ?_) (fun z => absurd hz z)
      refine lv_iload_n hx hb d_M_turned_21 rfl (lv_at hl 0 rfl) ?_
      exact wd_iret C hr hlocks h (⟨by simp [xt, eq_false c_6, eq_true (Int32.not_le.mp c_14)], rfl⟩) (Nat.le_of_ble_eq_true rfl) (Nat.le_of_ble_eq_true rfl) d_M_turned_22

set_option maxHeartbeats 4000000 in
set_option maxRecDepth 20000 in
theorem c_M_turned_3 (l : Launch) (D : va_G) (T : Nat → ClassId) (A : Nat → Prop) (σ : wd_S) (w z : Int32) (hw : ¬ (31500 : Int32) < w) (hz : z ≤ 3) : Met l y_M_turned (Cond.code y_M_turned b_M_turned 4 (some .int) :: wd_tb) { frames := 1, cells := 0, slots := 0, locals := 20 } (va_Pc [.int 3, .int w, .int z] (wd_Pre D T A σ)) (va_Qi (fun r1 σ1 => r1 = xt 3 w z ∧ σ1 = σ) (wd_B D A) A) 0 0 A := by
  refine wd_ofW (by decide) (Nat.le_of_ble_eq_true rfl) ?_
  intro p e s m below meth c0 ls C hr hlocks hname h hl
  have hl : lv_has ls 4 [(0, .int 3), (1, .int w), (2, .int z)] := hl
  have hx := C.1
  have hb := C.2.1
  refine lv_iload_n hx hb d_M_turned_0 rfl (lv_at hl 0 rfl) ?_
  refine lv_istore_n (lv' := [(3, .int 3), (0, .int 3), (1, .int w), (2, .int z)]) hx hb d_M_turned_1 rfl hl (by decide) rfl (fun ls hl => ?_)
  refine lv_iload_n hx hb d_M_turned_2 rfl (lv_at hl 0 rfl) ?_
  refine wd_ci h (wd_rS (rest := []) (st0 := [.int 3]) C h k_M_mostOf wt_M_mostOf lk_M_79 (c_M_mostOf l D T A σ 3) rfl rfl ⟨Nat.le_of_ble_eq_true rfl, Nat.le_of_ble_eq_true rfl⟩ rfl hl.1 rfl (Nat.le_of_ble_eq_true rfl) d_M_turned_3 ⟨Nat.le_of_ble_eq_true rfl, Nat.le_of_ble_eq_true rfl⟩) (fun r_1 σ_2 H locs hp_3 h => ?_)
  obtain ⟨e_4, es_5⟩ := hp_3
  rw [es_5] at h
  subst e_4
  rw [show ym 3 = 31500 from rfl]
  refine lv_iload_n hx hb d_M_turned_6 rfl (lv_at hl 2 rfl) ?_
  refine lv_icmp_lt (tgt := 15) hx hb d_M_turned_7 (by decide) (fun z => absurd z hw) (fun _ => ?_)
  refine lv_iload_n hx hb d_M_turned_10 rfl (lv_at hl 0 rfl) ?_
  refine lv_iload_n hx hb d_M_turned_11 rfl (lv_at hl 3 rfl) ?_
  refine lv_icmp_ge (tgt := 21) hx hb d_M_turned_12 (by decide) (fun _ => ?_) (fun z => absurd hz z)
  refine lv_iload_n hx hb d_M_turned_21 rfl (lv_at hl 0 rfl) ?_
  exact wd_iret C hr hlocks h (⟨by simp [xt], rfl⟩) (Nat.le_of_ble_eq_true rfl) (Nat.le_of_ble_eq_true rfl) d_M_turned_22

theorem c_M_turned (l : Launch) (D : va_G) (T : Nat → ClassId) (A : Nat → Prop) (σ : wd_S) (k w z : Int32) (hk : k = 0 ∨ k = 1 ∨ k = 2 ∨ k = 3) (hw : ¬ (31500 : Int32) < w) (hz : z ≤ 3) : Met l y_M_turned (Cond.code y_M_turned b_M_turned 4 (some .int) :: wd_tb) { frames := 1, cells := 0, slots := 0, locals := 20 } (va_Pc [.int k, .int w, .int z] (wd_Pre D T A σ)) (va_Qi (fun r1 σ1 => r1 = xt k w z ∧ σ1 = σ) (wd_B D A) A) 0 0 A := by
  rcases hk with rfl | rfl | rfl | rfl
  · exact c_M_turned_0 l D T A σ w z hw hz
  · exact c_M_turned_1 l D T A σ w z hw hz
  · exact c_M_turned_2 l D T A σ w z hw hz
  · exact c_M_turned_3 l D T A σ w z hw hz

set_option maxHeartbeats 4000000 in
set_option maxRecDepth 20000 in
theorem c_M_row (l : Launch) (D : va_G) (T : Nat → ClassId) (A : Nat → Prop) (σ : wd_S) (y : Nat) (am : Nat → Nat) (fm : Nat → Nat → Int32) (n : Nat) (R : Nat → Nat → Int32) (nc : Nat) (CR : Nat → Nat → Int32) (wg : Nat → Int32) (Q : pq) (hM : MB T σ y am fm n R nc CR wg Q) (i wh : Int32) : Met l y_M_row (Cond.code y_M_row b_M_row 3 (some .int) :: wd_tb) { frames := 1, cells := 0, slots := 0, locals := 22 } (va_Pc [.ref y, .int i, .int wh] (wd_Pre D T A σ)) (va_Qi (fun r1 σ1 => r1 = o_row nc CR i wh ∧ σ1 = σ) (wd_B D A) A) 0 0 A := by
  refine wd_ofW (by decide) (Nat.le_of_ble_eq_true rfl) ?_
  intro p e s m below meth c0 ls C hr hlocks hname h hl
  have hl : lv_has ls 3 [(0, .ref y), (1, .int i), (2, .int wh)] := hl
  have hx := C.1
  have hb := C.2.1
  obtain ⟨⟨d0, dc, di⟩, m1, m2, m3, m4, m5, m6, m7, m8, m9, m10⟩ := id hM
  have c20 : σ (am 20) = some (.inl (T 0, 1000, .inl (fm 20))) := dc 20 rfl
  refine lv_iload_n hx hb d_M_row_0 rfl (lv_at hl 1 rfl) ?_
  refine lv_iconst (v := 0) hx hb d_M_row_1 (by decide) ?_
  refine lv_aload_n hx hb d_M_row_2 rfl (lv_at hl 0 rfl) ?_
  refine wd_get C h kc_M d0 19 (by decide) lk_M_119 rfl d_M_row_3 ?_
  refine lv_iconst (v := 1) hx hb d_M_row_6 (by decide) ?_
  refine lv_isub hx hb d_M_row_7 ?_
  refine wd_ci h (wd_rS (rest := []) (st0 := [.int ((nI nc) - 1), .int 0, .int i]) C h k_M_within wt_M_within lk_M_75 (c_M_within l D T A σ i 0 ((nI nc) - 1)) rfl rfl ⟨Nat.le_of_ble_eq_true rfl, Nat.le_of_ble_eq_true rfl⟩ rfl hl.1 rfl (Nat.le_of_ble_eq_true rfl) d_M_row_8 ⟨Nat.le_of_ble_eq_true rfl, Nat.le_of_ble_eq_true rfl⟩) (fun r_1 σ_2 H locs hp_3 h => ?_)
  obtain ⟨e_4, es_5⟩ := hp_3
  rw [es_5] at h
  subst e_4
  refine lv_if_eq (tgt := 36) hx hb d_M_row_11 (by decide) (fun c_6 => ?_) (fun c_6 => ?_)
  · refine lv_iconst (v := (-1)) hx hb d_M_row_36 (by decide) ?_
    exact wd_iret C hr hlocks h (⟨by simp [o_row, eq_true c_6], rfl⟩) (Nat.le_of_ble_eq_true rfl) (Nat.le_of_ble_eq_true rfl) d_M_row_37
  · refine lv_iload_n hx hb d_M_row_14 rfl (lv_at hl 2 rfl) ?_
    refine lv_iconst (v := 0) hx hb d_M_row_15 (by decide) ?_
    refine lv_iconst (v := 4) hx hb d_M_row_16 (by decide) ?_
    refine wd_ci h (wd_rS (rest := []) (st0 := [.int 4, .int 0, .int wh]) C h k_M_within wt_M_within lk_M_75 (c_M_within l D T A σ wh 0 4) rfl rfl ⟨Nat.le_of_ble_eq_true rfl, Nat.le_of_ble_eq_true rfl⟩ rfl hl.1 rfl (Nat.le_of_ble_eq_true rfl) d_M_row_17 ⟨Nat.le_of_ble_eq_true rfl, Nat.le_of_ble_eq_true rfl⟩) (fun r_7 σ_8 H locs hp_9 h => ?_)
    obtain ⟨e_10, es_11⟩ := hp_9
    rw [es_11] at h
    subst e_10
    refine lv_if_eq (tgt := 36) hx hb d_M_row_20 (by decide) (fun c_12 => ?_) (fun c_12 => ?_)
    · refine lv_iconst (v := (-1)) hx hb d_M_row_36 (by decide) ?_
      exact wd_iret C hr hlocks h (⟨by simp [o_row, eq_false c_6, xp_out c_12], rfl⟩) (Nat.le_of_ble_eq_true rfl) (Nat.le_of_ble_eq_true rfl) d_M_row_37
    · obtain ⟨k, hk, rfl⟩ := r_in (by omega) c_6
      obtain ⟨j, hj, rfl⟩ := q_in (n := 4) c_12 rfl (by decide)
      refine lv_aload_n hx hb d_M_row_23 rfl (lv_at hl 0 rfl) ?_
      refine wd_get C h kc_M d0 20 (by decide) lk_M_65 rfl d_M_row_24 ?_
      refine lv_iconst (v := 5) hx hb d_M_row_27 (by decide) ?_
      refine lv_iload_n hx hb d_M_row_28 rfl (lv_at hl 1 rfl) ?_
      refine lv_imul hx hb d_M_row_29 ?_
      refine lv_iload_n hx hb d_M_row_30 rfl (lv_at hl 2 rfl) ?_
      refine lv_iadd hx hb d_M_row_31 ?_
      refine wd_iald C h 0 rfl c20 (by rw [mu5]; exact vp_in_nI (by omega) (by decide)) d_M_row_32 ?_
      rw [mu5, nI_clamp (show 5 * k + j < 2 ^ 31 by omega)]
      rw [m5 k hk j (by omega)]
      refine lv_goto (tgt := 37) hx hb d_M_row_33 (by decide) ?_
      exact wd_iret C hr hlocks h (⟨by simp [o_row, eq_false c_6, xp_n j hj, nI_clamp (show k < 2 ^ 31 by omega)], rfl⟩) (Nat.le_of_ble_eq_true rfl) (Nat.le_of_ble_eq_true rfl) d_M_row_37

set_option maxHeartbeats 4000000 in
set_option maxRecDepth 20000 in
theorem c_M_octet (l : Launch) (D : va_G) (T : Nat → ClassId) (A : Nat → Prop) (σ : wd_S) (y : Nat) (am : Nat → Nat) (fm : Nat → Nat → Int32) (n : Nat) (R : Nat → Nat → Int32) (nc : Nat) (CR : Nat → Nat → Int32) (wg : Nat → Int32) (Q : pq) (hM : MB T σ y am fm n R nc CR wg Q) (i : Int32) : Met l y_M_octet (Cond.code y_M_octet b_M_octet 2 (some .int) :: wd_tb) { frames := 1, cells := 0, slots := 0, locals := 22 } (va_Pc [.ref y, .int i] (wd_Pre D T A σ)) (va_Qi (fun r1 σ1 => r1 = o_oct Q i ∧ σ1 = σ) (wd_B D A) A) 0 0 A := by
  refine wd_ofW (by decide) (Nat.le_of_ble_eq_true rfl) ?_
  intro p e s m below meth c0 ls C hr hlocks hname h hl
  have hl : lv_has ls 2 [(0, .ref y), (1, .int i)] := hl
  have hx := C.1
  have hb := C.2.1
  obtain ⟨⟨d0, dc, di⟩, m1, m2, m3, m4, m5, m6, m7, m8, m9, m10⟩ := id hM
  have c22 : σ (am 22) = some (.inl (T 0, 40, .inl (fm 22))) := dc 22 rfl
  refine lv_iload_n hx hb d_M_octet_0 rfl (lv_at hl 1 rfl) ?_
  refine lv_iconst (v := 0) hx hb d_M_octet_1 (by decide) ?_
  refine lv_aload_n hx hb d_M_octet_2 rfl (lv_at hl 0 rfl) ?_
  refine wd_get C h kc_M d0 21 (by decide) lk_M_122 rfl d_M_octet_3 ?_
  refine lv_iconst (v := 1) hx hb d_M_octet_6 (by decide) ?_
  refine lv_isub hx hb d_M_octet_7 ?_
  refine wd_ci h (wd_rS (rest := []) (st0 := [.int ((nI Q.2) - 1), .int 0, .int i]) C h k_M_within wt_M_within lk_M_75 (c_M_within l D T A σ i 0 ((nI Q.2) - 1)) rfl rfl ⟨Nat.le_of_ble_eq_true rfl, Nat.le_of_ble_eq_true rfl⟩ rfl hl.1 rfl (Nat.le_of_ble_eq_true rfl) d_M_octet_8 ⟨Nat.le_of_ble_eq_true rfl, Nat.le_of_ble_eq_true rfl⟩) (fun r_1 σ_2 H locs hp_3 h => ?_)
  obtain ⟨e_4, es_5⟩ := hp_3
  rw [es_5] at h
  subst e_4
  refine lv_if_eq (tgt := 23) hx hb d_M_octet_11 (by decide) (fun c_6 => ?_) (fun c_6 => ?_)
  · refine lv_iconst (v := (-1)) hx hb d_M_octet_23 (by decide) ?_
    exact wd_iret C hr hlocks h (⟨by simp [o_oct, eq_true c_6], rfl⟩) (Nat.le_of_ble_eq_true rfl) (Nat.le_of_ble_eq_true rfl) d_M_octet_24
  · obtain ⟨k, hk, rfl⟩ := r_in (by omega) c_6
    refine lv_aload_n hx hb d_M_octet_14 rfl (lv_at hl 0 rfl) ?_
    refine wd_get C h kc_M d0 22 (by decide) lk_M_68 rfl d_M_octet_15 ?_
    refine lv_iload_n hx hb d_M_octet_18 rfl (lv_at hl 1 rfl) ?_
    refine wd_iald C h 0 rfl c22 (vp_in_nI (show k < 40 by omega) (by decide)) d_M_octet_19 ?_
    rw [nI_clamp (show k < 2 ^ 31 by omega)]
    rw [m7 k hk]
    refine lv_goto (tgt := 24) hx hb d_M_octet_20 (by decide) ?_
    exact wd_iret C hr hlocks h (⟨by simp [o_oct, eq_false c_6, nI_clamp (show k < 2 ^ 31 by omega)], rfl⟩) (Nat.le_of_ble_eq_true rfl) (Nat.le_of_ble_eq_true rfl) d_M_octet_24

set_option maxHeartbeats 4000000 in
set_option maxRecDepth 20000 in
theorem c_M_aside (l : Launch) (D : va_G) (T : Nat → ClassId) (A : Nat → Prop) (σ : wd_S) (y : Nat) (am : Nat → Nat) (fm : Nat → Nat → Int32) (n : Nat) (R : Nat → Nat → Int32) (nc : Nat) (CR : Nat → Nat → Int32) (wg : Nat → Int32) (Q : pq) (hM : MB T σ y am fm n R nc CR wg Q) (i : Int32) : Met l y_M_aside (Cond.code y_M_aside b_M_aside 4 (some .int) :: wd_tb) { frames := 0, cells := 0, slots := 0, locals := 0 } (va_Pc [.ref y, .int i] (wd_Pre D T A σ)) (va_Qi (fun r1 σ1 => r1 = o_asd n R i ∧ σ1 = σ) (wd_B D A) A) 0 0 A := by
  refine wd_ofW (by decide) (Nat.le_of_ble_eq_true rfl) ?_
  intro p e s m below meth c0 ls C hr hlocks hname h hl
  have hl : lv_has ls 4 [(0, .ref y), (1, .int i)] := hl
  have hx := C.1
  have hb := C.2.1
  obtain ⟨⟨d0, dc, di⟩, m1, m2, m3, m4, m5, m6, m7, m8, m9, m10⟩ := id hM
  have c6 : σ (am 6) = some (.inl (T 0, 121, .inl (fm 6))) := dc 6 rfl
  have c7 : σ (am 7) = some (.inl (T 1, 121, .inl (fm 7))) := dc 7 rfl
  refine lv_iload_n hx hb d_M_aside_0 rfl (lv_at hl 1 rfl) ?_
  refine lv_istore_n (lv' := [(2, .int i), (0, .ref y), (1, .int i)]) hx hb d_M_aside_1 rfl hl (by decide) rfl (fun ls hl => ?_)
  refine lv_iconst (v := 1) hx hb d_M_aside_2 (by decide) ?_
  refine lv_istore_n (lv' := [(3, .int 1), (2, .int i), (0, .ref y), (1, .int i)]) hx hb d_M_aside_3 rfl hl (by decide) rfl (fun ls hl => ?_)
  have hl2 : ∃ (j b : Nat) (lf : Int32), (j ≤ n) ∧ (lf + nI b = i) ∧ (asf R i (n - j) j b = asf R i n 0 0) ∧ lv_has ls 4 [(3, .int (nI (j + 1))), (2, .int lf), (1, .int i), (0, .ref y)] := ⟨0, 0, i, Nat.zero_le _, (by rw [nI_0]; exact Int32.add_zero i), rfl, lv_sub hl [0, 1, 3, 2] rfl⟩
  clear hl
  obtain ⟨j, b, lf, p0, p1, p2, hl⟩ := hl2
  obtain ⟨z, hz⟩ : ∃ z : Nat, n < j + z := ⟨n + 1, by omega⟩
  induction z generalizing j b lf ls with
  | zero => omega
  | succ z ih =>
    refine lv_iload_n hx hb d_M_aside_4 rfl (lv_at hl 0 rfl) ?_
    refine lv_aload_n hx hb d_M_aside_5 rfl (lv_at hl 3 rfl) ?_
    refine wd_get C h kc_M d0 0 (by decide) lk_M_71 rfl d_M_aside_6 ?_
    refine lv_icmp_gt (tgt := 47) hx hb d_M_aside_9 (by decide) (fun c_1 => ?_) (fun c_1 => ?_)
    · refine lv_iconst (v := (-1)) hx hb d_M_aside_47 (by decide) ?_
      exact wd_iret C hr hlocks h (⟨by rw [o_asd_eq m8, ← p2, gt_x m8 p0 c_1, Nat.sub_self]; rfl, rfl⟩) (Nat.le_of_ble_eq_true rfl) (Nat.le_of_ble_eq_true rfl) d_M_aside_48
    · have hlt := lt_x m8 p0 c_1
      refine lv_aload_n hx hb d_M_aside_12 rfl (lv_at hl 3 rfl) ?_
      refine wd_get C h kc_M d0 7 (by decide) lk_M_28 rfl d_M_aside_13 ?_
      refine lv_iload_n hx hb d_M_aside_16 rfl (lv_at hl 0 rfl) ?_
      refine wd_zald C h 1 rfl c7 (vp_in_nI (show j + 1 < 121 by omega) (by decide)) d_M_aside_17 ?_
      rw [nI_clamp (show j + 1 < 2 ^ 31 by omega)]
      rw [show fm 7 (j + 1) = R j 6 from m1 j hlt 6 (by decide)]
      refine lv_if_ne (tgt := 32) hx hb d_M_aside_18 (by decide) (fun c_2 => ?_) (fun c_2 => ?_)
      · refine lv_iload_n hx hb d_M_aside_32 rfl (lv_at hl 1 rfl) ?_
        refine lv_if_ne (tgt := 38) hx hb d_M_aside_33 (by decide) (fun c_3 => ?_) (fun c_3 => ?_)
        · refine lv_iinc (v := (lf + (-1))) (lv' := [(2, .int (lf + (-1))), (3, .int (nI (j + 1))), (1, .int i), (0, .ref y)]) hx hb d_M_aside_38 hl (k := 1) rfl (by first | rfl | decide) (by decide) rfl (fun ls hl => ?_)
          refine lv_iinc (v := ((nI (j + 1)) + 1)) (lv' := [(3, .int ((nI (j + 1)) + 1)), (2, .int (lf + (-1))), (1, .int i), (0, .ref y)]) hx hb d_M_aside_41 hl (k := 1) rfl (by first | rfl | decide) (by decide) rfl (fun ls hl => ?_)
          refine lv_goto (tgt := 4) hx hb d_M_aside_44 (by decide) ?_
          have hl3 : lv_has ls 4 [(3, .int (nI (j + 1 + 1))), (2, .int (lf + (-1))), (1, .int i), (0, .ref y)] := by
            rw [← nI_1]
            exact lv_sub hl [0, 1, 2, 3] rfl
          rw [show n - j = (n - (j + 1)) + 1 by omega] at p2
          exact ih (ls := ls) (j := j + 1) (b := (b + 1)) (lf := (lf + (-1))) hlt (by rw [← nI_1, lf_step]; exact p1) (by rw [← p2]; simp [asf, xa, eq_false c_2, eq_false (lf_ne p1 c_3)]) hl3 (by omega)
        · refine lv_iload_n hx hb d_M_aside_36 rfl (lv_at hl 0 rfl) ?_
          exact wd_iret C hr hlocks h (⟨by rw [o_asd_eq m8, ← p2, show n - j = (n - (j + 1)) + 1 by omega]; simp [asf, xa, eq_false c_2, eq_true (lf_eq p1 c_3)], rfl⟩) (Nat.le_of_ble_eq_true rfl) (Nat.le_of_ble_eq_true rfl) d_M_aside_37
      · refine lv_aload_n hx hb d_M_aside_21 rfl (lv_at hl 3 rfl) ?_
        refine wd_get C h kc_M d0 6 (by decide) lk_M_25 rfl d_M_aside_22 ?_
        refine lv_iload_n hx hb d_M_aside_25 rfl (lv_at hl 0 rfl) ?_
        refine wd_iald C h 0 rfl c6 (vp_in_nI (show j + 1 < 121 by omega) (by decide)) d_M_aside_26 ?_
        rw [nI_clamp (show j + 1 < 2 ^ 31 by omega)]
        rw [show fm 6 (j + 1) = R j 5 from m1 j hlt 5 (by decide)]
        refine lv_bipush (v := 8) hx hb d_M_aside_27 (by decide) ?_
        refine lv_icmp_ne (tgt := 41) hx hb d_M_aside_29 (by decide) (fun c_4 => ?_) (fun c_4 => ?_)
        · refine lv_iinc (v := ((nI (j + 1)) + 1)) (lv' := [(3, .int ((nI (j + 1)) + 1)), (2, .int lf), (1, .int i), (0, .ref y)]) hx hb d_M_aside_41 hl (k := 0) rfl (by first | rfl | decide) (by decide) rfl (fun ls hl => ?_)
          refine lv_goto (tgt := 4) hx hb d_M_aside_44 (by decide) ?_
          have hl3 : lv_has ls 4 [(3, .int (nI (j + 1 + 1))), (2, .int lf), (1, .int i), (0, .ref y)] := by
            rw [← nI_1]
            exact lv_sub hl [0, 1, 2, 3] rfl
          rw [show n - j = (n - (j + 1)) + 1 by omega] at p2
          exact ih (ls := ls) (j := j + 1) (b := b) (lf := lf) hlt (by exact p1) (by rw [← p2]; simp [asf, xa, eq_true c_2, eq_false c_4]) hl3 (by omega)
        · refine lv_iload_n hx hb d_M_aside_32 rfl (lv_at hl 1 rfl) ?_
          refine lv_if_ne (tgt := 38) hx hb d_M_aside_33 (by decide) (fun c_5 => ?_) (fun c_5 => ?_)
          · refine lv_iinc (v := (lf + (-1))) (lv' := [(2, .int (lf + (-1))), (3, .int (nI (j + 1))), (1, .int i), (0, .ref y)]) hx hb d_M_aside_38 hl (k := 1) rfl (by first | rfl | decide) (by decide) rfl (fun ls hl => ?_)
            refine lv_iinc (v := ((nI (j + 1)) + 1)) (lv' := [(3, .int ((nI (j + 1)) + 1)), (2, .int (lf + (-1))), (1, .int i), (0, .ref y)]) hx hb d_M_aside_41 hl (k := 1) rfl (by first | rfl | decide) (by decide) rfl (fun ls hl => ?_)
            refine lv_goto (tgt := 4) hx hb d_M_aside_44 (by decide) ?_
            have hl3 : lv_has ls 4 [(3, .int (nI (j + 1 + 1))), (2, .int (lf + (-1))), (1, .int i), (0, .ref y)] := by
              rw [← nI_1]
              exact lv_sub hl [0, 1, 2, 3] rfl
            rw [show n - j = (n - (j + 1)) + 1 by omega] at p2
            exact ih (ls := ls) (j := j + 1) (b := (b + 1)) (lf := (lf + (-1))) hlt (by rw [← nI_1, lf_step]; exact p1) (by rw [← p2]; simp [asf, xa, eq_true c_2, eq_true c_4, eq_false (lf_ne p1 c_5)]) hl3 (by omega)
          · refine lv_iload_n hx hb d_M_aside_36 rfl (lv_at hl 0 rfl) ?_
            exact wd_iret C hr hlocks h (⟨by rw [o_asd_eq m8, ← p2, show n - j = (n - (j + 1)) + 1 by omega]; simp [asf, xa, eq_true c_2, eq_true c_4, eq_true (lf_eq p1 c_5)], rfl⟩) (Nat.le_of_ble_eq_true rfl) (Nat.le_of_ble_eq_true rfl) d_M_aside_37

set_option maxHeartbeats 4000000 in
set_option maxRecDepth 20000 in
theorem c_M_belonging_15 (l : Launch) (D : va_G) (T : Nat → ClassId) (A : Nat → Prop) (σ : wd_S) (y : Nat) (am : Nat → Nat) (fm : Nat → Nat → Int32) (n : Nat) (R : Nat → Nat → Int32) (nc : Nat) (CR : Nat → Nat → Int32) (wg : Nat → Int32) (Q : pq) (hM : MB T σ y am fm n R nc CR wg Q) (c : Int32) : Met l y_M_belonging (Cond.code y_M_belonging b_M_belonging 5 (some .int) :: wd_tb) { frames := 0, cells := 0, slots := 0, locals := 0 } (va_Pc [.ref y, .ref (am 15), .int c] (wd_Pre D T A σ)) (va_Qi (fun r1 σ1 => r1 = nI (cnt R 10 c n) ∧ σ1 = σ) (wd_B D A) A) 0 0 A := by
  refine wd_ofW (by decide) (Nat.le_of_ble_eq_true rfl) ?_
  intro p e s m below meth c0 ls C hr hlocks hname h hl
  have hl : lv_has ls 5 [(0, .ref y), (1, .ref (am 15)), (2, .int c)] := hl
  have hx := C.1
  have hb := C.2.1
  obtain ⟨⟨d0, dc, di⟩, m1, m2, m3, m4, m5, m6, m7, m8, m9, m10⟩ := id hM
  have c15 : σ (am 15) = some (.inl (T 0, 121, .inl (fm 15))) := dc 15 rfl
  refine lv_iconst (v := 0) hx hb d_M_belonging_0 (by decide) ?_
  refine lv_istore_n (lv' := [(3, .int 0), (0, .ref y), (1, .ref (am 15)), (2, .int c)]) hx hb d_M_belonging_1 rfl hl (by decide) rfl (fun ls hl => ?_)
  refine lv_iconst (v := 1) hx hb d_M_belonging_2 (by decide) ?_
  refine lv_istore (lv' := [(4, .int 1), (3, .int 0), (0, .ref y), (1, .ref (am 15)), (2, .int c)]) hx hb d_M_belonging_3 hl (by decide) rfl (fun ls hl => ?_)
  have hl2 : ∃ (j : Nat), (j ≤ n) ∧ lv_has ls 5 [(4, .int (nI (j + 1))), (3, .int (nI (cnt R 10 c j))), (2, .int c), (1, .ref (am 15)), (0, .ref y)] := ⟨0, Nat.zero_le _, lv_sub hl [0, 1, 4, 3, 2] rfl⟩
  clear hl
  obtain ⟨j, p0, hl⟩ := hl2
  obtain ⟨z, hz⟩ : ∃ z : Nat, n < j + z := ⟨n + 1, by omega⟩
  induction z generalizing j ls with
  | zero => omega
  | succ z ih =>
    refine lv_iload hx hb d_M_belonging_5 (lv_at hl 0 rfl) ?_
    refine lv_aload_n hx hb d_M_belonging_7 rfl (lv_at hl 4 rfl) ?_
    refine wd_get C h kc_M d0 0 (by decide) lk_M_71 rfl d_M_belonging_8 ?_
    refine lv_icmp_gt (tgt := 36) hx hb d_M_belonging_11 (by decide) (fun c_1 => ?_) (fun c_1 => ?_)
    · refine lv_iload_n hx hb d_M_belonging_36 rfl (lv_at hl 1 rfl) ?_
      exact wd_iret C hr hlocks h (⟨by rw [gt_x m8 p0 c_1], rfl⟩) (Nat.le_of_ble_eq_true rfl) (Nat.le_of_ble_eq_true rfl) d_M_belonging_37
    · have hlt := lt_x m8 p0 c_1
      refine lv_iload_n hx hb d_M_belonging_14 rfl (lv_at hl 1 rfl) ?_
      refine lv_aload_n hx hb d_M_belonging_15 rfl (lv_at hl 3 rfl) ?_
      refine lv_iload hx hb d_M_belonging_16 (lv_at hl 0 rfl) ?_
      refine wd_iald C h 0 rfl c15 (vp_in_nI (show j + 1 < 121 by omega) (by decide)) d_M_belonging_18 ?_
      rw [nI_clamp (show j + 1 < 2 ^ 31 by omega)]
      rw [show fm 15 (j + 1) = R j 10 from m1 j hlt 10 (by decide)]
      refine lv_iload_n hx hb d_M_belonging_19 rfl (lv_at hl 2 rfl) ?_
      refine lv_icmp_ne (tgt := 27) hx hb d_M_belonging_20 (by decide) (fun c_2 => ?_) (fun c_2 => ?_)
      · refine lv_iconst (v := 0) hx hb d_M_belonging_27 (by decide) ?_
        refine lv_iadd hx hb d_M_belonging_28 ?_
        refine lv_istore_n (lv' := [(3, .int ((nI (cnt R 10 c j)) + 0)), (4, .int (nI (j + 1))), (2, .int c), (1, .ref (am 15)), (0, .ref y)]) hx hb d_M_belonging_29 rfl hl (by decide) rfl (fun ls hl => ?_)
        refine lv_iinc (v := ((nI (j + 1)) + 1)) (lv' := [(4, .int ((nI (j + 1)) + 1)), (3, .int ((nI (cnt R 10 c j)) + 0)), (2, .int c), (1, .ref (am 15)), (0, .ref y)]) hx hb d_M_belonging_30 hl (k := 1) rfl (by first | rfl | decide) (by decide) rfl (fun ls hl => ?_)
        refine lv_goto (tgt := 5) hx hb d_M_belonging_33 (by decide) ?_
        have hl3 : lv_has ls 5 [(4, .int (nI (j + 1 + 1))), (3, .int (nI (cnt R 10 c (j + 1)))), (2, .int c), (1, .ref (am 15)), (0, .ref y)] := by
          rw [show cnt R 10 c (j + 1) = cnt R 10 c j + (if R j 10 = c then 1 else 0) from rfl, if_neg c_2, ← nI_1 (j + 1), show nI (cnt R 10 c j + 0) = nI (cnt R 10 c j) + 0 from (nI_add _ 0).symm]
          exact lv_sub hl [0, 1, 2, 3, 4] rfl
        exact ih (ls := ls) (j := j + 1) hlt hl3 (by omega)
      · refine lv_iconst (v := 1) hx hb d_M_belonging_23 (by decide) ?_
        refine lv_goto (tgt := 28) hx hb d_M_belonging_24 (by decide) ?_
        refine lv_iadd hx hb d_M_belonging_28 ?_
        refine lv_istore_n (lv' := [(3, .int ((nI (cnt R 10 c j)) + 1)), (4, .int (nI (j + 1))), (2, .int c), (1, .ref (am 15)), (0, .ref y)]) hx hb d_M_belonging_29 rfl hl (by decide) rfl (fun ls hl => ?_)
        refine lv_iinc (v := ((nI (j + 1)) + 1)) (lv' := [(4, .int ((nI (j + 1)) + 1)), (3, .int ((nI (cnt R 10 c j)) + 1)), (2, .int c), (1, .ref (am 15)), (0, .ref y)]) hx hb d_M_belonging_30 hl (k := 1) rfl (by first | rfl | decide) (by decide) rfl (fun ls hl => ?_)
        refine lv_goto (tgt := 5) hx hb d_M_belonging_33 (by decide) ?_
        have hl3 : lv_has ls 5 [(4, .int (nI (j + 1 + 1))), (3, .int (nI (cnt R 10 c (j + 1)))), (2, .int c), (1, .ref (am 15)), (0, .ref y)] := by
          rw [show cnt R 10 c (j + 1) = cnt R 10 c j + (if R j 10 = c then 1 else 0) from rfl, if_pos c_2, ← nI_1 (j + 1), ← nI_1 (cnt R 10 c j)]
          exact lv_sub hl [0, 1, 2, 3, 4] rfl
        exact ih (ls := ls) (j := j + 1) hlt hl3 (by omega)

set_option maxHeartbeats 4000000 in
set_option maxRecDepth 20000 in
theorem c_M_belonging_17 (l : Launch) (D : va_G) (T : Nat → ClassId) (A : Nat → Prop) (σ : wd_S) (y : Nat) (am : Nat → Nat) (fm : Nat → Nat → Int32) (n : Nat) (R : Nat → Nat → Int32) (nc : Nat) (CR : Nat → Nat → Int32) (wg : Nat → Int32) (Q : pq) (hM : MB T σ y am fm n R nc CR wg Q) (c : Int32) : Met l y_M_belonging (Cond.code y_M_belonging b_M_belonging 5 (some .int) :: wd_tb) { frames := 0, cells := 0, slots := 0, locals := 0 } (va_Pc [.ref y, .ref (am 17), .int c] (wd_Pre D T A σ)) (va_Qi (fun r1 σ1 => r1 = nI (cnt R 11 c n) ∧ σ1 = σ) (wd_B D A) A) 0 0 A := by
  refine wd_ofW (by decide) (Nat.le_of_ble_eq_true rfl) ?_
  intro p e s m below meth c0 ls C hr hlocks hname h hl
  have hl : lv_has ls 5 [(0, .ref y), (1, .ref (am 17)), (2, .int c)] := hl
  have hx := C.1
  have hb := C.2.1
  obtain ⟨⟨d0, dc, di⟩, m1, m2, m3, m4, m5, m6, m7, m8, m9, m10⟩ := id hM
  have c17 : σ (am 17) = some (.inl (T 0, 121, .inl (fm 17))) := dc 17 rfl
  refine lv_iconst (v := 0) hx hb d_M_belonging_0 (by decide) ?_
  refine lv_istore_n (lv' := [(3, .int 0), (0, .ref y), (1, .ref (am 17)), (2, .int c)]) hx hb d_M_belonging_1 rfl hl (by decide) rfl (fun ls hl => ?_)
  refine lv_iconst (v := 1) hx hb d_M_belonging_2 (by decide) ?_
  refine lv_istore (lv' := [(4, .int 1), (3, .int 0), (0, .ref y), (1, .ref (am 17)), (2, .int c)]) hx hb d_M_belonging_3 hl (by decide) rfl (fun ls hl => ?_)
  have hl2 : ∃ (j : Nat), (j ≤ n) ∧ lv_has ls 5 [(4, .int (nI (j + 1))), (3, .int (nI (cnt R 11 c j))), (2, .int c), (1, .ref (am 17)), (0, .ref y)] := ⟨0, Nat.zero_le _, lv_sub hl [0, 1, 4, 3, 2] rfl⟩
  clear hl
  obtain ⟨j, p0, hl⟩ := hl2
  obtain ⟨z, hz⟩ : ∃ z : Nat, n < j + z := ⟨n + 1, by omega⟩
  induction z generalizing j ls with
  | zero => omega
  | succ z ih =>
    refine lv_iload hx hb d_M_belonging_5 (lv_at hl 0 rfl) ?_
    refine lv_aload_n hx hb d_M_belonging_7 rfl (lv_at hl 4 rfl) ?_
    refine wd_get C h kc_M d0 0 (by decide) lk_M_71 rfl d_M_belonging_8 ?_
    refine lv_icmp_gt (tgt := 36) hx hb d_M_belonging_11 (by decide) (fun c_1 => ?_) (fun c_1 => ?_)
    · refine lv_iload_n hx hb d_M_belonging_36 rfl (lv_at hl 1 rfl) ?_
      exact wd_iret C hr hlocks h (⟨by rw [gt_x m8 p0 c_1], rfl⟩) (Nat.le_of_ble_eq_true rfl) (Nat.le_of_ble_eq_true rfl) d_M_belonging_37
    · have hlt := lt_x m8 p0 c_1
      refine lv_iload_n hx hb d_M_belonging_14 rfl (lv_at hl 1 rfl) ?_
      refine lv_aload_n hx hb d_M_belonging_15 rfl (lv_at hl 3 rfl) ?_
      refine lv_iload hx hb d_M_belonging_16 (lv_at hl 0 rfl) ?_
      refine wd_iald C h 0 rfl c17 (vp_in_nI (show j + 1 < 121 by omega) (by decide)) d_M_belonging_18 ?_
      rw [nI_clamp (show j + 1 < 2 ^ 31 by omega)]
      rw [show fm 17 (j + 1) = R j 11 from m1 j hlt 11 (by decide)]
      refine lv_iload_n hx hb d_M_belonging_19 rfl (lv_at hl 2 rfl) ?_
      refine lv_icmp_ne (tgt := 27) hx hb d_M_belonging_20 (by decide) (fun c_2 => ?_) (fun c_2 => ?_)
      · refine lv_iconst (v := 0) hx hb d_M_belonging_27 (by decide) ?_
        refine lv_iadd hx hb d_M_belonging_28 ?_
        refine lv_istore_n (lv' := [(3, .int ((nI (cnt R 11 c j)) + 0)), (4, .int (nI (j + 1))), (2, .int c), (1, .ref (am 17)), (0, .ref y)]) hx hb d_M_belonging_29 rfl hl (by decide) rfl (fun ls hl => ?_)
        refine lv_iinc (v := ((nI (j + 1)) + 1)) (lv' := [(4, .int ((nI (j + 1)) + 1)), (3, .int ((nI (cnt R 11 c j)) + 0)), (2, .int c), (1, .ref (am 17)), (0, .ref y)]) hx hb d_M_belonging_30 hl (k := 1) rfl (by first | rfl | decide) (by decide) rfl (fun ls hl => ?_)
        refine lv_goto (tgt := 5) hx hb d_M_belonging_33 (by decide) ?_
        have hl3 : lv_has ls 5 [(4, .int (nI (j + 1 + 1))), (3, .int (nI (cnt R 11 c (j + 1)))), (2, .int c), (1, .ref (am 17)), (0, .ref y)] := by
          rw [show cnt R 11 c (j + 1) = cnt R 11 c j + (if R j 11 = c then 1 else 0) from rfl, if_neg c_2, ← nI_1 (j + 1), show nI (cnt R 11 c j + 0) = nI (cnt R 11 c j) + 0 from (nI_add _ 0).symm]
          exact lv_sub hl [0, 1, 2, 3, 4] rfl
        exact ih (ls := ls) (j := j + 1) hlt hl3 (by omega)
      · refine lv_iconst (v := 1) hx hb d_M_belonging_23 (by decide) ?_
        refine lv_goto (tgt := 28) hx hb d_M_belonging_24 (by decide) ?_
        refine lv_iadd hx hb d_M_belonging_28 ?_
        refine lv_istore_n (lv' := [(3, .int ((nI (cnt R 11 c j)) + 1)), (4, .int (nI (j + 1))), (2, .int c), (1, .ref (am 17)), (0, .ref y)]) hx hb d_M_belonging_29 rfl hl (by decide) rfl (fun ls hl => ?_)
        refine lv_iinc (v := ((nI (j + 1)) + 1)) (lv' := [(4, .int ((nI (j + 1)) + 1)), (3, .int ((nI (cnt R 11 c j)) + 1)), (2, .int c), (1, .ref (am 17)), (0, .ref y)]) hx hb d_M_belonging_30 hl (k := 1) rfl (by first | rfl | decide) (by decide) rfl (fun ls hl => ?_)
        refine lv_goto (tgt := 5) hx hb d_M_belonging_33 (by decide) ?_
        have hl3 : lv_has ls 5 [(4, .int (nI (j + 1 + 1))), (3, .int (nI (cnt R 11 c (j + 1)))), (2, .int c), (1, .ref (am 17)), (0, .ref y)] := by
          rw [show cnt R 11 c (j + 1) = cnt R 11 c j + (if R j 11 = c then 1 else 0) from rfl, if_pos c_2, ← nI_1 (j + 1), ← nI_1 (cnt R 11 c j)]
          exact lv_sub hl [0, 1, 2, 3, 4] rfl
        exact ih (ls := ls) (j := j + 1) hlt hl3 (by omega)
