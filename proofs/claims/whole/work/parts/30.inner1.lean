set_option maxHeartbeats 4000000 in
set_option maxRecDepth 20000 in
theorem c_F_within (l : Launch) (D : va_G) (T : Nat → ClassId) (A : Nat → Prop) (σ : wd_S) (v lo hi : Int32) : Met l y_F_within (Cond.code y_F_within b_F_within 3 (some .boolean) :: wd_tb) { frames := 0, cells := 0, slots := 0, locals := 0 } (va_Pc [.int v, .int lo, .int hi] (wd_Pre D T A σ)) (va_Qi (fun r1 σ1 => r1 = xw v lo hi ∧ σ1 = σ) (wd_B D A) A) 0 0 A := by
  refine wd_ofW (by decide) (Nat.le_of_ble_eq_true rfl) ?_
  intro p e s m below meth c0 ls C hr hlocks hname h hl
  have hl : lv_has ls 3 [(0, .int v), (1, .int lo), (2, .int hi)] := hl
  have hx := C.1
  have hb := C.2.1
  refine lv_iload_n hx hb d_F_within_0 rfl (lv_at hl 0 rfl) ?_
  refine lv_iload_n hx hb d_F_within_1 rfl (lv_at hl 1 rfl) ?_
  refine lv_icmp_lt (tgt := 14) hx hb d_F_within_2 (by decide) (fun c_1 => ?_) (fun c_1 => ?_)
  · refine lv_iconst (v := 0) hx hb d_F_within_14 (by decide) ?_
    exact wd_zret C hr hlocks h (by decide) (⟨by simp [xw, c_1], rfl⟩) (Nat.le_of_ble_eq_true rfl) (Nat.le_of_ble_eq_true rfl) d_F_within_15
  · refine lv_iload_n hx hb d_F_within_5 rfl (lv_at hl 0 rfl) ?_
    refine lv_iload_n hx hb d_F_within_6 rfl (lv_at hl 2 rfl) ?_
    refine lv_icmp_gt (tgt := 14) hx hb d_F_within_7 (by decide) (fun c_2 => ?_) (fun c_2 => ?_)
    · refine lv_iconst (v := 0) hx hb d_F_within_14 (by decide) ?_
      exact wd_zret C hr hlocks h (by decide) (⟨by simp [xw, c_1, c_2], rfl⟩) (Nat.le_of_ble_eq_true rfl) (Nat.le_of_ble_eq_true rfl) d_F_within_15
    · refine lv_iconst (v := 1) hx hb d_F_within_10 (by decide) ?_
      refine lv_goto (tgt := 15) hx hb d_F_within_11 (by decide) ?_
      exact wd_zret C hr hlocks h (by decide) (⟨by simp [xw, c_1, c_2], rfl⟩) (Nat.le_of_ble_eq_true rfl) (Nat.le_of_ble_eq_true rfl) d_F_within_15

set_option maxHeartbeats 4000000 in
set_option maxRecDepth 20000 in
theorem c_I_has (l : Launch) (D : va_G) (T : Nat → ClassId) (A : Nat → Prop) (σ : wd_S) (a : Nat) (r : Nat → Int32) (w c : Nat) (ha : σ a = some (xI r w c)) (t : Int32) : Met l y_I_has (Cond.code y_I_has b_I_has 2 (some .boolean) :: wd_tb) { frames := 0, cells := 0, slots := 0, locals := 0 } (va_Pc [.ref a, .int t] (wd_Pre D T A σ)) (va_Qi (fun r1 σ1 => r1 = xh (r 4) t ∧ σ1 = σ) (wd_B D A) A) 0 0 A := by
  refine wd_ofW (by decide) (Nat.le_of_ble_eq_true rfl) ?_
  intro p e s m below meth c0 ls C hr hlocks hname h hl
  have hl : lv_has ls 2 [(0, .ref a), (1, .int t)] := hl
  have hx := C.1
  have hb := C.2.1
  refine lv_aload_n hx hb d_I_has_0 rfl (lv_at hl 0 rfl) ?_
  refine wd_get C h kc_I ha 4 (by decide) lk_I_24 rfl d_I_has_1 ?_
  refine lv_iload_n hx hb d_I_has_4 rfl (lv_at hl 1 rfl) ?_
  refine lv_ishr hx hb d_I_has_5 ?_
  refine lv_iconst (v := 1) hx hb d_I_has_6 (by decide) ?_
  refine lv_iand hx hb d_I_has_7 ?_
  refine lv_iconst (v := 1) hx hb d_I_has_8 (by decide) ?_
  refine lv_icmp_ne (tgt := 16) hx hb d_I_has_9 (by decide) (fun c_1 => ?_) (fun c_1 => ?_)
  · refine lv_iconst (v := 0) hx hb d_I_has_16 (by decide) ?_
    exact wd_zret C hr hlocks h (by decide) (⟨by simp [xh, c_1], rfl⟩) (Nat.le_of_ble_eq_true rfl) (Nat.le_of_ble_eq_true rfl) d_I_has_17
  · refine lv_iconst (v := 1) hx hb d_I_has_12 (by decide) ?_
    refine lv_goto (tgt := 17) hx hb d_I_has_13 (by decide) ?_
    exact wd_zret C hr hlocks h (by decide) (⟨by simp [xh, c_1], rfl⟩) (Nat.le_of_ble_eq_true rfl) (Nat.le_of_ble_eq_true rfl) d_I_has_17

set_option maxHeartbeats 4000000 in
set_option maxRecDepth 20000 in
theorem c_I_isAtEnd (l : Launch) (D : va_G) (T : Nat → ClassId) (A : Nat → Prop) (σ : wd_S) (a : Nat) (r : Nat → Int32) (w c : Nat) (ha : σ a = some (xI r w c)) : Met l y_I_isAtEnd (Cond.code y_I_isAtEnd b_I_isAtEnd 1 (some .boolean) :: wd_tb) { frames := 0, cells := 0, slots := 0, locals := 0 } (va_Pc [.ref a] (wd_Pre D T A σ)) (va_Qi (fun r1 σ1 => r1 = xe (r 5) ∧ σ1 = σ) (wd_B D A) A) 0 0 A := by
  refine wd_ofW (by decide) (Nat.le_of_ble_eq_true rfl) ?_
  intro p e s m below meth c0 ls C hr hlocks hname h hl
  have hl : lv_has ls 1 [(0, .ref a)] := hl
  have hx := C.1
  have hb := C.2.1
  refine lv_aload_n hx hb d_I_isAtEnd_0 rfl (lv_at hl 0 rfl) ?_
  refine wd_get C h kc_I ha 5 (by decide) lk_I_27 rfl d_I_isAtEnd_1 ?_
  refine lv_iconst (v := 5) hx hb d_I_isAtEnd_4 (by decide) ?_
  refine lv_icmp_eq (tgt := 17) hx hb d_I_isAtEnd_5 (by decide) (fun c_1 => ?_) (fun c_1 => ?_)
  · refine lv_iconst (v := 1) hx hb d_I_isAtEnd_17 (by decide) ?_
    refine lv_goto (tgt := 22) hx hb d_I_isAtEnd_18 (by decide) ?_
    exact wd_zret C hr hlocks h (by decide) (⟨by simp [xe, c_1], rfl⟩) (Nat.le_of_ble_eq_true rfl) (Nat.le_of_ble_eq_true rfl) d_I_isAtEnd_22
  · refine lv_aload_n hx hb d_I_isAtEnd_8 rfl (lv_at hl 0 rfl) ?_
    refine wd_get C h kc_I ha 5 (by decide) lk_I_27 rfl d_I_isAtEnd_9 ?_
    refine lv_bipush (v := 9) hx hb d_I_isAtEnd_12 (by decide) ?_
    refine lv_icmp_ne (tgt := 21) hx hb d_I_isAtEnd_14 (by decide) (fun c_2 => ?_) (fun c_2 => ?_)
    · refine lv_iconst (v := 0) hx hb d_I_isAtEnd_21 (by decide) ?_
      exact wd_zret C hr hlocks h (by decide) (⟨by simp [xe, c_1, c_2], rfl⟩) (Nat.le_of_ble_eq_true rfl) (Nat.le_of_ble_eq_true rfl) d_I_isAtEnd_22
    · refine lv_iconst (v := 1) hx hb d_I_isAtEnd_17 (by decide) ?_
      refine lv_goto (tgt := 22) hx hb d_I_isAtEnd_18 (by decide) ?_
      exact wd_zret C hr hlocks h (by decide) (⟨by simp [xe, c_1, c_2], rfl⟩) (Nat.le_of_ble_eq_true rfl) (Nat.le_of_ble_eq_true rfl) d_I_isAtEnd_22

set_option maxHeartbeats 4000000 in
set_option maxRecDepth 20000 in
theorem c_I_isSetAside (l : Launch) (D : va_G) (T : Nat → ClassId) (A : Nat → Prop) (σ : wd_S) (a : Nat) (r : Nat → Int32) (w c : Nat) (ha : σ a = some (xI r w c)) : Met l y_I_isSetAside (Cond.code y_I_isSetAside b_I_isSetAside 1 (some .boolean) :: wd_tb) { frames := 0, cells := 0, slots := 0, locals := 0 } (va_Pc [.ref a] (wd_Pre D T A σ)) (va_Qi (fun r1 σ1 => r1 = xa (r 6) (r 5) ∧ σ1 = σ) (wd_B D A) A) 0 0 A := by
  refine wd_ofW (by decide) (Nat.le_of_ble_eq_true rfl) ?_
  intro p e s m below meth c0 ls C hr hlocks hname h hl
  have hl : lv_has ls 1 [(0, .ref a)] := hl
  have hx := C.1
  have hb := C.2.1
  refine lv_aload_n hx hb d_I_isSetAside_0 rfl (lv_at hl 0 rfl) ?_
  refine wd_get C h kc_I ha 6 (by decide) lk_I_30 rfl d_I_isSetAside_1 ?_
  refine lv_if_ne (tgt := 16) hx hb d_I_isSetAside_4 (by decide) (fun c_1 => ?_) (fun c_1 => ?_)
  · refine lv_iconst (v := 1) hx hb d_I_isSetAside_16 (by decide) ?_
    refine lv_goto (tgt := 21) hx hb d_I_isSetAside_17 (by decide) ?_
    exact wd_zret C hr hlocks h (by decide) (⟨by simp [xa, c_1], rfl⟩) (Nat.le_of_ble_eq_true rfl) (Nat.le_of_ble_eq_true rfl) d_I_isSetAside_21
  · refine lv_aload_n hx hb d_I_isSetAside_7 rfl (lv_at hl 0 rfl) ?_
    refine wd_get C h kc_I ha 5 (by decide) lk_I_27 rfl d_I_isSetAside_8 ?_
    refine lv_bipush (v := 8) hx hb d_I_isSetAside_11 (by decide) ?_
    refine lv_icmp_ne (tgt := 20) hx hb d_I_isSetAside_13 (by decide) (fun c_2 => ?_) (fun c_2 => ?_)
    · refine lv_iconst (v := 0) hx hb d_I_isSetAside_20 (by decide) ?_
      exact wd_zret C hr hlocks h (by decide) (⟨by simp [xa, c_1, c_2], rfl⟩) (Nat.le_of_ble_eq_true rfl) (Nat.le_of_ble_eq_true rfl) d_I_isSetAside_21
    · refine lv_iconst (v := 1) hx hb d_I_isSetAside_16 (by decide) ?_
      refine lv_goto (tgt := 21) hx hb d_I_isSetAside_17 (by decide) ?_
      exact wd_zret C hr hlocks h (by decide) (⟨by simp [xa, c_1, c_2], rfl⟩) (Nat.le_of_ble_eq_true rfl) (Nat.le_of_ble_eq_true rfl) d_I_isSetAside_21

set_option maxHeartbeats 4000000 in
set_option maxRecDepth 20000 in
theorem c_I_stateBehind (l : Launch) (D : va_G) (T : Nat → ClassId) (A : Nat → Prop) (σ : wd_S) (a : Nat) (r : Nat → Int32) (w c : Nat) (ha : σ a = some (xI r w c)) (ev : Int32) : Met l y_I_stateBehind (Cond.code y_I_stateBehind b_I_stateBehind 2 (some .int) :: wd_tb) { frames := 0, cells := 0, slots := 0, locals := 0 } (va_Pc [.ref a, .int ev] (wd_Pre D T A σ)) (va_Qi (fun r1 σ1 => r1 = xb r ev ∧ σ1 = σ) (wd_B D A) A) 0 0 A := by
  refine wd_ofW (by decide) (Nat.le_of_ble_eq_true rfl) ?_
  intro p e s m below meth c0 ls C hr hlocks hname h hl
  have hl : lv_has ls 2 [(0, .ref a), (1, .int ev)] := hl
  have hx := C.1
  have hb := C.2.1
  refine lv_aload_n hx hb d_I_stateBehind_0 rfl (lv_at hl 0 rfl) ?_
  refine wd_get C h kc_I ha 6 (by decide) lk_I_30 rfl d_I_stateBehind_1 ?_
  refine lv_if_eq (tgt := 33) hx hb d_I_stateBehind_4 (by decide) (fun c_1 => ?_) (fun c_1 => ?_)
  · refine lv_iload_n hx hb d_I_stateBehind_33 rfl (lv_at hl 1 rfl) ?_
    by_cases k_2 : ev = 0
    · refine lv_tableIn (tgt := 92) hx hb d_I_stateBehind_34 (by rw [k_2]; decide) (by rw [k_2]; decide) (by rw [k_2]; rfl) (by decide) ?_
      refine lv_aload_n hx hb d_I_stateBehind_92 rfl (lv_at hl 0 rfl) ?_
      refine wd_get C h kc_I ha 5 (by decide) lk_I_27 rfl d_I_stateBehind_93 ?_
      refine lv_if_ne (tgt := 103) hx hb d_I_stateBehind_96 (by decide) (fun c_3 => ?_) (fun c_3 => ?_)
      · refine lv_iconst (v := (-1)) hx hb d_I_stateBehind_103 (by decide) ?_
        exact wd_iret C hr hlocks h (⟨by simp [xb, c_1, k_2, c_3], rfl⟩) (Nat.le_of_ble_eq_true rfl) (Nat.le_of_ble_eq_true rfl) d_I_stateBehind_104
      · refine lv_iconst (v := 1) hx hb d_I_stateBehind_99 (by decide) ?_
        refine lv_goto (tgt := 104) hx hb d_I_stateBehind_100 (by decide) ?_
        exact wd_iret C hr hlocks h (⟨by simp [xb, c_1, k_2, c_3], rfl⟩) (Nat.le_of_ble_eq_true rfl) (Nat.le_of_ble_eq_true rfl) d_I_stateBehind_104
    by_cases k_4 : ev = 1
    · refine lv_tableIn (tgt := 105) hx hb d_I_stateBehind_34 (by rw [k_4]; decide) (by rw [k_4]; decide) (by rw [k_4]; rfl) (by decide) ?_
      refine lv_aload_n hx hb d_I_stateBehind_105 rfl (lv_at hl 0 rfl) ?_
      refine wd_get C h kc_I ha 5 (by decide) lk_I_27 rfl d_I_stateBehind_106 ?_
      refine lv_bipush (v := 7) hx hb d_I_stateBehind_109 (by decide) ?_
      refine lv_icmp_ne (tgt := 117) hx hb d_I_stateBehind_111 (by decide) (fun c_5 => ?_) (fun c_5 => ?_)
      · refine lv_aload_n hx hb d_I_stateBehind_117 rfl (lv_at hl 0 rfl) ?_
        refine wd_get C h kc_I ha 5 (by decide) lk_I_27 rfl d_I_stateBehind_118 ?_
        refine lv_iconst (v := 1) hx hb d_I_stateBehind_121 (by decide) ?_
        refine lv_icmp_eq (tgt := 133) hx hb d_I_stateBehind_122 (by decide) (fun c_6 => ?_) (fun c_6 => ?_)
        · refine lv_iconst (v := 2) hx hb d_I_stateBehind_133 (by decide) ?_
          refine lv_goto (tgt := 138) hx hb d_I_stateBehind_134 (by decide) ?_
          exact wd_iret C hr hlocks h (⟨by simp [xb, c_1, k_4, c_5, c_6], rfl⟩) (Nat.le_of_ble_eq_true rfl) (Nat.le_of_ble_eq_true rfl) d_I_stateBehind_138
        · refine lv_aload_n hx hb d_I_stateBehind_125 rfl (lv_at hl 0 rfl) ?_
          refine wd_get C h kc_I ha 5 (by decide) lk_I_27 rfl d_I_stateBehind_126 ?_
          refine lv_iconst (v := 3) hx hb d_I_stateBehind_129 (by decide) ?_
          refine lv_icmp_ne (tgt := 137) hx hb d_I_stateBehind_130 (by decide) (fun c_7 => ?_) (fun c_7 => ?_)
          · refine lv_iconst (v := (-1)) hx hb d_I_stateBehind_137 (by decide) ?_
            exact wd_iret C hr hlocks h (⟨by simp [xb, c_1, k_4, c_5, c_6, c_7], rfl⟩) (Nat.le_of_ble_eq_true rfl) (Nat.le_of_ble_eq_true rfl) d_I_stateBehind_138
          · refine lv_iconst (v := 2) hx hb d_I_stateBehind_133 (by decide) ?_
            refine lv_goto (tgt := 138) hx hb d_I_stateBehind_134 (by decide) ?_
            exact wd_iret C hr hlocks h (⟨by simp [xb, c_1, k_4, c_5, c_6, c_7], rfl⟩) (Nat.le_of_ble_eq_true rfl) (Nat.le_of_ble_eq_true rfl) d_I_stateBehind_138
      · refine lv_bipush (v := 7) hx hb d_I_stateBehind_114 (by decide) ?_
        exact wd_iret C hr hlocks h (⟨by simp [xb, c_1, k_4, c_5], rfl⟩) (Nat.le_of_ble_eq_true rfl) (Nat.le_of_ble_eq_true rfl) d_I_stateBehind_116
    by_cases k_8 : ev = 2
    · refine lv_tableIn (tgt := 139) hx hb d_I_stateBehind_34 (by rw [k_8]; decide) (by rw [k_8]; decide) (by rw [k_8]; rfl) (by decide) ?_
      refine lv_aload_n hx hb d_I_stateBehind_139 rfl (lv_at hl 0 rfl) ?_
      refine wd_get C h kc_I ha 5 (by decide) lk_I_27 rfl d_I_stateBehind_140 ?_
      refine lv_iconst (v := 2) hx hb d_I_stateBehind_143 (by decide) ?_
      refine lv_icmp_ne (tgt := 151) hx hb d_I_stateBehind_144 (by decide) (fun c_9 => ?_) (fun c_9 => ?_)
      · refine lv_iconst (v := (-1)) hx hb d_I_stateBehind_151 (by decide) ?_
        exact wd_iret C hr hlocks h (⟨by simp [xb, c_1, k_8, c_9], rfl⟩) (Nat.le_of_ble_eq_true rfl) (Nat.le_of_ble_eq_true rfl) d_I_stateBehind_152
      · refine lv_iconst (v := 3) hx hb d_I_stateBehind_147 (by decide) ?_
        refine lv_goto (tgt := 152) hx hb d_I_stateBehind_148 (by decide) ?_
        exact wd_iret C hr hlocks h (⟨by simp [xb, c_1, k_8, c_9], rfl⟩) (Nat.le_of_ble_eq_true rfl) (Nat.le_of_ble_eq_true rfl) d_I_stateBehind_152
    by_cases k_10 : ev = 3
    · refine lv_tableIn (tgt := 153) hx hb d_I_stateBehind_34 (by rw [k_10]; decide) (by rw [k_10]; decide) (by rw [k_10]; rfl) (by decide) ?_
      refine lv_aload_n hx hb d_I_stateBehind_153 rfl (lv_at hl 0 rfl) ?_
      refine wd_get C h kc_I ha 5 (by decide) lk_I_27 rfl d_I_stateBehind_154 ?_
      refine lv_iconst (v := 3) hx hb d_I_stateBehind_157 (by decide) ?_
      refine lv_icmp_eq (tgt := 170) hx hb d_I_stateBehind_158 (by decide) (fun c_11 => ?_) (fun c_11 => ?_)
      · refine lv_iconst (v := 4) hx hb d_I_stateBehind_170 (by decide) ?_
        refine lv_goto (tgt := 175) hx hb d_I_stateBehind_171 (by decide) ?_
        exact wd_iret C hr hlocks h (⟨by simp [xb, c_1, k_10, c_11], rfl⟩) (Nat.le_of_ble_eq_true rfl) (Nat.le_of_ble_eq_true rfl) d_I_stateBehind_175
      · refine lv_aload_n hx hb d_I_stateBehind_161 rfl (lv_at hl 0 rfl) ?_
        refine wd_get C h kc_I ha 5 (by decide) lk_I_27 rfl d_I_stateBehind_162 ?_
        refine lv_bipush (v := 6) hx hb d_I_stateBehind_165 (by decide) ?_
        refine lv_icmp_ne (tgt := 174) hx hb d_I_stateBehind_167 (by decide) (fun c_12 => ?_) (fun c_12 => ?_)
        · refine lv_iconst (v := (-1)) hx hb d_I_stateBehind_174 (by decide) ?_
          exact wd_iret C hr hlocks h (⟨by simp [xb, c_1, k_10, c_11, c_12], rfl⟩) (Nat.le_of_ble_eq_true rfl) (Nat.le_of_ble_eq_true rfl) d_I_stateBehind_175
        · refine lv_iconst (v := 4) hx hb d_I_stateBehind_170 (by decide) ?_
          refine lv_goto (tgt := 175) hx hb d_I_stateBehind_171 (by decide) ?_
          exact wd_iret C hr hlocks h (⟨by simp [xb, c_1, k_10, c_11, c_12], rfl⟩) (Nat.le_of_ble_eq_true rfl) (Nat.le_of_ble_eq_true rfl) d_I_stateBehind_175
    by_cases k_13 : ev = 4
    · refine lv_tableIn (tgt := 176) hx hb d_I_stateBehind_34 (by rw [k_13]; decide) (by rw [k_13]; decide) (by rw [k_13]; rfl) (by decide) ?_
      refine lv_aload_n hx hb d_I_stateBehind_176 rfl (lv_at hl 0 rfl) ?_
      refine wd_get C h kc_I ha 5 (by decide) lk_I_27 rfl d_I_stateBehind_177 ?_
      refine lv_iconst (v := 4) hx hb d_I_stateBehind_180 (by decide) ?_
      refine lv_icmp_eq (tgt := 193) hx hb d_I_stateBehind_181 (by decide) (fun c_14 => ?_) (fun c_14 => ?_)
      · refine lv_iconst (v := 5) hx hb d_I_stateBehind_193 (by decide) ?_
        refine lv_goto (tgt := 198) hx hb d_I_stateBehind_194 (by decide) ?_
        exact wd_iret C hr hlocks h (⟨by simp [xb, c_1, k_13, c_14], rfl⟩) (Nat.le_of_ble_eq_true rfl) (Nat.le_of_ble_eq_true rfl) d_I_stateBehind_198
      · refine lv_aload_n hx hb d_I_stateBehind_184 rfl (lv_at hl 0 rfl) ?_
        refine wd_get C h kc_I ha 5 (by decide) lk_I_27 rfl d_I_stateBehind_185 ?_
        refine lv_bipush (v := 7) hx hb d_I_stateBehind_188 (by decide) ?_
        refine lv_icmp_ne (tgt := 197) hx hb d_I_stateBehind_190 (by decide) (fun c_15 => ?_) (fun c_15 => ?_)
        · refine lv_iconst (v := (-1)) hx hb d_I_stateBehind_197 (by decide) ?_
          exact wd_iret C hr hlocks h (⟨by simp [xb, c_1, k_13, c_14, c_15], rfl⟩) (Nat.le_of_ble_eq_true rfl) (Nat.le_of_ble_eq_true rfl) d_I_stateBehind_198
        · refine lv_iconst (v := 5) hx hb d_I_stateBehind_193 (by decide) ?_
          refine lv_goto (tgt := 198) hx hb d_I_stateBehind_194 (by decide) ?_
          exact wd_iret C hr hlocks h (⟨by simp [xb, c_1, k_13, c_14, c_15], rfl⟩) (Nat.le_of_ble_eq_true rfl) (Nat.le_of_ble_eq_true rfl) d_I_stateBehind_198
    by_cases k_16 : ev = 5
    · refine lv_tableIn (tgt := 199) hx hb d_I_stateBehind_34 (by rw [k_16]; decide) (by rw [k_16]; decide) (by rw [k_16]; rfl) (by decide) ?_
      refine lv_aload_n hx hb d_I_stateBehind_199 rfl (lv_at hl 0 rfl) ?_
      refine wd_get C h kc_I ha 5 (by decide) lk_I_27 rfl d_I_stateBehind_200 ?_
      refine lv_iconst (v := 4) hx hb d_I_stateBehind_203 (by decide) ?_
      refine lv_icmp_ne (tgt := 212) hx hb d_I_stateBehind_204 (by decide) (fun c_17 => ?_) (fun c_17 => ?_)
      · refine lv_iconst (v := (-1)) hx hb d_I_stateBehind_212 (by decide) ?_
        exact wd_iret C hr hlocks h (⟨by simp [xb, c_1, k_16, c_17], rfl⟩) (Nat.le_of_ble_eq_true rfl) (Nat.le_of_ble_eq_true rfl) d_I_stateBehind_213
      · refine lv_bipush (v := 6) hx hb d_I_stateBehind_207 (by decide) ?_
        refine lv_goto (tgt := 213) hx hb d_I_stateBehind_209 (by decide) ?_
        exact wd_iret C hr hlocks h (⟨by simp [xb, c_1, k_16, c_17], rfl⟩) (Nat.le_of_ble_eq_true rfl) (Nat.le_of_ble_eq_true rfl) d_I_stateBehind_213
    by_cases k_18 : ev = 6
    · refine lv_tableIn (tgt := 214) hx hb d_I_stateBehind_34 (by rw [k_18]; decide) (by rw [k_18]; decide) (by rw [k_18]; rfl) (by decide) ?_
      refine lv_aload_n hx hb d_I_stateBehind_214 rfl (lv_at hl 0 rfl) ?_
      refine wd_get C h kc_I ha 5 (by decide) lk_I_27 rfl d_I_stateBehind_215 ?_
      refine lv_iconst (v := 4) hx hb d_I_stateBehind_218 (by decide) ?_
      refine lv_icmp_eq (tgt := 231) hx hb d_I_stateBehind_219 (by decide) (fun c_19 => ?_) (fun c_19 => ?_)
      · refine lv_bipush (v := 7) hx hb d_I_stateBehind_231 (by decide) ?_
        refine lv_goto (tgt := 237) hx hb d_I_stateBehind_233 (by decide) ?_
        exact wd_iret C hr hlocks h (⟨by simp [xb, c_1, k_18, c_19], rfl⟩) (Nat.le_of_ble_eq_true rfl) (Nat.le_of_ble_eq_true rfl) d_I_stateBehind_237
      · refine lv_aload_n hx hb d_I_stateBehind_222 rfl (lv_at hl 0 rfl) ?_
        refine wd_get C h kc_I ha 5 (by decide) lk_I_27 rfl d_I_stateBehind_223 ?_
        refine lv_bipush (v := 6) hx hb d_I_stateBehind_226 (by decide) ?_
        refine lv_icmp_ne (tgt := 236) hx hb d_I_stateBehind_228 (by decide) (fun c_20 => ?_) (fun c_20 => ?_)
        · refine lv_iconst (v := (-1)) hx hb d_I_stateBehind_236 (by decide) ?_
          exact wd_iret C hr hlocks h (⟨by simp [xb, c_1, k_18, c_19, c_20], rfl⟩) (Nat.le_of_ble_eq_true rfl) (Nat.le_of_ble_eq_true rfl) d_I_stateBehind_237
        · refine lv_bipush (v := 7) hx hb d_I_stateBehind_231 (by decide) ?_
          refine lv_goto (tgt := 237) hx hb d_I_stateBehind_233 (by decide) ?_
          exact wd_iret C hr hlocks h (⟨by simp [xb, c_1, k_18, c_19, c_20], rfl⟩) (Nat.le_of_ble_eq_true rfl) (Nat.le_of_ble_eq_true rfl) d_I_stateBehind_237
    by_cases k_21 : ev = 7
    · refine lv_tableIn (tgt := 238) hx hb d_I_stateBehind_34 (by rw [k_21]; decide) (by rw [k_21]; decide) (by rw [k_21]; rfl) (by decide) ?_
      refine lv_aload_n hx hb d_I_stateBehind_238 rfl (lv_at hl 0 rfl) ?_
      refine wd_get C h kc_I ha 5 (by decide) lk_I_27 rfl d_I_stateBehind_239 ?_
      exact wd_iret C hr hlocks h (⟨by simp [xb, c_1, k_21], rfl⟩) (Nat.le_of_ble_eq_true rfl) (Nat.le_of_ble_eq_true rfl) d_I_stateBehind_242
    by_cases k_22 : ev = 8
    · refine lv_tableIn (tgt := 271) hx hb d_I_stateBehind_34 (by rw [k_22]; decide) (by rw [k_22]; decide) (by rw [k_22]; rfl) (by decide) ?_
      refine lv_iconst (v := (-1)) hx hb d_I_stateBehind_271 (by decide) ?_
      exact wd_iret C hr hlocks h (⟨by simp [xb, c_1, k_22], rfl⟩) (Nat.le_of_ble_eq_true rfl) (Nat.le_of_ble_eq_true rfl) d_I_stateBehind_272
    by_cases k_23 : ev = 9
    · refine lv_tableIn (tgt := 243) hx hb d_I_stateBehind_34 (by rw [k_23]; decide) (by rw [k_23]; decide) (by rw [k_23]; rfl) (by decide) ?_
      refine lv_aload_n hx hb d_I_stateBehind_243 rfl (lv_at hl 0 rfl) ?_
      refine wd_get C h kc_I ha 5 (by decide) lk_I_27 rfl d_I_stateBehind_244 ?_
      refine lv_bipush (v := 7) hx hb d_I_stateBehind_247 (by decide) ?_
      refine lv_icmp_eq (tgt := 261) hx hb d_I_stateBehind_249 (by decide) (fun c_24 => ?_) (fun c_24 => ?_)
      · refine lv_bipush (v := 8) hx hb d_I_stateBehind_261 (by decide) ?_
        refine lv_goto (tgt := 267) hx hb d_I_stateBehind_263 (by decide) ?_
        exact wd_iret C hr hlocks h (⟨by simp [xb, c_1, k_23, c_24], rfl⟩) (Nat.le_of_ble_eq_true rfl) (Nat.le_of_ble_eq_true rfl) d_I_stateBehind_267
      · refine lv_aload_n hx hb d_I_stateBehind_252 rfl (lv_at hl 0 rfl) ?_
        refine wd_get C h kc_I ha 5 (by decide) lk_I_27 rfl d_I_stateBehind_253 ?_
        refine lv_bipush (v := 6) hx hb d_I_stateBehind_256 (by decide) ?_
        refine lv_icmp_ne (tgt := 266) hx hb d_I_stateBehind_258 (by decide) (fun c_25 => ?_) (fun c_25 => ?_)
        · refine lv_iconst (v := (-1)) hx hb d_I_stateBehind_266 (by decide) ?_
          exact wd_iret C hr hlocks h (⟨by simp [xb, c_1, k_23, c_24, c_25], rfl⟩) (Nat.le_of_ble_eq_true rfl) (Nat.le_of_ble_eq_true rfl) d_I_stateBehind_267
        · refine lv_bipush (v := 8) hx hb d_I_stateBehind_261 (by decide) ?_
          refine lv_goto (tgt := 267) hx hb d_I_stateBehind_263 (by decide) ?_
          exact wd_iret C hr hlocks h (⟨by simp [xb, c_1, k_23, c_24, c_25], rfl⟩) (Nat.le_of_ble_eq_true rfl) (Nat.le_of_ble_eq_true rfl) d_I_stateBehind_267
    by_cases k_26 : ev = 10
    · refine lv_tableIn (tgt := 268) hx hb d_I_stateBehind_34 (by rw [k_26]; decide) (by rw [k_26]; decide) (by rw [k_26]; rfl) (by decide) ?_
      refine lv_bipush (v := 9) hx hb d_I_stateBehind_268 (by decide) ?_
      exact wd_iret C hr hlocks h (⟨by simp [xb, c_1, k_26], rfl⟩) (Nat.le_of_ble_eq_true rfl) (Nat.le_of_ble_eq_true rfl) d_I_stateBehind_270
    have n_27 := sw_ne k_2 (show ((0 : Int32)).toInt = 0 from by decide)
    have n_28 := sw_ne k_4 (show ((1 : Int32)).toInt = 1 from by decide)
    have n_29 := sw_ne k_8 (show ((2 : Int32)).toInt = 2 from by decide)
    have n_30 := sw_ne k_10 (show ((3 : Int32)).toInt = 3 from by decide)
    have n_31 := sw_ne k_13 (show ((4 : Int32)).toInt = 4 from by decide)
    have n_32 := sw_ne k_16 (show ((5 : Int32)).toInt = 5 from by decide)
    have n_33 := sw_ne k_18 (show ((6 : Int32)).toInt = 6 from by decide)
    have n_34 := sw_ne k_21 (show ((7 : Int32)).toInt = 7 from by decide)
    have n_35 := sw_ne k_22 (show ((8 : Int32)).toInt = 8 from by decide)
    have n_36 := sw_ne k_23 (show ((9 : Int32)).toInt = 9 from by decide)
    have n_37 := sw_ne k_26 (show ((10 : Int32)).toInt = 10 from by decide)
    refine lv_tableOut (tgt := 271) hx hb d_I_stateBehind_34 (by omega) (by decide) ?_
    refine lv_iconst (v := (-1)) hx hb d_I_stateBehind_271 (by decide) ?_
    exact wd_iret C hr hlocks h (⟨by simp [xb, c_1, k_2, k_4, k_8, k_10, k_13, k_16, k_18, k_21, k_22, k_23, k_26], rfl⟩) (Nat.le_of_ble_eq_true rfl) (Nat.le_of_ble_eq_true rfl) d_I_stateBehind_272
  · refine lv_iload_n hx hb d_I_stateBehind_7 rfl (lv_at hl 1 rfl) ?_
    refine lv_bipush (v := 8) hx hb d_I_stateBehind_8 (by decide) ?_
    refine lv_icmp_ne (tgt := 20) hx hb d_I_stateBehind_10 (by decide) (fun c_38 => ?_) (fun c_38 => ?_)
    · refine lv_iload_n hx hb d_I_stateBehind_20 rfl (lv_at hl 1 rfl) ?_
      refine lv_bipush (v := 10) hx hb d_I_stateBehind_21 (by decide) ?_
      refine lv_icmp_ne (tgt := 31) hx hb d_I_stateBehind_23 (by decide) (fun c_39 => ?_) (fun c_39 => ?_)
      · refine lv_iconst (v := (-1)) hx hb d_I_stateBehind_31 (by decide) ?_
        exact wd_iret C hr hlocks h (⟨by simp [xb, c_1, c_38, c_39], rfl⟩) (Nat.le_of_ble_eq_true rfl) (Nat.le_of_ble_eq_true rfl) d_I_stateBehind_32
      · refine lv_bipush (v := 9) hx hb d_I_stateBehind_26 (by decide) ?_
        refine lv_goto (tgt := 32) hx hb d_I_stateBehind_28 (by decide) ?_
        exact wd_iret C hr hlocks h (⟨by simp [xb, c_1, c_38, c_39], rfl⟩) (Nat.le_of_ble_eq_true rfl) (Nat.le_of_ble_eq_true rfl) d_I_stateBehind_32
    · refine lv_aload_n hx hb d_I_stateBehind_13 rfl (lv_at hl 0 rfl) ?_
      refine wd_get C h kc_I ha 5 (by decide) lk_I_27 rfl d_I_stateBehind_14 ?_
      refine lv_goto (tgt := 32) hx hb d_I_stateBehind_17 (by decide) ?_
      exact wd_iret C hr hlocks h (⟨by simp [xb, c_1, c_38], rfl⟩) (Nat.le_of_ble_eq_true rfl) (Nat.le_of_ble_eq_true rfl) d_I_stateBehind_32

set_option maxHeartbeats 4000000 in
set_option maxRecDepth 20000 in
theorem c_I_correctable (l : Launch) (D : va_G) (T : Nat → ClassId) (A : Nat → Prop) (σ : wd_S) (a : Nat) (r : Nat → Int32) (w c : Nat) (ha : σ a = some (xI r w c)) (wh : Int32) : Met l y_I_correctable (Cond.code y_I_correctable b_I_correctable 2 (some .int) :: wd_tb) { frames := 0, cells := 0, slots := 0, locals := 0 } (va_Pc [.ref a, .int wh] (wd_Pre D T A σ)) (va_Qi (fun r1 σ1 => r1 = xc r wh ∧ σ1 = σ) (wd_B D A) A) 0 0 A := by
  refine wd_ofW (by decide) (Nat.le_of_ble_eq_true rfl) ?_
  intro p e s m below meth c0 ls C hr hlocks hname h hl
  have hl : lv_has ls 2 [(0, .ref a), (1, .int wh)] := hl
  have hx := C.1
  have hb := C.2.1
  refine lv_iload_n hx hb d_I_correctable_0 rfl (lv_at hl 1 rfl) ?_
  by_cases k_1 : wh = 0
  · refine lv_tableIn (tgt := 36) hx hb d_I_correctable_1 (by rw [k_1]; decide) (by rw [k_1]; decide) (by rw [k_1]; rfl) (by decide) ?_
    refine lv_aload_n hx hb d_I_correctable_36 rfl (lv_at hl 0 rfl) ?_
    refine wd_get C h kc_I ha 0 (by decide) lk_I_9 rfl d_I_correctable_37 ?_
    exact wd_iret C hr hlocks h (⟨by simp [xc, k_1], rfl⟩) (Nat.le_of_ble_eq_true rfl) (Nat.le_of_ble_eq_true rfl) d_I_correctable_40
  by_cases k_2 : wh = 1
  · refine lv_tableIn (tgt := 41) hx hb d_I_correctable_1 (by rw [k_2]; decide) (by rw [k_2]; decide) (by rw [k_2]; rfl) (by decide) ?_
    refine lv_aload_n hx hb d_I_correctable_41 rfl (lv_at hl 0 rfl) ?_
    refine wd_get C h kc_I ha 1 (by decide) lk_I_15 rfl d_I_correctable_42 ?_
    exact wd_iret C hr hlocks h (⟨by simp [xc, k_2], rfl⟩) (Nat.le_of_ble_eq_true rfl) (Nat.le_of_ble_eq_true rfl) d_I_correctable_45
  by_cases k_3 : wh = 2
  · refine lv_tableIn (tgt := 46) hx hb d_I_correctable_1 (by rw [k_3]; decide) (by rw [k_3]; decide) (by rw [k_3]; rfl) (by decide) ?_
    refine lv_aload_n hx hb d_I_correctable_46 rfl (lv_at hl 0 rfl) ?_
    refine wd_get C h kc_I ha 2 (by decide) lk_I_18 rfl d_I_correctable_47 ?_
    exact wd_iret C hr hlocks h (⟨by simp [xc, k_3], rfl⟩) (Nat.le_of_ble_eq_true rfl) (Nat.le_of_ble_eq_true rfl) d_I_correctable_50
  by_cases k_4 : wh = 3
  · refine lv_tableIn (tgt := 51) hx hb d_I_correctable_1 (by rw [k_4]; decide) (by rw [k_4]; decide) (by rw [k_4]; rfl) (by decide) ?_
    refine lv_aload_n hx hb d_I_correctable_51 rfl (lv_at hl 0 rfl) ?_
    refine wd_get C h kc_I ha 7 (by decide) lk_I_34 rfl d_I_correctable_52 ?_
    exact wd_iret C hr hlocks h (⟨by simp [xc, k_4], rfl⟩) (Nat.le_of_ble_eq_true rfl) (Nat.le_of_ble_eq_true rfl) d_I_correctable_55
  by_cases k_5 : wh = 4
  · refine lv_tableIn (tgt := 56) hx hb d_I_correctable_1 (by rw [k_5]; decide) (by rw [k_5]; decide) (by rw [k_5]; rfl) (by decide) ?_
    refine lv_aload_n hx hb d_I_correctable_56 rfl (lv_at hl 0 rfl) ?_
    refine wd_get C h kc_I ha 8 (by decide) lk_I_37 rfl d_I_correctable_57 ?_
    exact wd_iret C hr hlocks h (⟨by simp [xc, k_5], rfl⟩) (Nat.le_of_ble_eq_true rfl) (Nat.le_of_ble_eq_true rfl) d_I_correctable_60
  have n_6 := sw_ne k_1 (show ((0 : Int32)).toInt = 0 from by decide)
  have n_7 := sw_ne k_2 (show ((1 : Int32)).toInt = 1 from by decide)
  have n_8 := sw_ne k_3 (show ((2 : Int32)).toInt = 2 from by decide)
  have n_9 := sw_ne k_4 (show ((3 : Int32)).toInt = 3 from by decide)
  have n_10 := sw_ne k_5 (show ((4 : Int32)).toInt = 4 from by decide)
  refine lv_tableOut (tgt := 61) hx hb d_I_correctable_1 (by omega) (by decide) ?_
  refine lv_iconst (v := (-1)) hx hb d_I_correctable_61 (by decide) ?_
  exact wd_iret C hr hlocks h (⟨by simp [xc, k_1, k_2, k_3, k_4, k_5], rfl⟩) (Nat.le_of_ble_eq_true rfl) (Nat.le_of_ble_eq_true rfl) d_I_correctable_62

set_option maxHeartbeats 4000000 in
set_option maxRecDepth 20000 in
theorem c_I_fact (l : Launch) (D : va_G) (T : Nat → ClassId) (A : Nat → Prop) (σ : wd_S) (a : Nat) (r : Nat → Int32) (w c : Nat) (ha : σ a = some (xI r w c)) (wh : Int32) : Met l y_I_fact (Cond.code y_I_fact b_I_fact 2 (some .int) :: wd_tb) { frames := 0, cells := 0, slots := 0, locals := 0 } (va_Pc [.ref a, .int wh] (wd_Pre D T A σ)) (va_Qi (fun r1 σ1 => r1 = xf r wh ∧ σ1 = σ) (wd_B D A) A) 0 0 A := by
  refine wd_ofW (by decide) (Nat.le_of_ble_eq_true rfl) ?_
  intro p e s m below meth c0 ls C hr hlocks hname h hl
  have hl : lv_has ls 2 [(0, .ref a), (1, .int wh)] := hl
  have hx := C.1
  have hb := C.2.1
  refine lv_iload_n hx hb d_I_fact_0 rfl (lv_at hl 1 rfl) ?_
  by_cases k_1 : wh = 0
  · refine lv_tableIn (tgt := 72) hx hb d_I_fact_1 (by rw [k_1]; decide) (by rw [k_1]; decide) (by rw [k_1]; rfl) (by decide) ?_
    refine lv_aload_n hx hb d_I_fact_72 rfl (lv_at hl 0 rfl) ?_
    refine wd_get C h kc_I ha 5 (by decide) lk_I_27 rfl d_I_fact_73 ?_
    exact wd_iret C hr hlocks h (⟨by simp [xf, k_1], rfl⟩) (Nat.le_of_ble_eq_true rfl) (Nat.le_of_ble_eq_true rfl) d_I_fact_76
  by_cases k_2 : wh = 1
  · refine lv_tableIn (tgt := 77) hx hb d_I_fact_1 (by rw [k_2]; decide) (by rw [k_2]; decide) (by rw [k_2]; rfl) (by decide) ?_
    refine lv_aload_n hx hb d_I_fact_77 rfl (lv_at hl 0 rfl) ?_
    refine wd_get C h kc_I ha 0 (by decide) lk_I_9 rfl d_I_fact_78 ?_
    exact wd_iret C hr hlocks h (⟨by simp [xf, k_2], rfl⟩) (Nat.le_of_ble_eq_true rfl) (Nat.le_of_ble_eq_true rfl) d_I_fact_81
  by_cases k_3 : wh = 2
  · refine lv_tableIn (tgt := 82) hx hb d_I_fact_1 (by rw [k_3]; decide) (by rw [k_3]; decide) (by rw [k_3]; rfl) (by decide) ?_
    refine lv_aload_n hx hb d_I_fact_82 rfl (lv_at hl 0 rfl) ?_
    refine wd_get C h kc_I ha 1 (by decide) lk_I_15 rfl d_I_fact_83 ?_
    exact wd_iret C hr hlocks h (⟨by simp [xf, k_3], rfl⟩) (Nat.le_of_ble_eq_true rfl) (Nat.le_of_ble_eq_true rfl) d_I_fact_86
  by_cases k_4 : wh = 3
  · refine lv_tableIn (tgt := 87) hx hb d_I_fact_1 (by rw [k_4]; decide) (by rw [k_4]; decide) (by rw [k_4]; rfl) (by decide) ?_
    refine lv_aload_n hx hb d_I_fact_87 rfl (lv_at hl 0 rfl) ?_
    refine wd_get C h kc_I ha 2 (by decide) lk_I_18 rfl d_I_fact_88 ?_
    exact wd_iret C hr hlocks h (⟨by simp [xf, k_4], rfl⟩) (Nat.le_of_ble_eq_true rfl) (Nat.le_of_ble_eq_true rfl) d_I_fact_91
  by_cases k_5 : wh = 4
  · refine lv_tableIn (tgt := 92) hx hb d_I_fact_1 (by rw [k_5]; decide) (by rw [k_5]; decide) (by rw [k_5]; rfl) (by decide) ?_
    refine lv_aload_n hx hb d_I_fact_92 rfl (lv_at hl 0 rfl) ?_
    refine wd_get C h kc_I ha 4 (by decide) lk_I_24 rfl d_I_fact_93 ?_
    exact wd_iret C hr hlocks h (⟨by simp [xf, k_5], rfl⟩) (Nat.le_of_ble_eq_true rfl) (Nat.le_of_ble_eq_true rfl) d_I_fact_96
  by_cases k_6 : wh = 5
  · refine lv_tableIn (tgt := 97) hx hb d_I_fact_1 (by rw [k_6]; decide) (by rw [k_6]; decide) (by rw [k_6]; rfl) (by decide) ?_
    refine lv_aload_n hx hb d_I_fact_97 rfl (lv_at hl 0 rfl) ?_
    refine wd_get C h kc_I ha 7 (by decide) lk_I_34 rfl d_I_fact_98 ?_
    exact wd_iret C hr hlocks h (⟨by simp [xf, k_6], rfl⟩) (Nat.le_of_ble_eq_true rfl) (Nat.le_of_ble_eq_true rfl) d_I_fact_101
  by_cases k_7 : wh = 6
  · refine lv_tableIn (tgt := 102) hx hb d_I_fact_1 (by rw [k_7]; decide) (by rw [k_7]; decide) (by rw [k_7]; rfl) (by decide) ?_
    refine lv_aload_n hx hb d_I_fact_102 rfl (lv_at hl 0 rfl) ?_
    refine wd_get C h kc_I ha 8 (by decide) lk_I_37 rfl d_I_fact_103 ?_
    exact wd_iret C hr hlocks h (⟨by simp [xf, k_7], rfl⟩) (Nat.le_of_ble_eq_true rfl) (Nat.le_of_ble_eq_true rfl) d_I_fact_106
  by_cases k_8 : wh = 7
  · refine lv_tableIn (tgt := 107) hx hb d_I_fact_1 (by rw [k_8]; decide) (by rw [k_8]; decide) (by rw [k_8]; rfl) (by decide) ?_
    refine lv_aload_n hx hb d_I_fact_107 rfl (lv_at hl 0 rfl) ?_
    refine wd_get C h kc_I ha 9 (by decide) lk_I_40 rfl d_I_fact_108 ?_
    exact wd_iret C hr hlocks h (⟨by simp [xf, k_8], rfl⟩) (Nat.le_of_ble_eq_true rfl) (Nat.le_of_ble_eq_true rfl) d_I_fact_111
  by_cases k_9 : wh = 8
  · refine lv_tableIn (tgt := 112) hx hb d_I_fact_1 (by rw [k_9]; decide) (by rw [k_9]; decide) (by rw [k_9]; rfl) (by decide) ?_
    refine lv_aload_n hx hb d_I_fact_112 rfl (lv_at hl 0 rfl) ?_
    refine wd_get C h kc_I ha 10 (by decide) lk_I_43 rfl d_I_fact_113 ?_
    exact wd_iret C hr hlocks h (⟨by simp [xf, k_9], rfl⟩) (Nat.le_of_ble_eq_true rfl) (Nat.le_of_ble_eq_true rfl) d_I_fact_116
  by_cases k_10 : wh = 9
  · refine lv_tableIn (tgt := 117) hx hb d_I_fact_1 (by rw [k_10]; decide) (by rw [k_10]; decide) (by rw [k_10]; rfl) (by decide) ?_
    refine lv_aload_n hx hb d_I_fact_117 rfl (lv_at hl 0 rfl) ?_
    refine wd_get C h kc_I ha 11 (by decide) lk_I_46 rfl d_I_fact_118 ?_
    exact wd_iret C hr hlocks h (⟨by simp [xf, k_10], rfl⟩) (Nat.le_of_ble_eq_true rfl) (Nat.le_of_ble_eq_true rfl) d_I_fact_121
  by_cases k_11 : wh = 10
  · refine lv_tableIn (tgt := 122) hx hb d_I_fact_1 (by rw [k_11]; decide) (by rw [k_11]; decide) (by rw [k_11]; rfl) (by decide) ?_
    refine lv_aload_n hx hb d_I_fact_122 rfl (lv_at hl 0 rfl) ?_
    refine wd_get C h kc_I ha 12 (by decide) lk_I_49 rfl d_I_fact_123 ?_
    exact wd_iret C hr hlocks h (⟨by simp [xf, k_11], rfl⟩) (Nat.le_of_ble_eq_true rfl) (Nat.le_of_ble_eq_true rfl) d_I_fact_126
  by_cases k_12 : wh = 11
  · refine lv_tableIn (tgt := 127) hx hb d_I_fact_1 (by rw [k_12]; decide) (by rw [k_12]; decide) (by rw [k_12]; rfl) (by decide) ?_
    refine lv_aload_n hx hb d_I_fact_127 rfl (lv_at hl 0 rfl) ?_
    refine wd_get C h kc_I ha 6 (by decide) lk_I_30 rfl d_I_fact_128 ?_
    refine lv_if_eq (tgt := 138) hx hb d_I_fact_131 (by decide) (fun c_13 => ?_) (fun c_13 => ?_)
    · refine lv_iconst (v := 0) hx hb d_I_fact_138 (by decide) ?_
      exact wd_iret C hr hlocks h (⟨by simp [xf, k_12, c_13], rfl⟩) (Nat.le_of_ble_eq_true rfl) (Nat.le_of_ble_eq_true rfl) d_I_fact_139
    · refine lv_iconst (v := 1) hx hb d_I_fact_134 (by decide) ?_
      refine lv_goto (tgt := 139) hx hb d_I_fact_135 (by decide) ?_
      exact wd_iret C hr hlocks h (⟨by simp [xf, k_12, c_13], rfl⟩) (Nat.le_of_ble_eq_true rfl) (Nat.le_of_ble_eq_true rfl) d_I_fact_139
  by_cases k_14 : wh = 12
  · refine lv_tableIn (tgt := 140) hx hb d_I_fact_1 (by rw [k_14]; decide) (by rw [k_14]; decide) (by rw [k_14]; rfl) (by decide) ?_
    refine lv_aload_n hx hb d_I_fact_140 rfl (lv_at hl 0 rfl) ?_
    refine wd_get C h kc_I ha 3 (by decide) lk_I_21 rfl d_I_fact_141 ?_
    exact wd_iret C hr hlocks h (⟨by simp [xf, k_14], rfl⟩) (Nat.le_of_ble_eq_true rfl) (Nat.le_of_ble_eq_true rfl) d_I_fact_144
  by_cases k_15 : wh = 13
  · refine lv_tableIn (tgt := 145) hx hb d_I_fact_1 (by rw [k_15]; decide) (by rw [k_15]; decide) (by rw [k_15]; rfl) (by decide) ?_
    refine lv_aload_n hx hb d_I_fact_145 rfl (lv_at hl 0 rfl) ?_
    refine wd_get C h kc_I ha 13 (by decide) lk_I_52 rfl d_I_fact_146 ?_
    exact wd_iret C hr hlocks h (⟨by simp [xf, k_15], rfl⟩) (Nat.le_of_ble_eq_true rfl) (Nat.le_of_ble_eq_true rfl) d_I_fact_149
  have n_16 := sw_ne k_1 (show ((0 : Int32)).toInt = 0 from by decide)
  have n_17 := sw_ne k_2 (show ((1 : Int32)).toInt = 1 from by decide)
  have n_18 := sw_ne k_3 (show ((2 : Int32)).toInt = 2 from by decide)
  have n_19 := sw_ne k_4 (show ((3 : Int32)).toInt = 3 from by decide)
  have n_20 := sw_ne k_5 (show ((4 : Int32)).toInt = 4 from by decide)
  have n_21 := sw_ne k_6 (show ((5 : Int32)).toInt = 5 from by decide)
  have n_22 := sw_ne k_7 (show ((6 : Int32)).toInt = 6 from by decide)
  have n_23 := sw_ne k_8 (show ((7 : Int32)).toInt = 7 from by decide)
  have n_24 := sw_ne k_9 (show ((8 : Int32)).toInt = 8 from by decide)
  have n_25 := sw_ne k_10 (show ((9 : Int32)).toInt = 9 from by decide)
  have n_26 := sw_ne k_11 (show ((10 : Int32)).toInt = 10 from by decide)
  have n_27 := sw_ne k_12 (show ((11 : Int32)).toInt = 11 from by decide)
  have n_28 := sw_ne k_14 (show ((12 : Int32)).toInt = 12 from by decide)
  have n_29 := sw_ne k_15 (show ((13 : Int32)).toInt = 13 from by decide)
  refine lv_tableOut (tgt := 150) hx hb d_I_fact_1 (by omega) (by decide) ?_
  refine lv_bipush (v := (-102)) hx hb d_I_fact_150 (by decide) ?_
  exact wd_iret C hr hlocks h (⟨by simp [xf, k_1, k_2, k_3, k_4, k_5, k_6, k_7, k_8, k_9, k_10, k_11, k_12, k_14, k_15], rfl⟩) (Nat.le_of_ble_eq_true rfl) (Nat.le_of_ble_eq_true rfl) d_I_fact_152
