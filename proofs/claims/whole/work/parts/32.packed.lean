/-- the packed bytes q, at a with its array ab; all else is as in σ0 -/
def pz (T : Nat → ClassId) (σ0 σ : wd_S) (a ab : Nat) (q : pq) : Prop := σ a = some (.inr (3, [.ref ab, .int (nI q.2)])) ∧ σ ab = some (.inl (T 0, 30, .inl q.1)) ∧ q.2 ≤ 30 ∧ ∀ b, b ≠ a → b ≠ ab → σ b = σ0 b
theorem pz_lt {n : Nat} (h : n ≤ 30) (hc : ¬ (30 : Int32) ≤ nI n) : n < 30 := by
  rcases Nat.lt_or_ge n 30 with q | q
  · exact q
  · exact absurd (nI_le (a := 30) (b := n) q (by omega)) hc
theorem pz_full {n : Nat} (h : n ≤ 30) (hc : (30 : Int32) ≤ nI n) : n = 30 := by
  rcases Nat.lt_or_ge n 30 with q | q
  · exact absurd hc (nI_ge (a := n) (b := 30) q (by omega))
  · omega
theorem pz_add {T : Nat → ClassId} {σ0 σ : wd_S} {a ab : Nat} {q : pq} (hk : pz T σ0 σ a ab q) (hc : ¬ (30 : Int32) ≤ nI q.2) (v : Int32) : pz T σ0 (wd_up (wd_up σ ab (.inl (T 0, 30, .inl (upd q.1 (nI q.2).toNatClampNeg (v &&& 255))))) a (.inr (3, [.ref ab, .int (nI q.2 + 1)]))) a ab (pa q v) := by
  obtain ⟨h1, h2, h3, h4⟩ := hk
  have hn := pz_lt h3 hc
  have hne : ab ≠ a := wd_ne h2 h1 (by simp)
  rw [show pa q v = (upd q.1 q.2 (v &&& 255), q.2 + 1) from by simp [pa, hc]]
  refine ⟨?_, ?_, hn, fun b hb hb2 => ?_⟩
  · rw [wd_us]
    show some _ = some (Sum.inr (3, [Value.ref ab, Value.int (nI (q.2 + 1))]))
    rw [nI_1]
  · rw [wd_un _ _ hne, wd_us, nI_clamp (by omega)]
  · rw [wd_un _ _ hb, wd_un _ _ hb2]
    exact h4 b hb hb2
theorem pz_zero {T : Nat → ClassId} {σ0 σ : wd_S} {a ab : Nat} {q : pq} (hk : pz T σ0 σ a ab q) : pz T σ0 (wd_up σ a (.inr (3, [.ref ab, .int 0]))) a ab (q.1, 0) := by
  obtain ⟨h1, h2, h3, h4⟩ := hk
  exact ⟨wd_us _ _ _, wd_uk h2 (wd_ne h2 h1 (by simp)), Nat.zero_le _, fun b hb hb2 => (wd_un _ _ hb).trans (h4 b hb hb2)⟩
theorem pz_c {j n : Nat} (hn : n ≤ 30) (hj : j ≤ n) (c : ¬ nI n ≤ nI j) : j < n := by
  rcases Nat.lt_or_ge j n with q | q
  · exact q
  · exact absurd (nI_le q (by omega)) c
theorem pz_d {j n : Nat} (hn : n ≤ 30) (hj : j ≤ n) (c : nI n ≤ nI j) : j = n := by
  rcases Nat.lt_or_ge j n with q | q
  · exact absurd c (nI_ge q (by omega))
  · omega
theorem pz_e {j n : Nat} (hn : n ≤ 30) (hj : j ≤ n) (c : (30 : Int32) ≤ nI j) : j = n := by
  have := pz_full (n := j) (by omega) c
  omega
/-- what a byte of the packed is -/
def xo (q : pq) (i : Int32) : Int32 := if xw i 0 (nI q.2 - 1) = 0 then -1 else if i < 30 then q.1 i.toNatClampNeg else -1
theorem xo_in {q : pq} {i : Int32} (h : ¬ xw i 0 (nI q.2 - 1) = 0) (h2 : i < 30) : vp_in i 30 := by
  have h1 := (xw_out h).1
  rw [Int32.lt_iff_toInt_lt] at h1 h2
  rw [vp_in_iff]
  have e0 : (0 : Int32).toInt = 0 := rfl
  have e3 : (30 : Int32).toInt = 30 := rfl
  omega
section DIA
variable {p : Program} {l : Launch} {e : Env} {R : Room} {s : State} {m : MethodId} {args : Array Value} {below : List Frame} {meth : Method} {c : Code} {H : Heap} {locs : List Loc} {cells slots : Nat} {Q : State → Prop}
/-- two ways that meet again, with a number on the stack -/
theorem dia (x : Int32) {z1 z2 : Int32} {g : JFrame} (gT : Int32 → JFrame) (h1 : x = 0 → W p l e R s m args below meth c H locs cells slots Q (gT z1) → W p l e R s m args below meth c H locs cells slots Q g) (h2 : ¬ x = 0 → W p l e R s m args below meth c H locs cells slots Q (gT z2) → W p l e R s m args below meth c H locs cells slots Q g) (k : W p l e R s m args below meth c H locs cells slots Q (gT (if x = 0 then z1 else z2))) : W p l e R s m args below meth c H locs cells slots Q g := by
  by_cases hx : x = 0
  · rw [if_pos hx] at k
    exact h1 hx k
  · rw [if_neg hx] at k
    exact h2 hx k
end DIA
set_option maxHeartbeats 4000000 in
set_option maxRecDepth 20000 in
theorem c_P_add (l : Launch) (D : va_G) (T : Nat → ClassId) (A : Nat → Prop) (σ : wd_S) (σ0 : wd_S) (a ab : Nat) (q : pq) (hk : pz T σ0 σ a ab q) (v : Int32) : Met l y_P_add (Cond.code y_P_add b_P_add 2 none :: wd_tb) { frames := 0, cells := 0, slots := 0, locals := 0 } (va_Pc [.ref a, .int v] (wd_Pre D T A σ)) (va_Qv (fun σ1 => pz T σ0 σ1 a ab (pa q v)) (wd_B D A) A) 0 0 A := by
  refine wd_ofW (by decide) (Nat.le_of_ble_eq_true rfl) ?_
  intro p e s m below meth c0 ls C hr hlocks hname h hl
  have hl : lv_has ls 2 [(0, .ref a), (1, .int v)] := hl
  have hx := C.1
  have hb := C.2.1
  refine lv_aload_n hx hb d_P_add_0 rfl (lv_at hl 0 rfl) ?_
  refine wd_get C h kc_P hk.1 1 (by decide) lk_P_15 rfl d_P_add_1 ?_
  refine lv_bipush (v := 30) hx hb d_P_add_4 (by decide) ?_
  refine lv_icmp_ge (tgt := 33) hx hb d_P_add_6 (by decide) (fun c_1 => ?_) (fun c_1 => ?_)
  · exact wd_vret C hr hlocks h (by simpa [pa, c_1] using hk) (Nat.le_of_ble_eq_true rfl) (Nat.le_of_ble_eq_true rfl) d_P_add_33
  · refine lv_aload_n hx hb d_P_add_9 rfl (lv_at hl 0 rfl) ?_
    refine wd_get C h kc_P hk.1 0 (by decide) lk_P_11 rfl d_P_add_10 ?_
    refine lv_aload_n hx hb d_P_add_13 rfl (lv_at hl 0 rfl) ?_
    refine wd_get C h kc_P hk.1 1 (by decide) lk_P_15 rfl d_P_add_14 ?_
    refine lv_iload_n hx hb d_P_add_17 rfl (lv_at hl 1 rfl) ?_
    refine lv_sipush (v := 255) hx hb d_P_add_18 (by decide) ?_
    refine lv_iand hx hb d_P_add_21 ?_
    refine wd_iast C h 0 rfl hk.2.1 (vp_in_nI (pz_lt hk.2.2.1 c_1) (by decide)) d_P_add_22 (fun H locs h => ?_)
    have h : wd_C D T A s H locs (wd_up σ ab (.inl (T 0, 30, .inl (upd q.1 (nI q.2).toNatClampNeg (v &&& 255))))) := h
    have h_2 : (wd_up σ ab (.inl (T 0, 30, .inl (upd q.1 (nI q.2).toNatClampNeg (v &&& 255))))) ab = some (.inl (T 0, 30, .inl (upd q.1 (nI q.2).toNatClampNeg (v &&& 255)))) := wd_us _ _ _
    have h_3 : (wd_up σ ab (.inl (T 0, 30, .inl (upd q.1 (nI q.2).toNatClampNeg (v &&& 255))))) a = some (.inr (3, [.ref ab, .int (nI q.2)])) := wd_uk hk.1 (wd_ne hk.1 hk.2.1 (by simp))
    refine lv_aload_n hx hb d_P_add_23 rfl (lv_at hl 0 rfl) ?_
    refine lv_dup hx hb d_P_add_24 rfl ?_
    refine wd_get C h kc_P h_3 1 (by decide) lk_P_15 rfl d_P_add_25 ?_
    refine lv_iconst (v := 1) hx hb d_P_add_28 (by decide) ?_
    refine lv_iadd hx hb d_P_add_29 ?_
    refine wd_put C h kc_P h_3 1 (by decide) lk_P_15 rfl (by rfl) (by rfl) (Nat.le_of_ble_eq_true rfl) d_P_add_30 (fun H locs h => ?_)
    have h : wd_C D T A s H locs (wd_up (wd_up σ ab (.inl (T 0, 30, .inl (upd q.1 (nI q.2).toNatClampNeg (v &&& 255))))) a (.inr (3, [.ref ab, .int ((nI q.2) + 1)]))) := h
    have h_4 : (wd_up (wd_up σ ab (.inl (T 0, 30, .inl (upd q.1 (nI q.2).toNatClampNeg (v &&& 255))))) a (.inr (3, [.ref ab, .int ((nI q.2) + 1)]))) a = some (.inr (3, [.ref ab, .int ((nI q.2) + 1)])) := wd_us _ _ _
    have h_5 : (wd_up (wd_up σ ab (.inl (T 0, 30, .inl (upd q.1 (nI q.2).toNatClampNeg (v &&& 255))))) a (.inr (3, [.ref ab, .int ((nI q.2) + 1)]))) ab = some (.inl (T 0, 30, .inl (upd q.1 (nI q.2).toNatClampNeg (v &&& 255)))) := wd_uk h_2 (wd_ne h_2 h_3 (by simp))
    exact wd_vret C hr hlocks h (pz_add hk c_1 v) (Nat.le_of_ble_eq_true rfl) (Nat.le_of_ble_eq_true rfl) d_P_add_33

set_option maxHeartbeats 4000000 in
set_option maxRecDepth 20000 in
theorem c_P_addTwo (l : Launch) (D : va_G) (T : Nat → ClassId) (A : Nat → Prop) (σ : wd_S) (σ0 : wd_S) (a ab : Nat) (q : pq) (hk : pz T σ0 σ a ab q) (v : Int32) : Met l y_P_addTwo (Cond.code y_P_addTwo b_P_addTwo 2 none :: wd_tb) { frames := 1, cells := 0, slots := 0, locals := 21 } (va_Pc [.ref a, .int v] (wd_Pre D T A σ)) (va_Qv (fun σ1 => pz T σ0 σ1 a ab (p2 q v)) (wd_B D A) A) 0 0 A := by
  refine wd_ofW (by decide) (Nat.le_of_ble_eq_true rfl) ?_
  intro p e s m below meth c0 ls C hr hlocks hname h hl
  have hl : lv_has ls 2 [(0, .ref a), (1, .int v)] := hl
  have hx := C.1
  have hb := C.2.1
  refine lv_aload_n hx hb d_P_addTwo_0 rfl (lv_at hl 0 rfl) ?_
  refine lv_iload_n hx hb d_P_addTwo_1 rfl (lv_at hl 1 rfl) ?_
  refine lv_bipush (v := 8) hx hb d_P_addTwo_2 (by decide) ?_
  refine lv_ishr hx hb d_P_addTwo_4 ?_
  refine wd_cv h (wd_rV (rest := []) (st0 := [.int (v >>> (8 &&& 31)), .ref a]) C h kc_P hk.1 k_P_add wm_P_add wz_P_add lk_P_35 (c_P_add l D T A σ σ0 a ab q hk (v >>> (8 &&& 31))) rfl rfl ⟨Nat.le_of_ble_eq_true rfl, Nat.le_of_ble_eq_true rfl⟩ rfl hl.1 rfl (Nat.le_of_ble_eq_true rfl) d_P_addTwo_5 ⟨Nat.le_of_ble_eq_true rfl, Nat.le_of_ble_eq_true rfl⟩) (fun σ_2 H locs hp_3 h => ?_)
  refine lv_aload_n hx hb d_P_addTwo_8 rfl (lv_at hl 0 rfl) ?_
  refine lv_iload_n hx hb d_P_addTwo_9 rfl (lv_at hl 1 rfl) ?_
  refine wd_cv h (wd_rV (rest := []) (st0 := [.int v, .ref a]) C h kc_P hp_3.1 k_P_add wm_P_add wz_P_add lk_P_35 (c_P_add l D T A σ_2 σ0 a ab (pa q (v >>> (8 &&& 31))) hp_3 v) rfl rfl ⟨Nat.le_of_ble_eq_true rfl, Nat.le_of_ble_eq_true rfl⟩ rfl hl.1 rfl (Nat.le_of_ble_eq_true rfl) d_P_addTwo_10 ⟨Nat.le_of_ble_eq_true rfl, Nat.le_of_ble_eq_true rfl⟩) (fun σ_5 H locs hp_6 h => ?_)
  exact wd_vret C hr hlocks h (hp_6) (Nat.le_of_ble_eq_true rfl) (Nat.le_of_ble_eq_true rfl) d_P_addTwo_13

set_option maxHeartbeats 4000000 in
set_option maxRecDepth 20000 in
theorem c_P_addEntry (l : Launch) (D : va_G) (T : Nat → ClassId) (A : Nat → Prop) (σ : wd_S) (σ0 : wd_S) (a ab : Nat) (q : pq) (hk : pz T σ0 σ a ab q) (v : Int32) : Met l y_P_addEntry (Cond.code y_P_addEntry b_P_addEntry 2 none :: wd_tb) { frames := 2, cells := 0, slots := 0, locals := 42 } (va_Pc [.ref a, .int v] (wd_Pre D T A σ)) (va_Qv (fun σ1 => pz T σ0 σ1 a ab (pe q v)) (wd_B D A) A) 0 0 A := by
  refine wd_ofW (by decide) (Nat.le_of_ble_eq_true rfl) ?_
  intro p e s m below meth c0 ls C hr hlocks hname h hl
  have hl : lv_has ls 2 [(0, .ref a), (1, .int v)] := hl
  have hx := C.1
  have hb := C.2.1
  refine lv_aload_n hx hb d_P_addEntry_0 rfl (lv_at hl 0 rfl) ?_
  refine lv_iload_n hx hb d_P_addEntry_1 rfl (lv_at hl 1 rfl) ?_
  refine lv_iconst (v := (-1)) hx hb d_P_addEntry_2 (by decide) ?_
  refine lv_icmp_ne (tgt := 11) hx hb d_P_addEntry_3 (by decide) (fun c_1 => ?_) (fun c_1 => ?_)
  · refine lv_iload_n hx hb d_P_addEntry_11 rfl (lv_at hl 1 rfl) ?_
    refine wd_cv h (wd_rV (rest := []) (st0 := [.int v, .ref a]) C h kc_P hk.1 k_P_addTwo wm_P_addTwo wz_P_addTwo lk_P_23 (c_P_addTwo l D T A σ σ0 a ab q hk v) rfl rfl ⟨Nat.le_of_ble_eq_true rfl, Nat.le_of_ble_eq_true rfl⟩ rfl hl.1 rfl (Nat.le_of_ble_eq_true rfl) d_P_addEntry_12 ⟨Nat.le_of_ble_eq_true rfl, Nat.le_of_ble_eq_true rfl⟩) (fun σ_3 H locs hp_4 h => ?_)
    exact wd_vret C hr hlocks h (by simpa [pe, c_1] using hp_4) (Nat.le_of_ble_eq_true rfl) (Nat.le_of_ble_eq_true rfl) d_P_addEntry_15
  · refine lv_ldc (v := 65535) hx hb C.2.2.2.1 (C.2.2.2.2 _ lk_P_76) d_P_addEntry_6 ?_
    refine lv_goto (tgt := 12) hx hb d_P_addEntry_8 (by decide) ?_
    refine wd_cv h (wd_rV (rest := []) (st0 := [.int 65535, .ref a]) C h kc_P hk.1 k_P_addTwo wm_P_addTwo wz_P_addTwo lk_P_23 (c_P_addTwo l D T A σ σ0 a ab q hk 65535) rfl rfl ⟨Nat.le_of_ble_eq_true rfl, Nat.le_of_ble_eq_true rfl⟩ rfl hl.1 rfl (Nat.le_of_ble_eq_true rfl) d_P_addEntry_12 ⟨Nat.le_of_ble_eq_true rfl, Nat.le_of_ble_eq_true rfl⟩) (fun σ_6 H locs hp_7 h => ?_)
    exact wd_vret C hr hlocks h (by simpa [pe, c_1] using hp_7) (Nat.le_of_ble_eq_true rfl) (Nat.le_of_ble_eq_true rfl) d_P_addEntry_15

set_option maxHeartbeats 4000000 in
set_option maxRecDepth 20000 in
theorem c_P_at (l : Launch) (D : va_G) (T : Nat → ClassId) (A : Nat → Prop) (σ : wd_S) (σ0 : wd_S) (a ab : Nat) (q : pq) (hk : pz T σ0 σ a ab q) (i : Int32) : Met l y_P_at (Cond.code y_P_at b_P_at 2 (some .int) :: wd_tb) { frames := 1, cells := 0, slots := 0, locals := 22 } (va_Pc [.ref a, .int i] (wd_Pre D T A σ)) (va_Qi (fun r1 σ1 => r1 = xo q i ∧ σ1 = σ) (wd_B D A) A) 0 0 A := by
  refine wd_ofW (by decide) (Nat.le_of_ble_eq_true rfl) ?_
  intro p e s m below meth c0 ls C hr hlocks hname h hl
  have hl : lv_has ls 2 [(0, .ref a), (1, .int i)] := hl
  have hx := C.1
  have hb := C.2.1
  refine lv_iload_n hx hb d_P_at_0 rfl (lv_at hl 1 rfl) ?_
  refine lv_iconst (v := 0) hx hb d_P_at_1 (by decide) ?_
  refine lv_aload_n hx hb d_P_at_2 rfl (lv_at hl 0 rfl) ?_
  refine wd_get C h kc_P hk.1 1 (by decide) lk_P_15 rfl d_P_at_3 ?_
  refine lv_iconst (v := 1) hx hb d_P_at_6 (by decide) ?_
  refine lv_isub hx hb d_P_at_7 ?_
  refine wd_ci h (wd_rSN (rest := []) (st0 := [.int ((nI q.2) - 1), .int 0, .int i]) C h k_F_within wt_F_within lk_P_19 (c_F_within l D T A σ i 0 ((nI q.2) - 1)) rfl rfl ⟨Nat.le_of_ble_eq_true rfl, Nat.le_of_ble_eq_true rfl⟩ rfl hl.1 rfl (Nat.le_of_ble_eq_true rfl) d_P_at_8 ⟨Nat.le_of_ble_eq_true rfl, Nat.le_of_ble_eq_true rfl⟩) (fun r_1 σ_2 H locs hp_3 h => ?_)
  obtain ⟨e_4, es_5⟩ := hp_3
  rw [es_5] at h
  subst e_4
  refine lv_if_eq (tgt := 20) hx hb d_P_at_11 (by decide) (fun c_6 => ?_) (fun c_6 => ?_)
  · refine lv_iconst (v := (-1)) hx hb d_P_at_20 (by decide) ?_
    exact wd_iret C hr hlocks h (⟨by simp [xo, c_6], rfl⟩) (Nat.le_of_ble_eq_true rfl) (Nat.le_of_ble_eq_true rfl) d_P_at_21
  · refine lv_iload_n hx hb d_P_at_14 rfl (lv_at hl 1 rfl) ?_
    refine lv_bipush (v := 30) hx hb d_P_at_15 (by decide) ?_
    refine lv_icmp_lt (tgt := 22) hx hb d_P_at_17 (by decide) (fun c_7 => ?_) (fun c_7 => ?_)
    · refine lv_aload_n hx hb d_P_at_22 rfl (lv_at hl 0 rfl) ?_
      refine wd_get C h kc_P hk.1 0 (by decide) lk_P_11 rfl d_P_at_23 ?_
      refine lv_iload_n hx hb d_P_at_26 rfl (lv_at hl 1 rfl) ?_
      refine wd_iald C h 0 rfl hk.2.1 (xo_in c_6 c_7) d_P_at_27 ?_
      exact wd_iret C hr hlocks h (⟨by simp [xo, c_6, c_7], rfl⟩) (Nat.le_of_ble_eq_true rfl) (Nat.le_of_ble_eq_true rfl) d_P_at_28
    · refine lv_iconst (v := (-1)) hx hb d_P_at_20 (by decide) ?_
      exact wd_iret C hr hlocks h (⟨by simp [xo, c_6, c_7], rfl⟩) (Nat.le_of_ble_eq_true rfl) (Nat.le_of_ble_eq_true rfl) d_P_at_21

set_option maxHeartbeats 4000000 in
set_option maxRecDepth 20000 in
theorem c_P_xorOfAll (l : Launch) (D : va_G) (T : Nat → ClassId) (A : Nat → Prop) (σ : wd_S) (σ0 : wd_S) (a ab : Nat) (q : pq) (hk : pz T σ0 σ a ab q) : Met l y_P_xorOfAll (Cond.code y_P_xorOfAll b_P_xorOfAll 3 (some .int) :: wd_tb) { frames := 0, cells := 0, slots := 0, locals := 0 } (va_Pc [.ref a] (wd_Pre D T A σ)) (va_Qi (fun r1 σ1 => r1 = px q.1 q.2 ∧ σ1 = σ) (wd_B D A) A) 0 0 A := by
  refine wd_ofW (by decide) (Nat.le_of_ble_eq_true rfl) ?_
  intro p e s m below meth c0 ls C hr hlocks hname h hl
  have hl : lv_has ls 3 [(0, .ref a)] := hl
  have hx := C.1
  have hb := C.2.1
  refine lv_iconst (v := 0) hx hb d_P_xorOfAll_0 (by decide) ?_
  refine lv_istore_n (lv' := [(1, .int 0), (0, .ref a)]) hx hb d_P_xorOfAll_1 rfl hl (by decide) rfl (fun ls hl => ?_)
  refine lv_iconst (v := 0) hx hb d_P_xorOfAll_2 (by decide) ?_
  refine lv_istore_n (lv' := [(2, .int 0), (1, .int 0), (0, .ref a)]) hx hb d_P_xorOfAll_3 rfl hl (by decide) rfl (fun ls hl => ?_)
  have hl2 : ∃ j : Nat, j ≤ q.2 ∧ lv_has ls 3 [(2, .int (nI j)), (1, .int (px q.1 j)), (0, .ref a)] := ⟨0, Nat.zero_le _, lv_sub hl [0, 1, 2] rfl⟩
  clear hl
  obtain ⟨j, hj, hl⟩ := hl2
  obtain ⟨n, hn⟩ : ∃ n : Nat, q.2 < j + n := ⟨q.2 + 1, by omega⟩
  induction n generalizing j ls with
  | zero => omega
  | succ n ih =>
    refine lv_iload_n hx hb d_P_xorOfAll_4 rfl (lv_at hl 0 rfl) ?_
    refine lv_aload_n hx hb d_P_xorOfAll_5 rfl (lv_at hl 2 rfl) ?_
    refine wd_get C h kc_P hk.1 1 (by decide) lk_P_15 rfl d_P_xorOfAll_6 ?_
    refine lv_icmp_ge (tgt := 33) hx hb d_P_xorOfAll_9 (by decide) (fun c_1 => ?_) (fun c_1 => ?_)
    · refine lv_iload_n hx hb d_P_xorOfAll_33 rfl (lv_at hl 1 rfl) ?_
      exact wd_iret C hr hlocks h (⟨by rw [pz_d hk.2.2.1 hj c_1], rfl⟩) (Nat.le_of_ble_eq_true rfl) (Nat.le_of_ble_eq_true rfl) d_P_xorOfAll_34
    · refine lv_iload_n hx hb d_P_xorOfAll_12 rfl (lv_at hl 0 rfl) ?_
      refine lv_bipush (v := 30) hx hb d_P_xorOfAll_13 (by decide) ?_
      refine lv_icmp_ge (tgt := 33) hx hb d_P_xorOfAll_15 (by decide) (fun c_2 => ?_) (fun c_2 => ?_)
      · refine lv_iload_n hx hb d_P_xorOfAll_33 rfl (lv_at hl 1 rfl) ?_
        exact wd_iret C hr hlocks h (⟨by rw [pz_e hk.2.2.1 hj c_2], rfl⟩) (Nat.le_of_ble_eq_true rfl) (Nat.le_of_ble_eq_true rfl) d_P_xorOfAll_34
      · refine lv_iload_n hx hb d_P_xorOfAll_18 rfl (lv_at hl 1 rfl) ?_
        refine lv_aload_n hx hb d_P_xorOfAll_19 rfl (lv_at hl 2 rfl) ?_
        refine wd_get C h kc_P hk.1 0 (by decide) lk_P_11 rfl d_P_xorOfAll_20 ?_
        refine lv_iload_n hx hb d_P_xorOfAll_23 rfl (lv_at hl 0 rfl) ?_
        refine wd_iald C h 0 rfl hk.2.1 (vp_in_nI (Nat.lt_of_lt_of_le (pz_c hk.2.2.1 hj c_1) hk.2.2.1) (by decide)) d_P_xorOfAll_24 ?_
        refine lv_ixor hx hb d_P_xorOfAll_25 ?_
        refine lv_istore_n (lv' := [(1, .int ((px q.1 j) ^^^ (q.1 (nI j).toNatClampNeg))), (2, .int (nI j)), (0, .ref a)]) hx hb d_P_xorOfAll_26 rfl hl (by decide) rfl (fun ls hl => ?_)
        refine lv_iinc (v := ((nI j) + 1)) (lv' := [(2, .int ((nI j) + 1)), (1, .int ((px q.1 j) ^^^ (q.1 (nI j).toNatClampNeg))), (0, .ref a)]) hx hb d_P_xorOfAll_27 hl (k := 1) rfl (by first | rfl | decide) (by decide) rfl (fun ls hl => ?_)
        refine lv_goto (tgt := 4) hx hb d_P_xorOfAll_30 (by decide) ?_
        have hlt := pz_c hk.2.2.1 hj c_1
        have hj30 := hk.2.2.1
        have hl3 : lv_has ls 3 [(2, .int (nI (j + 1))), (1, .int (px q.1 (j + 1))), (0, .ref a)] := by
          have h9 := lv_sub (l' := [(2, .int (nI j + 1)), (1, .int (px q.1 j ^^^ q.1 (nI j).toNatClampNeg)), (0, .ref a)]) hl [0, 1, 2] rfl
          rw [nI_1, nI_clamp (by omega)] at h9
          exact h9
        exact ih ls (j + 1) hlt hl3 (by omega)

set_option maxHeartbeats 4000000 in
set_option maxRecDepth 20000 in
theorem c_P_fill (l : Launch) (D : va_G) (T : Nat → ClassId) (A : Nat → Prop) (σ : wd_S) (σ0 : wd_S) (a ab : Nat) (q : pq) (hk : pz T σ0 σ a ab q) (i w c : Nat) (r : Nat → Int32) (hi0 : σ0 i = some (xI r w c)) (hw0 : σ0 w = some (.inl (T 0, 4, .inl (fun j => r (15 + 2 * j))))) (hc0 : σ0 c = some (.inl (T 0, 4, .inl (fun j => r (16 + 2 * j))))) (ni1 : i ≠ a) (ni2 : i ≠ ab) (nw1 : w ≠ a) (nw2 : w ≠ ab) (nc1 : c ≠ a) (nc2 : c ≠ ab) (num : Int32) : Met l y_P_fill (Cond.code y_P_fill b_P_fill 4 none :: wd_tb) { frames := 3, cells := 0, slots := 0, locals := 63 } (va_Pc [.ref a, .int num, .ref i] (wd_Pre D T A σ)) (va_Qv (fun σ1 => pz T σ0 σ1 a ab (pf q.1 num r)) (wd_B D A) A) 0 0 A := by
  refine wd_ofW (by decide) (Nat.le_of_ble_eq_true rfl) ?_
  intro p e s m below meth c0 ls C hr hlocks hname h hl
  have hl : lv_has ls 4 [(0, .ref a), (1, .int num), (2, .ref i)] := hl
  have hx := C.1
  have hb := C.2.1
  have hi := (hk.2.2.2 i ni1 ni2).trans hi0
  have hw := (hk.2.2.2 w nw1 nw2).trans hw0
  have hc := (hk.2.2.2 c nc1 nc2).trans hc0
  refine lv_aload_n hx hb d_P_fill_0 rfl (lv_at hl 0 rfl) ?_
  refine lv_iconst (v := 0) hx hb d_P_fill_1 (by decide) ?_
  refine wd_put C h kc_P hk.1 1 (by decide) lk_P_15 rfl (by rfl) (by rfl) (Nat.le_of_ble_eq_true rfl) d_P_fill_2 (fun H locs h => ?_)
  have h : wd_C D T A s H locs (wd_up σ a (.inr (3, [.ref ab, .int 0]))) := h
  have h_1 : (wd_up σ a (.inr (3, [.ref ab, .int 0]))) a = some (.inr (3, [.ref ab, .int 0])) := wd_us _ _ _
  have h_2 : (wd_up σ a (.inr (3, [.ref ab, .int 0]))) ab = some (.inl (T 0, 30, .inl q.1)) := wd_uk hk.2.1 (wd_ne hk.2.1 hk.1 (by simp))
  have h_3 : (wd_up σ a (.inr (3, [.ref ab, .int 0]))) i = some (xI r w c) := wd_uk hi (wd_ne hi hk.1 (by simp))
  have h_4 : (wd_up σ a (.inr (3, [.ref ab, .int 0]))) w = some (.inl (T 0, 4, .inl (fun j => r (15 + 2 * j)))) := wd_uk hw (wd_ne hw hk.1 (by simp))
  have h_5 : (wd_up σ a (.inr (3, [.ref ab, .int 0]))) c = some (.inl (T 0, 4, .inl (fun j => r (16 + 2 * j)))) := wd_uk hc (wd_ne hc hk.1 (by simp))
  have hk1 := pz_zero hk
  refine lv_aload_n hx hb d_P_fill_5 rfl (lv_at hl 0 rfl) ?_
  refine lv_iload_n hx hb d_P_fill_6 rfl (lv_at hl 1 rfl) ?_
  refine wd_cv h (wd_rV (rest := []) (st0 := [.int num, .ref a]) C h kc_P hk1.1 k_P_addTwo wm_P_addTwo wz_P_addTwo lk_P_23 (c_P_addTwo l D T A (wd_up σ a (.inr (3, [.ref ab, .int 0]))) σ0 a ab (q.1, 0) hk1 num) rfl rfl ⟨Nat.le_of_ble_eq_true rfl, Nat.le_of_ble_eq_true rfl⟩ rfl hl.1 rfl (Nat.le_of_ble_eq_true rfl) d_P_fill_7 ⟨Nat.le_of_ble_eq_true rfl, Nat.le_of_ble_eq_true rfl⟩) (fun σ_7 H locs hp_8 h => ?_)
  generalize hq_q_9 : (p2 (q.1, 0) num) = q_9 at hp_8
  have hi_10 : σ_7 i = some (xI r w c) := (hp_8.2.2.2 i ni1 ni2).trans hi0
  have hi_11 : σ_7 w = some (.inl (T 0, 4, .inl (fun j => r (15 + 2 * j)))) := (hp_8.2.2.2 w nw1 nw2).trans hw0
  have hi_12 : σ_7 c = some (.inl (T 0, 4, .inl (fun j => r (16 + 2 * j)))) := (hp_8.2.2.2 c nc1 nc2).trans hc0
  refine lv_aload_n hx hb d_P_fill_10 rfl (lv_at hl 0 rfl) ?_
  refine lv_aload_n hx hb d_P_fill_11 rfl (lv_at hl 2 rfl) ?_
  refine wd_getN C h kc_I hi_10 0 (by decide) lk_P_27 rfl d_P_fill_12 ?_
  refine lv_bipush (v := 16) hx hb d_P_fill_15 (by decide) ?_
  refine lv_aload_n hx hb d_P_fill_17 rfl (lv_at hl 2 rfl) ?_
  refine wd_getN C h kc_I hi_10 2 (by decide) lk_P_32 rfl d_P_fill_18 ?_
  refine lv_imul hx hb d_P_fill_21 ?_
  refine lv_iadd hx hb d_P_fill_22 ?_
  refine wd_cv h (wd_rV (rest := []) (st0 := [.int ((r 0) + (16 * (r 2))), .ref a]) C h kc_P hp_8.1 k_P_add wm_P_add wz_P_add lk_P_35 (c_P_add l D T A σ_7 σ0 a ab q_9 hp_8 ((r 0) + (16 * (r 2)))) rfl rfl ⟨Nat.le_of_ble_eq_true rfl, Nat.le_of_ble_eq_true rfl⟩ rfl hl.1 rfl (Nat.le_of_ble_eq_true rfl) d_P_fill_23 ⟨Nat.le_of_ble_eq_true rfl, Nat.le_of_ble_eq_true rfl⟩) (fun σ_14 H locs hp_15 h => ?_)
  generalize hq_q_16 : (pa q_9 ((r 0) + (16 * (r 2)))) = q_16 at hp_15
  have hi_17 : σ_14 i = some (xI r w c) := (hp_15.2.2.2 i ni1 ni2).trans hi0
  have hi_18 : σ_14 w = some (.inl (T 0, 4, .inl (fun j => r (15 + 2 * j)))) := (hp_15.2.2.2 w nw1 nw2).trans hw0
  have hi_19 : σ_14 c = some (.inl (T 0, 4, .inl (fun j => r (16 + 2 * j)))) := (hp_15.2.2.2 c nc1 nc2).trans hc0
  refine lv_aload_n hx hb d_P_fill_26 rfl (lv_at hl 0 rfl) ?_
  refine lv_aload_n hx hb d_P_fill_27 rfl (lv_at hl 2 rfl) ?_
  refine wd_getN C h kc_I hi_17 1 (by decide) lk_P_38 rfl d_P_fill_28 ?_
  refine wd_cv h (wd_rV (rest := []) (st0 := [.int (r 1), .ref a]) C h kc_P hp_15.1 k_P_addTwo wm_P_addTwo wz_P_addTwo lk_P_23 (c_P_addTwo l D T A σ_14 σ0 a ab q_16 hp_15 (r 1)) rfl rfl ⟨Nat.le_of_ble_eq_true rfl, Nat.le_of_ble_eq_true rfl⟩ rfl hl.1 rfl (Nat.le_of_ble_eq_true rfl) d_P_fill_31 ⟨Nat.le_of_ble_eq_true rfl, Nat.le_of_ble_eq_true rfl⟩) (fun σ_21 H locs hp_22 h => ?_)
  generalize hq_q_23 : (p2 q_16 (r 1)) = q_23 at hp_22
  have hi_24 : σ_21 i = some (xI r w c) := (hp_22.2.2.2 i ni1 ni2).trans hi0
  have hi_25 : σ_21 w = some (.inl (T 0, 4, .inl (fun j => r (15 + 2 * j)))) := (hp_22.2.2.2 w nw1 nw2).trans hw0
  have hi_26 : σ_21 c = some (.inl (T 0, 4, .inl (fun j => r (16 + 2 * j)))) := (hp_22.2.2.2 c nc1 nc2).trans hc0
  refine lv_aload_n hx hb d_P_fill_34 rfl (lv_at hl 0 rfl) ?_
  refine lv_aload_n hx hb d_P_fill_35 rfl (lv_at hl 2 rfl) ?_
  refine wd_getN C h kc_I hi_24 4 (by decide) lk_P_41 rfl d_P_fill_36 ?_
  refine wd_cv h (wd_rV (rest := []) (st0 := [.int (r 4), .ref a]) C h kc_P hp_22.1 k_P_add wm_P_add wz_P_add lk_P_35 (c_P_add l D T A σ_21 σ0 a ab q_23 hp_22 (r 4)) rfl rfl ⟨Nat.le_of_ble_eq_true rfl, Nat.le_of_ble_eq_true rfl⟩ rfl hl.1 rfl (Nat.le_of_ble_eq_true rfl) d_P_fill_39 ⟨Nat.le_of_ble_eq_true rfl, Nat.le_of_ble_eq_true rfl⟩) (fun σ_28 H locs hp_29 h => ?_)
  generalize hq_q_30 : (pa q_23 (r 4)) = q_30 at hp_29
  have hi_31 : σ_28 i = some (xI r w c) := (hp_29.2.2.2 i ni1 ni2).trans hi0
  have hi_32 : σ_28 w = some (.inl (T 0, 4, .inl (fun j => r (15 + 2 * j)))) := (hp_29.2.2.2 w nw1 nw2).trans hw0
  have hi_33 : σ_28 c = some (.inl (T 0, 4, .inl (fun j => r (16 + 2 * j)))) := (hp_29.2.2.2 c nc1 nc2).trans hc0
  refine lv_aload_n hx hb d_P_fill_42 rfl (lv_at hl 0 rfl) ?_
  refine lv_aload_n hx hb d_P_fill_43 rfl (lv_at hl 2 rfl) ?_
  refine wd_getN C h kc_I hi_31 6 (by decide) lk_P_44 rfl d_P_fill_44 ?_
  refine dia (r 6) (z1 := r 5) (z2 := r 5 + 128) (fun z => F0 m 65 ls [.int z, .ref a]) (fun hc kk => ?_) (fun hc kk => ?_) ?_
  · refine lv_if_eq (tgt := 61) hx hb d_P_fill_47 (by decide) (fun _ => ?_) (fun z => absurd hc z)
    refine lv_aload_n hx hb d_P_fill_61 rfl (lv_at hl 2 rfl) ?_
    refine wd_getN C h kc_I hi_31 5 (by decide) lk_P_48 rfl d_P_fill_62 ?_
    exact kk
  · refine lv_if_eq (tgt := 61) hx hb d_P_fill_47 (by decide) (fun z => absurd z hc) (fun _ => ?_)
    refine lv_aload_n hx hb d_P_fill_50 rfl (lv_at hl 2 rfl) ?_
    refine wd_getN C h kc_I hi_31 5 (by decide) lk_P_48 rfl d_P_fill_51 ?_
    refine lv_sipush (v := 128) hx hb d_P_fill_54 (by decide) ?_
    refine lv_iadd hx hb d_P_fill_57 ?_
    refine lv_goto (tgt := 65) hx hb d_P_fill_58 (by decide) ?_
    exact kk
  refine wd_cv h (wd_rV (rest := []) (st0 := [.int (if r 6 = 0 then r 5 else r 5 + 128), .ref a]) C h kc_P hp_29.1 k_P_add wm_P_add wz_P_add lk_P_35 (c_P_add l D T A σ_28 σ0 a ab q_30 hp_29 (if r 6 = 0 then r 5 else r 5 + 128)) rfl rfl ⟨Nat.le_of_ble_eq_true rfl, Nat.le_of_ble_eq_true rfl⟩ rfl hl.1 rfl (Nat.le_of_ble_eq_true rfl) d_P_fill_65 ⟨Nat.le_of_ble_eq_true rfl, Nat.le_of_ble_eq_true rfl⟩) (fun σ_35 H locs hp_36 h => ?_)
  generalize hq_q_37 : (pa q_30 (if r 6 = 0 then r 5 else r 5 + 128)) = q_37 at hp_36
  have hi_38 : σ_35 i = some (xI r w c) := (hp_36.2.2.2 i ni1 ni2).trans hi0
  have hi_39 : σ_35 w = some (.inl (T 0, 4, .inl (fun j => r (15 + 2 * j)))) := (hp_36.2.2.2 w nw1 nw2).trans hw0
  have hi_40 : σ_35 c = some (.inl (T 0, 4, .inl (fun j => r (16 + 2 * j)))) := (hp_36.2.2.2 c nc1 nc2).trans hc0
  refine lv_aload_n hx hb d_P_fill_68 rfl (lv_at hl 0 rfl) ?_
  refine lv_aload_n hx hb d_P_fill_69 rfl (lv_at hl 2 rfl) ?_
  refine wd_getN C h kc_I hi_38 7 (by decide) lk_P_51 rfl d_P_fill_70 ?_
  refine wd_cv h (wd_rV (rest := []) (st0 := [.int (r 7), .ref a]) C h kc_P hp_36.1 k_P_addEntry wm_P_addEntry wz_P_addEntry lk_P_54 (c_P_addEntry l D T A σ_35 σ0 a ab q_37 hp_36 (r 7)) rfl rfl ⟨Nat.le_of_ble_eq_true rfl, Nat.le_of_ble_eq_true rfl⟩ rfl hl.1 rfl (Nat.le_of_ble_eq_true rfl) d_P_fill_73 ⟨Nat.le_of_ble_eq_true rfl, Nat.le_of_ble_eq_true rfl⟩) (fun σ_42 H locs hp_43 h => ?_)
  generalize hq_q_44 : (pe q_37 (r 7)) = q_44 at hp_43
  have hi_45 : σ_42 i = some (xI r w c) := (hp_43.2.2.2 i ni1 ni2).trans hi0
  have hi_46 : σ_42 w = some (.inl (T 0, 4, .inl (fun j => r (15 + 2 * j)))) := (hp_43.2.2.2 w nw1 nw2).trans hw0
  have hi_47 : σ_42 c = some (.inl (T 0, 4, .inl (fun j => r (16 + 2 * j)))) := (hp_43.2.2.2 c nc1 nc2).trans hc0
  refine lv_aload_n hx hb d_P_fill_76 rfl (lv_at hl 0 rfl) ?_
  refine lv_aload_n hx hb d_P_fill_77 rfl (lv_at hl 2 rfl) ?_
  refine wd_getN C h kc_I hi_45 8 (by decide) lk_P_57 rfl d_P_fill_78 ?_
  refine wd_cv h (wd_rV (rest := []) (st0 := [.int (r 8), .ref a]) C h kc_P hp_43.1 k_P_addEntry wm_P_addEntry wz_P_addEntry lk_P_54 (c_P_addEntry l D T A σ_42 σ0 a ab q_44 hp_43 (r 8)) rfl rfl ⟨Nat.le_of_ble_eq_true rfl, Nat.le_of_ble_eq_true rfl⟩ rfl hl.1 rfl (Nat.le_of_ble_eq_true rfl) d_P_fill_81 ⟨Nat.le_of_ble_eq_true rfl, Nat.le_of_ble_eq_true rfl⟩) (fun σ_49 H locs hp_50 h => ?_)
  generalize hq_q_51 : (pe q_44 (r 8)) = q_51 at hp_50
  have hi_52 : σ_49 i = some (xI r w c) := (hp_50.2.2.2 i ni1 ni2).trans hi0
  have hi_53 : σ_49 w = some (.inl (T 0, 4, .inl (fun j => r (15 + 2 * j)))) := (hp_50.2.2.2 w nw1 nw2).trans hw0
  have hi_54 : σ_49 c = some (.inl (T 0, 4, .inl (fun j => r (16 + 2 * j)))) := (hp_50.2.2.2 c nc1 nc2).trans hc0
  refine lv_aload_n hx hb d_P_fill_84 rfl (lv_at hl 0 rfl) ?_
  refine lv_aload_n hx hb d_P_fill_85 rfl (lv_at hl 2 rfl) ?_
  refine wd_getN C h kc_I hi_52 9 (by decide) lk_P_60 rfl d_P_fill_86 ?_
  refine wd_cv h (wd_rV (rest := []) (st0 := [.int (r 9), .ref a]) C h kc_P hp_50.1 k_P_add wm_P_add wz_P_add lk_P_35 (c_P_add l D T A σ_49 σ0 a ab q_51 hp_50 (r 9)) rfl rfl ⟨Nat.le_of_ble_eq_true rfl, Nat.le_of_ble_eq_true rfl⟩ rfl hl.1 rfl (Nat.le_of_ble_eq_true rfl) d_P_fill_89 ⟨Nat.le_of_ble_eq_true rfl, Nat.le_of_ble_eq_true rfl⟩) (fun σ_56 H locs hp_57 h => ?_)
  generalize hq_q_58 : (pa q_51 (r 9)) = q_58 at hp_57
  have hi_59 : σ_56 i = some (xI r w c) := (hp_57.2.2.2 i ni1 ni2).trans hi0
  have hi_60 : σ_56 w = some (.inl (T 0, 4, .inl (fun j => r (15 + 2 * j)))) := (hp_57.2.2.2 w nw1 nw2).trans hw0
  have hi_61 : σ_56 c = some (.inl (T 0, 4, .inl (fun j => r (16 + 2 * j)))) := (hp_57.2.2.2 c nc1 nc2).trans hc0
  refine lv_aload_n hx hb d_P_fill_92 rfl (lv_at hl 0 rfl) ?_
  refine lv_aload_n hx hb d_P_fill_93 rfl (lv_at hl 2 rfl) ?_
  refine wd_getN C h kc_I hi_59 14 (by decide) lk_P_63 rfl d_P_fill_94 ?_
  refine wd_cv h (wd_rV (rest := []) (st0 := [.int (r 14), .ref a]) C h kc_P hp_57.1 k_P_add wm_P_add wz_P_add lk_P_35 (c_P_add l D T A σ_56 σ0 a ab q_58 hp_57 (r 14)) rfl rfl ⟨Nat.le_of_ble_eq_true rfl, Nat.le_of_ble_eq_true rfl⟩ rfl hl.1 rfl (Nat.le_of_ble_eq_true rfl) d_P_fill_97 ⟨Nat.le_of_ble_eq_true rfl, Nat.le_of_ble_eq_true rfl⟩) (fun σ_63 H locs hp_64 h => ?_)
  generalize hq_q_65 : (pa q_58 (r 14)) = q_65 at hp_64
  have hi_66 : σ_63 i = some (xI r w c) := (hp_64.2.2.2 i ni1 ni2).trans hi0
  have hi_67 : σ_63 w = some (.inl (T 0, 4, .inl (fun j => r (15 + 2 * j)))) := (hp_64.2.2.2 w nw1 nw2).trans hw0
  have hi_68 : σ_63 c = some (.inl (T 0, 4, .inl (fun j => r (16 + 2 * j)))) := (hp_64.2.2.2 c nc1 nc2).trans hc0
  refine lv_iconst (v := 0) hx hb d_P_fill_100 (by decide) ?_
  refine lv_istore_n (lv' := [(3, .int 0), (0, .ref a), (1, .int num), (2, .ref i)]) hx hb d_P_fill_101 rfl hl (by decide) rfl (fun ls hl => ?_)
  refine lv_iload_n hx hb d_P_fill_102 rfl (lv_at hl 0 rfl) ?_
  refine lv_aload_n hx hb d_P_fill_103 rfl (lv_at hl 3 rfl) ?_
  refine wd_getN C h kc_I hi_66 14 (by decide) lk_P_63 rfl d_P_fill_104 ?_
  refine lv_icmp_ge (tgt := 154) hx hb d_P_fill_107 (by decide) (fun c_69 => ?_) (fun c_69 => ?_)
  · refine lv_aload_n hx hb d_P_fill_154 rfl (lv_at hl 1 rfl) ?_
    refine lv_aload_n hx hb d_P_fill_155 rfl (lv_at hl 1 rfl) ?_
    refine wd_ci h (wd_rV (rest := [.ref a]) (st0 := [.ref a, .ref a]) C h kc_P hp_64.1 k_P_xorOfAll wm_P_xorOfAll wz_P_xorOfAll lk_P_72 (c_P_xorOfAll l D T A σ_63 σ0 a ab q_65 hp_64) rfl rfl ⟨Nat.le_of_ble_eq_true rfl, Nat.le_of_ble_eq_true rfl⟩ rfl hl.1 rfl (Nat.le_of_ble_eq_true rfl) d_P_fill_156 ⟨Nat.le_of_ble_eq_true rfl, Nat.le_of_ble_eq_true rfl⟩) (fun r_70 σ_71 H locs hp_72 h => ?_)
    obtain ⟨e_73, es_74⟩ := hp_72
    rw [es_74] at h
    subst e_73
    refine wd_cv h (wd_rV (rest := []) (st0 := [.int (px q_65.1 q_65.2), .ref a]) C h kc_P hp_64.1 k_P_add wm_P_add wz_P_add lk_P_35 (c_P_add l D T A σ_63 σ0 a ab q_65 hp_64 (px q_65.1 q_65.2)) rfl rfl ⟨Nat.le_of_ble_eq_true rfl, Nat.le_of_ble_eq_true rfl⟩ rfl hl.1 rfl (Nat.le_of_ble_eq_true rfl) d_P_fill_159 ⟨Nat.le_of_ble_eq_true rfl, Nat.le_of_ble_eq_true rfl⟩) (fun σ_76 H locs hp_77 h => ?_)
    generalize hq_q_78 : (pa q_65 (px q_65.1 q_65.2)) = q_78 at hp_77
    have hi_79 : σ_76 i = some (xI r w c) := (hp_77.2.2.2 i ni1 ni2).trans hi0
    have hi_80 : σ_76 w = some (.inl (T 0, 4, .inl (fun j => r (15 + 2 * j)))) := (hp_77.2.2.2 w nw1 nw2).trans hw0
    have hi_81 : σ_76 c = some (.inl (T 0, 4, .inl (fun j => r (16 + 2 * j)))) := (hp_77.2.2.2 c nc1 nc2).trans hc0
    exact wd_vret C hr hlocks h (by rw [show pf q.1 num r = q_78 from by unfold pf; rw [show pc r (ph q.1 num r) = (ph q.1 num r) from by simp [pc, c_69]]; unfold ph; rw [hq_q_9, hq_q_16, hq_q_23, hq_q_30, hq_q_37, hq_q_44, hq_q_51, hq_q_58, hq_q_65, hq_q_78]]; exact hp_77) (Nat.le_of_ble_eq_true rfl) (Nat.le_of_ble_eq_true rfl) d_P_fill_162
  · refine lv_iload_n hx hb d_P_fill_110 rfl (lv_at hl 0 rfl) ?_
    refine lv_iconst (v := 4) hx hb d_P_fill_111 (by decide) ?_
    refine lv_icmp_ge (tgt := 154) hx hb d_P_fill_112 (by decide) (fun c_82 => ?_) (fun c_82 => ?_)
    · exact absurd c_82 (by decide)
    refine lv_aload_n hx hb d_P_fill_115 rfl (lv_at hl 1 rfl) ?_
    refine lv_aload_n hx hb d_P_fill_116 rfl (lv_at hl 3 rfl) ?_
    refine wd_getN C h kc_I hi_66 15 (by decide) lk_P_66 rfl d_P_fill_117 ?_
    refine lv_iload_n hx hb d_P_fill_120 rfl (lv_at hl 0 rfl) ?_
    refine wd_iald C h 0 rfl hi_67 (by unfold vp_in; decide) d_P_fill_121 ?_
    refine W.eq (g2 := F0 m 122 ls (.int (r (15 + 2 * 0)) :: .ref a :: [])) rfl ?_
    refine wd_cv h (wd_rV (rest := []) (st0 := [.int (r (15 + 2 * 0)), .ref a]) C h kc_P hp_64.1 k_P_add wm_P_add wz_P_add lk_P_35 (c_P_add l D T A σ_63 σ0 a ab q_65 hp_64 (r (15 + 2 * 0))) rfl rfl ⟨Nat.le_of_ble_eq_true rfl, Nat.le_of_ble_eq_true rfl⟩ rfl hl.1 rfl (Nat.le_of_ble_eq_true rfl) d_P_fill_122 ⟨Nat.le_of_ble_eq_true rfl, Nat.le_of_ble_eq_true rfl⟩) (fun σ_84 H locs hp_85 h => ?_)
    generalize hq_q_86 : (pa q_65 (r (15 + 2 * 0))) = q_86 at hp_85
    have hi_87 : σ_84 i = some (xI r w c) := (hp_85.2.2.2 i ni1 ni2).trans hi0
    have hi_88 : σ_84 w = some (.inl (T 0, 4, .inl (fun j => r (15 + 2 * j)))) := (hp_85.2.2.2 w nw1 nw2).trans hw0
    have hi_89 : σ_84 c = some (.inl (T 0, 4, .inl (fun j => r (16 + 2 * j)))) := (hp_85.2.2.2 c nc1 nc2).trans hc0
    refine lv_aload_n hx hb d_P_fill_125 rfl (lv_at hl 1 rfl) ?_
    refine lv_aload_n hx hb d_P_fill_126 rfl (lv_at hl 3 rfl) ?_
    refine wd_getN C h kc_I hi_87 16 (by decide) lk_P_69 rfl d_P_fill_127 ?_
    refine lv_iload_n hx hb d_P_fill_130 rfl (lv_at hl 0 rfl) ?_
    refine wd_iald C h 0 rfl hi_89 (by unfold vp_in; decide) d_P_fill_131 ?_
    refine W.eq (g2 := F0 m 132 ls (.int (r (16 + 2 * 0)) :: .ref a :: [])) rfl ?_
    refine lv_bipush (v := 16) hx hb d_P_fill_132 (by decide) ?_
    refine lv_ishr hx hb d_P_fill_134 ?_
    refine wd_cv h (wd_rV (rest := []) (st0 := [.int ((r (16 + 2 * 0)) >>> (16 &&& 31)), .ref a]) C h kc_P hp_85.1 k_P_add wm_P_add wz_P_add lk_P_35 (c_P_add l D T A σ_84 σ0 a ab q_86 hp_85 ((r (16 + 2 * 0)) >>> (16 &&& 31))) rfl rfl ⟨Nat.le_of_ble_eq_true rfl, Nat.le_of_ble_eq_true rfl⟩ rfl hl.1 rfl (Nat.le_of_ble_eq_true rfl) d_P_fill_135 ⟨Nat.le_of_ble_eq_true rfl, Nat.le_of_ble_eq_true rfl⟩) (fun σ_91 H locs hp_92 h => ?_)
    generalize hq_q_93 : (pa q_86 ((r (16 + 2 * 0)) >>> (16 &&& 31))) = q_93 at hp_92
    have hi_94 : σ_91 i = some (xI r w c) := (hp_92.2.2.2 i ni1 ni2).trans hi0
    have hi_95 : σ_91 w = some (.inl (T 0, 4, .inl (fun j => r (15 + 2 * j)))) := (hp_92.2.2.2 w nw1 nw2).trans hw0
    have hi_96 : σ_91 c = some (.inl (T 0, 4, .inl (fun j => r (16 + 2 * j)))) := (hp_92.2.2.2 c nc1 nc2).trans hc0
    refine lv_aload_n hx hb d_P_fill_138 rfl (lv_at hl 1 rfl) ?_
    refine lv_aload_n hx hb d_P_fill_139 rfl (lv_at hl 3 rfl) ?_
    refine wd_getN C h kc_I hi_94 16 (by decide) lk_P_69 rfl d_P_fill_140 ?_
    refine lv_iload_n hx hb d_P_fill_143 rfl (lv_at hl 0 rfl) ?_
    refine wd_iald C h 0 rfl hi_96 (by unfold vp_in; decide) d_P_fill_144 ?_
    refine W.eq (g2 := F0 m 145 ls (.int (r (16 + 2 * 0)) :: .ref a :: [])) rfl ?_
    refine wd_cv h (wd_rV (rest := []) (st0 := [.int (r (16 + 2 * 0)), .ref a]) C h kc_P hp_92.1 k_P_addTwo wm_P_addTwo wz_P_addTwo lk_P_23 (c_P_addTwo l D T A σ_91 σ0 a ab q_93 hp_92 (r (16 + 2 * 0))) rfl rfl ⟨Nat.le_of_ble_eq_true rfl, Nat.le_of_ble_eq_true rfl⟩ rfl hl.1 rfl (Nat.le_of_ble_eq_true rfl) d_P_fill_145 ⟨Nat.le_of_ble_eq_true rfl, Nat.le_of_ble_eq_true rfl⟩) (fun σ_98 H locs hp_99 h => ?_)
    generalize hq_q_100 : (p2 q_93 (r (16 + 2 * 0))) = q_100 at hp_99
    have hi_101 : σ_98 i = some (xI r w c) := (hp_99.2.2.2 i ni1 ni2).trans hi0
    have hi_102 : σ_98 w = some (.inl (T 0, 4, .inl (fun j => r (15 + 2 * j)))) := (hp_99.2.2.2 w nw1 nw2).trans hw0
    have hi_103 : σ_98 c = some (.inl (T 0, 4, .inl (fun j => r (16 + 2 * j)))) := (hp_99.2.2.2 c nc1 nc2).trans hc0
    refine lv_iinc (v := 1) (lv' := [(3, .int 1), (0, .ref a), (1, .int num), (2, .ref i)]) hx hb d_P_fill_148 hl (k := 0) rfl (by first | rfl | decide) (by decide) rfl (fun ls hl => ?_)
    refine lv_goto (tgt := 102) hx hb d_P_fill_151 (by decide) ?_
    refine lv_iload_n hx hb d_P_fill_102 rfl (lv_at hl 0 rfl) ?_
    refine lv_aload_n hx hb d_P_fill_103 rfl (lv_at hl 3 rfl) ?_
    refine wd_getN C h kc_I hi_101 14 (by decide) lk_P_63 rfl d_P_fill_104 ?_
    refine lv_icmp_ge (tgt := 154) hx hb d_P_fill_107 (by decide) (fun c_104 => ?_) (fun c_104 => ?_)
    · refine lv_aload_n hx hb d_P_fill_154 rfl (lv_at hl 1 rfl) ?_
      refine lv_aload_n hx hb d_P_fill_155 rfl (lv_at hl 1 rfl) ?_
      refine wd_ci h (wd_rV (rest := [.ref a]) (st0 := [.ref a, .ref a]) C h kc_P hp_99.1 k_P_xorOfAll wm_P_xorOfAll wz_P_xorOfAll lk_P_72 (c_P_xorOfAll l D T A σ_98 σ0 a ab q_100 hp_99) rfl rfl ⟨Nat.le_of_ble_eq_true rfl, Nat.le_of_ble_eq_true rfl⟩ rfl hl.1 rfl (Nat.le_of_ble_eq_true rfl) d_P_fill_156 ⟨Nat.le_of_ble_eq_true rfl, Nat.le_of_ble_eq_true rfl⟩) (fun r_105 σ_106 H locs hp_107 h => ?_)
      obtain ⟨e_108, es_109⟩ := hp_107
      rw [es_109] at h
      subst e_108
      refine wd_cv h (wd_rV (rest := []) (st0 := [.int (px q_100.1 q_100.2), .ref a]) C h kc_P hp_99.1 k_P_add wm_P_add wz_P_add lk_P_35 (c_P_add l D T A σ_98 σ0 a ab q_100 hp_99 (px q_100.1 q_100.2)) rfl rfl ⟨Nat.le_of_ble_eq_true rfl, Nat.le_of_ble_eq_true rfl⟩ rfl hl.1 rfl (Nat.le_of_ble_eq_true rfl) d_P_fill_159 ⟨Nat.le_of_ble_eq_true rfl, Nat.le_of_ble_eq_true rfl⟩) (fun σ_111 H locs hp_112 h => ?_)
      generalize hq_q_113 : (pa q_100 (px q_100.1 q_100.2)) = q_113 at hp_112
      have hi_114 : σ_111 i = some (xI r w c) := (hp_112.2.2.2 i ni1 ni2).trans hi0
      have hi_115 : σ_111 w = some (.inl (T 0, 4, .inl (fun j => r (15 + 2 * j)))) := (hp_112.2.2.2 w nw1 nw2).trans hw0
      have hi_116 : σ_111 c = some (.inl (T 0, 4, .inl (fun j => r (16 + 2 * j)))) := (hp_112.2.2.2 c nc1 nc2).trans hc0
      exact wd_vret C hr hlocks h (by rw [show pf q.1 num r = q_113 from by unfold pf; rw [show pc r (ph q.1 num r) = (pc1 r (ph q.1 num r) 0) from by simp [pc, c_69, c_104]]; unfold ph pc1; rw [hq_q_9, hq_q_16, hq_q_23, hq_q_30, hq_q_37, hq_q_44, hq_q_51, hq_q_58, hq_q_65, hq_q_86, hq_q_93, hq_q_100, hq_q_113]]; exact hp_112) (Nat.le_of_ble_eq_true rfl) (Nat.le_of_ble_eq_true rfl) d_P_fill_162
    · refine lv_iload_n hx hb d_P_fill_110 rfl (lv_at hl 0 rfl) ?_
      refine lv_iconst (v := 4) hx hb d_P_fill_111 (by decide) ?_
      refine lv_icmp_ge (tgt := 154) hx hb d_P_fill_112 (by decide) (fun c_117 => ?_) (fun c_117 => ?_)
      · exact absurd c_117 (by decide)
      refine lv_aload_n hx hb d_P_fill_115 rfl (lv_at hl 1 rfl) ?_
      refine lv_aload_n hx hb d_P_fill_116 rfl (lv_at hl 3 rfl) ?_
      refine wd_getN C h kc_I hi_101 15 (by decide) lk_P_66 rfl d_P_fill_117 ?_
      refine lv_iload_n hx hb d_P_fill_120 rfl (lv_at hl 0 rfl) ?_
      refine wd_iald C h 0 rfl hi_102 (by unfold vp_in; decide) d_P_fill_121 ?_
      refine W.eq (g2 := F0 m 122 ls (.int (r (15 + 2 * 1)) :: .ref a :: [])) rfl ?_
      refine wd_cv h (wd_rV (rest := []) (st0 := [.int (r (15 + 2 * 1)), .ref a]) C h kc_P hp_99.1 k_P_add wm_P_add wz_P_add lk_P_35 (c_P_add l D T A σ_98 σ0 a ab q_100 hp_99 (r (15 + 2 * 1))) rfl rfl ⟨Nat.le_of_ble_eq_true rfl, Nat.le_of_ble_eq_true rfl⟩ rfl hl.1 rfl (Nat.le_of_ble_eq_true rfl) d_P_fill_122 ⟨Nat.le_of_ble_eq_true rfl, Nat.le_of_ble_eq_true rfl⟩) (fun σ_119 H locs hp_120 h => ?_)
      generalize hq_q_121 : (pa q_100 (r (15 + 2 * 1))) = q_121 at hp_120
      have hi_122 : σ_119 i = some (xI r w c) := (hp_120.2.2.2 i ni1 ni2).trans hi0
      have hi_123 : σ_119 w = some (.inl (T 0, 4, .inl (fun j => r (15 + 2 * j)))) := (hp_120.2.2.2 w nw1 nw2).trans hw0
      have hi_124 : σ_119 c = some (.inl (T 0, 4, .inl (fun j => r (16 + 2 * j)))) := (hp_120.2.2.2 c nc1 nc2).trans hc0
      refine lv_aload_n hx hb d_P_fill_125 rfl (lv_at hl 1 rfl) ?_
      refine lv_aload_n hx hb d_P_fill_126 rfl (lv_at hl 3 rfl) ?_
      refine wd_getN C h kc_I hi_122 16 (by decide) lk_P_69 rfl d_P_fill_127 ?_
      refine lv_iload_n hx hb d_P_fill_130 rfl (lv_at hl 0 rfl) ?_
      refine wd_iald C h 0 rfl hi_124 (by unfold vp_in; decide) d_P_fill_131 ?_
      refine W.eq (g2 := F0 m 132 ls (.int (r (16 + 2 * 1)) :: .ref a :: [])) rfl ?_
      refine lv_bipush (v := 16) hx hb d_P_fill_132 (by decide) ?_
      refine lv_ishr hx hb d_P_fill_134 ?_
      refine wd_cv h (wd_rV (rest := []) (st0 := [.int ((r (16 + 2 * 1)) >>> (16 &&& 31)), .ref a]) C h kc_P hp_120.1 k_P_add wm_P_add wz_P_add lk_P_35 (c_P_add l D T A σ_119 σ0 a ab q_121 hp_120 ((r (16 + 2 * 1)) >>> (16 &&& 31))) rfl rfl ⟨Nat.le_of_ble_eq_true rfl, Nat.le_of_ble_eq_true rfl⟩ rfl hl.1 rfl (Nat.le_of_ble_eq_true rfl) d_P_fill_135 ⟨Nat.le_of_ble_eq_true rfl, Nat.le_of_ble_eq_true rfl⟩) (fun σ_126 H locs hp_127 h => ?_)
      generalize hq_q_128 : (pa q_121 ((r (16 + 2 * 1)) >>> (16 &&& 31))) = q_128 at hp_127
      have hi_129 : σ_126 i = some (xI r w c) := (hp_127.2.2.2 i ni1 ni2).trans hi0
      have hi_130 : σ_126 w = some (.inl (T 0, 4, .inl (fun j => r (15 + 2 * j)))) := (hp_127.2.2.2 w nw1 nw2).trans hw0
      have hi_131 : σ_126 c = some (.inl (T 0, 4, .inl (fun j => r (16 + 2 * j)))) := (hp_127.2.2.2 c nc1 nc2).trans hc0
      refine lv_aload_n hx hb d_P_fill_138 rfl (lv_at hl 1 rfl) ?_
      refine lv_aload_n hx hb d_P_fill_139 rfl (lv_at hl 3 rfl) ?_
      refine wd_getN C h kc_I hi_129 16 (by decide) lk_P_69 rfl d_P_fill_140 ?_
      refine lv_iload_n hx hb d_P_fill_143 rfl (lv_at hl 0 rfl) ?_
      refine wd_iald C h 0 rfl hi_131 (by unfold vp_in; decide) d_P_fill_144 ?_
      refine W.eq (g2 := F0 m 145 ls (.int (r (16 + 2 * 1)) :: .ref a :: [])) rfl ?_
      refine wd_cv h (wd_rV (rest := []) (st0 := [.int (r (16 + 2 * 1)), .ref a]) C h kc_P hp_127.1 k_P_addTwo wm_P_addTwo wz_P_addTwo lk_P_23 (c_P_addTwo l D T A σ_126 σ0 a ab q_128 hp_127 (r (16 + 2 * 1))) rfl rfl ⟨Nat.le_of_ble_eq_true rfl, Nat.le_of_ble_eq_true rfl⟩ rfl hl.1 rfl (Nat.le_of_ble_eq_true rfl) d_P_fill_145 ⟨Nat.le_of_ble_eq_true rfl, Nat.le_of_ble_eq_true rfl⟩) (fun σ_133 H locs hp_134 h => ?_)
      generalize hq_q_135 : (p2 q_128 (r (16 + 2 * 1))) = q_135 at hp_134
      have hi_136 : σ_133 i = some (xI r w c) := (hp_134.2.2.2 i ni1 ni2).trans hi0
      have hi_137 : σ_133 w = some (.inl (T 0, 4, .inl (fun j => r (15 + 2 * j)))) := (hp_134.2.2.2 w nw1 nw2).trans hw0
      have hi_138 : σ_133 c = some (.inl (T 0, 4, .inl (fun j => r (16 + 2 * j)))) := (hp_134.2.2.2 c nc1 nc2).trans hc0
      refine lv_iinc (v := 2) (lv' := [(3, .int 2), (0, .ref a), (1, .int num), (2, .ref i)]) hx hb d_P_fill_148 hl (k := 0) rfl (by first | rfl | decide) (by decide) rfl (fun ls hl => ?_)
      refine lv_goto (tgt := 102) hx hb d_P_fill_151 (by decide) ?_
      refine lv_iload_n hx hb d_P_fill_102 rfl (lv_at hl 0 rfl) ?_
      refine lv_aload_n hx hb d_P_fill_103 rfl (lv_at hl 3 rfl) ?_
      refine wd_getN C h kc_I hi_136 14 (by decide) lk_P_63 rfl d_P_fill_104 ?_
      refine lv_icmp_ge (tgt := 154) hx hb d_P_fill_107 (by decide) (fun c_139 => ?_) (fun c_139 => ?_)
      · refine lv_aload_n hx hb d_P_fill_154 rfl (lv_at hl 1 rfl) ?_
        refine lv_aload_n hx hb d_P_fill_155 rfl (lv_at hl 1 rfl) ?_
        refine wd_ci h (wd_rV (rest := [.ref a]) (st0 := [.ref a, .ref a]) C h kc_P hp_134.1 k_P_xorOfAll wm_P_xorOfAll wz_P_xorOfAll lk_P_72 (c_P_xorOfAll l D T A σ_133 σ0 a ab q_135 hp_134) rfl rfl ⟨Nat.le_of_ble_eq_true rfl, Nat.le_of_ble_eq_true rfl⟩ rfl hl.1 rfl (Nat.le_of_ble_eq_true rfl) d_P_fill_156 ⟨Nat.le_of_ble_eq_true rfl, Nat.le_of_ble_eq_true rfl⟩) (fun r_140 σ_141 H locs hp_142 h => ?_)
        obtain ⟨e_143, es_144⟩ := hp_142
        rw [es_144] at h
        subst e_143
        refine wd_cv h (wd_rV (rest := []) (st0 := [.int (px q_135.1 q_135.2), .ref a]) C h kc_P hp_134.1 k_P_add wm_P_add wz_P_add lk_P_35 (c_P_add l D T A σ_133 σ0 a ab q_135 hp_134 (px q_135.1 q_135.2)) rfl rfl ⟨Nat.le_of_ble_eq_true rfl, Nat.le_of_ble_eq_true rfl⟩ rfl hl.1 rfl (Nat.le_of_ble_eq_true rfl) d_P_fill_159 ⟨Nat.le_of_ble_eq_true rfl, Nat.le_of_ble_eq_true rfl⟩) (fun σ_146 H locs hp_147 h => ?_)
        generalize hq_q_148 : (pa q_135 (px q_135.1 q_135.2)) = q_148 at hp_147
        have hi_149 : σ_146 i = some (xI r w c) := (hp_147.2.2.2 i ni1 ni2).trans hi0
        have hi_150 : σ_146 w = some (.inl (T 0, 4, .inl (fun j => r (15 + 2 * j)))) := (hp_147.2.2.2 w nw1 nw2).trans hw0
        have hi_151 : σ_146 c = some (.inl (T 0, 4, .inl (fun j => r (16 + 2 * j)))) := (hp_147.2.2.2 c nc1 nc2).trans hc0
        exact wd_vret C hr hlocks h (by rw [show pf q.1 num r = q_148 from by unfold pf; rw [show pc r (ph q.1 num r) = (pc1 r (pc1 r (ph q.1 num r) 0) 1) from by simp [pc, c_69, c_104, c_139]]; unfold ph pc1; rw [hq_q_9, hq_q_16, hq_q_23, hq_q_30, hq_q_37, hq_q_44, hq_q_51, hq_q_58, hq_q_65, hq_q_86, hq_q_93, hq_q_100, hq_q_121, hq_q_128, hq_q_135, hq_q_148]]; exact hp_147) (Nat.le_of_ble_eq_true rfl) (Nat.le_of_ble_eq_true rfl) d_P_fill_162
      · refine lv_iload_n hx hb d_P_fill_110 rfl (lv_at hl 0 rfl) ?_
        refine lv_iconst (v := 4) hx hb d_P_fill_111 (by decide) ?_
        refine lv_icmp_ge (tgt := 154) hx hb d_P_fill_112 (by decide) (fun c_152 => ?_) (fun c_152 => ?_)
        · exact absurd c_152 (by decide)
        refine lv_aload_n hx hb d_P_fill_115 rfl (lv_at hl 1 rfl) ?_
        refine lv_aload_n hx hb d_P_fill_116 rfl (lv_at hl 3 rfl) ?_
        refine wd_getN C h kc_I hi_136 15 (by decide) lk_P_66 rfl d_P_fill_117 ?_
        refine lv_iload_n hx hb d_P_fill_120 rfl (lv_at hl 0 rfl) ?_
        refine wd_iald C h 0 rfl hi_137 (by unfold vp_in; decide) d_P_fill_121 ?_
        refine W.eq (g2 := F0 m 122 ls (.int (r (15 + 2 * 2)) :: .ref a :: [])) rfl ?_
        refine wd_cv h (wd_rV (rest := []) (st0 := [.int (r (15 + 2 * 2)), .ref a]) C h kc_P hp_134.1 k_P_add wm_P_add wz_P_add lk_P_35 (c_P_add l D T A σ_133 σ0 a ab q_135 hp_134 (r (15 + 2 * 2))) rfl rfl ⟨Nat.le_of_ble_eq_true rfl, Nat.le_of_ble_eq_true rfl⟩ rfl hl.1 rfl (Nat.le_of_ble_eq_true rfl) d_P_fill_122 ⟨Nat.le_of_ble_eq_true rfl, Nat.le_of_ble_eq_true rfl⟩) (fun σ_154 H locs hp_155 h => ?_)
        generalize hq_q_156 : (pa q_135 (r (15 + 2 * 2))) = q_156 at hp_155
        have hi_157 : σ_154 i = some (xI r w c) := (hp_155.2.2.2 i ni1 ni2).trans hi0
        have hi_158 : σ_154 w = some (.inl (T 0, 4, .inl (fun j => r (15 + 2 * j)))) := (hp_155.2.2.2 w nw1 nw2).trans hw0
        have hi_159 : σ_154 c = some (.inl (T 0, 4, .inl (fun j => r (16 + 2 * j)))) := (hp_155.2.2.2 c nc1 nc2).trans hc0
        refine lv_aload_n hx hb d_P_fill_125 rfl (lv_at hl 1 rfl) ?_
        refine lv_aload_n hx hb d_P_fill_126 rfl (lv_at hl 3 rfl) ?_
        refine wd_getN C h kc_I hi_157 16 (by decide) lk_P_69 rfl d_P_fill_127 ?_
        refine lv_iload_n hx hb d_P_fill_130 rfl (lv_at hl 0 rfl) ?_
        refine wd_iald C h 0 rfl hi_159 (by unfold vp_in; decide) d_P_fill_131 ?_
        refine W.eq (g2 := F0 m 132 ls (.int (r (16 + 2 * 2)) :: .ref a :: [])) rfl ?_
        refine lv_bipush (v := 16) hx hb d_P_fill_132 (by decide) ?_
        refine lv_ishr hx hb d_P_fill_134 ?_
        refine wd_cv h (wd_rV (rest := []) (st0 := [.int ((r (16 + 2 * 2)) >>> (16 &&& 31)), .ref a]) C h kc_P hp_155.1 k_P_add wm_P_add wz_P_add lk_P_35 (c_P_add l D T A σ_154 σ0 a ab q_156 hp_155 ((r (16 + 2 * 2)) >>> (16 &&& 31))) rfl rfl ⟨Nat.le_of_ble_eq_true rfl, Nat.le_of_ble_eq_true rfl⟩ rfl hl.1 rfl (Nat.le_of_ble_eq_true rfl) d_P_fill_135 ⟨Nat.le_of_ble_eq_true rfl, Nat.le_of_ble_eq_true rfl⟩) (fun σ_161 H locs hp_162 h => ?_)
        generalize hq_q_163 : (pa q_156 ((r (16 + 2 * 2)) >>> (16 &&& 31))) = q_163 at hp_162
        have hi_164 : σ_161 i = some (xI r w c) := (hp_162.2.2.2 i ni1 ni2).trans hi0
        have hi_165 : σ_161 w = some (.inl (T 0, 4, .inl (fun j => r (15 + 2 * j)))) := (hp_162.2.2.2 w nw1 nw2).trans hw0
        have hi_166 : σ_161 c = some (.inl (T 0, 4, .inl (fun j => r (16 + 2 * j)))) := (hp_162.2.2.2 c nc1 nc2).trans hc0
        refine lv_aload_n hx hb d_P_fill_138 rfl (lv_at hl 1 rfl) ?_
        refine lv_aload_n hx hb d_P_fill_139 rfl (lv_at hl 3 rfl) ?_
        refine wd_getN C h kc_I hi_164 16 (by decide) lk_P_69 rfl d_P_fill_140 ?_
        refine lv_iload_n hx hb d_P_fill_143 rfl (lv_at hl 0 rfl) ?_
        refine wd_iald C h 0 rfl hi_166 (by unfold vp_in; decide) d_P_fill_144 ?_
        refine W.eq (g2 := F0 m 145 ls (.int (r (16 + 2 * 2)) :: .ref a :: [])) rfl ?_
        refine wd_cv h (wd_rV (rest := []) (st0 := [.int (r (16 + 2 * 2)), .ref a]) C h kc_P hp_162.1 k_P_addTwo wm_P_addTwo wz_P_addTwo lk_P_23 (c_P_addTwo l D T A σ_161 σ0 a ab q_163 hp_162 (r (16 + 2 * 2))) rfl rfl ⟨Nat.le_of_ble_eq_true rfl, Nat.le_of_ble_eq_true rfl⟩ rfl hl.1 rfl (Nat.le_of_ble_eq_true rfl) d_P_fill_145 ⟨Nat.le_of_ble_eq_true rfl, Nat.le_of_ble_eq_true rfl⟩) (fun σ_168 H locs hp_169 h => ?_)
        generalize hq_q_170 : (p2 q_163 (r (16 + 2 * 2))) = q_170 at hp_169
        have hi_171 : σ_168 i = some (xI r w c) := (hp_169.2.2.2 i ni1 ni2).trans hi0
        have hi_172 : σ_168 w = some (.inl (T 0, 4, .inl (fun j => r (15 + 2 * j)))) := (hp_169.2.2.2 w nw1 nw2).trans hw0
        have hi_173 : σ_168 c = some (.inl (T 0, 4, .inl (fun j => r (16 + 2 * j)))) := (hp_169.2.2.2 c nc1 nc2).trans hc0
        refine lv_iinc (v := 3) (lv' := [(3, .int 3), (0, .ref a), (1, .int num), (2, .ref i)]) hx hb d_P_fill_148 hl (k := 0) rfl (by first | rfl | decide) (by decide) rfl (fun ls hl => ?_)
        refine lv_goto (tgt := 102) hx hb d_P_fill_151 (by decide) ?_
        refine lv_iload_n hx hb d_P_fill_102 rfl (lv_at hl 0 rfl) ?_
        refine lv_aload_n hx hb d_P_fill_103 rfl (lv_at hl 3 rfl) ?_
        refine wd_getN C h kc_I hi_171 14 (by decide) lk_P_63 rfl d_P_fill_104 ?_
        refine lv_icmp_ge (tgt := 154) hx hb d_P_fill_107 (by decide) (fun c_174 => ?_) (fun c_174 => ?_)
        · refine lv_aload_n hx hb d_P_fill_154 rfl (lv_at hl 1 rfl) ?_
          refine lv_aload_n hx hb d_P_fill_155 rfl (lv_at hl 1 rfl) ?_
          refine wd_ci h (wd_rV (rest := [.ref a]) (st0 := [.ref a, .ref a]) C h kc_P hp_169.1 k_P_xorOfAll wm_P_xorOfAll wz_P_xorOfAll lk_P_72 (c_P_xorOfAll l D T A σ_168 σ0 a ab q_170 hp_169) rfl rfl ⟨Nat.le_of_ble_eq_true rfl, Nat.le_of_ble_eq_true rfl⟩ rfl hl.1 rfl (Nat.le_of_ble_eq_true rfl) d_P_fill_156 ⟨Nat.le_of_ble_eq_true rfl, Nat.le_of_ble_eq_true rfl⟩) (fun r_175 σ_176 H locs hp_177 h => ?_)
          obtain ⟨e_178, es_179⟩ := hp_177
          rw [es_179] at h
          subst e_178
          refine wd_cv h (wd_rV (rest := []) (st0 := [.int (px q_170.1 q_170.2), .ref a]) C h kc_P hp_169.1 k_P_add wm_P_add wz_P_add lk_P_35 (c_P_add l D T A σ_168 σ0 a ab q_170 hp_169 (px q_170.1 q_170.2)) rfl rfl ⟨Nat.le_of_ble_eq_true rfl, Nat.le_of_ble_eq_true rfl⟩ rfl hl.1 rfl (Nat.le_of_ble_eq_true rfl) d_P_fill_159 ⟨Nat.le_of_ble_eq_true rfl, Nat.le_of_ble_eq_true rfl⟩) (fun σ_181 H locs hp_182 h => ?_)
          generalize hq_q_183 : (pa q_170 (px q_170.1 q_170.2)) = q_183 at hp_182
          have hi_184 : σ_181 i = some (xI r w c) := (hp_182.2.2.2 i ni1 ni2).trans hi0
          have hi_185 : σ_181 w = some (.inl (T 0, 4, .inl (fun j => r (15 + 2 * j)))) := (hp_182.2.2.2 w nw1 nw2).trans hw0
          have hi_186 : σ_181 c = some (.inl (T 0, 4, .inl (fun j => r (16 + 2 * j)))) := (hp_182.2.2.2 c nc1 nc2).trans hc0
          exact wd_vret C hr hlocks h (by rw [show pf q.1 num r = q_183 from by unfold pf; rw [show pc r (ph q.1 num r) = (pc1 r (pc1 r (pc1 r (ph q.1 num r) 0) 1) 2) from by simp [pc, c_69, c_104, c_139, c_174]]; unfold ph pc1; rw [hq_q_9, hq_q_16, hq_q_23, hq_q_30, hq_q_37, hq_q_44, hq_q_51, hq_q_58, hq_q_65, hq_q_86, hq_q_93, hq_q_100, hq_q_121, hq_q_128, hq_q_135, hq_q_156, hq_q_163, hq_q_170, hq_q_183]]; exact hp_182) (Nat.le_of_ble_eq_true rfl) (Nat.le_of_ble_eq_true rfl) d_P_fill_162
        · refine lv_iload_n hx hb d_P_fill_110 rfl (lv_at hl 0 rfl) ?_
          refine lv_iconst (v := 4) hx hb d_P_fill_111 (by decide) ?_
          refine lv_icmp_ge (tgt := 154) hx hb d_P_fill_112 (by decide) (fun c_187 => ?_) (fun c_187 => ?_)
          · exact absurd c_187 (by decide)
          refine lv_aload_n hx hb d_P_fill_115 rfl (lv_at hl 1 rfl) ?_
          refine lv_aload_n hx hb d_P_fill_116 rfl (lv_at hl 3 rfl) ?_
          refine wd_getN C h kc_I hi_171 15 (by decide) lk_P_66 rfl d_P_fill_117 ?_
          refine lv_iload_n hx hb d_P_fill_120 rfl (lv_at hl 0 rfl) ?_
          refine wd_iald C h 0 rfl hi_172 (by unfold vp_in; decide) d_P_fill_121 ?_
          refine W.eq (g2 := F0 m 122 ls (.int (r (15 + 2 * 3)) :: .ref a :: [])) rfl ?_
          refine wd_cv h (wd_rV (rest := []) (st0 := [.int (r (15 + 2 * 3)), .ref a]) C h kc_P hp_169.1 k_P_add wm_P_add wz_P_add lk_P_35 (c_P_add l D T A σ_168 σ0 a ab q_170 hp_169 (r (15 + 2 * 3))) rfl rfl ⟨Nat.le_of_ble_eq_true rfl, Nat.le_of_ble_eq_true rfl⟩ rfl hl.1 rfl (Nat.le_of_ble_eq_true rfl) d_P_fill_122 ⟨Nat.le_of_ble_eq_true rfl, Nat.le_of_ble_eq_true rfl⟩) (fun σ_189 H locs hp_190 h => ?_)
          generalize hq_q_191 : (pa q_170 (r (15 + 2 * 3))) = q_191 at hp_190
          have hi_192 : σ_189 i = some (xI r w c) := (hp_190.2.2.2 i ni1 ni2).trans hi0
          have hi_193 : σ_189 w = some (.inl (T 0, 4, .inl (fun j => r (15 + 2 * j)))) := (hp_190.2.2.2 w nw1 nw2).trans hw0
          have hi_194 : σ_189 c = some (.inl (T 0, 4, .inl (fun j => r (16 + 2 * j)))) := (hp_190.2.2.2 c nc1 nc2).trans hc0
          refine lv_aload_n hx hb d_P_fill_125 rfl (lv_at hl 1 rfl) ?_
          refine lv_aload_n hx hb d_P_fill_126 rfl (lv_at hl 3 rfl) ?_
          refine wd_getN C h kc_I hi_192 16 (by decide) lk_P_69 rfl d_P_fill_127 ?_
          refine lv_iload_n hx hb d_P_fill_130 rfl (lv_at hl 0 rfl) ?_
          refine wd_iald C h 0 rfl hi_194 (by unfold vp_in; decide) d_P_fill_131 ?_
          refine W.eq (g2 := F0 m 132 ls (.int (r (16 + 2 * 3)) :: .ref a :: [])) rfl ?_
          refine lv_bipush (v := 16) hx hb d_P_fill_132 (by decide) ?_
          refine lv_ishr hx hb d_P_fill_134 ?_
          refine wd_cv h (wd_rV (rest := []) (st0 := [.int ((r (16 + 2 * 3)) >>> (16 &&& 31)), .ref a]) C h kc_P hp_190.1 k_P_add wm_P_add wz_P_add lk_P_35 (c_P_add l D T A σ_189 σ0 a ab q_191 hp_190 ((r (16 + 2 * 3)) >>> (16 &&& 31))) rfl rfl ⟨Nat.le_of_ble_eq_true rfl, Nat.le_of_ble_eq_true rfl⟩ rfl hl.1 rfl (Nat.le_of_ble_eq_true rfl) d_P_fill_135 ⟨Nat.le_of_ble_eq_true rfl, Nat.le_of_ble_eq_true rfl⟩) (fun σ_196 H locs hp_197 h => ?_)
          generalize hq_q_198 : (pa q_191 ((r (16 + 2 * 3)) >>> (16 &&& 31))) = q_198 at hp_197
          have hi_199 : σ_196 i = some (xI r w c) := (hp_197.2.2.2 i ni1 ni2).trans hi0
          have hi_200 : σ_196 w = some (.inl (T 0, 4, .inl (fun j => r (15 + 2 * j)))) := (hp_197.2.2.2 w nw1 nw2).trans hw0
          have hi_201 : σ_196 c = some (.inl (T 0, 4, .inl (fun j => r (16 + 2 * j)))) := (hp_197.2.2.2 c nc1 nc2).trans hc0
          refine lv_aload_n hx hb d_P_fill_138 rfl (lv_at hl 1 rfl) ?_
          refine lv_aload_n hx hb d_P_fill_139 rfl (lv_at hl 3 rfl) ?_
          refine wd_getN C h kc_I hi_199 16 (by decide) lk_P_69 rfl d_P_fill_140 ?_
          refine lv_iload_n hx hb d_P_fill_143 rfl (lv_at hl 0 rfl) ?_
          refine wd_iald C h 0 rfl hi_201 (by unfold vp_in; decide) d_P_fill_144 ?_
          refine W.eq (g2 := F0 m 145 ls (.int (r (16 + 2 * 3)) :: .ref a :: [])) rfl ?_
          refine wd_cv h (wd_rV (rest := []) (st0 := [.int (r (16 + 2 * 3)), .ref a]) C h kc_P hp_197.1 k_P_addTwo wm_P_addTwo wz_P_addTwo lk_P_23 (c_P_addTwo l D T A σ_196 σ0 a ab q_198 hp_197 (r (16 + 2 * 3))) rfl rfl ⟨Nat.le_of_ble_eq_true rfl, Nat.le_of_ble_eq_true rfl⟩ rfl hl.1 rfl (Nat.le_of_ble_eq_true rfl) d_P_fill_145 ⟨Nat.le_of_ble_eq_true rfl, Nat.le_of_ble_eq_true rfl⟩) (fun σ_203 H locs hp_204 h => ?_)
          generalize hq_q_205 : (p2 q_198 (r (16 + 2 * 3))) = q_205 at hp_204
          have hi_206 : σ_203 i = some (xI r w c) := (hp_204.2.2.2 i ni1 ni2).trans hi0
          have hi_207 : σ_203 w = some (.inl (T 0, 4, .inl (fun j => r (15 + 2 * j)))) := (hp_204.2.2.2 w nw1 nw2).trans hw0
          have hi_208 : σ_203 c = some (.inl (T 0, 4, .inl (fun j => r (16 + 2 * j)))) := (hp_204.2.2.2 c nc1 nc2).trans hc0
          refine lv_iinc (v := 4) (lv' := [(3, .int 4), (0, .ref a), (1, .int num), (2, .ref i)]) hx hb d_P_fill_148 hl (k := 0) rfl (by first | rfl | decide) (by decide) rfl (fun ls hl => ?_)
          refine lv_goto (tgt := 102) hx hb d_P_fill_151 (by decide) ?_
          refine lv_iload_n hx hb d_P_fill_102 rfl (lv_at hl 0 rfl) ?_
          refine lv_aload_n hx hb d_P_fill_103 rfl (lv_at hl 3 rfl) ?_
          refine wd_getN C h kc_I hi_206 14 (by decide) lk_P_63 rfl d_P_fill_104 ?_
          refine lv_icmp_ge (tgt := 154) hx hb d_P_fill_107 (by decide) (fun c_209 => ?_) (fun c_209 => ?_)
          · refine lv_aload_n hx hb d_P_fill_154 rfl (lv_at hl 1 rfl) ?_
            refine lv_aload_n hx hb d_P_fill_155 rfl (lv_at hl 1 rfl) ?_
            refine wd_ci h (wd_rV (rest := [.ref a]) (st0 := [.ref a, .ref a]) C h kc_P hp_204.1 k_P_xorOfAll wm_P_xorOfAll wz_P_xorOfAll lk_P_72 (c_P_xorOfAll l D T A σ_203 σ0 a ab q_205 hp_204) rfl rfl ⟨Nat.le_of_ble_eq_true rfl, Nat.le_of_ble_eq_true rfl⟩ rfl hl.1 rfl (Nat.le_of_ble_eq_true rfl) d_P_fill_156 ⟨Nat.le_of_ble_eq_true rfl, Nat.le_of_ble_eq_true rfl⟩) (fun r_210 σ_211 H locs hp_212 h => ?_)
            obtain ⟨e_213, es_214⟩ := hp_212
            rw [es_214] at h
            subst e_213
            refine wd_cv h (wd_rV (rest := []) (st0 := [.int (px q_205.1 q_205.2), .ref a]) C h kc_P hp_204.1 k_P_add wm_P_add wz_P_add lk_P_35 (c_P_add l D T A σ_203 σ0 a ab q_205 hp_204 (px q_205.1 q_205.2)) rfl rfl ⟨Nat.le_of_ble_eq_true rfl, Nat.le_of_ble_eq_true rfl⟩ rfl hl.1 rfl (Nat.le_of_ble_eq_true rfl) d_P_fill_159 ⟨Nat.le_of_ble_eq_true rfl, Nat.le_of_ble_eq_true rfl⟩) (fun σ_216 H locs hp_217 h => ?_)
            generalize hq_q_218 : (pa q_205 (px q_205.1 q_205.2)) = q_218 at hp_217
            have hi_219 : σ_216 i = some (xI r w c) := (hp_217.2.2.2 i ni1 ni2).trans hi0
            have hi_220 : σ_216 w = some (.inl (T 0, 4, .inl (fun j => r (15 + 2 * j)))) := (hp_217.2.2.2 w nw1 nw2).trans hw0
            have hi_221 : σ_216 c = some (.inl (T 0, 4, .inl (fun j => r (16 + 2 * j)))) := (hp_217.2.2.2 c nc1 nc2).trans hc0
            exact wd_vret C hr hlocks h (by rw [show pf q.1 num r = q_218 from by unfold pf; rw [show pc r (ph q.1 num r) = (pc1 r (pc1 r (pc1 r (pc1 r (ph q.1 num r) 0) 1) 2) 3) from by simp [pc, c_69, c_104, c_139, c_174, c_209]]; unfold ph pc1; rw [hq_q_9, hq_q_16, hq_q_23, hq_q_30, hq_q_37, hq_q_44, hq_q_51, hq_q_58, hq_q_65, hq_q_86, hq_q_93, hq_q_100, hq_q_121, hq_q_128, hq_q_135, hq_q_156, hq_q_163, hq_q_170, hq_q_191, hq_q_198, hq_q_205, hq_q_218]]; exact hp_217) (Nat.le_of_ble_eq_true rfl) (Nat.le_of_ble_eq_true rfl) d_P_fill_162
          · refine lv_iload_n hx hb d_P_fill_110 rfl (lv_at hl 0 rfl) ?_
            refine lv_iconst (v := 4) hx hb d_P_fill_111 (by decide) ?_
            refine lv_icmp_ge (tgt := 154) hx hb d_P_fill_112 (by decide) (fun c_222 => ?_) (fun c_222 => ?_)
            rotate_left
            · exact absurd c_222 (by decide)
            refine lv_aload_n hx hb d_P_fill_154 rfl (lv_at hl 1 rfl) ?_
            refine lv_aload_n hx hb d_P_fill_155 rfl (lv_at hl 1 rfl) ?_
            refine wd_ci h (wd_rV (rest := [.ref a]) (st0 := [.ref a, .ref a]) C h kc_P hp_204.1 k_P_xorOfAll wm_P_xorOfAll wz_P_xorOfAll lk_P_72 (c_P_xorOfAll l D T A σ_203 σ0 a ab q_205 hp_204) rfl rfl ⟨Nat.le_of_ble_eq_true rfl, Nat.le_of_ble_eq_true rfl⟩ rfl hl.1 rfl (Nat.le_of_ble_eq_true rfl) d_P_fill_156 ⟨Nat.le_of_ble_eq_true rfl, Nat.le_of_ble_eq_true rfl⟩) (fun r_223 σ_224 H locs hp_225 h => ?_)
            obtain ⟨e_226, es_227⟩ := hp_225
            rw [es_227] at h
            subst e_226
            refine wd_cv h (wd_rV (rest := []) (st0 := [.int (px q_205.1 q_205.2), .ref a]) C h kc_P hp_204.1 k_P_add wm_P_add wz_P_add lk_P_35 (c_P_add l D T A σ_203 σ0 a ab q_205 hp_204 (px q_205.1 q_205.2)) rfl rfl ⟨Nat.le_of_ble_eq_true rfl, Nat.le_of_ble_eq_true rfl⟩ rfl hl.1 rfl (Nat.le_of_ble_eq_true rfl) d_P_fill_159 ⟨Nat.le_of_ble_eq_true rfl, Nat.le_of_ble_eq_true rfl⟩) (fun σ_229 H locs hp_230 h => ?_)
            generalize hq_q_231 : (pa q_205 (px q_205.1 q_205.2)) = q_231 at hp_230
            have hi_232 : σ_229 i = some (xI r w c) := (hp_230.2.2.2 i ni1 ni2).trans hi0
            have hi_233 : σ_229 w = some (.inl (T 0, 4, .inl (fun j => r (15 + 2 * j)))) := (hp_230.2.2.2 w nw1 nw2).trans hw0
            have hi_234 : σ_229 c = some (.inl (T 0, 4, .inl (fun j => r (16 + 2 * j)))) := (hp_230.2.2.2 c nc1 nc2).trans hc0
            exact wd_vret C hr hlocks h (by rw [show pf q.1 num r = q_231 from by unfold pf; rw [show pc r (ph q.1 num r) = (pc1 r (pc1 r (pc1 r (pc1 r (ph q.1 num r) 0) 1) 2) 3) from by simp [pc, c_69, c_104, c_139, c_174, c_209]]; unfold ph pc1; rw [hq_q_9, hq_q_16, hq_q_23, hq_q_30, hq_q_37, hq_q_44, hq_q_51, hq_q_58, hq_q_65, hq_q_86, hq_q_93, hq_q_100, hq_q_121, hq_q_128, hq_q_135, hq_q_156, hq_q_163, hq_q_170, hq_q_191, hq_q_198, hq_q_205, hq_q_231]]; exact hp_230) (Nat.le_of_ble_eq_true rfl) (Nat.le_of_ble_eq_true rfl) d_P_fill_162
