/-! WHAT STAYS TRUE OF THE ITEMS -/
theorem okr_of {r r' : Nat → Int32} (h : okr r) (h0 : r' 0 = r 0) (h1 : r' 1 = r 1) (h2 : r' 2 = r 2) (h4 : r' 4 = r 4) (h5 : r' 5 = r 5) (h6 : r' 6 = r 6) (h9 : r' 9 = r 9) (h10 : r' 10 = r 10) (h11 : r' 11 = r 11) (h14 : r' 14 = r 14) : okr r' := by
  unfold okr
  rw [h0, h1, h2, h4, h5, h6, h9, h10, h11, h14]
  exact h
def inv (S : xS) : Prop := ∀ k, k < S.1 → okr (S.2.1 k)
theorem inv_up {S : xS} {k : Nat} {r : Nat → Int32} (h : inv S) (hr : okr r) (T2 : Nat × (Nat → Nat → Int32) × (Nat → Int32) × pq) : inv (S.1, va_up S.2.1 k r, T2) := fun j hj => by
  show okr (va_up S.2.1 k r j)
  by_cases hjk : j = k
  · subst hjk; rw [va_up_self]; exact hr
  · rw [va_up_ne _ _ hjk]; exact h j hj
theorem inv_upd {S : xS} {i : Int32} {f : (Nat → Int32) → Int32 × (Nat → Int32)} (h : inv S) (hn : S.1 ≤ 120) (hf : ∀ r, okr r → okr (f r).2) : inv (o_upd S i f).2 := by
  rcases hk : o_find S.1 i with _ | k
  · rw [o_upd_none hk]; exact h
  · rw [o_upd_some hk]; exact inv_up h (hf _ (h k (o_find_some hn hk).1)) _
theorem sv_dec : ∀ sv, sv < 64 → ∀ s, s < 6 → 0 ≤ (nI sv ||| (1 <<< (nI s &&& 31))).toInt ∧ (nI sv ||| (1 <<< (nI s &&& 31))).toInt ≤ 63 := by decide +kernel
theorem ok_srv (t : Int32) (r : Nat → Int32) (h : okr r) : okr (f_srv t r).2 := by
  unfold f_srv
  by_cases c1 : xw t 0 5 = 0
  · rw [if_pos c1]; exact h
  · rw [if_neg c1]
    by_cases c2 : xh (r 4) t = 0
    · rw [if_pos c2]
      by_cases c3 : xe (r 5) = 0
      · rw [if_pos c3]
        by_cases c4 : xl (r 4) t = -1
        · rw [if_pos c4]
          by_cases c5 : xk r t = 0
          · rw [if_pos c5]
            obtain ⟨a0, a1, a2, a4, a5, a6, a9, a10, a11, a14⟩ := h
            refine ⟨a0, a1, a2, ?_, a5, a6, a9, a10, a11, a14⟩
            show 0 ≤ (r 4 ||| (1 <<< (t &&& 31))).toInt ∧ (r 4 ||| (1 <<< (t &&& 31))).toInt ≤ 63
            obtain ⟨m, hm, e⟩ := sv_in a4
            obtain ⟨s, hs, rfl⟩ := q_in (n := 5) c1 rfl (by decide)
            rw [e]
            exact sv_dec m hm s (by omega)
          · rw [if_neg c5]; exact h
        · rw [if_neg c4]; exact h
      · rw [if_neg c3]; exact h
    · rw [if_neg c2]; exact h
def xin (z : Int32) : Prop := z = -1 ∨ (0 ≤ z.toInt ∧ z.toInt ≤ 9)
theorem xin_if {c : Prop} {d : Decidable c} {a b : Int32} (ha : xin a) (hb : xin b) : xin (@ite Int32 c d a b) := by
  by_cases h : c
  · rw [if_pos h]; exact ha
  · rw [if_neg h]; exact hb
theorem xin_n {n : Int32} (h : 0 ≤ n.toInt ∧ n.toInt ≤ 9) : xin n := Or.inr h
theorem xb_in {r : Nat → Int32} {ev : Int32} (h : 0 ≤ (r 5).toInt ∧ (r 5).toInt ≤ 9) : xb r ev = -1 ∨ (0 ≤ (xb r ev).toInt ∧ (xb r ev).toInt ≤ 9) := by
  show xin (xb r ev)
  unfold xb
  repeat' (first | apply xin_if | exact xin_n h | exact xin_n (by decide) | exact Or.inl rfl)
theorem ok_xu {r : Nat → Int32} {ev nx : Int32} (h : okr r) (hn : 0 ≤ nx.toInt ∧ nx.toInt ≤ 9) : okr (xu r ev nx) := by
  obtain ⟨a0, a1, a2, a4, a5, a6, a9, a10, a11, a14⟩ := h
  unfold xu
  split
  · exact ⟨a0, a1, a2, a4, hn, Or.inr rfl, a9, a10, a11, a14⟩
  · split
    · exact ⟨a0, a1, a2, a4, hn, Or.inl rfl, a9, a10, a11, a14⟩
    · exact ⟨a0, a1, a2, a4, hn, a6, a9, a10, a11, a14⟩
theorem ok_evt (mw : Int32 → Int32) (ev : Int32) (r : Nat → Int32) (h : okr r) : okr (f_evt mw ev r).2 := by
  unfold f_evt
  by_cases c1 : xw ev 0 10 = 0
  · rw [if_pos c1]; exact h
  · rw [if_neg c1]
    by_cases c2 : xe (r 5) = 0
    · rw [if_pos c2]
      by_cases c3 : xb r ev = -1
      · rw [if_pos c3]; exact h
      · rw [if_neg c3]
        by_cases c4 : ev = 2 ∧ ¬ r 9 = 0 ∧ r 14 = 0
        · rw [if_pos c4]; exact h
        · rw [if_neg c4]
          by_cases c5 : ev = 4 ∧ r 5 = 4 ∧ ¬ mw (r 10) = 0
          · rw [if_pos c5]; exact h
          · rw [if_neg c5]
            exact ok_xu h ((xb_in h.2.2.2.2.1).resolve_left c3)
    · rw [if_neg c2]; exact okr_of h rfl rfl rfl rfl rfl rfl rfl rfl rfl rfl
theorem ok_adr (wh en : Int32) (r : Nat → Int32) (h : okr r) : okr (f_adr wh en r).2 := by
  unfold f_adr
  repeat' split
  all_goals first | exact h | exact okr_of h rfl rfl rfl rfl rfl rfl rfl rfl rfl rfl
theorem xw_to {x a b : Int32} (h : ¬ xw x a b = 0) : a.toInt ≤ x.toInt ∧ x.toInt ≤ b.toInt := by
  obtain ⟨h1, h2⟩ := xw_out h
  rw [Int32.lt_iff_toInt_lt] at h1 h2
  omega
theorem ok_abr (la : Int32) (r : Nat → Int32) (h : okr r) : okr (f_abr la r).2 := by
  have h0 := h
  unfold f_abr
  by_cases c1 : xw la 1 30 = 0
  · rw [if_pos c1]; exact h
  · rw [if_neg c1]
    have hl := xw_to c1
    have e1 : (1 : Int32).toInt = 1 := rfl
    have e3 : (30 : Int32).toInt = 30 := rfl
    obtain ⟨a0, a1, a2, a4, a5, a6, a9, a10, a11, a14⟩ := h
    have hk : okr (upd r 9 la) := ⟨a0, a1, a2, a4, a5, a6, show 0 ≤ la.toInt ∧ la.toInt ≤ 30 from by omega, a10, a11, a14⟩
    repeat' split
    all_goals first | exact hk | exact h0
theorem ok_con (wh ce : Int32) (r : Nat → Int32) (h : okr r) : okr (f_con wh ce r).2 := by
  unfold f_con
  by_cases c1 : r 14 < 4
  · rw [if_pos c1]
    have hk : okr (upd (upd (upd r (15 + 2 * (r 14).toNatClampNeg) wh) (16 + 2 * (r 14).toNatClampNeg) ce) 14 (r 14 + 1)) := by
      obtain ⟨a0, a1, a2, a4, a5, a6, a9, a10, a11, a14⟩ := h
      unfold okr
      rw [con_lo (show 0 < 14 by decide), con_lo (show 1 < 14 by decide), con_lo (show 2 < 14 by decide), con_lo (show 4 < 14 by decide), con_lo (show 5 < 14 by decide), con_lo (show 6 < 14 by decide), con_lo (show 9 < 14 by decide), con_lo (show 10 < 14 by decide), con_lo (show 11 < 14 by decide), pk_us]
      refine ⟨a0, a1, a2, a4, a5, a6, a9, a10, a11, ?_⟩
      obtain ⟨m, hm, e⟩ := mm_in a14
      rw [e] at c1 ⊢
      have := (nI_ltI (a := m) (b := 4) (by omega) (by decide)).mp c1
      rw [nI_1, nI_toInt (by omega)]
      omega
    repeat' split
    all_goals first | exact hk | exact h
  · rw [if_neg c1]
    repeat' split
    all_goals exact h
theorem ok_opn (a b : Int32) (r : Nat → Int32) (h : okr r) : okr (f_opn a b r).2 := by
  have h0 := h
  obtain ⟨a0, a1, a2, a4, a5, a6, a9, a10, a11, a14⟩ := h
  have hk : okr (upd (upd (upd r 5 1) 8 (-1)) 13 (100 * a + b)) := ⟨a0, a1, a2, a4, show 0 ≤ (1 : Int32).toInt ∧ (1 : Int32).toInt ≤ 9 from by decide, a6, a9, a10, a11, a14⟩
  unfold f_opn
  repeat' split
  all_goals first | exact hk | exact h0
theorem ok_abt (wh : Int32) (r : Nat → Int32) (h : okr r) : okr (f_abt wh r).2 := by
  unfold f_abt
  split <;> exact h
theorem xt_in {k w z : Int32} : 0 ≤ (xt k w z).toInt ∧ (xt k w z).toInt ≤ 3 := by
  unfold xt
  repeat' split
  all_goals decide
theorem le_to {x b : Int32} (h : x ≤ b) : x.toInt ≤ b.toInt := Int32.le_iff_toInt_le.mp h
theorem inv_item {S : xS} {kd w z sd : Int32} (h : inv S) : inv (o_item S kd w z sd).2 := by
  unfold o_item
  by_cases c1 : xw kd 0 3 = 0
  · rw [if_pos c1]; exact h
  rw [if_neg c1]
  by_cases c2 : xw w 1 100000 = 0
  · rw [if_pos c2]; exact h
  rw [if_neg c2]
  by_cases c3 : xw z 0 9 = 0
  · rw [if_pos c3]; exact h
  rw [if_neg c3]
  by_cases c4 : xw sd 0 99 = 0
  · rw [if_pos c4]; exact h
  rw [if_neg c4]
  by_cases c5 : nI S.1 < 120
  · rw [if_pos c5]
    by_cases c6 : w ≤ 31500
    · rw [if_pos c6]
      by_cases c7 : z ≤ 3
      · rw [if_pos c7]
        intro k hk
        show okr (va_up S.2.1 S.1 (newr (xt kd w z) w z sd) k)
        by_cases hkn : k = S.1
        · rw [hkn, va_up_self]
          have hw := xw_to c2
          have hz := xw_to c3
          have e1 : (1 : Int32).toInt = 1 := rfl
          have e0 : (0 : Int32).toInt = 0 := rfl
          have e3 : (3 : Int32).toInt = 3 := rfl
          have ew : (31500 : Int32).toInt = 31500 := rfl
          have l1 := le_to c6
          have l2 := le_to c7
          exact ⟨xt_in, show 1 ≤ w.toInt ∧ w.toInt ≤ 31500 from by omega, show 0 ≤ z.toInt ∧ z.toInt ≤ 3 from by omega, show 0 ≤ (0 : Int32).toInt ∧ (0 : Int32).toInt ≤ 63 from by decide, show 0 ≤ (0 : Int32).toInt ∧ (0 : Int32).toInt ≤ 9 from by decide, Or.inl rfl, show 0 ≤ (0 : Int32).toInt ∧ (0 : Int32).toInt ≤ 30 from by decide, show 0 ≤ (0 : Int32).toInt ∧ (0 : Int32).toInt ≤ 30 from by decide, show 0 ≤ (0 : Int32).toInt ∧ (0 : Int32).toInt ≤ 20 from by decide, show 0 ≤ (0 : Int32).toInt ∧ (0 : Int32).toInt ≤ 4 from by decide⟩
        · rw [va_up_ne _ _ hkn]; exact h k (by have hk : k < S.1 + 1 := hk; omega)
      · rw [if_neg c7]; exact h
    · rw [if_neg c6]; exact h
  · rw [if_neg c5]; exact h
theorem inv_join {S : xS} {i c wt : Int32} (h : inv S) (hn : S.1 ≤ 120) : inv (o_join S i c wt).2 := by
  unfold o_join
  rcases hk : o_find S.1 i with _ | k
  · exact h
  · show inv (if xw c 1 30 = 0 then (-102, S) else _).2
    by_cases c1 : xw c 1 30 = 0
    · rw [if_pos c1]; exact h
    rw [if_neg c1]
    by_cases c2 : S.2.1 k 10 = 0
    · rw [if_pos c2]
      by_cases c3 : xe (S.2.1 k 5) = 0
      · rw [if_pos c3]
        refine inv_up h ?_ _
        obtain ⟨a0, a1, a2, a4, a5, a6, a9, a10, a11, a14⟩ := h k (o_find_some hn hk).1
        have hl := xw_to c1
        have e1 : (1 : Int32).toInt = 1 := rfl
        have e3 : (30 : Int32).toInt = 30 := rfl
        exact ⟨a0, a1, a2, a4, a5, a6, a9, show 0 ≤ c.toInt ∧ c.toInt ≤ 30 from by omega, a11, a14⟩
      · rw [if_neg c3]; exact h
    · rw [if_neg c2]; exact h
theorem inv_bulk {S : xS} {i c : Int32} (h : inv S) (hn : S.1 ≤ 120) : inv (o_bulk S i c).2 := by
  unfold o_bulk
  rcases hk : o_find S.1 i with _ | k
  · exact h
  · show inv (if xw c 1 20 = 0 then (-102, S) else _).2
    by_cases c1 : xw c 1 20 = 0
    · rw [if_pos c1]; exact h
    rw [if_neg c1]
    by_cases c2 : S.2.1 k 11 = 0
    · rw [if_pos c2]
      refine inv_up h ?_ _
      obtain ⟨a0, a1, a2, a4, a5, a6, a9, a10, a11, a14⟩ := h k (o_find_some hn hk).1
      have hl := xw_to c1
      have e1 : (1 : Int32).toInt = 1 := rfl
      have e3 : (20 : Int32).toInt = 20 := rfl
      exact ⟨a0, a1, a2, a4, a5, a6, a9, a10, show 0 ≤ c.toInt ∧ c.toInt ≤ 20 from by omega, a14⟩
    · rw [if_neg c2]; exact h
theorem ok_xm {r : Nat → Int32} {wh v : Int32} (h : okr r) (hy : ¬ xy wh v = 0) (h1 : ¬ (wh = 1 ∧ ¬ v ≤ 31500)) (h2 : ¬ (wh = 2 ∧ ¬ v ≤ 3)) : okr (xm r wh v) := by
  obtain ⟨a0, a1, a2, a4, a5, a6, a9, a10, a11, a14⟩ := h
  have e1 : (1 : Int32).toInt = 1 := rfl
  have e0 : (0 : Int32).toInt = 0 := rfl
  have e3 : (3 : Int32).toInt = 3 := rfl
  have ew : (31500 : Int32).toInt = 31500 := rfl
  have h1' : 1 ≤ (xm0 r wh v 1).toInt ∧ (xm0 r wh v 1).toInt ≤ 31500 := by
    by_cases c : wh = 1
    · subst c
      have hv : v ≤ 31500 := by
        rcases Classical.em (v ≤ 31500) with u | u
        · exact u
        · exact absurd ⟨rfl, u⟩ h1
      have := xw_to (show ¬ xw v 1 100000 = 0 from hy)
      have := le_to hv
      show 1 ≤ v.toInt ∧ v.toInt ≤ 31500
      omega
    · have : xm0 r wh v 1 = r 1 := by
        unfold xm0
        rw [if_neg c]
        repeat' split
        all_goals first | rfl | exact pk_un (by decide)
      rw [this]; exact a1
  have h2' : 0 ≤ (xm0 r wh v 2).toInt ∧ (xm0 r wh v 2).toInt ≤ 3 := by
    by_cases c : wh = 2
    · subst c
      have hv : v ≤ 3 := by
        rcases Classical.em (v ≤ 3) with u | u
        · exact u
        · exact absurd ⟨rfl, u⟩ h2
      have := xw_to (show ¬ xw v 0 9 = 0 from hy)
      have := le_to hv
      show 0 ≤ v.toInt ∧ v.toInt ≤ 3
      omega
    · have : xm0 r wh v 2 = r 2 := by
        unfold xm0
        rw [if_neg c]
        repeat' split
        all_goals first | rfl | exact pk_un (by decide)
      rw [this]; exact a2
  have hz : ∀ j, j ≠ 0 → j ≠ 1 → j ≠ 2 → j ≠ 7 → j ≠ 8 → xm r wh v j = r j := fun j u0 u1 u2 u7 u8 => by
    unfold xm
    rw [pk_un u0]
    exact xm0_o u0 u1 u2 u7 u8
  unfold okr
  rw [hz 4 (by decide) (by decide) (by decide) (by decide) (by decide), hz 5 (by decide) (by decide) (by decide) (by decide) (by decide), hz 6 (by decide) (by decide) (by decide) (by decide) (by decide), hz 9 (by decide) (by decide) (by decide) (by decide) (by decide), hz 10 (by decide) (by decide) (by decide) (by decide) (by decide), hz 11 (by decide) (by decide) (by decide) (by decide) (by decide), hz 14 (by decide) (by decide) (by decide) (by decide) (by decide)]
  exact ⟨xt_in, h1', h2', a4, a5, a6, a9, a10, a11, a14⟩
theorem inv_corr {S : xS} {i wh v re : Int32} (h : inv S) (hn : S.1 ≤ 120) : inv (o_corr S i wh v re).2 := by
  unfold o_corr
  rcases hk : o_find S.1 i with _ | k
  · exact h
  · show inv (if xy wh v = 0 then (-102, S) else _).2
    by_cases c1 : xy wh v = 0
    · rw [if_pos c1]; exact h
    rw [if_neg c1]
    by_cases c2 : xw re 1 9 = 0
    · rw [if_pos c2]; exact h
    rw [if_neg c2]
    by_cases c3 : xs (S.2.1 k) wh v = 0
    · rw [if_pos c3]
      by_cases c4 : nI S.2.2.1 < 200
      · rw [if_pos c4]
        by_cases c5 : wh = 1 ∧ ¬ v ≤ 31500
        · rw [if_pos c5]; exact h
        rw [if_neg c5]
        by_cases c6 : wh = 2 ∧ ¬ v ≤ 3
        · rw [if_pos c6]; exact h
        rw [if_neg c6]
        exact inv_up h (ok_xm (h k (o_find_some hn hk).1) c1 c5 c6) _
      · rw [if_neg c4]; exact h
    · rw [if_neg c3]; exact h
theorem inv_pack {S : xS} {i : Int32} (h : inv S) : inv (o_pack S i).2 := by
  unfold o_pack
  rcases hk : o_find S.1 i with _ | k
  · exact h
  · exact h
