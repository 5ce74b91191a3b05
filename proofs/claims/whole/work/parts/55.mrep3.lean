section RM3
variable {T : Nat → ClassId} {σ : wd_S} {y n : Nat} {am : Nat → Nat} {fm : Nat → Nat → Int32} {R : Nat → Nat → Int32} {nc pl : Nat} {CR : Nat → Nat → Int32} {wg : Nat → Int32} {Q Q' : pq} {k j m : Nat} {g : Nat → Int32} {v wh ce : Int32}
theorem MB.cont (h : MB T σ y am fm n R nc CR wg Q) (hk : k < n) (hm : m < 4) (wh ce v : Int32) : MB T (wd_up (wd_up (wd_up σ (am 13) (aM T 13 (upd (fm 13) (4 * (k + 1) + m) wh))) (am 14) (aM T 14 (upd (fm 14) (4 * (k + 1) + m) ce))) (am 12) (aM T 12 (upd (fm 12) (k + 1) v))) y am (va_up (va_up (va_up fm 13 (upd (fm 13) (4 * (k + 1) + m) wh)) 14 (upd (fm 14) (4 * (k + 1) + m) ce)) 12 (upd (fm 12) (k + 1) v)) n (va_up R k (upd (upd (upd (R k) (15 + 2 * m) wh) (16 + 2 * m) ce) 14 v)) nc CR wg Q := by
  obtain ⟨hc, m1, m2, m3, m4, m5, m6, m7, m8⟩ := h
  refine ⟨((hc.set (j := 13) rfl _).set (j := 14) rfl _).set (j := 12) rfl _, fun k' hk' f hf => ?_, fun k' h1 h2 => ?_, fun k' hk' j hj => ?_, fun k' h1 h2 j hj => ?_, m5, m6, m7, m8⟩
  · obtain ⟨-, o2, o3, -⟩ := mf_ok f hf
    by_cases hf14 : f = 14
    · subst hf14
      show upd (fm 12) (k + 1) v (k' + 1) = _
      by_cases hkk : k' = k
      · subst hkk; rw [va_up_self, pk_us, pk_us]
      · rw [va_up_ne _ _ hkk, pk_un (by omega)]; exact m1 k' hk' 14 hf
    · rw [va_up_ne _ _ (show mf f ≠ 12 from fun z => hf14 (mf_inj f hf 14 (by decide) z)), va_up_ne _ _ o3, va_up_ne _ _ o2]
      by_cases hkk : k' = k
      · subst hkk; rw [va_up_self, con_lo (by omega)]; exact m1 k' hk' f hf
      · rw [va_up_ne _ _ hkk]; exact m1 k' hk' f hf
  · obtain ⟨q1, q2, q3, q4, q5, q6, q7, q8⟩ := m2 k' h1 h2
    exact ⟨q1, q2, q3, q4, q5, (pk_un (by omega)).trans q6, q7, q8⟩
  · obtain ⟨q1, q2⟩ := m3 k' hk' j hj
    show upd (fm 13) (4 * (k + 1) + m) wh (4 * (k' + 1) + j) = _ ∧ upd (fm 14) (4 * (k + 1) + m) ce (4 * (k' + 1) + j) = _
    by_cases hkk : k' = k
    · subst hkk
      rw [va_up_self, ← con_w, ← con_c]
      by_cases hjm : j = m
      · subst hjm; rw [pk_us, pk_us, pk_us, pk_us]; exact ⟨rfl, rfl⟩
      · refine ⟨?_, ?_⟩
        · rw [pk_un (show 4 * (k' + 1) + j ≠ 4 * (k' + 1) + m by omega), pk_un hjm]; exact q1
        · rw [pk_un (show 4 * (k' + 1) + j ≠ 4 * (k' + 1) + m by omega), pk_un hjm]; exact q2
    · rw [va_up_ne _ _ hkk, pk_un (by omega), pk_un (by omega)]; exact ⟨q1, q2⟩
  · obtain ⟨q1, q2⟩ := m4 k' h1 h2 j hj
    exact ⟨(pk_un (by omega)).trans q1, (pk_un (by omega)).trans q2⟩
theorem MC.cnt {n' nc' pl' : Nat} (h : MC T σ y am fm n nc pl) : MC T (wd_up σ y (.inr (4, MFs am n' nc' pl'))) y am fm n' nc' pl' := ⟨wd_us _ _ _, fun j hj => wd_uk (h.2.1 j hj) (wd_ne (h.2.1 j hj) h.1 (by simp)), h.2.2⟩
theorem MR.add {kd w z sd : Int32} (h : MR fm n R nc CR wg Q) (hn : n < 120) : MR (va_up (va_up (va_up (va_up (va_up (va_up (va_up fm 1 (upd (fm 1) (n + 1) kd)) 2 (upd (fm 2) (n + 1) w)) 3 (upd (fm 3) (n + 1) z)) 4 (upd (fm 4) (n + 1) sd)) 9 (upd (fm 9) (n + 1) (-1))) 10 (upd (fm 10) (n + 1) (-1))) 18 (upd (fm 18) (n + 1) (-1))) (n + 1) (va_up R n (newr kd w z sd)) nc CR wg Q := by
  obtain ⟨m1, m2, m3, m4, m5, m6, m7, m8⟩ := h
  obtain ⟨q1, q2, q3, q4, q5, q6, q7, q8⟩ := m2 n (Nat.le_refl n) hn
  refine ⟨fun k hk f hf => ?_, fun k h1 h2 => ?_, fun k hk j hj => ?_, fun k h1 h2 => m4 k (by omega) h2, m5, m6, m7, by omega, m8.2⟩
  · by_cases hkn : k = n
    · subst hkn
      rw [va_up_self]
      rcases (show f = 0 ∨ f = 1 ∨ f = 2 ∨ f = 3 ∨ f = 4 ∨ f = 5 ∨ f = 6 ∨ f = 7 ∨ f = 8 ∨ f = 9 ∨ f = 10 ∨ f = 11 ∨ f = 12 ∨ f = 13 ∨ f = 14 by omega) with rfl | rfl | rfl | rfl | rfl | rfl | rfl | rfl | rfl | rfl | rfl | rfl | rfl | rfl | rfl
      · exact pk_us (f := fm 1)
      · exact pk_us (f := fm 2)
      · exact pk_us (f := fm 3)
      · exact pk_us (f := fm 4)
      · exact q1
      · exact q2
      · exact q3
      · exact pk_us (f := fm 9)
      · exact pk_us (f := fm 10)
      · exact q5
      · exact q7
      · exact q8
      · exact q4
      · exact pk_us (f := fm 18)
      · exact q6
    · rw [va_up_ne _ _ hkn]
      have hz := m1 k (by omega) f hf
      have hu : ∀ (j : Nat) (v : Int32), upd (fm j) (n + 1) v (k + 1) = fm j (k + 1) := fun j v => pk_un (by omega)
      rcases (show f = 0 ∨ f = 1 ∨ f = 2 ∨ f = 3 ∨ f = 4 ∨ f = 5 ∨ f = 6 ∨ f = 7 ∨ f = 8 ∨ f = 9 ∨ f = 10 ∨ f = 11 ∨ f = 12 ∨ f = 13 ∨ f = 14 by omega) with rfl | rfl | rfl | rfl | rfl | rfl | rfl | rfl | rfl | rfl | rfl | rfl | rfl | rfl | rfl
      · exact (hu 1 _).trans hz
      · exact (hu 2 _).trans hz
      · exact (hu 3 _).trans hz
      · exact (hu 4 _).trans hz
      · exact hz
      · exact hz
      · exact hz
      · exact (hu 9 _).trans hz
      · exact (hu 10 _).trans hz
      · exact hz
      · exact hz
      · exact hz
      · exact hz
      · exact (hu 18 _).trans hz
      · exact hz
  · exact m2 k (by omega) h2
  · by_cases hkn : k = n
    · subst hkn
      rw [va_up_self, newr_hi (by omega), newr_hi (by omega)]
      exact m4 k (Nat.le_refl k) hn j hj
    · rw [va_up_ne _ _ hkn]
      exact m3 k (by omega) j hj
end RM3
def yl (sv t : Int32) : Nat → Nat → Int32
  | 0, _ => -1
  | m + 1, o => if xh sv (nI o) = 0 then yl sv t m (o + 1) else if ye t (nI o) = 0 then yl sv t m (o + 1) else nI o
def yc (sv : Int32) : Nat → Int32
  | 0 => 0
  | j + 1 => yc sv j + (if xh sv (nI j) = 0 then 0 else 1)
theorem yl_dec : ∀ sv, sv < 64 → ∀ s, s < 6 → yl (nI sv) (nI s) 6 0 = xl (nI sv) (nI s) := by decide +kernel
theorem yc_dec : ∀ sv, sv < 64 → ∀ s, s < 6 → yc (nI sv ||| (1 <<< (nI s &&& 31))) 6 = bc (nI sv ||| (1 <<< (nI s &&& 31))) := by decide +kernel
theorem sv_in {x : Int32} (h : 0 ≤ x.toInt ∧ x.toInt ≤ 63) : ∃ m, m < 64 ∧ x = nI m := by
  obtain ⟨j, hj, rfl⟩ := nI_of (x := x) (by rw [Int32.lt_iff_toInt_lt]; have e : (0 : Int32).toInt = 0 := rfl; omega)
  rw [nI_toInt hj] at h
  exact ⟨j, by omega, rfl⟩
theorem yl_xl {sv t : Int32} (h : 0 ≤ sv.toInt ∧ sv.toInt ≤ 63) (ht : ¬ xw t 0 5 = 0) : yl sv t 6 0 = xl sv t := by
  obtain ⟨m, hm, rfl⟩ := sv_in h
  obtain ⟨s, hs, rfl⟩ := q_in (n := 5) ht rfl (by decide)
  exact yl_dec m hm s (by omega)
theorem yc_bc {sv t : Int32} (h : 0 ≤ sv.toInt ∧ sv.toInt ≤ 63) (ht : ¬ xw t 0 5 = 0) : yc (sv ||| (1 <<< (t &&& 31))) 6 = bc (sv ||| (1 <<< (t &&& 31))) := by
  obtain ⟨m, hm, rfl⟩ := sv_in h
  obtain ⟨s, hs, rfl⟩ := q_in (n := 5) ht rfl (by decide)
  exact yc_dec m hm s (by omega)
theorem m14 {x : Int32} {k : Nat} (h : 0 ≤ x.toInt ∧ x.toInt ≤ 4) (hk : k < 120) (h4 : ¬ x = 4) : x < 4 ∧ x.toNatClampNeg < 4 ∧ (4 : Int32) * nI (k + 1) + x = nI (4 * (k + 1) + x.toNatClampNeg) := by
  have h5 := sw_ne h4 (show (4 : Int32).toInt = 4 from rfl)
  obtain ⟨j, hj, rfl⟩ := nI_of (x := x) (by rw [Int32.lt_iff_toInt_lt]; have e : (0 : Int32).toInt = 0 := rfl; omega)
  rw [nI_toInt hj] at h h5
  rw [nI_clamp hj, mu4]
  exact ⟨nI_lt (a := j) (b := 4) (by omega) (by decide), by omega, rfl⟩
