theorem gt_x {j n : Nat} (hn : n ≤ 120) (hj : j ≤ n) (c : nI n < nI (j + 1)) : j = n := by
  have := (nI_ltI (a := n) (b := j + 1) (by omega) (by omega)).mp c
  omega
theorem lt_x {j n : Nat} (hn : n ≤ 120) (hj : j ≤ n) (c : ¬ nI n < nI (j + 1)) : j < n := by
  rcases Nat.lt_or_ge j n with q | q
  · exact q
  · exact absurd (nI_lt (a := n) (b := j + 1) (by omega) (by omega)) c
theorem lf_step (a b : Int32) : a + -1 + (b + 1) = a + b := by
  rw [Int32.add_assoc, ← Int32.add_assoc (-1) b 1, Int32.add_comm (-1) b, Int32.add_assoc b (-1) 1, show (-1 : Int32) + 1 = 0 from rfl, Int32.add_zero]
theorem lf_ne {a b i : Int32} (h : a + b = i) (hn : ¬ a = 0) : ¬ b = i := fun z => hn (by
  have h1 : a + b - b = i - b := by rw [h]
  rw [Int32.add_sub_cancel, ← z, Int32.sub_self] at h1
  exact h1)
theorem lf_eq {a b i : Int32} (h : a + b = i) (hn : a = 0) : b = i := by rw [← h, hn, Int32.zero_add]
theorem asf_neg {R : Nat → Nat → Int32} {i : Int32} (hi : i < 0) : ∀ m k b, b + m < 1000 → asf R i m k b = -1
  | 0, _, _, _ => rfl
  | m + 1, k, b, h => by
    unfold asf
    rw [asf_neg hi m (k + 1) b (by omega), asf_neg hi m (k + 1) (b + 1) (by omega), if_neg (c := nI b = i) (fun z => by rw [← z] at hi; exact nI_pos (by omega) hi)]
    simp
theorem o_asd_eq {n : Nat} {R : Nat → Nat → Int32} {i : Int32} (hn : n ≤ 120) : o_asd n R i = asf R i n 0 0 := by
  unfold o_asd
  split
  · rename_i h; exact (asf_neg h n 0 0 (by omega)).symm
  · rfl
theorem q_in {x b : Int32} {n : Nat} (h : ¬ xw x 0 b = 0) (hb : b.toInt = n) (hn : n < 1000) : ∃ m, m ≤ n ∧ x = nI m := by
  obtain ⟨h1, h2⟩ := xw_out h
  obtain ⟨j, hj, rfl⟩ := nI_of h1
  rw [Int32.lt_iff_toInt_lt, nI_toInt hj] at h2
  exact ⟨j, by omega, rfl⟩
theorem xp_n {c : Nat → Int32} : ∀ j, j ≤ 4 → xp c (nI j) = c j := fun j hj => by
  rcases (show j = 0 ∨ j = 1 ∨ j = 2 ∨ j = 3 ∨ j = 4 by omega) with rfl | rfl | rfl | rfl | rfl <;> rfl
theorem xp_out {c : Nat → Int32} {wh : Int32} (h : xw wh 0 4 = 0) : xp c wh = -1 := by
  unfold xp
  rw [if_neg (fun z => by subst z; exact absurd h (by decide)), if_neg (fun z => by subst z; exact absurd h (by decide)), if_neg (fun z => by subst z; exact absurd h (by decide)), if_neg (fun z => by subst z; exact absurd h (by decide)), if_neg (fun z => by subst z; exact absurd h (by decide))]
theorem mu5 (k j : Nat) : (5 : Int32) * nI k + nI j = nI (5 * k + j) := by rw [show (5 : Int32) = nI 5 from rfl, pk_mul, nI_add]
theorem mu4 (k j : Nat) : (4 : Int32) * nI k + nI j = nI (4 * k + j) := by rw [show (4 : Int32) = nI 4 from rfl, pk_mul, nI_add]
def aw (R : Nat → Nat → Int32) (c : Int32) (j : Nat) : Int32 := if anyw R c j = true then 0 else 1
theorem aw_0 {R : Nat → Nat → Int32} {c : Int32} {j : Nat} (h : aw R c j = 0) : aw R c (j + 1) = 0 := by
  have : anyw R c j = true := by
    unfold aw at h
    by_cases z : anyw R c j = true
    · exact z
    · rw [if_neg z] at h; exact absurd h (by decide)
  unfold aw anyw
  rw [this]; rfl
theorem aw_1 {R : Nat → Nat → Int32} {c : Int32} {j : Nat} (h : ¬ aw R c j = 0) (h2 : ¬ (R j 10 = c ∧ ¬ R j 5 = 4 ∧ xe (R j 5) = 0)) : aw R c (j + 1) = 1 := by
  have : anyw R c j = false := by
    unfold aw at h
    by_cases z : anyw R c j = true
    · rw [if_pos z] at h; exact absurd rfl h
    · simpa using z
  unfold aw
  rw [anyw_f this h2]; rfl
theorem aw_2 {R : Nat → Nat → Int32} {c : Int32} {j : Nat} (h1 : R j 10 = c) (h2 : ¬ R j 5 = 4) (h3 : xe (R j 5) = 0) : aw R c (j + 1) = 0 := by
  unfold aw
  rw [anyw_t h1 h2 h3 (j + 1) (by omega)]; rfl
theorem aw_any {R : Nat → Nat → Int32} {c : Int32} {j : Nat} : (aw R c j = 0) = (anyw R c j = true) := by
  unfold aw
  by_cases z : anyw R c j = true
  · simp [z]
  · simp [z]
theorem xw_130 {x : Int32} (h0 : 0 ≤ x.toInt ∧ x.toInt ≤ 30) : xw x 1 30 = 0 ↔ x ≤ 0 := by
  unfold xw
  have e0 : (0 : Int32).toInt = 0 := rfl
  have e1 : (1 : Int32).toInt = 1 := rfl
  have e3 : (30 : Int32).toInt = 30 := rfl
  rw [if_neg (c := (30 : Int32) < x) (by rw [Int32.lt_iff_toInt_lt]; omega)]
  by_cases h : x < 1
  · rw [if_pos h]
    refine ⟨fun _ => ?_, fun _ => rfl⟩
    rw [Int32.lt_iff_toInt_lt] at h
    rw [Int32.le_iff_toInt_le]; omega
  · rw [if_neg h]
    refine ⟨fun z => absurd z (by decide), fun z => absurd ?_ h⟩
    rw [Int32.le_iff_toInt_le] at z
    rw [Int32.lt_iff_toInt_lt]; omega
theorem xb_a {r : Nat → Int32} {ev : Int32} (h0 : 0 ≤ (r 5).toInt) (h : yd (r 5) ev = -1) : xb r ev = -1 := by
  have hs : ¬ r 5 = -1 := fun z => by rw [z] at h0; exact absurd h0 (by decide)
  have n7 : ¬ ev = 7 := fun z => by subst z; exact hs (by simpa [yd] using h)
  have n8 : ¬ ev = 8 := fun z => by subst z; exact hs (by simpa [yd] using h)
  have n10 : ¬ ev = 10 := fun z => by subst z; exact absurd (show (9 : Int32) = -1 from h) (by decide)
  unfold xb
  by_cases h6 : r 6 = 0
  · rw [if_pos h6]
    unfold yd at h
    by_cases e0 : ev = 0
    · simpa [e0] using h
    by_cases e1 : ev = 1
    · subst e1
      simp at h ⊢
      by_cases a : r 5 = 7
      · simp [a] at h
      · by_cases b : r 5 = 1
        · simp [b] at h
        · by_cases d : r 5 = 3
          · simp [d] at h
          · simp [a, b, d]
    by_cases e2 : ev = 2
    · simpa [e2] using h
    by_cases e3 : ev = 3
    · simpa [e3] using h
    by_cases e4 : ev = 4
    · simpa [e4] using h
    by_cases e5 : ev = 5
    · simpa [e5] using h
    by_cases e6 : ev = 6
    · simpa [e6] using h
    by_cases e9 : ev = 9
    · simpa [e9] using h
    simp [e0, e1, e2, e3, e4, e5, e6, e9, n7, n8, n10]
  · rw [if_neg h6, if_neg n8, if_neg n10]
theorem xb_b {r : Nat → Int32} {ev : Int32} (h6 : ¬ r 6 = 0) (h8 : ¬ ev = 8) (h10 : ¬ ev = 10) : xb r ev = -1 := by
  unfold xb
  rw [if_neg h6, if_neg h8, if_neg h10]
theorem xb_c {r : Nat → Int32} {ev : Int32} (h6 : r 6 = 0) (h8 : ev = 8) : xb r ev = -1 := by
  subst h8
  simp [xb, h6]
theorem xb_d {r : Nat → Int32} {ev : Int32} (hv : ¬ xw ev 0 10 = 0) (h1 : r 6 = 0 ∨ ev = 8 ∨ ev = 10) (h2 : ¬ ev = 8 ∨ ¬ r 6 = 0) : xb r ev = yd (r 5) ev := by
  unfold xb
  by_cases h6 : r 6 = 0
  · rw [if_pos h6]
    have h8 : ¬ ev = 8 := by
      rcases h2 with h | h
      · exact h
      · exact absurd h6 h
    unfold yd
    obtain ⟨m, hm, rfl⟩ := q_in (n := 10) hv rfl (by decide)
    rcases (show m = 0 ∨ m = 1 ∨ m = 2 ∨ m = 3 ∨ m = 4 ∨ m = 5 ∨ m = 6 ∨ m = 7 ∨ m = 8 ∨ m = 9 ∨ m = 10 by omega) with rfl | rfl | rfl | rfl | rfl | rfl | rfl | rfl | rfl | rfl | rfl
    · rfl
    · show (if r 5 = 7 then (7 : Int32) else if r 5 = 1 then 2 else if r 5 = 3 then 2 else -1) = (if r 5 = 1 then 2 else if r 5 = 3 then 2 else if r 5 = 7 then 7 else -1)
      by_cases a : r 5 = 7
      · simp [a]
      · by_cases b : r 5 = 1
        · simp [b]
        · by_cases d : r 5 = 3
          · simp [d]
          · simp [a, b, d]
    · rfl
    · rfl
    · rfl
    · rfl
    · rfl
    · rfl
    · exact absurd rfl h8
    · rfl
    · rfl
  · rw [if_neg h6]
    rcases h1 with h | h | h
    · exact absurd h h6
    · subst h; rfl
    · subst h; rfl
theorem ev_rec {r : Nat → Int32} {ev to d : Int32} (h : (ev = 7 ∧ d = 1) ∨ (ev = 8 ∧ d = 0) ∨ (¬ ev = 7 ∧ ¬ ev = 8 ∧ d = r 6)) : upd (upd r 6 d) 5 to = xu r ev to := by
  unfold xu
  rcases h with ⟨h, rfl⟩ | ⟨h, rfl⟩ | ⟨h7, h8, rfl⟩
  · rw [if_pos h]; exact upd_comm (by decide)
  · rw [if_neg (fun z => by rw [z] at h; exact absurd h (by decide)), if_pos h]; exact upd_comm (by decide)
  · rw [if_neg h7, if_neg h8]
    congr 1
    funext j
    by_cases hj : j = 6
    · subst hj; rw [pk_us]
    · rw [pk_un hj]
section RM2
variable {T : Nat → ClassId} {σ : wd_S} {y n : Nat} {am : Nat → Nat} {fm : Nat → Nat → Int32} {R : Nat → Nat → Int32} {nc pl : Nat} {CR : Nat → Nat → Int32} {wg : Nat → Int32} {Q Q' : pq} {k j m : Nat} {g : Nat → Int32} {v : Int32}
theorem MB.wait (h : MB T σ y am fm n R nc CR wg Q) (v : Int32) : MB T (wd_up σ (am 16) (aM T 16 (upd (fm 16) m v))) y am (va_up fm 16 (upd (fm 16) m v)) n R nc CR (upd wg m v) Q := by
  obtain ⟨hc, m1, m2, m3, m4, m5, m6, m7, m8⟩ := h
  refine ⟨hc.set rfl _, fun k hk f hf => ?_, m2, m3, m4, m5, fun c hc => ?_, m7, m8⟩
  · rw [va_up_ne _ _ (mf_ok f hf).2.2.2.1]; exact m1 k hk f hf
  · rw [va_up_self]
    by_cases hcm : c = m
    · subst hcm; rw [pk_us, pk_us]
    · rw [pk_un hcm, pk_un hcm]; exact m6 c hc
end RM2
