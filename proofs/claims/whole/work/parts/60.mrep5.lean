def qa (q : pq) (v : Int32) : pq := (upd q.1 q.2 (v &&& 255), q.2 + 1)
/-- the reference's packed bytes q; all else is as in σ0 -/
def mz (T : Nat → ClassId) (σ0 σ : wd_S) (y : Nat) (am : Nat → Nat) (n nc : Nat) (q : pq) : Prop := σ y = some (.inr (4, MFs am n nc q.2)) ∧ σ (am 22) = some (.inl (T 0, 40, .inl q.1)) ∧ ∀ b, b ≠ y → b ≠ am 22 → σ b = σ0 b
theorem pa_qa {q : pq} (h : q.2 < 30) (v : Int32) : pa q v = qa q v := by
  unfold pa
  rw [if_neg (show ¬ (30 : Int32) ≤ nI q.2 from nI_ge (a := q.2) (b := 30) h (by decide))]
  rfl
theorem pa_len {q : pq} (h : q.2 < 30) (v : Int32) : (pa q v).2 = q.2 + 1 := by rw [pa_qa h]; rfl
theorem p2_len {q : pq} (h : q.2 < 29) (v : Int32) : (p2 q v).2 = q.2 + 2 := by
  unfold p2
  rw [pa_len (by rw [pa_len (by omega)]; omega), pa_len (by omega)]
theorem pe_len {q : pq} (h : q.2 < 29) (v : Int32) : (pe q v).2 = q.2 + 2 := by unfold pe; exact p2_len h _
theorem q_1 {q : pq} (h : q.2 < 30) (v : Int32) : qa q (v >>> ((8 * 0) &&& 31)) = pa q v := by
  rw [pa_qa h, show (8 * 0 : Int32) = 0 from rfl, sb_shr0]
theorem q_2 {q : pq} (h : q.2 < 29) (v : Int32) : qa (qa q (v >>> ((8 * 1) &&& 31))) (v >>> ((8 * 0) &&& 31)) = p2 q v := by
  rw [q_1 (show (qa q _).2 < 30 from by show q.2 + 1 < 30; omega)]
  unfold p2
  rw [pa_qa (q := q) (by omega)]
  rfl
theorem q_e {q : pq} (h : q.2 < 29) (v : Int32) : qa (qa q (v >>> ((8 * 1) &&& 31))) (v >>> ((8 * 0) &&& 31)) = pe q v := by
  unfold pe
  by_cases hv : v = -1
  · subst hv
    rw [if_pos rfl]
    unfold p2
    rw [pa_qa (q := q) (by omega), pa_qa (show (qa q _).2 < 30 from by show q.2 + 1 < 30; omega)]
    unfold qa
    rw [show ((-1 : Int32) >>> (((8 : Int32) * (1 : Int32)) &&& (31 : Int32))) &&& (255 : Int32) = ((65535 : Int32) >>> ((8 : Int32) &&& (31 : Int32))) &&& (255 : Int32) from by decide, show ((-1 : Int32) >>> (((8 : Int32) * (0 : Int32)) &&& (31 : Int32))) &&& (255 : Int32) = (65535 : Int32) &&& (255 : Int32) from by decide]
  · rw [if_neg hv]; exact q_2 h v
theorem q_3 {r : Nat → Int32} {q : pq} {j : Nat} (h : q.2 < 27) : qa (qa (qa (pa q (r (15 + 2 * j))) (r (16 + 2 * j) >>> ((8 * 2) &&& 31))) (r (16 + 2 * j) >>> ((8 * 1) &&& 31))) (r (16 + 2 * j) >>> ((8 * 0) &&& 31)) = pc1 r q j := by
  have h1 : (pa q (r (15 + 2 * j))).2 = q.2 + 1 := pa_len (by omega) _
  rw [q_2 (show (qa (pa q (r (15 + 2 * j))) _).2 < 29 from by show (pa q (r (15 + 2 * j))).2 + 1 < 29; omega)]
  unfold pc1
  rw [pa_qa (q := pa q (r (15 + 2 * j))) (by omega)]
  rfl
theorem pc1_len {r : Nat → Int32} {q : pq} {j : Nat} (h : q.2 < 27) : (pc1 r q j).2 = q.2 + 4 := by rw [← q_3 h]; show (pa q _).2 + 1 + 1 + 1 = q.2 + 4; rw [pa_len (by omega)]
def msq (r : Nat → Int32) (q : pq) : Nat → pq
  | 0 => q
  | j + 1 => pc1 r (msq r q j) j
theorem msq_len {r : Nat → Int32} {q : pq} (h : q.2 = 13) : ∀ j, j ≤ 4 → (msq r q j).2 = 13 + 4 * j
  | 0, _ => h
  | j + 1, hj => by
    have := msq_len (r := r) h j (by omega)
    show (pc1 r (msq r q j) j).2 = _
    rw [pc1_len (by omega), this]
    omega
theorem pc_msq {r : Nat → Int32} {q : pq} {m : Nat} (hm : m ≤ 4) (e : r 14 = nI m) : pc r q = msq r q m := by
  unfold pc
  rw [e]
  rcases (show m = 0 ∨ m = 1 ∨ m = 2 ∨ m = 3 ∨ m = 4 by omega) with rfl | rfl | rfl | rfl | rfl
  · rw [if_pos (by decide)]; rfl
  · rw [if_neg (by decide), if_pos (by decide)]; rfl
  · rw [if_neg (by decide), if_neg (by decide), if_pos (by decide)]; rfl
  · rw [if_neg (by decide), if_neg (by decide), if_neg (by decide), if_pos (by decide)]; rfl
  · rw [if_neg (by decide), if_neg (by decide), if_neg (by decide), if_neg (by decide)]; rfl
theorem st_128 {a b : Int32} : a + (if b = 0 then 0 else 128) = (if b = 0 then a else a + 128) := by
  by_cases h : b = 0
  · rw [if_pos h, if_pos h, Int32.add_zero]
  · rw [if_neg h, if_neg h]
theorem mm_in {x : Int32} (h : 0 ≤ x.toInt ∧ x.toInt ≤ 4) : ∃ m, m ≤ 4 ∧ x = nI m := by
  obtain ⟨j, hj, rfl⟩ := nI_of (x := x) (by rw [Int32.lt_iff_toInt_lt]; have e : (0 : Int32).toInt = 0 := rfl; omega)
  rw [nI_toInt hj] at h
  exact ⟨j, by omega, rfl⟩
theorem mu40 (k : Nat) : (4 : Int32) * nI k = nI (4 * k + 0) := by rw [show (4 : Int32) = nI 4 from rfl, pk_mul]; rfl
theorem MB.pack {T : Nat → ClassId} {σ σ' : wd_S} {y n : Nat} {am : Nat → Nat} {fm : Nat → Nat → Int32} {R : Nat → Nat → Int32} {nc : Nat} {CR : Nat → Nat → Int32} {wg : Nat → Int32} {Q Q' q : pq} (h : MB T σ y am fm n R nc CR wg Q) (hz : mz T σ σ' y am n nc q) (ha : agr q Q') (h30 : Q'.2 ≤ 30) : MB T σ' y am (va_up fm 22 q.1) n R nc CR wg Q' := by
  obtain ⟨⟨c1, c2, c3⟩, m1, m2, m3, m4, m5, m6, m7, m8, m9, m10⟩ := h
  refine ⟨⟨by rw [← ha.1]; exact hz.1, fun j hj => ?_, c3⟩, fun k hk f hf => ?_, m2, m3, m4, m5, m6, fun j hj => ?_, m8, m9, h30⟩
  · by_cases h22 : j = 22
    · subst h22; rw [va_up_self]; exact hz.2.1
    · rw [va_up_ne _ _ h22]
      exact (hz.2.2 (am j) (wd_ne (c2 j hj) c1 (by simp)) (fun z => h22 (c3 j 22 hj rfl z))).trans (c2 j hj)
  · rw [va_up_ne _ _ (mf_ok f hf).2.2.2.2.2.1]; exact m1 k hk f hf
  · rw [va_up_self]; exact ha.2 j (by rw [ha.1]; exact hj)
theorem pf_30 {f : Nat → Int32} {num : Int32} {r : Nat → Int32} : (pf f num r).2 ≤ 30 := by
  have h : ∀ (q : pq) (v : Int32), q.2 ≤ 30 → (pa q v).2 ≤ 30 := fun q v hq => by
    unfold pa
    by_cases hc : (30 : Int32) ≤ nI q.2
    · rw [if_pos hc]; exact hq
    · rw [if_neg hc]; exact pz_lt hq hc
  have h2 : ∀ (q : pq) (v : Int32), q.2 ≤ 30 → (p2 q v).2 ≤ 30 := fun q v hq => h _ _ (h _ _ hq)
  have h1 : ∀ (q : pq) (j : Nat), q.2 ≤ 30 → (pc1 r q j).2 ≤ 30 := fun q j hq => h2 _ _ (h _ _ (h _ _ hq))
  unfold pf
  apply h
  unfold pc
  have h0 : (ph f num r).2 ≤ 30 := by
    unfold ph
    apply h
    apply h
    unfold pe
    apply h2
    apply h2
    apply h
    apply h
    apply h2
    apply h
    apply h2
    exact Nat.zero_le _
  split
  · exact h0
  · split
    · exact h1 _ _ h0
    · split
      · exact h1 _ _ (h1 _ _ h0)
      · split
        · exact h1 _ _ (h1 _ _ (h1 _ _ h0))
        · exact h1 _ _ (h1 _ _ (h1 _ _ (h1 _ _ h0)))
