section RM4
variable {T : Nat → ClassId} {σ : wd_S} {y n : Nat} {am : Nat → Nat} {fm : Nat → Nat → Int32} {R : Nat → Nat → Int32} {nc pl : Nat} {CR : Nat → Nat → Int32} {wg : Nat → Int32} {Q Q' : pq} {k j m : Nat} {g c r : Nat → Int32} {v wh ce : Int32}
theorem MR.row (h : MR fm n R nc CR wg Q) (h1 : ∀ k, k < nc → ∀ j, j < 5 → g (5 * k + j) = fm 20 (5 * k + j)) : MR (va_up fm 20 g) n R nc CR wg Q := by
  obtain ⟨m1, m2, m3, m4, m5, m6, m7, m8⟩ := h
  exact ⟨fun k hk f hf => by rw [va_up_ne _ _ (mf_ok f hf).2.2.2.2.1]; exact m1 k hk f hf, m2, m3, m4, fun k hk j hj => by rw [va_up_self, h1 k hk j hj]; exact m5 k hk j hj, m6, m7, m8⟩
theorem MB.row (h : MB T σ y am fm n R nc CR wg Q) (h1 : ∀ k, k < nc → ∀ j, j < 5 → g (5 * k + j) = fm 20 (5 * k + j)) : MB T (wd_up σ (am 20) (aM T 20 g)) y am (va_up fm 20 g) n R nc CR wg Q := ⟨h.1.set (j := 20) rfl g, h.2.row h1⟩
theorem MR.rows (h : MR fm n R nc CR wg Q) (hn : nc < 200) (h2 : ∀ j, j < 5 → fm 20 (5 * nc + j) = c j) : MR fm n R (nc + 1) (va_up CR nc c) wg Q := by
  obtain ⟨m1, m2, m3, m4, m5, m6, m7, m8, m9, m10⟩ := h
  refine ⟨m1, m2, m3, m4, fun k hk j hj => ?_, m6, m7, m8, by omega, m10⟩
  by_cases hkn : k = nc
  · subst hkn; rw [va_up_self]; exact h2 j hj
  · rw [va_up_ne _ _ hkn]; exact m5 k (by omega) j hj
theorem MR.set5 {a b d e f : Int32} (h : MR fm n R nc CR wg Q) (hk : k < n) : MR (va_up (va_up (va_up (va_up (va_up fm 1 (upd (fm 1) (k + 1) a)) 2 (upd (fm 2) (k + 1) b)) 3 (upd (fm 3) (k + 1) d)) 9 (upd (fm 9) (k + 1) e)) 10 (upd (fm 10) (k + 1) f)) n (va_up R k (upd (upd (upd (upd (upd (R k) 0 a) 1 b) 2 d) 7 e) 8 f)) nc CR wg Q := by
  have q := ((((h.set hk (f := 0) (by decide) a).set hk (f := 1) (by decide) b).set hk (f := 2) (by decide) d).set hk (f := 7) (by decide) e).set hk (f := 8) (by decide) f
  rw [va_up_self, bx_uu, va_up_self, bx_uu, va_up_self, bx_uu, va_up_self, bx_uu] at q
  exact q
end RM4
theorem xm0_o {r : Nat → Int32} {wh v : Int32} {j : Nat} (h0 : j ≠ 0) (h1 : j ≠ 1) (h2 : j ≠ 2) (h7 : j ≠ 7) (h8 : j ≠ 8) : xm0 r wh v j = r j := by
  unfold xm0
  repeat' split
  all_goals first | rfl | exact pk_un (by omega)
theorem xm_5 {r : Nat → Int32} {wh v a b d e f : Int32} (hb : xm0 r wh v 1 = b) (hd : xm0 r wh v 2 = d) (he : xm0 r wh v 7 = e) (hf : xm0 r wh v 8 = f) (ha : xt (xm0 r wh v 0) b d = a) : upd (upd (upd (upd (upd r 0 a) 1 b) 2 d) 7 e) 8 f = xm r wh v := by
  subst hb; subst hd; subst he; subst hf; subst ha
  funext j
  unfold xm
  by_cases h8 : j = 8
  · subst h8; rw [pk_us, pk_un (by decide)]
  · rw [pk_un h8]
    by_cases h7 : j = 7
    · subst h7; rw [pk_us, pk_un (by decide)]
    · rw [pk_un h7]
      by_cases h2 : j = 2
      · subst h2; rw [pk_us, pk_un (by decide)]
      · rw [pk_un h2]
        by_cases h1 : j = 1
        · subst h1; rw [pk_us, pk_un (by decide)]
        · rw [pk_un h1]
          by_cases h0 : j = 0
          · subst h0; rw [pk_us, pk_us]
          · rw [pk_un h0, pk_un h0, xm0_o h0 h1 h2 h7 h8]
theorem xy_out {wh v : Int32} (h : xw wh 0 4 = 0) : xy wh v = 0 := by
  unfold xy
  rw [if_neg (fun z => by subst z; exact absurd h (by decide)), if_neg (fun z => by subst z; exact absurd h (by decide)), if_neg (fun z => by subst z; exact absurd h (by decide)), if_neg (fun z => by subst z; exact absurd h (by decide)), if_neg (fun z => by subst z; exact absurd h (by decide))]
theorem wh_34 {wh : Int32} (h : ¬ xw wh 0 4 = 0) (h0 : ¬ wh = 0) (h1 : ¬ wh = 1) (h2 : ¬ wh = 2) : wh = 3 ∨ wh = 4 := by
  by_cases h3 : wh = 3
  · exact Or.inl h3
  · exact Or.inr (wh_4 h h0 h1 h2 h3)
theorem xy_34 {wh v : Int32} (h : wh = 3 ∨ wh = 4) : xy wh v = xw v 0 9999 := by
  rcases h with rfl | rfl <;> rfl
theorem ok_1 {r : Nat → Int32} (h : okr r) : r 1 ≤ 31500 := by
  rw [Int32.le_iff_toInt_le]
  have e : (31500 : Int32).toInt = 31500 := rfl
  have := h.2.1
  omega
theorem ok_2 {r : Nat → Int32} (h : okr r) : r 2 ≤ 3 := by
  rw [Int32.le_iff_toInt_le]
  have e : (3 : Int32).toInt = 3 := rfl
  have := h.2.2.1
  omega
theorem mu5c (k : Nat) (c : Int32) (j : Nat) (h : c = nI j) : (5 : Int32) * nI k + c = nI (5 * k + j) := by rw [h, mu5]
theorem mu50 (k : Nat) : (5 : Int32) * nI k = nI (5 * k) := by rw [show (5 : Int32) = nI 5 from rfl, pk_mul]
