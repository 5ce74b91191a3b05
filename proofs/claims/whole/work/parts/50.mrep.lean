/-! THE REFERENCE'S STATE: flat arrays am j with contents fm j; item k stands at place k + 1 -/
def mlen (j : Nat) : Nat := [0, 121, 121, 121, 121, 121, 121, 121, 121, 121, 121, 121, 121, 484, 484, 121, 31, 121, 121, 0, 1000, 0, 40].getD j 0
def mty (j : Nat) : Nat := [0, 0, 0, 0, 0, 0, 0, 1, 0, 0, 0, 0, 0, 0, 0, 0, 1, 0, 0, 0, 0, 0, 0].getD j 0
/-- which array holds an item's field -/
def mf (f : Nat) : Nat := [1, 2, 3, 4, 5, 6, 7, 9, 10, 11, 15, 17, 8, 18, 12].getD f 0
def mok (j : Nat) : Bool := [false, true, true, true, true, true, true, true, true, true, true, true, true, true, true, true, true, true, true, false, true, false, true].getD j false
abbrev MFs (am : Nat → Nat) (n nc pl : Nat) : List Value := [.int (nI n), .ref (am 1), .ref (am 2), .ref (am 3), .ref (am 4), .ref (am 5), .ref (am 6), .ref (am 7), .ref (am 8), .ref (am 9), .ref (am 10), .ref (am 11), .ref (am 12), .ref (am 13), .ref (am 14), .ref (am 15), .ref (am 16), .ref (am 17), .ref (am 18), .int (nI nc), .ref (am 20), .int (nI pl), .ref (am 22)]
abbrev aM (T : Nat → ClassId) (j : Nat) (f : Nat → Int32) : va_E := .inl (T (mty j), mlen j, .inl f)
def MC (T : Nat → ClassId) (σ : wd_S) (y : Nat) (am : Nat → Nat) (fm : Nat → Nat → Int32) (n nc pl : Nat) : Prop := σ y = some (.inr (4, MFs am n nc pl)) ∧ (∀ j, mok j = true → σ (am j) = some (aM T j (fm j))) ∧ ∀ i j, mok i = true → mok j = true → am i = am j → i = j
def MR (fm : Nat → Nat → Int32) (n : Nat) (R : Nat → Nat → Int32) (nc : Nat) (CR : Nat → Nat → Int32) (wg : Nat → Int32) (Q : pq) : Prop :=
  (∀ k, k < n → ∀ f, f < 15 → fm (mf f) (k + 1) = R k f) ∧
  (∀ k, n ≤ k → k < 120 → fm 5 (k + 1) = 0 ∧ fm 6 (k + 1) = 0 ∧ fm 7 (k + 1) = 0 ∧ fm 8 (k + 1) = 0 ∧ fm 11 (k + 1) = 0 ∧ fm 12 (k + 1) = 0 ∧ fm 15 (k + 1) = 0 ∧ fm 17 (k + 1) = 0) ∧
  (∀ k, k < n → ∀ j, j < 4 → fm 13 (4 * (k + 1) + j) = R k (15 + 2 * j) ∧ fm 14 (4 * (k + 1) + j) = R k (16 + 2 * j)) ∧
  (∀ k, n ≤ k → k < 120 → ∀ j, j < 4 → fm 13 (4 * (k + 1) + j) = 0 ∧ fm 14 (4 * (k + 1) + j) = 0) ∧
  (∀ k, k < nc → ∀ j, j < 5 → fm 20 (5 * k + j) = CR k j) ∧ (∀ c, c ≤ 30 → fm 16 c = wg c) ∧ (∀ j, j < Q.2 → fm 22 j = Q.1 j) ∧ n ≤ 120 ∧ nc ≤ 200 ∧ Q.2 ≤ 30
def MB (T : Nat → ClassId) (σ : wd_S) (y : Nat) (am : Nat → Nat) (fm : Nat → Nat → Int32) (n : Nat) (R : Nat → Nat → Int32) (nc : Nat) (CR : Nat → Nat → Int32) (wg : Nat → Int32) (Q : pq) : Prop := MC T σ y am fm n nc Q.2 ∧ MR fm n R nc CR wg Q
def RM (T : Nat → ClassId) (σ : wd_S) (y : Nat) (S : xS) : Prop := ∃ (am : Nat → Nat) (fm : Nat → Nat → Int32), MB T σ y am fm S.1 S.2.1 S.2.2.1 S.2.2.2.1 S.2.2.2.2.1 S.2.2.2.2.2
theorem mf_ok : ∀ f, f < 15 → mok (mf f) = true ∧ mf f ≠ 13 ∧ mf f ≠ 14 ∧ mf f ≠ 16 ∧ mf f ≠ 20 ∧ mf f ≠ 22 ∧ mlen (mf f) = 121 := by decide
theorem mf_inj : ∀ f, f < 15 → ∀ g, g < 15 → mf f = mf g → f = g := by decide
section RM
variable {T : Nat → ClassId} {σ : wd_S} {y n : Nat} {am : Nat → Nat} {fm : Nat → Nat → Int32} {R : Nat → Nat → Int32} {nc pl : Nat} {CR : Nat → Nat → Int32} {wg : Nat → Int32} {Q Q' : pq} {k j : Nat} {g : Nat → Int32} {v : Int32}
theorem MB.rm (h : MB T σ y am fm n R nc CR wg Q) : RM T σ y (n, R, nc, CR, wg, Q) := ⟨am, fm, h⟩
theorem MC.set (h : MC T σ y am fm n nc pl) (hj : mok j = true) (g : Nat → Int32) : MC T (wd_up σ (am j) (aM T j g)) y am (va_up fm j g) n nc pl := by
  obtain ⟨h1, h2, h3⟩ := h
  refine ⟨wd_uk h1 (wd_ne h1 (h2 j hj) (by simp)), fun i hi => ?_, h3⟩
  by_cases hij : i = j
  · subst hij; rw [va_up_self]; exact wd_us _ _ _
  · rw [va_up_ne _ _ hij]; exact wd_uk (h2 i hi) (fun z => hij (h3 i j hi hj z))
theorem MR.set {f : Nat} (h : MR fm n R nc CR wg Q) (hk : k < n) (hf : f < 15) (v : Int32) : MR (va_up fm (mf f) (upd (fm (mf f)) (k + 1) v)) n (va_up R k (upd (R k) f v)) nc CR wg Q := by
  obtain ⟨m1, m2, m3, m4, m5, m6, m7, m8⟩ := h
  obtain ⟨o1, o2, o3, o4, o5, o6, -⟩ := mf_ok f hf
  have hz : ∀ j k', k' ≠ k → va_up fm (mf f) (upd (fm (mf f)) (k + 1) v) j (k' + 1) = fm j (k' + 1) := fun j k' hkk => by
    by_cases hj : j = mf f
    · rw [hj, va_up_self, pk_un (by omega)]
    · rw [va_up_ne _ _ hj]
  refine ⟨fun k' hk' g hg => ?_, fun k' h1 h2 => ?_, fun k' hk' j hj => ?_, fun k' h1 h2 => ?_, ?_, ?_, ?_, m8⟩
  · by_cases hkk : k' = k
    · subst hkk
      rw [va_up_self]
      by_cases hgf : g = f
      · subst hgf; rw [va_up_self, pk_us, pk_us]
      · rw [pk_un hgf, va_up_ne _ _ (fun z => hgf (mf_inj g hg f hf z))]; exact m1 k' hk' g hg
    · rw [va_up_ne _ _ hkk, hz _ _ hkk]; exact m1 k' hk' g hg
  · rw [hz _ _ (by omega), hz _ _ (by omega), hz _ _ (by omega), hz _ _ (by omega), hz _ _ (by omega), hz _ _ (by omega), hz _ _ (by omega), hz _ _ (by omega)]
    exact m2 k' h1 h2
  · rw [va_up_ne _ _ (Ne.symm o2), va_up_ne _ _ (Ne.symm o3)]
    by_cases hkk : k' = k
    · subst hkk
      rw [va_up_self, pk_un (by omega), pk_un (by omega)]
      exact m3 k' hk' j hj
    · rw [va_up_ne _ _ hkk]; exact m3 k' hk' j hj
  · rw [va_up_ne _ _ (Ne.symm o2), va_up_ne _ _ (Ne.symm o3)]
    exact m4 k' h1 h2
  · rw [va_up_ne _ _ (Ne.symm o5)]; exact m5
  · rw [va_up_ne _ _ (Ne.symm o4)]; exact m6
  · rw [va_up_ne _ _ (Ne.symm o6)]; exact m7
theorem MB.set {f : Nat} (h : MB T σ y am fm n R nc CR wg Q) (hk : k < n) (hf : f < 15) (v : Int32) : MB T (wd_up σ (am (mf f)) (aM T (mf f) (upd (fm (mf f)) (k + 1) v))) y am (va_up fm (mf f) (upd (fm (mf f)) (k + 1) v)) n (va_up R k (upd (R k) f v)) nc CR wg Q := ⟨h.1.set (mf_ok f hf).1 _, h.2.set hk hf v⟩
theorem MB.set2 {f f' : Nat} {v' : Int32} (h : MB T σ y am fm n R nc CR wg Q) (hk : k < n) (hf : f < 15) (hf' : f' < 15) (v : Int32) (v' : Int32) : MB T (wd_up (wd_up σ (am (mf f)) (aM T (mf f) (upd (fm (mf f)) (k + 1) v))) (am (mf f')) (aM T (mf f') (upd (va_up fm (mf f) (upd (fm (mf f)) (k + 1) v) (mf f')) (k + 1) v'))) y am (va_up (va_up fm (mf f) (upd (fm (mf f)) (k + 1) v)) (mf f') (upd (va_up fm (mf f) (upd (fm (mf f)) (k + 1) v) (mf f')) (k + 1) v')) n (va_up R k (upd (upd (R k) f v) f' v')) nc CR wg Q := by
  have q := (h.set hk hf v).set hk hf' v'
  rw [va_up_self, bx_uu] at q
  exact q
end RM
theorem upd_comm {r : Nat → Int32} {a b : Nat} {u v : Int32} (h : a ≠ b) : upd (upd r a u) b v = upd (upd r b v) a u := by
  funext j
  by_cases h1 : j = b
  · subst h1; rw [pk_us, pk_un (Ne.symm h), pk_us]
  · by_cases h2 : j = a
    · subst h2; rw [pk_un h1, pk_us, pk_us]
    · rw [pk_un h1, pk_un h2, pk_un h2, pk_un h1]
theorem o_find_ok {n k : Nat} (hn : n ≤ 120) (hk : k < n) : o_find n (nI (k + 1)) = some k := by
  unfold o_find
  have h : ¬ xw (nI (k + 1)) 1 (nI n) = 0 := by
    unfold xw
    rw [if_neg (show ¬ nI (k + 1) < (1 : Int32) from nI_nlt (a := k + 1) (b := 1) (by omega) (by omega)), if_neg (nI_nlt (by omega) (by omega))]
    decide
  rw [if_neg h, nI_pred, nI_clamp (by omega)]
theorem o_find_no {n : Nat} {i : Int32} (h : xw i 1 (nI n) = 0) : o_find n i = none := by unfold o_find; rw [if_pos h]
def ym (k : Int32) : Int32 := if k = 0 then 50 else if k = 1 then 500 else if k = 2 then 2000 else 31500
def yt (w z : Int32) : Int32 := if w ≤ 31500 then (if z ≤ 3 then 0 else -110) else -109
def ye (a b : Int32) : Int32 := if b ≤ a then (if b = 2 ∧ a = 3 then 1 else if b = 1 ∧ a = 2 then 1 else if b = 4 ∧ a = 5 then 1 else if b = 3 ∧ a = 5 then 1 else 0) else (if a = 2 ∧ b = 3 then 1 else if a = 1 ∧ b = 2 then 1 else if a = 4 ∧ b = 5 then 1 else if a = 3 ∧ b = 5 then 1 else 0)
def yd (st ev : Int32) : Int32 := if ev = 0 then (if st = 0 then 1 else -1) else if ev = 1 then (if st = 1 then 2 else if st = 3 then 2 else if st = 7 then 7 else -1) else if ev = 2 then (if st = 2 then 3 else -1) else if ev = 3 then (if st = 3 then 4 else if st = 6 then 4 else -1) else if ev = 4 then (if st = 4 then 5 else if st = 7 then 5 else -1) else if ev = 5 then (if st = 4 then 6 else -1) else if ev = 6 then (if st = 4 then 7 else if st = 6 then 7 else -1) else if ev = 9 then (if st = 7 then 8 else if st = 6 then 8 else -1) else if ev = 10 then 9 else st
theorem z_le {x : Int32} (h0 : 0 ≤ x.toInt) (h : x ≤ 0) : x = 0 := by
  rw [Int32.le_iff_toInt_le] at h
  exact Int32.toInt_inj.mp (show x.toInt = 0 by have e : (0 : Int32).toInt = 0 := rfl; omega)
theorem z_gt {x : Int32} (h : ¬ x ≤ 0) : ¬ x = 0 := fun z => h (by rw [z]; exact Int32.le_refl 0)
theorem z_pos {x : Int32} (h : 0 < x) : ¬ x = 0 := fun z => by subst z; exact absurd h (by decide)
theorem z_npos {x : Int32} (h0 : 0 ≤ x.toInt) (h : ¬ 0 < x) : x = 0 := z_le h0 (Int32.not_lt.mp h)
theorem st_gt {x : Int32} (h : ¬ x ≤ 1) : ¬ x = 0 ∧ ¬ x = 1 := ⟨fun z => by subst z; exact absurd (by decide) h, fun z => by subst z; exact absurd (by decide) h⟩
theorem st_le {x : Int32} (h0 : 0 ≤ x.toInt) (h : x ≤ 1) : x = 0 ∨ x = 1 := by
  rw [Int32.le_iff_toInt_le] at h
  have e : (1 : Int32).toInt = 1 := rfl
  rcases (show x.toInt = 0 ∨ x.toInt = 1 by omega) with q | q
  · exact Or.inl (Int32.toInt_inj.mp q)
  · exact Or.inr (Int32.toInt_inj.mp q)
