/-! THE CLASS'S STATE: n items R, nc corrections CR, who waits wg, the packed bytes Q -/
abbrev xS : Type := Nat × (Nat → Nat → Int32) × Nat × (Nat → Nat → Int32) × (Nat → Int32) × pq
/-- how many of the first n items have c in field f -/
def cnt (R : Nat → Nat → Int32) (f : Nat) (c : Int32) : Nat → Nat
  | 0 => 0
  | n + 1 => cnt R f c n + (if R n f = c then 1 else 0)
def agr (q q' : pq) : Prop := q.2 = q'.2 ∧ ∀ j, j < q.2 → q.1 j = q'.1 j
abbrev aQ (T : Nat → ClassId) (t n : Nat) (f : Nat → Option Nat) : va_E := .inl (T t, n, .inr (.inr (.inr (.inr f))))
abbrev aN (T : Nat → ClassId) (n : Nat) (f : Nat → Int32) : va_E := .inl (T 0, n, .inl f)
def rxI (T : Nat → ClassId) (σ : wd_S) (n : Nat) (R : Nat → Nat → Int32) (fI : Nat → Option Nat) (ia aa : Nat → Nat) : Prop :=
  (∀ k, k < n → fI k = some (ia k) ∧ σ (ia k) = some (xI (R k) (aa (2 * k)) (aa (2 * k + 1))) ∧ σ (aa (2 * k)) = some (aN T 4 (fun j => R k (15 + 2 * j))) ∧ σ (aa (2 * k + 1)) = some (aN T 4 (fun j => R k (16 + 2 * j)))) ∧
  (∀ k j, k < n → j < n → ia k = ia j → k = j) ∧ (∀ k j, k < 2 * n → j < 2 * n → aa k = aa j → k = j)
def rxC (σ : wd_S) (nc : Nat) (CR : Nat → Nat → Int32) (fC : Nat → Option Nat) (ca : Nat → Nat) : Prop := ∀ k, k < nc → fC k = some (ca k) ∧ σ (ca k) = some (xC (CR k))
def rxN (n : Nat) (R : Nat → Nat → Int32) (wg jn wn bk : Nat → Int32) : Prop := (∀ c, 1 ≤ c → c ≤ 30 → jn c = nI (cnt R 10 (nI c) n)) ∧ (∀ c, 1 ≤ c → c ≤ 20 → bk c = nI (cnt R 11 (nI c) n)) ∧ ∀ c, c ≤ 30 → wn c = wg c
def RB (T : Nat → ClassId) (σ : wd_S) (x n : Nat) (R : Nat → Nat → Int32) (nc : Nat) (CR : Nat → Nat → Int32) (wg : Nat → Int32) (Q : pq) (aI aC aJ aW aB aP ab : Nat) (fI fC : Nat → Option Nat) (jn wn bk qb : Nat → Int32) (ia aa ca : Nat → Nat) : Prop :=
  σ x = some (.inr (0, [.ref aI, .int (nI n), .ref aC, .int (nI nc), .ref aJ, .ref aW, .ref aB, .ref aP])) ∧ σ aI = some (aQ T 2 120 fI) ∧ σ aC = some (aQ T 3 200 fC) ∧ σ aJ = some (aN T 31 jn) ∧ σ aW = some (.inl (T 1, 31, .inl wn)) ∧ σ aB = some (aN T 21 bk) ∧ pz T σ σ aP ab (qb, Q.2) ∧ agr (qb, Q.2) Q ∧ rxI T σ n R fI ia aa ∧ rxC σ nc CR fC ca ∧ rxN n R wg jn wn bk ∧ n ≤ 120 ∧ nc ≤ 200 ∧ aJ ≠ aW
def RX (T : Nat → ClassId) (σ : wd_S) (x : Nat) (S : xS) : Prop := ∃ (aI aC aJ aW aB aP ab : Nat) (fI fC : Nat → Option Nat) (jn wn bk qb : Nat → Int32) (ia aa ca : Nat → Nat), RB T σ x S.1 S.2.1 S.2.2.1 S.2.2.2.1 S.2.2.2.2.1 S.2.2.2.2.2 aI aC aJ aW aB aP ab fI fC jn wn bk qb ia aa ca
section RX
variable {T : Nat → ClassId} {σ : wd_S} {x n : Nat} {R : Nat → Nat → Int32} {nc : Nat} {CR : Nat → Nat → Int32} {wg : Nat → Int32} {Q : pq} {aI aC aJ aW aB aP ab : Nat} {fI fC : Nat → Option Nat} {jn wn bk qb : Nat → Int32} {ia aa ca : Nat → Nat} {k b : Nat} {e e0 : va_E}
theorem RB.rx (h : RB T σ x n R nc CR wg Q aI aC aJ aW aB aP ab fI fC jn wn bk qb ia aa ca) : RX T σ x (n, R, nc, CR, wg, Q) := ⟨_, _, _, _, _, _, _, _, _, _, _, _, _, _, _, _, h⟩
theorem rxI.un (h : rxI T σ n R fI ia aa) (hb : σ b = some e0) (h1 : ∀ r w c, e0 ≠ xI r w c) (h2 : ∀ f, e0 ≠ aN T 4 f) : rxI T (wd_up σ b e) n R fI ia aa := by
  refine ⟨fun k hk => ?_, h.2⟩
  obtain ⟨g1, g2, g3, g4⟩ := h.1 k hk
  exact ⟨g1, wd_uk g2 (wd_ne g2 hb (fun z => h1 _ _ _ z.symm)), wd_uk g3 (wd_ne g3 hb (fun z => h2 _ z.symm)), wd_uk g4 (wd_ne g4 hb (fun z => h2 _ z.symm))⟩
theorem rxI.new (h : rxI T σ n R fI ia aa) (hb : σ b = none) : rxI T (wd_up σ b e) n R fI ia aa := by
  refine ⟨fun k hk => ?_, h.2⟩
  obtain ⟨g1, g2, g3, g4⟩ := h.1 k hk
  exact ⟨g1, wd_uk g2 (wd_nn g2 hb), wd_uk g3 (wd_nn g3 hb), wd_uk g4 (wd_nn g4 hb)⟩
theorem rxC.un (h : rxC σ nc CR fC ca) (hb : σ b = some e0) (h1 : ∀ c, e0 ≠ xC c) : rxC (wd_up σ b e) nc CR fC ca := fun k hk => ⟨(h k hk).1, wd_uk (h k hk).2 (wd_ne (h k hk).2 hb (fun z => h1 _ z.symm))⟩
theorem rxC.new (h : rxC σ nc CR fC ca) (hb : σ b = none) : rxC (wd_up σ b e) nc CR fC ca := fun k hk => ⟨(h k hk).1, wd_uk (h k hk).2 (wd_nn (h k hk).2 hb)⟩
theorem pz_same {q : pq} {σ0 : wd_S} (h : pz T σ0 σ aP ab q) : pz T σ σ aP ab q := ⟨h.1, h.2.1, h.2.2.1, fun _ _ _ => rfl⟩
theorem pz_un {q : pq} (h : pz T σ σ aP ab q) (hb : σ b = some e0) (h1 : ∀ v, e0 ≠ .inr (3, v)) (h2 : ∀ f, e0 ≠ aN T 30 f) : pz T (wd_up σ b e) (wd_up σ b e) aP ab q := ⟨wd_uk h.1 (wd_ne h.1 hb (fun z => h1 _ z.symm)), wd_uk h.2.1 (wd_ne h.2.1 hb (fun z => h2 _ z.symm)), h.2.2.1, fun _ _ _ => rfl⟩
theorem pz_new {q : pq} (h : pz T σ σ aP ab q) (hb : σ b = none) : pz T (wd_up σ b e) (wd_up σ b e) aP ab q := ⟨wd_uk h.1 (wd_nn h.1 hb), wd_uk h.2.1 (wd_nn h.2.1 hb), h.2.2.1, fun _ _ _ => rfl⟩
theorem cnt_up {r : Nat → Int32} {f : Nat} {c : Int32} : ∀ (n : Nat), r f = R k f → cnt (va_up R k r) f c n = cnt R f c n
  | 0, _ => rfl
  | n + 1, h => by
    show cnt (va_up R k r) f c n + (if va_up R k r n f = c then 1 else 0) = cnt R f c n + (if R n f = c then 1 else 0)
    rw [cnt_up n h]
    by_cases hn : n = k
    · subst hn; rw [va_up_self, h]
    · rw [va_up_ne _ _ hn]
theorem rxN.up {r : Nat → Int32} (h : rxN n R wg jn wn bk) (h1 : r 10 = R k 10) (h2 : r 11 = R k 11) : rxN n (va_up R k r) wg jn wn bk := ⟨fun c a b => by rw [cnt_up n h1]; exact h.1 c a b, fun c a b => by rw [cnt_up n h2]; exact h.2.1 c a b, h.2.2⟩
/-- an item's own cell is written -/
theorem rxI.up {r : Nat → Int32} (h : rxI T σ n R fI ia aa) (hk : k < n) (hr : ∀ j, 15 ≤ j → r j = R k j) : rxI T (wd_up σ (ia k) (xI r (aa (2 * k)) (aa (2 * k + 1)))) n (va_up R k r) fI ia aa := by
  refine ⟨fun j hj => ?_, h.2⟩
  obtain ⟨g1, g2, g3, g4⟩ := h.1 j hj
  have hka := (h.1 k hk).2.1
  have n3 : aa (2 * j) ≠ ia k := wd_ne g3 hka (by simp)
  have n4 : aa (2 * j + 1) ≠ ia k := wd_ne g4 hka (by simp)
  by_cases hjk : j = k
  · subst hjk
    rw [va_up_self]
    refine ⟨g1, wd_us _ _ _, wd_uk ?_ n3, wd_uk ?_ n4⟩
    · rw [g3, show (fun z => R j (15 + 2 * z)) = fun z => r (15 + 2 * z) from funext fun z => (hr _ (by omega)).symm]
    · rw [g4, show (fun z => R j (16 + 2 * z)) = fun z => r (16 + 2 * z) from funext fun z => (hr _ (by omega)).symm]
  · rw [va_up_ne _ _ hjk]
    exact ⟨g1, wd_uk g2 (fun z => hjk (h.2.1 j k hj hk z)), wd_uk g3 n3, wd_uk g4 n4⟩
theorem RB.item {r : Nat → Int32} (h : RB T σ x n R nc CR wg Q aI aC aJ aW aB aP ab fI fC jn wn bk qb ia aa ca) (hk : k < n) (h1 : r 10 = R k 10) (h2 : r 11 = R k 11) (hr : ∀ j, 15 ≤ j → r j = R k j) : RB T (wd_up σ (ia k) (xI r (aa (2 * k)) (aa (2 * k + 1)))) x n (va_up R k r) nc CR wg Q aI aC aJ aW aB aP ab fI fC jn wn bk qb ia aa ca := by
  obtain ⟨a1, a2, a3, a4, a5, a6, a7, a8, a9, a10, a11, a12⟩ := h
  have hka := (a9.1 k hk).2.1
  exact ⟨wd_uk a1 (wd_ne a1 hka (by simp)), wd_uk a2 (wd_ne a2 hka (by simp)), wd_uk a3 (wd_ne a3 hka (by simp)), wd_uk a4 (wd_ne a4 hka (by simp)), wd_uk a5 (wd_ne a5 hka (by simp)), wd_uk a6 (wd_ne a6 hka (by simp)), pz_un a7 hka (by simp) (by simp), a8, a9.up hk hr, a10.un hka (by simp), a11.up h1 h2, a12⟩
end RX
/-! WHAT THE CALLS ANSWER, and what the state is then -/
def o_find (n : Nat) (i : Int32) : Option Nat := if xw i 1 (nI n) = 0 then none else some (i - 1).toNatClampNeg
def o_upd (S : xS) (i : Int32) (f : (Nat → Int32) → Int32 × (Nat → Int32)) : Int32 × xS := match o_find S.1 i with
  | none => (-101, S)
  | some k => ((f (S.2.1 k)).1, (S.1, va_up S.2.1 k (f (S.2.1 k)).2, S.2.2))
theorem o_upd_none {S : xS} {i : Int32} {f : (Nat → Int32) → Int32 × (Nat → Int32)} (h : o_find S.1 i = none) : o_upd S i f = (-101, S) := by unfold o_upd; rw [h]
theorem o_upd_some {S : xS} {i : Int32} {f : (Nat → Int32) → Int32 × (Nat → Int32)} {k : Nat} (h : o_find S.1 i = some k) : o_upd S i f = ((f (S.2.1 k)).1, (S.1, va_up S.2.1 k (f (S.2.1 k)).2, S.2.2)) := by unfold o_upd; rw [h]
theorem va_up_id {α : Type} (f : Nat → α) (k : Nat) : va_up f k (f k) = f := by
  funext j
  by_cases h : j = k
  · subst h; rw [va_up_self]
  · rw [va_up_ne _ _ h]
theorem upd_hi {r : Nat → Int32} {f : Nat} {v : Int32} {j : Nat} (hf : f < 15) (hj : 15 ≤ j) : upd r f v j = r j := pk_un (by omega)
theorem o_in {n : Nat} {i : Int32} (hn : n ≤ 120) (h : ¬ xw i 1 (nI n) = 0) : ∃ k, k < n ∧ i - 1 = nI k ∧ i = nI (k + 1) := by
  obtain ⟨h1, h2⟩ := xw_out h
  have h0 : ¬ i < 0 := fun z => h1 (by
    rw [Int32.lt_iff_toInt_lt] at z ⊢
    have e0 : (0 : Int32).toInt = 0 := rfl
    have e1 : (1 : Int32).toInt = 1 := rfl
    omega)
  obtain ⟨j, hj, rfl⟩ := nI_of h0
  have h3 : 1 ≤ j := by
    rcases Nat.lt_or_ge j 1 with q | q
    · exact absurd (nI_lt (a := j) (b := 1) q (by decide)) h1
    · exact q
  have h4 : j ≤ n := by
    rcases Nat.lt_or_ge n j with q | q
    · exact absurd (nI_lt q hj) h2
    · exact q
  obtain ⟨k, rfl⟩ : ∃ k, j = k + 1 := ⟨j - 1, by omega⟩
  exact ⟨k, by omega, nI_pred k, rfl⟩
theorem o_find_some {n k : Nat} {i : Int32} (hn : n ≤ 120) (h : o_find n i = some k) : k < n ∧ i - 1 = nI k ∧ i = nI (k + 1) := by
  unfold o_find at h
  by_cases hc : xw i 1 (nI n) = 0
  · rw [if_pos hc] at h; cases h
  · rw [if_neg hc] at h
    obtain ⟨j, h1, h2, h3⟩ := o_in hn hc
    rw [h2, nI_clamp (by omega)] at h
    cases h
    exact ⟨h1, h2, h3⟩
def f_srv (t : Int32) (r : Nat → Int32) : Int32 × (Nat → Int32) := if xw t 0 5 = 0 then (-102, r) else if xh (r 4) t = 0 then (if xe (r 5) = 0 then (if xl (r 4) t = -1 then (if xk r t = 0 then (bc (r 4 ||| (1 <<< (t &&& 31))), upd r 4 (r 4 ||| (1 <<< (t &&& 31)))) else (-111, r)) else (-200 - xl (r 4) t, r)) else (-103, r)) else (-103, r)
def anyw (R : Nat → Nat → Int32) (c : Int32) : Nat → Bool
  | 0 => false
  | n + 1 => anyw R c n || decide (R n 10 = c ∧ ¬ R n 5 = 4 ∧ xe (R n 5) = 0)
def o_mw (n : Nat) (R : Nat → Nat → Int32) (wg : Nat → Int32) (c : Int32) : Int32 := if xw c 1 30 = 0 then 0 else if wg c.toNatClampNeg = 0 then 0 else if anyw R c n = true then 1 else 0
def f_evt (mw : Int32 → Int32) (ev : Int32) (r : Nat → Int32) : Int32 × (Nat → Int32) := if xw ev 0 10 = 0 then (-102, r) else if xe (r 5) = 0 then (if xb r ev = -1 then (-103, r) else if ev = 2 ∧ ¬ r 9 = 0 ∧ r 14 = 0 then (-106, r) else if ev = 4 ∧ r 5 = 4 ∧ ¬ mw (r 10) = 0 then (-107, r) else (xb r ev, xu r ev (xb r ev))) else (-105, upd r 12 (r 12 + 1))
def f_adr (wh en : Int32) (r : Nat → Int32) : Int32 × (Nat → Int32) := if xw wh 0 1 = 0 then (-102, r) else if xw en 0 9999 = 0 then (-102, r) else if xe (r 5) = 0 then (if r 8 = -1 then (if wh = 0 then (r 7, upd r 7 en) else (r 8, upd r 8 en)) else (-103, r)) else (-103, r)
def f_abr (la : Int32) (r : Nat → Int32) : Int32 × (Nat → Int32) := if xw la 1 30 = 0 then (-102, r) else if r 9 = 0 then (if r 5 = 0 then (1, upd r 9 la) else if r 5 = 1 then (1, upd r 9 la) else (-103, r)) else (-103, r)
def f_con (wh ce : Int32) (r : Nat → Int32) : Int32 × (Nat → Int32) := if xw wh 0 99 = 0 then (-102, r) else if xw ce 0 100000 = 0 then (-102, r) else if r 9 = 0 then (-103, r) else if xe (r 5) = 0 then (if r 14 < 4 then (r 14 + 1, upd (upd (upd r (15 + 2 * (r 14).toNatClampNeg) wh) (16 + 2 * (r 14).toNatClampNeg) ce) 14 (r 14 + 1)) else (-104, r)) else (-103, r)
def f_opn (a b : Int32) (r : Nat → Int32) : Int32 × (Nat → Int32) := if xw a 0 19 = 0 then (-102, r) else if xw b 0 19 = 0 then (-102, r) else if r 5 = 8 then (if r 6 = 0 then (if a = b then (-108, r) else (1, upd (upd (upd r 5 1) 8 (-1)) 13 (100 * a + b))) else (-103, r)) else (-103, r)
def f_abt (wh : Int32) (r : Nat → Int32) : Int32 × (Nat → Int32) := if xw wh 0 13 = 0 then (-102, r) else (xf r wh, r)
theorem xw_le {c a b : Int32} {n : Nat} (h : ¬ xw c a b = 0) (hb : b.toInt = n) : c.toNatClampNeg ≤ n := by
  have h2 := (xw_out h).2
  rw [Int32.lt_iff_toInt_lt] at h2
  show c.toInt.toNat ≤ n
  omega
theorem ix_c {j n : Nat} (hn : n < 2 ^ 31) (hj : j ≤ n) (c : ¬ nI n ≤ nI j) : j < n := by
  rcases Nat.lt_or_ge j n with q | q
  · exact q
  · exact absurd (nI_le q (by omega)) c
theorem ix_d {j n : Nat} (hn : n < 2 ^ 31) (hj : j ≤ n) (c : nI n ≤ nI j) : j = n := by
  rcases Nat.lt_or_ge j n with q | q
  · exact absurd c (nI_ge q hn)
  · omega
theorem anyw_t {R : Nat → Nat → Int32} {c : Int32} {j : Nat} (h1 : R j 10 = c) (h2 : ¬ R j 5 = 4) (h3 : xe (R j 5) = 0) : ∀ n, j < n → anyw R c n = true
  | 0, h => absurd h (Nat.not_lt_zero _)
  | n + 1, h => by
    show (anyw R c n || decide (R n 10 = c ∧ ¬ R n 5 = 4 ∧ xe (R n 5) = 0)) = true
    by_cases hj : j = n
    · subst hj; simp [h1, h2, h3]
    · rw [anyw_t h1 h2 h3 n (by omega)]; rfl
theorem anyw_f {R : Nat → Nat → Int32} {c : Int32} {j : Nat} (h : anyw R c j = false) (h2 : ¬ (R j 10 = c ∧ ¬ R j 5 = 4 ∧ xe (R j 5) = 0)) : anyw R c (j + 1) = false := by
  show (anyw R c j || decide (R j 10 = c ∧ ¬ R j 5 = 4 ∧ xe (R j 5) = 0)) = false
  rw [h, decide_eq_false h2]; rfl
def o_row (nc : Nat) (CR : Nat → Nat → Int32) (i wh : Int32) : Int32 := if xw i 0 (nI nc - 1) = 0 then -1 else xp (CR i.toNatClampNeg) wh
theorem r_in {n : Nat} {i : Int32} (hn : n < 1000) (h : ¬ xw i 0 (nI n - 1) = 0) : ∃ k, k < n ∧ i = nI k := by
  obtain ⟨h1, h2⟩ := xw_out h
  obtain ⟨j, hj, rfl⟩ := nI_of h1
  refine ⟨j, ?_, rfl⟩
  rcases Nat.lt_or_ge j n with q | q
  · exact q
  · refine absurd ?_ h2
    cases n with
    | zero => exact Int32.lt_iff_toInt_lt.mpr (by rw [nI_toInt hj]; show (-1 : Int) < _; omega)
    | succ n => rw [nI_pred]; exact nI_lt (by omega) hj
def o_oct (Q : pq) (i : Int32) : Int32 := if xw i 0 (nI Q.2 - 1) = 0 then -1 else Q.1 i.toNatClampNeg
theorem xo_eq {q Q : pq} (h : agr q Q) (hq : q.2 ≤ 30) (i : Int32) : xo q i = o_oct Q i := by
  unfold xo o_oct
  rw [h.1]
  by_cases hc : xw i 0 (nI Q.2 - 1) = 0
  · rw [if_pos hc, if_pos hc]
  · rw [if_neg hc, if_neg hc]
    have h30 : Q.2 ≤ 30 := by rw [← h.1]; exact hq
    obtain ⟨k, hk, rfl⟩ := r_in (by omega) hc
    rw [if_pos (show nI k < (30 : Int32) from nI_lt (a := k) (b := 30) (by omega) (by decide)), nI_clamp (by omega)]
    exact h.2 k (by rw [h.1]; exact hk)
/-- the i-th that is set aside: m items are left to look at, the next is k, b were found -/
def asf (R : Nat → Nat → Int32) (i : Int32) : Nat → Nat → Nat → Int32
  | 0, _, _ => -1
  | m + 1, k, b => if xa (R k 6) (R k 5) = 0 then asf R i m (k + 1) b else if nI b = i then nI (k + 1) else asf R i m (k + 1) (b + 1)
def o_asd (n : Nat) (R : Nat → Nat → Int32) (i : Int32) : Int32 := if i < 0 then -1 else asf R i n 0 0
theorem agr_pa {q q' : pq} (h : agr q q') (v : Int32) : agr (pa q v) (pa q' v) := by
  obtain ⟨h1, h2⟩ := h
  unfold pa
  rw [h1]
  by_cases hc : (30 : Int32) ≤ nI q'.2
  · rw [if_pos hc, if_pos hc]; exact ⟨h1, h2⟩
  · rw [if_neg hc, if_neg hc]
    refine ⟨rfl, fun j hj => ?_⟩
    show upd q.1 q'.2 _ j = upd q'.1 q'.2 _ j
    have hj : j < q'.2 + 1 := hj
    by_cases hjq : j = q'.2
    · subst hjq; rw [pk_us, pk_us]
    · rw [pk_un hjq, pk_un hjq]; exact h2 j (by omega)
theorem agr_p2 {q q' : pq} (h : agr q q') (v : Int32) : agr (p2 q v) (p2 q' v) := agr_pa (agr_pa h _) _
theorem agr_pe {q q' : pq} (h : agr q q') (v : Int32) : agr (pe q v) (pe q' v) := agr_p2 h _
theorem agr_pc1 {q q' : pq} (h : agr q q') (r : Nat → Int32) (k : Nat) : agr (pc1 r q k) (pc1 r q' k) := agr_p2 (agr_pa (agr_pa h _) _) _
theorem agr_pc {q q' : pq} (h : agr q q') (r : Nat → Int32) : agr (pc r q) (pc r q') := by
  unfold pc
  split
  · exact h
  · split
    · exact agr_pc1 h r 0
    · split
      · exact agr_pc1 (agr_pc1 h r 0) r 1
      · split
        · exact agr_pc1 (agr_pc1 (agr_pc1 h r 0) r 1) r 2
        · exact agr_pc1 (agr_pc1 (agr_pc1 (agr_pc1 h r 0) r 1) r 2) r 3
theorem agr_px {f g : Nat → Int32} : ∀ n, (∀ j, j < n → f j = g j) → px f n = px g n
  | 0, _ => rfl
  | n + 1, h => by
    show px f n ^^^ f n = px g n ^^^ g n
    rw [agr_px n (fun j hj => h j (by omega)), h n (by omega)]
theorem agr_ph (f g : Nat → Int32) (num : Int32) (r : Nat → Int32) : agr (ph f num r) (ph g num r) := by
  unfold ph
  apply agr_pa
  apply agr_pa
  apply agr_pe
  apply agr_pe
  apply agr_pa
  apply agr_pa
  apply agr_p2
  apply agr_pa
  apply agr_p2
  exact ⟨rfl, fun j hj => absurd hj (Nat.not_lt_zero j)⟩
theorem agr_pf (f g : Nat → Int32) (num : Int32) (r : Nat → Int32) : agr (pf f num r) (pf g num r) := by
  have h := agr_pc (agr_ph f g num r) r
  unfold pf
  rw [show px (pc r (ph f num r)).1 (pc r (ph f num r)).2 = px (pc r (ph g num r)).1 (pc r (ph g num r)).2 from by rw [← h.1]; exact agr_px _ h.2]
  exact agr_pa h _
section RX2
variable {T : Nat → ClassId} {σ σ' : wd_S} {x n : Nat} {R : Nat → Nat → Int32} {nc : Nat} {CR : Nat → Nat → Int32} {wg : Nat → Int32} {Q Q' q : pq} {aI aC aJ aW aB aP ab : Nat} {fI fC : Nat → Option Nat} {jn wn bk qb : Nat → Int32} {ia aa ca : Nat → Nat} {k b : Nat} {e e0 : va_E}
theorem RB.pack (h : RB T σ x n R nc CR wg Q aI aC aJ aW aB aP ab fI fC jn wn bk qb ia aa ca) (hp : pz T σ σ' aP ab q) (ha : agr q Q') : RB T σ' x n R nc CR wg Q' aI aC aJ aW aB aP ab fI fC jn wn bk q.1 ia aa ca := by
  obtain ⟨a1, a2, a3, a4, a5, a6, a7, a8, a9, a10, a11, a12⟩ := h
  have hk : ∀ {z : Nat} {e : va_E}, σ z = some e → (∀ v, e ≠ .inr (3, v)) → (∀ f, e ≠ aN T 30 f) → σ' z = some e := fun {z e} hz h1 h2 => (hp.2.2.2 z (wd_ne hz a7.1 (h1 _)) (wd_ne hz a7.2.1 (h2 _))).trans hz
  refine ⟨hk a1 (by simp) (by simp), hk a2 (by simp) (by simp), hk a3 (by simp) (by simp), hk a4 (by simp) (by simp), hk a5 (by simp) (by simp), hk a6 (by simp) (by simp), ?_, ?_, ⟨fun k hk' => ?_, a9.2⟩, fun k hk' => ⟨(a10 k hk').1, hk (a10 k hk').2 (by simp) (by simp)⟩, a11, a12⟩
  · rw [← ha.1]; exact pz_same hp
  · rw [← ha.1]; exact ha
  · obtain ⟨g1, g2, g3, g4⟩ := a9.1 k hk'
    exact ⟨g1, hk g2 (by simp) (by simp), hk g3 (by simp) (by simp), hk g4 (by simp) (by simp)⟩
end RX2
def o_pack (S : xS) (i : Int32) : Int32 × xS := match o_find S.1 i with
  | none => (-101, S)
  | some k => (nI (pf S.2.2.2.2.2.1 i (S.2.1 k)).2, (S.1, S.2.1, S.2.2.1, S.2.2.2.1, S.2.2.2.2.1, pf S.2.2.2.2.2.1 i (S.2.1 k)))
theorem o_pack_none {S : xS} {i : Int32} (h : o_find S.1 i = none) : o_pack S i = (-101, S) := by unfold o_pack; rw [h]
theorem o_pack_some {S : xS} {i : Int32} {k : Nat} (h : o_find S.1 i = some k) : o_pack S i = (nI (pf S.2.2.2.2.2.1 i (S.2.1 k)).2, (S.1, S.2.1, S.2.2.1, S.2.2.2.1, S.2.2.2.2.1, pf S.2.2.2.2.2.1 i (S.2.1 k))) := by unfold o_pack; rw [h]
