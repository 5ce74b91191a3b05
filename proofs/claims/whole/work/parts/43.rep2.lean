/-! more of the class's state: cells alone (RC), and how many belong to what (rxN) -/
def RC (T : Nat → ClassId) (σ : wd_S) (x n : Nat) (R : Nat → Nat → Int32) (nc : Nat) (CR : Nat → Nat → Int32) (Q : pq) (aI aC aJ aW aB aP ab : Nat) (fI fC : Nat → Option Nat) (jn wn bk qb : Nat → Int32) (ia aa ca : Nat → Nat) : Prop :=
  σ x = some (.inr (0, [.ref aI, .int (nI n), .ref aC, .int (nI nc), .ref aJ, .ref aW, .ref aB, .ref aP])) ∧ σ aI = some (aQ T 2 120 fI) ∧ σ aC = some (aQ T 3 200 fC) ∧ σ aJ = some (aN T 31 jn) ∧ σ aW = some (.inl (T 1, 31, .inl wn)) ∧ σ aB = some (aN T 21 bk) ∧ pz T σ σ aP ab (qb, Q.2) ∧ agr (qb, Q.2) Q ∧ rxI T σ n R fI ia aa ∧ rxC σ nc CR fC ca ∧ n ≤ 120 ∧ nc ≤ 200 ∧ aJ ≠ aW
section RX3
variable {T : Nat → ClassId} {σ σ' : wd_S} {x n : Nat} {R : Nat → Nat → Int32} {nc : Nat} {CR : Nat → Nat → Int32} {wg : Nat → Int32} {Q Q' q : pq} {aI aC aJ aW aB aP ab : Nat} {fI fC : Nat → Option Nat} {jn wn bk qb jn' wn' bk' : Nat → Int32} {ia aa ca : Nat → Nat} {k b : Nat} {e e0 : va_E} {r : Nat → Int32}
theorem RB.rc (h : RB T σ x n R nc CR wg Q aI aC aJ aW aB aP ab fI fC jn wn bk qb ia aa ca) : RC T σ x n R nc CR Q aI aC aJ aW aB aP ab fI fC jn wn bk qb ia aa ca := by
  obtain ⟨a1, a2, a3, a4, a5, a6, a7, a8, a9, a10, a11, a12⟩ := h
  exact ⟨a1, a2, a3, a4, a5, a6, a7, a8, a9, a10, a12⟩
theorem RC.rb (h : RC T σ x n R nc CR Q aI aC aJ aW aB aP ab fI fC jn wn bk qb ia aa ca) (hn : rxN n R wg jn wn bk) : RB T σ x n R nc CR wg Q aI aC aJ aW aB aP ab fI fC jn wn bk qb ia aa ca := by
  obtain ⟨a1, a2, a3, a4, a5, a6, a7, a8, a9, a10, a12⟩ := h
  exact ⟨a1, a2, a3, a4, a5, a6, a7, a8, a9, a10, hn, a12⟩
theorem RC.item (h : RC T σ x n R nc CR Q aI aC aJ aW aB aP ab fI fC jn wn bk qb ia aa ca) (hk : k < n) (hr : ∀ j, 15 ≤ j → r j = R k j) : RC T (wd_up σ (ia k) (xI r (aa (2 * k)) (aa (2 * k + 1)))) x n (va_up R k r) nc CR Q aI aC aJ aW aB aP ab fI fC jn wn bk qb ia aa ca := by
  obtain ⟨a1, a2, a3, a4, a5, a6, a7, a8, a9, a10, a12⟩ := h
  have hka := (a9.1 k hk).2.1
  exact ⟨wd_uk a1 (wd_ne a1 hka (by simp)), wd_uk a2 (wd_ne a2 hka (by simp)), wd_uk a3 (wd_ne a3 hka (by simp)), wd_uk a4 (wd_ne a4 hka (by simp)), wd_uk a5 (wd_ne a5 hka (by simp)), wd_uk a6 (wd_ne a6 hka (by simp)), pz_un a7 hka (by simp) (by simp), a8, a9.up hk hr, a10.un hka (by simp), a12⟩
theorem RC.cJ (h : RC T σ x n R nc CR Q aI aC aJ aW aB aP ab fI fC jn wn bk qb ia aa ca) : RC T (wd_up σ aJ (aN T 31 jn')) x n R nc CR Q aI aC aJ aW aB aP ab fI fC jn' wn bk qb ia aa ca := by
  obtain ⟨a1, a2, a3, a4, a5, a6, a7, a8, a9, a10, a12⟩ := h
  exact ⟨wd_uk a1 (wd_ne a1 a4 (by simp)), wd_uk a2 (wd_ne a2 a4 (by simp)), wd_uk a3 (wd_ne a3 a4 (by simp)), wd_us _ _ _, wd_uk a5 (Ne.symm a12.2.2), wd_uk a6 (wd_ne a6 a4 (by simp)), pz_un a7 a4 (by simp) (by simp), a8, a9.un a4 (by simp) (by simp), a10.un a4 (by simp), a12⟩
theorem RC.cB (h : RC T σ x n R nc CR Q aI aC aJ aW aB aP ab fI fC jn wn bk qb ia aa ca) : RC T (wd_up σ aB (aN T 21 bk')) x n R nc CR Q aI aC aJ aW aB aP ab fI fC jn wn bk' qb ia aa ca := by
  obtain ⟨a1, a2, a3, a4, a5, a6, a7, a8, a9, a10, a12⟩ := h
  exact ⟨wd_uk a1 (wd_ne a1 a6 (by simp)), wd_uk a2 (wd_ne a2 a6 (by simp)), wd_uk a3 (wd_ne a3 a6 (by simp)), wd_uk a4 (wd_ne a4 a6 (by simp)), wd_uk a5 (wd_ne a5 a6 (by simp)), wd_us _ _ _, pz_un a7 a6 (by simp) (by simp), a8, a9.un a6 (by simp) (by simp), a10.un a6 (by simp), a12⟩
theorem RC.cW (h : RC T σ x n R nc CR Q aI aC aJ aW aB aP ab fI fC jn wn bk qb ia aa ca) : RC T (wd_up σ aW (.inl (T 1, 31, .inl wn'))) x n R nc CR Q aI aC aJ aW aB aP ab fI fC jn wn' bk qb ia aa ca := by
  obtain ⟨a1, a2, a3, a4, a5, a6, a7, a8, a9, a10, a12⟩ := h
  exact ⟨wd_uk a1 (wd_ne a1 a5 (by simp)), wd_uk a2 (wd_ne a2 a5 (by simp)), wd_uk a3 (wd_ne a3 a5 (by simp)), wd_uk a4 a12.2.2, wd_us _ _ _, wd_uk a6 (wd_ne a6 a5 (by simp)), pz_un a7 a5 (by simp) (by simp), a8, a9.un a5 (by simp) (by simp), a10.un a5 (by simp), a12⟩
theorem cnt_set {f : Nat} {c : Int32} (h0 : ¬ R k f = c) : ∀ n, k < n → cnt (va_up R k r) f c n = cnt R f c n + (if r f = c then 1 else 0)
  | 0, h => absurd h (Nat.not_lt_zero _)
  | n + 1, h => by
    show cnt (va_up R k r) f c n + (if va_up R k r n f = c then 1 else 0) = cnt R f c n + (if R n f = c then 1 else 0) + (if r f = c then 1 else 0)
    by_cases hn : n = k
    · subst hn
      rw [va_up_self, if_neg h0]
      have : ∀ m, m ≤ n → cnt (va_up R n r) f c m = cnt R f c m := by
        intro m
        induction m with
        | zero => intro _; rfl
        | succ m ih =>
          intro hm
          show cnt (va_up R n r) f c m + (if va_up R n r m f = c then 1 else 0) = cnt R f c m + (if R m f = c then 1 else 0)
          rw [ih (by omega), va_up_ne _ _ (by omega : m ≠ n)]
      rw [this n (Nat.le_refl n)]
      omega
    · rw [va_up_ne _ _ hn, cnt_set h0 n (by omega)]
      omega
theorem cnt_le {f : Nat} {c : Int32} : ∀ n, cnt R f c n ≤ n
  | 0 => Nat.le_refl _
  | n + 1 => by
    show cnt R f c n + (if R n f = c then 1 else 0) ≤ n + 1
    have := cnt_le (f := f) (c := c) n
    split <;> omega
theorem rxN.join {m : Nat} (h : rxN n R wg jn wn bk) (hk : k < n) (h0 : R k 10 = 0) (hm : m ≤ 30) : rxN n (va_up R k (upd (R k) 10 (nI m))) wg (upd jn m (jn m + 1)) wn bk := by
  refine ⟨fun c h1 h2 => ?_, fun c h1 h2 => by rw [cnt_up n (pk_un (by decide))]; exact h.2.1 c h1 h2, h.2.2⟩
  have hne : ¬ R k 10 = nI c := by rw [h0]; exact fun z => nI_ne0 (by omega) (by omega) z.symm
  rw [cnt_set hne n hk, pk_us]
  by_cases hc : c = m
  · subst hc
    rw [pk_us, if_pos rfl, h.1 c h1 h2, nI_1]
  · rw [pk_un hc, if_neg (fun z => hc ((nI_eq (by omega) (by omega)).mp z).symm)]
    exact h.1 c h1 h2
theorem rxN.bulk {m : Nat} (h : rxN n R wg jn wn bk) (hk : k < n) (h0 : R k 11 = 0) (hm : m ≤ 20) : rxN n (va_up R k (upd (R k) 11 (nI m))) wg jn wn (upd bk m (bk m + 1)) := by
  refine ⟨fun c h1 h2 => by rw [cnt_up n (pk_un (by decide))]; exact h.1 c h1 h2, fun c h1 h2 => ?_, h.2.2⟩
  have hne : ¬ R k 11 = nI c := by rw [h0]; exact fun z => nI_ne0 (by omega) (by omega) z.symm
  rw [cnt_set hne n hk, pk_us]
  by_cases hc : c = m
  · subst hc
    rw [pk_us, if_pos rfl, h.2.1 c h1 h2, nI_1]
  · rw [pk_un hc, if_neg (fun z => hc ((nI_eq (by omega) (by omega)).mp z).symm)]
    exact h.2.1 c h1 h2
theorem rxN.wait {m : Nat} {v : Int32} (h : rxN n R wg jn wn bk) : rxN n R (upd wg m v) jn (upd wn m v) bk := ⟨h.1, h.2.1, fun c hc => by
  by_cases hcm : c = m
  · subst hcm; rw [pk_us, pk_us]
  · rw [pk_un hcm, pk_un hcm]; exact h.2.2 c hc⟩
theorem c_in {c b : Int32} {n : Nat} (h : ¬ xw c 1 b = 0) (hb : b.toInt = n) (hn : n < 1000) : ∃ m, 1 ≤ m ∧ m ≤ n ∧ c = nI m := by
  obtain ⟨h1, h2⟩ := xw_out h
  rw [Int32.lt_iff_toInt_lt] at h1 h2
  have e1 : (1 : Int32).toInt = 1 := rfl
  have e0 : (0 : Int32).toInt = 0 := rfl
  obtain ⟨j, hj, rfl⟩ := nI_of (x := c) (by rw [Int32.lt_iff_toInt_lt]; omega)
  rw [nI_toInt hj] at h1 h2
  exact ⟨j, by omega, by omega, rfl⟩
/-- a row of contents comes -/
theorem con_lo {m j : Nat} {wh ce v : Int32} (hj : j < 14) : upd (upd (upd r (15 + 2 * m) wh) (16 + 2 * m) ce) 14 v j = r j := by
  rw [pk_un (by omega), pk_un (by omega), pk_un (by omega)]
theorem con_w {m z : Nat} {wh ce v : Int32} : upd (fun j => r (15 + 2 * j)) m wh z = upd (upd (upd r (15 + 2 * m) wh) (16 + 2 * m) ce) 14 v (15 + 2 * z) := by
  rw [pk_un (show 15 + 2 * z ≠ 14 by omega), pk_un (show 15 + 2 * z ≠ 16 + 2 * m by omega)]
  by_cases hz : z = m
  · subst hz; rw [pk_us, pk_us]
  · rw [pk_un hz, pk_un (show 15 + 2 * z ≠ 15 + 2 * m by omega)]
theorem con_c {m z : Nat} {wh ce v : Int32} : upd (fun j => r (16 + 2 * j)) m ce z = upd (upd (upd r (15 + 2 * m) wh) (16 + 2 * m) ce) 14 v (16 + 2 * z) := by
  rw [pk_un (show 16 + 2 * z ≠ 14 by omega)]
  by_cases hz : z = m
  · subst hz; rw [pk_us, pk_us]
  · rw [pk_un hz, pk_un (show 16 + 2 * z ≠ 16 + 2 * m by omega), pk_un (show 16 + 2 * z ≠ 15 + 2 * m by omega)]
theorem RC.cont {m : Nat} {wh ce v : Int32} (h : RC T σ x n R nc CR Q aI aC aJ aW aB aP ab fI fC jn wn bk qb ia aa ca) (hk : k < n) : RC T (wd_up (wd_up (wd_up σ (aa (2 * k)) (aN T 4 (upd (fun j => R k (15 + 2 * j)) m wh))) (aa (2 * k + 1)) (aN T 4 (upd (fun j => R k (16 + 2 * j)) m ce))) (ia k) (.inr (1, [.int (R k 0), .int (R k 1), .int (R k 2), .int (R k 3), .int (R k 4), .int (R k 5), .int (R k 6), .int (R k 7), .int (R k 8), .int (R k 9), .int (R k 10), .int (R k 11), .int (R k 12), .int (R k 13), .int v, .ref (aa (2 * k)), .ref (aa (2 * k + 1))]))) x n (va_up R k (upd (upd (upd (R k) (15 + 2 * m) wh) (16 + 2 * m) ce) 14 v)) nc CR Q aI aC aJ aW aB aP ab fI fC jn wn bk qb ia aa ca := by
  obtain ⟨a1, a2, a3, a4, a5, a6, a7, a8, a9, a10, a12⟩ := h
  obtain ⟨g1, g2, g3, g4⟩ := a9.1 k hk
  have hU : ∀ {z : Nat} {e : va_E}, σ z = some e → (∀ f, e ≠ aN T 4 f) → (∀ r w c, e ≠ xI r w c) → ∀ {e1 e2 e3 : va_E}, wd_up (wd_up (wd_up σ (aa (2 * k)) e1) (aa (2 * k + 1)) e2) (ia k) e3 z = some e := fun {z e} hz h1 h2 {e1 e2 e3} => wd_uk (wd_uk (wd_uk hz (wd_ne hz g3 (h1 _))) (wd_ne hz g4 (h1 _))) (wd_ne hz g2 (h2 _ _ _))
  have n1 : aa (2 * k) ≠ aa (2 * k + 1) := fun z => by have := a9.2.2 (2 * k) (2 * k + 1) (by omega) (by omega) z; omega
  have n2 : aa (2 * k) ≠ ia k := wd_ne g3 g2 (by simp)
  have n3 : aa (2 * k + 1) ≠ ia k := wd_ne g4 g2 (by simp)
  refine ⟨hU a1 (by simp) (by simp), hU a2 (by simp) (by simp), hU a3 (by simp) (by simp), hU a4 (by simp) (by simp), hU a5 (by simp) (by simp), hU a6 (by simp) (by simp), ⟨hU a7.1 (by simp) (by simp), hU a7.2.1 (by simp) (by simp), a7.2.2.1, fun _ _ _ => rfl⟩, a8, ⟨fun j hj => ?_, a9.2⟩, fun j hj => ⟨(a10 j hj).1, hU (a10 j hj).2 (by simp) (by simp)⟩, a12⟩
  by_cases hjk : j = k
  · subst hjk
    rw [va_up_self]
    refine ⟨g1, ?_, ?_, ?_⟩
    · rw [wd_us]
      simp only [xI, con_lo (show 0 < 14 by decide), con_lo (show 1 < 14 by decide), con_lo (show 2 < 14 by decide), con_lo (show 3 < 14 by decide), con_lo (show 4 < 14 by decide), con_lo (show 5 < 14 by decide), con_lo (show 6 < 14 by decide), con_lo (show 7 < 14 by decide), con_lo (show 8 < 14 by decide), con_lo (show 9 < 14 by decide), con_lo (show 10 < 14 by decide), con_lo (show 11 < 14 by decide), con_lo (show 12 < 14 by decide), con_lo (show 13 < 14 by decide), pk_us]
    · rw [wd_un _ _ n2, wd_un _ _ n1, wd_us]
      congr 5
      funext z
      exact con_w
    · rw [wd_un _ _ n3, wd_us]
      congr 5
      funext z
      exact con_c
  · obtain ⟨f1, f2, f3, f4⟩ := a9.1 j hj
    rw [va_up_ne _ _ hjk]
    have d1 : ∀ u w, u < 2 * n → w < 2 * n → u ≠ w → aa u ≠ aa w := fun u w hu hw hne z => hne (a9.2.2 u w hu hw z)
    exact ⟨f1, wd_uk (wd_uk (wd_uk f2 (wd_ne f2 g3 (by simp))) (wd_ne f2 g4 (by simp))) (fun z => hjk (a9.2.1 j k hj hk z)),
      wd_uk (wd_uk (wd_uk f3 (d1 _ _ (by omega) (by omega) (by omega))) (d1 _ _ (by omega) (by omega) (by omega))) (wd_ne f3 g2 (by simp)),
      wd_uk (wd_uk (wd_uk f4 (d1 _ _ (by omega) (by omega) (by omega))) (d1 _ _ (by omega) (by omega) (by omega))) (wd_ne f4 g2 (by simp))⟩
end RX3
def okr (r : Nat → Int32) : Prop := (0 ≤ (r 0).toInt ∧ (r 0).toInt ≤ 3) ∧ (1 ≤ (r 1).toInt ∧ (r 1).toInt ≤ 31500) ∧ (0 ≤ (r 2).toInt ∧ (r 2).toInt ≤ 3) ∧ (0 ≤ (r 4).toInt ∧ (r 4).toInt ≤ 63) ∧ (0 ≤ (r 5).toInt ∧ (r 5).toInt ≤ 9) ∧ (r 6 = 0 ∨ r 6 = 1) ∧ (0 ≤ (r 9).toInt ∧ (r 9).toInt ≤ 30) ∧ (0 ≤ (r 10).toInt ∧ (r 10).toInt ≤ 30) ∧ (0 ≤ (r 11).toInt ∧ (r 11).toInt ≤ 20) ∧ (0 ≤ (r 14).toInt ∧ (r 14).toInt ≤ 4)
theorem okr.k {r : Nat → Int32} (h : okr r) : r 0 = 0 ∨ r 0 = 1 ∨ r 0 = 2 ∨ r 0 = 3 := by
  have h0 := h.1
  rcases (show (r 0).toInt = 0 ∨ (r 0).toInt = 1 ∨ (r 0).toInt = 2 ∨ (r 0).toInt = 3 by omega) with q | q | q | q
  · exact Or.inl (Int32.toInt_inj.mp q)
  · exact Or.inr (Or.inl (Int32.toInt_inj.mp q))
  · exact Or.inr (Or.inr (Or.inl (Int32.toInt_inj.mp q)))
  · exact Or.inr (Or.inr (Or.inr (Int32.toInt_inj.mp q)))
theorem okr.m {r : Nat → Int32} (h : okr r) (h4 : r 14 < 4) : vp_in (r 14) 4 := by
  rw [Int32.lt_iff_toInt_lt] at h4
  have e4 : (4 : Int32).toInt = 4 := rfl
  have := h.2.2.2.2.2.2.2.2.2.1
  rw [vp_in_iff]
  omega
def o_join (S : xS) (i c wt : Int32) : Int32 × xS := match o_find S.1 i with
  | none => (-101, S)
  | some k => if xw c 1 30 = 0 then (-102, S) else if S.2.1 k 10 = 0 then (if xe (S.2.1 k 5) = 0 then (nI (cnt S.2.1 10 c S.1 + 1), (S.1, va_up S.2.1 k (upd (S.2.1 k) 10 c), S.2.2.1, S.2.2.2.1, (if cnt S.2.1 10 c S.1 = 0 then upd S.2.2.2.2.1 c.toNatClampNeg (vp_nar .boolean wt) else S.2.2.2.2.1), S.2.2.2.2.2)) else (-103, S)) else (-103, S)
def o_bulk (S : xS) (i c : Int32) : Int32 × xS := match o_find S.1 i with
  | none => (-101, S)
  | some k => if xw c 1 20 = 0 then (-102, S) else if S.2.1 k 11 = 0 then (nI (cnt S.2.1 11 c S.1 + 1), (S.1, va_up S.2.1 k (upd (S.2.1 k) 11 c), S.2.2)) else (-103, S)
theorem nI_z {m : Nat} (h : m < 1000) : nI m = 0 ↔ m = 0 := nI_eq (a := m) (b := 0) (by omega) (by decide)
