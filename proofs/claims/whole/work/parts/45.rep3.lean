/-! what comes new: items, corrections; the first state -/
def newr (kd w z sd : Int32) : Nat → Int32 := fun j => if j = 0 then kd else if j = 1 then w else if j = 2 then z else if j = 3 then sd else if j = 7 then -1 else if j = 8 then -1 else if j = 13 then -1 else 0
def crow (i wh was v re : Int32) : Nat → Int32 := fun j => if j = 0 then i else if j = 1 then wh else if j = 2 then was else if j = 3 then v else re
def o_item (S : xS) (kd w z sd : Int32) : Int32 × xS := if xw kd 0 3 = 0 then (-102, S) else if xw w 1 100000 = 0 then (-102, S) else if xw z 0 9 = 0 then (-102, S) else if xw sd 0 99 = 0 then (-102, S) else if nI S.1 < 120 then (if w ≤ 31500 then (if z ≤ 3 then (nI (S.1 + 1), (S.1 + 1, va_up S.2.1 S.1 (newr (xt kd w z) w z sd), S.2.2)) else (-110, S)) else (-109, S)) else (-104, S)
def o_corr (S : xS) (i wh v re : Int32) : Int32 × xS := match o_find S.1 i with
  | none => (-101, S)
  | some k => if xy wh v = 0 then (-102, S) else if xw re 1 9 = 0 then (-102, S) else if xs (S.2.1 k) wh v = 0 then (if nI S.2.2.1 < 200 then (if wh = 1 ∧ ¬ v ≤ 31500 then (-109, S) else if wh = 2 ∧ ¬ v ≤ 3 then (-110, S) else (nI (S.2.2.1 + 1), (S.1, va_up S.2.1 k (xm (S.2.1 k) wh v), S.2.2.1 + 1, va_up S.2.2.2.1 S.2.2.1 (crow i wh (xc (S.2.1 k) wh) v re), S.2.2.2.2))) else (-104, S)) else (-103, S)
section RX4
variable {T : Nat → ClassId} {σ σ' : wd_S} {x n : Nat} {R : Nat → Nat → Int32} {nc : Nat} {CR : Nat → Nat → Int32} {wg : Nat → Int32} {Q Q' q : pq} {aI aC aJ aW aB aP ab : Nat} {fI fC : Nat → Option Nat} {jn wn bk qb jn' wn' bk' : Nat → Int32} {ia aa ca : Nat → Nat} {k b : Nat} {e e0 : va_E} {r : Nat → Int32}
theorem cnt_new {f : Nat} {c : Int32} : ∀ m, m ≤ n → cnt (va_up R n r) f c m = cnt R f c m
  | 0, _ => rfl
  | m + 1, h => by
    show cnt (va_up R n r) f c m + (if va_up R n r m f = c then 1 else 0) = cnt R f c m + (if R m f = c then 1 else 0)
    rw [cnt_new m (by omega), va_up_ne _ _ (show m ≠ n by omega)]
theorem rxN.add (h : rxN n R wg jn wn bk) (h10 : r 10 = 0) (h11 : r 11 = 0) : rxN (n + 1) (va_up R n r) wg jn wn bk := by
  refine ⟨fun c h1 h2 => ?_, fun c h1 h2 => ?_, h.2.2⟩
  · show jn c = nI (cnt (va_up R n r) 10 (nI c) n + (if va_up R n r n 10 = nI c then 1 else 0))
    rw [cnt_new n (Nat.le_refl n), va_up_self, h10, if_neg (fun z => nI_ne0 (by omega) (by omega) z.symm)]
    exact h.1 c h1 h2
  · show bk c = nI (cnt (va_up R n r) 11 (nI c) n + (if va_up R n r n 11 = nI c then 1 else 0))
    rw [cnt_new n (Nat.le_refl n), va_up_self, h11, if_neg (fun z => nI_ne0 (by omega) (by omega) z.symm)]
    exact h.2.1 c h1 h2
/-- an item more: its cell q, its arrays q1, q2 are new; σ' is σ with them, the array of items and the count written -/
theorem RB.add {q q1 q2 : Nat} (h : RB T σ x n R nc CR wg Q aI aC aJ aW aB aP ab fI fC jn wn bk qb ia aa ca) (hn : n < 120) (hq : σ q = none) (hq1 : σ q1 = none) (hq2 : σ q2 = none) (n1 : q1 ≠ q2) (n2 : q ≠ q1) (n3 : q ≠ q2)
    (e1 : σ' q = some (xI r q1 q2)) (e2 : σ' q1 = some (aN T 4 (fun j => r (15 + 2 * j)))) (e3 : σ' q2 = some (aN T 4 (fun j => r (16 + 2 * j)))) (e4 : σ' x = some (.inr (0, [.ref aI, .int (nI (n + 1)), .ref aC, .int (nI nc), .ref aJ, .ref aW, .ref aB, .ref aP]))) (e5 : σ' aI = some (aQ T 2 120 (va_up fI n (some q)))) (e6 : ∀ b, b ≠ q → b ≠ q1 → b ≠ q2 → b ≠ x → b ≠ aI → σ' b = σ b) (h10 : r 10 = 0) (h11 : r 11 = 0) : RX T σ' x (n + 1, va_up R n r, nc, CR, wg, Q) := by
  obtain ⟨a1, a2, a3, a4, a5, a6, a7, a8, a9, a10, a11, a12⟩ := h
  have hU : ∀ {z : Nat} {e : va_E}, σ z = some e → (∀ l, e ≠ .inr (0, l)) → (∀ f, e ≠ aQ T 2 120 f) → σ' z = some e := fun {z e} hz h1 h2 => (e6 z (wd_nn hz hq) (wd_nn hz hq1) (wd_nn hz hq2) (wd_ne hz a1 (h1 _)) (wd_ne hz a2 (h2 _))).trans hz
  refine RB.rx (aI := aI) (aC := aC) (aJ := aJ) (aW := aW) (aB := aB) (aP := aP) (ab := ab) (fI := va_up fI n (some q)) (fC := fC) (jn := jn) (wn := wn) (bk := bk) (qb := qb) (ia := va_up ia n q) (aa := va_up (va_up aa (2 * n) q1) (2 * n + 1) q2) (ca := ca) ⟨e4, e5, hU a3 (by simp) (by simp), hU a4 (by simp) (by simp), hU a5 (by simp) (by simp), hU a6 (by simp) (by simp), ⟨hU a7.1 (by simp) (by simp), hU a7.2.1 (by simp) (by simp), a7.2.2.1, fun _ _ _ => rfl⟩, a8, ⟨fun k hk => ?_, fun k j hk hj hkj => ?_, fun k j hk hj hkj => ?_⟩, fun k hk => ⟨(a10 k hk).1, hU (a10 k hk).2 (by simp) (by simp)⟩, a11.add h10 h11, by omega, a12.2⟩
  · by_cases hkn : k = n
    · subst hkn
      rw [va_up_self, va_up_self, va_up_self, va_up_self, va_up_ne _ _ (show 2 * k ≠ 2 * k + 1 by omega), va_up_self]
      exact ⟨rfl, e1, e2, e3⟩
    · obtain ⟨g1, g2, g3, g4⟩ := a9.1 k (by omega)
      rw [va_up_ne _ _ hkn, va_up_ne _ _ hkn, va_up_ne _ _ hkn, va_up_ne _ _ (show 2 * k ≠ 2 * n + 1 by omega), va_up_ne _ _ (show 2 * k ≠ 2 * n by omega), va_up_ne _ _ (show 2 * k + 1 ≠ 2 * n + 1 by omega), va_up_ne _ _ (show 2 * k + 1 ≠ 2 * n by omega)]
      exact ⟨g1, hU g2 (by simp) (by simp), hU g3 (by simp) (by simp), hU g4 (by simp) (by simp)⟩
  · have hnq : ∀ m, m < n → ia m ≠ q := fun m hm => wd_nn (a9.1 m hm).2.1 hq
    by_cases hkn : k = n <;> by_cases hjn : j = n
    · omega
    · subst hkn
      rw [va_up_self, va_up_ne _ _ hjn] at hkj
      exact absurd hkj.symm (hnq j (by omega))
    · subst hjn
      rw [va_up_self, va_up_ne _ _ hkn] at hkj
      exact absurd hkj (hnq k (by omega))
    · rw [va_up_ne _ _ hkn, va_up_ne _ _ hjn] at hkj
      exact a9.2.1 k j (by omega) (by omega) hkj
  · have hz : ∀ m, m < 2 * n → aa m ≠ q1 ∧ aa m ≠ q2 := fun m hm => by
      obtain ⟨-, -, g3, g4⟩ := a9.1 (m / 2) (by omega)
      rcases (show m = 2 * (m / 2) ∨ m = 2 * (m / 2) + 1 by omega) with q | q
      · rw [q]; exact ⟨wd_nn g3 hq1, wd_nn g3 hq2⟩
      · rw [q]; exact ⟨wd_nn g4 hq1, wd_nn g4 hq2⟩
    have hv : ∀ m, m < 2 * (n + 1) → (m < 2 * n ∧ va_up (va_up aa (2 * n) q1) (2 * n + 1) q2 m = aa m) ∨ (m = 2 * n ∧ va_up (va_up aa (2 * n) q1) (2 * n + 1) q2 m = q1) ∨ (m = 2 * n + 1 ∧ va_up (va_up aa (2 * n) q1) (2 * n + 1) q2 m = q2) := fun m hm => by
      rcases (show m < 2 * n ∨ m = 2 * n ∨ m = 2 * n + 1 by omega) with q | q | q
      · exact Or.inl ⟨q, by rw [va_up_ne _ _ (by omega), va_up_ne _ _ (by omega)]⟩
      · exact Or.inr (Or.inl ⟨q, by rw [va_up_ne _ _ (by omega), q, va_up_self]⟩)
      · exact Or.inr (Or.inr ⟨q, by rw [q, va_up_self]⟩)
    rcases hv k hk with ⟨u1, u2⟩ | ⟨u1, u2⟩ | ⟨u1, u2⟩ <;> rcases hv j hj with ⟨v1, v2⟩ | ⟨v1, v2⟩ | ⟨v1, v2⟩ <;> rw [u2, v2] at hkj
    · exact a9.2.2 k j u1 v1 hkj
    · exact absurd hkj (hz k u1).1
    · exact absurd hkj (hz k u1).2
    · exact absurd hkj.symm (hz j v1).1
    · omega
    · exact absurd hkj n1
    · exact absurd hkj.symm (hz j v1).2
    · exact absurd hkj.symm n1
    · omega
/-- a correction more -/
theorem RB.corr {q : Nat} {c : Nat → Int32} (h : RB T σ x n R nc CR wg Q aI aC aJ aW aB aP ab fI fC jn wn bk qb ia aa ca) (hn : nc < 200) (hk : k < n) (hq : σ q = none)
    (e1 : σ' q = some (xC c)) (e2 : σ' x = some (.inr (0, [.ref aI, .int (nI n), .ref aC, .int (nI (nc + 1)), .ref aJ, .ref aW, .ref aB, .ref aP]))) (e3 : σ' aC = some (aQ T 3 200 (va_up fC nc (some q)))) (e4 : σ' (ia k) = some (xI r (aa (2 * k)) (aa (2 * k + 1)))) (e6 : ∀ b, b ≠ q → b ≠ x → b ≠ aC → b ≠ ia k → σ' b = σ b) (h1 : r 10 = R k 10) (h2 : r 11 = R k 11) (hr : ∀ j, 15 ≤ j → r j = R k j) : RX T σ' x (n, va_up R k r, nc + 1, va_up CR nc c, wg, Q) := by
  obtain ⟨a1, a2, a3, a4, a5, a6, a7, a8, a9, a10, a11, a12⟩ := h
  obtain ⟨g1, g2, g3, g4⟩ := a9.1 k hk
  have hU : ∀ {z : Nat} {e : va_E}, σ z = some e → (∀ l, e ≠ .inr (0, l)) → (∀ f, e ≠ aQ T 3 200 f) → (∀ r w c, e ≠ xI r w c) → σ' z = some e := fun {z e} hz h1 h2 h3 => (e6 z (wd_nn hz hq) (wd_ne hz a1 (h1 _)) (wd_ne hz a3 (h2 _)) (wd_ne hz g2 (h3 _ _ _))).trans hz
  refine RB.rx (aI := aI) (aC := aC) (aJ := aJ) (aW := aW) (aB := aB) (aP := aP) (ab := ab) (fI := fI) (fC := va_up fC nc (some q)) (jn := jn) (wn := wn) (bk := bk) (qb := qb) (ia := ia) (aa := aa) (ca := va_up ca nc q) ⟨e2, hU a2 (by simp) (by simp) (by simp), e3, hU a4 (by simp) (by simp) (by simp), hU a5 (by simp) (by simp) (by simp), hU a6 (by simp) (by simp) (by simp), ⟨hU a7.1 (by simp) (by simp) (by simp), hU a7.2.1 (by simp) (by simp) (by simp), a7.2.2.1, fun _ _ _ => rfl⟩, a8, ⟨fun j hj => ?_, a9.2⟩, fun j hj => ?_, a11.up h1 h2, a12.1, by omega, a12.2.2⟩
  · obtain ⟨f1, f2, f3, f4⟩ := a9.1 j hj
    by_cases hjk : j = k
    · subst hjk
      rw [va_up_self]
      refine ⟨f1, e4, ?_, ?_⟩
      · rw [hU f3 (by simp) (by simp) (by simp), show (fun z => R j (15 + 2 * z)) = fun z => r (15 + 2 * z) from funext fun z => (hr _ (by omega)).symm]
      · rw [hU f4 (by simp) (by simp) (by simp), show (fun z => R j (16 + 2 * z)) = fun z => r (16 + 2 * z) from funext fun z => (hr _ (by omega)).symm]
    · rw [va_up_ne _ _ hjk]
      exact ⟨f1, (e6 _ (wd_nn f2 hq) (wd_ne f2 a1 (by simp)) (wd_ne f2 a3 (by simp)) (fun z => hjk (a9.2.1 j k hj hk z))).trans f2, hU f3 (by simp) (by simp) (by simp), hU f4 (by simp) (by simp) (by simp)⟩
  · by_cases hjn : j = nc
    · subst hjn
      rw [va_up_self, va_up_self, va_up_self]
      exact ⟨rfl, e1⟩
    · obtain ⟨f1, f2⟩ := a10 j (by omega)
      rw [va_up_ne _ _ hjn, va_up_ne _ _ hjn, va_up_ne _ _ hjn]
      exact ⟨f1, hU f2 (by simp) (by simp) (by simp)⟩
end RX4
theorem xm_lo {r : Nat → Int32} {wh v : Int32} {j : Nat} (h : 9 ≤ j) : xm r wh v j = r j := by
  unfold xm xm0
  rw [pk_un (by omega)]
  repeat' split
  all_goals first | rfl | exact pk_un (by omega)
