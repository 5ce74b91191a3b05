/-! THE PURE SIDE: what each method answers and what the state becomes. An item is a function r: 0 kind, 1 weight, 2 size, 3 sender, 4 services, 5 state, 6 damaged, 7 read, 8 settled, 9 land, 10 consignment, 11 bulk, 12 late, 13 openers, 14 rows of contents, from 15 on: 15 + 2 j the what of row j, 16 + 2 j its cents -/
def xw (v a b : Int32) : Int32 := if v < a then 0 else if b < v then 0 else 1
def xt (k w z : Int32) : Int32 := if k < 1 ∧ ¬ 50 < w ∧ ¬ 0 < z then 0 else if k < 2 ∧ ¬ 500 < w ∧ ¬ 1 < z then 1 else if k < 3 ∧ ¬ 2000 < w ∧ ¬ 2 < z then 2 else 3
def xh (sv t : Int32) : Int32 := if (sv >>> (t &&& 31)) &&& 1 = 1 then 1 else 0
def xe (st : Int32) : Int32 := if st = 5 then 1 else if st = 9 then 1 else 0
def xa (dm st : Int32) : Int32 := if dm = 0 then (if st = 8 then 1 else 0) else 1
def xl0 (ex : Int32) : Int32 := if (ex >>> (0 &&& 31)) &&& 1 = 1 then 0 else if (ex >>> (1 &&& 31)) &&& 1 = 1 then 1 else if (ex >>> (2 &&& 31)) &&& 1 = 1 then 2 else if (ex >>> (3 &&& 31)) &&& 1 = 1 then 3 else if (ex >>> (4 &&& 31)) &&& 1 = 1 then 4 else if (ex >>> (5 &&& 31)) &&& 1 = 1 then 5 else -1
def xl (sv t : Int32) : Int32 := if xw t 0 5 = 0 then -1 else xl0 (sv &&& x_ex.getD t.toNatClampNeg 0)
def xk (r : Nat → Int32) (t : Int32) : Int32 := if t = 1 then (if xh (r 4) 0 = 0 then 1 else 0) else if t = 2 then 0 else if t = 3 then (if xh (r 4) 0 = 0 then 1 else 0) else if t = 4 then (if xh (r 4) 0 = 0 then 1 else if r 0 = 0 then 1 else 0) else if t = 5 then (if 2 ≤ r 0 then 0 else 1) else 0
def xb (r : Nat → Int32) (ev : Int32) : Int32 :=
  if r 6 = 0 then
    (if ev = 0 then (if r 5 = 0 then 1 else -1)
    else if ev = 1 then (if r 5 = 7 then 7 else if r 5 = 1 then 2 else if r 5 = 3 then 2 else -1)
    else if ev = 2 then (if r 5 = 2 then 3 else -1)
    else if ev = 3 then (if r 5 = 3 then 4 else if r 5 = 6 then 4 else -1)
    else if ev = 4 then (if r 5 = 4 then 5 else if r 5 = 7 then 5 else -1)
    else if ev = 5 then (if r 5 = 4 then 6 else -1)
    else if ev = 6 then (if r 5 = 4 then 7 else if r 5 = 6 then 7 else -1)
    else if ev = 7 then r 5
    else if ev = 8 then -1
    else if ev = 9 then (if r 5 = 7 then 8 else if r 5 = 6 then 8 else -1)
    else if ev = 10 then 9
    else -1)
  else (if ev = 8 then r 5 else if ev = 10 then 9 else -1)
def xu (r : Nat → Int32) (ev nx : Int32) : Nat → Int32 := if ev = 7 then upd (upd r 5 nx) 6 1 else if ev = 8 then upd (upd r 5 nx) 6 0 else upd r 5 nx
def xc (r : Nat → Int32) (wh : Int32) : Int32 := if wh = 0 then r 0 else if wh = 1 then r 1 else if wh = 2 then r 2 else if wh = 3 then r 7 else if wh = 4 then r 8 else -1
def xs (r : Nat → Int32) (wh v : Int32) : Int32 := if wh = 0 then (if xw v 0 3 = 0 then 0 else if xt v (r 1) (r 2) = r 0 then 1 else 0) else (if xc r wh = v then 1 else 0)
def xm0 (r : Nat → Int32) (wh v : Int32) : Nat → Int32 := if wh = 0 then upd r 0 v else if wh = 1 then upd r 1 v else if wh = 2 then upd r 2 v else if wh = 3 then upd r 7 v else if wh = 4 then upd r 8 v else r
def xm (r : Nat → Int32) (wh v : Int32) : Nat → Int32 := upd (xm0 r wh v) 0 (xt (xm0 r wh v 0) (xm0 r wh v 1) (xm0 r wh v 2))
def xf (r : Nat → Int32) (wh : Int32) : Int32 := if wh = 0 then r 5 else if wh = 1 then r 0 else if wh = 2 then r 1 else if wh = 3 then r 2 else if wh = 4 then r 4 else if wh = 5 then r 7 else if wh = 6 then r 8 else if wh = 7 then r 9 else if wh = 8 then r 10 else if wh = 9 then r 11 else if wh = 10 then r 12 else if wh = 11 then (if r 6 = 0 then 0 else 1) else if wh = 12 then r 3 else if wh = 13 then r 13 else -102
def xp (k : Nat → Int32) (wh : Int32) : Int32 := if wh = 0 then k 0 else if wh = 1 then k 1 else if wh = 2 then k 2 else if wh = 3 then k 3 else if wh = 4 then k 4 else -1
def xy (wh v : Int32) : Int32 := if wh = 0 then xw v 0 3 else if wh = 1 then xw v 1 100000 else if wh = 2 then xw v 0 9 else if wh = 3 then xw v 0 9999 else if wh = 4 then xw v 0 9999 else 0
/-- bytes: the array and how many are used -/
abbrev pq : Type := (Nat → Int32) × Nat
def pa (q : pq) (v : Int32) : pq := if (30 : Int32) ≤ nI q.2 then q else (upd q.1 q.2 (v &&& 255), q.2 + 1)
def p2 (q : pq) (v : Int32) : pq := pa (pa q (v >>> (8 &&& 31))) v
def pe (q : pq) (v : Int32) : pq := p2 q (if v = -1 then 65535 else v)
def px (f : Nat → Int32) : Nat → Int32
  | 0 => 0
  | n + 1 => px f n ^^^ f n
def pc1 (r : Nat → Int32) (q : pq) (k : Nat) : pq := p2 (pa (pa q (r (15 + 2 * k))) (r (16 + 2 * k) >>> (16 &&& 31))) (r (16 + 2 * k))
def pc (r : Nat → Int32) (q : pq) : pq := if r 14 ≤ 0 then q else if r 14 ≤ 1 then pc1 r q 0 else if r 14 ≤ 2 then pc1 r (pc1 r q 0) 1 else if r 14 ≤ 3 then pc1 r (pc1 r (pc1 r q 0) 1) 2 else pc1 r (pc1 r (pc1 r (pc1 r q 0) 1) 2) 3
def ph (f : Nat → Int32) (num : Int32) (r : Nat → Int32) : pq := pa (pa (pe (pe (pa (pa (p2 (pa (p2 (f, 0) num) (r 0 + 16 * r 2)) (r 1)) (r 4)) (if r 6 = 0 then r 5 else r 5 + 128)) (r 7)) (r 8)) (r 9)) (r 14)
def pf (f : Nat → Int32) (num : Int32) (r : Nat → Int32) : pq := pa (pc r (ph f num r)) (px (pc r (ph f num r)).1 (pc r (ph f num r)).2)
abbrev xI (r : Nat → Int32) (w c : Nat) : va_E := .inr (1, [.int (r 0), .int (r 1), .int (r 2), .int (r 3), .int (r 4), .int (r 5), .int (r 6), .int (r 7), .int (r 8), .int (r 9), .int (r 10), .int (r 11), .int (r 12), .int (r 13), .int (r 14), .ref w, .ref c])
theorem sw_ne {x k : Int32} {n : Int} (h : ¬ x = k) (hk : k.toInt = n) : x.toInt ≠ n := fun z => h (Int32.toInt_inj.mp (z.trans hk.symm))
theorem xw_01 (v a b : Int32) : xw v a b = 0 ∨ xw v a b = 1 := by
  unfold xw
  split
  · exact Or.inl rfl
  · split
    · exact Or.inl rfl
    · exact Or.inr rfl
theorem df_F : ∀ j, j < 8 → defaultValue (t_F j) = vp_V [.null, .int 0, .null, .int 0, .null, .null, .null, .null] j := by decide +kernel
theorem df_I : ∀ j, j < 17 → defaultValue (t_I j) = vp_V [.int 0, .int 0, .int 0, .int 0, .int 0, .int 0, .int 0, .int 0, .int 0, .int 0, .int 0, .int 0, .int 0, .int 0, .int 0, .null, .null] j := by decide +kernel
theorem df_C : ∀ j, j < 5 → defaultValue (t_C j) = vp_V [.int 0, .int 0, .int 0, .int 0, .int 0] j := by decide +kernel
theorem df_P : ∀ j, j < 2 → defaultValue (t_P j) = vp_V [.null, .int 0] j := by decide +kernel
theorem df_M : ∀ j, j < 23 → defaultValue (t_M j) = vp_V [.int 0, .null, .null, .null, .null, .null, .null, .null, .null, .null, .null, .null, .null, .null, .null, .null, .null, .null, .null, .int 0, .null, .int 0, .null] j := by decide +kernel
theorem xw_out {v a b : Int32} (h : ¬ xw v a b = 0) : ¬ v < a ∧ ¬ b < v := by
  unfold xw at h
  refine ⟨fun z => h (by rw [if_pos z]), fun z => h ?_⟩
  by_cases y : v < a
  · rw [if_pos y]
  · rw [if_neg y, if_pos z]
theorem xw_vp {v a b : Int32} {n : Nat} (h : ¬ xw v a b = 0) (ha : 0 ≤ a.toInt) (hb : b.toInt < n) : vp_in v n := by
  obtain ⟨h1, h2⟩ := xw_out h
  rw [Int32.lt_iff_toInt_lt] at h1 h2
  rw [vp_in_iff]
  omega
theorem xw_03 {v : Int32} (h : ¬ xw v 0 3 = 0) : v = 0 ∨ v = 1 ∨ v = 2 ∨ v = 3 := by
  obtain ⟨h1, h2⟩ := xw_out h
  rw [Int32.lt_iff_toInt_lt] at h1 h2
  have e0 : (0 : Int32).toInt = 0 := rfl
  have e3 : (3 : Int32).toInt = 3 := rfl
  rcases (show v.toInt = 0 ∨ v.toInt = 1 ∨ v.toInt = 2 ∨ v.toInt = 3 by omega) with q | q | q | q
  · exact Or.inl (Int32.toInt_inj.mp q)
  · exact Or.inr (Or.inl (Int32.toInt_inj.mp q))
  · exact Or.inr (Or.inr (Or.inl (Int32.toInt_inj.mp q)))
  · exact Or.inr (Or.inr (Or.inr (Int32.toInt_inj.mp q)))
abbrev xC (k : Nat → Int32) : va_E := .inr (2, [.int (k 0), .int (k 1), .int (k 2), .int (k 3), .int (k 4)])
def bc1 (i : Int32) : Int32 := i - ((i.toUInt32 >>> ((1 : Int32).toUInt32 &&& Int32.toUInt32 31)).toInt32 &&& 1431655765)
def bc2 (i : Int32) : Int32 := (i &&& 858993459) + ((i.toUInt32 >>> ((2 : Int32).toUInt32 &&& Int32.toUInt32 31)).toInt32 &&& 858993459)
def bc3 (i : Int32) : Int32 := (i + (i.toUInt32 >>> ((4 : Int32).toUInt32 &&& Int32.toUInt32 31)).toInt32) &&& 252645135
def bc4 (i : Int32) : Int32 := i + (i.toUInt32 >>> ((8 : Int32).toUInt32 &&& Int32.toUInt32 31)).toInt32
def bc5 (i : Int32) : Int32 := i + (i.toUInt32 >>> ((16 : Int32).toUInt32 &&& Int32.toUInt32 31)).toInt32
def bc (i : Int32) : Int32 := bc5 (bc4 (bc3 (bc2 (bc1 i)))) &&& 63
