theorem wd_imp {l : Launch} {D : va_G} {A : Nat → Prop} {y : MethodName} {ws : List Cond} {rm : Room} {Pc : Array Value → State → Prop} {mc ms : Nat} {post post' : Int32 → wd_S → Prop} (h : Met l y ws rm Pc (va_Qi post (wd_B D A) A) mc ms A) (hi : ∀ r σ1, post r σ1 → post' r σ1) : Met l y ws rm Pc (va_Qi post' (wd_B D A) A) mc ms A := by
  intro p e ha hc hk s m args below hf happ hP hT
  obtain ⟨k, o, h1, h2, h3, ⟨⟨⟨r, u, q1, q2, q3⟩, q4⟩, q5⟩⟩ := h p e ha hc hk s m args below hf happ hP hT
  exact ⟨k, o, h1, h2, h3, ⟨⟨⟨r, u, q1, hi r u q2, q3⟩, q4⟩, q5⟩⟩
theorem RX.cell {T : Nat → ClassId} {σ : wd_S} {x : Nat} {S : xS} (h : RX T σ x S) : ∃ fs : List Value, σ x = some (.inr (0, fs)) := by
  obtain ⟨aI, aC, aJ, aW, aB, aP, ab, fI, fC, jn, wn, bk, qb, ia, aa, ca, hB⟩ := h
  exact ⟨_, hB.1⟩
theorem RM.cell {T : Nat → ClassId} {σ : wd_S} {y : Nat} {S : xS} (h : RM T σ y S) : ∃ fs : List Value, σ y = some (.inr (4, fs)) := by
  obtain ⟨am, fm, hM⟩ := h
  exact ⟨_, hM.1.1⟩
theorem w_F_item (l : Launch) (D : va_G) (T : Nat → ClassId) (A : Nat → Prop) (σ : wd_S) (x : Nat) (S : xS) (hr : RX T σ x S) (hok : ∀ k, k < S.1 → okr (S.2.1 k)) (a1 : Int32) (a2 : Int32) (a3 : Int32) (a4 : Int32) : Met l y_F_item (Cond.code y_F_item b_F_item 5 (some .int) :: wd_tb) { frames := 2, cells := 3, slots := 25, locals := 36 } (va_Pc [.ref x, .int a1, .int a2, .int a3, .int a4] (wd_Pre D T A σ)) (va_Qi (fun r1 σ1 => r1 = (o_item S a1 a2 a3 a4).1 ∧ RX T σ1 x (o_item S a1 a2 a3 a4).2) (wd_B D A) A) 3 25 A := by
  obtain ⟨n, R, nc, CR, wg, Q⟩ := S
  obtain ⟨aI, aC, aJ, aW, aB, aP, ab, fI, fC, jn, wn, bk, qb, ia, aa, ca, hB⟩ := hr
  exact c_F_item l D T A σ x n R nc CR wg Q aI aC aJ aW aB aP ab fI fC jn wn bk qb ia aa ca hB a1 a2 a3 a4
theorem w_M_item (l : Launch) (D : va_G) (T : Nat → ClassId) (A : Nat → Prop) (σ : wd_S) (y : Nat) (S : xS) (hr : RM T σ y S) (hok : ∀ k, k < S.1 → okr (S.2.1 k)) (a1 : Int32) (a2 : Int32) (a3 : Int32) (a4 : Int32) : Met l y_M_item (Cond.code y_M_item b_M_item 6 (some .int) :: wd_tb) { frames := 2, cells := 0, slots := 0, locals := 43 } (va_Pc [.ref y, .int a1, .int a2, .int a3, .int a4] (wd_Pre D T A σ)) (va_Qi (fun r1 σ1 => r1 = (o_item S a1 a2 a3 a4).1 ∧ RM T σ1 y (o_item S a1 a2 a3 a4).2) (wd_B D A) A) 0 0 A := by
  obtain ⟨n, R, nc, CR, wg, Q⟩ := S
  obtain ⟨am, fm, hM⟩ := hr
  exact c_M_item l D T A σ y am fm n R nc CR wg Q hM a1 a2 a3 a4
theorem w_F_service (l : Launch) (D : va_G) (T : Nat → ClassId) (A : Nat → Prop) (σ : wd_S) (x : Nat) (S : xS) (hr : RX T σ x S) (hok : ∀ k, k < S.1 → okr (S.2.1 k)) (a1 : Int32) (a2 : Int32) : Met l y_F_service (Cond.code y_F_service b_F_service 5 (some .int) :: wd_tb) { frames := 2, cells := 0, slots := 0, locals := 45 } (va_Pc [.ref x, .int a1, .int a2] (wd_Pre D T A σ)) (va_Qi (fun r1 σ1 => r1 = (o_upd S a1 (f_srv a2)).1 ∧ RX T σ1 x (o_upd S a1 (f_srv a2)).2) (wd_B D A) A) 0 0 A := by
  obtain ⟨n, R, nc, CR, wg, Q⟩ := S
  obtain ⟨aI, aC, aJ, aW, aB, aP, ab, fI, fC, jn, wn, bk, qb, ia, aa, ca, hB⟩ := hr
  exact c_F_service l D T A σ x n R nc CR wg Q aI aC aJ aW aB aP ab fI fC jn wn bk qb ia aa ca hB a1 a2
theorem w_M_service (l : Launch) (D : va_G) (T : Nat → ClassId) (A : Nat → Prop) (σ : wd_S) (y : Nat) (S : xS) (hr : RM T σ y S) (hok : ∀ k, k < S.1 → okr (S.2.1 k)) (a1 : Int32) (a2 : Int32) : Met l y_M_service (Cond.code y_M_service b_M_service 6 (some .int) :: wd_tb) { frames := 2, cells := 0, slots := 0, locals := 43 } (va_Pc [.ref y, .int a1, .int a2] (wd_Pre D T A σ)) (va_Qi (fun r1 σ1 => r1 = (o_upd S a1 (f_srv a2)).1 ∧ RM T σ1 y (o_upd S a1 (f_srv a2)).2) (wd_B D A) A) 0 0 A := by
  obtain ⟨n, R, nc, CR, wg, Q⟩ := S
  obtain ⟨am, fm, hM⟩ := hr
  exact c_M_service l D T A σ y am fm n R nc CR wg Q hM hok a1 a2
theorem w_F_event (l : Launch) (D : va_G) (T : Nat → ClassId) (A : Nat → Prop) (σ : wd_S) (x : Nat) (S : xS) (hr : RX T σ x S) (hok : ∀ k, k < S.1 → okr (S.2.1 k)) (a1 : Int32) (a2 : Int32) : Met l y_F_event (Cond.code y_F_event b_F_event 5 (some .int) :: wd_tb) { frames := 2, cells := 0, slots := 0, locals := 45 } (va_Pc [.ref x, .int a1, .int a2] (wd_Pre D T A σ)) (va_Qi (fun r1 σ1 => r1 = (o_upd S a1 (f_evt (o_mw S.1 S.2.1 S.2.2.2.2.1) a2)).1 ∧ RX T σ1 x (o_upd S a1 (f_evt (o_mw S.1 S.2.1 S.2.2.2.2.1) a2)).2) (wd_B D A) A) 0 0 A := by
  obtain ⟨n, R, nc, CR, wg, Q⟩ := S
  obtain ⟨aI, aC, aJ, aW, aB, aP, ab, fI, fC, jn, wn, bk, qb, ia, aa, ca, hB⟩ := hr
  exact c_F_event l D T A σ x n R nc CR wg Q aI aC aJ aW aB aP ab fI fC jn wn bk qb ia aa ca hB a1 a2
theorem w_M_event (l : Launch) (D : va_G) (T : Nat → ClassId) (A : Nat → Prop) (σ : wd_S) (y : Nat) (S : xS) (hr : RM T σ y S) (hok : ∀ k, k < S.1 → okr (S.2.1 k)) (a1 : Int32) (a2 : Int32) : Met l y_M_event (Cond.code y_M_event b_M_event 4 (some .int) :: wd_tb) { frames := 2, cells := 0, slots := 0, locals := 45 } (va_Pc [.ref y, .int a1, .int a2] (wd_Pre D T A σ)) (va_Qi (fun r1 σ1 => r1 = (o_upd S a1 (f_evt (o_mw S.1 S.2.1 S.2.2.2.2.1) a2)).1 ∧ RM T σ1 y (o_upd S a1 (f_evt (o_mw S.1 S.2.1 S.2.2.2.2.1) a2)).2) (wd_B D A) A) 0 0 A := by
  obtain ⟨n, R, nc, CR, wg, Q⟩ := S
  obtain ⟨am, fm, hM⟩ := hr
  exact c_M_event l D T A σ y am fm n R nc CR wg Q hM hok a1 a2
theorem w_F_address (l : Launch) (D : va_G) (T : Nat → ClassId) (A : Nat → Prop) (σ : wd_S) (x : Nat) (S : xS) (hr : RX T σ x S) (hok : ∀ k, k < S.1 → okr (S.2.1 k)) (a1 : Int32) (a2 : Int32) (a3 : Int32) : Met l y_F_address (Cond.code y_F_address b_F_address 6 (some .int) :: wd_tb) { frames := 2, cells := 0, slots := 0, locals := 43 } (va_Pc [.ref x, .int a1, .int a2, .int a3] (wd_Pre D T A σ)) (va_Qi (fun r1 σ1 => r1 = (o_upd S a1 (f_adr a2 a3)).1 ∧ RX T σ1 x (o_upd S a1 (f_adr a2 a3)).2) (wd_B D A) A) 0 0 A := by
  obtain ⟨n, R, nc, CR, wg, Q⟩ := S
  obtain ⟨aI, aC, aJ, aW, aB, aP, ab, fI, fC, jn, wn, bk, qb, ia, aa, ca, hB⟩ := hr
  exact c_F_address l D T A σ x n R nc CR wg Q aI aC aJ aW aB aP ab fI fC jn wn bk qb ia aa ca hB a1 a2 a3
theorem w_M_address (l : Launch) (D : va_G) (T : Nat → ClassId) (A : Nat → Prop) (σ : wd_S) (y : Nat) (S : xS) (hr : RM T σ y S) (hok : ∀ k, k < S.1 → okr (S.2.1 k)) (a1 : Int32) (a2 : Int32) (a3 : Int32) : Met l y_M_address (Cond.code y_M_address b_M_address 5 (some .int) :: wd_tb) { frames := 2, cells := 0, slots := 0, locals := 43 } (va_Pc [.ref y, .int a1, .int a2, .int a3] (wd_Pre D T A σ)) (va_Qi (fun r1 σ1 => r1 = (o_upd S a1 (f_adr a2 a3)).1 ∧ RM T σ1 y (o_upd S a1 (f_adr a2 a3)).2) (wd_B D A) A) 0 0 A := by
  obtain ⟨n, R, nc, CR, wg, Q⟩ := S
  obtain ⟨am, fm, hM⟩ := hr
  exact c_M_address l D T A σ y am fm n R nc CR wg Q hM a1 a2 a3
theorem w_F_abroad (l : Launch) (D : va_G) (T : Nat → ClassId) (A : Nat → Prop) (σ : wd_S) (x : Nat) (S : xS) (hr : RX T σ x S) (hok : ∀ k, k < S.1 → okr (S.2.1 k)) (a1 : Int32) (a2 : Int32) : Met l y_F_abroad (Cond.code y_F_abroad b_F_abroad 4 (some .int) :: wd_tb) { frames := 2, cells := 0, slots := 0, locals := 43 } (va_Pc [.ref x, .int a1, .int a2] (wd_Pre D T A σ)) (va_Qi (fun r1 σ1 => r1 = (o_upd S a1 (f_abr a2)).1 ∧ RX T σ1 x (o_upd S a1 (f_abr a2)).2) (wd_B D A) A) 0 0 A := by
  obtain ⟨n, R, nc, CR, wg, Q⟩ := S
  obtain ⟨aI, aC, aJ, aW, aB, aP, ab, fI, fC, jn, wn, bk, qb, ia, aa, ca, hB⟩ := hr
  exact c_F_abroad l D T A σ x n R nc CR wg Q aI aC aJ aW aB aP ab fI fC jn wn bk qb ia aa ca hB a1 a2
theorem w_M_abroad (l : Launch) (D : va_G) (T : Nat → ClassId) (A : Nat → Prop) (σ : wd_S) (y : Nat) (S : xS) (hr : RM T σ y S) (hok : ∀ k, k < S.1 → okr (S.2.1 k)) (a1 : Int32) (a2 : Int32) : Met l y_M_abroad (Cond.code y_M_abroad b_M_abroad 3 (some .int) :: wd_tb) { frames := 2, cells := 0, slots := 0, locals := 43 } (va_Pc [.ref y, .int a1, .int a2] (wd_Pre D T A σ)) (va_Qi (fun r1 σ1 => r1 = (o_upd S a1 (f_abr a2)).1 ∧ RM T σ1 y (o_upd S a1 (f_abr a2)).2) (wd_B D A) A) 0 0 A := by
  obtain ⟨n, R, nc, CR, wg, Q⟩ := S
  obtain ⟨am, fm, hM⟩ := hr
  exact c_M_abroad l D T A σ y am fm n R nc CR wg Q hM hok a1 a2
theorem w_F_contents (l : Launch) (D : va_G) (T : Nat → ClassId) (A : Nat → Prop) (σ : wd_S) (x : Nat) (S : xS) (hr : RX T σ x S) (hok : ∀ k, k < S.1 → okr (S.2.1 k)) (a1 : Int32) (a2 : Int32) (a3 : Int32) : Met l y_F_contents (Cond.code y_F_contents b_F_contents 5 (some .int) :: wd_tb) { frames := 2, cells := 0, slots := 0, locals := 43 } (va_Pc [.ref x, .int a1, .int a2, .int a3] (wd_Pre D T A σ)) (va_Qi (fun r1 σ1 => r1 = (o_upd S a1 (f_con a2 a3)).1 ∧ RX T σ1 x (o_upd S a1 (f_con a2 a3)).2) (wd_B D A) A) 0 0 A := by
  obtain ⟨n, R, nc, CR, wg, Q⟩ := S
  obtain ⟨aI, aC, aJ, aW, aB, aP, ab, fI, fC, jn, wn, bk, qb, ia, aa, ca, hB⟩ := hr
  exact c_F_contents l D T A σ x n R nc CR wg Q aI aC aJ aW aB aP ab fI fC jn wn bk qb ia aa ca hB hok a1 a2 a3
theorem w_M_contents (l : Launch) (D : va_G) (T : Nat → ClassId) (A : Nat → Prop) (σ : wd_S) (y : Nat) (S : xS) (hr : RM T σ y S) (hok : ∀ k, k < S.1 → okr (S.2.1 k)) (a1 : Int32) (a2 : Int32) (a3 : Int32) : Met l y_M_contents (Cond.code y_M_contents b_M_contents 4 (some .int) :: wd_tb) { frames := 2, cells := 0, slots := 0, locals := 43 } (va_Pc [.ref y, .int a1, .int a2, .int a3] (wd_Pre D T A σ)) (va_Qi (fun r1 σ1 => r1 = (o_upd S a1 (f_con a2 a3)).1 ∧ RM T σ1 y (o_upd S a1 (f_con a2 a3)).2) (wd_B D A) A) 0 0 A := by
  obtain ⟨n, R, nc, CR, wg, Q⟩ := S
  obtain ⟨am, fm, hM⟩ := hr
  exact c_M_contents l D T A σ y am fm n R nc CR wg Q hM hok a1 a2 a3
theorem w_F_join (l : Launch) (D : va_G) (T : Nat → ClassId) (A : Nat → Prop) (σ : wd_S) (x : Nat) (S : xS) (hr : RX T σ x S) (hok : ∀ k, k < S.1 → okr (S.2.1 k)) (a1 : Int32) (a2 : Int32) (a3 : Int32) : Met l y_F_join (Cond.code y_F_join b_F_join 5 (some .int) :: wd_tb) { frames := 2, cells := 0, slots := 0, locals := 43 } (va_Pc [.ref x, .int a1, .int a2, .int a3] (wd_Pre D T A σ)) (va_Qi (fun r1 σ1 => r1 = (o_join S a1 a2 a3).1 ∧ RX T σ1 x (o_join S a1 a2 a3).2) (wd_B D A) A) 0 0 A := by
  obtain ⟨n, R, nc, CR, wg, Q⟩ := S
  obtain ⟨aI, aC, aJ, aW, aB, aP, ab, fI, fC, jn, wn, bk, qb, ia, aa, ca, hB⟩ := hr
  exact c_F_join l D T A σ x n R nc CR wg Q aI aC aJ aW aB aP ab fI fC jn wn bk qb ia aa ca hB a1 a2 a3
theorem w_M_join (l : Launch) (D : va_G) (T : Nat → ClassId) (A : Nat → Prop) (σ : wd_S) (y : Nat) (S : xS) (hr : RM T σ y S) (hok : ∀ k, k < S.1 → okr (S.2.1 k)) (a1 : Int32) (a2 : Int32) (a3 : Int32) : Met l y_M_join (Cond.code y_M_join b_M_join 4 (some .int) :: wd_tb) { frames := 2, cells := 0, slots := 0, locals := 43 } (va_Pc [.ref y, .int a1, .int a2, .int a3] (wd_Pre D T A σ)) (va_Qi (fun r1 σ1 => r1 = (o_join S a1 a2 a3).1 ∧ RM T σ1 y (o_join S a1 a2 a3).2) (wd_B D A) A) 0 0 A := by
  obtain ⟨n, R, nc, CR, wg, Q⟩ := S
  obtain ⟨am, fm, hM⟩ := hr
  exact c_M_join l D T A σ y am fm n R nc CR wg Q hM hok a1 a2 a3
theorem w_F_bulk (l : Launch) (D : va_G) (T : Nat → ClassId) (A : Nat → Prop) (σ : wd_S) (x : Nat) (S : xS) (hr : RX T σ x S) (hok : ∀ k, k < S.1 → okr (S.2.1 k)) (a1 : Int32) (a2 : Int32) : Met l y_F_bulk (Cond.code y_F_bulk b_F_bulk 4 (some .int) :: wd_tb) { frames := 2, cells := 0, slots := 0, locals := 43 } (va_Pc [.ref x, .int a1, .int a2] (wd_Pre D T A σ)) (va_Qi (fun r1 σ1 => r1 = (o_bulk S a1 a2).1 ∧ RX T σ1 x (o_bulk S a1 a2).2) (wd_B D A) A) 0 0 A := by
  obtain ⟨n, R, nc, CR, wg, Q⟩ := S
  obtain ⟨aI, aC, aJ, aW, aB, aP, ab, fI, fC, jn, wn, bk, qb, ia, aa, ca, hB⟩ := hr
  exact c_F_bulk l D T A σ x n R nc CR wg Q aI aC aJ aW aB aP ab fI fC jn wn bk qb ia aa ca hB a1 a2
theorem w_M_bulk (l : Launch) (D : va_G) (T : Nat → ClassId) (A : Nat → Prop) (σ : wd_S) (y : Nat) (S : xS) (hr : RM T σ y S) (hok : ∀ k, k < S.1 → okr (S.2.1 k)) (a1 : Int32) (a2 : Int32) : Met l y_M_bulk (Cond.code y_M_bulk b_M_bulk 3 (some .int) :: wd_tb) { frames := 2, cells := 0, slots := 0, locals := 43 } (va_Pc [.ref y, .int a1, .int a2] (wd_Pre D T A σ)) (va_Qi (fun r1 σ1 => r1 = (o_bulk S a1 a2).1 ∧ RM T σ1 y (o_bulk S a1 a2).2) (wd_B D A) A) 0 0 A := by
  obtain ⟨n, R, nc, CR, wg, Q⟩ := S
  obtain ⟨am, fm, hM⟩ := hr
  exact c_M_bulk l D T A σ y am fm n R nc CR wg Q hM hok a1 a2
theorem w_F_open (l : Launch) (D : va_G) (T : Nat → ClassId) (A : Nat → Prop) (σ : wd_S) (x : Nat) (S : xS) (hr : RX T σ x S) (hok : ∀ k, k < S.1 → okr (S.2.1 k)) (a1 : Int32) (a2 : Int32) (a3 : Int32) : Met l y_F_open (Cond.code y_F_open b_F_open 5 (some .int) :: wd_tb) { frames := 2, cells := 0, slots := 0, locals := 43 } (va_Pc [.ref x, .int a1, .int a2, .int a3] (wd_Pre D T A σ)) (va_Qi (fun r1 σ1 => r1 = (o_upd S a1 (f_opn a2 a3)).1 ∧ RX T σ1 x (o_upd S a1 (f_opn a2 a3)).2) (wd_B D A) A) 0 0 A := by
  obtain ⟨n, R, nc, CR, wg, Q⟩ := S
  obtain ⟨aI, aC, aJ, aW, aB, aP, ab, fI, fC, jn, wn, bk, qb, ia, aa, ca, hB⟩ := hr
  exact c_F_open l D T A σ x n R nc CR wg Q aI aC aJ aW aB aP ab fI fC jn wn bk qb ia aa ca hB a1 a2 a3
theorem w_M_open (l : Launch) (D : va_G) (T : Nat → ClassId) (A : Nat → Prop) (σ : wd_S) (y : Nat) (S : xS) (hr : RM T σ y S) (hok : ∀ k, k < S.1 → okr (S.2.1 k)) (a1 : Int32) (a2 : Int32) (a3 : Int32) : Met l y_M_open (Cond.code y_M_open b_M_open 4 (some .int) :: wd_tb) { frames := 2, cells := 0, slots := 0, locals := 43 } (va_Pc [.ref y, .int a1, .int a2, .int a3] (wd_Pre D T A σ)) (va_Qi (fun r1 σ1 => r1 = (o_upd S a1 (f_opn a2 a3)).1 ∧ RM T σ1 y (o_upd S a1 (f_opn a2 a3)).2) (wd_B D A) A) 0 0 A := by
  obtain ⟨n, R, nc, CR, wg, Q⟩ := S
  obtain ⟨am, fm, hM⟩ := hr
  exact c_M_open l D T A σ y am fm n R nc CR wg Q hM a1 a2 a3
theorem w_F_correct (l : Launch) (D : va_G) (T : Nat → ClassId) (A : Nat → Prop) (σ : wd_S) (x : Nat) (S : xS) (hr : RX T σ x S) (hok : ∀ k, k < S.1 → okr (S.2.1 k)) (a1 : Int32) (a2 : Int32) (a3 : Int32) (a4 : Int32) : Met l y_F_correct (Cond.code y_F_correct b_F_correct 6 (some .int) :: wd_tb) { frames := 2, cells := 1, slots := 5, locals := 45 } (va_Pc [.ref x, .int a1, .int a2, .int a3, .int a4] (wd_Pre D T A σ)) (va_Qi (fun r1 σ1 => r1 = (o_corr S a1 a2 a3 a4).1 ∧ RX T σ1 x (o_corr S a1 a2 a3 a4).2) (wd_B D A) A) 1 5 A := by
  obtain ⟨n, R, nc, CR, wg, Q⟩ := S
  obtain ⟨aI, aC, aJ, aW, aB, aP, ab, fI, fC, jn, wn, bk, qb, ia, aa, ca, hB⟩ := hr
  exact c_F_correct l D T A σ x n R nc CR wg Q aI aC aJ aW aB aP ab fI fC jn wn bk qb ia aa ca hB hok a1 a2 a3 a4
theorem w_M_correct (l : Launch) (D : va_G) (T : Nat → ClassId) (A : Nat → Prop) (σ : wd_S) (y : Nat) (S : xS) (hr : RM T σ y S) (hok : ∀ k, k < S.1 → okr (S.2.1 k)) (a1 : Int32) (a2 : Int32) (a3 : Int32) (a4 : Int32) : Met l y_M_correct (Cond.code y_M_correct b_M_correct 12 (some .int) :: wd_tb) { frames := 2, cells := 0, slots := 0, locals := 43 } (va_Pc [.ref y, .int a1, .int a2, .int a3, .int a4] (wd_Pre D T A σ)) (va_Qi (fun r1 σ1 => r1 = (o_corr S a1 a2 a3 a4).1 ∧ RM T σ1 y (o_corr S a1 a2 a3 a4).2) (wd_B D A) A) 0 0 A := by
  obtain ⟨n, R, nc, CR, wg, Q⟩ := S
  obtain ⟨am, fm, hM⟩ := hr
  exact c_M_correct l D T A σ y am fm n R nc CR wg Q hM hok a1 a2 a3 a4
theorem w_F_row (l : Launch) (D : va_G) (T : Nat → ClassId) (A : Nat → Prop) (σ : wd_S) (x : Nat) (S : xS) (hr : RX T σ x S) (hok : ∀ k, k < S.1 → okr (S.2.1 k)) (a1 : Int32) (a2 : Int32) : Met l y_F_row (Cond.code y_F_row b_F_row 4 (some .int) :: wd_tb) { frames := 1, cells := 0, slots := 0, locals := 22 } (va_Pc [.ref x, .int a1, .int a2] (wd_Pre D T A σ)) (va_Qi (fun r1 σ1 => r1 = o_row S.2.2.1 S.2.2.2.1 a1 a2 ∧ RX T σ1 x S) (wd_B D A) A) 0 0 A := by
  obtain ⟨n, R, nc, CR, wg, Q⟩ := S
  obtain ⟨aI, aC, aJ, aW, aB, aP, ab, fI, fC, jn, wn, bk, qb, ia, aa, ca, hB⟩ := hr
  exact wd_imp (c_F_row l D T A σ x n R nc CR wg Q aI aC aJ aW aB aP ab fI fC jn wn bk qb ia aa ca hB a1 a2) (fun r1 σ1 h => ⟨h.1, by rw [h.2]; exact RB.rx hB⟩)
theorem w_M_row (l : Launch) (D : va_G) (T : Nat → ClassId) (A : Nat → Prop) (σ : wd_S) (y : Nat) (S : xS) (hr : RM T σ y S) (hok : ∀ k, k < S.1 → okr (S.2.1 k)) (a1 : Int32) (a2 : Int32) : Met l y_M_row (Cond.code y_M_row b_M_row 3 (some .int) :: wd_tb) { frames := 1, cells := 0, slots := 0, locals := 22 } (va_Pc [.ref y, .int a1, .int a2] (wd_Pre D T A σ)) (va_Qi (fun r1 σ1 => r1 = o_row S.2.2.1 S.2.2.2.1 a1 a2 ∧ RM T σ1 y S) (wd_B D A) A) 0 0 A := by
  obtain ⟨n, R, nc, CR, wg, Q⟩ := S
  obtain ⟨am, fm, hM⟩ := hr
  exact wd_imp (c_M_row l D T A σ y am fm n R nc CR wg Q hM a1 a2) (fun r1 σ1 h => ⟨h.1, by rw [h.2]; exact MB.rm hM⟩)
theorem w_F_about (l : Launch) (D : va_G) (T : Nat → ClassId) (A : Nat → Prop) (σ : wd_S) (x : Nat) (S : xS) (hr : RX T σ x S) (hok : ∀ k, k < S.1 → okr (S.2.1 k)) (a1 : Int32) (a2 : Int32) : Met l y_F_about (Cond.code y_F_about b_F_about 4 (some .int) :: wd_tb) { frames := 2, cells := 0, slots := 0, locals := 43 } (va_Pc [.ref x, .int a1, .int a2] (wd_Pre D T A σ)) (va_Qi (fun r1 σ1 => r1 = (o_upd S a1 (f_abt a2)).1 ∧ RX T σ1 x (o_upd S a1 (f_abt a2)).2) (wd_B D A) A) 0 0 A := by
  obtain ⟨n, R, nc, CR, wg, Q⟩ := S
  obtain ⟨aI, aC, aJ, aW, aB, aP, ab, fI, fC, jn, wn, bk, qb, ia, aa, ca, hB⟩ := hr
  exact c_F_about l D T A σ x n R nc CR wg Q aI aC aJ aW aB aP ab fI fC jn wn bk qb ia aa ca hB a1 a2
theorem w_M_about (l : Launch) (D : va_G) (T : Nat → ClassId) (A : Nat → Prop) (σ : wd_S) (y : Nat) (S : xS) (hr : RM T σ y S) (hok : ∀ k, k < S.1 → okr (S.2.1 k)) (a1 : Int32) (a2 : Int32) : Met l y_M_about (Cond.code y_M_about b_M_about 3 (some .int) :: wd_tb) { frames := 2, cells := 0, slots := 0, locals := 43 } (va_Pc [.ref y, .int a1, .int a2] (wd_Pre D T A σ)) (va_Qi (fun r1 σ1 => r1 = (o_upd S a1 (f_abt a2)).1 ∧ RM T σ1 y (o_upd S a1 (f_abt a2)).2) (wd_B D A) A) 0 0 A := by
  obtain ⟨n, R, nc, CR, wg, Q⟩ := S
  obtain ⟨am, fm, hM⟩ := hr
  exact c_M_about l D T A σ y am fm n R nc CR wg Q hM a1 a2
theorem w_F_pack (l : Launch) (D : va_G) (T : Nat → ClassId) (A : Nat → Prop) (σ : wd_S) (x : Nat) (S : xS) (hr : RX T σ x S) (hok : ∀ k, k < S.1 → okr (S.2.1 k)) (a1 : Int32) : Met l y_F_pack (Cond.code y_F_pack b_F_pack 3 (some .int) :: wd_tb) { frames := 4, cells := 0, slots := 0, locals := 86 } (va_Pc [.ref x, .int a1] (wd_Pre D T A σ)) (va_Qi (fun r1 σ1 => r1 = (o_pack S a1).1 ∧ RX T σ1 x (o_pack S a1).2) (wd_B D A) A) 0 0 A := by
  obtain ⟨n, R, nc, CR, wg, Q⟩ := S
  obtain ⟨aI, aC, aJ, aW, aB, aP, ab, fI, fC, jn, wn, bk, qb, ia, aa, ca, hB⟩ := hr
  exact c_F_pack l D T A σ x n R nc CR wg Q aI aC aJ aW aB aP ab fI fC jn wn bk qb ia aa ca hB a1
theorem w_M_pack (l : Launch) (D : va_G) (T : Nat → ClassId) (A : Nat → Prop) (σ : wd_S) (y : Nat) (S : xS) (hr : RM T σ y S) (hok : ∀ k, k < S.1 → okr (S.2.1 k)) (a1 : Int32) : Met l y_M_pack (Cond.code y_M_pack b_M_pack 4 (some .int) :: wd_tb) { frames := 2, cells := 0, slots := 0, locals := 43 } (va_Pc [.ref y, .int a1] (wd_Pre D T A σ)) (va_Qi (fun r1 σ1 => r1 = (o_pack S a1).1 ∧ RM T σ1 y (o_pack S a1).2) (wd_B D A) A) 0 0 A := by
  obtain ⟨n, R, nc, CR, wg, Q⟩ := S
  obtain ⟨am, fm, hM⟩ := hr
  exact c_M_pack l D T A σ y am fm n R nc CR wg Q hM hok a1
theorem w_F_octet (l : Launch) (D : va_G) (T : Nat → ClassId) (A : Nat → Prop) (σ : wd_S) (x : Nat) (S : xS) (hr : RX T σ x S) (hok : ∀ k, k < S.1 → okr (S.2.1 k)) (a1 : Int32) : Met l y_F_octet (Cond.code y_F_octet b_F_octet 2 (some .int) :: wd_tb) { frames := 2, cells := 0, slots := 0, locals := 43 } (va_Pc [.ref x, .int a1] (wd_Pre D T A σ)) (va_Qi (fun r1 σ1 => r1 = o_oct S.2.2.2.2.2 a1 ∧ RX T σ1 x S) (wd_B D A) A) 0 0 A := by
  obtain ⟨n, R, nc, CR, wg, Q⟩ := S
  obtain ⟨aI, aC, aJ, aW, aB, aP, ab, fI, fC, jn, wn, bk, qb, ia, aa, ca, hB⟩ := hr
  exact wd_imp (c_F_octet l D T A σ x n R nc CR wg Q aI aC aJ aW aB aP ab fI fC jn wn bk qb ia aa ca hB a1) (fun r1 σ1 h => ⟨h.1, by rw [h.2]; exact RB.rx hB⟩)
theorem w_M_octet (l : Launch) (D : va_G) (T : Nat → ClassId) (A : Nat → Prop) (σ : wd_S) (y : Nat) (S : xS) (hr : RM T σ y S) (hok : ∀ k, k < S.1 → okr (S.2.1 k)) (a1 : Int32) : Met l y_M_octet (Cond.code y_M_octet b_M_octet 2 (some .int) :: wd_tb) { frames := 1, cells := 0, slots := 0, locals := 22 } (va_Pc [.ref y, .int a1] (wd_Pre D T A σ)) (va_Qi (fun r1 σ1 => r1 = o_oct S.2.2.2.2.2 a1 ∧ RM T σ1 y S) (wd_B D A) A) 0 0 A := by
  obtain ⟨n, R, nc, CR, wg, Q⟩ := S
  obtain ⟨am, fm, hM⟩ := hr
  exact wd_imp (c_M_octet l D T A σ y am fm n R nc CR wg Q hM a1) (fun r1 σ1 h => ⟨h.1, by rw [h.2]; exact MB.rm hM⟩)
theorem w_F_aside (l : Launch) (D : va_G) (T : Nat → ClassId) (A : Nat → Prop) (σ : wd_S) (x : Nat) (S : xS) (hr : RX T σ x S) (hok : ∀ k, k < S.1 → okr (S.2.1 k)) (a1 : Int32) : Met l y_F_aside (Cond.code y_F_aside b_F_aside 5 (some .int) :: wd_tb) { frames := 1, cells := 0, slots := 0, locals := 20 } (va_Pc [.ref x, .int a1] (wd_Pre D T A σ)) (va_Qi (fun r1 σ1 => r1 = o_asd S.1 S.2.1 a1 ∧ RX T σ1 x S) (wd_B D A) A) 0 0 A := by
  obtain ⟨n, R, nc, CR, wg, Q⟩ := S
  obtain ⟨aI, aC, aJ, aW, aB, aP, ab, fI, fC, jn, wn, bk, qb, ia, aa, ca, hB⟩ := hr
  exact wd_imp (c_F_aside l D T A σ x n R nc CR wg Q aI aC aJ aW aB aP ab fI fC jn wn bk qb ia aa ca hB a1) (fun r1 σ1 h => ⟨h.1, by rw [h.2]; exact RB.rx hB⟩)
theorem w_M_aside (l : Launch) (D : va_G) (T : Nat → ClassId) (A : Nat → Prop) (σ : wd_S) (y : Nat) (S : xS) (hr : RM T σ y S) (hok : ∀ k, k < S.1 → okr (S.2.1 k)) (a1 : Int32) : Met l y_M_aside (Cond.code y_M_aside b_M_aside 4 (some .int) :: wd_tb) { frames := 0, cells := 0, slots := 0, locals := 0 } (va_Pc [.ref y, .int a1] (wd_Pre D T A σ)) (va_Qi (fun r1 σ1 => r1 = o_asd S.1 S.2.1 a1 ∧ RM T σ1 y S) (wd_B D A) A) 0 0 A := by
  obtain ⟨n, R, nc, CR, wg, Q⟩ := S
  obtain ⟨am, fm, hM⟩ := hr
  exact wd_imp (c_M_aside l D T A σ y am fm n R nc CR wg Q hM a1) (fun r1 σ1 h => ⟨h.1, by rw [h.2]; exact MB.rm hM⟩)
