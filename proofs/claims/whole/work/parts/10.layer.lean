/-! THE LAYER: a world as a partial map from addresses to cells; one hypothesis wd_C carries it through a method -/
abbrev wd_S : Type := Nat → Option va_E
def wd_up (σ : wd_S) (a : Nat) (e : va_E) : wd_S := fun b => if b = a then some e else σ b
theorem wd_us (σ : wd_S) (a : Nat) (e : va_E) : wd_up σ a e a = some e := if_pos rfl
theorem wd_un (σ : wd_S) {a b : Nat} (e : va_E) (h : b ≠ a) : wd_up σ a e b = σ b := if_neg h
theorem wd_uu (σ : wd_S) (a : Nat) (e e' : va_E) : wd_up (wd_up σ a e) a e' = wd_up σ a e' := by
  funext b
  by_cases h : b = a
  · simp [wd_up, h]
  · simp [wd_up, h]
theorem wd_ne {σ : wd_S} {a b : Nat} {e e' : va_E} (ha : σ a = some e) (hb : σ b = some e') (h : e ≠ e') : a ≠ b := fun z => by
  subst z
  exact h (Option.some.inj (ha.symm.trans hb))
theorem wd_nn {σ : wd_S} {a b : Nat} {e : va_E} (ha : σ a = some e) (hb : σ b = none) : a ≠ b := fun z => by
  subst z
  rw [ha] at hb
  cases hb
theorem wd_uk {σ : wd_S} {a b : Nat} {e e' : va_E} (hb : σ b = some e') (h : b ≠ a) : wd_up σ a e b = some e' := (wd_un σ e h).trans hb
/-- the list L holds the map's addresses, each with its cell -/
def wd_L (σ : wd_S) (L : List Nat) (f : Nat → va_E) : Prop := ∀ a : Nat, (a ∈ L ∧ σ a = some (f a)) ∨ (a ∉ L ∧ σ a = none)
theorem wd_L.mem {σ : wd_S} {L : List Nat} {f : Nat → va_E} (h : wd_L σ L f) {a : Nat} {e : va_E} (ha : σ a = some e) : a ∈ L ∧ f a = e := by
  rcases h a with ⟨h1, h2⟩ | ⟨h1, h2⟩
  · exact ⟨h1, Option.some.inj (h2.symm.trans ha)⟩
  · rw [h2] at ha; cases ha
/-- a world: the heap holds the map's cells, all of them in the region A -/
def wd_W (D : va_G) (A : Nat → Prop) (σ : wd_S) (H : Heap) : Prop := ∃ (L : List Nat) (f : Nat → va_E), va_P D classes (va_pl L f) H ∧ va_D A (va_pl L f) ∧ wd_L σ L f
/-- the static tables of ints -/
def wd_T (A : Nat → Prop) (U : State) (H : Heap) (t : Nat) (tab : List Int32) : Prop := va_T .int t tab.length (fun k => .int (tab.getD k 0)) A U H
def wd_Z (A : Nat → Prop) (U : State) (H : Heap) : Prop := ∀ q ∈ wd_st, ∃ t : Nat, va_Z q.1 q.2.1 "[I" (.ref t) A U H ∧ wd_T A U H t q.2.2
theorem wd_Z.moved {A : Nat → Prop} {u U : State} {H : Heap} (hvm : u.vm.Alike U.vm) (h : wd_Z A u H) : wd_Z A U H := fun q hq => by
  obtain ⟨t, h1, h2⟩ := h q hq
  exact ⟨t, h1.moved hvm, va_T.moved hvm h2⟩
theorem wd_Z.kept {A : Nat → Prop} {U : State} {H H1 : Heap} (h : wd_Z A U H) (hq : ∀ a : Nat, a < H.size → ¬ A a → H1[a]? = H[a]?) : wd_Z A U H1 := fun q hq' => by
  obtain ⟨t, h1, h2⟩ := h q hq'
  exact ⟨t, h1.kept hq, va_T.kept h2 hq⟩
theorem wd_Z.narrow {A B : Nat → Prop} {U : State} {H : Heap} (h : wd_Z A U H) (hAB : ∀ q, B q → A q) : wd_Z B U H := fun q hq' => by
  obtain ⟨t, h1, h2⟩ := h q hq'
  exact ⟨t, h1.narrow hAB, va_T.narrow h2 hAB⟩
/-- words that stay, but that the tables' lists don't pay: links of nest mates, arrays of objects -/
def wd_isN : Cond → Bool
  | .fieldLinkNest .. => true
  | .methodLinkNest .. => true
  | .arrayOver (.object _) => true
  | _ => false
def wd_N (U : State) : Prop := ∀ w ∈ lw_tbl, wd_isN w = true → va_Nw w U
theorem wd_N.warm {s U : State} (hW : s.WarmedH U.vm) (h : wd_N s) : wd_N U := by
  intro w hw hn
  have h1 := h w hw hn
  cases w with
  | fieldLinkNest a i b n d h => exact va_Nw.warmF hW h1
  | methodLinkNest a i x h => exact va_Nw.warmM hW h1
  | arrayOver ty =>
    cases ty with
    | object C => exact va_AO.moved hW.alike h1
    | _ => simp [wd_isN] at hn
  | _ => simp [wd_isN] at hn
theorem wd_N.same {s U : State} (hv : s.vm = U.vm) (h : wd_N s) : wd_N U := by
  intro w hw hn
  have h1 := h w hw hn
  cases w with
  | fieldLinkNest a i b n d h => exact va_Nw.same rfl hv h1
  | methodLinkNest a i x h => exact va_Nw.same rfl hv h1
  | arrayOver ty =>
    cases ty with
    | object C => exact va_AO.moved (hv ▸ Vm.Alike.refl s.vm) h1
    | _ => simp [wd_isN] at hn
  | _ => simp [wd_isN] at hn
/-- all that a method's walk carries: the world now, what has changed since its entry, the tables, the statics -/
def wd_C (D : va_G) (T : Nat → ClassId) (A : Nat → Prop) (s : State) (H : Heap) (locs : List Loc) (σ : wd_S) : Prop := wd_W D A σ H ∧ va_S A s.heap H locs ∧ va_K D classes (wd_ty T) s ∧ (∀ q : Nat, s.heap.size ≤ q → A q) ∧ wd_Z A s s.heap ∧ wd_N s
def wd_Pre (D : va_G) (T : Nat → ClassId) (A : Nat → Prop) (σ : wd_S) (U : State) : Prop := wd_C D T A U U.heap [] σ
def wd_B (D : va_G) (A : Nat → Prop) (σ : wd_S) (t : State) : Prop := wd_W D A σ t.heap
theorem wd_enter {D : va_G} {T : Nat → ClassId} {A : Nat → Prop} {s U : State} {H : Heap} {locs : List Loc} {σ : wd_S} (h : wd_C D T A s H locs σ) (hU : U.heap = H) (hW : s.WarmedH U.vm) : wd_Pre D T A σ U := by
  obtain ⟨h1, h2, h3, h4, h5, h6⟩ := h
  subst hU
  exact ⟨h1, va_S.rf, va_K.moved hW.alike h3, fun q hq => h4 q (Nat.le_trans h2.1 hq), (h5.kept h2.2.1).moved hW.alike, h6.warm hW⟩
theorem wd_blind {D : va_G} {T : Nat → ClassId} {A : Nat → Prop} {σ : wd_S} {av : List Value} : FrameBlind (va_Pc av (wd_Pre D T A σ)) := fun a U g mk q => by
  obtain ⟨q0, h1, h2, h3, h4, h5, h6⟩ := q
  exact ⟨q0, h1, h2, va_K.moved (u := U) (U := U.calling g mk a) (Vm.Alike.refl U.vm) h3, h4, wd_Z.moved (u := U) (U := U.calling g mk a) (Vm.Alike.refl U.vm) h5, wd_N.same (s := U) (U := U.calling g mk a) rfl h6⟩
/-- a class of ours, by its number -/
def wd_cl (ci : Nat) (Cn : String) (Tn : u_T) (N : Nat) (ty : Nat → FieldType) : Prop := classes[ci]? = some (Cn, Tn, N) ∧ (∀ w ∈ u_ws Cn Tn N, w ∈ wd_tb) ∧ (∀ k, k < N → parseFieldDescriptor (Tn k).2.2.1 = some (ty k)) ∧ ∀ a, a < N → ∀ b, b < N → a ≠ b → (Tn a).2.1 ≠ (Tn b).2.1
section WD
variable {p : Program} {l : Launch} {e : Env} {R : Room} {s : State} {m : MethodId} {args : Array Value} {below : List Frame} {meth : Method} {c : Code} {H : Heap} {locs : List Loc} {cells slots : Nat} {Q : State → Prop}
variable {cc : ByteArray} {pc nL : Nat} {ls : Array Slot} {rest : List Value} {D : va_G} {T : Nat → ClassId} {A : Nat → Prop} {σ : wd_S} {a ci N k index : Nat} {own Cn : String} {Tn : u_T} {ty : Nat → FieldType} {fs : List Value} {v : Value}
theorem wd_set {L : List Nat} {f : Nat → va_E} {q0 : Nat} {e0 e1 : va_E} {H1 : Heap} (hσ : wd_L σ L f) (hD : va_D A (va_pl L f)) (ha : σ a = some e0) (hq : (va_pl L f)[q0]? = some (a, e0)) (hP1 : va_P D classes ((va_pl L f).set q0 (a, e1)) H1) (hD1 : va_D A ((va_pl L f).set q0 (a, e1))) : wd_W D A (wd_up σ a e1) H1 := by
  obtain ⟨hL, hf⟩ := hσ.mem ha
  have he : (va_pl L f).set q0 (a, e1) = va_pl L (va_up f a e1) := va_pl_set (X := []) hD hL (by rw [hf]; exact hq)
  rw [he] at hP1 hD1
  refine ⟨L, va_up f a e1, hP1, hD1, fun b => ?_⟩
  by_cases hba : b = a
  · subst hba
    exact Or.inl ⟨hL, by rw [wd_us, va_up_self]⟩
  · rw [wd_un σ e1 hba, va_up_ne _ _ hba]
    exact hσ b
theorem wd_push {L : List Nat} {f : Nat → va_E} {q : Nat} {e1 : va_E} {H1 : Heap} (hσ : wd_L σ L f) (hP1 : va_P D classes (va_pl L f ++ [(q, e1)]) H1) (hD1 : va_D A (va_pl L f ++ [(q, e1)])) : σ q = none ∧ wd_W D A (wd_up σ q e1) H1 := by
  have hq : q ∉ L := fun h => by
    obtain ⟨k, hk⟩ := va_pl_get (X := []) (f := f) h
    have hk : (va_pl L f)[k]? = some (q, f q) := hk
    have hl := (List.getElem?_eq_some_iff.mp hk).1
    have := hD1.1 k (va_pl L f).length (q, f q) (q, e1) (by rw [List.getElem?_append_left hl]; exact hk) (by rw [List.getElem?_append_right (Nat.le_refl _), Nat.sub_self]; rfl) rfl
    omega
  have hn : σ q = none := by
    rcases hσ q with ⟨h1, h2⟩ | ⟨h1, h2⟩
    · exact absurd h1 hq
    · exact h2
  rw [va_pl_push hq] at hP1 hD1
  refine ⟨hn, L ++ [q], va_up f q e1, hP1, hD1, fun b => ?_⟩
  by_cases hba : b = q
  · subst hba
    exact Or.inl ⟨List.mem_append_right _ (List.mem_singleton.mpr rfl), by rw [wd_us, va_up_self]⟩
  · rw [wd_un σ e1 hba, va_up_ne _ _ hba]
    rcases hσ b with ⟨h1, h2⟩ | ⟨h1, h2⟩
    · exact Or.inl ⟨List.mem_append_left _ h1, h2⟩
    · refine Or.inr ⟨fun h => ?_, h2⟩
      rcases List.mem_append.mp h with h | h
      · exact h1 h
      · exact hba (List.mem_singleton.mp h)
theorem wd_place {L : List Nat} {f : Nat → va_E} {e0 : va_E} (hσ : wd_L σ L f) (ha : σ a = some e0) : ∃ q0 : Nat, (va_pl L f)[q0]? = some (a, e0) := by
  obtain ⟨hL, hf⟩ := hσ.mem ha
  obtain ⟨q0, hq⟩ := va_pl_get (X := []) (f := f) hL
  exact ⟨q0, by rw [← hf]; exact hq⟩
-- fields
theorem wd_get (C : CallFix p m c cc nL s args wd_tb own) (h : wd_C D T A s H locs σ) (hc : wd_cl ci Cn Tn N ty) (he : σ a = some (.inr (ci, fs))) (k : Nat) (hk : k < N) (hlink : Cond.fieldLink own index (Tn k).1 (Tn k).2.1 (Tn k).2.2.1 ∈ wd_tb) (hv : fs[k]? = some v) (hdg : decode cc pc = .ok (.getfield index, 3))
    (kk : W p l e R s m args below meth c H locs cells slots Q (F0 m (pc + 3) ls (v :: rest))) : W p l e R s m args below meth c H locs cells slots Q (F0 m pc ls (.ref a :: rest)) := by
  obtain ⟨⟨L, f, hP, hD, hσ⟩, hS, hK, hA, hZ⟩ := h
  obtain ⟨q0, hq⟩ := wd_place hσ he
  exact va_get C.1 C.2.1 C.2.2.2.2 hc.2.1 C.2.2.2.1 hK hP q0 hq hc.1 k hk (C.2.2.2.2 _ hlink) (fun _ h9 => h9) hv hdg kk
theorem wd_getN {host : String} (C : CallFix p m c cc nL s args wd_tb own) (h : wd_C D T A s H locs σ) (hc : wd_cl ci Cn Tn N ty) (he : σ a = some (.inr (ci, fs))) (k : Nat) (hk : k < N) (hlink : Cond.fieldLinkNest own index (Tn k).1 (Tn k).2.1 (Tn k).2.2.1 host ∈ lw_tbl) (hv : fs[k]? = some v) (hdg : decode cc pc = .ok (.getfield index, 3))
    (kk : W p l e R s m args below meth c H locs cells slots Q (F0 m (pc + 3) ls (v :: rest))) : W p l e R s m args below meth c H locs cells slots Q (F0 m pc ls (.ref a :: rest)) := by
  obtain ⟨⟨L, f, hP, hD, hσ⟩, hS, hK, hA, hZ⟩ := h
  obtain ⟨q0, hq⟩ := wd_place hσ he
  exact va_getN C.1 C.2.1 C.2.2.2.2 hc.2.1 C.2.2.2.1 hK hP q0 hq hc.1 k hk (va_Nw.use rfl (hZ.2 _ hlink rfl)) (fun _ h9 => h9) hv hdg kk
theorem wd_put (C : CallFix p m c cc nL s args wd_tb own) (h : wd_C D T A s H locs σ) (hc : wd_cl ci Cn Tn N ty) (he : σ a = some (.inr (ci, fs))) (k : Nat) (hk : k < N) (hlink : Cond.fieldLink own index (Tn k).1 (Tn k).2.1 (Tn k).2.2.1 ∈ wd_tb) (hfin : (Tn k).2.2.2 = false) (hn : narrow (ty k) v = v) (hfit : fits (ty k) v = true) (hl : k < fs.length) (hdg : decode cc pc = .ok (.putfield index, 3))
    (kk : ∀ (H1 : Heap) (locs1 : List Loc), wd_C D T A s H1 locs1 (wd_up σ a (.inr (ci, fs.set k v))) → W p l e R s m args below meth c H1 locs1 cells slots Q (F0 m (pc + 3) ls rest)) : W p l e R s m args below meth c H locs cells slots Q (F0 m pc ls (v :: .ref a :: rest)) := by
  obtain ⟨⟨L, f, hP, hD, hσ⟩, hS, hK, hA, hZ⟩ := h
  obtain ⟨q0, hq⟩ := wd_place hσ he
  exact va_put C.1 C.2.1 C.2.2.2.2 hc.2.1 ty hc.2.2.1 hc.2.2.2 C.2.2.2.1 hK hP hD hS q0 hq hc.1 k hk (C.2.2.2.2 _ hlink) (fun _ h9 => h9) hfin (hc.2.2.1 k hk) hn hfit hl hdg (fun H1 locs1 hP1 hD1 hS1 => kk H1 locs1 ⟨wd_set hσ hD he hq hP1 hD1, hS1, hK, hA, hZ⟩)
theorem wd_putN {host : String} (C : CallFix p m c cc nL s args wd_tb own) (h : wd_C D T A s H locs σ) (hc : wd_cl ci Cn Tn N ty) (he : σ a = some (.inr (ci, fs))) (k : Nat) (hk : k < N) (hlink : Cond.fieldLinkNest own index (Tn k).1 (Tn k).2.1 (Tn k).2.2.1 host ∈ lw_tbl) (hfin : (Tn k).2.2.2 = false) (hn : narrow (ty k) v = v) (hfit : fits (ty k) v = true) (hl : k < fs.length) (hdg : decode cc pc = .ok (.putfield index, 3))
    (kk : ∀ (H1 : Heap) (locs1 : List Loc), wd_C D T A s H1 locs1 (wd_up σ a (.inr (ci, fs.set k v))) → W p l e R s m args below meth c H1 locs1 cells slots Q (F0 m (pc + 3) ls rest)) : W p l e R s m args below meth c H locs cells slots Q (F0 m pc ls (v :: .ref a :: rest)) := by
  obtain ⟨⟨L, f, hP, hD, hσ⟩, hS, hK, hA, hZ⟩ := h
  obtain ⟨q0, hq⟩ := wd_place hσ he
  exact va_putN C.1 C.2.1 C.2.2.2.2 hc.2.1 ty hc.2.2.1 hc.2.2.2 C.2.2.2.1 hK hP hD hS q0 hq hc.1 k hk (va_Nw.use rfl (hZ.2 _ hlink rfl)) (fun _ h9 => h9) hfin (hc.2.2.1 k hk) hn hfit hl hdg (fun H1 locs1 hP1 hD1 hS1 => kk H1 locs1 ⟨wd_set hσ hD he hq hP1 hD1, hS1, hK, hA, hZ⟩)
theorem wd_putF (C : CallFix p m c cc nL s args wd_tb own) (h : wd_C D T A s H locs σ) (hc : wd_cl ci Cn Tn N ty) (he : σ a = some (.inr (ci, fs))) (k : Nat) (hk : k < N) (hlink : Cond.fieldLink own index (Tn k).1 (Tn k).2.1 (Tn k).2.2.1 ∈ wd_tb) (hfin : (Tn k).2.2.2 = true) (hin2 : meth.name = "<init>") (hdecl : (Tn k).1 = own) (hn : narrow (ty k) v = v) (hfit : fits (ty k) v = true) (hl : k < fs.length) (hdg : decode cc pc = .ok (.putfield index, 3))
    (kk : ∀ (H1 : Heap) (locs1 : List Loc), wd_C D T A s H1 locs1 (wd_up σ a (.inr (ci, fs.set k v))) → W p l e R s m args below meth c H1 locs1 cells slots Q (F0 m (pc + 3) ls rest)) : W p l e R s m args below meth c H locs cells slots Q (F0 m pc ls (v :: .ref a :: rest)) := by
  obtain ⟨⟨L, f, hP, hD, hσ⟩, hS, hK, hA, hZ⟩ := h
  obtain ⟨q0, hq⟩ := wd_place hσ he
  exact va_putF C.1 C.2.1 C.2.2.2.2 hc.2.1 ty hc.2.2.1 hc.2.2.2 C.2.2.2.1 hK hP hD hS q0 hq hc.1 k hk (C.2.2.2.2 _ hlink) (fun _ h9 => h9) hfin hin2 hdecl (hc.2.2.1 k hk) hn hfit hl hdg (fun H1 locs1 hP1 hD1 hS1 => kk H1 locs1 ⟨wd_set hσ hD he hq hP1 hD1, hS1, hK, hA, hZ⟩)
-- arrays
theorem wd_iald (C : CallFix p m c cc nL s args wd_tb own) (h : wd_C D T A s H locs σ) (t0 : Nat) (ht : (wd_ty T)[t0]? = some (T t0, .int)) {n : Nat} {f : Nat → Int32} (he : σ a = some (.inl (T t0, n, .inl f))) {i : Int32} (hin : vp_in i n) (hdg : decode cc pc = .ok (.iaload, 1))
    (kk : W p l e R s m args below meth c H locs cells slots Q (F0 m (pc + 1) ls (.int (f i.toNatClampNeg) :: rest))) : W p l e R s m args below meth c H locs cells slots Q (F0 m pc ls (.int i :: .ref a :: rest)) := by
  obtain ⟨⟨L, g, hP, hD, hσ⟩, hS, hK, hA, hZ⟩ := h
  obtain ⟨q0, hq⟩ := wd_place hσ he
  exact va_iald C.1 C.2.1 hK hP q0 t0 hq ht hin hdg kk
theorem wd_zald (C : CallFix p m c cc nL s args wd_tb own) (h : wd_C D T A s H locs σ) (t0 : Nat) (ht : (wd_ty T)[t0]? = some (T t0, .boolean)) {n : Nat} {f : Nat → Int32} (he : σ a = some (.inl (T t0, n, .inl f))) {i : Int32} (hin : vp_in i n) (hdg : decode cc pc = .ok (.baload, 1))
    (kk : W p l e R s m args below meth c H locs cells slots Q (F0 m (pc + 1) ls (.int (f i.toNatClampNeg) :: rest))) : W p l e R s m args below meth c H locs cells slots Q (F0 m pc ls (.int i :: .ref a :: rest)) := by
  obtain ⟨⟨L, g, hP, hD, hσ⟩, hS, hK, hA, hZ⟩ := h
  obtain ⟨q0, hq⟩ := wd_place hσ he
  exact va_zald C.1 C.2.1 hK hP q0 t0 hq ht hin hdg kk
theorem wd_iast (C : CallFix p m c cc nL s args wd_tb own) (h : wd_C D T A s H locs σ) (t0 : Nat) (ht : (wd_ty T)[t0]? = some (T t0, .int)) {n : Nat} {f : Nat → Int32} (he : σ a = some (.inl (T t0, n, .inl f))) {i x : Int32} (hin : vp_in i n) (hdg : decode cc pc = .ok (.iastore, 1))
    (kk : ∀ (H1 : Heap) (locs1 : List Loc), wd_C D T A s H1 locs1 (wd_up σ a (.inl (T t0, n, .inl (upd f i.toNatClampNeg x)))) → W p l e R s m args below meth c H1 locs1 cells slots Q (F0 m (pc + 1) ls rest)) : W p l e R s m args below meth c H locs cells slots Q (F0 m pc ls (.int x :: .int i :: .ref a :: rest)) := by
  obtain ⟨⟨L, g, hP, hD, hσ⟩, hS, hK, hA, hZ⟩ := h
  obtain ⟨q0, hq⟩ := wd_place hσ he
  exact va_iast C.1 C.2.1 hK hP hD hS q0 t0 hq ht hin hdg (fun H1 locs1 hP1 hD1 hS1 => kk H1 locs1 ⟨wd_set hσ hD he hq hP1 hD1, hS1, hK, hA, hZ⟩)
theorem wd_zast (C : CallFix p m c cc nL s args wd_tb own) (h : wd_C D T A s H locs σ) (t0 : Nat) (ht : (wd_ty T)[t0]? = some (T t0, .boolean)) {n : Nat} {f : Nat → Int32} (he : σ a = some (.inl (T t0, n, .inl f))) {i x : Int32} (hin : vp_in i n) (hdg : decode cc pc = .ok (.bastore, 1))
    (kk : ∀ (H1 : Heap) (locs1 : List Loc), wd_C D T A s H1 locs1 (wd_up σ a (.inl (T t0, n, .inl (upd f i.toNatClampNeg (vp_nar .boolean x))))) → W p l e R s m args below meth c H1 locs1 cells slots Q (F0 m (pc + 1) ls rest)) : W p l e R s m args below meth c H locs cells slots Q (F0 m pc ls (.int x :: .int i :: .ref a :: rest)) := by
  obtain ⟨⟨L, g, hP, hD, hσ⟩, hS, hK, hA, hZ⟩ := h
  obtain ⟨q0, hq⟩ := wd_place hσ he
  exact va_zast C.1 C.2.1 hK hP hD hS q0 t0 hq ht hin hdg (fun H1 locs1 hP1 hD1 hS1 => kk H1 locs1 ⟨wd_set hσ hD he hq hP1 hD1, hS1, hK, hA, hZ⟩)
theorem wd_aldq (C : CallFix p m c cc nL s args wd_tb own) (h : wd_C D T A s H locs σ) (t0 : Nat) {E : String} (ht : (wd_ty T)[t0]? = some (T t0, .object E)) {n : Nat} {f : Nat → Option Nat} (he : σ a = some (.inl (T t0, n, .inr (.inr (.inr (.inr f)))))) {i : Int32} (hin : vp_in i n) (hdg : decode cc pc = .ok (.aaload, 1))
    (kk : W p l e R s m args below meth c H locs cells slots Q (F0 m (pc + 1) ls (va_rf (f i.toNatClampNeg) :: rest))) : W p l e R s m args below meth c H locs cells slots Q (F0 m pc ls (.int i :: .ref a :: rest)) := by
  obtain ⟨⟨L, g, hP, hD, hσ⟩, hS, hK, hA, hZ⟩ := h
  obtain ⟨q0, hq⟩ := wd_place hσ he
  exact va_aldq C.1 C.2.1 hK hP q0 t0 hq ht hin hdg kk
theorem wd_astq (C : CallFix p m c cc nL s args wd_tb own) (h : wd_C D T A s H locs σ) (t0 : Nat) {r : vw_C} (ht : (wd_ty T)[t0]? = some (T t0, .object r.1)) {n v : Nat} {f : Nat → Option Nat} (he : σ a = some (.inl (T t0, n, .inr (.inr (.inr (.inr f)))))) (hv : σ v = some (.inr (ci, fs))) (hc : classes[ci]? = some r) {i : Int32} (hin : vp_in i n) (hdg : decode cc pc = .ok (.aastore, 1))
    (kk : ∀ (H1 : Heap) (locs1 : List Loc), wd_C D T A s H1 locs1 (wd_up σ a (.inl (T t0, n, .inr (.inr (.inr (.inr (va_up f i.toNatClampNeg (some v)))))))) → W p l e R s m args below meth c H1 locs1 cells slots Q (F0 m (pc + 1) ls rest)) : W p l e R s m args below meth c H locs cells slots Q (F0 m pc ls (.ref v :: .int i :: .ref a :: rest)) := by
  obtain ⟨⟨L, g, hP, hD, hσ⟩, hS, hK, hA, hZ⟩ := h
  obtain ⟨q0, hq⟩ := wd_place hσ he
  obtain ⟨qk, hqk⟩ := wd_place hσ hv
  exact va_astq C.1 C.2.1 hK hP hD hS q0 t0 qk ci hq ht hqk hc hin hdg (fun H1 locs1 hP1 hD1 hS1 => kk H1 locs1 ⟨wd_set hσ hD he hq hP1 hD1, hS1, hK, hA, hZ⟩)
theorem wd_alen (C : CallFix p m c cc nL s args wd_tb own) (h : wd_C D T A s H locs σ) (t0 : Nat) {fty : FieldType} (ht : (wd_ty T)[t0]? = some (T t0, fty)) {x : vp_A} (he : σ a = some (.inl (T t0, x))) (hdg : decode cc pc = .ok (.arraylength, 1))
    (kk : W p l e R s m args below meth c H locs cells slots Q (F0 m (pc + 1) ls (.int (nI x.1) :: rest))) : W p l e R s m args below meth c H locs cells slots Q (F0 m pc ls (.ref a :: rest)) := by
  obtain ⟨⟨L, g, hP, hD, hσ⟩, hS, hK, hA, hZ⟩ := h
  obtain ⟨q0, hq⟩ := wd_place hσ he
  exact va_alen C.1 C.2.1 hK hP q0 t0 hq ht rfl hdg kk
-- new cells
theorem wd_new (C : CallFix p m c cc nL s args wd_tb own) (h : wd_C D T A s H locs σ) (hc : wd_cl ci Cn Tn N ty) (hcl : Cond.classLink own index Cn ∈ wd_tb) (hinst : Cond.instantiable Cn N ∈ wd_tb) (hini : Cond.initialized Cn ∈ wd_tb) (hfs : ∀ j, j < N → defaultValue (ty j) = vp_V fs j) (hcells : cells + 1 ≤ R.cells) (hslots : slots + N ≤ R.slots) (hdg : decode cc pc = .ok (.new index, 3))
    (kk : ∀ (q : Nat) (H1 : Heap), σ q = none → wd_C D T A s H1 locs (wd_up σ q (.inr (ci, fs))) → W p l e R s m args below meth c H1 locs (cells + 1) (slots + N) Q (F0 m (pc + 3) ls (.ref q :: rest))) : W p l e R s m args below meth c H locs cells slots Q (F0 m pc ls rest) := by
  obtain ⟨⟨L, g, hP, hD, hσ⟩, hS, hK, hA, hZ⟩ := h
  refine va_new C.1 C.2.1 C.2.2.2.2 hc.2.1 ty hc.2.2.1 C.2.2.2.1 (C.2.2.2.2 _ hcl) (C.2.2.2.2 _ hinst) (C.2.2.2.2 _ hini) hK hP hD hS hA hc.1 hfs hcells hslots hdg (fun q H1 hP1 hD1 hS1 => ?_)
  obtain ⟨h1, h2⟩ := wd_push hσ hP1 hD1
  exact kk q H1 h1 ⟨h2, hS1, hK, hA, hZ⟩
theorem wd_newi (C : CallFix p m c cc nL s args wd_tb own) (h : wd_C D T A s H locs σ) (t0 : Nat) (ht : (wd_ty T)[t0]? = some (T t0, .int)) (harr : Cond.arrayClass .int ∈ wd_tb) (n : Int32) (N' : Nat) (hn : ¬ n < 0) (hN : n.toNatClampNeg = N') (hbytes : N' * componentBytes .int ≤ 536870912) (hcells : cells + 1 ≤ R.cells) (hslots : slots + N' ≤ R.slots) (hdg : decode cc pc = .ok (.newarray .int, 2))
    (kk : ∀ (q : Nat) (H1 : Heap), σ q = none → wd_C D T A s H1 locs (wd_up σ q (.inl (T t0, N', .inl (fun _ => 0)))) → W p l e R s m args below meth c H1 locs (cells + 1) (slots + N') Q (F0 m (pc + 2) ls (.ref q :: rest))) : W p l e R s m args below meth c H locs cells slots Q (F0 m pc ls (.int n :: rest)) := by
  obtain ⟨⟨L, g, hP, hD, hσ⟩, hS, hK, hA, hZ⟩ := h
  refine va_newa (atype := .int) (ty := .int) (a0 := (N', .inl (fun _ => 0))) C.1 C.2.1 (C.2.2.2.2 _ harr) rfl hK hP hD hS hA (fun cA => by rw [vp_cell_i]; rfl) hn hN hbytes hcells hslots hdg (fun q cA H1 hK1 hP1 hD1 hS1 => ?_)
  have e1 : s.vm.findClass ("[" ++ FieldType.int.toString) = some cA := (hK1.2 (wd_ty T).length (cA, .int) (by rw [List.getElem?_append_right (Nat.le_refl _), Nat.sub_self]; rfl)).2
  have e2 : s.vm.findClass ("[" ++ FieldType.int.toString) = some (T t0) := (hK.2 t0 _ ht).2
  have e3 : cA = T t0 := Option.some.inj (e1.symm.trans e2)
  subst e3
  obtain ⟨h1, h2⟩ := wd_push hσ hP1 hD1
  exact kk q H1 h1 ⟨h2, hS1, hK, hA, hZ⟩
theorem wd_newz (C : CallFix p m c cc nL s args wd_tb own) (h : wd_C D T A s H locs σ) (t0 : Nat) (ht : (wd_ty T)[t0]? = some (T t0, .boolean)) (harr : Cond.arrayClass .boolean ∈ wd_tb) (n : Int32) (N' : Nat) (hn : ¬ n < 0) (hN : n.toNatClampNeg = N') (hbytes : N' * componentBytes .boolean ≤ 536870912) (hcells : cells + 1 ≤ R.cells) (hslots : slots + N' ≤ R.slots) (hdg : decode cc pc = .ok (.newarray .boolean, 2))
    (kk : ∀ (q : Nat) (H1 : Heap), σ q = none → wd_C D T A s H1 locs (wd_up σ q (.inl (T t0, N', .inl (fun _ => 0)))) → W p l e R s m args below meth c H1 locs (cells + 1) (slots + N') Q (F0 m (pc + 2) ls (.ref q :: rest))) : W p l e R s m args below meth c H locs cells slots Q (F0 m pc ls (.int n :: rest)) := by
  obtain ⟨⟨L, g, hP, hD, hσ⟩, hS, hK, hA, hZ⟩ := h
  refine va_newa (atype := .boolean) (ty := .boolean) (a0 := (N', .inl (fun _ => 0))) C.1 C.2.1 (C.2.2.2.2 _ harr) rfl hK hP hD hS hA (fun cA => by rw [vp_cell_i]; rfl) hn hN hbytes hcells hslots hdg (fun q cA H1 hK1 hP1 hD1 hS1 => ?_)
  have e1 : s.vm.findClass ("[" ++ FieldType.boolean.toString) = some cA := (hK1.2 (wd_ty T).length (cA, .boolean) (by rw [List.getElem?_append_right (Nat.le_refl _), Nat.sub_self]; rfl)).2
  have e2 : s.vm.findClass ("[" ++ FieldType.boolean.toString) = some (T t0) := (hK.2 t0 _ ht).2
  have e3 : cA = T t0 := Option.some.inj (e1.symm.trans e2)
  subst e3
  obtain ⟨h1, h2⟩ := wd_push hσ hP1 hD1
  exact kk q H1 h1 ⟨h2, hS1, hK, hA, hZ⟩
theorem wd_newq (C : CallFix p m c cc nL s args wd_tb own) (h : wd_C D T A s H locs σ) (t0 : Nat) {E : String} (ht : (wd_ty T)[t0]? = some (T t0, .object E)) (hcl : Cond.classLink own index E ∈ wd_tb) (hover : Cond.arrayOver (.object E) ∈ lw_tbl) (n : Int32) (N' : Nat) (hn : ¬ n < 0) (hN : n.toNatClampNeg = N') (hbytes : N' * 4 ≤ 536870912) (hcells : cells + 1 ≤ R.cells) (hslots : slots + N' ≤ R.slots) (hdg : decode cc pc = .ok (.anewarray index, 3))
    (kk : ∀ (q : Nat) (H1 : Heap), σ q = none → wd_C D T A s H1 locs (wd_up σ q (.inl (T t0, N', .inr (.inr (.inr (.inr (fun _ => none))))))) → W p l e R s m args below meth c H1 locs (cells + 1) (slots + N') Q (F0 m (pc + 3) ls (.ref q :: rest))) : W p l e R s m args below meth c H locs cells slots Q (F0 m pc ls (.int n :: rest)) := by
  obtain ⟨⟨L, g, hP, hD, hσ⟩, hS, hK, hA, hZ⟩ := h
  refine va_newq C.1 C.2.1 C.2.2.2.1 (C.2.2.2.2 _ hcl) (hZ.2 _ hover rfl) hK hP hD hS hA hn hN hbytes hcells hslots hdg (fun q cA H1 hK1 hP1 hD1 hS1 => ?_)
  obtain ⟨kA, comp, -, -, -, e1⟩ := (hK1.2 (wd_ty T).length (cA, .object E) (by rw [List.getElem?_append_right (Nat.le_refl _), Nat.sub_self]; rfl)).2
  obtain ⟨kA', comp', -, -, -, e2⟩ := (hK.2 t0 _ ht).2
  have e3 : cA = T t0 := Option.some.inj (e1.symm.trans e2)
  subst e3
  obtain ⟨h1, h2⟩ := wd_push hσ hP1 hD1
  exact kk q H1 h1 ⟨h2, hS1, hK, hA, hZ⟩
-- static tables
theorem wd_gets (C : CallFix p m c cc nL s args wd_tb own) (h : wd_C D T A s H locs σ) {Cs nm : String} {tab : List Int32} (hq : (Cs, nm, tab) ∈ wd_st) (hlink : Cond.fieldLink own index Cs nm "[I" ∈ wd_tb) (hdg : decode cc pc = .ok (.getstatic index, 3))
    (kk : ∀ t : Nat, wd_T A s s.heap t tab → W p l e R s m args below meth c H locs cells slots Q (F0 m (pc + 3) ls (.ref t :: rest))) : W p l e R s m args below meth c H locs cells slots Q (F0 m pc ls rest) := by
  obtain ⟨hw, hS, hK, hA, hZ⟩ := h
  obtain ⟨t, h1, h2⟩ := hZ.1 _ hq
  exact va_gets C.1 C.2.1 h1 hS C.2.2.2.1 (C.2.2.2.2 _ hlink) (fun _ h9 => h9) hdg (kk t h2)
theorem wd_getsN {host : String} (C : CallFix p m c cc nL s args wd_tb own) (h : wd_C D T A s H locs σ) {Cs nm : String} {tab : List Int32} (hq : (Cs, nm, tab) ∈ wd_st) (hlink : Cond.fieldLinkNest own index Cs nm "[I" host ∈ lw_tbl) (hdg : decode cc pc = .ok (.getstatic index, 3))
    (kk : ∀ t : Nat, wd_T A s s.heap t tab → W p l e R s m args below meth c H locs cells slots Q (F0 m (pc + 3) ls (.ref t :: rest))) : W p l e R s m args below meth c H locs cells slots Q (F0 m pc ls rest) := by
  obtain ⟨hw, hS, hK, hA, hZ⟩ := h
  obtain ⟨t, h1, h2⟩ := hZ.1 _ hq
  exact va_getsN C.1 C.2.1 h1 hS C.2.2.2.1 (va_Nw.use rfl (hZ.2 _ hlink rfl)) (fun _ h9 => h9) hdg (kk t h2)
theorem wd_ti (C : CallFix p m c cc nL s args wd_tb own) (h : wd_C D T A s H locs σ) {t : Nat} {tab : List Int32} (hT : wd_T A s s.heap t tab) {i : Int32} (hin : vp_in i tab.length) (hdg : decode cc pc = .ok (.iaload, 1))
    (kk : W p l e R s m args below meth c H locs cells slots Q (F0 m (pc + 1) ls (.int (tab.getD i.toNatClampNeg 0) :: rest))) : W p l e R s m args below meth c H locs cells slots Q (F0 m pc ls (.int i :: .ref t :: rest)) :=
  va_ti C.1 C.2.1 hT h.2.1 hin rfl hdg kk
-- ends
variable {Qc : Array Value → State → Outcome → State → Prop} {mc ms : Nat} {postI : Int32 → wd_S → Prop} {postV : wd_S → Prop} {postQ : Option Nat → wd_S → Prop}
theorem wd_iret (C : CallFix p m c cc nL s args wd_tb own) (hr : meth.sig.returnType = some .int) (hlocks : meth.locks = false) (h : wd_C D T A s H locs σ) {x : Int32} (hp : postI x σ) (hc : cells ≤ mc) (hs : slots ≤ ms) (hdg : decode cc pc = .ok (.ireturn, 1)) : W p l e R s m args below meth c H locs cells slots (MQ below (va_Qi postI (wd_B D A) A) args s mc ms A) (F0 m pc ls [.int x]) :=
  W.widen hc hs (W.iret (v := x) C.1 C.2.1 hr (fun t ht _ => ⟨⟨x, σ, rfl, hp, by rw [wd_B, ht]; exact h.1⟩, h.2.1.F ht⟩) h.2.1.2.2 hdg hlocks)
theorem wd_zret (C : CallFix p m c cc nL s args wd_tb own) (hr : meth.sig.returnType = some .boolean) (hlocks : meth.locks = false) (h : wd_C D T A s H locs σ) {x : Int32} (hn : x = 0 ∨ x = 1) (hp : postI x σ) (hc : cells ≤ mc) (hs : slots ≤ ms) (hdg : decode cc pc = .ok (.ireturn, 1)) : W p l e R s m args below meth c H locs cells slots (MQ below (va_Qi postI (wd_B D A) A) args s mc ms A) (F0 m pc ls [.int x]) :=
  W.widen hc hs (W.zret (v := x) C.1 C.2.1 hr (by rcases hn with rfl | rfl <;> rfl) (fun t ht _ => ⟨⟨x, σ, rfl, hp, by rw [wd_B, ht]; exact h.1⟩, h.2.1.F ht⟩) h.2.1.2.2 hdg hlocks)
theorem wd_vret (C : CallFix p m c cc nL s args wd_tb own) (hr : meth.sig.returnType = none) (hlocks : meth.locks = false) (h : wd_C D T A s H locs σ) (hp : postV σ) (hc : cells ≤ mc) (hs : slots ≤ ms) (hdg : decode cc pc = .ok (.return_, 1)) : W p l e R s m args below meth c H locs cells slots (MQ below (va_Qv postV (wd_B D A) A) args s mc ms A) (F0 m pc ls []) :=
  W.widen hc hs (W.vret C.1 C.2.1 hr (fun t ht _ => ⟨⟨σ, rfl, hp, by rw [wd_B, ht]; exact h.1⟩, h.2.1.F ht⟩) h.2.1.2.2 hdg hlocks)
theorem wd_aret {n : String} (C : CallFix p m c cc nL s args wd_tb own) (hr : meth.sig.returnType = some (.object n)) (hlocks : meth.locks = false) (h : wd_C D T A s H locs σ) {x : Option Nat} (hp : postQ x σ) (hc : cells ≤ mc) (hs : slots ≤ ms) (hdg : decode cc pc = .ok (.areturn, 1)) : W p l e R s m args below meth c H locs cells slots (MQ below (va_Qq postQ (wd_B D A) A) args s mc ms A) (F0 m pc ls [va_rf x]) :=
  W.widen hc hs (W.aret (v := va_rf x) C.1 C.2.1 hr (Or.inl ⟨n, rfl⟩) (by cases x with | none => exact Or.inl rfl | some y => exact Or.inr ⟨y, rfl⟩) (fun t ht _ => ⟨⟨x, σ, rfl, hp, by rw [wd_B, ht]; exact h.1⟩, h.2.1.F ht⟩) h.2.1.2.2 hdg hlocks)
-- entry
theorem wd_ofW {y : MethodName} {rm : Room} {maxL : Nat} {ret : Option FieldType} {av : List Value} (hy : plainName y.cls = true) (hlen : (lg_sl av).length ≤ maxL)
    (body : ∀ (p : Program) (e : Env) (s : State) (m : MethodId) (below : List Frame) (meth : Method) (c : Code) (ls : Array Slot), CallFix p m c cc maxL s av.toArray wd_tb y.cls → meth.sig.returnType = ret → meth.locks = false → meth.name = y.name → wd_C D T A s s.heap [] σ → lv_has ls maxL (lv_args 0 av) → W p l e rm s m av.toArray below meth c s.heap [] 0 0 (MQ below Qc av.toArray s mc ms A) (F0 m 0 ls [])) :
    Met l y (Cond.code y cc maxL ret :: wd_tb) rm (va_Pc av (wd_Pre D T A σ)) Qc mc ms A := by
  refine Met.ofW (cc := cc) (maxL := maxL) (ret := ret) hy rfl ?_
  intro p e s m args below meth c s₁ B hml hv
  obtain ⟨rfl, h⟩ := hv
  have hts := atoms_spec (ws := Cond.code y cc maxL ret :: wd_tb) B.pre
  have hown : s.vm.findClass y.cls = some m.cls := findClass_of_methodNamed B.named
  rw [lg_entry_eq]
  exact body p e s m below meth c _ ⟨B.exec, B.bytes, hml, hown, fun w hw => hts w (List.mem_cons_of_mem _ hw)⟩ B.returns B.notSynchronized (name_of_methodNamed B.named B.method).1 h (lv_entry av hlen)
end WD
-- calls
section WR
variable {p : Program} {l : Launch} {e : Env} {R : Room} {s : State} {m : MethodId} {args : Array Value} {below : List Frame} {meth : Method} {c : Code} {H : Heap} {locs : List Loc} {cells slots : Nat} {Q : State → Prop}
variable {cc bytes : ByteArray} {pc nL maxL mc ms n ci index b : Nat} {ls : Array Slot} {rest As st0 : List Value} {D : va_G} {T : Nat → ClassId} {A : Nat → Prop} {σ : wd_S} {own host : String} {y : MethodName} {ret : Option FieldType} {rm : Room} {Qc : Array Value → State → Outcome → State → Prop} {fs : List Value} {Cn : String} {Tn : u_T} {N : Nat} {ty : Nat → FieldType} {av : Array Value} {postI : Int32 → wd_S → Prop} {postV : wd_S → Prop} {postQ : Option Nat → wd_S → Prop}
theorem wd_good (hc : Cond.code y bytes maxL ret ∈ wd_tb) : GoodIn wd_tb (Cond.code y bytes maxL ret :: wd_tb) := fun w hw => by
  rcases List.mem_cons.mp hw with rfl | hw
  · exact ⟨hc, wd_goodAll _ hc⟩
  · exact ⟨hw, wd_goodAll _ hw⟩
/-- of a callee: what the tables say, and what can be decided of its name -/
def wd_yk (y : MethodName) (bytes : ByteArray) (maxL n : Nat) (ret : Option FieldType) : Prop := Cond.code y bytes maxL ret ∈ wd_tb ∧ Cond.initialized y.cls ∈ wd_tb ∧ (y.cls ≠ "java/lang/invoke/MethodHandle" ∧ y.cls ≠ "java/lang/invoke/VarHandle" ∧ (parseMethodDescriptor y.desc).map (fun d => d.parameters.length) = some n)
theorem wd_rS (C : CallFix p m c cc nL s args wd_tb own) (h : wd_C D T A s H locs σ) (hk : wd_yk y bytes maxL n ret) (hst : Cond.static y ∈ wd_tb) (hlink : Cond.methodLink own index y ∈ wd_tb) (hM : Met l y (Cond.code y bytes maxL ret :: wd_tb) rm (va_Pc As (wd_Pre D T A σ)) Qc mc ms A) (hrc : rm.cells = mc) (hrs : rm.slots = ms) (hR : rm.frames + 1 ≤ R.frames ∧ 8 + (maxL + 11) + rm.locals ≤ R.locals) (hn : As.length = n) (hsz : ls.size = nL) (hstack : st0 = As.reverse ++ rest) (hW : (rest.map fun v => v.category).sum ≤ 8) (hdg : decode cc pc = .ok (.invokestatic index, 3)) (hf : cells + mc ≤ R.cells ∧ slots + ms ≤ R.slots) :
    va_Run p l e R s m args below meth c H locs cells slots mc ms (F0 m pc ls st0) rest (Qc As.toArray) A :=
  va_runS C hM ⟨callB_of n C.2.2.2.2 (wd_good hk.1) rfl hrc hrs (C.2.2.2.2 _ hk.2.1) (C.2.2.2.2 _ hlink) hk.2.2 hR, C.2.2.2.2 _ hst⟩ ⟨wd_blind, fun U hU hW => ⟨rfl, wd_enter h hU hW⟩⟩ rfl hn hsz hstack (lv_room hW) hdg hf
theorem wd_rSN (C : CallFix p m c cc nL s args wd_tb own) (h : wd_C D T A s H locs σ) (hk : wd_yk y bytes maxL n ret) (hst : Cond.static y ∈ wd_tb) (hlink : Cond.methodLinkNest own index y host ∈ lw_tbl) (hM : Met l y (Cond.code y bytes maxL ret :: wd_tb) rm (va_Pc As (wd_Pre D T A σ)) Qc mc ms A) (hrc : rm.cells = mc) (hrs : rm.slots = ms) (hR : rm.frames + 1 ≤ R.frames ∧ 8 + (maxL + 11) + rm.locals ≤ R.locals) (hn : As.length = n) (hsz : ls.size = nL) (hstack : st0 = As.reverse ++ rest) (hW : (rest.map fun v => v.category).sum ≤ 8) (hdg : decode cc pc = .ok (.invokestatic index, 3)) (hf : cells + mc ≤ R.cells ∧ slots + ms ≤ R.slots) :
    va_Run p l e R s m args below meth c H locs cells slots mc ms (F0 m pc ls st0) rest (Qc As.toArray) A :=
  va_runSN C hM ⟨va_cnB n C.2.2.2.2 (wd_good hk.1) rfl hrc hrs (h.2.2.2.2.2 _ hlink rfl) (C.2.2.2.2 _ hk.2.1) hk.2.2 hR, C.2.2.2.2 _ hst, trivial⟩ ⟨wd_blind, fun U hU hW => ⟨rfl, wd_enter h hU hW⟩⟩ rfl hn hsz hstack (lv_room hW) hdg hf
theorem wd_recv (h : wd_C D T A s H locs σ) (hc : wd_cl ci Cn Tn N ty) (he : σ b = some (.inr (ci, fs))) : ∃ cell : Cell, H[b]? = some cell ∧ cell.vm.isStatics = false ∧ s.vm.findClass Cn = some cell.cls := by
  obtain ⟨⟨L, f, hP, hD, hσ⟩, hS, hK, hA, hZ⟩ := h
  obtain ⟨q0, hq⟩ := wd_place hσ he
  exact va_recv hK hP hc.1 hq
theorem wd_rV (C : CallFix p m c cc nL s args wd_tb own) (h : wd_C D T A s H locs σ) (hc : wd_cl ci Cn Tn N ty) (he : σ b = some (.inr (ci, fs))) (hk : wd_yk y bytes maxL n ret) (hin : Cond.instanceMethod y ∈ wd_tb) (hsel : Cond.selects Cn y y ∈ wd_tb) (hlink : Cond.methodLink own index y ∈ wd_tb) (hM : Met l y (Cond.code y bytes maxL ret :: wd_tb) rm (va_Pc (.ref b :: As) (wd_Pre D T A σ)) Qc mc ms A) (hrc : rm.cells = mc) (hrs : rm.slots = ms) (hR : rm.frames + 1 ≤ R.frames ∧ 8 + (maxL + 11) + rm.locals ≤ R.locals) (hn : As.length = n) (hsz : ls.size = nL) (hstack : st0 = As.reverse ++ .ref b :: rest) (hW : (rest.map fun v => v.category).sum ≤ 8) (hdg : decode cc pc = .ok (.invokevirtual index, 3)) (hf : cells + mc ≤ R.cells ∧ slots + ms ≤ R.slots) :
    va_Run p l e R s m args below meth c H locs cells slots mc ms (F0 m pc ls st0) rest (Qc (Value.ref b :: As).toArray) A :=
  va_runV C hM ⟨callB_of n C.2.2.2.2 (wd_good hk.1) rfl hrc hrs (C.2.2.2.2 _ hk.2.1) (C.2.2.2.2 _ hlink) hk.2.2 hR, C.2.2.2.2 _ hin, C.2.2.2.2 _ hsel⟩ ⟨wd_blind, wd_recv h hc he, fun U hU hW => ⟨rfl, wd_enter h hU hW⟩⟩ rfl hn hsz hstack (lv_room hW) hdg hf
theorem wd_rVN (C : CallFix p m c cc nL s args wd_tb own) (h : wd_C D T A s H locs σ) (hc : wd_cl ci Cn Tn N ty) (he : σ b = some (.inr (ci, fs))) (hk : wd_yk y bytes maxL n ret) (hin : Cond.instanceMethod y ∈ wd_tb) (hsel : Cond.selects Cn y y ∈ wd_tb) (hlink : Cond.methodLinkNest own index y host ∈ lw_tbl) (hM : Met l y (Cond.code y bytes maxL ret :: wd_tb) rm (va_Pc (.ref b :: As) (wd_Pre D T A σ)) Qc mc ms A) (hrc : rm.cells = mc) (hrs : rm.slots = ms) (hR : rm.frames + 1 ≤ R.frames ∧ 8 + (maxL + 11) + rm.locals ≤ R.locals) (hn : As.length = n) (hsz : ls.size = nL) (hstack : st0 = As.reverse ++ .ref b :: rest) (hW : (rest.map fun v => v.category).sum ≤ 8) (hdg : decode cc pc = .ok (.invokevirtual index, 3)) (hf : cells + mc ≤ R.cells ∧ slots + ms ≤ R.slots) :
    va_Run p l e R s m args below meth c H locs cells slots mc ms (F0 m pc ls st0) rest (Qc (Value.ref b :: As).toArray) A :=
  va_runVN C hM ⟨va_cnB n C.2.2.2.2 (wd_good hk.1) rfl hrc hrs (h.2.2.2.2.2 _ hlink rfl) (C.2.2.2.2 _ hk.2.1) hk.2.2 hR, C.2.2.2.2 _ hin, C.2.2.2.2 _ hsel⟩ ⟨wd_blind, wd_recv h hc he, fun U hU hW => ⟨rfl, wd_enter h hU hW⟩⟩ rfl hn hsz hstack (lv_room hW) hdg hf
theorem wd_rI (C : CallFix p m c cc nL s args wd_tb own) (h : wd_C D T A s H locs σ) (hk : wd_yk y bytes maxL n none) (hin : Cond.instanceMethod y ∈ wd_tb) (hy1 : y.name = "<init>") (hlink : Cond.methodLink own index y ∈ wd_tb) (hM : Met l y (Cond.code y bytes maxL none :: wd_tb) rm (va_Pc (.ref b :: As) (wd_Pre D T A σ)) Qc mc ms A) (hrc : rm.cells = mc) (hrs : rm.slots = ms) (hR : rm.frames + 1 ≤ R.frames ∧ 8 + (maxL + 11) + rm.locals ≤ R.locals) (hn : As.length = n) (hsz : ls.size = nL) (hstack : st0 = As.reverse ++ .ref b :: rest) (hW : (rest.map fun v => v.category).sum ≤ 8) (hdg : decode cc pc = .ok (.invokespecial index, 3)) (hf : cells + mc ≤ R.cells ∧ slots + ms ≤ R.slots) :
    va_Run p l e R s m args below meth c H locs cells slots mc ms (F0 m pc ls st0) rest (Qc (Value.ref b :: As).toArray) A :=
  va_runI C hM ⟨callB_of n C.2.2.2.2 (wd_good hk.1) rfl hrc hrs (C.2.2.2.2 _ hk.2.1) (C.2.2.2.2 _ hlink) hk.2.2 hR, hy1, C.2.2.2.2 _ hin⟩ ⟨wd_blind, fun U hU hW => ⟨rfl, wd_enter h hU hW⟩⟩ rfl hn hsz hstack (lv_room hW) hdg hf
theorem wd_rIN (C : CallFix p m c cc nL s args wd_tb own) (h : wd_C D T A s H locs σ) (hk : wd_yk y bytes maxL n none) (hin : Cond.instanceMethod y ∈ wd_tb) (hy1 : y.name = "<init>") (hlink : Cond.methodLinkNest own index y host ∈ lw_tbl) (hM : Met l y (Cond.code y bytes maxL none :: wd_tb) rm (va_Pc (.ref b :: As) (wd_Pre D T A σ)) Qc mc ms A) (hrc : rm.cells = mc) (hrs : rm.slots = ms) (hR : rm.frames + 1 ≤ R.frames ∧ 8 + (maxL + 11) + rm.locals ≤ R.locals) (hn : As.length = n) (hsz : ls.size = nL) (hstack : st0 = As.reverse ++ .ref b :: rest) (hW : (rest.map fun v => v.category).sum ≤ 8) (hdg : decode cc pc = .ok (.invokespecial index, 3)) (hf : cells + mc ≤ R.cells ∧ slots + ms ≤ R.slots) :
    va_Run p l e R s m args below meth c H locs cells slots mc ms (F0 m pc ls st0) rest (Qc (Value.ref b :: As).toArray) A :=
  va_runIN C hM ⟨va_cnB n C.2.2.2.2 (wd_good hk.1) rfl hrc hrs (h.2.2.2.2.2 _ hlink rfl) (C.2.2.2.2 _ hk.2.1) hk.2.2 hR, hy1, C.2.2.2.2 _ hin⟩ ⟨wd_blind, fun U hU hW => ⟨rfl, wd_enter h hU hW⟩⟩ rfl hn hsz hstack (lv_room hW) hdg hf
theorem wd_ci (h : wd_C D T A s H locs σ) (hr : va_Run p l e R s m args below meth c H locs cells slots mc ms (F0 m pc ls st0) rest (va_Qi postI (wd_B D A) A av) A)
    (kk : ∀ (r : Int32) (σ1 : wd_S) (H1 : Heap) (locs1 : List Loc), postI r σ1 → wd_C D T A s H1 locs1 σ1 → W p l e R s m args below meth c H1 locs1 (cells + mc) (slots + ms) Q (F0 m (pc + 3) ls (.int r :: rest))) : W p l e R s m args below meth c H locs cells slots Q (F0 m pc ls st0) :=
  va_calli hr h.2.1 (fun _ _ z => z) (fun _ z => z) (fun r u t H1 locs1 ht _ hp hB _ _ hS => kk r u H1 locs1 hp ⟨by rw [← ht]; exact hB, hS, h.2.2⟩)
theorem wd_cv (h : wd_C D T A s H locs σ) (hr : va_Run p l e R s m args below meth c H locs cells slots mc ms (F0 m pc ls st0) rest (va_Qv postV (wd_B D A) A av) A)
    (kk : ∀ (σ1 : wd_S) (H1 : Heap) (locs1 : List Loc), postV σ1 → wd_C D T A s H1 locs1 σ1 → W p l e R s m args below meth c H1 locs1 (cells + mc) (slots + ms) Q (F0 m (pc + 3) ls rest)) : W p l e R s m args below meth c H locs cells slots Q (F0 m pc ls st0) :=
  va_callv hr h.2.1 (fun _ _ z => z) (fun _ z => z) (fun u t H1 locs1 ht _ hp hB _ _ hS => kk u H1 locs1 hp ⟨by rw [← ht]; exact hB, hS, h.2.2⟩)
theorem wd_cq (h : wd_C D T A s H locs σ) (hr : va_Run p l e R s m args below meth c H locs cells slots mc ms (F0 m pc ls st0) rest (va_Qq postQ (wd_B D A) A av) A)
    (kk : ∀ (r : Option Nat) (σ1 : wd_S) (H1 : Heap) (locs1 : List Loc), postQ r σ1 → wd_C D T A s H1 locs1 σ1 → W p l e R s m args below meth c H1 locs1 (cells + mc) (slots + ms) Q (F0 m (pc + 3) ls (va_rf r :: rest))) : W p l e R s m args below meth c H locs cells slots Q (F0 m pc ls st0) :=
  va_callq hr h.2.1 (fun _ _ z => z) (fun _ z => z) (fun r u t H1 locs1 ht _ hp hB _ _ hS => kk r u H1 locs1 hp ⟨by rw [← ht]; exact hB, hS, h.2.2⟩)
end WR
theorem k_F_init : wd_yk y_F_init b_F_init 1 0 none := ⟨wc_F_init, wi_F, by decide +kernel⟩
theorem k_P_init : wd_yk y_P_init b_P_init 1 0 none := ⟨wc_P_init, wi_P, by decide +kernel⟩
theorem k_F_item : wd_yk y_F_item b_F_item 5 4 (some .int) := ⟨wc_F_item, wi_F, by decide +kernel⟩
theorem k_F_within : wd_yk y_F_within b_F_within 3 3 (some .boolean) := ⟨wc_F_within, wi_F, by decide +kernel⟩
theorem k_F_turned : wd_yk y_F_turned b_F_turned 4 3 (some .int) := ⟨wc_F_turned, wi_F, by decide +kernel⟩
theorem k_I_init : wd_yk y_I_init b_I_init 5 4 none := ⟨wc_I_init, wi_I, by decide +kernel⟩
theorem k_F_service : wd_yk y_F_service b_F_service 5 2 (some .int) := ⟨wc_F_service, wi_F, by decide +kernel⟩
theorem k_F_find : wd_yk y_F_find b_F_find 2 1 (some (.object "ItemFacts$Item")) := ⟨wc_F_find, wi_F, by decide +kernel⟩
theorem k_I_has : wd_yk y_I_has b_I_has 2 1 (some .boolean) := ⟨wc_I_has, wi_I, by decide +kernel⟩
theorem k_I_isAtEnd : wd_yk y_I_isAtEnd b_I_isAtEnd 1 0 (some .boolean) := ⟨wc_I_isAtEnd, wi_I, by decide +kernel⟩
theorem k_I_leastExcluding : wd_yk y_I_leastExcluding b_I_leastExcluding 4 1 (some .int) := ⟨wc_I_leastExcluding, wi_I, by decide +kernel⟩
theorem k_I_lacksWhatIsWanted : wd_yk y_I_lacksWhatIsWanted b_I_lacksWhatIsWanted 2 1 (some .boolean) := ⟨wc_I_lacksWhatIsWanted, wi_I, by decide +kernel⟩
theorem k_J_bitCount : wd_yk y_J_bitCount b_J_bitCount 1 1 (some .int) := ⟨wc_J_bitCount, wi_J, by decide +kernel⟩
theorem k_F_event : wd_yk y_F_event b_F_event 5 2 (some .int) := ⟨wc_F_event, wi_F, by decide +kernel⟩
theorem k_I_stateBehind : wd_yk y_I_stateBehind b_I_stateBehind 2 1 (some .int) := ⟨wc_I_stateBehind, wi_I, by decide +kernel⟩
theorem k_F_mustWait : wd_yk y_F_mustWait b_F_mustWait 4 1 (some .boolean) := ⟨wc_F_mustWait, wi_F, by decide +kernel⟩
theorem k_I_undergo : wd_yk y_I_undergo b_I_undergo 3 2 none := ⟨wc_I_undergo, wi_I, by decide +kernel⟩
theorem k_F_address : wd_yk y_F_address b_F_address 6 3 (some .int) := ⟨wc_F_address, wi_F, by decide +kernel⟩
theorem k_F_abroad : wd_yk y_F_abroad b_F_abroad 4 2 (some .int) := ⟨wc_F_abroad, wi_F, by decide +kernel⟩
theorem k_F_contents : wd_yk y_F_contents b_F_contents 5 3 (some .int) := ⟨wc_F_contents, wi_F, by decide +kernel⟩
theorem k_F_join : wd_yk y_F_join b_F_join 5 3 (some .int) := ⟨wc_F_join, wi_F, by decide +kernel⟩
theorem k_F_bulk : wd_yk y_F_bulk b_F_bulk 4 2 (some .int) := ⟨wc_F_bulk, wi_F, by decide +kernel⟩
theorem k_F_open : wd_yk y_F_open b_F_open 5 3 (some .int) := ⟨wc_F_open, wi_F, by decide +kernel⟩
theorem k_F_correct : wd_yk y_F_correct b_F_correct 6 4 (some .int) := ⟨wc_F_correct, wi_F, by decide +kernel⟩
theorem k_F_mayBecome : wd_yk y_F_mayBecome b_F_mayBecome 2 2 (some .boolean) := ⟨wc_F_mayBecome, wi_F, by decide +kernel⟩
theorem k_I_wouldStay : wd_yk y_I_wouldStay b_I_wouldStay 3 2 (some .boolean) := ⟨wc_I_wouldStay, wi_I, by decide +kernel⟩
theorem k_I_correctable : wd_yk y_I_correctable b_I_correctable 2 1 (some .int) := ⟨wc_I_correctable, wi_I, by decide +kernel⟩
theorem k_C_init : wd_yk y_C_init b_C_init 6 5 none := ⟨wc_C_init, wi_C, by decide +kernel⟩
theorem k_I_become : wd_yk y_I_become b_I_become 3 2 none := ⟨wc_I_become, wi_I, by decide +kernel⟩
theorem k_F_row : wd_yk y_F_row b_F_row 4 2 (some .int) := ⟨wc_F_row, wi_F, by decide +kernel⟩
theorem k_C_part : wd_yk y_C_part b_C_part 2 1 (some .int) := ⟨wc_C_part, wi_C, by decide +kernel⟩
theorem k_F_about : wd_yk y_F_about b_F_about 4 2 (some .int) := ⟨wc_F_about, wi_F, by decide +kernel⟩
theorem k_I_fact : wd_yk y_I_fact b_I_fact 2 1 (some .int) := ⟨wc_I_fact, wi_I, by decide +kernel⟩
theorem k_F_pack : wd_yk y_F_pack b_F_pack 3 1 (some .int) := ⟨wc_F_pack, wi_F, by decide +kernel⟩
theorem k_P_fill : wd_yk y_P_fill b_P_fill 4 2 none := ⟨wc_P_fill, wi_P, by decide +kernel⟩
theorem k_P_addTwo : wd_yk y_P_addTwo b_P_addTwo 2 1 none := ⟨wc_P_addTwo, wi_P, by decide +kernel⟩
theorem k_P_add : wd_yk y_P_add b_P_add 2 1 none := ⟨wc_P_add, wi_P, by decide +kernel⟩
theorem k_P_addEntry : wd_yk y_P_addEntry b_P_addEntry 2 1 none := ⟨wc_P_addEntry, wi_P, by decide +kernel⟩
theorem k_P_xorOfAll : wd_yk y_P_xorOfAll b_P_xorOfAll 3 0 (some .int) := ⟨wc_P_xorOfAll, wi_P, by decide +kernel⟩
theorem k_F_octet : wd_yk y_F_octet b_F_octet 2 1 (some .int) := ⟨wc_F_octet, wi_F, by decide +kernel⟩
theorem k_P_at : wd_yk y_P_at b_P_at 2 1 (some .int) := ⟨wc_P_at, wi_P, by decide +kernel⟩
theorem k_F_aside : wd_yk y_F_aside b_F_aside 5 1 (some .int) := ⟨wc_F_aside, wi_F, by decide +kernel⟩
theorem k_I_isSetAside : wd_yk y_I_isSetAside b_I_isSetAside 1 0 (some .boolean) := ⟨wc_I_isSetAside, wi_I, by decide +kernel⟩
theorem k_M_init : wd_yk y_M_init b_M_init 1 0 none := ⟨wc_M_init, wi_M, by decide +kernel⟩
theorem k_M_item : wd_yk y_M_item b_M_item 6 4 (some .int) := ⟨wc_M_item, wi_M, by decide +kernel⟩
theorem k_M_within : wd_yk y_M_within b_M_within 3 3 (some .boolean) := ⟨wc_M_within, wi_M, by decide +kernel⟩
theorem k_M_tooMuch : wd_yk y_M_tooMuch b_M_tooMuch 2 2 (some .int) := ⟨wc_M_tooMuch, wi_M, by decide +kernel⟩
theorem k_M_turned : wd_yk y_M_turned b_M_turned 4 3 (some .int) := ⟨wc_M_turned, wi_M, by decide +kernel⟩
theorem k_M_mostOf : wd_yk y_M_mostOf b_M_mostOf 1 1 (some .int) := ⟨wc_M_mostOf, wi_M, by decide +kernel⟩
theorem k_M_service : wd_yk y_M_service b_M_service 6 2 (some .int) := ⟨wc_M_service, wi_M, by decide +kernel⟩
theorem k_M_isItem : wd_yk y_M_isItem b_M_isItem 2 1 (some .boolean) := ⟨wc_M_isItem, wi_M, by decide +kernel⟩
theorem k_M_has : wd_yk y_M_has b_M_has 3 2 (some .boolean) := ⟨wc_M_has, wi_M, by decide +kernel⟩
theorem k_M_isOver : wd_yk y_M_isOver b_M_isOver 2 1 (some .boolean) := ⟨wc_M_isOver, wi_M, by decide +kernel⟩
theorem k_M_excludes : wd_yk y_M_excludes b_M_excludes 4 2 (some .boolean) := ⟨wc_M_excludes, wi_M, by decide +kernel⟩
theorem k_M_event : wd_yk y_M_event b_M_event 4 2 (some .int) := ⟨wc_M_event, wi_M, by decide +kernel⟩
theorem k_M_ledTo : wd_yk y_M_ledTo b_M_ledTo 2 2 (some .int) := ⟨wc_M_ledTo, wi_M, by decide +kernel⟩
theorem k_M_mustWait : wd_yk y_M_mustWait b_M_mustWait 5 1 (some .boolean) := ⟨wc_M_mustWait, wi_M, by decide +kernel⟩
theorem k_M_address : wd_yk y_M_address b_M_address 5 3 (some .int) := ⟨wc_M_address, wi_M, by decide +kernel⟩
theorem k_M_abroad : wd_yk y_M_abroad b_M_abroad 3 2 (some .int) := ⟨wc_M_abroad, wi_M, by decide +kernel⟩
theorem k_M_contents : wd_yk y_M_contents b_M_contents 4 3 (some .int) := ⟨wc_M_contents, wi_M, by decide +kernel⟩
theorem k_M_join : wd_yk y_M_join b_M_join 4 3 (some .int) := ⟨wc_M_join, wi_M, by decide +kernel⟩
theorem k_M_belonging : wd_yk y_M_belonging b_M_belonging 5 2 (some .int) := ⟨wc_M_belonging, wi_M, by decide +kernel⟩
theorem k_M_bulk : wd_yk y_M_bulk b_M_bulk 3 2 (some .int) := ⟨wc_M_bulk, wi_M, by decide +kernel⟩
theorem k_M_open : wd_yk y_M_open b_M_open 4 3 (some .int) := ⟨wc_M_open, wi_M, by decide +kernel⟩
theorem k_M_correct : wd_yk y_M_correct b_M_correct 12 4 (some .int) := ⟨wc_M_correct, wi_M, by decide +kernel⟩
theorem k_M_factOf : wd_yk y_M_factOf b_M_factOf 3 2 (some .int) := ⟨wc_M_factOf, wi_M, by decide +kernel⟩
theorem k_M_row : wd_yk y_M_row b_M_row 3 2 (some .int) := ⟨wc_M_row, wi_M, by decide +kernel⟩
theorem k_M_about : wd_yk y_M_about b_M_about 3 2 (some .int) := ⟨wc_M_about, wi_M, by decide +kernel⟩
theorem k_M_pack : wd_yk y_M_pack b_M_pack 4 1 (some .int) := ⟨wc_M_pack, wi_M, by decide +kernel⟩
theorem k_M_put : wd_yk y_M_put b_M_put 4 2 none := ⟨wc_M_put, wi_M, by decide +kernel⟩
theorem k_M_octet : wd_yk y_M_octet b_M_octet 2 1 (some .int) := ⟨wc_M_octet, wi_M, by decide +kernel⟩
theorem k_M_aside : wd_yk y_M_aside b_M_aside 4 1 (some .int) := ⟨wc_M_aside, wi_M, by decide +kernel⟩
theorem kc_F : wd_cl 0 R_F F_F 8 t_F := ⟨rfl, i_F, t_F_ok, n_F⟩
theorem kc_I : wd_cl 1 R_I F_I 17 t_I := ⟨rfl, i_I, t_I_ok, n_I⟩
theorem kc_C : wd_cl 2 R_C F_C 5 t_C := ⟨rfl, i_C, t_C_ok, n_C⟩
theorem kc_P : wd_cl 3 R_P F_P 2 t_P := ⟨rfl, i_P, t_P_ok, n_P⟩
theorem kc_M : wd_cl 4 R_M F_M 23 t_M := ⟨rfl, i_M, t_M_ok, n_M⟩
theorem ks_bw : ("ItemFacts", "BEARS_WEIGHT", x_bw) ∈ wd_st := List.mem_of_getElem? (i := 0) rfl
theorem ks_bs : ("ItemFacts", "BEARS_SIZE", x_bs) ∈ wd_st := List.mem_of_getElem? (i := 1) rfl
theorem ks_ex : ("ItemFacts", "EXCLUDES", x_ex) ∈ wd_st := List.mem_of_getElem? (i := 2) rfl
