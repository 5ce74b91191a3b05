/-! TWO WORLDS SIDE BY SIDE over one heap: the law's; a call changes one of them, the other stays -/
theorem wd_W.weaken {D : va_G} {A B : Nat → Prop} {σ : wd_S} {H : Heap} (h : wd_W D A σ H) (hAB : ∀ a, σ a ≠ none → A a → B a) : wd_W D B σ H := by
  obtain ⟨L, f, hP, hD, hσ⟩ := h
  refine ⟨L, f, hP, hD.weaken (fun k q hk hA => hAB q.1 ?_ hA), hσ⟩
  obtain ⟨b, hb, e⟩ := List.mem_map.mp (List.mem_of_getElem? hk)
  rw [← e]
  rcases hσ b with ⟨_, h2⟩ | ⟨h1, _⟩
  · show σ b ≠ none
    rw [h2]; exact fun z => by cases z
  · exact absurd hb h1
theorem wd_W.at {D : va_G} {A : Nat → Prop} {σ : wd_S} {H : Heap} (h : wd_W D A σ H) {a : Nat} (ha : σ a ≠ none) : a < H.size ∧ A a := by
  obtain ⟨L, f, hP, hD, hσ⟩ := h
  rcases hσ a with ⟨h1, h2⟩ | ⟨_, h2⟩
  · obtain ⟨k, hk⟩ := va_pl_get (X := []) (f := f) h1
    exact ⟨(hP k _ hk).lt, hD.2 k _ hk⟩
  · exact absurd h2 ha
theorem wd_W.kept {D : va_G} {A : Nat → Prop} {σ : wd_S} {H H1 : Heap} (h : wd_W D A σ H) (hk : ∀ a, σ a ≠ none → H1[a]? = H[a]?) : wd_W D A σ H1 := by
  obtain ⟨L, f, hP, hD, hσ⟩ := h
  refine ⟨L, f, hP.kept (fun k q hq => hk q.1 ?_), hD, hσ⟩
  obtain ⟨b, hb, e⟩ := List.mem_map.mp (List.mem_of_getElem? hq)
  rw [← e]
  rcases hσ b with ⟨_, h2⟩ | ⟨h1, _⟩
  · show σ b ≠ none
    rw [h2]; exact fun z => by cases z
  · exact absurd hb h1
theorem wd_W.nil {D : va_G} {A : Nat → Prop} {H : Heap} : wd_W D A (fun _ => none) H := ⟨[], fun _ => .inr (0, []), fun k q h => by simp [va_pl] at h, ⟨fun i j p q h => by simp [va_pl] at h, fun k q h => by simp [va_pl] at h⟩, fun a => Or.inr ⟨List.not_mem_nil, rfl⟩⟩
def wd_A (s : State) : Nat → Prop := fun q => s.heap.size ≤ q
def wd_2 (D : va_G) (T : Nat → ClassId) (s : State) (H : Heap) (locs : List Loc) (σ1 σ2 : wd_S) : Prop := wd_W D (wd_A s) σ1 H ∧ wd_W D (wd_A s) σ2 H ∧ (∀ a, σ1 a = none ∨ σ2 a = none) ∧ va_S (wd_A s) s.heap H locs ∧ va_K D classes (wd_ty T) s ∧ wd_Z (wd_A s) s s.heap ∧ wd_N s
theorem wd_2.swap {D : va_G} {T : Nat → ClassId} {s : State} {H : Heap} {locs : List Loc} {σ1 σ2 : wd_S} (h : wd_2 D T s H locs σ1 σ2) : wd_2 D T s H locs σ2 σ1 := ⟨h.2.1, h.1, fun a => (h.2.2.1 a).symm, h.2.2.2⟩
def wd_O (σ : wd_S) (H : Heap) : Nat → Prop := fun q => σ q ≠ none ∨ H.size ≤ q
section W2
variable {p : Program} {l : Launch} {e : Env} {R : Room} {s : State} {m : MethodId} {args : Array Value} {below : List Frame} {meth : Method} {c : Code} {H : Heap} {locs : List Loc} {cells slots : Nat} {Q : State → Prop}
variable {cc bytes : ByteArray} {pc nL maxL mc ms n ci index b : Nat} {ls : Array Slot} {rest As st0 : List Value} {D : va_G} {T : Nat → ClassId} {σ1 σ2 : wd_S} {own : String} {y : MethodName} {ret : Option FieldType} {rm : Room} {fs : List Value} {Cn : String} {Tn : u_T} {N : Nat} {ty : Nat → FieldType} {postI : Int32 → wd_S → Prop} {postV : wd_S → Prop}
theorem wd_2e {U : State} (h : wd_2 D T s H locs σ1 σ2) (hU : U.heap = H) (hW : s.WarmedH U.vm) : wd_Pre D T (wd_O σ1 H) σ1 U := by
  obtain ⟨h1, h2, h3, h4, h5, h6, h7⟩ := h
  subst hU
  refine ⟨h1.weaken (fun a ha _ => Or.inl ha), va_S.rf, va_K.moved hW.alike h5, fun q hq => Or.inr hq, ?_, h7.warm hW⟩
  refine ((h6.narrow (fun q hq => ?_)).kept (fun a ha hn => h4.2.1 a ha (fun z => hn (Or.inr ?_)))).moved hW.alike
  · rcases hq with hq | hq
    · exact (h1.at hq).2
    · exact Nat.le_trans h4.1 hq
  · exact absurd z (Nat.not_le.mpr ha)
theorem wd_2o (h : wd_2 D T s H locs σ1 σ2) : ∀ q, wd_O σ1 H q → wd_A s q := fun q hq => by
  rcases hq with hq | hq
  · exact (h.1.at hq).2
  · exact Nat.le_trans h.2.2.2.1.1 hq
theorem wd_2j {H1 : Heap} {locs1 : List Loc} {σ' : wd_S} (h : wd_2 D T s H locs σ1 σ2) (hw : wd_W D (wd_O σ1 H) σ' H1) (hk : ∀ q : Nat, q < H.size → ¬ wd_O σ1 H q → H1[q]? = H[q]?) (hS : va_S (wd_A s) s.heap H1 locs1) : wd_2 D T s H1 locs1 σ' σ2 := by
  have ho := wd_2o h
  obtain ⟨h1, h2, h3, h4, h5, h6⟩ := h
  have hn : ∀ a, σ2 a ≠ none → ¬ wd_O σ1 H a := fun a ha z => by
    rcases z with z | z
    · rcases h3 a with q | q
      · exact z q
      · exact ha q
    · have := (h2.at ha).1
      omega
  refine ⟨hw.weaken (fun a _ z => ho a z), h2.kept (fun a ha => hk a (h2.at ha).1 (hn a ha)), fun a => ?_, hS, h5, h6⟩
  by_cases ha : σ2 a = none
  · exact Or.inr ha
  · refine Or.inl ?_
    cases hs : σ' a with
    | none => rfl
    | some x => exact absurd (hw.at (a := a) (by rw [hs]; exact fun z => by cases z)).2 (hn a ha)
theorem wd_2r (h : wd_2 D T s H locs σ1 σ2) (hc : wd_cl ci Cn Tn N ty) (he : σ1 b = some (.inr (ci, fs))) : ∃ cell : Cell, H[b]? = some cell ∧ cell.vm.isStatics = false ∧ s.vm.findClass Cn = some cell.cls := by
  obtain ⟨⟨L, f, hP, hD, hσ⟩, h2, h3, h4, h5, h6⟩ := h
  obtain ⟨q0, hq⟩ := wd_place hσ he
  exact va_recv h5 hP hc.1 hq
theorem wd_2ci (C : CallFix p m c cc nL s args wd_tb own) (h : wd_2 D T s H locs σ1 σ2) (hc : wd_cl ci Cn Tn N ty) (he : σ1 b = some (.inr (ci, fs))) (hk : wd_yk y bytes maxL n ret) (hin : Cond.instanceMethod y ∈ wd_tb) (hsel : Cond.selects Cn y y ∈ wd_tb) (hlink : Cond.methodLink own index y ∈ wd_tb)
    (hM : Met l y (Cond.code y bytes maxL ret :: wd_tb) rm (va_Pc (.ref b :: As) (wd_Pre D T (wd_O σ1 H) σ1)) (va_Qi postI (wd_B D (wd_O σ1 H)) (wd_O σ1 H)) mc ms (wd_O σ1 H)) (hrc : rm.cells = mc) (hrs : rm.slots = ms) (hR : rm.frames + 1 ≤ R.frames ∧ 8 + (maxL + 11) + rm.locals ≤ R.locals) (hn : As.length = n) (hsz : ls.size = nL) (hstack : st0 = As.reverse ++ .ref b :: rest) (hW : (rest.map fun v => v.category).sum ≤ 8) (hdg : decode cc pc = .ok (.invokevirtual index, 3)) (hf : cells + mc ≤ R.cells ∧ slots + ms ≤ R.slots)
    (kk : ∀ (r : Int32) (σ' : wd_S) (H1 : Heap) (locs1 : List Loc), postI r σ' → wd_2 D T s H1 locs1 σ' σ2 → W p l e R s m args below meth c H1 locs1 (cells + mc) (slots + ms) Q (F0 m (pc + 3) ls (.int r :: rest))) : W p l e R s m args below meth c H locs cells slots Q (F0 m pc ls st0) :=
  va_calli (va_runV C hM ⟨callB_of n C.2.2.2.2 (wd_good hk.1) rfl hrc hrs (C.2.2.2.2 _ hk.2.1) (C.2.2.2.2 _ hlink) hk.2.2 hR, C.2.2.2.2 _ hin, C.2.2.2.2 _ hsel⟩ ⟨wd_blind, wd_2r h hc he, fun U hU hW => ⟨rfl, wd_2e h hU hW⟩⟩ rfl hn hsz hstack (lv_room hW) hdg hf) h.2.2.2.1 (fun q _ z => wd_2o h q z) (wd_2o h) (fun r u t H1 locs1 ht _ hp hB _ hk hS => kk r u H1 locs1 hp (wd_2j h (by rw [← ht]; exact hB) hk hS))
theorem wd_2cv (C : CallFix p m c cc nL s args wd_tb own) (h : wd_2 D T s H locs σ1 σ2) (hk : wd_yk y bytes maxL n none) (hin : Cond.instanceMethod y ∈ wd_tb) (hy1 : y.name = "<init>") (hlink : Cond.methodLink own index y ∈ wd_tb)
    (hM : Met l y (Cond.code y bytes maxL none :: wd_tb) rm (va_Pc (.ref b :: As) (wd_Pre D T (wd_O σ1 H) σ1)) (va_Qv postV (wd_B D (wd_O σ1 H)) (wd_O σ1 H)) mc ms (wd_O σ1 H)) (hrc : rm.cells = mc) (hrs : rm.slots = ms) (hR : rm.frames + 1 ≤ R.frames ∧ 8 + (maxL + 11) + rm.locals ≤ R.locals) (hn : As.length = n) (hsz : ls.size = nL) (hstack : st0 = As.reverse ++ .ref b :: rest) (hW : (rest.map fun v => v.category).sum ≤ 8) (hdg : decode cc pc = .ok (.invokespecial index, 3)) (hf : cells + mc ≤ R.cells ∧ slots + ms ≤ R.slots)
    (kk : ∀ (σ' : wd_S) (H1 : Heap) (locs1 : List Loc), postV σ' → wd_2 D T s H1 locs1 σ' σ2 → W p l e R s m args below meth c H1 locs1 (cells + mc) (slots + ms) Q (F0 m (pc + 3) ls rest)) : W p l e R s m args below meth c H locs cells slots Q (F0 m pc ls st0) :=
  va_callv (va_runI C hM ⟨callB_of n C.2.2.2.2 (wd_good hk.1) rfl hrc hrs (C.2.2.2.2 _ hk.2.1) (C.2.2.2.2 _ hlink) hk.2.2 hR, hy1, C.2.2.2.2 _ hin⟩ ⟨wd_blind, fun U hU hW => ⟨rfl, wd_2e h hU hW⟩⟩ rfl hn hsz hstack (lv_room hW) hdg hf) h.2.2.2.1 (fun q _ z => wd_2o h q z) (wd_2o h) (fun u t H1 locs1 ht _ hp hB _ hk hS => kk u H1 locs1 hp (wd_2j h (by rw [← ht]; exact hB) hk hS))
theorem wd_2n (C : CallFix p m c cc nL s args wd_tb own) (h : wd_2 D T s H locs σ1 σ2) (hc : wd_cl ci Cn Tn N ty) (hcl : Cond.classLink own index Cn ∈ wd_tb) (hinst : Cond.instantiable Cn N ∈ wd_tb) (hini : Cond.initialized Cn ∈ wd_tb) (hfs : ∀ j, j < N → defaultValue (ty j) = vp_V fs j) (hcells : cells + 1 ≤ R.cells) (hslots : slots + N ≤ R.slots) (hdg : decode cc pc = .ok (.new index, 3))
    (kk : ∀ (q : Nat) (H1 : Heap), wd_2 D T s H1 locs (wd_up σ1 q (.inr (ci, fs))) σ2 → W p l e R s m args below meth c H1 locs (cells + 1) (slots + N) Q (F0 m (pc + 3) ls (.ref q :: rest))) : W p l e R s m args below meth c H locs cells slots Q (F0 m pc ls rest) := by
  obtain ⟨⟨L, f, hP, hD, hσ⟩, ⟨L2, f2, hP2, hD2, hσ2⟩, h3, h4, h5, h6⟩ := h
  have hx : ∀ (i j : Nat) (p q : Nat × va_E), (va_pl L2 f2)[i]? = some p → (va_pl L f)[j]? = some q → p.1 ≠ q.1 := fun i j p q hp hq z => by
    obtain ⟨x, hx, ex⟩ := List.mem_map.mp (List.mem_of_getElem? hp)
    obtain ⟨w, hw, ew⟩ := List.mem_map.mp (List.mem_of_getElem? hq)
    rw [← ex, ← ew] at z
    have z : x = w := z
    subst z
    rcases hσ x with ⟨_, a1⟩ | ⟨a1, _⟩
    · rcases hσ2 x with ⟨_, b1⟩ | ⟨b1, _⟩
      · rcases h3 x with q | q
        · rw [q] at a1; cases a1
        · rw [q] at b1; cases b1
      · exact b1 hx
    · exact a1 hw
  refine va_new C.1 C.2.1 C.2.2.2.2 hc.2.1 ty hc.2.2.1 C.2.2.2.1 (C.2.2.2.2 _ hcl) (C.2.2.2.2 _ hinst) (C.2.2.2.2 _ hini) h5 (hP2.app hP) (va_D.app hD2 hD hx) h4 (fun q hq => hq) hc.1 hfs hcells hslots hdg (fun q H1 hP1 hD1 hS1 => ?_)
  have hP1' : ∀ x ∈ va_pl L2 f2 ++ va_pl L f ++ [(q, .inr (ci, fs))], va_at D classes x H1 := fun x hx => by
    obtain ⟨i, hi⟩ := List.getElem?_of_mem hx
    exact hP1 i x hi
  have hq1 : ∀ x ∈ va_pl L2 f2 ++ va_pl L f, x.1 ≠ q := fun x hx z => by
    obtain ⟨i, hi⟩ := List.getElem?_of_mem hx
    have hl := (List.getElem?_eq_some_iff.mp hi).1
    have := hD1.1 i (va_pl L2 f2 ++ va_pl L f).length x (q, .inr (ci, fs)) (by rw [List.getElem?_append_left hl]; exact hi) (by rw [List.getElem?_append_right (Nat.le_refl _), Nat.sub_self]; rfl) z
    omega
  have hPa : va_P D classes (va_pl L f ++ [(q, .inr (ci, fs))]) H1 := fun k x hk => hP1' x (by
    rcases List.mem_append.mp (List.mem_of_getElem? hk) with h | h
    · exact List.mem_append_left _ (List.mem_append_right _ h)
    · exact List.mem_append_right _ h)
  have hAq : wd_A s q := hD1.2 (va_pl L2 f2 ++ va_pl L f).length (q, .inr (ci, fs)) (by rw [List.getElem?_append_right (Nat.le_refl _), Nat.sub_self]; rfl)
  have hDa : va_D (wd_A s) (va_pl L f ++ [(q, .inr (ci, fs))]) := va_D.app hD ⟨fun i j p r hp hr _ => by
      have h1 := (List.getElem?_eq_some_iff.mp hp).1
      have h2 := (List.getElem?_eq_some_iff.mp hr).1
      simp at h1 h2
      omega, fun k r hr => by
      rw [List.mem_singleton.mp (List.mem_of_getElem? hr)]
      exact hAq⟩ (fun i j p r hp hr => by
      rw [List.mem_singleton.mp (List.mem_of_getElem? hr)]
      exact hq1 p (List.mem_append_right _ (List.mem_of_getElem? hp)))
  obtain ⟨e1, e2⟩ := wd_push hσ hPa hDa
  refine kk q H1 ⟨e2, ⟨L2, f2, fun k x hk => hP1' x (List.mem_append_left _ (List.mem_append_left _ (List.mem_of_getElem? hk))), hD2, hσ2⟩, fun a => ?_, hS1, h5, h6⟩
  by_cases ha : a = q
  · subst ha
    refine Or.inr ?_
    rcases hσ2 a with ⟨b1, _⟩ | ⟨_, b1⟩
    · exact absurd rfl (hq1 (a, f2 a) (List.mem_append_left _ (List.mem_map.mpr ⟨a, b1, rfl⟩)))
    · exact b1
  · rw [wd_un σ1 _ ha]
    exact h3 a
end W2
