-- ===== PART A: goes FIRST, ahead of the names: the tables' words, and 'selects' of the private methods out of them =====
/-- a private method of a class that the tables say can be made, by its rows of tables_1 -/
def lw_okq (q : MethodName × Nat) : Prop := (q.1.cls ≠ "java/lang/invoke/MethodHandle" ∧ q.1.cls ≠ "java/lang/invoke/VarHandle") ∧ Cond.instantiable q.1.cls q.2 ∈ tables_1 ∧ Cond.privateMethod q.1 ∈ tables_1 ∧ Cond.instanceMethod q.1 ∈ tables_1
theorem lw_p0 : lw_okq (⟨"ItemFacts", "find", "(I)LItemFacts$Item;"⟩, 8) := ⟨⟨by decide +kernel, by decide +kernel⟩, List.mem_of_getElem? (i := 8) (by decide +kernel), List.mem_of_getElem? (i := 162) (by decide +kernel), List.mem_of_getElem? (i := 163) (by decide +kernel)⟩
theorem lw_p1 : lw_okq (⟨"ItemFacts$Item", "has", "(I)Z"⟩, 17) := ⟨⟨by decide +kernel, by decide +kernel⟩, List.mem_of_getElem? (i := 72) (by decide +kernel), List.mem_of_getElem? (i := 166) (by decide +kernel), List.mem_of_getElem? (i := 167) (by decide +kernel)⟩
theorem lw_p2 : lw_okq (⟨"ItemFacts$Item", "isAtEnd", "()Z"⟩, 17) := ⟨⟨by decide +kernel, by decide +kernel⟩, List.mem_of_getElem? (i := 72) (by decide +kernel), List.mem_of_getElem? (i := 170) (by decide +kernel), List.mem_of_getElem? (i := 171) (by decide +kernel)⟩
theorem lw_p3 : lw_okq (⟨"ItemFacts$Item", "leastExcluding", "(I)I"⟩, 17) := ⟨⟨by decide +kernel, by decide +kernel⟩, List.mem_of_getElem? (i := 72) (by decide +kernel), List.mem_of_getElem? (i := 174) (by decide +kernel), List.mem_of_getElem? (i := 175) (by decide +kernel)⟩
theorem lw_p4 : lw_okq (⟨"ItemFacts$Item", "lacksWhatIsWanted", "(I)Z"⟩, 17) := ⟨⟨by decide +kernel, by decide +kernel⟩, List.mem_of_getElem? (i := 72) (by decide +kernel), List.mem_of_getElem? (i := 181) (by decide +kernel), List.mem_of_getElem? (i := 182) (by decide +kernel)⟩
theorem lw_p5 : lw_okq (⟨"ItemFacts$Item", "stateBehind", "(I)I"⟩, 17) := ⟨⟨by decide +kernel, by decide +kernel⟩, List.mem_of_getElem? (i := 72) (by decide +kernel), List.mem_of_getElem? (i := 196) (by decide +kernel), List.mem_of_getElem? (i := 197) (by decide +kernel)⟩
theorem lw_p6 : lw_okq (⟨"ItemFacts", "mustWait", "(I)Z"⟩, 8) := ⟨⟨by decide +kernel, by decide +kernel⟩, List.mem_of_getElem? (i := 8) (by decide +kernel), List.mem_of_getElem? (i := 200) (by decide +kernel), List.mem_of_getElem? (i := 201) (by decide +kernel)⟩
theorem lw_p7 : lw_okq (⟨"ItemFacts$Item", "undergo", "(II)V"⟩, 17) := ⟨⟨by decide +kernel, by decide +kernel⟩, List.mem_of_getElem? (i := 72) (by decide +kernel), List.mem_of_getElem? (i := 204) (by decide +kernel), List.mem_of_getElem? (i := 205) (by decide +kernel)⟩
theorem lw_p8 : lw_okq (⟨"ItemFacts$Item", "wouldStay", "(II)Z"⟩, 17) := ⟨⟨by decide +kernel, by decide +kernel⟩, List.mem_of_getElem? (i := 72) (by decide +kernel), List.mem_of_getElem? (i := 239) (by decide +kernel), List.mem_of_getElem? (i := 240) (by decide +kernel)⟩
theorem lw_p9 : lw_okq (⟨"ItemFacts$Item", "correctable", "(I)I"⟩, 17) := ⟨⟨by decide +kernel, by decide +kernel⟩, List.mem_of_getElem? (i := 72) (by decide +kernel), List.mem_of_getElem? (i := 244) (by decide +kernel), List.mem_of_getElem? (i := 245) (by decide +kernel)⟩
theorem lw_p10 : lw_okq (⟨"ItemFacts$Item", "become", "(II)V"⟩, 17) := ⟨⟨by decide +kernel, by decide +kernel⟩, List.mem_of_getElem? (i := 72) (by decide +kernel), List.mem_of_getElem? (i := 270) (by decide +kernel), List.mem_of_getElem? (i := 271) (by decide +kernel)⟩
theorem lw_p11 : lw_okq (⟨"ItemFacts$Correction", "part", "(I)I"⟩, 5) := ⟨⟨by decide +kernel, by decide +kernel⟩, List.mem_of_getElem? (i := 247) (by decide +kernel), List.mem_of_getElem? (i := 278) (by decide +kernel), List.mem_of_getElem? (i := 279) (by decide +kernel)⟩
theorem lw_p12 : lw_okq (⟨"ItemFacts$Item", "fact", "(I)I"⟩, 17) := ⟨⟨by decide +kernel, by decide +kernel⟩, List.mem_of_getElem? (i := 72) (by decide +kernel), List.mem_of_getElem? (i := 286) (by decide +kernel), List.mem_of_getElem? (i := 287) (by decide +kernel)⟩
theorem lw_p13 : lw_okq (⟨"ItemFacts$Packed", "fill", "(ILItemFacts$Item;)V"⟩, 2) := ⟨⟨by decide +kernel, by decide +kernel⟩, List.mem_of_getElem? (i := 20) (by decide +kernel), List.mem_of_getElem? (i := 294) (by decide +kernel), List.mem_of_getElem? (i := 295) (by decide +kernel)⟩
theorem lw_p14 : lw_okq (⟨"ItemFacts$Packed", "addTwo", "(I)V"⟩, 2) := ⟨⟨by decide +kernel, by decide +kernel⟩, List.mem_of_getElem? (i := 20) (by decide +kernel), List.mem_of_getElem? (i := 298) (by decide +kernel), List.mem_of_getElem? (i := 299) (by decide +kernel)⟩
theorem lw_p15 : lw_okq (⟨"ItemFacts$Packed", "add", "(I)V"⟩, 2) := ⟨⟨by decide +kernel, by decide +kernel⟩, List.mem_of_getElem? (i := 20) (by decide +kernel), List.mem_of_getElem? (i := 302) (by decide +kernel), List.mem_of_getElem? (i := 303) (by decide +kernel)⟩
def lw_privs_1 : List (MethodName × Nat) := [(⟨"ItemFacts", "find", "(I)LItemFacts$Item;"⟩, 8), (⟨"ItemFacts$Item", "has", "(I)Z"⟩, 17), (⟨"ItemFacts$Item", "isAtEnd", "()Z"⟩, 17), (⟨"ItemFacts$Item", "leastExcluding", "(I)I"⟩, 17), (⟨"ItemFacts$Item", "lacksWhatIsWanted", "(I)Z"⟩, 17), (⟨"ItemFacts$Item", "stateBehind", "(I)I"⟩, 17), (⟨"ItemFacts", "mustWait", "(I)Z"⟩, 8), (⟨"ItemFacts$Item", "undergo", "(II)V"⟩, 17), (⟨"ItemFacts$Item", "wouldStay", "(II)Z"⟩, 17), (⟨"ItemFacts$Item", "correctable", "(I)I"⟩, 17), (⟨"ItemFacts$Item", "become", "(II)V"⟩, 17), (⟨"ItemFacts$Correction", "part", "(I)I"⟩, 5), (⟨"ItemFacts$Item", "fact", "(I)I"⟩, 17), (⟨"ItemFacts$Packed", "fill", "(ILItemFacts$Item;)V"⟩, 2), (⟨"ItemFacts$Packed", "addTwo", "(I)V"⟩, 2), (⟨"ItemFacts$Packed", "add", "(I)V"⟩, 2)]
theorem lw_r1 : ∀ q ∈ lw_privs_1, lw_okq q := List.forall_mem_cons.mpr ⟨lw_p0, List.forall_mem_cons.mpr ⟨lw_p1, List.forall_mem_cons.mpr ⟨lw_p2, List.forall_mem_cons.mpr ⟨lw_p3, List.forall_mem_cons.mpr ⟨lw_p4, List.forall_mem_cons.mpr ⟨lw_p5, List.forall_mem_cons.mpr ⟨lw_p6, List.forall_mem_cons.mpr ⟨lw_p7, List.forall_mem_cons.mpr ⟨lw_p8, List.forall_mem_cons.mpr ⟨lw_p9, List.forall_mem_cons.mpr ⟨lw_p10, List.forall_mem_cons.mpr ⟨lw_p11, List.forall_mem_cons.mpr ⟨lw_p12, List.forall_mem_cons.mpr ⟨lw_p13, List.forall_mem_cons.mpr ⟨lw_p14, List.forall_mem_cons.mpr ⟨lw_p15, fun _ h => absurd h List.not_mem_nil⟩⟩⟩⟩⟩⟩⟩⟩⟩⟩⟩⟩⟩⟩⟩⟩
theorem lw_p16 : lw_okq (⟨"ItemFacts$Packed", "addEntry", "(I)V"⟩, 2) := ⟨⟨by decide +kernel, by decide +kernel⟩, List.mem_of_getElem? (i := 20) (by decide +kernel), List.mem_of_getElem? (i := 306) (by decide +kernel), List.mem_of_getElem? (i := 307) (by decide +kernel)⟩
theorem lw_p17 : lw_okq (⟨"ItemFacts$Packed", "xorOfAll", "()I"⟩, 2) := ⟨⟨by decide +kernel, by decide +kernel⟩, List.mem_of_getElem? (i := 20) (by decide +kernel), List.mem_of_getElem? (i := 311) (by decide +kernel), List.mem_of_getElem? (i := 312) (by decide +kernel)⟩
theorem lw_p18 : lw_okq (⟨"ItemFacts$Packed", "at", "(I)I"⟩, 2) := ⟨⟨by decide +kernel, by decide +kernel⟩, List.mem_of_getElem? (i := 20) (by decide +kernel), List.mem_of_getElem? (i := 319) (by decide +kernel), List.mem_of_getElem? (i := 320) (by decide +kernel)⟩
theorem lw_p19 : lw_okq (⟨"ItemFacts$Item", "isSetAside", "()Z"⟩, 17) := ⟨⟨by decide +kernel, by decide +kernel⟩, List.mem_of_getElem? (i := 72) (by decide +kernel), List.mem_of_getElem? (i := 328) (by decide +kernel), List.mem_of_getElem? (i := 329) (by decide +kernel)⟩
theorem lw_p20 : lw_okq (⟨"ItemFactsModel", "isItem", "(I)Z"⟩, 23) := ⟨⟨by decide +kernel, by decide +kernel⟩, List.mem_of_getElem? (i := 332) (by decide +kernel), List.mem_of_getElem? (i := 429) (by decide +kernel), List.mem_of_getElem? (i := 430) (by decide +kernel)⟩
theorem lw_p21 : lw_okq (⟨"ItemFactsModel", "has", "(II)Z"⟩, 23) := ⟨⟨by decide +kernel, by decide +kernel⟩, List.mem_of_getElem? (i := 332) (by decide +kernel), List.mem_of_getElem? (i := 433) (by decide +kernel), List.mem_of_getElem? (i := 434) (by decide +kernel)⟩
theorem lw_p22 : lw_okq (⟨"ItemFactsModel", "isOver", "(I)Z"⟩, 23) := ⟨⟨by decide +kernel, by decide +kernel⟩, List.mem_of_getElem? (i := 332) (by decide +kernel), List.mem_of_getElem? (i := 437) (by decide +kernel), List.mem_of_getElem? (i := 438) (by decide +kernel)⟩
theorem lw_p23 : lw_okq (⟨"ItemFactsModel", "mustWait", "(I)Z"⟩, 23) := ⟨⟨by decide +kernel, by decide +kernel⟩, List.mem_of_getElem? (i := 332) (by decide +kernel), List.mem_of_getElem? (i := 451) (by decide +kernel), List.mem_of_getElem? (i := 452) (by decide +kernel)⟩
theorem lw_p24 : lw_okq (⟨"ItemFactsModel", "belonging", "([II)I"⟩, 23) := ⟨⟨by decide +kernel, by decide +kernel⟩, List.mem_of_getElem? (i := 332) (by decide +kernel), List.mem_of_getElem? (i := 471) (by decide +kernel), List.mem_of_getElem? (i := 472) (by decide +kernel)⟩
theorem lw_p25 : lw_okq (⟨"ItemFactsModel", "factOf", "(II)I"⟩, 23) := ⟨⟨by decide +kernel, by decide +kernel⟩, List.mem_of_getElem? (i := 332) (by decide +kernel), List.mem_of_getElem? (i := 487) (by decide +kernel), List.mem_of_getElem? (i := 488) (by decide +kernel)⟩
theorem lw_p26 : lw_okq (⟨"ItemFactsModel", "put", "(II)V"⟩, 23) := ⟨⟨by decide +kernel, by decide +kernel⟩, List.mem_of_getElem? (i := 332) (by decide +kernel), List.mem_of_getElem? (i := 503) (by decide +kernel), List.mem_of_getElem? (i := 504) (by decide +kernel)⟩
def lw_privs_2 : List (MethodName × Nat) := [(⟨"ItemFacts$Packed", "addEntry", "(I)V"⟩, 2), (⟨"ItemFacts$Packed", "xorOfAll", "()I"⟩, 2), (⟨"ItemFacts$Packed", "at", "(I)I"⟩, 2), (⟨"ItemFacts$Item", "isSetAside", "()Z"⟩, 17), (⟨"ItemFactsModel", "isItem", "(I)Z"⟩, 23), (⟨"ItemFactsModel", "has", "(II)Z"⟩, 23), (⟨"ItemFactsModel", "isOver", "(I)Z"⟩, 23), (⟨"ItemFactsModel", "mustWait", "(I)Z"⟩, 23), (⟨"ItemFactsModel", "belonging", "([II)I"⟩, 23), (⟨"ItemFactsModel", "factOf", "(II)I"⟩, 23), (⟨"ItemFactsModel", "put", "(II)V"⟩, 23)]
theorem lw_r2 : ∀ q ∈ lw_privs_2, lw_okq q := List.forall_mem_cons.mpr ⟨lw_p16, List.forall_mem_cons.mpr ⟨lw_p17, List.forall_mem_cons.mpr ⟨lw_p18, List.forall_mem_cons.mpr ⟨lw_p19, List.forall_mem_cons.mpr ⟨lw_p20, List.forall_mem_cons.mpr ⟨lw_p21, List.forall_mem_cons.mpr ⟨lw_p22, List.forall_mem_cons.mpr ⟨lw_p23, List.forall_mem_cons.mpr ⟨lw_p24, List.forall_mem_cons.mpr ⟨lw_p25, List.forall_mem_cons.mpr ⟨lw_p26, fun _ h => absurd h List.not_mem_nil⟩⟩⟩⟩⟩⟩⟩⟩⟩⟩⟩
def lw_privs : List (MethodName × Nat) := lw_privs_1 ++ (lw_privs_2)
def lw_tbl : List Cond := k2_sels lw_privs ++ tables_1
theorem lw_privs_ok : ∀ q ∈ lw_privs, lw_okq q := by
  show ∀ q ∈ lw_privs_1 ++ (lw_privs_2), lw_okq q
  exact List.forall_mem_append.mpr ⟨lw_r1, lw_r2⟩

def wd_tb : List Cond := lw_tbl.filter goodWord
theorem wd_goodAll : ∀ w ∈ wd_tb, (w.onTables && w.keeps) = true ∨ ∃ ty, w = .arrayClass ty := fun w hw => good_of_word (List.mem_filter.mp hw).2
theorem wd_in {w : Cond} (i : Nat) (h : lw_tbl[i]? = some w) (g : goodWord w = true) : w ∈ wd_tb := List.mem_filter.mpr ⟨List.mem_of_getElem? h, g⟩
def R_F : String := "ItemFacts"
def F_F : u_T := fun k => match k with
  | 0 => ("ItemFacts", "items", "[LItemFacts$Item;", true)
  | 1 => ("ItemFacts", "itemCount", "I", false)
  | 2 => ("ItemFacts", "corrections", "[LItemFacts$Correction;", true)
  | 3 => ("ItemFacts", "correctionCount", "I", false)
  | 4 => ("ItemFacts", "joined", "[I", true)
  | 5 => ("ItemFacts", "waiting", "[Z", true)
  | 6 => ("ItemFacts", "bulked", "[I", true)
  | _ => ("ItemFacts", "packed", "LItemFacts$Packed;", true)
def t_F : Nat → FieldType := fun k => match k with
  | 0 => .array (.object "ItemFacts$Item")
  | 1 => .int
  | 2 => .array (.object "ItemFacts$Correction")
  | 3 => .int
  | 4 => .array .int
  | 5 => .array .boolean
  | 6 => .array .int
  | _ => .object "ItemFacts$Packed"
def R_I : String := "ItemFacts$Item"
def F_I : u_T := fun k => match k with
  | 0 => ("ItemFacts$Item", "kind", "I", false)
  | 1 => ("ItemFacts$Item", "weight", "I", false)
  | 2 => ("ItemFacts$Item", "size", "I", false)
  | 3 => ("ItemFacts$Item", "sender", "I", true)
  | 4 => ("ItemFacts$Item", "services", "I", false)
  | 5 => ("ItemFacts$Item", "state", "I", false)
  | 6 => ("ItemFacts$Item", "damaged", "Z", false)
  | 7 => ("ItemFacts$Item", "read", "I", false)
  | 8 => ("ItemFacts$Item", "settled", "I", false)
  | 9 => ("ItemFacts$Item", "land", "I", false)
  | 10 => ("ItemFacts$Item", "consignment", "I", false)
  | 11 => ("ItemFacts$Item", "bulkNumber", "I", false)
  | 12 => ("ItemFacts$Item", "late", "I", false)
  | 13 => ("ItemFacts$Item", "openers", "I", false)
  | 14 => ("ItemFacts$Item", "contentCount", "I", false)
  | 15 => ("ItemFacts$Item", "whats", "[I", true)
  | _ => ("ItemFacts$Item", "cents", "[I", true)
def t_I : Nat → FieldType := fun k => match k with
  | 0 => .int
  | 1 => .int
  | 2 => .int
  | 3 => .int
  | 4 => .int
  | 5 => .int
  | 6 => .boolean
  | 7 => .int
  | 8 => .int
  | 9 => .int
  | 10 => .int
  | 11 => .int
  | 12 => .int
  | 13 => .int
  | 14 => .int
  | 15 => .array .int
  | _ => .array .int
def R_C : String := "ItemFacts$Correction"
def F_C : u_T := fun k => match k with
  | 0 => ("ItemFacts$Correction", "number", "I", true)
  | 1 => ("ItemFacts$Correction", "what", "I", true)
  | 2 => ("ItemFacts$Correction", "was", "I", true)
  | 3 => ("ItemFacts$Correction", "told", "I", true)
  | _ => ("ItemFacts$Correction", "reason", "I", true)
def t_C : Nat → FieldType := fun k => match k with
  | 0 => .int
  | 1 => .int
  | 2 => .int
  | 3 => .int
  | _ => .int
def R_P : String := "ItemFacts$Packed"
def F_P : u_T := fun k => match k with
  | 0 => ("ItemFacts$Packed", "bytes", "[I", true)
  | _ => ("ItemFacts$Packed", "length", "I", false)
def t_P : Nat → FieldType := fun k => match k with
  | 0 => .array .int
  | _ => .int
def R_M : String := "ItemFactsModel"
def F_M : u_T := fun k => match k with
  | 0 => ("ItemFactsModel", "items", "I", false)
  | 1 => ("ItemFactsModel", "kinds", "[I", true)
  | 2 => ("ItemFactsModel", "weights", "[I", true)
  | 3 => ("ItemFactsModel", "sizes", "[I", true)
  | 4 => ("ItemFactsModel", "senders", "[I", true)
  | 5 => ("ItemFactsModel", "services", "[I", true)
  | 6 => ("ItemFactsModel", "states", "[I", true)
  | 7 => ("ItemFactsModel", "damaged", "[Z", true)
  | 8 => ("ItemFactsModel", "late", "[I", true)
  | 9 => ("ItemFactsModel", "asRead", "[I", true)
  | 10 => ("ItemFactsModel", "settled", "[I", true)
  | 11 => ("ItemFactsModel", "lands", "[I", true)
  | 12 => ("ItemFactsModel", "many", "[I", true)
  | 13 => ("ItemFactsModel", "whats", "[I", true)
  | 14 => ("ItemFactsModel", "cents", "[I", true)
  | 15 => ("ItemFactsModel", "consignments", "[I", true)
  | 16 => ("ItemFactsModel", "waiting", "[Z", true)
  | 17 => ("ItemFactsModel", "bulks", "[I", true)
  | 18 => ("ItemFactsModel", "openers", "[I", true)
  | 19 => ("ItemFactsModel", "rows", "I", false)
  | 20 => ("ItemFactsModel", "rowCells", "[I", true)
  | 21 => ("ItemFactsModel", "packed", "I", false)
  | _ => ("ItemFactsModel", "bytes", "[I", true)
def t_M : Nat → FieldType := fun k => match k with
  | 0 => .int
  | 1 => .array .int
  | 2 => .array .int
  | 3 => .array .int
  | 4 => .array .int
  | 5 => .array .int
  | 6 => .array .int
  | 7 => .array .boolean
  | 8 => .array .int
  | 9 => .array .int
  | 10 => .array .int
  | 11 => .array .int
  | 12 => .array .int
  | 13 => .array .int
  | 14 => .array .int
  | 15 => .array .int
  | 16 => .array .boolean
  | 17 => .array .int
  | 18 => .array .int
  | 19 => .int
  | 20 => .array .int
  | 21 => .int
  | _ => .array .int
def R_L : String := "ItemFactsLaw"
def R_J : String := "java/lang/Integer"
abbrev classes : List vw_C := [(R_F, F_F, 8), (R_I, F_I, 17), (R_C, F_C, 5), (R_P, F_P, 2), (R_M, F_M, 23)]
abbrev b_F_init : ByteArray := prog_1_method_1_code
def y_F_init : MethodName := ⟨R_F, "<init>", "()V"⟩
abbrev b_P_init : ByteArray := prog_4_method_1_code
def y_P_init : MethodName := ⟨R_P, "<init>", "()V"⟩
abbrev b_F_item : ByteArray := prog_1_method_2_code
def y_F_item : MethodName := ⟨R_F, "item", "(IIII)I"⟩
abbrev b_F_within : ByteArray := prog_1_method_17_code
def y_F_within : MethodName := ⟨R_F, "within", "(III)Z"⟩
abbrev b_F_turned : ByteArray := prog_1_method_19_code
def y_F_turned : MethodName := ⟨R_F, "turned", "(III)I"⟩
abbrev b_I_init : ByteArray := prog_3_method_1_code
def y_I_init : MethodName := ⟨R_I, "<init>", "(IIII)V"⟩
abbrev b_F_service : ByteArray := prog_1_method_3_code
def y_F_service : MethodName := ⟨R_F, "service", "(II)I"⟩
abbrev b_F_find : ByteArray := prog_1_method_18_code
def y_F_find : MethodName := ⟨R_F, "find", "(I)LItemFacts$Item;"⟩
abbrev b_I_has : ByteArray := prog_3_method_2_code
def y_I_has : MethodName := ⟨R_I, "has", "(I)Z"⟩
abbrev b_I_isAtEnd : ByteArray := prog_3_method_3_code
def y_I_isAtEnd : MethodName := ⟨R_I, "isAtEnd", "()Z"⟩
abbrev b_I_leastExcluding : ByteArray := prog_3_method_5_code
def y_I_leastExcluding : MethodName := ⟨R_I, "leastExcluding", "(I)I"⟩
abbrev b_I_lacksWhatIsWanted : ByteArray := prog_3_method_6_code
def y_I_lacksWhatIsWanted : MethodName := ⟨R_I, "lacksWhatIsWanted", "(I)Z"⟩
abbrev b_J_bitCount : ByteArray := prog_7_method_49_code
def y_J_bitCount : MethodName := ⟨R_J, "bitCount", "(I)I"⟩
abbrev b_F_event : ByteArray := prog_1_method_4_code
def y_F_event : MethodName := ⟨R_F, "event", "(II)I"⟩
abbrev b_I_stateBehind : ByteArray := prog_3_method_7_code
def y_I_stateBehind : MethodName := ⟨R_I, "stateBehind", "(I)I"⟩
abbrev b_F_mustWait : ByteArray := prog_1_method_20_code
def y_F_mustWait : MethodName := ⟨R_F, "mustWait", "(I)Z"⟩
abbrev b_I_undergo : ByteArray := prog_3_method_8_code
def y_I_undergo : MethodName := ⟨R_I, "undergo", "(II)V"⟩
abbrev b_F_address : ByteArray := prog_1_method_5_code
def y_F_address : MethodName := ⟨R_F, "address", "(III)I"⟩
abbrev b_F_abroad : ByteArray := prog_1_method_6_code
def y_F_abroad : MethodName := ⟨R_F, "abroad", "(II)I"⟩
abbrev b_F_contents : ByteArray := prog_1_method_7_code
def y_F_contents : MethodName := ⟨R_F, "contents", "(III)I"⟩
abbrev b_F_join : ByteArray := prog_1_method_8_code
def y_F_join : MethodName := ⟨R_F, "join", "(IIZ)I"⟩
abbrev b_F_bulk : ByteArray := prog_1_method_9_code
def y_F_bulk : MethodName := ⟨R_F, "bulk", "(II)I"⟩
abbrev b_F_open : ByteArray := prog_1_method_10_code
def y_F_open : MethodName := ⟨R_F, "open", "(III)I"⟩
abbrev b_F_correct : ByteArray := prog_1_method_11_code
def y_F_correct : MethodName := ⟨R_F, "correct", "(IIII)I"⟩
abbrev b_F_mayBecome : ByteArray := prog_1_method_21_code
def y_F_mayBecome : MethodName := ⟨R_F, "mayBecome", "(II)Z"⟩
abbrev b_I_wouldStay : ByteArray := prog_3_method_10_code
def y_I_wouldStay : MethodName := ⟨R_I, "wouldStay", "(II)Z"⟩
abbrev b_I_correctable : ByteArray := prog_3_method_9_code
def y_I_correctable : MethodName := ⟨R_I, "correctable", "(I)I"⟩
abbrev b_C_init : ByteArray := prog_2_method_1_code
def y_C_init : MethodName := ⟨R_C, "<init>", "(IIIII)V"⟩
abbrev b_I_become : ByteArray := prog_3_method_11_code
def y_I_become : MethodName := ⟨R_I, "become", "(II)V"⟩
abbrev b_F_row : ByteArray := prog_1_method_12_code
def y_F_row : MethodName := ⟨R_F, "row", "(II)I"⟩
abbrev b_C_part : ByteArray := prog_2_method_2_code
def y_C_part : MethodName := ⟨R_C, "part", "(I)I"⟩
abbrev b_F_about : ByteArray := prog_1_method_13_code
def y_F_about : MethodName := ⟨R_F, "about", "(II)I"⟩
abbrev b_I_fact : ByteArray := prog_3_method_12_code
def y_I_fact : MethodName := ⟨R_I, "fact", "(I)I"⟩
abbrev b_F_pack : ByteArray := prog_1_method_14_code
def y_F_pack : MethodName := ⟨R_F, "pack", "(I)I"⟩
abbrev b_P_fill : ByteArray := prog_4_method_3_code
def y_P_fill : MethodName := ⟨R_P, "fill", "(ILItemFacts$Item;)V"⟩
abbrev b_P_addTwo : ByteArray := prog_4_method_5_code
def y_P_addTwo : MethodName := ⟨R_P, "addTwo", "(I)V"⟩
abbrev b_P_add : ByteArray := prog_4_method_4_code
def y_P_add : MethodName := ⟨R_P, "add", "(I)V"⟩
abbrev b_P_addEntry : ByteArray := prog_4_method_6_code
def y_P_addEntry : MethodName := ⟨R_P, "addEntry", "(I)V"⟩
abbrev b_P_xorOfAll : ByteArray := prog_4_method_7_code
def y_P_xorOfAll : MethodName := ⟨R_P, "xorOfAll", "()I"⟩
abbrev b_F_octet : ByteArray := prog_1_method_15_code
def y_F_octet : MethodName := ⟨R_F, "octet", "(I)I"⟩
abbrev b_P_at : ByteArray := prog_4_method_2_code
def y_P_at : MethodName := ⟨R_P, "at", "(I)I"⟩
abbrev b_F_aside : ByteArray := prog_1_method_16_code
def y_F_aside : MethodName := ⟨R_F, "aside", "(I)I"⟩
abbrev b_I_isSetAside : ByteArray := prog_3_method_4_code
def y_I_isSetAside : MethodName := ⟨R_I, "isSetAside", "()Z"⟩
abbrev b_M_init : ByteArray := prog_6_method_1_code
def y_M_init : MethodName := ⟨R_M, "<init>", "()V"⟩
abbrev b_M_item : ByteArray := prog_6_method_9_code
def y_M_item : MethodName := ⟨R_M, "item", "(IIII)I"⟩
abbrev b_M_within : ByteArray := prog_6_method_3_code
def y_M_within : MethodName := ⟨R_M, "within", "(III)Z"⟩
abbrev b_M_tooMuch : ByteArray := prog_6_method_7_code
def y_M_tooMuch : MethodName := ⟨R_M, "tooMuch", "(II)I"⟩
abbrev b_M_turned : ByteArray := prog_6_method_8_code
def y_M_turned : MethodName := ⟨R_M, "turned", "(III)I"⟩
abbrev b_M_mostOf : ByteArray := prog_6_method_6_code
def y_M_mostOf : MethodName := ⟨R_M, "mostOf", "(I)I"⟩
abbrev b_M_service : ByteArray := prog_6_method_12_code
def y_M_service : MethodName := ⟨R_M, "service", "(II)I"⟩
abbrev b_M_isItem : ByteArray := prog_6_method_4_code
def y_M_isItem : MethodName := ⟨R_M, "isItem", "(I)Z"⟩
abbrev b_M_has : ByteArray := prog_6_method_11_code
def y_M_has : MethodName := ⟨R_M, "has", "(II)Z"⟩
abbrev b_M_isOver : ByteArray := prog_6_method_5_code
def y_M_isOver : MethodName := ⟨R_M, "isOver", "(I)Z"⟩
abbrev b_M_excludes : ByteArray := prog_6_method_10_code
def y_M_excludes : MethodName := ⟨R_M, "excludes", "(II)Z"⟩
abbrev b_M_event : ByteArray := prog_6_method_15_code
def y_M_event : MethodName := ⟨R_M, "event", "(II)I"⟩
abbrev b_M_ledTo : ByteArray := prog_6_method_13_code
def y_M_ledTo : MethodName := ⟨R_M, "ledTo", "(II)I"⟩
abbrev b_M_mustWait : ByteArray := prog_6_method_14_code
def y_M_mustWait : MethodName := ⟨R_M, "mustWait", "(I)Z"⟩
abbrev b_M_address : ByteArray := prog_6_method_16_code
def y_M_address : MethodName := ⟨R_M, "address", "(III)I"⟩
abbrev b_M_abroad : ByteArray := prog_6_method_17_code
def y_M_abroad : MethodName := ⟨R_M, "abroad", "(II)I"⟩
abbrev b_M_contents : ByteArray := prog_6_method_18_code
def y_M_contents : MethodName := ⟨R_M, "contents", "(III)I"⟩
abbrev b_M_join : ByteArray := prog_6_method_20_code
def y_M_join : MethodName := ⟨R_M, "join", "(IIZ)I"⟩
abbrev b_M_belonging : ByteArray := prog_6_method_19_code
def y_M_belonging : MethodName := ⟨R_M, "belonging", "([II)I"⟩
abbrev b_M_bulk : ByteArray := prog_6_method_21_code
def y_M_bulk : MethodName := ⟨R_M, "bulk", "(II)I"⟩
abbrev b_M_open : ByteArray := prog_6_method_22_code
def y_M_open : MethodName := ⟨R_M, "open", "(III)I"⟩
abbrev b_M_correct : ByteArray := prog_6_method_24_code
def y_M_correct : MethodName := ⟨R_M, "correct", "(IIII)I"⟩
abbrev b_M_factOf : ByteArray := prog_6_method_23_code
def y_M_factOf : MethodName := ⟨R_M, "factOf", "(II)I"⟩
abbrev b_M_row : ByteArray := prog_6_method_25_code
def y_M_row : MethodName := ⟨R_M, "row", "(II)I"⟩
abbrev b_M_about : ByteArray := prog_6_method_26_code
def y_M_about : MethodName := ⟨R_M, "about", "(II)I"⟩
abbrev b_M_pack : ByteArray := prog_6_method_28_code
def y_M_pack : MethodName := ⟨R_M, "pack", "(I)I"⟩
abbrev b_M_put : ByteArray := prog_6_method_27_code
def y_M_put : MethodName := ⟨R_M, "put", "(II)V"⟩
abbrev b_M_octet : ByteArray := prog_6_method_29_code
def y_M_octet : MethodName := ⟨R_M, "octet", "(I)I"⟩
abbrev b_M_aside : ByteArray := prog_6_method_30_code
def y_M_aside : MethodName := ⟨R_M, "aside", "(I)I"⟩
set_option maxRecDepth 8000 in
theorem lk_F_1 : Cond.methodLink R_F 1 objectInit ∈ wd_tb := wd_in 39 rfl rfl
set_option maxRecDepth 8000 in
theorem lk_F_9 : Cond.classLink R_F 9 "ItemFacts$Item" ∈ wd_tb := wd_in 42 rfl rfl
set_option maxRecDepth 8000 in
theorem lk_F_11 : Cond.fieldLink R_F 11 "ItemFacts" "items" "[LItemFacts$Item;" ∈ wd_tb := wd_in 62 rfl rfl
set_option maxRecDepth 8000 in
theorem lk_F_15 : Cond.fieldLink R_F 15 "ItemFacts" "itemCount" "I" ∈ wd_tb := wd_in 63 rfl rfl
set_option maxRecDepth 8000 in
theorem lk_F_19 : Cond.classLink R_F 19 "ItemFacts$Correction" ∈ wd_tb := wd_in 44 rfl rfl
set_option maxRecDepth 8000 in
theorem lk_F_21 : Cond.fieldLink R_F 21 "ItemFacts" "corrections" "[LItemFacts$Correction;" ∈ wd_tb := wd_in 64 rfl rfl
set_option maxRecDepth 8000 in
theorem lk_F_25 : Cond.fieldLink R_F 25 "ItemFacts" "correctionCount" "I" ∈ wd_tb := wd_in 65 rfl rfl
set_option maxRecDepth 8000 in
theorem lk_F_28 : Cond.fieldLink R_F 28 "ItemFacts" "joined" "[I" ∈ wd_tb := wd_in 66 rfl rfl
set_option maxRecDepth 8000 in
theorem lk_F_32 : Cond.fieldLink R_F 32 "ItemFacts" "waiting" "[Z" ∈ wd_tb := wd_in 67 rfl rfl
set_option maxRecDepth 8000 in
theorem lk_F_36 : Cond.fieldLink R_F 36 "ItemFacts" "bulked" "[I" ∈ wd_tb := wd_in 68 rfl rfl
set_option maxRecDepth 8000 in
theorem lk_F_39 : Cond.classLink R_F 39 "ItemFacts$Packed" ∈ wd_tb := wd_in 46 rfl rfl
set_option maxRecDepth 8000 in
theorem lk_F_41 : Cond.methodLinkNest R_F 41 y_P_init "ItemFacts" ∈ lw_tbl := List.mem_of_getElem? (i := 48) rfl
set_option maxRecDepth 8000 in
theorem lk_F_42 : Cond.fieldLink R_F 42 "ItemFacts" "packed" "LItemFacts$Packed;" ∈ wd_tb := wd_in 69 rfl rfl
set_option maxRecDepth 8000 in
theorem lk_F_46 : Cond.methodLink R_F 46 y_F_within ∈ wd_tb := wd_in 91 rfl rfl
set_option maxRecDepth 8000 in
theorem lk_F_50 : Cond.constant R_F 50 (100000 : Int32) ∈ wd_tb := wd_in 94 rfl rfl
set_option maxRecDepth 8000 in
theorem lk_F_51 : Cond.fieldLink R_F 51 "ItemFacts" "BEARS_WEIGHT" "[I" ∈ wd_tb := wd_in 95 rfl rfl
set_option maxRecDepth 8000 in
theorem lk_F_54 : Cond.fieldLink R_F 54 "ItemFacts" "BEARS_SIZE" "[I" ∈ wd_tb := wd_in 97 rfl rfl
set_option maxRecDepth 8000 in
theorem lk_F_57 : Cond.methodLink R_F 57 y_F_turned ∈ wd_tb := wd_in 100 rfl rfl
set_option maxRecDepth 8000 in
theorem lk_F_61 : Cond.methodLinkNest R_F 61 y_I_init "ItemFacts" ∈ lw_tbl := List.mem_of_getElem? (i := 103) rfl
set_option maxRecDepth 8000 in
theorem lk_F_64 : Cond.methodLink R_F 64 y_F_find ∈ wd_tb := wd_in 188 rfl rfl
set_option maxRecDepth 8000 in
theorem lk_F_68 : Cond.methodLinkNest R_F 68 y_I_has "ItemFacts" ∈ lw_tbl := List.mem_of_getElem? (i := 192) rfl
set_option maxRecDepth 8000 in
theorem lk_F_72 : Cond.methodLinkNest R_F 72 y_I_isAtEnd "ItemFacts" ∈ lw_tbl := List.mem_of_getElem? (i := 196) rfl
set_option maxRecDepth 8000 in
theorem lk_F_76 : Cond.methodLinkNest R_F 76 y_I_leastExcluding "ItemFacts" ∈ lw_tbl := List.mem_of_getElem? (i := 200) rfl
set_option maxRecDepth 8000 in
theorem lk_F_80 : Cond.methodLinkNest R_F 80 y_I_lacksWhatIsWanted "ItemFacts" ∈ lw_tbl := List.mem_of_getElem? (i := 207) rfl
set_option maxRecDepth 8000 in
theorem lk_F_83 : Cond.fieldLinkNest R_F 83 "ItemFacts$Item" "services" "I" "ItemFacts" ∈ lw_tbl := List.mem_of_getElem? (i := 116) rfl
set_option maxRecDepth 8000 in
theorem lk_F_86 : Cond.methodLink R_F 86 y_J_bitCount ∈ wd_tb := wd_in 212 rfl rfl
set_option maxRecDepth 8000 in
theorem lk_F_91 : Cond.fieldLinkNest R_F 91 "ItemFacts$Item" "late" "I" "ItemFacts" ∈ lw_tbl := List.mem_of_getElem? (i := 137) rfl
set_option maxRecDepth 8000 in
theorem lk_F_94 : Cond.methodLinkNest R_F 94 y_I_stateBehind "ItemFacts" ∈ lw_tbl := List.mem_of_getElem? (i := 222) rfl
set_option maxRecDepth 8000 in
theorem lk_F_97 : Cond.fieldLinkNest R_F 97 "ItemFacts$Item" "land" "I" "ItemFacts" ∈ lw_tbl := List.mem_of_getElem? (i := 131) rfl
set_option maxRecDepth 8000 in
theorem lk_F_100 : Cond.fieldLinkNest R_F 100 "ItemFacts$Item" "contentCount" "I" "ItemFacts" ∈ lw_tbl := List.mem_of_getElem? (i := 142) rfl
set_option maxRecDepth 8000 in
theorem lk_F_103 : Cond.fieldLinkNest R_F 103 "ItemFacts$Item" "state" "I" "ItemFacts" ∈ lw_tbl := List.mem_of_getElem? (i := 119) rfl
set_option maxRecDepth 8000 in
theorem lk_F_106 : Cond.fieldLinkNest R_F 106 "ItemFacts$Item" "consignment" "I" "ItemFacts" ∈ lw_tbl := List.mem_of_getElem? (i := 133) rfl
set_option maxRecDepth 8000 in
theorem lk_F_109 : Cond.methodLink R_F 109 y_F_mustWait ∈ wd_tb := wd_in 226 rfl rfl
set_option maxRecDepth 8000 in
theorem lk_F_112 : Cond.methodLinkNest R_F 112 y_I_undergo "ItemFacts" ∈ lw_tbl := List.mem_of_getElem? (i := 230) rfl
set_option maxRecDepth 8000 in
theorem lk_F_116 : Cond.fieldLinkNest R_F 116 "ItemFacts$Item" "settled" "I" "ItemFacts" ∈ lw_tbl := List.mem_of_getElem? (i := 128) rfl
set_option maxRecDepth 8000 in
theorem lk_F_119 : Cond.fieldLinkNest R_F 119 "ItemFacts$Item" "read" "I" "ItemFacts" ∈ lw_tbl := List.mem_of_getElem? (i := 125) rfl
set_option maxRecDepth 8000 in
theorem lk_F_122 : Cond.fieldLinkNest R_F 122 "ItemFacts$Item" "whats" "[I" "ItemFacts" ∈ lw_tbl := List.mem_of_getElem? (i := 145) rfl
set_option maxRecDepth 8000 in
theorem lk_F_125 : Cond.fieldLinkNest R_F 125 "ItemFacts$Item" "cents" "[I" "ItemFacts" ∈ lw_tbl := List.mem_of_getElem? (i := 148) rfl
set_option maxRecDepth 8000 in
theorem lk_F_128 : Cond.fieldLinkNest R_F 128 "ItemFacts$Item" "bulkNumber" "I" "ItemFacts" ∈ lw_tbl := List.mem_of_getElem? (i := 135) rfl
set_option maxRecDepth 8000 in
theorem lk_F_131 : Cond.fieldLinkNest R_F 131 "ItemFacts$Item" "damaged" "Z" "ItemFacts" ∈ lw_tbl := List.mem_of_getElem? (i := 122) rfl
set_option maxRecDepth 8000 in
theorem lk_F_135 : Cond.fieldLinkNest R_F 135 "ItemFacts$Item" "openers" "I" "ItemFacts" ∈ lw_tbl := List.mem_of_getElem? (i := 139) rfl
set_option maxRecDepth 8000 in
theorem lk_F_138 : Cond.methodLink R_F 138 y_F_mayBecome ∈ wd_tb := wd_in 262 rfl rfl
set_option maxRecDepth 8000 in
theorem lk_F_142 : Cond.methodLinkNest R_F 142 y_I_wouldStay "ItemFacts" ∈ lw_tbl := List.mem_of_getElem? (i := 265) rfl
set_option maxRecDepth 8000 in
theorem lk_F_145 : Cond.methodLinkNest R_F 145 y_I_correctable "ItemFacts" ∈ lw_tbl := List.mem_of_getElem? (i := 275) rfl
set_option maxRecDepth 8000 in
theorem lk_F_148 : Cond.methodLinkNest R_F 148 y_C_init "ItemFacts" ∈ lw_tbl := List.mem_of_getElem? (i := 276) rfl
set_option maxRecDepth 8000 in
theorem lk_F_151 : Cond.methodLinkNest R_F 151 y_I_become "ItemFacts" ∈ lw_tbl := List.mem_of_getElem? (i := 296) rfl
set_option maxRecDepth 8000 in
theorem lk_F_154 : Cond.methodLinkNest R_F 154 y_C_part "ItemFacts" ∈ lw_tbl := List.mem_of_getElem? (i := 304) rfl
set_option maxRecDepth 8000 in
theorem lk_F_157 : Cond.methodLinkNest R_F 157 y_I_fact "ItemFacts" ∈ lw_tbl := List.mem_of_getElem? (i := 312) rfl
set_option maxRecDepth 8000 in
theorem lk_F_160 : Cond.methodLinkNest R_F 160 y_P_fill "ItemFacts" ∈ lw_tbl := List.mem_of_getElem? (i := 320) rfl
set_option maxRecDepth 8000 in
theorem lk_F_164 : Cond.fieldLinkNest R_F 164 "ItemFacts$Packed" "length" "I" "ItemFacts" ∈ lw_tbl := List.mem_of_getElem? (i := 54) rfl
set_option maxRecDepth 8000 in
theorem lk_F_167 : Cond.methodLinkNest R_F 167 y_P_at "ItemFacts" ∈ lw_tbl := List.mem_of_getElem? (i := 345) rfl
set_option maxRecDepth 8000 in
theorem lk_F_170 : Cond.methodLinkNest R_F 170 y_I_isSetAside "ItemFacts" ∈ lw_tbl := List.mem_of_getElem? (i := 354) rfl
set_option maxRecDepth 8000 in
theorem lk_C_3 : Cond.methodLink R_C 3 objectInit ∈ wd_tb := wd_in 279 rfl rfl
set_option maxRecDepth 8000 in
theorem lk_C_9 : Cond.fieldLink R_C 9 "ItemFacts$Correction" "number" "I" ∈ wd_tb := wd_in 280 rfl rfl
set_option maxRecDepth 8000 in
theorem lk_C_15 : Cond.fieldLink R_C 15 "ItemFacts$Correction" "what" "I" ∈ wd_tb := wd_in 281 rfl rfl
set_option maxRecDepth 8000 in
theorem lk_C_18 : Cond.fieldLink R_C 18 "ItemFacts$Correction" "was" "I" ∈ wd_tb := wd_in 282 rfl rfl
set_option maxRecDepth 8000 in
theorem lk_C_21 : Cond.fieldLink R_C 21 "ItemFacts$Correction" "told" "I" ∈ wd_tb := wd_in 283 rfl rfl
set_option maxRecDepth 8000 in
theorem lk_C_24 : Cond.fieldLink R_C 24 "ItemFacts$Correction" "reason" "I" ∈ wd_tb := wd_in 284 rfl rfl
set_option maxRecDepth 8000 in
theorem lk_I_3 : Cond.methodLink R_I 3 objectInit ∈ wd_tb := wd_in 106 rfl rfl
set_option maxRecDepth 8000 in
theorem lk_I_9 : Cond.fieldLink R_I 9 "ItemFacts$Item" "kind" "I" ∈ wd_tb := wd_in 107 rfl rfl
set_option maxRecDepth 8000 in
theorem lk_I_15 : Cond.fieldLink R_I 15 "ItemFacts$Item" "weight" "I" ∈ wd_tb := wd_in 109 rfl rfl
set_option maxRecDepth 8000 in
theorem lk_I_18 : Cond.fieldLink R_I 18 "ItemFacts$Item" "size" "I" ∈ wd_tb := wd_in 111 rfl rfl
set_option maxRecDepth 8000 in
theorem lk_I_21 : Cond.fieldLink R_I 21 "ItemFacts$Item" "sender" "I" ∈ wd_tb := wd_in 113 rfl rfl
set_option maxRecDepth 8000 in
theorem lk_I_24 : Cond.fieldLink R_I 24 "ItemFacts$Item" "services" "I" ∈ wd_tb := wd_in 114 rfl rfl
set_option maxRecDepth 8000 in
theorem lk_I_27 : Cond.fieldLink R_I 27 "ItemFacts$Item" "state" "I" ∈ wd_tb := wd_in 117 rfl rfl
set_option maxRecDepth 8000 in
theorem lk_I_30 : Cond.fieldLink R_I 30 "ItemFacts$Item" "damaged" "Z" ∈ wd_tb := wd_in 120 rfl rfl
set_option maxRecDepth 8000 in
theorem lk_I_34 : Cond.fieldLink R_I 34 "ItemFacts$Item" "read" "I" ∈ wd_tb := wd_in 123 rfl rfl
set_option maxRecDepth 8000 in
theorem lk_I_37 : Cond.fieldLink R_I 37 "ItemFacts$Item" "settled" "I" ∈ wd_tb := wd_in 126 rfl rfl
set_option maxRecDepth 8000 in
theorem lk_I_40 : Cond.fieldLink R_I 40 "ItemFacts$Item" "land" "I" ∈ wd_tb := wd_in 129 rfl rfl
set_option maxRecDepth 8000 in
theorem lk_I_43 : Cond.fieldLink R_I 43 "ItemFacts$Item" "consignment" "I" ∈ wd_tb := wd_in 132 rfl rfl
set_option maxRecDepth 8000 in
theorem lk_I_46 : Cond.fieldLink R_I 46 "ItemFacts$Item" "bulkNumber" "I" ∈ wd_tb := wd_in 134 rfl rfl
set_option maxRecDepth 8000 in
theorem lk_I_49 : Cond.fieldLink R_I 49 "ItemFacts$Item" "late" "I" ∈ wd_tb := wd_in 136 rfl rfl
set_option maxRecDepth 8000 in
theorem lk_I_52 : Cond.fieldLink R_I 52 "ItemFacts$Item" "openers" "I" ∈ wd_tb := wd_in 138 rfl rfl
set_option maxRecDepth 8000 in
theorem lk_I_55 : Cond.fieldLink R_I 55 "ItemFacts$Item" "contentCount" "I" ∈ wd_tb := wd_in 140 rfl rfl
set_option maxRecDepth 8000 in
theorem lk_I_58 : Cond.fieldLink R_I 58 "ItemFacts$Item" "whats" "[I" ∈ wd_tb := wd_in 143 rfl rfl
set_option maxRecDepth 8000 in
theorem lk_I_62 : Cond.fieldLink R_I 62 "ItemFacts$Item" "cents" "[I" ∈ wd_tb := wd_in 146 rfl rfl
set_option maxRecDepth 8000 in
theorem lk_I_65 : Cond.methodLinkNest R_I 65 y_F_within "ItemFacts" ∈ lw_tbl := List.mem_of_getElem? (i := 204) rfl
set_option maxRecDepth 8000 in
theorem lk_I_69 : Cond.fieldLinkNest R_I 69 "ItemFacts" "EXCLUDES" "[I" "ItemFacts" ∈ lw_tbl := List.mem_of_getElem? (i := 205) rfl
set_option maxRecDepth 8000 in
theorem lk_I_72 : Cond.methodLink R_I 72 y_I_has ∈ wd_tb := wd_in 211 rfl rfl
set_option maxRecDepth 8000 in
theorem lk_I_76 : Cond.methodLinkNest R_I 76 y_F_turned "ItemFacts" ∈ lw_tbl := List.mem_of_getElem? (i := 269) rfl
set_option maxRecDepth 8000 in
theorem lk_I_80 : Cond.methodLink R_I 80 y_I_correctable ∈ wd_tb := wd_in 270 rfl rfl
set_option maxRecDepth 8000 in
theorem lk_P_3 : Cond.methodLink R_P 3 objectInit ∈ wd_tb := wd_in 51 rfl rfl
set_option maxRecDepth 8000 in
theorem lk_P_11 : Cond.fieldLink R_P 11 "ItemFacts$Packed" "bytes" "[I" ∈ wd_tb := wd_in 52 rfl rfl
set_option maxRecDepth 8000 in
theorem lk_P_15 : Cond.fieldLink R_P 15 "ItemFacts$Packed" "length" "I" ∈ wd_tb := wd_in 53 rfl rfl
set_option maxRecDepth 8000 in
theorem lk_P_19 : Cond.methodLinkNest R_P 19 y_F_within "ItemFacts" ∈ lw_tbl := List.mem_of_getElem? (i := 349) rfl
set_option maxRecDepth 8000 in
theorem lk_P_23 : Cond.methodLink R_P 23 y_P_addTwo ∈ wd_tb := wd_in 324 rfl rfl
set_option maxRecDepth 8000 in
theorem lk_P_27 : Cond.fieldLinkNest R_P 27 "ItemFacts$Item" "kind" "I" "ItemFacts" ∈ lw_tbl := List.mem_of_getElem? (i := 108) rfl
set_option maxRecDepth 8000 in
theorem lk_P_32 : Cond.fieldLinkNest R_P 32 "ItemFacts$Item" "size" "I" "ItemFacts" ∈ lw_tbl := List.mem_of_getElem? (i := 112) rfl
set_option maxRecDepth 8000 in
theorem lk_P_35 : Cond.methodLink R_P 35 y_P_add ∈ wd_tb := wd_in 328 rfl rfl
set_option maxRecDepth 8000 in
theorem lk_P_38 : Cond.fieldLinkNest R_P 38 "ItemFacts$Item" "weight" "I" "ItemFacts" ∈ lw_tbl := List.mem_of_getElem? (i := 110) rfl
set_option maxRecDepth 8000 in
theorem lk_P_41 : Cond.fieldLinkNest R_P 41 "ItemFacts$Item" "services" "I" "ItemFacts" ∈ lw_tbl := List.mem_of_getElem? (i := 115) rfl
set_option maxRecDepth 8000 in
theorem lk_P_44 : Cond.fieldLinkNest R_P 44 "ItemFacts$Item" "damaged" "Z" "ItemFacts" ∈ lw_tbl := List.mem_of_getElem? (i := 121) rfl
set_option maxRecDepth 8000 in
theorem lk_P_48 : Cond.fieldLinkNest R_P 48 "ItemFacts$Item" "state" "I" "ItemFacts" ∈ lw_tbl := List.mem_of_getElem? (i := 118) rfl
set_option maxRecDepth 8000 in
theorem lk_P_51 : Cond.fieldLinkNest R_P 51 "ItemFacts$Item" "read" "I" "ItemFacts" ∈ lw_tbl := List.mem_of_getElem? (i := 124) rfl
set_option maxRecDepth 8000 in
theorem lk_P_54 : Cond.methodLink R_P 54 y_P_addEntry ∈ wd_tb := wd_in 332 rfl rfl
set_option maxRecDepth 8000 in
theorem lk_P_57 : Cond.fieldLinkNest R_P 57 "ItemFacts$Item" "settled" "I" "ItemFacts" ∈ lw_tbl := List.mem_of_getElem? (i := 127) rfl
set_option maxRecDepth 8000 in
theorem lk_P_60 : Cond.fieldLinkNest R_P 60 "ItemFacts$Item" "land" "I" "ItemFacts" ∈ lw_tbl := List.mem_of_getElem? (i := 130) rfl
set_option maxRecDepth 8000 in
theorem lk_P_63 : Cond.fieldLinkNest R_P 63 "ItemFacts$Item" "contentCount" "I" "ItemFacts" ∈ lw_tbl := List.mem_of_getElem? (i := 141) rfl
set_option maxRecDepth 8000 in
theorem lk_P_66 : Cond.fieldLinkNest R_P 66 "ItemFacts$Item" "whats" "[I" "ItemFacts" ∈ lw_tbl := List.mem_of_getElem? (i := 144) rfl
set_option maxRecDepth 8000 in
theorem lk_P_69 : Cond.fieldLinkNest R_P 69 "ItemFacts$Item" "cents" "[I" "ItemFacts" ∈ lw_tbl := List.mem_of_getElem? (i := 147) rfl
set_option maxRecDepth 8000 in
theorem lk_P_72 : Cond.methodLink R_P 72 y_P_xorOfAll ∈ wd_tb := wd_in 337 rfl rfl
set_option maxRecDepth 8000 in
theorem lk_P_76 : Cond.constant R_P 76 (65535 : Int32) ∈ wd_tb := wd_in 336 rfl rfl
set_option maxRecDepth 8000 in
theorem lk_L_7 : Cond.classLink R_L 7 "ItemFacts" ∈ wd_tb := wd_in 34 rfl rfl
set_option maxRecDepth 8000 in
theorem lk_L_9 : Cond.methodLink R_L 9 y_F_init ∈ wd_tb := wd_in 36 rfl rfl
set_option maxRecDepth 8000 in
theorem lk_L_10 : Cond.classLink R_L 10 "ItemFactsModel" ∈ wd_tb := wd_in 358 rfl rfl
set_option maxRecDepth 8000 in
theorem lk_L_12 : Cond.methodLink R_L 12 y_M_init ∈ wd_tb := wd_in 360 rfl rfl
set_option maxRecDepth 8000 in
theorem lk_L_13 : Cond.methodLink R_L 13 y_F_item ∈ wd_tb := wd_in 87 rfl rfl
set_option maxRecDepth 8000 in
theorem lk_L_17 : Cond.methodLink R_L 17 y_M_item ∈ wd_tb := wd_in 434 rfl rfl
set_option maxRecDepth 8000 in
theorem lk_L_18 : Cond.methodLink R_L 18 y_F_service ∈ wd_tb := wd_in 184 rfl rfl
set_option maxRecDepth 8000 in
theorem lk_L_22 : Cond.methodLink R_L 22 y_M_service ∈ wd_tb := wd_in 451 rfl rfl
set_option maxRecDepth 8000 in
theorem lk_L_23 : Cond.methodLink R_L 23 y_F_event ∈ wd_tb := wd_in 218 rfl rfl
set_option maxRecDepth 8000 in
theorem lk_L_26 : Cond.methodLink R_L 26 y_M_event ∈ wd_tb := wd_in 470 rfl rfl
set_option maxRecDepth 8000 in
theorem lk_L_27 : Cond.methodLink R_L 27 y_F_address ∈ wd_tb := wd_in 234 rfl rfl
set_option maxRecDepth 8000 in
theorem lk_L_31 : Cond.methodLink R_L 31 y_M_address ∈ wd_tb := wd_in 481 rfl rfl
set_option maxRecDepth 8000 in
theorem lk_L_32 : Cond.methodLink R_L 32 y_F_abroad ∈ wd_tb := wd_in 238 rfl rfl
set_option maxRecDepth 8000 in
theorem lk_L_35 : Cond.methodLink R_L 35 y_M_abroad ∈ wd_tb := wd_in 485 rfl rfl
set_option maxRecDepth 8000 in
theorem lk_L_36 : Cond.methodLink R_L 36 y_F_contents ∈ wd_tb := wd_in 242 rfl rfl
set_option maxRecDepth 8000 in
theorem lk_L_39 : Cond.methodLink R_L 39 y_M_contents ∈ wd_tb := wd_in 489 rfl rfl
set_option maxRecDepth 8000 in
theorem lk_L_40 : Cond.methodLink R_L 40 y_F_join ∈ wd_tb := wd_in 246 rfl rfl
set_option maxRecDepth 8000 in
theorem lk_L_44 : Cond.methodLink R_L 44 y_M_join ∈ wd_tb := wd_in 493 rfl rfl
set_option maxRecDepth 8000 in
theorem lk_L_45 : Cond.methodLink R_L 45 y_F_bulk ∈ wd_tb := wd_in 250 rfl rfl
set_option maxRecDepth 8000 in
theorem lk_L_48 : Cond.methodLink R_L 48 y_M_bulk ∈ wd_tb := wd_in 501 rfl rfl
set_option maxRecDepth 8000 in
theorem lk_L_49 : Cond.methodLink R_L 49 y_F_open ∈ wd_tb := wd_in 254 rfl rfl
set_option maxRecDepth 8000 in
theorem lk_L_52 : Cond.methodLink R_L 52 y_M_open ∈ wd_tb := wd_in 505 rfl rfl
set_option maxRecDepth 8000 in
theorem lk_L_53 : Cond.methodLink R_L 53 y_F_correct ∈ wd_tb := wd_in 258 rfl rfl
set_option maxRecDepth 8000 in
theorem lk_L_56 : Cond.methodLink R_L 56 y_M_correct ∈ wd_tb := wd_in 509 rfl rfl
set_option maxRecDepth 8000 in
theorem lk_L_57 : Cond.methodLink R_L 57 y_F_row ∈ wd_tb := wd_in 300 rfl rfl
set_option maxRecDepth 8000 in
theorem lk_L_60 : Cond.methodLink R_L 60 y_M_row ∈ wd_tb := wd_in 517 rfl rfl
set_option maxRecDepth 8000 in
theorem lk_L_61 : Cond.methodLink R_L 61 y_F_about ∈ wd_tb := wd_in 308 rfl rfl
set_option maxRecDepth 8000 in
theorem lk_L_64 : Cond.methodLink R_L 64 y_M_about ∈ wd_tb := wd_in 521 rfl rfl
set_option maxRecDepth 8000 in
theorem lk_L_65 : Cond.methodLink R_L 65 y_F_pack ∈ wd_tb := wd_in 316 rfl rfl
set_option maxRecDepth 8000 in
theorem lk_L_69 : Cond.methodLink R_L 69 y_M_pack ∈ wd_tb := wd_in 525 rfl rfl
set_option maxRecDepth 8000 in
theorem lk_L_70 : Cond.methodLink R_L 70 y_F_octet ∈ wd_tb := wd_in 341 rfl rfl
set_option maxRecDepth 8000 in
theorem lk_L_73 : Cond.methodLink R_L 73 y_M_octet ∈ wd_tb := wd_in 533 rfl rfl
set_option maxRecDepth 8000 in
theorem lk_L_74 : Cond.methodLink R_L 74 y_F_aside ∈ wd_tb := wd_in 350 rfl rfl
set_option maxRecDepth 8000 in
theorem lk_L_77 : Cond.methodLink R_L 77 y_M_aside ∈ wd_tb := wd_in 537 rfl rfl
set_option maxRecDepth 8000 in
theorem lk_M_1 : Cond.methodLink R_M 1 objectInit ∈ wd_tb := wd_in 363 rfl rfl
set_option maxRecDepth 8000 in
theorem lk_M_7 : Cond.fieldLink R_M 7 "ItemFactsModel" "kinds" "[I" ∈ wd_tb := wd_in 365 rfl rfl
set_option maxRecDepth 8000 in
theorem lk_M_13 : Cond.fieldLink R_M 13 "ItemFactsModel" "weights" "[I" ∈ wd_tb := wd_in 366 rfl rfl
set_option maxRecDepth 8000 in
theorem lk_M_16 : Cond.fieldLink R_M 16 "ItemFactsModel" "sizes" "[I" ∈ wd_tb := wd_in 367 rfl rfl
set_option maxRecDepth 8000 in
theorem lk_M_19 : Cond.fieldLink R_M 19 "ItemFactsModel" "senders" "[I" ∈ wd_tb := wd_in 368 rfl rfl
set_option maxRecDepth 8000 in
theorem lk_M_22 : Cond.fieldLink R_M 22 "ItemFactsModel" "services" "[I" ∈ wd_tb := wd_in 369 rfl rfl
set_option maxRecDepth 8000 in
theorem lk_M_25 : Cond.fieldLink R_M 25 "ItemFactsModel" "states" "[I" ∈ wd_tb := wd_in 370 rfl rfl
set_option maxRecDepth 8000 in
theorem lk_M_28 : Cond.fieldLink R_M 28 "ItemFactsModel" "damaged" "[Z" ∈ wd_tb := wd_in 371 rfl rfl
set_option maxRecDepth 8000 in
theorem lk_M_32 : Cond.fieldLink R_M 32 "ItemFactsModel" "late" "[I" ∈ wd_tb := wd_in 372 rfl rfl
set_option maxRecDepth 8000 in
theorem lk_M_35 : Cond.fieldLink R_M 35 "ItemFactsModel" "asRead" "[I" ∈ wd_tb := wd_in 373 rfl rfl
set_option maxRecDepth 8000 in
theorem lk_M_38 : Cond.fieldLink R_M 38 "ItemFactsModel" "settled" "[I" ∈ wd_tb := wd_in 374 rfl rfl
set_option maxRecDepth 8000 in
theorem lk_M_41 : Cond.fieldLink R_M 41 "ItemFactsModel" "lands" "[I" ∈ wd_tb := wd_in 375 rfl rfl
set_option maxRecDepth 8000 in
theorem lk_M_44 : Cond.fieldLink R_M 44 "ItemFactsModel" "many" "[I" ∈ wd_tb := wd_in 376 rfl rfl
set_option maxRecDepth 8000 in
theorem lk_M_47 : Cond.fieldLink R_M 47 "ItemFactsModel" "whats" "[I" ∈ wd_tb := wd_in 377 rfl rfl
set_option maxRecDepth 8000 in
theorem lk_M_50 : Cond.fieldLink R_M 50 "ItemFactsModel" "cents" "[I" ∈ wd_tb := wd_in 378 rfl rfl
set_option maxRecDepth 8000 in
theorem lk_M_53 : Cond.fieldLink R_M 53 "ItemFactsModel" "consignments" "[I" ∈ wd_tb := wd_in 379 rfl rfl
set_option maxRecDepth 8000 in
theorem lk_M_56 : Cond.fieldLink R_M 56 "ItemFactsModel" "waiting" "[Z" ∈ wd_tb := wd_in 380 rfl rfl
set_option maxRecDepth 8000 in
theorem lk_M_59 : Cond.fieldLink R_M 59 "ItemFactsModel" "bulks" "[I" ∈ wd_tb := wd_in 381 rfl rfl
set_option maxRecDepth 8000 in
theorem lk_M_62 : Cond.fieldLink R_M 62 "ItemFactsModel" "openers" "[I" ∈ wd_tb := wd_in 382 rfl rfl
set_option maxRecDepth 8000 in
theorem lk_M_65 : Cond.fieldLink R_M 65 "ItemFactsModel" "rowCells" "[I" ∈ wd_tb := wd_in 384 rfl rfl
set_option maxRecDepth 8000 in
theorem lk_M_68 : Cond.fieldLink R_M 68 "ItemFactsModel" "bytes" "[I" ∈ wd_tb := wd_in 386 rfl rfl
set_option maxRecDepth 8000 in
theorem lk_M_71 : Cond.fieldLink R_M 71 "ItemFactsModel" "items" "I" ∈ wd_tb := wd_in 364 rfl rfl
set_option maxRecDepth 8000 in
theorem lk_M_75 : Cond.methodLink R_M 75 y_M_within ∈ wd_tb := wd_in 438 rfl rfl
set_option maxRecDepth 8000 in
theorem lk_M_79 : Cond.methodLink R_M 79 y_M_mostOf ∈ wd_tb := wd_in 448 rfl rfl
set_option maxRecDepth 8000 in
theorem lk_M_83 : Cond.constant R_M 83 (100000 : Int32) ∈ wd_tb := wd_in 441 rfl rfl
set_option maxRecDepth 8000 in
theorem lk_M_84 : Cond.methodLink R_M 84 y_M_tooMuch ∈ wd_tb := wd_in 442 rfl rfl
set_option maxRecDepth 8000 in
theorem lk_M_88 : Cond.methodLink R_M 88 y_M_turned ∈ wd_tb := wd_in 445 rfl rfl
set_option maxRecDepth 8000 in
theorem lk_M_92 : Cond.methodLink R_M 92 y_M_isItem ∈ wd_tb := wd_in 455 rfl rfl
set_option maxRecDepth 8000 in
theorem lk_M_96 : Cond.methodLink R_M 96 y_M_has ∈ wd_tb := wd_in 459 rfl rfl
set_option maxRecDepth 8000 in
theorem lk_M_100 : Cond.methodLink R_M 100 y_M_isOver ∈ wd_tb := wd_in 463 rfl rfl
set_option maxRecDepth 8000 in
theorem lk_M_103 : Cond.methodLink R_M 103 y_M_excludes ∈ wd_tb := wd_in 467 rfl rfl
set_option maxRecDepth 8000 in
theorem lk_M_106 : Cond.methodLink R_M 106 y_M_ledTo ∈ wd_tb := wd_in 474 rfl rfl
set_option maxRecDepth 8000 in
theorem lk_M_109 : Cond.methodLink R_M 109 y_M_mustWait ∈ wd_tb := wd_in 477 rfl rfl
set_option maxRecDepth 8000 in
theorem lk_M_112 : Cond.methodLink R_M 112 y_M_belonging ∈ wd_tb := wd_in 497 rfl rfl
set_option maxRecDepth 8000 in
theorem lk_M_116 : Cond.methodLink R_M 116 y_M_factOf ∈ wd_tb := wd_in 513 rfl rfl
set_option maxRecDepth 8000 in
theorem lk_M_119 : Cond.fieldLink R_M 119 "ItemFactsModel" "rows" "I" ∈ wd_tb := wd_in 383 rfl rfl
set_option maxRecDepth 8000 in
theorem lk_M_122 : Cond.fieldLink R_M 122 "ItemFactsModel" "packed" "I" ∈ wd_tb := wd_in 385 rfl rfl
set_option maxRecDepth 8000 in
theorem lk_M_125 : Cond.methodLink R_M 125 y_M_put ∈ wd_tb := wd_in 529 rfl rfl
set_option maxRecDepth 8000 in
theorem lk_J_265 : Cond.constant R_J 265 (1431655765 : Int32) ∈ wd_tb := wd_in 215 rfl rfl
set_option maxRecDepth 8000 in
theorem lk_J_266 : Cond.constant R_J 266 (858993459 : Int32) ∈ wd_tb := wd_in 216 rfl rfl
set_option maxRecDepth 8000 in
theorem lk_J_267 : Cond.constant R_J 267 (252645135 : Int32) ∈ wd_tb := wd_in 217 rfl rfl
set_option maxRecDepth 8000 in
theorem wi_L : Cond.initialized R_L ∈ wd_tb := wd_in 27 rfl rfl
set_option maxRecDepth 8000 in
theorem wi_F : Cond.initialized R_F ∈ wd_tb := wd_in 28 rfl rfl
set_option maxRecDepth 8000 in
theorem wi_P : Cond.initialized R_P ∈ wd_tb := wd_in 29 rfl rfl
set_option maxRecDepth 8000 in
theorem wi_M : Cond.initialized R_M ∈ wd_tb := wd_in 30 rfl rfl
set_option maxRecDepth 8000 in
theorem wi_I : Cond.initialized R_I ∈ wd_tb := wd_in 31 rfl rfl
set_option maxRecDepth 8000 in
theorem wi_J : Cond.initialized R_J ∈ wd_tb := wd_in 32 rfl rfl
set_option maxRecDepth 8000 in
theorem wi_C : Cond.initialized R_C ∈ wd_tb := wd_in 33 rfl rfl
set_option maxRecDepth 8000 in
theorem wn_F : Cond.instantiable R_F 8 ∈ wd_tb := wd_in 35 rfl rfl
set_option maxRecDepth 8000 in
theorem wm_F_init : Cond.instanceMethod y_F_init ∈ wd_tb := wd_in 37 rfl rfl
set_option maxRecDepth 8000 in
theorem wm_obj : Cond.instanceMethod objectInit ∈ wd_tb := wd_in 40 rfl rfl
set_option maxRecDepth 8000 in
theorem wc_obj : Cond.code objectInit ⟨#[0xb1]⟩ 1 none ∈ wd_tb := wd_in 41 rfl rfl
set_option maxRecDepth 8000 in
theorem wa_I : (Cond.arrayOver (FieldType.object "ItemFacts$Item")) ∈ lw_tbl := List.mem_of_getElem? (i := 43) rfl
set_option maxRecDepth 8000 in
theorem wa_C : (Cond.arrayOver (FieldType.object "ItemFacts$Correction")) ∈ lw_tbl := List.mem_of_getElem? (i := 45) rfl
set_option maxRecDepth 8000 in
theorem wn_P : Cond.instantiable R_P 2 ∈ wd_tb := wd_in 47 rfl rfl
set_option maxRecDepth 8000 in
theorem wm_P_init : Cond.instanceMethod y_P_init ∈ wd_tb := wd_in 49 rfl rfl
set_option maxRecDepth 8000 in
theorem wa_int : (Cond.arrayClass FieldType.int) ∈ wd_tb := wd_in 60 rfl rfl
set_option maxRecDepth 8000 in
theorem wa_boolean : (Cond.arrayClass FieldType.boolean) ∈ wd_tb := wd_in 61 rfl rfl
set_option maxRecDepth 8000 in
theorem wm_F_item : Cond.instanceMethod y_F_item ∈ wd_tb := wd_in 88 rfl rfl
set_option maxRecDepth 8000 in
theorem wz_F_item : Cond.selects R_F y_F_item y_F_item ∈ wd_tb := wd_in 89 rfl rfl
set_option maxRecDepth 8000 in
theorem wt_F_within : Cond.static y_F_within ∈ wd_tb := wd_in 92 rfl rfl
set_option maxRecDepth 8000 in
theorem wl_BEARS_WEIGHT : (Cond.laysStatic "ItemFacts" "BEARS_WEIGHT" "[I") ∈ lw_tbl := List.mem_of_getElem? (i := 96) rfl
set_option maxRecDepth 8000 in
theorem wl_BEARS_SIZE : (Cond.laysStatic "ItemFacts" "BEARS_SIZE" "[I") ∈ lw_tbl := List.mem_of_getElem? (i := 98) rfl
set_option maxRecDepth 8000 in
theorem wn_I : Cond.instantiable R_I 17 ∈ wd_tb := wd_in 99 rfl rfl
set_option maxRecDepth 8000 in
theorem wt_F_turned : Cond.static y_F_turned ∈ wd_tb := wd_in 101 rfl rfl
set_option maxRecDepth 8000 in
theorem wm_I_init : Cond.instanceMethod y_I_init ∈ wd_tb := wd_in 104 rfl rfl
set_option maxRecDepth 8000 in
theorem wm_F_service : Cond.instanceMethod y_F_service ∈ wd_tb := wd_in 185 rfl rfl
set_option maxRecDepth 8000 in
theorem wz_F_service : Cond.selects R_F y_F_service y_F_service ∈ wd_tb := wd_in 186 rfl rfl
set_option maxRecDepth 8000 in
theorem wm_F_find : Cond.instanceMethod y_F_find ∈ wd_tb := wd_in 190 rfl rfl
set_option maxRecDepth 8000 in
theorem wm_I_has : Cond.instanceMethod y_I_has ∈ wd_tb := wd_in 194 rfl rfl
set_option maxRecDepth 8000 in
theorem wm_I_isAtEnd : Cond.instanceMethod y_I_isAtEnd ∈ wd_tb := wd_in 198 rfl rfl
set_option maxRecDepth 8000 in
theorem wm_I_leastExcluding : Cond.instanceMethod y_I_leastExcluding ∈ wd_tb := wd_in 202 rfl rfl
set_option maxRecDepth 8000 in
theorem wl_EXCLUDES : (Cond.laysStatic "ItemFacts" "EXCLUDES" "[I") ∈ lw_tbl := List.mem_of_getElem? (i := 206) rfl
set_option maxRecDepth 8000 in
theorem wm_I_lacksWhatIsWanted : Cond.instanceMethod y_I_lacksWhatIsWanted ∈ wd_tb := wd_in 209 rfl rfl
set_option maxRecDepth 8000 in
theorem wt_J_bitCount : Cond.static y_J_bitCount ∈ wd_tb := wd_in 213 rfl rfl
set_option maxRecDepth 8000 in
theorem wm_F_event : Cond.instanceMethod y_F_event ∈ wd_tb := wd_in 219 rfl rfl
set_option maxRecDepth 8000 in
theorem wz_F_event : Cond.selects R_F y_F_event y_F_event ∈ wd_tb := wd_in 220 rfl rfl
set_option maxRecDepth 8000 in
theorem wm_I_stateBehind : Cond.instanceMethod y_I_stateBehind ∈ wd_tb := wd_in 224 rfl rfl
set_option maxRecDepth 8000 in
theorem wm_F_mustWait : Cond.instanceMethod y_F_mustWait ∈ wd_tb := wd_in 228 rfl rfl
set_option maxRecDepth 8000 in
theorem wm_I_undergo : Cond.instanceMethod y_I_undergo ∈ wd_tb := wd_in 232 rfl rfl
set_option maxRecDepth 8000 in
theorem wm_F_address : Cond.instanceMethod y_F_address ∈ wd_tb := wd_in 235 rfl rfl
set_option maxRecDepth 8000 in
theorem wz_F_address : Cond.selects R_F y_F_address y_F_address ∈ wd_tb := wd_in 236 rfl rfl
set_option maxRecDepth 8000 in
theorem wm_F_abroad : Cond.instanceMethod y_F_abroad ∈ wd_tb := wd_in 239 rfl rfl
set_option maxRecDepth 8000 in
theorem wz_F_abroad : Cond.selects R_F y_F_abroad y_F_abroad ∈ wd_tb := wd_in 240 rfl rfl
set_option maxRecDepth 8000 in
theorem wm_F_contents : Cond.instanceMethod y_F_contents ∈ wd_tb := wd_in 243 rfl rfl
set_option maxRecDepth 8000 in
theorem wz_F_contents : Cond.selects R_F y_F_contents y_F_contents ∈ wd_tb := wd_in 244 rfl rfl
set_option maxRecDepth 8000 in
theorem wm_F_join : Cond.instanceMethod y_F_join ∈ wd_tb := wd_in 247 rfl rfl
set_option maxRecDepth 8000 in
theorem wz_F_join : Cond.selects R_F y_F_join y_F_join ∈ wd_tb := wd_in 248 rfl rfl
set_option maxRecDepth 8000 in
theorem wm_F_bulk : Cond.instanceMethod y_F_bulk ∈ wd_tb := wd_in 251 rfl rfl
set_option maxRecDepth 8000 in
theorem wz_F_bulk : Cond.selects R_F y_F_bulk y_F_bulk ∈ wd_tb := wd_in 252 rfl rfl
set_option maxRecDepth 8000 in
theorem wm_F_open : Cond.instanceMethod y_F_open ∈ wd_tb := wd_in 255 rfl rfl
set_option maxRecDepth 8000 in
theorem wz_F_open : Cond.selects R_F y_F_open y_F_open ∈ wd_tb := wd_in 256 rfl rfl
set_option maxRecDepth 8000 in
theorem wm_F_correct : Cond.instanceMethod y_F_correct ∈ wd_tb := wd_in 259 rfl rfl
set_option maxRecDepth 8000 in
theorem wz_F_correct : Cond.selects R_F y_F_correct y_F_correct ∈ wd_tb := wd_in 260 rfl rfl
set_option maxRecDepth 8000 in
theorem wt_F_mayBecome : Cond.static y_F_mayBecome ∈ wd_tb := wd_in 263 rfl rfl
set_option maxRecDepth 8000 in
theorem wm_I_wouldStay : Cond.instanceMethod y_I_wouldStay ∈ wd_tb := wd_in 267 rfl rfl
set_option maxRecDepth 8000 in
theorem wm_I_correctable : Cond.instanceMethod y_I_correctable ∈ wd_tb := wd_in 272 rfl rfl
set_option maxRecDepth 8000 in
theorem wn_C : Cond.instantiable R_C 5 ∈ wd_tb := wd_in 274 rfl rfl
set_option maxRecDepth 8000 in
theorem wm_C_init : Cond.instanceMethod y_C_init ∈ wd_tb := wd_in 277 rfl rfl
set_option maxRecDepth 8000 in
theorem wm_I_become : Cond.instanceMethod y_I_become ∈ wd_tb := wd_in 298 rfl rfl
set_option maxRecDepth 8000 in
theorem wm_F_row : Cond.instanceMethod y_F_row ∈ wd_tb := wd_in 301 rfl rfl
set_option maxRecDepth 8000 in
theorem wz_F_row : Cond.selects R_F y_F_row y_F_row ∈ wd_tb := wd_in 302 rfl rfl
set_option maxRecDepth 8000 in
theorem wm_C_part : Cond.instanceMethod y_C_part ∈ wd_tb := wd_in 306 rfl rfl
set_option maxRecDepth 8000 in
theorem wm_F_about : Cond.instanceMethod y_F_about ∈ wd_tb := wd_in 309 rfl rfl
set_option maxRecDepth 8000 in
theorem wz_F_about : Cond.selects R_F y_F_about y_F_about ∈ wd_tb := wd_in 310 rfl rfl
set_option maxRecDepth 8000 in
theorem wm_I_fact : Cond.instanceMethod y_I_fact ∈ wd_tb := wd_in 314 rfl rfl
set_option maxRecDepth 8000 in
theorem wm_F_pack : Cond.instanceMethod y_F_pack ∈ wd_tb := wd_in 317 rfl rfl
set_option maxRecDepth 8000 in
theorem wz_F_pack : Cond.selects R_F y_F_pack y_F_pack ∈ wd_tb := wd_in 318 rfl rfl
set_option maxRecDepth 8000 in
theorem wm_P_fill : Cond.instanceMethod y_P_fill ∈ wd_tb := wd_in 322 rfl rfl
set_option maxRecDepth 8000 in
theorem wm_P_addTwo : Cond.instanceMethod y_P_addTwo ∈ wd_tb := wd_in 326 rfl rfl
set_option maxRecDepth 8000 in
theorem wm_P_add : Cond.instanceMethod y_P_add ∈ wd_tb := wd_in 330 rfl rfl
set_option maxRecDepth 8000 in
theorem wm_P_addEntry : Cond.instanceMethod y_P_addEntry ∈ wd_tb := wd_in 334 rfl rfl
set_option maxRecDepth 8000 in
theorem wm_P_xorOfAll : Cond.instanceMethod y_P_xorOfAll ∈ wd_tb := wd_in 339 rfl rfl
set_option maxRecDepth 8000 in
theorem wm_F_octet : Cond.instanceMethod y_F_octet ∈ wd_tb := wd_in 342 rfl rfl
set_option maxRecDepth 8000 in
theorem wz_F_octet : Cond.selects R_F y_F_octet y_F_octet ∈ wd_tb := wd_in 343 rfl rfl
set_option maxRecDepth 8000 in
theorem wm_P_at : Cond.instanceMethod y_P_at ∈ wd_tb := wd_in 347 rfl rfl
set_option maxRecDepth 8000 in
theorem wm_F_aside : Cond.instanceMethod y_F_aside ∈ wd_tb := wd_in 351 rfl rfl
set_option maxRecDepth 8000 in
theorem wz_F_aside : Cond.selects R_F y_F_aside y_F_aside ∈ wd_tb := wd_in 352 rfl rfl
set_option maxRecDepth 8000 in
theorem wm_I_isSetAside : Cond.instanceMethod y_I_isSetAside ∈ wd_tb := wd_in 356 rfl rfl
set_option maxRecDepth 8000 in
theorem wn_M : Cond.instantiable R_M 23 ∈ wd_tb := wd_in 359 rfl rfl
set_option maxRecDepth 8000 in
theorem wm_M_init : Cond.instanceMethod y_M_init ∈ wd_tb := wd_in 361 rfl rfl
set_option maxRecDepth 8000 in
theorem wm_M_item : Cond.instanceMethod y_M_item ∈ wd_tb := wd_in 435 rfl rfl
set_option maxRecDepth 8000 in
theorem wz_M_item : Cond.selects R_M y_M_item y_M_item ∈ wd_tb := wd_in 436 rfl rfl
set_option maxRecDepth 8000 in
theorem wt_M_within : Cond.static y_M_within ∈ wd_tb := wd_in 439 rfl rfl
set_option maxRecDepth 8000 in
theorem wt_M_tooMuch : Cond.static y_M_tooMuch ∈ wd_tb := wd_in 443 rfl rfl
set_option maxRecDepth 8000 in
theorem wt_M_turned : Cond.static y_M_turned ∈ wd_tb := wd_in 446 rfl rfl
set_option maxRecDepth 8000 in
theorem wt_M_mostOf : Cond.static y_M_mostOf ∈ wd_tb := wd_in 449 rfl rfl
set_option maxRecDepth 8000 in
theorem wm_M_service : Cond.instanceMethod y_M_service ∈ wd_tb := wd_in 452 rfl rfl
set_option maxRecDepth 8000 in
theorem wz_M_service : Cond.selects R_M y_M_service y_M_service ∈ wd_tb := wd_in 453 rfl rfl
set_option maxRecDepth 8000 in
theorem wm_M_isItem : Cond.instanceMethod y_M_isItem ∈ wd_tb := wd_in 457 rfl rfl
set_option maxRecDepth 8000 in
theorem wm_M_has : Cond.instanceMethod y_M_has ∈ wd_tb := wd_in 461 rfl rfl
set_option maxRecDepth 8000 in
theorem wm_M_isOver : Cond.instanceMethod y_M_isOver ∈ wd_tb := wd_in 465 rfl rfl
set_option maxRecDepth 8000 in
theorem wt_M_excludes : Cond.static y_M_excludes ∈ wd_tb := wd_in 468 rfl rfl
set_option maxRecDepth 8000 in
theorem wm_M_event : Cond.instanceMethod y_M_event ∈ wd_tb := wd_in 471 rfl rfl
set_option maxRecDepth 8000 in
theorem wz_M_event : Cond.selects R_M y_M_event y_M_event ∈ wd_tb := wd_in 472 rfl rfl
set_option maxRecDepth 8000 in
theorem wt_M_ledTo : Cond.static y_M_ledTo ∈ wd_tb := wd_in 475 rfl rfl
set_option maxRecDepth 8000 in
theorem wm_M_mustWait : Cond.instanceMethod y_M_mustWait ∈ wd_tb := wd_in 479 rfl rfl
set_option maxRecDepth 8000 in
theorem wm_M_address : Cond.instanceMethod y_M_address ∈ wd_tb := wd_in 482 rfl rfl
set_option maxRecDepth 8000 in
theorem wz_M_address : Cond.selects R_M y_M_address y_M_address ∈ wd_tb := wd_in 483 rfl rfl
set_option maxRecDepth 8000 in
theorem wm_M_abroad : Cond.instanceMethod y_M_abroad ∈ wd_tb := wd_in 486 rfl rfl
set_option maxRecDepth 8000 in
theorem wz_M_abroad : Cond.selects R_M y_M_abroad y_M_abroad ∈ wd_tb := wd_in 487 rfl rfl
set_option maxRecDepth 8000 in
theorem wm_M_contents : Cond.instanceMethod y_M_contents ∈ wd_tb := wd_in 490 rfl rfl
set_option maxRecDepth 8000 in
theorem wz_M_contents : Cond.selects R_M y_M_contents y_M_contents ∈ wd_tb := wd_in 491 rfl rfl
set_option maxRecDepth 8000 in
theorem wm_M_join : Cond.instanceMethod y_M_join ∈ wd_tb := wd_in 494 rfl rfl
set_option maxRecDepth 8000 in
theorem wz_M_join : Cond.selects R_M y_M_join y_M_join ∈ wd_tb := wd_in 495 rfl rfl
set_option maxRecDepth 8000 in
theorem wm_M_belonging : Cond.instanceMethod y_M_belonging ∈ wd_tb := wd_in 499 rfl rfl
set_option maxRecDepth 8000 in
theorem wm_M_bulk : Cond.instanceMethod y_M_bulk ∈ wd_tb := wd_in 502 rfl rfl
set_option maxRecDepth 8000 in
theorem wz_M_bulk : Cond.selects R_M y_M_bulk y_M_bulk ∈ wd_tb := wd_in 503 rfl rfl
set_option maxRecDepth 8000 in
theorem wm_M_open : Cond.instanceMethod y_M_open ∈ wd_tb := wd_in 506 rfl rfl
set_option maxRecDepth 8000 in
theorem wz_M_open : Cond.selects R_M y_M_open y_M_open ∈ wd_tb := wd_in 507 rfl rfl
set_option maxRecDepth 8000 in
theorem wm_M_correct : Cond.instanceMethod y_M_correct ∈ wd_tb := wd_in 510 rfl rfl
set_option maxRecDepth 8000 in
theorem wz_M_correct : Cond.selects R_M y_M_correct y_M_correct ∈ wd_tb := wd_in 511 rfl rfl
set_option maxRecDepth 8000 in
theorem wm_M_factOf : Cond.instanceMethod y_M_factOf ∈ wd_tb := wd_in 515 rfl rfl
set_option maxRecDepth 8000 in
theorem wm_M_row : Cond.instanceMethod y_M_row ∈ wd_tb := wd_in 518 rfl rfl
set_option maxRecDepth 8000 in
theorem wz_M_row : Cond.selects R_M y_M_row y_M_row ∈ wd_tb := wd_in 519 rfl rfl
set_option maxRecDepth 8000 in
theorem wm_M_about : Cond.instanceMethod y_M_about ∈ wd_tb := wd_in 522 rfl rfl
set_option maxRecDepth 8000 in
theorem wz_M_about : Cond.selects R_M y_M_about y_M_about ∈ wd_tb := wd_in 523 rfl rfl
set_option maxRecDepth 8000 in
theorem wm_M_pack : Cond.instanceMethod y_M_pack ∈ wd_tb := wd_in 526 rfl rfl
set_option maxRecDepth 8000 in
theorem wz_M_pack : Cond.selects R_M y_M_pack y_M_pack ∈ wd_tb := wd_in 527 rfl rfl
set_option maxRecDepth 8000 in
theorem wm_M_put : Cond.instanceMethod y_M_put ∈ wd_tb := wd_in 531 rfl rfl
set_option maxRecDepth 8000 in
theorem wm_M_octet : Cond.instanceMethod y_M_octet ∈ wd_tb := wd_in 534 rfl rfl
set_option maxRecDepth 8000 in
theorem wz_M_octet : Cond.selects R_M y_M_octet y_M_octet ∈ wd_tb := wd_in 535 rfl rfl
set_option maxRecDepth 8000 in
theorem wm_M_aside : Cond.instanceMethod y_M_aside ∈ wd_tb := wd_in 538 rfl rfl
set_option maxRecDepth 8000 in
theorem wz_M_aside : Cond.selects R_M y_M_aside y_M_aside ∈ wd_tb := wd_in 539 rfl rfl
set_option maxRecDepth 8000 in
theorem wz_F_find : Cond.selects R_F y_F_find y_F_find ∈ wd_tb := wd_in 0 rfl rfl
set_option maxRecDepth 8000 in
theorem wz_I_has : Cond.selects R_I y_I_has y_I_has ∈ wd_tb := wd_in 1 rfl rfl
set_option maxRecDepth 8000 in
theorem wz_I_isAtEnd : Cond.selects R_I y_I_isAtEnd y_I_isAtEnd ∈ wd_tb := wd_in 2 rfl rfl
set_option maxRecDepth 8000 in
theorem wz_I_leastExcluding : Cond.selects R_I y_I_leastExcluding y_I_leastExcluding ∈ wd_tb := wd_in 3 rfl rfl
set_option maxRecDepth 8000 in
theorem wz_I_lacksWhatIsWanted : Cond.selects R_I y_I_lacksWhatIsWanted y_I_lacksWhatIsWanted ∈ wd_tb := wd_in 4 rfl rfl
set_option maxRecDepth 8000 in
theorem wz_I_stateBehind : Cond.selects R_I y_I_stateBehind y_I_stateBehind ∈ wd_tb := wd_in 5 rfl rfl
set_option maxRecDepth 8000 in
theorem wz_F_mustWait : Cond.selects R_F y_F_mustWait y_F_mustWait ∈ wd_tb := wd_in 6 rfl rfl
set_option maxRecDepth 8000 in
theorem wz_I_undergo : Cond.selects R_I y_I_undergo y_I_undergo ∈ wd_tb := wd_in 7 rfl rfl
set_option maxRecDepth 8000 in
theorem wz_I_wouldStay : Cond.selects R_I y_I_wouldStay y_I_wouldStay ∈ wd_tb := wd_in 8 rfl rfl
set_option maxRecDepth 8000 in
theorem wz_I_correctable : Cond.selects R_I y_I_correctable y_I_correctable ∈ wd_tb := wd_in 9 rfl rfl
set_option maxRecDepth 8000 in
theorem wz_I_become : Cond.selects R_I y_I_become y_I_become ∈ wd_tb := wd_in 10 rfl rfl
set_option maxRecDepth 8000 in
theorem wz_C_part : Cond.selects R_C y_C_part y_C_part ∈ wd_tb := wd_in 11 rfl rfl
set_option maxRecDepth 8000 in
theorem wz_I_fact : Cond.selects R_I y_I_fact y_I_fact ∈ wd_tb := wd_in 12 rfl rfl
set_option maxRecDepth 8000 in
theorem wz_P_fill : Cond.selects R_P y_P_fill y_P_fill ∈ wd_tb := wd_in 13 rfl rfl
set_option maxRecDepth 8000 in
theorem wz_P_addTwo : Cond.selects R_P y_P_addTwo y_P_addTwo ∈ wd_tb := wd_in 14 rfl rfl
set_option maxRecDepth 8000 in
theorem wz_P_add : Cond.selects R_P y_P_add y_P_add ∈ wd_tb := wd_in 15 rfl rfl
set_option maxRecDepth 8000 in
theorem wz_P_addEntry : Cond.selects R_P y_P_addEntry y_P_addEntry ∈ wd_tb := wd_in 16 rfl rfl
set_option maxRecDepth 8000 in
theorem wz_P_xorOfAll : Cond.selects R_P y_P_xorOfAll y_P_xorOfAll ∈ wd_tb := wd_in 17 rfl rfl
set_option maxRecDepth 8000 in
theorem wz_P_at : Cond.selects R_P y_P_at y_P_at ∈ wd_tb := wd_in 18 rfl rfl
set_option maxRecDepth 8000 in
theorem wz_I_isSetAside : Cond.selects R_I y_I_isSetAside y_I_isSetAside ∈ wd_tb := wd_in 19 rfl rfl
set_option maxRecDepth 8000 in
theorem wz_M_isItem : Cond.selects R_M y_M_isItem y_M_isItem ∈ wd_tb := wd_in 20 rfl rfl
set_option maxRecDepth 8000 in
theorem wz_M_has : Cond.selects R_M y_M_has y_M_has ∈ wd_tb := wd_in 21 rfl rfl
set_option maxRecDepth 8000 in
theorem wz_M_isOver : Cond.selects R_M y_M_isOver y_M_isOver ∈ wd_tb := wd_in 22 rfl rfl
set_option maxRecDepth 8000 in
theorem wz_M_mustWait : Cond.selects R_M y_M_mustWait y_M_mustWait ∈ wd_tb := wd_in 23 rfl rfl
set_option maxRecDepth 8000 in
theorem wz_M_belonging : Cond.selects R_M y_M_belonging y_M_belonging ∈ wd_tb := wd_in 24 rfl rfl
set_option maxRecDepth 8000 in
theorem wz_M_factOf : Cond.selects R_M y_M_factOf y_M_factOf ∈ wd_tb := wd_in 25 rfl rfl
set_option maxRecDepth 8000 in
theorem wz_M_put : Cond.selects R_M y_M_put y_M_put ∈ wd_tb := wd_in 26 rfl rfl
set_option maxRecDepth 8000 in
theorem wc_F_init : Cond.code y_F_init b_F_init 1 none ∈ wd_tb := wd_in 38 rfl rfl
set_option maxRecDepth 8000 in
theorem wc_P_init : Cond.code y_P_init b_P_init 1 none ∈ wd_tb := wd_in 50 rfl rfl
set_option maxRecDepth 8000 in
theorem wc_F_item : Cond.code y_F_item b_F_item 5 (some .int) ∈ wd_tb := wd_in 90 rfl rfl
set_option maxRecDepth 8000 in
theorem wc_F_within : Cond.code y_F_within b_F_within 3 (some .boolean) ∈ wd_tb := wd_in 93 rfl rfl
set_option maxRecDepth 8000 in
theorem wc_F_turned : Cond.code y_F_turned b_F_turned 4 (some .int) ∈ wd_tb := wd_in 102 rfl rfl
set_option maxRecDepth 8000 in
theorem wc_I_init : Cond.code y_I_init b_I_init 5 none ∈ wd_tb := wd_in 105 rfl rfl
set_option maxRecDepth 8000 in
theorem wc_F_service : Cond.code y_F_service b_F_service 5 (some .int) ∈ wd_tb := wd_in 187 rfl rfl
set_option maxRecDepth 8000 in
theorem wc_F_find : Cond.code y_F_find b_F_find 2 (some (.object "ItemFacts$Item")) ∈ wd_tb := wd_in 191 rfl rfl
set_option maxRecDepth 8000 in
theorem wc_I_has : Cond.code y_I_has b_I_has 2 (some .boolean) ∈ wd_tb := wd_in 195 rfl rfl
set_option maxRecDepth 8000 in
theorem wc_I_isAtEnd : Cond.code y_I_isAtEnd b_I_isAtEnd 1 (some .boolean) ∈ wd_tb := wd_in 199 rfl rfl
set_option maxRecDepth 8000 in
theorem wc_I_leastExcluding : Cond.code y_I_leastExcluding b_I_leastExcluding 4 (some .int) ∈ wd_tb := wd_in 203 rfl rfl
set_option maxRecDepth 8000 in
theorem wc_I_lacksWhatIsWanted : Cond.code y_I_lacksWhatIsWanted b_I_lacksWhatIsWanted 2 (some .boolean) ∈ wd_tb := wd_in 210 rfl rfl
set_option maxRecDepth 8000 in
theorem wc_J_bitCount : Cond.code y_J_bitCount b_J_bitCount 1 (some .int) ∈ wd_tb := wd_in 214 rfl rfl
set_option maxRecDepth 8000 in
theorem wc_F_event : Cond.code y_F_event b_F_event 5 (some .int) ∈ wd_tb := wd_in 221 rfl rfl
set_option maxRecDepth 8000 in
theorem wc_I_stateBehind : Cond.code y_I_stateBehind b_I_stateBehind 2 (some .int) ∈ wd_tb := wd_in 225 rfl rfl
set_option maxRecDepth 8000 in
theorem wc_F_mustWait : Cond.code y_F_mustWait b_F_mustWait 4 (some .boolean) ∈ wd_tb := wd_in 229 rfl rfl
set_option maxRecDepth 8000 in
theorem wc_I_undergo : Cond.code y_I_undergo b_I_undergo 3 none ∈ wd_tb := wd_in 233 rfl rfl
set_option maxRecDepth 8000 in
theorem wc_F_address : Cond.code y_F_address b_F_address 6 (some .int) ∈ wd_tb := wd_in 237 rfl rfl
set_option maxRecDepth 8000 in
theorem wc_F_abroad : Cond.code y_F_abroad b_F_abroad 4 (some .int) ∈ wd_tb := wd_in 241 rfl rfl
set_option maxRecDepth 8000 in
theorem wc_F_contents : Cond.code y_F_contents b_F_contents 5 (some .int) ∈ wd_tb := wd_in 245 rfl rfl
set_option maxRecDepth 8000 in
theorem wc_F_join : Cond.code y_F_join b_F_join 5 (some .int) ∈ wd_tb := wd_in 249 rfl rfl
set_option maxRecDepth 8000 in
theorem wc_F_bulk : Cond.code y_F_bulk b_F_bulk 4 (some .int) ∈ wd_tb := wd_in 253 rfl rfl
set_option maxRecDepth 8000 in
theorem wc_F_open : Cond.code y_F_open b_F_open 5 (some .int) ∈ wd_tb := wd_in 257 rfl rfl
set_option maxRecDepth 8000 in
theorem wc_F_correct : Cond.code y_F_correct b_F_correct 6 (some .int) ∈ wd_tb := wd_in 261 rfl rfl
set_option maxRecDepth 8000 in
theorem wc_F_mayBecome : Cond.code y_F_mayBecome b_F_mayBecome 2 (some .boolean) ∈ wd_tb := wd_in 264 rfl rfl
set_option maxRecDepth 8000 in
theorem wc_I_wouldStay : Cond.code y_I_wouldStay b_I_wouldStay 3 (some .boolean) ∈ wd_tb := wd_in 268 rfl rfl
set_option maxRecDepth 8000 in
theorem wc_I_correctable : Cond.code y_I_correctable b_I_correctable 2 (some .int) ∈ wd_tb := wd_in 273 rfl rfl
set_option maxRecDepth 8000 in
theorem wc_C_init : Cond.code y_C_init b_C_init 6 none ∈ wd_tb := wd_in 278 rfl rfl
set_option maxRecDepth 8000 in
theorem wc_I_become : Cond.code y_I_become b_I_become 3 none ∈ wd_tb := wd_in 299 rfl rfl
set_option maxRecDepth 8000 in
theorem wc_F_row : Cond.code y_F_row b_F_row 4 (some .int) ∈ wd_tb := wd_in 303 rfl rfl
set_option maxRecDepth 8000 in
theorem wc_C_part : Cond.code y_C_part b_C_part 2 (some .int) ∈ wd_tb := wd_in 307 rfl rfl
set_option maxRecDepth 8000 in
theorem wc_F_about : Cond.code y_F_about b_F_about 4 (some .int) ∈ wd_tb := wd_in 311 rfl rfl
set_option maxRecDepth 8000 in
theorem wc_I_fact : Cond.code y_I_fact b_I_fact 2 (some .int) ∈ wd_tb := wd_in 315 rfl rfl
set_option maxRecDepth 8000 in
theorem wc_F_pack : Cond.code y_F_pack b_F_pack 3 (some .int) ∈ wd_tb := wd_in 319 rfl rfl
set_option maxRecDepth 8000 in
theorem wc_P_fill : Cond.code y_P_fill b_P_fill 4 none ∈ wd_tb := wd_in 323 rfl rfl
set_option maxRecDepth 8000 in
theorem wc_P_addTwo : Cond.code y_P_addTwo b_P_addTwo 2 none ∈ wd_tb := wd_in 327 rfl rfl
set_option maxRecDepth 8000 in
theorem wc_P_add : Cond.code y_P_add b_P_add 2 none ∈ wd_tb := wd_in 331 rfl rfl
set_option maxRecDepth 8000 in
theorem wc_P_addEntry : Cond.code y_P_addEntry b_P_addEntry 2 none ∈ wd_tb := wd_in 335 rfl rfl
set_option maxRecDepth 8000 in
theorem wc_P_xorOfAll : Cond.code y_P_xorOfAll b_P_xorOfAll 3 (some .int) ∈ wd_tb := wd_in 340 rfl rfl
set_option maxRecDepth 8000 in
theorem wc_F_octet : Cond.code y_F_octet b_F_octet 2 (some .int) ∈ wd_tb := wd_in 344 rfl rfl
set_option maxRecDepth 8000 in
theorem wc_P_at : Cond.code y_P_at b_P_at 2 (some .int) ∈ wd_tb := wd_in 348 rfl rfl
set_option maxRecDepth 8000 in
theorem wc_F_aside : Cond.code y_F_aside b_F_aside 5 (some .int) ∈ wd_tb := wd_in 353 rfl rfl
set_option maxRecDepth 8000 in
theorem wc_I_isSetAside : Cond.code y_I_isSetAside b_I_isSetAside 1 (some .boolean) ∈ wd_tb := wd_in 357 rfl rfl
set_option maxRecDepth 8000 in
theorem wc_M_init : Cond.code y_M_init b_M_init 1 none ∈ wd_tb := wd_in 362 rfl rfl
set_option maxRecDepth 8000 in
theorem wc_M_item : Cond.code y_M_item b_M_item 6 (some .int) ∈ wd_tb := wd_in 437 rfl rfl
set_option maxRecDepth 8000 in
theorem wc_M_within : Cond.code y_M_within b_M_within 3 (some .boolean) ∈ wd_tb := wd_in 440 rfl rfl
set_option maxRecDepth 8000 in
theorem wc_M_tooMuch : Cond.code y_M_tooMuch b_M_tooMuch 2 (some .int) ∈ wd_tb := wd_in 444 rfl rfl
set_option maxRecDepth 8000 in
theorem wc_M_turned : Cond.code y_M_turned b_M_turned 4 (some .int) ∈ wd_tb := wd_in 447 rfl rfl
set_option maxRecDepth 8000 in
theorem wc_M_mostOf : Cond.code y_M_mostOf b_M_mostOf 1 (some .int) ∈ wd_tb := wd_in 450 rfl rfl
set_option maxRecDepth 8000 in
theorem wc_M_service : Cond.code y_M_service b_M_service 6 (some .int) ∈ wd_tb := wd_in 454 rfl rfl
set_option maxRecDepth 8000 in
theorem wc_M_isItem : Cond.code y_M_isItem b_M_isItem 2 (some .boolean) ∈ wd_tb := wd_in 458 rfl rfl
set_option maxRecDepth 8000 in
theorem wc_M_has : Cond.code y_M_has b_M_has 3 (some .boolean) ∈ wd_tb := wd_in 462 rfl rfl
set_option maxRecDepth 8000 in
theorem wc_M_isOver : Cond.code y_M_isOver b_M_isOver 2 (some .boolean) ∈ wd_tb := wd_in 466 rfl rfl
set_option maxRecDepth 8000 in
theorem wc_M_excludes : Cond.code y_M_excludes b_M_excludes 4 (some .boolean) ∈ wd_tb := wd_in 469 rfl rfl
set_option maxRecDepth 8000 in
theorem wc_M_event : Cond.code y_M_event b_M_event 4 (some .int) ∈ wd_tb := wd_in 473 rfl rfl
set_option maxRecDepth 8000 in
theorem wc_M_ledTo : Cond.code y_M_ledTo b_M_ledTo 2 (some .int) ∈ wd_tb := wd_in 476 rfl rfl
set_option maxRecDepth 8000 in
theorem wc_M_mustWait : Cond.code y_M_mustWait b_M_mustWait 5 (some .boolean) ∈ wd_tb := wd_in 480 rfl rfl
set_option maxRecDepth 8000 in
theorem wc_M_address : Cond.code y_M_address b_M_address 5 (some .int) ∈ wd_tb := wd_in 484 rfl rfl
set_option maxRecDepth 8000 in
theorem wc_M_abroad : Cond.code y_M_abroad b_M_abroad 3 (some .int) ∈ wd_tb := wd_in 488 rfl rfl
set_option maxRecDepth 8000 in
theorem wc_M_contents : Cond.code y_M_contents b_M_contents 4 (some .int) ∈ wd_tb := wd_in 492 rfl rfl
set_option maxRecDepth 8000 in
theorem wc_M_join : Cond.code y_M_join b_M_join 4 (some .int) ∈ wd_tb := wd_in 496 rfl rfl
set_option maxRecDepth 8000 in
theorem wc_M_belonging : Cond.code y_M_belonging b_M_belonging 5 (some .int) ∈ wd_tb := wd_in 500 rfl rfl
set_option maxRecDepth 8000 in
theorem wc_M_bulk : Cond.code y_M_bulk b_M_bulk 3 (some .int) ∈ wd_tb := wd_in 504 rfl rfl
set_option maxRecDepth 8000 in
theorem wc_M_open : Cond.code y_M_open b_M_open 4 (some .int) ∈ wd_tb := wd_in 508 rfl rfl
set_option maxRecDepth 8000 in
theorem wc_M_correct : Cond.code y_M_correct b_M_correct 12 (some .int) ∈ wd_tb := wd_in 512 rfl rfl
set_option maxRecDepth 8000 in
theorem wc_M_factOf : Cond.code y_M_factOf b_M_factOf 3 (some .int) ∈ wd_tb := wd_in 516 rfl rfl
set_option maxRecDepth 8000 in
theorem wc_M_row : Cond.code y_M_row b_M_row 3 (some .int) ∈ wd_tb := wd_in 520 rfl rfl
set_option maxRecDepth 8000 in
theorem wc_M_about : Cond.code y_M_about b_M_about 3 (some .int) ∈ wd_tb := wd_in 524 rfl rfl
set_option maxRecDepth 8000 in
theorem wc_M_pack : Cond.code y_M_pack b_M_pack 4 (some .int) ∈ wd_tb := wd_in 528 rfl rfl
set_option maxRecDepth 8000 in
theorem wc_M_put : Cond.code y_M_put b_M_put 4 none ∈ wd_tb := wd_in 532 rfl rfl
set_option maxRecDepth 8000 in
theorem wc_M_octet : Cond.code y_M_octet b_M_octet 2 (some .int) ∈ wd_tb := wd_in 536 rfl rfl
set_option maxRecDepth 8000 in
theorem wc_M_aside : Cond.code y_M_aside b_M_aside 4 (some .int) ∈ wd_tb := wd_in 540 rfl rfl
theorem n_F : ∀ a, a < 8 → ∀ b, b < 8 → a ≠ b → (F_F a).2.1 ≠ (F_F b).2.1 := by decide +kernel
theorem t_F_ok : ∀ k, k < 8 → parseFieldDescriptor (F_F k).2.2.1 = some (t_F k) := by decide +kernel
theorem i_F : ∀ w ∈ u_ws R_F F_F 8, w ∈ wd_tb := by decide +kernel
theorem n_I : ∀ a, a < 17 → ∀ b, b < 17 → a ≠ b → (F_I a).2.1 ≠ (F_I b).2.1 := by decide +kernel
theorem t_I_ok : ∀ k, k < 17 → parseFieldDescriptor (F_I k).2.2.1 = some (t_I k) := by decide +kernel
theorem i_I : ∀ w ∈ u_ws R_I F_I 17, w ∈ wd_tb := by decide +kernel
theorem n_C : ∀ a, a < 5 → ∀ b, b < 5 → a ≠ b → (F_C a).2.1 ≠ (F_C b).2.1 := by decide +kernel
theorem t_C_ok : ∀ k, k < 5 → parseFieldDescriptor (F_C k).2.2.1 = some (t_C k) := by decide +kernel
theorem i_C : ∀ w ∈ u_ws R_C F_C 5, w ∈ wd_tb := by decide +kernel
theorem n_P : ∀ a, a < 2 → ∀ b, b < 2 → a ≠ b → (F_P a).2.1 ≠ (F_P b).2.1 := by decide +kernel
theorem t_P_ok : ∀ k, k < 2 → parseFieldDescriptor (F_P k).2.2.1 = some (t_P k) := by decide +kernel
theorem i_P : ∀ w ∈ u_ws R_P F_P 2, w ∈ wd_tb := by decide +kernel
theorem n_M : ∀ a, a < 23 → ∀ b, b < 23 → a ≠ b → (F_M a).2.1 ≠ (F_M b).2.1 := by decide +kernel
theorem t_M_ok : ∀ k, k < 23 → parseFieldDescriptor (F_M k).2.2.1 = some (t_M k) := by decide +kernel
theorem i_M : ∀ w ∈ u_ws R_M F_M 23, w ∈ wd_tb := by decide +kernel
def wd_ty (T : Nat → ClassId) : List (ClassId × FieldType) := [(T 0, .int), (T 1, .boolean), (T 2, .object "ItemFacts$Item"), (T 3, .object "ItemFacts$Correction")]
def x_bw : List Int32 := [50, 500, 2000, 31500]
def x_bs : List Int32 := [0, 1, 2, 3]
def x_ex : List Int32 := [0, 4, 10, 36, 32, 24]
def wd_st : List (String × String × List Int32) := [("ItemFacts", "BEARS_WEIGHT", x_bw), ("ItemFacts", "BEARS_SIZE", x_bs), ("ItemFacts", "EXCLUDES", x_ex)]
