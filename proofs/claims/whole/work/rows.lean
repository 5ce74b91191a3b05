section
-- ===== PART A: goes FIRST, ahead of the names: the tables' words, and 'selects' of the private methods out of them =====
/-- a private method of a class that the tables say can be made, by its rows of tables_1 -/
def lw_okq (q : MethodName × Nat) : Prop := (q.1.cls ≠ "java/lang/invoke/MethodHandle" ∧ q.1.cls ≠ "java/lang/invoke/VarHandle") ∧ Cond.instantiable q.1.cls q.2 ∈ tables_1 ∧ Cond.privateMethod q.1 ∈ tables_1 ∧ Cond.instanceMethod q.1 ∈ tables_1
theorem lw_p0 : lw_okq (⟨"ItemFacts", "find", "(I)LItemFacts$Item;"⟩, 8) := ⟨⟨by decide +kernel, by decide +kernel⟩, List.mem_of_getElem? (i := 8) (by decide +kernel), List.mem_of_getElem? (i := 162) (by decide +kernel), List.mem_of_getElem? (i := 163) (by decide +kernel)⟩
theorem lw_p1 : lw_okq (⟨"ItemFacts$Item", "has", "(I)Z"⟩, 17) := ⟨⟨by decide +kernel, by decide +kernel⟩, List.mem_of_getElem? (i := 72) (by decide +kernel), List.mem_of_getElem? (i := 166) (by decide +kernel), List.mem_of_getElem? (i := 167) (by decide +kernel)⟩
theorem lw_p2 : lw_okq (⟨"ItemFacts$Item", "isAtEnd", "()Z"⟩, 17) := ⟨⟨by decide +kernel, by decide +kernel⟩, List.mem_of_getElem? (i := 72) (by decide +kernel), List.mem_of_getElem? (i := 170) (by decide +kernel), List.mem_of_getElem? (i := 171) (by decide +kernel)⟩
theorem lw_p3 : lw_okq (⟨"ItemFacts$Item", "leastExcluding", "(I)I"⟩, 17) := ⟨⟨by decide +kernel, by decide +kernel⟩, List.mem_of_getElem? (i := 72) (by decide +kernel), List.mem_of_getElem? (i := 174) (by decide +kernel), List.mem_of_getElem? (i := 175) (by decide +kernel)⟩
theorem lw_p4 : lw_okq (⟨"ItemFacts$Item", "lacksWhatIsWanted", "(I)Z"⟩, 17) := ⟨⟨by decide +kernel, by decide +kernel⟩, List.mem_of_getElem? (i := 72) (by decide +kernel), List.mem_of_getElem? (i := 181) (by decide +kernel), List.mem_of_getElem? (i := 182) (by decide +kernel)⟩
theorem lw_p5 : lw_okq (⟨"ItemFacts$Item", "stateBehind", "(I)I"⟩, 17) := ⟨⟨by decide +kernel, by decide +kernel⟩, List.mem_of_getElem? (i := 72) (by decide +kernel), List.mem_of_getElem? (i := 196) (by decide +kernel), List.mem_of_getElem? (i := 197) (by decide +kernel)⟩
theorem lw_p6 : lw_okq (⟨"ItemFacts", "mustWait", "(I)Z"⟩, 8) := ⟨⟨by decide +kernel, by decide +kernel⟩, List.mem_of_getElem? (i := 8) (by decide +kernel), List.mem_of_getElem? (i := 200) (by decide +kernel), List.mem_of_getElem? (i := 201) (by decide +kernel)⟩
theorem lw_p7 : lw_okq (⟨"ItemFacts$Item", "undergo", "(II)V"⟩, 17) := ⟨⟨by decide +kernel, by decide +kernel⟩, List.mem_of_getElem? (i := 72) (by decide +kernel), List.mem_of_getElem? (i := 204) (by decide +kernel), List.mem_of_getElem? (i := 205) (by decide +kernel)⟩
theorem lw_p8 : lw_okq (⟨"ItemFacts$Item", "wouldStay", "(II)Z"⟩, 17) := ⟨⟨by decide +kernel, by decide +kernel⟩, List.mem_of_getElem? (i := 72) (by decide +kernel), List.mem_of_getElem? (i := 239) (by decide +kernel), List.mem_of_getElem? (i := 240) (by decide +kernel)⟩
theorem lw_p9 : lw_okq (⟨"ItemFacts$Item", "correctable", "(I)I"⟩, 17) := ⟨⟨by decide +kernel, by decide +kernel⟩, List.mem_of_getElem? (i := 72) (by decide +kernel), List.mem_of_getElem? (i := 244) (by decide +kernel), List.mem_of_getElem? (i := 245) (by decide +kernel)⟩
theorem lw_p10 : lw_okq (⟨"ItemFacts$Item", "become", "(II)V"⟩, 17) := ⟨⟨by decide +kernel, by decide +kernel⟩, List.mem_of_getElem? (i := 72) (by decide +kernel), List.mem_of_getElem? (i := 270) (by decide +kernel), List.mem_of_getElem? (i := 271) (by decide +kernel)⟩
theorem lw_p11 : lw_okq (⟨"ItemFacts$Correction", "part", "(I)I"⟩, 5) := ⟨⟨by decide +kernel, by decide +kernel⟩, List.mem_of_getElem? (i := 247) (by decide +kernel), List.mem_of_getElem? (i := 278) (by decide +kernel), List.mem_of_getElem? (i := 279) (by decide +kernel)⟩
theorem lw_p12 : lw_okq (⟨"ItemFacts$Item", "fact", "(I)I"⟩, 17) := ⟨⟨by decide +kernel, by decide +kernel⟩, List.mem_of_getElem? (i := 72) (by decide +kernel), List.mem_of_getElem? (i := 286) (by decide +kernel), List.mem_of_getElem? (i := 287) (by decide +kernel)⟩
theorem lw_p13 : lw_okq (⟨"ItemFacts$Packed", "fill", "(ILItemFacts$Item;)V"⟩, 2) := ⟨⟨by decide +kernel, by decide +kernel⟩, List.mem_of_getElem? (i := 20) (by decide +kernel), List.mem_of_getElem? (i := 294) (by decide +kernel), List.mem_of_getElem? (i := 295) (by decide +kernel)⟩
theorem lw_p14 : lw_okq (⟨"ItemFacts$Packed", "addTwo", "(I)V"⟩, 2) := ⟨⟨by decide +kernel, by decide +kernel⟩, List.mem_of_getElem? (i := 20) (by decide +kernel), List.mem_of_getElem? (i := 298) (by decide +kernel), List.mem_of_getElem? (i := 299) (by decide +kernel)⟩
theorem lw_p15 : lw_okq (⟨"ItemFacts$Packed", "add", "(I)V"⟩, 2) := ⟨⟨by decide +kernel, by decide +kernel⟩, List.mem_of_getElem? (i := 20) (by decide +kernel), List.mem_of_getElem? (i := 302) (by decide +kernel), List.mem_of_getElem? (i := 303) (by decide +kernel)⟩
def lw_privs_1 : List (MethodName × Nat) := [(⟨"ItemFacts", "find", "(I)LItemFacts$Item;"⟩, 8), (⟨"ItemFacts$Item", "has", "(I)Z"⟩, 17), (⟨"ItemFacts$Item", "isAtEnd", "()Z"⟩, 17), (⟨"ItemFacts$Item", "leastExcluding", "(I)I"⟩, 17), (⟨"ItemFacts$Item", "lacksWhatIsWanted", "(I)Z"⟩, 17), (⟨"ItemFacts$Item", "stateBehind", "(I)I"⟩, 17), (⟨"ItemFacts", "mustWait", "(I)Z"⟩, 8), (⟨"ItemFacts$Item", "undergo", "(II)V"⟩, 17), (⟨"ItemFacts$Item", "wouldStay", "(II)Z"⟩, 17), (⟨"ItemFacts$Item", "correctable", "(I)I"⟩, 17), (⟨"ItemFacts$Item", "become", "(II)V"⟩, 17), (⟨"ItemFacts$Correction", "part", "(I)I"⟩, 5), (⟨"ItemFacts$Item", "fact", "(I)I"⟩, 17), (⟨"ItemFacts$Packed", "fill", "(ILItemFacts$Item;)V"⟩, 2), (⟨"ItemFacts$Packed", "addTwo", "(I)V"⟩, 2), (⟨"ItemFacts$Packed", "add", "(I)V"⟩, 2)]
theorem lw_r1 : ∀ q ∈ lw_privs_1, lw_okq q := List.forall_mem_cons.mpr ⟨lw_p0, List.forall_mem_cons.mpr ⟨lw_p1, List.forall_mem_cons.mpr ⟨lw_p2, List.forall_mem_cons.mpr ⟨lw_p3, List.forall_mem_cons.mpr ⟨lw_p4, List.forall_mem_cons.mpr ⟨lw_p5, List.forall_mem_cons.mpr ⟨lw_p6, List.forall_mem_cons.mpr ⟨lw_p7, List.forall_mem_cons.mpr ⟨lw_p8, List.forall_mem_cons.mpr ⟨lw_p9, List.forall_mem_cons.mpr ⟨lw_p10, List.forall_mem_cons.mpr ⟨lw_p11, List.forall_mem_cons.mpr ⟨lw_p12, List.forall_mem_cons.mpr ⟨lw_p13, List.forall_mem_cons.mpr ⟨lw_p14, List.forall_mem_cons.mpr ⟨lw_p15, fun _ h => absurd h List.not_mem_nil⟩⟩⟩⟩⟩⟩⟩⟩⟩⟩⟩⟩⟩⟩⟩⟩
theorem lw_p16 : lw_okq (⟨"ItemFacts$Packed", "addEntry", "(I)V"⟩, 2) := ⟨⟨by decide +kernel, by decide +kernel⟩, List.mem_of_getElem? (i := 20) (by decide +kernel), List.mem_of_getElem? (i := 306) (by decide +kernel), List.mem_of_getElem? (i := 307) (by decide +kernel)⟩
theorem lw_p17 : lw_okq (⟨"ItemFacts$Packed", "xorOfAll", "()I"⟩, 2) := ⟨⟨by decide +kernel, by decide +kernel⟩, List.mem_of_getElem? (i := 20) (by decide +kernel), List.mem_of_getElem? (i := 311) (by decide +kernel), List.mem_of_getElem? (i := 312) (by decide +kernel)⟩
theorem lw_p18 : lw_okq (⟨"ItemFacts$Packed", "at", "(I)I"⟩, 2) := ⟨⟨by decide +kernel, by decide +kernel⟩, List.mem_of_getElem? (i := 20) (by decide +kernel), List.mem_of_getElem? (i := 319) (by decide +kernel), List.mem_of_getElem? (i := 320) (by decide +kernel)⟩
theorem lw_p19 : lw_okq (⟨"ItemFacts$Item", "isSetAside", "()Z"⟩, 17) := ⟨⟨by decide +kernel, by decide +kernel⟩, List.mem_of_getElem? (i := 72) (by decide +kernel), List.mem_of_getElem? (i := 328) (by decide +kernel), List.mem_of_getElem? (i := 329) (by decide +kernel)⟩
theorem lw_p20 : lw_okq (⟨"ItemFactsModel", "isItem", "(I)Z"⟩, 23) := ⟨⟨by decide +kernel, by decide +kernel⟩, List.mem_of_getElem? (i := 332) (by decide +kernel), List.mem_of_getElem? (i := 429) (by decide +kernel), List.mem_of_getElem? (i := 430) (by decide +kernel)⟩
theorem lw_p21 : lw_okq (⟨"ItemFactsModel", "has", "(II)Z"⟩, 23) := ⟨⟨by decide +kernel, by decide +kernel⟩, List.mem_of_getElem? (i := 332) (by decide +kernel), List.mem_of_getElem? (i := 433) (by decide +kernel), List.mem_of_getElem? (i := 434) (by decide +kernel)⟩
theorem lw_p22 : lw_okq (⟨"ItemFactsModel", "isOver", "(I)Z"⟩, 23) := ⟨⟨by decide +kernel, by decide +kernel⟩, List.mem_of_getElem? (i := 332) (by decide +kernel), List.mem_of_getElem? (i := 437) (by decide +kernel), List.mem_of_getElem? (i := 438) (by decide +kernel)⟩
theorem lw_p23 : lw_okq (⟨"ItemFactsModel", "mustWait", "(I)Z"⟩, 23) := ⟨⟨by decide +kernel, by decide +kernel⟩, List.mem_of_getElem? (i := 332) (by decide +kernel), List.mem_of_getElem? (i := 451) (by decide +kernel), List.mem_of_getElem? (i := 452) (by decide +kernel)⟩
theorem lw_p24 : lw_okq (⟨"ItemFactsModel", "belonging", "([II)I"⟩, 23) := ⟨⟨by decide +kernel, by decide +kernel⟩, List.mem_of_getElem? (i := 332) (by decide +kernel), List.mem_of_getElem? (i := 471) (by decide +kernel), List.mem_of_getElem? (i := 472) (by decide +kernel)⟩
theorem lw_p25 : lw_okq (⟨"ItemFactsModel", "factOf", "(II)I"⟩, 23) := ⟨⟨by decide +kernel, by decide +kernel⟩, List.mem_of_getElem? (i := 332) (by decide +kernel), List.mem_of_getElem? (i := 487) (by decide +kernel), List.mem_of_getElem? (i := 488) (by decide +kernel)⟩
theorem lw_p26 : lw_okq (⟨"ItemFactsModel", "put", "(II)V"⟩, 23) := ⟨⟨by decide +kernel, by decide +kernel⟩, List.mem_of_getElem? (i := 332) (by decide +kernel), List.mem_of_getElem? (i := 503) (by decide +kernel), List.mem_of_getElem? (i := 504) (by decide +kernel)⟩
def lw_privs_2 : List (MethodName × Nat) := [(⟨"ItemFacts$Packed", "addEntry", "(I)V"⟩, 2), (⟨"ItemFacts$Packed", "xorOfAll", "()I"⟩, 2), (⟨"ItemFacts$Packed", "at", "(I)I"⟩, 2), (⟨"ItemFacts$Item", "isSetAside", "()Z"⟩, 17), (⟨"ItemFactsModel", "isItem", "(I)Z"⟩, 23), (⟨"ItemFactsModel", "has", "(II)Z"⟩, 23), (⟨"ItemFactsModel", "isOver", "(I)Z"⟩, 23), (⟨"ItemFactsModel", "mustWait", "(I)Z"⟩, 23), (⟨"ItemFactsModel", "belonging", "([II)I"⟩, 23), (⟨"ItemFactsModel", "factOf", "(II)I"⟩, 23), (⟨"ItemFactsModel", "put", "(II)V"⟩, 23)]
theorem lw_r2 : ∀ q ∈ lw_privs_2, lw_okq q := List.forall_mem_cons.mpr ⟨lw_p16, List.forall_mem_cons.mpr ⟨lw_p17, List.forall_mem_cons.mpr ⟨lw_p18, List.forall_mem_cons.mpr ⟨lw_p19, List.forall_mem_cons.mpr ⟨lw_p20, List.forall_mem_cons.mpr ⟨lw_p21, List.forall_mem_cons.mpr ⟨lw_p22, List.forall_mem_cons.mpr ⟨lw_p23, List.forall_mem_cons.mpr ⟨lw_p24, List.forall_mem_cons.mpr ⟨lw_p25, List.forall_mem_cons.mpr ⟨lw_p26, fun _ h => absurd h List.not_mem_nil⟩⟩⟩⟩⟩⟩⟩⟩⟩⟩⟩
def lw_privs : List (MethodName × Nat) := lw_privs_1 ++ (lw_privs_2)
def lw_tbl : List Cond := k2_sels lw_privs ++ tables_1
theorem lw_privs_ok : ∀ q ∈ lw_privs, lw_okq q := by
  show ∀ q ∈ lw_privs_1 ++ (lw_privs_2), lw_okq q
  exact List.forall_mem_append.mpr ⟨lw_r1, lw_r2⟩

def wd_tb : List Cond := lw_tbl.filter goodWord
theorem wd_goodAll : ∀ w ∈ wd_tb, (w.onTables && w.keeps) = true ∨ ∃ ty, w = .arrayClass ty := fun w hw => good_of_word (List.mem_filter.mp hw).2
theorem wd_in {w : Cond} (i : Nat) (h : lw_tbl[i]? = some w) (g : goodWord w = true) : w ∈ wd_tb := List.mem_filter.mpr ⟨List.mem_of_getElem? h, g⟩
def R_F : String := "ItemFacts"
def F_F : u_T := fun k => match k with
  | 0 => ("ItemFacts", "items", "[LItemFacts$Item;", true)
  | 1 => ("ItemFacts", "itemCount", "I", false)
  | 2 => ("ItemFacts", "corrections", "[LItemFacts$Correction;", true)
  | 3 => ("ItemFacts", "correctionCount", "I", false)
  | 4 => ("ItemFacts", "joined", "[I", true)
  | 5 => ("ItemFacts", "waiting", "[Z", true)
  | 6 => ("ItemFacts", "bulked", "[I", true)
  | _ => ("ItemFacts", "packed", "LItemFacts$Packed;", true)
def t_F : Nat → FieldType := fun k => match k with
  | 0 => .array (.object "ItemFacts$Item")
  | 1 => .int
  | 2 => .array (.object "ItemFacts$Correction")
  | 3 => .int
  | 4 => .array .int
  | 5 => .array .boolean
  | 6 => .array .int
  | _ => .object "ItemFacts$Packed"
def R_I : String := "ItemFacts$Item"
def F_I : u_T := fun k => match k with
  | 0 => ("ItemFacts$Item", "kind", "I", false)
  | 1 => ("ItemFacts$Item", "weight", "I", false)
  | 2 => ("ItemFacts$Item", "size", "I", false)
  | 3 => ("ItemFacts$Item", "sender", "I", true)
  | 4 => ("ItemFacts$Item", "services", "I", false)
  | 5 => ("ItemFacts$Item", "state", "I", false)
  | 6 => ("ItemFacts$Item", "damaged", "Z", false)
  | 7 => ("ItemFacts$Item", "read", "I", false)
  | 8 => ("ItemFacts$Item", "settled", "I", false)
  | 9 => ("ItemFacts$Item", "land", "I", false)
  | 10 => ("ItemFacts$Item", "consignment", "I", false)
  | 11 => ("ItemFacts$Item", "bulkNumber", "I", false)
  | 12 => ("ItemFacts$Item", "late", "I", false)
  | 13 => ("ItemFacts$Item", "openers", "I", false)
  | 14 => ("ItemFacts$Item", "contentCount", "I", false)
  | 15 => ("ItemFacts$Item", "whats", "[I", true)
  | _ => ("ItemFacts$Item", "cents", "[I", true)
def t_I : Nat → FieldType := fun k => match k with
  | 0 => .int
  | 1 => .int
  | 2 => .int
  | 3 => .int
  | 4 => .int
  | 5 => .int
  | 6 => .boolean
  | 7 => .int
  | 8 => .int
  | 9 => .int
  | 10 => .int
  | 11 => .int
  | 12 => .int
  | 13 => .int
  | 14 => .int
  | 15 => .array .int
  | _ => .array .int
def R_C : String := "ItemFacts$Correction"
def F_C : u_T := fun k => match k with
  | 0 => ("ItemFacts$Correction", "number", "I", true)
  | 1 => ("ItemFacts$Correction", "what", "I", true)
  | 2 => ("ItemFacts$Correction", "was", "I", true)
  | 3 => ("ItemFacts$Correction", "told", "I", true)
  | _ => ("ItemFacts$Correction", "reason", "I", true)
def t_C : Nat → FieldType := fun k => match k with
  | 0 => .int
  | 1 => .int
  | 2 => .int
  | 3 => .int
  | _ => .int
def R_P : String := "ItemFacts$Packed"
def F_P : u_T := fun k => match k with
  | 0 => ("ItemFacts$Packed", "bytes", "[I", true)
  | _ => ("ItemFacts$Packed", "length", "I", false)
def t_P : Nat → FieldType := fun k => match k with
  | 0 => .array .int
  | _ => .int
def R_M : String := "ItemFactsModel"
def F_M : u_T := fun k => match k with
  | 0 => ("ItemFactsModel", "items", "I", false)
  | 1 => ("ItemFactsModel", "kinds", "[I", true)
  | 2 => ("ItemFactsModel", "weights", "[I", true)
  | 3 => ("ItemFactsModel", "sizes", "[I", true)
  | 4 => ("ItemFactsModel", "senders", "[I", true)
  | 5 => ("ItemFactsModel", "services", "[I", true)
  | 6 => ("ItemFactsModel", "states", "[I", true)
  | 7 => ("ItemFactsModel", "damaged", "[Z", true)
  | 8 => ("ItemFactsModel", "late", "[I", true)
  | 9 => ("ItemFactsModel", "asRead", "[I", true)
  | 10 => ("ItemFactsModel", "settled", "[I", true)
  | 11 => ("ItemFactsModel", "lands", "[I", true)
  | 12 => ("ItemFactsModel", "many", "[I", true)
  | 13 => ("ItemFactsModel", "whats", "[I", true)
  | 14 => ("ItemFactsModel", "cents", "[I", true)
  | 15 => ("ItemFactsModel", "consignments", "[I", true)
  | 16 => ("ItemFactsModel", "waiting", "[Z", true)
  | 17 => ("ItemFactsModel", "bulks", "[I", true)
  | 18 => ("ItemFactsModel", "openers", "[I", true)
  | 19 => ("ItemFactsModel", "rows", "I", false)
  | 20 => ("ItemFactsModel", "rowCells", "[I", true)
  | 21 => ("ItemFactsModel", "packed", "I", false)
  | _ => ("ItemFactsModel", "bytes", "[I", true)
def t_M : Nat → FieldType := fun k => match k with
  | 0 => .int
  | 1 => .array .int
  | 2 => .array .int
  | 3 => .array .int
  | 4 => .array .int
  | 5 => .array .int
  | 6 => .array .int
  | 7 => .array .boolean
  | 8 => .array .int
  | 9 => .array .int
  | 10 => .array .int
  | 11 => .array .int
  | 12 => .array .int
  | 13 => .array .int
  | 14 => .array .int
  | 15 => .array .int
  | 16 => .array .boolean
  | 17 => .array .int
  | 18 => .array .int
  | 19 => .int
  | 20 => .array .int
  | 21 => .int
  | _ => .array .int
def R_L : String := "ItemFactsLaw"
def R_J : String := "java/lang/Integer"
abbrev classes : List vw_C := [(R_F, F_F, 8), (R_I, F_I, 17), (R_C, F_C, 5), (R_P, F_P, 2), (R_M, F_M, 23)]
abbrev b_F_init : ByteArray := prog_1_method_1_code
def y_F_init : MethodName := ⟨R_F, "<init>", "()V"⟩
abbrev b_P_init : ByteArray := prog_4_method_1_code
def y_P_init : MethodName := ⟨R_P, "<init>", "()V"⟩
abbrev b_F_item : ByteArray := prog_1_method_2_code
def y_F_item : MethodName := ⟨R_F, "item", "(IIII)I"⟩
abbrev b_F_within : ByteArray := prog_1_method_17_code
def y_F_within : MethodName := ⟨R_F, "within", "(III)Z"⟩
abbrev b_F_turned : ByteArray := prog_1_method_19_code
def y_F_turned : MethodName := ⟨R_F, "turned", "(III)I"⟩
abbrev b_I_init : ByteArray := prog_3_method_1_code
def y_I_init : MethodName := ⟨R_I, "<init>", "(IIII)V"⟩
abbrev b_F_service : ByteArray := prog_1_method_3_code
def y_F_service : MethodName := ⟨R_F, "service", "(II)I"⟩
abbrev b_F_find : ByteArray := prog_1_method_18_code
def y_F_find : MethodName := ⟨R_F, "find", "(I)LItemFacts$Item;"⟩
abbrev b_I_has : ByteArray := prog_3_method_2_code
def y_I_has : MethodName := ⟨R_I, "has", "(I)Z"⟩
abbrev b_I_isAtEnd : ByteArray := prog_3_method_3_code
def y_I_isAtEnd : MethodName := ⟨R_I, "isAtEnd", "()Z"⟩
abbrev b_I_leastExcluding : ByteArray := prog_3_method_5_code
def y_I_leastExcluding : MethodName := ⟨R_I, "leastExcluding", "(I)I"⟩
abbrev b_I_lacksWhatIsWanted : ByteArray := prog_3_method_6_code
def y_I_lacksWhatIsWanted : MethodName := ⟨R_I, "lacksWhatIsWanted", "(I)Z"⟩
abbrev b_J_bitCount : ByteArray := prog_7_method_49_code
def y_J_bitCount : MethodName := ⟨R_J, "bitCount", "(I)I"⟩
abbrev b_F_event : ByteArray := prog_1_method_4_code
def y_F_event : MethodName := ⟨R_F, "event", "(II)I"⟩
abbrev b_I_stateBehind : ByteArray := prog_3_method_7_code
def y_I_stateBehind : MethodName := ⟨R_I, "stateBehind", "(I)I"⟩
abbrev b_F_mustWait : ByteArray := prog_1_method_20_code
def y_F_mustWait : MethodName := ⟨R_F, "mustWait", "(I)Z"⟩
abbrev b_I_undergo : ByteArray := prog_3_method_8_code
def y_I_undergo : MethodName := ⟨R_I, "undergo", "(II)V"⟩
abbrev b_F_address : ByteArray := prog_1_method_5_code
def y_F_address : MethodName := ⟨R_F, "address", "(III)I"⟩
abbrev b_F_abroad : ByteArray := prog_1_method_6_code
def y_F_abroad : MethodName := ⟨R_F, "abroad", "(II)I"⟩
abbrev b_F_contents : ByteArray := prog_1_method_7_code
def y_F_contents : MethodName := ⟨R_F, "contents", "(III)I"⟩
abbrev b_F_join : ByteArray := prog_1_method_8_code
def y_F_join : MethodName := ⟨R_F, "join", "(IIZ)I"⟩
abbrev b_F_bulk : ByteArray := prog_1_method_9_code
def y_F_bulk : MethodName := ⟨R_F, "bulk", "(II)I"⟩
abbrev b_F_open : ByteArray := prog_1_method_10_code
def y_F_open : MethodName := ⟨R_F, "open", "(III)I"⟩
abbrev b_F_correct : ByteArray := prog_1_method_11_code
def y_F_correct : MethodName := ⟨R_F, "correct", "(IIII)I"⟩
abbrev b_F_mayBecome : ByteArray := prog_1_method_21_code
def y_F_mayBecome : MethodName := ⟨R_F, "mayBecome", "(II)Z"⟩
abbrev b_I_wouldStay : ByteArray := prog_3_method_10_code
def y_I_wouldStay : MethodName := ⟨R_I, "wouldStay", "(II)Z"⟩
abbrev b_I_correctable : ByteArray := prog_3_method_9_code
def y_I_correctable : MethodName := ⟨R_I, "correctable", "(I)I"⟩
abbrev b_C_init : ByteArray := prog_2_method_1_code
def y_C_init : MethodName := ⟨R_C, "<init>", "(IIIII)V"⟩
abbrev b_I_become : ByteArray := prog_3_method_11_code
def y_I_become : MethodName := ⟨R_I, "become", "(II)V"⟩
abbrev b_F_row : ByteArray := prog_1_method_12_code
def y_F_row : MethodName := ⟨R_F, "row", "(II)I"⟩
abbrev b_C_part : ByteArray := prog_2_method_2_code
def y_C_part : MethodName := ⟨R_C, "part", "(I)I"⟩
abbrev b_F_about : ByteArray := prog_1_method_13_code
def y_F_about : MethodName := ⟨R_F, "about", "(II)I"⟩
abbrev b_I_fact : ByteArray := prog_3_method_12_code
def y_I_fact : MethodName := ⟨R_I, "fact", "(I)I"⟩
abbrev b_F_pack : ByteArray := prog_1_method_14_code
def y_F_pack : MethodName := ⟨R_F, "pack", "(I)I"⟩
abbrev b_P_fill : ByteArray := prog_4_method_3_code
def y_P_fill : MethodName := ⟨R_P, "fill", "(ILItemFacts$Item;)V"⟩
abbrev b_P_addTwo : ByteArray := prog_4_method_5_code
def y_P_addTwo : MethodName := ⟨R_P, "addTwo", "(I)V"⟩
abbrev b_P_add : ByteArray := prog_4_method_4_code
def y_P_add : MethodName := ⟨R_P, "add", "(I)V"⟩
abbrev b_P_addEntry : ByteArray := prog_4_method_6_code
def y_P_addEntry : MethodName := ⟨R_P, "addEntry", "(I)V"⟩
abbrev b_P_xorOfAll : ByteArray := prog_4_method_7_code
def y_P_xorOfAll : MethodName := ⟨R_P, "xorOfAll", "()I"⟩
abbrev b_F_octet : ByteArray := prog_1_method_15_code
def y_F_octet : MethodName := ⟨R_F, "octet", "(I)I"⟩
abbrev b_P_at : ByteArray := prog_4_method_2_code
def y_P_at : MethodName := ⟨R_P, "at", "(I)I"⟩
abbrev b_F_aside : ByteArray := prog_1_method_16_code
def y_F_aside : MethodName := ⟨R_F, "aside", "(I)I"⟩
abbrev b_I_isSetAside : ByteArray := prog_3_method_4_code
def y_I_isSetAside : MethodName := ⟨R_I, "isSetAside", "()Z"⟩
abbrev b_M_init : ByteArray := prog_6_method_1_code
def y_M_init : MethodName := ⟨R_M, "<init>", "()V"⟩
abbrev b_M_item : ByteArray := prog_6_method_9_code
def y_M_item : MethodName := ⟨R_M, "item", "(IIII)I"⟩
abbrev b_M_within : ByteArray := prog_6_method_3_code
def y_M_within : MethodName := ⟨R_M, "within", "(III)Z"⟩
abbrev b_M_tooMuch : ByteArray := prog_6_method_7_code
def y_M_tooMuch : MethodName := ⟨R_M, "tooMuch", "(II)I"⟩
abbrev b_M_turned : ByteArray := prog_6_method_8_code
def y_M_turned : MethodName := ⟨R_M, "turned", "(III)I"⟩
abbrev b_M_mostOf : ByteArray := prog_6_method_6_code
def y_M_mostOf : MethodName := ⟨R_M, "mostOf", "(I)I"⟩
abbrev b_M_service : ByteArray := prog_6_method_12_code
def y_M_service : MethodName := ⟨R_M, "service", "(II)I"⟩
abbrev b_M_isItem : ByteArray := prog_6_method_4_code
def y_M_isItem : MethodName := ⟨R_M, "isItem", "(I)Z"⟩
abbrev b_M_has : ByteArray := prog_6_method_11_code
def y_M_has : MethodName := ⟨R_M, "has", "(II)Z"⟩
abbrev b_M_isOver : ByteArray := prog_6_method_5_code
def y_M_isOver : MethodName := ⟨R_M, "isOver", "(I)Z"⟩
abbrev b_M_excludes : ByteArray := prog_6_method_10_code
def y_M_excludes : MethodName := ⟨R_M, "excludes", "(II)Z"⟩
abbrev b_M_event : ByteArray := prog_6_method_15_code
def y_M_event : MethodName := ⟨R_M, "event", "(II)I"⟩
abbrev b_M_ledTo : ByteArray := prog_6_method_13_code
def y_M_ledTo : MethodName := ⟨R_M, "ledTo", "(II)I"⟩
abbrev b_M_mustWait : ByteArray := prog_6_method_14_code
def y_M_mustWait : MethodName := ⟨R_M, "mustWait", "(I)Z"⟩
abbrev b_M_address : ByteArray := prog_6_method_16_code
def y_M_address : MethodName := ⟨R_M, "address", "(III)I"⟩
abbrev b_M_abroad : ByteArray := prog_6_method_17_code
def y_M_abroad : MethodName := ⟨R_M, "abroad", "(II)I"⟩
abbrev b_M_contents : ByteArray := prog_6_method_18_code
def y_M_contents : MethodName := ⟨R_M, "contents", "(III)I"⟩
abbrev b_M_join : ByteArray := prog_6_method_20_code
def y_M_join : MethodName := ⟨R_M, "join", "(IIZ)I"⟩
abbrev b_M_belonging : ByteArray := prog_6_method_19_code
def y_M_belonging : MethodName := ⟨R_M, "belonging", "([II)I"⟩
abbrev b_M_bulk : ByteArray := prog_6_method_21_code
def y_M_bulk : MethodName := ⟨R_M, "bulk", "(II)I"⟩
abbrev b_M_open : ByteArray := prog_6_method_22_code
def y_M_open : MethodName := ⟨R_M, "open", "(III)I"⟩
abbrev b_M_correct : ByteArray := prog_6_method_24_code
def y_M_correct : MethodName := ⟨R_M, "correct", "(IIII)I"⟩
abbrev b_M_factOf : ByteArray := prog_6_method_23_code
def y_M_factOf : MethodName := ⟨R_M, "factOf", "(II)I"⟩
abbrev b_M_row : ByteArray := prog_6_method_25_code
def y_M_row : MethodName := ⟨R_M, "row", "(II)I"⟩
abbrev b_M_about : ByteArray := prog_6_method_26_code
def y_M_about : MethodName := ⟨R_M, "about", "(II)I"⟩
abbrev b_M_pack : ByteArray := prog_6_method_28_code
def y_M_pack : MethodName := ⟨R_M, "pack", "(I)I"⟩
abbrev b_M_put : ByteArray := prog_6_method_27_code
def y_M_put : MethodName := ⟨R_M, "put", "(II)V"⟩
abbrev b_M_octet : ByteArray := prog_6_method_29_code
def y_M_octet : MethodName := ⟨R_M, "octet", "(I)I"⟩
abbrev b_M_aside : ByteArray := prog_6_method_30_code
def y_M_aside : MethodName := ⟨R_M, "aside", "(I)I"⟩
set_option maxRecDepth 8000 in
theorem lk_F_1 : Cond.methodLink R_F 1 objectInit ∈ wd_tb := wd_in 39 rfl rfl
set_option maxRecDepth 8000 in
theorem lk_F_9 : Cond.classLink R_F 9 "ItemFacts$Item" ∈ wd_tb := wd_in 42 rfl rfl
set_option maxRecDepth 8000 in
theorem lk_F_11 : Cond.fieldLink R_F 11 "ItemFacts" "items" "[LItemFacts$Item;" ∈ wd_tb := wd_in 62 rfl rfl
set_option maxRecDepth 8000 in
theorem lk_F_15 : Cond.fieldLink R_F 15 "ItemFacts" "itemCount" "I" ∈ wd_tb := wd_in 63 rfl rfl
set_option maxRecDepth 8000 in
theorem lk_F_19 : Cond.classLink R_F 19 "ItemFacts$Correction" ∈ wd_tb := wd_in 44 rfl rfl
set_option maxRecDepth 8000 in
theorem lk_F_21 : Cond.fieldLink R_F 21 "ItemFacts" "corrections" "[LItemFacts$Correction;" ∈ wd_tb := wd_in 64 rfl rfl
set_option maxRecDepth 8000 in
theorem lk_F_25 : Cond.fieldLink R_F 25 "ItemFacts" "correctionCount" "I" ∈ wd_tb := wd_in 65 rfl rfl
set_option maxRecDepth 8000 in
theorem lk_F_28 : Cond.fieldLink R_F 28 "ItemFacts" "joined" "[I" ∈ wd_tb := wd_in 66 rfl rfl
set_option maxRecDepth 8000 in
theorem lk_F_32 : Cond.fieldLink R_F 32 "ItemFacts" "waiting" "[Z" ∈ wd_tb := wd_in 67 rfl rfl
set_option maxRecDepth 8000 in
theorem lk_F_36 : Cond.fieldLink R_F 36 "ItemFacts" "bulked" "[I" ∈ wd_tb := wd_in 68 rfl rfl
set_option maxRecDepth 8000 in
theorem lk_F_39 : Cond.classLink R_F 39 "ItemFacts$Packed" ∈ wd_tb := wd_in 46 rfl rfl
set_option maxRecDepth 8000 in
theorem lk_F_41 : Cond.methodLinkNest R_F 41 y_P_init "ItemFacts" ∈ lw_tbl := List.mem_of_getElem? (i := 48) rfl
set_option maxRecDepth 8000 in
theorem lk_F_42 : Cond.fieldLink R_F 42 "ItemFacts" "packed" "LItemFacts$Packed;" ∈ wd_tb := wd_in 69 rfl rfl
set_option maxRecDepth 8000 in
theorem lk_F_46 : Cond.methodLink R_F 46 y_F_within ∈ wd_tb := wd_in 91 rfl rfl
set_option maxRecDepth 8000 in
theorem lk_F_50 : Cond.constant R_F 50 (100000 : Int32) ∈ wd_tb := wd_in 94 rfl rfl
set_option maxRecDepth 8000 in
theorem lk_F_51 : Cond.fieldLink R_F 51 "ItemFacts" "BEARS_WEIGHT" "[I" ∈ wd_tb := wd_in 95 rfl rfl
set_option maxRecDepth 8000 in
theorem lk_F_54 : Cond.fieldLink R_F 54 "ItemFacts" "BEARS_SIZE" "[I" ∈ wd_tb := wd_in 97 rfl rfl
set_option maxRecDepth 8000 in
theorem lk_F_57 : Cond.methodLink R_F 57 y_F_turned ∈ wd_tb := wd_in 100 rfl rfl
set_option maxRecDepth 8000 in
theorem lk_F_61 : Cond.methodLinkNest R_F 61 y_I_init "ItemFacts" ∈ lw_tbl := List.mem_of_getElem? (i := 103) rfl
set_option maxRecDepth 8000 in
theorem lk_F_64 : Cond.methodLink R_F 64 y_F_find ∈ wd_tb := wd_in 188 rfl rfl
set_option maxRecDepth 8000 in
theorem lk_F_68 : Cond.methodLinkNest R_F 68 y_I_has "ItemFacts" ∈ lw_tbl := List.mem_of_getElem? (i := 192) rfl
set_option maxRecDepth 8000 in
theorem lk_F_72 : Cond.methodLinkNest R_F 72 y_I_isAtEnd "ItemFacts" ∈ lw_tbl := List.mem_of_getElem? (i := 196) rfl
set_option maxRecDepth 8000 in
theorem lk_F_76 : Cond.methodLinkNest R_F 76 y_I_leastExcluding "ItemFacts" ∈ lw_tbl := List.mem_of_getElem? (i := 200) rfl
set_option maxRecDepth 8000 in
theorem lk_F_80 : Cond.methodLinkNest R_F 80 y_I_lacksWhatIsWanted "ItemFacts" ∈ lw_tbl := List.mem_of_getElem? (i := 207) rfl
set_option maxRecDepth 8000 in
theorem lk_F_83 : Cond.fieldLinkNest R_F 83 "ItemFacts$Item" "services" "I" "ItemFacts" ∈ lw_tbl := List.mem_of_getElem? (i := 116) rfl
set_option maxRecDepth 8000 in
theorem lk_F_86 : Cond.methodLink R_F 86 y_J_bitCount ∈ wd_tb := wd_in 212 rfl rfl
set_option maxRecDepth 8000 in
theorem lk_F_91 : Cond.fieldLinkNest R_F 91 "ItemFacts$Item" "late" "I" "ItemFacts" ∈ lw_tbl := List.mem_of_getElem? (i := 137) rfl
set_option maxRecDepth 8000 in
theorem lk_F_94 : Cond.methodLinkNest R_F 94 y_I_stateBehind "ItemFacts" ∈ lw_tbl := List.mem_of_getElem? (i := 222) rfl
set_option maxRecDepth 8000 in
theorem lk_F_97 : Cond.fieldLinkNest R_F 97 "ItemFacts$Item" "land" "I" "ItemFacts" ∈ lw_tbl := List.mem_of_getElem? (i := 131) rfl
set_option maxRecDepth 8000 in
theorem lk_F_100 : Cond.fieldLinkNest R_F 100 "ItemFacts$Item" "contentCount" "I" "ItemFacts" ∈ lw_tbl := List.mem_of_getElem? (i := 142) rfl
set_option maxRecDepth 8000 in
theorem lk_F_103 : Cond.fieldLinkNest R_F 103 "ItemFacts$Item" "state" "I" "ItemFacts" ∈ lw_tbl := List.mem_of_getElem? (i := 119) rfl
set_option maxRecDepth 8000 in
theorem lk_F_106 : Cond.fieldLinkNest R_F 106 "ItemFacts$Item" "consignment" "I" "ItemFacts" ∈ lw_tbl := List.mem_of_getElem? (i := 133) rfl
set_option maxRecDepth 8000 in
theorem lk_F_109 : Cond.methodLink R_F 109 y_F_mustWait ∈ wd_tb := wd_in 226 rfl rfl
set_option maxRecDepth 8000 in
theorem lk_F_112 : Cond.methodLinkNest R_F 112 y_I_undergo "ItemFacts" ∈ lw_tbl := List.mem_of_getElem? (i := 230) rfl
set_option maxRecDepth 8000 in
theorem lk_F_116 : Cond.fieldLinkNest R_F 116 "ItemFacts$Item" "settled" "I" "ItemFacts" ∈ lw_tbl := List.mem_of_getElem? (i := 128) rfl
set_option maxRecDepth 8000 in
theorem lk_F_119 : Cond.fieldLinkNest R_F 119 "ItemFacts$Item" "read" "I" "ItemFacts" ∈ lw_tbl := List.mem_of_getElem? (i := 125) rfl
set_option maxRecDepth 8000 in
theorem lk_F_122 : Cond.fieldLinkNest R_F 122 "ItemFacts$Item" "whats" "[I" "ItemFacts" ∈ lw_tbl := List.mem_of_getElem? (i := 145) rfl
set_option maxRecDepth 8000 in
theorem lk_F_125 : Cond.fieldLinkNest R_F 125 "ItemFacts$Item" "cents" "[I" "ItemFacts" ∈ lw_tbl := List.mem_of_getElem? (i := 148) rfl
set_option maxRecDepth 8000 in
theorem lk_F_128 : Cond.fieldLinkNest R_F 128 "ItemFacts$Item" "bulkNumber" "I" "ItemFacts" ∈ lw_tbl := List.mem_of_getElem? (i := 135) rfl
set_option maxRecDepth 8000 in
theorem lk_F_131 : Cond.fieldLinkNest R_F 131 "ItemFacts$Item" "damaged" "Z" "ItemFacts" ∈ lw_tbl := List.mem_of_getElem? (i := 122) rfl
set_option maxRecDepth 8000 in
theorem lk_F_135 : Cond.fieldLinkNest R_F 135 "ItemFacts$Item" "openers" "I" "ItemFacts" ∈ lw_tbl := List.mem_of_getElem? (i := 139) rfl
set_option maxRecDepth 8000 in
theorem lk_F_138 : Cond.methodLink R_F 138 y_F_mayBecome ∈ wd_tb := wd_in 262 rfl rfl
set_option maxRecDepth 8000 in
theorem lk_F_142 : Cond.methodLinkNest R_F 142 y_I_wouldStay "ItemFacts" ∈ lw_tbl := List.mem_of_getElem? (i := 265) rfl
set_option maxRecDepth 8000 in
theorem lk_F_145 : Cond.methodLinkNest R_F 145 y_I_correctable "ItemFacts" ∈ lw_tbl := List.mem_of_getElem? (i := 275) rfl
set_option maxRecDepth 8000 in
theorem lk_F_148 : Cond.methodLinkNest R_F 148 y_C_init "ItemFacts" ∈ lw_tbl := List.mem_of_getElem? (i := 276) rfl
set_option maxRecDepth 8000 in
theorem lk_F_151 : Cond.methodLinkNest R_F 151 y_I_become "ItemFacts" ∈ lw_tbl := List.mem_of_getElem? (i := 296) rfl
set_option maxRecDepth 8000 in
theorem lk_F_154 : Cond.methodLinkNest R_F 154 y_C_part "ItemFacts" ∈ lw_tbl := List.mem_of_getElem? (i := 304) rfl
set_option maxRecDepth 8000 in
theorem lk_F_157 : Cond.methodLinkNest R_F 157 y_I_fact "ItemFacts" ∈ lw_tbl := List.mem_of_getElem? (i := 312) rfl
set_option maxRecDepth 8000 in
theorem lk_F_160 : Cond.methodLinkNest R_F 160 y_P_fill "ItemFacts" ∈ lw_tbl := List.mem_of_getElem? (i := 320) rfl
set_option maxRecDepth 8000 in
theorem lk_F_164 : Cond.fieldLinkNest R_F 164 "ItemFacts$Packed" "length" "I" "ItemFacts" ∈ lw_tbl := List.mem_of_getElem? (i := 54) rfl
set_option maxRecDepth 8000 in
theorem lk_F_167 : Cond.methodLinkNest R_F 167 y_P_at "ItemFacts" ∈ lw_tbl := List.mem_of_getElem? (i := 345) rfl
set_option maxRecDepth 8000 in
theorem lk_F_170 : Cond.methodLinkNest R_F 170 y_I_isSetAside "ItemFacts" ∈ lw_tbl := List.mem_of_getElem? (i := 354) rfl
set_option maxRecDepth 8000 in
theorem lk_C_3 : Cond.methodLink R_C 3 objectInit ∈ wd_tb := wd_in 279 rfl rfl
set_option maxRecDepth 8000 in
theorem lk_C_9 : Cond.fieldLink R_C 9 "ItemFacts$Correction" "number" "I" ∈ wd_tb := wd_in 280 rfl rfl
set_option maxRecDepth 8000 in
theorem lk_C_15 : Cond.fieldLink R_C 15 "ItemFacts$Correction" "what" "I" ∈ wd_tb := wd_in 281 rfl rfl
set_option maxRecDepth 8000 in
theorem lk_C_18 : Cond.fieldLink R_C 18 "ItemFacts$Correction" "was" "I" ∈ wd_tb := wd_in 282 rfl rfl
set_option maxRecDepth 8000 in
theorem lk_C_21 : Cond.fieldLink R_C 21 "ItemFacts$Correction" "told" "I" ∈ wd_tb := wd_in 283 rfl rfl
set_option maxRecDepth 8000 in
theorem lk_C_24 : Cond.fieldLink R_C 24 "ItemFacts$Correction" "reason" "I" ∈ wd_tb := wd_in 284 rfl rfl
set_option maxRecDepth 8000 in
theorem lk_I_3 : Cond.methodLink R_I 3 objectInit ∈ wd_tb := wd_in 106 rfl rfl
set_option maxRecDepth 8000 in
theorem lk_I_9 : Cond.fieldLink R_I 9 "ItemFacts$Item" "kind" "I" ∈ wd_tb := wd_in 107 rfl rfl
set_option maxRecDepth 8000 in
theorem lk_I_15 : Cond.fieldLink R_I 15 "ItemFacts$Item" "weight" "I" ∈ wd_tb := wd_in 109 rfl rfl
set_option maxRecDepth 8000 in
theorem lk_I_18 : Cond.fieldLink R_I 18 "ItemFacts$Item" "size" "I" ∈ wd_tb := wd_in 111 rfl rfl
set_option maxRecDepth 8000 in
theorem lk_I_21 : Cond.fieldLink R_I 21 "ItemFacts$Item" "sender" "I" ∈ wd_tb := wd_in 113 rfl rfl
set_option maxRecDepth 8000 in
theorem lk_I_24 : Cond.fieldLink R_I 24 "ItemFacts$Item" "services" "I" ∈ wd_tb := wd_in 114 rfl rfl
set_option maxRecDepth 8000 in
theorem lk_I_27 : Cond.fieldLink R_I 27 "ItemFacts$Item" "state" "I" ∈ wd_tb := wd_in 117 rfl rfl
set_option maxRecDepth 8000 in
theorem lk_I_30 : Cond.fieldLink R_I 30 "ItemFacts$Item" "damaged" "Z" ∈ wd_tb := wd_in 120 rfl rfl
set_option maxRecDepth 8000 in
theorem lk_I_34 : Cond.fieldLink R_I 34 "ItemFacts$Item" "read" "I" ∈ wd_tb := wd_in 123 rfl rfl
set_option maxRecDepth 8000 in
theorem lk_I_37 : Cond.fieldLink R_I 37 "ItemFacts$Item" "settled" "I" ∈ wd_tb := wd_in 126 rfl rfl
set_option maxRecDepth 8000 in
theorem lk_I_40 : Cond.fieldLink R_I 40 "ItemFacts$Item" "land" "I" ∈ wd_tb := wd_in 129 rfl rfl
set_option maxRecDepth 8000 in
theorem lk_I_43 : Cond.fieldLink R_I 43 "ItemFacts$Item" "consignment" "I" ∈ wd_tb := wd_in 132 rfl rfl
set_option maxRecDepth 8000 in
theorem lk_I_46 : Cond.fieldLink R_I 46 "ItemFacts$Item" "bulkNumber" "I" ∈ wd_tb := wd_in 134 rfl rfl
set_option maxRecDepth 8000 in
theorem lk_I_49 : Cond.fieldLink R_I 49 "ItemFacts$Item" "late" "I" ∈ wd_tb := wd_in 136 rfl rfl
set_option maxRecDepth 8000 in
theorem lk_I_52 : Cond.fieldLink R_I 52 "ItemFacts$Item" "openers" "I" ∈ wd_tb := wd_in 138 rfl rfl
set_option maxRecDepth 8000 in
theorem lk_I_55 : Cond.fieldLink R_I 55 "ItemFacts$Item" "contentCount" "I" ∈ wd_tb := wd_in 140 rfl rfl
set_option maxRecDepth 8000 in
theorem lk_I_58 : Cond.fieldLink R_I 58 "ItemFacts$Item" "whats" "[I" ∈ wd_tb := wd_in 143 rfl rfl
set_option maxRecDepth 8000 in
theorem lk_I_62 : Cond.fieldLink R_I 62 "ItemFacts$Item" "cents" "[I" ∈ wd_tb := wd_in 146 rfl rfl
set_option maxRecDepth 8000 in
theorem lk_I_65 : Cond.methodLinkNest R_I 65 y_F_within "ItemFacts" ∈ lw_tbl := List.mem_of_getElem? (i := 204) rfl
set_option maxRecDepth 8000 in
theorem lk_I_69 : Cond.fieldLinkNest R_I 69 "ItemFacts" "EXCLUDES" "[I" "ItemFacts" ∈ lw_tbl := List.mem_of_getElem? (i := 205) rfl
set_option maxRecDepth 8000 in
theorem lk_I_72 : Cond.methodLink R_I 72 y_I_has ∈ wd_tb := wd_in 211 rfl rfl
set_option maxRecDepth 8000 in
theorem lk_I_76 : Cond.methodLinkNest R_I 76 y_F_turned "ItemFacts" ∈ lw_tbl := List.mem_of_getElem? (i := 269) rfl
set_option maxRecDepth 8000 in
theorem lk_I_80 : Cond.methodLink R_I 80 y_I_correctable ∈ wd_tb := wd_in 270 rfl rfl
set_option maxRecDepth 8000 in
theorem lk_P_3 : Cond.methodLink R_P 3 objectInit ∈ wd_tb := wd_in 51 rfl rfl
set_option maxRecDepth 8000 in
theorem lk_P_11 : Cond.fieldLink R_P 11 "ItemFacts$Packed" "bytes" "[I" ∈ wd_tb := wd_in 52 rfl rfl
set_option maxRecDepth 8000 in
theorem lk_P_15 : Cond.fieldLink R_P 15 "ItemFacts$Packed" "length" "I" ∈ wd_tb := wd_in 53 rfl rfl
set_option maxRecDepth 8000 in
theorem lk_P_19 : Cond.methodLinkNest R_P 19 y_F_within "ItemFacts" ∈ lw_tbl := List.mem_of_getElem? (i := 349) rfl
set_option maxRecDepth 8000 in
theorem lk_P_23 : Cond.methodLink R_P 23 y_P_addTwo ∈ wd_tb := wd_in 324 rfl rfl
set_option maxRecDepth 8000 in
theorem lk_P_27 : Cond.fieldLinkNest R_P 27 "ItemFacts$Item" "kind" "I" "ItemFacts" ∈ lw_tbl := List.mem_of_getElem? (i := 108) rfl
set_option maxRecDepth 8000 in
theorem lk_P_32 : Cond.fieldLinkNest R_P 32 "ItemFacts$Item" "size" "I" "ItemFacts" ∈ lw_tbl := List.mem_of_getElem? (i := 112) rfl
set_option maxRecDepth 8000 in
theorem lk_P_35 : Cond.methodLink R_P 35 y_P_add ∈ wd_tb := wd_in 328 rfl rfl
set_option maxRecDepth 8000 in
theorem lk_P_38 : Cond.fieldLinkNest R_P 38 "ItemFacts$Item" "weight" "I" "ItemFacts" ∈ lw_tbl := List.mem_of_getElem? (i := 110) rfl
set_option maxRecDepth 8000 in
theorem lk_P_41 : Cond.fieldLinkNest R_P 41 "ItemFacts$Item" "services" "I" "ItemFacts" ∈ lw_tbl := List.mem_of_getElem? (i := 115) rfl
set_option maxRecDepth 8000 in
theorem lk_P_44 : Cond.fieldLinkNest R_P 44 "ItemFacts$Item" "damaged" "Z" "ItemFacts" ∈ lw_tbl := List.mem_of_getElem? (i := 121) rfl
set_option maxRecDepth 8000 in
theorem lk_P_48 : Cond.fieldLinkNest R_P 48 "ItemFacts$Item" "state" "I" "ItemFacts" ∈ lw_tbl := List.mem_of_getElem? (i := 118) rfl
set_option maxRecDepth 8000 in
theorem lk_P_51 : Cond.fieldLinkNest R_P 51 "ItemFacts$Item" "read" "I" "ItemFacts" ∈ lw_tbl := List.mem_of_getElem? (i := 124) rfl
set_option maxRecDepth 8000 in
theorem lk_P_54 : Cond.methodLink R_P 54 y_P_addEntry ∈ wd_tb := wd_in 332 rfl rfl
set_option maxRecDepth 8000 in
theorem lk_P_57 : Cond.fieldLinkNest R_P 57 "ItemFacts$Item" "settled" "I" "ItemFacts" ∈ lw_tbl := List.mem_of_getElem? (i := 127) rfl
set_option maxRecDepth 8000 in
theorem lk_P_60 : Cond.fieldLinkNest R_P 60 "ItemFacts$Item" "land" "I" "ItemFacts" ∈ lw_tbl := List.mem_of_getElem? (i := 130) rfl
set_option maxRecDepth 8000 in
theorem lk_P_63 : Cond.fieldLinkNest R_P 63 "ItemFacts$Item" "contentCount" "I" "ItemFacts" ∈ lw_tbl := List.mem_of_getElem? (i := 141) rfl
set_option maxRecDepth 8000 in
theorem lk_P_66 : Cond.fieldLinkNest R_P 66 "ItemFacts$Item" "whats" "[I" "ItemFacts" ∈ lw_tbl := List.mem_of_getElem? (i := 144) rfl
set_option maxRecDepth 8000 in
theorem lk_P_69 : Cond.fieldLinkNest R_P 69 "ItemFacts$Item" "cents" "[I" "ItemFacts" ∈ lw_tbl := List.mem_of_getElem? (i := 147) rfl
set_option maxRecDepth 8000 in
theorem lk_P_72 : Cond.methodLink R_P 72 y_P_xorOfAll ∈ wd_tb := wd_in 337 rfl rfl
set_option maxRecDepth 8000 in
theorem lk_P_76 : Cond.constant R_P 76 (65535 : Int32) ∈ wd_tb := wd_in 336 rfl rfl
set_option maxRecDepth 8000 in
theorem lk_L_7 : Cond.classLink R_L 7 "ItemFacts" ∈ wd_tb := wd_in 34 rfl rfl
set_option maxRecDepth 8000 in
theorem lk_L_9 : Cond.methodLink R_L 9 y_F_init ∈ wd_tb := wd_in 36 rfl rfl
set_option maxRecDepth 8000 in
theorem lk_L_10 : Cond.classLink R_L 10 "ItemFactsModel" ∈ wd_tb := wd_in 358 rfl rfl
set_option maxRecDepth 8000 in
theorem lk_L_12 : Cond.methodLink R_L 12 y_M_init ∈ wd_tb := wd_in 360 rfl rfl
set_option maxRecDepth 8000 in
theorem lk_L_13 : Cond.methodLink R_L 13 y_F_item ∈ wd_tb := wd_in 87 rfl rfl
set_option maxRecDepth 8000 in
theorem lk_L_17 : Cond.methodLink R_L 17 y_M_item ∈ wd_tb := wd_in 434 rfl rfl
set_option maxRecDepth 8000 in
theorem lk_L_18 : Cond.methodLink R_L 18 y_F_service ∈ wd_tb := wd_in 184 rfl rfl
set_option maxRecDepth 8000 in
theorem lk_L_22 : Cond.methodLink R_L 22 y_M_service ∈ wd_tb := wd_in 451 rfl rfl
set_option maxRecDepth 8000 in
theorem lk_L_23 : Cond.methodLink R_L 23 y_F_event ∈ wd_tb := wd_in 218 rfl rfl
set_option maxRecDepth 8000 in
theorem lk_L_26 : Cond.methodLink R_L 26 y_M_event ∈ wd_tb := wd_in 470 rfl rfl
set_option maxRecDepth 8000 in
theorem lk_L_27 : Cond.methodLink R_L 27 y_F_address ∈ wd_tb := wd_in 234 rfl rfl
set_option maxRecDepth 8000 in
theorem lk_L_31 : Cond.methodLink R_L 31 y_M_address ∈ wd_tb := wd_in 481 rfl rfl
set_option maxRecDepth 8000 in
theorem lk_L_32 : Cond.methodLink R_L 32 y_F_abroad ∈ wd_tb := wd_in 238 rfl rfl
set_option maxRecDepth 8000 in
theorem lk_L_35 : Cond.methodLink R_L 35 y_M_abroad ∈ wd_tb := wd_in 485 rfl rfl
set_option maxRecDepth 8000 in
theorem lk_L_36 : Cond.methodLink R_L 36 y_F_contents ∈ wd_tb := wd_in 242 rfl rfl
set_option maxRecDepth 8000 in
theorem lk_L_39 : Cond.methodLink R_L 39 y_M_contents ∈ wd_tb := wd_in 489 rfl rfl
set_option maxRecDepth 8000 in
theorem lk_L_40 : Cond.methodLink R_L 40 y_F_join ∈ wd_tb := wd_in 246 rfl rfl
set_option maxRecDepth 8000 in
theorem lk_L_44 : Cond.methodLink R_L 44 y_M_join ∈ wd_tb := wd_in 493 rfl rfl
set_option maxRecDepth 8000 in
theorem lk_L_45 : Cond.methodLink R_L 45 y_F_bulk ∈ wd_tb := wd_in 250 rfl rfl
set_option maxRecDepth 8000 in
theorem lk_L_48 : Cond.methodLink R_L 48 y_M_bulk ∈ wd_tb := wd_in 501 rfl rfl
set_option maxRecDepth 8000 in
theorem lk_L_49 : Cond.methodLink R_L 49 y_F_open ∈ wd_tb := wd_in 254 rfl rfl
set_option maxRecDepth 8000 in
theorem lk_L_52 : Cond.methodLink R_L 52 y_M_open ∈ wd_tb := wd_in 505 rfl rfl
set_option maxRecDepth 8000 in
theorem lk_L_53 : Cond.methodLink R_L 53 y_F_correct ∈ wd_tb := wd_in 258 rfl rfl
set_option maxRecDepth 8000 in
theorem lk_L_56 : Cond.methodLink R_L 56 y_M_correct ∈ wd_tb := wd_in 509 rfl rfl
set_option maxRecDepth 8000 in
theorem lk_L_57 : Cond.methodLink R_L 57 y_F_row ∈ wd_tb := wd_in 300 rfl rfl
set_option maxRecDepth 8000 in
theorem lk_L_60 : Cond.methodLink R_L 60 y_M_row ∈ wd_tb := wd_in 517 rfl rfl
set_option maxRecDepth 8000 in
theorem lk_L_61 : Cond.methodLink R_L 61 y_F_about ∈ wd_tb := wd_in 308 rfl rfl
set_option maxRecDepth 8000 in
theorem lk_L_64 : Cond.methodLink R_L 64 y_M_about ∈ wd_tb := wd_in 521 rfl rfl
set_option maxRecDepth 8000 in
theorem lk_L_65 : Cond.methodLink R_L 65 y_F_pack ∈ wd_tb := wd_in 316 rfl rfl
set_option maxRecDepth 8000 in
theorem lk_L_69 : Cond.methodLink R_L 69 y_M_pack ∈ wd_tb := wd_in 525 rfl rfl
set_option maxRecDepth 8000 in
theorem lk_L_70 : Cond.methodLink R_L 70 y_F_octet ∈ wd_tb := wd_in 341 rfl rfl
set_option maxRecDepth 8000 in
theorem lk_L_73 : Cond.methodLink R_L 73 y_M_octet ∈ wd_tb := wd_in 533 rfl rfl
set_option maxRecDepth 8000 in
theorem lk_L_74 : Cond.methodLink R_L 74 y_F_aside ∈ wd_tb := wd_in 350 rfl rfl
set_option maxRecDepth 8000 in
theorem lk_L_77 : Cond.methodLink R_L 77 y_M_aside ∈ wd_tb := wd_in 537 rfl rfl
set_option maxRecDepth 8000 in
theorem lk_M_1 : Cond.methodLink R_M 1 objectInit ∈ wd_tb := wd_in 363 rfl rfl
set_option maxRecDepth 8000 in
theorem lk_M_7 : Cond.fieldLink R_M 7 "ItemFactsModel" "kinds" "[I" ∈ wd_tb := wd_in 365 rfl rfl
set_option maxRecDepth 8000 in
theorem lk_M_13 : Cond.fieldLink R_M 13 "ItemFactsModel" "weights" "[I" ∈ wd_tb := wd_in 366 rfl rfl
set_option maxRecDepth 8000 in
theorem lk_M_16 : Cond.fieldLink R_M 16 "ItemFactsModel" "sizes" "[I" ∈ wd_tb := wd_in 367 rfl rfl
set_option maxRecDepth 8000 in
theorem lk_M_19 : Cond.fieldLink R_M 19 "ItemFactsModel" "senders" "[I" ∈ wd_tb := wd_in 368 rfl rfl
set_option maxRecDepth 8000 in
theorem lk_M_22 : Cond.fieldLink R_M 22 "ItemFactsModel" "services" "[I" ∈ wd_tb := wd_in 369 rfl rfl
set_option maxRecDepth 8000 in
theorem lk_M_25 : Cond.fieldLink R_M 25 "ItemFactsModel" "states" "[I" ∈ wd_tb := wd_in 370 rfl rfl
set_option maxRecDepth 8000 in
theorem lk_M_28 : Cond.fieldLink R_M 28 "ItemFactsModel" "damaged" "[Z" ∈ wd_tb := wd_in 371 rfl rfl
set_option maxRecDepth 8000 in
theorem lk_M_32 : Cond.fieldLink R_M 32 "ItemFactsModel" "late" "[I" ∈ wd_tb := wd_in 372 rfl rfl
set_option maxRecDepth 8000 in
theorem lk_M_35 : Cond.fieldLink R_M 35 "ItemFactsModel" "asRead" "[I" ∈ wd_tb := wd_in 373 rfl rfl
set_option maxRecDepth 8000 in
theorem lk_M_38 : Cond.fieldLink R_M 38 "ItemFactsModel" "settled" "[I" ∈ wd_tb := wd_in 374 rfl rfl
set_option maxRecDepth 8000 in
theorem lk_M_41 : Cond.fieldLink R_M 41 "ItemFactsModel" "lands" "[I" ∈ wd_tb := wd_in 375 rfl rfl
set_option maxRecDepth 8000 in
theorem lk_M_44 : Cond.fieldLink R_M 44 "ItemFactsModel" "many" "[I" ∈ wd_tb := wd_in 376 rfl rfl
set_option maxRecDepth 8000 in
theorem lk_M_47 : Cond.fieldLink R_M 47 "ItemFactsModel" "whats" "[I" ∈ wd_tb := wd_in 377 rfl rfl
set_option maxRecDepth 8000 in
theorem lk_M_50 : Cond.fieldLink R_M 50 "ItemFactsModel" "cents" "[I" ∈ wd_tb := wd_in 378 rfl rfl
set_option maxRecDepth 8000 in
theorem lk_M_53 : Cond.fieldLink R_M 53 "ItemFactsModel" "consignments" "[I" ∈ wd_tb := wd_in 379 rfl rfl
set_option maxRecDepth 8000 in
theorem lk_M_56 : Cond.fieldLink R_M 56 "ItemFactsModel" "waiting" "[Z" ∈ wd_tb := wd_in 380 rfl rfl
set_option maxRecDepth 8000 in
theorem lk_M_59 : Cond.fieldLink R_M 59 "ItemFactsModel" "bulks" "[I" ∈ wd_tb := wd_in 381 rfl rfl
set_option maxRecDepth 8000 in
theorem lk_M_62 : Cond.fieldLink R_M 62 "ItemFactsModel" "openers" "[I" ∈ wd_tb := wd_in 382 rfl rfl
set_option maxRecDepth 8000 in
theorem lk_M_65 : Cond.fieldLink R_M 65 "ItemFactsModel" "rowCells" "[I" ∈ wd_tb := wd_in 384 rfl rfl
set_option maxRecDepth 8000 in
theorem lk_M_68 : Cond.fieldLink R_M 68 "ItemFactsModel" "bytes" "[I" ∈ wd_tb := wd_in 386 rfl rfl
set_option maxRecDepth 8000 in
theorem lk_M_71 : Cond.fieldLink R_M 71 "ItemFactsModel" "items" "I" ∈ wd_tb := wd_in 364 rfl rfl
set_option maxRecDepth 8000 in
theorem lk_M_75 : Cond.methodLink R_M 75 y_M_within ∈ wd_tb := wd_in 438 rfl rfl
set_option maxRecDepth 8000 in
theorem lk_M_79 : Cond.methodLink R_M 79 y_M_mostOf ∈ wd_tb := wd_in 448 rfl rfl
set_option maxRecDepth 8000 in
theorem lk_M_83 : Cond.constant R_M 83 (100000 : Int32) ∈ wd_tb := wd_in 441 rfl rfl
set_option maxRecDepth 8000 in
theorem lk_M_84 : Cond.methodLink R_M 84 y_M_tooMuch ∈ wd_tb := wd_in 442 rfl rfl
set_option maxRecDepth 8000 in
theorem lk_M_88 : Cond.methodLink R_M 88 y_M_turned ∈ wd_tb := wd_in 445 rfl rfl
set_option maxRecDepth 8000 in
theorem lk_M_92 : Cond.methodLink R_M 92 y_M_isItem ∈ wd_tb := wd_in 455 rfl rfl
set_option maxRecDepth 8000 in
theorem lk_M_96 : Cond.methodLink R_M 96 y_M_has ∈ wd_tb := wd_in 459 rfl rfl
set_option maxRecDepth 8000 in
theorem lk_M_100 : Cond.methodLink R_M 100 y_M_isOver ∈ wd_tb := wd_in 463 rfl rfl
set_option maxRecDepth 8000 in
theorem lk_M_103 : Cond.methodLink R_M 103 y_M_excludes ∈ wd_tb := wd_in 467 rfl rfl
set_option maxRecDepth 8000 in
theorem lk_M_106 : Cond.methodLink R_M 106 y_M_ledTo ∈ wd_tb := wd_in 474 rfl rfl
set_option maxRecDepth 8000 in
theorem lk_M_109 : Cond.methodLink R_M 109 y_M_mustWait ∈ wd_tb := wd_in 477 rfl rfl
set_option maxRecDepth 8000 in
theorem lk_M_112 : Cond.methodLink R_M 112 y_M_belonging ∈ wd_tb := wd_in 497 rfl rfl
set_option maxRecDepth 8000 in
theorem lk_M_116 : Cond.methodLink R_M 116 y_M_factOf ∈ wd_tb := wd_in 513 rfl rfl
set_option maxRecDepth 8000 in
theorem lk_M_119 : Cond.fieldLink R_M 119 "ItemFactsModel" "rows" "I" ∈ wd_tb := wd_in 383 rfl rfl
set_option maxRecDepth 8000 in
theorem lk_M_122 : Cond.fieldLink R_M 122 "ItemFactsModel" "packed" "I" ∈ wd_tb := wd_in 385 rfl rfl
set_option maxRecDepth 8000 in
theorem lk_M_125 : Cond.methodLink R_M 125 y_M_put ∈ wd_tb := wd_in 529 rfl rfl
set_option maxRecDepth 8000 in
theorem lk_J_265 : Cond.constant R_J 265 (1431655765 : Int32) ∈ wd_tb := wd_in 215 rfl rfl
set_option maxRecDepth 8000 in
theorem lk_J_266 : Cond.constant R_J 266 (858993459 : Int32) ∈ wd_tb := wd_in 216 rfl rfl
set_option maxRecDepth 8000 in
theorem lk_J_267 : Cond.constant R_J 267 (252645135 : Int32) ∈ wd_tb := wd_in 217 rfl rfl
set_option maxRecDepth 8000 in
theorem wi_L : Cond.initialized R_L ∈ wd_tb := wd_in 27 rfl rfl
set_option maxRecDepth 8000 in
theorem wi_F : Cond.initialized R_F ∈ wd_tb := wd_in 28 rfl rfl
set_option maxRecDepth 8000 in
theorem wi_P : Cond.initialized R_P ∈ wd_tb := wd_in 29 rfl rfl
set_option maxRecDepth 8000 in
theorem wi_M : Cond.initialized R_M ∈ wd_tb := wd_in 30 rfl rfl
set_option maxRecDepth 8000 in
theorem wi_I : Cond.initialized R_I ∈ wd_tb := wd_in 31 rfl rfl
set_option maxRecDepth 8000 in
theorem wi_J : Cond.initialized R_J ∈ wd_tb := wd_in 32 rfl rfl
set_option maxRecDepth 8000 in
theorem wi_C : Cond.initialized R_C ∈ wd_tb := wd_in 33 rfl rfl
set_option maxRecDepth 8000 in
theorem wn_F : Cond.instantiable R_F 8 ∈ wd_tb := wd_in 35 rfl rfl
set_option maxRecDepth 8000 in
theorem wm_F_init : Cond.instanceMethod y_F_init ∈ wd_tb := wd_in 37 rfl rfl
set_option maxRecDepth 8000 in
theorem wm_obj : Cond.instanceMethod objectInit ∈ wd_tb := wd_in 40 rfl rfl
set_option maxRecDepth 8000 in
theorem wc_obj : Cond.code objectInit ⟨#[0xb1]⟩ 1 none ∈ wd_tb := wd_in 41 rfl rfl
set_option maxRecDepth 8000 in
theorem wa_I : (Cond.arrayOver (FieldType.object "ItemFacts$Item")) ∈ lw_tbl := List.mem_of_getElem? (i := 43) rfl
set_option maxRecDepth 8000 in
theorem wa_C : (Cond.arrayOver (FieldType.object "ItemFacts$Correction")) ∈ lw_tbl := List.mem_of_getElem? (i := 45) rfl
set_option maxRecDepth 8000 in
theorem wn_P : Cond.instantiable R_P 2 ∈ wd_tb := wd_in 47 rfl rfl
set_option maxRecDepth 8000 in
theorem wm_P_init : Cond.instanceMethod y_P_init ∈ wd_tb := wd_in 49 rfl rfl
set_option maxRecDepth 8000 in
theorem wa_int : (Cond.arrayClass FieldType.int) ∈ wd_tb := wd_in 60 rfl rfl
set_option maxRecDepth 8000 in
theorem wa_boolean : (Cond.arrayClass FieldType.boolean) ∈ wd_tb := wd_in 61 rfl rfl
set_option maxRecDepth 8000 in
theorem wm_F_item : Cond.instanceMethod y_F_item ∈ wd_tb := wd_in 88 rfl rfl
set_option maxRecDepth 8000 in
theorem wz_F_item : Cond.selects R_F y_F_item y_F_item ∈ wd_tb := wd_in 89 rfl rfl
set_option maxRecDepth 8000 in
theorem wt_F_within : Cond.static y_F_within ∈ wd_tb := wd_in 92 rfl rfl
set_option maxRecDepth 8000 in
theorem wl_BEARS_WEIGHT : (Cond.laysStatic "ItemFacts" "BEARS_WEIGHT" "[I") ∈ lw_tbl := List.mem_of_getElem? (i := 96) rfl
set_option maxRecDepth 8000 in
theorem wl_BEARS_SIZE : (Cond.laysStatic "ItemFacts" "BEARS_SIZE" "[I") ∈ lw_tbl := List.mem_of_getElem? (i := 98) rfl
set_option maxRecDepth 8000 in
theorem wn_I : Cond.instantiable R_I 17 ∈ wd_tb := wd_in 99 rfl rfl
set_option maxRecDepth 8000 in
theorem wt_F_turned : Cond.static y_F_turned ∈ wd_tb := wd_in 101 rfl rfl
set_option maxRecDepth 8000 in
theorem wm_I_init : Cond.instanceMethod y_I_init ∈ wd_tb := wd_in 104 rfl rfl
set_option maxRecDepth 8000 in
theorem wm_F_service : Cond.instanceMethod y_F_service ∈ wd_tb := wd_in 185 rfl rfl
set_option maxRecDepth 8000 in
theorem wz_F_service : Cond.selects R_F y_F_service y_F_service ∈ wd_tb := wd_in 186 rfl rfl
set_option maxRecDepth 8000 in
theorem wm_F_find : Cond.instanceMethod y_F_find ∈ wd_tb := wd_in 190 rfl rfl
set_option maxRecDepth 8000 in
theorem wm_I_has : Cond.instanceMethod y_I_has ∈ wd_tb := wd_in 194 rfl rfl
set_option maxRecDepth 8000 in
theorem wm_I_isAtEnd : Cond.instanceMethod y_I_isAtEnd ∈ wd_tb := wd_in 198 rfl rfl
set_option maxRecDepth 8000 in
theorem wm_I_leastExcluding : Cond.instanceMethod y_I_leastExcluding ∈ wd_tb := wd_in 202 rfl rfl
set_option maxRecDepth 8000 in
theorem wl_EXCLUDES : (Cond.laysStatic "ItemFacts" "EXCLUDES" "[I") ∈ lw_tbl := List.mem_of_getElem? (i := 206) rfl
set_option maxRecDepth 8000 in
theorem wm_I_lacksWhatIsWanted : Cond.instanceMethod y_I_lacksWhatIsWanted ∈ wd_tb := wd_in 209 rfl rfl
set_option maxRecDepth 8000 in
theorem wt_J_bitCount : Cond.static y_J_bitCount ∈ wd_tb := wd_in 213 rfl rfl
set_option maxRecDepth 8000 in
theorem wm_F_event : Cond.instanceMethod y_F_event ∈ wd_tb := wd_in 219 rfl rfl
set_option maxRecDepth 8000 in
theorem wz_F_event : Cond.selects R_F y_F_event y_F_event ∈ wd_tb := wd_in 220 rfl rfl
set_option maxRecDepth 8000 in
theorem wm_I_stateBehind : Cond.instanceMethod y_I_stateBehind ∈ wd_tb := wd_in 224 rfl rfl
set_option maxRecDepth 8000 in
theorem wm_F_mustWait : Cond.instanceMethod y_F_mustWait ∈ wd_tb := wd_in 228 rfl rfl
set_option maxRecDepth 8000 in
theorem wm_I_undergo : Cond.instanceMethod y_I_undergo ∈ wd_tb := wd_in 232 rfl rfl
set_option maxRecDepth 8000 in
theorem wm_F_address : Cond.instanceMethod y_F_address ∈ wd_tb := wd_in 235 rfl rfl
set_option maxRecDepth 8000 in
theorem wz_F_address : Cond.selects R_F y_F_address y_F_address ∈ wd_tb := wd_in 236 rfl rfl
set_option maxRecDepth 8000 in
theorem wm_F_abroad : Cond.instanceMethod y_F_abroad ∈ wd_tb := wd_in 239 rfl rfl
set_option maxRecDepth 8000 in
theorem wz_F_abroad : Cond.selects R_F y_F_abroad y_F_abroad ∈ wd_tb := wd_in 240 rfl rfl
set_option maxRecDepth 8000 in
theorem wm_F_contents : Cond.instanceMethod y_F_contents ∈ wd_tb := wd_in 243 rfl rfl
set_option maxRecDepth 8000 in
theorem wz_F_contents : Cond.selects R_F y_F_contents y_F_contents ∈ wd_tb := wd_in 244 rfl rfl
set_option maxRecDepth 8000 in
theorem wm_F_join : Cond.instanceMethod y_F_join ∈ wd_tb := wd_in 247 rfl rfl
set_option maxRecDepth 8000 in
theorem wz_F_join : Cond.selects R_F y_F_join y_F_join ∈ wd_tb := wd_in 248 rfl rfl
set_option maxRecDepth 8000 in
theorem wm_F_bulk : Cond.instanceMethod y_F_bulk ∈ wd_tb := wd_in 251 rfl rfl
set_option maxRecDepth 8000 in
theorem wz_F_bulk : Cond.selects R_F y_F_bulk y_F_bulk ∈ wd_tb := wd_in 252 rfl rfl
set_option maxRecDepth 8000 in
theorem wm_F_open : Cond.instanceMethod y_F_open ∈ wd_tb := wd_in 255 rfl rfl
set_option maxRecDepth 8000 in
theorem wz_F_open : Cond.selects R_F y_F_open y_F_open ∈ wd_tb := wd_in 256 rfl rfl
set_option maxRecDepth 8000 in
theorem wm_F_correct : Cond.instanceMethod y_F_correct ∈ wd_tb := wd_in 259 rfl rfl
set_option maxRecDepth 8000 in
theorem wz_F_correct : Cond.selects R_F y_F_correct y_F_correct ∈ wd_tb := wd_in 260 rfl rfl
set_option maxRecDepth 8000 in
theorem wt_F_mayBecome : Cond.static y_F_mayBecome ∈ wd_tb := wd_in 263 rfl rfl
set_option maxRecDepth 8000 in
theorem wm_I_wouldStay : Cond.instanceMethod y_I_wouldStay ∈ wd_tb := wd_in 267 rfl rfl
set_option maxRecDepth 8000 in
theorem wm_I_correctable : Cond.instanceMethod y_I_correctable ∈ wd_tb := wd_in 272 rfl rfl
set_option maxRecDepth 8000 in
theorem wn_C : Cond.instantiable R_C 5 ∈ wd_tb := wd_in 274 rfl rfl
set_option maxRecDepth 8000 in
theorem wm_C_init : Cond.instanceMethod y_C_init ∈ wd_tb := wd_in 277 rfl rfl
set_option maxRecDepth 8000 in
theorem wm_I_become : Cond.instanceMethod y_I_become ∈ wd_tb := wd_in 298 rfl rfl
set_option maxRecDepth 8000 in
theorem wm_F_row : Cond.instanceMethod y_F_row ∈ wd_tb := wd_in 301 rfl rfl
set_option maxRecDepth 8000 in
theorem wz_F_row : Cond.selects R_F y_F_row y_F_row ∈ wd_tb := wd_in 302 rfl rfl
set_option maxRecDepth 8000 in
theorem wm_C_part : Cond.instanceMethod y_C_part ∈ wd_tb := wd_in 306 rfl rfl
set_option maxRecDepth 8000 in
theorem wm_F_about : Cond.instanceMethod y_F_about ∈ wd_tb := wd_in 309 rfl rfl
set_option maxRecDepth 8000 in
theorem wz_F_about : Cond.selects R_F y_F_about y_F_about ∈ wd_tb := wd_in 310 rfl rfl
set_option maxRecDepth 8000 in
theorem wm_I_fact : Cond.instanceMethod y_I_fact ∈ wd_tb := wd_in 314 rfl rfl
set_option maxRecDepth 8000 in
theorem wm_F_pack : Cond.instanceMethod y_F_pack ∈ wd_tb := wd_in 317 rfl rfl
set_option maxRecDepth 8000 in
theorem wz_F_pack : Cond.selects R_F y_F_pack y_F_pack ∈ wd_tb := wd_in 318 rfl rfl
set_option maxRecDepth 8000 in
theorem wm_P_fill : Cond.instanceMethod y_P_fill ∈ wd_tb := wd_in 322 rfl rfl
set_option maxRecDepth 8000 in
theorem wm_P_addTwo : Cond.instanceMethod y_P_addTwo ∈ wd_tb := wd_in 326 rfl rfl
set_option maxRecDepth 8000 in
theorem wm_P_add : Cond.instanceMethod y_P_add ∈ wd_tb := wd_in 330 rfl rfl
set_option maxRecDepth 8000 in
theorem wm_P_addEntry : Cond.instanceMethod y_P_addEntry ∈ wd_tb := wd_in 334 rfl rfl
set_option maxRecDepth 8000 in
theorem wm_P_xorOfAll : Cond.instanceMethod y_P_xorOfAll ∈ wd_tb := wd_in 339 rfl rfl
set_option maxRecDepth 8000 in
theorem wm_F_octet : Cond.instanceMethod y_F_octet ∈ wd_tb := wd_in 342 rfl rfl
set_option maxRecDepth 8000 in
theorem wz_F_octet : Cond.selects R_F y_F_octet y_F_octet ∈ wd_tb := wd_in 343 rfl rfl
set_option maxRecDepth 8000 in
theorem wm_P_at : Cond.instanceMethod y_P_at ∈ wd_tb := wd_in 347 rfl rfl
set_option maxRecDepth 8000 in
theorem wm_F_aside : Cond.instanceMethod y_F_aside ∈ wd_tb := wd_in 351 rfl rfl
set_option maxRecDepth 8000 in
theorem wz_F_aside : Cond.selects R_F y_F_aside y_F_aside ∈ wd_tb := wd_in 352 rfl rfl
set_option maxRecDepth 8000 in
theorem wm_I_isSetAside : Cond.instanceMethod y_I_isSetAside ∈ wd_tb := wd_in 356 rfl rfl
set_option maxRecDepth 8000 in
theorem wn_M : Cond.instantiable R_M 23 ∈ wd_tb := wd_in 359 rfl rfl
set_option maxRecDepth 8000 in
theorem wm_M_init : Cond.instanceMethod y_M_init ∈ wd_tb := wd_in 361 rfl rfl
set_option maxRecDepth 8000 in
theorem wm_M_item : Cond.instanceMethod y_M_item ∈ wd_tb := wd_in 435 rfl rfl
set_option maxRecDepth 8000 in
theorem wz_M_item : Cond.selects R_M y_M_item y_M_item ∈ wd_tb := wd_in 436 rfl rfl
set_option maxRecDepth 8000 in
theorem wt_M_within : Cond.static y_M_within ∈ wd_tb := wd_in 439 rfl rfl
set_option maxRecDepth 8000 in
theorem wt_M_tooMuch : Cond.static y_M_tooMuch ∈ wd_tb := wd_in 443 rfl rfl
set_option maxRecDepth 8000 in
theorem wt_M_turned : Cond.static y_M_turned ∈ wd_tb := wd_in 446 rfl rfl
set_option maxRecDepth 8000 in
theorem wt_M_mostOf : Cond.static y_M_mostOf ∈ wd_tb := wd_in 449 rfl rfl
set_option maxRecDepth 8000 in
theorem wm_M_service : Cond.instanceMethod y_M_service ∈ wd_tb := wd_in 452 rfl rfl
set_option maxRecDepth 8000 in
theorem wz_M_service : Cond.selects R_M y_M_service y_M_service ∈ wd_tb := wd_in 453 rfl rfl
set_option maxRecDepth 8000 in
theorem wm_M_isItem : Cond.instanceMethod y_M_isItem ∈ wd_tb := wd_in 457 rfl rfl
set_option maxRecDepth 8000 in
theorem wm_M_has : Cond.instanceMethod y_M_has ∈ wd_tb := wd_in 461 rfl rfl
set_option maxRecDepth 8000 in
theorem wm_M_isOver : Cond.instanceMethod y_M_isOver ∈ wd_tb := wd_in 465 rfl rfl
set_option maxRecDepth 8000 in
theorem wt_M_excludes : Cond.static y_M_excludes ∈ wd_tb := wd_in 468 rfl rfl
set_option maxRecDepth 8000 in
theorem wm_M_event : Cond.instanceMethod y_M_event ∈ wd_tb := wd_in 471 rfl rfl
set_option maxRecDepth 8000 in
theorem wz_M_event : Cond.selects R_M y_M_event y_M_event ∈ wd_tb := wd_in 472 rfl rfl
set_option maxRecDepth 8000 in
theorem wt_M_ledTo : Cond.static y_M_ledTo ∈ wd_tb := wd_in 475 rfl rfl
set_option maxRecDepth 8000 in
theorem wm_M_mustWait : Cond.instanceMethod y_M_mustWait ∈ wd_tb := wd_in 479 rfl rfl
set_option maxRecDepth 8000 in
theorem wm_M_address : Cond.instanceMethod y_M_address ∈ wd_tb := wd_in 482 rfl rfl
set_option maxRecDepth 8000 in
theorem wz_M_address : Cond.selects R_M y_M_address y_M_address ∈ wd_tb := wd_in 483 rfl rfl
set_option maxRecDepth 8000 in
theorem wm_M_abroad : Cond.instanceMethod y_M_abroad ∈ wd_tb := wd_in 486 rfl rfl
set_option maxRecDepth 8000 in
theorem wz_M_abroad : Cond.selects R_M y_M_abroad y_M_abroad ∈ wd_tb := wd_in 487 rfl rfl
set_option maxRecDepth 8000 in
theorem wm_M_contents : Cond.instanceMethod y_M_contents ∈ wd_tb := wd_in 490 rfl rfl
set_option maxRecDepth 8000 in
theorem wz_M_contents : Cond.selects R_M y_M_contents y_M_contents ∈ wd_tb := wd_in 491 rfl rfl
set_option maxRecDepth 8000 in
theorem wm_M_join : Cond.instanceMethod y_M_join ∈ wd_tb := wd_in 494 rfl rfl
set_option maxRecDepth 8000 in
theorem wz_M_join : Cond.selects R_M y_M_join y_M_join ∈ wd_tb := wd_in 495 rfl rfl
set_option maxRecDepth 8000 in
theorem wm_M_belonging : Cond.instanceMethod y_M_belonging ∈ wd_tb := wd_in 499 rfl rfl
set_option maxRecDepth 8000 in
theorem wm_M_bulk : Cond.instanceMethod y_M_bulk ∈ wd_tb := wd_in 502 rfl rfl
set_option maxRecDepth 8000 in
theorem wz_M_bulk : Cond.selects R_M y_M_bulk y_M_bulk ∈ wd_tb := wd_in 503 rfl rfl
set_option maxRecDepth 8000 in
theorem wm_M_open : Cond.instanceMethod y_M_open ∈ wd_tb := wd_in 506 rfl rfl
set_option maxRecDepth 8000 in
theorem wz_M_open : Cond.selects R_M y_M_open y_M_open ∈ wd_tb := wd_in 507 rfl rfl
set_option maxRecDepth 8000 in
theorem wm_M_correct : Cond.instanceMethod y_M_correct ∈ wd_tb := wd_in 510 rfl rfl
set_option maxRecDepth 8000 in
theorem wz_M_correct : Cond.selects R_M y_M_correct y_M_correct ∈ wd_tb := wd_in 511 rfl rfl
set_option maxRecDepth 8000 in
theorem wm_M_factOf : Cond.instanceMethod y_M_factOf ∈ wd_tb := wd_in 515 rfl rfl
set_option maxRecDepth 8000 in
theorem wm_M_row : Cond.instanceMethod y_M_row ∈ wd_tb := wd_in 518 rfl rfl
set_option maxRecDepth 8000 in
theorem wz_M_row : Cond.selects R_M y_M_row y_M_row ∈ wd_tb := wd_in 519 rfl rfl
set_option maxRecDepth 8000 in
theorem wm_M_about : Cond.instanceMethod y_M_about ∈ wd_tb := wd_in 522 rfl rfl
set_option maxRecDepth 8000 in
theorem wz_M_about : Cond.selects R_M y_M_about y_M_about ∈ wd_tb := wd_in 523 rfl rfl
set_option maxRecDepth 8000 in
theorem wm_M_pack : Cond.instanceMethod y_M_pack ∈ wd_tb := wd_in 526 rfl rfl
set_option maxRecDepth 8000 in
theorem wz_M_pack : Cond.selects R_M y_M_pack y_M_pack ∈ wd_tb := wd_in 527 rfl rfl
set_option maxRecDepth 8000 in
theorem wm_M_put : Cond.instanceMethod y_M_put ∈ wd_tb := wd_in 531 rfl rfl
set_option maxRecDepth 8000 in
theorem wm_M_octet : Cond.instanceMethod y_M_octet ∈ wd_tb := wd_in 534 rfl rfl
set_option maxRecDepth 8000 in
theorem wz_M_octet : Cond.selects R_M y_M_octet y_M_octet ∈ wd_tb := wd_in 535 rfl rfl
set_option maxRecDepth 8000 in
theorem wm_M_aside : Cond.instanceMethod y_M_aside ∈ wd_tb := wd_in 538 rfl rfl
set_option maxRecDepth 8000 in
theorem wz_M_aside : Cond.selects R_M y_M_aside y_M_aside ∈ wd_tb := wd_in 539 rfl rfl
set_option maxRecDepth 8000 in
theorem wz_F_find : Cond.selects R_F y_F_find y_F_find ∈ wd_tb := wd_in 0 rfl rfl
set_option maxRecDepth 8000 in
theorem wz_I_has : Cond.selects R_I y_I_has y_I_has ∈ wd_tb := wd_in 1 rfl rfl
set_option maxRecDepth 8000 in
theorem wz_I_isAtEnd : Cond.selects R_I y_I_isAtEnd y_I_isAtEnd ∈ wd_tb := wd_in 2 rfl rfl
set_option maxRecDepth 8000 in
theorem wz_I_leastExcluding : Cond.selects R_I y_I_leastExcluding y_I_leastExcluding ∈ wd_tb := wd_in 3 rfl rfl
set_option maxRecDepth 8000 in
theorem wz_I_lacksWhatIsWanted : Cond.selects R_I y_I_lacksWhatIsWanted y_I_lacksWhatIsWanted ∈ wd_tb := wd_in 4 rfl rfl
set_option maxRecDepth 8000 in
theorem wz_I_stateBehind : Cond.selects R_I y_I_stateBehind y_I_stateBehind ∈ wd_tb := wd_in 5 rfl rfl
set_option maxRecDepth 8000 in
theorem wz_F_mustWait : Cond.selects R_F y_F_mustWait y_F_mustWait ∈ wd_tb := wd_in 6 rfl rfl
set_option maxRecDepth 8000 in
theorem wz_I_undergo : Cond.selects R_I y_I_undergo y_I_undergo ∈ wd_tb := wd_in 7 rfl rfl
set_option maxRecDepth 8000 in
theorem wz_I_wouldStay : Cond.selects R_I y_I_wouldStay y_I_wouldStay ∈ wd_tb := wd_in 8 rfl rfl
set_option maxRecDepth 8000 in
theorem wz_I_correctable : Cond.selects R_I y_I_correctable y_I_correctable ∈ wd_tb := wd_in 9 rfl rfl
set_option maxRecDepth 8000 in
theorem wz_I_become : Cond.selects R_I y_I_become y_I_become ∈ wd_tb := wd_in 10 rfl rfl
set_option maxRecDepth 8000 in
theorem wz_C_part : Cond.selects R_C y_C_part y_C_part ∈ wd_tb := wd_in 11 rfl rfl
set_option maxRecDepth 8000 in
theorem wz_I_fact : Cond.selects R_I y_I_fact y_I_fact ∈ wd_tb := wd_in 12 rfl rfl
set_option maxRecDepth 8000 in
theorem wz_P_fill : Cond.selects R_P y_P_fill y_P_fill ∈ wd_tb := wd_in 13 rfl rfl
set_option maxRecDepth 8000 in
theorem wz_P_addTwo : Cond.selects R_P y_P_addTwo y_P_addTwo ∈ wd_tb := wd_in 14 rfl rfl
set_option maxRecDepth 8000 in
theorem wz_P_add : Cond.selects R_P y_P_add y_P_add ∈ wd_tb := wd_in 15 rfl rfl
set_option maxRecDepth 8000 in
theorem wz_P_addEntry : Cond.selects R_P y_P_addEntry y_P_addEntry ∈ wd_tb := wd_in 16 rfl rfl
set_option maxRecDepth 8000 in
theorem wz_P_xorOfAll : Cond.selects R_P y_P_xorOfAll y_P_xorOfAll ∈ wd_tb := wd_in 17 rfl rfl
set_option maxRecDepth 8000 in
theorem wz_P_at : Cond.selects R_P y_P_at y_P_at ∈ wd_tb := wd_in 18 rfl rfl
set_option maxRecDepth 8000 in
theorem wz_I_isSetAside : Cond.selects R_I y_I_isSetAside y_I_isSetAside ∈ wd_tb := wd_in 19 rfl rfl
set_option maxRecDepth 8000 in
theorem wz_M_isItem : Cond.selects R_M y_M_isItem y_M_isItem ∈ wd_tb := wd_in 20 rfl rfl
set_option maxRecDepth 8000 in
theorem wz_M_has : Cond.selects R_M y_M_has y_M_has ∈ wd_tb := wd_in 21 rfl rfl
set_option maxRecDepth 8000 in
theorem wz_M_isOver : Cond.selects R_M y_M_isOver y_M_isOver ∈ wd_tb := wd_in 22 rfl rfl
set_option maxRecDepth 8000 in
theorem wz_M_mustWait : Cond.selects R_M y_M_mustWait y_M_mustWait ∈ wd_tb := wd_in 23 rfl rfl
set_option maxRecDepth 8000 in
theorem wz_M_belonging : Cond.selects R_M y_M_belonging y_M_belonging ∈ wd_tb := wd_in 24 rfl rfl
set_option maxRecDepth 8000 in
theorem wz_M_factOf : Cond.selects R_M y_M_factOf y_M_factOf ∈ wd_tb := wd_in 25 rfl rfl
set_option maxRecDepth 8000 in
theorem wz_M_put : Cond.selects R_M y_M_put y_M_put ∈ wd_tb := wd_in 26 rfl rfl
set_option maxRecDepth 8000 in
theorem wc_F_init : Cond.code y_F_init b_F_init 1 none ∈ wd_tb := wd_in 38 rfl rfl
set_option maxRecDepth 8000 in
theorem wc_P_init : Cond.code y_P_init b_P_init 1 none ∈ wd_tb := wd_in 50 rfl rfl
set_option maxRecDepth 8000 in
theorem wc_F_item : Cond.code y_F_item b_F_item 5 (some .int) ∈ wd_tb := wd_in 90 rfl rfl
set_option maxRecDepth 8000 in
theorem wc_F_within : Cond.code y_F_within b_F_within 3 (some .boolean) ∈ wd_tb := wd_in 93 rfl rfl
set_option maxRecDepth 8000 in
theorem wc_F_turned : Cond.code y_F_turned b_F_turned 4 (some .int) ∈ wd_tb := wd_in 102 rfl rfl
set_option maxRecDepth 8000 in
theorem wc_I_init : Cond.code y_I_init b_I_init 5 none ∈ wd_tb := wd_in 105 rfl rfl
set_option maxRecDepth 8000 in
theorem wc_F_service : Cond.code y_F_service b_F_service 5 (some .int) ∈ wd_tb := wd_in 187 rfl rfl
set_option maxRecDepth 8000 in
theorem wc_F_find : Cond.code y_F_find b_F_find 2 (some (.object "ItemFacts$Item")) ∈ wd_tb := wd_in 191 rfl rfl
set_option maxRecDepth 8000 in
theorem wc_I_has : Cond.code y_I_has b_I_has 2 (some .boolean) ∈ wd_tb := wd_in 195 rfl rfl
set_option maxRecDepth 8000 in
theorem wc_I_isAtEnd : Cond.code y_I_isAtEnd b_I_isAtEnd 1 (some .boolean) ∈ wd_tb := wd_in 199 rfl rfl
set_option maxRecDepth 8000 in
theorem wc_I_leastExcluding : Cond.code y_I_leastExcluding b_I_leastExcluding 4 (some .int) ∈ wd_tb := wd_in 203 rfl rfl
set_option maxRecDepth 8000 in
theorem wc_I_lacksWhatIsWanted : Cond.code y_I_lacksWhatIsWanted b_I_lacksWhatIsWanted 2 (some .boolean) ∈ wd_tb := wd_in 210 rfl rfl
set_option maxRecDepth 8000 in
theorem wc_J_bitCount : Cond.code y_J_bitCount b_J_bitCount 1 (some .int) ∈ wd_tb := wd_in 214 rfl rfl
set_option maxRecDepth 8000 in
theorem wc_F_event : Cond.code y_F_event b_F_event 5 (some .int) ∈ wd_tb := wd_in 221 rfl rfl
set_option maxRecDepth 8000 in
theorem wc_I_stateBehind : Cond.code y_I_stateBehind b_I_stateBehind 2 (some .int) ∈ wd_tb := wd_in 225 rfl rfl
set_option maxRecDepth 8000 in
theorem wc_F_mustWait : Cond.code y_F_mustWait b_F_mustWait 4 (some .boolean) ∈ wd_tb := wd_in 229 rfl rfl
set_option maxRecDepth 8000 in
theorem wc_I_undergo : Cond.code y_I_undergo b_I_undergo 3 none ∈ wd_tb := wd_in 233 rfl rfl
set_option maxRecDepth 8000 in
theorem wc_F_address : Cond.code y_F_address b_F_address 6 (some .int) ∈ wd_tb := wd_in 237 rfl rfl
set_option maxRecDepth 8000 in
theorem wc_F_abroad : Cond.code y_F_abroad b_F_abroad 4 (some .int) ∈ wd_tb := wd_in 241 rfl rfl
set_option maxRecDepth 8000 in
theorem wc_F_contents : Cond.code y_F_contents b_F_contents 5 (some .int) ∈ wd_tb := wd_in 245 rfl rfl
set_option maxRecDepth 8000 in
theorem wc_F_join : Cond.code y_F_join b_F_join 5 (some .int) ∈ wd_tb := wd_in 249 rfl rfl
set_option maxRecDepth 8000 in
theorem wc_F_bulk : Cond.code y_F_bulk b_F_bulk 4 (some .int) ∈ wd_tb := wd_in 253 rfl rfl
set_option maxRecDepth 8000 in
theorem wc_F_open : Cond.code y_F_open b_F_open 5 (some .int) ∈ wd_tb := wd_in 257 rfl rfl
set_option maxRecDepth 8000 in
theorem wc_F_correct : Cond.code y_F_correct b_F_correct 6 (some .int) ∈ wd_tb := wd_in 261 rfl rfl
set_option maxRecDepth 8000 in
theorem wc_F_mayBecome : Cond.code y_F_mayBecome b_F_mayBecome 2 (some .boolean) ∈ wd_tb := wd_in 264 rfl rfl
set_option maxRecDepth 8000 in
theorem wc_I_wouldStay : Cond.code y_I_wouldStay b_I_wouldStay 3 (some .boolean) ∈ wd_tb := wd_in 268 rfl rfl
set_option maxRecDepth 8000 in
theorem wc_I_correctable : Cond.code y_I_correctable b_I_correctable 2 (some .int) ∈ wd_tb := wd_in 273 rfl rfl
set_option maxRecDepth 8000 in
theorem wc_C_init : Cond.code y_C_init b_C_init 6 none ∈ wd_tb := wd_in 278 rfl rfl
set_option maxRecDepth 8000 in
theorem wc_I_become : Cond.code y_I_become b_I_become 3 none ∈ wd_tb := wd_in 299 rfl rfl
set_option maxRecDepth 8000 in
theorem wc_F_row : Cond.code y_F_row b_F_row 4 (some .int) ∈ wd_tb := wd_in 303 rfl rfl
set_option maxRecDepth 8000 in
theorem wc_C_part : Cond.code y_C_part b_C_part 2 (some .int) ∈ wd_tb := wd_in 307 rfl rfl
set_option maxRecDepth 8000 in
theorem wc_F_about : Cond.code y_F_about b_F_about 4 (some .int) ∈ wd_tb := wd_in 311 rfl rfl
set_option maxRecDepth 8000 in
theorem wc_I_fact : Cond.code y_I_fact b_I_fact 2 (some .int) ∈ wd_tb := wd_in 315 rfl rfl
set_option maxRecDepth 8000 in
theorem wc_F_pack : Cond.code y_F_pack b_F_pack 3 (some .int) ∈ wd_tb := wd_in 319 rfl rfl
set_option maxRecDepth 8000 in
theorem wc_P_fill : Cond.code y_P_fill b_P_fill 4 none ∈ wd_tb := wd_in 323 rfl rfl
set_option maxRecDepth 8000 in
theorem wc_P_addTwo : Cond.code y_P_addTwo b_P_addTwo 2 none ∈ wd_tb := wd_in 327 rfl rfl
set_option maxRecDepth 8000 in
theorem wc_P_add : Cond.code y_P_add b_P_add 2 none ∈ wd_tb := wd_in 331 rfl rfl
set_option maxRecDepth 8000 in
theorem wc_P_addEntry : Cond.code y_P_addEntry b_P_addEntry 2 none ∈ wd_tb := wd_in 335 rfl rfl
set_option maxRecDepth 8000 in
theorem wc_P_xorOfAll : Cond.code y_P_xorOfAll b_P_xorOfAll 3 (some .int) ∈ wd_tb := wd_in 340 rfl rfl
set_option maxRecDepth 8000 in
theorem wc_F_octet : Cond.code y_F_octet b_F_octet 2 (some .int) ∈ wd_tb := wd_in 344 rfl rfl
set_option maxRecDepth 8000 in
theorem wc_P_at : Cond.code y_P_at b_P_at 2 (some .int) ∈ wd_tb := wd_in 348 rfl rfl
set_option maxRecDepth 8000 in
theorem wc_F_aside : Cond.code y_F_aside b_F_aside 5 (some .int) ∈ wd_tb := wd_in 353 rfl rfl
set_option maxRecDepth 8000 in
theorem wc_I_isSetAside : Cond.code y_I_isSetAside b_I_isSetAside 1 (some .boolean) ∈ wd_tb := wd_in 357 rfl rfl
set_option maxRecDepth 8000 in
theorem wc_M_init : Cond.code y_M_init b_M_init 1 none ∈ wd_tb := wd_in 362 rfl rfl
set_option maxRecDepth 8000 in
theorem wc_M_item : Cond.code y_M_item b_M_item 6 (some .int) ∈ wd_tb := wd_in 437 rfl rfl
set_option maxRecDepth 8000 in
theorem wc_M_within : Cond.code y_M_within b_M_within 3 (some .boolean) ∈ wd_tb := wd_in 440 rfl rfl
set_option maxRecDepth 8000 in
theorem wc_M_tooMuch : Cond.code y_M_tooMuch b_M_tooMuch 2 (some .int) ∈ wd_tb := wd_in 444 rfl rfl
set_option maxRecDepth 8000 in
theorem wc_M_turned : Cond.code y_M_turned b_M_turned 4 (some .int) ∈ wd_tb := wd_in 447 rfl rfl
set_option maxRecDepth 8000 in
theorem wc_M_mostOf : Cond.code y_M_mostOf b_M_mostOf 1 (some .int) ∈ wd_tb := wd_in 450 rfl rfl
set_option maxRecDepth 8000 in
theorem wc_M_service : Cond.code y_M_service b_M_service 6 (some .int) ∈ wd_tb := wd_in 454 rfl rfl
set_option maxRecDepth 8000 in
theorem wc_M_isItem : Cond.code y_M_isItem b_M_isItem 2 (some .boolean) ∈ wd_tb := wd_in 458 rfl rfl
set_option maxRecDepth 8000 in
theorem wc_M_has : Cond.code y_M_has b_M_has 3 (some .boolean) ∈ wd_tb := wd_in 462 rfl rfl
set_option maxRecDepth 8000 in
theorem wc_M_isOver : Cond.code y_M_isOver b_M_isOver 2 (some .boolean) ∈ wd_tb := wd_in 466 rfl rfl
set_option maxRecDepth 8000 in
theorem wc_M_excludes : Cond.code y_M_excludes b_M_excludes 4 (some .boolean) ∈ wd_tb := wd_in 469 rfl rfl
set_option maxRecDepth 8000 in
theorem wc_M_event : Cond.code y_M_event b_M_event 4 (some .int) ∈ wd_tb := wd_in 473 rfl rfl
set_option maxRecDepth 8000 in
theorem wc_M_ledTo : Cond.code y_M_ledTo b_M_ledTo 2 (some .int) ∈ wd_tb := wd_in 476 rfl rfl
set_option maxRecDepth 8000 in
theorem wc_M_mustWait : Cond.code y_M_mustWait b_M_mustWait 5 (some .boolean) ∈ wd_tb := wd_in 480 rfl rfl
set_option maxRecDepth 8000 in
theorem wc_M_address : Cond.code y_M_address b_M_address 5 (some .int) ∈ wd_tb := wd_in 484 rfl rfl
set_option maxRecDepth 8000 in
theorem wc_M_abroad : Cond.code y_M_abroad b_M_abroad 3 (some .int) ∈ wd_tb := wd_in 488 rfl rfl
set_option maxRecDepth 8000 in
theorem wc_M_contents : Cond.code y_M_contents b_M_contents 4 (some .int) ∈ wd_tb := wd_in 492 rfl rfl
set_option maxRecDepth 8000 in
theorem wc_M_join : Cond.code y_M_join b_M_join 4 (some .int) ∈ wd_tb := wd_in 496 rfl rfl
set_option maxRecDepth 8000 in
theorem wc_M_belonging : Cond.code y_M_belonging b_M_belonging 5 (some .int) ∈ wd_tb := wd_in 500 rfl rfl
set_option maxRecDepth 8000 in
theorem wc_M_bulk : Cond.code y_M_bulk b_M_bulk 3 (some .int) ∈ wd_tb := wd_in 504 rfl rfl
set_option maxRecDepth 8000 in
theorem wc_M_open : Cond.code y_M_open b_M_open 4 (some .int) ∈ wd_tb := wd_in 508 rfl rfl
set_option maxRecDepth 8000 in
theorem wc_M_correct : Cond.code y_M_correct b_M_correct 12 (some .int) ∈ wd_tb := wd_in 512 rfl rfl
set_option maxRecDepth 8000 in
theorem wc_M_factOf : Cond.code y_M_factOf b_M_factOf 3 (some .int) ∈ wd_tb := wd_in 516 rfl rfl
set_option maxRecDepth 8000 in
theorem wc_M_row : Cond.code y_M_row b_M_row 3 (some .int) ∈ wd_tb := wd_in 520 rfl rfl
set_option maxRecDepth 8000 in
theorem wc_M_about : Cond.code y_M_about b_M_about 3 (some .int) ∈ wd_tb := wd_in 524 rfl rfl
set_option maxRecDepth 8000 in
theorem wc_M_pack : Cond.code y_M_pack b_M_pack 4 (some .int) ∈ wd_tb := wd_in 528 rfl rfl
set_option maxRecDepth 8000 in
theorem wc_M_put : Cond.code y_M_put b_M_put 4 none ∈ wd_tb := wd_in 532 rfl rfl
set_option maxRecDepth 8000 in
theorem wc_M_octet : Cond.code y_M_octet b_M_octet 2 (some .int) ∈ wd_tb := wd_in 536 rfl rfl
set_option maxRecDepth 8000 in
theorem wc_M_aside : Cond.code y_M_aside b_M_aside 4 (some .int) ∈ wd_tb := wd_in 540 rfl rfl
theorem n_F : ∀ a, a < 8 → ∀ b, b < 8 → a ≠ b → (F_F a).2.1 ≠ (F_F b).2.1 := by decide +kernel
theorem t_F_ok : ∀ k, k < 8 → parseFieldDescriptor (F_F k).2.2.1 = some (t_F k) := by decide +kernel
theorem i_F : ∀ w ∈ u_ws R_F F_F 8, w ∈ wd_tb := by decide +kernel
theorem n_I : ∀ a, a < 17 → ∀ b, b < 17 → a ≠ b → (F_I a).2.1 ≠ (F_I b).2.1 := by decide +kernel
theorem t_I_ok : ∀ k, k < 17 → parseFieldDescriptor (F_I k).2.2.1 = some (t_I k) := by decide +kernel
theorem i_I : ∀ w ∈ u_ws R_I F_I 17, w ∈ wd_tb := by decide +kernel
theorem n_C : ∀ a, a < 5 → ∀ b, b < 5 → a ≠ b → (F_C a).2.1 ≠ (F_C b).2.1 := by decide +kernel
theorem t_C_ok : ∀ k, k < 5 → parseFieldDescriptor (F_C k).2.2.1 = some (t_C k) := by decide +kernel
theorem i_C : ∀ w ∈ u_ws R_C F_C 5, w ∈ wd_tb := by decide +kernel
theorem n_P : ∀ a, a < 2 → ∀ b, b < 2 → a ≠ b → (F_P a).2.1 ≠ (F_P b).2.1 := by decide +kernel
theorem t_P_ok : ∀ k, k < 2 → parseFieldDescriptor (F_P k).2.2.1 = some (t_P k) := by decide +kernel
theorem i_P : ∀ w ∈ u_ws R_P F_P 2, w ∈ wd_tb := by decide +kernel
theorem n_M : ∀ a, a < 23 → ∀ b, b < 23 → a ≠ b → (F_M a).2.1 ≠ (F_M b).2.1 := by decide +kernel
theorem t_M_ok : ∀ k, k < 23 → parseFieldDescriptor (F_M k).2.2.1 = some (t_M k) := by decide +kernel
theorem i_M : ∀ w ∈ u_ws R_M F_M 23, w ∈ wd_tb := by decide +kernel
def wd_ty (T : Nat → ClassId) : List (ClassId × FieldType) := [(T 0, .int), (T 1, .boolean), (T 2, .object "ItemFacts$Item"), (T 3, .object "ItemFacts$Correction")]
def x_bw : List Int32 := [50, 500, 2000, 31500]
def x_bs : List Int32 := [0, 1, 2, 3]
def x_ex : List Int32 := [0, 4, 10, 36, 32, 24]
def wd_st : List (String × String × List Int32) := [("ItemFacts", "BEARS_WEIGHT", x_bw), ("ItemFacts", "BEARS_SIZE", x_bs), ("ItemFacts", "EXCLUDES", x_ex)]
end
section
theorem d_F_init_0 : decode b_F_init 0 = .ok (.aload_n 0, 1) := by decide +kernel
theorem d_F_init_1 : decode b_F_init 1 = .ok (.invokespecial 1, 3) := by decide +kernel
theorem d_F_init_4 : decode b_F_init 4 = .ok (.aload_n 0, 1) := by decide +kernel
theorem d_F_init_5 : decode b_F_init 5 = .ok (.bipush 120, 2) := by decide +kernel
theorem d_F_init_7 : decode b_F_init 7 = .ok (.anewarray 9, 3) := by decide +kernel
theorem d_F_init_10 : decode b_F_init 10 = .ok (.putfield 11, 3) := by decide +kernel
theorem d_F_init_13 : decode b_F_init 13 = .ok (.aload_n 0, 1) := by decide +kernel
theorem d_F_init_14 : decode b_F_init 14 = .ok (.iconst 0, 1) := by decide +kernel
theorem d_F_init_15 : decode b_F_init 15 = .ok (.putfield 15, 3) := by decide +kernel
theorem d_F_init_18 : decode b_F_init 18 = .ok (.aload_n 0, 1) := by decide +kernel
theorem d_F_init_19 : decode b_F_init 19 = .ok (.sipush 200, 3) := by decide +kernel
theorem d_F_init_22 : decode b_F_init 22 = .ok (.anewarray 19, 3) := by decide +kernel
theorem d_F_init_25 : decode b_F_init 25 = .ok (.putfield 21, 3) := by decide +kernel
theorem d_F_init_28 : decode b_F_init 28 = .ok (.aload_n 0, 1) := by decide +kernel
theorem d_F_init_29 : decode b_F_init 29 = .ok (.iconst 0, 1) := by decide +kernel
theorem d_F_init_30 : decode b_F_init 30 = .ok (.putfield 25, 3) := by decide +kernel
theorem d_F_init_33 : decode b_F_init 33 = .ok (.aload_n 0, 1) := by decide +kernel
theorem d_F_init_34 : decode b_F_init 34 = .ok (.bipush 31, 2) := by decide +kernel
theorem d_F_init_36 : decode b_F_init 36 = .ok (.newarray .int, 2) := by decide +kernel
theorem d_F_init_38 : decode b_F_init 38 = .ok (.putfield 28, 3) := by decide +kernel
theorem d_F_init_41 : decode b_F_init 41 = .ok (.aload_n 0, 1) := by decide +kernel
theorem d_F_init_42 : decode b_F_init 42 = .ok (.bipush 31, 2) := by decide +kernel
theorem d_F_init_44 : decode b_F_init 44 = .ok (.newarray .boolean, 2) := by decide +kernel
theorem d_F_init_46 : decode b_F_init 46 = .ok (.putfield 32, 3) := by decide +kernel
theorem d_F_init_49 : decode b_F_init 49 = .ok (.aload_n 0, 1) := by decide +kernel
theorem d_F_init_50 : decode b_F_init 50 = .ok (.bipush 21, 2) := by decide +kernel
theorem d_F_init_52 : decode b_F_init 52 = .ok (.newarray .int, 2) := by decide +kernel
theorem d_F_init_54 : decode b_F_init 54 = .ok (.putfield 36, 3) := by decide +kernel
theorem d_F_init_57 : decode b_F_init 57 = .ok (.aload_n 0, 1) := by decide +kernel
theorem d_F_init_58 : decode b_F_init 58 = .ok (.new 39, 3) := by decide +kernel
theorem d_F_init_61 : decode b_F_init 61 = .ok (.dup, 1) := by decide +kernel
theorem d_F_init_62 : decode b_F_init 62 = .ok (.invokespecial 41, 3) := by decide +kernel
theorem d_F_init_65 : decode b_F_init 65 = .ok (.putfield 42, 3) := by decide +kernel
theorem d_F_init_68 : decode b_F_init 68 = .ok (.return_, 1) := by decide +kernel
theorem d_F_item_0 : decode b_F_item 0 = .ok (.iload_n 1, 1) := by decide +kernel
theorem d_F_item_1 : decode b_F_item 1 = .ok (.iconst 0, 1) := by decide +kernel
theorem d_F_item_2 : decode b_F_item 2 = .ok (.iconst 3, 1) := by decide +kernel
theorem d_F_item_3 : decode b_F_item 3 = .ok (.invokestatic 46, 3) := by decide +kernel
theorem d_F_item_6 : decode b_F_item 6 = .ok (.ifCond .eq 34, 3) := by decide +kernel
theorem d_F_item_9 : decode b_F_item 9 = .ok (.iload_n 2, 1) := by decide +kernel
theorem d_F_item_10 : decode b_F_item 10 = .ok (.iconst 1, 1) := by decide +kernel
theorem d_F_item_11 : decode b_F_item 11 = .ok (.ldc 50, 2) := by decide +kernel
theorem d_F_item_13 : decode b_F_item 13 = .ok (.invokestatic 46, 3) := by decide +kernel
theorem d_F_item_16 : decode b_F_item 16 = .ok (.ifCond .eq 24, 3) := by decide +kernel
theorem d_F_item_19 : decode b_F_item 19 = .ok (.iload_n 3, 1) := by decide +kernel
theorem d_F_item_20 : decode b_F_item 20 = .ok (.iconst 0, 1) := by decide +kernel
theorem d_F_item_21 : decode b_F_item 21 = .ok (.bipush 9, 2) := by decide +kernel
theorem d_F_item_23 : decode b_F_item 23 = .ok (.invokestatic 46, 3) := by decide +kernel
theorem d_F_item_26 : decode b_F_item 26 = .ok (.ifCond .eq 14, 3) := by decide +kernel
theorem d_F_item_29 : decode b_F_item 29 = .ok (.iload 4, 2) := by decide +kernel
theorem d_F_item_31 : decode b_F_item 31 = .ok (.iconst 0, 1) := by decide +kernel
theorem d_F_item_32 : decode b_F_item 32 = .ok (.bipush 99, 2) := by decide +kernel
theorem d_F_item_34 : decode b_F_item 34 = .ok (.invokestatic 46, 3) := by decide +kernel
theorem d_F_item_37 : decode b_F_item 37 = .ok (.ifCond .ne 6, 3) := by decide +kernel
theorem d_F_item_40 : decode b_F_item 40 = .ok (.bipush (-102), 2) := by decide +kernel
theorem d_F_item_42 : decode b_F_item 42 = .ok (.ireturn, 1) := by decide +kernel
theorem d_F_item_43 : decode b_F_item 43 = .ok (.aload_n 0, 1) := by decide +kernel
theorem d_F_item_44 : decode b_F_item 44 = .ok (.getfield 15, 3) := by decide +kernel
theorem d_F_item_47 : decode b_F_item 47 = .ok (.bipush 120, 2) := by decide +kernel
theorem d_F_item_49 : decode b_F_item 49 = .ok (.if_icmp .lt 6, 3) := by decide +kernel
theorem d_F_item_52 : decode b_F_item 52 = .ok (.bipush (-104), 2) := by decide +kernel
theorem d_F_item_54 : decode b_F_item 54 = .ok (.ireturn, 1) := by decide +kernel
theorem d_F_item_55 : decode b_F_item 55 = .ok (.iload_n 2, 1) := by decide +kernel
theorem d_F_item_56 : decode b_F_item 56 = .ok (.getstatic 51, 3) := by decide +kernel
theorem d_F_item_59 : decode b_F_item 59 = .ok (.iconst 3, 1) := by decide +kernel
theorem d_F_item_60 : decode b_F_item 60 = .ok (.iaload, 1) := by decide +kernel
theorem d_F_item_61 : decode b_F_item 61 = .ok (.if_icmp .le 6, 3) := by decide +kernel
theorem d_F_item_64 : decode b_F_item 64 = .ok (.bipush (-109), 2) := by decide +kernel
theorem d_F_item_66 : decode b_F_item 66 = .ok (.ireturn, 1) := by decide +kernel
theorem d_F_item_67 : decode b_F_item 67 = .ok (.iload_n 3, 1) := by decide +kernel
theorem d_F_item_68 : decode b_F_item 68 = .ok (.getstatic 54, 3) := by decide +kernel
theorem d_F_item_71 : decode b_F_item 71 = .ok (.iconst 3, 1) := by decide +kernel
theorem d_F_item_72 : decode b_F_item 72 = .ok (.iaload, 1) := by decide +kernel
theorem d_F_item_73 : decode b_F_item 73 = .ok (.if_icmp .le 6, 3) := by decide +kernel
theorem d_F_item_76 : decode b_F_item 76 = .ok (.bipush (-110), 2) := by decide +kernel
theorem d_F_item_78 : decode b_F_item 78 = .ok (.ireturn, 1) := by decide +kernel
theorem d_F_item_79 : decode b_F_item 79 = .ok (.aload_n 0, 1) := by decide +kernel
theorem d_F_item_80 : decode b_F_item 80 = .ok (.getfield 11, 3) := by decide +kernel
theorem d_F_item_83 : decode b_F_item 83 = .ok (.aload_n 0, 1) := by decide +kernel
theorem d_F_item_84 : decode b_F_item 84 = .ok (.getfield 15, 3) := by decide +kernel
theorem d_F_item_87 : decode b_F_item 87 = .ok (.new 9, 3) := by decide +kernel
theorem d_F_item_90 : decode b_F_item 90 = .ok (.dup, 1) := by decide +kernel
theorem d_F_item_91 : decode b_F_item 91 = .ok (.iload_n 1, 1) := by decide +kernel
theorem d_F_item_92 : decode b_F_item 92 = .ok (.iload_n 2, 1) := by decide +kernel
theorem d_F_item_93 : decode b_F_item 93 = .ok (.iload_n 3, 1) := by decide +kernel
theorem d_F_item_94 : decode b_F_item 94 = .ok (.invokestatic 57, 3) := by decide +kernel
theorem d_F_item_97 : decode b_F_item 97 = .ok (.iload_n 2, 1) := by decide +kernel
theorem d_F_item_98 : decode b_F_item 98 = .ok (.iload_n 3, 1) := by decide +kernel
theorem d_F_item_99 : decode b_F_item 99 = .ok (.iload 4, 2) := by decide +kernel
theorem d_F_item_101 : decode b_F_item 101 = .ok (.invokespecial 61, 3) := by decide +kernel
theorem d_F_item_104 : decode b_F_item 104 = .ok (.aastore, 1) := by decide +kernel
theorem d_F_item_105 : decode b_F_item 105 = .ok (.aload_n 0, 1) := by decide +kernel
theorem d_F_item_106 : decode b_F_item 106 = .ok (.dup, 1) := by decide +kernel
theorem d_F_item_107 : decode b_F_item 107 = .ok (.getfield 15, 3) := by decide +kernel
theorem d_F_item_110 : decode b_F_item 110 = .ok (.iconst 1, 1) := by decide +kernel
theorem d_F_item_111 : decode b_F_item 111 = .ok (.iadd, 1) := by decide +kernel
theorem d_F_item_112 : decode b_F_item 112 = .ok (.putfield 15, 3) := by decide +kernel
theorem d_F_item_115 : decode b_F_item 115 = .ok (.aload_n 0, 1) := by decide +kernel
theorem d_F_item_116 : decode b_F_item 116 = .ok (.getfield 15, 3) := by decide +kernel
theorem d_F_item_119 : decode b_F_item 119 = .ok (.ireturn, 1) := by decide +kernel
theorem d_F_service_0 : decode b_F_service 0 = .ok (.aload_n 0, 1) := by decide +kernel
theorem d_F_service_1 : decode b_F_service 1 = .ok (.iload_n 1, 1) := by decide +kernel
theorem d_F_service_2 : decode b_F_service 2 = .ok (.invokevirtual 64, 3) := by decide +kernel
theorem d_F_service_5 : decode b_F_service 5 = .ok (.astore_n 3, 1) := by decide +kernel
theorem d_F_service_6 : decode b_F_service 6 = .ok (.aload_n 3, 1) := by decide +kernel
theorem d_F_service_7 : decode b_F_service 7 = .ok (.ifnonnull 6, 3) := by decide +kernel
theorem d_F_service_10 : decode b_F_service 10 = .ok (.bipush (-101), 2) := by decide +kernel
theorem d_F_service_12 : decode b_F_service 12 = .ok (.ireturn, 1) := by decide +kernel
theorem d_F_service_13 : decode b_F_service 13 = .ok (.iload_n 2, 1) := by decide +kernel
theorem d_F_service_14 : decode b_F_service 14 = .ok (.iconst 0, 1) := by decide +kernel
theorem d_F_service_15 : decode b_F_service 15 = .ok (.iconst 5, 1) := by decide +kernel
theorem d_F_service_16 : decode b_F_service 16 = .ok (.invokestatic 46, 3) := by decide +kernel
theorem d_F_service_19 : decode b_F_service 19 = .ok (.ifCond .ne 6, 3) := by decide +kernel
theorem d_F_service_22 : decode b_F_service 22 = .ok (.bipush (-102), 2) := by decide +kernel
theorem d_F_service_24 : decode b_F_service 24 = .ok (.ireturn, 1) := by decide +kernel
theorem d_F_service_25 : decode b_F_service 25 = .ok (.aload_n 3, 1) := by decide +kernel
theorem d_F_service_26 : decode b_F_service 26 = .ok (.iload_n 2, 1) := by decide +kernel
theorem d_F_service_27 : decode b_F_service 27 = .ok (.invokevirtual 68, 3) := by decide +kernel
theorem d_F_service_30 : decode b_F_service 30 = .ok (.ifCond .ne 10, 3) := by decide +kernel
theorem d_F_service_33 : decode b_F_service 33 = .ok (.aload_n 3, 1) := by decide +kernel
theorem d_F_service_34 : decode b_F_service 34 = .ok (.invokevirtual 72, 3) := by decide +kernel
theorem d_F_service_37 : decode b_F_service 37 = .ok (.ifCond .eq 6, 3) := by decide +kernel
theorem d_F_service_40 : decode b_F_service 40 = .ok (.bipush (-103), 2) := by decide +kernel
theorem d_F_service_42 : decode b_F_service 42 = .ok (.ireturn, 1) := by decide +kernel
theorem d_F_service_43 : decode b_F_service 43 = .ok (.aload_n 3, 1) := by decide +kernel
theorem d_F_service_44 : decode b_F_service 44 = .ok (.iload_n 2, 1) := by decide +kernel
theorem d_F_service_45 : decode b_F_service 45 = .ok (.invokevirtual 76, 3) := by decide +kernel
theorem d_F_service_48 : decode b_F_service 48 = .ok (.istore 4, 2) := by decide +kernel
theorem d_F_service_50 : decode b_F_service 50 = .ok (.iload 4, 2) := by decide +kernel
theorem d_F_service_52 : decode b_F_service 52 = .ok (.iconst (-1), 1) := by decide +kernel
theorem d_F_service_53 : decode b_F_service 53 = .ok (.if_icmp .eq 10, 3) := by decide +kernel
theorem d_F_service_56 : decode b_F_service 56 = .ok (.sipush (-200), 3) := by decide +kernel
theorem d_F_service_59 : decode b_F_service 59 = .ok (.iload 4, 2) := by decide +kernel
theorem d_F_service_61 : decode b_F_service 61 = .ok (.isub, 1) := by decide +kernel
theorem d_F_service_62 : decode b_F_service 62 = .ok (.ireturn, 1) := by decide +kernel
theorem d_F_service_63 : decode b_F_service 63 = .ok (.aload_n 3, 1) := by decide +kernel
theorem d_F_service_64 : decode b_F_service 64 = .ok (.iload_n 2, 1) := by decide +kernel
theorem d_F_service_65 : decode b_F_service 65 = .ok (.invokevirtual 80, 3) := by decide +kernel
theorem d_F_service_68 : decode b_F_service 68 = .ok (.ifCond .eq 6, 3) := by decide +kernel
theorem d_F_service_71 : decode b_F_service 71 = .ok (.bipush (-111), 2) := by decide +kernel
theorem d_F_service_73 : decode b_F_service 73 = .ok (.ireturn, 1) := by decide +kernel
theorem d_F_service_74 : decode b_F_service 74 = .ok (.aload_n 3, 1) := by decide +kernel
theorem d_F_service_75 : decode b_F_service 75 = .ok (.dup, 1) := by decide +kernel
theorem d_F_service_76 : decode b_F_service 76 = .ok (.getfield 83, 3) := by decide +kernel
theorem d_F_service_79 : decode b_F_service 79 = .ok (.iconst 1, 1) := by decide +kernel
theorem d_F_service_80 : decode b_F_service 80 = .ok (.iload_n 2, 1) := by decide +kernel
theorem d_F_service_81 : decode b_F_service 81 = .ok (.ishl, 1) := by decide +kernel
theorem d_F_service_82 : decode b_F_service 82 = .ok (.ior, 1) := by decide +kernel
theorem d_F_service_83 : decode b_F_service 83 = .ok (.putfield 83, 3) := by decide +kernel
theorem d_F_service_86 : decode b_F_service 86 = .ok (.aload_n 3, 1) := by decide +kernel
theorem d_F_service_87 : decode b_F_service 87 = .ok (.getfield 83, 3) := by decide +kernel
theorem d_F_service_90 : decode b_F_service 90 = .ok (.invokestatic 86, 3) := by decide +kernel
theorem d_F_service_93 : decode b_F_service 93 = .ok (.ireturn, 1) := by decide +kernel
theorem d_F_event_0 : decode b_F_event 0 = .ok (.aload_n 0, 1) := by decide +kernel
theorem d_F_event_1 : decode b_F_event 1 = .ok (.iload_n 1, 1) := by decide +kernel
theorem d_F_event_2 : decode b_F_event 2 = .ok (.invokevirtual 64, 3) := by decide +kernel
theorem d_F_event_5 : decode b_F_event 5 = .ok (.astore_n 3, 1) := by decide +kernel
theorem d_F_event_6 : decode b_F_event 6 = .ok (.aload_n 3, 1) := by decide +kernel
theorem d_F_event_7 : decode b_F_event 7 = .ok (.ifnonnull 6, 3) := by decide +kernel
theorem d_F_event_10 : decode b_F_event 10 = .ok (.bipush (-101), 2) := by decide +kernel
theorem d_F_event_12 : decode b_F_event 12 = .ok (.ireturn, 1) := by decide +kernel
theorem d_F_event_13 : decode b_F_event 13 = .ok (.iload_n 2, 1) := by decide +kernel
theorem d_F_event_14 : decode b_F_event 14 = .ok (.iconst 0, 1) := by decide +kernel
theorem d_F_event_15 : decode b_F_event 15 = .ok (.bipush 10, 2) := by decide +kernel
theorem d_F_event_17 : decode b_F_event 17 = .ok (.invokestatic 46, 3) := by decide +kernel
theorem d_F_event_20 : decode b_F_event 20 = .ok (.ifCond .ne 6, 3) := by decide +kernel
theorem d_F_event_23 : decode b_F_event 23 = .ok (.bipush (-102), 2) := by decide +kernel
theorem d_F_event_25 : decode b_F_event 25 = .ok (.ireturn, 1) := by decide +kernel
theorem d_F_event_26 : decode b_F_event 26 = .ok (.aload_n 3, 1) := by decide +kernel
theorem d_F_event_27 : decode b_F_event 27 = .ok (.invokevirtual 72, 3) := by decide +kernel
theorem d_F_event_30 : decode b_F_event 30 = .ok (.ifCond .eq 16, 3) := by decide +kernel
theorem d_F_event_33 : decode b_F_event 33 = .ok (.aload_n 3, 1) := by decide +kernel
theorem d_F_event_34 : decode b_F_event 34 = .ok (.dup, 1) := by decide +kernel
theorem d_F_event_35 : decode b_F_event 35 = .ok (.getfield 91, 3) := by decide +kernel
theorem d_F_event_38 : decode b_F_event 38 = .ok (.iconst 1, 1) := by decide +kernel
theorem d_F_event_39 : decode b_F_event 39 = .ok (.iadd, 1) := by decide +kernel
theorem d_F_event_40 : decode b_F_event 40 = .ok (.putfield 91, 3) := by decide +kernel
theorem d_F_event_43 : decode b_F_event 43 = .ok (.bipush (-105), 2) := by decide +kernel
theorem d_F_event_45 : decode b_F_event 45 = .ok (.ireturn, 1) := by decide +kernel
theorem d_F_event_46 : decode b_F_event 46 = .ok (.aload_n 3, 1) := by decide +kernel
theorem d_F_event_47 : decode b_F_event 47 = .ok (.iload_n 2, 1) := by decide +kernel
theorem d_F_event_48 : decode b_F_event 48 = .ok (.invokevirtual 94, 3) := by decide +kernel
theorem d_F_event_51 : decode b_F_event 51 = .ok (.istore 4, 2) := by decide +kernel
theorem d_F_event_53 : decode b_F_event 53 = .ok (.iload 4, 2) := by decide +kernel
theorem d_F_event_55 : decode b_F_event 55 = .ok (.iconst (-1), 1) := by decide +kernel
theorem d_F_event_56 : decode b_F_event 56 = .ok (.if_icmp .ne 6, 3) := by decide +kernel
theorem d_F_event_59 : decode b_F_event 59 = .ok (.bipush (-103), 2) := by decide +kernel
theorem d_F_event_61 : decode b_F_event 61 = .ok (.ireturn, 1) := by decide +kernel
theorem d_F_event_62 : decode b_F_event 62 = .ok (.iload_n 2, 1) := by decide +kernel
theorem d_F_event_63 : decode b_F_event 63 = .ok (.iconst 2, 1) := by decide +kernel
theorem d_F_event_64 : decode b_F_event 64 = .ok (.if_icmp .ne 20, 3) := by decide +kernel
theorem d_F_event_67 : decode b_F_event 67 = .ok (.aload_n 3, 1) := by decide +kernel
theorem d_F_event_68 : decode b_F_event 68 = .ok (.getfield 97, 3) := by decide +kernel
theorem d_F_event_71 : decode b_F_event 71 = .ok (.ifCond .eq 13, 3) := by decide +kernel
theorem d_F_event_74 : decode b_F_event 74 = .ok (.aload_n 3, 1) := by decide +kernel
theorem d_F_event_75 : decode b_F_event 75 = .ok (.getfield 100, 3) := by decide +kernel
theorem d_F_event_78 : decode b_F_event 78 = .ok (.ifCond .ne 6, 3) := by decide +kernel
theorem d_F_event_81 : decode b_F_event 81 = .ok (.bipush (-106), 2) := by decide +kernel
theorem d_F_event_83 : decode b_F_event 83 = .ok (.ireturn, 1) := by decide +kernel
theorem d_F_event_84 : decode b_F_event 84 = .ok (.iload_n 2, 1) := by decide +kernel
theorem d_F_event_85 : decode b_F_event 85 = .ok (.iconst 4, 1) := by decide +kernel
theorem d_F_event_86 : decode b_F_event 86 = .ok (.if_icmp .ne 25, 3) := by decide +kernel
theorem d_F_event_89 : decode b_F_event 89 = .ok (.aload_n 3, 1) := by decide +kernel
theorem d_F_event_90 : decode b_F_event 90 = .ok (.getfield 103, 3) := by decide +kernel
theorem d_F_event_93 : decode b_F_event 93 = .ok (.iconst 4, 1) := by decide +kernel
theorem d_F_event_94 : decode b_F_event 94 = .ok (.if_icmp .ne 17, 3) := by decide +kernel
theorem d_F_event_97 : decode b_F_event 97 = .ok (.aload_n 0, 1) := by decide +kernel
theorem d_F_event_98 : decode b_F_event 98 = .ok (.aload_n 3, 1) := by decide +kernel
theorem d_F_event_99 : decode b_F_event 99 = .ok (.getfield 106, 3) := by decide +kernel
theorem d_F_event_102 : decode b_F_event 102 = .ok (.invokevirtual 109, 3) := by decide +kernel
theorem d_F_event_105 : decode b_F_event 105 = .ok (.ifCond .eq 6, 3) := by decide +kernel
theorem d_F_event_108 : decode b_F_event 108 = .ok (.bipush (-107), 2) := by decide +kernel
theorem d_F_event_110 : decode b_F_event 110 = .ok (.ireturn, 1) := by decide +kernel
theorem d_F_event_111 : decode b_F_event 111 = .ok (.aload_n 3, 1) := by decide +kernel
theorem d_F_event_112 : decode b_F_event 112 = .ok (.iload_n 2, 1) := by decide +kernel
theorem d_F_event_113 : decode b_F_event 113 = .ok (.iload 4, 2) := by decide +kernel
theorem d_F_event_115 : decode b_F_event 115 = .ok (.invokevirtual 112, 3) := by decide +kernel
theorem d_F_event_118 : decode b_F_event 118 = .ok (.iload 4, 2) := by decide +kernel
theorem d_F_event_120 : decode b_F_event 120 = .ok (.ireturn, 1) := by decide +kernel
theorem d_F_address_0 : decode b_F_address 0 = .ok (.aload_n 0, 1) := by decide +kernel
theorem d_F_address_1 : decode b_F_address 1 = .ok (.iload_n 1, 1) := by decide +kernel
theorem d_F_address_2 : decode b_F_address 2 = .ok (.invokevirtual 64, 3) := by decide +kernel
theorem d_F_address_5 : decode b_F_address 5 = .ok (.astore 4, 2) := by decide +kernel
theorem d_F_address_7 : decode b_F_address 7 = .ok (.aload 4, 2) := by decide +kernel
theorem d_F_address_9 : decode b_F_address 9 = .ok (.ifnonnull 6, 3) := by decide +kernel
theorem d_F_address_12 : decode b_F_address 12 = .ok (.bipush (-101), 2) := by decide +kernel
theorem d_F_address_14 : decode b_F_address 14 = .ok (.ireturn, 1) := by decide +kernel
theorem d_F_address_15 : decode b_F_address 15 = .ok (.iload_n 2, 1) := by decide +kernel
theorem d_F_address_16 : decode b_F_address 16 = .ok (.iconst 0, 1) := by decide +kernel
theorem d_F_address_17 : decode b_F_address 17 = .ok (.iconst 1, 1) := by decide +kernel
theorem d_F_address_18 : decode b_F_address 18 = .ok (.invokestatic 46, 3) := by decide +kernel
theorem d_F_address_21 : decode b_F_address 21 = .ok (.ifCond .eq 14, 3) := by decide +kernel
theorem d_F_address_24 : decode b_F_address 24 = .ok (.iload_n 3, 1) := by decide +kernel
theorem d_F_address_25 : decode b_F_address 25 = .ok (.iconst 0, 1) := by decide +kernel
theorem d_F_address_26 : decode b_F_address 26 = .ok (.sipush 9999, 3) := by decide +kernel
theorem d_F_address_29 : decode b_F_address 29 = .ok (.invokestatic 46, 3) := by decide +kernel
theorem d_F_address_32 : decode b_F_address 32 = .ok (.ifCond .ne 6, 3) := by decide +kernel
theorem d_F_address_35 : decode b_F_address 35 = .ok (.bipush (-102), 2) := by decide +kernel
theorem d_F_address_37 : decode b_F_address 37 = .ok (.ireturn, 1) := by decide +kernel
theorem d_F_address_38 : decode b_F_address 38 = .ok (.aload 4, 2) := by decide +kernel
theorem d_F_address_40 : decode b_F_address 40 = .ok (.invokevirtual 72, 3) := by decide +kernel
theorem d_F_address_43 : decode b_F_address 43 = .ok (.ifCond .ne 12, 3) := by decide +kernel
theorem d_F_address_46 : decode b_F_address 46 = .ok (.aload 4, 2) := by decide +kernel
theorem d_F_address_48 : decode b_F_address 48 = .ok (.getfield 116, 3) := by decide +kernel
theorem d_F_address_51 : decode b_F_address 51 = .ok (.iconst (-1), 1) := by decide +kernel
theorem d_F_address_52 : decode b_F_address 52 = .ok (.if_icmp .eq 6, 3) := by decide +kernel
theorem d_F_address_55 : decode b_F_address 55 = .ok (.bipush (-103), 2) := by decide +kernel
theorem d_F_address_57 : decode b_F_address 57 = .ok (.ireturn, 1) := by decide +kernel
theorem d_F_address_58 : decode b_F_address 58 = .ok (.iload_n 2, 1) := by decide +kernel
theorem d_F_address_59 : decode b_F_address 59 = .ok (.ifCond .ne 19, 3) := by decide +kernel
theorem d_F_address_62 : decode b_F_address 62 = .ok (.aload 4, 2) := by decide +kernel
theorem d_F_address_64 : decode b_F_address 64 = .ok (.getfield 119, 3) := by decide +kernel
theorem d_F_address_67 : decode b_F_address 67 = .ok (.istore 5, 2) := by decide +kernel
theorem d_F_address_69 : decode b_F_address 69 = .ok (.aload 4, 2) := by decide +kernel
theorem d_F_address_71 : decode b_F_address 71 = .ok (.iload_n 3, 1) := by decide +kernel
theorem d_F_address_72 : decode b_F_address 72 = .ok (.putfield 119, 3) := by decide +kernel
theorem d_F_address_75 : decode b_F_address 75 = .ok (.goto 16, 3) := by decide +kernel
theorem d_F_address_78 : decode b_F_address 78 = .ok (.aload 4, 2) := by decide +kernel
theorem d_F_address_80 : decode b_F_address 80 = .ok (.getfield 116, 3) := by decide +kernel
theorem d_F_address_83 : decode b_F_address 83 = .ok (.istore 5, 2) := by decide +kernel
theorem d_F_address_85 : decode b_F_address 85 = .ok (.aload 4, 2) := by decide +kernel
theorem d_F_address_87 : decode b_F_address 87 = .ok (.iload_n 3, 1) := by decide +kernel
theorem d_F_address_88 : decode b_F_address 88 = .ok (.putfield 116, 3) := by decide +kernel
theorem d_F_address_91 : decode b_F_address 91 = .ok (.iload 5, 2) := by decide +kernel
theorem d_F_address_93 : decode b_F_address 93 = .ok (.ireturn, 1) := by decide +kernel
theorem d_F_abroad_0 : decode b_F_abroad 0 = .ok (.aload_n 0, 1) := by decide +kernel
theorem d_F_abroad_1 : decode b_F_abroad 1 = .ok (.iload_n 1, 1) := by decide +kernel
theorem d_F_abroad_2 : decode b_F_abroad 2 = .ok (.invokevirtual 64, 3) := by decide +kernel
theorem d_F_abroad_5 : decode b_F_abroad 5 = .ok (.astore_n 3, 1) := by decide +kernel
theorem d_F_abroad_6 : decode b_F_abroad 6 = .ok (.aload_n 3, 1) := by decide +kernel
theorem d_F_abroad_7 : decode b_F_abroad 7 = .ok (.ifnonnull 6, 3) := by decide +kernel
theorem d_F_abroad_10 : decode b_F_abroad 10 = .ok (.bipush (-101), 2) := by decide +kernel
theorem d_F_abroad_12 : decode b_F_abroad 12 = .ok (.ireturn, 1) := by decide +kernel
theorem d_F_abroad_13 : decode b_F_abroad 13 = .ok (.iload_n 2, 1) := by decide +kernel
theorem d_F_abroad_14 : decode b_F_abroad 14 = .ok (.iconst 1, 1) := by decide +kernel
theorem d_F_abroad_15 : decode b_F_abroad 15 = .ok (.bipush 30, 2) := by decide +kernel
theorem d_F_abroad_17 : decode b_F_abroad 17 = .ok (.invokestatic 46, 3) := by decide +kernel
theorem d_F_abroad_20 : decode b_F_abroad 20 = .ok (.ifCond .ne 6, 3) := by decide +kernel
theorem d_F_abroad_23 : decode b_F_abroad 23 = .ok (.bipush (-102), 2) := by decide +kernel
theorem d_F_abroad_25 : decode b_F_abroad 25 = .ok (.ireturn, 1) := by decide +kernel
theorem d_F_abroad_26 : decode b_F_abroad 26 = .ok (.aload_n 3, 1) := by decide +kernel
theorem d_F_abroad_27 : decode b_F_abroad 27 = .ok (.getfield 97, 3) := by decide +kernel
theorem d_F_abroad_30 : decode b_F_abroad 30 = .ok (.ifCond .ne 18, 3) := by decide +kernel
theorem d_F_abroad_33 : decode b_F_abroad 33 = .ok (.aload_n 3, 1) := by decide +kernel
theorem d_F_abroad_34 : decode b_F_abroad 34 = .ok (.getfield 103, 3) := by decide +kernel
theorem d_F_abroad_37 : decode b_F_abroad 37 = .ok (.ifCond .eq 14, 3) := by decide +kernel
theorem d_F_abroad_40 : decode b_F_abroad 40 = .ok (.aload_n 3, 1) := by decide +kernel
theorem d_F_abroad_41 : decode b_F_abroad 41 = .ok (.getfield 103, 3) := by decide +kernel
theorem d_F_abroad_44 : decode b_F_abroad 44 = .ok (.iconst 1, 1) := by decide +kernel
theorem d_F_abroad_45 : decode b_F_abroad 45 = .ok (.if_icmp .eq 6, 3) := by decide +kernel
theorem d_F_abroad_48 : decode b_F_abroad 48 = .ok (.bipush (-103), 2) := by decide +kernel
theorem d_F_abroad_50 : decode b_F_abroad 50 = .ok (.ireturn, 1) := by decide +kernel
theorem d_F_abroad_51 : decode b_F_abroad 51 = .ok (.aload_n 3, 1) := by decide +kernel
theorem d_F_abroad_52 : decode b_F_abroad 52 = .ok (.iload_n 2, 1) := by decide +kernel
theorem d_F_abroad_53 : decode b_F_abroad 53 = .ok (.putfield 97, 3) := by decide +kernel
theorem d_F_abroad_56 : decode b_F_abroad 56 = .ok (.iconst 1, 1) := by decide +kernel
theorem d_F_abroad_57 : decode b_F_abroad 57 = .ok (.ireturn, 1) := by decide +kernel
theorem d_F_contents_0 : decode b_F_contents 0 = .ok (.aload_n 0, 1) := by decide +kernel
theorem d_F_contents_1 : decode b_F_contents 1 = .ok (.iload_n 1, 1) := by decide +kernel
theorem d_F_contents_2 : decode b_F_contents 2 = .ok (.invokevirtual 64, 3) := by decide +kernel
theorem d_F_contents_5 : decode b_F_contents 5 = .ok (.astore 4, 2) := by decide +kernel
theorem d_F_contents_7 : decode b_F_contents 7 = .ok (.aload 4, 2) := by decide +kernel
theorem d_F_contents_9 : decode b_F_contents 9 = .ok (.ifnonnull 6, 3) := by decide +kernel
theorem d_F_contents_12 : decode b_F_contents 12 = .ok (.bipush (-101), 2) := by decide +kernel
theorem d_F_contents_14 : decode b_F_contents 14 = .ok (.ireturn, 1) := by decide +kernel
theorem d_F_contents_15 : decode b_F_contents 15 = .ok (.iload_n 2, 1) := by decide +kernel
theorem d_F_contents_16 : decode b_F_contents 16 = .ok (.iconst 0, 1) := by decide +kernel
theorem d_F_contents_17 : decode b_F_contents 17 = .ok (.bipush 99, 2) := by decide +kernel
theorem d_F_contents_19 : decode b_F_contents 19 = .ok (.invokestatic 46, 3) := by decide +kernel
theorem d_F_contents_22 : decode b_F_contents 22 = .ok (.ifCond .eq 13, 3) := by decide +kernel
theorem d_F_contents_25 : decode b_F_contents 25 = .ok (.iload_n 3, 1) := by decide +kernel
theorem d_F_contents_26 : decode b_F_contents 26 = .ok (.iconst 0, 1) := by decide +kernel
theorem d_F_contents_27 : decode b_F_contents 27 = .ok (.ldc 50, 2) := by decide +kernel
theorem d_F_contents_29 : decode b_F_contents 29 = .ok (.invokestatic 46, 3) := by decide +kernel
theorem d_F_contents_32 : decode b_F_contents 32 = .ok (.ifCond .ne 6, 3) := by decide +kernel
theorem d_F_contents_35 : decode b_F_contents 35 = .ok (.bipush (-102), 2) := by decide +kernel
theorem d_F_contents_37 : decode b_F_contents 37 = .ok (.ireturn, 1) := by decide +kernel
theorem d_F_contents_38 : decode b_F_contents 38 = .ok (.aload 4, 2) := by decide +kernel
theorem d_F_contents_40 : decode b_F_contents 40 = .ok (.getfield 97, 3) := by decide +kernel
theorem d_F_contents_43 : decode b_F_contents 43 = .ok (.ifCond .eq 11, 3) := by decide +kernel
theorem d_F_contents_46 : decode b_F_contents 46 = .ok (.aload 4, 2) := by decide +kernel
theorem d_F_contents_48 : decode b_F_contents 48 = .ok (.invokevirtual 72, 3) := by decide +kernel
theorem d_F_contents_51 : decode b_F_contents 51 = .ok (.ifCond .eq 6, 3) := by decide +kernel
theorem d_F_contents_54 : decode b_F_contents 54 = .ok (.bipush (-103), 2) := by decide +kernel
theorem d_F_contents_56 : decode b_F_contents 56 = .ok (.ireturn, 1) := by decide +kernel
theorem d_F_contents_57 : decode b_F_contents 57 = .ok (.aload 4, 2) := by decide +kernel
theorem d_F_contents_59 : decode b_F_contents 59 = .ok (.getfield 100, 3) := by decide +kernel
theorem d_F_contents_62 : decode b_F_contents 62 = .ok (.iconst 4, 1) := by decide +kernel
theorem d_F_contents_63 : decode b_F_contents 63 = .ok (.if_icmp .lt 6, 3) := by decide +kernel
theorem d_F_contents_66 : decode b_F_contents 66 = .ok (.bipush (-104), 2) := by decide +kernel
theorem d_F_contents_68 : decode b_F_contents 68 = .ok (.ireturn, 1) := by decide +kernel
theorem d_F_contents_69 : decode b_F_contents 69 = .ok (.aload 4, 2) := by decide +kernel
theorem d_F_contents_71 : decode b_F_contents 71 = .ok (.getfield 122, 3) := by decide +kernel
theorem d_F_contents_74 : decode b_F_contents 74 = .ok (.aload 4, 2) := by decide +kernel
theorem d_F_contents_76 : decode b_F_contents 76 = .ok (.getfield 100, 3) := by decide +kernel
theorem d_F_contents_79 : decode b_F_contents 79 = .ok (.iload_n 2, 1) := by decide +kernel
theorem d_F_contents_80 : decode b_F_contents 80 = .ok (.iastore, 1) := by decide +kernel
theorem d_F_contents_81 : decode b_F_contents 81 = .ok (.aload 4, 2) := by decide +kernel
theorem d_F_contents_83 : decode b_F_contents 83 = .ok (.getfield 125, 3) := by decide +kernel
theorem d_F_contents_86 : decode b_F_contents 86 = .ok (.aload 4, 2) := by decide +kernel
theorem d_F_contents_88 : decode b_F_contents 88 = .ok (.getfield 100, 3) := by decide +kernel
theorem d_F_contents_91 : decode b_F_contents 91 = .ok (.iload_n 3, 1) := by decide +kernel
theorem d_F_contents_92 : decode b_F_contents 92 = .ok (.iastore, 1) := by decide +kernel
theorem d_F_contents_93 : decode b_F_contents 93 = .ok (.aload 4, 2) := by decide +kernel
theorem d_F_contents_95 : decode b_F_contents 95 = .ok (.dup, 1) := by decide +kernel
theorem d_F_contents_96 : decode b_F_contents 96 = .ok (.getfield 100, 3) := by decide +kernel
theorem d_F_contents_99 : decode b_F_contents 99 = .ok (.iconst 1, 1) := by decide +kernel
theorem d_F_contents_100 : decode b_F_contents 100 = .ok (.iadd, 1) := by decide +kernel
theorem d_F_contents_101 : decode b_F_contents 101 = .ok (.putfield 100, 3) := by decide +kernel
theorem d_F_contents_104 : decode b_F_contents 104 = .ok (.aload 4, 2) := by decide +kernel
theorem d_F_contents_106 : decode b_F_contents 106 = .ok (.getfield 100, 3) := by decide +kernel
theorem d_F_contents_109 : decode b_F_contents 109 = .ok (.ireturn, 1) := by decide +kernel
theorem d_F_join_0 : decode b_F_join 0 = .ok (.aload_n 0, 1) := by decide +kernel
theorem d_F_join_1 : decode b_F_join 1 = .ok (.iload_n 1, 1) := by decide +kernel
theorem d_F_join_2 : decode b_F_join 2 = .ok (.invokevirtual 64, 3) := by decide +kernel
theorem d_F_join_5 : decode b_F_join 5 = .ok (.astore 4, 2) := by decide +kernel
theorem d_F_join_7 : decode b_F_join 7 = .ok (.aload 4, 2) := by decide +kernel
theorem d_F_join_9 : decode b_F_join 9 = .ok (.ifnonnull 6, 3) := by decide +kernel
theorem d_F_join_12 : decode b_F_join 12 = .ok (.bipush (-101), 2) := by decide +kernel
theorem d_F_join_14 : decode b_F_join 14 = .ok (.ireturn, 1) := by decide +kernel
theorem d_F_join_15 : decode b_F_join 15 = .ok (.iload_n 2, 1) := by decide +kernel
theorem d_F_join_16 : decode b_F_join 16 = .ok (.iconst 1, 1) := by decide +kernel
theorem d_F_join_17 : decode b_F_join 17 = .ok (.bipush 30, 2) := by decide +kernel
theorem d_F_join_19 : decode b_F_join 19 = .ok (.invokestatic 46, 3) := by decide +kernel
theorem d_F_join_22 : decode b_F_join 22 = .ok (.ifCond .ne 6, 3) := by decide +kernel
theorem d_F_join_25 : decode b_F_join 25 = .ok (.bipush (-102), 2) := by decide +kernel
theorem d_F_join_27 : decode b_F_join 27 = .ok (.ireturn, 1) := by decide +kernel
theorem d_F_join_28 : decode b_F_join 28 = .ok (.aload 4, 2) := by decide +kernel
theorem d_F_join_30 : decode b_F_join 30 = .ok (.getfield 106, 3) := by decide +kernel
theorem d_F_join_33 : decode b_F_join 33 = .ok (.ifCond .ne 11, 3) := by decide +kernel
theorem d_F_join_36 : decode b_F_join 36 = .ok (.aload 4, 2) := by decide +kernel
theorem d_F_join_38 : decode b_F_join 38 = .ok (.invokevirtual 72, 3) := by decide +kernel
theorem d_F_join_41 : decode b_F_join 41 = .ok (.ifCond .eq 6, 3) := by decide +kernel
theorem d_F_join_44 : decode b_F_join 44 = .ok (.bipush (-103), 2) := by decide +kernel
theorem d_F_join_46 : decode b_F_join 46 = .ok (.ireturn, 1) := by decide +kernel
theorem d_F_join_47 : decode b_F_join 47 = .ok (.aload_n 0, 1) := by decide +kernel
theorem d_F_join_48 : decode b_F_join 48 = .ok (.getfield 28, 3) := by decide +kernel
theorem d_F_join_51 : decode b_F_join 51 = .ok (.iload_n 2, 1) := by decide +kernel
theorem d_F_join_52 : decode b_F_join 52 = .ok (.iaload, 1) := by decide +kernel
theorem d_F_join_53 : decode b_F_join 53 = .ok (.ifCond .ne 10, 3) := by decide +kernel
theorem d_F_join_56 : decode b_F_join 56 = .ok (.aload_n 0, 1) := by decide +kernel
theorem d_F_join_57 : decode b_F_join 57 = .ok (.getfield 32, 3) := by decide +kernel
theorem d_F_join_60 : decode b_F_join 60 = .ok (.iload_n 2, 1) := by decide +kernel
theorem d_F_join_61 : decode b_F_join 61 = .ok (.iload_n 3, 1) := by decide +kernel
theorem d_F_join_62 : decode b_F_join 62 = .ok (.bastore, 1) := by decide +kernel
theorem d_F_join_63 : decode b_F_join 63 = .ok (.aload 4, 2) := by decide +kernel
theorem d_F_join_65 : decode b_F_join 65 = .ok (.iload_n 2, 1) := by decide +kernel
theorem d_F_join_66 : decode b_F_join 66 = .ok (.putfield 106, 3) := by decide +kernel
theorem d_F_join_69 : decode b_F_join 69 = .ok (.aload_n 0, 1) := by decide +kernel
theorem d_F_join_70 : decode b_F_join 70 = .ok (.getfield 28, 3) := by decide +kernel
theorem d_F_join_73 : decode b_F_join 73 = .ok (.iload_n 2, 1) := by decide +kernel
theorem d_F_join_74 : decode b_F_join 74 = .ok (.dup2, 1) := by decide +kernel
theorem d_F_join_75 : decode b_F_join 75 = .ok (.iaload, 1) := by decide +kernel
theorem d_F_join_76 : decode b_F_join 76 = .ok (.iconst 1, 1) := by decide +kernel
theorem d_F_join_77 : decode b_F_join 77 = .ok (.iadd, 1) := by decide +kernel
theorem d_F_join_78 : decode b_F_join 78 = .ok (.iastore, 1) := by decide +kernel
theorem d_F_join_79 : decode b_F_join 79 = .ok (.aload_n 0, 1) := by decide +kernel
theorem d_F_join_80 : decode b_F_join 80 = .ok (.getfield 28, 3) := by decide +kernel
theorem d_F_join_83 : decode b_F_join 83 = .ok (.iload_n 2, 1) := by decide +kernel
theorem d_F_join_84 : decode b_F_join 84 = .ok (.iaload, 1) := by decide +kernel
theorem d_F_join_85 : decode b_F_join 85 = .ok (.ireturn, 1) := by decide +kernel
theorem d_F_bulk_0 : decode b_F_bulk 0 = .ok (.aload_n 0, 1) := by decide +kernel
theorem d_F_bulk_1 : decode b_F_bulk 1 = .ok (.iload_n 1, 1) := by decide +kernel
theorem d_F_bulk_2 : decode b_F_bulk 2 = .ok (.invokevirtual 64, 3) := by decide +kernel
theorem d_F_bulk_5 : decode b_F_bulk 5 = .ok (.astore_n 3, 1) := by decide +kernel
theorem d_F_bulk_6 : decode b_F_bulk 6 = .ok (.aload_n 3, 1) := by decide +kernel
theorem d_F_bulk_7 : decode b_F_bulk 7 = .ok (.ifnonnull 6, 3) := by decide +kernel
theorem d_F_bulk_10 : decode b_F_bulk 10 = .ok (.bipush (-101), 2) := by decide +kernel
theorem d_F_bulk_12 : decode b_F_bulk 12 = .ok (.ireturn, 1) := by decide +kernel
theorem d_F_bulk_13 : decode b_F_bulk 13 = .ok (.iload_n 2, 1) := by decide +kernel
theorem d_F_bulk_14 : decode b_F_bulk 14 = .ok (.iconst 1, 1) := by decide +kernel
theorem d_F_bulk_15 : decode b_F_bulk 15 = .ok (.bipush 20, 2) := by decide +kernel
theorem d_F_bulk_17 : decode b_F_bulk 17 = .ok (.invokestatic 46, 3) := by decide +kernel
theorem d_F_bulk_20 : decode b_F_bulk 20 = .ok (.ifCond .ne 6, 3) := by decide +kernel
theorem d_F_bulk_23 : decode b_F_bulk 23 = .ok (.bipush (-102), 2) := by decide +kernel
theorem d_F_bulk_25 : decode b_F_bulk 25 = .ok (.ireturn, 1) := by decide +kernel
theorem d_F_bulk_26 : decode b_F_bulk 26 = .ok (.aload_n 3, 1) := by decide +kernel
theorem d_F_bulk_27 : decode b_F_bulk 27 = .ok (.getfield 128, 3) := by decide +kernel
theorem d_F_bulk_30 : decode b_F_bulk 30 = .ok (.ifCond .eq 6, 3) := by decide +kernel
theorem d_F_bulk_33 : decode b_F_bulk 33 = .ok (.bipush (-103), 2) := by decide +kernel
theorem d_F_bulk_35 : decode b_F_bulk 35 = .ok (.ireturn, 1) := by decide +kernel
theorem d_F_bulk_36 : decode b_F_bulk 36 = .ok (.aload_n 3, 1) := by decide +kernel
theorem d_F_bulk_37 : decode b_F_bulk 37 = .ok (.iload_n 2, 1) := by decide +kernel
theorem d_F_bulk_38 : decode b_F_bulk 38 = .ok (.putfield 128, 3) := by decide +kernel
theorem d_F_bulk_41 : decode b_F_bulk 41 = .ok (.aload_n 0, 1) := by decide +kernel
theorem d_F_bulk_42 : decode b_F_bulk 42 = .ok (.getfield 36, 3) := by decide +kernel
theorem d_F_bulk_45 : decode b_F_bulk 45 = .ok (.iload_n 2, 1) := by decide +kernel
theorem d_F_bulk_46 : decode b_F_bulk 46 = .ok (.dup2, 1) := by decide +kernel
theorem d_F_bulk_47 : decode b_F_bulk 47 = .ok (.iaload, 1) := by decide +kernel
theorem d_F_bulk_48 : decode b_F_bulk 48 = .ok (.iconst 1, 1) := by decide +kernel
theorem d_F_bulk_49 : decode b_F_bulk 49 = .ok (.iadd, 1) := by decide +kernel
theorem d_F_bulk_50 : decode b_F_bulk 50 = .ok (.iastore, 1) := by decide +kernel
theorem d_F_bulk_51 : decode b_F_bulk 51 = .ok (.aload_n 0, 1) := by decide +kernel
theorem d_F_bulk_52 : decode b_F_bulk 52 = .ok (.getfield 36, 3) := by decide +kernel
theorem d_F_bulk_55 : decode b_F_bulk 55 = .ok (.iload_n 2, 1) := by decide +kernel
theorem d_F_bulk_56 : decode b_F_bulk 56 = .ok (.iaload, 1) := by decide +kernel
theorem d_F_bulk_57 : decode b_F_bulk 57 = .ok (.ireturn, 1) := by decide +kernel
theorem d_F_open_0 : decode b_F_open 0 = .ok (.aload_n 0, 1) := by decide +kernel
theorem d_F_open_1 : decode b_F_open 1 = .ok (.iload_n 1, 1) := by decide +kernel
theorem d_F_open_2 : decode b_F_open 2 = .ok (.invokevirtual 64, 3) := by decide +kernel
theorem d_F_open_5 : decode b_F_open 5 = .ok (.astore 4, 2) := by decide +kernel
theorem d_F_open_7 : decode b_F_open 7 = .ok (.aload 4, 2) := by decide +kernel
theorem d_F_open_9 : decode b_F_open 9 = .ok (.ifnonnull 6, 3) := by decide +kernel
theorem d_F_open_12 : decode b_F_open 12 = .ok (.bipush (-101), 2) := by decide +kernel
theorem d_F_open_14 : decode b_F_open 14 = .ok (.ireturn, 1) := by decide +kernel
theorem d_F_open_15 : decode b_F_open 15 = .ok (.iload_n 2, 1) := by decide +kernel
theorem d_F_open_16 : decode b_F_open 16 = .ok (.iconst 0, 1) := by decide +kernel
theorem d_F_open_17 : decode b_F_open 17 = .ok (.bipush 19, 2) := by decide +kernel
theorem d_F_open_19 : decode b_F_open 19 = .ok (.invokestatic 46, 3) := by decide +kernel
theorem d_F_open_22 : decode b_F_open 22 = .ok (.ifCond .eq 13, 3) := by decide +kernel
theorem d_F_open_25 : decode b_F_open 25 = .ok (.iload_n 3, 1) := by decide +kernel
theorem d_F_open_26 : decode b_F_open 26 = .ok (.iconst 0, 1) := by decide +kernel
theorem d_F_open_27 : decode b_F_open 27 = .ok (.bipush 19, 2) := by decide +kernel
theorem d_F_open_29 : decode b_F_open 29 = .ok (.invokestatic 46, 3) := by decide +kernel
theorem d_F_open_32 : decode b_F_open 32 = .ok (.ifCond .ne 6, 3) := by decide +kernel
theorem d_F_open_35 : decode b_F_open 35 = .ok (.bipush (-102), 2) := by decide +kernel
theorem d_F_open_37 : decode b_F_open 37 = .ok (.ireturn, 1) := by decide +kernel
theorem d_F_open_38 : decode b_F_open 38 = .ok (.aload 4, 2) := by decide +kernel
theorem d_F_open_40 : decode b_F_open 40 = .ok (.getfield 103, 3) := by decide +kernel
theorem d_F_open_43 : decode b_F_open 43 = .ok (.bipush 8, 2) := by decide +kernel
theorem d_F_open_45 : decode b_F_open 45 = .ok (.if_icmp .ne 11, 3) := by decide +kernel
theorem d_F_open_48 : decode b_F_open 48 = .ok (.aload 4, 2) := by decide +kernel
theorem d_F_open_50 : decode b_F_open 50 = .ok (.getfield 131, 3) := by decide +kernel
theorem d_F_open_53 : decode b_F_open 53 = .ok (.ifCond .eq 6, 3) := by decide +kernel
theorem d_F_open_56 : decode b_F_open 56 = .ok (.bipush (-103), 2) := by decide +kernel
theorem d_F_open_58 : decode b_F_open 58 = .ok (.ireturn, 1) := by decide +kernel
theorem d_F_open_59 : decode b_F_open 59 = .ok (.iload_n 2, 1) := by decide +kernel
theorem d_F_open_60 : decode b_F_open 60 = .ok (.iload_n 3, 1) := by decide +kernel
theorem d_F_open_61 : decode b_F_open 61 = .ok (.if_icmp .ne 6, 3) := by decide +kernel
theorem d_F_open_64 : decode b_F_open 64 = .ok (.bipush (-108), 2) := by decide +kernel
theorem d_F_open_66 : decode b_F_open 66 = .ok (.ireturn, 1) := by decide +kernel
theorem d_F_open_67 : decode b_F_open 67 = .ok (.aload 4, 2) := by decide +kernel
theorem d_F_open_69 : decode b_F_open 69 = .ok (.iconst 1, 1) := by decide +kernel
theorem d_F_open_70 : decode b_F_open 70 = .ok (.putfield 103, 3) := by decide +kernel
theorem d_F_open_73 : decode b_F_open 73 = .ok (.aload 4, 2) := by decide +kernel
theorem d_F_open_75 : decode b_F_open 75 = .ok (.iconst (-1), 1) := by decide +kernel
theorem d_F_open_76 : decode b_F_open 76 = .ok (.putfield 116, 3) := by decide +kernel
theorem d_F_open_79 : decode b_F_open 79 = .ok (.aload 4, 2) := by decide +kernel
theorem d_F_open_81 : decode b_F_open 81 = .ok (.bipush 100, 2) := by decide +kernel
theorem d_F_open_83 : decode b_F_open 83 = .ok (.iload_n 2, 1) := by decide +kernel
theorem d_F_open_84 : decode b_F_open 84 = .ok (.imul, 1) := by decide +kernel
theorem d_F_open_85 : decode b_F_open 85 = .ok (.iload_n 3, 1) := by decide +kernel
theorem d_F_open_86 : decode b_F_open 86 = .ok (.iadd, 1) := by decide +kernel
theorem d_F_open_87 : decode b_F_open 87 = .ok (.putfield 135, 3) := by decide +kernel
theorem d_F_open_90 : decode b_F_open 90 = .ok (.iconst 1, 1) := by decide +kernel
theorem d_F_open_91 : decode b_F_open 91 = .ok (.ireturn, 1) := by decide +kernel
theorem d_F_correct_0 : decode b_F_correct 0 = .ok (.aload_n 0, 1) := by decide +kernel
theorem d_F_correct_1 : decode b_F_correct 1 = .ok (.iload_n 1, 1) := by decide +kernel
theorem d_F_correct_2 : decode b_F_correct 2 = .ok (.invokevirtual 64, 3) := by decide +kernel
theorem d_F_correct_5 : decode b_F_correct 5 = .ok (.astore 5, 2) := by decide +kernel
theorem d_F_correct_7 : decode b_F_correct 7 = .ok (.aload 5, 2) := by decide +kernel
theorem d_F_correct_9 : decode b_F_correct 9 = .ok (.ifnonnull 6, 3) := by decide +kernel
theorem d_F_correct_12 : decode b_F_correct 12 = .ok (.bipush (-101), 2) := by decide +kernel
theorem d_F_correct_14 : decode b_F_correct 14 = .ok (.ireturn, 1) := by decide +kernel
theorem d_F_correct_15 : decode b_F_correct 15 = .ok (.iload_n 2, 1) := by decide +kernel
theorem d_F_correct_16 : decode b_F_correct 16 = .ok (.iload_n 3, 1) := by decide +kernel
theorem d_F_correct_17 : decode b_F_correct 17 = .ok (.invokestatic 138, 3) := by decide +kernel
theorem d_F_correct_20 : decode b_F_correct 20 = .ok (.ifCond .eq 14, 3) := by decide +kernel
theorem d_F_correct_23 : decode b_F_correct 23 = .ok (.iload 4, 2) := by decide +kernel
theorem d_F_correct_25 : decode b_F_correct 25 = .ok (.iconst 1, 1) := by decide +kernel
theorem d_F_correct_26 : decode b_F_correct 26 = .ok (.bipush 9, 2) := by decide +kernel
theorem d_F_correct_28 : decode b_F_correct 28 = .ok (.invokestatic 46, 3) := by decide +kernel
theorem d_F_correct_31 : decode b_F_correct 31 = .ok (.ifCond .ne 6, 3) := by decide +kernel
theorem d_F_correct_34 : decode b_F_correct 34 = .ok (.bipush (-102), 2) := by decide +kernel
theorem d_F_correct_36 : decode b_F_correct 36 = .ok (.ireturn, 1) := by decide +kernel
theorem d_F_correct_37 : decode b_F_correct 37 = .ok (.aload 5, 2) := by decide +kernel
theorem d_F_correct_39 : decode b_F_correct 39 = .ok (.iload_n 2, 1) := by decide +kernel
theorem d_F_correct_40 : decode b_F_correct 40 = .ok (.iload_n 3, 1) := by decide +kernel
theorem d_F_correct_41 : decode b_F_correct 41 = .ok (.invokevirtual 142, 3) := by decide +kernel
theorem d_F_correct_44 : decode b_F_correct 44 = .ok (.ifCond .eq 6, 3) := by decide +kernel
theorem d_F_correct_47 : decode b_F_correct 47 = .ok (.bipush (-103), 2) := by decide +kernel
theorem d_F_correct_49 : decode b_F_correct 49 = .ok (.ireturn, 1) := by decide +kernel
theorem d_F_correct_50 : decode b_F_correct 50 = .ok (.aload_n 0, 1) := by decide +kernel
theorem d_F_correct_51 : decode b_F_correct 51 = .ok (.getfield 25, 3) := by decide +kernel
theorem d_F_correct_54 : decode b_F_correct 54 = .ok (.sipush 200, 3) := by decide +kernel
theorem d_F_correct_57 : decode b_F_correct 57 = .ok (.if_icmp .lt 6, 3) := by decide +kernel
theorem d_F_correct_60 : decode b_F_correct 60 = .ok (.bipush (-104), 2) := by decide +kernel
theorem d_F_correct_62 : decode b_F_correct 62 = .ok (.ireturn, 1) := by decide +kernel
theorem d_F_correct_63 : decode b_F_correct 63 = .ok (.iload_n 2, 1) := by decide +kernel
theorem d_F_correct_64 : decode b_F_correct 64 = .ok (.iconst 1, 1) := by decide +kernel
theorem d_F_correct_65 : decode b_F_correct 65 = .ok (.if_icmp .ne 15, 3) := by decide +kernel
theorem d_F_correct_68 : decode b_F_correct 68 = .ok (.iload_n 3, 1) := by decide +kernel
theorem d_F_correct_69 : decode b_F_correct 69 = .ok (.getstatic 51, 3) := by decide +kernel
theorem d_F_correct_72 : decode b_F_correct 72 = .ok (.iconst 3, 1) := by decide +kernel
theorem d_F_correct_73 : decode b_F_correct 73 = .ok (.iaload, 1) := by decide +kernel
theorem d_F_correct_74 : decode b_F_correct 74 = .ok (.if_icmp .le 6, 3) := by decide +kernel
theorem d_F_correct_77 : decode b_F_correct 77 = .ok (.bipush (-109), 2) := by decide +kernel
theorem d_F_correct_79 : decode b_F_correct 79 = .ok (.ireturn, 1) := by decide +kernel
theorem d_F_correct_80 : decode b_F_correct 80 = .ok (.iload_n 2, 1) := by decide +kernel
theorem d_F_correct_81 : decode b_F_correct 81 = .ok (.iconst 2, 1) := by decide +kernel
theorem d_F_correct_82 : decode b_F_correct 82 = .ok (.if_icmp .ne 15, 3) := by decide +kernel
theorem d_F_correct_85 : decode b_F_correct 85 = .ok (.iload_n 3, 1) := by decide +kernel
theorem d_F_correct_86 : decode b_F_correct 86 = .ok (.getstatic 54, 3) := by decide +kernel
theorem d_F_correct_89 : decode b_F_correct 89 = .ok (.iconst 3, 1) := by decide +kernel
theorem d_F_correct_90 : decode b_F_correct 90 = .ok (.iaload, 1) := by decide +kernel
theorem d_F_correct_91 : decode b_F_correct 91 = .ok (.if_icmp .le 6, 3) := by decide +kernel
theorem d_F_correct_94 : decode b_F_correct 94 = .ok (.bipush (-110), 2) := by decide +kernel
theorem d_F_correct_96 : decode b_F_correct 96 = .ok (.ireturn, 1) := by decide +kernel
theorem d_F_correct_97 : decode b_F_correct 97 = .ok (.aload_n 0, 1) := by decide +kernel
theorem d_F_correct_98 : decode b_F_correct 98 = .ok (.getfield 21, 3) := by decide +kernel
theorem d_F_correct_101 : decode b_F_correct 101 = .ok (.aload_n 0, 1) := by decide +kernel
theorem d_F_correct_102 : decode b_F_correct 102 = .ok (.getfield 25, 3) := by decide +kernel
theorem d_F_correct_105 : decode b_F_correct 105 = .ok (.new 19, 3) := by decide +kernel
theorem d_F_correct_108 : decode b_F_correct 108 = .ok (.dup, 1) := by decide +kernel
theorem d_F_correct_109 : decode b_F_correct 109 = .ok (.iload_n 1, 1) := by decide +kernel
theorem d_F_correct_110 : decode b_F_correct 110 = .ok (.iload_n 2, 1) := by decide +kernel
theorem d_F_correct_111 : decode b_F_correct 111 = .ok (.aload 5, 2) := by decide +kernel
theorem d_F_correct_113 : decode b_F_correct 113 = .ok (.iload_n 2, 1) := by decide +kernel
theorem d_F_correct_114 : decode b_F_correct 114 = .ok (.invokevirtual 145, 3) := by decide +kernel
theorem d_F_correct_117 : decode b_F_correct 117 = .ok (.iload_n 3, 1) := by decide +kernel
theorem d_F_correct_118 : decode b_F_correct 118 = .ok (.iload 4, 2) := by decide +kernel
theorem d_F_correct_120 : decode b_F_correct 120 = .ok (.invokespecial 148, 3) := by decide +kernel
theorem d_F_correct_123 : decode b_F_correct 123 = .ok (.aastore, 1) := by decide +kernel
theorem d_F_correct_124 : decode b_F_correct 124 = .ok (.aload_n 0, 1) := by decide +kernel
theorem d_F_correct_125 : decode b_F_correct 125 = .ok (.dup, 1) := by decide +kernel
theorem d_F_correct_126 : decode b_F_correct 126 = .ok (.getfield 25, 3) := by decide +kernel
theorem d_F_correct_129 : decode b_F_correct 129 = .ok (.iconst 1, 1) := by decide +kernel
theorem d_F_correct_130 : decode b_F_correct 130 = .ok (.iadd, 1) := by decide +kernel
theorem d_F_correct_131 : decode b_F_correct 131 = .ok (.putfield 25, 3) := by decide +kernel
theorem d_F_correct_134 : decode b_F_correct 134 = .ok (.aload 5, 2) := by decide +kernel
theorem d_F_correct_136 : decode b_F_correct 136 = .ok (.iload_n 2, 1) := by decide +kernel
theorem d_F_correct_137 : decode b_F_correct 137 = .ok (.iload_n 3, 1) := by decide +kernel
theorem d_F_correct_138 : decode b_F_correct 138 = .ok (.invokevirtual 151, 3) := by decide +kernel
theorem d_F_correct_141 : decode b_F_correct 141 = .ok (.aload_n 0, 1) := by decide +kernel
theorem d_F_correct_142 : decode b_F_correct 142 = .ok (.getfield 25, 3) := by decide +kernel
theorem d_F_correct_145 : decode b_F_correct 145 = .ok (.ireturn, 1) := by decide +kernel
theorem d_F_row_0 : decode b_F_row 0 = .ok (.iload_n 1, 1) := by decide +kernel
theorem d_F_row_1 : decode b_F_row 1 = .ok (.iconst 0, 1) := by decide +kernel
theorem d_F_row_2 : decode b_F_row 2 = .ok (.aload_n 0, 1) := by decide +kernel
theorem d_F_row_3 : decode b_F_row 3 = .ok (.getfield 25, 3) := by decide +kernel
theorem d_F_row_6 : decode b_F_row 6 = .ok (.iconst 1, 1) := by decide +kernel
theorem d_F_row_7 : decode b_F_row 7 = .ok (.isub, 1) := by decide +kernel
theorem d_F_row_8 : decode b_F_row 8 = .ok (.invokestatic 46, 3) := by decide +kernel
theorem d_F_row_11 : decode b_F_row 11 = .ok (.ifCond .ne 5, 3) := by decide +kernel
theorem d_F_row_14 : decode b_F_row 14 = .ok (.iconst (-1), 1) := by decide +kernel
theorem d_F_row_15 : decode b_F_row 15 = .ok (.ireturn, 1) := by decide +kernel
theorem d_F_row_16 : decode b_F_row 16 = .ok (.aload_n 0, 1) := by decide +kernel
theorem d_F_row_17 : decode b_F_row 17 = .ok (.getfield 21, 3) := by decide +kernel
theorem d_F_row_20 : decode b_F_row 20 = .ok (.iload_n 1, 1) := by decide +kernel
theorem d_F_row_21 : decode b_F_row 21 = .ok (.aaload, 1) := by decide +kernel
theorem d_F_row_22 : decode b_F_row 22 = .ok (.astore_n 3, 1) := by decide +kernel
theorem d_F_row_23 : decode b_F_row 23 = .ok (.aload_n 3, 1) := by decide +kernel
theorem d_F_row_24 : decode b_F_row 24 = .ok (.ifnonnull 5, 3) := by decide +kernel
theorem d_F_row_27 : decode b_F_row 27 = .ok (.iconst (-1), 1) := by decide +kernel
theorem d_F_row_28 : decode b_F_row 28 = .ok (.ireturn, 1) := by decide +kernel
theorem d_F_row_29 : decode b_F_row 29 = .ok (.aload_n 3, 1) := by decide +kernel
theorem d_F_row_30 : decode b_F_row 30 = .ok (.iload_n 2, 1) := by decide +kernel
theorem d_F_row_31 : decode b_F_row 31 = .ok (.invokevirtual 154, 3) := by decide +kernel
theorem d_F_row_34 : decode b_F_row 34 = .ok (.ireturn, 1) := by decide +kernel
theorem d_F_about_0 : decode b_F_about 0 = .ok (.aload_n 0, 1) := by decide +kernel
theorem d_F_about_1 : decode b_F_about 1 = .ok (.iload_n 1, 1) := by decide +kernel
theorem d_F_about_2 : decode b_F_about 2 = .ok (.invokevirtual 64, 3) := by decide +kernel
theorem d_F_about_5 : decode b_F_about 5 = .ok (.astore_n 3, 1) := by decide +kernel
theorem d_F_about_6 : decode b_F_about 6 = .ok (.aload_n 3, 1) := by decide +kernel
theorem d_F_about_7 : decode b_F_about 7 = .ok (.ifnonnull 6, 3) := by decide +kernel
theorem d_F_about_10 : decode b_F_about 10 = .ok (.bipush (-101), 2) := by decide +kernel
theorem d_F_about_12 : decode b_F_about 12 = .ok (.ireturn, 1) := by decide +kernel
theorem d_F_about_13 : decode b_F_about 13 = .ok (.iload_n 2, 1) := by decide +kernel
theorem d_F_about_14 : decode b_F_about 14 = .ok (.iconst 0, 1) := by decide +kernel
theorem d_F_about_15 : decode b_F_about 15 = .ok (.bipush 13, 2) := by decide +kernel
theorem d_F_about_17 : decode b_F_about 17 = .ok (.invokestatic 46, 3) := by decide +kernel
theorem d_F_about_20 : decode b_F_about 20 = .ok (.ifCond .ne 6, 3) := by decide +kernel
theorem d_F_about_23 : decode b_F_about 23 = .ok (.bipush (-102), 2) := by decide +kernel
theorem d_F_about_25 : decode b_F_about 25 = .ok (.ireturn, 1) := by decide +kernel
theorem d_F_about_26 : decode b_F_about 26 = .ok (.aload_n 3, 1) := by decide +kernel
theorem d_F_about_27 : decode b_F_about 27 = .ok (.iload_n 2, 1) := by decide +kernel
theorem d_F_about_28 : decode b_F_about 28 = .ok (.invokevirtual 157, 3) := by decide +kernel
theorem d_F_about_31 : decode b_F_about 31 = .ok (.ireturn, 1) := by decide +kernel
theorem d_F_pack_0 : decode b_F_pack 0 = .ok (.aload_n 0, 1) := by decide +kernel
theorem d_F_pack_1 : decode b_F_pack 1 = .ok (.iload_n 1, 1) := by decide +kernel
theorem d_F_pack_2 : decode b_F_pack 2 = .ok (.invokevirtual 64, 3) := by decide +kernel
theorem d_F_pack_5 : decode b_F_pack 5 = .ok (.astore_n 2, 1) := by decide +kernel
theorem d_F_pack_6 : decode b_F_pack 6 = .ok (.aload_n 2, 1) := by decide +kernel
theorem d_F_pack_7 : decode b_F_pack 7 = .ok (.ifnonnull 6, 3) := by decide +kernel
theorem d_F_pack_10 : decode b_F_pack 10 = .ok (.bipush (-101), 2) := by decide +kernel
theorem d_F_pack_12 : decode b_F_pack 12 = .ok (.ireturn, 1) := by decide +kernel
theorem d_F_pack_13 : decode b_F_pack 13 = .ok (.aload_n 0, 1) := by decide +kernel
theorem d_F_pack_14 : decode b_F_pack 14 = .ok (.getfield 42, 3) := by decide +kernel
theorem d_F_pack_17 : decode b_F_pack 17 = .ok (.iload_n 1, 1) := by decide +kernel
theorem d_F_pack_18 : decode b_F_pack 18 = .ok (.aload_n 2, 1) := by decide +kernel
theorem d_F_pack_19 : decode b_F_pack 19 = .ok (.invokevirtual 160, 3) := by decide +kernel
theorem d_F_pack_22 : decode b_F_pack 22 = .ok (.aload_n 0, 1) := by decide +kernel
theorem d_F_pack_23 : decode b_F_pack 23 = .ok (.getfield 42, 3) := by decide +kernel
theorem d_F_pack_26 : decode b_F_pack 26 = .ok (.getfield 164, 3) := by decide +kernel
theorem d_F_pack_29 : decode b_F_pack 29 = .ok (.ireturn, 1) := by decide +kernel
theorem d_F_octet_0 : decode b_F_octet 0 = .ok (.aload_n 0, 1) := by decide +kernel
theorem d_F_octet_1 : decode b_F_octet 1 = .ok (.getfield 42, 3) := by decide +kernel
theorem d_F_octet_4 : decode b_F_octet 4 = .ok (.iload_n 1, 1) := by decide +kernel
theorem d_F_octet_5 : decode b_F_octet 5 = .ok (.invokevirtual 167, 3) := by decide +kernel
theorem d_F_octet_8 : decode b_F_octet 8 = .ok (.ireturn, 1) := by decide +kernel
theorem d_F_aside_0 : decode b_F_aside 0 = .ok (.iload_n 1, 1) := by decide +kernel
theorem d_F_aside_1 : decode b_F_aside 1 = .ok (.ifCond .ge 5, 3) := by decide +kernel
theorem d_F_aside_4 : decode b_F_aside 4 = .ok (.iconst (-1), 1) := by decide +kernel
theorem d_F_aside_5 : decode b_F_aside 5 = .ok (.ireturn, 1) := by decide +kernel
theorem d_F_aside_6 : decode b_F_aside 6 = .ok (.iconst 0, 1) := by decide +kernel
theorem d_F_aside_7 : decode b_F_aside 7 = .ok (.istore_n 2, 1) := by decide +kernel
theorem d_F_aside_8 : decode b_F_aside 8 = .ok (.iconst 0, 1) := by decide +kernel
theorem d_F_aside_9 : decode b_F_aside 9 = .ok (.istore_n 3, 1) := by decide +kernel
theorem d_F_aside_10 : decode b_F_aside 10 = .ok (.iload_n 3, 1) := by decide +kernel
theorem d_F_aside_11 : decode b_F_aside 11 = .ok (.aload_n 0, 1) := by decide +kernel
theorem d_F_aside_12 : decode b_F_aside 12 = .ok (.getfield 15, 3) := by decide +kernel
theorem d_F_aside_15 : decode b_F_aside 15 = .ok (.if_icmp .ge 42, 3) := by decide +kernel
theorem d_F_aside_18 : decode b_F_aside 18 = .ok (.aload_n 0, 1) := by decide +kernel
theorem d_F_aside_19 : decode b_F_aside 19 = .ok (.getfield 11, 3) := by decide +kernel
theorem d_F_aside_22 : decode b_F_aside 22 = .ok (.iload_n 3, 1) := by decide +kernel
theorem d_F_aside_23 : decode b_F_aside 23 = .ok (.aaload, 1) := by decide +kernel
theorem d_F_aside_24 : decode b_F_aside 24 = .ok (.astore 4, 2) := by decide +kernel
theorem d_F_aside_26 : decode b_F_aside 26 = .ok (.aload 4, 2) := by decide +kernel
theorem d_F_aside_28 : decode b_F_aside 28 = .ok (.ifnull 23, 3) := by decide +kernel
theorem d_F_aside_31 : decode b_F_aside 31 = .ok (.aload 4, 2) := by decide +kernel
theorem d_F_aside_33 : decode b_F_aside 33 = .ok (.invokevirtual 170, 3) := by decide +kernel
theorem d_F_aside_36 : decode b_F_aside 36 = .ok (.ifCond .eq 15, 3) := by decide +kernel
theorem d_F_aside_39 : decode b_F_aside 39 = .ok (.iload_n 2, 1) := by decide +kernel
theorem d_F_aside_40 : decode b_F_aside 40 = .ok (.iload_n 1, 1) := by decide +kernel
theorem d_F_aside_41 : decode b_F_aside 41 = .ok (.if_icmp .ne 7, 3) := by decide +kernel
theorem d_F_aside_44 : decode b_F_aside 44 = .ok (.iload_n 3, 1) := by decide +kernel
theorem d_F_aside_45 : decode b_F_aside 45 = .ok (.iconst 1, 1) := by decide +kernel
theorem d_F_aside_46 : decode b_F_aside 46 = .ok (.iadd, 1) := by decide +kernel
theorem d_F_aside_47 : decode b_F_aside 47 = .ok (.ireturn, 1) := by decide +kernel
theorem d_F_aside_48 : decode b_F_aside 48 = .ok (.iinc 2 1, 3) := by decide +kernel
theorem d_F_aside_51 : decode b_F_aside 51 = .ok (.iinc 3 1, 3) := by decide +kernel
theorem d_F_aside_54 : decode b_F_aside 54 = .ok (.goto (-44), 3) := by decide +kernel
theorem d_F_aside_57 : decode b_F_aside 57 = .ok (.iconst (-1), 1) := by decide +kernel
theorem d_F_aside_58 : decode b_F_aside 58 = .ok (.ireturn, 1) := by decide +kernel
theorem d_F_within_0 : decode b_F_within 0 = .ok (.iload_n 0, 1) := by decide +kernel
theorem d_F_within_1 : decode b_F_within 1 = .ok (.iload_n 1, 1) := by decide +kernel
theorem d_F_within_2 : decode b_F_within 2 = .ok (.if_icmp .lt 12, 3) := by decide +kernel
theorem d_F_within_5 : decode b_F_within 5 = .ok (.iload_n 0, 1) := by decide +kernel
theorem d_F_within_6 : decode b_F_within 6 = .ok (.iload_n 2, 1) := by decide +kernel
theorem d_F_within_7 : decode b_F_within 7 = .ok (.if_icmp .gt 7, 3) := by decide +kernel
theorem d_F_within_10 : decode b_F_within 10 = .ok (.iconst 1, 1) := by decide +kernel
theorem d_F_within_11 : decode b_F_within 11 = .ok (.goto 4, 3) := by decide +kernel
theorem d_F_within_14 : decode b_F_within 14 = .ok (.iconst 0, 1) := by decide +kernel
theorem d_F_within_15 : decode b_F_within 15 = .ok (.ireturn, 1) := by decide +kernel
theorem d_F_find_0 : decode b_F_find 0 = .ok (.iload_n 1, 1) := by decide +kernel
theorem d_F_find_1 : decode b_F_find 1 = .ok (.iconst 1, 1) := by decide +kernel
theorem d_F_find_2 : decode b_F_find 2 = .ok (.aload_n 0, 1) := by decide +kernel
theorem d_F_find_3 : decode b_F_find 3 = .ok (.getfield 15, 3) := by decide +kernel
theorem d_F_find_6 : decode b_F_find 6 = .ok (.invokestatic 46, 3) := by decide +kernel
theorem d_F_find_9 : decode b_F_find 9 = .ok (.ifCond .ne 5, 3) := by decide +kernel
theorem d_F_find_12 : decode b_F_find 12 = .ok (.aconst_null, 1) := by decide +kernel
theorem d_F_find_13 : decode b_F_find 13 = .ok (.areturn, 1) := by decide +kernel
theorem d_F_find_14 : decode b_F_find 14 = .ok (.aload_n 0, 1) := by decide +kernel
theorem d_F_find_15 : decode b_F_find 15 = .ok (.getfield 11, 3) := by decide +kernel
theorem d_F_find_18 : decode b_F_find 18 = .ok (.iload_n 1, 1) := by decide +kernel
theorem d_F_find_19 : decode b_F_find 19 = .ok (.iconst 1, 1) := by decide +kernel
theorem d_F_find_20 : decode b_F_find 20 = .ok (.isub, 1) := by decide +kernel
theorem d_F_find_21 : decode b_F_find 21 = .ok (.aaload, 1) := by decide +kernel
theorem d_F_find_22 : decode b_F_find 22 = .ok (.areturn, 1) := by decide +kernel
theorem d_F_turned_0 : decode b_F_turned 0 = .ok (.iload_n 0, 1) := by decide +kernel
theorem d_F_turned_1 : decode b_F_turned 1 = .ok (.istore_n 3, 1) := by decide +kernel
theorem d_F_turned_2 : decode b_F_turned 2 = .ok (.iload_n 3, 1) := by decide +kernel
theorem d_F_turned_3 : decode b_F_turned 3 = .ok (.iconst 3, 1) := by decide +kernel
theorem d_F_turned_4 : decode b_F_turned 4 = .ok (.if_icmp .ge 29, 3) := by decide +kernel
theorem d_F_turned_7 : decode b_F_turned 7 = .ok (.iload_n 1, 1) := by decide +kernel
theorem d_F_turned_8 : decode b_F_turned 8 = .ok (.getstatic 51, 3) := by decide +kernel
theorem d_F_turned_11 : decode b_F_turned 11 = .ok (.iload_n 3, 1) := by decide +kernel
theorem d_F_turned_12 : decode b_F_turned 12 = .ok (.iaload, 1) := by decide +kernel
theorem d_F_turned_13 : decode b_F_turned 13 = .ok (.if_icmp .gt 14, 3) := by decide +kernel
theorem d_F_turned_16 : decode b_F_turned 16 = .ok (.iload_n 2, 1) := by decide +kernel
theorem d_F_turned_17 : decode b_F_turned 17 = .ok (.getstatic 54, 3) := by decide +kernel
theorem d_F_turned_20 : decode b_F_turned 20 = .ok (.iload_n 3, 1) := by decide +kernel
theorem d_F_turned_21 : decode b_F_turned 21 = .ok (.iaload, 1) := by decide +kernel
theorem d_F_turned_22 : decode b_F_turned 22 = .ok (.if_icmp .gt 5, 3) := by decide +kernel
theorem d_F_turned_25 : decode b_F_turned 25 = .ok (.iload_n 3, 1) := by decide +kernel
theorem d_F_turned_26 : decode b_F_turned 26 = .ok (.ireturn, 1) := by decide +kernel
theorem d_F_turned_27 : decode b_F_turned 27 = .ok (.iinc 3 1, 3) := by decide +kernel
theorem d_F_turned_30 : decode b_F_turned 30 = .ok (.goto (-28), 3) := by decide +kernel
theorem d_F_turned_33 : decode b_F_turned 33 = .ok (.iconst 3, 1) := by decide +kernel
theorem d_F_turned_34 : decode b_F_turned 34 = .ok (.ireturn, 1) := by decide +kernel
theorem d_F_mustWait_0 : decode b_F_mustWait 0 = .ok (.iload_n 1, 1) := by decide +kernel
theorem d_F_mustWait_1 : decode b_F_mustWait 1 = .ok (.iconst 1, 1) := by decide +kernel
theorem d_F_mustWait_2 : decode b_F_mustWait 2 = .ok (.bipush 30, 2) := by decide +kernel
theorem d_F_mustWait_4 : decode b_F_mustWait 4 = .ok (.invokestatic 46, 3) := by decide +kernel
theorem d_F_mustWait_7 : decode b_F_mustWait 7 = .ok (.ifCond .eq 12, 3) := by decide +kernel
theorem d_F_mustWait_10 : decode b_F_mustWait 10 = .ok (.aload_n 0, 1) := by decide +kernel
theorem d_F_mustWait_11 : decode b_F_mustWait 11 = .ok (.getfield 32, 3) := by decide +kernel
theorem d_F_mustWait_14 : decode b_F_mustWait 14 = .ok (.iload_n 1, 1) := by decide +kernel
theorem d_F_mustWait_15 : decode b_F_mustWait 15 = .ok (.baload, 1) := by decide +kernel
theorem d_F_mustWait_16 : decode b_F_mustWait 16 = .ok (.ifCond .ne 5, 3) := by decide +kernel
theorem d_F_mustWait_19 : decode b_F_mustWait 19 = .ok (.iconst 0, 1) := by decide +kernel
theorem d_F_mustWait_20 : decode b_F_mustWait 20 = .ok (.ireturn, 1) := by decide +kernel
theorem d_F_mustWait_21 : decode b_F_mustWait 21 = .ok (.iconst 0, 1) := by decide +kernel
theorem d_F_mustWait_22 : decode b_F_mustWait 22 = .ok (.istore_n 2, 1) := by decide +kernel
theorem d_F_mustWait_23 : decode b_F_mustWait 23 = .ok (.iload_n 2, 1) := by decide +kernel
theorem d_F_mustWait_24 : decode b_F_mustWait 24 = .ok (.aload_n 0, 1) := by decide +kernel
theorem d_F_mustWait_25 : decode b_F_mustWait 25 = .ok (.getfield 15, 3) := by decide +kernel
theorem d_F_mustWait_28 : decode b_F_mustWait 28 = .ok (.if_icmp .ge 45, 3) := by decide +kernel
theorem d_F_mustWait_31 : decode b_F_mustWait 31 = .ok (.aload_n 0, 1) := by decide +kernel
theorem d_F_mustWait_32 : decode b_F_mustWait 32 = .ok (.getfield 11, 3) := by decide +kernel
theorem d_F_mustWait_35 : decode b_F_mustWait 35 = .ok (.iload_n 2, 1) := by decide +kernel
theorem d_F_mustWait_36 : decode b_F_mustWait 36 = .ok (.aaload, 1) := by decide +kernel
theorem d_F_mustWait_37 : decode b_F_mustWait 37 = .ok (.astore_n 3, 1) := by decide +kernel
theorem d_F_mustWait_38 : decode b_F_mustWait 38 = .ok (.aload_n 3, 1) := by decide +kernel
theorem d_F_mustWait_39 : decode b_F_mustWait 39 = .ok (.ifnull 28, 3) := by decide +kernel
theorem d_F_mustWait_42 : decode b_F_mustWait 42 = .ok (.aload_n 3, 1) := by decide +kernel
theorem d_F_mustWait_43 : decode b_F_mustWait 43 = .ok (.getfield 106, 3) := by decide +kernel
theorem d_F_mustWait_46 : decode b_F_mustWait 46 = .ok (.iload_n 1, 1) := by decide +kernel
theorem d_F_mustWait_47 : decode b_F_mustWait 47 = .ok (.if_icmp .ne 20, 3) := by decide +kernel
theorem d_F_mustWait_50 : decode b_F_mustWait 50 = .ok (.aload_n 3, 1) := by decide +kernel
theorem d_F_mustWait_51 : decode b_F_mustWait 51 = .ok (.getfield 103, 3) := by decide +kernel
theorem d_F_mustWait_54 : decode b_F_mustWait 54 = .ok (.iconst 4, 1) := by decide +kernel
theorem d_F_mustWait_55 : decode b_F_mustWait 55 = .ok (.if_icmp .eq 12, 3) := by decide +kernel
theorem d_F_mustWait_58 : decode b_F_mustWait 58 = .ok (.aload_n 3, 1) := by decide +kernel
theorem d_F_mustWait_59 : decode b_F_mustWait 59 = .ok (.invokevirtual 72, 3) := by decide +kernel
theorem d_F_mustWait_62 : decode b_F_mustWait 62 = .ok (.ifCond .ne 5, 3) := by decide +kernel
theorem d_F_mustWait_65 : decode b_F_mustWait 65 = .ok (.iconst 1, 1) := by decide +kernel
theorem d_F_mustWait_66 : decode b_F_mustWait 66 = .ok (.ireturn, 1) := by decide +kernel
theorem d_F_mustWait_67 : decode b_F_mustWait 67 = .ok (.iinc 2 1, 3) := by decide +kernel
theorem d_F_mustWait_70 : decode b_F_mustWait 70 = .ok (.goto (-47), 3) := by decide +kernel
theorem d_F_mustWait_73 : decode b_F_mustWait 73 = .ok (.iconst 0, 1) := by decide +kernel
theorem d_F_mustWait_74 : decode b_F_mustWait 74 = .ok (.ireturn, 1) := by decide +kernel
theorem d_F_mayBecome_0 : decode b_F_mayBecome 0 = .ok (.iload_n 0, 1) := by decide +kernel
theorem d_F_mayBecome_1 : decode b_F_mayBecome 1 = .ok (.tableswitch 67 0 4 #[35, 42, 50, 58, 58], 35) := by decide +kernel
theorem d_F_mayBecome_36 : decode b_F_mayBecome 36 = .ok (.iload_n 1, 1) := by decide +kernel
theorem d_F_mayBecome_37 : decode b_F_mayBecome 37 = .ok (.iconst 0, 1) := by decide +kernel
theorem d_F_mayBecome_38 : decode b_F_mayBecome 38 = .ok (.iconst 3, 1) := by decide +kernel
theorem d_F_mayBecome_39 : decode b_F_mayBecome 39 = .ok (.invokestatic 46, 3) := by decide +kernel
theorem d_F_mayBecome_42 : decode b_F_mayBecome 42 = .ok (.ireturn, 1) := by decide +kernel
theorem d_F_mayBecome_43 : decode b_F_mayBecome 43 = .ok (.iload_n 1, 1) := by decide +kernel
theorem d_F_mayBecome_44 : decode b_F_mayBecome 44 = .ok (.iconst 1, 1) := by decide +kernel
theorem d_F_mayBecome_45 : decode b_F_mayBecome 45 = .ok (.ldc 50, 2) := by decide +kernel
theorem d_F_mayBecome_47 : decode b_F_mayBecome 47 = .ok (.invokestatic 46, 3) := by decide +kernel
theorem d_F_mayBecome_50 : decode b_F_mayBecome 50 = .ok (.ireturn, 1) := by decide +kernel
theorem d_F_mayBecome_51 : decode b_F_mayBecome 51 = .ok (.iload_n 1, 1) := by decide +kernel
theorem d_F_mayBecome_52 : decode b_F_mayBecome 52 = .ok (.iconst 0, 1) := by decide +kernel
theorem d_F_mayBecome_53 : decode b_F_mayBecome 53 = .ok (.bipush 9, 2) := by decide +kernel
theorem d_F_mayBecome_55 : decode b_F_mayBecome 55 = .ok (.invokestatic 46, 3) := by decide +kernel
theorem d_F_mayBecome_58 : decode b_F_mayBecome 58 = .ok (.ireturn, 1) := by decide +kernel
theorem d_F_mayBecome_59 : decode b_F_mayBecome 59 = .ok (.iload_n 1, 1) := by decide +kernel
theorem d_F_mayBecome_60 : decode b_F_mayBecome 60 = .ok (.iconst 0, 1) := by decide +kernel
theorem d_F_mayBecome_61 : decode b_F_mayBecome 61 = .ok (.sipush 9999, 3) := by decide +kernel
theorem d_F_mayBecome_64 : decode b_F_mayBecome 64 = .ok (.invokestatic 46, 3) := by decide +kernel
theorem d_F_mayBecome_67 : decode b_F_mayBecome 67 = .ok (.ireturn, 1) := by decide +kernel
theorem d_F_mayBecome_68 : decode b_F_mayBecome 68 = .ok (.iconst 0, 1) := by decide +kernel
theorem d_F_mayBecome_69 : decode b_F_mayBecome 69 = .ok (.ireturn, 1) := by decide +kernel
theorem d_J_bitCount_0 : decode b_J_bitCount 0 = .ok (.iload_n 0, 1) := by decide +kernel
theorem d_J_bitCount_1 : decode b_J_bitCount 1 = .ok (.iload_n 0, 1) := by decide +kernel
theorem d_J_bitCount_2 : decode b_J_bitCount 2 = .ok (.iconst 1, 1) := by decide +kernel
theorem d_J_bitCount_3 : decode b_J_bitCount 3 = .ok (.iushr, 1) := by decide +kernel
theorem d_J_bitCount_4 : decode b_J_bitCount 4 = .ok (.ldc_w 265, 3) := by decide +kernel
theorem d_J_bitCount_7 : decode b_J_bitCount 7 = .ok (.iand, 1) := by decide +kernel
theorem d_J_bitCount_8 : decode b_J_bitCount 8 = .ok (.isub, 1) := by decide +kernel
theorem d_J_bitCount_9 : decode b_J_bitCount 9 = .ok (.istore_n 0, 1) := by decide +kernel
theorem d_J_bitCount_10 : decode b_J_bitCount 10 = .ok (.iload_n 0, 1) := by decide +kernel
theorem d_J_bitCount_11 : decode b_J_bitCount 11 = .ok (.ldc_w 266, 3) := by decide +kernel
theorem d_J_bitCount_14 : decode b_J_bitCount 14 = .ok (.iand, 1) := by decide +kernel
theorem d_J_bitCount_15 : decode b_J_bitCount 15 = .ok (.iload_n 0, 1) := by decide +kernel
theorem d_J_bitCount_16 : decode b_J_bitCount 16 = .ok (.iconst 2, 1) := by decide +kernel
theorem d_J_bitCount_17 : decode b_J_bitCount 17 = .ok (.iushr, 1) := by decide +kernel
theorem d_J_bitCount_18 : decode b_J_bitCount 18 = .ok (.ldc_w 266, 3) := by decide +kernel
theorem d_J_bitCount_21 : decode b_J_bitCount 21 = .ok (.iand, 1) := by decide +kernel
theorem d_J_bitCount_22 : decode b_J_bitCount 22 = .ok (.iadd, 1) := by decide +kernel
theorem d_J_bitCount_23 : decode b_J_bitCount 23 = .ok (.istore_n 0, 1) := by decide +kernel
theorem d_J_bitCount_24 : decode b_J_bitCount 24 = .ok (.iload_n 0, 1) := by decide +kernel
theorem d_J_bitCount_25 : decode b_J_bitCount 25 = .ok (.iload_n 0, 1) := by decide +kernel
theorem d_J_bitCount_26 : decode b_J_bitCount 26 = .ok (.iconst 4, 1) := by decide +kernel
theorem d_J_bitCount_27 : decode b_J_bitCount 27 = .ok (.iushr, 1) := by decide +kernel
theorem d_J_bitCount_28 : decode b_J_bitCount 28 = .ok (.iadd, 1) := by decide +kernel
theorem d_J_bitCount_29 : decode b_J_bitCount 29 = .ok (.ldc_w 267, 3) := by decide +kernel
theorem d_J_bitCount_32 : decode b_J_bitCount 32 = .ok (.iand, 1) := by decide +kernel
theorem d_J_bitCount_33 : decode b_J_bitCount 33 = .ok (.istore_n 0, 1) := by decide +kernel
theorem d_J_bitCount_34 : decode b_J_bitCount 34 = .ok (.iload_n 0, 1) := by decide +kernel
theorem d_J_bitCount_35 : decode b_J_bitCount 35 = .ok (.iload_n 0, 1) := by decide +kernel
theorem d_J_bitCount_36 : decode b_J_bitCount 36 = .ok (.bipush 8, 2) := by decide +kernel
theorem d_J_bitCount_38 : decode b_J_bitCount 38 = .ok (.iushr, 1) := by decide +kernel
theorem d_J_bitCount_39 : decode b_J_bitCount 39 = .ok (.iadd, 1) := by decide +kernel
theorem d_J_bitCount_40 : decode b_J_bitCount 40 = .ok (.istore_n 0, 1) := by decide +kernel
theorem d_J_bitCount_41 : decode b_J_bitCount 41 = .ok (.iload_n 0, 1) := by decide +kernel
theorem d_J_bitCount_42 : decode b_J_bitCount 42 = .ok (.iload_n 0, 1) := by decide +kernel
theorem d_J_bitCount_43 : decode b_J_bitCount 43 = .ok (.bipush 16, 2) := by decide +kernel
theorem d_J_bitCount_45 : decode b_J_bitCount 45 = .ok (.iushr, 1) := by decide +kernel
theorem d_J_bitCount_46 : decode b_J_bitCount 46 = .ok (.iadd, 1) := by decide +kernel
theorem d_J_bitCount_47 : decode b_J_bitCount 47 = .ok (.istore_n 0, 1) := by decide +kernel
theorem d_J_bitCount_48 : decode b_J_bitCount 48 = .ok (.iload_n 0, 1) := by decide +kernel
theorem d_J_bitCount_49 : decode b_J_bitCount 49 = .ok (.bipush 63, 2) := by decide +kernel
theorem d_J_bitCount_51 : decode b_J_bitCount 51 = .ok (.iand, 1) := by decide +kernel
theorem d_J_bitCount_52 : decode b_J_bitCount 52 = .ok (.ireturn, 1) := by decide +kernel
end
section
theorem d_C_init_0 : decode b_C_init 0 = .ok (.aload_n 0, 1) := by decide +kernel
theorem d_C_init_1 : decode b_C_init 1 = .ok (.invokespecial 3, 3) := by decide +kernel
theorem d_C_init_4 : decode b_C_init 4 = .ok (.aload_n 0, 1) := by decide +kernel
theorem d_C_init_5 : decode b_C_init 5 = .ok (.iload_n 1, 1) := by decide +kernel
theorem d_C_init_6 : decode b_C_init 6 = .ok (.putfield 9, 3) := by decide +kernel
theorem d_C_init_9 : decode b_C_init 9 = .ok (.aload_n 0, 1) := by decide +kernel
theorem d_C_init_10 : decode b_C_init 10 = .ok (.iload_n 2, 1) := by decide +kernel
theorem d_C_init_11 : decode b_C_init 11 = .ok (.putfield 15, 3) := by decide +kernel
theorem d_C_init_14 : decode b_C_init 14 = .ok (.aload_n 0, 1) := by decide +kernel
theorem d_C_init_15 : decode b_C_init 15 = .ok (.iload_n 3, 1) := by decide +kernel
theorem d_C_init_16 : decode b_C_init 16 = .ok (.putfield 18, 3) := by decide +kernel
theorem d_C_init_19 : decode b_C_init 19 = .ok (.aload_n 0, 1) := by decide +kernel
theorem d_C_init_20 : decode b_C_init 20 = .ok (.iload 4, 2) := by decide +kernel
theorem d_C_init_22 : decode b_C_init 22 = .ok (.putfield 21, 3) := by decide +kernel
theorem d_C_init_25 : decode b_C_init 25 = .ok (.aload_n 0, 1) := by decide +kernel
theorem d_C_init_26 : decode b_C_init 26 = .ok (.iload 5, 2) := by decide +kernel
theorem d_C_init_28 : decode b_C_init 28 = .ok (.putfield 24, 3) := by decide +kernel
theorem d_C_init_31 : decode b_C_init 31 = .ok (.return_, 1) := by decide +kernel
theorem d_C_part_0 : decode b_C_part 0 = .ok (.iload_n 1, 1) := by decide +kernel
theorem d_C_part_1 : decode b_C_part 1 = .ok (.tableswitch 60 0 4 #[35, 40, 45, 50, 55], 35) := by decide +kernel
theorem d_C_part_36 : decode b_C_part 36 = .ok (.aload_n 0, 1) := by decide +kernel
theorem d_C_part_37 : decode b_C_part 37 = .ok (.getfield 9, 3) := by decide +kernel
theorem d_C_part_40 : decode b_C_part 40 = .ok (.ireturn, 1) := by decide +kernel
theorem d_C_part_41 : decode b_C_part 41 = .ok (.aload_n 0, 1) := by decide +kernel
theorem d_C_part_42 : decode b_C_part 42 = .ok (.getfield 15, 3) := by decide +kernel
theorem d_C_part_45 : decode b_C_part 45 = .ok (.ireturn, 1) := by decide +kernel
theorem d_C_part_46 : decode b_C_part 46 = .ok (.aload_n 0, 1) := by decide +kernel
theorem d_C_part_47 : decode b_C_part 47 = .ok (.getfield 18, 3) := by decide +kernel
theorem d_C_part_50 : decode b_C_part 50 = .ok (.ireturn, 1) := by decide +kernel
theorem d_C_part_51 : decode b_C_part 51 = .ok (.aload_n 0, 1) := by decide +kernel
theorem d_C_part_52 : decode b_C_part 52 = .ok (.getfield 21, 3) := by decide +kernel
theorem d_C_part_55 : decode b_C_part 55 = .ok (.ireturn, 1) := by decide +kernel
theorem d_C_part_56 : decode b_C_part 56 = .ok (.aload_n 0, 1) := by decide +kernel
theorem d_C_part_57 : decode b_C_part 57 = .ok (.getfield 24, 3) := by decide +kernel
theorem d_C_part_60 : decode b_C_part 60 = .ok (.ireturn, 1) := by decide +kernel
theorem d_C_part_61 : decode b_C_part 61 = .ok (.iconst (-1), 1) := by decide +kernel
theorem d_C_part_62 : decode b_C_part 62 = .ok (.ireturn, 1) := by decide +kernel
theorem d_I_init_0 : decode b_I_init 0 = .ok (.aload_n 0, 1) := by decide +kernel
theorem d_I_init_1 : decode b_I_init 1 = .ok (.invokespecial 3, 3) := by decide +kernel
theorem d_I_init_4 : decode b_I_init 4 = .ok (.aload_n 0, 1) := by decide +kernel
theorem d_I_init_5 : decode b_I_init 5 = .ok (.iload_n 1, 1) := by decide +kernel
theorem d_I_init_6 : decode b_I_init 6 = .ok (.putfield 9, 3) := by decide +kernel
theorem d_I_init_9 : decode b_I_init 9 = .ok (.aload_n 0, 1) := by decide +kernel
theorem d_I_init_10 : decode b_I_init 10 = .ok (.iload_n 2, 1) := by decide +kernel
theorem d_I_init_11 : decode b_I_init 11 = .ok (.putfield 15, 3) := by decide +kernel
theorem d_I_init_14 : decode b_I_init 14 = .ok (.aload_n 0, 1) := by decide +kernel
theorem d_I_init_15 : decode b_I_init 15 = .ok (.iload_n 3, 1) := by decide +kernel
theorem d_I_init_16 : decode b_I_init 16 = .ok (.putfield 18, 3) := by decide +kernel
theorem d_I_init_19 : decode b_I_init 19 = .ok (.aload_n 0, 1) := by decide +kernel
theorem d_I_init_20 : decode b_I_init 20 = .ok (.iload 4, 2) := by decide +kernel
theorem d_I_init_22 : decode b_I_init 22 = .ok (.putfield 21, 3) := by decide +kernel
theorem d_I_init_25 : decode b_I_init 25 = .ok (.aload_n 0, 1) := by decide +kernel
theorem d_I_init_26 : decode b_I_init 26 = .ok (.iconst 0, 1) := by decide +kernel
theorem d_I_init_27 : decode b_I_init 27 = .ok (.putfield 24, 3) := by decide +kernel
theorem d_I_init_30 : decode b_I_init 30 = .ok (.aload_n 0, 1) := by decide +kernel
theorem d_I_init_31 : decode b_I_init 31 = .ok (.iconst 0, 1) := by decide +kernel
theorem d_I_init_32 : decode b_I_init 32 = .ok (.putfield 27, 3) := by decide +kernel
theorem d_I_init_35 : decode b_I_init 35 = .ok (.aload_n 0, 1) := by decide +kernel
theorem d_I_init_36 : decode b_I_init 36 = .ok (.iconst 0, 1) := by decide +kernel
theorem d_I_init_37 : decode b_I_init 37 = .ok (.putfield 30, 3) := by decide +kernel
theorem d_I_init_40 : decode b_I_init 40 = .ok (.aload_n 0, 1) := by decide +kernel
theorem d_I_init_41 : decode b_I_init 41 = .ok (.iconst (-1), 1) := by decide +kernel
theorem d_I_init_42 : decode b_I_init 42 = .ok (.putfield 34, 3) := by decide +kernel
theorem d_I_init_45 : decode b_I_init 45 = .ok (.aload_n 0, 1) := by decide +kernel
theorem d_I_init_46 : decode b_I_init 46 = .ok (.iconst (-1), 1) := by decide +kernel
theorem d_I_init_47 : decode b_I_init 47 = .ok (.putfield 37, 3) := by decide +kernel
theorem d_I_init_50 : decode b_I_init 50 = .ok (.aload_n 0, 1) := by decide +kernel
theorem d_I_init_51 : decode b_I_init 51 = .ok (.iconst 0, 1) := by decide +kernel
theorem d_I_init_52 : decode b_I_init 52 = .ok (.putfield 40, 3) := by decide +kernel
theorem d_I_init_55 : decode b_I_init 55 = .ok (.aload_n 0, 1) := by decide +kernel
theorem d_I_init_56 : decode b_I_init 56 = .ok (.iconst 0, 1) := by decide +kernel
theorem d_I_init_57 : decode b_I_init 57 = .ok (.putfield 43, 3) := by decide +kernel
theorem d_I_init_60 : decode b_I_init 60 = .ok (.aload_n 0, 1) := by decide +kernel
theorem d_I_init_61 : decode b_I_init 61 = .ok (.iconst 0, 1) := by decide +kernel
theorem d_I_init_62 : decode b_I_init 62 = .ok (.putfield 46, 3) := by decide +kernel
theorem d_I_init_65 : decode b_I_init 65 = .ok (.aload_n 0, 1) := by decide +kernel
theorem d_I_init_66 : decode b_I_init 66 = .ok (.iconst 0, 1) := by decide +kernel
theorem d_I_init_67 : decode b_I_init 67 = .ok (.putfield 49, 3) := by decide +kernel
theorem d_I_init_70 : decode b_I_init 70 = .ok (.aload_n 0, 1) := by decide +kernel
theorem d_I_init_71 : decode b_I_init 71 = .ok (.iconst (-1), 1) := by decide +kernel
theorem d_I_init_72 : decode b_I_init 72 = .ok (.putfield 52, 3) := by decide +kernel
theorem d_I_init_75 : decode b_I_init 75 = .ok (.aload_n 0, 1) := by decide +kernel
theorem d_I_init_76 : decode b_I_init 76 = .ok (.iconst 0, 1) := by decide +kernel
theorem d_I_init_77 : decode b_I_init 77 = .ok (.putfield 55, 3) := by decide +kernel
theorem d_I_init_80 : decode b_I_init 80 = .ok (.aload_n 0, 1) := by decide +kernel
theorem d_I_init_81 : decode b_I_init 81 = .ok (.iconst 4, 1) := by decide +kernel
theorem d_I_init_82 : decode b_I_init 82 = .ok (.newarray .int, 2) := by decide +kernel
theorem d_I_init_84 : decode b_I_init 84 = .ok (.putfield 58, 3) := by decide +kernel
theorem d_I_init_87 : decode b_I_init 87 = .ok (.aload_n 0, 1) := by decide +kernel
theorem d_I_init_88 : decode b_I_init 88 = .ok (.iconst 4, 1) := by decide +kernel
theorem d_I_init_89 : decode b_I_init 89 = .ok (.newarray .int, 2) := by decide +kernel
theorem d_I_init_91 : decode b_I_init 91 = .ok (.putfield 62, 3) := by decide +kernel
theorem d_I_init_94 : decode b_I_init 94 = .ok (.return_, 1) := by decide +kernel
theorem d_I_has_0 : decode b_I_has 0 = .ok (.aload_n 0, 1) := by decide +kernel
theorem d_I_has_1 : decode b_I_has 1 = .ok (.getfield 24, 3) := by decide +kernel
theorem d_I_has_4 : decode b_I_has 4 = .ok (.iload_n 1, 1) := by decide +kernel
theorem d_I_has_5 : decode b_I_has 5 = .ok (.ishr, 1) := by decide +kernel
theorem d_I_has_6 : decode b_I_has 6 = .ok (.iconst 1, 1) := by decide +kernel
theorem d_I_has_7 : decode b_I_has 7 = .ok (.iand, 1) := by decide +kernel
theorem d_I_has_8 : decode b_I_has 8 = .ok (.iconst 1, 1) := by decide +kernel
theorem d_I_has_9 : decode b_I_has 9 = .ok (.if_icmp .ne 7, 3) := by decide +kernel
theorem d_I_has_12 : decode b_I_has 12 = .ok (.iconst 1, 1) := by decide +kernel
theorem d_I_has_13 : decode b_I_has 13 = .ok (.goto 4, 3) := by decide +kernel
theorem d_I_has_16 : decode b_I_has 16 = .ok (.iconst 0, 1) := by decide +kernel
theorem d_I_has_17 : decode b_I_has 17 = .ok (.ireturn, 1) := by decide +kernel
theorem d_I_isAtEnd_0 : decode b_I_isAtEnd 0 = .ok (.aload_n 0, 1) := by decide +kernel
theorem d_I_isAtEnd_1 : decode b_I_isAtEnd 1 = .ok (.getfield 27, 3) := by decide +kernel
theorem d_I_isAtEnd_4 : decode b_I_isAtEnd 4 = .ok (.iconst 5, 1) := by decide +kernel
theorem d_I_isAtEnd_5 : decode b_I_isAtEnd 5 = .ok (.if_icmp .eq 12, 3) := by decide +kernel
theorem d_I_isAtEnd_8 : decode b_I_isAtEnd 8 = .ok (.aload_n 0, 1) := by decide +kernel
theorem d_I_isAtEnd_9 : decode b_I_isAtEnd 9 = .ok (.getfield 27, 3) := by decide +kernel
theorem d_I_isAtEnd_12 : decode b_I_isAtEnd 12 = .ok (.bipush 9, 2) := by decide +kernel
theorem d_I_isAtEnd_14 : decode b_I_isAtEnd 14 = .ok (.if_icmp .ne 7, 3) := by decide +kernel
theorem d_I_isAtEnd_17 : decode b_I_isAtEnd 17 = .ok (.iconst 1, 1) := by decide +kernel
theorem d_I_isAtEnd_18 : decode b_I_isAtEnd 18 = .ok (.goto 4, 3) := by decide +kernel
theorem d_I_isAtEnd_21 : decode b_I_isAtEnd 21 = .ok (.iconst 0, 1) := by decide +kernel
theorem d_I_isAtEnd_22 : decode b_I_isAtEnd 22 = .ok (.ireturn, 1) := by decide +kernel
theorem d_I_isSetAside_0 : decode b_I_isSetAside 0 = .ok (.aload_n 0, 1) := by decide +kernel
theorem d_I_isSetAside_1 : decode b_I_isSetAside 1 = .ok (.getfield 30, 3) := by decide +kernel
theorem d_I_isSetAside_4 : decode b_I_isSetAside 4 = .ok (.ifCond .ne 12, 3) := by decide +kernel
theorem d_I_isSetAside_7 : decode b_I_isSetAside 7 = .ok (.aload_n 0, 1) := by decide +kernel
theorem d_I_isSetAside_8 : decode b_I_isSetAside 8 = .ok (.getfield 27, 3) := by decide +kernel
theorem d_I_isSetAside_11 : decode b_I_isSetAside 11 = .ok (.bipush 8, 2) := by decide +kernel
theorem d_I_isSetAside_13 : decode b_I_isSetAside 13 = .ok (.if_icmp .ne 7, 3) := by decide +kernel
theorem d_I_isSetAside_16 : decode b_I_isSetAside 16 = .ok (.iconst 1, 1) := by decide +kernel
theorem d_I_isSetAside_17 : decode b_I_isSetAside 17 = .ok (.goto 4, 3) := by decide +kernel
theorem d_I_isSetAside_20 : decode b_I_isSetAside 20 = .ok (.iconst 0, 1) := by decide +kernel
theorem d_I_isSetAside_21 : decode b_I_isSetAside 21 = .ok (.ireturn, 1) := by decide +kernel
theorem d_I_leastExcluding_0 : decode b_I_leastExcluding 0 = .ok (.iload_n 1, 1) := by decide +kernel
theorem d_I_leastExcluding_1 : decode b_I_leastExcluding 1 = .ok (.iconst 0, 1) := by decide +kernel
theorem d_I_leastExcluding_2 : decode b_I_leastExcluding 2 = .ok (.iconst 5, 1) := by decide +kernel
theorem d_I_leastExcluding_3 : decode b_I_leastExcluding 3 = .ok (.invokestatic 65, 3) := by decide +kernel
theorem d_I_leastExcluding_6 : decode b_I_leastExcluding 6 = .ok (.ifCond .ne 5, 3) := by decide +kernel
theorem d_I_leastExcluding_9 : decode b_I_leastExcluding 9 = .ok (.iconst (-1), 1) := by decide +kernel
theorem d_I_leastExcluding_10 : decode b_I_leastExcluding 10 = .ok (.ireturn, 1) := by decide +kernel
theorem d_I_leastExcluding_11 : decode b_I_leastExcluding 11 = .ok (.aload_n 0, 1) := by decide +kernel
theorem d_I_leastExcluding_12 : decode b_I_leastExcluding 12 = .ok (.getfield 24, 3) := by decide +kernel
theorem d_I_leastExcluding_15 : decode b_I_leastExcluding 15 = .ok (.getstatic 69, 3) := by decide +kernel
theorem d_I_leastExcluding_18 : decode b_I_leastExcluding 18 = .ok (.iload_n 1, 1) := by decide +kernel
theorem d_I_leastExcluding_19 : decode b_I_leastExcluding 19 = .ok (.iaload, 1) := by decide +kernel
theorem d_I_leastExcluding_20 : decode b_I_leastExcluding 20 = .ok (.iand, 1) := by decide +kernel
theorem d_I_leastExcluding_21 : decode b_I_leastExcluding 21 = .ok (.istore_n 2, 1) := by decide +kernel
theorem d_I_leastExcluding_22 : decode b_I_leastExcluding 22 = .ok (.iconst 0, 1) := by decide +kernel
theorem d_I_leastExcluding_23 : decode b_I_leastExcluding 23 = .ok (.istore_n 3, 1) := by decide +kernel
theorem d_I_leastExcluding_24 : decode b_I_leastExcluding 24 = .ok (.iload_n 3, 1) := by decide +kernel
theorem d_I_leastExcluding_25 : decode b_I_leastExcluding 25 = .ok (.bipush 6, 2) := by decide +kernel
theorem d_I_leastExcluding_27 : decode b_I_leastExcluding 27 = .ok (.if_icmp .ge 20, 3) := by decide +kernel
theorem d_I_leastExcluding_30 : decode b_I_leastExcluding 30 = .ok (.iload_n 2, 1) := by decide +kernel
theorem d_I_leastExcluding_31 : decode b_I_leastExcluding 31 = .ok (.iload_n 3, 1) := by decide +kernel
theorem d_I_leastExcluding_32 : decode b_I_leastExcluding 32 = .ok (.ishr, 1) := by decide +kernel
theorem d_I_leastExcluding_33 : decode b_I_leastExcluding 33 = .ok (.iconst 1, 1) := by decide +kernel
theorem d_I_leastExcluding_34 : decode b_I_leastExcluding 34 = .ok (.iand, 1) := by decide +kernel
theorem d_I_leastExcluding_35 : decode b_I_leastExcluding 35 = .ok (.iconst 1, 1) := by decide +kernel
theorem d_I_leastExcluding_36 : decode b_I_leastExcluding 36 = .ok (.if_icmp .ne 5, 3) := by decide +kernel
theorem d_I_leastExcluding_39 : decode b_I_leastExcluding 39 = .ok (.iload_n 3, 1) := by decide +kernel
theorem d_I_leastExcluding_40 : decode b_I_leastExcluding 40 = .ok (.ireturn, 1) := by decide +kernel
theorem d_I_leastExcluding_41 : decode b_I_leastExcluding 41 = .ok (.iinc 3 1, 3) := by decide +kernel
theorem d_I_leastExcluding_44 : decode b_I_leastExcluding 44 = .ok (.goto (-20), 3) := by decide +kernel
theorem d_I_leastExcluding_47 : decode b_I_leastExcluding 47 = .ok (.iconst (-1), 1) := by decide +kernel
theorem d_I_leastExcluding_48 : decode b_I_leastExcluding 48 = .ok (.ireturn, 1) := by decide +kernel
theorem d_I_lacksWhatIsWanted_0 : decode b_I_lacksWhatIsWanted 0 = .ok (.iload_n 1, 1) := by decide +kernel
theorem d_I_lacksWhatIsWanted_1 : decode b_I_lacksWhatIsWanted 1 = .ok (.tableswitch 84 1 5 #[35, 84, 35, 49, 70], 35) := by decide +kernel
theorem d_I_lacksWhatIsWanted_36 : decode b_I_lacksWhatIsWanted 36 = .ok (.aload_n 0, 1) := by decide +kernel
theorem d_I_lacksWhatIsWanted_37 : decode b_I_lacksWhatIsWanted 37 = .ok (.iconst 0, 1) := by decide +kernel
theorem d_I_lacksWhatIsWanted_38 : decode b_I_lacksWhatIsWanted 38 = .ok (.invokevirtual 72, 3) := by decide +kernel
theorem d_I_lacksWhatIsWanted_41 : decode b_I_lacksWhatIsWanted 41 = .ok (.ifCond .ne 7, 3) := by decide +kernel
theorem d_I_lacksWhatIsWanted_44 : decode b_I_lacksWhatIsWanted 44 = .ok (.iconst 1, 1) := by decide +kernel
theorem d_I_lacksWhatIsWanted_45 : decode b_I_lacksWhatIsWanted 45 = .ok (.goto 4, 3) := by decide +kernel
theorem d_I_lacksWhatIsWanted_48 : decode b_I_lacksWhatIsWanted 48 = .ok (.iconst 0, 1) := by decide +kernel
theorem d_I_lacksWhatIsWanted_49 : decode b_I_lacksWhatIsWanted 49 = .ok (.ireturn, 1) := by decide +kernel
theorem d_I_lacksWhatIsWanted_50 : decode b_I_lacksWhatIsWanted 50 = .ok (.aload_n 0, 1) := by decide +kernel
theorem d_I_lacksWhatIsWanted_51 : decode b_I_lacksWhatIsWanted 51 = .ok (.iconst 0, 1) := by decide +kernel
theorem d_I_lacksWhatIsWanted_52 : decode b_I_lacksWhatIsWanted 52 = .ok (.invokevirtual 72, 3) := by decide +kernel
theorem d_I_lacksWhatIsWanted_55 : decode b_I_lacksWhatIsWanted 55 = .ok (.ifCond .eq 10, 3) := by decide +kernel
theorem d_I_lacksWhatIsWanted_58 : decode b_I_lacksWhatIsWanted 58 = .ok (.aload_n 0, 1) := by decide +kernel
theorem d_I_lacksWhatIsWanted_59 : decode b_I_lacksWhatIsWanted 59 = .ok (.getfield 9, 3) := by decide +kernel
theorem d_I_lacksWhatIsWanted_62 : decode b_I_lacksWhatIsWanted 62 = .ok (.ifCond .ne 7, 3) := by decide +kernel
theorem d_I_lacksWhatIsWanted_65 : decode b_I_lacksWhatIsWanted 65 = .ok (.iconst 1, 1) := by decide +kernel
theorem d_I_lacksWhatIsWanted_66 : decode b_I_lacksWhatIsWanted 66 = .ok (.goto 4, 3) := by decide +kernel
theorem d_I_lacksWhatIsWanted_69 : decode b_I_lacksWhatIsWanted 69 = .ok (.iconst 0, 1) := by decide +kernel
theorem d_I_lacksWhatIsWanted_70 : decode b_I_lacksWhatIsWanted 70 = .ok (.ireturn, 1) := by decide +kernel
theorem d_I_lacksWhatIsWanted_71 : decode b_I_lacksWhatIsWanted 71 = .ok (.aload_n 0, 1) := by decide +kernel
theorem d_I_lacksWhatIsWanted_72 : decode b_I_lacksWhatIsWanted 72 = .ok (.getfield 9, 3) := by decide +kernel
theorem d_I_lacksWhatIsWanted_75 : decode b_I_lacksWhatIsWanted 75 = .ok (.iconst 2, 1) := by decide +kernel
theorem d_I_lacksWhatIsWanted_76 : decode b_I_lacksWhatIsWanted 76 = .ok (.if_icmp .ge 7, 3) := by decide +kernel
theorem d_I_lacksWhatIsWanted_79 : decode b_I_lacksWhatIsWanted 79 = .ok (.iconst 1, 1) := by decide +kernel
theorem d_I_lacksWhatIsWanted_80 : decode b_I_lacksWhatIsWanted 80 = .ok (.goto 4, 3) := by decide +kernel
theorem d_I_lacksWhatIsWanted_83 : decode b_I_lacksWhatIsWanted 83 = .ok (.iconst 0, 1) := by decide +kernel
theorem d_I_lacksWhatIsWanted_84 : decode b_I_lacksWhatIsWanted 84 = .ok (.ireturn, 1) := by decide +kernel
theorem d_I_lacksWhatIsWanted_85 : decode b_I_lacksWhatIsWanted 85 = .ok (.iconst 0, 1) := by decide +kernel
theorem d_I_lacksWhatIsWanted_86 : decode b_I_lacksWhatIsWanted 86 = .ok (.ireturn, 1) := by decide +kernel
theorem d_I_stateBehind_0 : decode b_I_stateBehind 0 = .ok (.aload_n 0, 1) := by decide +kernel
theorem d_I_stateBehind_1 : decode b_I_stateBehind 1 = .ok (.getfield 30, 3) := by decide +kernel
theorem d_I_stateBehind_4 : decode b_I_stateBehind 4 = .ok (.ifCond .eq 29, 3) := by decide +kernel
theorem d_I_stateBehind_7 : decode b_I_stateBehind 7 = .ok (.iload_n 1, 1) := by decide +kernel
theorem d_I_stateBehind_8 : decode b_I_stateBehind 8 = .ok (.bipush 8, 2) := by decide +kernel
theorem d_I_stateBehind_10 : decode b_I_stateBehind 10 = .ok (.if_icmp .ne 10, 3) := by decide +kernel
theorem d_I_stateBehind_13 : decode b_I_stateBehind 13 = .ok (.aload_n 0, 1) := by decide +kernel
theorem d_I_stateBehind_14 : decode b_I_stateBehind 14 = .ok (.getfield 27, 3) := by decide +kernel
theorem d_I_stateBehind_17 : decode b_I_stateBehind 17 = .ok (.goto 15, 3) := by decide +kernel
theorem d_I_stateBehind_20 : decode b_I_stateBehind 20 = .ok (.iload_n 1, 1) := by decide +kernel
theorem d_I_stateBehind_21 : decode b_I_stateBehind 21 = .ok (.bipush 10, 2) := by decide +kernel
theorem d_I_stateBehind_23 : decode b_I_stateBehind 23 = .ok (.if_icmp .ne 8, 3) := by decide +kernel
theorem d_I_stateBehind_26 : decode b_I_stateBehind 26 = .ok (.bipush 9, 2) := by decide +kernel
theorem d_I_stateBehind_28 : decode b_I_stateBehind 28 = .ok (.goto 4, 3) := by decide +kernel
theorem d_I_stateBehind_31 : decode b_I_stateBehind 31 = .ok (.iconst (-1), 1) := by decide +kernel
theorem d_I_stateBehind_32 : decode b_I_stateBehind 32 = .ok (.ireturn, 1) := by decide +kernel
theorem d_I_stateBehind_33 : decode b_I_stateBehind 33 = .ok (.iload_n 1, 1) := by decide +kernel
theorem d_I_stateBehind_34 : decode b_I_stateBehind 34 = .ok (.tableswitch 237 0 10 #[58, 71, 105, 119, 142, 165, 180, 204, 237, 209, 234], 58) := by decide +kernel
theorem d_I_stateBehind_92 : decode b_I_stateBehind 92 = .ok (.aload_n 0, 1) := by decide +kernel
theorem d_I_stateBehind_93 : decode b_I_stateBehind 93 = .ok (.getfield 27, 3) := by decide +kernel
theorem d_I_stateBehind_96 : decode b_I_stateBehind 96 = .ok (.ifCond .ne 7, 3) := by decide +kernel
theorem d_I_stateBehind_99 : decode b_I_stateBehind 99 = .ok (.iconst 1, 1) := by decide +kernel
theorem d_I_stateBehind_100 : decode b_I_stateBehind 100 = .ok (.goto 4, 3) := by decide +kernel
theorem d_I_stateBehind_103 : decode b_I_stateBehind 103 = .ok (.iconst (-1), 1) := by decide +kernel
theorem d_I_stateBehind_104 : decode b_I_stateBehind 104 = .ok (.ireturn, 1) := by decide +kernel
theorem d_I_stateBehind_105 : decode b_I_stateBehind 105 = .ok (.aload_n 0, 1) := by decide +kernel
theorem d_I_stateBehind_106 : decode b_I_stateBehind 106 = .ok (.getfield 27, 3) := by decide +kernel
theorem d_I_stateBehind_109 : decode b_I_stateBehind 109 = .ok (.bipush 7, 2) := by decide +kernel
theorem d_I_stateBehind_111 : decode b_I_stateBehind 111 = .ok (.if_icmp .ne 6, 3) := by decide +kernel
theorem d_I_stateBehind_114 : decode b_I_stateBehind 114 = .ok (.bipush 7, 2) := by decide +kernel
theorem d_I_stateBehind_116 : decode b_I_stateBehind 116 = .ok (.ireturn, 1) := by decide +kernel
theorem d_I_stateBehind_117 : decode b_I_stateBehind 117 = .ok (.aload_n 0, 1) := by decide +kernel
theorem d_I_stateBehind_118 : decode b_I_stateBehind 118 = .ok (.getfield 27, 3) := by decide +kernel
theorem d_I_stateBehind_121 : decode b_I_stateBehind 121 = .ok (.iconst 1, 1) := by decide +kernel
theorem d_I_stateBehind_122 : decode b_I_stateBehind 122 = .ok (.if_icmp .eq 11, 3) := by decide +kernel
theorem d_I_stateBehind_125 : decode b_I_stateBehind 125 = .ok (.aload_n 0, 1) := by decide +kernel
theorem d_I_stateBehind_126 : decode b_I_stateBehind 126 = .ok (.getfield 27, 3) := by decide +kernel
theorem d_I_stateBehind_129 : decode b_I_stateBehind 129 = .ok (.iconst 3, 1) := by decide +kernel
theorem d_I_stateBehind_130 : decode b_I_stateBehind 130 = .ok (.if_icmp .ne 7, 3) := by decide +kernel
theorem d_I_stateBehind_133 : decode b_I_stateBehind 133 = .ok (.iconst 2, 1) := by decide +kernel
theorem d_I_stateBehind_134 : decode b_I_stateBehind 134 = .ok (.goto 4, 3) := by decide +kernel
theorem d_I_stateBehind_137 : decode b_I_stateBehind 137 = .ok (.iconst (-1), 1) := by decide +kernel
theorem d_I_stateBehind_138 : decode b_I_stateBehind 138 = .ok (.ireturn, 1) := by decide +kernel
theorem d_I_stateBehind_139 : decode b_I_stateBehind 139 = .ok (.aload_n 0, 1) := by decide +kernel
theorem d_I_stateBehind_140 : decode b_I_stateBehind 140 = .ok (.getfield 27, 3) := by decide +kernel
theorem d_I_stateBehind_143 : decode b_I_stateBehind 143 = .ok (.iconst 2, 1) := by decide +kernel
theorem d_I_stateBehind_144 : decode b_I_stateBehind 144 = .ok (.if_icmp .ne 7, 3) := by decide +kernel
theorem d_I_stateBehind_147 : decode b_I_stateBehind 147 = .ok (.iconst 3, 1) := by decide +kernel
theorem d_I_stateBehind_148 : decode b_I_stateBehind 148 = .ok (.goto 4, 3) := by decide +kernel
theorem d_I_stateBehind_151 : decode b_I_stateBehind 151 = .ok (.iconst (-1), 1) := by decide +kernel
theorem d_I_stateBehind_152 : decode b_I_stateBehind 152 = .ok (.ireturn, 1) := by decide +kernel
theorem d_I_stateBehind_153 : decode b_I_stateBehind 153 = .ok (.aload_n 0, 1) := by decide +kernel
theorem d_I_stateBehind_154 : decode b_I_stateBehind 154 = .ok (.getfield 27, 3) := by decide +kernel
theorem d_I_stateBehind_157 : decode b_I_stateBehind 157 = .ok (.iconst 3, 1) := by decide +kernel
theorem d_I_stateBehind_158 : decode b_I_stateBehind 158 = .ok (.if_icmp .eq 12, 3) := by decide +kernel
theorem d_I_stateBehind_161 : decode b_I_stateBehind 161 = .ok (.aload_n 0, 1) := by decide +kernel
theorem d_I_stateBehind_162 : decode b_I_stateBehind 162 = .ok (.getfield 27, 3) := by decide +kernel
theorem d_I_stateBehind_165 : decode b_I_stateBehind 165 = .ok (.bipush 6, 2) := by decide +kernel
theorem d_I_stateBehind_167 : decode b_I_stateBehind 167 = .ok (.if_icmp .ne 7, 3) := by decide +kernel
theorem d_I_stateBehind_170 : decode b_I_stateBehind 170 = .ok (.iconst 4, 1) := by decide +kernel
theorem d_I_stateBehind_171 : decode b_I_stateBehind 171 = .ok (.goto 4, 3) := by decide +kernel
theorem d_I_stateBehind_174 : decode b_I_stateBehind 174 = .ok (.iconst (-1), 1) := by decide +kernel
theorem d_I_stateBehind_175 : decode b_I_stateBehind 175 = .ok (.ireturn, 1) := by decide +kernel
theorem d_I_stateBehind_176 : decode b_I_stateBehind 176 = .ok (.aload_n 0, 1) := by decide +kernel
theorem d_I_stateBehind_177 : decode b_I_stateBehind 177 = .ok (.getfield 27, 3) := by decide +kernel
theorem d_I_stateBehind_180 : decode b_I_stateBehind 180 = .ok (.iconst 4, 1) := by decide +kernel
theorem d_I_stateBehind_181 : decode b_I_stateBehind 181 = .ok (.if_icmp .eq 12, 3) := by decide +kernel
theorem d_I_stateBehind_184 : decode b_I_stateBehind 184 = .ok (.aload_n 0, 1) := by decide +kernel
theorem d_I_stateBehind_185 : decode b_I_stateBehind 185 = .ok (.getfield 27, 3) := by decide +kernel
theorem d_I_stateBehind_188 : decode b_I_stateBehind 188 = .ok (.bipush 7, 2) := by decide +kernel
theorem d_I_stateBehind_190 : decode b_I_stateBehind 190 = .ok (.if_icmp .ne 7, 3) := by decide +kernel
theorem d_I_stateBehind_193 : decode b_I_stateBehind 193 = .ok (.iconst 5, 1) := by decide +kernel
theorem d_I_stateBehind_194 : decode b_I_stateBehind 194 = .ok (.goto 4, 3) := by decide +kernel
theorem d_I_stateBehind_197 : decode b_I_stateBehind 197 = .ok (.iconst (-1), 1) := by decide +kernel
theorem d_I_stateBehind_198 : decode b_I_stateBehind 198 = .ok (.ireturn, 1) := by decide +kernel
theorem d_I_stateBehind_199 : decode b_I_stateBehind 199 = .ok (.aload_n 0, 1) := by decide +kernel
theorem d_I_stateBehind_200 : decode b_I_stateBehind 200 = .ok (.getfield 27, 3) := by decide +kernel
theorem d_I_stateBehind_203 : decode b_I_stateBehind 203 = .ok (.iconst 4, 1) := by decide +kernel
theorem d_I_stateBehind_204 : decode b_I_stateBehind 204 = .ok (.if_icmp .ne 8, 3) := by decide +kernel
theorem d_I_stateBehind_207 : decode b_I_stateBehind 207 = .ok (.bipush 6, 2) := by decide +kernel
theorem d_I_stateBehind_209 : decode b_I_stateBehind 209 = .ok (.goto 4, 3) := by decide +kernel
theorem d_I_stateBehind_212 : decode b_I_stateBehind 212 = .ok (.iconst (-1), 1) := by decide +kernel
theorem d_I_stateBehind_213 : decode b_I_stateBehind 213 = .ok (.ireturn, 1) := by decide +kernel
theorem d_I_stateBehind_214 : decode b_I_stateBehind 214 = .ok (.aload_n 0, 1) := by decide +kernel
theorem d_I_stateBehind_215 : decode b_I_stateBehind 215 = .ok (.getfield 27, 3) := by decide +kernel
theorem d_I_stateBehind_218 : decode b_I_stateBehind 218 = .ok (.iconst 4, 1) := by decide +kernel
theorem d_I_stateBehind_219 : decode b_I_stateBehind 219 = .ok (.if_icmp .eq 12, 3) := by decide +kernel
theorem d_I_stateBehind_222 : decode b_I_stateBehind 222 = .ok (.aload_n 0, 1) := by decide +kernel
theorem d_I_stateBehind_223 : decode b_I_stateBehind 223 = .ok (.getfield 27, 3) := by decide +kernel
theorem d_I_stateBehind_226 : decode b_I_stateBehind 226 = .ok (.bipush 6, 2) := by decide +kernel
theorem d_I_stateBehind_228 : decode b_I_stateBehind 228 = .ok (.if_icmp .ne 8, 3) := by decide +kernel
theorem d_I_stateBehind_231 : decode b_I_stateBehind 231 = .ok (.bipush 7, 2) := by decide +kernel
theorem d_I_stateBehind_233 : decode b_I_stateBehind 233 = .ok (.goto 4, 3) := by decide +kernel
theorem d_I_stateBehind_236 : decode b_I_stateBehind 236 = .ok (.iconst (-1), 1) := by decide +kernel
theorem d_I_stateBehind_237 : decode b_I_stateBehind 237 = .ok (.ireturn, 1) := by decide +kernel
theorem d_I_stateBehind_238 : decode b_I_stateBehind 238 = .ok (.aload_n 0, 1) := by decide +kernel
theorem d_I_stateBehind_239 : decode b_I_stateBehind 239 = .ok (.getfield 27, 3) := by decide +kernel
theorem d_I_stateBehind_242 : decode b_I_stateBehind 242 = .ok (.ireturn, 1) := by decide +kernel
theorem d_I_stateBehind_243 : decode b_I_stateBehind 243 = .ok (.aload_n 0, 1) := by decide +kernel
theorem d_I_stateBehind_244 : decode b_I_stateBehind 244 = .ok (.getfield 27, 3) := by decide +kernel
theorem d_I_stateBehind_247 : decode b_I_stateBehind 247 = .ok (.bipush 7, 2) := by decide +kernel
theorem d_I_stateBehind_249 : decode b_I_stateBehind 249 = .ok (.if_icmp .eq 12, 3) := by decide +kernel
theorem d_I_stateBehind_252 : decode b_I_stateBehind 252 = .ok (.aload_n 0, 1) := by decide +kernel
theorem d_I_stateBehind_253 : decode b_I_stateBehind 253 = .ok (.getfield 27, 3) := by decide +kernel
theorem d_I_stateBehind_256 : decode b_I_stateBehind 256 = .ok (.bipush 6, 2) := by decide +kernel
theorem d_I_stateBehind_258 : decode b_I_stateBehind 258 = .ok (.if_icmp .ne 8, 3) := by decide +kernel
theorem d_I_stateBehind_261 : decode b_I_stateBehind 261 = .ok (.bipush 8, 2) := by decide +kernel
theorem d_I_stateBehind_263 : decode b_I_stateBehind 263 = .ok (.goto 4, 3) := by decide +kernel
theorem d_I_stateBehind_266 : decode b_I_stateBehind 266 = .ok (.iconst (-1), 1) := by decide +kernel
theorem d_I_stateBehind_267 : decode b_I_stateBehind 267 = .ok (.ireturn, 1) := by decide +kernel
theorem d_I_stateBehind_268 : decode b_I_stateBehind 268 = .ok (.bipush 9, 2) := by decide +kernel
theorem d_I_stateBehind_270 : decode b_I_stateBehind 270 = .ok (.ireturn, 1) := by decide +kernel
theorem d_I_stateBehind_271 : decode b_I_stateBehind 271 = .ok (.iconst (-1), 1) := by decide +kernel
theorem d_I_stateBehind_272 : decode b_I_stateBehind 272 = .ok (.ireturn, 1) := by decide +kernel
theorem d_I_undergo_0 : decode b_I_undergo 0 = .ok (.aload_n 0, 1) := by decide +kernel
theorem d_I_undergo_1 : decode b_I_undergo 1 = .ok (.iload_n 2, 1) := by decide +kernel
theorem d_I_undergo_2 : decode b_I_undergo 2 = .ok (.putfield 27, 3) := by decide +kernel
theorem d_I_undergo_5 : decode b_I_undergo 5 = .ok (.iload_n 1, 1) := by decide +kernel
theorem d_I_undergo_6 : decode b_I_undergo 6 = .ok (.bipush 7, 2) := by decide +kernel
theorem d_I_undergo_8 : decode b_I_undergo 8 = .ok (.if_icmp .ne 11, 3) := by decide +kernel
theorem d_I_undergo_11 : decode b_I_undergo 11 = .ok (.aload_n 0, 1) := by decide +kernel
theorem d_I_undergo_12 : decode b_I_undergo 12 = .ok (.iconst 1, 1) := by decide +kernel
theorem d_I_undergo_13 : decode b_I_undergo 13 = .ok (.putfield 30, 3) := by decide +kernel
theorem d_I_undergo_16 : decode b_I_undergo 16 = .ok (.goto 14, 3) := by decide +kernel
theorem d_I_undergo_19 : decode b_I_undergo 19 = .ok (.iload_n 1, 1) := by decide +kernel
theorem d_I_undergo_20 : decode b_I_undergo 20 = .ok (.bipush 8, 2) := by decide +kernel
theorem d_I_undergo_22 : decode b_I_undergo 22 = .ok (.if_icmp .ne 8, 3) := by decide +kernel
theorem d_I_undergo_25 : decode b_I_undergo 25 = .ok (.aload_n 0, 1) := by decide +kernel
theorem d_I_undergo_26 : decode b_I_undergo 26 = .ok (.iconst 0, 1) := by decide +kernel
theorem d_I_undergo_27 : decode b_I_undergo 27 = .ok (.putfield 30, 3) := by decide +kernel
theorem d_I_undergo_30 : decode b_I_undergo 30 = .ok (.return_, 1) := by decide +kernel
theorem d_I_correctable_0 : decode b_I_correctable 0 = .ok (.iload_n 1, 1) := by decide +kernel
theorem d_I_correctable_1 : decode b_I_correctable 1 = .ok (.tableswitch 60 0 4 #[35, 40, 45, 50, 55], 35) := by decide +kernel
theorem d_I_correctable_36 : decode b_I_correctable 36 = .ok (.aload_n 0, 1) := by decide +kernel
theorem d_I_correctable_37 : decode b_I_correctable 37 = .ok (.getfield 9, 3) := by decide +kernel
theorem d_I_correctable_40 : decode b_I_correctable 40 = .ok (.ireturn, 1) := by decide +kernel
theorem d_I_correctable_41 : decode b_I_correctable 41 = .ok (.aload_n 0, 1) := by decide +kernel
theorem d_I_correctable_42 : decode b_I_correctable 42 = .ok (.getfield 15, 3) := by decide +kernel
theorem d_I_correctable_45 : decode b_I_correctable 45 = .ok (.ireturn, 1) := by decide +kernel
theorem d_I_correctable_46 : decode b_I_correctable 46 = .ok (.aload_n 0, 1) := by decide +kernel
theorem d_I_correctable_47 : decode b_I_correctable 47 = .ok (.getfield 18, 3) := by decide +kernel
theorem d_I_correctable_50 : decode b_I_correctable 50 = .ok (.ireturn, 1) := by decide +kernel
theorem d_I_correctable_51 : decode b_I_correctable 51 = .ok (.aload_n 0, 1) := by decide +kernel
theorem d_I_correctable_52 : decode b_I_correctable 52 = .ok (.getfield 34, 3) := by decide +kernel
theorem d_I_correctable_55 : decode b_I_correctable 55 = .ok (.ireturn, 1) := by decide +kernel
theorem d_I_correctable_56 : decode b_I_correctable 56 = .ok (.aload_n 0, 1) := by decide +kernel
theorem d_I_correctable_57 : decode b_I_correctable 57 = .ok (.getfield 37, 3) := by decide +kernel
theorem d_I_correctable_60 : decode b_I_correctable 60 = .ok (.ireturn, 1) := by decide +kernel
theorem d_I_correctable_61 : decode b_I_correctable 61 = .ok (.iconst (-1), 1) := by decide +kernel
theorem d_I_correctable_62 : decode b_I_correctable 62 = .ok (.ireturn, 1) := by decide +kernel
theorem d_I_wouldStay_0 : decode b_I_wouldStay 0 = .ok (.iload_n 1, 1) := by decide +kernel
theorem d_I_wouldStay_1 : decode b_I_wouldStay 1 = .ok (.ifCond .ne 37, 3) := by decide +kernel
theorem d_I_wouldStay_4 : decode b_I_wouldStay 4 = .ok (.iload_n 2, 1) := by decide +kernel
theorem d_I_wouldStay_5 : decode b_I_wouldStay 5 = .ok (.iconst 0, 1) := by decide +kernel
theorem d_I_wouldStay_6 : decode b_I_wouldStay 6 = .ok (.iconst 3, 1) := by decide +kernel
theorem d_I_wouldStay_7 : decode b_I_wouldStay 7 = .ok (.invokestatic 65, 3) := by decide +kernel
theorem d_I_wouldStay_10 : decode b_I_wouldStay 10 = .ok (.ifCond .eq 26, 3) := by decide +kernel
theorem d_I_wouldStay_13 : decode b_I_wouldStay 13 = .ok (.iload_n 2, 1) := by decide +kernel
theorem d_I_wouldStay_14 : decode b_I_wouldStay 14 = .ok (.aload_n 0, 1) := by decide +kernel
theorem d_I_wouldStay_15 : decode b_I_wouldStay 15 = .ok (.getfield 15, 3) := by decide +kernel
theorem d_I_wouldStay_18 : decode b_I_wouldStay 18 = .ok (.aload_n 0, 1) := by decide +kernel
theorem d_I_wouldStay_19 : decode b_I_wouldStay 19 = .ok (.getfield 18, 3) := by decide +kernel
theorem d_I_wouldStay_22 : decode b_I_wouldStay 22 = .ok (.invokestatic 76, 3) := by decide +kernel
theorem d_I_wouldStay_25 : decode b_I_wouldStay 25 = .ok (.aload_n 0, 1) := by decide +kernel
theorem d_I_wouldStay_26 : decode b_I_wouldStay 26 = .ok (.getfield 9, 3) := by decide +kernel
theorem d_I_wouldStay_29 : decode b_I_wouldStay 29 = .ok (.if_icmp .ne 7, 3) := by decide +kernel
theorem d_I_wouldStay_32 : decode b_I_wouldStay 32 = .ok (.iconst 1, 1) := by decide +kernel
theorem d_I_wouldStay_33 : decode b_I_wouldStay 33 = .ok (.goto 4, 3) := by decide +kernel
theorem d_I_wouldStay_36 : decode b_I_wouldStay 36 = .ok (.iconst 0, 1) := by decide +kernel
theorem d_I_wouldStay_37 : decode b_I_wouldStay 37 = .ok (.ireturn, 1) := by decide +kernel
theorem d_I_wouldStay_38 : decode b_I_wouldStay 38 = .ok (.aload_n 0, 1) := by decide +kernel
theorem d_I_wouldStay_39 : decode b_I_wouldStay 39 = .ok (.iload_n 1, 1) := by decide +kernel
theorem d_I_wouldStay_40 : decode b_I_wouldStay 40 = .ok (.invokevirtual 80, 3) := by decide +kernel
theorem d_I_wouldStay_43 : decode b_I_wouldStay 43 = .ok (.iload_n 2, 1) := by decide +kernel
theorem d_I_wouldStay_44 : decode b_I_wouldStay 44 = .ok (.if_icmp .ne 7, 3) := by decide +kernel
theorem d_I_wouldStay_47 : decode b_I_wouldStay 47 = .ok (.iconst 1, 1) := by decide +kernel
theorem d_I_wouldStay_48 : decode b_I_wouldStay 48 = .ok (.goto 4, 3) := by decide +kernel
theorem d_I_wouldStay_51 : decode b_I_wouldStay 51 = .ok (.iconst 0, 1) := by decide +kernel
theorem d_I_wouldStay_52 : decode b_I_wouldStay 52 = .ok (.ireturn, 1) := by decide +kernel
theorem d_I_become_0 : decode b_I_become 0 = .ok (.iload_n 1, 1) := by decide +kernel
theorem d_I_become_1 : decode b_I_become 1 = .ok (.tableswitch 75 0 4 #[35, 43, 51, 59, 67], 35) := by decide +kernel
theorem d_I_become_36 : decode b_I_become 36 = .ok (.aload_n 0, 1) := by decide +kernel
theorem d_I_become_37 : decode b_I_become 37 = .ok (.iload_n 2, 1) := by decide +kernel
theorem d_I_become_38 : decode b_I_become 38 = .ok (.putfield 9, 3) := by decide +kernel
theorem d_I_become_41 : decode b_I_become 41 = .ok (.goto 35, 3) := by decide +kernel
theorem d_I_become_44 : decode b_I_become 44 = .ok (.aload_n 0, 1) := by decide +kernel
theorem d_I_become_45 : decode b_I_become 45 = .ok (.iload_n 2, 1) := by decide +kernel
theorem d_I_become_46 : decode b_I_become 46 = .ok (.putfield 15, 3) := by decide +kernel
theorem d_I_become_49 : decode b_I_become 49 = .ok (.goto 27, 3) := by decide +kernel
theorem d_I_become_52 : decode b_I_become 52 = .ok (.aload_n 0, 1) := by decide +kernel
theorem d_I_become_53 : decode b_I_become 53 = .ok (.iload_n 2, 1) := by decide +kernel
theorem d_I_become_54 : decode b_I_become 54 = .ok (.putfield 18, 3) := by decide +kernel
theorem d_I_become_57 : decode b_I_become 57 = .ok (.goto 19, 3) := by decide +kernel
theorem d_I_become_60 : decode b_I_become 60 = .ok (.aload_n 0, 1) := by decide +kernel
theorem d_I_become_61 : decode b_I_become 61 = .ok (.iload_n 2, 1) := by decide +kernel
theorem d_I_become_62 : decode b_I_become 62 = .ok (.putfield 34, 3) := by decide +kernel
theorem d_I_become_65 : decode b_I_become 65 = .ok (.goto 11, 3) := by decide +kernel
theorem d_I_become_68 : decode b_I_become 68 = .ok (.aload_n 0, 1) := by decide +kernel
theorem d_I_become_69 : decode b_I_become 69 = .ok (.iload_n 2, 1) := by decide +kernel
theorem d_I_become_70 : decode b_I_become 70 = .ok (.putfield 37, 3) := by decide +kernel
theorem d_I_become_73 : decode b_I_become 73 = .ok (.goto 3, 3) := by decide +kernel
theorem d_I_become_76 : decode b_I_become 76 = .ok (.aload_n 0, 1) := by decide +kernel
theorem d_I_become_77 : decode b_I_become 77 = .ok (.aload_n 0, 1) := by decide +kernel
theorem d_I_become_78 : decode b_I_become 78 = .ok (.getfield 9, 3) := by decide +kernel
theorem d_I_become_81 : decode b_I_become 81 = .ok (.aload_n 0, 1) := by decide +kernel
theorem d_I_become_82 : decode b_I_become 82 = .ok (.getfield 15, 3) := by decide +kernel
theorem d_I_become_85 : decode b_I_become 85 = .ok (.aload_n 0, 1) := by decide +kernel
theorem d_I_become_86 : decode b_I_become 86 = .ok (.getfield 18, 3) := by decide +kernel
theorem d_I_become_89 : decode b_I_become 89 = .ok (.invokestatic 76, 3) := by decide +kernel
theorem d_I_become_92 : decode b_I_become 92 = .ok (.putfield 9, 3) := by decide +kernel
theorem d_I_become_95 : decode b_I_become 95 = .ok (.return_, 1) := by decide +kernel
theorem d_I_fact_0 : decode b_I_fact 0 = .ok (.iload_n 1, 1) := by decide +kernel
theorem d_I_fact_1 : decode b_I_fact 1 = .ok (.tableswitch 149 0 13 #[71, 76, 81, 86, 91, 96, 101, 106, 111, 116, 121, 126, 139, 144], 71) := by decide +kernel
theorem d_I_fact_72 : decode b_I_fact 72 = .ok (.aload_n 0, 1) := by decide +kernel
theorem d_I_fact_73 : decode b_I_fact 73 = .ok (.getfield 27, 3) := by decide +kernel
theorem d_I_fact_76 : decode b_I_fact 76 = .ok (.ireturn, 1) := by decide +kernel
theorem d_I_fact_77 : decode b_I_fact 77 = .ok (.aload_n 0, 1) := by decide +kernel
theorem d_I_fact_78 : decode b_I_fact 78 = .ok (.getfield 9, 3) := by decide +kernel
theorem d_I_fact_81 : decode b_I_fact 81 = .ok (.ireturn, 1) := by decide +kernel
theorem d_I_fact_82 : decode b_I_fact 82 = .ok (.aload_n 0, 1) := by decide +kernel
theorem d_I_fact_83 : decode b_I_fact 83 = .ok (.getfield 15, 3) := by decide +kernel
theorem d_I_fact_86 : decode b_I_fact 86 = .ok (.ireturn, 1) := by decide +kernel
theorem d_I_fact_87 : decode b_I_fact 87 = .ok (.aload_n 0, 1) := by decide +kernel
theorem d_I_fact_88 : decode b_I_fact 88 = .ok (.getfield 18, 3) := by decide +kernel
theorem d_I_fact_91 : decode b_I_fact 91 = .ok (.ireturn, 1) := by decide +kernel
theorem d_I_fact_92 : decode b_I_fact 92 = .ok (.aload_n 0, 1) := by decide +kernel
theorem d_I_fact_93 : decode b_I_fact 93 = .ok (.getfield 24, 3) := by decide +kernel
theorem d_I_fact_96 : decode b_I_fact 96 = .ok (.ireturn, 1) := by decide +kernel
theorem d_I_fact_97 : decode b_I_fact 97 = .ok (.aload_n 0, 1) := by decide +kernel
theorem d_I_fact_98 : decode b_I_fact 98 = .ok (.getfield 34, 3) := by decide +kernel
theorem d_I_fact_101 : decode b_I_fact 101 = .ok (.ireturn, 1) := by decide +kernel
theorem d_I_fact_102 : decode b_I_fact 102 = .ok (.aload_n 0, 1) := by decide +kernel
theorem d_I_fact_103 : decode b_I_fact 103 = .ok (.getfield 37, 3) := by decide +kernel
theorem d_I_fact_106 : decode b_I_fact 106 = .ok (.ireturn, 1) := by decide +kernel
theorem d_I_fact_107 : decode b_I_fact 107 = .ok (.aload_n 0, 1) := by decide +kernel
theorem d_I_fact_108 : decode b_I_fact 108 = .ok (.getfield 40, 3) := by decide +kernel
theorem d_I_fact_111 : decode b_I_fact 111 = .ok (.ireturn, 1) := by decide +kernel
theorem d_I_fact_112 : decode b_I_fact 112 = .ok (.aload_n 0, 1) := by decide +kernel
theorem d_I_fact_113 : decode b_I_fact 113 = .ok (.getfield 43, 3) := by decide +kernel
theorem d_I_fact_116 : decode b_I_fact 116 = .ok (.ireturn, 1) := by decide +kernel
theorem d_I_fact_117 : decode b_I_fact 117 = .ok (.aload_n 0, 1) := by decide +kernel
theorem d_I_fact_118 : decode b_I_fact 118 = .ok (.getfield 46, 3) := by decide +kernel
theorem d_I_fact_121 : decode b_I_fact 121 = .ok (.ireturn, 1) := by decide +kernel
theorem d_I_fact_122 : decode b_I_fact 122 = .ok (.aload_n 0, 1) := by decide +kernel
theorem d_I_fact_123 : decode b_I_fact 123 = .ok (.getfield 49, 3) := by decide +kernel
theorem d_I_fact_126 : decode b_I_fact 126 = .ok (.ireturn, 1) := by decide +kernel
theorem d_I_fact_127 : decode b_I_fact 127 = .ok (.aload_n 0, 1) := by decide +kernel
theorem d_I_fact_128 : decode b_I_fact 128 = .ok (.getfield 30, 3) := by decide +kernel
theorem d_I_fact_131 : decode b_I_fact 131 = .ok (.ifCond .eq 7, 3) := by decide +kernel
theorem d_I_fact_134 : decode b_I_fact 134 = .ok (.iconst 1, 1) := by decide +kernel
theorem d_I_fact_135 : decode b_I_fact 135 = .ok (.goto 4, 3) := by decide +kernel
theorem d_I_fact_138 : decode b_I_fact 138 = .ok (.iconst 0, 1) := by decide +kernel
theorem d_I_fact_139 : decode b_I_fact 139 = .ok (.ireturn, 1) := by decide +kernel
theorem d_I_fact_140 : decode b_I_fact 140 = .ok (.aload_n 0, 1) := by decide +kernel
theorem d_I_fact_141 : decode b_I_fact 141 = .ok (.getfield 21, 3) := by decide +kernel
theorem d_I_fact_144 : decode b_I_fact 144 = .ok (.ireturn, 1) := by decide +kernel
theorem d_I_fact_145 : decode b_I_fact 145 = .ok (.aload_n 0, 1) := by decide +kernel
theorem d_I_fact_146 : decode b_I_fact 146 = .ok (.getfield 52, 3) := by decide +kernel
theorem d_I_fact_149 : decode b_I_fact 149 = .ok (.ireturn, 1) := by decide +kernel
theorem d_I_fact_150 : decode b_I_fact 150 = .ok (.bipush (-102), 2) := by decide +kernel
theorem d_I_fact_152 : decode b_I_fact 152 = .ok (.ireturn, 1) := by decide +kernel
theorem d_P_init_0 : decode b_P_init 0 = .ok (.aload_n 0, 1) := by decide +kernel
theorem d_P_init_1 : decode b_P_init 1 = .ok (.invokespecial 3, 3) := by decide +kernel
theorem d_P_init_4 : decode b_P_init 4 = .ok (.aload_n 0, 1) := by decide +kernel
theorem d_P_init_5 : decode b_P_init 5 = .ok (.bipush 30, 2) := by decide +kernel
theorem d_P_init_7 : decode b_P_init 7 = .ok (.newarray .int, 2) := by decide +kernel
theorem d_P_init_9 : decode b_P_init 9 = .ok (.putfield 11, 3) := by decide +kernel
theorem d_P_init_12 : decode b_P_init 12 = .ok (.aload_n 0, 1) := by decide +kernel
theorem d_P_init_13 : decode b_P_init 13 = .ok (.iconst 0, 1) := by decide +kernel
theorem d_P_init_14 : decode b_P_init 14 = .ok (.putfield 15, 3) := by decide +kernel
theorem d_P_init_17 : decode b_P_init 17 = .ok (.return_, 1) := by decide +kernel
theorem d_P_at_0 : decode b_P_at 0 = .ok (.iload_n 1, 1) := by decide +kernel
theorem d_P_at_1 : decode b_P_at 1 = .ok (.iconst 0, 1) := by decide +kernel
theorem d_P_at_2 : decode b_P_at 2 = .ok (.aload_n 0, 1) := by decide +kernel
theorem d_P_at_3 : decode b_P_at 3 = .ok (.getfield 15, 3) := by decide +kernel
theorem d_P_at_6 : decode b_P_at 6 = .ok (.iconst 1, 1) := by decide +kernel
theorem d_P_at_7 : decode b_P_at 7 = .ok (.isub, 1) := by decide +kernel
theorem d_P_at_8 : decode b_P_at 8 = .ok (.invokestatic 19, 3) := by decide +kernel
theorem d_P_at_11 : decode b_P_at 11 = .ok (.ifCond .eq 9, 3) := by decide +kernel
theorem d_P_at_14 : decode b_P_at 14 = .ok (.iload_n 1, 1) := by decide +kernel
theorem d_P_at_15 : decode b_P_at 15 = .ok (.bipush 30, 2) := by decide +kernel
theorem d_P_at_17 : decode b_P_at 17 = .ok (.if_icmp .lt 5, 3) := by decide +kernel
theorem d_P_at_20 : decode b_P_at 20 = .ok (.iconst (-1), 1) := by decide +kernel
theorem d_P_at_21 : decode b_P_at 21 = .ok (.ireturn, 1) := by decide +kernel
theorem d_P_at_22 : decode b_P_at 22 = .ok (.aload_n 0, 1) := by decide +kernel
theorem d_P_at_23 : decode b_P_at 23 = .ok (.getfield 11, 3) := by decide +kernel
theorem d_P_at_26 : decode b_P_at 26 = .ok (.iload_n 1, 1) := by decide +kernel
theorem d_P_at_27 : decode b_P_at 27 = .ok (.iaload, 1) := by decide +kernel
theorem d_P_at_28 : decode b_P_at 28 = .ok (.ireturn, 1) := by decide +kernel
theorem d_P_fill_0 : decode b_P_fill 0 = .ok (.aload_n 0, 1) := by decide +kernel
theorem d_P_fill_1 : decode b_P_fill 1 = .ok (.iconst 0, 1) := by decide +kernel
theorem d_P_fill_2 : decode b_P_fill 2 = .ok (.putfield 15, 3) := by decide +kernel
theorem d_P_fill_5 : decode b_P_fill 5 = .ok (.aload_n 0, 1) := by decide +kernel
theorem d_P_fill_6 : decode b_P_fill 6 = .ok (.iload_n 1, 1) := by decide +kernel
theorem d_P_fill_7 : decode b_P_fill 7 = .ok (.invokevirtual 23, 3) := by decide +kernel
theorem d_P_fill_10 : decode b_P_fill 10 = .ok (.aload_n 0, 1) := by decide +kernel
theorem d_P_fill_11 : decode b_P_fill 11 = .ok (.aload_n 2, 1) := by decide +kernel
theorem d_P_fill_12 : decode b_P_fill 12 = .ok (.getfield 27, 3) := by decide +kernel
theorem d_P_fill_15 : decode b_P_fill 15 = .ok (.bipush 16, 2) := by decide +kernel
theorem d_P_fill_17 : decode b_P_fill 17 = .ok (.aload_n 2, 1) := by decide +kernel
theorem d_P_fill_18 : decode b_P_fill 18 = .ok (.getfield 32, 3) := by decide +kernel
theorem d_P_fill_21 : decode b_P_fill 21 = .ok (.imul, 1) := by decide +kernel
theorem d_P_fill_22 : decode b_P_fill 22 = .ok (.iadd, 1) := by decide +kernel
theorem d_P_fill_23 : decode b_P_fill 23 = .ok (.invokevirtual 35, 3) := by decide +kernel
theorem d_P_fill_26 : decode b_P_fill 26 = .ok (.aload_n 0, 1) := by decide +kernel
theorem d_P_fill_27 : decode b_P_fill 27 = .ok (.aload_n 2, 1) := by decide +kernel
theorem d_P_fill_28 : decode b_P_fill 28 = .ok (.getfield 38, 3) := by decide +kernel
theorem d_P_fill_31 : decode b_P_fill 31 = .ok (.invokevirtual 23, 3) := by decide +kernel
theorem d_P_fill_34 : decode b_P_fill 34 = .ok (.aload_n 0, 1) := by decide +kernel
theorem d_P_fill_35 : decode b_P_fill 35 = .ok (.aload_n 2, 1) := by decide +kernel
theorem d_P_fill_36 : decode b_P_fill 36 = .ok (.getfield 41, 3) := by decide +kernel
theorem d_P_fill_39 : decode b_P_fill 39 = .ok (.invokevirtual 35, 3) := by decide +kernel
theorem d_P_fill_42 : decode b_P_fill 42 = .ok (.aload_n 0, 1) := by decide +kernel
theorem d_P_fill_43 : decode b_P_fill 43 = .ok (.aload_n 2, 1) := by decide +kernel
theorem d_P_fill_44 : decode b_P_fill 44 = .ok (.getfield 44, 3) := by decide +kernel
theorem d_P_fill_47 : decode b_P_fill 47 = .ok (.ifCond .eq 14, 3) := by decide +kernel
theorem d_P_fill_50 : decode b_P_fill 50 = .ok (.aload_n 2, 1) := by decide +kernel
theorem d_P_fill_51 : decode b_P_fill 51 = .ok (.getfield 48, 3) := by decide +kernel
theorem d_P_fill_54 : decode b_P_fill 54 = .ok (.sipush 128, 3) := by decide +kernel
theorem d_P_fill_57 : decode b_P_fill 57 = .ok (.iadd, 1) := by decide +kernel
theorem d_P_fill_58 : decode b_P_fill 58 = .ok (.goto 7, 3) := by decide +kernel
theorem d_P_fill_61 : decode b_P_fill 61 = .ok (.aload_n 2, 1) := by decide +kernel
theorem d_P_fill_62 : decode b_P_fill 62 = .ok (.getfield 48, 3) := by decide +kernel
theorem d_P_fill_65 : decode b_P_fill 65 = .ok (.invokevirtual 35, 3) := by decide +kernel
theorem d_P_fill_68 : decode b_P_fill 68 = .ok (.aload_n 0, 1) := by decide +kernel
theorem d_P_fill_69 : decode b_P_fill 69 = .ok (.aload_n 2, 1) := by decide +kernel
theorem d_P_fill_70 : decode b_P_fill 70 = .ok (.getfield 51, 3) := by decide +kernel
theorem d_P_fill_73 : decode b_P_fill 73 = .ok (.invokevirtual 54, 3) := by decide +kernel
theorem d_P_fill_76 : decode b_P_fill 76 = .ok (.aload_n 0, 1) := by decide +kernel
theorem d_P_fill_77 : decode b_P_fill 77 = .ok (.aload_n 2, 1) := by decide +kernel
theorem d_P_fill_78 : decode b_P_fill 78 = .ok (.getfield 57, 3) := by decide +kernel
theorem d_P_fill_81 : decode b_P_fill 81 = .ok (.invokevirtual 54, 3) := by decide +kernel
theorem d_P_fill_84 : decode b_P_fill 84 = .ok (.aload_n 0, 1) := by decide +kernel
theorem d_P_fill_85 : decode b_P_fill 85 = .ok (.aload_n 2, 1) := by decide +kernel
theorem d_P_fill_86 : decode b_P_fill 86 = .ok (.getfield 60, 3) := by decide +kernel
theorem d_P_fill_89 : decode b_P_fill 89 = .ok (.invokevirtual 35, 3) := by decide +kernel
theorem d_P_fill_92 : decode b_P_fill 92 = .ok (.aload_n 0, 1) := by decide +kernel
theorem d_P_fill_93 : decode b_P_fill 93 = .ok (.aload_n 2, 1) := by decide +kernel
theorem d_P_fill_94 : decode b_P_fill 94 = .ok (.getfield 63, 3) := by decide +kernel
theorem d_P_fill_97 : decode b_P_fill 97 = .ok (.invokevirtual 35, 3) := by decide +kernel
theorem d_P_fill_100 : decode b_P_fill 100 = .ok (.iconst 0, 1) := by decide +kernel
theorem d_P_fill_101 : decode b_P_fill 101 = .ok (.istore_n 3, 1) := by decide +kernel
theorem d_P_fill_102 : decode b_P_fill 102 = .ok (.iload_n 3, 1) := by decide +kernel
theorem d_P_fill_103 : decode b_P_fill 103 = .ok (.aload_n 2, 1) := by decide +kernel
theorem d_P_fill_104 : decode b_P_fill 104 = .ok (.getfield 63, 3) := by decide +kernel
theorem d_P_fill_107 : decode b_P_fill 107 = .ok (.if_icmp .ge 47, 3) := by decide +kernel
theorem d_P_fill_110 : decode b_P_fill 110 = .ok (.iload_n 3, 1) := by decide +kernel
theorem d_P_fill_111 : decode b_P_fill 111 = .ok (.iconst 4, 1) := by decide +kernel
theorem d_P_fill_112 : decode b_P_fill 112 = .ok (.if_icmp .ge 42, 3) := by decide +kernel
theorem d_P_fill_115 : decode b_P_fill 115 = .ok (.aload_n 0, 1) := by decide +kernel
theorem d_P_fill_116 : decode b_P_fill 116 = .ok (.aload_n 2, 1) := by decide +kernel
theorem d_P_fill_117 : decode b_P_fill 117 = .ok (.getfield 66, 3) := by decide +kernel
theorem d_P_fill_120 : decode b_P_fill 120 = .ok (.iload_n 3, 1) := by decide +kernel
theorem d_P_fill_121 : decode b_P_fill 121 = .ok (.iaload, 1) := by decide +kernel
theorem d_P_fill_122 : decode b_P_fill 122 = .ok (.invokevirtual 35, 3) := by decide +kernel
theorem d_P_fill_125 : decode b_P_fill 125 = .ok (.aload_n 0, 1) := by decide +kernel
theorem d_P_fill_126 : decode b_P_fill 126 = .ok (.aload_n 2, 1) := by decide +kernel
theorem d_P_fill_127 : decode b_P_fill 127 = .ok (.getfield 69, 3) := by decide +kernel
theorem d_P_fill_130 : decode b_P_fill 130 = .ok (.iload_n 3, 1) := by decide +kernel
theorem d_P_fill_131 : decode b_P_fill 131 = .ok (.iaload, 1) := by decide +kernel
theorem d_P_fill_132 : decode b_P_fill 132 = .ok (.bipush 16, 2) := by decide +kernel
theorem d_P_fill_134 : decode b_P_fill 134 = .ok (.ishr, 1) := by decide +kernel
theorem d_P_fill_135 : decode b_P_fill 135 = .ok (.invokevirtual 35, 3) := by decide +kernel
theorem d_P_fill_138 : decode b_P_fill 138 = .ok (.aload_n 0, 1) := by decide +kernel
theorem d_P_fill_139 : decode b_P_fill 139 = .ok (.aload_n 2, 1) := by decide +kernel
theorem d_P_fill_140 : decode b_P_fill 140 = .ok (.getfield 69, 3) := by decide +kernel
theorem d_P_fill_143 : decode b_P_fill 143 = .ok (.iload_n 3, 1) := by decide +kernel
theorem d_P_fill_144 : decode b_P_fill 144 = .ok (.iaload, 1) := by decide +kernel
theorem d_P_fill_145 : decode b_P_fill 145 = .ok (.invokevirtual 23, 3) := by decide +kernel
theorem d_P_fill_148 : decode b_P_fill 148 = .ok (.iinc 3 1, 3) := by decide +kernel
theorem d_P_fill_151 : decode b_P_fill 151 = .ok (.goto (-49), 3) := by decide +kernel
theorem d_P_fill_154 : decode b_P_fill 154 = .ok (.aload_n 0, 1) := by decide +kernel
theorem d_P_fill_155 : decode b_P_fill 155 = .ok (.aload_n 0, 1) := by decide +kernel
theorem d_P_fill_156 : decode b_P_fill 156 = .ok (.invokevirtual 72, 3) := by decide +kernel
theorem d_P_fill_159 : decode b_P_fill 159 = .ok (.invokevirtual 35, 3) := by decide +kernel
theorem d_P_fill_162 : decode b_P_fill 162 = .ok (.return_, 1) := by decide +kernel
theorem d_P_add_0 : decode b_P_add 0 = .ok (.aload_n 0, 1) := by decide +kernel
theorem d_P_add_1 : decode b_P_add 1 = .ok (.getfield 15, 3) := by decide +kernel
theorem d_P_add_4 : decode b_P_add 4 = .ok (.bipush 30, 2) := by decide +kernel
theorem d_P_add_6 : decode b_P_add 6 = .ok (.if_icmp .ge 27, 3) := by decide +kernel
theorem d_P_add_9 : decode b_P_add 9 = .ok (.aload_n 0, 1) := by decide +kernel
theorem d_P_add_10 : decode b_P_add 10 = .ok (.getfield 11, 3) := by decide +kernel
theorem d_P_add_13 : decode b_P_add 13 = .ok (.aload_n 0, 1) := by decide +kernel
theorem d_P_add_14 : decode b_P_add 14 = .ok (.getfield 15, 3) := by decide +kernel
theorem d_P_add_17 : decode b_P_add 17 = .ok (.iload_n 1, 1) := by decide +kernel
theorem d_P_add_18 : decode b_P_add 18 = .ok (.sipush 255, 3) := by decide +kernel
theorem d_P_add_21 : decode b_P_add 21 = .ok (.iand, 1) := by decide +kernel
theorem d_P_add_22 : decode b_P_add 22 = .ok (.iastore, 1) := by decide +kernel
theorem d_P_add_23 : decode b_P_add 23 = .ok (.aload_n 0, 1) := by decide +kernel
theorem d_P_add_24 : decode b_P_add 24 = .ok (.dup, 1) := by decide +kernel
theorem d_P_add_25 : decode b_P_add 25 = .ok (.getfield 15, 3) := by decide +kernel
theorem d_P_add_28 : decode b_P_add 28 = .ok (.iconst 1, 1) := by decide +kernel
theorem d_P_add_29 : decode b_P_add 29 = .ok (.iadd, 1) := by decide +kernel
theorem d_P_add_30 : decode b_P_add 30 = .ok (.putfield 15, 3) := by decide +kernel
theorem d_P_add_33 : decode b_P_add 33 = .ok (.return_, 1) := by decide +kernel
theorem d_P_addTwo_0 : decode b_P_addTwo 0 = .ok (.aload_n 0, 1) := by decide +kernel
theorem d_P_addTwo_1 : decode b_P_addTwo 1 = .ok (.iload_n 1, 1) := by decide +kernel
theorem d_P_addTwo_2 : decode b_P_addTwo 2 = .ok (.bipush 8, 2) := by decide +kernel
theorem d_P_addTwo_4 : decode b_P_addTwo 4 = .ok (.ishr, 1) := by decide +kernel
theorem d_P_addTwo_5 : decode b_P_addTwo 5 = .ok (.invokevirtual 35, 3) := by decide +kernel
theorem d_P_addTwo_8 : decode b_P_addTwo 8 = .ok (.aload_n 0, 1) := by decide +kernel
theorem d_P_addTwo_9 : decode b_P_addTwo 9 = .ok (.iload_n 1, 1) := by decide +kernel
theorem d_P_addTwo_10 : decode b_P_addTwo 10 = .ok (.invokevirtual 35, 3) := by decide +kernel
theorem d_P_addTwo_13 : decode b_P_addTwo 13 = .ok (.return_, 1) := by decide +kernel
theorem d_P_addEntry_0 : decode b_P_addEntry 0 = .ok (.aload_n 0, 1) := by decide +kernel
theorem d_P_addEntry_1 : decode b_P_addEntry 1 = .ok (.iload_n 1, 1) := by decide +kernel
theorem d_P_addEntry_2 : decode b_P_addEntry 2 = .ok (.iconst (-1), 1) := by decide +kernel
theorem d_P_addEntry_3 : decode b_P_addEntry 3 = .ok (.if_icmp .ne 8, 3) := by decide +kernel
theorem d_P_addEntry_6 : decode b_P_addEntry 6 = .ok (.ldc 76, 2) := by decide +kernel
theorem d_P_addEntry_8 : decode b_P_addEntry 8 = .ok (.goto 4, 3) := by decide +kernel
theorem d_P_addEntry_11 : decode b_P_addEntry 11 = .ok (.iload_n 1, 1) := by decide +kernel
theorem d_P_addEntry_12 : decode b_P_addEntry 12 = .ok (.invokevirtual 23, 3) := by decide +kernel
theorem d_P_addEntry_15 : decode b_P_addEntry 15 = .ok (.return_, 1) := by decide +kernel
theorem d_P_xorOfAll_0 : decode b_P_xorOfAll 0 = .ok (.iconst 0, 1) := by decide +kernel
theorem d_P_xorOfAll_1 : decode b_P_xorOfAll 1 = .ok (.istore_n 1, 1) := by decide +kernel
theorem d_P_xorOfAll_2 : decode b_P_xorOfAll 2 = .ok (.iconst 0, 1) := by decide +kernel
theorem d_P_xorOfAll_3 : decode b_P_xorOfAll 3 = .ok (.istore_n 2, 1) := by decide +kernel
theorem d_P_xorOfAll_4 : decode b_P_xorOfAll 4 = .ok (.iload_n 2, 1) := by decide +kernel
theorem d_P_xorOfAll_5 : decode b_P_xorOfAll 5 = .ok (.aload_n 0, 1) := by decide +kernel
theorem d_P_xorOfAll_6 : decode b_P_xorOfAll 6 = .ok (.getfield 15, 3) := by decide +kernel
theorem d_P_xorOfAll_9 : decode b_P_xorOfAll 9 = .ok (.if_icmp .ge 24, 3) := by decide +kernel
theorem d_P_xorOfAll_12 : decode b_P_xorOfAll 12 = .ok (.iload_n 2, 1) := by decide +kernel
theorem d_P_xorOfAll_13 : decode b_P_xorOfAll 13 = .ok (.bipush 30, 2) := by decide +kernel
theorem d_P_xorOfAll_15 : decode b_P_xorOfAll 15 = .ok (.if_icmp .ge 18, 3) := by decide +kernel
theorem d_P_xorOfAll_18 : decode b_P_xorOfAll 18 = .ok (.iload_n 1, 1) := by decide +kernel
theorem d_P_xorOfAll_19 : decode b_P_xorOfAll 19 = .ok (.aload_n 0, 1) := by decide +kernel
theorem d_P_xorOfAll_20 : decode b_P_xorOfAll 20 = .ok (.getfield 11, 3) := by decide +kernel
theorem d_P_xorOfAll_23 : decode b_P_xorOfAll 23 = .ok (.iload_n 2, 1) := by decide +kernel
theorem d_P_xorOfAll_24 : decode b_P_xorOfAll 24 = .ok (.iaload, 1) := by decide +kernel
theorem d_P_xorOfAll_25 : decode b_P_xorOfAll 25 = .ok (.ixor, 1) := by decide +kernel
theorem d_P_xorOfAll_26 : decode b_P_xorOfAll 26 = .ok (.istore_n 1, 1) := by decide +kernel
theorem d_P_xorOfAll_27 : decode b_P_xorOfAll 27 = .ok (.iinc 2 1, 3) := by decide +kernel
theorem d_P_xorOfAll_30 : decode b_P_xorOfAll 30 = .ok (.goto (-26), 3) := by decide +kernel
theorem d_P_xorOfAll_33 : decode b_P_xorOfAll 33 = .ok (.iload_n 1, 1) := by decide +kernel
theorem d_P_xorOfAll_34 : decode b_P_xorOfAll 34 = .ok (.ireturn, 1) := by decide +kernel
end
section
theorem d_M_init_0 : decode b_M_init 0 = .ok (.aload_n 0, 1) := by decide +kernel
theorem d_M_init_1 : decode b_M_init 1 = .ok (.invokespecial 1, 3) := by decide +kernel
theorem d_M_init_4 : decode b_M_init 4 = .ok (.aload_n 0, 1) := by decide +kernel
theorem d_M_init_5 : decode b_M_init 5 = .ok (.bipush 121, 2) := by decide +kernel
theorem d_M_init_7 : decode b_M_init 7 = .ok (.newarray .int, 2) := by decide +kernel
theorem d_M_init_9 : decode b_M_init 9 = .ok (.putfield 7, 3) := by decide +kernel
theorem d_M_init_12 : decode b_M_init 12 = .ok (.aload_n 0, 1) := by decide +kernel
theorem d_M_init_13 : decode b_M_init 13 = .ok (.bipush 121, 2) := by decide +kernel
theorem d_M_init_15 : decode b_M_init 15 = .ok (.newarray .int, 2) := by decide +kernel
theorem d_M_init_17 : decode b_M_init 17 = .ok (.putfield 13, 3) := by decide +kernel
theorem d_M_init_20 : decode b_M_init 20 = .ok (.aload_n 0, 1) := by decide +kernel
theorem d_M_init_21 : decode b_M_init 21 = .ok (.bipush 121, 2) := by decide +kernel
theorem d_M_init_23 : decode b_M_init 23 = .ok (.newarray .int, 2) := by decide +kernel
theorem d_M_init_25 : decode b_M_init 25 = .ok (.putfield 16, 3) := by decide +kernel
theorem d_M_init_28 : decode b_M_init 28 = .ok (.aload_n 0, 1) := by decide +kernel
theorem d_M_init_29 : decode b_M_init 29 = .ok (.bipush 121, 2) := by decide +kernel
theorem d_M_init_31 : decode b_M_init 31 = .ok (.newarray .int, 2) := by decide +kernel
theorem d_M_init_33 : decode b_M_init 33 = .ok (.putfield 19, 3) := by decide +kernel
theorem d_M_init_36 : decode b_M_init 36 = .ok (.aload_n 0, 1) := by decide +kernel
theorem d_M_init_37 : decode b_M_init 37 = .ok (.bipush 121, 2) := by decide +kernel
theorem d_M_init_39 : decode b_M_init 39 = .ok (.newarray .int, 2) := by decide +kernel
theorem d_M_init_41 : decode b_M_init 41 = .ok (.putfield 22, 3) := by decide +kernel
theorem d_M_init_44 : decode b_M_init 44 = .ok (.aload_n 0, 1) := by decide +kernel
theorem d_M_init_45 : decode b_M_init 45 = .ok (.bipush 121, 2) := by decide +kernel
theorem d_M_init_47 : decode b_M_init 47 = .ok (.newarray .int, 2) := by decide +kernel
theorem d_M_init_49 : decode b_M_init 49 = .ok (.putfield 25, 3) := by decide +kernel
theorem d_M_init_52 : decode b_M_init 52 = .ok (.aload_n 0, 1) := by decide +kernel
theorem d_M_init_53 : decode b_M_init 53 = .ok (.bipush 121, 2) := by decide +kernel
theorem d_M_init_55 : decode b_M_init 55 = .ok (.newarray .boolean, 2) := by decide +kernel
theorem d_M_init_57 : decode b_M_init 57 = .ok (.putfield 28, 3) := by decide +kernel
theorem d_M_init_60 : decode b_M_init 60 = .ok (.aload_n 0, 1) := by decide +kernel
theorem d_M_init_61 : decode b_M_init 61 = .ok (.bipush 121, 2) := by decide +kernel
theorem d_M_init_63 : decode b_M_init 63 = .ok (.newarray .int, 2) := by decide +kernel
theorem d_M_init_65 : decode b_M_init 65 = .ok (.putfield 32, 3) := by decide +kernel
theorem d_M_init_68 : decode b_M_init 68 = .ok (.aload_n 0, 1) := by decide +kernel
theorem d_M_init_69 : decode b_M_init 69 = .ok (.bipush 121, 2) := by decide +kernel
theorem d_M_init_71 : decode b_M_init 71 = .ok (.newarray .int, 2) := by decide +kernel
theorem d_M_init_73 : decode b_M_init 73 = .ok (.putfield 35, 3) := by decide +kernel
theorem d_M_init_76 : decode b_M_init 76 = .ok (.aload_n 0, 1) := by decide +kernel
theorem d_M_init_77 : decode b_M_init 77 = .ok (.bipush 121, 2) := by decide +kernel
theorem d_M_init_79 : decode b_M_init 79 = .ok (.newarray .int, 2) := by decide +kernel
theorem d_M_init_81 : decode b_M_init 81 = .ok (.putfield 38, 3) := by decide +kernel
theorem d_M_init_84 : decode b_M_init 84 = .ok (.aload_n 0, 1) := by decide +kernel
theorem d_M_init_85 : decode b_M_init 85 = .ok (.bipush 121, 2) := by decide +kernel
theorem d_M_init_87 : decode b_M_init 87 = .ok (.newarray .int, 2) := by decide +kernel
theorem d_M_init_89 : decode b_M_init 89 = .ok (.putfield 41, 3) := by decide +kernel
theorem d_M_init_92 : decode b_M_init 92 = .ok (.aload_n 0, 1) := by decide +kernel
theorem d_M_init_93 : decode b_M_init 93 = .ok (.bipush 121, 2) := by decide +kernel
theorem d_M_init_95 : decode b_M_init 95 = .ok (.newarray .int, 2) := by decide +kernel
theorem d_M_init_97 : decode b_M_init 97 = .ok (.putfield 44, 3) := by decide +kernel
theorem d_M_init_100 : decode b_M_init 100 = .ok (.aload_n 0, 1) := by decide +kernel
theorem d_M_init_101 : decode b_M_init 101 = .ok (.sipush 484, 3) := by decide +kernel
theorem d_M_init_104 : decode b_M_init 104 = .ok (.newarray .int, 2) := by decide +kernel
theorem d_M_init_106 : decode b_M_init 106 = .ok (.putfield 47, 3) := by decide +kernel
theorem d_M_init_109 : decode b_M_init 109 = .ok (.aload_n 0, 1) := by decide +kernel
theorem d_M_init_110 : decode b_M_init 110 = .ok (.sipush 484, 3) := by decide +kernel
theorem d_M_init_113 : decode b_M_init 113 = .ok (.newarray .int, 2) := by decide +kernel
theorem d_M_init_115 : decode b_M_init 115 = .ok (.putfield 50, 3) := by decide +kernel
theorem d_M_init_118 : decode b_M_init 118 = .ok (.aload_n 0, 1) := by decide +kernel
theorem d_M_init_119 : decode b_M_init 119 = .ok (.bipush 121, 2) := by decide +kernel
theorem d_M_init_121 : decode b_M_init 121 = .ok (.newarray .int, 2) := by decide +kernel
theorem d_M_init_123 : decode b_M_init 123 = .ok (.putfield 53, 3) := by decide +kernel
theorem d_M_init_126 : decode b_M_init 126 = .ok (.aload_n 0, 1) := by decide +kernel
theorem d_M_init_127 : decode b_M_init 127 = .ok (.bipush 31, 2) := by decide +kernel
theorem d_M_init_129 : decode b_M_init 129 = .ok (.newarray .boolean, 2) := by decide +kernel
theorem d_M_init_131 : decode b_M_init 131 = .ok (.putfield 56, 3) := by decide +kernel
theorem d_M_init_134 : decode b_M_init 134 = .ok (.aload_n 0, 1) := by decide +kernel
theorem d_M_init_135 : decode b_M_init 135 = .ok (.bipush 121, 2) := by decide +kernel
theorem d_M_init_137 : decode b_M_init 137 = .ok (.newarray .int, 2) := by decide +kernel
theorem d_M_init_139 : decode b_M_init 139 = .ok (.putfield 59, 3) := by decide +kernel
theorem d_M_init_142 : decode b_M_init 142 = .ok (.aload_n 0, 1) := by decide +kernel
theorem d_M_init_143 : decode b_M_init 143 = .ok (.bipush 121, 2) := by decide +kernel
theorem d_M_init_145 : decode b_M_init 145 = .ok (.newarray .int, 2) := by decide +kernel
theorem d_M_init_147 : decode b_M_init 147 = .ok (.putfield 62, 3) := by decide +kernel
theorem d_M_init_150 : decode b_M_init 150 = .ok (.aload_n 0, 1) := by decide +kernel
theorem d_M_init_151 : decode b_M_init 151 = .ok (.sipush 1000, 3) := by decide +kernel
theorem d_M_init_154 : decode b_M_init 154 = .ok (.newarray .int, 2) := by decide +kernel
theorem d_M_init_156 : decode b_M_init 156 = .ok (.putfield 65, 3) := by decide +kernel
theorem d_M_init_159 : decode b_M_init 159 = .ok (.aload_n 0, 1) := by decide +kernel
theorem d_M_init_160 : decode b_M_init 160 = .ok (.bipush 40, 2) := by decide +kernel
theorem d_M_init_162 : decode b_M_init 162 = .ok (.newarray .int, 2) := by decide +kernel
theorem d_M_init_164 : decode b_M_init 164 = .ok (.putfield 68, 3) := by decide +kernel
theorem d_M_init_167 : decode b_M_init 167 = .ok (.return_, 1) := by decide +kernel
theorem d_M_within_0 : decode b_M_within 0 = .ok (.iload_n 0, 1) := by decide +kernel
theorem d_M_within_1 : decode b_M_within 1 = .ok (.iload_n 1, 1) := by decide +kernel
theorem d_M_within_2 : decode b_M_within 2 = .ok (.if_icmp .lt 12, 3) := by decide +kernel
theorem d_M_within_5 : decode b_M_within 5 = .ok (.iload_n 0, 1) := by decide +kernel
theorem d_M_within_6 : decode b_M_within 6 = .ok (.iload_n 2, 1) := by decide +kernel
theorem d_M_within_7 : decode b_M_within 7 = .ok (.if_icmp .gt 7, 3) := by decide +kernel
theorem d_M_within_10 : decode b_M_within 10 = .ok (.iconst 1, 1) := by decide +kernel
theorem d_M_within_11 : decode b_M_within 11 = .ok (.goto 4, 3) := by decide +kernel
theorem d_M_within_14 : decode b_M_within 14 = .ok (.iconst 0, 1) := by decide +kernel
theorem d_M_within_15 : decode b_M_within 15 = .ok (.ireturn, 1) := by decide +kernel
theorem d_M_isItem_0 : decode b_M_isItem 0 = .ok (.iload_n 1, 1) := by decide +kernel
theorem d_M_isItem_1 : decode b_M_isItem 1 = .ok (.iconst 1, 1) := by decide +kernel
theorem d_M_isItem_2 : decode b_M_isItem 2 = .ok (.aload_n 0, 1) := by decide +kernel
theorem d_M_isItem_3 : decode b_M_isItem 3 = .ok (.getfield 71, 3) := by decide +kernel
theorem d_M_isItem_6 : decode b_M_isItem 6 = .ok (.invokestatic 75, 3) := by decide +kernel
theorem d_M_isItem_9 : decode b_M_isItem 9 = .ok (.ireturn, 1) := by decide +kernel
theorem d_M_isOver_0 : decode b_M_isOver 0 = .ok (.aload_n 0, 1) := by decide +kernel
theorem d_M_isOver_1 : decode b_M_isOver 1 = .ok (.getfield 25, 3) := by decide +kernel
theorem d_M_isOver_4 : decode b_M_isOver 4 = .ok (.iload_n 1, 1) := by decide +kernel
theorem d_M_isOver_5 : decode b_M_isOver 5 = .ok (.iaload, 1) := by decide +kernel
theorem d_M_isOver_6 : decode b_M_isOver 6 = .ok (.iconst 5, 1) := by decide +kernel
theorem d_M_isOver_7 : decode b_M_isOver 7 = .ok (.if_icmp .eq 14, 3) := by decide +kernel
theorem d_M_isOver_10 : decode b_M_isOver 10 = .ok (.aload_n 0, 1) := by decide +kernel
theorem d_M_isOver_11 : decode b_M_isOver 11 = .ok (.getfield 25, 3) := by decide +kernel
theorem d_M_isOver_14 : decode b_M_isOver 14 = .ok (.iload_n 1, 1) := by decide +kernel
theorem d_M_isOver_15 : decode b_M_isOver 15 = .ok (.iaload, 1) := by decide +kernel
theorem d_M_isOver_16 : decode b_M_isOver 16 = .ok (.bipush 9, 2) := by decide +kernel
theorem d_M_isOver_18 : decode b_M_isOver 18 = .ok (.if_icmp .ne 7, 3) := by decide +kernel
theorem d_M_isOver_21 : decode b_M_isOver 21 = .ok (.iconst 1, 1) := by decide +kernel
theorem d_M_isOver_22 : decode b_M_isOver 22 = .ok (.goto 4, 3) := by decide +kernel
theorem d_M_isOver_25 : decode b_M_isOver 25 = .ok (.iconst 0, 1) := by decide +kernel
theorem d_M_isOver_26 : decode b_M_isOver 26 = .ok (.ireturn, 1) := by decide +kernel
theorem d_M_mostOf_0 : decode b_M_mostOf 0 = .ok (.iload_n 0, 1) := by decide +kernel
theorem d_M_mostOf_1 : decode b_M_mostOf 1 = .ok (.ifCond .ne 8, 3) := by decide +kernel
theorem d_M_mostOf_4 : decode b_M_mostOf 4 = .ok (.bipush 50, 2) := by decide +kernel
theorem d_M_mostOf_6 : decode b_M_mostOf 6 = .ok (.goto 28, 3) := by decide +kernel
theorem d_M_mostOf_9 : decode b_M_mostOf 9 = .ok (.iload_n 0, 1) := by decide +kernel
theorem d_M_mostOf_10 : decode b_M_mostOf 10 = .ok (.iconst 1, 1) := by decide +kernel
theorem d_M_mostOf_11 : decode b_M_mostOf 11 = .ok (.if_icmp .ne 9, 3) := by decide +kernel
theorem d_M_mostOf_14 : decode b_M_mostOf 14 = .ok (.sipush 500, 3) := by decide +kernel
theorem d_M_mostOf_17 : decode b_M_mostOf 17 = .ok (.goto 17, 3) := by decide +kernel
theorem d_M_mostOf_20 : decode b_M_mostOf 20 = .ok (.iload_n 0, 1) := by decide +kernel
theorem d_M_mostOf_21 : decode b_M_mostOf 21 = .ok (.iconst 2, 1) := by decide +kernel
theorem d_M_mostOf_22 : decode b_M_mostOf 22 = .ok (.if_icmp .ne 9, 3) := by decide +kernel
theorem d_M_mostOf_25 : decode b_M_mostOf 25 = .ok (.sipush 2000, 3) := by decide +kernel
theorem d_M_mostOf_28 : decode b_M_mostOf 28 = .ok (.goto 6, 3) := by decide +kernel
theorem d_M_mostOf_31 : decode b_M_mostOf 31 = .ok (.sipush 31500, 3) := by decide +kernel
theorem d_M_mostOf_34 : decode b_M_mostOf 34 = .ok (.ireturn, 1) := by decide +kernel
theorem d_M_tooMuch_0 : decode b_M_tooMuch 0 = .ok (.iload_n 0, 1) := by decide +kernel
theorem d_M_tooMuch_1 : decode b_M_tooMuch 1 = .ok (.sipush 31500, 3) := by decide +kernel
theorem d_M_tooMuch_4 : decode b_M_tooMuch 4 = .ok (.if_icmp .le 8, 3) := by decide +kernel
theorem d_M_tooMuch_7 : decode b_M_tooMuch 7 = .ok (.bipush (-109), 2) := by decide +kernel
theorem d_M_tooMuch_9 : decode b_M_tooMuch 9 = .ok (.goto 14, 3) := by decide +kernel
theorem d_M_tooMuch_12 : decode b_M_tooMuch 12 = .ok (.iload_n 1, 1) := by decide +kernel
theorem d_M_tooMuch_13 : decode b_M_tooMuch 13 = .ok (.iconst 3, 1) := by decide +kernel
theorem d_M_tooMuch_14 : decode b_M_tooMuch 14 = .ok (.if_icmp .le 8, 3) := by decide +kernel
theorem d_M_tooMuch_17 : decode b_M_tooMuch 17 = .ok (.bipush (-110), 2) := by decide +kernel
theorem d_M_tooMuch_19 : decode b_M_tooMuch 19 = .ok (.goto 4, 3) := by decide +kernel
theorem d_M_tooMuch_22 : decode b_M_tooMuch 22 = .ok (.iconst 0, 1) := by decide +kernel
theorem d_M_tooMuch_23 : decode b_M_tooMuch 23 = .ok (.ireturn, 1) := by decide +kernel
theorem d_M_turned_0 : decode b_M_turned 0 = .ok (.iload_n 0, 1) := by decide +kernel
theorem d_M_turned_1 : decode b_M_turned 1 = .ok (.istore_n 3, 1) := by decide +kernel
theorem d_M_turned_2 : decode b_M_turned 2 = .ok (.iload_n 3, 1) := by decide +kernel
theorem d_M_turned_3 : decode b_M_turned 3 = .ok (.invokestatic 79, 3) := by decide +kernel
theorem d_M_turned_6 : decode b_M_turned 6 = .ok (.iload_n 1, 1) := by decide +kernel
theorem d_M_turned_7 : decode b_M_turned 7 = .ok (.if_icmp .lt 8, 3) := by decide +kernel
theorem d_M_turned_10 : decode b_M_turned 10 = .ok (.iload_n 3, 1) := by decide +kernel
theorem d_M_turned_11 : decode b_M_turned 11 = .ok (.iload_n 2, 1) := by decide +kernel
theorem d_M_turned_12 : decode b_M_turned 12 = .ok (.if_icmp .ge 9, 3) := by decide +kernel
theorem d_M_turned_15 : decode b_M_turned 15 = .ok (.iinc 3 1, 3) := by decide +kernel
theorem d_M_turned_18 : decode b_M_turned 18 = .ok (.goto (-16), 3) := by decide +kernel
theorem d_M_turned_21 : decode b_M_turned 21 = .ok (.iload_n 3, 1) := by decide +kernel
theorem d_M_turned_22 : decode b_M_turned 22 = .ok (.ireturn, 1) := by decide +kernel
theorem d_M_item_0 : decode b_M_item 0 = .ok (.iload_n 1, 1) := by decide +kernel
theorem d_M_item_1 : decode b_M_item 1 = .ok (.iconst 0, 1) := by decide +kernel
theorem d_M_item_2 : decode b_M_item 2 = .ok (.iconst 3, 1) := by decide +kernel
theorem d_M_item_3 : decode b_M_item 3 = .ok (.invokestatic 75, 3) := by decide +kernel
theorem d_M_item_6 : decode b_M_item 6 = .ok (.ifCond .eq 34, 3) := by decide +kernel
theorem d_M_item_9 : decode b_M_item 9 = .ok (.iload_n 2, 1) := by decide +kernel
theorem d_M_item_10 : decode b_M_item 10 = .ok (.iconst 1, 1) := by decide +kernel
theorem d_M_item_11 : decode b_M_item 11 = .ok (.ldc 83, 2) := by decide +kernel
theorem d_M_item_13 : decode b_M_item 13 = .ok (.invokestatic 75, 3) := by decide +kernel
theorem d_M_item_16 : decode b_M_item 16 = .ok (.ifCond .eq 24, 3) := by decide +kernel
theorem d_M_item_19 : decode b_M_item 19 = .ok (.iload_n 3, 1) := by decide +kernel
theorem d_M_item_20 : decode b_M_item 20 = .ok (.iconst 0, 1) := by decide +kernel
theorem d_M_item_21 : decode b_M_item 21 = .ok (.bipush 9, 2) := by decide +kernel
theorem d_M_item_23 : decode b_M_item 23 = .ok (.invokestatic 75, 3) := by decide +kernel
theorem d_M_item_26 : decode b_M_item 26 = .ok (.ifCond .eq 14, 3) := by decide +kernel
theorem d_M_item_29 : decode b_M_item 29 = .ok (.iload 4, 2) := by decide +kernel
theorem d_M_item_31 : decode b_M_item 31 = .ok (.iconst 0, 1) := by decide +kernel
theorem d_M_item_32 : decode b_M_item 32 = .ok (.bipush 99, 2) := by decide +kernel
theorem d_M_item_34 : decode b_M_item 34 = .ok (.invokestatic 75, 3) := by decide +kernel
theorem d_M_item_37 : decode b_M_item 37 = .ok (.ifCond .ne 6, 3) := by decide +kernel
theorem d_M_item_40 : decode b_M_item 40 = .ok (.bipush (-102), 2) := by decide +kernel
theorem d_M_item_42 : decode b_M_item 42 = .ok (.ireturn, 1) := by decide +kernel
theorem d_M_item_43 : decode b_M_item 43 = .ok (.aload_n 0, 1) := by decide +kernel
theorem d_M_item_44 : decode b_M_item 44 = .ok (.getfield 71, 3) := by decide +kernel
theorem d_M_item_47 : decode b_M_item 47 = .ok (.bipush 120, 2) := by decide +kernel
theorem d_M_item_49 : decode b_M_item 49 = .ok (.if_icmp .ne 6, 3) := by decide +kernel
theorem d_M_item_52 : decode b_M_item 52 = .ok (.bipush (-104), 2) := by decide +kernel
theorem d_M_item_54 : decode b_M_item 54 = .ok (.ireturn, 1) := by decide +kernel
theorem d_M_item_55 : decode b_M_item 55 = .ok (.iload_n 2, 1) := by decide +kernel
theorem d_M_item_56 : decode b_M_item 56 = .ok (.iload_n 3, 1) := by decide +kernel
theorem d_M_item_57 : decode b_M_item 57 = .ok (.invokestatic 84, 3) := by decide +kernel
theorem d_M_item_60 : decode b_M_item 60 = .ok (.istore 5, 2) := by decide +kernel
theorem d_M_item_62 : decode b_M_item 62 = .ok (.iload 5, 2) := by decide +kernel
theorem d_M_item_64 : decode b_M_item 64 = .ok (.ifCond .eq 6, 3) := by decide +kernel
theorem d_M_item_67 : decode b_M_item 67 = .ok (.iload 5, 2) := by decide +kernel
theorem d_M_item_69 : decode b_M_item 69 = .ok (.ireturn, 1) := by decide +kernel
theorem d_M_item_70 : decode b_M_item 70 = .ok (.aload_n 0, 1) := by decide +kernel
theorem d_M_item_71 : decode b_M_item 71 = .ok (.dup, 1) := by decide +kernel
theorem d_M_item_72 : decode b_M_item 72 = .ok (.getfield 71, 3) := by decide +kernel
theorem d_M_item_75 : decode b_M_item 75 = .ok (.iconst 1, 1) := by decide +kernel
theorem d_M_item_76 : decode b_M_item 76 = .ok (.iadd, 1) := by decide +kernel
theorem d_M_item_77 : decode b_M_item 77 = .ok (.putfield 71, 3) := by decide +kernel
theorem d_M_item_80 : decode b_M_item 80 = .ok (.aload_n 0, 1) := by decide +kernel
theorem d_M_item_81 : decode b_M_item 81 = .ok (.getfield 7, 3) := by decide +kernel
theorem d_M_item_84 : decode b_M_item 84 = .ok (.aload_n 0, 1) := by decide +kernel
theorem d_M_item_85 : decode b_M_item 85 = .ok (.getfield 71, 3) := by decide +kernel
theorem d_M_item_88 : decode b_M_item 88 = .ok (.iload_n 1, 1) := by decide +kernel
theorem d_M_item_89 : decode b_M_item 89 = .ok (.iload_n 2, 1) := by decide +kernel
theorem d_M_item_90 : decode b_M_item 90 = .ok (.iload_n 3, 1) := by decide +kernel
theorem d_M_item_91 : decode b_M_item 91 = .ok (.invokestatic 88, 3) := by decide +kernel
theorem d_M_item_94 : decode b_M_item 94 = .ok (.iastore, 1) := by decide +kernel
theorem d_M_item_95 : decode b_M_item 95 = .ok (.aload_n 0, 1) := by decide +kernel
theorem d_M_item_96 : decode b_M_item 96 = .ok (.getfield 13, 3) := by decide +kernel
theorem d_M_item_99 : decode b_M_item 99 = .ok (.aload_n 0, 1) := by decide +kernel
theorem d_M_item_100 : decode b_M_item 100 = .ok (.getfield 71, 3) := by decide +kernel
theorem d_M_item_103 : decode b_M_item 103 = .ok (.iload_n 2, 1) := by decide +kernel
theorem d_M_item_104 : decode b_M_item 104 = .ok (.iastore, 1) := by decide +kernel
theorem d_M_item_105 : decode b_M_item 105 = .ok (.aload_n 0, 1) := by decide +kernel
theorem d_M_item_106 : decode b_M_item 106 = .ok (.getfield 16, 3) := by decide +kernel
theorem d_M_item_109 : decode b_M_item 109 = .ok (.aload_n 0, 1) := by decide +kernel
theorem d_M_item_110 : decode b_M_item 110 = .ok (.getfield 71, 3) := by decide +kernel
theorem d_M_item_113 : decode b_M_item 113 = .ok (.iload_n 3, 1) := by decide +kernel
theorem d_M_item_114 : decode b_M_item 114 = .ok (.iastore, 1) := by decide +kernel
theorem d_M_item_115 : decode b_M_item 115 = .ok (.aload_n 0, 1) := by decide +kernel
theorem d_M_item_116 : decode b_M_item 116 = .ok (.getfield 19, 3) := by decide +kernel
theorem d_M_item_119 : decode b_M_item 119 = .ok (.aload_n 0, 1) := by decide +kernel
theorem d_M_item_120 : decode b_M_item 120 = .ok (.getfield 71, 3) := by decide +kernel
theorem d_M_item_123 : decode b_M_item 123 = .ok (.iload 4, 2) := by decide +kernel
theorem d_M_item_125 : decode b_M_item 125 = .ok (.iastore, 1) := by decide +kernel
theorem d_M_item_126 : decode b_M_item 126 = .ok (.aload_n 0, 1) := by decide +kernel
theorem d_M_item_127 : decode b_M_item 127 = .ok (.getfield 35, 3) := by decide +kernel
theorem d_M_item_130 : decode b_M_item 130 = .ok (.aload_n 0, 1) := by decide +kernel
theorem d_M_item_131 : decode b_M_item 131 = .ok (.getfield 71, 3) := by decide +kernel
theorem d_M_item_134 : decode b_M_item 134 = .ok (.iconst (-1), 1) := by decide +kernel
theorem d_M_item_135 : decode b_M_item 135 = .ok (.iastore, 1) := by decide +kernel
theorem d_M_item_136 : decode b_M_item 136 = .ok (.aload_n 0, 1) := by decide +kernel
theorem d_M_item_137 : decode b_M_item 137 = .ok (.getfield 38, 3) := by decide +kernel
theorem d_M_item_140 : decode b_M_item 140 = .ok (.aload_n 0, 1) := by decide +kernel
theorem d_M_item_141 : decode b_M_item 141 = .ok (.getfield 71, 3) := by decide +kernel
theorem d_M_item_144 : decode b_M_item 144 = .ok (.iconst (-1), 1) := by decide +kernel
theorem d_M_item_145 : decode b_M_item 145 = .ok (.iastore, 1) := by decide +kernel
theorem d_M_item_146 : decode b_M_item 146 = .ok (.aload_n 0, 1) := by decide +kernel
theorem d_M_item_147 : decode b_M_item 147 = .ok (.getfield 62, 3) := by decide +kernel
theorem d_M_item_150 : decode b_M_item 150 = .ok (.aload_n 0, 1) := by decide +kernel
theorem d_M_item_151 : decode b_M_item 151 = .ok (.getfield 71, 3) := by decide +kernel
theorem d_M_item_154 : decode b_M_item 154 = .ok (.iconst (-1), 1) := by decide +kernel
theorem d_M_item_155 : decode b_M_item 155 = .ok (.iastore, 1) := by decide +kernel
theorem d_M_item_156 : decode b_M_item 156 = .ok (.aload_n 0, 1) := by decide +kernel
theorem d_M_item_157 : decode b_M_item 157 = .ok (.getfield 71, 3) := by decide +kernel
theorem d_M_item_160 : decode b_M_item 160 = .ok (.ireturn, 1) := by decide +kernel
theorem d_M_excludes_0 : decode b_M_excludes 0 = .ok (.iload_n 0, 1) := by decide +kernel
theorem d_M_excludes_1 : decode b_M_excludes 1 = .ok (.iload_n 1, 1) := by decide +kernel
theorem d_M_excludes_2 : decode b_M_excludes 2 = .ok (.if_icmp .ge 7, 3) := by decide +kernel
theorem d_M_excludes_5 : decode b_M_excludes 5 = .ok (.iload_n 0, 1) := by decide +kernel
theorem d_M_excludes_6 : decode b_M_excludes 6 = .ok (.goto 4, 3) := by decide +kernel
theorem d_M_excludes_9 : decode b_M_excludes 9 = .ok (.iload_n 1, 1) := by decide +kernel
theorem d_M_excludes_10 : decode b_M_excludes 10 = .ok (.istore_n 2, 1) := by decide +kernel
theorem d_M_excludes_11 : decode b_M_excludes 11 = .ok (.iload_n 0, 1) := by decide +kernel
theorem d_M_excludes_12 : decode b_M_excludes 12 = .ok (.iload_n 1, 1) := by decide +kernel
theorem d_M_excludes_13 : decode b_M_excludes 13 = .ok (.if_icmp .ge 7, 3) := by decide +kernel
theorem d_M_excludes_16 : decode b_M_excludes 16 = .ok (.iload_n 1, 1) := by decide +kernel
theorem d_M_excludes_17 : decode b_M_excludes 17 = .ok (.goto 4, 3) := by decide +kernel
theorem d_M_excludes_20 : decode b_M_excludes 20 = .ok (.iload_n 0, 1) := by decide +kernel
theorem d_M_excludes_21 : decode b_M_excludes 21 = .ok (.istore_n 3, 1) := by decide +kernel
theorem d_M_excludes_22 : decode b_M_excludes 22 = .ok (.iload_n 2, 1) := by decide +kernel
theorem d_M_excludes_23 : decode b_M_excludes 23 = .ok (.iconst 2, 1) := by decide +kernel
theorem d_M_excludes_24 : decode b_M_excludes 24 = .ok (.if_icmp .ne 8, 3) := by decide +kernel
theorem d_M_excludes_27 : decode b_M_excludes 27 = .ok (.iload_n 3, 1) := by decide +kernel
theorem d_M_excludes_28 : decode b_M_excludes 28 = .ok (.iconst 3, 1) := by decide +kernel
theorem d_M_excludes_29 : decode b_M_excludes 29 = .ok (.if_icmp .eq 33, 3) := by decide +kernel
theorem d_M_excludes_32 : decode b_M_excludes 32 = .ok (.iload_n 2, 1) := by decide +kernel
theorem d_M_excludes_33 : decode b_M_excludes 33 = .ok (.iconst 1, 1) := by decide +kernel
theorem d_M_excludes_34 : decode b_M_excludes 34 = .ok (.if_icmp .ne 8, 3) := by decide +kernel
theorem d_M_excludes_37 : decode b_M_excludes 37 = .ok (.iload_n 3, 1) := by decide +kernel
theorem d_M_excludes_38 : decode b_M_excludes 38 = .ok (.iconst 2, 1) := by decide +kernel
theorem d_M_excludes_39 : decode b_M_excludes 39 = .ok (.if_icmp .eq 23, 3) := by decide +kernel
theorem d_M_excludes_42 : decode b_M_excludes 42 = .ok (.iload_n 2, 1) := by decide +kernel
theorem d_M_excludes_43 : decode b_M_excludes 43 = .ok (.iconst 4, 1) := by decide +kernel
theorem d_M_excludes_44 : decode b_M_excludes 44 = .ok (.if_icmp .ne 8, 3) := by decide +kernel
theorem d_M_excludes_47 : decode b_M_excludes 47 = .ok (.iload_n 3, 1) := by decide +kernel
theorem d_M_excludes_48 : decode b_M_excludes 48 = .ok (.iconst 5, 1) := by decide +kernel
theorem d_M_excludes_49 : decode b_M_excludes 49 = .ok (.if_icmp .eq 13, 3) := by decide +kernel
theorem d_M_excludes_52 : decode b_M_excludes 52 = .ok (.iload_n 2, 1) := by decide +kernel
theorem d_M_excludes_53 : decode b_M_excludes 53 = .ok (.iconst 3, 1) := by decide +kernel
theorem d_M_excludes_54 : decode b_M_excludes 54 = .ok (.if_icmp .ne 12, 3) := by decide +kernel
theorem d_M_excludes_57 : decode b_M_excludes 57 = .ok (.iload_n 3, 1) := by decide +kernel
theorem d_M_excludes_58 : decode b_M_excludes 58 = .ok (.iconst 5, 1) := by decide +kernel
theorem d_M_excludes_59 : decode b_M_excludes 59 = .ok (.if_icmp .ne 7, 3) := by decide +kernel
theorem d_M_excludes_62 : decode b_M_excludes 62 = .ok (.iconst 1, 1) := by decide +kernel
theorem d_M_excludes_63 : decode b_M_excludes 63 = .ok (.goto 4, 3) := by decide +kernel
theorem d_M_excludes_66 : decode b_M_excludes 66 = .ok (.iconst 0, 1) := by decide +kernel
theorem d_M_excludes_67 : decode b_M_excludes 67 = .ok (.ireturn, 1) := by decide +kernel
theorem d_M_has_0 : decode b_M_has 0 = .ok (.aload_n 0, 1) := by decide +kernel
theorem d_M_has_1 : decode b_M_has 1 = .ok (.getfield 22, 3) := by decide +kernel
theorem d_M_has_4 : decode b_M_has 4 = .ok (.iload_n 1, 1) := by decide +kernel
theorem d_M_has_5 : decode b_M_has 5 = .ok (.iaload, 1) := by decide +kernel
theorem d_M_has_6 : decode b_M_has 6 = .ok (.iload_n 2, 1) := by decide +kernel
theorem d_M_has_7 : decode b_M_has 7 = .ok (.ishr, 1) := by decide +kernel
theorem d_M_has_8 : decode b_M_has 8 = .ok (.iconst 1, 1) := by decide +kernel
theorem d_M_has_9 : decode b_M_has 9 = .ok (.iand, 1) := by decide +kernel
theorem d_M_has_10 : decode b_M_has 10 = .ok (.iconst 1, 1) := by decide +kernel
theorem d_M_has_11 : decode b_M_has 11 = .ok (.if_icmp .ne 7, 3) := by decide +kernel
theorem d_M_has_14 : decode b_M_has 14 = .ok (.iconst 1, 1) := by decide +kernel
theorem d_M_has_15 : decode b_M_has 15 = .ok (.goto 4, 3) := by decide +kernel
theorem d_M_has_18 : decode b_M_has 18 = .ok (.iconst 0, 1) := by decide +kernel
theorem d_M_has_19 : decode b_M_has 19 = .ok (.ireturn, 1) := by decide +kernel
theorem d_M_service_0 : decode b_M_service 0 = .ok (.aload_n 0, 1) := by decide +kernel
theorem d_M_service_1 : decode b_M_service 1 = .ok (.iload_n 1, 1) := by decide +kernel
theorem d_M_service_2 : decode b_M_service 2 = .ok (.invokevirtual 92, 3) := by decide +kernel
theorem d_M_service_5 : decode b_M_service 5 = .ok (.ifCond .ne 6, 3) := by decide +kernel
theorem d_M_service_8 : decode b_M_service 8 = .ok (.bipush (-101), 2) := by decide +kernel
theorem d_M_service_10 : decode b_M_service 10 = .ok (.ireturn, 1) := by decide +kernel
theorem d_M_service_11 : decode b_M_service 11 = .ok (.iload_n 2, 1) := by decide +kernel
theorem d_M_service_12 : decode b_M_service 12 = .ok (.iconst 0, 1) := by decide +kernel
theorem d_M_service_13 : decode b_M_service 13 = .ok (.iconst 5, 1) := by decide +kernel
theorem d_M_service_14 : decode b_M_service 14 = .ok (.invokestatic 75, 3) := by decide +kernel
theorem d_M_service_17 : decode b_M_service 17 = .ok (.ifCond .ne 6, 3) := by decide +kernel
theorem d_M_service_20 : decode b_M_service 20 = .ok (.bipush (-102), 2) := by decide +kernel
theorem d_M_service_22 : decode b_M_service 22 = .ok (.ireturn, 1) := by decide +kernel
theorem d_M_service_23 : decode b_M_service 23 = .ok (.aload_n 0, 1) := by decide +kernel
theorem d_M_service_24 : decode b_M_service 24 = .ok (.iload_n 1, 1) := by decide +kernel
theorem d_M_service_25 : decode b_M_service 25 = .ok (.iload_n 2, 1) := by decide +kernel
theorem d_M_service_26 : decode b_M_service 26 = .ok (.invokevirtual 96, 3) := by decide +kernel
theorem d_M_service_29 : decode b_M_service 29 = .ok (.ifCond .ne 11, 3) := by decide +kernel
theorem d_M_service_32 : decode b_M_service 32 = .ok (.aload_n 0, 1) := by decide +kernel
theorem d_M_service_33 : decode b_M_service 33 = .ok (.iload_n 1, 1) := by decide +kernel
theorem d_M_service_34 : decode b_M_service 34 = .ok (.invokevirtual 100, 3) := by decide +kernel
theorem d_M_service_37 : decode b_M_service 37 = .ok (.ifCond .eq 6, 3) := by decide +kernel
theorem d_M_service_40 : decode b_M_service 40 = .ok (.bipush (-103), 2) := by decide +kernel
theorem d_M_service_42 : decode b_M_service 42 = .ok (.ireturn, 1) := by decide +kernel
theorem d_M_service_43 : decode b_M_service 43 = .ok (.iconst 0, 1) := by decide +kernel
theorem d_M_service_44 : decode b_M_service 44 = .ok (.istore_n 3, 1) := by decide +kernel
theorem d_M_service_45 : decode b_M_service 45 = .ok (.iload_n 3, 1) := by decide +kernel
theorem d_M_service_46 : decode b_M_service 46 = .ok (.bipush 6, 2) := by decide +kernel
theorem d_M_service_48 : decode b_M_service 48 = .ok (.if_icmp .ge 32, 3) := by decide +kernel
theorem d_M_service_51 : decode b_M_service 51 = .ok (.aload_n 0, 1) := by decide +kernel
theorem d_M_service_52 : decode b_M_service 52 = .ok (.iload_n 1, 1) := by decide +kernel
theorem d_M_service_53 : decode b_M_service 53 = .ok (.iload_n 3, 1) := by decide +kernel
theorem d_M_service_54 : decode b_M_service 54 = .ok (.invokevirtual 96, 3) := by decide +kernel
theorem d_M_service_57 : decode b_M_service 57 = .ok (.ifCond .eq 17, 3) := by decide +kernel
theorem d_M_service_60 : decode b_M_service 60 = .ok (.iload_n 2, 1) := by decide +kernel
theorem d_M_service_61 : decode b_M_service 61 = .ok (.iload_n 3, 1) := by decide +kernel
theorem d_M_service_62 : decode b_M_service 62 = .ok (.invokestatic 103, 3) := by decide +kernel
theorem d_M_service_65 : decode b_M_service 65 = .ok (.ifCond .eq 9, 3) := by decide +kernel
theorem d_M_service_68 : decode b_M_service 68 = .ok (.sipush (-200), 3) := by decide +kernel
theorem d_M_service_71 : decode b_M_service 71 = .ok (.iload_n 3, 1) := by decide +kernel
theorem d_M_service_72 : decode b_M_service 72 = .ok (.isub, 1) := by decide +kernel
theorem d_M_service_73 : decode b_M_service 73 = .ok (.ireturn, 1) := by decide +kernel
theorem d_M_service_74 : decode b_M_service 74 = .ok (.iinc 3 1, 3) := by decide +kernel
theorem d_M_service_77 : decode b_M_service 77 = .ok (.goto (-32), 3) := by decide +kernel
theorem d_M_service_80 : decode b_M_service 80 = .ok (.iload_n 2, 1) := by decide +kernel
theorem d_M_service_81 : decode b_M_service 81 = .ok (.iconst 1, 1) := by decide +kernel
theorem d_M_service_82 : decode b_M_service 82 = .ok (.if_icmp .eq 13, 3) := by decide +kernel
theorem d_M_service_85 : decode b_M_service 85 = .ok (.iload_n 2, 1) := by decide +kernel
theorem d_M_service_86 : decode b_M_service 86 = .ok (.iconst 3, 1) := by decide +kernel
theorem d_M_service_87 : decode b_M_service 87 = .ok (.if_icmp .eq 8, 3) := by decide +kernel
theorem d_M_service_90 : decode b_M_service 90 = .ok (.iload_n 2, 1) := by decide +kernel
theorem d_M_service_91 : decode b_M_service 91 = .ok (.iconst 4, 1) := by decide +kernel
theorem d_M_service_92 : decode b_M_service 92 = .ok (.if_icmp .ne 12, 3) := by decide +kernel
theorem d_M_service_95 : decode b_M_service 95 = .ok (.aload_n 0, 1) := by decide +kernel
theorem d_M_service_96 : decode b_M_service 96 = .ok (.iload_n 1, 1) := by decide +kernel
theorem d_M_service_97 : decode b_M_service 97 = .ok (.iconst 0, 1) := by decide +kernel
theorem d_M_service_98 : decode b_M_service 98 = .ok (.invokevirtual 96, 3) := by decide +kernel
theorem d_M_service_101 : decode b_M_service 101 = .ok (.ifCond .eq 7, 3) := by decide +kernel
theorem d_M_service_104 : decode b_M_service 104 = .ok (.iconst 1, 1) := by decide +kernel
theorem d_M_service_105 : decode b_M_service 105 = .ok (.goto 4, 3) := by decide +kernel
theorem d_M_service_108 : decode b_M_service 108 = .ok (.iconst 0, 1) := by decide +kernel
theorem d_M_service_109 : decode b_M_service 109 = .ok (.istore_n 3, 1) := by decide +kernel
theorem d_M_service_110 : decode b_M_service 110 = .ok (.iload_n 3, 1) := by decide +kernel
theorem d_M_service_111 : decode b_M_service 111 = .ok (.ifCond .eq 32, 3) := by decide +kernel
theorem d_M_service_114 : decode b_M_service 114 = .ok (.iload_n 2, 1) := by decide +kernel
theorem d_M_service_115 : decode b_M_service 115 = .ok (.iconst 5, 1) := by decide +kernel
theorem d_M_service_116 : decode b_M_service 116 = .ok (.if_icmp .ne 13, 3) := by decide +kernel
theorem d_M_service_119 : decode b_M_service 119 = .ok (.aload_n 0, 1) := by decide +kernel
theorem d_M_service_120 : decode b_M_service 120 = .ok (.getfield 7, 3) := by decide +kernel
theorem d_M_service_123 : decode b_M_service 123 = .ok (.iload_n 1, 1) := by decide +kernel
theorem d_M_service_124 : decode b_M_service 124 = .ok (.iaload, 1) := by decide +kernel
theorem d_M_service_125 : decode b_M_service 125 = .ok (.iconst 2, 1) := by decide +kernel
theorem d_M_service_126 : decode b_M_service 126 = .ok (.if_icmp .lt 17, 3) := by decide +kernel
theorem d_M_service_129 : decode b_M_service 129 = .ok (.iload_n 2, 1) := by decide +kernel
theorem d_M_service_130 : decode b_M_service 130 = .ok (.iconst 4, 1) := by decide +kernel
theorem d_M_service_131 : decode b_M_service 131 = .ok (.if_icmp .ne 15, 3) := by decide +kernel
theorem d_M_service_134 : decode b_M_service 134 = .ok (.aload_n 0, 1) := by decide +kernel
theorem d_M_service_135 : decode b_M_service 135 = .ok (.getfield 7, 3) := by decide +kernel
theorem d_M_service_138 : decode b_M_service 138 = .ok (.iload_n 1, 1) := by decide +kernel
theorem d_M_service_139 : decode b_M_service 139 = .ok (.iaload, 1) := by decide +kernel
theorem d_M_service_140 : decode b_M_service 140 = .ok (.ifCond .ne 6, 3) := by decide +kernel
theorem d_M_service_143 : decode b_M_service 143 = .ok (.bipush (-111), 2) := by decide +kernel
theorem d_M_service_145 : decode b_M_service 145 = .ok (.ireturn, 1) := by decide +kernel
theorem d_M_service_146 : decode b_M_service 146 = .ok (.aload_n 0, 1) := by decide +kernel
theorem d_M_service_147 : decode b_M_service 147 = .ok (.getfield 22, 3) := by decide +kernel
theorem d_M_service_150 : decode b_M_service 150 = .ok (.iload_n 1, 1) := by decide +kernel
theorem d_M_service_151 : decode b_M_service 151 = .ok (.dup2, 1) := by decide +kernel
theorem d_M_service_152 : decode b_M_service 152 = .ok (.iaload, 1) := by decide +kernel
theorem d_M_service_153 : decode b_M_service 153 = .ok (.iconst 1, 1) := by decide +kernel
theorem d_M_service_154 : decode b_M_service 154 = .ok (.iload_n 2, 1) := by decide +kernel
theorem d_M_service_155 : decode b_M_service 155 = .ok (.ishl, 1) := by decide +kernel
theorem d_M_service_156 : decode b_M_service 156 = .ok (.ior, 1) := by decide +kernel
theorem d_M_service_157 : decode b_M_service 157 = .ok (.iastore, 1) := by decide +kernel
theorem d_M_service_158 : decode b_M_service 158 = .ok (.iconst 0, 1) := by decide +kernel
theorem d_M_service_159 : decode b_M_service 159 = .ok (.istore 4, 2) := by decide +kernel
theorem d_M_service_161 : decode b_M_service 161 = .ok (.iconst 0, 1) := by decide +kernel
theorem d_M_service_162 : decode b_M_service 162 = .ok (.istore 5, 2) := by decide +kernel
theorem d_M_service_164 : decode b_M_service 164 = .ok (.iload 5, 2) := by decide +kernel
theorem d_M_service_166 : decode b_M_service 166 = .ok (.bipush 6, 2) := by decide +kernel
theorem d_M_service_168 : decode b_M_service 168 = .ok (.if_icmp .ge 29, 3) := by decide +kernel
theorem d_M_service_171 : decode b_M_service 171 = .ok (.iload 4, 2) := by decide +kernel
theorem d_M_service_173 : decode b_M_service 173 = .ok (.aload_n 0, 1) := by decide +kernel
theorem d_M_service_174 : decode b_M_service 174 = .ok (.iload_n 1, 1) := by decide +kernel
theorem d_M_service_175 : decode b_M_service 175 = .ok (.iload 5, 2) := by decide +kernel
theorem d_M_service_177 : decode b_M_service 177 = .ok (.invokevirtual 96, 3) := by decide +kernel
theorem d_M_service_180 : decode b_M_service 180 = .ok (.ifCond .eq 7, 3) := by decide +kernel
theorem d_M_service_183 : decode b_M_service 183 = .ok (.iconst 1, 1) := by decide +kernel
theorem d_M_service_184 : decode b_M_service 184 = .ok (.goto 4, 3) := by decide +kernel
theorem d_M_service_187 : decode b_M_service 187 = .ok (.iconst 0, 1) := by decide +kernel
theorem d_M_service_188 : decode b_M_service 188 = .ok (.iadd, 1) := by decide +kernel
theorem d_M_service_189 : decode b_M_service 189 = .ok (.istore 4, 2) := by decide +kernel
theorem d_M_service_191 : decode b_M_service 191 = .ok (.iinc 5 1, 3) := by decide +kernel
theorem d_M_service_194 : decode b_M_service 194 = .ok (.goto (-30), 3) := by decide +kernel
theorem d_M_service_197 : decode b_M_service 197 = .ok (.iload 4, 2) := by decide +kernel
theorem d_M_service_199 : decode b_M_service 199 = .ok (.ireturn, 1) := by decide +kernel
theorem d_M_ledTo_0 : decode b_M_ledTo 0 = .ok (.iload_n 1, 1) := by decide +kernel
theorem d_M_ledTo_1 : decode b_M_ledTo 1 = .ok (.tableswitch 193 0 10 #[59, 69, 96, 107, 124, 141, 153, 193, 193, 171, 190], 59) := by decide +kernel
theorem d_M_ledTo_60 : decode b_M_ledTo 60 = .ok (.iload_n 0, 1) := by decide +kernel
theorem d_M_ledTo_61 : decode b_M_ledTo 61 = .ok (.ifCond .ne 7, 3) := by decide +kernel
theorem d_M_ledTo_64 : decode b_M_ledTo 64 = .ok (.iconst 1, 1) := by decide +kernel
theorem d_M_ledTo_65 : decode b_M_ledTo 65 = .ok (.goto 4, 3) := by decide +kernel
theorem d_M_ledTo_68 : decode b_M_ledTo 68 = .ok (.iconst (-1), 1) := by decide +kernel
theorem d_M_ledTo_69 : decode b_M_ledTo 69 = .ok (.ireturn, 1) := by decide +kernel
theorem d_M_ledTo_70 : decode b_M_ledTo 70 = .ok (.iload_n 0, 1) := by decide +kernel
theorem d_M_ledTo_71 : decode b_M_ledTo 71 = .ok (.iconst 1, 1) := by decide +kernel
theorem d_M_ledTo_72 : decode b_M_ledTo 72 = .ok (.if_icmp .eq 8, 3) := by decide +kernel
theorem d_M_ledTo_75 : decode b_M_ledTo 75 = .ok (.iload_n 0, 1) := by decide +kernel
theorem d_M_ledTo_76 : decode b_M_ledTo 76 = .ok (.iconst 3, 1) := by decide +kernel
theorem d_M_ledTo_77 : decode b_M_ledTo 77 = .ok (.if_icmp .ne 7, 3) := by decide +kernel
theorem d_M_ledTo_80 : decode b_M_ledTo 80 = .ok (.iconst 2, 1) := by decide +kernel
theorem d_M_ledTo_81 : decode b_M_ledTo 81 = .ok (.goto 15, 3) := by decide +kernel
theorem d_M_ledTo_84 : decode b_M_ledTo 84 = .ok (.iload_n 0, 1) := by decide +kernel
theorem d_M_ledTo_85 : decode b_M_ledTo 85 = .ok (.bipush 7, 2) := by decide +kernel
theorem d_M_ledTo_87 : decode b_M_ledTo 87 = .ok (.if_icmp .ne 8, 3) := by decide +kernel
theorem d_M_ledTo_90 : decode b_M_ledTo 90 = .ok (.bipush 7, 2) := by decide +kernel
theorem d_M_ledTo_92 : decode b_M_ledTo 92 = .ok (.goto 4, 3) := by decide +kernel
theorem d_M_ledTo_95 : decode b_M_ledTo 95 = .ok (.iconst (-1), 1) := by decide +kernel
theorem d_M_ledTo_96 : decode b_M_ledTo 96 = .ok (.ireturn, 1) := by decide +kernel
theorem d_M_ledTo_97 : decode b_M_ledTo 97 = .ok (.iload_n 0, 1) := by decide +kernel
theorem d_M_ledTo_98 : decode b_M_ledTo 98 = .ok (.iconst 2, 1) := by decide +kernel
theorem d_M_ledTo_99 : decode b_M_ledTo 99 = .ok (.if_icmp .ne 7, 3) := by decide +kernel
theorem d_M_ledTo_102 : decode b_M_ledTo 102 = .ok (.iconst 3, 1) := by decide +kernel
theorem d_M_ledTo_103 : decode b_M_ledTo 103 = .ok (.goto 4, 3) := by decide +kernel
theorem d_M_ledTo_106 : decode b_M_ledTo 106 = .ok (.iconst (-1), 1) := by decide +kernel
theorem d_M_ledTo_107 : decode b_M_ledTo 107 = .ok (.ireturn, 1) := by decide +kernel
theorem d_M_ledTo_108 : decode b_M_ledTo 108 = .ok (.iload_n 0, 1) := by decide +kernel
theorem d_M_ledTo_109 : decode b_M_ledTo 109 = .ok (.iconst 3, 1) := by decide +kernel
theorem d_M_ledTo_110 : decode b_M_ledTo 110 = .ok (.if_icmp .eq 9, 3) := by decide +kernel
theorem d_M_ledTo_113 : decode b_M_ledTo 113 = .ok (.iload_n 0, 1) := by decide +kernel
theorem d_M_ledTo_114 : decode b_M_ledTo 114 = .ok (.bipush 6, 2) := by decide +kernel
theorem d_M_ledTo_116 : decode b_M_ledTo 116 = .ok (.if_icmp .ne 7, 3) := by decide +kernel
theorem d_M_ledTo_119 : decode b_M_ledTo 119 = .ok (.iconst 4, 1) := by decide +kernel
theorem d_M_ledTo_120 : decode b_M_ledTo 120 = .ok (.goto 4, 3) := by decide +kernel
theorem d_M_ledTo_123 : decode b_M_ledTo 123 = .ok (.iconst (-1), 1) := by decide +kernel
theorem d_M_ledTo_124 : decode b_M_ledTo 124 = .ok (.ireturn, 1) := by decide +kernel
theorem d_M_ledTo_125 : decode b_M_ledTo 125 = .ok (.iload_n 0, 1) := by decide +kernel
theorem d_M_ledTo_126 : decode b_M_ledTo 126 = .ok (.iconst 4, 1) := by decide +kernel
theorem d_M_ledTo_127 : decode b_M_ledTo 127 = .ok (.if_icmp .eq 9, 3) := by decide +kernel
theorem d_M_ledTo_130 : decode b_M_ledTo 130 = .ok (.iload_n 0, 1) := by decide +kernel
theorem d_M_ledTo_131 : decode b_M_ledTo 131 = .ok (.bipush 7, 2) := by decide +kernel
theorem d_M_ledTo_133 : decode b_M_ledTo 133 = .ok (.if_icmp .ne 7, 3) := by decide +kernel
theorem d_M_ledTo_136 : decode b_M_ledTo 136 = .ok (.iconst 5, 1) := by decide +kernel
theorem d_M_ledTo_137 : decode b_M_ledTo 137 = .ok (.goto 4, 3) := by decide +kernel
theorem d_M_ledTo_140 : decode b_M_ledTo 140 = .ok (.iconst (-1), 1) := by decide +kernel
theorem d_M_ledTo_141 : decode b_M_ledTo 141 = .ok (.ireturn, 1) := by decide +kernel
theorem d_M_ledTo_142 : decode b_M_ledTo 142 = .ok (.iload_n 0, 1) := by decide +kernel
theorem d_M_ledTo_143 : decode b_M_ledTo 143 = .ok (.iconst 4, 1) := by decide +kernel
theorem d_M_ledTo_144 : decode b_M_ledTo 144 = .ok (.if_icmp .ne 8, 3) := by decide +kernel
theorem d_M_ledTo_147 : decode b_M_ledTo 147 = .ok (.bipush 6, 2) := by decide +kernel
theorem d_M_ledTo_149 : decode b_M_ledTo 149 = .ok (.goto 4, 3) := by decide +kernel
theorem d_M_ledTo_152 : decode b_M_ledTo 152 = .ok (.iconst (-1), 1) := by decide +kernel
theorem d_M_ledTo_153 : decode b_M_ledTo 153 = .ok (.ireturn, 1) := by decide +kernel
theorem d_M_ledTo_154 : decode b_M_ledTo 154 = .ok (.iload_n 0, 1) := by decide +kernel
theorem d_M_ledTo_155 : decode b_M_ledTo 155 = .ok (.iconst 4, 1) := by decide +kernel
theorem d_M_ledTo_156 : decode b_M_ledTo 156 = .ok (.if_icmp .eq 9, 3) := by decide +kernel
theorem d_M_ledTo_159 : decode b_M_ledTo 159 = .ok (.iload_n 0, 1) := by decide +kernel
theorem d_M_ledTo_160 : decode b_M_ledTo 160 = .ok (.bipush 6, 2) := by decide +kernel
theorem d_M_ledTo_162 : decode b_M_ledTo 162 = .ok (.if_icmp .ne 8, 3) := by decide +kernel
theorem d_M_ledTo_165 : decode b_M_ledTo 165 = .ok (.bipush 7, 2) := by decide +kernel
theorem d_M_ledTo_167 : decode b_M_ledTo 167 = .ok (.goto 4, 3) := by decide +kernel
theorem d_M_ledTo_170 : decode b_M_ledTo 170 = .ok (.iconst (-1), 1) := by decide +kernel
theorem d_M_ledTo_171 : decode b_M_ledTo 171 = .ok (.ireturn, 1) := by decide +kernel
theorem d_M_ledTo_172 : decode b_M_ledTo 172 = .ok (.iload_n 0, 1) := by decide +kernel
theorem d_M_ledTo_173 : decode b_M_ledTo 173 = .ok (.bipush 7, 2) := by decide +kernel
theorem d_M_ledTo_175 : decode b_M_ledTo 175 = .ok (.if_icmp .eq 9, 3) := by decide +kernel
theorem d_M_ledTo_178 : decode b_M_ledTo 178 = .ok (.iload_n 0, 1) := by decide +kernel
theorem d_M_ledTo_179 : decode b_M_ledTo 179 = .ok (.bipush 6, 2) := by decide +kernel
theorem d_M_ledTo_181 : decode b_M_ledTo 181 = .ok (.if_icmp .ne 8, 3) := by decide +kernel
theorem d_M_ledTo_184 : decode b_M_ledTo 184 = .ok (.bipush 8, 2) := by decide +kernel
theorem d_M_ledTo_186 : decode b_M_ledTo 186 = .ok (.goto 4, 3) := by decide +kernel
theorem d_M_ledTo_189 : decode b_M_ledTo 189 = .ok (.iconst (-1), 1) := by decide +kernel
theorem d_M_ledTo_190 : decode b_M_ledTo 190 = .ok (.ireturn, 1) := by decide +kernel
theorem d_M_ledTo_191 : decode b_M_ledTo 191 = .ok (.bipush 9, 2) := by decide +kernel
theorem d_M_ledTo_193 : decode b_M_ledTo 193 = .ok (.ireturn, 1) := by decide +kernel
theorem d_M_ledTo_194 : decode b_M_ledTo 194 = .ok (.iload_n 0, 1) := by decide +kernel
theorem d_M_ledTo_195 : decode b_M_ledTo 195 = .ok (.ireturn, 1) := by decide +kernel
theorem d_M_mustWait_0 : decode b_M_mustWait 0 = .ok (.aload_n 0, 1) := by decide +kernel
theorem d_M_mustWait_1 : decode b_M_mustWait 1 = .ok (.getfield 53, 3) := by decide +kernel
theorem d_M_mustWait_4 : decode b_M_mustWait 4 = .ok (.iload_n 1, 1) := by decide +kernel
theorem d_M_mustWait_5 : decode b_M_mustWait 5 = .ok (.iaload, 1) := by decide +kernel
theorem d_M_mustWait_6 : decode b_M_mustWait 6 = .ok (.istore_n 2, 1) := by decide +kernel
theorem d_M_mustWait_7 : decode b_M_mustWait 7 = .ok (.iconst 1, 1) := by decide +kernel
theorem d_M_mustWait_8 : decode b_M_mustWait 8 = .ok (.istore_n 3, 1) := by decide +kernel
theorem d_M_mustWait_9 : decode b_M_mustWait 9 = .ok (.iconst 1, 1) := by decide +kernel
theorem d_M_mustWait_10 : decode b_M_mustWait 10 = .ok (.istore 4, 2) := by decide +kernel
theorem d_M_mustWait_12 : decode b_M_mustWait 12 = .ok (.iload 4, 2) := by decide +kernel
theorem d_M_mustWait_14 : decode b_M_mustWait 14 = .ok (.aload_n 0, 1) := by decide +kernel
theorem d_M_mustWait_15 : decode b_M_mustWait 15 = .ok (.getfield 71, 3) := by decide +kernel
theorem d_M_mustWait_18 : decode b_M_mustWait 18 = .ok (.if_icmp .gt 50, 3) := by decide +kernel
theorem d_M_mustWait_21 : decode b_M_mustWait 21 = .ok (.iload_n 3, 1) := by decide +kernel
theorem d_M_mustWait_22 : decode b_M_mustWait 22 = .ok (.ifCond .eq 38, 3) := by decide +kernel
theorem d_M_mustWait_25 : decode b_M_mustWait 25 = .ok (.aload_n 0, 1) := by decide +kernel
theorem d_M_mustWait_26 : decode b_M_mustWait 26 = .ok (.getfield 53, 3) := by decide +kernel
theorem d_M_mustWait_29 : decode b_M_mustWait 29 = .ok (.iload 4, 2) := by decide +kernel
theorem d_M_mustWait_31 : decode b_M_mustWait 31 = .ok (.iaload, 1) := by decide +kernel
theorem d_M_mustWait_32 : decode b_M_mustWait 32 = .ok (.iload_n 2, 1) := by decide +kernel
theorem d_M_mustWait_33 : decode b_M_mustWait 33 = .ok (.if_icmp .ne 23, 3) := by decide +kernel
theorem d_M_mustWait_36 : decode b_M_mustWait 36 = .ok (.aload_n 0, 1) := by decide +kernel
theorem d_M_mustWait_37 : decode b_M_mustWait 37 = .ok (.getfield 25, 3) := by decide +kernel
theorem d_M_mustWait_40 : decode b_M_mustWait 40 = .ok (.iload 4, 2) := by decide +kernel
theorem d_M_mustWait_42 : decode b_M_mustWait 42 = .ok (.iaload, 1) := by decide +kernel
theorem d_M_mustWait_43 : decode b_M_mustWait 43 = .ok (.iconst 4, 1) := by decide +kernel
theorem d_M_mustWait_44 : decode b_M_mustWait 44 = .ok (.if_icmp .eq 12, 3) := by decide +kernel
theorem d_M_mustWait_47 : decode b_M_mustWait 47 = .ok (.aload_n 0, 1) := by decide +kernel
theorem d_M_mustWait_48 : decode b_M_mustWait 48 = .ok (.iload 4, 2) := by decide +kernel
theorem d_M_mustWait_50 : decode b_M_mustWait 50 = .ok (.invokevirtual 100, 3) := by decide +kernel
theorem d_M_mustWait_53 : decode b_M_mustWait 53 = .ok (.ifCond .eq 7, 3) := by decide +kernel
theorem d_M_mustWait_56 : decode b_M_mustWait 56 = .ok (.iconst 1, 1) := by decide +kernel
theorem d_M_mustWait_57 : decode b_M_mustWait 57 = .ok (.goto 4, 3) := by decide +kernel
theorem d_M_mustWait_60 : decode b_M_mustWait 60 = .ok (.iconst 0, 1) := by decide +kernel
theorem d_M_mustWait_61 : decode b_M_mustWait 61 = .ok (.istore_n 3, 1) := by decide +kernel
theorem d_M_mustWait_62 : decode b_M_mustWait 62 = .ok (.iinc 4 1, 3) := by decide +kernel
theorem d_M_mustWait_65 : decode b_M_mustWait 65 = .ok (.goto (-53), 3) := by decide +kernel
theorem d_M_mustWait_68 : decode b_M_mustWait 68 = .ok (.iload_n 2, 1) := by decide +kernel
theorem d_M_mustWait_69 : decode b_M_mustWait 69 = .ok (.ifCond .le 20, 3) := by decide +kernel
theorem d_M_mustWait_72 : decode b_M_mustWait 72 = .ok (.aload_n 0, 1) := by decide +kernel
theorem d_M_mustWait_73 : decode b_M_mustWait 73 = .ok (.getfield 56, 3) := by decide +kernel
theorem d_M_mustWait_76 : decode b_M_mustWait 76 = .ok (.iload_n 2, 1) := by decide +kernel
theorem d_M_mustWait_77 : decode b_M_mustWait 77 = .ok (.baload, 1) := by decide +kernel
theorem d_M_mustWait_78 : decode b_M_mustWait 78 = .ok (.ifCond .eq 11, 3) := by decide +kernel
theorem d_M_mustWait_81 : decode b_M_mustWait 81 = .ok (.iload_n 3, 1) := by decide +kernel
theorem d_M_mustWait_82 : decode b_M_mustWait 82 = .ok (.ifCond .ne 7, 3) := by decide +kernel
theorem d_M_mustWait_85 : decode b_M_mustWait 85 = .ok (.iconst 1, 1) := by decide +kernel
theorem d_M_mustWait_86 : decode b_M_mustWait 86 = .ok (.goto 4, 3) := by decide +kernel
theorem d_M_mustWait_89 : decode b_M_mustWait 89 = .ok (.iconst 0, 1) := by decide +kernel
theorem d_M_mustWait_90 : decode b_M_mustWait 90 = .ok (.ireturn, 1) := by decide +kernel
theorem d_M_event_0 : decode b_M_event 0 = .ok (.aload_n 0, 1) := by decide +kernel
theorem d_M_event_1 : decode b_M_event 1 = .ok (.iload_n 1, 1) := by decide +kernel
theorem d_M_event_2 : decode b_M_event 2 = .ok (.invokevirtual 92, 3) := by decide +kernel
theorem d_M_event_5 : decode b_M_event 5 = .ok (.ifCond .ne 6, 3) := by decide +kernel
theorem d_M_event_8 : decode b_M_event 8 = .ok (.bipush (-101), 2) := by decide +kernel
theorem d_M_event_10 : decode b_M_event 10 = .ok (.ireturn, 1) := by decide +kernel
theorem d_M_event_11 : decode b_M_event 11 = .ok (.iload_n 2, 1) := by decide +kernel
theorem d_M_event_12 : decode b_M_event 12 = .ok (.iconst 0, 1) := by decide +kernel
theorem d_M_event_13 : decode b_M_event 13 = .ok (.bipush 10, 2) := by decide +kernel
theorem d_M_event_15 : decode b_M_event 15 = .ok (.invokestatic 75, 3) := by decide +kernel
theorem d_M_event_18 : decode b_M_event 18 = .ok (.ifCond .ne 6, 3) := by decide +kernel
theorem d_M_event_21 : decode b_M_event 21 = .ok (.bipush (-102), 2) := by decide +kernel
theorem d_M_event_23 : decode b_M_event 23 = .ok (.ireturn, 1) := by decide +kernel
theorem d_M_event_24 : decode b_M_event 24 = .ok (.aload_n 0, 1) := by decide +kernel
theorem d_M_event_25 : decode b_M_event 25 = .ok (.iload_n 1, 1) := by decide +kernel
theorem d_M_event_26 : decode b_M_event 26 = .ok (.invokevirtual 100, 3) := by decide +kernel
theorem d_M_event_29 : decode b_M_event 29 = .ok (.ifCond .eq 16, 3) := by decide +kernel
theorem d_M_event_32 : decode b_M_event 32 = .ok (.aload_n 0, 1) := by decide +kernel
theorem d_M_event_33 : decode b_M_event 33 = .ok (.getfield 32, 3) := by decide +kernel
theorem d_M_event_36 : decode b_M_event 36 = .ok (.iload_n 1, 1) := by decide +kernel
theorem d_M_event_37 : decode b_M_event 37 = .ok (.dup2, 1) := by decide +kernel
theorem d_M_event_38 : decode b_M_event 38 = .ok (.iaload, 1) := by decide +kernel
theorem d_M_event_39 : decode b_M_event 39 = .ok (.iconst 1, 1) := by decide +kernel
theorem d_M_event_40 : decode b_M_event 40 = .ok (.iadd, 1) := by decide +kernel
theorem d_M_event_41 : decode b_M_event 41 = .ok (.iastore, 1) := by decide +kernel
theorem d_M_event_42 : decode b_M_event 42 = .ok (.bipush (-105), 2) := by decide +kernel
theorem d_M_event_44 : decode b_M_event 44 = .ok (.ireturn, 1) := by decide +kernel
theorem d_M_event_45 : decode b_M_event 45 = .ok (.aload_n 0, 1) := by decide +kernel
theorem d_M_event_46 : decode b_M_event 46 = .ok (.getfield 25, 3) := by decide +kernel
theorem d_M_event_49 : decode b_M_event 49 = .ok (.iload_n 1, 1) := by decide +kernel
theorem d_M_event_50 : decode b_M_event 50 = .ok (.iaload, 1) := by decide +kernel
theorem d_M_event_51 : decode b_M_event 51 = .ok (.iload_n 2, 1) := by decide +kernel
theorem d_M_event_52 : decode b_M_event 52 = .ok (.invokestatic 106, 3) := by decide +kernel
theorem d_M_event_55 : decode b_M_event 55 = .ok (.istore_n 3, 1) := by decide +kernel
theorem d_M_event_56 : decode b_M_event 56 = .ok (.iload_n 3, 1) := by decide +kernel
theorem d_M_event_57 : decode b_M_event 57 = .ok (.iconst (-1), 1) := by decide +kernel
theorem d_M_event_58 : decode b_M_event 58 = .ok (.if_icmp .eq 39, 3) := by decide +kernel
theorem d_M_event_61 : decode b_M_event 61 = .ok (.aload_n 0, 1) := by decide +kernel
theorem d_M_event_62 : decode b_M_event 62 = .ok (.getfield 28, 3) := by decide +kernel
theorem d_M_event_65 : decode b_M_event 65 = .ok (.iload_n 1, 1) := by decide +kernel
theorem d_M_event_66 : decode b_M_event 66 = .ok (.baload, 1) := by decide +kernel
theorem d_M_event_67 : decode b_M_event 67 = .ok (.ifCond .eq 15, 3) := by decide +kernel
theorem d_M_event_70 : decode b_M_event 70 = .ok (.iload_n 2, 1) := by decide +kernel
theorem d_M_event_71 : decode b_M_event 71 = .ok (.bipush 8, 2) := by decide +kernel
theorem d_M_event_73 : decode b_M_event 73 = .ok (.if_icmp .eq 9, 3) := by decide +kernel
theorem d_M_event_76 : decode b_M_event 76 = .ok (.iload_n 2, 1) := by decide +kernel
theorem d_M_event_77 : decode b_M_event 77 = .ok (.bipush 10, 2) := by decide +kernel
theorem d_M_event_79 : decode b_M_event 79 = .ok (.if_icmp .ne 18, 3) := by decide +kernel
theorem d_M_event_82 : decode b_M_event 82 = .ok (.iload_n 2, 1) := by decide +kernel
theorem d_M_event_83 : decode b_M_event 83 = .ok (.bipush 8, 2) := by decide +kernel
theorem d_M_event_85 : decode b_M_event 85 = .ok (.if_icmp .ne 15, 3) := by decide +kernel
theorem d_M_event_88 : decode b_M_event 88 = .ok (.aload_n 0, 1) := by decide +kernel
theorem d_M_event_89 : decode b_M_event 89 = .ok (.getfield 28, 3) := by decide +kernel
theorem d_M_event_92 : decode b_M_event 92 = .ok (.iload_n 1, 1) := by decide +kernel
theorem d_M_event_93 : decode b_M_event 93 = .ok (.baload, 1) := by decide +kernel
theorem d_M_event_94 : decode b_M_event 94 = .ok (.ifCond .ne 6, 3) := by decide +kernel
theorem d_M_event_97 : decode b_M_event 97 = .ok (.bipush (-103), 2) := by decide +kernel
theorem d_M_event_99 : decode b_M_event 99 = .ok (.ireturn, 1) := by decide +kernel
theorem d_M_event_100 : decode b_M_event 100 = .ok (.iload_n 2, 1) := by decide +kernel
theorem d_M_event_101 : decode b_M_event 101 = .ok (.iconst 2, 1) := by decide +kernel
theorem d_M_event_102 : decode b_M_event 102 = .ok (.if_icmp .ne 24, 3) := by decide +kernel
theorem d_M_event_105 : decode b_M_event 105 = .ok (.aload_n 0, 1) := by decide +kernel
theorem d_M_event_106 : decode b_M_event 106 = .ok (.getfield 41, 3) := by decide +kernel
theorem d_M_event_109 : decode b_M_event 109 = .ok (.iload_n 1, 1) := by decide +kernel
theorem d_M_event_110 : decode b_M_event 110 = .ok (.iaload, 1) := by decide +kernel
theorem d_M_event_111 : decode b_M_event 111 = .ok (.ifCond .le 15, 3) := by decide +kernel
theorem d_M_event_114 : decode b_M_event 114 = .ok (.aload_n 0, 1) := by decide +kernel
theorem d_M_event_115 : decode b_M_event 115 = .ok (.getfield 44, 3) := by decide +kernel
theorem d_M_event_118 : decode b_M_event 118 = .ok (.iload_n 1, 1) := by decide +kernel
theorem d_M_event_119 : decode b_M_event 119 = .ok (.iaload, 1) := by decide +kernel
theorem d_M_event_120 : decode b_M_event 120 = .ok (.ifCond .ne 6, 3) := by decide +kernel
theorem d_M_event_123 : decode b_M_event 123 = .ok (.bipush (-106), 2) := by decide +kernel
theorem d_M_event_125 : decode b_M_event 125 = .ok (.ireturn, 1) := by decide +kernel
theorem d_M_event_126 : decode b_M_event 126 = .ok (.iload_n 2, 1) := by decide +kernel
theorem d_M_event_127 : decode b_M_event 127 = .ok (.iconst 4, 1) := by decide +kernel
theorem d_M_event_128 : decode b_M_event 128 = .ok (.if_icmp .ne 24, 3) := by decide +kernel
theorem d_M_event_131 : decode b_M_event 131 = .ok (.aload_n 0, 1) := by decide +kernel
theorem d_M_event_132 : decode b_M_event 132 = .ok (.getfield 25, 3) := by decide +kernel
theorem d_M_event_135 : decode b_M_event 135 = .ok (.iload_n 1, 1) := by decide +kernel
theorem d_M_event_136 : decode b_M_event 136 = .ok (.iaload, 1) := by decide +kernel
theorem d_M_event_137 : decode b_M_event 137 = .ok (.iconst 4, 1) := by decide +kernel
theorem d_M_event_138 : decode b_M_event 138 = .ok (.if_icmp .ne 14, 3) := by decide +kernel
theorem d_M_event_141 : decode b_M_event 141 = .ok (.aload_n 0, 1) := by decide +kernel
theorem d_M_event_142 : decode b_M_event 142 = .ok (.iload_n 1, 1) := by decide +kernel
theorem d_M_event_143 : decode b_M_event 143 = .ok (.invokevirtual 109, 3) := by decide +kernel
theorem d_M_event_146 : decode b_M_event 146 = .ok (.ifCond .eq 6, 3) := by decide +kernel
theorem d_M_event_149 : decode b_M_event 149 = .ok (.bipush (-107), 2) := by decide +kernel
theorem d_M_event_151 : decode b_M_event 151 = .ok (.ireturn, 1) := by decide +kernel
theorem d_M_event_152 : decode b_M_event 152 = .ok (.aload_n 0, 1) := by decide +kernel
theorem d_M_event_153 : decode b_M_event 153 = .ok (.getfield 28, 3) := by decide +kernel
theorem d_M_event_156 : decode b_M_event 156 = .ok (.iload_n 1, 1) := by decide +kernel
theorem d_M_event_157 : decode b_M_event 157 = .ok (.iload_n 2, 1) := by decide +kernel
theorem d_M_event_158 : decode b_M_event 158 = .ok (.bipush 7, 2) := by decide +kernel
theorem d_M_event_160 : decode b_M_event 160 = .ok (.if_icmp .eq 18, 3) := by decide +kernel
theorem d_M_event_163 : decode b_M_event 163 = .ok (.iload_n 2, 1) := by decide +kernel
theorem d_M_event_164 : decode b_M_event 164 = .ok (.bipush 8, 2) := by decide +kernel
theorem d_M_event_166 : decode b_M_event 166 = .ok (.if_icmp .eq 16, 3) := by decide +kernel
theorem d_M_event_169 : decode b_M_event 169 = .ok (.aload_n 0, 1) := by decide +kernel
theorem d_M_event_170 : decode b_M_event 170 = .ok (.getfield 28, 3) := by decide +kernel
theorem d_M_event_173 : decode b_M_event 173 = .ok (.iload_n 1, 1) := by decide +kernel
theorem d_M_event_174 : decode b_M_event 174 = .ok (.baload, 1) := by decide +kernel
theorem d_M_event_175 : decode b_M_event 175 = .ok (.ifCond .eq 7, 3) := by decide +kernel
theorem d_M_event_178 : decode b_M_event 178 = .ok (.iconst 1, 1) := by decide +kernel
theorem d_M_event_179 : decode b_M_event 179 = .ok (.goto 4, 3) := by decide +kernel
theorem d_M_event_182 : decode b_M_event 182 = .ok (.iconst 0, 1) := by decide +kernel
theorem d_M_event_183 : decode b_M_event 183 = .ok (.bastore, 1) := by decide +kernel
theorem d_M_event_184 : decode b_M_event 184 = .ok (.aload_n 0, 1) := by decide +kernel
theorem d_M_event_185 : decode b_M_event 185 = .ok (.getfield 25, 3) := by decide +kernel
theorem d_M_event_188 : decode b_M_event 188 = .ok (.iload_n 1, 1) := by decide +kernel
theorem d_M_event_189 : decode b_M_event 189 = .ok (.iload_n 3, 1) := by decide +kernel
theorem d_M_event_190 : decode b_M_event 190 = .ok (.iastore, 1) := by decide +kernel
theorem d_M_event_191 : decode b_M_event 191 = .ok (.iload_n 3, 1) := by decide +kernel
theorem d_M_event_192 : decode b_M_event 192 = .ok (.ireturn, 1) := by decide +kernel
theorem d_M_address_0 : decode b_M_address 0 = .ok (.aload_n 0, 1) := by decide +kernel
theorem d_M_address_1 : decode b_M_address 1 = .ok (.iload_n 1, 1) := by decide +kernel
theorem d_M_address_2 : decode b_M_address 2 = .ok (.invokevirtual 92, 3) := by decide +kernel
theorem d_M_address_5 : decode b_M_address 5 = .ok (.ifCond .ne 6, 3) := by decide +kernel
theorem d_M_address_8 : decode b_M_address 8 = .ok (.bipush (-101), 2) := by decide +kernel
theorem d_M_address_10 : decode b_M_address 10 = .ok (.ireturn, 1) := by decide +kernel
theorem d_M_address_11 : decode b_M_address 11 = .ok (.iload_n 2, 1) := by decide +kernel
theorem d_M_address_12 : decode b_M_address 12 = .ok (.iconst 0, 1) := by decide +kernel
theorem d_M_address_13 : decode b_M_address 13 = .ok (.iconst 1, 1) := by decide +kernel
theorem d_M_address_14 : decode b_M_address 14 = .ok (.invokestatic 75, 3) := by decide +kernel
theorem d_M_address_17 : decode b_M_address 17 = .ok (.ifCond .eq 14, 3) := by decide +kernel
theorem d_M_address_20 : decode b_M_address 20 = .ok (.iload_n 3, 1) := by decide +kernel
theorem d_M_address_21 : decode b_M_address 21 = .ok (.iconst 0, 1) := by decide +kernel
theorem d_M_address_22 : decode b_M_address 22 = .ok (.sipush 9999, 3) := by decide +kernel
theorem d_M_address_25 : decode b_M_address 25 = .ok (.invokestatic 75, 3) := by decide +kernel
theorem d_M_address_28 : decode b_M_address 28 = .ok (.ifCond .ne 6, 3) := by decide +kernel
theorem d_M_address_31 : decode b_M_address 31 = .ok (.bipush (-102), 2) := by decide +kernel
theorem d_M_address_33 : decode b_M_address 33 = .ok (.ireturn, 1) := by decide +kernel
theorem d_M_address_34 : decode b_M_address 34 = .ok (.aload_n 0, 1) := by decide +kernel
theorem d_M_address_35 : decode b_M_address 35 = .ok (.iload_n 1, 1) := by decide +kernel
theorem d_M_address_36 : decode b_M_address 36 = .ok (.invokevirtual 100, 3) := by decide +kernel
theorem d_M_address_39 : decode b_M_address 39 = .ok (.ifCond .ne 13, 3) := by decide +kernel
theorem d_M_address_42 : decode b_M_address 42 = .ok (.aload_n 0, 1) := by decide +kernel
theorem d_M_address_43 : decode b_M_address 43 = .ok (.getfield 38, 3) := by decide +kernel
theorem d_M_address_46 : decode b_M_address 46 = .ok (.iload_n 1, 1) := by decide +kernel
theorem d_M_address_47 : decode b_M_address 47 = .ok (.iaload, 1) := by decide +kernel
theorem d_M_address_48 : decode b_M_address 48 = .ok (.iconst (-1), 1) := by decide +kernel
theorem d_M_address_49 : decode b_M_address 49 = .ok (.if_icmp .eq 6, 3) := by decide +kernel
theorem d_M_address_52 : decode b_M_address 52 = .ok (.bipush (-103), 2) := by decide +kernel
theorem d_M_address_54 : decode b_M_address 54 = .ok (.ireturn, 1) := by decide +kernel
theorem d_M_address_55 : decode b_M_address 55 = .ok (.iload_n 2, 1) := by decide +kernel
theorem d_M_address_56 : decode b_M_address 56 = .ok (.ifCond .ne 12, 3) := by decide +kernel
theorem d_M_address_59 : decode b_M_address 59 = .ok (.aload_n 0, 1) := by decide +kernel
theorem d_M_address_60 : decode b_M_address 60 = .ok (.getfield 35, 3) := by decide +kernel
theorem d_M_address_63 : decode b_M_address 63 = .ok (.iload_n 1, 1) := by decide +kernel
theorem d_M_address_64 : decode b_M_address 64 = .ok (.iaload, 1) := by decide +kernel
theorem d_M_address_65 : decode b_M_address 65 = .ok (.goto 9, 3) := by decide +kernel
theorem d_M_address_68 : decode b_M_address 68 = .ok (.aload_n 0, 1) := by decide +kernel
theorem d_M_address_69 : decode b_M_address 69 = .ok (.getfield 38, 3) := by decide +kernel
theorem d_M_address_72 : decode b_M_address 72 = .ok (.iload_n 1, 1) := by decide +kernel
theorem d_M_address_73 : decode b_M_address 73 = .ok (.iaload, 1) := by decide +kernel
theorem d_M_address_74 : decode b_M_address 74 = .ok (.istore 4, 2) := by decide +kernel
theorem d_M_address_76 : decode b_M_address 76 = .ok (.iload_n 2, 1) := by decide +kernel
theorem d_M_address_77 : decode b_M_address 77 = .ok (.ifCond .ne 13, 3) := by decide +kernel
theorem d_M_address_80 : decode b_M_address 80 = .ok (.aload_n 0, 1) := by decide +kernel
theorem d_M_address_81 : decode b_M_address 81 = .ok (.getfield 35, 3) := by decide +kernel
theorem d_M_address_84 : decode b_M_address 84 = .ok (.iload_n 1, 1) := by decide +kernel
theorem d_M_address_85 : decode b_M_address 85 = .ok (.iload_n 3, 1) := by decide +kernel
theorem d_M_address_86 : decode b_M_address 86 = .ok (.iastore, 1) := by decide +kernel
theorem d_M_address_87 : decode b_M_address 87 = .ok (.goto 10, 3) := by decide +kernel
theorem d_M_address_90 : decode b_M_address 90 = .ok (.aload_n 0, 1) := by decide +kernel
theorem d_M_address_91 : decode b_M_address 91 = .ok (.getfield 38, 3) := by decide +kernel
theorem d_M_address_94 : decode b_M_address 94 = .ok (.iload_n 1, 1) := by decide +kernel
theorem d_M_address_95 : decode b_M_address 95 = .ok (.iload_n 3, 1) := by decide +kernel
theorem d_M_address_96 : decode b_M_address 96 = .ok (.iastore, 1) := by decide +kernel
theorem d_M_address_97 : decode b_M_address 97 = .ok (.iload 4, 2) := by decide +kernel
theorem d_M_address_99 : decode b_M_address 99 = .ok (.ireturn, 1) := by decide +kernel
theorem d_M_abroad_0 : decode b_M_abroad 0 = .ok (.aload_n 0, 1) := by decide +kernel
theorem d_M_abroad_1 : decode b_M_abroad 1 = .ok (.iload_n 1, 1) := by decide +kernel
theorem d_M_abroad_2 : decode b_M_abroad 2 = .ok (.invokevirtual 92, 3) := by decide +kernel
theorem d_M_abroad_5 : decode b_M_abroad 5 = .ok (.ifCond .ne 6, 3) := by decide +kernel
theorem d_M_abroad_8 : decode b_M_abroad 8 = .ok (.bipush (-101), 2) := by decide +kernel
theorem d_M_abroad_10 : decode b_M_abroad 10 = .ok (.ireturn, 1) := by decide +kernel
theorem d_M_abroad_11 : decode b_M_abroad 11 = .ok (.iload_n 2, 1) := by decide +kernel
theorem d_M_abroad_12 : decode b_M_abroad 12 = .ok (.iconst 1, 1) := by decide +kernel
theorem d_M_abroad_13 : decode b_M_abroad 13 = .ok (.bipush 30, 2) := by decide +kernel
theorem d_M_abroad_15 : decode b_M_abroad 15 = .ok (.invokestatic 75, 3) := by decide +kernel
theorem d_M_abroad_18 : decode b_M_abroad 18 = .ok (.ifCond .ne 6, 3) := by decide +kernel
theorem d_M_abroad_21 : decode b_M_abroad 21 = .ok (.bipush (-102), 2) := by decide +kernel
theorem d_M_abroad_23 : decode b_M_abroad 23 = .ok (.ireturn, 1) := by decide +kernel
theorem d_M_abroad_24 : decode b_M_abroad 24 = .ok (.aload_n 0, 1) := by decide +kernel
theorem d_M_abroad_25 : decode b_M_abroad 25 = .ok (.getfield 41, 3) := by decide +kernel
theorem d_M_abroad_28 : decode b_M_abroad 28 = .ok (.iload_n 1, 1) := by decide +kernel
theorem d_M_abroad_29 : decode b_M_abroad 29 = .ok (.iaload, 1) := by decide +kernel
theorem d_M_abroad_30 : decode b_M_abroad 30 = .ok (.ifCond .gt 13, 3) := by decide +kernel
theorem d_M_abroad_33 : decode b_M_abroad 33 = .ok (.aload_n 0, 1) := by decide +kernel
theorem d_M_abroad_34 : decode b_M_abroad 34 = .ok (.getfield 25, 3) := by decide +kernel
theorem d_M_abroad_37 : decode b_M_abroad 37 = .ok (.iload_n 1, 1) := by decide +kernel
theorem d_M_abroad_38 : decode b_M_abroad 38 = .ok (.iaload, 1) := by decide +kernel
theorem d_M_abroad_39 : decode b_M_abroad 39 = .ok (.iconst 1, 1) := by decide +kernel
theorem d_M_abroad_40 : decode b_M_abroad 40 = .ok (.if_icmp .le 6, 3) := by decide +kernel
theorem d_M_abroad_43 : decode b_M_abroad 43 = .ok (.bipush (-103), 2) := by decide +kernel
theorem d_M_abroad_45 : decode b_M_abroad 45 = .ok (.ireturn, 1) := by decide +kernel
theorem d_M_abroad_46 : decode b_M_abroad 46 = .ok (.aload_n 0, 1) := by decide +kernel
theorem d_M_abroad_47 : decode b_M_abroad 47 = .ok (.getfield 41, 3) := by decide +kernel
theorem d_M_abroad_50 : decode b_M_abroad 50 = .ok (.iload_n 1, 1) := by decide +kernel
theorem d_M_abroad_51 : decode b_M_abroad 51 = .ok (.iload_n 2, 1) := by decide +kernel
theorem d_M_abroad_52 : decode b_M_abroad 52 = .ok (.iastore, 1) := by decide +kernel
theorem d_M_abroad_53 : decode b_M_abroad 53 = .ok (.iconst 1, 1) := by decide +kernel
theorem d_M_abroad_54 : decode b_M_abroad 54 = .ok (.ireturn, 1) := by decide +kernel
theorem d_M_contents_0 : decode b_M_contents 0 = .ok (.aload_n 0, 1) := by decide +kernel
theorem d_M_contents_1 : decode b_M_contents 1 = .ok (.iload_n 1, 1) := by decide +kernel
theorem d_M_contents_2 : decode b_M_contents 2 = .ok (.invokevirtual 92, 3) := by decide +kernel
theorem d_M_contents_5 : decode b_M_contents 5 = .ok (.ifCond .ne 6, 3) := by decide +kernel
theorem d_M_contents_8 : decode b_M_contents 8 = .ok (.bipush (-101), 2) := by decide +kernel
theorem d_M_contents_10 : decode b_M_contents 10 = .ok (.ireturn, 1) := by decide +kernel
theorem d_M_contents_11 : decode b_M_contents 11 = .ok (.iload_n 2, 1) := by decide +kernel
theorem d_M_contents_12 : decode b_M_contents 12 = .ok (.iconst 0, 1) := by decide +kernel
theorem d_M_contents_13 : decode b_M_contents 13 = .ok (.bipush 99, 2) := by decide +kernel
theorem d_M_contents_15 : decode b_M_contents 15 = .ok (.invokestatic 75, 3) := by decide +kernel
theorem d_M_contents_18 : decode b_M_contents 18 = .ok (.ifCond .eq 13, 3) := by decide +kernel
theorem d_M_contents_21 : decode b_M_contents 21 = .ok (.iload_n 3, 1) := by decide +kernel
theorem d_M_contents_22 : decode b_M_contents 22 = .ok (.iconst 0, 1) := by decide +kernel
theorem d_M_contents_23 : decode b_M_contents 23 = .ok (.ldc 83, 2) := by decide +kernel
theorem d_M_contents_25 : decode b_M_contents 25 = .ok (.invokestatic 75, 3) := by decide +kernel
theorem d_M_contents_28 : decode b_M_contents 28 = .ok (.ifCond .ne 6, 3) := by decide +kernel
theorem d_M_contents_31 : decode b_M_contents 31 = .ok (.bipush (-102), 2) := by decide +kernel
theorem d_M_contents_33 : decode b_M_contents 33 = .ok (.ireturn, 1) := by decide +kernel
theorem d_M_contents_34 : decode b_M_contents 34 = .ok (.aload_n 0, 1) := by decide +kernel
theorem d_M_contents_35 : decode b_M_contents 35 = .ok (.getfield 41, 3) := by decide +kernel
theorem d_M_contents_38 : decode b_M_contents 38 = .ok (.iload_n 1, 1) := by decide +kernel
theorem d_M_contents_39 : decode b_M_contents 39 = .ok (.iaload, 1) := by decide +kernel
theorem d_M_contents_40 : decode b_M_contents 40 = .ok (.ifCond .eq 11, 3) := by decide +kernel
theorem d_M_contents_43 : decode b_M_contents 43 = .ok (.aload_n 0, 1) := by decide +kernel
theorem d_M_contents_44 : decode b_M_contents 44 = .ok (.iload_n 1, 1) := by decide +kernel
theorem d_M_contents_45 : decode b_M_contents 45 = .ok (.invokevirtual 100, 3) := by decide +kernel
theorem d_M_contents_48 : decode b_M_contents 48 = .ok (.ifCond .eq 6, 3) := by decide +kernel
theorem d_M_contents_51 : decode b_M_contents 51 = .ok (.bipush (-103), 2) := by decide +kernel
theorem d_M_contents_53 : decode b_M_contents 53 = .ok (.ireturn, 1) := by decide +kernel
theorem d_M_contents_54 : decode b_M_contents 54 = .ok (.aload_n 0, 1) := by decide +kernel
theorem d_M_contents_55 : decode b_M_contents 55 = .ok (.getfield 44, 3) := by decide +kernel
theorem d_M_contents_58 : decode b_M_contents 58 = .ok (.iload_n 1, 1) := by decide +kernel
theorem d_M_contents_59 : decode b_M_contents 59 = .ok (.iaload, 1) := by decide +kernel
theorem d_M_contents_60 : decode b_M_contents 60 = .ok (.iconst 4, 1) := by decide +kernel
theorem d_M_contents_61 : decode b_M_contents 61 = .ok (.if_icmp .ne 6, 3) := by decide +kernel
theorem d_M_contents_64 : decode b_M_contents 64 = .ok (.bipush (-104), 2) := by decide +kernel
theorem d_M_contents_66 : decode b_M_contents 66 = .ok (.ireturn, 1) := by decide +kernel
theorem d_M_contents_67 : decode b_M_contents 67 = .ok (.aload_n 0, 1) := by decide +kernel
theorem d_M_contents_68 : decode b_M_contents 68 = .ok (.getfield 47, 3) := by decide +kernel
theorem d_M_contents_71 : decode b_M_contents 71 = .ok (.iconst 4, 1) := by decide +kernel
theorem d_M_contents_72 : decode b_M_contents 72 = .ok (.iload_n 1, 1) := by decide +kernel
theorem d_M_contents_73 : decode b_M_contents 73 = .ok (.imul, 1) := by decide +kernel
theorem d_M_contents_74 : decode b_M_contents 74 = .ok (.aload_n 0, 1) := by decide +kernel
theorem d_M_contents_75 : decode b_M_contents 75 = .ok (.getfield 44, 3) := by decide +kernel
theorem d_M_contents_78 : decode b_M_contents 78 = .ok (.iload_n 1, 1) := by decide +kernel
theorem d_M_contents_79 : decode b_M_contents 79 = .ok (.iaload, 1) := by decide +kernel
theorem d_M_contents_80 : decode b_M_contents 80 = .ok (.iadd, 1) := by decide +kernel
theorem d_M_contents_81 : decode b_M_contents 81 = .ok (.iload_n 2, 1) := by decide +kernel
theorem d_M_contents_82 : decode b_M_contents 82 = .ok (.iastore, 1) := by decide +kernel
theorem d_M_contents_83 : decode b_M_contents 83 = .ok (.aload_n 0, 1) := by decide +kernel
theorem d_M_contents_84 : decode b_M_contents 84 = .ok (.getfield 50, 3) := by decide +kernel
theorem d_M_contents_87 : decode b_M_contents 87 = .ok (.iconst 4, 1) := by decide +kernel
theorem d_M_contents_88 : decode b_M_contents 88 = .ok (.iload_n 1, 1) := by decide +kernel
theorem d_M_contents_89 : decode b_M_contents 89 = .ok (.imul, 1) := by decide +kernel
theorem d_M_contents_90 : decode b_M_contents 90 = .ok (.aload_n 0, 1) := by decide +kernel
theorem d_M_contents_91 : decode b_M_contents 91 = .ok (.getfield 44, 3) := by decide +kernel
theorem d_M_contents_94 : decode b_M_contents 94 = .ok (.iload_n 1, 1) := by decide +kernel
theorem d_M_contents_95 : decode b_M_contents 95 = .ok (.iaload, 1) := by decide +kernel
theorem d_M_contents_96 : decode b_M_contents 96 = .ok (.iadd, 1) := by decide +kernel
theorem d_M_contents_97 : decode b_M_contents 97 = .ok (.iload_n 3, 1) := by decide +kernel
theorem d_M_contents_98 : decode b_M_contents 98 = .ok (.iastore, 1) := by decide +kernel
theorem d_M_contents_99 : decode b_M_contents 99 = .ok (.aload_n 0, 1) := by decide +kernel
theorem d_M_contents_100 : decode b_M_contents 100 = .ok (.getfield 44, 3) := by decide +kernel
theorem d_M_contents_103 : decode b_M_contents 103 = .ok (.iload_n 1, 1) := by decide +kernel
theorem d_M_contents_104 : decode b_M_contents 104 = .ok (.dup2, 1) := by decide +kernel
theorem d_M_contents_105 : decode b_M_contents 105 = .ok (.iaload, 1) := by decide +kernel
theorem d_M_contents_106 : decode b_M_contents 106 = .ok (.iconst 1, 1) := by decide +kernel
theorem d_M_contents_107 : decode b_M_contents 107 = .ok (.iadd, 1) := by decide +kernel
theorem d_M_contents_108 : decode b_M_contents 108 = .ok (.iastore, 1) := by decide +kernel
theorem d_M_contents_109 : decode b_M_contents 109 = .ok (.aload_n 0, 1) := by decide +kernel
theorem d_M_contents_110 : decode b_M_contents 110 = .ok (.getfield 44, 3) := by decide +kernel
theorem d_M_contents_113 : decode b_M_contents 113 = .ok (.iload_n 1, 1) := by decide +kernel
theorem d_M_contents_114 : decode b_M_contents 114 = .ok (.iaload, 1) := by decide +kernel
theorem d_M_contents_115 : decode b_M_contents 115 = .ok (.ireturn, 1) := by decide +kernel
theorem d_M_belonging_0 : decode b_M_belonging 0 = .ok (.iconst 0, 1) := by decide +kernel
theorem d_M_belonging_1 : decode b_M_belonging 1 = .ok (.istore_n 3, 1) := by decide +kernel
theorem d_M_belonging_2 : decode b_M_belonging 2 = .ok (.iconst 1, 1) := by decide +kernel
theorem d_M_belonging_3 : decode b_M_belonging 3 = .ok (.istore 4, 2) := by decide +kernel
theorem d_M_belonging_5 : decode b_M_belonging 5 = .ok (.iload 4, 2) := by decide +kernel
theorem d_M_belonging_7 : decode b_M_belonging 7 = .ok (.aload_n 0, 1) := by decide +kernel
theorem d_M_belonging_8 : decode b_M_belonging 8 = .ok (.getfield 71, 3) := by decide +kernel
theorem d_M_belonging_11 : decode b_M_belonging 11 = .ok (.if_icmp .gt 25, 3) := by decide +kernel
theorem d_M_belonging_14 : decode b_M_belonging 14 = .ok (.iload_n 3, 1) := by decide +kernel
theorem d_M_belonging_15 : decode b_M_belonging 15 = .ok (.aload_n 1, 1) := by decide +kernel
theorem d_M_belonging_16 : decode b_M_belonging 16 = .ok (.iload 4, 2) := by decide +kernel
theorem d_M_belonging_18 : decode b_M_belonging 18 = .ok (.iaload, 1) := by decide +kernel
theorem d_M_belonging_19 : decode b_M_belonging 19 = .ok (.iload_n 2, 1) := by decide +kernel
theorem d_M_belonging_20 : decode b_M_belonging 20 = .ok (.if_icmp .ne 7, 3) := by decide +kernel
theorem d_M_belonging_23 : decode b_M_belonging 23 = .ok (.iconst 1, 1) := by decide +kernel
theorem d_M_belonging_24 : decode b_M_belonging 24 = .ok (.goto 4, 3) := by decide +kernel
theorem d_M_belonging_27 : decode b_M_belonging 27 = .ok (.iconst 0, 1) := by decide +kernel
theorem d_M_belonging_28 : decode b_M_belonging 28 = .ok (.iadd, 1) := by decide +kernel
theorem d_M_belonging_29 : decode b_M_belonging 29 = .ok (.istore_n 3, 1) := by decide +kernel
theorem d_M_belonging_30 : decode b_M_belonging 30 = .ok (.iinc 4 1, 3) := by decide +kernel
theorem d_M_belonging_33 : decode b_M_belonging 33 = .ok (.goto (-28), 3) := by decide +kernel
theorem d_M_belonging_36 : decode b_M_belonging 36 = .ok (.iload_n 3, 1) := by decide +kernel
theorem d_M_belonging_37 : decode b_M_belonging 37 = .ok (.ireturn, 1) := by decide +kernel
theorem d_M_join_0 : decode b_M_join 0 = .ok (.aload_n 0, 1) := by decide +kernel
theorem d_M_join_1 : decode b_M_join 1 = .ok (.iload_n 1, 1) := by decide +kernel
theorem d_M_join_2 : decode b_M_join 2 = .ok (.invokevirtual 92, 3) := by decide +kernel
theorem d_M_join_5 : decode b_M_join 5 = .ok (.ifCond .ne 6, 3) := by decide +kernel
theorem d_M_join_8 : decode b_M_join 8 = .ok (.bipush (-101), 2) := by decide +kernel
theorem d_M_join_10 : decode b_M_join 10 = .ok (.ireturn, 1) := by decide +kernel
theorem d_M_join_11 : decode b_M_join 11 = .ok (.iload_n 2, 1) := by decide +kernel
theorem d_M_join_12 : decode b_M_join 12 = .ok (.iconst 1, 1) := by decide +kernel
theorem d_M_join_13 : decode b_M_join 13 = .ok (.bipush 30, 2) := by decide +kernel
theorem d_M_join_15 : decode b_M_join 15 = .ok (.invokestatic 75, 3) := by decide +kernel
theorem d_M_join_18 : decode b_M_join 18 = .ok (.ifCond .ne 6, 3) := by decide +kernel
theorem d_M_join_21 : decode b_M_join 21 = .ok (.bipush (-102), 2) := by decide +kernel
theorem d_M_join_23 : decode b_M_join 23 = .ok (.ireturn, 1) := by decide +kernel
theorem d_M_join_24 : decode b_M_join 24 = .ok (.aload_n 0, 1) := by decide +kernel
theorem d_M_join_25 : decode b_M_join 25 = .ok (.getfield 53, 3) := by decide +kernel
theorem d_M_join_28 : decode b_M_join 28 = .ok (.iload_n 1, 1) := by decide +kernel
theorem d_M_join_29 : decode b_M_join 29 = .ok (.iaload, 1) := by decide +kernel
theorem d_M_join_30 : decode b_M_join 30 = .ok (.ifCond .gt 11, 3) := by decide +kernel
theorem d_M_join_33 : decode b_M_join 33 = .ok (.aload_n 0, 1) := by decide +kernel
theorem d_M_join_34 : decode b_M_join 34 = .ok (.iload_n 1, 1) := by decide +kernel
theorem d_M_join_35 : decode b_M_join 35 = .ok (.invokevirtual 100, 3) := by decide +kernel
theorem d_M_join_38 : decode b_M_join 38 = .ok (.ifCond .eq 6, 3) := by decide +kernel
theorem d_M_join_41 : decode b_M_join 41 = .ok (.bipush (-103), 2) := by decide +kernel
theorem d_M_join_43 : decode b_M_join 43 = .ok (.ireturn, 1) := by decide +kernel
theorem d_M_join_44 : decode b_M_join 44 = .ok (.aload_n 0, 1) := by decide +kernel
theorem d_M_join_45 : decode b_M_join 45 = .ok (.aload_n 0, 1) := by decide +kernel
theorem d_M_join_46 : decode b_M_join 46 = .ok (.getfield 53, 3) := by decide +kernel
theorem d_M_join_49 : decode b_M_join 49 = .ok (.iload_n 2, 1) := by decide +kernel
theorem d_M_join_50 : decode b_M_join 50 = .ok (.invokevirtual 112, 3) := by decide +kernel
theorem d_M_join_53 : decode b_M_join 53 = .ok (.ifCond .ne 10, 3) := by decide +kernel
theorem d_M_join_56 : decode b_M_join 56 = .ok (.aload_n 0, 1) := by decide +kernel
theorem d_M_join_57 : decode b_M_join 57 = .ok (.getfield 56, 3) := by decide +kernel
theorem d_M_join_60 : decode b_M_join 60 = .ok (.iload_n 2, 1) := by decide +kernel
theorem d_M_join_61 : decode b_M_join 61 = .ok (.iload_n 3, 1) := by decide +kernel
theorem d_M_join_62 : decode b_M_join 62 = .ok (.bastore, 1) := by decide +kernel
theorem d_M_join_63 : decode b_M_join 63 = .ok (.aload_n 0, 1) := by decide +kernel
theorem d_M_join_64 : decode b_M_join 64 = .ok (.getfield 53, 3) := by decide +kernel
theorem d_M_join_67 : decode b_M_join 67 = .ok (.iload_n 1, 1) := by decide +kernel
theorem d_M_join_68 : decode b_M_join 68 = .ok (.iload_n 2, 1) := by decide +kernel
theorem d_M_join_69 : decode b_M_join 69 = .ok (.iastore, 1) := by decide +kernel
theorem d_M_join_70 : decode b_M_join 70 = .ok (.aload_n 0, 1) := by decide +kernel
theorem d_M_join_71 : decode b_M_join 71 = .ok (.aload_n 0, 1) := by decide +kernel
theorem d_M_join_72 : decode b_M_join 72 = .ok (.getfield 53, 3) := by decide +kernel
theorem d_M_join_75 : decode b_M_join 75 = .ok (.iload_n 2, 1) := by decide +kernel
theorem d_M_join_76 : decode b_M_join 76 = .ok (.invokevirtual 112, 3) := by decide +kernel
theorem d_M_join_79 : decode b_M_join 79 = .ok (.ireturn, 1) := by decide +kernel
theorem d_M_bulk_0 : decode b_M_bulk 0 = .ok (.aload_n 0, 1) := by decide +kernel
theorem d_M_bulk_1 : decode b_M_bulk 1 = .ok (.iload_n 1, 1) := by decide +kernel
theorem d_M_bulk_2 : decode b_M_bulk 2 = .ok (.invokevirtual 92, 3) := by decide +kernel
theorem d_M_bulk_5 : decode b_M_bulk 5 = .ok (.ifCond .ne 6, 3) := by decide +kernel
theorem d_M_bulk_8 : decode b_M_bulk 8 = .ok (.bipush (-101), 2) := by decide +kernel
theorem d_M_bulk_10 : decode b_M_bulk 10 = .ok (.ireturn, 1) := by decide +kernel
theorem d_M_bulk_11 : decode b_M_bulk 11 = .ok (.iload_n 2, 1) := by decide +kernel
theorem d_M_bulk_12 : decode b_M_bulk 12 = .ok (.iconst 1, 1) := by decide +kernel
theorem d_M_bulk_13 : decode b_M_bulk 13 = .ok (.bipush 20, 2) := by decide +kernel
theorem d_M_bulk_15 : decode b_M_bulk 15 = .ok (.invokestatic 75, 3) := by decide +kernel
theorem d_M_bulk_18 : decode b_M_bulk 18 = .ok (.ifCond .ne 6, 3) := by decide +kernel
theorem d_M_bulk_21 : decode b_M_bulk 21 = .ok (.bipush (-102), 2) := by decide +kernel
theorem d_M_bulk_23 : decode b_M_bulk 23 = .ok (.ireturn, 1) := by decide +kernel
theorem d_M_bulk_24 : decode b_M_bulk 24 = .ok (.aload_n 0, 1) := by decide +kernel
theorem d_M_bulk_25 : decode b_M_bulk 25 = .ok (.getfield 59, 3) := by decide +kernel
theorem d_M_bulk_28 : decode b_M_bulk 28 = .ok (.iload_n 1, 1) := by decide +kernel
theorem d_M_bulk_29 : decode b_M_bulk 29 = .ok (.iaload, 1) := by decide +kernel
theorem d_M_bulk_30 : decode b_M_bulk 30 = .ok (.ifCond .le 6, 3) := by decide +kernel
theorem d_M_bulk_33 : decode b_M_bulk 33 = .ok (.bipush (-103), 2) := by decide +kernel
theorem d_M_bulk_35 : decode b_M_bulk 35 = .ok (.ireturn, 1) := by decide +kernel
theorem d_M_bulk_36 : decode b_M_bulk 36 = .ok (.aload_n 0, 1) := by decide +kernel
theorem d_M_bulk_37 : decode b_M_bulk 37 = .ok (.getfield 59, 3) := by decide +kernel
theorem d_M_bulk_40 : decode b_M_bulk 40 = .ok (.iload_n 1, 1) := by decide +kernel
theorem d_M_bulk_41 : decode b_M_bulk 41 = .ok (.iload_n 2, 1) := by decide +kernel
theorem d_M_bulk_42 : decode b_M_bulk 42 = .ok (.iastore, 1) := by decide +kernel
theorem d_M_bulk_43 : decode b_M_bulk 43 = .ok (.aload_n 0, 1) := by decide +kernel
theorem d_M_bulk_44 : decode b_M_bulk 44 = .ok (.aload_n 0, 1) := by decide +kernel
theorem d_M_bulk_45 : decode b_M_bulk 45 = .ok (.getfield 59, 3) := by decide +kernel
theorem d_M_bulk_48 : decode b_M_bulk 48 = .ok (.iload_n 2, 1) := by decide +kernel
theorem d_M_bulk_49 : decode b_M_bulk 49 = .ok (.invokevirtual 112, 3) := by decide +kernel
theorem d_M_bulk_52 : decode b_M_bulk 52 = .ok (.ireturn, 1) := by decide +kernel
theorem d_M_open_0 : decode b_M_open 0 = .ok (.aload_n 0, 1) := by decide +kernel
theorem d_M_open_1 : decode b_M_open 1 = .ok (.iload_n 1, 1) := by decide +kernel
theorem d_M_open_2 : decode b_M_open 2 = .ok (.invokevirtual 92, 3) := by decide +kernel
theorem d_M_open_5 : decode b_M_open 5 = .ok (.ifCond .ne 6, 3) := by decide +kernel
theorem d_M_open_8 : decode b_M_open 8 = .ok (.bipush (-101), 2) := by decide +kernel
theorem d_M_open_10 : decode b_M_open 10 = .ok (.ireturn, 1) := by decide +kernel
theorem d_M_open_11 : decode b_M_open 11 = .ok (.iload_n 2, 1) := by decide +kernel
theorem d_M_open_12 : decode b_M_open 12 = .ok (.iconst 0, 1) := by decide +kernel
theorem d_M_open_13 : decode b_M_open 13 = .ok (.bipush 19, 2) := by decide +kernel
theorem d_M_open_15 : decode b_M_open 15 = .ok (.invokestatic 75, 3) := by decide +kernel
theorem d_M_open_18 : decode b_M_open 18 = .ok (.ifCond .eq 13, 3) := by decide +kernel
theorem d_M_open_21 : decode b_M_open 21 = .ok (.iload_n 3, 1) := by decide +kernel
theorem d_M_open_22 : decode b_M_open 22 = .ok (.iconst 0, 1) := by decide +kernel
theorem d_M_open_23 : decode b_M_open 23 = .ok (.bipush 19, 2) := by decide +kernel
theorem d_M_open_25 : decode b_M_open 25 = .ok (.invokestatic 75, 3) := by decide +kernel
theorem d_M_open_28 : decode b_M_open 28 = .ok (.ifCond .ne 6, 3) := by decide +kernel
theorem d_M_open_31 : decode b_M_open 31 = .ok (.bipush (-102), 2) := by decide +kernel
theorem d_M_open_33 : decode b_M_open 33 = .ok (.ireturn, 1) := by decide +kernel
theorem d_M_open_34 : decode b_M_open 34 = .ok (.aload_n 0, 1) := by decide +kernel
theorem d_M_open_35 : decode b_M_open 35 = .ok (.getfield 25, 3) := by decide +kernel
theorem d_M_open_38 : decode b_M_open 38 = .ok (.iload_n 1, 1) := by decide +kernel
theorem d_M_open_39 : decode b_M_open 39 = .ok (.iaload, 1) := by decide +kernel
theorem d_M_open_40 : decode b_M_open 40 = .ok (.bipush 8, 2) := by decide +kernel
theorem d_M_open_42 : decode b_M_open 42 = .ok (.if_icmp .ne 12, 3) := by decide +kernel
theorem d_M_open_45 : decode b_M_open 45 = .ok (.aload_n 0, 1) := by decide +kernel
theorem d_M_open_46 : decode b_M_open 46 = .ok (.getfield 28, 3) := by decide +kernel
theorem d_M_open_49 : decode b_M_open 49 = .ok (.iload_n 1, 1) := by decide +kernel
theorem d_M_open_50 : decode b_M_open 50 = .ok (.baload, 1) := by decide +kernel
theorem d_M_open_51 : decode b_M_open 51 = .ok (.ifCond .eq 6, 3) := by decide +kernel
theorem d_M_open_54 : decode b_M_open 54 = .ok (.bipush (-103), 2) := by decide +kernel
theorem d_M_open_56 : decode b_M_open 56 = .ok (.ireturn, 1) := by decide +kernel
theorem d_M_open_57 : decode b_M_open 57 = .ok (.iload_n 2, 1) := by decide +kernel
theorem d_M_open_58 : decode b_M_open 58 = .ok (.iload_n 3, 1) := by decide +kernel
theorem d_M_open_59 : decode b_M_open 59 = .ok (.if_icmp .ne 6, 3) := by decide +kernel
theorem d_M_open_62 : decode b_M_open 62 = .ok (.bipush (-108), 2) := by decide +kernel
theorem d_M_open_64 : decode b_M_open 64 = .ok (.ireturn, 1) := by decide +kernel
theorem d_M_open_65 : decode b_M_open 65 = .ok (.aload_n 0, 1) := by decide +kernel
theorem d_M_open_66 : decode b_M_open 66 = .ok (.getfield 25, 3) := by decide +kernel
theorem d_M_open_69 : decode b_M_open 69 = .ok (.iload_n 1, 1) := by decide +kernel
theorem d_M_open_70 : decode b_M_open 70 = .ok (.iconst 1, 1) := by decide +kernel
theorem d_M_open_71 : decode b_M_open 71 = .ok (.iastore, 1) := by decide +kernel
theorem d_M_open_72 : decode b_M_open 72 = .ok (.aload_n 0, 1) := by decide +kernel
theorem d_M_open_73 : decode b_M_open 73 = .ok (.getfield 38, 3) := by decide +kernel
theorem d_M_open_76 : decode b_M_open 76 = .ok (.iload_n 1, 1) := by decide +kernel
theorem d_M_open_77 : decode b_M_open 77 = .ok (.iconst (-1), 1) := by decide +kernel
theorem d_M_open_78 : decode b_M_open 78 = .ok (.iastore, 1) := by decide +kernel
theorem d_M_open_79 : decode b_M_open 79 = .ok (.aload_n 0, 1) := by decide +kernel
theorem d_M_open_80 : decode b_M_open 80 = .ok (.getfield 62, 3) := by decide +kernel
theorem d_M_open_83 : decode b_M_open 83 = .ok (.iload_n 1, 1) := by decide +kernel
theorem d_M_open_84 : decode b_M_open 84 = .ok (.bipush 100, 2) := by decide +kernel
theorem d_M_open_86 : decode b_M_open 86 = .ok (.iload_n 2, 1) := by decide +kernel
theorem d_M_open_87 : decode b_M_open 87 = .ok (.imul, 1) := by decide +kernel
theorem d_M_open_88 : decode b_M_open 88 = .ok (.iload_n 3, 1) := by decide +kernel
theorem d_M_open_89 : decode b_M_open 89 = .ok (.iadd, 1) := by decide +kernel
theorem d_M_open_90 : decode b_M_open 90 = .ok (.iastore, 1) := by decide +kernel
theorem d_M_open_91 : decode b_M_open 91 = .ok (.iconst 1, 1) := by decide +kernel
theorem d_M_open_92 : decode b_M_open 92 = .ok (.ireturn, 1) := by decide +kernel
theorem d_M_factOf_0 : decode b_M_factOf 0 = .ok (.iload_n 2, 1) := by decide +kernel
theorem d_M_factOf_1 : decode b_M_factOf 1 = .ok (.ifCond .ne 12, 3) := by decide +kernel
theorem d_M_factOf_4 : decode b_M_factOf 4 = .ok (.aload_n 0, 1) := by decide +kernel
theorem d_M_factOf_5 : decode b_M_factOf 5 = .ok (.getfield 7, 3) := by decide +kernel
theorem d_M_factOf_8 : decode b_M_factOf 8 = .ok (.iload_n 1, 1) := by decide +kernel
theorem d_M_factOf_9 : decode b_M_factOf 9 = .ok (.iaload, 1) := by decide +kernel
theorem d_M_factOf_10 : decode b_M_factOf 10 = .ok (.goto 51, 3) := by decide +kernel
theorem d_M_factOf_13 : decode b_M_factOf 13 = .ok (.iload_n 2, 1) := by decide +kernel
theorem d_M_factOf_14 : decode b_M_factOf 14 = .ok (.iconst 1, 1) := by decide +kernel
theorem d_M_factOf_15 : decode b_M_factOf 15 = .ok (.if_icmp .ne 12, 3) := by decide +kernel
theorem d_M_factOf_18 : decode b_M_factOf 18 = .ok (.aload_n 0, 1) := by decide +kernel
theorem d_M_factOf_19 : decode b_M_factOf 19 = .ok (.getfield 13, 3) := by decide +kernel
theorem d_M_factOf_22 : decode b_M_factOf 22 = .ok (.iload_n 1, 1) := by decide +kernel
theorem d_M_factOf_23 : decode b_M_factOf 23 = .ok (.iaload, 1) := by decide +kernel
theorem d_M_factOf_24 : decode b_M_factOf 24 = .ok (.goto 37, 3) := by decide +kernel
theorem d_M_factOf_27 : decode b_M_factOf 27 = .ok (.iload_n 2, 1) := by decide +kernel
theorem d_M_factOf_28 : decode b_M_factOf 28 = .ok (.iconst 2, 1) := by decide +kernel
theorem d_M_factOf_29 : decode b_M_factOf 29 = .ok (.if_icmp .ne 12, 3) := by decide +kernel
theorem d_M_factOf_32 : decode b_M_factOf 32 = .ok (.aload_n 0, 1) := by decide +kernel
theorem d_M_factOf_33 : decode b_M_factOf 33 = .ok (.getfield 16, 3) := by decide +kernel
theorem d_M_factOf_36 : decode b_M_factOf 36 = .ok (.iload_n 1, 1) := by decide +kernel
theorem d_M_factOf_37 : decode b_M_factOf 37 = .ok (.iaload, 1) := by decide +kernel
theorem d_M_factOf_38 : decode b_M_factOf 38 = .ok (.goto 23, 3) := by decide +kernel
theorem d_M_factOf_41 : decode b_M_factOf 41 = .ok (.iload_n 2, 1) := by decide +kernel
theorem d_M_factOf_42 : decode b_M_factOf 42 = .ok (.iconst 3, 1) := by decide +kernel
theorem d_M_factOf_43 : decode b_M_factOf 43 = .ok (.if_icmp .ne 12, 3) := by decide +kernel
theorem d_M_factOf_46 : decode b_M_factOf 46 = .ok (.aload_n 0, 1) := by decide +kernel
theorem d_M_factOf_47 : decode b_M_factOf 47 = .ok (.getfield 35, 3) := by decide +kernel
theorem d_M_factOf_50 : decode b_M_factOf 50 = .ok (.iload_n 1, 1) := by decide +kernel
theorem d_M_factOf_51 : decode b_M_factOf 51 = .ok (.iaload, 1) := by decide +kernel
theorem d_M_factOf_52 : decode b_M_factOf 52 = .ok (.goto 9, 3) := by decide +kernel
theorem d_M_factOf_55 : decode b_M_factOf 55 = .ok (.aload_n 0, 1) := by decide +kernel
theorem d_M_factOf_56 : decode b_M_factOf 56 = .ok (.getfield 38, 3) := by decide +kernel
theorem d_M_factOf_59 : decode b_M_factOf 59 = .ok (.iload_n 1, 1) := by decide +kernel
theorem d_M_factOf_60 : decode b_M_factOf 60 = .ok (.iaload, 1) := by decide +kernel
theorem d_M_factOf_61 : decode b_M_factOf 61 = .ok (.ireturn, 1) := by decide +kernel
theorem d_M_correct_0 : decode b_M_correct 0 = .ok (.aload_n 0, 1) := by decide +kernel
theorem d_M_correct_1 : decode b_M_correct 1 = .ok (.iload_n 1, 1) := by decide +kernel
theorem d_M_correct_2 : decode b_M_correct 2 = .ok (.invokevirtual 92, 3) := by decide +kernel
theorem d_M_correct_5 : decode b_M_correct 5 = .ok (.ifCond .ne 6, 3) := by decide +kernel
theorem d_M_correct_8 : decode b_M_correct 8 = .ok (.bipush (-101), 2) := by decide +kernel
theorem d_M_correct_10 : decode b_M_correct 10 = .ok (.ireturn, 1) := by decide +kernel
theorem d_M_correct_11 : decode b_M_correct 11 = .ok (.iload_n 2, 1) := by decide +kernel
theorem d_M_correct_12 : decode b_M_correct 12 = .ok (.iconst 1, 1) := by decide +kernel
theorem d_M_correct_13 : decode b_M_correct 13 = .ok (.if_icmp .ne 7, 3) := by decide +kernel
theorem d_M_correct_16 : decode b_M_correct 16 = .ok (.iconst 1, 1) := by decide +kernel
theorem d_M_correct_17 : decode b_M_correct 17 = .ok (.goto 4, 3) := by decide +kernel
theorem d_M_correct_20 : decode b_M_correct 20 = .ok (.iconst 0, 1) := by decide +kernel
theorem d_M_correct_21 : decode b_M_correct 21 = .ok (.istore 5, 2) := by decide +kernel
theorem d_M_correct_23 : decode b_M_correct 23 = .ok (.iload_n 2, 1) := by decide +kernel
theorem d_M_correct_24 : decode b_M_correct 24 = .ok (.ifCond .ne 7, 3) := by decide +kernel
theorem d_M_correct_27 : decode b_M_correct 27 = .ok (.iconst 3, 1) := by decide +kernel
theorem d_M_correct_28 : decode b_M_correct 28 = .ok (.goto 26, 3) := by decide +kernel
theorem d_M_correct_31 : decode b_M_correct 31 = .ok (.iload_n 2, 1) := by decide +kernel
theorem d_M_correct_32 : decode b_M_correct 32 = .ok (.iconst 1, 1) := by decide +kernel
theorem d_M_correct_33 : decode b_M_correct 33 = .ok (.if_icmp .ne 8, 3) := by decide +kernel
theorem d_M_correct_36 : decode b_M_correct 36 = .ok (.ldc 83, 2) := by decide +kernel
theorem d_M_correct_38 : decode b_M_correct 38 = .ok (.goto 16, 3) := by decide +kernel
theorem d_M_correct_41 : decode b_M_correct 41 = .ok (.iload_n 2, 1) := by decide +kernel
theorem d_M_correct_42 : decode b_M_correct 42 = .ok (.iconst 2, 1) := by decide +kernel
theorem d_M_correct_43 : decode b_M_correct 43 = .ok (.if_icmp .ne 8, 3) := by decide +kernel
theorem d_M_correct_46 : decode b_M_correct 46 = .ok (.bipush 9, 2) := by decide +kernel
theorem d_M_correct_48 : decode b_M_correct 48 = .ok (.goto 6, 3) := by decide +kernel
theorem d_M_correct_51 : decode b_M_correct 51 = .ok (.sipush 9999, 3) := by decide +kernel
theorem d_M_correct_54 : decode b_M_correct 54 = .ok (.istore 6, 2) := by decide +kernel
theorem d_M_correct_56 : decode b_M_correct 56 = .ok (.iload_n 2, 1) := by decide +kernel
theorem d_M_correct_57 : decode b_M_correct 57 = .ok (.iconst 0, 1) := by decide +kernel
theorem d_M_correct_58 : decode b_M_correct 58 = .ok (.iconst 4, 1) := by decide +kernel
theorem d_M_correct_59 : decode b_M_correct 59 = .ok (.invokestatic 75, 3) := by decide +kernel
theorem d_M_correct_62 : decode b_M_correct 62 = .ok (.ifCond .eq 25, 3) := by decide +kernel
theorem d_M_correct_65 : decode b_M_correct 65 = .ok (.iload_n 3, 1) := by decide +kernel
theorem d_M_correct_66 : decode b_M_correct 66 = .ok (.iload 5, 2) := by decide +kernel
theorem d_M_correct_68 : decode b_M_correct 68 = .ok (.iload 6, 2) := by decide +kernel
theorem d_M_correct_70 : decode b_M_correct 70 = .ok (.invokestatic 75, 3) := by decide +kernel
theorem d_M_correct_73 : decode b_M_correct 73 = .ok (.ifCond .eq 14, 3) := by decide +kernel
theorem d_M_correct_76 : decode b_M_correct 76 = .ok (.iload 4, 2) := by decide +kernel
theorem d_M_correct_78 : decode b_M_correct 78 = .ok (.iconst 1, 1) := by decide +kernel
theorem d_M_correct_79 : decode b_M_correct 79 = .ok (.bipush 9, 2) := by decide +kernel
theorem d_M_correct_81 : decode b_M_correct 81 = .ok (.invokestatic 75, 3) := by decide +kernel
theorem d_M_correct_84 : decode b_M_correct 84 = .ok (.ifCond .ne 6, 3) := by decide +kernel
theorem d_M_correct_87 : decode b_M_correct 87 = .ok (.bipush (-102), 2) := by decide +kernel
theorem d_M_correct_89 : decode b_M_correct 89 = .ok (.ireturn, 1) := by decide +kernel
theorem d_M_correct_90 : decode b_M_correct 90 = .ok (.iload_n 2, 1) := by decide +kernel
theorem d_M_correct_91 : decode b_M_correct 91 = .ok (.ifCond .ne 7, 3) := by decide +kernel
theorem d_M_correct_94 : decode b_M_correct 94 = .ok (.iload_n 3, 1) := by decide +kernel
theorem d_M_correct_95 : decode b_M_correct 95 = .ok (.goto 9, 3) := by decide +kernel
theorem d_M_correct_98 : decode b_M_correct 98 = .ok (.aload_n 0, 1) := by decide +kernel
theorem d_M_correct_99 : decode b_M_correct 99 = .ok (.getfield 7, 3) := by decide +kernel
theorem d_M_correct_102 : decode b_M_correct 102 = .ok (.iload_n 1, 1) := by decide +kernel
theorem d_M_correct_103 : decode b_M_correct 103 = .ok (.iaload, 1) := by decide +kernel
theorem d_M_correct_104 : decode b_M_correct 104 = .ok (.istore 7, 2) := by decide +kernel
theorem d_M_correct_106 : decode b_M_correct 106 = .ok (.iload_n 2, 1) := by decide +kernel
theorem d_M_correct_107 : decode b_M_correct 107 = .ok (.iconst 1, 1) := by decide +kernel
theorem d_M_correct_108 : decode b_M_correct 108 = .ok (.if_icmp .ne 7, 3) := by decide +kernel
theorem d_M_correct_111 : decode b_M_correct 111 = .ok (.iload_n 3, 1) := by decide +kernel
theorem d_M_correct_112 : decode b_M_correct 112 = .ok (.goto 9, 3) := by decide +kernel
theorem d_M_correct_115 : decode b_M_correct 115 = .ok (.aload_n 0, 1) := by decide +kernel
theorem d_M_correct_116 : decode b_M_correct 116 = .ok (.getfield 13, 3) := by decide +kernel
theorem d_M_correct_119 : decode b_M_correct 119 = .ok (.iload_n 1, 1) := by decide +kernel
theorem d_M_correct_120 : decode b_M_correct 120 = .ok (.iaload, 1) := by decide +kernel
theorem d_M_correct_121 : decode b_M_correct 121 = .ok (.istore 8, 2) := by decide +kernel
theorem d_M_correct_123 : decode b_M_correct 123 = .ok (.iload_n 2, 1) := by decide +kernel
theorem d_M_correct_124 : decode b_M_correct 124 = .ok (.iconst 2, 1) := by decide +kernel
theorem d_M_correct_125 : decode b_M_correct 125 = .ok (.if_icmp .ne 7, 3) := by decide +kernel
theorem d_M_correct_128 : decode b_M_correct 128 = .ok (.iload_n 3, 1) := by decide +kernel
theorem d_M_correct_129 : decode b_M_correct 129 = .ok (.goto 9, 3) := by decide +kernel
theorem d_M_correct_132 : decode b_M_correct 132 = .ok (.aload_n 0, 1) := by decide +kernel
theorem d_M_correct_133 : decode b_M_correct 133 = .ok (.getfield 16, 3) := by decide +kernel
theorem d_M_correct_136 : decode b_M_correct 136 = .ok (.iload_n 1, 1) := by decide +kernel
theorem d_M_correct_137 : decode b_M_correct 137 = .ok (.iaload, 1) := by decide +kernel
theorem d_M_correct_138 : decode b_M_correct 138 = .ok (.istore 9, 2) := by decide +kernel
theorem d_M_correct_140 : decode b_M_correct 140 = .ok (.iload 8, 2) := by decide +kernel
theorem d_M_correct_142 : decode b_M_correct 142 = .ok (.iload 9, 2) := by decide +kernel
theorem d_M_correct_144 : decode b_M_correct 144 = .ok (.invokestatic 84, 3) := by decide +kernel
theorem d_M_correct_147 : decode b_M_correct 147 = .ok (.istore 10, 2) := by decide +kernel
theorem d_M_correct_149 : decode b_M_correct 149 = .ok (.iload_n 2, 1) := by decide +kernel
theorem d_M_correct_150 : decode b_M_correct 150 = .ok (.ifCond .ne 29, 3) := by decide +kernel
theorem d_M_correct_153 : decode b_M_correct 153 = .ok (.iload 7, 2) := by decide +kernel
theorem d_M_correct_155 : decode b_M_correct 155 = .ok (.iload 8, 2) := by decide +kernel
theorem d_M_correct_157 : decode b_M_correct 157 = .ok (.iload 9, 2) := by decide +kernel
theorem d_M_correct_159 : decode b_M_correct 159 = .ok (.invokestatic 88, 3) := by decide +kernel
theorem d_M_correct_162 : decode b_M_correct 162 = .ok (.aload_n 0, 1) := by decide +kernel
theorem d_M_correct_163 : decode b_M_correct 163 = .ok (.getfield 7, 3) := by decide +kernel
theorem d_M_correct_166 : decode b_M_correct 166 = .ok (.iload_n 1, 1) := by decide +kernel
theorem d_M_correct_167 : decode b_M_correct 167 = .ok (.iaload, 1) := by decide +kernel
theorem d_M_correct_168 : decode b_M_correct 168 = .ok (.if_icmp .ne 7, 3) := by decide +kernel
theorem d_M_correct_171 : decode b_M_correct 171 = .ok (.iconst 1, 1) := by decide +kernel
theorem d_M_correct_172 : decode b_M_correct 172 = .ok (.goto 22, 3) := by decide +kernel
theorem d_M_correct_175 : decode b_M_correct 175 = .ok (.iconst 0, 1) := by decide +kernel
theorem d_M_correct_176 : decode b_M_correct 176 = .ok (.goto 18, 3) := by decide +kernel
theorem d_M_correct_179 : decode b_M_correct 179 = .ok (.aload_n 0, 1) := by decide +kernel
theorem d_M_correct_180 : decode b_M_correct 180 = .ok (.iload_n 1, 1) := by decide +kernel
theorem d_M_correct_181 : decode b_M_correct 181 = .ok (.iload_n 2, 1) := by decide +kernel
theorem d_M_correct_182 : decode b_M_correct 182 = .ok (.invokevirtual 116, 3) := by decide +kernel
theorem d_M_correct_185 : decode b_M_correct 185 = .ok (.iload_n 3, 1) := by decide +kernel
theorem d_M_correct_186 : decode b_M_correct 186 = .ok (.if_icmp .ne 7, 3) := by decide +kernel
theorem d_M_correct_189 : decode b_M_correct 189 = .ok (.iconst 1, 1) := by decide +kernel
theorem d_M_correct_190 : decode b_M_correct 190 = .ok (.goto 4, 3) := by decide +kernel
theorem d_M_correct_193 : decode b_M_correct 193 = .ok (.iconst 0, 1) := by decide +kernel
theorem d_M_correct_194 : decode b_M_correct 194 = .ok (.istore 11, 2) := by decide +kernel
theorem d_M_correct_196 : decode b_M_correct 196 = .ok (.iload 11, 2) := by decide +kernel
theorem d_M_correct_198 : decode b_M_correct 198 = .ok (.ifCond .eq 6, 3) := by decide +kernel
theorem d_M_correct_201 : decode b_M_correct 201 = .ok (.bipush (-103), 2) := by decide +kernel
theorem d_M_correct_203 : decode b_M_correct 203 = .ok (.ireturn, 1) := by decide +kernel
theorem d_M_correct_204 : decode b_M_correct 204 = .ok (.aload_n 0, 1) := by decide +kernel
theorem d_M_correct_205 : decode b_M_correct 205 = .ok (.getfield 119, 3) := by decide +kernel
theorem d_M_correct_208 : decode b_M_correct 208 = .ok (.sipush 200, 3) := by decide +kernel
theorem d_M_correct_211 : decode b_M_correct 211 = .ok (.if_icmp .ne 6, 3) := by decide +kernel
theorem d_M_correct_214 : decode b_M_correct 214 = .ok (.bipush (-104), 2) := by decide +kernel
theorem d_M_correct_216 : decode b_M_correct 216 = .ok (.ireturn, 1) := by decide +kernel
theorem d_M_correct_217 : decode b_M_correct 217 = .ok (.iload 10, 2) := by decide +kernel
theorem d_M_correct_219 : decode b_M_correct 219 = .ok (.ifCond .eq 6, 3) := by decide +kernel
theorem d_M_correct_222 : decode b_M_correct 222 = .ok (.iload 10, 2) := by decide +kernel
theorem d_M_correct_224 : decode b_M_correct 224 = .ok (.ireturn, 1) := by decide +kernel
theorem d_M_correct_225 : decode b_M_correct 225 = .ok (.aload_n 0, 1) := by decide +kernel
theorem d_M_correct_226 : decode b_M_correct 226 = .ok (.getfield 65, 3) := by decide +kernel
theorem d_M_correct_229 : decode b_M_correct 229 = .ok (.iconst 5, 1) := by decide +kernel
theorem d_M_correct_230 : decode b_M_correct 230 = .ok (.aload_n 0, 1) := by decide +kernel
theorem d_M_correct_231 : decode b_M_correct 231 = .ok (.getfield 119, 3) := by decide +kernel
theorem d_M_correct_234 : decode b_M_correct 234 = .ok (.imul, 1) := by decide +kernel
theorem d_M_correct_235 : decode b_M_correct 235 = .ok (.iload_n 1, 1) := by decide +kernel
theorem d_M_correct_236 : decode b_M_correct 236 = .ok (.iastore, 1) := by decide +kernel
theorem d_M_correct_237 : decode b_M_correct 237 = .ok (.aload_n 0, 1) := by decide +kernel
theorem d_M_correct_238 : decode b_M_correct 238 = .ok (.getfield 65, 3) := by decide +kernel
theorem d_M_correct_241 : decode b_M_correct 241 = .ok (.iconst 5, 1) := by decide +kernel
theorem d_M_correct_242 : decode b_M_correct 242 = .ok (.aload_n 0, 1) := by decide +kernel
theorem d_M_correct_243 : decode b_M_correct 243 = .ok (.getfield 119, 3) := by decide +kernel
theorem d_M_correct_246 : decode b_M_correct 246 = .ok (.imul, 1) := by decide +kernel
theorem d_M_correct_247 : decode b_M_correct 247 = .ok (.iconst 1, 1) := by decide +kernel
theorem d_M_correct_248 : decode b_M_correct 248 = .ok (.iadd, 1) := by decide +kernel
theorem d_M_correct_249 : decode b_M_correct 249 = .ok (.iload_n 2, 1) := by decide +kernel
theorem d_M_correct_250 : decode b_M_correct 250 = .ok (.iastore, 1) := by decide +kernel
theorem d_M_correct_251 : decode b_M_correct 251 = .ok (.aload_n 0, 1) := by decide +kernel
theorem d_M_correct_252 : decode b_M_correct 252 = .ok (.getfield 65, 3) := by decide +kernel
theorem d_M_correct_255 : decode b_M_correct 255 = .ok (.iconst 5, 1) := by decide +kernel
theorem d_M_correct_256 : decode b_M_correct 256 = .ok (.aload_n 0, 1) := by decide +kernel
theorem d_M_correct_257 : decode b_M_correct 257 = .ok (.getfield 119, 3) := by decide +kernel
theorem d_M_correct_260 : decode b_M_correct 260 = .ok (.imul, 1) := by decide +kernel
theorem d_M_correct_261 : decode b_M_correct 261 = .ok (.iconst 2, 1) := by decide +kernel
theorem d_M_correct_262 : decode b_M_correct 262 = .ok (.iadd, 1) := by decide +kernel
theorem d_M_correct_263 : decode b_M_correct 263 = .ok (.aload_n 0, 1) := by decide +kernel
theorem d_M_correct_264 : decode b_M_correct 264 = .ok (.iload_n 1, 1) := by decide +kernel
theorem d_M_correct_265 : decode b_M_correct 265 = .ok (.iload_n 2, 1) := by decide +kernel
theorem d_M_correct_266 : decode b_M_correct 266 = .ok (.invokevirtual 116, 3) := by decide +kernel
theorem d_M_correct_269 : decode b_M_correct 269 = .ok (.iastore, 1) := by decide +kernel
theorem d_M_correct_270 : decode b_M_correct 270 = .ok (.aload_n 0, 1) := by decide +kernel
theorem d_M_correct_271 : decode b_M_correct 271 = .ok (.getfield 65, 3) := by decide +kernel
theorem d_M_correct_274 : decode b_M_correct 274 = .ok (.iconst 5, 1) := by decide +kernel
theorem d_M_correct_275 : decode b_M_correct 275 = .ok (.aload_n 0, 1) := by decide +kernel
theorem d_M_correct_276 : decode b_M_correct 276 = .ok (.getfield 119, 3) := by decide +kernel
theorem d_M_correct_279 : decode b_M_correct 279 = .ok (.imul, 1) := by decide +kernel
theorem d_M_correct_280 : decode b_M_correct 280 = .ok (.iconst 3, 1) := by decide +kernel
theorem d_M_correct_281 : decode b_M_correct 281 = .ok (.iadd, 1) := by decide +kernel
theorem d_M_correct_282 : decode b_M_correct 282 = .ok (.iload_n 3, 1) := by decide +kernel
theorem d_M_correct_283 : decode b_M_correct 283 = .ok (.iastore, 1) := by decide +kernel
theorem d_M_correct_284 : decode b_M_correct 284 = .ok (.aload_n 0, 1) := by decide +kernel
theorem d_M_correct_285 : decode b_M_correct 285 = .ok (.getfield 65, 3) := by decide +kernel
theorem d_M_correct_288 : decode b_M_correct 288 = .ok (.iconst 5, 1) := by decide +kernel
theorem d_M_correct_289 : decode b_M_correct 289 = .ok (.aload_n 0, 1) := by decide +kernel
theorem d_M_correct_290 : decode b_M_correct 290 = .ok (.getfield 119, 3) := by decide +kernel
theorem d_M_correct_293 : decode b_M_correct 293 = .ok (.imul, 1) := by decide +kernel
theorem d_M_correct_294 : decode b_M_correct 294 = .ok (.iconst 4, 1) := by decide +kernel
theorem d_M_correct_295 : decode b_M_correct 295 = .ok (.iadd, 1) := by decide +kernel
theorem d_M_correct_296 : decode b_M_correct 296 = .ok (.iload 4, 2) := by decide +kernel
theorem d_M_correct_298 : decode b_M_correct 298 = .ok (.iastore, 1) := by decide +kernel
theorem d_M_correct_299 : decode b_M_correct 299 = .ok (.aload_n 0, 1) := by decide +kernel
theorem d_M_correct_300 : decode b_M_correct 300 = .ok (.dup, 1) := by decide +kernel
theorem d_M_correct_301 : decode b_M_correct 301 = .ok (.getfield 119, 3) := by decide +kernel
theorem d_M_correct_304 : decode b_M_correct 304 = .ok (.iconst 1, 1) := by decide +kernel
theorem d_M_correct_305 : decode b_M_correct 305 = .ok (.iadd, 1) := by decide +kernel
theorem d_M_correct_306 : decode b_M_correct 306 = .ok (.putfield 119, 3) := by decide +kernel
theorem d_M_correct_309 : decode b_M_correct 309 = .ok (.aload_n 0, 1) := by decide +kernel
theorem d_M_correct_310 : decode b_M_correct 310 = .ok (.getfield 7, 3) := by decide +kernel
theorem d_M_correct_313 : decode b_M_correct 313 = .ok (.iload_n 1, 1) := by decide +kernel
theorem d_M_correct_314 : decode b_M_correct 314 = .ok (.iload 7, 2) := by decide +kernel
theorem d_M_correct_316 : decode b_M_correct 316 = .ok (.iload 8, 2) := by decide +kernel
theorem d_M_correct_318 : decode b_M_correct 318 = .ok (.iload 9, 2) := by decide +kernel
theorem d_M_correct_320 : decode b_M_correct 320 = .ok (.invokestatic 88, 3) := by decide +kernel
theorem d_M_correct_323 : decode b_M_correct 323 = .ok (.iastore, 1) := by decide +kernel
theorem d_M_correct_324 : decode b_M_correct 324 = .ok (.aload_n 0, 1) := by decide +kernel
theorem d_M_correct_325 : decode b_M_correct 325 = .ok (.getfield 13, 3) := by decide +kernel
theorem d_M_correct_328 : decode b_M_correct 328 = .ok (.iload_n 1, 1) := by decide +kernel
theorem d_M_correct_329 : decode b_M_correct 329 = .ok (.iload 8, 2) := by decide +kernel
theorem d_M_correct_331 : decode b_M_correct 331 = .ok (.iastore, 1) := by decide +kernel
theorem d_M_correct_332 : decode b_M_correct 332 = .ok (.aload_n 0, 1) := by decide +kernel
theorem d_M_correct_333 : decode b_M_correct 333 = .ok (.getfield 16, 3) := by decide +kernel
theorem d_M_correct_336 : decode b_M_correct 336 = .ok (.iload_n 1, 1) := by decide +kernel
theorem d_M_correct_337 : decode b_M_correct 337 = .ok (.iload 9, 2) := by decide +kernel
theorem d_M_correct_339 : decode b_M_correct 339 = .ok (.iastore, 1) := by decide +kernel
theorem d_M_correct_340 : decode b_M_correct 340 = .ok (.aload_n 0, 1) := by decide +kernel
theorem d_M_correct_341 : decode b_M_correct 341 = .ok (.getfield 35, 3) := by decide +kernel
theorem d_M_correct_344 : decode b_M_correct 344 = .ok (.iload_n 1, 1) := by decide +kernel
theorem d_M_correct_345 : decode b_M_correct 345 = .ok (.iload_n 2, 1) := by decide +kernel
theorem d_M_correct_346 : decode b_M_correct 346 = .ok (.iconst 3, 1) := by decide +kernel
theorem d_M_correct_347 : decode b_M_correct 347 = .ok (.if_icmp .ne 7, 3) := by decide +kernel
theorem d_M_correct_350 : decode b_M_correct 350 = .ok (.iload_n 3, 1) := by decide +kernel
theorem d_M_correct_351 : decode b_M_correct 351 = .ok (.goto 9, 3) := by decide +kernel
theorem d_M_correct_354 : decode b_M_correct 354 = .ok (.aload_n 0, 1) := by decide +kernel
theorem d_M_correct_355 : decode b_M_correct 355 = .ok (.getfield 35, 3) := by decide +kernel
theorem d_M_correct_358 : decode b_M_correct 358 = .ok (.iload_n 1, 1) := by decide +kernel
theorem d_M_correct_359 : decode b_M_correct 359 = .ok (.iaload, 1) := by decide +kernel
theorem d_M_correct_360 : decode b_M_correct 360 = .ok (.iastore, 1) := by decide +kernel
theorem d_M_correct_361 : decode b_M_correct 361 = .ok (.aload_n 0, 1) := by decide +kernel
theorem d_M_correct_362 : decode b_M_correct 362 = .ok (.getfield 38, 3) := by decide +kernel
theorem d_M_correct_365 : decode b_M_correct 365 = .ok (.iload_n 1, 1) := by decide +kernel
theorem d_M_correct_366 : decode b_M_correct 366 = .ok (.iload_n 2, 1) := by decide +kernel
theorem d_M_correct_367 : decode b_M_correct 367 = .ok (.iconst 4, 1) := by decide +kernel
theorem d_M_correct_368 : decode b_M_correct 368 = .ok (.if_icmp .ne 7, 3) := by decide +kernel
theorem d_M_correct_371 : decode b_M_correct 371 = .ok (.iload_n 3, 1) := by decide +kernel
theorem d_M_correct_372 : decode b_M_correct 372 = .ok (.goto 9, 3) := by decide +kernel
theorem d_M_correct_375 : decode b_M_correct 375 = .ok (.aload_n 0, 1) := by decide +kernel
theorem d_M_correct_376 : decode b_M_correct 376 = .ok (.getfield 38, 3) := by decide +kernel
theorem d_M_correct_379 : decode b_M_correct 379 = .ok (.iload_n 1, 1) := by decide +kernel
theorem d_M_correct_380 : decode b_M_correct 380 = .ok (.iaload, 1) := by decide +kernel
theorem d_M_correct_381 : decode b_M_correct 381 = .ok (.iastore, 1) := by decide +kernel
theorem d_M_correct_382 : decode b_M_correct 382 = .ok (.aload_n 0, 1) := by decide +kernel
theorem d_M_correct_383 : decode b_M_correct 383 = .ok (.getfield 119, 3) := by decide +kernel
theorem d_M_correct_386 : decode b_M_correct 386 = .ok (.ireturn, 1) := by decide +kernel
theorem d_M_row_0 : decode b_M_row 0 = .ok (.iload_n 1, 1) := by decide +kernel
theorem d_M_row_1 : decode b_M_row 1 = .ok (.iconst 0, 1) := by decide +kernel
theorem d_M_row_2 : decode b_M_row 2 = .ok (.aload_n 0, 1) := by decide +kernel
theorem d_M_row_3 : decode b_M_row 3 = .ok (.getfield 119, 3) := by decide +kernel
theorem d_M_row_6 : decode b_M_row 6 = .ok (.iconst 1, 1) := by decide +kernel
theorem d_M_row_7 : decode b_M_row 7 = .ok (.isub, 1) := by decide +kernel
theorem d_M_row_8 : decode b_M_row 8 = .ok (.invokestatic 75, 3) := by decide +kernel
theorem d_M_row_11 : decode b_M_row 11 = .ok (.ifCond .eq 25, 3) := by decide +kernel
theorem d_M_row_14 : decode b_M_row 14 = .ok (.iload_n 2, 1) := by decide +kernel
theorem d_M_row_15 : decode b_M_row 15 = .ok (.iconst 0, 1) := by decide +kernel
theorem d_M_row_16 : decode b_M_row 16 = .ok (.iconst 4, 1) := by decide +kernel
theorem d_M_row_17 : decode b_M_row 17 = .ok (.invokestatic 75, 3) := by decide +kernel
theorem d_M_row_20 : decode b_M_row 20 = .ok (.ifCond .eq 16, 3) := by decide +kernel
theorem d_M_row_23 : decode b_M_row 23 = .ok (.aload_n 0, 1) := by decide +kernel
theorem d_M_row_24 : decode b_M_row 24 = .ok (.getfield 65, 3) := by decide +kernel
theorem d_M_row_27 : decode b_M_row 27 = .ok (.iconst 5, 1) := by decide +kernel
theorem d_M_row_28 : decode b_M_row 28 = .ok (.iload_n 1, 1) := by decide +kernel
theorem d_M_row_29 : decode b_M_row 29 = .ok (.imul, 1) := by decide +kernel
theorem d_M_row_30 : decode b_M_row 30 = .ok (.iload_n 2, 1) := by decide +kernel
theorem d_M_row_31 : decode b_M_row 31 = .ok (.iadd, 1) := by decide +kernel
theorem d_M_row_32 : decode b_M_row 32 = .ok (.iaload, 1) := by decide +kernel
theorem d_M_row_33 : decode b_M_row 33 = .ok (.goto 4, 3) := by decide +kernel
theorem d_M_row_36 : decode b_M_row 36 = .ok (.iconst (-1), 1) := by decide +kernel
theorem d_M_row_37 : decode b_M_row 37 = .ok (.ireturn, 1) := by decide +kernel
theorem d_M_about_0 : decode b_M_about 0 = .ok (.aload_n 0, 1) := by decide +kernel
theorem d_M_about_1 : decode b_M_about 1 = .ok (.iload_n 1, 1) := by decide +kernel
theorem d_M_about_2 : decode b_M_about 2 = .ok (.invokevirtual 92, 3) := by decide +kernel
theorem d_M_about_5 : decode b_M_about 5 = .ok (.ifCond .ne 6, 3) := by decide +kernel
theorem d_M_about_8 : decode b_M_about 8 = .ok (.bipush (-101), 2) := by decide +kernel
theorem d_M_about_10 : decode b_M_about 10 = .ok (.ireturn, 1) := by decide +kernel
theorem d_M_about_11 : decode b_M_about 11 = .ok (.iload_n 2, 1) := by decide +kernel
theorem d_M_about_12 : decode b_M_about 12 = .ok (.tableswitch 178 0 13 #[72, 79, 86, 93, 100, 107, 114, 121, 128, 135, 142, 149, 164, 171], 72) := by decide +kernel
theorem d_M_about_84 : decode b_M_about 84 = .ok (.aload_n 0, 1) := by decide +kernel
theorem d_M_about_85 : decode b_M_about 85 = .ok (.getfield 25, 3) := by decide +kernel
theorem d_M_about_88 : decode b_M_about 88 = .ok (.iload_n 1, 1) := by decide +kernel
theorem d_M_about_89 : decode b_M_about 89 = .ok (.iaload, 1) := by decide +kernel
theorem d_M_about_90 : decode b_M_about 90 = .ok (.ireturn, 1) := by decide +kernel
theorem d_M_about_91 : decode b_M_about 91 = .ok (.aload_n 0, 1) := by decide +kernel
theorem d_M_about_92 : decode b_M_about 92 = .ok (.getfield 7, 3) := by decide +kernel
theorem d_M_about_95 : decode b_M_about 95 = .ok (.iload_n 1, 1) := by decide +kernel
theorem d_M_about_96 : decode b_M_about 96 = .ok (.iaload, 1) := by decide +kernel
theorem d_M_about_97 : decode b_M_about 97 = .ok (.ireturn, 1) := by decide +kernel
theorem d_M_about_98 : decode b_M_about 98 = .ok (.aload_n 0, 1) := by decide +kernel
theorem d_M_about_99 : decode b_M_about 99 = .ok (.getfield 13, 3) := by decide +kernel
theorem d_M_about_102 : decode b_M_about 102 = .ok (.iload_n 1, 1) := by decide +kernel
theorem d_M_about_103 : decode b_M_about 103 = .ok (.iaload, 1) := by decide +kernel
theorem d_M_about_104 : decode b_M_about 104 = .ok (.ireturn, 1) := by decide +kernel
theorem d_M_about_105 : decode b_M_about 105 = .ok (.aload_n 0, 1) := by decide +kernel
theorem d_M_about_106 : decode b_M_about 106 = .ok (.getfield 16, 3) := by decide +kernel
theorem d_M_about_109 : decode b_M_about 109 = .ok (.iload_n 1, 1) := by decide +kernel
theorem d_M_about_110 : decode b_M_about 110 = .ok (.iaload, 1) := by decide +kernel
theorem d_M_about_111 : decode b_M_about 111 = .ok (.ireturn, 1) := by decide +kernel
theorem d_M_about_112 : decode b_M_about 112 = .ok (.aload_n 0, 1) := by decide +kernel
theorem d_M_about_113 : decode b_M_about 113 = .ok (.getfield 22, 3) := by decide +kernel
theorem d_M_about_116 : decode b_M_about 116 = .ok (.iload_n 1, 1) := by decide +kernel
theorem d_M_about_117 : decode b_M_about 117 = .ok (.iaload, 1) := by decide +kernel
theorem d_M_about_118 : decode b_M_about 118 = .ok (.ireturn, 1) := by decide +kernel
theorem d_M_about_119 : decode b_M_about 119 = .ok (.aload_n 0, 1) := by decide +kernel
theorem d_M_about_120 : decode b_M_about 120 = .ok (.getfield 35, 3) := by decide +kernel
theorem d_M_about_123 : decode b_M_about 123 = .ok (.iload_n 1, 1) := by decide +kernel
theorem d_M_about_124 : decode b_M_about 124 = .ok (.iaload, 1) := by decide +kernel
theorem d_M_about_125 : decode b_M_about 125 = .ok (.ireturn, 1) := by decide +kernel
theorem d_M_about_126 : decode b_M_about 126 = .ok (.aload_n 0, 1) := by decide +kernel
theorem d_M_about_127 : decode b_M_about 127 = .ok (.getfield 38, 3) := by decide +kernel
theorem d_M_about_130 : decode b_M_about 130 = .ok (.iload_n 1, 1) := by decide +kernel
theorem d_M_about_131 : decode b_M_about 131 = .ok (.iaload, 1) := by decide +kernel
theorem d_M_about_132 : decode b_M_about 132 = .ok (.ireturn, 1) := by decide +kernel
theorem d_M_about_133 : decode b_M_about 133 = .ok (.aload_n 0, 1) := by decide +kernel
theorem d_M_about_134 : decode b_M_about 134 = .ok (.getfield 41, 3) := by decide +kernel
theorem d_M_about_137 : decode b_M_about 137 = .ok (.iload_n 1, 1) := by decide +kernel
theorem d_M_about_138 : decode b_M_about 138 = .ok (.iaload, 1) := by decide +kernel
theorem d_M_about_139 : decode b_M_about 139 = .ok (.ireturn, 1) := by decide +kernel
theorem d_M_about_140 : decode b_M_about 140 = .ok (.aload_n 0, 1) := by decide +kernel
theorem d_M_about_141 : decode b_M_about 141 = .ok (.getfield 53, 3) := by decide +kernel
theorem d_M_about_144 : decode b_M_about 144 = .ok (.iload_n 1, 1) := by decide +kernel
theorem d_M_about_145 : decode b_M_about 145 = .ok (.iaload, 1) := by decide +kernel
theorem d_M_about_146 : decode b_M_about 146 = .ok (.ireturn, 1) := by decide +kernel
theorem d_M_about_147 : decode b_M_about 147 = .ok (.aload_n 0, 1) := by decide +kernel
theorem d_M_about_148 : decode b_M_about 148 = .ok (.getfield 59, 3) := by decide +kernel
theorem d_M_about_151 : decode b_M_about 151 = .ok (.iload_n 1, 1) := by decide +kernel
theorem d_M_about_152 : decode b_M_about 152 = .ok (.iaload, 1) := by decide +kernel
theorem d_M_about_153 : decode b_M_about 153 = .ok (.ireturn, 1) := by decide +kernel
theorem d_M_about_154 : decode b_M_about 154 = .ok (.aload_n 0, 1) := by decide +kernel
theorem d_M_about_155 : decode b_M_about 155 = .ok (.getfield 32, 3) := by decide +kernel
theorem d_M_about_158 : decode b_M_about 158 = .ok (.iload_n 1, 1) := by decide +kernel
theorem d_M_about_159 : decode b_M_about 159 = .ok (.iaload, 1) := by decide +kernel
theorem d_M_about_160 : decode b_M_about 160 = .ok (.ireturn, 1) := by decide +kernel
theorem d_M_about_161 : decode b_M_about 161 = .ok (.aload_n 0, 1) := by decide +kernel
theorem d_M_about_162 : decode b_M_about 162 = .ok (.getfield 28, 3) := by decide +kernel
theorem d_M_about_165 : decode b_M_about 165 = .ok (.iload_n 1, 1) := by decide +kernel
theorem d_M_about_166 : decode b_M_about 166 = .ok (.baload, 1) := by decide +kernel
theorem d_M_about_167 : decode b_M_about 167 = .ok (.ifCond .eq 7, 3) := by decide +kernel
theorem d_M_about_170 : decode b_M_about 170 = .ok (.iconst 1, 1) := by decide +kernel
theorem d_M_about_171 : decode b_M_about 171 = .ok (.goto 4, 3) := by decide +kernel
theorem d_M_about_174 : decode b_M_about 174 = .ok (.iconst 0, 1) := by decide +kernel
theorem d_M_about_175 : decode b_M_about 175 = .ok (.ireturn, 1) := by decide +kernel
theorem d_M_about_176 : decode b_M_about 176 = .ok (.aload_n 0, 1) := by decide +kernel
theorem d_M_about_177 : decode b_M_about 177 = .ok (.getfield 19, 3) := by decide +kernel
theorem d_M_about_180 : decode b_M_about 180 = .ok (.iload_n 1, 1) := by decide +kernel
theorem d_M_about_181 : decode b_M_about 181 = .ok (.iaload, 1) := by decide +kernel
theorem d_M_about_182 : decode b_M_about 182 = .ok (.ireturn, 1) := by decide +kernel
theorem d_M_about_183 : decode b_M_about 183 = .ok (.aload_n 0, 1) := by decide +kernel
theorem d_M_about_184 : decode b_M_about 184 = .ok (.getfield 62, 3) := by decide +kernel
theorem d_M_about_187 : decode b_M_about 187 = .ok (.iload_n 1, 1) := by decide +kernel
theorem d_M_about_188 : decode b_M_about 188 = .ok (.iaload, 1) := by decide +kernel
theorem d_M_about_189 : decode b_M_about 189 = .ok (.ireturn, 1) := by decide +kernel
theorem d_M_about_190 : decode b_M_about 190 = .ok (.bipush (-102), 2) := by decide +kernel
theorem d_M_about_192 : decode b_M_about 192 = .ok (.ireturn, 1) := by decide +kernel
theorem d_M_put_0 : decode b_M_put 0 = .ok (.iload_n 2, 1) := by decide +kernel
theorem d_M_put_1 : decode b_M_put 1 = .ok (.iconst 1, 1) := by decide +kernel
theorem d_M_put_2 : decode b_M_put 2 = .ok (.isub, 1) := by decide +kernel
theorem d_M_put_3 : decode b_M_put 3 = .ok (.istore_n 3, 1) := by decide +kernel
theorem d_M_put_4 : decode b_M_put 4 = .ok (.iload_n 3, 1) := by decide +kernel
theorem d_M_put_5 : decode b_M_put 5 = .ok (.ifCond .lt 38, 3) := by decide +kernel
theorem d_M_put_8 : decode b_M_put 8 = .ok (.aload_n 0, 1) := by decide +kernel
theorem d_M_put_9 : decode b_M_put 9 = .ok (.getfield 68, 3) := by decide +kernel
theorem d_M_put_12 : decode b_M_put 12 = .ok (.aload_n 0, 1) := by decide +kernel
theorem d_M_put_13 : decode b_M_put 13 = .ok (.getfield 122, 3) := by decide +kernel
theorem d_M_put_16 : decode b_M_put 16 = .ok (.iload_n 1, 1) := by decide +kernel
theorem d_M_put_17 : decode b_M_put 17 = .ok (.bipush 8, 2) := by decide +kernel
theorem d_M_put_19 : decode b_M_put 19 = .ok (.iload_n 3, 1) := by decide +kernel
theorem d_M_put_20 : decode b_M_put 20 = .ok (.imul, 1) := by decide +kernel
theorem d_M_put_21 : decode b_M_put 21 = .ok (.ishr, 1) := by decide +kernel
theorem d_M_put_22 : decode b_M_put 22 = .ok (.sipush 255, 3) := by decide +kernel
theorem d_M_put_25 : decode b_M_put 25 = .ok (.iand, 1) := by decide +kernel
theorem d_M_put_26 : decode b_M_put 26 = .ok (.iastore, 1) := by decide +kernel
theorem d_M_put_27 : decode b_M_put 27 = .ok (.aload_n 0, 1) := by decide +kernel
theorem d_M_put_28 : decode b_M_put 28 = .ok (.dup, 1) := by decide +kernel
theorem d_M_put_29 : decode b_M_put 29 = .ok (.getfield 122, 3) := by decide +kernel
theorem d_M_put_32 : decode b_M_put 32 = .ok (.iconst 1, 1) := by decide +kernel
theorem d_M_put_33 : decode b_M_put 33 = .ok (.iadd, 1) := by decide +kernel
theorem d_M_put_34 : decode b_M_put 34 = .ok (.putfield 122, 3) := by decide +kernel
theorem d_M_put_37 : decode b_M_put 37 = .ok (.iinc 3 (-1), 3) := by decide +kernel
theorem d_M_put_40 : decode b_M_put 40 = .ok (.goto (-36), 3) := by decide +kernel
theorem d_M_put_43 : decode b_M_put 43 = .ok (.return_, 1) := by decide +kernel
theorem d_M_pack_0 : decode b_M_pack 0 = .ok (.aload_n 0, 1) := by decide +kernel
theorem d_M_pack_1 : decode b_M_pack 1 = .ok (.iload_n 1, 1) := by decide +kernel
theorem d_M_pack_2 : decode b_M_pack 2 = .ok (.invokevirtual 92, 3) := by decide +kernel
theorem d_M_pack_5 : decode b_M_pack 5 = .ok (.ifCond .ne 6, 3) := by decide +kernel
theorem d_M_pack_8 : decode b_M_pack 8 = .ok (.bipush (-101), 2) := by decide +kernel
theorem d_M_pack_10 : decode b_M_pack 10 = .ok (.ireturn, 1) := by decide +kernel
theorem d_M_pack_11 : decode b_M_pack 11 = .ok (.aload_n 0, 1) := by decide +kernel
theorem d_M_pack_12 : decode b_M_pack 12 = .ok (.iconst 0, 1) := by decide +kernel
theorem d_M_pack_13 : decode b_M_pack 13 = .ok (.putfield 122, 3) := by decide +kernel
theorem d_M_pack_16 : decode b_M_pack 16 = .ok (.aload_n 0, 1) := by decide +kernel
theorem d_M_pack_17 : decode b_M_pack 17 = .ok (.iload_n 1, 1) := by decide +kernel
theorem d_M_pack_18 : decode b_M_pack 18 = .ok (.iconst 2, 1) := by decide +kernel
theorem d_M_pack_19 : decode b_M_pack 19 = .ok (.invokevirtual 125, 3) := by decide +kernel
theorem d_M_pack_22 : decode b_M_pack 22 = .ok (.aload_n 0, 1) := by decide +kernel
theorem d_M_pack_23 : decode b_M_pack 23 = .ok (.aload_n 0, 1) := by decide +kernel
theorem d_M_pack_24 : decode b_M_pack 24 = .ok (.getfield 7, 3) := by decide +kernel
theorem d_M_pack_27 : decode b_M_pack 27 = .ok (.iload_n 1, 1) := by decide +kernel
theorem d_M_pack_28 : decode b_M_pack 28 = .ok (.iaload, 1) := by decide +kernel
theorem d_M_pack_29 : decode b_M_pack 29 = .ok (.bipush 16, 2) := by decide +kernel
theorem d_M_pack_31 : decode b_M_pack 31 = .ok (.aload_n 0, 1) := by decide +kernel
theorem d_M_pack_32 : decode b_M_pack 32 = .ok (.getfield 16, 3) := by decide +kernel
theorem d_M_pack_35 : decode b_M_pack 35 = .ok (.iload_n 1, 1) := by decide +kernel
theorem d_M_pack_36 : decode b_M_pack 36 = .ok (.iaload, 1) := by decide +kernel
theorem d_M_pack_37 : decode b_M_pack 37 = .ok (.imul, 1) := by decide +kernel
theorem d_M_pack_38 : decode b_M_pack 38 = .ok (.iadd, 1) := by decide +kernel
theorem d_M_pack_39 : decode b_M_pack 39 = .ok (.iconst 1, 1) := by decide +kernel
theorem d_M_pack_40 : decode b_M_pack 40 = .ok (.invokevirtual 125, 3) := by decide +kernel
theorem d_M_pack_43 : decode b_M_pack 43 = .ok (.aload_n 0, 1) := by decide +kernel
theorem d_M_pack_44 : decode b_M_pack 44 = .ok (.aload_n 0, 1) := by decide +kernel
theorem d_M_pack_45 : decode b_M_pack 45 = .ok (.getfield 13, 3) := by decide +kernel
theorem d_M_pack_48 : decode b_M_pack 48 = .ok (.iload_n 1, 1) := by decide +kernel
theorem d_M_pack_49 : decode b_M_pack 49 = .ok (.iaload, 1) := by decide +kernel
theorem d_M_pack_50 : decode b_M_pack 50 = .ok (.iconst 2, 1) := by decide +kernel
theorem d_M_pack_51 : decode b_M_pack 51 = .ok (.invokevirtual 125, 3) := by decide +kernel
theorem d_M_pack_54 : decode b_M_pack 54 = .ok (.aload_n 0, 1) := by decide +kernel
theorem d_M_pack_55 : decode b_M_pack 55 = .ok (.aload_n 0, 1) := by decide +kernel
theorem d_M_pack_56 : decode b_M_pack 56 = .ok (.getfield 22, 3) := by decide +kernel
theorem d_M_pack_59 : decode b_M_pack 59 = .ok (.iload_n 1, 1) := by decide +kernel
theorem d_M_pack_60 : decode b_M_pack 60 = .ok (.iaload, 1) := by decide +kernel
theorem d_M_pack_61 : decode b_M_pack 61 = .ok (.iconst 1, 1) := by decide +kernel
theorem d_M_pack_62 : decode b_M_pack 62 = .ok (.invokevirtual 125, 3) := by decide +kernel
theorem d_M_pack_65 : decode b_M_pack 65 = .ok (.aload_n 0, 1) := by decide +kernel
theorem d_M_pack_66 : decode b_M_pack 66 = .ok (.aload_n 0, 1) := by decide +kernel
theorem d_M_pack_67 : decode b_M_pack 67 = .ok (.getfield 25, 3) := by decide +kernel
theorem d_M_pack_70 : decode b_M_pack 70 = .ok (.iload_n 1, 1) := by decide +kernel
theorem d_M_pack_71 : decode b_M_pack 71 = .ok (.iaload, 1) := by decide +kernel
theorem d_M_pack_72 : decode b_M_pack 72 = .ok (.aload_n 0, 1) := by decide +kernel
theorem d_M_pack_73 : decode b_M_pack 73 = .ok (.getfield 28, 3) := by decide +kernel
theorem d_M_pack_76 : decode b_M_pack 76 = .ok (.iload_n 1, 1) := by decide +kernel
theorem d_M_pack_77 : decode b_M_pack 77 = .ok (.baload, 1) := by decide +kernel
theorem d_M_pack_78 : decode b_M_pack 78 = .ok (.ifCond .eq 9, 3) := by decide +kernel
theorem d_M_pack_81 : decode b_M_pack 81 = .ok (.sipush 128, 3) := by decide +kernel
theorem d_M_pack_84 : decode b_M_pack 84 = .ok (.goto 4, 3) := by decide +kernel
theorem d_M_pack_87 : decode b_M_pack 87 = .ok (.iconst 0, 1) := by decide +kernel
theorem d_M_pack_88 : decode b_M_pack 88 = .ok (.iadd, 1) := by decide +kernel
theorem d_M_pack_89 : decode b_M_pack 89 = .ok (.iconst 1, 1) := by decide +kernel
theorem d_M_pack_90 : decode b_M_pack 90 = .ok (.invokevirtual 125, 3) := by decide +kernel
theorem d_M_pack_93 : decode b_M_pack 93 = .ok (.aload_n 0, 1) := by decide +kernel
theorem d_M_pack_94 : decode b_M_pack 94 = .ok (.aload_n 0, 1) := by decide +kernel
theorem d_M_pack_95 : decode b_M_pack 95 = .ok (.getfield 35, 3) := by decide +kernel
theorem d_M_pack_98 : decode b_M_pack 98 = .ok (.iload_n 1, 1) := by decide +kernel
theorem d_M_pack_99 : decode b_M_pack 99 = .ok (.iaload, 1) := by decide +kernel
theorem d_M_pack_100 : decode b_M_pack 100 = .ok (.iconst 2, 1) := by decide +kernel
theorem d_M_pack_101 : decode b_M_pack 101 = .ok (.invokevirtual 125, 3) := by decide +kernel
theorem d_M_pack_104 : decode b_M_pack 104 = .ok (.aload_n 0, 1) := by decide +kernel
theorem d_M_pack_105 : decode b_M_pack 105 = .ok (.aload_n 0, 1) := by decide +kernel
theorem d_M_pack_106 : decode b_M_pack 106 = .ok (.getfield 38, 3) := by decide +kernel
theorem d_M_pack_109 : decode b_M_pack 109 = .ok (.iload_n 1, 1) := by decide +kernel
theorem d_M_pack_110 : decode b_M_pack 110 = .ok (.iaload, 1) := by decide +kernel
theorem d_M_pack_111 : decode b_M_pack 111 = .ok (.iconst 2, 1) := by decide +kernel
theorem d_M_pack_112 : decode b_M_pack 112 = .ok (.invokevirtual 125, 3) := by decide +kernel
theorem d_M_pack_115 : decode b_M_pack 115 = .ok (.aload_n 0, 1) := by decide +kernel
theorem d_M_pack_116 : decode b_M_pack 116 = .ok (.aload_n 0, 1) := by decide +kernel
theorem d_M_pack_117 : decode b_M_pack 117 = .ok (.getfield 41, 3) := by decide +kernel
theorem d_M_pack_120 : decode b_M_pack 120 = .ok (.iload_n 1, 1) := by decide +kernel
theorem d_M_pack_121 : decode b_M_pack 121 = .ok (.iaload, 1) := by decide +kernel
theorem d_M_pack_122 : decode b_M_pack 122 = .ok (.iconst 1, 1) := by decide +kernel
theorem d_M_pack_123 : decode b_M_pack 123 = .ok (.invokevirtual 125, 3) := by decide +kernel
theorem d_M_pack_126 : decode b_M_pack 126 = .ok (.aload_n 0, 1) := by decide +kernel
theorem d_M_pack_127 : decode b_M_pack 127 = .ok (.aload_n 0, 1) := by decide +kernel
theorem d_M_pack_128 : decode b_M_pack 128 = .ok (.getfield 44, 3) := by decide +kernel
theorem d_M_pack_131 : decode b_M_pack 131 = .ok (.iload_n 1, 1) := by decide +kernel
theorem d_M_pack_132 : decode b_M_pack 132 = .ok (.iaload, 1) := by decide +kernel
theorem d_M_pack_133 : decode b_M_pack 133 = .ok (.iconst 1, 1) := by decide +kernel
theorem d_M_pack_134 : decode b_M_pack 134 = .ok (.invokevirtual 125, 3) := by decide +kernel
theorem d_M_pack_137 : decode b_M_pack 137 = .ok (.iconst 4, 1) := by decide +kernel
theorem d_M_pack_138 : decode b_M_pack 138 = .ok (.iload_n 1, 1) := by decide +kernel
theorem d_M_pack_139 : decode b_M_pack 139 = .ok (.imul, 1) := by decide +kernel
theorem d_M_pack_140 : decode b_M_pack 140 = .ok (.istore_n 2, 1) := by decide +kernel
theorem d_M_pack_141 : decode b_M_pack 141 = .ok (.iload_n 2, 1) := by decide +kernel
theorem d_M_pack_142 : decode b_M_pack 142 = .ok (.iconst 4, 1) := by decide +kernel
theorem d_M_pack_143 : decode b_M_pack 143 = .ok (.iload_n 1, 1) := by decide +kernel
theorem d_M_pack_144 : decode b_M_pack 144 = .ok (.imul, 1) := by decide +kernel
theorem d_M_pack_145 : decode b_M_pack 145 = .ok (.aload_n 0, 1) := by decide +kernel
theorem d_M_pack_146 : decode b_M_pack 146 = .ok (.getfield 44, 3) := by decide +kernel
theorem d_M_pack_149 : decode b_M_pack 149 = .ok (.iload_n 1, 1) := by decide +kernel
theorem d_M_pack_150 : decode b_M_pack 150 = .ok (.iaload, 1) := by decide +kernel
theorem d_M_pack_151 : decode b_M_pack 151 = .ok (.iadd, 1) := by decide +kernel
theorem d_M_pack_152 : decode b_M_pack 152 = .ok (.if_icmp .ge 31, 3) := by decide +kernel
theorem d_M_pack_155 : decode b_M_pack 155 = .ok (.aload_n 0, 1) := by decide +kernel
theorem d_M_pack_156 : decode b_M_pack 156 = .ok (.aload_n 0, 1) := by decide +kernel
theorem d_M_pack_157 : decode b_M_pack 157 = .ok (.getfield 47, 3) := by decide +kernel
theorem d_M_pack_160 : decode b_M_pack 160 = .ok (.iload_n 2, 1) := by decide +kernel
theorem d_M_pack_161 : decode b_M_pack 161 = .ok (.iaload, 1) := by decide +kernel
theorem d_M_pack_162 : decode b_M_pack 162 = .ok (.iconst 1, 1) := by decide +kernel
theorem d_M_pack_163 : decode b_M_pack 163 = .ok (.invokevirtual 125, 3) := by decide +kernel
theorem d_M_pack_166 : decode b_M_pack 166 = .ok (.aload_n 0, 1) := by decide +kernel
theorem d_M_pack_167 : decode b_M_pack 167 = .ok (.aload_n 0, 1) := by decide +kernel
theorem d_M_pack_168 : decode b_M_pack 168 = .ok (.getfield 50, 3) := by decide +kernel
theorem d_M_pack_171 : decode b_M_pack 171 = .ok (.iload_n 2, 1) := by decide +kernel
theorem d_M_pack_172 : decode b_M_pack 172 = .ok (.iaload, 1) := by decide +kernel
theorem d_M_pack_173 : decode b_M_pack 173 = .ok (.iconst 3, 1) := by decide +kernel
theorem d_M_pack_174 : decode b_M_pack 174 = .ok (.invokevirtual 125, 3) := by decide +kernel
theorem d_M_pack_177 : decode b_M_pack 177 = .ok (.iinc 2 1, 3) := by decide +kernel
theorem d_M_pack_180 : decode b_M_pack 180 = .ok (.goto (-39), 3) := by decide +kernel
theorem d_M_pack_183 : decode b_M_pack 183 = .ok (.iconst 0, 1) := by decide +kernel
theorem d_M_pack_184 : decode b_M_pack 184 = .ok (.istore_n 2, 1) := by decide +kernel
theorem d_M_pack_185 : decode b_M_pack 185 = .ok (.iconst 0, 1) := by decide +kernel
theorem d_M_pack_186 : decode b_M_pack 186 = .ok (.istore_n 3, 1) := by decide +kernel
theorem d_M_pack_187 : decode b_M_pack 187 = .ok (.iload_n 3, 1) := by decide +kernel
theorem d_M_pack_188 : decode b_M_pack 188 = .ok (.aload_n 0, 1) := by decide +kernel
theorem d_M_pack_189 : decode b_M_pack 189 = .ok (.getfield 122, 3) := by decide +kernel
theorem d_M_pack_192 : decode b_M_pack 192 = .ok (.if_icmp .ge 18, 3) := by decide +kernel
theorem d_M_pack_195 : decode b_M_pack 195 = .ok (.iload_n 2, 1) := by decide +kernel
theorem d_M_pack_196 : decode b_M_pack 196 = .ok (.aload_n 0, 1) := by decide +kernel
theorem d_M_pack_197 : decode b_M_pack 197 = .ok (.getfield 68, 3) := by decide +kernel
theorem d_M_pack_200 : decode b_M_pack 200 = .ok (.iload_n 3, 1) := by decide +kernel
theorem d_M_pack_201 : decode b_M_pack 201 = .ok (.iaload, 1) := by decide +kernel
theorem d_M_pack_202 : decode b_M_pack 202 = .ok (.ixor, 1) := by decide +kernel
theorem d_M_pack_203 : decode b_M_pack 203 = .ok (.istore_n 2, 1) := by decide +kernel
theorem d_M_pack_204 : decode b_M_pack 204 = .ok (.iinc 3 1, 3) := by decide +kernel
theorem d_M_pack_207 : decode b_M_pack 207 = .ok (.goto (-20), 3) := by decide +kernel
theorem d_M_pack_210 : decode b_M_pack 210 = .ok (.aload_n 0, 1) := by decide +kernel
theorem d_M_pack_211 : decode b_M_pack 211 = .ok (.iload_n 2, 1) := by decide +kernel
theorem d_M_pack_212 : decode b_M_pack 212 = .ok (.iconst 1, 1) := by decide +kernel
theorem d_M_pack_213 : decode b_M_pack 213 = .ok (.invokevirtual 125, 3) := by decide +kernel
theorem d_M_pack_216 : decode b_M_pack 216 = .ok (.aload_n 0, 1) := by decide +kernel
theorem d_M_pack_217 : decode b_M_pack 217 = .ok (.getfield 122, 3) := by decide +kernel
theorem d_M_pack_220 : decode b_M_pack 220 = .ok (.ireturn, 1) := by decide +kernel
theorem d_M_octet_0 : decode b_M_octet 0 = .ok (.iload_n 1, 1) := by decide +kernel
theorem d_M_octet_1 : decode b_M_octet 1 = .ok (.iconst 0, 1) := by decide +kernel
theorem d_M_octet_2 : decode b_M_octet 2 = .ok (.aload_n 0, 1) := by decide +kernel
theorem d_M_octet_3 : decode b_M_octet 3 = .ok (.getfield 122, 3) := by decide +kernel
theorem d_M_octet_6 : decode b_M_octet 6 = .ok (.iconst 1, 1) := by decide +kernel
theorem d_M_octet_7 : decode b_M_octet 7 = .ok (.isub, 1) := by decide +kernel
theorem d_M_octet_8 : decode b_M_octet 8 = .ok (.invokestatic 75, 3) := by decide +kernel
theorem d_M_octet_11 : decode b_M_octet 11 = .ok (.ifCond .eq 12, 3) := by decide +kernel
theorem d_M_octet_14 : decode b_M_octet 14 = .ok (.aload_n 0, 1) := by decide +kernel
theorem d_M_octet_15 : decode b_M_octet 15 = .ok (.getfield 68, 3) := by decide +kernel
theorem d_M_octet_18 : decode b_M_octet 18 = .ok (.iload_n 1, 1) := by decide +kernel
theorem d_M_octet_19 : decode b_M_octet 19 = .ok (.iaload, 1) := by decide +kernel
theorem d_M_octet_20 : decode b_M_octet 20 = .ok (.goto 4, 3) := by decide +kernel
theorem d_M_octet_23 : decode b_M_octet 23 = .ok (.iconst (-1), 1) := by decide +kernel
theorem d_M_octet_24 : decode b_M_octet 24 = .ok (.ireturn, 1) := by decide +kernel
theorem d_M_aside_0 : decode b_M_aside 0 = .ok (.iload_n 1, 1) := by decide +kernel
theorem d_M_aside_1 : decode b_M_aside 1 = .ok (.istore_n 2, 1) := by decide +kernel
theorem d_M_aside_2 : decode b_M_aside 2 = .ok (.iconst 1, 1) := by decide +kernel
theorem d_M_aside_3 : decode b_M_aside 3 = .ok (.istore_n 3, 1) := by decide +kernel
theorem d_M_aside_4 : decode b_M_aside 4 = .ok (.iload_n 3, 1) := by decide +kernel
theorem d_M_aside_5 : decode b_M_aside 5 = .ok (.aload_n 0, 1) := by decide +kernel
theorem d_M_aside_6 : decode b_M_aside 6 = .ok (.getfield 71, 3) := by decide +kernel
theorem d_M_aside_9 : decode b_M_aside 9 = .ok (.if_icmp .gt 38, 3) := by decide +kernel
theorem d_M_aside_12 : decode b_M_aside 12 = .ok (.aload_n 0, 1) := by decide +kernel
theorem d_M_aside_13 : decode b_M_aside 13 = .ok (.getfield 28, 3) := by decide +kernel
theorem d_M_aside_16 : decode b_M_aside 16 = .ok (.iload_n 3, 1) := by decide +kernel
theorem d_M_aside_17 : decode b_M_aside 17 = .ok (.baload, 1) := by decide +kernel
theorem d_M_aside_18 : decode b_M_aside 18 = .ok (.ifCond .ne 14, 3) := by decide +kernel
theorem d_M_aside_21 : decode b_M_aside 21 = .ok (.aload_n 0, 1) := by decide +kernel
theorem d_M_aside_22 : decode b_M_aside 22 = .ok (.getfield 25, 3) := by decide +kernel
theorem d_M_aside_25 : decode b_M_aside 25 = .ok (.iload_n 3, 1) := by decide +kernel
theorem d_M_aside_26 : decode b_M_aside 26 = .ok (.iaload, 1) := by decide +kernel
theorem d_M_aside_27 : decode b_M_aside 27 = .ok (.bipush 8, 2) := by decide +kernel
theorem d_M_aside_29 : decode b_M_aside 29 = .ok (.if_icmp .ne 12, 3) := by decide +kernel
theorem d_M_aside_32 : decode b_M_aside 32 = .ok (.iload_n 2, 1) := by decide +kernel
theorem d_M_aside_33 : decode b_M_aside 33 = .ok (.ifCond .ne 5, 3) := by decide +kernel
theorem d_M_aside_36 : decode b_M_aside 36 = .ok (.iload_n 3, 1) := by decide +kernel
theorem d_M_aside_37 : decode b_M_aside 37 = .ok (.ireturn, 1) := by decide +kernel
theorem d_M_aside_38 : decode b_M_aside 38 = .ok (.iinc 2 (-1), 3) := by decide +kernel
theorem d_M_aside_41 : decode b_M_aside 41 = .ok (.iinc 3 1, 3) := by decide +kernel
theorem d_M_aside_44 : decode b_M_aside 44 = .ok (.goto (-40), 3) := by decide +kernel
theorem d_M_aside_47 : decode b_M_aside 47 = .ok (.iconst (-1), 1) := by decide +kernel
theorem d_M_aside_48 : decode b_M_aside 48 = .ok (.ireturn, 1) := by decide +kernel
end
section
theorem d_L_law_0 : decode code 0 = .ok (.new 7, 3) := by decide +kernel
theorem d_L_law_3 : decode code 3 = .ok (.dup, 1) := by decide +kernel
theorem d_L_law_4 : decode code 4 = .ok (.invokespecial 9, 3) := by decide +kernel
theorem d_L_law_7 : decode code 7 = .ok (.astore_n 1, 1) := by decide +kernel
theorem d_L_law_8 : decode code 8 = .ok (.new 10, 3) := by decide +kernel
theorem d_L_law_11 : decode code 11 = .ok (.dup, 1) := by decide +kernel
theorem d_L_law_12 : decode code 12 = .ok (.invokespecial 12, 3) := by decide +kernel
theorem d_L_law_15 : decode code 15 = .ok (.astore_n 2, 1) := by decide +kernel
theorem d_L_law_16 : decode code 16 = .ok (.iconst 0, 1) := by decide +kernel
theorem d_L_law_17 : decode code 17 = .ok (.istore_n 3, 1) := by decide +kernel
theorem d_L_law_18 : decode code 18 = .ok (.iload_n 3, 1) := by decide +kernel
theorem d_L_law_19 : decode code 19 = .ok (.aload_n 0, 1) := by decide +kernel
theorem d_L_law_20 : decode code 20 = .ok (.arraylength, 1) := by decide +kernel
theorem d_L_law_21 : decode code 21 = .ok (.iconst 5, 1) := by decide +kernel
theorem d_L_law_22 : decode code 22 = .ok (.isub, 1) := by decide +kernel
theorem d_L_law_23 : decode code 23 = .ok (.if_icmp .gt 652, 3) := by decide +kernel
theorem d_L_law_26 : decode code 26 = .ok (.aload_n 0, 1) := by decide +kernel
theorem d_L_law_27 : decode code 27 = .ok (.iload_n 3, 1) := by decide +kernel
theorem d_L_law_28 : decode code 28 = .ok (.iaload, 1) := by decide +kernel
theorem d_L_law_29 : decode code 29 = .ok (.bipush 15, 2) := by decide +kernel
theorem d_L_law_31 : decode code 31 = .ok (.iand, 1) := by decide +kernel
theorem d_L_law_32 : decode code 32 = .ok (.tableswitch 637 0 14 #[76, 129, 162, 195, 238, 271, 314, 373, 406, 449, 502, 535, 568, 591, 614], 76) := by decide +kernel
theorem d_L_law_108 : decode code 108 = .ok (.aload_n 1, 1) := by decide +kernel
theorem d_L_law_109 : decode code 109 = .ok (.aload_n 0, 1) := by decide +kernel
theorem d_L_law_110 : decode code 110 = .ok (.iload_n 3, 1) := by decide +kernel
theorem d_L_law_111 : decode code 111 = .ok (.iconst 1, 1) := by decide +kernel
theorem d_L_law_112 : decode code 112 = .ok (.iadd, 1) := by decide +kernel
theorem d_L_law_113 : decode code 113 = .ok (.iaload, 1) := by decide +kernel
theorem d_L_law_114 : decode code 114 = .ok (.aload_n 0, 1) := by decide +kernel
theorem d_L_law_115 : decode code 115 = .ok (.iload_n 3, 1) := by decide +kernel
theorem d_L_law_116 : decode code 116 = .ok (.iconst 2, 1) := by decide +kernel
theorem d_L_law_117 : decode code 117 = .ok (.iadd, 1) := by decide +kernel
theorem d_L_law_118 : decode code 118 = .ok (.iaload, 1) := by decide +kernel
theorem d_L_law_119 : decode code 119 = .ok (.aload_n 0, 1) := by decide +kernel
theorem d_L_law_120 : decode code 120 = .ok (.iload_n 3, 1) := by decide +kernel
theorem d_L_law_121 : decode code 121 = .ok (.iconst 3, 1) := by decide +kernel
theorem d_L_law_122 : decode code 122 = .ok (.iadd, 1) := by decide +kernel
theorem d_L_law_123 : decode code 123 = .ok (.iaload, 1) := by decide +kernel
theorem d_L_law_124 : decode code 124 = .ok (.aload_n 0, 1) := by decide +kernel
theorem d_L_law_125 : decode code 125 = .ok (.iload_n 3, 1) := by decide +kernel
theorem d_L_law_126 : decode code 126 = .ok (.iconst 4, 1) := by decide +kernel
theorem d_L_law_127 : decode code 127 = .ok (.iadd, 1) := by decide +kernel
theorem d_L_law_128 : decode code 128 = .ok (.iaload, 1) := by decide +kernel
theorem d_L_law_129 : decode code 129 = .ok (.invokevirtual 13, 3) := by decide +kernel
theorem d_L_law_132 : decode code 132 = .ok (.aload_n 2, 1) := by decide +kernel
theorem d_L_law_133 : decode code 133 = .ok (.aload_n 0, 1) := by decide +kernel
theorem d_L_law_134 : decode code 134 = .ok (.iload_n 3, 1) := by decide +kernel
theorem d_L_law_135 : decode code 135 = .ok (.iconst 1, 1) := by decide +kernel
theorem d_L_law_136 : decode code 136 = .ok (.iadd, 1) := by decide +kernel
theorem d_L_law_137 : decode code 137 = .ok (.iaload, 1) := by decide +kernel
theorem d_L_law_138 : decode code 138 = .ok (.aload_n 0, 1) := by decide +kernel
theorem d_L_law_139 : decode code 139 = .ok (.iload_n 3, 1) := by decide +kernel
theorem d_L_law_140 : decode code 140 = .ok (.iconst 2, 1) := by decide +kernel
theorem d_L_law_141 : decode code 141 = .ok (.iadd, 1) := by decide +kernel
theorem d_L_law_142 : decode code 142 = .ok (.iaload, 1) := by decide +kernel
theorem d_L_law_143 : decode code 143 = .ok (.aload_n 0, 1) := by decide +kernel
theorem d_L_law_144 : decode code 144 = .ok (.iload_n 3, 1) := by decide +kernel
theorem d_L_law_145 : decode code 145 = .ok (.iconst 3, 1) := by decide +kernel
theorem d_L_law_146 : decode code 146 = .ok (.iadd, 1) := by decide +kernel
theorem d_L_law_147 : decode code 147 = .ok (.iaload, 1) := by decide +kernel
theorem d_L_law_148 : decode code 148 = .ok (.aload_n 0, 1) := by decide +kernel
theorem d_L_law_149 : decode code 149 = .ok (.iload_n 3, 1) := by decide +kernel
theorem d_L_law_150 : decode code 150 = .ok (.iconst 4, 1) := by decide +kernel
theorem d_L_law_151 : decode code 151 = .ok (.iadd, 1) := by decide +kernel
theorem d_L_law_152 : decode code 152 = .ok (.iaload, 1) := by decide +kernel
theorem d_L_law_153 : decode code 153 = .ok (.invokevirtual 17, 3) := by decide +kernel
theorem d_L_law_156 : decode code 156 = .ok (.if_icmp .eq 513, 3) := by decide +kernel
theorem d_L_law_159 : decode code 159 = .ok (.iconst 0, 1) := by decide +kernel
theorem d_L_law_160 : decode code 160 = .ok (.ireturn, 1) := by decide +kernel
theorem d_L_law_161 : decode code 161 = .ok (.aload_n 1, 1) := by decide +kernel
theorem d_L_law_162 : decode code 162 = .ok (.aload_n 0, 1) := by decide +kernel
theorem d_L_law_163 : decode code 163 = .ok (.iload_n 3, 1) := by decide +kernel
theorem d_L_law_164 : decode code 164 = .ok (.iconst 1, 1) := by decide +kernel
theorem d_L_law_165 : decode code 165 = .ok (.iadd, 1) := by decide +kernel
theorem d_L_law_166 : decode code 166 = .ok (.iaload, 1) := by decide +kernel
theorem d_L_law_167 : decode code 167 = .ok (.aload_n 0, 1) := by decide +kernel
theorem d_L_law_168 : decode code 168 = .ok (.iload_n 3, 1) := by decide +kernel
theorem d_L_law_169 : decode code 169 = .ok (.iconst 2, 1) := by decide +kernel
theorem d_L_law_170 : decode code 170 = .ok (.iadd, 1) := by decide +kernel
theorem d_L_law_171 : decode code 171 = .ok (.iaload, 1) := by decide +kernel
theorem d_L_law_172 : decode code 172 = .ok (.invokevirtual 18, 3) := by decide +kernel
theorem d_L_law_175 : decode code 175 = .ok (.aload_n 2, 1) := by decide +kernel
theorem d_L_law_176 : decode code 176 = .ok (.aload_n 0, 1) := by decide +kernel
theorem d_L_law_177 : decode code 177 = .ok (.iload_n 3, 1) := by decide +kernel
theorem d_L_law_178 : decode code 178 = .ok (.iconst 1, 1) := by decide +kernel
theorem d_L_law_179 : decode code 179 = .ok (.iadd, 1) := by decide +kernel
theorem d_L_law_180 : decode code 180 = .ok (.iaload, 1) := by decide +kernel
theorem d_L_law_181 : decode code 181 = .ok (.aload_n 0, 1) := by decide +kernel
theorem d_L_law_182 : decode code 182 = .ok (.iload_n 3, 1) := by decide +kernel
theorem d_L_law_183 : decode code 183 = .ok (.iconst 2, 1) := by decide +kernel
theorem d_L_law_184 : decode code 184 = .ok (.iadd, 1) := by decide +kernel
theorem d_L_law_185 : decode code 185 = .ok (.iaload, 1) := by decide +kernel
theorem d_L_law_186 : decode code 186 = .ok (.invokevirtual 22, 3) := by decide +kernel
theorem d_L_law_189 : decode code 189 = .ok (.if_icmp .eq 480, 3) := by decide +kernel
theorem d_L_law_192 : decode code 192 = .ok (.iconst 0, 1) := by decide +kernel
theorem d_L_law_193 : decode code 193 = .ok (.ireturn, 1) := by decide +kernel
theorem d_L_law_194 : decode code 194 = .ok (.aload_n 1, 1) := by decide +kernel
theorem d_L_law_195 : decode code 195 = .ok (.aload_n 0, 1) := by decide +kernel
theorem d_L_law_196 : decode code 196 = .ok (.iload_n 3, 1) := by decide +kernel
theorem d_L_law_197 : decode code 197 = .ok (.iconst 1, 1) := by decide +kernel
theorem d_L_law_198 : decode code 198 = .ok (.iadd, 1) := by decide +kernel
theorem d_L_law_199 : decode code 199 = .ok (.iaload, 1) := by decide +kernel
theorem d_L_law_200 : decode code 200 = .ok (.aload_n 0, 1) := by decide +kernel
theorem d_L_law_201 : decode code 201 = .ok (.iload_n 3, 1) := by decide +kernel
theorem d_L_law_202 : decode code 202 = .ok (.iconst 2, 1) := by decide +kernel
theorem d_L_law_203 : decode code 203 = .ok (.iadd, 1) := by decide +kernel
theorem d_L_law_204 : decode code 204 = .ok (.iaload, 1) := by decide +kernel
theorem d_L_law_205 : decode code 205 = .ok (.invokevirtual 23, 3) := by decide +kernel
theorem d_L_law_208 : decode code 208 = .ok (.aload_n 2, 1) := by decide +kernel
theorem d_L_law_209 : decode code 209 = .ok (.aload_n 0, 1) := by decide +kernel
theorem d_L_law_210 : decode code 210 = .ok (.iload_n 3, 1) := by decide +kernel
theorem d_L_law_211 : decode code 211 = .ok (.iconst 1, 1) := by decide +kernel
theorem d_L_law_212 : decode code 212 = .ok (.iadd, 1) := by decide +kernel
theorem d_L_law_213 : decode code 213 = .ok (.iaload, 1) := by decide +kernel
theorem d_L_law_214 : decode code 214 = .ok (.aload_n 0, 1) := by decide +kernel
theorem d_L_law_215 : decode code 215 = .ok (.iload_n 3, 1) := by decide +kernel
theorem d_L_law_216 : decode code 216 = .ok (.iconst 2, 1) := by decide +kernel
theorem d_L_law_217 : decode code 217 = .ok (.iadd, 1) := by decide +kernel
theorem d_L_law_218 : decode code 218 = .ok (.iaload, 1) := by decide +kernel
theorem d_L_law_219 : decode code 219 = .ok (.invokevirtual 26, 3) := by decide +kernel
theorem d_L_law_222 : decode code 222 = .ok (.if_icmp .eq 447, 3) := by decide +kernel
theorem d_L_law_225 : decode code 225 = .ok (.iconst 0, 1) := by decide +kernel
theorem d_L_law_226 : decode code 226 = .ok (.ireturn, 1) := by decide +kernel
theorem d_L_law_227 : decode code 227 = .ok (.aload_n 1, 1) := by decide +kernel
theorem d_L_law_228 : decode code 228 = .ok (.aload_n 0, 1) := by decide +kernel
theorem d_L_law_229 : decode code 229 = .ok (.iload_n 3, 1) := by decide +kernel
theorem d_L_law_230 : decode code 230 = .ok (.iconst 1, 1) := by decide +kernel
theorem d_L_law_231 : decode code 231 = .ok (.iadd, 1) := by decide +kernel
theorem d_L_law_232 : decode code 232 = .ok (.iaload, 1) := by decide +kernel
theorem d_L_law_233 : decode code 233 = .ok (.aload_n 0, 1) := by decide +kernel
theorem d_L_law_234 : decode code 234 = .ok (.iload_n 3, 1) := by decide +kernel
theorem d_L_law_235 : decode code 235 = .ok (.iconst 2, 1) := by decide +kernel
theorem d_L_law_236 : decode code 236 = .ok (.iadd, 1) := by decide +kernel
theorem d_L_law_237 : decode code 237 = .ok (.iaload, 1) := by decide +kernel
theorem d_L_law_238 : decode code 238 = .ok (.aload_n 0, 1) := by decide +kernel
theorem d_L_law_239 : decode code 239 = .ok (.iload_n 3, 1) := by decide +kernel
theorem d_L_law_240 : decode code 240 = .ok (.iconst 3, 1) := by decide +kernel
theorem d_L_law_241 : decode code 241 = .ok (.iadd, 1) := by decide +kernel
theorem d_L_law_242 : decode code 242 = .ok (.iaload, 1) := by decide +kernel
theorem d_L_law_243 : decode code 243 = .ok (.invokevirtual 27, 3) := by decide +kernel
theorem d_L_law_246 : decode code 246 = .ok (.aload_n 2, 1) := by decide +kernel
theorem d_L_law_247 : decode code 247 = .ok (.aload_n 0, 1) := by decide +kernel
theorem d_L_law_248 : decode code 248 = .ok (.iload_n 3, 1) := by decide +kernel
theorem d_L_law_249 : decode code 249 = .ok (.iconst 1, 1) := by decide +kernel
theorem d_L_law_250 : decode code 250 = .ok (.iadd, 1) := by decide +kernel
theorem d_L_law_251 : decode code 251 = .ok (.iaload, 1) := by decide +kernel
theorem d_L_law_252 : decode code 252 = .ok (.aload_n 0, 1) := by decide +kernel
theorem d_L_law_253 : decode code 253 = .ok (.iload_n 3, 1) := by decide +kernel
theorem d_L_law_254 : decode code 254 = .ok (.iconst 2, 1) := by decide +kernel
theorem d_L_law_255 : decode code 255 = .ok (.iadd, 1) := by decide +kernel
theorem d_L_law_256 : decode code 256 = .ok (.iaload, 1) := by decide +kernel
theorem d_L_law_257 : decode code 257 = .ok (.aload_n 0, 1) := by decide +kernel
theorem d_L_law_258 : decode code 258 = .ok (.iload_n 3, 1) := by decide +kernel
theorem d_L_law_259 : decode code 259 = .ok (.iconst 3, 1) := by decide +kernel
theorem d_L_law_260 : decode code 260 = .ok (.iadd, 1) := by decide +kernel
theorem d_L_law_261 : decode code 261 = .ok (.iaload, 1) := by decide +kernel
theorem d_L_law_262 : decode code 262 = .ok (.invokevirtual 31, 3) := by decide +kernel
theorem d_L_law_265 : decode code 265 = .ok (.if_icmp .eq 404, 3) := by decide +kernel
theorem d_L_law_268 : decode code 268 = .ok (.iconst 0, 1) := by decide +kernel
theorem d_L_law_269 : decode code 269 = .ok (.ireturn, 1) := by decide +kernel
theorem d_L_law_270 : decode code 270 = .ok (.aload_n 1, 1) := by decide +kernel
theorem d_L_law_271 : decode code 271 = .ok (.aload_n 0, 1) := by decide +kernel
theorem d_L_law_272 : decode code 272 = .ok (.iload_n 3, 1) := by decide +kernel
theorem d_L_law_273 : decode code 273 = .ok (.iconst 1, 1) := by decide +kernel
theorem d_L_law_274 : decode code 274 = .ok (.iadd, 1) := by decide +kernel
theorem d_L_law_275 : decode code 275 = .ok (.iaload, 1) := by decide +kernel
theorem d_L_law_276 : decode code 276 = .ok (.aload_n 0, 1) := by decide +kernel
theorem d_L_law_277 : decode code 277 = .ok (.iload_n 3, 1) := by decide +kernel
theorem d_L_law_278 : decode code 278 = .ok (.iconst 2, 1) := by decide +kernel
theorem d_L_law_279 : decode code 279 = .ok (.iadd, 1) := by decide +kernel
theorem d_L_law_280 : decode code 280 = .ok (.iaload, 1) := by decide +kernel
theorem d_L_law_281 : decode code 281 = .ok (.invokevirtual 32, 3) := by decide +kernel
theorem d_L_law_284 : decode code 284 = .ok (.aload_n 2, 1) := by decide +kernel
theorem d_L_law_285 : decode code 285 = .ok (.aload_n 0, 1) := by decide +kernel
theorem d_L_law_286 : decode code 286 = .ok (.iload_n 3, 1) := by decide +kernel
theorem d_L_law_287 : decode code 287 = .ok (.iconst 1, 1) := by decide +kernel
theorem d_L_law_288 : decode code 288 = .ok (.iadd, 1) := by decide +kernel
theorem d_L_law_289 : decode code 289 = .ok (.iaload, 1) := by decide +kernel
theorem d_L_law_290 : decode code 290 = .ok (.aload_n 0, 1) := by decide +kernel
theorem d_L_law_291 : decode code 291 = .ok (.iload_n 3, 1) := by decide +kernel
theorem d_L_law_292 : decode code 292 = .ok (.iconst 2, 1) := by decide +kernel
theorem d_L_law_293 : decode code 293 = .ok (.iadd, 1) := by decide +kernel
theorem d_L_law_294 : decode code 294 = .ok (.iaload, 1) := by decide +kernel
theorem d_L_law_295 : decode code 295 = .ok (.invokevirtual 35, 3) := by decide +kernel
theorem d_L_law_298 : decode code 298 = .ok (.if_icmp .eq 371, 3) := by decide +kernel
theorem d_L_law_301 : decode code 301 = .ok (.iconst 0, 1) := by decide +kernel
theorem d_L_law_302 : decode code 302 = .ok (.ireturn, 1) := by decide +kernel
theorem d_L_law_303 : decode code 303 = .ok (.aload_n 1, 1) := by decide +kernel
theorem d_L_law_304 : decode code 304 = .ok (.aload_n 0, 1) := by decide +kernel
theorem d_L_law_305 : decode code 305 = .ok (.iload_n 3, 1) := by decide +kernel
theorem d_L_law_306 : decode code 306 = .ok (.iconst 1, 1) := by decide +kernel
theorem d_L_law_307 : decode code 307 = .ok (.iadd, 1) := by decide +kernel
theorem d_L_law_308 : decode code 308 = .ok (.iaload, 1) := by decide +kernel
theorem d_L_law_309 : decode code 309 = .ok (.aload_n 0, 1) := by decide +kernel
theorem d_L_law_310 : decode code 310 = .ok (.iload_n 3, 1) := by decide +kernel
theorem d_L_law_311 : decode code 311 = .ok (.iconst 2, 1) := by decide +kernel
theorem d_L_law_312 : decode code 312 = .ok (.iadd, 1) := by decide +kernel
theorem d_L_law_313 : decode code 313 = .ok (.iaload, 1) := by decide +kernel
theorem d_L_law_314 : decode code 314 = .ok (.aload_n 0, 1) := by decide +kernel
theorem d_L_law_315 : decode code 315 = .ok (.iload_n 3, 1) := by decide +kernel
theorem d_L_law_316 : decode code 316 = .ok (.iconst 3, 1) := by decide +kernel
theorem d_L_law_317 : decode code 317 = .ok (.iadd, 1) := by decide +kernel
theorem d_L_law_318 : decode code 318 = .ok (.iaload, 1) := by decide +kernel
theorem d_L_law_319 : decode code 319 = .ok (.invokevirtual 36, 3) := by decide +kernel
theorem d_L_law_322 : decode code 322 = .ok (.aload_n 2, 1) := by decide +kernel
theorem d_L_law_323 : decode code 323 = .ok (.aload_n 0, 1) := by decide +kernel
theorem d_L_law_324 : decode code 324 = .ok (.iload_n 3, 1) := by decide +kernel
theorem d_L_law_325 : decode code 325 = .ok (.iconst 1, 1) := by decide +kernel
theorem d_L_law_326 : decode code 326 = .ok (.iadd, 1) := by decide +kernel
theorem d_L_law_327 : decode code 327 = .ok (.iaload, 1) := by decide +kernel
theorem d_L_law_328 : decode code 328 = .ok (.aload_n 0, 1) := by decide +kernel
theorem d_L_law_329 : decode code 329 = .ok (.iload_n 3, 1) := by decide +kernel
theorem d_L_law_330 : decode code 330 = .ok (.iconst 2, 1) := by decide +kernel
theorem d_L_law_331 : decode code 331 = .ok (.iadd, 1) := by decide +kernel
theorem d_L_law_332 : decode code 332 = .ok (.iaload, 1) := by decide +kernel
theorem d_L_law_333 : decode code 333 = .ok (.aload_n 0, 1) := by decide +kernel
theorem d_L_law_334 : decode code 334 = .ok (.iload_n 3, 1) := by decide +kernel
theorem d_L_law_335 : decode code 335 = .ok (.iconst 3, 1) := by decide +kernel
theorem d_L_law_336 : decode code 336 = .ok (.iadd, 1) := by decide +kernel
theorem d_L_law_337 : decode code 337 = .ok (.iaload, 1) := by decide +kernel
theorem d_L_law_338 : decode code 338 = .ok (.invokevirtual 39, 3) := by decide +kernel
theorem d_L_law_341 : decode code 341 = .ok (.if_icmp .eq 328, 3) := by decide +kernel
theorem d_L_law_344 : decode code 344 = .ok (.iconst 0, 1) := by decide +kernel
theorem d_L_law_345 : decode code 345 = .ok (.ireturn, 1) := by decide +kernel
theorem d_L_law_346 : decode code 346 = .ok (.aload_n 1, 1) := by decide +kernel
theorem d_L_law_347 : decode code 347 = .ok (.aload_n 0, 1) := by decide +kernel
theorem d_L_law_348 : decode code 348 = .ok (.iload_n 3, 1) := by decide +kernel
theorem d_L_law_349 : decode code 349 = .ok (.iconst 1, 1) := by decide +kernel
theorem d_L_law_350 : decode code 350 = .ok (.iadd, 1) := by decide +kernel
theorem d_L_law_351 : decode code 351 = .ok (.iaload, 1) := by decide +kernel
theorem d_L_law_352 : decode code 352 = .ok (.aload_n 0, 1) := by decide +kernel
theorem d_L_law_353 : decode code 353 = .ok (.iload_n 3, 1) := by decide +kernel
theorem d_L_law_354 : decode code 354 = .ok (.iconst 2, 1) := by decide +kernel
theorem d_L_law_355 : decode code 355 = .ok (.iadd, 1) := by decide +kernel
theorem d_L_law_356 : decode code 356 = .ok (.iaload, 1) := by decide +kernel
theorem d_L_law_357 : decode code 357 = .ok (.aload_n 0, 1) := by decide +kernel
theorem d_L_law_358 : decode code 358 = .ok (.iload_n 3, 1) := by decide +kernel
theorem d_L_law_359 : decode code 359 = .ok (.iconst 3, 1) := by decide +kernel
theorem d_L_law_360 : decode code 360 = .ok (.iadd, 1) := by decide +kernel
theorem d_L_law_361 : decode code 361 = .ok (.iaload, 1) := by decide +kernel
theorem d_L_law_362 : decode code 362 = .ok (.ifCond .eq 7, 3) := by decide +kernel
theorem d_L_law_365 : decode code 365 = .ok (.iconst 1, 1) := by decide +kernel
theorem d_L_law_366 : decode code 366 = .ok (.goto 4, 3) := by decide +kernel
theorem d_L_law_369 : decode code 369 = .ok (.iconst 0, 1) := by decide +kernel
theorem d_L_law_370 : decode code 370 = .ok (.invokevirtual 40, 3) := by decide +kernel
theorem d_L_law_373 : decode code 373 = .ok (.aload_n 2, 1) := by decide +kernel
theorem d_L_law_374 : decode code 374 = .ok (.aload_n 0, 1) := by decide +kernel
theorem d_L_law_375 : decode code 375 = .ok (.iload_n 3, 1) := by decide +kernel
theorem d_L_law_376 : decode code 376 = .ok (.iconst 1, 1) := by decide +kernel
theorem d_L_law_377 : decode code 377 = .ok (.iadd, 1) := by decide +kernel
theorem d_L_law_378 : decode code 378 = .ok (.iaload, 1) := by decide +kernel
theorem d_L_law_379 : decode code 379 = .ok (.aload_n 0, 1) := by decide +kernel
theorem d_L_law_380 : decode code 380 = .ok (.iload_n 3, 1) := by decide +kernel
theorem d_L_law_381 : decode code 381 = .ok (.iconst 2, 1) := by decide +kernel
theorem d_L_law_382 : decode code 382 = .ok (.iadd, 1) := by decide +kernel
theorem d_L_law_383 : decode code 383 = .ok (.iaload, 1) := by decide +kernel
theorem d_L_law_384 : decode code 384 = .ok (.aload_n 0, 1) := by decide +kernel
theorem d_L_law_385 : decode code 385 = .ok (.iload_n 3, 1) := by decide +kernel
theorem d_L_law_386 : decode code 386 = .ok (.iconst 3, 1) := by decide +kernel
theorem d_L_law_387 : decode code 387 = .ok (.iadd, 1) := by decide +kernel
theorem d_L_law_388 : decode code 388 = .ok (.iaload, 1) := by decide +kernel
theorem d_L_law_389 : decode code 389 = .ok (.ifCond .eq 7, 3) := by decide +kernel
theorem d_L_law_392 : decode code 392 = .ok (.iconst 1, 1) := by decide +kernel
theorem d_L_law_393 : decode code 393 = .ok (.goto 4, 3) := by decide +kernel
theorem d_L_law_396 : decode code 396 = .ok (.iconst 0, 1) := by decide +kernel
theorem d_L_law_397 : decode code 397 = .ok (.invokevirtual 44, 3) := by decide +kernel
theorem d_L_law_400 : decode code 400 = .ok (.if_icmp .eq 269, 3) := by decide +kernel
theorem d_L_law_403 : decode code 403 = .ok (.iconst 0, 1) := by decide +kernel
theorem d_L_law_404 : decode code 404 = .ok (.ireturn, 1) := by decide +kernel
theorem d_L_law_405 : decode code 405 = .ok (.aload_n 1, 1) := by decide +kernel
theorem d_L_law_406 : decode code 406 = .ok (.aload_n 0, 1) := by decide +kernel
theorem d_L_law_407 : decode code 407 = .ok (.iload_n 3, 1) := by decide +kernel
theorem d_L_law_408 : decode code 408 = .ok (.iconst 1, 1) := by decide +kernel
theorem d_L_law_409 : decode code 409 = .ok (.iadd, 1) := by decide +kernel
theorem d_L_law_410 : decode code 410 = .ok (.iaload, 1) := by decide +kernel
theorem d_L_law_411 : decode code 411 = .ok (.aload_n 0, 1) := by decide +kernel
theorem d_L_law_412 : decode code 412 = .ok (.iload_n 3, 1) := by decide +kernel
theorem d_L_law_413 : decode code 413 = .ok (.iconst 2, 1) := by decide +kernel
theorem d_L_law_414 : decode code 414 = .ok (.iadd, 1) := by decide +kernel
theorem d_L_law_415 : decode code 415 = .ok (.iaload, 1) := by decide +kernel
theorem d_L_law_416 : decode code 416 = .ok (.invokevirtual 45, 3) := by decide +kernel
theorem d_L_law_419 : decode code 419 = .ok (.aload_n 2, 1) := by decide +kernel
theorem d_L_law_420 : decode code 420 = .ok (.aload_n 0, 1) := by decide +kernel
theorem d_L_law_421 : decode code 421 = .ok (.iload_n 3, 1) := by decide +kernel
theorem d_L_law_422 : decode code 422 = .ok (.iconst 1, 1) := by decide +kernel
theorem d_L_law_423 : decode code 423 = .ok (.iadd, 1) := by decide +kernel
theorem d_L_law_424 : decode code 424 = .ok (.iaload, 1) := by decide +kernel
theorem d_L_law_425 : decode code 425 = .ok (.aload_n 0, 1) := by decide +kernel
theorem d_L_law_426 : decode code 426 = .ok (.iload_n 3, 1) := by decide +kernel
theorem d_L_law_427 : decode code 427 = .ok (.iconst 2, 1) := by decide +kernel
theorem d_L_law_428 : decode code 428 = .ok (.iadd, 1) := by decide +kernel
theorem d_L_law_429 : decode code 429 = .ok (.iaload, 1) := by decide +kernel
theorem d_L_law_430 : decode code 430 = .ok (.invokevirtual 48, 3) := by decide +kernel
theorem d_L_law_433 : decode code 433 = .ok (.if_icmp .eq 236, 3) := by decide +kernel
theorem d_L_law_436 : decode code 436 = .ok (.iconst 0, 1) := by decide +kernel
theorem d_L_law_437 : decode code 437 = .ok (.ireturn, 1) := by decide +kernel
theorem d_L_law_438 : decode code 438 = .ok (.aload_n 1, 1) := by decide +kernel
theorem d_L_law_439 : decode code 439 = .ok (.aload_n 0, 1) := by decide +kernel
theorem d_L_law_440 : decode code 440 = .ok (.iload_n 3, 1) := by decide +kernel
theorem d_L_law_441 : decode code 441 = .ok (.iconst 1, 1) := by decide +kernel
theorem d_L_law_442 : decode code 442 = .ok (.iadd, 1) := by decide +kernel
theorem d_L_law_443 : decode code 443 = .ok (.iaload, 1) := by decide +kernel
theorem d_L_law_444 : decode code 444 = .ok (.aload_n 0, 1) := by decide +kernel
theorem d_L_law_445 : decode code 445 = .ok (.iload_n 3, 1) := by decide +kernel
theorem d_L_law_446 : decode code 446 = .ok (.iconst 2, 1) := by decide +kernel
theorem d_L_law_447 : decode code 447 = .ok (.iadd, 1) := by decide +kernel
theorem d_L_law_448 : decode code 448 = .ok (.iaload, 1) := by decide +kernel
theorem d_L_law_449 : decode code 449 = .ok (.aload_n 0, 1) := by decide +kernel
theorem d_L_law_450 : decode code 450 = .ok (.iload_n 3, 1) := by decide +kernel
theorem d_L_law_451 : decode code 451 = .ok (.iconst 3, 1) := by decide +kernel
theorem d_L_law_452 : decode code 452 = .ok (.iadd, 1) := by decide +kernel
theorem d_L_law_453 : decode code 453 = .ok (.iaload, 1) := by decide +kernel
theorem d_L_law_454 : decode code 454 = .ok (.invokevirtual 49, 3) := by decide +kernel
theorem d_L_law_457 : decode code 457 = .ok (.aload_n 2, 1) := by decide +kernel
theorem d_L_law_458 : decode code 458 = .ok (.aload_n 0, 1) := by decide +kernel
theorem d_L_law_459 : decode code 459 = .ok (.iload_n 3, 1) := by decide +kernel
theorem d_L_law_460 : decode code 460 = .ok (.iconst 1, 1) := by decide +kernel
theorem d_L_law_461 : decode code 461 = .ok (.iadd, 1) := by decide +kernel
theorem d_L_law_462 : decode code 462 = .ok (.iaload, 1) := by decide +kernel
theorem d_L_law_463 : decode code 463 = .ok (.aload_n 0, 1) := by decide +kernel
theorem d_L_law_464 : decode code 464 = .ok (.iload_n 3, 1) := by decide +kernel
theorem d_L_law_465 : decode code 465 = .ok (.iconst 2, 1) := by decide +kernel
theorem d_L_law_466 : decode code 466 = .ok (.iadd, 1) := by decide +kernel
theorem d_L_law_467 : decode code 467 = .ok (.iaload, 1) := by decide +kernel
theorem d_L_law_468 : decode code 468 = .ok (.aload_n 0, 1) := by decide +kernel
theorem d_L_law_469 : decode code 469 = .ok (.iload_n 3, 1) := by decide +kernel
theorem d_L_law_470 : decode code 470 = .ok (.iconst 3, 1) := by decide +kernel
theorem d_L_law_471 : decode code 471 = .ok (.iadd, 1) := by decide +kernel
theorem d_L_law_472 : decode code 472 = .ok (.iaload, 1) := by decide +kernel
theorem d_L_law_473 : decode code 473 = .ok (.invokevirtual 52, 3) := by decide +kernel
theorem d_L_law_476 : decode code 476 = .ok (.if_icmp .eq 193, 3) := by decide +kernel
theorem d_L_law_479 : decode code 479 = .ok (.iconst 0, 1) := by decide +kernel
theorem d_L_law_480 : decode code 480 = .ok (.ireturn, 1) := by decide +kernel
theorem d_L_law_481 : decode code 481 = .ok (.aload_n 1, 1) := by decide +kernel
theorem d_L_law_482 : decode code 482 = .ok (.aload_n 0, 1) := by decide +kernel
theorem d_L_law_483 : decode code 483 = .ok (.iload_n 3, 1) := by decide +kernel
theorem d_L_law_484 : decode code 484 = .ok (.iconst 1, 1) := by decide +kernel
theorem d_L_law_485 : decode code 485 = .ok (.iadd, 1) := by decide +kernel
theorem d_L_law_486 : decode code 486 = .ok (.iaload, 1) := by decide +kernel
theorem d_L_law_487 : decode code 487 = .ok (.aload_n 0, 1) := by decide +kernel
theorem d_L_law_488 : decode code 488 = .ok (.iload_n 3, 1) := by decide +kernel
theorem d_L_law_489 : decode code 489 = .ok (.iconst 2, 1) := by decide +kernel
theorem d_L_law_490 : decode code 490 = .ok (.iadd, 1) := by decide +kernel
theorem d_L_law_491 : decode code 491 = .ok (.iaload, 1) := by decide +kernel
theorem d_L_law_492 : decode code 492 = .ok (.aload_n 0, 1) := by decide +kernel
theorem d_L_law_493 : decode code 493 = .ok (.iload_n 3, 1) := by decide +kernel
theorem d_L_law_494 : decode code 494 = .ok (.iconst 3, 1) := by decide +kernel
theorem d_L_law_495 : decode code 495 = .ok (.iadd, 1) := by decide +kernel
theorem d_L_law_496 : decode code 496 = .ok (.iaload, 1) := by decide +kernel
theorem d_L_law_497 : decode code 497 = .ok (.aload_n 0, 1) := by decide +kernel
theorem d_L_law_498 : decode code 498 = .ok (.iload_n 3, 1) := by decide +kernel
theorem d_L_law_499 : decode code 499 = .ok (.iconst 4, 1) := by decide +kernel
theorem d_L_law_500 : decode code 500 = .ok (.iadd, 1) := by decide +kernel
theorem d_L_law_501 : decode code 501 = .ok (.iaload, 1) := by decide +kernel
theorem d_L_law_502 : decode code 502 = .ok (.invokevirtual 53, 3) := by decide +kernel
theorem d_L_law_505 : decode code 505 = .ok (.aload_n 2, 1) := by decide +kernel
theorem d_L_law_506 : decode code 506 = .ok (.aload_n 0, 1) := by decide +kernel
theorem d_L_law_507 : decode code 507 = .ok (.iload_n 3, 1) := by decide +kernel
theorem d_L_law_508 : decode code 508 = .ok (.iconst 1, 1) := by decide +kernel
theorem d_L_law_509 : decode code 509 = .ok (.iadd, 1) := by decide +kernel
theorem d_L_law_510 : decode code 510 = .ok (.iaload, 1) := by decide +kernel
theorem d_L_law_511 : decode code 511 = .ok (.aload_n 0, 1) := by decide +kernel
theorem d_L_law_512 : decode code 512 = .ok (.iload_n 3, 1) := by decide +kernel
theorem d_L_law_513 : decode code 513 = .ok (.iconst 2, 1) := by decide +kernel
theorem d_L_law_514 : decode code 514 = .ok (.iadd, 1) := by decide +kernel
theorem d_L_law_515 : decode code 515 = .ok (.iaload, 1) := by decide +kernel
theorem d_L_law_516 : decode code 516 = .ok (.aload_n 0, 1) := by decide +kernel
theorem d_L_law_517 : decode code 517 = .ok (.iload_n 3, 1) := by decide +kernel
theorem d_L_law_518 : decode code 518 = .ok (.iconst 3, 1) := by decide +kernel
theorem d_L_law_519 : decode code 519 = .ok (.iadd, 1) := by decide +kernel
theorem d_L_law_520 : decode code 520 = .ok (.iaload, 1) := by decide +kernel
theorem d_L_law_521 : decode code 521 = .ok (.aload_n 0, 1) := by decide +kernel
theorem d_L_law_522 : decode code 522 = .ok (.iload_n 3, 1) := by decide +kernel
theorem d_L_law_523 : decode code 523 = .ok (.iconst 4, 1) := by decide +kernel
theorem d_L_law_524 : decode code 524 = .ok (.iadd, 1) := by decide +kernel
theorem d_L_law_525 : decode code 525 = .ok (.iaload, 1) := by decide +kernel
theorem d_L_law_526 : decode code 526 = .ok (.invokevirtual 56, 3) := by decide +kernel
theorem d_L_law_529 : decode code 529 = .ok (.if_icmp .eq 140, 3) := by decide +kernel
theorem d_L_law_532 : decode code 532 = .ok (.iconst 0, 1) := by decide +kernel
theorem d_L_law_533 : decode code 533 = .ok (.ireturn, 1) := by decide +kernel
theorem d_L_law_534 : decode code 534 = .ok (.aload_n 1, 1) := by decide +kernel
theorem d_L_law_535 : decode code 535 = .ok (.aload_n 0, 1) := by decide +kernel
theorem d_L_law_536 : decode code 536 = .ok (.iload_n 3, 1) := by decide +kernel
theorem d_L_law_537 : decode code 537 = .ok (.iconst 1, 1) := by decide +kernel
theorem d_L_law_538 : decode code 538 = .ok (.iadd, 1) := by decide +kernel
theorem d_L_law_539 : decode code 539 = .ok (.iaload, 1) := by decide +kernel
theorem d_L_law_540 : decode code 540 = .ok (.aload_n 0, 1) := by decide +kernel
theorem d_L_law_541 : decode code 541 = .ok (.iload_n 3, 1) := by decide +kernel
theorem d_L_law_542 : decode code 542 = .ok (.iconst 2, 1) := by decide +kernel
theorem d_L_law_543 : decode code 543 = .ok (.iadd, 1) := by decide +kernel
theorem d_L_law_544 : decode code 544 = .ok (.iaload, 1) := by decide +kernel
theorem d_L_law_545 : decode code 545 = .ok (.invokevirtual 57, 3) := by decide +kernel
theorem d_L_law_548 : decode code 548 = .ok (.aload_n 2, 1) := by decide +kernel
theorem d_L_law_549 : decode code 549 = .ok (.aload_n 0, 1) := by decide +kernel
theorem d_L_law_550 : decode code 550 = .ok (.iload_n 3, 1) := by decide +kernel
theorem d_L_law_551 : decode code 551 = .ok (.iconst 1, 1) := by decide +kernel
theorem d_L_law_552 : decode code 552 = .ok (.iadd, 1) := by decide +kernel
theorem d_L_law_553 : decode code 553 = .ok (.iaload, 1) := by decide +kernel
theorem d_L_law_554 : decode code 554 = .ok (.aload_n 0, 1) := by decide +kernel
theorem d_L_law_555 : decode code 555 = .ok (.iload_n 3, 1) := by decide +kernel
theorem d_L_law_556 : decode code 556 = .ok (.iconst 2, 1) := by decide +kernel
theorem d_L_law_557 : decode code 557 = .ok (.iadd, 1) := by decide +kernel
theorem d_L_law_558 : decode code 558 = .ok (.iaload, 1) := by decide +kernel
theorem d_L_law_559 : decode code 559 = .ok (.invokevirtual 60, 3) := by decide +kernel
theorem d_L_law_562 : decode code 562 = .ok (.if_icmp .eq 107, 3) := by decide +kernel
theorem d_L_law_565 : decode code 565 = .ok (.iconst 0, 1) := by decide +kernel
theorem d_L_law_566 : decode code 566 = .ok (.ireturn, 1) := by decide +kernel
theorem d_L_law_567 : decode code 567 = .ok (.aload_n 1, 1) := by decide +kernel
theorem d_L_law_568 : decode code 568 = .ok (.aload_n 0, 1) := by decide +kernel
theorem d_L_law_569 : decode code 569 = .ok (.iload_n 3, 1) := by decide +kernel
theorem d_L_law_570 : decode code 570 = .ok (.iconst 1, 1) := by decide +kernel
theorem d_L_law_571 : decode code 571 = .ok (.iadd, 1) := by decide +kernel
theorem d_L_law_572 : decode code 572 = .ok (.iaload, 1) := by decide +kernel
theorem d_L_law_573 : decode code 573 = .ok (.aload_n 0, 1) := by decide +kernel
theorem d_L_law_574 : decode code 574 = .ok (.iload_n 3, 1) := by decide +kernel
theorem d_L_law_575 : decode code 575 = .ok (.iconst 2, 1) := by decide +kernel
theorem d_L_law_576 : decode code 576 = .ok (.iadd, 1) := by decide +kernel
theorem d_L_law_577 : decode code 577 = .ok (.iaload, 1) := by decide +kernel
theorem d_L_law_578 : decode code 578 = .ok (.invokevirtual 61, 3) := by decide +kernel
theorem d_L_law_581 : decode code 581 = .ok (.aload_n 2, 1) := by decide +kernel
theorem d_L_law_582 : decode code 582 = .ok (.aload_n 0, 1) := by decide +kernel
theorem d_L_law_583 : decode code 583 = .ok (.iload_n 3, 1) := by decide +kernel
theorem d_L_law_584 : decode code 584 = .ok (.iconst 1, 1) := by decide +kernel
theorem d_L_law_585 : decode code 585 = .ok (.iadd, 1) := by decide +kernel
theorem d_L_law_586 : decode code 586 = .ok (.iaload, 1) := by decide +kernel
theorem d_L_law_587 : decode code 587 = .ok (.aload_n 0, 1) := by decide +kernel
theorem d_L_law_588 : decode code 588 = .ok (.iload_n 3, 1) := by decide +kernel
theorem d_L_law_589 : decode code 589 = .ok (.iconst 2, 1) := by decide +kernel
theorem d_L_law_590 : decode code 590 = .ok (.iadd, 1) := by decide +kernel
theorem d_L_law_591 : decode code 591 = .ok (.iaload, 1) := by decide +kernel
theorem d_L_law_592 : decode code 592 = .ok (.invokevirtual 64, 3) := by decide +kernel
theorem d_L_law_595 : decode code 595 = .ok (.if_icmp .eq 74, 3) := by decide +kernel
theorem d_L_law_598 : decode code 598 = .ok (.iconst 0, 1) := by decide +kernel
theorem d_L_law_599 : decode code 599 = .ok (.ireturn, 1) := by decide +kernel
theorem d_L_law_600 : decode code 600 = .ok (.aload_n 1, 1) := by decide +kernel
theorem d_L_law_601 : decode code 601 = .ok (.aload_n 0, 1) := by decide +kernel
theorem d_L_law_602 : decode code 602 = .ok (.iload_n 3, 1) := by decide +kernel
theorem d_L_law_603 : decode code 603 = .ok (.iconst 1, 1) := by decide +kernel
theorem d_L_law_604 : decode code 604 = .ok (.iadd, 1) := by decide +kernel
theorem d_L_law_605 : decode code 605 = .ok (.iaload, 1) := by decide +kernel
theorem d_L_law_606 : decode code 606 = .ok (.invokevirtual 65, 3) := by decide +kernel
theorem d_L_law_609 : decode code 609 = .ok (.aload_n 2, 1) := by decide +kernel
theorem d_L_law_610 : decode code 610 = .ok (.aload_n 0, 1) := by decide +kernel
theorem d_L_law_611 : decode code 611 = .ok (.iload_n 3, 1) := by decide +kernel
theorem d_L_law_612 : decode code 612 = .ok (.iconst 1, 1) := by decide +kernel
theorem d_L_law_613 : decode code 613 = .ok (.iadd, 1) := by decide +kernel
theorem d_L_law_614 : decode code 614 = .ok (.iaload, 1) := by decide +kernel
theorem d_L_law_615 : decode code 615 = .ok (.invokevirtual 69, 3) := by decide +kernel
theorem d_L_law_618 : decode code 618 = .ok (.if_icmp .eq 51, 3) := by decide +kernel
theorem d_L_law_621 : decode code 621 = .ok (.iconst 0, 1) := by decide +kernel
theorem d_L_law_622 : decode code 622 = .ok (.ireturn, 1) := by decide +kernel
theorem d_L_law_623 : decode code 623 = .ok (.aload_n 1, 1) := by decide +kernel
theorem d_L_law_624 : decode code 624 = .ok (.aload_n 0, 1) := by decide +kernel
theorem d_L_law_625 : decode code 625 = .ok (.iload_n 3, 1) := by decide +kernel
theorem d_L_law_626 : decode code 626 = .ok (.iconst 1, 1) := by decide +kernel
theorem d_L_law_627 : decode code 627 = .ok (.iadd, 1) := by decide +kernel
theorem d_L_law_628 : decode code 628 = .ok (.iaload, 1) := by decide +kernel
theorem d_L_law_629 : decode code 629 = .ok (.invokevirtual 70, 3) := by decide +kernel
theorem d_L_law_632 : decode code 632 = .ok (.aload_n 2, 1) := by decide +kernel
theorem d_L_law_633 : decode code 633 = .ok (.aload_n 0, 1) := by decide +kernel
theorem d_L_law_634 : decode code 634 = .ok (.iload_n 3, 1) := by decide +kernel
theorem d_L_law_635 : decode code 635 = .ok (.iconst 1, 1) := by decide +kernel
theorem d_L_law_636 : decode code 636 = .ok (.iadd, 1) := by decide +kernel
theorem d_L_law_637 : decode code 637 = .ok (.iaload, 1) := by decide +kernel
theorem d_L_law_638 : decode code 638 = .ok (.invokevirtual 73, 3) := by decide +kernel
theorem d_L_law_641 : decode code 641 = .ok (.if_icmp .eq 28, 3) := by decide +kernel
theorem d_L_law_644 : decode code 644 = .ok (.iconst 0, 1) := by decide +kernel
theorem d_L_law_645 : decode code 645 = .ok (.ireturn, 1) := by decide +kernel
theorem d_L_law_646 : decode code 646 = .ok (.aload_n 1, 1) := by decide +kernel
theorem d_L_law_647 : decode code 647 = .ok (.aload_n 0, 1) := by decide +kernel
theorem d_L_law_648 : decode code 648 = .ok (.iload_n 3, 1) := by decide +kernel
theorem d_L_law_649 : decode code 649 = .ok (.iconst 1, 1) := by decide +kernel
theorem d_L_law_650 : decode code 650 = .ok (.iadd, 1) := by decide +kernel
theorem d_L_law_651 : decode code 651 = .ok (.iaload, 1) := by decide +kernel
theorem d_L_law_652 : decode code 652 = .ok (.invokevirtual 74, 3) := by decide +kernel
theorem d_L_law_655 : decode code 655 = .ok (.aload_n 2, 1) := by decide +kernel
theorem d_L_law_656 : decode code 656 = .ok (.aload_n 0, 1) := by decide +kernel
theorem d_L_law_657 : decode code 657 = .ok (.iload_n 3, 1) := by decide +kernel
theorem d_L_law_658 : decode code 658 = .ok (.iconst 1, 1) := by decide +kernel
theorem d_L_law_659 : decode code 659 = .ok (.iadd, 1) := by decide +kernel
theorem d_L_law_660 : decode code 660 = .ok (.iaload, 1) := by decide +kernel
theorem d_L_law_661 : decode code 661 = .ok (.invokevirtual 77, 3) := by decide +kernel
theorem d_L_law_664 : decode code 664 = .ok (.if_icmp .eq 5, 3) := by decide +kernel
theorem d_L_law_667 : decode code 667 = .ok (.iconst 0, 1) := by decide +kernel
theorem d_L_law_668 : decode code 668 = .ok (.ireturn, 1) := by decide +kernel
theorem d_L_law_669 : decode code 669 = .ok (.iinc 3 5, 3) := by decide +kernel
theorem d_L_law_672 : decode code 672 = .ok (.goto (-654), 3) := by decide +kernel
theorem d_L_law_675 : decode code 675 = .ok (.iconst 1, 1) := by decide +kernel
theorem d_L_law_676 : decode code 676 = .ok (.ireturn, 1) := by decide +kernel
end
section
/-! THE LAYER: a world as a partial map from addresses to cells; one hypothesis wd_C carries it through a method -/
abbrev wd_S : Type := Nat → Option va_E
def wd_up (σ : wd_S) (a : Nat) (e : va_E) : wd_S := fun b => if b = a then some e else σ b
theorem wd_us (σ : wd_S) (a : Nat) (e : va_E) : wd_up σ a e a = some e := if_pos rfl
theorem wd_un (σ : wd_S) {a b : Nat} (e : va_E) (h : b ≠ a) : wd_up σ a e b = σ b := if_neg h
theorem wd_uu (σ : wd_S) (a : Nat) (e e' : va_E) : wd_up (wd_up σ a e) a e' = wd_up σ a e' := by
  funext b
  by_cases h : b = a
  · simp [wd_up, h]
  · simp [wd_up, h]
theorem wd_ne {σ : wd_S} {a b : Nat} {e e' : va_E} (ha : σ a = some e) (hb : σ b = some e') (h : e ≠ e') : a ≠ b := fun z => by
  subst z
  exact h (Option.some.inj (ha.symm.trans hb))
theorem wd_nn {σ : wd_S} {a b : Nat} {e : va_E} (ha : σ a = some e) (hb : σ b = none) : a ≠ b := fun z => by
  subst z
  rw [ha] at hb
  cases hb
theorem wd_uk {σ : wd_S} {a b : Nat} {e e' : va_E} (hb : σ b = some e') (h : b ≠ a) : wd_up σ a e b = some e' := (wd_un σ e h).trans hb
/-- the list L holds the map's addresses, each with its cell -/
def wd_L (σ : wd_S) (L : List Nat) (f : Nat → va_E) : Prop := ∀ a : Nat, (a ∈ L ∧ σ a = some (f a)) ∨ (a ∉ L ∧ σ a = none)
theorem wd_L.mem {σ : wd_S} {L : List Nat} {f : Nat → va_E} (h : wd_L σ L f) {a : Nat} {e : va_E} (ha : σ a = some e) : a ∈ L ∧ f a = e := by
  rcases h a with ⟨h1, h2⟩ | ⟨h1, h2⟩
  · exact ⟨h1, Option.some.inj (h2.symm.trans ha)⟩
  · rw [h2] at ha; cases ha
/-- a world: the heap holds the map's cells, all of them in the region A -/
def wd_W (D : va_G) (A : Nat → Prop) (σ : wd_S) (H : Heap) : Prop := ∃ (L : List Nat) (f : Nat → va_E), va_P D classes (va_pl L f) H ∧ va_D A (va_pl L f) ∧ wd_L σ L f
/-- the static tables of ints -/
def wd_T (A : Nat → Prop) (U : State) (H : Heap) (t : Nat) (tab : List Int32) : Prop := va_T .int t tab.length (fun k => .int (tab.getD k 0)) A U H
def wd_Z (A : Nat → Prop) (U : State) (H : Heap) : Prop := ∀ q ∈ wd_st, ∃ t : Nat, va_Z q.1 q.2.1 "[I" (.ref t) A U H ∧ wd_T A U H t q.2.2
theorem wd_Z.moved {A : Nat → Prop} {u U : State} {H : Heap} (hvm : u.vm.Alike U.vm) (h : wd_Z A u H) : wd_Z A U H := fun q hq => by
  obtain ⟨t, h1, h2⟩ := h q hq
  exact ⟨t, h1.moved hvm, va_T.moved hvm h2⟩
theorem wd_Z.kept {A : Nat → Prop} {U : State} {H H1 : Heap} (h : wd_Z A U H) (hq : ∀ a : Nat, a < H.size → ¬ A a → H1[a]? = H[a]?) : wd_Z A U H1 := fun q hq' => by
  obtain ⟨t, h1, h2⟩ := h q hq'
  exact ⟨t, h1.kept hq, va_T.kept h2 hq⟩
theorem wd_Z.narrow {A B : Nat → Prop} {U : State} {H : Heap} (h : wd_Z A U H) (hAB : ∀ q, B q → A q) : wd_Z B U H := fun q hq' => by
  obtain ⟨t, h1, h2⟩ := h q hq'
  exact ⟨t, h1.narrow hAB, va_T.narrow h2 hAB⟩
/-- words that stay, but that the tables' lists don't pay: links of nest mates, arrays of objects -/
def wd_isN : Cond → Bool
  | .fieldLinkNest .. => true
  | .methodLinkNest .. => true
  | .arrayOver (.object _) => true
  | _ => false
def wd_N (U : State) : Prop := ∀ w ∈ lw_tbl, wd_isN w = true → va_Nw w U
theorem wd_N.warm {s U : State} (hW : s.WarmedH U.vm) (h : wd_N s) : wd_N U := by
  intro w hw hn
  have h1 := h w hw hn
  cases w with
  | fieldLinkNest a i b n d h => exact va_Nw.warmF hW h1
  | methodLinkNest a i x h => exact va_Nw.warmM hW h1
  | arrayOver ty =>
    cases ty with
    | object C => exact va_AO.moved hW.alike h1
    | _ => simp [wd_isN] at hn
  | _ => simp [wd_isN] at hn
theorem wd_N.same {s U : State} (hv : s.vm = U.vm) (h : wd_N s) : wd_N U := by
  intro w hw hn
  have h1 := h w hw hn
  cases w with
  | fieldLinkNest a i b n d h => exact va_Nw.same rfl hv h1
  | methodLinkNest a i x h => exact va_Nw.same rfl hv h1
  | arrayOver ty =>
    cases ty with
    | object C => exact va_AO.moved (hv ▸ Vm.Alike.refl s.vm) h1
    | _ => simp [wd_isN] at hn
  | _ => simp [wd_isN] at hn
/-- all that a method's walk carries: the world now, what has changed since its entry, the tables, the statics -/
def wd_C (D : va_G) (T : Nat → ClassId) (A : Nat → Prop) (s : State) (H : Heap) (locs : List Loc) (σ : wd_S) : Prop := wd_W D A σ H ∧ va_S A s.heap H locs ∧ va_K D classes (wd_ty T) s ∧ (∀ q : Nat, s.heap.size ≤ q → A q) ∧ wd_Z A s s.heap ∧ wd_N s
def wd_Pre (D : va_G) (T : Nat → ClassId) (A : Nat → Prop) (σ : wd_S) (U : State) : Prop := wd_C D T A U U.heap [] σ
def wd_B (D : va_G) (A : Nat → Prop) (σ : wd_S) (t : State) : Prop := wd_W D A σ t.heap
theorem wd_enter {D : va_G} {T : Nat → ClassId} {A : Nat → Prop} {s U : State} {H : Heap} {locs : List Loc} {σ : wd_S} (h : wd_C D T A s H locs σ) (hU : U.heap = H) (hW : s.WarmedH U.vm) : wd_Pre D T A σ U := by
  obtain ⟨h1, h2, h3, h4, h5, h6⟩ := h
  subst hU
  exact ⟨h1, va_S.rf, va_K.moved hW.alike h3, fun q hq => h4 q (Nat.le_trans h2.1 hq), (h5.kept h2.2.1).moved hW.alike, h6.warm hW⟩
theorem wd_blind {D : va_G} {T : Nat → ClassId} {A : Nat → Prop} {σ : wd_S} {av : List Value} : FrameBlind (va_Pc av (wd_Pre D T A σ)) := fun a U g mk q => by
  obtain ⟨q0, h1, h2, h3, h4, h5, h6⟩ := q
  exact ⟨q0, h1, h2, va_K.moved (u := U) (U := U.calling g mk a) (Vm.Alike.refl U.vm) h3, h4, wd_Z.moved (u := U) (U := U.calling g mk a) (Vm.Alike.refl U.vm) h5, wd_N.same (s := U) (U := U.calling g mk a) rfl h6⟩
/-- a class of ours, by its number -/
def wd_cl (ci : Nat) (Cn : String) (Tn : u_T) (N : Nat) (ty : Nat → FieldType) : Prop := classes[ci]? = some (Cn, Tn, N) ∧ (∀ w ∈ u_ws Cn Tn N, w ∈ wd_tb) ∧ (∀ k, k < N → parseFieldDescriptor (Tn k).2.2.1 = some (ty k)) ∧ ∀ a, a < N → ∀ b, b < N → a ≠ b → (Tn a).2.1 ≠ (Tn b).2.1
section WD
variable {p : Program} {l : Launch} {e : Env} {R : Room} {s : State} {m : MethodId} {args : Array Value} {below : List Frame} {meth : Method} {c : Code} {H : Heap} {locs : List Loc} {cells slots : Nat} {Q : State → Prop}
variable {cc : ByteArray} {pc nL : Nat} {ls : Array Slot} {rest : List Value} {D : va_G} {T : Nat → ClassId} {A : Nat → Prop} {σ : wd_S} {a ci N k index : Nat} {own Cn : String} {Tn : u_T} {ty : Nat → FieldType} {fs : List Value} {v : Value}
theorem wd_set {L : List Nat} {f : Nat → va_E} {q0 : Nat} {e0 e1 : va_E} {H1 : Heap} (hσ : wd_L σ L f) (hD : va_D A (va_pl L f)) (ha : σ a = some e0) (hq : (va_pl L f)[q0]? = some (a, e0)) (hP1 : va_P D classes ((va_pl L f).set q0 (a, e1)) H1) (hD1 : va_D A ((va_pl L f).set q0 (a, e1))) : wd_W D A (wd_up σ a e1) H1 := by
  obtain ⟨hL, hf⟩ := hσ.mem ha
  have he : (va_pl L f).set q0 (a, e1) = va_pl L (va_up f a e1) := va_pl_set (X := []) hD hL (by rw [hf]; exact hq)
  rw [he] at hP1 hD1
  refine ⟨L, va_up f a e1, hP1, hD1, fun b => ?_⟩
  by_cases hba : b = a
  · subst hba
    exact Or.inl ⟨hL, by rw [wd_us, va_up_self]⟩
  · rw [wd_un σ e1 hba, va_up_ne _ _ hba]
    exact hσ b
theorem wd_push {L : List Nat} {f : Nat → va_E} {q : Nat} {e1 : va_E} {H1 : Heap} (hσ : wd_L σ L f) (hP1 : va_P D classes (va_pl L f ++ [(q, e1)]) H1) (hD1 : va_D A (va_pl L f ++ [(q, e1)])) : σ q = none ∧ wd_W D A (wd_up σ q e1) H1 := by
  have hq : q ∉ L := fun h => by
    obtain ⟨k, hk⟩ := va_pl_get (X := []) (f := f) h
    have hk : (va_pl L f)[k]? = some (q, f q) := hk
    have hl := (List.getElem?_eq_some_iff.mp hk).1
    have := hD1.1 k (va_pl L f).length (q, f q) (q, e1) (by rw [List.getElem?_append_left hl]; exact hk) (by rw [List.getElem?_append_right (Nat.le_refl _), Nat.sub_self]; rfl) rfl
    omega
  have hn : σ q = none := by
    rcases hσ q with ⟨h1, h2⟩ | ⟨h1, h2⟩
    · exact absurd h1 hq
    · exact h2
  rw [va_pl_push hq] at hP1 hD1
  refine ⟨hn, L ++ [q], va_up f q e1, hP1, hD1, fun b => ?_⟩
  by_cases hba : b = q
  · subst hba
    exact Or.inl ⟨List.mem_append_right _ (List.mem_singleton.mpr rfl), by rw [wd_us, va_up_self]⟩
  · rw [wd_un σ e1 hba, va_up_ne _ _ hba]
    rcases hσ b with ⟨h1, h2⟩ | ⟨h1, h2⟩
    · exact Or.inl ⟨List.mem_append_left _ h1, h2⟩
    · refine Or.inr ⟨fun h => ?_, h2⟩
      rcases List.mem_append.mp h with h | h
      · exact h1 h
      · exact hba (List.mem_singleton.mp h)
theorem wd_place {L : List Nat} {f : Nat → va_E} {e0 : va_E} (hσ : wd_L σ L f) (ha : σ a = some e0) : ∃ q0 : Nat, (va_pl L f)[q0]? = some (a, e0) := by
  obtain ⟨hL, hf⟩ := hσ.mem ha
  obtain ⟨q0, hq⟩ := va_pl_get (X := []) (f := f) hL
  exact ⟨q0, by rw [← hf]; exact hq⟩
-- fields
theorem wd_get (C : CallFix p m c cc nL s args wd_tb own) (h : wd_C D T A s H locs σ) (hc : wd_cl ci Cn Tn N ty) (he : σ a = some (.inr (ci, fs))) (k : Nat) (hk : k < N) (hlink : Cond.fieldLink own index (Tn k).1 (Tn k).2.1 (Tn k).2.2.1 ∈ wd_tb) (hv : fs[k]? = some v) (hdg : decode cc pc = .ok (.getfield index, 3))
    (kk : W p l e R s m args below meth c H locs cells slots Q (F0 m (pc + 3) ls (v :: rest))) : W p l e R s m args below meth c H locs cells slots Q (F0 m pc ls (.ref a :: rest)) := by
  obtain ⟨⟨L, f, hP, hD, hσ⟩, hS, hK, hA, hZ⟩ := h
  obtain ⟨q0, hq⟩ := wd_place hσ he
  exact va_get C.1 C.2.1 C.2.2.2.2 hc.2.1 C.2.2.2.1 hK hP q0 hq hc.1 k hk (C.2.2.2.2 _ hlink) (fun _ h9 => h9) hv hdg kk
theorem wd_getN {host : String} (C : CallFix p m c cc nL s args wd_tb own) (h : wd_C D T A s H locs σ) (hc : wd_cl ci Cn Tn N ty) (he : σ a = some (.inr (ci, fs))) (k : Nat) (hk : k < N) (hlink : Cond.fieldLinkNest own index (Tn k).1 (Tn k).2.1 (Tn k).2.2.1 host ∈ lw_tbl) (hv : fs[k]? = some v) (hdg : decode cc pc = .ok (.getfield index, 3))
    (kk : W p l e R s m args below meth c H locs cells slots Q (F0 m (pc + 3) ls (v :: rest))) : W p l e R s m args below meth c H locs cells slots Q (F0 m pc ls (.ref a :: rest)) := by
  obtain ⟨⟨L, f, hP, hD, hσ⟩, hS, hK, hA, hZ⟩ := h
  obtain ⟨q0, hq⟩ := wd_place hσ he
  exact va_getN C.1 C.2.1 C.2.2.2.2 hc.2.1 C.2.2.2.1 hK hP q0 hq hc.1 k hk (va_Nw.use rfl (hZ.2 _ hlink rfl)) (fun _ h9 => h9) hv hdg kk
theorem wd_put (C : CallFix p m c cc nL s args wd_tb own) (h : wd_C D T A s H locs σ) (hc : wd_cl ci Cn Tn N ty) (he : σ a = some (.inr (ci, fs))) (k : Nat) (hk : k < N) (hlink : Cond.fieldLink own index (Tn k).1 (Tn k).2.1 (Tn k).2.2.1 ∈ wd_tb) (hfin : (Tn k).2.2.2 = false) (hn : narrow (ty k) v = v) (hfit : fits (ty k) v = true) (hl : k < fs.length) (hdg : decode cc pc = .ok (.putfield index, 3))
    (kk : ∀ (H1 : Heap) (locs1 : List Loc), wd_C D T A s H1 locs1 (wd_up σ a (.inr (ci, fs.set k v))) → W p l e R s m args below meth c H1 locs1 cells slots Q (F0 m (pc + 3) ls rest)) : W p l e R s m args below meth c H locs cells slots Q (F0 m pc ls (v :: .ref a :: rest)) := by
  obtain ⟨⟨L, f, hP, hD, hσ⟩, hS, hK, hA, hZ⟩ := h
  obtain ⟨q0, hq⟩ := wd_place hσ he
  exact va_put C.1 C.2.1 C.2.2.2.2 hc.2.1 ty hc.2.2.1 hc.2.2.2 C.2.2.2.1 hK hP hD hS q0 hq hc.1 k hk (C.2.2.2.2 _ hlink) (fun _ h9 => h9) hfin (hc.2.2.1 k hk) hn hfit hl hdg (fun H1 locs1 hP1 hD1 hS1 => kk H1 locs1 ⟨wd_set hσ hD he hq hP1 hD1, hS1, hK, hA, hZ⟩)
theorem wd_putN {host : String} (C : CallFix p m c cc nL s args wd_tb own) (h : wd_C D T A s H locs σ) (hc : wd_cl ci Cn Tn N ty) (he : σ a = some (.inr (ci, fs))) (k : Nat) (hk : k < N) (hlink : Cond.fieldLinkNest own index (Tn k).1 (Tn k).2.1 (Tn k).2.2.1 host ∈ lw_tbl) (hfin : (Tn k).2.2.2 = false) (hn : narrow (ty k) v = v) (hfit : fits (ty k) v = true) (hl : k < fs.length) (hdg : decode cc pc = .ok (.putfield index, 3))
    (kk : ∀ (H1 : Heap) (locs1 : List Loc), wd_C D T A s H1 locs1 (wd_up σ a (.inr (ci, fs.set k v))) → W p l e R s m args below meth c H1 locs1 cells slots Q (F0 m (pc + 3) ls rest)) : W p l e R s m args below meth c H locs cells slots Q (F0 m pc ls (v :: .ref a :: rest)) := by
  obtain ⟨⟨L, f, hP, hD, hσ⟩, hS, hK, hA, hZ⟩ := h
  obtain ⟨q0, hq⟩ := wd_place hσ he
  exact va_putN C.1 C.2.1 C.2.2.2.2 hc.2.1 ty hc.2.2.1 hc.2.2.2 C.2.2.2.1 hK hP hD hS q0 hq hc.1 k hk (va_Nw.use rfl (hZ.2 _ hlink rfl)) (fun _ h9 => h9) hfin (hc.2.2.1 k hk) hn hfit hl hdg (fun H1 locs1 hP1 hD1 hS1 => kk H1 locs1 ⟨wd_set hσ hD he hq hP1 hD1, hS1, hK, hA, hZ⟩)
theorem wd_putF (C : CallFix p m c cc nL s args wd_tb own) (h : wd_C D T A s H locs σ) (hc : wd_cl ci Cn Tn N ty) (he : σ a = some (.inr (ci, fs))) (k : Nat) (hk : k < N) (hlink : Cond.fieldLink own index (Tn k).1 (Tn k).2.1 (Tn k).2.2.1 ∈ wd_tb) (hfin : (Tn k).2.2.2 = true) (hin2 : meth.name = "<init>") (hdecl : (Tn k).1 = own) (hn : narrow (ty k) v = v) (hfit : fits (ty k) v = true) (hl : k < fs.length) (hdg : decode cc pc = .ok (.putfield index, 3))
    (kk : ∀ (H1 : Heap) (locs1 : List Loc), wd_C D T A s H1 locs1 (wd_up σ a (.inr (ci, fs.set k v))) → W p l e R s m args below meth c H1 locs1 cells slots Q (F0 m (pc + 3) ls rest)) : W p l e R s m args below meth c H locs cells slots Q (F0 m pc ls (v :: .ref a :: rest)) := by
  obtain ⟨⟨L, f, hP, hD, hσ⟩, hS, hK, hA, hZ⟩ := h
  obtain ⟨q0, hq⟩ := wd_place hσ he
  exact va_putF C.1 C.2.1 C.2.2.2.2 hc.2.1 ty hc.2.2.1 hc.2.2.2 C.2.2.2.1 hK hP hD hS q0 hq hc.1 k hk (C.2.2.2.2 _ hlink) (fun _ h9 => h9) hfin hin2 hdecl (hc.2.2.1 k hk) hn hfit hl hdg (fun H1 locs1 hP1 hD1 hS1 => kk H1 locs1 ⟨wd_set hσ hD he hq hP1 hD1, hS1, hK, hA, hZ⟩)
-- arrays
theorem wd_iald (C : CallFix p m c cc nL s args wd_tb own) (h : wd_C D T A s H locs σ) (t0 : Nat) (ht : (wd_ty T)[t0]? = some (T t0, .int)) {n : Nat} {f : Nat → Int32} (he : σ a = some (.inl (T t0, n, .inl f))) {i : Int32} (hin : vp_in i n) (hdg : decode cc pc = .ok (.iaload, 1))
    (kk : W p l e R s m args below meth c H locs cells slots Q (F0 m (pc + 1) ls (.int (f i.toNatClampNeg) :: rest))) : W p l e R s m args below meth c H locs cells slots Q (F0 m pc ls (.int i :: .ref a :: rest)) := by
  obtain ⟨⟨L, g, hP, hD, hσ⟩, hS, hK, hA, hZ⟩ := h
  obtain ⟨q0, hq⟩ := wd_place hσ he
  exact va_iald C.1 C.2.1 hK hP q0 t0 hq ht hin hdg kk
theorem wd_zald (C : CallFix p m c cc nL s args wd_tb own) (h : wd_C D T A s H locs σ) (t0 : Nat) (ht : (wd_ty T)[t0]? = some (T t0, .boolean)) {n : Nat} {f : Nat → Int32} (he : σ a = some (.inl (T t0, n, .inl f))) {i : Int32} (hin : vp_in i n) (hdg : decode cc pc = .ok (.baload, 1))
    (kk : W p l e R s m args below meth c H locs cells slots Q (F0 m (pc + 1) ls (.int (f i.toNatClampNeg) :: rest))) : W p l e R s m args below meth c H locs cells slots Q (F0 m pc ls (.int i :: .ref a :: rest)) := by
  obtain ⟨⟨L, g, hP, hD, hσ⟩, hS, hK, hA, hZ⟩ := h
  obtain ⟨q0, hq⟩ := wd_place hσ he
  exact va_zald C.1 C.2.1 hK hP q0 t0 hq ht hin hdg kk
theorem wd_iast (C : CallFix p m c cc nL s args wd_tb own) (h : wd_C D T A s H locs σ) (t0 : Nat) (ht : (wd_ty T)[t0]? = some (T t0, .int)) {n : Nat} {f : Nat → Int32} (he : σ a = some (.inl (T t0, n, .inl f))) {i x : Int32} (hin : vp_in i n) (hdg : decode cc pc = .ok (.iastore, 1))
    (kk : ∀ (H1 : Heap) (locs1 : List Loc), wd_C D T A s H1 locs1 (wd_up σ a (.inl (T t0, n, .inl (upd f i.toNatClampNeg x)))) → W p l e R s m args below meth c H1 locs1 cells slots Q (F0 m (pc + 1) ls rest)) : W p l e R s m args below meth c H locs cells slots Q (F0 m pc ls (.int x :: .int i :: .ref a :: rest)) := by
  obtain ⟨⟨L, g, hP, hD, hσ⟩, hS, hK, hA, hZ⟩ := h
  obtain ⟨q0, hq⟩ := wd_place hσ he
  exact va_iast C.1 C.2.1 hK hP hD hS q0 t0 hq ht hin hdg (fun H1 locs1 hP1 hD1 hS1 => kk H1 locs1 ⟨wd_set hσ hD he hq hP1 hD1, hS1, hK, hA, hZ⟩)
theorem wd_zast (C : CallFix p m c cc nL s args wd_tb own) (h : wd_C D T A s H locs σ) (t0 : Nat) (ht : (wd_ty T)[t0]? = some (T t0, .boolean)) {n : Nat} {f : Nat → Int32} (he : σ a = some (.inl (T t0, n, .inl f))) {i x : Int32} (hin : vp_in i n) (hdg : decode cc pc = .ok (.bastore, 1))
    (kk : ∀ (H1 : Heap) (locs1 : List Loc), wd_C D T A s H1 locs1 (wd_up σ a (.inl (T t0, n, .inl (upd f i.toNatClampNeg (vp_nar .boolean x))))) → W p l e R s m args below meth c H1 locs1 cells slots Q (F0 m (pc + 1) ls rest)) : W p l e R s m args below meth c H locs cells slots Q (F0 m pc ls (.int x :: .int i :: .ref a :: rest)) := by
  obtain ⟨⟨L, g, hP, hD, hσ⟩, hS, hK, hA, hZ⟩ := h
  obtain ⟨q0, hq⟩ := wd_place hσ he
  exact va_zast C.1 C.2.1 hK hP hD hS q0 t0 hq ht hin hdg (fun H1 locs1 hP1 hD1 hS1 => kk H1 locs1 ⟨wd_set hσ hD he hq hP1 hD1, hS1, hK, hA, hZ⟩)
theorem wd_aldq (C : CallFix p m c cc nL s args wd_tb own) (h : wd_C D T A s H locs σ) (t0 : Nat) {E : String} (ht : (wd_ty T)[t0]? = some (T t0, .object E)) {n : Nat} {f : Nat → Option Nat} (he : σ a = some (.inl (T t0, n, .inr (.inr (.inr (.inr f)))))) {i : Int32} (hin : vp_in i n) (hdg : decode cc pc = .ok (.aaload, 1))
    (kk : W p l e R s m args below meth c H locs cells slots Q (F0 m (pc + 1) ls (va_rf (f i.toNatClampNeg) :: rest))) : W p l e R s m args below meth c H locs cells slots Q (F0 m pc ls (.int i :: .ref a :: rest)) := by
  obtain ⟨⟨L, g, hP, hD, hσ⟩, hS, hK, hA, hZ⟩ := h
  obtain ⟨q0, hq⟩ := wd_place hσ he
  exact va_aldq C.1 C.2.1 hK hP q0 t0 hq ht hin hdg kk
theorem wd_astq (C : CallFix p m c cc nL s args wd_tb own) (h : wd_C D T A s H locs σ) (t0 : Nat) {r : vw_C} (ht : (wd_ty T)[t0]? = some (T t0, .object r.1)) {n v : Nat} {f : Nat → Option Nat} (he : σ a = some (.inl (T t0, n, .inr (.inr (.inr (.inr f)))))) (hv : σ v = some (.inr (ci, fs))) (hc : classes[ci]? = some r) {i : Int32} (hin : vp_in i n) (hdg : decode cc pc = .ok (.aastore, 1))
    (kk : ∀ (H1 : Heap) (locs1 : List Loc), wd_C D T A s H1 locs1 (wd_up σ a (.inl (T t0, n, .inr (.inr (.inr (.inr (va_up f i.toNatClampNeg (some v)))))))) → W p l e R s m args below meth c H1 locs1 cells slots Q (F0 m (pc + 1) ls rest)) : W p l e R s m args below meth c H locs cells slots Q (F0 m pc ls (.ref v :: .int i :: .ref a :: rest)) := by
  obtain ⟨⟨L, g, hP, hD, hσ⟩, hS, hK, hA, hZ⟩ := h
  obtain ⟨q0, hq⟩ := wd_place hσ he
  obtain ⟨qk, hqk⟩ := wd_place hσ hv
  exact va_astq C.1 C.2.1 hK hP hD hS q0 t0 qk ci hq ht hqk hc hin hdg (fun H1 locs1 hP1 hD1 hS1 => kk H1 locs1 ⟨wd_set hσ hD he hq hP1 hD1, hS1, hK, hA, hZ⟩)
theorem wd_alen (C : CallFix p m c cc nL s args wd_tb own) (h : wd_C D T A s H locs σ) (t0 : Nat) {fty : FieldType} (ht : (wd_ty T)[t0]? = some (T t0, fty)) {x : vp_A} (he : σ a = some (.inl (T t0, x))) (hdg : decode cc pc = .ok (.arraylength, 1))
    (kk : W p l e R s m args below meth c H locs cells slots Q (F0 m (pc + 1) ls (.int (nI x.1) :: rest))) : W p l e R s m args below meth c H locs cells slots Q (F0 m pc ls (.ref a :: rest)) := by
  obtain ⟨⟨L, g, hP, hD, hσ⟩, hS, hK, hA, hZ⟩ := h
  obtain ⟨q0, hq⟩ := wd_place hσ he
  exact va_alen C.1 C.2.1 hK hP q0 t0 hq ht rfl hdg kk
-- new cells
theorem wd_new (C : CallFix p m c cc nL s args wd_tb own) (h : wd_C D T A s H locs σ) (hc : wd_cl ci Cn Tn N ty) (hcl : Cond.classLink own index Cn ∈ wd_tb) (hinst : Cond.instantiable Cn N ∈ wd_tb) (hini : Cond.initialized Cn ∈ wd_tb) (hfs : ∀ j, j < N → defaultValue (ty j) = vp_V fs j) (hcells : cells + 1 ≤ R.cells) (hslots : slots + N ≤ R.slots) (hdg : decode cc pc = .ok (.new index, 3))
    (kk : ∀ (q : Nat) (H1 : Heap), σ q = none → wd_C D T A s H1 locs (wd_up σ q (.inr (ci, fs))) → W p l e R s m args below meth c H1 locs (cells + 1) (slots + N) Q (F0 m (pc + 3) ls (.ref q :: rest))) : W p l e R s m args below meth c H locs cells slots Q (F0 m pc ls rest) := by
  obtain ⟨⟨L, g, hP, hD, hσ⟩, hS, hK, hA, hZ⟩ := h
  refine va_new C.1 C.2.1 C.2.2.2.2 hc.2.1 ty hc.2.2.1 C.2.2.2.1 (C.2.2.2.2 _ hcl) (C.2.2.2.2 _ hinst) (C.2.2.2.2 _ hini) hK hP hD hS hA hc.1 hfs hcells hslots hdg (fun q H1 hP1 hD1 hS1 => ?_)
  obtain ⟨h1, h2⟩ := wd_push hσ hP1 hD1
  exact kk q H1 h1 ⟨h2, hS1, hK, hA, hZ⟩
theorem wd_newi (C : CallFix p m c cc nL s args wd_tb own) (h : wd_C D T A s H locs σ) (t0 : Nat) (ht : (wd_ty T)[t0]? = some (T t0, .int)) (harr : Cond.arrayClass .int ∈ wd_tb) (n : Int32) (N' : Nat) (hn : ¬ n < 0) (hN : n.toNatClampNeg = N') (hbytes : N' * componentBytes .int ≤ 536870912) (hcells : cells + 1 ≤ R.cells) (hslots : slots + N' ≤ R.slots) (hdg : decode cc pc = .ok (.newarray .int, 2))
    (kk : ∀ (q : Nat) (H1 : Heap), σ q = none → wd_C D T A s H1 locs (wd_up σ q (.inl (T t0, N', .inl (fun _ => 0)))) → W p l e R s m args below meth c H1 locs (cells + 1) (slots + N') Q (F0 m (pc + 2) ls (.ref q :: rest))) : W p l e R s m args below meth c H locs cells slots Q (F0 m pc ls (.int n :: rest)) := by
  obtain ⟨⟨L, g, hP, hD, hσ⟩, hS, hK, hA, hZ⟩ := h
  refine va_newa (atype := .int) (ty := .int) (a0 := (N', .inl (fun _ => 0))) C.1 C.2.1 (C.2.2.2.2 _ harr) rfl hK hP hD hS hA (fun cA => by rw [vp_cell_i]; rfl) hn hN hbytes hcells hslots hdg (fun q cA H1 hK1 hP1 hD1 hS1 => ?_)
  have e1 : s.vm.findClass ("[" ++ FieldType.int.toString) = some cA := (hK1.2 (wd_ty T).length (cA, .int) (by rw [List.getElem?_append_right (Nat.le_refl _), Nat.sub_self]; rfl)).2
  have e2 : s.vm.findClass ("[" ++ FieldType.int.toString) = some (T t0) := (hK.2 t0 _ ht).2
  have e3 : cA = T t0 := Option.some.inj (e1.symm.trans e2)
  subst e3
  obtain ⟨h1, h2⟩ := wd_push hσ hP1 hD1
  exact kk q H1 h1 ⟨h2, hS1, hK, hA, hZ⟩
theorem wd_newz (C : CallFix p m c cc nL s args wd_tb own) (h : wd_C D T A s H locs σ) (t0 : Nat) (ht : (wd_ty T)[t0]? = some (T t0, .boolean)) (harr : Cond.arrayClass .boolean ∈ wd_tb) (n : Int32) (N' : Nat) (hn : ¬ n < 0) (hN : n.toNatClampNeg = N') (hbytes : N' * componentBytes .boolean ≤ 536870912) (hcells : cells + 1 ≤ R.cells) (hslots : slots + N' ≤ R.slots) (hdg : decode cc pc = .ok (.newarray .boolean, 2))
    (kk : ∀ (q : Nat) (H1 : Heap), σ q = none → wd_C D T A s H1 locs (wd_up σ q (.inl (T t0, N', .inl (fun _ => 0)))) → W p l e R s m args below meth c H1 locs (cells + 1) (slots + N') Q (F0 m (pc + 2) ls (.ref q :: rest))) : W p l e R s m args below meth c H locs cells slots Q (F0 m pc ls (.int n :: rest)) := by
  obtain ⟨⟨L, g, hP, hD, hσ⟩, hS, hK, hA, hZ⟩ := h
  refine va_newa (atype := .boolean) (ty := .boolean) (a0 := (N', .inl (fun _ => 0))) C.1 C.2.1 (C.2.2.2.2 _ harr) rfl hK hP hD hS hA (fun cA => by rw [vp_cell_i]; rfl) hn hN hbytes hcells hslots hdg (fun q cA H1 hK1 hP1 hD1 hS1 => ?_)
  have e1 : s.vm.findClass ("[" ++ FieldType.boolean.toString) = some cA := (hK1.2 (wd_ty T).length (cA, .boolean) (by rw [List.getElem?_append_right (Nat.le_refl _), Nat.sub_self]; rfl)).2
  have e2 : s.vm.findClass ("[" ++ FieldType.boolean.toString) = some (T t0) := (hK.2 t0 _ ht).2
  have e3 : cA = T t0 := Option.some.inj (e1.symm.trans e2)
  subst e3
  obtain ⟨h1, h2⟩ := wd_push hσ hP1 hD1
  exact kk q H1 h1 ⟨h2, hS1, hK, hA, hZ⟩
theorem wd_newq (C : CallFix p m c cc nL s args wd_tb own) (h : wd_C D T A s H locs σ) (t0 : Nat) {E : String} (ht : (wd_ty T)[t0]? = some (T t0, .object E)) (hcl : Cond.classLink own index E ∈ wd_tb) (hover : Cond.arrayOver (.object E) ∈ lw_tbl) (n : Int32) (N' : Nat) (hn : ¬ n < 0) (hN : n.toNatClampNeg = N') (hbytes : N' * 4 ≤ 536870912) (hcells : cells + 1 ≤ R.cells) (hslots : slots + N' ≤ R.slots) (hdg : decode cc pc = .ok (.anewarray index, 3))
    (kk : ∀ (q : Nat) (H1 : Heap), σ q = none → wd_C D T A s H1 locs (wd_up σ q (.inl (T t0, N', .inr (.inr (.inr (.inr (fun _ => none))))))) → W p l e R s m args below meth c H1 locs (cells + 1) (slots + N') Q (F0 m (pc + 3) ls (.ref q :: rest))) : W p l e R s m args below meth c H locs cells slots Q (F0 m pc ls (.int n :: rest)) := by
  obtain ⟨⟨L, g, hP, hD, hσ⟩, hS, hK, hA, hZ⟩ := h
  refine va_newq C.1 C.2.1 C.2.2.2.1 (C.2.2.2.2 _ hcl) (hZ.2 _ hover rfl) hK hP hD hS hA hn hN hbytes hcells hslots hdg (fun q cA H1 hK1 hP1 hD1 hS1 => ?_)
  obtain ⟨kA, comp, -, -, -, e1⟩ := (hK1.2 (wd_ty T).length (cA, .object E) (by rw [List.getElem?_append_right (Nat.le_refl _), Nat.sub_self]; rfl)).2
  obtain ⟨kA', comp', -, -, -, e2⟩ := (hK.2 t0 _ ht).2
  have e3 : cA = T t0 := Option.some.inj (e1.symm.trans e2)
  subst e3
  obtain ⟨h1, h2⟩ := wd_push hσ hP1 hD1
  exact kk q H1 h1 ⟨h2, hS1, hK, hA, hZ⟩
-- static tables
theorem wd_gets (C : CallFix p m c cc nL s args wd_tb own) (h : wd_C D T A s H locs σ) {Cs nm : String} {tab : List Int32} (hq : (Cs, nm, tab) ∈ wd_st) (hlink : Cond.fieldLink own index Cs nm "[I" ∈ wd_tb) (hdg : decode cc pc = .ok (.getstatic index, 3))
    (kk : ∀ t : Nat, wd_T A s s.heap t tab → W p l e R s m args below meth c H locs cells slots Q (F0 m (pc + 3) ls (.ref t :: rest))) : W p l e R s m args below meth c H locs cells slots Q (F0 m pc ls rest) := by
  obtain ⟨hw, hS, hK, hA, hZ⟩ := h
  obtain ⟨t, h1, h2⟩ := hZ.1 _ hq
  exact va_gets C.1 C.2.1 h1 hS C.2.2.2.1 (C.2.2.2.2 _ hlink) (fun _ h9 => h9) hdg (kk t h2)
theorem wd_getsN {host : String} (C : CallFix p m c cc nL s args wd_tb own) (h : wd_C D T A s H locs σ) {Cs nm : String} {tab : List Int32} (hq : (Cs, nm, tab) ∈ wd_st) (hlink : Cond.fieldLinkNest own index Cs nm "[I" host ∈ lw_tbl) (hdg : decode cc pc = .ok (.getstatic index, 3))
    (kk : ∀ t : Nat, wd_T A s s.heap t tab → W p l e R s m args below meth c H locs cells slots Q (F0 m (pc + 3) ls (.ref t :: rest))) : W p l e R s m args below meth c H locs cells slots Q (F0 m pc ls rest) := by
  obtain ⟨hw, hS, hK, hA, hZ⟩ := h
  obtain ⟨t, h1, h2⟩ := hZ.1 _ hq
  exact va_getsN C.1 C.2.1 h1 hS C.2.2.2.1 (va_Nw.use rfl (hZ.2 _ hlink rfl)) (fun _ h9 => h9) hdg (kk t h2)
theorem wd_ti (C : CallFix p m c cc nL s args wd_tb own) (h : wd_C D T A s H locs σ) {t : Nat} {tab : List Int32} (hT : wd_T A s s.heap t tab) {i : Int32} (hin : vp_in i tab.length) (hdg : decode cc pc = .ok (.iaload, 1))
    (kk : W p l e R s m args below meth c H locs cells slots Q (F0 m (pc + 1) ls (.int (tab.getD i.toNatClampNeg 0) :: rest))) : W p l e R s m args below meth c H locs cells slots Q (F0 m pc ls (.int i :: .ref t :: rest)) :=
  va_ti C.1 C.2.1 hT h.2.1 hin rfl hdg kk
-- ends
variable {Qc : Array Value → State → Outcome → State → Prop} {mc ms : Nat} {postI : Int32 → wd_S → Prop} {postV : wd_S → Prop} {postQ : Option Nat → wd_S → Prop}
theorem wd_iret (C : CallFix p m c cc nL s args wd_tb own) (hr : meth.sig.returnType = some .int) (hlocks : meth.locks = false) (h : wd_C D T A s H locs σ) {x : Int32} (hp : postI x σ) (hc : cells ≤ mc) (hs : slots ≤ ms) (hdg : decode cc pc = .ok (.ireturn, 1)) : W p l e R s m args below meth c H locs cells slots (MQ below (va_Qi postI (wd_B D A) A) args s mc ms A) (F0 m pc ls [.int x]) :=
  W.widen hc hs (W.iret (v := x) C.1 C.2.1 hr (fun t ht _ => ⟨⟨x, σ, rfl, hp, by rw [wd_B, ht]; exact h.1⟩, h.2.1.F ht⟩) h.2.1.2.2 hdg hlocks)
theorem wd_zret (C : CallFix p m c cc nL s args wd_tb own) (hr : meth.sig.returnType = some .boolean) (hlocks : meth.locks = false) (h : wd_C D T A s H locs σ) {x : Int32} (hn : x = 0 ∨ x = 1) (hp : postI x σ) (hc : cells ≤ mc) (hs : slots ≤ ms) (hdg : decode cc pc = .ok (.ireturn, 1)) : W p l e R s m args below meth c H locs cells slots (MQ below (va_Qi postI (wd_B D A) A) args s mc ms A) (F0 m pc ls [.int x]) :=
  W.widen hc hs (W.zret (v := x) C.1 C.2.1 hr (by rcases hn with rfl | rfl <;> rfl) (fun t ht _ => ⟨⟨x, σ, rfl, hp, by rw [wd_B, ht]; exact h.1⟩, h.2.1.F ht⟩) h.2.1.2.2 hdg hlocks)
theorem wd_vret (C : CallFix p m c cc nL s args wd_tb own) (hr : meth.sig.returnType = none) (hlocks : meth.locks = false) (h : wd_C D T A s H locs σ) (hp : postV σ) (hc : cells ≤ mc) (hs : slots ≤ ms) (hdg : decode cc pc = .ok (.return_, 1)) : W p l e R s m args below meth c H locs cells slots (MQ below (va_Qv postV (wd_B D A) A) args s mc ms A) (F0 m pc ls []) :=
  W.widen hc hs (W.vret C.1 C.2.1 hr (fun t ht _ => ⟨⟨σ, rfl, hp, by rw [wd_B, ht]; exact h.1⟩, h.2.1.F ht⟩) h.2.1.2.2 hdg hlocks)
theorem wd_aret {n : String} (C : CallFix p m c cc nL s args wd_tb own) (hr : meth.sig.returnType = some (.object n)) (hlocks : meth.locks = false) (h : wd_C D T A s H locs σ) {x : Option Nat} (hp : postQ x σ) (hc : cells ≤ mc) (hs : slots ≤ ms) (hdg : decode cc pc = .ok (.areturn, 1)) : W p l e R s m args below meth c H locs cells slots (MQ below (va_Qq postQ (wd_B D A) A) args s mc ms A) (F0 m pc ls [va_rf x]) :=
  W.widen hc hs (W.aret (v := va_rf x) C.1 C.2.1 hr (Or.inl ⟨n, rfl⟩) (by cases x with | none => exact Or.inl rfl | some y => exact Or.inr ⟨y, rfl⟩) (fun t ht _ => ⟨⟨x, σ, rfl, hp, by rw [wd_B, ht]; exact h.1⟩, h.2.1.F ht⟩) h.2.1.2.2 hdg hlocks)
-- entry
theorem wd_ofW {y : MethodName} {rm : Room} {maxL : Nat} {ret : Option FieldType} {av : List Value} (hy : plainName y.cls = true) (hlen : (lg_sl av).length ≤ maxL)
    (body : ∀ (p : Program) (e : Env) (s : State) (m : MethodId) (below : List Frame) (meth : Method) (c : Code) (ls : Array Slot), CallFix p m c cc maxL s av.toArray wd_tb y.cls → meth.sig.returnType = ret → meth.locks = false → meth.name = y.name → wd_C D T A s s.heap [] σ → lv_has ls maxL (lv_args 0 av) → W p l e rm s m av.toArray below meth c s.heap [] 0 0 (MQ below Qc av.toArray s mc ms A) (F0 m 0 ls [])) :
    Met l y (Cond.code y cc maxL ret :: wd_tb) rm (va_Pc av (wd_Pre D T A σ)) Qc mc ms A := by
  refine Met.ofW (cc := cc) (maxL := maxL) (ret := ret) hy rfl ?_
  intro p e s m args below meth c s₁ B hml hv
  obtain ⟨rfl, h⟩ := hv
  have hts := atoms_spec (ws := Cond.code y cc maxL ret :: wd_tb) B.pre
  have hown : s.vm.findClass y.cls = some m.cls := findClass_of_methodNamed B.named
  rw [lg_entry_eq]
  exact body p e s m below meth c _ ⟨B.exec, B.bytes, hml, hown, fun w hw => hts w (List.mem_cons_of_mem _ hw)⟩ B.returns B.notSynchronized (name_of_methodNamed B.named B.method).1 h (lv_entry av hlen)
end WD
-- calls
section WR
variable {p : Program} {l : Launch} {e : Env} {R : Room} {s : State} {m : MethodId} {args : Array Value} {below : List Frame} {meth : Method} {c : Code} {H : Heap} {locs : List Loc} {cells slots : Nat} {Q : State → Prop}
variable {cc bytes : ByteArray} {pc nL maxL mc ms n ci index b : Nat} {ls : Array Slot} {rest As st0 : List Value} {D : va_G} {T : Nat → ClassId} {A : Nat → Prop} {σ : wd_S} {own host : String} {y : MethodName} {ret : Option FieldType} {rm : Room} {Qc : Array Value → State → Outcome → State → Prop} {fs : List Value} {Cn : String} {Tn : u_T} {N : Nat} {ty : Nat → FieldType} {av : Array Value} {postI : Int32 → wd_S → Prop} {postV : wd_S → Prop} {postQ : Option Nat → wd_S → Prop}
theorem wd_good (hc : Cond.code y bytes maxL ret ∈ wd_tb) : GoodIn wd_tb (Cond.code y bytes maxL ret :: wd_tb) := fun w hw => by
  rcases List.mem_cons.mp hw with rfl | hw
  · exact ⟨hc, wd_goodAll _ hc⟩
  · exact ⟨hw, wd_goodAll _ hw⟩
/-- of a callee: what the tables say, and what can be decided of its name -/
def wd_yk (y : MethodName) (bytes : ByteArray) (maxL n : Nat) (ret : Option FieldType) : Prop := Cond.code y bytes maxL ret ∈ wd_tb ∧ Cond.initialized y.cls ∈ wd_tb ∧ (y.cls ≠ "java/lang/invoke/MethodHandle" ∧ y.cls ≠ "java/lang/invoke/VarHandle" ∧ (parseMethodDescriptor y.desc).map (fun d => d.parameters.length) = some n)
theorem wd_rS (C : CallFix p m c cc nL s args wd_tb own) (h : wd_C D T A s H locs σ) (hk : wd_yk y bytes maxL n ret) (hst : Cond.static y ∈ wd_tb) (hlink : Cond.methodLink own index y ∈ wd_tb) (hM : Met l y (Cond.code y bytes maxL ret :: wd_tb) rm (va_Pc As (wd_Pre D T A σ)) Qc mc ms A) (hrc : rm.cells = mc) (hrs : rm.slots = ms) (hR : rm.frames + 1 ≤ R.frames ∧ 8 + (maxL + 11) + rm.locals ≤ R.locals) (hn : As.length = n) (hsz : ls.size = nL) (hstack : st0 = As.reverse ++ rest) (hW : (rest.map fun v => v.category).sum ≤ 8) (hdg : decode cc pc = .ok (.invokestatic index, 3)) (hf : cells + mc ≤ R.cells ∧ slots + ms ≤ R.slots) :
    va_Run p l e R s m args below meth c H locs cells slots mc ms (F0 m pc ls st0) rest (Qc As.toArray) A :=
  va_runS C hM ⟨callB_of n C.2.2.2.2 (wd_good hk.1) rfl hrc hrs (C.2.2.2.2 _ hk.2.1) (C.2.2.2.2 _ hlink) hk.2.2 hR, C.2.2.2.2 _ hst⟩ ⟨wd_blind, fun U hU hW => ⟨rfl, wd_enter h hU hW⟩⟩ rfl hn hsz hstack (lv_room hW) hdg hf
theorem wd_rSN (C : CallFix p m c cc nL s args wd_tb own) (h : wd_C D T A s H locs σ) (hk : wd_yk y bytes maxL n ret) (hst : Cond.static y ∈ wd_tb) (hlink : Cond.methodLinkNest own index y host ∈ lw_tbl) (hM : Met l y (Cond.code y bytes maxL ret :: wd_tb) rm (va_Pc As (wd_Pre D T A σ)) Qc mc ms A) (hrc : rm.cells = mc) (hrs : rm.slots = ms) (hR : rm.frames + 1 ≤ R.frames ∧ 8 + (maxL + 11) + rm.locals ≤ R.locals) (hn : As.length = n) (hsz : ls.size = nL) (hstack : st0 = As.reverse ++ rest) (hW : (rest.map fun v => v.category).sum ≤ 8) (hdg : decode cc pc = .ok (.invokestatic index, 3)) (hf : cells + mc ≤ R.cells ∧ slots + ms ≤ R.slots) :
    va_Run p l e R s m args below meth c H locs cells slots mc ms (F0 m pc ls st0) rest (Qc As.toArray) A :=
  va_runSN C hM ⟨va_cnB n C.2.2.2.2 (wd_good hk.1) rfl hrc hrs (h.2.2.2.2.2 _ hlink rfl) (C.2.2.2.2 _ hk.2.1) hk.2.2 hR, C.2.2.2.2 _ hst, trivial⟩ ⟨wd_blind, fun U hU hW => ⟨rfl, wd_enter h hU hW⟩⟩ rfl hn hsz hstack (lv_room hW) hdg hf
theorem wd_recv (h : wd_C D T A s H locs σ) (hc : wd_cl ci Cn Tn N ty) (he : σ b = some (.inr (ci, fs))) : ∃ cell : Cell, H[b]? = some cell ∧ cell.vm.isStatics = false ∧ s.vm.findClass Cn = some cell.cls := by
  obtain ⟨⟨L, f, hP, hD, hσ⟩, hS, hK, hA, hZ⟩ := h
  obtain ⟨q0, hq⟩ := wd_place hσ he
  exact va_recv hK hP hc.1 hq
theorem wd_rV (C : CallFix p m c cc nL s args wd_tb own) (h : wd_C D T A s H locs σ) (hc : wd_cl ci Cn Tn N ty) (he : σ b = some (.inr (ci, fs))) (hk : wd_yk y bytes maxL n ret) (hin : Cond.instanceMethod y ∈ wd_tb) (hsel : Cond.selects Cn y y ∈ wd_tb) (hlink : Cond.methodLink own index y ∈ wd_tb) (hM : Met l y (Cond.code y bytes maxL ret :: wd_tb) rm (va_Pc (.ref b :: As) (wd_Pre D T A σ)) Qc mc ms A) (hrc : rm.cells = mc) (hrs : rm.slots = ms) (hR : rm.frames + 1 ≤ R.frames ∧ 8 + (maxL + 11) + rm.locals ≤ R.locals) (hn : As.length = n) (hsz : ls.size = nL) (hstack : st0 = As.reverse ++ .ref b :: rest) (hW : (rest.map fun v => v.category).sum ≤ 8) (hdg : decode cc pc = .ok (.invokevirtual index, 3)) (hf : cells + mc ≤ R.cells ∧ slots + ms ≤ R.slots) :
    va_Run p l e R s m args below meth c H locs cells slots mc ms (F0 m pc ls st0) rest (Qc (Value.ref b :: As).toArray) A :=
  va_runV C hM ⟨callB_of n C.2.2.2.2 (wd_good hk.1) rfl hrc hrs (C.2.2.2.2 _ hk.2.1) (C.2.2.2.2 _ hlink) hk.2.2 hR, C.2.2.2.2 _ hin, C.2.2.2.2 _ hsel⟩ ⟨wd_blind, wd_recv h hc he, fun U hU hW => ⟨rfl, wd_enter h hU hW⟩⟩ rfl hn hsz hstack (lv_room hW) hdg hf
theorem wd_rVN (C : CallFix p m c cc nL s args wd_tb own) (h : wd_C D T A s H locs σ) (hc : wd_cl ci Cn Tn N ty) (he : σ b = some (.inr (ci, fs))) (hk : wd_yk y bytes maxL n ret) (hin : Cond.instanceMethod y ∈ wd_tb) (hsel : Cond.selects Cn y y ∈ wd_tb) (hlink : Cond.methodLinkNest own index y host ∈ lw_tbl) (hM : Met l y (Cond.code y bytes maxL ret :: wd_tb) rm (va_Pc (.ref b :: As) (wd_Pre D T A σ)) Qc mc ms A) (hrc : rm.cells = mc) (hrs : rm.slots = ms) (hR : rm.frames + 1 ≤ R.frames ∧ 8 + (maxL + 11) + rm.locals ≤ R.locals) (hn : As.length = n) (hsz : ls.size = nL) (hstack : st0 = As.reverse ++ .ref b :: rest) (hW : (rest.map fun v => v.category).sum ≤ 8) (hdg : decode cc pc = .ok (.invokevirtual index, 3)) (hf : cells + mc ≤ R.cells ∧ slots + ms ≤ R.slots) :
    va_Run p l e R s m args below meth c H locs cells slots mc ms (F0 m pc ls st0) rest (Qc (Value.ref b :: As).toArray) A :=
  va_runVN C hM ⟨va_cnB n C.2.2.2.2 (wd_good hk.1) rfl hrc hrs (h.2.2.2.2.2 _ hlink rfl) (C.2.2.2.2 _ hk.2.1) hk.2.2 hR, C.2.2.2.2 _ hin, C.2.2.2.2 _ hsel⟩ ⟨wd_blind, wd_recv h hc he, fun U hU hW => ⟨rfl, wd_enter h hU hW⟩⟩ rfl hn hsz hstack (lv_room hW) hdg hf
theorem wd_rI (C : CallFix p m c cc nL s args wd_tb own) (h : wd_C D T A s H locs σ) (hk : wd_yk y bytes maxL n none) (hin : Cond.instanceMethod y ∈ wd_tb) (hy1 : y.name = "<init>") (hlink : Cond.methodLink own index y ∈ wd_tb) (hM : Met l y (Cond.code y bytes maxL none :: wd_tb) rm (va_Pc (.ref b :: As) (wd_Pre D T A σ)) Qc mc ms A) (hrc : rm.cells = mc) (hrs : rm.slots = ms) (hR : rm.frames + 1 ≤ R.frames ∧ 8 + (maxL + 11) + rm.locals ≤ R.locals) (hn : As.length = n) (hsz : ls.size = nL) (hstack : st0 = As.reverse ++ .ref b :: rest) (hW : (rest.map fun v => v.category).sum ≤ 8) (hdg : decode cc pc = .ok (.invokespecial index, 3)) (hf : cells + mc ≤ R.cells ∧ slots + ms ≤ R.slots) :
    va_Run p l e R s m args below meth c H locs cells slots mc ms (F0 m pc ls st0) rest (Qc (Value.ref b :: As).toArray) A :=
  va_runI C hM ⟨callB_of n C.2.2.2.2 (wd_good hk.1) rfl hrc hrs (C.2.2.2.2 _ hk.2.1) (C.2.2.2.2 _ hlink) hk.2.2 hR, hy1, C.2.2.2.2 _ hin⟩ ⟨wd_blind, fun U hU hW => ⟨rfl, wd_enter h hU hW⟩⟩ rfl hn hsz hstack (lv_room hW) hdg hf
theorem wd_rIN (C : CallFix p m c cc nL s args wd_tb own) (h : wd_C D T A s H locs σ) (hk : wd_yk y bytes maxL n none) (hin : Cond.instanceMethod y ∈ wd_tb) (hy1 : y.name = "<init>") (hlink : Cond.methodLinkNest own index y host ∈ lw_tbl) (hM : Met l y (Cond.code y bytes maxL none :: wd_tb) rm (va_Pc (.ref b :: As) (wd_Pre D T A σ)) Qc mc ms A) (hrc : rm.cells = mc) (hrs : rm.slots = ms) (hR : rm.frames + 1 ≤ R.frames ∧ 8 + (maxL + 11) + rm.locals ≤ R.locals) (hn : As.length = n) (hsz : ls.size = nL) (hstack : st0 = As.reverse ++ .ref b :: rest) (hW : (rest.map fun v => v.category).sum ≤ 8) (hdg : decode cc pc = .ok (.invokespecial index, 3)) (hf : cells + mc ≤ R.cells ∧ slots + ms ≤ R.slots) :
    va_Run p l e R s m args below meth c H locs cells slots mc ms (F0 m pc ls st0) rest (Qc (Value.ref b :: As).toArray) A :=
  va_runIN C hM ⟨va_cnB n C.2.2.2.2 (wd_good hk.1) rfl hrc hrs (h.2.2.2.2.2 _ hlink rfl) (C.2.2.2.2 _ hk.2.1) hk.2.2 hR, hy1, C.2.2.2.2 _ hin⟩ ⟨wd_blind, fun U hU hW => ⟨rfl, wd_enter h hU hW⟩⟩ rfl hn hsz hstack (lv_room hW) hdg hf
theorem wd_ci (h : wd_C D T A s H locs σ) (hr : va_Run p l e R s m args below meth c H locs cells slots mc ms (F0 m pc ls st0) rest (va_Qi postI (wd_B D A) A av) A)
    (kk : ∀ (r : Int32) (σ1 : wd_S) (H1 : Heap) (locs1 : List Loc), postI r σ1 → wd_C D T A s H1 locs1 σ1 → W p l e R s m args below meth c H1 locs1 (cells + mc) (slots + ms) Q (F0 m (pc + 3) ls (.int r :: rest))) : W p l e R s m args below meth c H locs cells slots Q (F0 m pc ls st0) :=
  va_calli hr h.2.1 (fun _ _ z => z) (fun _ z => z) (fun r u t H1 locs1 ht _ hp hB _ _ hS => kk r u H1 locs1 hp ⟨by rw [← ht]; exact hB, hS, h.2.2⟩)
theorem wd_cv (h : wd_C D T A s H locs σ) (hr : va_Run p l e R s m args below meth c H locs cells slots mc ms (F0 m pc ls st0) rest (va_Qv postV (wd_B D A) A av) A)
    (kk : ∀ (σ1 : wd_S) (H1 : Heap) (locs1 : List Loc), postV σ1 → wd_C D T A s H1 locs1 σ1 → W p l e R s m args below meth c H1 locs1 (cells + mc) (slots + ms) Q (F0 m (pc + 3) ls rest)) : W p l e R s m args below meth c H locs cells slots Q (F0 m pc ls st0) :=
  va_callv hr h.2.1 (fun _ _ z => z) (fun _ z => z) (fun u t H1 locs1 ht _ hp hB _ _ hS => kk u H1 locs1 hp ⟨by rw [← ht]; exact hB, hS, h.2.2⟩)
theorem wd_cq (h : wd_C D T A s H locs σ) (hr : va_Run p l e R s m args below meth c H locs cells slots mc ms (F0 m pc ls st0) rest (va_Qq postQ (wd_B D A) A av) A)
    (kk : ∀ (r : Option Nat) (σ1 : wd_S) (H1 : Heap) (locs1 : List Loc), postQ r σ1 → wd_C D T A s H1 locs1 σ1 → W p l e R s m args below meth c H1 locs1 (cells + mc) (slots + ms) Q (F0 m (pc + 3) ls (va_rf r :: rest))) : W p l e R s m args below meth c H locs cells slots Q (F0 m pc ls st0) :=
  va_callq hr h.2.1 (fun _ _ z => z) (fun _ z => z) (fun r u t H1 locs1 ht _ hp hB _ _ hS => kk r u H1 locs1 hp ⟨by rw [← ht]; exact hB, hS, h.2.2⟩)
end WR
theorem k_F_init : wd_yk y_F_init b_F_init 1 0 none := ⟨wc_F_init, wi_F, by decide +kernel⟩
theorem k_P_init : wd_yk y_P_init b_P_init 1 0 none := ⟨wc_P_init, wi_P, by decide +kernel⟩
theorem k_F_item : wd_yk y_F_item b_F_item 5 4 (some .int) := ⟨wc_F_item, wi_F, by decide +kernel⟩
theorem k_F_within : wd_yk y_F_within b_F_within 3 3 (some .boolean) := ⟨wc_F_within, wi_F, by decide +kernel⟩
theorem k_F_turned : wd_yk y_F_turned b_F_turned 4 3 (some .int) := ⟨wc_F_turned, wi_F, by decide +kernel⟩
theorem k_I_init : wd_yk y_I_init b_I_init 5 4 none := ⟨wc_I_init, wi_I, by decide +kernel⟩
theorem k_F_service : wd_yk y_F_service b_F_service 5 2 (some .int) := ⟨wc_F_service, wi_F, by decide +kernel⟩
theorem k_F_find : wd_yk y_F_find b_F_find 2 1 (some (.object "ItemFacts$Item")) := ⟨wc_F_find, wi_F, by decide +kernel⟩
theorem k_I_has : wd_yk y_I_has b_I_has 2 1 (some .boolean) := ⟨wc_I_has, wi_I, by decide +kernel⟩
theorem k_I_isAtEnd : wd_yk y_I_isAtEnd b_I_isAtEnd 1 0 (some .boolean) := ⟨wc_I_isAtEnd, wi_I, by decide +kernel⟩
theorem k_I_leastExcluding : wd_yk y_I_leastExcluding b_I_leastExcluding 4 1 (some .int) := ⟨wc_I_leastExcluding, wi_I, by decide +kernel⟩
theorem k_I_lacksWhatIsWanted : wd_yk y_I_lacksWhatIsWanted b_I_lacksWhatIsWanted 2 1 (some .boolean) := ⟨wc_I_lacksWhatIsWanted, wi_I, by decide +kernel⟩
theorem k_J_bitCount : wd_yk y_J_bitCount b_J_bitCount 1 1 (some .int) := ⟨wc_J_bitCount, wi_J, by decide +kernel⟩
theorem k_F_event : wd_yk y_F_event b_F_event 5 2 (some .int) := ⟨wc_F_event, wi_F, by decide +kernel⟩
theorem k_I_stateBehind : wd_yk y_I_stateBehind b_I_stateBehind 2 1 (some .int) := ⟨wc_I_stateBehind, wi_I, by decide +kernel⟩
theorem k_F_mustWait : wd_yk y_F_mustWait b_F_mustWait 4 1 (some .boolean) := ⟨wc_F_mustWait, wi_F, by decide +kernel⟩
theorem k_I_undergo : wd_yk y_I_undergo b_I_undergo 3 2 none := ⟨wc_I_undergo, wi_I, by decide +kernel⟩
theorem k_F_address : wd_yk y_F_address b_F_address 6 3 (some .int) := ⟨wc_F_address, wi_F, by decide +kernel⟩
theorem k_F_abroad : wd_yk y_F_abroad b_F_abroad 4 2 (some .int) := ⟨wc_F_abroad, wi_F, by decide +kernel⟩
theorem k_F_contents : wd_yk y_F_contents b_F_contents 5 3 (some .int) := ⟨wc_F_contents, wi_F, by decide +kernel⟩
theorem k_F_join : wd_yk y_F_join b_F_join 5 3 (some .int) := ⟨wc_F_join, wi_F, by decide +kernel⟩
theorem k_F_bulk : wd_yk y_F_bulk b_F_bulk 4 2 (some .int) := ⟨wc_F_bulk, wi_F, by decide +kernel⟩
theorem k_F_open : wd_yk y_F_open b_F_open 5 3 (some .int) := ⟨wc_F_open, wi_F, by decide +kernel⟩
theorem k_F_correct : wd_yk y_F_correct b_F_correct 6 4 (some .int) := ⟨wc_F_correct, wi_F, by decide +kernel⟩
theorem k_F_mayBecome : wd_yk y_F_mayBecome b_F_mayBecome 2 2 (some .boolean) := ⟨wc_F_mayBecome, wi_F, by decide +kernel⟩
theorem k_I_wouldStay : wd_yk y_I_wouldStay b_I_wouldStay 3 2 (some .boolean) := ⟨wc_I_wouldStay, wi_I, by decide +kernel⟩
theorem k_I_correctable : wd_yk y_I_correctable b_I_correctable 2 1 (some .int) := ⟨wc_I_correctable, wi_I, by decide +kernel⟩
theorem k_C_init : wd_yk y_C_init b_C_init 6 5 none := ⟨wc_C_init, wi_C, by decide +kernel⟩
theorem k_I_become : wd_yk y_I_become b_I_become 3 2 none := ⟨wc_I_become, wi_I, by decide +kernel⟩
theorem k_F_row : wd_yk y_F_row b_F_row 4 2 (some .int) := ⟨wc_F_row, wi_F, by decide +kernel⟩
theorem k_C_part : wd_yk y_C_part b_C_part 2 1 (some .int) := ⟨wc_C_part, wi_C, by decide +kernel⟩
theorem k_F_about : wd_yk y_F_about b_F_about 4 2 (some .int) := ⟨wc_F_about, wi_F, by decide +kernel⟩
theorem k_I_fact : wd_yk y_I_fact b_I_fact 2 1 (some .int) := ⟨wc_I_fact, wi_I, by decide +kernel⟩
theorem k_F_pack : wd_yk y_F_pack b_F_pack 3 1 (some .int) := ⟨wc_F_pack, wi_F, by decide +kernel⟩
theorem k_P_fill : wd_yk y_P_fill b_P_fill 4 2 none := ⟨wc_P_fill, wi_P, by decide +kernel⟩
theorem k_P_addTwo : wd_yk y_P_addTwo b_P_addTwo 2 1 none := ⟨wc_P_addTwo, wi_P, by decide +kernel⟩
theorem k_P_add : wd_yk y_P_add b_P_add 2 1 none := ⟨wc_P_add, wi_P, by decide +kernel⟩
theorem k_P_addEntry : wd_yk y_P_addEntry b_P_addEntry 2 1 none := ⟨wc_P_addEntry, wi_P, by decide +kernel⟩
theorem k_P_xorOfAll : wd_yk y_P_xorOfAll b_P_xorOfAll 3 0 (some .int) := ⟨wc_P_xorOfAll, wi_P, by decide +kernel⟩
theorem k_F_octet : wd_yk y_F_octet b_F_octet 2 1 (some .int) := ⟨wc_F_octet, wi_F, by decide +kernel⟩
theorem k_P_at : wd_yk y_P_at b_P_at 2 1 (some .int) := ⟨wc_P_at, wi_P, by decide +kernel⟩
theorem k_F_aside : wd_yk y_F_aside b_F_aside 5 1 (some .int) := ⟨wc_F_aside, wi_F, by decide +kernel⟩
theorem k_I_isSetAside : wd_yk y_I_isSetAside b_I_isSetAside 1 0 (some .boolean) := ⟨wc_I_isSetAside, wi_I, by decide +kernel⟩
theorem k_M_init : wd_yk y_M_init b_M_init 1 0 none := ⟨wc_M_init, wi_M, by decide +kernel⟩
theorem k_M_item : wd_yk y_M_item b_M_item 6 4 (some .int) := ⟨wc_M_item, wi_M, by decide +kernel⟩
theorem k_M_within : wd_yk y_M_within b_M_within 3 3 (some .boolean) := ⟨wc_M_within, wi_M, by decide +kernel⟩
theorem k_M_tooMuch : wd_yk y_M_tooMuch b_M_tooMuch 2 2 (some .int) := ⟨wc_M_tooMuch, wi_M, by decide +kernel⟩
theorem k_M_turned : wd_yk y_M_turned b_M_turned 4 3 (some .int) := ⟨wc_M_turned, wi_M, by decide +kernel⟩
theorem k_M_mostOf : wd_yk y_M_mostOf b_M_mostOf 1 1 (some .int) := ⟨wc_M_mostOf, wi_M, by decide +kernel⟩
theorem k_M_service : wd_yk y_M_service b_M_service 6 2 (some .int) := ⟨wc_M_service, wi_M, by decide +kernel⟩
theorem k_M_isItem : wd_yk y_M_isItem b_M_isItem 2 1 (some .boolean) := ⟨wc_M_isItem, wi_M, by decide +kernel⟩
theorem k_M_has : wd_yk y_M_has b_M_has 3 2 (some .boolean) := ⟨wc_M_has, wi_M, by decide +kernel⟩
theorem k_M_isOver : wd_yk y_M_isOver b_M_isOver 2 1 (some .boolean) := ⟨wc_M_isOver, wi_M, by decide +kernel⟩
theorem k_M_excludes : wd_yk y_M_excludes b_M_excludes 4 2 (some .boolean) := ⟨wc_M_excludes, wi_M, by decide +kernel⟩
theorem k_M_event : wd_yk y_M_event b_M_event 4 2 (some .int) := ⟨wc_M_event, wi_M, by decide +kernel⟩
theorem k_M_ledTo : wd_yk y_M_ledTo b_M_ledTo 2 2 (some .int) := ⟨wc_M_ledTo, wi_M, by decide +kernel⟩
theorem k_M_mustWait : wd_yk y_M_mustWait b_M_mustWait 5 1 (some .boolean) := ⟨wc_M_mustWait, wi_M, by decide +kernel⟩
theorem k_M_address : wd_yk y_M_address b_M_address 5 3 (some .int) := ⟨wc_M_address, wi_M, by decide +kernel⟩
theorem k_M_abroad : wd_yk y_M_abroad b_M_abroad 3 2 (some .int) := ⟨wc_M_abroad, wi_M, by decide +kernel⟩
theorem k_M_contents : wd_yk y_M_contents b_M_contents 4 3 (some .int) := ⟨wc_M_contents, wi_M, by decide +kernel⟩
theorem k_M_join : wd_yk y_M_join b_M_join 4 3 (some .int) := ⟨wc_M_join, wi_M, by decide +kernel⟩
theorem k_M_belonging : wd_yk y_M_belonging b_M_belonging 5 2 (some .int) := ⟨wc_M_belonging, wi_M, by decide +kernel⟩
theorem k_M_bulk : wd_yk y_M_bulk b_M_bulk 3 2 (some .int) := ⟨wc_M_bulk, wi_M, by decide +kernel⟩
theorem k_M_open : wd_yk y_M_open b_M_open 4 3 (some .int) := ⟨wc_M_open, wi_M, by decide +kernel⟩
theorem k_M_correct : wd_yk y_M_correct b_M_correct 12 4 (some .int) := ⟨wc_M_correct, wi_M, by decide +kernel⟩
theorem k_M_factOf : wd_yk y_M_factOf b_M_factOf 3 2 (some .int) := ⟨wc_M_factOf, wi_M, by decide +kernel⟩
theorem k_M_row : wd_yk y_M_row b_M_row 3 2 (some .int) := ⟨wc_M_row, wi_M, by decide +kernel⟩
theorem k_M_about : wd_yk y_M_about b_M_about 3 2 (some .int) := ⟨wc_M_about, wi_M, by decide +kernel⟩
theorem k_M_pack : wd_yk y_M_pack b_M_pack 4 1 (some .int) := ⟨wc_M_pack, wi_M, by decide +kernel⟩
theorem k_M_put : wd_yk y_M_put b_M_put 4 2 none := ⟨wc_M_put, wi_M, by decide +kernel⟩
theorem k_M_octet : wd_yk y_M_octet b_M_octet 2 1 (some .int) := ⟨wc_M_octet, wi_M, by decide +kernel⟩
theorem k_M_aside : wd_yk y_M_aside b_M_aside 4 1 (some .int) := ⟨wc_M_aside, wi_M, by decide +kernel⟩
theorem kc_F : wd_cl 0 R_F F_F 8 t_F := ⟨rfl, i_F, t_F_ok, n_F⟩
theorem kc_I : wd_cl 1 R_I F_I 17 t_I := ⟨rfl, i_I, t_I_ok, n_I⟩
theorem kc_C : wd_cl 2 R_C F_C 5 t_C := ⟨rfl, i_C, t_C_ok, n_C⟩
theorem kc_P : wd_cl 3 R_P F_P 2 t_P := ⟨rfl, i_P, t_P_ok, n_P⟩
theorem kc_M : wd_cl 4 R_M F_M 23 t_M := ⟨rfl, i_M, t_M_ok, n_M⟩
theorem ks_bw : ("ItemFacts", "BEARS_WEIGHT", x_bw) ∈ wd_st := List.mem_of_getElem? (i := 0) rfl
theorem ks_bs : ("ItemFacts", "BEARS_SIZE", x_bs) ∈ wd_st := List.mem_of_getElem? (i := 1) rfl
theorem ks_ex : ("ItemFacts", "EXCLUDES", x_ex) ∈ wd_st := List.mem_of_getElem? (i := 2) rfl
end
section
/-! TWO WORLDS SIDE BY SIDE over one heap: the law's; a call changes one of them, the other stays -/
theorem wd_W.weaken {D : va_G} {A B : Nat → Prop} {σ : wd_S} {H : Heap} (h : wd_W D A σ H) (hAB : ∀ a, σ a ≠ none → A a → B a) : wd_W D B σ H := by
  obtain ⟨L, f, hP, hD, hσ⟩ := h
  refine ⟨L, f, hP, hD.weaken (fun k q hk hA => hAB q.1 ?_ hA), hσ⟩
  obtain ⟨b, hb, e⟩ := List.mem_map.mp (List.mem_of_getElem? hk)
  rw [← e]
  rcases hσ b with ⟨_, h2⟩ | ⟨h1, _⟩
  · show σ b ≠ none
    rw [h2]; exact fun z => by cases z
  · exact absurd hb h1
theorem wd_W.at {D : va_G} {A : Nat → Prop} {σ : wd_S} {H : Heap} (h : wd_W D A σ H) {a : Nat} (ha : σ a ≠ none) : a < H.size ∧ A a := by
  obtain ⟨L, f, hP, hD, hσ⟩ := h
  rcases hσ a with ⟨h1, h2⟩ | ⟨_, h2⟩
  · obtain ⟨k, hk⟩ := va_pl_get (X := []) (f := f) h1
    exact ⟨(hP k _ hk).lt, hD.2 k _ hk⟩
  · exact absurd h2 ha
theorem wd_W.kept {D : va_G} {A : Nat → Prop} {σ : wd_S} {H H1 : Heap} (h : wd_W D A σ H) (hk : ∀ a, σ a ≠ none → H1[a]? = H[a]?) : wd_W D A σ H1 := by
  obtain ⟨L, f, hP, hD, hσ⟩ := h
  refine ⟨L, f, hP.kept (fun k q hq => hk q.1 ?_), hD, hσ⟩
  obtain ⟨b, hb, e⟩ := List.mem_map.mp (List.mem_of_getElem? hq)
  rw [← e]
  rcases hσ b with ⟨_, h2⟩ | ⟨h1, _⟩
  · show σ b ≠ none
    rw [h2]; exact fun z => by cases z
  · exact absurd hb h1
theorem wd_W.nil {D : va_G} {A : Nat → Prop} {H : Heap} : wd_W D A (fun _ => none) H := ⟨[], fun _ => .inr (0, []), fun k q h => by simp [va_pl] at h, ⟨fun i j p q h => by simp [va_pl] at h, fun k q h => by simp [va_pl] at h⟩, fun a => Or.inr ⟨List.not_mem_nil, rfl⟩⟩
def wd_A (s : State) : Nat → Prop := fun q => s.heap.size ≤ q
def wd_2 (D : va_G) (T : Nat → ClassId) (s : State) (H : Heap) (locs : List Loc) (σ1 σ2 : wd_S) : Prop := wd_W D (wd_A s) σ1 H ∧ wd_W D (wd_A s) σ2 H ∧ (∀ a, σ1 a = none ∨ σ2 a = none) ∧ va_S (wd_A s) s.heap H locs ∧ va_K D classes (wd_ty T) s ∧ wd_Z (wd_A s) s s.heap ∧ wd_N s
theorem wd_2.swap {D : va_G} {T : Nat → ClassId} {s : State} {H : Heap} {locs : List Loc} {σ1 σ2 : wd_S} (h : wd_2 D T s H locs σ1 σ2) : wd_2 D T s H locs σ2 σ1 := ⟨h.2.1, h.1, fun a => (h.2.2.1 a).symm, h.2.2.2⟩
def wd_O (σ : wd_S) (H : Heap) : Nat → Prop := fun q => σ q ≠ none ∨ H.size ≤ q
section W2
variable {p : Program} {l : Launch} {e : Env} {R : Room} {s : State} {m : MethodId} {args : Array Value} {below : List Frame} {meth : Method} {c : Code} {H : Heap} {locs : List Loc} {cells slots : Nat} {Q : State → Prop}
variable {cc bytes : ByteArray} {pc nL maxL mc ms n ci index b : Nat} {ls : Array Slot} {rest As st0 : List Value} {D : va_G} {T : Nat → ClassId} {σ1 σ2 : wd_S} {own : String} {y : MethodName} {ret : Option FieldType} {rm : Room} {fs : List Value} {Cn : String} {Tn : u_T} {N : Nat} {ty : Nat → FieldType} {postI : Int32 → wd_S → Prop} {postV : wd_S → Prop}
theorem wd_2e {U : State} (h : wd_2 D T s H locs σ1 σ2) (hU : U.heap = H) (hW : s.WarmedH U.vm) : wd_Pre D T (wd_O σ1 H) σ1 U := by
  obtain ⟨h1, h2, h3, h4, h5, h6, h7⟩ := h
  subst hU
  refine ⟨h1.weaken (fun a ha _ => Or.inl ha), va_S.rf, va_K.moved hW.alike h5, fun q hq => Or.inr hq, ?_, h7.warm hW⟩
  refine ((h6.narrow (fun q hq => ?_)).kept (fun a ha hn => h4.2.1 a ha (fun z => hn (Or.inr ?_)))).moved hW.alike
  · rcases hq with hq | hq
    · exact (h1.at hq).2
    · exact Nat.le_trans h4.1 hq
  · exact absurd z (Nat.not_le.mpr ha)
theorem wd_2o (h : wd_2 D T s H locs σ1 σ2) : ∀ q, wd_O σ1 H q → wd_A s q := fun q hq => by
  rcases hq with hq | hq
  · exact (h.1.at hq).2
  · exact Nat.le_trans h.2.2.2.1.1 hq
theorem wd_2j {H1 : Heap} {locs1 : List Loc} {σ' : wd_S} (h : wd_2 D T s H locs σ1 σ2) (hw : wd_W D (wd_O σ1 H) σ' H1) (hk : ∀ q : Nat, q < H.size → ¬ wd_O σ1 H q → H1[q]? = H[q]?) (hS : va_S (wd_A s) s.heap H1 locs1) : wd_2 D T s H1 locs1 σ' σ2 := by
  have ho := wd_2o h
  obtain ⟨h1, h2, h3, h4, h5, h6⟩ := h
  have hn : ∀ a, σ2 a ≠ none → ¬ wd_O σ1 H a := fun a ha z => by
    rcases z with z | z
    · rcases h3 a with q | q
      · exact z q
      · exact ha q
    · have := (h2.at ha).1
      omega
  refine ⟨hw.weaken (fun a _ z => ho a z), h2.kept (fun a ha => hk a (h2.at ha).1 (hn a ha)), fun a => ?_, hS, h5, h6⟩
  by_cases ha : σ2 a = none
  · exact Or.inr ha
  · refine Or.inl ?_
    cases hs : σ' a with
    | none => rfl
    | some x => exact absurd (hw.at (a := a) (by rw [hs]; exact fun z => by cases z)).2 (hn a ha)
theorem wd_2r (h : wd_2 D T s H locs σ1 σ2) (hc : wd_cl ci Cn Tn N ty) (he : σ1 b = some (.inr (ci, fs))) : ∃ cell : Cell, H[b]? = some cell ∧ cell.vm.isStatics = false ∧ s.vm.findClass Cn = some cell.cls := by
  obtain ⟨⟨L, f, hP, hD, hσ⟩, h2, h3, h4, h5, h6⟩ := h
  obtain ⟨q0, hq⟩ := wd_place hσ he
  exact va_recv h5 hP hc.1 hq
theorem wd_2ci (C : CallFix p m c cc nL s args wd_tb own) (h : wd_2 D T s H locs σ1 σ2) (hc : wd_cl ci Cn Tn N ty) (he : σ1 b = some (.inr (ci, fs))) (hk : wd_yk y bytes maxL n ret) (hin : Cond.instanceMethod y ∈ wd_tb) (hsel : Cond.selects Cn y y ∈ wd_tb) (hlink : Cond.methodLink own index y ∈ wd_tb)
    (hM : Met l y (Cond.code y bytes maxL ret :: wd_tb) rm (va_Pc (.ref b :: As) (wd_Pre D T (wd_O σ1 H) σ1)) (va_Qi postI (wd_B D (wd_O σ1 H)) (wd_O σ1 H)) mc ms (wd_O σ1 H)) (hrc : rm.cells = mc) (hrs : rm.slots = ms) (hR : rm.frames + 1 ≤ R.frames ∧ 8 + (maxL + 11) + rm.locals ≤ R.locals) (hn : As.length = n) (hsz : ls.size = nL) (hstack : st0 = As.reverse ++ .ref b :: rest) (hW : (rest.map fun v => v.category).sum ≤ 8) (hdg : decode cc pc = .ok (.invokevirtual index, 3)) (hf : cells + mc ≤ R.cells ∧ slots + ms ≤ R.slots)
    (kk : ∀ (r : Int32) (σ' : wd_S) (H1 : Heap) (locs1 : List Loc), postI r σ' → wd_2 D T s H1 locs1 σ' σ2 → W p l e R s m args below meth c H1 locs1 (cells + mc) (slots + ms) Q (F0 m (pc + 3) ls (.int r :: rest))) : W p l e R s m args below meth c H locs cells slots Q (F0 m pc ls st0) :=
  va_calli (va_runV C hM ⟨callB_of n C.2.2.2.2 (wd_good hk.1) rfl hrc hrs (C.2.2.2.2 _ hk.2.1) (C.2.2.2.2 _ hlink) hk.2.2 hR, C.2.2.2.2 _ hin, C.2.2.2.2 _ hsel⟩ ⟨wd_blind, wd_2r h hc he, fun U hU hW => ⟨rfl, wd_2e h hU hW⟩⟩ rfl hn hsz hstack (lv_room hW) hdg hf) h.2.2.2.1 (fun q _ z => wd_2o h q z) (wd_2o h) (fun r u t H1 locs1 ht _ hp hB _ hk hS => kk r u H1 locs1 hp (wd_2j h (by rw [← ht]; exact hB) hk hS))
theorem wd_2cv (C : CallFix p m c cc nL s args wd_tb own) (h : wd_2 D T s H locs σ1 σ2) (hk : wd_yk y bytes maxL n none) (hin : Cond.instanceMethod y ∈ wd_tb) (hy1 : y.name = "<init>") (hlink : Cond.methodLink own index y ∈ wd_tb)
    (hM : Met l y (Cond.code y bytes maxL none :: wd_tb) rm (va_Pc (.ref b :: As) (wd_Pre D T (wd_O σ1 H) σ1)) (va_Qv postV (wd_B D (wd_O σ1 H)) (wd_O σ1 H)) mc ms (wd_O σ1 H)) (hrc : rm.cells = mc) (hrs : rm.slots = ms) (hR : rm.frames + 1 ≤ R.frames ∧ 8 + (maxL + 11) + rm.locals ≤ R.locals) (hn : As.length = n) (hsz : ls.size = nL) (hstack : st0 = As.reverse ++ .ref b :: rest) (hW : (rest.map fun v => v.category).sum ≤ 8) (hdg : decode cc pc = .ok (.invokespecial index, 3)) (hf : cells + mc ≤ R.cells ∧ slots + ms ≤ R.slots)
    (kk : ∀ (σ' : wd_S) (H1 : Heap) (locs1 : List Loc), postV σ' → wd_2 D T s H1 locs1 σ' σ2 → W p l e R s m args below meth c H1 locs1 (cells + mc) (slots + ms) Q (F0 m (pc + 3) ls rest)) : W p l e R s m args below meth c H locs cells slots Q (F0 m pc ls st0) :=
  va_callv (va_runI C hM ⟨callB_of n C.2.2.2.2 (wd_good hk.1) rfl hrc hrs (C.2.2.2.2 _ hk.2.1) (C.2.2.2.2 _ hlink) hk.2.2 hR, hy1, C.2.2.2.2 _ hin⟩ ⟨wd_blind, fun U hU hW => ⟨rfl, wd_2e h hU hW⟩⟩ rfl hn hsz hstack (lv_room hW) hdg hf) h.2.2.2.1 (fun q _ z => wd_2o h q z) (wd_2o h) (fun u t H1 locs1 ht _ hp hB _ hk hS => kk u H1 locs1 hp (wd_2j h (by rw [← ht]; exact hB) hk hS))
theorem wd_2n (C : CallFix p m c cc nL s args wd_tb own) (h : wd_2 D T s H locs σ1 σ2) (hc : wd_cl ci Cn Tn N ty) (hcl : Cond.classLink own index Cn ∈ wd_tb) (hinst : Cond.instantiable Cn N ∈ wd_tb) (hini : Cond.initialized Cn ∈ wd_tb) (hfs : ∀ j, j < N → defaultValue (ty j) = vp_V fs j) (hcells : cells + 1 ≤ R.cells) (hslots : slots + N ≤ R.slots) (hdg : decode cc pc = .ok (.new index, 3))
    (kk : ∀ (q : Nat) (H1 : Heap), wd_2 D T s H1 locs (wd_up σ1 q (.inr (ci, fs))) σ2 → W p l e R s m args below meth c H1 locs (cells + 1) (slots + N) Q (F0 m (pc + 3) ls (.ref q :: rest))) : W p l e R s m args below meth c H locs cells slots Q (F0 m pc ls rest) := by
  obtain ⟨⟨L, f, hP, hD, hσ⟩, ⟨L2, f2, hP2, hD2, hσ2⟩, h3, h4, h5, h6⟩ := h
  have hx : ∀ (i j : Nat) (p q : Nat × va_E), (va_pl L2 f2)[i]? = some p → (va_pl L f)[j]? = some q → p.1 ≠ q.1 := fun i j p q hp hq z => by
    obtain ⟨x, hx, ex⟩ := List.mem_map.mp (List.mem_of_getElem? hp)
    obtain ⟨w, hw, ew⟩ := List.mem_map.mp (List.mem_of_getElem? hq)
    rw [← ex, ← ew] at z
    have z : x = w := z
    subst z
    rcases hσ x with ⟨_, a1⟩ | ⟨a1, _⟩
    · rcases hσ2 x with ⟨_, b1⟩ | ⟨b1, _⟩
      · rcases h3 x with q | q
        · rw [q] at a1; cases a1
        · rw [q] at b1; cases b1
      · exact b1 hx
    · exact a1 hw
  refine va_new C.1 C.2.1 C.2.2.2.2 hc.2.1 ty hc.2.2.1 C.2.2.2.1 (C.2.2.2.2 _ hcl) (C.2.2.2.2 _ hinst) (C.2.2.2.2 _ hini) h5 (hP2.app hP) (va_D.app hD2 hD hx) h4 (fun q hq => hq) hc.1 hfs hcells hslots hdg (fun q H1 hP1 hD1 hS1 => ?_)
  have hP1' : ∀ x ∈ va_pl L2 f2 ++ va_pl L f ++ [(q, .inr (ci, fs))], va_at D classes x H1 := fun x hx => by
    obtain ⟨i, hi⟩ := List.getElem?_of_mem hx
    exact hP1 i x hi
  have hq1 : ∀ x ∈ va_pl L2 f2 ++ va_pl L f, x.1 ≠ q := fun x hx z => by
    obtain ⟨i, hi⟩ := List.getElem?_of_mem hx
    have hl := (List.getElem?_eq_some_iff.mp hi).1
    have := hD1.1 i (va_pl L2 f2 ++ va_pl L f).length x (q, .inr (ci, fs)) (by rw [List.getElem?_append_left hl]; exact hi) (by rw [List.getElem?_append_right (Nat.le_refl _), Nat.sub_self]; rfl) z
    omega
  have hPa : va_P D classes (va_pl L f ++ [(q, .inr (ci, fs))]) H1 := fun k x hk => hP1' x (by
    rcases List.mem_append.mp (List.mem_of_getElem? hk) with h | h
    · exact List.mem_append_left _ (List.mem_append_right _ h)
    · exact List.mem_append_right _ h)
  have hAq : wd_A s q := hD1.2 (va_pl L2 f2 ++ va_pl L f).length (q, .inr (ci, fs)) (by rw [List.getElem?_append_right (Nat.le_refl _), Nat.sub_self]; rfl)
  have hDa : va_D (wd_A s) (va_pl L f ++ [(q, .inr (ci, fs))]) := va_D.app hD ⟨fun i j p r hp hr _ => by
      have h1 := (List.getElem?_eq_some_iff.mp hp).1
      have h2 := (List.getElem?_eq_some_iff.mp hr).1
      simp at h1 h2
      omega, fun k r hr => by
      rw [List.mem_singleton.mp (List.mem_of_getElem? hr)]
      exact hAq⟩ (fun i j p r hp hr => by
      rw [List.mem_singleton.mp (List.mem_of_getElem? hr)]
      exact hq1 p (List.mem_append_right _ (List.mem_of_getElem? hp)))
  obtain ⟨e1, e2⟩ := wd_push hσ hPa hDa
  refine kk q H1 ⟨e2, ⟨L2, f2, fun k x hk => hP1' x (List.mem_append_left _ (List.mem_append_left _ (List.mem_of_getElem? hk))), hD2, hσ2⟩, fun a => ?_, hS1, h5, h6⟩
  by_cases ha : a = q
  · subst ha
    refine Or.inr ?_
    rcases hσ2 a with ⟨b1, _⟩ | ⟨_, b1⟩
    · exact absurd rfl (hq1 (a, f2 a) (List.mem_append_left _ (List.mem_map.mpr ⟨a, b1, rfl⟩)))
    · exact b1
  · rw [wd_un σ1 _ ha]
    exact h3 a
end W2
end
section
/-! THE PURE SIDE: what each method answers and what the state becomes. An item is a function r: 0 kind, 1 weight, 2 size, 3 sender, 4 services, 5 state, 6 damaged, 7 read, 8 settled, 9 land, 10 consignment, 11 bulk, 12 late, 13 openers, 14 rows of contents, from 15 on: 15 + 2 j the what of row j, 16 + 2 j its cents -/
def xw (v a b : Int32) : Int32 := if v < a then 0 else if b < v then 0 else 1
def xt (k w z : Int32) : Int32 := if k < 1 ∧ ¬ 50 < w ∧ ¬ 0 < z then 0 else if k < 2 ∧ ¬ 500 < w ∧ ¬ 1 < z then 1 else if k < 3 ∧ ¬ 2000 < w ∧ ¬ 2 < z then 2 else 3
def xh (sv t : Int32) : Int32 := if (sv >>> (t &&& 31)) &&& 1 = 1 then 1 else 0
def xe (st : Int32) : Int32 := if st = 5 then 1 else if st = 9 then 1 else 0
def xa (dm st : Int32) : Int32 := if dm = 0 then (if st = 8 then 1 else 0) else 1
def xl0 (ex : Int32) : Int32 := if (ex >>> (0 &&& 31)) &&& 1 = 1 then 0 else if (ex >>> (1 &&& 31)) &&& 1 = 1 then 1 else if (ex >>> (2 &&& 31)) &&& 1 = 1 then 2 else if (ex >>> (3 &&& 31)) &&& 1 = 1 then 3 else if (ex >>> (4 &&& 31)) &&& 1 = 1 then 4 else if (ex >>> (5 &&& 31)) &&& 1 = 1 then 5 else -1
def xl (sv t : Int32) : Int32 := if xw t 0 5 = 0 then -1 else xl0 (sv &&& x_ex.getD t.toNatClampNeg 0)
def xk (r : Nat → Int32) (t : Int32) : Int32 := if t = 1 then (if xh (r 4) 0 = 0 then 1 else 0) else if t = 2 then 0 else if t = 3 then (if xh (r 4) 0 = 0 then 1 else 0) else if t = 4 then (if xh (r 4) 0 = 0 then 1 else if r 0 = 0 then 1 else 0) else if t = 5 then (if 2 ≤ r 0 then 0 else 1) else 0
def xb (r : Nat → Int32) (ev : Int32) : Int32 :=
  if r 6 = 0 then
    (if ev = 0 then (if r 5 = 0 then 1 else -1)
    else if ev = 1 then (if r 5 = 7 then 7 else if r 5 = 1 then 2 else if r 5 = 3 then 2 else -1)
    else if ev = 2 then (if r 5 = 2 then 3 else -1)
    else if ev = 3 then (if r 5 = 3 then 4 else if r 5 = 6 then 4 else -1)
    else if ev = 4 then (if r 5 = 4 then 5 else if r 5 = 7 then 5 else -1)
    else if ev = 5 then (if r 5 = 4 then 6 else -1)
    else if ev = 6 then (if r 5 = 4 then 7 else if r 5 = 6 then 7 else -1)
    else if ev = 7 then r 5
    else if ev = 8 then -1
    else if ev = 9 then (if r 5 = 7 then 8 else if r 5 = 6 then 8 else -1)
    else if ev = 10 then 9
    else -1)
  else (if ev = 8 then r 5 else if ev = 10 then 9 else -1)
def xu (r : Nat → Int32) (ev nx : Int32) : Nat → Int32 := if ev = 7 then upd (upd r 5 nx) 6 1 else if ev = 8 then upd (upd r 5 nx) 6 0 else upd r 5 nx
def xc (r : Nat → Int32) (wh : Int32) : Int32 := if wh = 0 then r 0 else if wh = 1 then r 1 else if wh = 2 then r 2 else if wh = 3 then r 7 else if wh = 4 then r 8 else -1
def xs (r : Nat → Int32) (wh v : Int32) : Int32 := if wh = 0 then (if xw v 0 3 = 0 then 0 else if xt v (r 1) (r 2) = r 0 then 1 else 0) else (if xc r wh = v then 1 else 0)
def xm0 (r : Nat → Int32) (wh v : Int32) : Nat → Int32 := if wh = 0 then upd r 0 v else if wh = 1 then upd r 1 v else if wh = 2 then upd r 2 v else if wh = 3 then upd r 7 v else if wh = 4 then upd r 8 v else r
def xm (r : Nat → Int32) (wh v : Int32) : Nat → Int32 := upd (xm0 r wh v) 0 (xt (xm0 r wh v 0) (xm0 r wh v 1) (xm0 r wh v 2))
def xf (r : Nat → Int32) (wh : Int32) : Int32 := if wh = 0 then r 5 else if wh = 1 then r 0 else if wh = 2 then r 1 else if wh = 3 then r 2 else if wh = 4 then r 4 else if wh = 5 then r 7 else if wh = 6 then r 8 else if wh = 7 then r 9 else if wh = 8 then r 10 else if wh = 9 then r 11 else if wh = 10 then r 12 else if wh = 11 then (if r 6 = 0 then 0 else 1) else if wh = 12 then r 3 else if wh = 13 then r 13 else -102
def xp (k : Nat → Int32) (wh : Int32) : Int32 := if wh = 0 then k 0 else if wh = 1 then k 1 else if wh = 2 then k 2 else if wh = 3 then k 3 else if wh = 4 then k 4 else -1
def xy (wh v : Int32) : Int32 := if wh = 0 then xw v 0 3 else if wh = 1 then xw v 1 100000 else if wh = 2 then xw v 0 9 else if wh = 3 then xw v 0 9999 else if wh = 4 then xw v 0 9999 else 0
/-- bytes: the array and how many are used -/
abbrev pq : Type := (Nat → Int32) × Nat
def pa (q : pq) (v : Int32) : pq := if (30 : Int32) ≤ nI q.2 then q else (upd q.1 q.2 (v &&& 255), q.2 + 1)
def p2 (q : pq) (v : Int32) : pq := pa (pa q (v >>> (8 &&& 31))) v
def pe (q : pq) (v : Int32) : pq := p2 q (if v = -1 then 65535 else v)
def px (f : Nat → Int32) : Nat → Int32
  | 0 => 0
  | n + 1 => px f n ^^^ f n
def pc1 (r : Nat → Int32) (q : pq) (k : Nat) : pq := p2 (pa (pa q (r (15 + 2 * k))) (r (16 + 2 * k) >>> (16 &&& 31))) (r (16 + 2 * k))
def pc (r : Nat → Int32) (q : pq) : pq := if r 14 ≤ 0 then q else if r 14 ≤ 1 then pc1 r q 0 else if r 14 ≤ 2 then pc1 r (pc1 r q 0) 1 else if r 14 ≤ 3 then pc1 r (pc1 r (pc1 r q 0) 1) 2 else pc1 r (pc1 r (pc1 r (pc1 r q 0) 1) 2) 3
def ph (f : Nat → Int32) (num : Int32) (r : Nat → Int32) : pq := pa (pa (pe (pe (pa (pa (p2 (pa (p2 (f, 0) num) (r 0 + 16 * r 2)) (r 1)) (r 4)) (if r 6 = 0 then r 5 else r 5 + 128)) (r 7)) (r 8)) (r 9)) (r 14)
def pf (f : Nat → Int32) (num : Int32) (r : Nat → Int32) : pq := pa (pc r (ph f num r)) (px (pc r (ph f num r)).1 (pc r (ph f num r)).2)
abbrev xI (r : Nat → Int32) (w c : Nat) : va_E := .inr (1, [.int (r 0), .int (r 1), .int (r 2), .int (r 3), .int (r 4), .int (r 5), .int (r 6), .int (r 7), .int (r 8), .int (r 9), .int (r 10), .int (r 11), .int (r 12), .int (r 13), .int (r 14), .ref w, .ref c])
theorem sw_ne {x k : Int32} {n : Int} (h : ¬ x = k) (hk : k.toInt = n) : x.toInt ≠ n := fun z => h (Int32.toInt_inj.mp (z.trans hk.symm))
theorem xw_01 (v a b : Int32) : xw v a b = 0 ∨ xw v a b = 1 := by
  unfold xw
  split
  · exact Or.inl rfl
  · split
    · exact Or.inl rfl
    · exact Or.inr rfl
theorem df_F : ∀ j, j < 8 → defaultValue (t_F j) = vp_V [.null, .int 0, .null, .int 0, .null, .null, .null, .null] j := by decide +kernel
theorem df_I : ∀ j, j < 17 → defaultValue (t_I j) = vp_V [.int 0, .int 0, .int 0, .int 0, .int 0, .int 0, .int 0, .int 0, .int 0, .int 0, .int 0, .int 0, .int 0, .int 0, .int 0, .null, .null] j := by decide +kernel
theorem df_C : ∀ j, j < 5 → defaultValue (t_C j) = vp_V [.int 0, .int 0, .int 0, .int 0, .int 0] j := by decide +kernel
theorem df_P : ∀ j, j < 2 → defaultValue (t_P j) = vp_V [.null, .int 0] j := by decide +kernel
theorem df_M : ∀ j, j < 23 → defaultValue (t_M j) = vp_V [.int 0, .null, .null, .null, .null, .null, .null, .null, .null, .null, .null, .null, .null, .null, .null, .null, .null, .null, .null, .int 0, .null, .int 0, .null] j := by decide +kernel
theorem xw_out {v a b : Int32} (h : ¬ xw v a b = 0) : ¬ v < a ∧ ¬ b < v := by
  unfold xw at h
  refine ⟨fun z => h (by rw [if_pos z]), fun z => h ?_⟩
  by_cases y : v < a
  · rw [if_pos y]
  · rw [if_neg y, if_pos z]
theorem xw_vp {v a b : Int32} {n : Nat} (h : ¬ xw v a b = 0) (ha : 0 ≤ a.toInt) (hb : b.toInt < n) : vp_in v n := by
  obtain ⟨h1, h2⟩ := xw_out h
  rw [Int32.lt_iff_toInt_lt] at h1 h2
  rw [vp_in_iff]
  omega
theorem xw_03 {v : Int32} (h : ¬ xw v 0 3 = 0) : v = 0 ∨ v = 1 ∨ v = 2 ∨ v = 3 := by
  obtain ⟨h1, h2⟩ := xw_out h
  rw [Int32.lt_iff_toInt_lt] at h1 h2
  have e0 : (0 : Int32).toInt = 0 := rfl
  have e3 : (3 : Int32).toInt = 3 := rfl
  rcases (show v.toInt = 0 ∨ v.toInt = 1 ∨ v.toInt = 2 ∨ v.toInt = 3 by omega) with q | q | q | q
  · exact Or.inl (Int32.toInt_inj.mp q)
  · exact Or.inr (Or.inl (Int32.toInt_inj.mp q))
  · exact Or.inr (Or.inr (Or.inl (Int32.toInt_inj.mp q)))
  · exact Or.inr (Or.inr (Or.inr (Int32.toInt_inj.mp q)))
abbrev xC (k : Nat → Int32) : va_E := .inr (2, [.int (k 0), .int (k 1), .int (k 2), .int (k 3), .int (k 4)])
def bc1 (i : Int32) : Int32 := i - ((i.toUInt32 >>> ((1 : Int32).toUInt32 &&& Int32.toUInt32 31)).toInt32 &&& 1431655765)
def bc2 (i : Int32) : Int32 := (i &&& 858993459) + ((i.toUInt32 >>> ((2 : Int32).toUInt32 &&& Int32.toUInt32 31)).toInt32 &&& 858993459)
def bc3 (i : Int32) : Int32 := (i + (i.toUInt32 >>> ((4 : Int32).toUInt32 &&& Int32.toUInt32 31)).toInt32) &&& 252645135
def bc4 (i : Int32) : Int32 := i + (i.toUInt32 >>> ((8 : Int32).toUInt32 &&& Int32.toUInt32 31)).toInt32
def bc5 (i : Int32) : Int32 := i + (i.toUInt32 >>> ((16 : Int32).toUInt32 &&& Int32.toUInt32 31)).toInt32
def bc (i : Int32) : Int32 := bc5 (bc4 (bc3 (bc2 (bc1 i)))) &&& 63
end
section
set_option maxHeartbeats 4000000 in
set_option maxRecDepth 20000 in
theorem c_F_within (l : Launch) (D : va_G) (T : Nat → ClassId) (A : Nat → Prop) (σ : wd_S) (v lo hi : Int32) : Met l y_F_within (Cond.code y_F_within b_F_within 3 (some .boolean) :: wd_tb) { frames := 0, cells := 0, slots := 0, locals := 0 } (va_Pc [.int v, .int lo, .int hi] (wd_Pre D T A σ)) (va_Qi (fun r1 σ1 => r1 = xw v lo hi ∧ σ1 = σ) (wd_B D A) A) 0 0 A := by
  refine wd_ofW (by decide) (Nat.le_of_ble_eq_true rfl) ?_
  intro p e s m below meth c0 ls C hr hlocks hname h hl
  have hl : lv_has ls 3 [(0, .int v), (1, .int lo), (2, .int hi)] := hl
  have hx := C.1
  have hb := C.2.1
  refine lv_iload_n hx hb d_F_within_0 rfl (lv_at hl 0 rfl) ?_
  refine lv_iload_n hx hb d_F_within_1 rfl (lv_at hl 1 rfl) ?_
  refine lv_icmp_lt (tgt := 14) hx hb d_F_within_2 (by decide) (fun c_1 => ?_) (fun c_1 => ?_)
  · refine lv_iconst (v := 0) hx hb d_F_within_14 (by decide) ?_
    exact wd_zret C hr hlocks h (by decide) (⟨by simp [xw, c_1], rfl⟩) (Nat.le_of_ble_eq_true rfl) (Nat.le_of_ble_eq_true rfl) d_F_within_15
  · refine lv_iload_n hx hb d_F_within_5 rfl (lv_at hl 0 rfl) ?_
    refine lv_iload_n hx hb d_F_within_6 rfl (lv_at hl 2 rfl) ?_
    refine lv_icmp_gt (tgt := 14) hx hb d_F_within_7 (by decide) (fun c_2 => ?_) (fun c_2 => ?_)
    · refine lv_iconst (v := 0) hx hb d_F_within_14 (by decide) ?_
      exact wd_zret C hr hlocks h (by decide) (⟨by simp [xw, c_1, c_2], rfl⟩) (Nat.le_of_ble_eq_true rfl) (Nat.le_of_ble_eq_true rfl) d_F_within_15
    · refine lv_iconst (v := 1) hx hb d_F_within_10 (by decide) ?_
      refine lv_goto (tgt := 15) hx hb d_F_within_11 (by decide) ?_
      exact wd_zret C hr hlocks h (by decide) (⟨by simp [xw, c_1, c_2], rfl⟩) (Nat.le_of_ble_eq_true rfl) (Nat.le_of_ble_eq_true rfl) d_F_within_15

set_option maxHeartbeats 4000000 in
set_option maxRecDepth 20000 in
theorem c_I_has (l : Launch) (D : va_G) (T : Nat → ClassId) (A : Nat → Prop) (σ : wd_S) (a : Nat) (r : Nat → Int32) (w c : Nat) (ha : σ a = some (xI r w c)) (t : Int32) : Met l y_I_has (Cond.code y_I_has b_I_has 2 (some .boolean) :: wd_tb) { frames := 0, cells := 0, slots := 0, locals := 0 } (va_Pc [.ref a, .int t] (wd_Pre D T A σ)) (va_Qi (fun r1 σ1 => r1 = xh (r 4) t ∧ σ1 = σ) (wd_B D A) A) 0 0 A := by
  refine wd_ofW (by decide) (Nat.le_of_ble_eq_true rfl) ?_
  intro p e s m below meth c0 ls C hr hlocks hname h hl
  have hl : lv_has ls 2 [(0, .ref a), (1, .int t)] := hl
  have hx := C.1
  have hb := C.2.1
  refine lv_aload_n hx hb d_I_has_0 rfl (lv_at hl 0 rfl) ?_
  refine wd_get C h kc_I ha 4 (by decide) lk_I_24 rfl d_I_has_1 ?_
  refine lv_iload_n hx hb d_I_has_4 rfl (lv_at hl 1 rfl) ?_
  refine lv_ishr hx hb d_I_has_5 ?_
  refine lv_iconst (v := 1) hx hb d_I_has_6 (by decide) ?_
  refine lv_iand hx hb d_I_has_7 ?_
  refine lv_iconst (v := 1) hx hb d_I_has_8 (by decide) ?_
  refine lv_icmp_ne (tgt := 16) hx hb d_I_has_9 (by decide) (fun c_1 => ?_) (fun c_1 => ?_)
  · refine lv_iconst (v := 0) hx hb d_I_has_16 (by decide) ?_
    exact wd_zret C hr hlocks h (by decide) (⟨by simp [xh, c_1], rfl⟩) (Nat.le_of_ble_eq_true rfl) (Nat.le_of_ble_eq_true rfl) d_I_has_17
  · refine lv_iconst (v := 1) hx hb d_I_has_12 (by decide) ?_
    refine lv_goto (tgt := 17) hx hb d_I_has_13 (by decide) ?_
    exact wd_zret C hr hlocks h (by decide) (⟨by simp [xh, c_1], rfl⟩) (Nat.le_of_ble_eq_true rfl) (Nat.le_of_ble_eq_true rfl) d_I_has_17

set_option maxHeartbeats 4000000 in
set_option maxRecDepth 20000 in
theorem c_I_isAtEnd (l : Launch) (D : va_G) (T : Nat → ClassId) (A : Nat → Prop) (σ : wd_S) (a : Nat) (r : Nat → Int32) (w c : Nat) (ha : σ a = some (xI r w c)) : Met l y_I_isAtEnd (Cond.code y_I_isAtEnd b_I_isAtEnd 1 (some .boolean) :: wd_tb) { frames := 0, cells := 0, slots := 0, locals := 0 } (va_Pc [.ref a] (wd_Pre D T A σ)) (va_Qi (fun r1 σ1 => r1 = xe (r 5) ∧ σ1 = σ) (wd_B D A) A) 0 0 A := by
  refine wd_ofW (by decide) (Nat.le_of_ble_eq_true rfl) ?_
  intro p e s m below meth c0 ls C hr hlocks hname h hl
  have hl : lv_has ls 1 [(0, .ref a)] := hl
  have hx := C.1
  have hb := C.2.1
  refine lv_aload_n hx hb d_I_isAtEnd_0 rfl (lv_at hl 0 rfl) ?_
  refine wd_get C h kc_I ha 5 (by decide) lk_I_27 rfl d_I_isAtEnd_1 ?_
  refine lv_iconst (v := 5) hx hb d_I_isAtEnd_4 (by decide) ?_
  refine lv_icmp_eq (tgt := 17) hx hb d_I_isAtEnd_5 (by decide) (fun c_1 => ?_) (fun c_1 => ?_)
  · refine lv_iconst (v := 1) hx hb d_I_isAtEnd_17 (by decide) ?_
    refine lv_goto (tgt := 22) hx hb d_I_isAtEnd_18 (by decide) ?_
    exact wd_zret C hr hlocks h (by decide) (⟨by simp [xe, c_1], rfl⟩) (Nat.le_of_ble_eq_true rfl) (Nat.le_of_ble_eq_true rfl) d_I_isAtEnd_22
  · refine lv_aload_n hx hb d_I_isAtEnd_8 rfl (lv_at hl 0 rfl) ?_
    refine wd_get C h kc_I ha 5 (by decide) lk_I_27 rfl d_I_isAtEnd_9 ?_
    refine lv_bipush (v := 9) hx hb d_I_isAtEnd_12 (by decide) ?_
    refine lv_icmp_ne (tgt := 21) hx hb d_I_isAtEnd_14 (by decide) (fun c_2 => ?_) (fun c_2 => ?_)
    · refine lv_iconst (v := 0) hx hb d_I_isAtEnd_21 (by decide) ?_
      exact wd_zret C hr hlocks h (by decide) (⟨by simp [xe, c_1, c_2], rfl⟩) (Nat.le_of_ble_eq_true rfl) (Nat.le_of_ble_eq_true rfl) d_I_isAtEnd_22
    · refine lv_iconst (v := 1) hx hb d_I_isAtEnd_17 (by decide) ?_
      refine lv_goto (tgt := 22) hx hb d_I_isAtEnd_18 (by decide) ?_
      exact wd_zret C hr hlocks h (by decide) (⟨by simp [xe, c_1, c_2], rfl⟩) (Nat.le_of_ble_eq_true rfl) (Nat.le_of_ble_eq_true rfl) d_I_isAtEnd_22

set_option maxHeartbeats 4000000 in
set_option maxRecDepth 20000 in
theorem c_I_isSetAside (l : Launch) (D : va_G) (T : Nat → ClassId) (A : Nat → Prop) (σ : wd_S) (a : Nat) (r : Nat → Int32) (w c : Nat) (ha : σ a = some (xI r w c)) : Met l y_I_isSetAside (Cond.code y_I_isSetAside b_I_isSetAside 1 (some .boolean) :: wd_tb) { frames := 0, cells := 0, slots := 0, locals := 0 } (va_Pc [.ref a] (wd_Pre D T A σ)) (va_Qi (fun r1 σ1 => r1 = xa (r 6) (r 5) ∧ σ1 = σ) (wd_B D A) A) 0 0 A := by
  refine wd_ofW (by decide) (Nat.le_of_ble_eq_true rfl) ?_
  intro p e s m below meth c0 ls C hr hlocks hname h hl
  have hl : lv_has ls 1 [(0, .ref a)] := hl
  have hx := C.1
  have hb := C.2.1
  refine lv_aload_n hx hb d_I_isSetAside_0 rfl (lv_at hl 0 rfl) ?_
  refine wd_get C h kc_I ha 6 (by decide) lk_I_30 rfl d_I_isSetAside_1 ?_
  refine lv_if_ne (tgt := 16) hx hb d_I_isSetAside_4 (by decide) (fun c_1 => ?_) (fun c_1 => ?_)
  · refine lv_iconst (v := 1) hx hb d_I_isSetAside_16 (by decide) ?_
    refine lv_goto (tgt := 21) hx hb d_I_isSetAside_17 (by decide) ?_
    exact wd_zret C hr hlocks h (by decide) (⟨by simp [xa, c_1], rfl⟩) (Nat.le_of_ble_eq_true rfl) (Nat.le_of_ble_eq_true rfl) d_I_isSetAside_21
  · refine lv_aload_n hx hb d_I_isSetAside_7 rfl (lv_at hl 0 rfl) ?_
    refine wd_get C h kc_I ha 5 (by decide) lk_I_27 rfl d_I_isSetAside_8 ?_
    refine lv_bipush (v := 8) hx hb d_I_isSetAside_11 (by decide) ?_
    refine lv_icmp_ne (tgt := 20) hx hb d_I_isSetAside_13 (by decide) (fun c_2 => ?_) (fun c_2 => ?_)
    · refine lv_iconst (v := 0) hx hb d_I_isSetAside_20 (by decide) ?_
      exact wd_zret C hr hlocks h (by decide) (⟨by simp [xa, c_1, c_2], rfl⟩) (Nat.le_of_ble_eq_true rfl) (Nat.le_of_ble_eq_true rfl) d_I_isSetAside_21
    · refine lv_iconst (v := 1) hx hb d_I_isSetAside_16 (by decide) ?_
      refine lv_goto (tgt := 21) hx hb d_I_isSetAside_17 (by decide) ?_
      exact wd_zret C hr hlocks h (by decide) (⟨by simp [xa, c_1, c_2], rfl⟩) (Nat.le_of_ble_eq_true rfl) (Nat.le_of_ble_eq_true rfl) d_I_isSetAside_21

set_option maxHeartbeats 4000000 in
set_option maxRecDepth 20000 in
theorem c_I_stateBehind (l : Launch) (D : va_G) (T : Nat → ClassId) (A : Nat → Prop) (σ : wd_S) (a : Nat) (r : Nat → Int32) (w c : Nat) (ha : σ a = some (xI r w c)) (ev : Int32) : Met l y_I_stateBehind (Cond.code y_I_stateBehind b_I_stateBehind 2 (some .int) :: wd_tb) { frames := 0, cells := 0, slots := 0, locals := 0 } (va_Pc [.ref a, .int ev] (wd_Pre D T A σ)) (va_Qi (fun r1 σ1 => r1 = xb r ev ∧ σ1 = σ) (wd_B D A) A) 0 0 A := by
  refine wd_ofW (by decide) (Nat.le_of_ble_eq_true rfl) ?_
  intro p e s m below meth c0 ls C hr hlocks hname h hl
  have hl : lv_has ls 2 [(0, .ref a), (1, .int ev)] := hl
  have hx := C.1
  have hb := C.2.1
  refine lv_aload_n hx hb d_I_stateBehind_0 rfl (lv_at hl 0 rfl) ?_
  refine wd_get C h kc_I ha 6 (by decide) lk_I_30 rfl d_I_stateBehind_1 ?_
  refine lv_if_eq (tgt := 33) hx hb d_I_stateBehind_4 (by decide) (fun c_1 => ?_) (fun c_1 => ?_)
  · refine lv_iload_n hx hb d_I_stateBehind_33 rfl (lv_at hl 1 rfl) ?_
    by_cases k_2 : ev = 0
    · refine lv_tableIn (tgt := 92) hx hb d_I_stateBehind_34 (by rw [k_2]; decide) (by rw [k_2]; decide) (by rw [k_2]; rfl) (by decide) ?_
      refine lv_aload_n hx hb d_I_stateBehind_92 rfl (lv_at hl 0 rfl) ?_
      refine wd_get C h kc_I ha 5 (by decide) lk_I_27 rfl d_I_stateBehind_93 ?_
      refine lv_if_ne (tgt := 103) hx hb d_I_stateBehind_96 (by decide) (fun c_3 => ?_) (fun c_3 => ?_)
      · refine lv_iconst (v := (-1)) hx hb d_I_stateBehind_103 (by decide) ?_
        exact wd_iret C hr hlocks h (⟨by simp [xb, c_1, k_2, c_3], rfl⟩) (Nat.le_of_ble_eq_true rfl) (Nat.le_of_ble_eq_true rfl) d_I_stateBehind_104
      · refine lv_iconst (v := 1) hx hb d_I_stateBehind_99 (by decide) ?_
        refine lv_goto (tgt := 104) hx hb d_I_stateBehind_100 (by decide) ?_
        exact wd_iret C hr hlocks h (⟨by simp [xb, c_1, k_2, c_3], rfl⟩) (Nat.le_of_ble_eq_true rfl) (Nat.le_of_ble_eq_true rfl) d_I_stateBehind_104
    by_cases k_4 : ev = 1
    · refine lv_tableIn (tgt := 105) hx hb d_I_stateBehind_34 (by rw [k_4]; decide) (by rw [k_4]; decide) (by rw [k_4]; rfl) (by decide) ?_
      refine lv_aload_n hx hb d_I_stateBehind_105 rfl (lv_at hl 0 rfl) ?_
      refine wd_get C h kc_I ha 5 (by decide) lk_I_27 rfl d_I_stateBehind_106 ?_
      refine lv_bipush (v := 7) hx hb d_I_stateBehind_109 (by decide) ?_
      refine lv_icmp_ne (tgt := 117) hx hb d_I_stateBehind_111 (by decide) (fun c_5 => ?_) (fun c_5 => ?_)
      · refine lv_aload_n hx hb d_I_stateBehind_117 rfl (lv_at hl 0 rfl) ?_
        refine wd_get C h kc_I ha 5 (by decide) lk_I_27 rfl d_I_stateBehind_118 ?_
        refine lv_iconst (v := 1) hx hb d_I_stateBehind_121 (by decide) ?_
        refine lv_icmp_eq (tgt := 133) hx hb d_I_stateBehind_122 (by decide) (fun c_6 => ?_) (fun c_6 => ?_)
        · refine lv_iconst (v := 2) hx hb d_I_stateBehind_133 (by decide) ?_
          refine lv_goto (tgt := 138) hx hb d_I_stateBehind_134 (by decide) ?_
          exact wd_iret C hr hlocks h (⟨by simp [xb, c_1, k_4, c_5, c_6], rfl⟩) (Nat.le_of_ble_eq_true rfl) (Nat.le_of_ble_eq_true rfl) d_I_stateBehind_138
        · refine lv_aload_n hx hb d_I_stateBehind_125 rfl (lv_at hl 0 rfl) ?_
          refine wd_get C h kc_I ha 5 (by decide) lk_I_27 rfl d_I_stateBehind_126 ?_
          refine lv_iconst (v := 3) hx hb d_I_stateBehind_129 (by decide) ?_
          refine lv_icmp_ne (tgt := 137) hx hb d_I_stateBehind_130 (by decide) (fun c_7 => ?_) (fun c_7 => ?_)
          · refine lv_iconst (v := (-1)) hx hb d_I_stateBehind_137 (by decide) ?_
            exact wd_iret C hr hlocks h (⟨by simp [xb, c_1, k_4, c_5, c_6, c_7], rfl⟩) (Nat.le_of_ble_eq_true rfl) (Nat.le_of_ble_eq_true rfl) d_I_stateBehind_138
          · refine lv_iconst (v := 2) hx hb d_I_stateBehind_133 (by decide) ?_
            refine lv_goto (tgt := 138) hx hb d_I_stateBehind_134 (by decide) ?_
            exact wd_iret C hr hlocks h (⟨by simp [xb, c_1, k_4, c_5, c_6, c_7], rfl⟩) (Nat.le_of_ble_eq_true rfl) (Nat.le_of_ble_eq_true rfl) d_I_stateBehind_138
      · refine lv_bipush (v := 7) hx hb d_I_stateBehind_114 (by decide) ?_
        exact wd_iret C hr hlocks h (⟨by simp [xb, c_1, k_4, c_5], rfl⟩) (Nat.le_of_ble_eq_true rfl) (Nat.le_of_ble_eq_true rfl) d_I_stateBehind_116
    by_cases k_8 : ev = 2
    · refine lv_tableIn (tgt := 139) hx hb d_I_stateBehind_34 (by rw [k_8]; decide) (by rw [k_8]; decide) (by rw [k_8]; rfl) (by decide) ?_
      refine lv_aload_n hx hb d_I_stateBehind_139 rfl (lv_at hl 0 rfl) ?_
      refine wd_get C h kc_I ha 5 (by decide) lk_I_27 rfl d_I_stateBehind_140 ?_
      refine lv_iconst (v := 2) hx hb d_I_stateBehind_143 (by decide) ?_
      refine lv_icmp_ne (tgt := 151) hx hb d_I_stateBehind_144 (by decide) (fun c_9 => ?_) (fun c_9 => ?_)
      · refine lv_iconst (v := (-1)) hx hb d_I_stateBehind_151 (by decide) ?_
        exact wd_iret C hr hlocks h (⟨by simp [xb, c_1, k_8, c_9], rfl⟩) (Nat.le_of_ble_eq_true rfl) (Nat.le_of_ble_eq_true rfl) d_I_stateBehind_152
      · refine lv_iconst (v := 3) hx hb d_I_stateBehind_147 (by decide) ?_
        refine lv_goto (tgt := 152) hx hb d_I_stateBehind_148 (by decide) ?_
        exact wd_iret C hr hlocks h (⟨by simp [xb, c_1, k_8, c_9], rfl⟩) (Nat.le_of_ble_eq_true rfl) (Nat.le_of_ble_eq_true rfl) d_I_stateBehind_152
    by_cases k_10 : ev = 3
    · refine lv_tableIn (tgt := 153) hx hb d_I_stateBehind_34 (by rw [k_10]; decide) (by rw [k_10]; decide) (by rw [k_10]; rfl) (by decide) ?_
      refine lv_aload_n hx hb d_I_stateBehind_153 rfl (lv_at hl 0 rfl) ?_
      refine wd_get C h kc_I ha 5 (by decide) lk_I_27 rfl d_I_stateBehind_154 ?_
      refine lv_iconst (v := 3) hx hb d_I_stateBehind_157 (by decide) ?_
      refine lv_icmp_eq (tgt := 170) hx hb d_I_stateBehind_158 (by decide) (fun c_11 => ?_) (fun c_11 => ?_)
      · refine lv_iconst (v := 4) hx hb d_I_stateBehind_170 (by decide) ?_
        refine lv_goto (tgt := 175) hx hb d_I_stateBehind_171 (by decide) ?_
        exact wd_iret C hr hlocks h (⟨by simp [xb, c_1, k_10, c_11], rfl⟩) (Nat.le_of_ble_eq_true rfl) (Nat.le_of_ble_eq_true rfl) d_I_stateBehind_175
      · refine lv_aload_n hx hb d_I_stateBehind_161 rfl (lv_at hl 0 rfl) ?_
        refine wd_get C h kc_I ha 5 (by decide) lk_I_27 rfl d_I_stateBehind_162 ?_
        refine lv_bipush (v := 6) hx hb d_I_stateBehind_165 (by decide) ?_
        refine lv_icmp_ne (tgt := 174) hx hb d_I_stateBehind_167 (by decide) (fun c_12 => ?_) (fun c_12 => ?_)
        · refine lv_iconst (v := (-1)) hx hb d_I_stateBehind_174 (by decide) ?_
          exact wd_iret C hr hlocks h (⟨by simp [xb, c_1, k_10, c_11, c_12], rfl⟩) (Nat.le_of_ble_eq_true rfl) (Nat.le_of_ble_eq_true rfl) d_I_stateBehind_175
        · refine lv_iconst (v := 4) hx hb d_I_stateBehind_170 (by decide) ?_
          refine lv_goto (tgt := 175) hx hb d_I_stateBehind_171 (by decide) ?_
          exact wd_iret C hr hlocks h (⟨by simp [xb, c_1, k_10, c_11, c_12], rfl⟩) (Nat.le_of_ble_eq_true rfl) (Nat.le_of_ble_eq_true rfl) d_I_stateBehind_175
    by_cases k_13 : ev = 4
    · refine lv_tableIn (tgt := 176) hx hb d_I_stateBehind_34 (by rw [k_13]; decide) (by rw [k_13]; decide) (by rw [k_13]; rfl) (by decide) ?_
      refine lv_aload_n hx hb d_I_stateBehind_176 rfl (lv_at hl 0 rfl) ?_
      refine wd_get C h kc_I ha 5 (by decide) lk_I_27 rfl d_I_stateBehind_177 ?_
      refine lv_iconst (v := 4) hx hb d_I_stateBehind_180 (by decide) ?_
      refine lv_icmp_eq (tgt := 193) hx hb d_I_stateBehind_181 (by decide) (fun c_14 => ?_) (fun c_14 => ?_)
      · refine lv_iconst (v := 5) hx hb d_I_stateBehind_193 (by decide) ?_
        refine lv_goto (tgt := 198) hx hb d_I_stateBehind_194 (by decide) ?_
        exact wd_iret C hr hlocks h (⟨by simp [xb, c_1, k_13, c_14], rfl⟩) (Nat.le_of_ble_eq_true rfl) (Nat.le_of_ble_eq_true rfl) d_I_stateBehind_198
      · refine lv_aload_n hx hb d_I_stateBehind_184 rfl (lv_at hl 0 rfl) ?_
        refine wd_get C h kc_I ha 5 (by decide) lk_I_27 rfl d_I_stateBehind_185 ?_
        refine lv_bipush (v := 7) hx hb d_I_stateBehind_188 (by decide) ?_
        refine lv_icmp_ne (tgt := 197) hx hb d_I_stateBehind_190 (by decide) (fun c_15 => ?_) (fun c_15 => ?_)
        · refine lv_iconst (v := (-1)) hx hb d_I_stateBehind_197 (by decide) ?_
          exact wd_iret C hr hlocks h (⟨by simp [xb, c_1, k_13, c_14, c_15], rfl⟩) (Nat.le_of_ble_eq_true rfl) (Nat.le_of_ble_eq_true rfl) d_I_stateBehind_198
        · refine lv_iconst (v := 5) hx hb d_I_stateBehind_193 (by decide) ?_
          refine lv_goto (tgt := 198) hx hb d_I_stateBehind_194 (by decide) ?_
          exact wd_iret C hr hlocks h (⟨by simp [xb, c_1, k_13, c_14, c_15], rfl⟩) (Nat.le_of_ble_eq_true rfl) (Nat.le_of_ble_eq_true rfl) d_I_stateBehind_198
    by_cases k_16 : ev = 5
    · refine lv_tableIn (tgt := 199) hx hb d_I_stateBehind_34 (by rw [k_16]; decide) (by rw [k_16]; decide) (by rw [k_16]; rfl) (by decide) ?_
      refine lv_aload_n hx hb d_I_stateBehind_199 rfl (lv_at hl 0 rfl) ?_
      refine wd_get C h kc_I ha 5 (by decide) lk_I_27 rfl d_I_stateBehind_200 ?_
      refine lv_iconst (v := 4) hx hb d_I_stateBehind_203 (by decide) ?_
      refine lv_icmp_ne (tgt := 212) hx hb d_I_stateBehind_204 (by decide) (fun c_17 => ?_) (fun c_17 => ?_)
      · refine lv_iconst (v := (-1)) hx hb d_I_stateBehind_212 (by decide) ?_
        exact wd_iret C hr hlocks h (⟨by simp [xb, c_1, k_16, c_17], rfl⟩) (Nat.le_of_ble_eq_true rfl) (Nat.le_of_ble_eq_true rfl) d_I_stateBehind_213
      · refine lv_bipush (v := 6) hx hb d_I_stateBehind_207 (by decide) ?_
        refine lv_goto (tgt := 213) hx hb d_I_stateBehind_209 (by decide) ?_
        exact wd_iret C hr hlocks h (⟨by simp [xb, c_1, k_16, c_17], rfl⟩) (Nat.le_of_ble_eq_true rfl) (Nat.le_of_ble_eq_true rfl) d_I_stateBehind_213
    by_cases k_18 : ev = 6
    · refine lv_tableIn (tgt := 214) hx hb d_I_stateBehind_34 (by rw [k_18]; decide) (by rw [k_18]; decide) (by rw [k_18]; rfl) (by decide) ?_
      refine lv_aload_n hx hb d_I_stateBehind_214 rfl (lv_at hl 0 rfl) ?_
      refine wd_get C h kc_I ha 5 (by decide) lk_I_27 rfl d_I_stateBehind_215 ?_
      refine lv_iconst (v := 4) hx hb d_I_stateBehind_218 (by decide) ?_
      refine lv_icmp_eq (tgt := 231) hx hb d_I_stateBehind_219 (by decide) (fun c_19 => ?_) (fun c_19 => ?_)
      · refine lv_bipush (v := 7) hx hb d_I_stateBehind_231 (by decide) ?_
        refine lv_goto (tgt := 237) hx hb d_I_stateBehind_233 (by decide) ?_
        exact wd_iret C hr hlocks h (⟨by simp [xb, c_1, k_18, c_19], rfl⟩) (Nat.le_of_ble_eq_true rfl) (Nat.le_of_ble_eq_true rfl) d_I_stateBehind_237
      · refine lv_aload_n hx hb d_I_stateBehind_222 rfl (lv_at hl 0 rfl) ?_
        refine wd_get C h kc_I ha 5 (by decide) lk_I_27 rfl d_I_stateBehind_223 ?_
        refine lv_bipush (v := 6) hx hb d_I_stateBehind_226 (by decide) ?_
        refine lv_icmp_ne (tgt := 236) hx hb d_I_stateBehind_228 (by decide) (fun c_20 => ?_) (fun c_20 => ?_)
        · refine lv_iconst (v := (-1)) hx hb d_I_stateBehind_236 (by decide) ?_
          exact wd_iret C hr hlocks h (⟨by simp [xb, c_1, k_18, c_19, c_20], rfl⟩) (Nat.le_of_ble_eq_true rfl) (Nat.le_of_ble_eq_true rfl) d_I_stateBehind_237
        · refine lv_bipush (v := 7) hx hb d_I_stateBehind_231 (by decide) ?_
          refine lv_goto (tgt := 237) hx hb d_I_stateBehind_233 (by decide) ?_
          exact wd_iret C hr hlocks h (⟨by simp [xb, c_1, k_18, c_19, c_20], rfl⟩) (Nat.le_of_ble_eq_true rfl) (Nat.le_of_ble_eq_true rfl) d_I_stateBehind_237
    by_cases k_21 : ev = 7
    · refine lv_tableIn (tgt := 238) hx hb d_I_stateBehind_34 (by rw [k_21]; decide) (by rw [k_21]; decide) (by rw [k_21]; rfl) (by decide) ?_
      refine lv_aload_n hx hb d_I_stateBehind_238 rfl (lv_at hl 0 rfl) ?_
      refine wd_get C h kc_I ha 5 (by decide) lk_I_27 rfl d_I_stateBehind_239 ?_
      exact wd_iret C hr hlocks h (⟨by simp [xb, c_1, k_21], rfl⟩) (Nat.le_of_ble_eq_true rfl) (Nat.le_of_ble_eq_true rfl) d_I_stateBehind_242
    by_cases k_22 : ev = 8
    · refine lv_tableIn (tgt := 271) hx hb d_I_stateBehind_34 (by rw [k_22]; decide) (by rw [k_22]; decide) (by rw [k_22]; rfl) (by decide) ?_
      refine lv_iconst (v := (-1)) hx hb d_I_stateBehind_271 (by decide) ?_
      exact wd_iret C hr hlocks h (⟨by simp [xb, c_1, k_22], rfl⟩) (Nat.le_of_ble_eq_true rfl) (Nat.le_of_ble_eq_true rfl) d_I_stateBehind_272
    by_cases k_23 : ev = 9
    · refine lv_tableIn (tgt := 243) hx hb d_I_stateBehind_34 (by rw [k_23]; decide) (by rw [k_23]; decide) (by rw [k_23]; rfl) (by decide) ?_
      refine lv_aload_n hx hb d_I_stateBehind_243 rfl (lv_at hl 0 rfl) ?_
      refine wd_get C h kc_I ha 5 (by decide) lk_I_27 rfl d_I_stateBehind_244 ?_
      refine lv_bipush (v := 7) hx hb d_I_stateBehind_247 (by decide) ?_
      refine lv_icmp_eq (tgt := 261) hx hb d_I_stateBehind_249 (by decide) (fun c_24 => ?_) (fun c_24 => ?_)
      · refine lv_bipush (v := 8) hx hb d_I_stateBehind_261 (by decide) ?_
        refine lv_goto (tgt := 267) hx hb d_I_stateBehind_263 (by decide) ?_
        exact wd_iret C hr hlocks h (⟨by simp [xb, c_1, k_23, c_24], rfl⟩) (Nat.le_of_ble_eq_true rfl) (Nat.le_of_ble_eq_true rfl) d_I_stateBehind_267
      · refine lv_aload_n hx hb d_I_stateBehind_252 rfl (lv_at hl 0 rfl) ?_
        refine wd_get C h kc_I ha 5 (by decide) lk_I_27 rfl d_I_stateBehind_253 ?_
        refine lv_bipush (v := 6) hx hb d_I_stateBehind_256 (by decide) ?_
        refine lv_icmp_ne (tgt := 266) hx hb d_I_stateBehind_258 (by decide) (fun c_25 => ?_) (fun c_25 => ?_)
        · refine lv_iconst (v := (-1)) hx hb d_I_stateBehind_266 (by decide) ?_
          exact wd_iret C hr hlocks h (⟨by simp [xb, c_1, k_23, c_24, c_25], rfl⟩) (Nat.le_of_ble_eq_true rfl) (Nat.le_of_ble_eq_true rfl) d_I_stateBehind_267
        · refine lv_bipush (v := 8) hx hb d_I_stateBehind_261 (by decide) ?_
          refine lv_goto (tgt := 267) hx hb d_I_stateBehind_263 (by decide) ?_
          exact wd_iret C hr hlocks h (⟨by simp [xb, c_1, k_23, c_24, c_25], rfl⟩) (Nat.le_of_ble_eq_true rfl) (Nat.le_of_ble_eq_true rfl) d_I_stateBehind_267
    by_cases k_26 : ev = 10
    · refine lv_tableIn (tgt := 268) hx hb d_I_stateBehind_34 (by rw [k_26]; decide) (by rw [k_26]; decide) (by rw [k_26]; rfl) (by decide) ?_
      refine lv_bipush (v := 9) hx hb d_I_stateBehind_268 (by decide) ?_
      exact wd_iret C hr hlocks h (⟨by simp [xb, c_1, k_26], rfl⟩) (Nat.le_of_ble_eq_true rfl) (Nat.le_of_ble_eq_true rfl) d_I_stateBehind_270
    have n_27 := sw_ne k_2 (show ((0 : Int32)).toInt = 0 from by decide)
    have n_28 := sw_ne k_4 (show ((1 : Int32)).toInt = 1 from by decide)
    have n_29 := sw_ne k_8 (show ((2 : Int32)).toInt = 2 from by decide)
    have n_30 := sw_ne k_10 (show ((3 : Int32)).toInt = 3 from by decide)
    have n_31 := sw_ne k_13 (show ((4 : Int32)).toInt = 4 from by decide)
    have n_32 := sw_ne k_16 (show ((5 : Int32)).toInt = 5 from by decide)
    have n_33 := sw_ne k_18 (show ((6 : Int32)).toInt = 6 from by decide)
    have n_34 := sw_ne k_21 (show ((7 : Int32)).toInt = 7 from by decide)
    have n_35 := sw_ne k_22 (show ((8 : Int32)).toInt = 8 from by decide)
    have n_36 := sw_ne k_23 (show ((9 : Int32)).toInt = 9 from by decide)
    have n_37 := sw_ne k_26 (show ((10 : Int32)).toInt = 10 from by decide)
    refine lv_tableOut (tgt := 271) hx hb d_I_stateBehind_34 (by omega) (by decide) ?_
    refine lv_iconst (v := (-1)) hx hb d_I_stateBehind_271 (by decide) ?_
    exact wd_iret C hr hlocks h (⟨by simp [xb, c_1, k_2, k_4, k_8, k_10, k_13, k_16, k_18, k_21, k_22, k_23, k_26], rfl⟩) (Nat.le_of_ble_eq_true rfl) (Nat.le_of_ble_eq_true rfl) d_I_stateBehind_272
  · refine lv_iload_n hx hb d_I_stateBehind_7 rfl (lv_at hl 1 rfl) ?_
    refine lv_bipush (v := 8) hx hb d_I_stateBehind_8 (by decide) ?_
    refine lv_icmp_ne (tgt := 20) hx hb d_I_stateBehind_10 (by decide) (fun c_38 => ?_) (fun c_38 => ?_)
    · refine lv_iload_n hx hb d_I_stateBehind_20 rfl (lv_at hl 1 rfl) ?_
      refine lv_bipush (v := 10) hx hb d_I_stateBehind_21 (by decide) ?_
      refine lv_icmp_ne (tgt := 31) hx hb d_I_stateBehind_23 (by decide) (fun c_39 => ?_) (fun c_39 => ?_)
      · refine lv_iconst (v := (-1)) hx hb d_I_stateBehind_31 (by decide) ?_
        exact wd_iret C hr hlocks h (⟨by simp [xb, c_1, c_38, c_39], rfl⟩) (Nat.le_of_ble_eq_true rfl) (Nat.le_of_ble_eq_true rfl) d_I_stateBehind_32
      · refine lv_bipush (v := 9) hx hb d_I_stateBehind_26 (by decide) ?_
        refine lv_goto (tgt := 32) hx hb d_I_stateBehind_28 (by decide) ?_
        exact wd_iret C hr hlocks h (⟨by simp [xb, c_1, c_38, c_39], rfl⟩) (Nat.le_of_ble_eq_true rfl) (Nat.le_of_ble_eq_true rfl) d_I_stateBehind_32
    · refine lv_aload_n hx hb d_I_stateBehind_13 rfl (lv_at hl 0 rfl) ?_
      refine wd_get C h kc_I ha 5 (by decide) lk_I_27 rfl d_I_stateBehind_14 ?_
      refine lv_goto (tgt := 32) hx hb d_I_stateBehind_17 (by decide) ?_
      exact wd_iret C hr hlocks h (⟨by simp [xb, c_1, c_38], rfl⟩) (Nat.le_of_ble_eq_true rfl) (Nat.le_of_ble_eq_true rfl) d_I_stateBehind_32

set_option maxHeartbeats 4000000 in
set_option maxRecDepth 20000 in
theorem c_I_correctable (l : Launch) (D : va_G) (T : Nat → ClassId) (A : Nat → Prop) (σ : wd_S) (a : Nat) (r : Nat → Int32) (w c : Nat) (ha : σ a = some (xI r w c)) (wh : Int32) : Met l y_I_correctable (Cond.code y_I_correctable b_I_correctable 2 (some .int) :: wd_tb) { frames := 0, cells := 0, slots := 0, locals := 0 } (va_Pc [.ref a, .int wh] (wd_Pre D T A σ)) (va_Qi (fun r1 σ1 => r1 = xc r wh ∧ σ1 = σ) (wd_B D A) A) 0 0 A := by
  refine wd_ofW (by decide) (Nat.le_of_ble_eq_true rfl) ?_
  intro p e s m below meth c0 ls C hr hlocks hname h hl
  have hl : lv_has ls 2 [(0, .ref a), (1, .int wh)] := hl
  have hx := C.1
  have hb := C.2.1
  refine lv_iload_n hx hb d_I_correctable_0 rfl (lv_at hl 1 rfl) ?_
  by_cases k_1 : wh = 0
  · refine lv_tableIn (tgt := 36) hx hb d_I_correctable_1 (by rw [k_1]; decide) (by rw [k_1]; decide) (by rw [k_1]; rfl) (by decide) ?_
    refine lv_aload_n hx hb d_I_correctable_36 rfl (lv_at hl 0 rfl) ?_
    refine wd_get C h kc_I ha 0 (by decide) lk_I_9 rfl d_I_correctable_37 ?_
    exact wd_iret C hr hlocks h (⟨by simp [xc, k_1], rfl⟩) (Nat.le_of_ble_eq_true rfl) (Nat.le_of_ble_eq_true rfl) d_I_correctable_40
  by_cases k_2 : wh = 1
  · refine lv_tableIn (tgt := 41) hx hb d_I_correctable_1 (by rw [k_2]; decide) (by rw [k_2]; decide) (by rw [k_2]; rfl) (by decide) ?_
    refine lv_aload_n hx hb d_I_correctable_41 rfl (lv_at hl 0 rfl) ?_
    refine wd_get C h kc_I ha 1 (by decide) lk_I_15 rfl d_I_correctable_42 ?_
    exact wd_iret C hr hlocks h (⟨by simp [xc, k_2], rfl⟩) (Nat.le_of_ble_eq_true rfl) (Nat.le_of_ble_eq_true rfl) d_I_correctable_45
  by_cases k_3 : wh = 2
  · refine lv_tableIn (tgt := 46) hx hb d_I_correctable_1 (by rw [k_3]; decide) (by rw [k_3]; decide) (by rw [k_3]; rfl) (by decide) ?_
    refine lv_aload_n hx hb d_I_correctable_46 rfl (lv_at hl 0 rfl) ?_
    refine wd_get C h kc_I ha 2 (by decide) lk_I_18 rfl d_I_correctable_47 ?_
    exact wd_iret C hr hlocks h (⟨by simp [xc, k_3], rfl⟩) (Nat.le_of_ble_eq_true rfl) (Nat.le_of_ble_eq_true rfl) d_I_correctable_50
  by_cases k_4 : wh = 3
  · refine lv_tableIn (tgt := 51) hx hb d_I_correctable_1 (by rw [k_4]; decide) (by rw [k_4]; decide) (by rw [k_4]; rfl) (by decide) ?_
    refine lv_aload_n hx hb d_I_correctable_51 rfl (lv_at hl 0 rfl) ?_
    refine wd_get C h kc_I ha 7 (by decide) lk_I_34 rfl d_I_correctable_52 ?_
    exact wd_iret C hr hlocks h (⟨by simp [xc, k_4], rfl⟩) (Nat.le_of_ble_eq_true rfl) (Nat.le_of_ble_eq_true rfl) d_I_correctable_55
  by_cases k_5 : wh = 4
  · refine lv_tableIn (tgt := 56) hx hb d_I_correctable_1 (by rw [k_5]; decide) (by rw [k_5]; decide) (by rw [k_5]; rfl) (by decide) ?_
    refine lv_aload_n hx hb d_I_correctable_56 rfl (lv_at hl 0 rfl) ?_
    refine wd_get C h kc_I ha 8 (by decide) lk_I_37 rfl d_I_correctable_57 ?_
    exact wd_iret C hr hlocks h (⟨by simp [xc, k_5], rfl⟩) (Nat.le_of_ble_eq_true rfl) (Nat.le_of_ble_eq_true rfl) d_I_correctable_60
  have n_6 := sw_ne k_1 (show ((0 : Int32)).toInt = 0 from by decide)
  have n_7 := sw_ne k_2 (show ((1 : Int32)).toInt = 1 from by decide)
  have n_8 := sw_ne k_3 (show ((2 : Int32)).toInt = 2 from by decide)
  have n_9 := sw_ne k_4 (show ((3 : Int32)).toInt = 3 from by decide)
  have n_10 := sw_ne k_5 (show ((4 : Int32)).toInt = 4 from by decide)
  refine lv_tableOut (tgt := 61) hx hb d_I_correctable_1 (by omega) (by decide) ?_
  refine lv_iconst (v := (-1)) hx hb d_I_correctable_61 (by decide) ?_
  exact wd_iret C hr hlocks h (⟨by simp [xc, k_1, k_2, k_3, k_4, k_5], rfl⟩) (Nat.le_of_ble_eq_true rfl) (Nat.le_of_ble_eq_true rfl) d_I_correctable_62

set_option maxHeartbeats 4000000 in
set_option maxRecDepth 20000 in
theorem c_I_fact (l : Launch) (D : va_G) (T : Nat → ClassId) (A : Nat → Prop) (σ : wd_S) (a : Nat) (r : Nat → Int32) (w c : Nat) (ha : σ a = some (xI r w c)) (wh : Int32) : Met l y_I_fact (Cond.code y_I_fact b_I_fact 2 (some .int) :: wd_tb) { frames := 0, cells := 0, slots := 0, locals := 0 } (va_Pc [.ref a, .int wh] (wd_Pre D T A σ)) (va_Qi (fun r1 σ1 => r1 = xf r wh ∧ σ1 = σ) (wd_B D A) A) 0 0 A := by
  refine wd_ofW (by decide) (Nat.le_of_ble_eq_true rfl) ?_
  intro p e s m below meth c0 ls C hr hlocks hname h hl
  have hl : lv_has ls 2 [(0, .ref a), (1, .int wh)] := hl
  have hx := C.1
  have hb := C.2.1
  refine lv_iload_n hx hb d_I_fact_0 rfl (lv_at hl 1 rfl) ?_
  by_cases k_1 : wh = 0
  · refine lv_tableIn (tgt := 72) hx hb d_I_fact_1 (by rw [k_1]; decide) (by rw [k_1]; decide) (by rw [k_1]; rfl) (by decide) ?_
    refine lv_aload_n hx hb d_I_fact_72 rfl (lv_at hl 0 rfl) ?_
    refine wd_get C h kc_I ha 5 (by decide) lk_I_27 rfl d_I_fact_73 ?_
    exact wd_iret C hr hlocks h (⟨by simp [xf, k_1], rfl⟩) (Nat.le_of_ble_eq_true rfl) (Nat.le_of_ble_eq_true rfl) d_I_fact_76
  by_cases k_2 : wh = 1
  · refine lv_tableIn (tgt := 77) hx hb d_I_fact_1 (by rw [k_2]; decide) (by rw [k_2]; decide) (by rw [k_2]; rfl) (by decide) ?_
    refine lv_aload_n hx hb d_I_fact_77 rfl (lv_at hl 0 rfl) ?_
    refine wd_get C h kc_I ha 0 (by decide) lk_I_9 rfl d_I_fact_78 ?_
    exact wd_iret C hr hlocks h (⟨by simp [xf, k_2], rfl⟩) (Nat.le_of_ble_eq_true rfl) (Nat.le_of_ble_eq_true rfl) d_I_fact_81
  by_cases k_3 : wh = 2
  · refine lv_tableIn (tgt := 82) hx hb d_I_fact_1 (by rw [k_3]; decide) (by rw [k_3]; decide) (by rw [k_3]; rfl) (by decide) ?_
    refine lv_aload_n hx hb d_I_fact_82 rfl (lv_at hl 0 rfl) ?_
    refine wd_get C h kc_I ha 1 (by decide) lk_I_15 rfl d_I_fact_83 ?_
    exact wd_iret C hr hlocks h (⟨by simp [xf, k_3], rfl⟩) (Nat.le_of_ble_eq_true rfl) (Nat.le_of_ble_eq_true rfl) d_I_fact_86
  by_cases k_4 : wh = 3
  · refine lv_tableIn (tgt := 87) hx hb d_I_fact_1 (by rw [k_4]; decide) (by rw [k_4]; decide) (by rw [k_4]; rfl) (by decide) ?_
    refine lv_aload_n hx hb d_I_fact_87 rfl (lv_at hl 0 rfl) ?_
    refine wd_get C h kc_I ha 2 (by decide) lk_I_18 rfl d_I_fact_88 ?_
    exact wd_iret C hr hlocks h (⟨by simp [xf, k_4], rfl⟩) (Nat.le_of_ble_eq_true rfl) (Nat.le_of_ble_eq_true rfl) d_I_fact_91
  by_cases k_5 : wh = 4
  · refine lv_tableIn (tgt := 92) hx hb d_I_fact_1 (by rw [k_5]; decide) (by rw [k_5]; decide) (by rw [k_5]; rfl) (by decide) ?_
    refine lv_aload_n hx hb d_I_fact_92 rfl (lv_at hl 0 rfl) ?_
    refine wd_get C h kc_I ha 4 (by decide) lk_I_24 rfl d_I_fact_93 ?_
    exact wd_iret C hr hlocks h (⟨by simp [xf, k_5], rfl⟩) (Nat.le_of_ble_eq_true rfl) (Nat.le_of_ble_eq_true rfl) d_I_fact_96
  by_cases k_6 : wh = 5
  · refine lv_tableIn (tgt := 97) hx hb d_I_fact_1 (by rw [k_6]; decide) (by rw [k_6]; decide) (by rw [k_6]; rfl) (by decide) ?_
    refine lv_aload_n hx hb d_I_fact_97 rfl (lv_at hl 0 rfl) ?_
    refine wd_get C h kc_I ha 7 (by decide) lk_I_34 rfl d_I_fact_98 ?_
    exact wd_iret C hr hlocks h (⟨by simp [xf, k_6], rfl⟩) (Nat.le_of_ble_eq_true rfl) (Nat.le_of_ble_eq_true rfl) d_I_fact_101
  by_cases k_7 : wh = 6
  · refine lv_tableIn (tgt := 102) hx hb d_I_fact_1 (by rw [k_7]; decide) (by rw [k_7]; decide) (by rw [k_7]; rfl) (by decide) ?_
    refine lv_aload_n hx hb d_I_fact_102 rfl (lv_at hl 0 rfl) ?_
    refine wd_get C h kc_I ha 8 (by decide) lk_I_37 rfl d_I_fact_103 ?_
    exact wd_iret C hr hlocks h (⟨by simp [xf, k_7], rfl⟩) (Nat.le_of_ble_eq_true rfl) (Nat.le_of_ble_eq_true rfl) d_I_fact_106
  by_cases k_8 : wh = 7
  · refine lv_tableIn (tgt := 107) hx hb d_I_fact_1 (by rw [k_8]; decide) (by rw [k_8]; decide) (by rw [k_8]; rfl) (by decide) ?_
    refine lv_aload_n hx hb d_I_fact_107 rfl (lv_at hl 0 rfl) ?_
    refine wd_get C h kc_I ha 9 (by decide) lk_I_40 rfl d_I_fact_108 ?_
    exact wd_iret C hr hlocks h (⟨by simp [xf, k_8], rfl⟩) (Nat.le_of_ble_eq_true rfl) (Nat.le_of_ble_eq_true rfl) d_I_fact_111
  by_cases k_9 : wh = 8
  · refine lv_tableIn (tgt := 112) hx hb d_I_fact_1 (by rw [k_9]; decide) (by rw [k_9]; decide) (by rw [k_9]; rfl) (by decide) ?_
    refine lv_aload_n hx hb d_I_fact_112 rfl (lv_at hl 0 rfl) ?_
    refine wd_get C h kc_I ha 10 (by decide) lk_I_43 rfl d_I_fact_113 ?_
    exact wd_iret C hr hlocks h (⟨by simp [xf, k_9], rfl⟩) (Nat.le_of_ble_eq_true rfl) (Nat.le_of_ble_eq_true rfl) d_I_fact_116
  by_cases k_10 : wh = 9
  · refine lv_tableIn (tgt := 117) hx hb d_I_fact_1 (by rw [k_10]; decide) (by rw [k_10]; decide) (by rw [k_10]; rfl) (by decide) ?_
    refine lv_aload_n hx hb d_I_fact_117 rfl (lv_at hl 0 rfl) ?_
    refine wd_get C h kc_I ha 11 (by decide) lk_I_46 rfl d_I_fact_118 ?_
    exact wd_iret C hr hlocks h (⟨by simp [xf, k_10], rfl⟩) (Nat.le_of_ble_eq_true rfl) (Nat.le_of_ble_eq_true rfl) d_I_fact_121
  by_cases k_11 : wh = 10
  · refine lv_tableIn (tgt := 122) hx hb d_I_fact_1 (by rw [k_11]; decide) (by rw [k_11]; decide) (by rw [k_11]; rfl) (by decide) ?_
    refine lv_aload_n hx hb d_I_fact_122 rfl (lv_at hl 0 rfl) ?_
    refine wd_get C h kc_I ha 12 (by decide) lk_I_49 rfl d_I_fact_123 ?_
    exact wd_iret C hr hlocks h (⟨by simp [xf, k_11], rfl⟩) (Nat.le_of_ble_eq_true rfl) (Nat.le_of_ble_eq_true rfl) d_I_fact_126
  by_cases k_12 : wh = 11
  · refine lv_tableIn (tgt := 127) hx hb d_I_fact_1 (by rw [k_12]; decide) (by rw [k_12]; decide) (by rw [k_12]; rfl) (by decide) ?_
    refine lv_aload_n hx hb d_I_fact_127 rfl (lv_at hl 0 rfl) ?_
    refine wd_get C h kc_I ha 6 (by decide) lk_I_30 rfl d_I_fact_128 ?_
    refine lv_if_eq (tgt := 138) hx hb d_I_fact_131 (by decide) (fun c_13 => ?_) (fun c_13 => ?_)
    · refine lv_iconst (v := 0) hx hb d_I_fact_138 (by decide) ?_
      exact wd_iret C hr hlocks h (⟨by simp [xf, k_12, c_13], rfl⟩) (Nat.le_of_ble_eq_true rfl) (Nat.le_of_ble_eq_true rfl) d_I_fact_139
    · refine lv_iconst (v := 1) hx hb d_I_fact_134 (by decide) ?_
      refine lv_goto (tgt := 139) hx hb d_I_fact_135 (by decide) ?_
      exact wd_iret C hr hlocks h (⟨by simp [xf, k_12, c_13], rfl⟩) (Nat.le_of_ble_eq_true rfl) (Nat.le_of_ble_eq_true rfl) d_I_fact_139
  by_cases k_14 : wh = 12
  · refine lv_tableIn (tgt := 140) hx hb d_I_fact_1 (by rw [k_14]; decide) (by rw [k_14]; decide) (by rw [k_14]; rfl) (by decide) ?_
    refine lv_aload_n hx hb d_I_fact_140 rfl (lv_at hl 0 rfl) ?_
    refine wd_get C h kc_I ha 3 (by decide) lk_I_21 rfl d_I_fact_141 ?_
    exact wd_iret C hr hlocks h (⟨by simp [xf, k_14], rfl⟩) (Nat.le_of_ble_eq_true rfl) (Nat.le_of_ble_eq_true rfl) d_I_fact_144
  by_cases k_15 : wh = 13
  · refine lv_tableIn (tgt := 145) hx hb d_I_fact_1 (by rw [k_15]; decide) (by rw [k_15]; decide) (by rw [k_15]; rfl) (by decide) ?_
    refine lv_aload_n hx hb d_I_fact_145 rfl (lv_at hl 0 rfl) ?_
    refine wd_get C h kc_I ha 13 (by decide) lk_I_52 rfl d_I_fact_146 ?_
    exact wd_iret C hr hlocks h (⟨by simp [xf, k_15], rfl⟩) (Nat.le_of_ble_eq_true rfl) (Nat.le_of_ble_eq_true rfl) d_I_fact_149
  have n_16 := sw_ne k_1 (show ((0 : Int32)).toInt = 0 from by decide)
  have n_17 := sw_ne k_2 (show ((1 : Int32)).toInt = 1 from by decide)
  have n_18 := sw_ne k_3 (show ((2 : Int32)).toInt = 2 from by decide)
  have n_19 := sw_ne k_4 (show ((3 : Int32)).toInt = 3 from by decide)
  have n_20 := sw_ne k_5 (show ((4 : Int32)).toInt = 4 from by decide)
  have n_21 := sw_ne k_6 (show ((5 : Int32)).toInt = 5 from by decide)
  have n_22 := sw_ne k_7 (show ((6 : Int32)).toInt = 6 from by decide)
  have n_23 := sw_ne k_8 (show ((7 : Int32)).toInt = 7 from by decide)
  have n_24 := sw_ne k_9 (show ((8 : Int32)).toInt = 8 from by decide)
  have n_25 := sw_ne k_10 (show ((9 : Int32)).toInt = 9 from by decide)
  have n_26 := sw_ne k_11 (show ((10 : Int32)).toInt = 10 from by decide)
  have n_27 := sw_ne k_12 (show ((11 : Int32)).toInt = 11 from by decide)
  have n_28 := sw_ne k_14 (show ((12 : Int32)).toInt = 12 from by decide)
  have n_29 := sw_ne k_15 (show ((13 : Int32)).toInt = 13 from by decide)
  refine lv_tableOut (tgt := 150) hx hb d_I_fact_1 (by omega) (by decide) ?_
  refine lv_bipush (v := (-102)) hx hb d_I_fact_150 (by decide) ?_
  exact wd_iret C hr hlocks h (⟨by simp [xf, k_1, k_2, k_3, k_4, k_5, k_6, k_7, k_8, k_9, k_10, k_11, k_12, k_14, k_15], rfl⟩) (Nat.le_of_ble_eq_true rfl) (Nat.le_of_ble_eq_true rfl) d_I_fact_152
end
section
set_option maxHeartbeats 4000000 in
set_option maxRecDepth 20000 in
theorem c_F_turned_0 (l : Launch) (D : va_G) (T : Nat → ClassId) (A : Nat → Prop) (σ : wd_S) (w z : Int32) : Met l y_F_turned (Cond.code y_F_turned b_F_turned 4 (some .int) :: wd_tb) { frames := 0, cells := 0, slots := 0, locals := 0 } (va_Pc [.int 0, .int w, .int z] (wd_Pre D T A σ)) (va_Qi (fun r1 σ1 => r1 = xt 0 w z ∧ σ1 = σ) (wd_B D A) A) 0 0 A := by
  refine wd_ofW (by decide) (Nat.le_of_ble_eq_true rfl) ?_
  intro p e s m below meth c0 ls C hr hlocks hname h hl
  have hl : lv_has ls 4 [(0, .int 0), (1, .int w), (2, .int z)] := hl
  have hx := C.1
  have hb := C.2.1
  refine lv_iload_n hx hb d_F_turned_0 rfl (lv_at hl 0 rfl) ?_
  refine lv_istore_n (lv' := [(3, .int 0), (0, .int 0), (1, .int w), (2, .int z)]) hx hb d_F_turned_1 rfl hl (by decide) rfl (fun ls hl => ?_)
  refine lv_iload_n hx hb d_F_turned_2 rfl (lv_at hl 0 rfl) ?_
  refine lv_iconst (v := 3) hx hb d_F_turned_3 (by decide) ?_
  refine lv_icmp_ge (tgt := 33) hx hb d_F_turned_4 (by decide) (fun c_1 => ?_) (fun c_1 => ?_)
  · exact absurd c_1 (by decide)
  refine lv_iload_n hx hb d_F_turned_7 rfl (lv_at hl 2 rfl) ?_
  refine wd_gets C h ks_bw lk_F_51 d_F_turned_8 (fun t_2 ht_3 => ?_)
  refine lv_iload_n hx hb d_F_turned_11 rfl (lv_at hl 0 rfl) ?_
  refine wd_ti C h ht_3 (by unfold vp_in; decide) d_F_turned_12 ?_
  refine W.eq (g2 := F0 m 13 ls (.int 50 :: .int w :: [])) rfl ?_
  refine lv_icmp_gt (tgt := 27) hx hb d_F_turned_13 (by decide) (fun c_4 => ?_) (fun c_4 => ?_)
  · refine lv_iinc (v := 1) (lv' := [(3, .int 1), (0, .int 0), (1, .int w), (2, .int z)]) hx hb d_F_turned_27 hl (k := 0) rfl (by first | rfl | decide) (by decide) rfl (fun ls hl => ?_)
    refine lv_goto (tgt := 2) hx hb d_F_turned_30 (by decide) ?_
    refine lv_iload_n hx hb d_F_turned_2 rfl (lv_at hl 0 rfl) ?_
    refine lv_iconst (v := 3) hx hb d_F_turned_3 (by decide) ?_
    refine lv_icmp_ge (tgt := 33) hx hb d_F_turned_4 (by decide) (fun c_5 => ?_) (fun c_5 => ?_)
    · exact absurd c_5 (by decide)
    refine lv_iload_n hx hb d_F_turned_7 rfl (lv_at hl 2 rfl) ?_
    refine wd_gets C h ks_bw lk_F_51 d_F_turned_8 (fun t_6 ht_7 => ?_)
    refine lv_iload_n hx hb d_F_turned_11 rfl (lv_at hl 0 rfl) ?_
    refine wd_ti C h ht_7 (by unfold vp_in; decide) d_F_turned_12 ?_
    refine W.eq (g2 := F0 m 13 ls (.int 500 :: .int w :: [])) rfl ?_
    refine lv_icmp_gt (tgt := 27) hx hb d_F_turned_13 (by decide) (fun c_8 => ?_) (fun c_8 => ?_)
    · refine lv_iinc (v := 2) (lv' := [(3, .int 2), (0, .int 0), (1, .int w), (2, .int z)]) hx hb d_F_turned_27 hl (k := 0) rfl (by first | rfl | decide) (by decide) rfl (fun ls hl => ?_)
      refine lv_goto (tgt := 2) hx hb d_F_turned_30 (by decide) ?_
      refine lv_iload_n hx hb d_F_turned_2 rfl (lv_at hl 0 rfl) ?_
      refine lv_iconst (v := 3) hx hb d_F_turned_3 (by decide) ?_
      refine lv_icmp_ge (tgt := 33) hx hb d_F_turned_4 (by decide) (fun c_9 => ?_) (fun c_9 => ?_)
      · exact absurd c_9 (by decide)
      refine lv_iload_n hx hb d_F_turned_7 rfl (lv_at hl 2 rfl) ?_
      refine wd_gets C h ks_bw lk_F_51 d_F_turned_8 (fun t_10 ht_11 => ?_)
      refine lv_iload_n hx hb d_F_turned_11 rfl (lv_at hl 0 rfl) ?_
      refine wd_ti C h ht_11 (by unfold vp_in; decide) d_F_turned_12 ?_
      refine W.eq (g2 := F0 m 13 ls (.int 2000 :: .int w :: [])) rfl ?_
      refine lv_icmp_gt (tgt := 27) hx hb d_F_turned_13 (by decide) (fun c_12 => ?_) (fun c_12 => ?_)
      · refine lv_iinc (v := 3) (lv' := [(3, .int 3), (0, .int 0), (1, .int w), (2, .int z)]) hx hb d_F_turned_27 hl (k := 0) rfl (by first | rfl | decide) (by decide) rfl (fun ls hl => ?_)
        refine lv_goto (tgt := 2) hx hb d_F_turned_30 (by decide) ?_
        refine lv_iload_n hx hb d_F_turned_2 rfl (lv_at hl 0 rfl) ?_
        refine lv_iconst (v := 3) hx hb d_F_turned_3 (by decide) ?_
        refine lv_icmp_ge (tgt := 33) hx hb d_F_turned_4 (by decide) (fun c_13 => ?_) (fun c_13 => ?_)
        rotate_left
        · exact absurd c_13 (by decide)
        refine lv_iconst (v := 3) hx hb d_F_turned_33 (by decide) ?_
        exact wd_iret C hr hlocks h (⟨by simp [xt, c_4, c_8, c_12], rfl⟩) (Nat.le_of_ble_eq_true rfl) (Nat.le_of_ble_eq_true rfl) d_F_turned_34
      · refine lv_iload_n hx hb d_F_turned_16 rfl (lv_at hl 3 rfl) ?_
        refine wd_gets C h ks_bs lk_F_54 d_F_turned_17 (fun t_14 ht_15 => ?_)
        refine lv_iload_n hx hb d_F_turned_20 rfl (lv_at hl 0 rfl) ?_
        refine wd_ti C h ht_15 (by unfold vp_in; decide) d_F_turned_21 ?_
        refine W.eq (g2 := F0 m 22 ls (.int 2 :: .int z :: [])) rfl ?_
        refine lv_icmp_gt (tgt := 27) hx hb d_F_turned_22 (by decide) (fun c_16 => ?_) (fun c_16 => ?_)
        · refine lv_iinc (v := 3) (lv' := [(3, .int 3), (0, .int 0), (1, .int w), (2, .int z)]) hx hb d_F_turned_27 hl (k := 0) rfl (by first | rfl | decide) (by decide) rfl (fun ls hl => ?_)
          refine lv_goto (tgt := 2) hx hb d_F_turned_30 (by decide) ?_
          refine lv_iload_n hx hb d_F_turned_2 rfl (lv_at hl 0 rfl) ?_
          refine lv_iconst (v := 3) hx hb d_F_turned_3 (by decide) ?_
          refine lv_icmp_ge (tgt := 33) hx hb d_F_turned_4 (by decide) (fun c_17 => ?_) (fun c_17 => ?_)
          rotate_left
          · exact absurd c_17 (by decide)
          refine lv_iconst (v := 3) hx hb d_F_turned_33 (by decide) ?_
          exact wd_iret C hr hlocks h (⟨by simp [xt, c_4, c_8, c_12, c_16], rfl⟩) (Nat.le_of_ble_eq_true rfl) (Nat.le_of_ble_eq_true rfl) d_F_turned_34
        · refine lv_iload_n hx hb d_F_turned_25 rfl (lv_at hl 0 rfl) ?_
          exact wd_iret C hr hlocks h (⟨by simp [xt, c_4, c_8, c_12, c_16], rfl⟩) (Nat.le_of_ble_eq_true rfl) (Nat.le_of_ble_eq_true rfl) d_F_turned_26
    · refine lv_iload_n hx hb d_F_turned_16 rfl (lv_at hl 3 rfl) ?_
      refine wd_gets C h ks_bs lk_F_54 d_F_turned_17 (fun t_18 ht_19 => ?_)
      refine lv_iload_n hx hb d_F_turned_20 rfl (lv_at hl 0 rfl) ?_
      refine wd_ti C h ht_19 (by unfold vp_in; decide) d_F_turned_21 ?_
      refine W.eq (g2 := F0 m 22 ls (.int 1 :: .int z :: [])) rfl ?_
      refine lv_icmp_gt (tgt := 27) hx hb d_F_turned_22 (by decide) (fun c_20 => ?_) (fun c_20 => ?_)
      · refine lv_iinc (v := 2) (lv' := [(3, .int 2), (0, .int 0), (1, .int w), (2, .int z)]) hx hb d_F_turned_27 hl (k := 0) rfl (by first | rfl | decide) (by decide) rfl (fun ls hl => ?_)
        refine lv_goto (tgt := 2) hx hb d_F_turned_30 (by decide) ?_
        refine lv_iload_n hx hb d_F_turned_2 rfl (lv_at hl 0 rfl) ?_
        refine lv_iconst (v := 3) hx hb d_F_turned_3 (by decide) ?_
        refine lv_icmp_ge (tgt := 33) hx hb d_F_turned_4 (by decide) (fun c_21 => ?_) (fun c_21 => ?_)
        · exact absurd c_21 (by decide)
        refine lv_iload_n hx hb d_F_turned_7 rfl (lv_at hl 2 rfl) ?_
        refine wd_gets C h ks_bw lk_F_51 d_F_turned_8 (fun t_22 ht_23 => ?_)
        refine lv_iload_n hx hb d_F_turned_11 rfl (lv_at hl 0 rfl) ?_
        refine wd_ti C h ht_23 (by unfold vp_in; decide) d_F_turned_12 ?_
        refine W.eq (g2 := F0 m 13 ls (.int 2000 :: .int w :: [])) rfl ?_
        refine lv_icmp_gt (tgt := 27) hx hb d_F_turned_13 (by decide) (fun c_24 => ?_) (fun c_24 => ?_)
        · refine lv_iinc (v := 3) (lv' := [(3, .int 3), (0, .int 0), (1, .int w), (2, .int z)]) hx hb d_F_turned_27 hl (k := 0) rfl (by first | rfl | decide) (by decide) rfl (fun ls hl => ?_)
          refine lv_goto (tgt := 2) hx hb d_F_turned_30 (by decide) ?_
          refine lv_iload_n hx hb d_F_turned_2 rfl (lv_at hl 0 rfl) ?_
          refine lv_iconst (v := 3) hx hb d_F_turned_3 (by decide) ?_
          refine lv_icmp_ge (tgt := 33) hx hb d_F_turned_4 (by decide) (fun c_25 => ?_) (fun c_25 => ?_)
          rotate_left
          · exact absurd c_25 (by decide)
          refine lv_iconst (v := 3) hx hb d_F_turned_33 (by decide) ?_
          exact wd_iret C hr hlocks h (⟨by simp [xt, c_4, c_8, c_20, c_24], rfl⟩) (Nat.le_of_ble_eq_true rfl) (Nat.le_of_ble_eq_true rfl) d_F_turned_34
        · refine lv_iload_n hx hb d_F_turned_16 rfl (lv_at hl 3 rfl) ?_
          refine wd_gets C h ks_bs lk_F_54 d_F_turned_17 (fun t_26 ht_27 => ?_)
          refine lv_iload_n hx hb d_F_turned_20 rfl (lv_at hl 0 rfl) ?_
          refine wd_ti C h ht_27 (by unfold vp_in; decide) d_F_turned_21 ?_
          refine W.eq (g2 := F0 m 22 ls (.int 2 :: .int z :: [])) rfl ?_
          refine lv_icmp_gt (tgt := 27) hx hb d_F_turned_22 (by decide) (fun c_28 => ?_) (fun c_28 => ?_)
          · refine lv_iinc (v := 3) (lv' := [(3, .int 3), (0, .int 0), (1, .int w), (2, .int z)]) hx hb d_F_turned_27 hl (k := 0) rfl (by first | rfl | decide) (by decide) rfl (fun ls hl => ?_)
            refine lv_goto (tgt := 2) hx hb d_F_turned_30 (by decide) ?_
            refine lv_iload_n hx hb d_F_turned_2 rfl (lv_at hl 0 rfl) ?_
            refine lv_iconst (v := 3) hx hb d_F_turned_3 (by decide) ?_
            refine lv_icmp_ge (tgt := 33) hx hb d_F_turned_4 (by decide) (fun c_29 => ?_) (fun c_29 => ?_)
            rotate_left
            · exact absurd c_29 (by decide)
            refine lv_iconst (v := 3) hx hb d_F_turned_33 (by decide) ?_
            exact wd_iret C hr hlocks h (⟨by simp [xt, c_4, c_8, c_20, c_24, c_28], rfl⟩) (Nat.le_of_ble_eq_true rfl) (Nat.le_of_ble_eq_true rfl) d_F_turned_34
          · refine lv_iload_n hx hb d_F_turned_25 rfl (lv_at hl 0 rfl) ?_
            exact wd_iret C hr hlocks h (⟨by simp [xt, c_4, c_8, c_20, c_24, c_28], rfl⟩) (Nat.le_of_ble_eq_true rfl) (Nat.le_of_ble_eq_true rfl) d_F_turned_26
      · refine lv_iload_n hx hb d_F_turned_25 rfl (lv_at hl 0 rfl) ?_
        exact wd_iret C hr hlocks h (⟨by simp [xt, c_4, c_8, c_20], rfl⟩) (Nat.le_of_ble_eq_true rfl) (Nat.le_of_ble_eq_true rfl) d_F_turned_26
  · refine lv_iload_n hx hb d_F_turned_16 rfl (lv_at hl 3 rfl) ?_
    refine wd_gets C h ks_bs lk_F_54 d_F_turned_17 (fun t_30 ht_31 => ?_)
    refine lv_iload_n hx hb d_F_turned_20 rfl (lv_at hl 0 rfl) ?_
    refine wd_ti C h ht_31 (by unfold vp_in; decide) d_F_turned_21 ?_
    refine W.eq (g2 := F0 m 22 ls (.int 0 :: .int z :: [])) rfl ?_
    refine lv_icmp_gt (tgt := 27) hx hb d_F_turned_22 (by decide) (fun c_32 => ?_) (fun c_32 => ?_)
    · refine lv_iinc (v := 1) (lv' := [(3, .int 1), (0, .int 0), (1, .int w), (2, .int z)]) hx hb d_F_turned_27 hl (k := 0) rfl (by first | rfl | decide) (by decide) rfl (fun ls hl => ?_)
      refine lv_goto (tgt := 2) hx hb d_F_turned_30 (by decide) ?_
      refine lv_iload_n hx hb d_F_turned_2 rfl (lv_at hl 0 rfl) ?_
      refine lv_iconst (v := 3) hx hb d_F_turned_3 (by decide) ?_
      refine lv_icmp_ge (tgt := 33) hx hb d_F_turned_4 (by decide) (fun c_33 => ?_) (fun c_33 => ?_)
      · exact absurd c_33 (by decide)
      refine lv_iload_n hx hb d_F_turned_7 rfl (lv_at hl 2 rfl) ?_
      refine wd_gets C h ks_bw lk_F_51 d_F_turned_8 (fun t_34 ht_35 => ?_)
      refine lv_iload_n hx hb d_F_turned_11 rfl (lv_at hl 0 rfl) ?_
      refine wd_ti C h ht_35 (by unfold vp_in; decide) d_F_turned_12 ?_
      refine W.eq (g2 := F0 m 13 ls (.int 500 :: .int w :: [])) rfl ?_
      refine lv_icmp_gt (tgt := 27) hx hb d_F_turned_13 (by decide) (fun c_36 => ?_) (fun c_36 => ?_)
      · refine lv_iinc (v := 2) (lv' := [(3, .int 2), (0, .int 0), (1, .int w), (2, .int z)]) hx hb d_F_turned_27 hl (k := 0) rfl (by first | rfl | decide) (by decide) rfl (fun ls hl => ?_)
        refine lv_goto (tgt := 2) hx hb d_F_turned_30 (by decide) ?_
        refine lv_iload_n hx hb d_F_turned_2 rfl (lv_at hl 0 rfl) ?_
        refine lv_iconst (v := 3) hx hb d_F_turned_3 (by decide) ?_
        refine lv_icmp_ge (tgt := 33) hx hb d_F_turned_4 (by decide) (fun c_37 => ?_) (fun c_37 => ?_)
        · exact absurd c_37 (by decide)
        refine lv_iload_n hx hb d_F_turned_7 rfl (lv_at hl 2 rfl) ?_
        refine wd_gets C h ks_bw lk_F_51 d_F_turned_8 (fun t_38 ht_39 => ?_)
        refine lv_iload_n hx hb d_F_turned_11 rfl (lv_at hl 0 rfl) ?_
        refine wd_ti C h ht_39 (by unfold vp_in; decide) d_F_turned_12 ?_
        refine W.eq (g2 := F0 m 13 ls (.int 2000 :: .int w :: [])) rfl ?_
        refine lv_icmp_gt (tgt := 27) hx hb d_F_turned_13 (by decide) (fun c_40 => ?_) (fun c_40 => ?_)
        · refine lv_iinc (v := 3) (lv' := [(3, .int 3), (0, .int 0), (1, .int w), (2, .int z)]) hx hb d_F_turned_27 hl (k := 0) rfl (by first | rfl | decide) (by decide) rfl (fun ls hl => ?_)
          refine lv_goto (tgt := 2) hx hb d_F_turned_30 (by decide) ?_
          refine lv_iload_n hx hb d_F_turned_2 rfl (lv_at hl 0 rfl) ?_
          refine lv_iconst (v := 3) hx hb d_F_turned_3 (by decide) ?_
          refine lv_icmp_ge (tgt := 33) hx hb d_F_turned_4 (by decide) (fun c_41 => ?_) (fun c_41 => ?_)
          rotate_left
          · exact absurd c_41 (by decide)
          refine lv_iconst (v := 3) hx hb d_F_turned_33 (by decide) ?_
          exact wd_iret C hr hlocks h (⟨by simp [xt, c_4, c_32, c_36, c_40], rfl⟩) (Nat.le_of_ble_eq_true rfl) (Nat.le_of_ble_eq_true rfl) d_F_turned_34
        · refine lv_iload_n hx hb d_F_turned_16 rfl (lv_at hl 3 rfl) ?_
          refine wd_gets C h ks_bs lk_F_54 d_F_turned_17 (fun t_42 ht_43 => ?_)
          refine lv_iload_n hx hb d_F_turned_20 rfl (lv_at hl 0 rfl) ?_
          refine wd_ti C h ht_43 (by unfold vp_in; decide) d_F_turned_21 ?_
          refine W.eq (g2 := F0 m 22 ls (.int 2 :: .int z :: [])) rfl ?_
          refine lv_icmp_gt (tgt := 27) hx hb d_F_turned_22 (by decide) (fun c_44 => ?_) (fun c_44 => ?_)
          · refine lv_iinc (v := 3) (lv' := [(3, .int 3), (0, .int 0), (1, .int w), (2, .int z)]) hx hb d_F_turned_27 hl (k := 0) rfl (by first | rfl | decide) (by decide) rfl (fun ls hl => ?_)
            refine lv_goto (tgt := 2) hx hb d_F_turned_30 (by decide) ?_
            refine lv_iload_n hx hb d_F_turned_2 rfl (lv_at hl 0 rfl) ?_
            refine lv_iconst (v := 3) hx hb d_F_turned_3 (by decide) ?_
            refine lv_icmp_ge (tgt := 33) hx hb d_F_turned_4 (by decide) (fun c_45 => ?_) (fun c_45 => ?_)
            rotate_left
            · exact absurd c_45 (by decide)
            refine lv_iconst (v := 3) hx hb d_F_turned_33 (by decide) ?_
            exact wd_iret C hr hlocks h (⟨by simp [xt, c_4, c_32, c_36, c_40, c_44], rfl⟩) (Nat.le_of_ble_eq_true rfl) (Nat.le_of_ble_eq_true rfl) d_F_turned_34
          · refine lv_iload_n hx hb d_F_turned_25 rfl (lv_at hl 0 rfl) ?_
            exact wd_iret C hr hlocks h (⟨by simp [xt, c_4, c_32, c_36, c_40, c_44], rfl⟩) (Nat.le_of_ble_eq_true rfl) (Nat.le_of_ble_eq_true rfl) d_F_turned_26
      · refine lv_iload_n hx hb d_F_turned_16 rfl (lv_at hl 3 rfl) ?_
        refine wd_gets C h ks_bs lk_F_54 d_F_turned_17 (fun t_46 ht_47 => ?_)
        refine lv_iload_n hx hb d_F_turned_20 rfl (lv_at hl 0 rfl) ?_
        refine wd_ti C h ht_47 (by unfold vp_in; decide) d_F_turned_21 ?_
        refine W.eq (g2 := F0 m 22 ls (.int 1 :: .int z :: [])) rfl ?_
        refine lv_icmp_gt (tgt := 27) hx hb d_F_turned_22 (by decide) (fun c_48 => ?_) (fun c_48 => ?_)
        · refine lv_iinc (v := 2) (lv' := [(3, .int 2), (0, .int 0), (1, .int w), (2, .int z)]) hx hb d_F_turned_27 hl (k := 0) rfl (by first | rfl | decide) (by decide) rfl (fun ls hl => ?_)
          refine lv_goto (tgt := 2) hx hb d_F_turned_30 (by decide) ?_
          refine lv_iload_n hx hb d_F_turned_2 rfl (lv_at hl 0 rfl) ?_
          refine lv_iconst (v := 3) hx hb d_F_turned_3 (by decide) ?_
          refine lv_icmp_ge (tgt := 33) hx hb d_F_turned_4 (by decide) (fun c_49 => ?_) (fun c_49 => ?_)
          · exact absurd c_49 (by decide)
          refine lv_iload_n hx hb d_F_turned_7 rfl (lv_at hl 2 rfl) ?_
          refine wd_gets C h ks_bw lk_F_51 d_F_turned_8 (fun t_50 ht_51 => ?_)
          refine lv_iload_n hx hb d_F_turned_11 rfl (lv_at hl 0 rfl) ?_
          refine wd_ti C h ht_51 (by unfold vp_in; decide) d_F_turned_12 ?_
          refine W.eq (g2 := F0 m 13 ls (.int 2000 :: .int w :: [])) rfl ?_
          refine lv_icmp_gt (tgt := 27) hx hb d_F_turned_13 (by decide) (fun c_52 => ?_) (fun c_52 => ?_)
          · refine lv_iinc (v := 3) (lv' := [(3, .int 3), (0, .int 0), (1, .int w), (2, .int z)]) hx hb d_F_turned_27 hl (k := 0) rfl (by first | rfl | decide) (by decide) rfl (fun ls hl => ?_)
            refine lv_goto (tgt := 2) hx hb d_F_turned_30 (by decide) ?_
            refine lv_iload_n hx hb d_F_turned_2 rfl (lv_at hl 0 rfl) ?_
            refine lv_iconst (v := 3) hx hb d_F_turned_3 (by decide) ?_
            refine lv_icmp_ge (tgt := 33) hx hb d_F_turned_4 (by decide) (fun c_53 => ?_) (fun c_53 => ?_)
            rotate_left
            · exact absurd c_53 (by decide)
            refine lv_iconst (v := 3) hx hb d_F_turned_33 (by decide) ?_
            exact wd_iret C hr hlocks h (⟨by simp [xt, c_4, c_32, c_36, c_48, c_52], rfl⟩) (Nat.le_of_ble_eq_true rfl) (Nat.le_of_ble_eq_true rfl) d_F_turned_34
          · refine lv_iload_n hx hb d_F_turned_16 rfl (lv_at hl 3 rfl) ?_
            refine wd_gets C h ks_bs lk_F_54 d_F_turned_17 (fun t_54 ht_55 => ?_)
            refine lv_iload_n hx hb d_F_turned_20 rfl (lv_at hl 0 rfl) ?_
            refine wd_ti C h ht_55 (by unfold vp_in; decide) d_F_turned_21 ?_
            refine W.eq (g2 := F0 m 22 ls (.int 2 :: .int z :: [])) rfl ?_
            refine lv_icmp_gt (tgt := 27) hx hb d_F_turned_22 (by decide) (fun c_56 => ?_) (fun c_56 => ?_)
            · refine lv_iinc (v := 3) (lv' := [(3, .int 3), (0, .int 0), (1, .int w), (2, .int z)]) hx hb d_F_turned_27 hl (k := 0) rfl (by first | rfl | decide) (by decide) rfl (fun ls hl => ?_)
              refine lv_goto (tgt := 2) hx hb d_F_turned_30 (by decide) ?_
              refine lv_iload_n hx hb d_F_turned_2 rfl (lv_at hl 0 rfl) ?_
              refine lv_iconst (v := 3) hx hb d_F_turned_3 (by decide) ?_
              refine lv_icmp_ge (tgt := 33) hx hb d_F_turned_4 (by decide) (fun c_57 => ?_) (fun c_57 => ?_)
              rotate_left
              · exact absurd c_57 (by decide)
              refine lv_iconst (v := 3) hx hb d_F_turned_33 (by decide) ?_
              exact wd_iret C hr hlocks h (⟨by simp [xt, c_4, c_32, c_36, c_48, c_52, c_56], rfl⟩) (Nat.le_of_ble_eq_true rfl) (Nat.le_of_ble_eq_true rfl) d_F_turned_34
            · refine lv_iload_n hx hb d_F_turned_25 rfl (lv_at hl 0 rfl) ?_
              exact wd_iret C hr hlocks h (⟨by simp [xt, c_4, c_32, c_36, c_48, c_52, c_56], rfl⟩) (Nat.le_of_ble_eq_true rfl) (Nat.le_of_ble_eq_true rfl) d_F_turned_26
        · refine lv_iload_n hx hb d_F_turned_25 rfl (lv_at hl 0 rfl) ?_
          exact wd_iret C hr hlocks h (⟨by simp [xt, c_4, c_32, c_36, c_48], rfl⟩) (Nat.le_of_ble_eq_true rfl) (Nat.le_of_ble_eq_true rfl) d_F_turned_26
    · refine lv_iload_n hx hb d_F_turned_25 rfl (lv_at hl 0 rfl) ?_
      exact wd_iret C hr hlocks h (⟨by simp [xt, c_4, c_32], rfl⟩) (Nat.le_of_ble_eq_true rfl) (Nat.le_of_ble_eq_true rfl) d_F_turned_26

set_option maxHeartbeats 4000000 in
set_option maxRecDepth 20000 in
theorem c_F_turned_1 (l : Launch) (D : va_G) (T : Nat → ClassId) (A : Nat → Prop) (σ : wd_S) (w z : Int32) : Met l y_F_turned (Cond.code y_F_turned b_F_turned 4 (some .int) :: wd_tb) { frames := 0, cells := 0, slots := 0, locals := 0 } (va_Pc [.int 1, .int w, .int z] (wd_Pre D T A σ)) (va_Qi (fun r1 σ1 => r1 = xt 1 w z ∧ σ1 = σ) (wd_B D A) A) 0 0 A := by
  refine wd_ofW (by decide) (Nat.le_of_ble_eq_true rfl) ?_
  intro p e s m below meth c0 ls C hr hlocks hname h hl
  have hl : lv_has ls 4 [(0, .int 1), (1, .int w), (2, .int z)] := hl
  have hx := C.1
  have hb := C.2.1
  refine lv_iload_n hx hb d_F_turned_0 rfl (lv_at hl 0 rfl) ?_
  refine lv_istore_n (lv' := [(3, .int 1), (0, .int 1), (1, .int w), (2, .int z)]) hx hb d_F_turned_1 rfl hl (by decide) rfl (fun ls hl => ?_)
  refine lv_iload_n hx hb d_F_turned_2 rfl (lv_at hl 0 rfl) ?_
  refine lv_iconst (v := 3) hx hb d_F_turned_3 (by decide) ?_
  refine lv_icmp_ge (tgt := 33) hx hb d_F_turned_4 (by decide) (fun c_1 => ?_) (fun c_1 => ?_)
  · exact absurd c_1 (by decide)
  refine lv_iload_n hx hb d_F_turned_7 rfl (lv_at hl 2 rfl) ?_
  refine wd_gets C h ks_bw lk_F_51 d_F_turned_8 (fun t_2 ht_3 => ?_)
  refine lv_iload_n hx hb d_F_turned_11 rfl (lv_at hl 0 rfl) ?_
  refine wd_ti C h ht_3 (by unfold vp_in; decide) d_F_turned_12 ?_
  refine W.eq (g2 := F0 m 13 ls (.int 500 :: .int w :: [])) rfl ?_
  refine lv_icmp_gt (tgt := 27) hx hb d_F_turned_13 (by decide) (fun c_4 => ?_) (fun c_4 => ?_)
  · refine lv_iinc (v := 2) (lv' := [(3, .int 2), (0, .int 1), (1, .int w), (2, .int z)]) hx hb d_F_turned_27 hl (k := 0) rfl (by first | rfl | decide) (by decide) rfl (fun ls hl => ?_)
    refine lv_goto (tgt := 2) hx hb d_F_turned_30 (by decide) ?_
    refine lv_iload_n hx hb d_F_turned_2 rfl (lv_at hl 0 rfl) ?_
    refine lv_iconst (v := 3) hx hb d_F_turned_3 (by decide) ?_
    refine lv_icmp_ge (tgt := 33) hx hb d_F_turned_4 (by decide) (fun c_5 => ?_) (fun c_5 => ?_)
    · exact absurd c_5 (by decide)
    refine lv_iload_n hx hb d_F_turned_7 rfl (lv_at hl 2 rfl) ?_
    refine wd_gets C h ks_bw lk_F_51 d_F_turned_8 (fun t_6 ht_7 => ?_)
    refine lv_iload_n hx hb d_F_turned_11 rfl (lv_at hl 0 rfl) ?_
    refine wd_ti C h ht_7 (by unfold vp_in; decide) d_F_turned_12 ?_
    refine W.eq (g2 := F0 m 13 ls (.int 2000 :: .int w :: [])) rfl ?_
    refine lv_icmp_gt (tgt := 27) hx hb d_F_turned_13 (by decide) (fun c_8 => ?_) (fun c_8 => ?_)
    · refine lv_iinc (v := 3) (lv' := [(3, .int 3), (0, .int 1), (1, .int w), (2, .int z)]) hx hb d_F_turned_27 hl (k := 0) rfl (by first | rfl | decide) (by decide) rfl (fun ls hl => ?_)
      refine lv_goto (tgt := 2) hx hb d_F_turned_30 (by decide) ?_
      refine lv_iload_n hx hb d_F_turned_2 rfl (lv_at hl 0 rfl) ?_
      refine lv_iconst (v := 3) hx hb d_F_turned_3 (by decide) ?_
      refine lv_icmp_ge (tgt := 33) hx hb d_F_turned_4 (by decide) (fun c_9 => ?_) (fun c_9 => ?_)
      rotate_left
      · exact absurd c_9 (by decide)
      refine lv_iconst (v := 3) hx hb d_F_turned_33 (by decide) ?_
      exact wd_iret C hr hlocks h (⟨by simp [xt, c_4, c_8], rfl⟩) (Nat.le_of_ble_eq_true rfl) (Nat.le_of_ble_eq_true rfl) d_F_turned_34
    · refine lv_iload_n hx hb d_F_turned_16 rfl (lv_at hl 3 rfl) ?_
      refine wd_gets C h ks_bs lk_F_54 d_F_turned_17 (fun t_10 ht_11 => ?_)
      refine lv_iload_n hx hb d_F_turned_20 rfl (lv_at hl 0 rfl) ?_
      refine wd_ti C h ht_11 (by unfold vp_in; decide) d_F_turned_21 ?_
      refine W.eq (g2 := F0 m 22 ls (.int 2 :: .int z :: [])) rfl ?_
      refine lv_icmp_gt (tgt := 27) hx hb d_F_turned_22 (by decide) (fun c_12 => ?_) (fun c_12 => ?_)
      · refine lv_iinc (v := 3) (lv' := [(3, .int 3), (0, .int 1), (1, .int w), (2, .int z)]) hx hb d_F_turned_27 hl (k := 0) rfl (by first | rfl | decide) (by decide) rfl (fun ls hl => ?_)
        refine lv_goto (tgt := 2) hx hb d_F_turned_30 (by decide) ?_
        refine lv_iload_n hx hb d_F_turned_2 rfl (lv_at hl 0 rfl) ?_
        refine lv_iconst (v := 3) hx hb d_F_turned_3 (by decide) ?_
        refine lv_icmp_ge (tgt := 33) hx hb d_F_turned_4 (by decide) (fun c_13 => ?_) (fun c_13 => ?_)
        rotate_left
        · exact absurd c_13 (by decide)
        refine lv_iconst (v := 3) hx hb d_F_turned_33 (by decide) ?_
        exact wd_iret C hr hlocks h (⟨by simp [xt, c_4, c_8, c_12], rfl⟩) (Nat.le_of_ble_eq_true rfl) (Nat.le_of_ble_eq_true rfl) d_F_turned_34
      · refine lv_iload_n hx hb d_F_turned_25 rfl (lv_at hl 0 rfl) ?_
        exact wd_iret C hr hlocks h (⟨by simp [xt, c_4, c_8, c_12], rfl⟩) (Nat.le_of_ble_eq_true rfl) (Nat.le_of_ble_eq_true rfl) d_F_turned_26
  · refine lv_iload_n hx hb d_F_turned_16 rfl (lv_at hl 3 rfl) ?_
    refine wd_gets C h ks_bs lk_F_54 d_F_turned_17 (fun t_14 ht_15 => ?_)
    refine lv_iload_n hx hb d_F_turned_20 rfl (lv_at hl 0 rfl) ?_
    refine wd_ti C h ht_15 (by unfold vp_in; decide) d_F_turned_21 ?_
    refine W.eq (g2 := F0 m 22 ls (.int 1 :: .int z :: [])) rfl ?_
    refine lv_icmp_gt (tgt := 27) hx hb d_F_turned_22 (by decide) (fun c_16 => ?_) (fun c_16 => ?_)
    · refine lv_iinc (v := 2) (lv' := [(3, .int 2), (0, .int 1), (1, .int w), (2, .int z)]) hx hb d_F_turned_27 hl (k := 0) rfl (by first | rfl | decide) (by decide) rfl (fun ls hl => ?_)
      refine lv_goto (tgt := 2) hx hb d_F_turned_30 (by decide) ?_
      refine lv_iload_n hx hb d_F_turned_2 rfl (lv_at hl 0 rfl) ?_
      refine lv_iconst (v := 3) hx hb d_F_turned_3 (by decide) ?_
      refine lv_icmp_ge (tgt := 33) hx hb d_F_turned_4 (by decide) (fun c_17 => ?_) (fun c_17 => ?_)
      · exact absurd c_17 (by decide)
      refine lv_iload_n hx hb d_F_turned_7 rfl (lv_at hl 2 rfl) ?_
      refine wd_gets C h ks_bw lk_F_51 d_F_turned_8 (fun t_18 ht_19 => ?_)
      refine lv_iload_n hx hb d_F_turned_11 rfl (lv_at hl 0 rfl) ?_
      refine wd_ti C h ht_19 (by unfold vp_in; decide) d_F_turned_12 ?_
      refine W.eq (g2 := F0 m 13 ls (.int 2000 :: .int w :: [])) rfl ?_
      refine lv_icmp_gt (tgt := 27) hx hb d_F_turned_13 (by decide) (fun c_20 => ?_) (fun c_20 => ?_)
      · refine lv_iinc (v := 3) (lv' := [(3, .int 3), (0, .int 1), (1, .int w), (2, .int z)]) hx hb d_F_turned_27 hl (k := 0) rfl (by first | rfl | decide) (by decide) rfl (fun ls hl => ?_)
        refine lv_goto (tgt := 2) hx hb d_F_turned_30 (by decide) ?_
        refine lv_iload_n hx hb d_F_turned_2 rfl (lv_at hl 0 rfl) ?_
        refine lv_iconst (v := 3) hx hb d_F_turned_3 (by decide) ?_
        refine lv_icmp_ge (tgt := 33) hx hb d_F_turned_4 (by decide) (fun c_21 => ?_) (fun c_21 => ?_)
        rotate_left
        · exact absurd c_21 (by decide)
        refine lv_iconst (v := 3) hx hb d_F_turned_33 (by decide) ?_
        exact wd_iret C hr hlocks h (⟨by simp [xt, c_4, c_16, c_20], rfl⟩) (Nat.le_of_ble_eq_true rfl) (Nat.le_of_ble_eq_true rfl) d_F_turned_34
      · refine lv_iload_n hx hb d_F_turned_16 rfl (lv_at hl 3 rfl) ?_
        refine wd_gets C h ks_bs lk_F_54 d_F_turned_17 (fun t_22 ht_23 => ?_)
        refine lv_iload_n hx hb d_F_turned_20 rfl (lv_at hl 0 rfl) ?_
        refine wd_ti C h ht_23 (by unfold vp_in; decide) d_F_turned_21 ?_
        refine W.eq (g2 := F0 m 22 ls (.int 2 :: .int z :: [])) rfl ?_
        refine lv_icmp_gt (tgt := 27) hx hb d_F_turned_22 (by decide) (fun c_24 => ?_) (fun c_24 => ?_)
        · refine lv_iinc (v := 3) (lv' := [(3, .int 3), (0, .int 1), (1, .int w), (2, .int z)]) hx hb d_F_turned_27 hl (k := 0) rfl (by first | rfl | decide) (by decide) rfl (fun ls hl => ?_)
          refine lv_goto (tgt := 2) hx hb d_F_turned_30 (by decide) ?_
          refine lv_iload_n hx hb d_F_turned_2 rfl (lv_at hl 0 rfl) ?_
          refine lv_iconst (v := 3) hx hb d_F_turned_3 (by decide) ?_
          refine lv_icmp_ge (tgt := 33) hx hb d_F_turned_4 (by decide) (fun c_25 => ?_) (fun c_25 => ?_)
          rotate_left
          · exact absurd c_25 (by decide)
          refine lv_iconst (v := 3) hx hb d_F_turned_33 (by decide) ?_
          exact wd_iret C hr hlocks h (⟨by simp [xt, c_4, c_16, c_20, c_24], rfl⟩) (Nat.le_of_ble_eq_true rfl) (Nat.le_of_ble_eq_true rfl) d_F_turned_34
        · refine lv_iload_n hx hb d_F_turned_25 rfl (lv_at hl 0 rfl) ?_
          exact wd_iret C hr hlocks h (⟨by simp [xt, c_4, c_16, c_20, c_24], rfl⟩) (Nat.le_of_ble_eq_true rfl) (Nat.le_of_ble_eq_true rfl) d_F_turned_26
    · refine lv_iload_n hx hb d_F_turned_25 rfl (lv_at hl 0 rfl) ?_
      exact wd_iret C hr hlocks h (⟨by simp [xt, c_4, c_16], rfl⟩) (Nat.le_of_ble_eq_true rfl) (Nat.le_of_ble_eq_true rfl) d_F_turned_26

set_option maxHeartbeats 4000000 in
set_option maxRecDepth 20000 in
theorem c_F_turned_2 (l : Launch) (D : va_G) (T : Nat → ClassId) (A : Nat → Prop) (σ : wd_S) (w z : Int32) : Met l y_F_turned (Cond.code y_F_turned b_F_turned 4 (some .int) :: wd_tb) { frames := 0, cells := 0, slots := 0, locals := 0 } (va_Pc [.int 2, .int w, .int z] (wd_Pre D T A σ)) (va_Qi (fun r1 σ1 => r1 = xt 2 w z ∧ σ1 = σ) (wd_B D A) A) 0 0 A := by
  refine wd_ofW (by decide) (Nat.le_of_ble_eq_true rfl) ?_
  intro p e s m below meth c0 ls C hr hlocks hname h hl
  have hl : lv_has ls 4 [(0, .int 2), (1, .int w), (2, .int z)] := hl
  have hx := C.1
  have hb := C.2.1
  refine lv_iload_n hx hb d_F_turned_0 rfl (lv_at hl 0 rfl) ?_
  refine lv_istore_n (lv' := [(3, .int 2), (0, .int 2), (1, .int w), (2, .int z)]) hx hb d_F_turned_1 rfl hl (by decide) rfl (fun ls hl => ?_)
  refine lv_iload_n hx hb d_F_turned_2 rfl (lv_at hl 0 rfl) ?_
  refine lv_iconst (v := 3) hx hb d_F_turned_3 (by decide) ?_
  refine lv_icmp_ge (tgt := 33) hx hb d_F_turned_4 (by decide) (fun c_1 => ?_) (fun c_1 => ?_)
  · exact absurd c_1 (by decide)
  refine lv_iload_n hx hb d_F_turned_7 rfl (lv_at hl 2 rfl) ?_
  refine wd_gets C h ks_bw lk_F_51 d_F_turned_8 (fun t_2 ht_3 => ?_)
  refine lv_iload_n hx hb d_F_turned_11 rfl (lv_at hl 0 rfl) ?_
  refine wd_ti C h ht_3 (by unfold vp_in; decide) d_F_turned_12 ?_
  refine W.eq (g2 := F0 m 13 ls (.int 2000 :: .int w :: [])) rfl ?_
  refine lv_icmp_gt (tgt := 27) hx hb d_F_turned_13 (by decide) (fun c_4 => ?_) (fun c_4 => ?_)
  · refine lv_iinc (v := 3) (lv' := [(3, .int 3), (0, .int 2), (1, .int w), (2, .int z)]) hx hb d_F_turned_27 hl (k := 0) rfl (by first | rfl | decide) (by decide) rfl (fun ls hl => ?_)
    refine lv_goto (tgt := 2) hx hb d_F_turned_30 (by decide) ?_
    refine lv_iload_n hx hb d_F_turned_2 rfl (lv_at hl 0 rfl) ?_
    refine lv_iconst (v := 3) hx hb d_F_turned_3 (by decide) ?_
    refine lv_icmp_ge (tgt := 33) hx hb d_F_turned_4 (by decide) (fun c_5 => ?_) (fun c_5 => ?_)
    rotate_left
    · exact absurd c_5 (by decide)
    refine lv_iconst (v := 3) hx hb d_F_turned_33 (by decide) ?_
    exact wd_iret C hr hlocks h (⟨by simp [xt, c_4], rfl⟩) (Nat.le_of_ble_eq_true rfl) (Nat.le_of_ble_eq_true rfl) d_F_turned_34
  · refine lv_iload_n hx hb d_F_turned_16 rfl (lv_at hl 3 rfl) ?_
    refine wd_gets C h ks_bs lk_F_54 d_F_turned_17 (fun t_6 ht_7 => ?_)
    refine lv_iload_n hx hb d_F_turned_20 rfl (lv_at hl 0 rfl) ?_
    refine wd_ti C h ht_7 (by unfold vp_in; decide) d_F_turned_21 ?_
    refine W.eq (g2 := F0 m 22 ls (.int 2 :: .int z :: [])) rfl ?_
    refine lv_icmp_gt (tgt := 27) hx hb d_F_turned_22 (by decide) (fun c_8 => ?_) (fun c_8 => ?_)
    · refine lv_iinc (v := 3) (lv' := [(3, .int 3), (0, .int 2), (1, .int w), (2, .int z)]) hx hb d_F_turned_27 hl (k := 0) rfl (by first | rfl | decide) (by decide) rfl (fun ls hl => ?_)
      refine lv_goto (tgt := 2) hx hb d_F_turned_30 (by decide) ?_
      refine lv_iload_n hx hb d_F_turned_2 rfl (lv_at hl 0 rfl) ?_
      refine lv_iconst (v := 3) hx hb d_F_turned_3 (by decide) ?_
      refine lv_icmp_ge (tgt := 33) hx hb d_F_turned_4 (by decide) (fun c_9 => ?_) (fun c_9 => ?_)
      rotate_left
      · exact absurd c_9 (by decide)
      refine lv_iconst (v := 3) hx hb d_F_turned_33 (by decide) ?_
      exact wd_iret C hr hlocks h (⟨by simp [xt, c_4, c_8], rfl⟩) (Nat.le_of_ble_eq_true rfl) (Nat.le_of_ble_eq_true rfl) d_F_turned_34
    · refine lv_iload_n hx hb d_F_turned_25 rfl (lv_at hl 0 rfl) ?_
      exact wd_iret C hr hlocks h (⟨by simp [xt, c_4, c_8], rfl⟩) (Nat.le_of_ble_eq_true rfl) (Nat.le_of_ble_eq_true rfl) d_F_turned_26

set_option maxHeartbeats 4000000 in
set_option maxRecDepth 20000 in
theorem c_F_turned_3 (l : Launch) (D : va_G) (T : Nat → ClassId) (A : Nat → Prop) (σ : wd_S) (w z : Int32) : Met l y_F_turned (Cond.code y_F_turned b_F_turned 4 (some .int) :: wd_tb) { frames := 0, cells := 0, slots := 0, locals := 0 } (va_Pc [.int 3, .int w, .int z] (wd_Pre D T A σ)) (va_Qi (fun r1 σ1 => r1 = xt 3 w z ∧ σ1 = σ) (wd_B D A) A) 0 0 A := by
  refine wd_ofW (by decide) (Nat.le_of_ble_eq_true rfl) ?_
  intro p e s m below meth c0 ls C hr hlocks hname h hl
  have hl : lv_has ls 4 [(0, .int 3), (1, .int w), (2, .int z)] := hl
  have hx := C.1
  have hb := C.2.1
  refine lv_iload_n hx hb d_F_turned_0 rfl (lv_at hl 0 rfl) ?_
  refine lv_istore_n (lv' := [(3, .int 3), (0, .int 3), (1, .int w), (2, .int z)]) hx hb d_F_turned_1 rfl hl (by decide) rfl (fun ls hl => ?_)
  refine lv_iload_n hx hb d_F_turned_2 rfl (lv_at hl 0 rfl) ?_
  refine lv_iconst (v := 3) hx hb d_F_turned_3 (by decide) ?_
  refine lv_icmp_ge (tgt := 33) hx hb d_F_turned_4 (by decide) (fun c_1 => ?_) (fun c_1 => ?_)
  rotate_left
  · exact absurd c_1 (by decide)
  refine lv_iconst (v := 3) hx hb d_F_turned_33 (by decide) ?_
  exact wd_iret C hr hlocks h (⟨by simp [xt], rfl⟩) (Nat.le_of_ble_eq_true rfl) (Nat.le_of_ble_eq_true rfl) d_F_turned_34

theorem c_F_turned (l : Launch) (D : va_G) (T : Nat → ClassId) (A : Nat → Prop) (σ : wd_S) (k w z : Int32) (hk : k = 0 ∨ k = 1 ∨ k = 2 ∨ k = 3) : Met l y_F_turned (Cond.code y_F_turned b_F_turned 4 (some .int) :: wd_tb) { frames := 0, cells := 0, slots := 0, locals := 0 } (va_Pc [.int k, .int w, .int z] (wd_Pre D T A σ)) (va_Qi (fun r1 σ1 => r1 = xt k w z ∧ σ1 = σ) (wd_B D A) A) 0 0 A := by
  rcases hk with rfl | rfl | rfl | rfl
  · exact c_F_turned_0 l D T A σ w z
  · exact c_F_turned_1 l D T A σ w z
  · exact c_F_turned_2 l D T A σ w z
  · exact c_F_turned_3 l D T A σ w z

set_option maxHeartbeats 4000000 in
set_option maxRecDepth 20000 in
theorem c_I_undergo (l : Launch) (D : va_G) (T : Nat → ClassId) (A : Nat → Prop) (σ : wd_S) (a : Nat) (r : Nat → Int32) (w c : Nat) (ha : σ a = some (xI r w c)) (ev nx : Int32) : Met l y_I_undergo (Cond.code y_I_undergo b_I_undergo 3 none :: wd_tb) { frames := 0, cells := 0, slots := 0, locals := 0 } (va_Pc [.ref a, .int ev, .int nx] (wd_Pre D T A σ)) (va_Qv (fun σ1 => σ1 = wd_up σ a (xI (xu r ev nx) w c)) (wd_B D A) A) 0 0 A := by
  refine wd_ofW (by decide) (Nat.le_of_ble_eq_true rfl) ?_
  intro p e s m below meth c0 ls C hr hlocks hname h hl
  have hl : lv_has ls 3 [(0, .ref a), (1, .int ev), (2, .int nx)] := hl
  have hx := C.1
  have hb := C.2.1
  refine lv_aload_n hx hb d_I_undergo_0 rfl (lv_at hl 0 rfl) ?_
  refine lv_iload_n hx hb d_I_undergo_1 rfl (lv_at hl 2 rfl) ?_
  refine wd_put C h kc_I ha 5 (by decide) lk_I_27 rfl (by rfl) (by rfl) (Nat.le_of_ble_eq_true rfl) d_I_undergo_2 (fun H locs h => ?_)
  have h : wd_C D T A s H locs (wd_up σ a (.inr (1, [.int (r 0), .int (r 1), .int (r 2), .int (r 3), .int (r 4), .int nx, .int (r 6), .int (r 7), .int (r 8), .int (r 9), .int (r 10), .int (r 11), .int (r 12), .int (r 13), .int (r 14), .ref w, .ref c]))) := h
  have h_1 : (wd_up σ a (.inr (1, [.int (r 0), .int (r 1), .int (r 2), .int (r 3), .int (r 4), .int nx, .int (r 6), .int (r 7), .int (r 8), .int (r 9), .int (r 10), .int (r 11), .int (r 12), .int (r 13), .int (r 14), .ref w, .ref c]))) a = some (.inr (1, [.int (r 0), .int (r 1), .int (r 2), .int (r 3), .int (r 4), .int nx, .int (r 6), .int (r 7), .int (r 8), .int (r 9), .int (r 10), .int (r 11), .int (r 12), .int (r 13), .int (r 14), .ref w, .ref c])) := wd_us _ _ _
  refine lv_iload_n hx hb d_I_undergo_5 rfl (lv_at hl 1 rfl) ?_
  refine lv_bipush (v := 7) hx hb d_I_undergo_6 (by decide) ?_
  refine lv_icmp_ne (tgt := 19) hx hb d_I_undergo_8 (by decide) (fun c_2 => ?_) (fun c_2 => ?_)
  · refine lv_iload_n hx hb d_I_undergo_19 rfl (lv_at hl 1 rfl) ?_
    refine lv_bipush (v := 8) hx hb d_I_undergo_20 (by decide) ?_
    refine lv_icmp_ne (tgt := 30) hx hb d_I_undergo_22 (by decide) (fun c_3 => ?_) (fun c_3 => ?_)
    · exact wd_vret C hr hlocks h (by rw [show xu r ev nx = (upd r 5 nx) from by simp [xu, c_2, c_3]]; rfl) (Nat.le_of_ble_eq_true rfl) (Nat.le_of_ble_eq_true rfl) d_I_undergo_30
    · refine lv_aload_n hx hb d_I_undergo_25 rfl (lv_at hl 0 rfl) ?_
      refine lv_iconst (v := 0) hx hb d_I_undergo_26 (by decide) ?_
      refine wd_put C h kc_I h_1 6 (by decide) lk_I_30 rfl (by rfl) (by rfl) (Nat.le_of_ble_eq_true rfl) d_I_undergo_27 (fun H locs h => ?_)
      rw [wd_uu] at h
      have h : wd_C D T A s H locs (wd_up σ a (.inr (1, [.int (r 0), .int (r 1), .int (r 2), .int (r 3), .int (r 4), .int nx, .int 0, .int (r 7), .int (r 8), .int (r 9), .int (r 10), .int (r 11), .int (r 12), .int (r 13), .int (r 14), .ref w, .ref c]))) := h
      have h_4 : (wd_up σ a (.inr (1, [.int (r 0), .int (r 1), .int (r 2), .int (r 3), .int (r 4), .int nx, .int 0, .int (r 7), .int (r 8), .int (r 9), .int (r 10), .int (r 11), .int (r 12), .int (r 13), .int (r 14), .ref w, .ref c]))) a = some (.inr (1, [.int (r 0), .int (r 1), .int (r 2), .int (r 3), .int (r 4), .int nx, .int 0, .int (r 7), .int (r 8), .int (r 9), .int (r 10), .int (r 11), .int (r 12), .int (r 13), .int (r 14), .ref w, .ref c])) := wd_us _ _ _
      exact wd_vret C hr hlocks h (by rw [show xu r ev nx = (upd (upd r 5 nx) 6 0) from by simp [xu, c_2, c_3]]; rfl) (Nat.le_of_ble_eq_true rfl) (Nat.le_of_ble_eq_true rfl) d_I_undergo_30
  · refine lv_aload_n hx hb d_I_undergo_11 rfl (lv_at hl 0 rfl) ?_
    refine lv_iconst (v := 1) hx hb d_I_undergo_12 (by decide) ?_
    refine wd_put C h kc_I h_1 6 (by decide) lk_I_30 rfl (by rfl) (by rfl) (Nat.le_of_ble_eq_true rfl) d_I_undergo_13 (fun H locs h => ?_)
    rw [wd_uu] at h
    have h : wd_C D T A s H locs (wd_up σ a (.inr (1, [.int (r 0), .int (r 1), .int (r 2), .int (r 3), .int (r 4), .int nx, .int 1, .int (r 7), .int (r 8), .int (r 9), .int (r 10), .int (r 11), .int (r 12), .int (r 13), .int (r 14), .ref w, .ref c]))) := h
    have h_5 : (wd_up σ a (.inr (1, [.int (r 0), .int (r 1), .int (r 2), .int (r 3), .int (r 4), .int nx, .int 1, .int (r 7), .int (r 8), .int (r 9), .int (r 10), .int (r 11), .int (r 12), .int (r 13), .int (r 14), .ref w, .ref c]))) a = some (.inr (1, [.int (r 0), .int (r 1), .int (r 2), .int (r 3), .int (r 4), .int nx, .int 1, .int (r 7), .int (r 8), .int (r 9), .int (r 10), .int (r 11), .int (r 12), .int (r 13), .int (r 14), .ref w, .ref c])) := wd_us _ _ _
    refine lv_goto (tgt := 30) hx hb d_I_undergo_16 (by decide) ?_
    exact wd_vret C hr hlocks h (by rw [show xu r ev nx = (upd (upd r 5 nx) 6 1) from by simp [xu, c_2]]; rfl) (Nat.le_of_ble_eq_true rfl) (Nat.le_of_ble_eq_true rfl) d_I_undergo_30

set_option maxHeartbeats 4000000 in
set_option maxRecDepth 20000 in
theorem c_I_leastExcluding (l : Launch) (D : va_G) (T : Nat → ClassId) (A : Nat → Prop) (σ : wd_S) (a : Nat) (r : Nat → Int32) (w c : Nat) (ha : σ a = some (xI r w c)) (t : Int32) : Met l y_I_leastExcluding (Cond.code y_I_leastExcluding b_I_leastExcluding 4 (some .int) :: wd_tb) { frames := 1, cells := 0, slots := 0, locals := 22 } (va_Pc [.ref a, .int t] (wd_Pre D T A σ)) (va_Qi (fun r1 σ1 => r1 = xl (r 4) t ∧ σ1 = σ) (wd_B D A) A) 0 0 A := by
  refine wd_ofW (by decide) (Nat.le_of_ble_eq_true rfl) ?_
  intro p e s m below meth c0 ls C hr hlocks hname h hl
  have hl : lv_has ls 4 [(0, .ref a), (1, .int t)] := hl
  have hx := C.1
  have hb := C.2.1
  refine lv_iload_n hx hb d_I_leastExcluding_0 rfl (lv_at hl 1 rfl) ?_
  refine lv_iconst (v := 0) hx hb d_I_leastExcluding_1 (by decide) ?_
  refine lv_iconst (v := 5) hx hb d_I_leastExcluding_2 (by decide) ?_
  refine wd_ci h (wd_rSN (rest := []) (st0 := [.int 5, .int 0, .int t]) C h k_F_within wt_F_within lk_I_65 (c_F_within l D T A σ t 0 5) rfl rfl ⟨Nat.le_of_ble_eq_true rfl, Nat.le_of_ble_eq_true rfl⟩ rfl hl.1 rfl (Nat.le_of_ble_eq_true rfl) d_I_leastExcluding_3 ⟨Nat.le_of_ble_eq_true rfl, Nat.le_of_ble_eq_true rfl⟩) (fun r_1 σ_2 H locs hp_3 h => ?_)
  obtain ⟨e_4, es_5⟩ := hp_3
  rw [es_5] at h
  subst e_4
  refine lv_if_ne (tgt := 11) hx hb d_I_leastExcluding_6 (by decide) (fun c_6 => ?_) (fun c_6 => ?_)
  · refine lv_aload_n hx hb d_I_leastExcluding_11 rfl (lv_at hl 0 rfl) ?_
    refine wd_get C h kc_I ha 4 (by decide) lk_I_24 rfl d_I_leastExcluding_12 ?_
    refine wd_getsN C h ks_ex lk_I_69 d_I_leastExcluding_15 (fun t_7 ht_8 => ?_)
    refine lv_iload_n hx hb d_I_leastExcluding_18 rfl (lv_at hl 1 rfl) ?_
    refine wd_ti C h ht_8 (xw_vp c_6 (by decide) (by decide)) d_I_leastExcluding_19 ?_
    refine lv_iand hx hb d_I_leastExcluding_20 ?_
    refine lv_istore_n (lv' := [(2, .int ((r 4) &&& (x_ex.getD t.toNatClampNeg 0))), (0, .ref a), (1, .int t)]) hx hb d_I_leastExcluding_21 rfl hl (by decide) rfl (fun ls hl => ?_)
    refine lv_iconst (v := 0) hx hb d_I_leastExcluding_22 (by decide) ?_
    refine lv_istore_n (lv' := [(3, .int 0), (2, .int ((r 4) &&& (x_ex.getD t.toNatClampNeg 0))), (0, .ref a), (1, .int t)]) hx hb d_I_leastExcluding_23 rfl hl (by decide) rfl (fun ls hl => ?_)
    refine lv_iload_n hx hb d_I_leastExcluding_24 rfl (lv_at hl 0 rfl) ?_
    refine lv_bipush (v := 6) hx hb d_I_leastExcluding_25 (by decide) ?_
    refine lv_icmp_ge (tgt := 47) hx hb d_I_leastExcluding_27 (by decide) (fun c_9 => ?_) (fun c_9 => ?_)
    · exact absurd c_9 (by decide)
    refine lv_iload_n hx hb d_I_leastExcluding_30 rfl (lv_at hl 1 rfl) ?_
    refine lv_iload_n hx hb d_I_leastExcluding_31 rfl (lv_at hl 0 rfl) ?_
    refine lv_ishr hx hb d_I_leastExcluding_32 ?_
    refine lv_iconst (v := 1) hx hb d_I_leastExcluding_33 (by decide) ?_
    refine lv_iand hx hb d_I_leastExcluding_34 ?_
    refine lv_iconst (v := 1) hx hb d_I_leastExcluding_35 (by decide) ?_
    refine lv_icmp_ne (tgt := 41) hx hb d_I_leastExcluding_36 (by decide) (fun c_10 => ?_) (fun c_10 => ?_)
    · refine lv_iinc (v := 1) (lv' := [(3, .int 1), (2, .int ((r 4) &&& (x_ex.getD t.toNatClampNeg 0))), (0, .ref a), (1, .int t)]) hx hb d_I_leastExcluding_41 hl (k := 0) rfl (by first | rfl | decide) (by decide) rfl (fun ls hl => ?_)
      refine lv_goto (tgt := 24) hx hb d_I_leastExcluding_44 (by decide) ?_
      refine lv_iload_n hx hb d_I_leastExcluding_24 rfl (lv_at hl 0 rfl) ?_
      refine lv_bipush (v := 6) hx hb d_I_leastExcluding_25 (by decide) ?_
      refine lv_icmp_ge (tgt := 47) hx hb d_I_leastExcluding_27 (by decide) (fun c_11 => ?_) (fun c_11 => ?_)
      · exact absurd c_11 (by decide)
      refine lv_iload_n hx hb d_I_leastExcluding_30 rfl (lv_at hl 1 rfl) ?_
      refine lv_iload_n hx hb d_I_leastExcluding_31 rfl (lv_at hl 0 rfl) ?_
      refine lv_ishr hx hb d_I_leastExcluding_32 ?_
      refine lv_iconst (v := 1) hx hb d_I_leastExcluding_33 (by decide) ?_
      refine lv_iand hx hb d_I_leastExcluding_34 ?_
      refine lv_iconst (v := 1) hx hb d_I_leastExcluding_35 (by decide) ?_
      refine lv_icmp_ne (tgt := 41) hx hb d_I_leastExcluding_36 (by decide) (fun c_12 => ?_) (fun c_12 => ?_)
      · refine lv_iinc (v := 2) (lv' := [(3, .int 2), (2, .int ((r 4) &&& (x_ex.getD t.toNatClampNeg 0))), (0, .ref a), (1, .int t)]) hx hb d_I_leastExcluding_41 hl (k := 0) rfl (by first | rfl | decide) (by decide) rfl (fun ls hl => ?_)
        refine lv_goto (tgt := 24) hx hb d_I_leastExcluding_44 (by decide) ?_
        refine lv_iload_n hx hb d_I_leastExcluding_24 rfl (lv_at hl 0 rfl) ?_
        refine lv_bipush (v := 6) hx hb d_I_leastExcluding_25 (by decide) ?_
        refine lv_icmp_ge (tgt := 47) hx hb d_I_leastExcluding_27 (by decide) (fun c_13 => ?_) (fun c_13 => ?_)
        · exact absurd c_13 (by decide)
        refine lv_iload_n hx hb d_I_leastExcluding_30 rfl (lv_at hl 1 rfl) ?_
        refine lv_iload_n hx hb d_I_leastExcluding_31 rfl (lv_at hl 0 rfl) ?_
        refine lv_ishr hx hb d_I_leastExcluding_32 ?_
        refine lv_iconst (v := 1) hx hb d_I_leastExcluding_33 (by decide) ?_
        refine lv_iand hx hb d_I_leastExcluding_34 ?_
        refine lv_iconst (v := 1) hx hb d_I_leastExcluding_35 (by decide) ?_
        refine lv_icmp_ne (tgt := 41) hx hb d_I_leastExcluding_36 (by decide) (fun c_14 => ?_) (fun c_14 => ?_)
        · refine lv_iinc (v := 3) (lv' := [(3, .int 3), (2, .int ((r 4) &&& (x_ex.getD t.toNatClampNeg 0))), (0, .ref a), (1, .int t)]) hx hb d_I_leastExcluding_41 hl (k := 0) rfl (by first | rfl | decide) (by decide) rfl (fun ls hl => ?_)
          refine lv_goto (tgt := 24) hx hb d_I_leastExcluding_44 (by decide) ?_
          refine lv_iload_n hx hb d_I_leastExcluding_24 rfl (lv_at hl 0 rfl) ?_
          refine lv_bipush (v := 6) hx hb d_I_leastExcluding_25 (by decide) ?_
          refine lv_icmp_ge (tgt := 47) hx hb d_I_leastExcluding_27 (by decide) (fun c_15 => ?_) (fun c_15 => ?_)
          · exact absurd c_15 (by decide)
          refine lv_iload_n hx hb d_I_leastExcluding_30 rfl (lv_at hl 1 rfl) ?_
          refine lv_iload_n hx hb d_I_leastExcluding_31 rfl (lv_at hl 0 rfl) ?_
          refine lv_ishr hx hb d_I_leastExcluding_32 ?_
          refine lv_iconst (v := 1) hx hb d_I_leastExcluding_33 (by decide) ?_
          refine lv_iand hx hb d_I_leastExcluding_34 ?_
          refine lv_iconst (v := 1) hx hb d_I_leastExcluding_35 (by decide) ?_
          refine lv_icmp_ne (tgt := 41) hx hb d_I_leastExcluding_36 (by decide) (fun c_16 => ?_) (fun c_16 => ?_)
          · refine lv_iinc (v := 4) (lv' := [(3, .int 4), (2, .int ((r 4) &&& (x_ex.getD t.toNatClampNeg 0))), (0, .ref a), (1, .int t)]) hx hb d_I_leastExcluding_41 hl (k := 0) rfl (by first | rfl | decide) (by decide) rfl (fun ls hl => ?_)
            refine lv_goto (tgt := 24) hx hb d_I_leastExcluding_44 (by decide) ?_
            refine lv_iload_n hx hb d_I_leastExcluding_24 rfl (lv_at hl 0 rfl) ?_
            refine lv_bipush (v := 6) hx hb d_I_leastExcluding_25 (by decide) ?_
            refine lv_icmp_ge (tgt := 47) hx hb d_I_leastExcluding_27 (by decide) (fun c_17 => ?_) (fun c_17 => ?_)
            · exact absurd c_17 (by decide)
            refine lv_iload_n hx hb d_I_leastExcluding_30 rfl (lv_at hl 1 rfl) ?_
            refine lv_iload_n hx hb d_I_leastExcluding_31 rfl (lv_at hl 0 rfl) ?_
            refine lv_ishr hx hb d_I_leastExcluding_32 ?_
            refine lv_iconst (v := 1) hx hb d_I_leastExcluding_33 (by decide) ?_
            refine lv_iand hx hb d_I_leastExcluding_34 ?_
            refine lv_iconst (v := 1) hx hb d_I_leastExcluding_35 (by decide) ?_
            refine lv_icmp_ne (tgt := 41) hx hb d_I_leastExcluding_36 (by decide) (fun c_18 => ?_) (fun c_18 => ?_)
            · refine lv_iinc (v := 5) (lv' := [(3, .int 5), (2, .int ((r 4) &&& (x_ex.getD t.toNatClampNeg 0))), (0, .ref a), (1, .int t)]) hx hb d_I_leastExcluding_41 hl (k := 0) rfl (by first | rfl | decide) (by decide) rfl (fun ls hl => ?_)
              refine lv_goto (tgt := 24) hx hb d_I_leastExcluding_44 (by decide) ?_
              refine lv_iload_n hx hb d_I_leastExcluding_24 rfl (lv_at hl 0 rfl) ?_
              refine lv_bipush (v := 6) hx hb d_I_leastExcluding_25 (by decide) ?_
              refine lv_icmp_ge (tgt := 47) hx hb d_I_leastExcluding_27 (by decide) (fun c_19 => ?_) (fun c_19 => ?_)
              · exact absurd c_19 (by decide)
              refine lv_iload_n hx hb d_I_leastExcluding_30 rfl (lv_at hl 1 rfl) ?_
              refine lv_iload_n hx hb d_I_leastExcluding_31 rfl (lv_at hl 0 rfl) ?_
              refine lv_ishr hx hb d_I_leastExcluding_32 ?_
              refine lv_iconst (v := 1) hx hb d_I_leastExcluding_33 (by decide) ?_
              refine lv_iand hx hb d_I_leastExcluding_34 ?_
              refine lv_iconst (v := 1) hx hb d_I_leastExcluding_35 (by decide) ?_
              refine lv_icmp_ne (tgt := 41) hx hb d_I_leastExcluding_36 (by decide) (fun c_20 => ?_) (fun c_20 => ?_)
              · refine lv_iinc (v := 6) (lv' := [(3, .int 6), (2, .int ((r 4) &&& (x_ex.getD t.toNatClampNeg 0))), (0, .ref a), (1, .int t)]) hx hb d_I_leastExcluding_41 hl (k := 0) rfl (by first | rfl | decide) (by decide) rfl (fun ls hl => ?_)
                refine lv_goto (tgt := 24) hx hb d_I_leastExcluding_44 (by decide) ?_
                refine lv_iload_n hx hb d_I_leastExcluding_24 rfl (lv_at hl 0 rfl) ?_
                refine lv_bipush (v := 6) hx hb d_I_leastExcluding_25 (by decide) ?_
                refine lv_icmp_ge (tgt := 47) hx hb d_I_leastExcluding_27 (by decide) (fun c_21 => ?_) (fun c_21 => ?_)
                rotate_left
                · exact absurd c_21 (by decide)
                refine lv_iconst (v := (-1)) hx hb d_I_leastExcluding_47 (by decide) ?_
                exact wd_iret C hr hlocks h (⟨by simp only [xl, xl0, c_6, c_10, c_12, c_14, c_16, c_18, c_20, ↓reduceIte], rfl⟩) (Nat.le_of_ble_eq_true rfl) (Nat.le_of_ble_eq_true rfl) d_I_leastExcluding_48
              · refine lv_iload_n hx hb d_I_leastExcluding_39 rfl (lv_at hl 0 rfl) ?_
                exact wd_iret C hr hlocks h (⟨by simp only [xl, xl0, c_6, c_10, c_12, c_14, c_16, c_18, c_20, ↓reduceIte], rfl⟩) (Nat.le_of_ble_eq_true rfl) (Nat.le_of_ble_eq_true rfl) d_I_leastExcluding_40
            · refine lv_iload_n hx hb d_I_leastExcluding_39 rfl (lv_at hl 0 rfl) ?_
              exact wd_iret C hr hlocks h (⟨by simp only [xl, xl0, c_6, c_10, c_12, c_14, c_16, c_18, ↓reduceIte], rfl⟩) (Nat.le_of_ble_eq_true rfl) (Nat.le_of_ble_eq_true rfl) d_I_leastExcluding_40
          · refine lv_iload_n hx hb d_I_leastExcluding_39 rfl (lv_at hl 0 rfl) ?_
            exact wd_iret C hr hlocks h (⟨by simp only [xl, xl0, c_6, c_10, c_12, c_14, c_16, ↓reduceIte], rfl⟩) (Nat.le_of_ble_eq_true rfl) (Nat.le_of_ble_eq_true rfl) d_I_leastExcluding_40
        · refine lv_iload_n hx hb d_I_leastExcluding_39 rfl (lv_at hl 0 rfl) ?_
          exact wd_iret C hr hlocks h (⟨by simp only [xl, xl0, c_6, c_10, c_12, c_14, ↓reduceIte], rfl⟩) (Nat.le_of_ble_eq_true rfl) (Nat.le_of_ble_eq_true rfl) d_I_leastExcluding_40
      · refine lv_iload_n hx hb d_I_leastExcluding_39 rfl (lv_at hl 0 rfl) ?_
        exact wd_iret C hr hlocks h (⟨by simp only [xl, xl0, c_6, c_10, c_12, ↓reduceIte], rfl⟩) (Nat.le_of_ble_eq_true rfl) (Nat.le_of_ble_eq_true rfl) d_I_leastExcluding_40
    · refine lv_iload_n hx hb d_I_leastExcluding_39 rfl (lv_at hl 0 rfl) ?_
      exact wd_iret C hr hlocks h (⟨by simp only [xl, xl0, c_6, c_10, ↓reduceIte], rfl⟩) (Nat.le_of_ble_eq_true rfl) (Nat.le_of_ble_eq_true rfl) d_I_leastExcluding_40
  · refine lv_iconst (v := (-1)) hx hb d_I_leastExcluding_9 (by decide) ?_
    exact wd_iret C hr hlocks h (⟨by simp only [xl, xl0, c_6, ↓reduceIte], rfl⟩) (Nat.le_of_ble_eq_true rfl) (Nat.le_of_ble_eq_true rfl) d_I_leastExcluding_10

set_option maxHeartbeats 4000000 in
set_option maxRecDepth 20000 in
theorem c_I_lacksWhatIsWanted (l : Launch) (D : va_G) (T : Nat → ClassId) (A : Nat → Prop) (σ : wd_S) (a : Nat) (r : Nat → Int32) (w c : Nat) (ha : σ a = some (xI r w c)) (t : Int32) : Met l y_I_lacksWhatIsWanted (Cond.code y_I_lacksWhatIsWanted b_I_lacksWhatIsWanted 2 (some .boolean) :: wd_tb) { frames := 1, cells := 0, slots := 0, locals := 21 } (va_Pc [.ref a, .int t] (wd_Pre D T A σ)) (va_Qi (fun r1 σ1 => r1 = xk r t ∧ σ1 = σ) (wd_B D A) A) 0 0 A := by
  refine wd_ofW (by decide) (Nat.le_of_ble_eq_true rfl) ?_
  intro p e s m below meth c0 ls C hr hlocks hname h hl
  have hl : lv_has ls 2 [(0, .ref a), (1, .int t)] := hl
  have hx := C.1
  have hb := C.2.1
  refine lv_iload_n hx hb d_I_lacksWhatIsWanted_0 rfl (lv_at hl 1 rfl) ?_
  by_cases k_1 : t = 1
  · refine lv_tableIn (tgt := 36) hx hb d_I_lacksWhatIsWanted_1 (by rw [k_1]; decide) (by rw [k_1]; decide) (by rw [k_1]; rfl) (by decide) ?_
    refine lv_aload_n hx hb d_I_lacksWhatIsWanted_36 rfl (lv_at hl 0 rfl) ?_
    refine lv_iconst (v := 0) hx hb d_I_lacksWhatIsWanted_37 (by decide) ?_
    refine wd_ci h (wd_rV (rest := []) (st0 := [.int 0, .ref a]) C h kc_I ha k_I_has wm_I_has wz_I_has lk_I_72 (c_I_has l D T A σ a r w c ha 0) rfl rfl ⟨Nat.le_of_ble_eq_true rfl, Nat.le_of_ble_eq_true rfl⟩ rfl hl.1 rfl (Nat.le_of_ble_eq_true rfl) d_I_lacksWhatIsWanted_38 ⟨Nat.le_of_ble_eq_true rfl, Nat.le_of_ble_eq_true rfl⟩) (fun r_2 σ_3 H locs hp_4 h => ?_)
    obtain ⟨e_5, es_6⟩ := hp_4
    rw [es_6] at h
    subst e_5
    refine lv_if_ne (tgt := 48) hx hb d_I_lacksWhatIsWanted_41 (by decide) (fun c_7 => ?_) (fun c_7 => ?_)
    · refine lv_iconst (v := 0) hx hb d_I_lacksWhatIsWanted_48 (by decide) ?_
      exact wd_zret C hr hlocks h (by decide) (⟨by simp [xk, k_1, c_7], rfl⟩) (Nat.le_of_ble_eq_true rfl) (Nat.le_of_ble_eq_true rfl) d_I_lacksWhatIsWanted_49
    · refine lv_iconst (v := 1) hx hb d_I_lacksWhatIsWanted_44 (by decide) ?_
      refine lv_goto (tgt := 49) hx hb d_I_lacksWhatIsWanted_45 (by decide) ?_
      exact wd_zret C hr hlocks h (by decide) (⟨by simp [xk, k_1, c_7], rfl⟩) (Nat.le_of_ble_eq_true rfl) (Nat.le_of_ble_eq_true rfl) d_I_lacksWhatIsWanted_49
  by_cases k_8 : t = 2
  · refine lv_tableIn (tgt := 85) hx hb d_I_lacksWhatIsWanted_1 (by rw [k_8]; decide) (by rw [k_8]; decide) (by rw [k_8]; rfl) (by decide) ?_
    refine lv_iconst (v := 0) hx hb d_I_lacksWhatIsWanted_85 (by decide) ?_
    exact wd_zret C hr hlocks h (by decide) (⟨by simp [xk, k_8], rfl⟩) (Nat.le_of_ble_eq_true rfl) (Nat.le_of_ble_eq_true rfl) d_I_lacksWhatIsWanted_86
  by_cases k_9 : t = 3
  · refine lv_tableIn (tgt := 36) hx hb d_I_lacksWhatIsWanted_1 (by rw [k_9]; decide) (by rw [k_9]; decide) (by rw [k_9]; rfl) (by decide) ?_
    refine lv_aload_n hx hb d_I_lacksWhatIsWanted_36 rfl (lv_at hl 0 rfl) ?_
    refine lv_iconst (v := 0) hx hb d_I_lacksWhatIsWanted_37 (by decide) ?_
    refine wd_ci h (wd_rV (rest := []) (st0 := [.int 0, .ref a]) C h kc_I ha k_I_has wm_I_has wz_I_has lk_I_72 (c_I_has l D T A σ a r w c ha 0) rfl rfl ⟨Nat.le_of_ble_eq_true rfl, Nat.le_of_ble_eq_true rfl⟩ rfl hl.1 rfl (Nat.le_of_ble_eq_true rfl) d_I_lacksWhatIsWanted_38 ⟨Nat.le_of_ble_eq_true rfl, Nat.le_of_ble_eq_true rfl⟩) (fun r_10 σ_11 H locs hp_12 h => ?_)
    obtain ⟨e_13, es_14⟩ := hp_12
    rw [es_14] at h
    subst e_13
    refine lv_if_ne (tgt := 48) hx hb d_I_lacksWhatIsWanted_41 (by decide) (fun c_15 => ?_) (fun c_15 => ?_)
    · refine lv_iconst (v := 0) hx hb d_I_lacksWhatIsWanted_48 (by decide) ?_
      exact wd_zret C hr hlocks h (by decide) (⟨by simp [xk, k_9, c_15], rfl⟩) (Nat.le_of_ble_eq_true rfl) (Nat.le_of_ble_eq_true rfl) d_I_lacksWhatIsWanted_49
    · refine lv_iconst (v := 1) hx hb d_I_lacksWhatIsWanted_44 (by decide) ?_
      refine lv_goto (tgt := 49) hx hb d_I_lacksWhatIsWanted_45 (by decide) ?_
      exact wd_zret C hr hlocks h (by decide) (⟨by simp [xk, k_9, c_15], rfl⟩) (Nat.le_of_ble_eq_true rfl) (Nat.le_of_ble_eq_true rfl) d_I_lacksWhatIsWanted_49
  by_cases k_16 : t = 4
  · refine lv_tableIn (tgt := 50) hx hb d_I_lacksWhatIsWanted_1 (by rw [k_16]; decide) (by rw [k_16]; decide) (by rw [k_16]; rfl) (by decide) ?_
    refine lv_aload_n hx hb d_I_lacksWhatIsWanted_50 rfl (lv_at hl 0 rfl) ?_
    refine lv_iconst (v := 0) hx hb d_I_lacksWhatIsWanted_51 (by decide) ?_
    refine wd_ci h (wd_rV (rest := []) (st0 := [.int 0, .ref a]) C h kc_I ha k_I_has wm_I_has wz_I_has lk_I_72 (c_I_has l D T A σ a r w c ha 0) rfl rfl ⟨Nat.le_of_ble_eq_true rfl, Nat.le_of_ble_eq_true rfl⟩ rfl hl.1 rfl (Nat.le_of_ble_eq_true rfl) d_I_lacksWhatIsWanted_52 ⟨Nat.le_of_ble_eq_true rfl, Nat.le_of_ble_eq_true rfl⟩) (fun r_17 σ_18 H locs hp_19 h => ?_)
    obtain ⟨e_20, es_21⟩ := hp_19
    rw [es_21] at h
    subst e_20
    refine lv_if_eq (tgt := 65) hx hb d_I_lacksWhatIsWanted_55 (by decide) (fun c_22 => ?_) (fun c_22 => ?_)
    · refine lv_iconst (v := 1) hx hb d_I_lacksWhatIsWanted_65 (by decide) ?_
      refine lv_goto (tgt := 70) hx hb d_I_lacksWhatIsWanted_66 (by decide) ?_
      exact wd_zret C hr hlocks h (by decide) (⟨by simp [xk, k_16, c_22], rfl⟩) (Nat.le_of_ble_eq_true rfl) (Nat.le_of_ble_eq_true rfl) d_I_lacksWhatIsWanted_70
    · refine lv_aload_n hx hb d_I_lacksWhatIsWanted_58 rfl (lv_at hl 0 rfl) ?_
      refine wd_get C h kc_I ha 0 (by decide) lk_I_9 rfl d_I_lacksWhatIsWanted_59 ?_
      refine lv_if_ne (tgt := 69) hx hb d_I_lacksWhatIsWanted_62 (by decide) (fun c_23 => ?_) (fun c_23 => ?_)
      · refine lv_iconst (v := 0) hx hb d_I_lacksWhatIsWanted_69 (by decide) ?_
        exact wd_zret C hr hlocks h (by decide) (⟨by simp [xk, k_16, c_22, c_23], rfl⟩) (Nat.le_of_ble_eq_true rfl) (Nat.le_of_ble_eq_true rfl) d_I_lacksWhatIsWanted_70
      · refine lv_iconst (v := 1) hx hb d_I_lacksWhatIsWanted_65 (by decide) ?_
        refine lv_goto (tgt := 70) hx hb d_I_lacksWhatIsWanted_66 (by decide) ?_
        exact wd_zret C hr hlocks h (by decide) (⟨by simp [xk, k_16, c_22, c_23], rfl⟩) (Nat.le_of_ble_eq_true rfl) (Nat.le_of_ble_eq_true rfl) d_I_lacksWhatIsWanted_70
  by_cases k_24 : t = 5
  · refine lv_tableIn (tgt := 71) hx hb d_I_lacksWhatIsWanted_1 (by rw [k_24]; decide) (by rw [k_24]; decide) (by rw [k_24]; rfl) (by decide) ?_
    refine lv_aload_n hx hb d_I_lacksWhatIsWanted_71 rfl (lv_at hl 0 rfl) ?_
    refine wd_get C h kc_I ha 0 (by decide) lk_I_9 rfl d_I_lacksWhatIsWanted_72 ?_
    refine lv_iconst (v := 2) hx hb d_I_lacksWhatIsWanted_75 (by decide) ?_
    refine lv_icmp_ge (tgt := 83) hx hb d_I_lacksWhatIsWanted_76 (by decide) (fun c_25 => ?_) (fun c_25 => ?_)
    · refine lv_iconst (v := 0) hx hb d_I_lacksWhatIsWanted_83 (by decide) ?_
      exact wd_zret C hr hlocks h (by decide) (⟨by simp [xk, k_24, c_25], rfl⟩) (Nat.le_of_ble_eq_true rfl) (Nat.le_of_ble_eq_true rfl) d_I_lacksWhatIsWanted_84
    · refine lv_iconst (v := 1) hx hb d_I_lacksWhatIsWanted_79 (by decide) ?_
      refine lv_goto (tgt := 84) hx hb d_I_lacksWhatIsWanted_80 (by decide) ?_
      exact wd_zret C hr hlocks h (by decide) (⟨by simp [xk, k_24, c_25], rfl⟩) (Nat.le_of_ble_eq_true rfl) (Nat.le_of_ble_eq_true rfl) d_I_lacksWhatIsWanted_84
  have n_26 := sw_ne k_1 (show ((1 : Int32)).toInt = 1 from by decide)
  have n_27 := sw_ne k_8 (show ((2 : Int32)).toInt = 2 from by decide)
  have n_28 := sw_ne k_9 (show ((3 : Int32)).toInt = 3 from by decide)
  have n_29 := sw_ne k_16 (show ((4 : Int32)).toInt = 4 from by decide)
  have n_30 := sw_ne k_24 (show ((5 : Int32)).toInt = 5 from by decide)
  refine lv_tableOut (tgt := 85) hx hb d_I_lacksWhatIsWanted_1 (by omega) (by decide) ?_
  refine lv_iconst (v := 0) hx hb d_I_lacksWhatIsWanted_85 (by decide) ?_
  exact wd_zret C hr hlocks h (by decide) (⟨by simp [xk, k_1, k_8, k_9, k_16, k_24], rfl⟩) (Nat.le_of_ble_eq_true rfl) (Nat.le_of_ble_eq_true rfl) d_I_lacksWhatIsWanted_86

set_option maxHeartbeats 4000000 in
set_option maxRecDepth 20000 in
theorem c_F_mayBecome (l : Launch) (D : va_G) (T : Nat → ClassId) (A : Nat → Prop) (σ : wd_S) (wh v : Int32) : Met l y_F_mayBecome (Cond.code y_F_mayBecome b_F_mayBecome 2 (some .boolean) :: wd_tb) { frames := 1, cells := 0, slots := 0, locals := 22 } (va_Pc [.int wh, .int v] (wd_Pre D T A σ)) (va_Qi (fun r1 σ1 => r1 = xy wh v ∧ σ1 = σ) (wd_B D A) A) 0 0 A := by
  refine wd_ofW (by decide) (Nat.le_of_ble_eq_true rfl) ?_
  intro p e s m below meth c0 ls C hr hlocks hname h hl
  have hl : lv_has ls 2 [(0, .int wh), (1, .int v)] := hl
  have hx := C.1
  have hb := C.2.1
  refine lv_iload_n hx hb d_F_mayBecome_0 rfl (lv_at hl 0 rfl) ?_
  by_cases k_1 : wh = 0
  · refine lv_tableIn (tgt := 36) hx hb d_F_mayBecome_1 (by rw [k_1]; decide) (by rw [k_1]; decide) (by rw [k_1]; rfl) (by decide) ?_
    refine lv_iload_n hx hb d_F_mayBecome_36 rfl (lv_at hl 1 rfl) ?_
    refine lv_iconst (v := 0) hx hb d_F_mayBecome_37 (by decide) ?_
    refine lv_iconst (v := 3) hx hb d_F_mayBecome_38 (by decide) ?_
    refine wd_ci h (wd_rS (rest := []) (st0 := [.int 3, .int 0, .int v]) C h k_F_within wt_F_within lk_F_46 (c_F_within l D T A σ v 0 3) rfl rfl ⟨Nat.le_of_ble_eq_true rfl, Nat.le_of_ble_eq_true rfl⟩ rfl hl.1 rfl (Nat.le_of_ble_eq_true rfl) d_F_mayBecome_39 ⟨Nat.le_of_ble_eq_true rfl, Nat.le_of_ble_eq_true rfl⟩) (fun r_2 σ_3 H locs hp_4 h => ?_)
    obtain ⟨e_5, es_6⟩ := hp_4
    rw [es_6] at h
    subst e_5
    exact wd_zret C hr hlocks h (xw_01 _ _ _) (⟨by simp [xy, k_1], rfl⟩) (Nat.le_of_ble_eq_true rfl) (Nat.le_of_ble_eq_true rfl) d_F_mayBecome_42
  by_cases k_7 : wh = 1
  · refine lv_tableIn (tgt := 43) hx hb d_F_mayBecome_1 (by rw [k_7]; decide) (by rw [k_7]; decide) (by rw [k_7]; rfl) (by decide) ?_
    refine lv_iload_n hx hb d_F_mayBecome_43 rfl (lv_at hl 1 rfl) ?_
    refine lv_iconst (v := 1) hx hb d_F_mayBecome_44 (by decide) ?_
    refine lv_ldc (v := 100000) hx hb C.2.2.2.1 (C.2.2.2.2 _ lk_F_50) d_F_mayBecome_45 ?_
    refine wd_ci h (wd_rS (rest := []) (st0 := [.int 100000, .int 1, .int v]) C h k_F_within wt_F_within lk_F_46 (c_F_within l D T A σ v 1 100000) rfl rfl ⟨Nat.le_of_ble_eq_true rfl, Nat.le_of_ble_eq_true rfl⟩ rfl hl.1 rfl (Nat.le_of_ble_eq_true rfl) d_F_mayBecome_47 ⟨Nat.le_of_ble_eq_true rfl, Nat.le_of_ble_eq_true rfl⟩) (fun r_8 σ_9 H locs hp_10 h => ?_)
    obtain ⟨e_11, es_12⟩ := hp_10
    rw [es_12] at h
    subst e_11
    exact wd_zret C hr hlocks h (xw_01 _ _ _) (⟨by simp [xy, k_7], rfl⟩) (Nat.le_of_ble_eq_true rfl) (Nat.le_of_ble_eq_true rfl) d_F_mayBecome_50
  by_cases k_13 : wh = 2
  · refine lv_tableIn (tgt := 51) hx hb d_F_mayBecome_1 (by rw [k_13]; decide) (by rw [k_13]; decide) (by rw [k_13]; rfl) (by decide) ?_
    refine lv_iload_n hx hb d_F_mayBecome_51 rfl (lv_at hl 1 rfl) ?_
    refine lv_iconst (v := 0) hx hb d_F_mayBecome_52 (by decide) ?_
    refine lv_bipush (v := 9) hx hb d_F_mayBecome_53 (by decide) ?_
    refine wd_ci h (wd_rS (rest := []) (st0 := [.int 9, .int 0, .int v]) C h k_F_within wt_F_within lk_F_46 (c_F_within l D T A σ v 0 9) rfl rfl ⟨Nat.le_of_ble_eq_true rfl, Nat.le_of_ble_eq_true rfl⟩ rfl hl.1 rfl (Nat.le_of_ble_eq_true rfl) d_F_mayBecome_55 ⟨Nat.le_of_ble_eq_true rfl, Nat.le_of_ble_eq_true rfl⟩) (fun r_14 σ_15 H locs hp_16 h => ?_)
    obtain ⟨e_17, es_18⟩ := hp_16
    rw [es_18] at h
    subst e_17
    exact wd_zret C hr hlocks h (xw_01 _ _ _) (⟨by simp [xy, k_13], rfl⟩) (Nat.le_of_ble_eq_true rfl) (Nat.le_of_ble_eq_true rfl) d_F_mayBecome_58
  by_cases k_19 : wh = 3
  · refine lv_tableIn (tgt := 59) hx hb d_F_mayBecome_1 (by rw [k_19]; decide) (by rw [k_19]; decide) (by rw [k_19]; rfl) (by decide) ?_
    refine lv_iload_n hx hb d_F_mayBecome_59 rfl (lv_at hl 1 rfl) ?_
    refine lv_iconst (v := 0) hx hb d_F_mayBecome_60 (by decide) ?_
    refine lv_sipush (v := 9999) hx hb d_F_mayBecome_61 (by decide) ?_
    refine wd_ci h (wd_rS (rest := []) (st0 := [.int 9999, .int 0, .int v]) C h k_F_within wt_F_within lk_F_46 (c_F_within l D T A σ v 0 9999) rfl rfl ⟨Nat.le_of_ble_eq_true rfl, Nat.le_of_ble_eq_true rfl⟩ rfl hl.1 rfl (Nat.le_of_ble_eq_true rfl) d_F_mayBecome_64 ⟨Nat.le_of_ble_eq_true rfl, Nat.le_of_ble_eq_true rfl⟩) (fun r_20 σ_21 H locs hp_22 h => ?_)
    obtain ⟨e_23, es_24⟩ := hp_22
    rw [es_24] at h
    subst e_23
    exact wd_zret C hr hlocks h (xw_01 _ _ _) (⟨by simp [xy, k_19], rfl⟩) (Nat.le_of_ble_eq_true rfl) (Nat.le_of_ble_eq_true rfl) d_F_mayBecome_67
  by_cases k_25 : wh = 4
  · refine lv_tableIn (tgt := 59) hx hb d_F_mayBecome_1 (by rw [k_25]; decide) (by rw [k_25]; decide) (by rw [k_25]; rfl) (by decide) ?_
    refine lv_iload_n hx hb d_F_mayBecome_59 rfl (lv_at hl 1 rfl) ?_
    refine lv_iconst (v := 0) hx hb d_F_mayBecome_60 (by decide) ?_
    refine lv_sipush (v := 9999) hx hb d_F_mayBecome_61 (by decide) ?_
    refine wd_ci h (wd_rS (rest := []) (st0 := [.int 9999, .int 0, .int v]) C h k_F_within wt_F_within lk_F_46 (c_F_within l D T A σ v 0 9999) rfl rfl ⟨Nat.le_of_ble_eq_true rfl, Nat.le_of_ble_eq_true rfl⟩ rfl hl.1 rfl (Nat.le_of_ble_eq_true rfl) d_F_mayBecome_64 ⟨Nat.le_of_ble_eq_true rfl, Nat.le_of_ble_eq_true rfl⟩) (fun r_26 σ_27 H locs hp_28 h => ?_)
    obtain ⟨e_29, es_30⟩ := hp_28
    rw [es_30] at h
    subst e_29
    exact wd_zret C hr hlocks h (xw_01 _ _ _) (⟨by simp [xy, k_25], rfl⟩) (Nat.le_of_ble_eq_true rfl) (Nat.le_of_ble_eq_true rfl) d_F_mayBecome_67
  have n_31 := sw_ne k_1 (show ((0 : Int32)).toInt = 0 from by decide)
  have n_32 := sw_ne k_7 (show ((1 : Int32)).toInt = 1 from by decide)
  have n_33 := sw_ne k_13 (show ((2 : Int32)).toInt = 2 from by decide)
  have n_34 := sw_ne k_19 (show ((3 : Int32)).toInt = 3 from by decide)
  have n_35 := sw_ne k_25 (show ((4 : Int32)).toInt = 4 from by decide)
  refine lv_tableOut (tgt := 68) hx hb d_F_mayBecome_1 (by omega) (by decide) ?_
  refine lv_iconst (v := 0) hx hb d_F_mayBecome_68 (by decide) ?_
  exact wd_zret C hr hlocks h (by decide) (⟨by simp [xy, k_1, k_7, k_13, k_19, k_25], rfl⟩) (Nat.le_of_ble_eq_true rfl) (Nat.le_of_ble_eq_true rfl) d_F_mayBecome_69

set_option maxHeartbeats 4000000 in
set_option maxRecDepth 20000 in
theorem c_I_wouldStay (l : Launch) (D : va_G) (T : Nat → ClassId) (A : Nat → Prop) (σ : wd_S) (a : Nat) (r : Nat → Int32) (w c : Nat) (ha : σ a = some (xI r w c)) (wh v : Int32) : Met l y_I_wouldStay (Cond.code y_I_wouldStay b_I_wouldStay 3 (some .boolean) :: wd_tb) { frames := 1, cells := 0, slots := 0, locals := 23 } (va_Pc [.ref a, .int wh, .int v] (wd_Pre D T A σ)) (va_Qi (fun r1 σ1 => r1 = xs r wh v ∧ σ1 = σ) (wd_B D A) A) 0 0 A := by
  refine wd_ofW (by decide) (Nat.le_of_ble_eq_true rfl) ?_
  intro p e s m below meth c0 ls C hr hlocks hname h hl
  have hl : lv_has ls 3 [(0, .ref a), (1, .int wh), (2, .int v)] := hl
  have hx := C.1
  have hb := C.2.1
  refine lv_iload_n hx hb d_I_wouldStay_0 rfl (lv_at hl 1 rfl) ?_
  refine lv_if_ne (tgt := 38) hx hb d_I_wouldStay_1 (by decide) (fun c_1 => ?_) (fun c_1 => ?_)
  · refine lv_aload_n hx hb d_I_wouldStay_38 rfl (lv_at hl 0 rfl) ?_
    refine lv_iload_n hx hb d_I_wouldStay_39 rfl (lv_at hl 1 rfl) ?_
    refine wd_ci h (wd_rV (rest := []) (st0 := [.int wh, .ref a]) C h kc_I ha k_I_correctable wm_I_correctable wz_I_correctable lk_I_80 (c_I_correctable l D T A σ a r w c ha wh) rfl rfl ⟨Nat.le_of_ble_eq_true rfl, Nat.le_of_ble_eq_true rfl⟩ rfl hl.1 rfl (Nat.le_of_ble_eq_true rfl) d_I_wouldStay_40 ⟨Nat.le_of_ble_eq_true rfl, Nat.le_of_ble_eq_true rfl⟩) (fun r_2 σ_3 H locs hp_4 h => ?_)
    obtain ⟨e_5, es_6⟩ := hp_4
    rw [es_6] at h
    subst e_5
    refine lv_iload_n hx hb d_I_wouldStay_43 rfl (lv_at hl 2 rfl) ?_
    refine lv_icmp_ne (tgt := 51) hx hb d_I_wouldStay_44 (by decide) (fun c_7 => ?_) (fun c_7 => ?_)
    · refine lv_iconst (v := 0) hx hb d_I_wouldStay_51 (by decide) ?_
      exact wd_zret C hr hlocks h (by decide) (⟨by simp [xs, c_1, c_7], rfl⟩) (Nat.le_of_ble_eq_true rfl) (Nat.le_of_ble_eq_true rfl) d_I_wouldStay_52
    · refine lv_iconst (v := 1) hx hb d_I_wouldStay_47 (by decide) ?_
      refine lv_goto (tgt := 52) hx hb d_I_wouldStay_48 (by decide) ?_
      exact wd_zret C hr hlocks h (by decide) (⟨by simp [xs, c_1, c_7], rfl⟩) (Nat.le_of_ble_eq_true rfl) (Nat.le_of_ble_eq_true rfl) d_I_wouldStay_52
  · refine lv_iload_n hx hb d_I_wouldStay_4 rfl (lv_at hl 2 rfl) ?_
    refine lv_iconst (v := 0) hx hb d_I_wouldStay_5 (by decide) ?_
    refine lv_iconst (v := 3) hx hb d_I_wouldStay_6 (by decide) ?_
    refine wd_ci h (wd_rSN (rest := []) (st0 := [.int 3, .int 0, .int v]) C h k_F_within wt_F_within lk_I_65 (c_F_within l D T A σ v 0 3) rfl rfl ⟨Nat.le_of_ble_eq_true rfl, Nat.le_of_ble_eq_true rfl⟩ rfl hl.1 rfl (Nat.le_of_ble_eq_true rfl) d_I_wouldStay_7 ⟨Nat.le_of_ble_eq_true rfl, Nat.le_of_ble_eq_true rfl⟩) (fun r_8 σ_9 H locs hp_10 h => ?_)
    obtain ⟨e_11, es_12⟩ := hp_10
    rw [es_12] at h
    subst e_11
    refine lv_if_eq (tgt := 36) hx hb d_I_wouldStay_10 (by decide) (fun c_13 => ?_) (fun c_13 => ?_)
    · refine lv_iconst (v := 0) hx hb d_I_wouldStay_36 (by decide) ?_
      exact wd_zret C hr hlocks h (by decide) (⟨by simp [xs, c_1, c_13], rfl⟩) (Nat.le_of_ble_eq_true rfl) (Nat.le_of_ble_eq_true rfl) d_I_wouldStay_37
    · refine lv_iload_n hx hb d_I_wouldStay_13 rfl (lv_at hl 2 rfl) ?_
      refine lv_aload_n hx hb d_I_wouldStay_14 rfl (lv_at hl 0 rfl) ?_
      refine wd_get C h kc_I ha 1 (by decide) lk_I_15 rfl d_I_wouldStay_15 ?_
      refine lv_aload_n hx hb d_I_wouldStay_18 rfl (lv_at hl 0 rfl) ?_
      refine wd_get C h kc_I ha 2 (by decide) lk_I_18 rfl d_I_wouldStay_19 ?_
      refine wd_ci h (wd_rSN (rest := []) (st0 := [.int (r 2), .int (r 1), .int v]) C h k_F_turned wt_F_turned lk_I_76 (c_F_turned l D T A σ v (r 1) (r 2) (xw_03 c_13)) rfl rfl ⟨Nat.le_of_ble_eq_true rfl, Nat.le_of_ble_eq_true rfl⟩ rfl hl.1 rfl (Nat.le_of_ble_eq_true rfl) d_I_wouldStay_22 ⟨Nat.le_of_ble_eq_true rfl, Nat.le_of_ble_eq_true rfl⟩) (fun r_14 σ_15 H locs hp_16 h => ?_)
      obtain ⟨e_17, es_18⟩ := hp_16
      rw [es_18] at h
      subst e_17
      refine lv_aload_n hx hb d_I_wouldStay_25 rfl (lv_at hl 0 rfl) ?_
      refine wd_get C h kc_I ha 0 (by decide) lk_I_9 rfl d_I_wouldStay_26 ?_
      refine lv_icmp_ne (tgt := 36) hx hb d_I_wouldStay_29 (by decide) (fun c_19 => ?_) (fun c_19 => ?_)
      · refine lv_iconst (v := 0) hx hb d_I_wouldStay_36 (by decide) ?_
        exact wd_zret C hr hlocks h (by decide) (⟨by simp [xs, c_1, c_13, c_19], rfl⟩) (Nat.le_of_ble_eq_true rfl) (Nat.le_of_ble_eq_true rfl) d_I_wouldStay_37
      · refine lv_iconst (v := 1) hx hb d_I_wouldStay_32 (by decide) ?_
        refine lv_goto (tgt := 37) hx hb d_I_wouldStay_33 (by decide) ?_
        exact wd_zret C hr hlocks h (by decide) (⟨by simp [xs, c_1, c_13, c_19], rfl⟩) (Nat.le_of_ble_eq_true rfl) (Nat.le_of_ble_eq_true rfl) d_I_wouldStay_37

set_option maxHeartbeats 4000000 in
set_option maxRecDepth 20000 in
theorem c_I_become (l : Launch) (D : va_G) (T : Nat → ClassId) (A : Nat → Prop) (σ : wd_S) (a : Nat) (r : Nat → Int32) (w c : Nat) (ha : σ a = some (xI r w c)) (wh v : Int32) (hk : xm0 r wh v 0 = 0 ∨ xm0 r wh v 0 = 1 ∨ xm0 r wh v 0 = 2 ∨ xm0 r wh v 0 = 3) : Met l y_I_become (Cond.code y_I_become b_I_become 3 none :: wd_tb) { frames := 1, cells := 0, slots := 0, locals := 23 } (va_Pc [.ref a, .int wh, .int v] (wd_Pre D T A σ)) (va_Qv (fun σ1 => σ1 = wd_up σ a (xI (xm r wh v) w c)) (wd_B D A) A) 0 0 A := by
  refine wd_ofW (by decide) (Nat.le_of_ble_eq_true rfl) ?_
  intro p e s m below meth c0 ls C hr hlocks hname h hl
  have hl : lv_has ls 3 [(0, .ref a), (1, .int wh), (2, .int v)] := hl
  have hx := C.1
  have hb := C.2.1
  refine lv_iload_n hx hb d_I_become_0 rfl (lv_at hl 1 rfl) ?_
  by_cases k_1 : wh = 0
  · refine lv_tableIn (tgt := 36) hx hb d_I_become_1 (by rw [k_1]; decide) (by rw [k_1]; decide) (by rw [k_1]; rfl) (by decide) ?_
    refine lv_aload_n hx hb d_I_become_36 rfl (lv_at hl 0 rfl) ?_
    refine lv_iload_n hx hb d_I_become_37 rfl (lv_at hl 2 rfl) ?_
    refine wd_put C h kc_I ha 0 (by decide) lk_I_9 rfl (by rfl) (by rfl) (Nat.le_of_ble_eq_true rfl) d_I_become_38 (fun H locs h => ?_)
    have h : wd_C D T A s H locs (wd_up σ a (.inr (1, [.int v, .int (r 1), .int (r 2), .int (r 3), .int (r 4), .int (r 5), .int (r 6), .int (r 7), .int (r 8), .int (r 9), .int (r 10), .int (r 11), .int (r 12), .int (r 13), .int (r 14), .ref w, .ref c]))) := h
    have h_2 : (wd_up σ a (.inr (1, [.int v, .int (r 1), .int (r 2), .int (r 3), .int (r 4), .int (r 5), .int (r 6), .int (r 7), .int (r 8), .int (r 9), .int (r 10), .int (r 11), .int (r 12), .int (r 13), .int (r 14), .ref w, .ref c]))) a = some (.inr (1, [.int v, .int (r 1), .int (r 2), .int (r 3), .int (r 4), .int (r 5), .int (r 6), .int (r 7), .int (r 8), .int (r 9), .int (r 10), .int (r 11), .int (r 12), .int (r 13), .int (r 14), .ref w, .ref c])) := wd_us _ _ _
    refine lv_goto (tgt := 76) hx hb d_I_become_41 (by decide) ?_
    refine lv_aload_n hx hb d_I_become_76 rfl (lv_at hl 0 rfl) ?_
    refine lv_aload_n hx hb d_I_become_77 rfl (lv_at hl 0 rfl) ?_
    refine wd_get C h kc_I h_2 0 (by decide) lk_I_9 rfl d_I_become_78 ?_
    refine lv_aload_n hx hb d_I_become_81 rfl (lv_at hl 0 rfl) ?_
    refine wd_get C h kc_I h_2 1 (by decide) lk_I_15 rfl d_I_become_82 ?_
    refine lv_aload_n hx hb d_I_become_85 rfl (lv_at hl 0 rfl) ?_
    refine wd_get C h kc_I h_2 2 (by decide) lk_I_18 rfl d_I_become_86 ?_
    refine wd_ci h (wd_rSN (rest := [.ref a]) (st0 := [.int (r 2), .int (r 1), .int v, .ref a]) C h k_F_turned wt_F_turned lk_I_76 (c_F_turned l D T A (wd_up σ a (.inr (1, [.int v, .int (r 1), .int (r 2), .int (r 3), .int (r 4), .int (r 5), .int (r 6), .int (r 7), .int (r 8), .int (r 9), .int (r 10), .int (r 11), .int (r 12), .int (r 13), .int (r 14), .ref w, .ref c]))) v (r 1) (r 2) (by simpa [xm0, upd, k_1] using hk)) rfl rfl ⟨Nat.le_of_ble_eq_true rfl, Nat.le_of_ble_eq_true rfl⟩ rfl hl.1 rfl (Nat.le_of_ble_eq_true rfl) d_I_become_89 ⟨Nat.le_of_ble_eq_true rfl, Nat.le_of_ble_eq_true rfl⟩) (fun r_3 σ_4 H locs hp_5 h => ?_)
    obtain ⟨e_6, es_7⟩ := hp_5
    rw [es_7] at h
    subst e_6
    refine wd_put C h kc_I h_2 0 (by decide) lk_I_9 rfl (by rfl) (by rfl) (Nat.le_of_ble_eq_true rfl) d_I_become_92 (fun H locs h => ?_)
    rw [wd_uu] at h
    have h : wd_C D T A s H locs (wd_up σ a (.inr (1, [.int (xt v (r 1) (r 2)), .int (r 1), .int (r 2), .int (r 3), .int (r 4), .int (r 5), .int (r 6), .int (r 7), .int (r 8), .int (r 9), .int (r 10), .int (r 11), .int (r 12), .int (r 13), .int (r 14), .ref w, .ref c]))) := h
    have h_8 : (wd_up σ a (.inr (1, [.int (xt v (r 1) (r 2)), .int (r 1), .int (r 2), .int (r 3), .int (r 4), .int (r 5), .int (r 6), .int (r 7), .int (r 8), .int (r 9), .int (r 10), .int (r 11), .int (r 12), .int (r 13), .int (r 14), .ref w, .ref c]))) a = some (.inr (1, [.int (xt v (r 1) (r 2)), .int (r 1), .int (r 2), .int (r 3), .int (r 4), .int (r 5), .int (r 6), .int (r 7), .int (r 8), .int (r 9), .int (r 10), .int (r 11), .int (r 12), .int (r 13), .int (r 14), .ref w, .ref c])) := wd_us _ _ _
    exact wd_vret C hr hlocks h (by rw [show xm r wh v = upd (upd r 0 v) 0 (xt ((upd r 0 v) 0) ((upd r 0 v) 1) ((upd r 0 v) 2)) from by unfold xm; rw [show xm0 r wh v = (upd r 0 v) from by simp [xm0, k_1]]]; rfl) (Nat.le_of_ble_eq_true rfl) (Nat.le_of_ble_eq_true rfl) d_I_become_95
  by_cases k_9 : wh = 1
  · refine lv_tableIn (tgt := 44) hx hb d_I_become_1 (by rw [k_9]; decide) (by rw [k_9]; decide) (by rw [k_9]; rfl) (by decide) ?_
    refine lv_aload_n hx hb d_I_become_44 rfl (lv_at hl 0 rfl) ?_
    refine lv_iload_n hx hb d_I_become_45 rfl (lv_at hl 2 rfl) ?_
    refine wd_put C h kc_I ha 1 (by decide) lk_I_15 rfl (by rfl) (by rfl) (Nat.le_of_ble_eq_true rfl) d_I_become_46 (fun H locs h => ?_)
    have h : wd_C D T A s H locs (wd_up σ a (.inr (1, [.int (r 0), .int v, .int (r 2), .int (r 3), .int (r 4), .int (r 5), .int (r 6), .int (r 7), .int (r 8), .int (r 9), .int (r 10), .int (r 11), .int (r 12), .int (r 13), .int (r 14), .ref w, .ref c]))) := h
    have h_10 : (wd_up σ a (.inr (1, [.int (r 0), .int v, .int (r 2), .int (r 3), .int (r 4), .int (r 5), .int (r 6), .int (r 7), .int (r 8), .int (r 9), .int (r 10), .int (r 11), .int (r 12), .int (r 13), .int (r 14), .ref w, .ref c]))) a = some (.inr (1, [.int (r 0), .int v, .int (r 2), .int (r 3), .int (r 4), .int (r 5), .int (r 6), .int (r 7), .int (r 8), .int (r 9), .int (r 10), .int (r 11), .int (r 12), .int (r 13), .int (r 14), .ref w, .ref c])) := wd_us _ _ _
    refine lv_goto (tgt := 76) hx hb d_I_become_49 (by decide) ?_
    refine lv_aload_n hx hb d_I_become_76 rfl (lv_at hl 0 rfl) ?_
    refine lv_aload_n hx hb d_I_become_77 rfl (lv_at hl 0 rfl) ?_
    refine wd_get C h kc_I h_10 0 (by decide) lk_I_9 rfl d_I_become_78 ?_
    refine lv_aload_n hx hb d_I_become_81 rfl (lv_at hl 0 rfl) ?_
    refine wd_get C h kc_I h_10 1 (by decide) lk_I_15 rfl d_I_become_82 ?_
    refine lv_aload_n hx hb d_I_become_85 rfl (lv_at hl 0 rfl) ?_
    refine wd_get C h kc_I h_10 2 (by decide) lk_I_18 rfl d_I_become_86 ?_
    refine wd_ci h (wd_rSN (rest := [.ref a]) (st0 := [.int (r 2), .int v, .int (r 0), .ref a]) C h k_F_turned wt_F_turned lk_I_76 (c_F_turned l D T A (wd_up σ a (.inr (1, [.int (r 0), .int v, .int (r 2), .int (r 3), .int (r 4), .int (r 5), .int (r 6), .int (r 7), .int (r 8), .int (r 9), .int (r 10), .int (r 11), .int (r 12), .int (r 13), .int (r 14), .ref w, .ref c]))) (r 0) v (r 2) (by simpa [xm0, upd, k_9] using hk)) rfl rfl ⟨Nat.le_of_ble_eq_true rfl, Nat.le_of_ble_eq_true rfl⟩ rfl hl.1 rfl (Nat.le_of_ble_eq_true rfl) d_I_become_89 ⟨Nat.le_of_ble_eq_true rfl, Nat.le_of_ble_eq_true rfl⟩) (fun r_11 σ_12 H locs hp_13 h => ?_)
    obtain ⟨e_14, es_15⟩ := hp_13
    rw [es_15] at h
    subst e_14
    refine wd_put C h kc_I h_10 0 (by decide) lk_I_9 rfl (by rfl) (by rfl) (Nat.le_of_ble_eq_true rfl) d_I_become_92 (fun H locs h => ?_)
    rw [wd_uu] at h
    have h : wd_C D T A s H locs (wd_up σ a (.inr (1, [.int (xt (r 0) v (r 2)), .int v, .int (r 2), .int (r 3), .int (r 4), .int (r 5), .int (r 6), .int (r 7), .int (r 8), .int (r 9), .int (r 10), .int (r 11), .int (r 12), .int (r 13), .int (r 14), .ref w, .ref c]))) := h
    have h_16 : (wd_up σ a (.inr (1, [.int (xt (r 0) v (r 2)), .int v, .int (r 2), .int (r 3), .int (r 4), .int (r 5), .int (r 6), .int (r 7), .int (r 8), .int (r 9), .int (r 10), .int (r 11), .int (r 12), .int (r 13), .int (r 14), .ref w, .ref c]))) a = some (.inr (1, [.int (xt (r 0) v (r 2)), .int v, .int (r 2), .int (r 3), .int (r 4), .int (r 5), .int (r 6), .int (r 7), .int (r 8), .int (r 9), .int (r 10), .int (r 11), .int (r 12), .int (r 13), .int (r 14), .ref w, .ref c])) := wd_us _ _ _
    exact wd_vret C hr hlocks h (by rw [show xm r wh v = upd (upd r 1 v) 0 (xt ((upd r 1 v) 0) ((upd r 1 v) 1) ((upd r 1 v) 2)) from by unfold xm; rw [show xm0 r wh v = (upd r 1 v) from by simp [xm0, k_9]]]; rfl) (Nat.le_of_ble_eq_true rfl) (Nat.le_of_ble_eq_true rfl) d_I_become_95
  by_cases k_17 : wh = 2
  · refine lv_tableIn (tgt := 52) hx hb d_I_become_1 (by rw [k_17]; decide) (by rw [k_17]; decide) (by rw [k_17]; rfl) (by decide) ?_
    refine lv_aload_n hx hb d_I_become_52 rfl (lv_at hl 0 rfl) ?_
    refine lv_iload_n hx hb d_I_become_53 rfl (lv_at hl 2 rfl) ?_
    refine wd_put C h kc_I ha 2 (by decide) lk_I_18 rfl (by rfl) (by rfl) (Nat.le_of_ble_eq_true rfl) d_I_become_54 (fun H locs h => ?_)
    have h : wd_C D T A s H locs (wd_up σ a (.inr (1, [.int (r 0), .int (r 1), .int v, .int (r 3), .int (r 4), .int (r 5), .int (r 6), .int (r 7), .int (r 8), .int (r 9), .int (r 10), .int (r 11), .int (r 12), .int (r 13), .int (r 14), .ref w, .ref c]))) := h
    have h_18 : (wd_up σ a (.inr (1, [.int (r 0), .int (r 1), .int v, .int (r 3), .int (r 4), .int (r 5), .int (r 6), .int (r 7), .int (r 8), .int (r 9), .int (r 10), .int (r 11), .int (r 12), .int (r 13), .int (r 14), .ref w, .ref c]))) a = some (.inr (1, [.int (r 0), .int (r 1), .int v, .int (r 3), .int (r 4), .int (r 5), .int (r 6), .int (r 7), .int (r 8), .int (r 9), .int (r 10), .int (r 11), .int (r 12), .int (r 13), .int (r 14), .ref w, .ref c])) := wd_us _ _ _
    refine lv_goto (tgt := 76) hx hb d_I_become_57 (by decide) ?_
    refine lv_aload_n hx hb d_I_become_76 rfl (lv_at hl 0 rfl) ?_
    refine lv_aload_n hx hb d_I_become_77 rfl (lv_at hl 0 rfl) ?_
    refine wd_get C h kc_I h_18 0 (by decide) lk_I_9 rfl d_I_become_78 ?_
    refine lv_aload_n hx hb d_I_become_81 rfl (lv_at hl 0 rfl) ?_
    refine wd_get C h kc_I h_18 1 (by decide) lk_I_15 rfl d_I_become_82 ?_
    refine lv_aload_n hx hb d_I_become_85 rfl (lv_at hl 0 rfl) ?_
    refine wd_get C h kc_I h_18 2 (by decide) lk_I_18 rfl d_I_become_86 ?_
    refine wd_ci h (wd_rSN (rest := [.ref a]) (st0 := [.int v, .int (r 1), .int (r 0), .ref a]) C h k_F_turned wt_F_turned lk_I_76 (c_F_turned l D T A (wd_up σ a (.inr (1, [.int (r 0), .int (r 1), .int v, .int (r 3), .int (r 4), .int (r 5), .int (r 6), .int (r 7), .int (r 8), .int (r 9), .int (r 10), .int (r 11), .int (r 12), .int (r 13), .int (r 14), .ref w, .ref c]))) (r 0) (r 1) v (by simpa [xm0, upd, k_17] using hk)) rfl rfl ⟨Nat.le_of_ble_eq_true rfl, Nat.le_of_ble_eq_true rfl⟩ rfl hl.1 rfl (Nat.le_of_ble_eq_true rfl) d_I_become_89 ⟨Nat.le_of_ble_eq_true rfl, Nat.le_of_ble_eq_true rfl⟩) (fun r_19 σ_20 H locs hp_21 h => ?_)
    obtain ⟨e_22, es_23⟩ := hp_21
    rw [es_23] at h
    subst e_22
    refine wd_put C h kc_I h_18 0 (by decide) lk_I_9 rfl (by rfl) (by rfl) (Nat.le_of_ble_eq_true rfl) d_I_become_92 (fun H locs h => ?_)
    rw [wd_uu] at h
    have h : wd_C D T A s H locs (wd_up σ a (.inr (1, [.int (xt (r 0) (r 1) v), .int (r 1), .int v, .int (r 3), .int (r 4), .int (r 5), .int (r 6), .int (r 7), .int (r 8), .int (r 9), .int (r 10), .int (r 11), .int (r 12), .int (r 13), .int (r 14), .ref w, .ref c]))) := h
    have h_24 : (wd_up σ a (.inr (1, [.int (xt (r 0) (r 1) v), .int (r 1), .int v, .int (r 3), .int (r 4), .int (r 5), .int (r 6), .int (r 7), .int (r 8), .int (r 9), .int (r 10), .int (r 11), .int (r 12), .int (r 13), .int (r 14), .ref w, .ref c]))) a = some (.inr (1, [.int (xt (r 0) (r 1) v), .int (r 1), .int v, .int (r 3), .int (r 4), .int (r 5), .int (r 6), .int (r 7), .int (r 8), .int (r 9), .int (r 10), .int (r 11), .int (r 12), .int (r 13), .int (r 14), .ref w, .ref c])) := wd_us _ _ _
    exact wd_vret C hr hlocks h (by rw [show xm r wh v = upd (upd r 2 v) 0 (xt ((upd r 2 v) 0) ((upd r 2 v) 1) ((upd r 2 v) 2)) from by unfold xm; rw [show xm0 r wh v = (upd r 2 v) from by simp [xm0, k_17]]]; rfl) (Nat.le_of_ble_eq_true rfl) (Nat.le_of_ble_eq_true rfl) d_I_become_95
  by_cases k_25 : wh = 3
  · refine lv_tableIn (tgt := 60) hx hb d_I_become_1 (by rw [k_25]; decide) (by rw [k_25]; decide) (by rw [k_25]; rfl) (by decide) ?_
    refine lv_aload_n hx hb d_I_become_60 rfl (lv_at hl 0 rfl) ?_
    refine lv_iload_n hx hb d_I_become_61 rfl (lv_at hl 2 rfl) ?_
    refine wd_put C h kc_I ha 7 (by decide) lk_I_34 rfl (by rfl) (by rfl) (Nat.le_of_ble_eq_true rfl) d_I_become_62 (fun H locs h => ?_)
    have h : wd_C D T A s H locs (wd_up σ a (.inr (1, [.int (r 0), .int (r 1), .int (r 2), .int (r 3), .int (r 4), .int (r 5), .int (r 6), .int v, .int (r 8), .int (r 9), .int (r 10), .int (r 11), .int (r 12), .int (r 13), .int (r 14), .ref w, .ref c]))) := h
    have h_26 : (wd_up σ a (.inr (1, [.int (r 0), .int (r 1), .int (r 2), .int (r 3), .int (r 4), .int (r 5), .int (r 6), .int v, .int (r 8), .int (r 9), .int (r 10), .int (r 11), .int (r 12), .int (r 13), .int (r 14), .ref w, .ref c]))) a = some (.inr (1, [.int (r 0), .int (r 1), .int (r 2), .int (r 3), .int (r 4), .int (r 5), .int (r 6), .int v, .int (r 8), .int (r 9), .int (r 10), .int (r 11), .int (r 12), .int (r 13), .int (r 14), .ref w, .ref c])) := wd_us _ _ _
    refine lv_goto (tgt := 76) hx hb d_I_become_65 (by decide) ?_
    refine lv_aload_n hx hb d_I_become_76 rfl (lv_at hl 0 rfl) ?_
    refine lv_aload_n hx hb d_I_become_77 rfl (lv_at hl 0 rfl) ?_
    refine wd_get C h kc_I h_26 0 (by decide) lk_I_9 rfl d_I_become_78 ?_
    refine lv_aload_n hx hb d_I_become_81 rfl (lv_at hl 0 rfl) ?_
    refine wd_get C h kc_I h_26 1 (by decide) lk_I_15 rfl d_I_become_82 ?_
    refine lv_aload_n hx hb d_I_become_85 rfl (lv_at hl 0 rfl) ?_
    refine wd_get C h kc_I h_26 2 (by decide) lk_I_18 rfl d_I_become_86 ?_
    refine wd_ci h (wd_rSN (rest := [.ref a]) (st0 := [.int (r 2), .int (r 1), .int (r 0), .ref a]) C h k_F_turned wt_F_turned lk_I_76 (c_F_turned l D T A (wd_up σ a (.inr (1, [.int (r 0), .int (r 1), .int (r 2), .int (r 3), .int (r 4), .int (r 5), .int (r 6), .int v, .int (r 8), .int (r 9), .int (r 10), .int (r 11), .int (r 12), .int (r 13), .int (r 14), .ref w, .ref c]))) (r 0) (r 1) (r 2) (by simpa [xm0, upd, k_25] using hk)) rfl rfl ⟨Nat.le_of_ble_eq_true rfl, Nat.le_of_ble_eq_true rfl⟩ rfl hl.1 rfl (Nat.le_of_ble_eq_true rfl) d_I_become_89 ⟨Nat.le_of_ble_eq_true rfl, Nat.le_of_ble_eq_true rfl⟩) (fun r_27 σ_28 H locs hp_29 h => ?_)
    obtain ⟨e_30, es_31⟩ := hp_29
    rw [es_31] at h
    subst e_30
    refine wd_put C h kc_I h_26 0 (by decide) lk_I_9 rfl (by rfl) (by rfl) (Nat.le_of_ble_eq_true rfl) d_I_become_92 (fun H locs h => ?_)
    rw [wd_uu] at h
    have h : wd_C D T A s H locs (wd_up σ a (.inr (1, [.int (xt (r 0) (r 1) (r 2)), .int (r 1), .int (r 2), .int (r 3), .int (r 4), .int (r 5), .int (r 6), .int v, .int (r 8), .int (r 9), .int (r 10), .int (r 11), .int (r 12), .int (r 13), .int (r 14), .ref w, .ref c]))) := h
    have h_32 : (wd_up σ a (.inr (1, [.int (xt (r 0) (r 1) (r 2)), .int (r 1), .int (r 2), .int (r 3), .int (r 4), .int (r 5), .int (r 6), .int v, .int (r 8), .int (r 9), .int (r 10), .int (r 11), .int (r 12), .int (r 13), .int (r 14), .ref w, .ref c]))) a = some (.inr (1, [.int (xt (r 0) (r 1) (r 2)), .int (r 1), .int (r 2), .int (r 3), .int (r 4), .int (r 5), .int (r 6), .int v, .int (r 8), .int (r 9), .int (r 10), .int (r 11), .int (r 12), .int (r 13), .int (r 14), .ref w, .ref c])) := wd_us _ _ _
    exact wd_vret C hr hlocks h (by rw [show xm r wh v = upd (upd r 7 v) 0 (xt ((upd r 7 v) 0) ((upd r 7 v) 1) ((upd r 7 v) 2)) from by unfold xm; rw [show xm0 r wh v = (upd r 7 v) from by simp [xm0, k_25]]]; rfl) (Nat.le_of_ble_eq_true rfl) (Nat.le_of_ble_eq_true rfl) d_I_become_95
  by_cases k_33 : wh = 4
  · refine lv_tableIn (tgt := 68) hx hb d_I_become_1 (by rw [k_33]; decide) (by rw [k_33]; decide) (by rw [k_33]; rfl) (by decide) ?_
    refine lv_aload_n hx hb d_I_become_68 rfl (lv_at hl 0 rfl) ?_
    refine lv_iload_n hx hb d_I_become_69 rfl (lv_at hl 2 rfl) ?_
    refine wd_put C h kc_I ha 8 (by decide) lk_I_37 rfl (by rfl) (by rfl) (Nat.le_of_ble_eq_true rfl) d_I_become_70 (fun H locs h => ?_)
    have h : wd_C D T A s H locs (wd_up σ a (.inr (1, [.int (r 0), .int (r 1), .int (r 2), .int (r 3), .int (r 4), .int (r 5), .int (r 6), .int (r 7), .int v, .int (r 9), .int (r 10), .int (r 11), .int (r 12), .int (r 13), .int (r 14), .ref w, .ref c]))) := h
    have h_34 : (wd_up σ a (.inr (1, [.int (r 0), .int (r 1), .int (r 2), .int (r 3), .int (r 4), .int (r 5), .int (r 6), .int (r 7), .int v, .int (r 9), .int (r 10), .int (r 11), .int (r 12), .int (r 13), .int (r 14), .ref w, .ref c]))) a = some (.inr (1, [.int (r 0), .int (r 1), .int (r 2), .int (r 3), .int (r 4), .int (r 5), .int (r 6), .int (r 7), .int v, .int (r 9), .int (r 10), .int (r 11), .int (r 12), .int (r 13), .int (r 14), .ref w, .ref c])) := wd_us _ _ _
    refine lv_goto (tgt := 76) hx hb d_I_become_73 (by decide) ?_
    refine lv_aload_n hx hb d_I_become_76 rfl (lv_at hl 0 rfl) ?_
    refine lv_aload_n hx hb d_I_become_77 rfl (lv_at hl 0 rfl) ?_
    refine wd_get C h kc_I h_34 0 (by decide) lk_I_9 rfl d_I_become_78 ?_
    refine lv_aload_n hx hb d_I_become_81 rfl (lv_at hl 0 rfl) ?_
    refine wd_get C h kc_I h_34 1 (by decide) lk_I_15 rfl d_I_become_82 ?_
    refine lv_aload_n hx hb d_I_become_85 rfl (lv_at hl 0 rfl) ?_
    refine wd_get C h kc_I h_34 2 (by decide) lk_I_18 rfl d_I_become_86 ?_
    refine wd_ci h (wd_rSN (rest := [.ref a]) (st0 := [.int (r 2), .int (r 1), .int (r 0), .ref a]) C h k_F_turned wt_F_turned lk_I_76 (c_F_turned l D T A (wd_up σ a (.inr (1, [.int (r 0), .int (r 1), .int (r 2), .int (r 3), .int (r 4), .int (r 5), .int (r 6), .int (r 7), .int v, .int (r 9), .int (r 10), .int (r 11), .int (r 12), .int (r 13), .int (r 14), .ref w, .ref c]))) (r 0) (r 1) (r 2) (by simpa [xm0, upd, k_33] using hk)) rfl rfl ⟨Nat.le_of_ble_eq_true rfl, Nat.le_of_ble_eq_true rfl⟩ rfl hl.1 rfl (Nat.le_of_ble_eq_true rfl) d_I_become_89 ⟨Nat.le_of_ble_eq_true rfl, Nat.le_of_ble_eq_true rfl⟩) (fun r_35 σ_36 H locs hp_37 h => ?_)
    obtain ⟨e_38, es_39⟩ := hp_37
    rw [es_39] at h
    subst e_38
    refine wd_put C h kc_I h_34 0 (by decide) lk_I_9 rfl (by rfl) (by rfl) (Nat.le_of_ble_eq_true rfl) d_I_become_92 (fun H locs h => ?_)
    rw [wd_uu] at h
    have h : wd_C D T A s H locs (wd_up σ a (.inr (1, [.int (xt (r 0) (r 1) (r 2)), .int (r 1), .int (r 2), .int (r 3), .int (r 4), .int (r 5), .int (r 6), .int (r 7), .int v, .int (r 9), .int (r 10), .int (r 11), .int (r 12), .int (r 13), .int (r 14), .ref w, .ref c]))) := h
    have h_40 : (wd_up σ a (.inr (1, [.int (xt (r 0) (r 1) (r 2)), .int (r 1), .int (r 2), .int (r 3), .int (r 4), .int (r 5), .int (r 6), .int (r 7), .int v, .int (r 9), .int (r 10), .int (r 11), .int (r 12), .int (r 13), .int (r 14), .ref w, .ref c]))) a = some (.inr (1, [.int (xt (r 0) (r 1) (r 2)), .int (r 1), .int (r 2), .int (r 3), .int (r 4), .int (r 5), .int (r 6), .int (r 7), .int v, .int (r 9), .int (r 10), .int (r 11), .int (r 12), .int (r 13), .int (r 14), .ref w, .ref c])) := wd_us _ _ _
    exact wd_vret C hr hlocks h (by rw [show xm r wh v = upd (upd r 8 v) 0 (xt ((upd r 8 v) 0) ((upd r 8 v) 1) ((upd r 8 v) 2)) from by unfold xm; rw [show xm0 r wh v = (upd r 8 v) from by simp [xm0, k_33]]]; rfl) (Nat.le_of_ble_eq_true rfl) (Nat.le_of_ble_eq_true rfl) d_I_become_95
  have n_41 := sw_ne k_1 (show ((0 : Int32)).toInt = 0 from by decide)
  have n_42 := sw_ne k_9 (show ((1 : Int32)).toInt = 1 from by decide)
  have n_43 := sw_ne k_17 (show ((2 : Int32)).toInt = 2 from by decide)
  have n_44 := sw_ne k_25 (show ((3 : Int32)).toInt = 3 from by decide)
  have n_45 := sw_ne k_33 (show ((4 : Int32)).toInt = 4 from by decide)
  refine lv_tableOut (tgt := 76) hx hb d_I_become_1 (by omega) (by decide) ?_
  refine lv_aload_n hx hb d_I_become_76 rfl (lv_at hl 0 rfl) ?_
  refine lv_aload_n hx hb d_I_become_77 rfl (lv_at hl 0 rfl) ?_
  refine wd_get C h kc_I ha 0 (by decide) lk_I_9 rfl d_I_become_78 ?_
  refine lv_aload_n hx hb d_I_become_81 rfl (lv_at hl 0 rfl) ?_
  refine wd_get C h kc_I ha 1 (by decide) lk_I_15 rfl d_I_become_82 ?_
  refine lv_aload_n hx hb d_I_become_85 rfl (lv_at hl 0 rfl) ?_
  refine wd_get C h kc_I ha 2 (by decide) lk_I_18 rfl d_I_become_86 ?_
  refine wd_ci h (wd_rSN (rest := [.ref a]) (st0 := [.int (r 2), .int (r 1), .int (r 0), .ref a]) C h k_F_turned wt_F_turned lk_I_76 (c_F_turned l D T A σ (r 0) (r 1) (r 2) (by simpa [xm0, upd, k_1, k_9, k_17, k_25, k_33] using hk)) rfl rfl ⟨Nat.le_of_ble_eq_true rfl, Nat.le_of_ble_eq_true rfl⟩ rfl hl.1 rfl (Nat.le_of_ble_eq_true rfl) d_I_become_89 ⟨Nat.le_of_ble_eq_true rfl, Nat.le_of_ble_eq_true rfl⟩) (fun r_46 σ_47 H locs hp_48 h => ?_)
  obtain ⟨e_49, es_50⟩ := hp_48
  rw [es_50] at h
  subst e_49
  refine wd_put C h kc_I ha 0 (by decide) lk_I_9 rfl (by rfl) (by rfl) (Nat.le_of_ble_eq_true rfl) d_I_become_92 (fun H locs h => ?_)
  have h : wd_C D T A s H locs (wd_up σ a (.inr (1, [.int (xt (r 0) (r 1) (r 2)), .int (r 1), .int (r 2), .int (r 3), .int (r 4), .int (r 5), .int (r 6), .int (r 7), .int (r 8), .int (r 9), .int (r 10), .int (r 11), .int (r 12), .int (r 13), .int (r 14), .ref w, .ref c]))) := h
  have h_51 : (wd_up σ a (.inr (1, [.int (xt (r 0) (r 1) (r 2)), .int (r 1), .int (r 2), .int (r 3), .int (r 4), .int (r 5), .int (r 6), .int (r 7), .int (r 8), .int (r 9), .int (r 10), .int (r 11), .int (r 12), .int (r 13), .int (r 14), .ref w, .ref c]))) a = some (.inr (1, [.int (xt (r 0) (r 1) (r 2)), .int (r 1), .int (r 2), .int (r 3), .int (r 4), .int (r 5), .int (r 6), .int (r 7), .int (r 8), .int (r 9), .int (r 10), .int (r 11), .int (r 12), .int (r 13), .int (r 14), .ref w, .ref c])) := wd_us _ _ _
  exact wd_vret C hr hlocks h (by rw [show xm r wh v = upd r 0 (xt (r 0) (r 1) (r 2)) from by unfold xm; rw [show xm0 r wh v = r from by simp [xm0, k_1, k_9, k_17, k_25, k_33]]]; rfl) (Nat.le_of_ble_eq_true rfl) (Nat.le_of_ble_eq_true rfl) d_I_become_95

set_option maxHeartbeats 4000000 in
set_option maxRecDepth 20000 in
theorem c_C_part (l : Launch) (D : va_G) (T : Nat → ClassId) (A : Nat → Prop) (σ : wd_S) (a : Nat) (k : Nat → Int32) (ha : σ a = some (xC k)) (wh : Int32) : Met l y_C_part (Cond.code y_C_part b_C_part 2 (some .int) :: wd_tb) { frames := 0, cells := 0, slots := 0, locals := 0 } (va_Pc [.ref a, .int wh] (wd_Pre D T A σ)) (va_Qi (fun r1 σ1 => r1 = xp k wh ∧ σ1 = σ) (wd_B D A) A) 0 0 A := by
  refine wd_ofW (by decide) (Nat.le_of_ble_eq_true rfl) ?_
  intro p e s m below meth c0 ls C hr hlocks hname h hl
  have hl : lv_has ls 2 [(0, .ref a), (1, .int wh)] := hl
  have hx := C.1
  have hb := C.2.1
  refine lv_iload_n hx hb d_C_part_0 rfl (lv_at hl 1 rfl) ?_
  by_cases k_1 : wh = 0
  · refine lv_tableIn (tgt := 36) hx hb d_C_part_1 (by rw [k_1]; decide) (by rw [k_1]; decide) (by rw [k_1]; rfl) (by decide) ?_
    refine lv_aload_n hx hb d_C_part_36 rfl (lv_at hl 0 rfl) ?_
    refine wd_get C h kc_C ha 0 (by decide) lk_C_9 rfl d_C_part_37 ?_
    exact wd_iret C hr hlocks h (⟨by simp [xp, k_1], rfl⟩) (Nat.le_of_ble_eq_true rfl) (Nat.le_of_ble_eq_true rfl) d_C_part_40
  by_cases k_2 : wh = 1
  · refine lv_tableIn (tgt := 41) hx hb d_C_part_1 (by rw [k_2]; decide) (by rw [k_2]; decide) (by rw [k_2]; rfl) (by decide) ?_
    refine lv_aload_n hx hb d_C_part_41 rfl (lv_at hl 0 rfl) ?_
    refine wd_get C h kc_C ha 1 (by decide) lk_C_15 rfl d_C_part_42 ?_
    exact wd_iret C hr hlocks h (⟨by simp [xp, k_2], rfl⟩) (Nat.le_of_ble_eq_true rfl) (Nat.le_of_ble_eq_true rfl) d_C_part_45
  by_cases k_3 : wh = 2
  · refine lv_tableIn (tgt := 46) hx hb d_C_part_1 (by rw [k_3]; decide) (by rw [k_3]; decide) (by rw [k_3]; rfl) (by decide) ?_
    refine lv_aload_n hx hb d_C_part_46 rfl (lv_at hl 0 rfl) ?_
    refine wd_get C h kc_C ha 2 (by decide) lk_C_18 rfl d_C_part_47 ?_
    exact wd_iret C hr hlocks h (⟨by simp [xp, k_3], rfl⟩) (Nat.le_of_ble_eq_true rfl) (Nat.le_of_ble_eq_true rfl) d_C_part_50
  by_cases k_4 : wh = 3
  · refine lv_tableIn (tgt := 51) hx hb d_C_part_1 (by rw [k_4]; decide) (by rw [k_4]; decide) (by rw [k_4]; rfl) (by decide) ?_
    refine lv_aload_n hx hb d_C_part_51 rfl (lv_at hl 0 rfl) ?_
    refine wd_get C h kc_C ha 3 (by decide) lk_C_21 rfl d_C_part_52 ?_
    exact wd_iret C hr hlocks h (⟨by simp [xp, k_4], rfl⟩) (Nat.le_of_ble_eq_true rfl) (Nat.le_of_ble_eq_true rfl) d_C_part_55
  by_cases k_5 : wh = 4
  · refine lv_tableIn (tgt := 56) hx hb d_C_part_1 (by rw [k_5]; decide) (by rw [k_5]; decide) (by rw [k_5]; rfl) (by decide) ?_
    refine lv_aload_n hx hb d_C_part_56 rfl (lv_at hl 0 rfl) ?_
    refine wd_get C h kc_C ha 4 (by decide) lk_C_24 rfl d_C_part_57 ?_
    exact wd_iret C hr hlocks h (⟨by simp [xp, k_5], rfl⟩) (Nat.le_of_ble_eq_true rfl) (Nat.le_of_ble_eq_true rfl) d_C_part_60
  have n_6 := sw_ne k_1 (show ((0 : Int32)).toInt = 0 from by decide)
  have n_7 := sw_ne k_2 (show ((1 : Int32)).toInt = 1 from by decide)
  have n_8 := sw_ne k_3 (show ((2 : Int32)).toInt = 2 from by decide)
  have n_9 := sw_ne k_4 (show ((3 : Int32)).toInt = 3 from by decide)
  have n_10 := sw_ne k_5 (show ((4 : Int32)).toInt = 4 from by decide)
  refine lv_tableOut (tgt := 61) hx hb d_C_part_1 (by omega) (by decide) ?_
  refine lv_iconst (v := (-1)) hx hb d_C_part_61 (by decide) ?_
  exact wd_iret C hr hlocks h (⟨by simp [xp, k_1, k_2, k_3, k_4, k_5], rfl⟩) (Nat.le_of_ble_eq_true rfl) (Nat.le_of_ble_eq_true rfl) d_C_part_62

set_option maxHeartbeats 4000000 in
set_option maxRecDepth 20000 in
theorem c_J_bitCount (l : Launch) (D : va_G) (T : Nat → ClassId) (A : Nat → Prop) (σ : wd_S) (i : Int32) : Met l y_J_bitCount (Cond.code y_J_bitCount b_J_bitCount 1 (some .int) :: wd_tb) { frames := 0, cells := 0, slots := 0, locals := 0 } (va_Pc [.int i] (wd_Pre D T A σ)) (va_Qi (fun r1 σ1 => r1 = bc i ∧ σ1 = σ) (wd_B D A) A) 0 0 A := by
  refine wd_ofW (by decide) (Nat.le_of_ble_eq_true rfl) ?_
  intro p e s m below meth c0 ls C hr hlocks hname h hl
  have hl : lv_has ls 1 [(0, .int i)] := hl
  have hx := C.1
  have hb := C.2.1
  refine lv_iload_n hx hb d_J_bitCount_0 rfl (lv_at hl 0 rfl) ?_
  refine lv_iload_n hx hb d_J_bitCount_1 rfl (lv_at hl 0 rfl) ?_
  refine lv_iconst (v := 1) hx hb d_J_bitCount_2 (by decide) ?_
  refine lv_iushr hx hb d_J_bitCount_3 rfl ?_
  refine lv_ldcw (v := 1431655765) hx hb C.2.2.2.1 (C.2.2.2.2 _ lk_J_265) d_J_bitCount_4 ?_
  refine lv_iand hx hb d_J_bitCount_7 ?_
  refine lv_isub hx hb d_J_bitCount_8 ?_
  refine lv_istore_n (lv' := [(0, .int (bc1 i))]) hx hb d_J_bitCount_9 rfl hl (by decide) rfl (fun ls hl => ?_)
  refine lv_iload_n hx hb d_J_bitCount_10 rfl (lv_at hl 0 rfl) ?_
  refine lv_ldcw (v := 858993459) hx hb C.2.2.2.1 (C.2.2.2.2 _ lk_J_266) d_J_bitCount_11 ?_
  refine lv_iand hx hb d_J_bitCount_14 ?_
  refine lv_iload_n hx hb d_J_bitCount_15 rfl (lv_at hl 0 rfl) ?_
  refine lv_iconst (v := 2) hx hb d_J_bitCount_16 (by decide) ?_
  refine lv_iushr hx hb d_J_bitCount_17 rfl ?_
  refine lv_ldcw (v := 858993459) hx hb C.2.2.2.1 (C.2.2.2.2 _ lk_J_266) d_J_bitCount_18 ?_
  refine lv_iand hx hb d_J_bitCount_21 ?_
  refine lv_iadd hx hb d_J_bitCount_22 ?_
  refine lv_istore_n (lv' := [(0, .int (bc2 (bc1 i)))]) hx hb d_J_bitCount_23 rfl hl (by decide) rfl (fun ls hl => ?_)
  refine lv_iload_n hx hb d_J_bitCount_24 rfl (lv_at hl 0 rfl) ?_
  refine lv_iload_n hx hb d_J_bitCount_25 rfl (lv_at hl 0 rfl) ?_
  refine lv_iconst (v := 4) hx hb d_J_bitCount_26 (by decide) ?_
  refine lv_iushr hx hb d_J_bitCount_27 rfl ?_
  refine lv_iadd hx hb d_J_bitCount_28 ?_
  refine lv_ldcw (v := 252645135) hx hb C.2.2.2.1 (C.2.2.2.2 _ lk_J_267) d_J_bitCount_29 ?_
  refine lv_iand hx hb d_J_bitCount_32 ?_
  refine lv_istore_n (lv' := [(0, .int (bc3 (bc2 (bc1 i))))]) hx hb d_J_bitCount_33 rfl hl (by decide) rfl (fun ls hl => ?_)
  refine lv_iload_n hx hb d_J_bitCount_34 rfl (lv_at hl 0 rfl) ?_
  refine lv_iload_n hx hb d_J_bitCount_35 rfl (lv_at hl 0 rfl) ?_
  refine lv_bipush (v := 8) hx hb d_J_bitCount_36 (by decide) ?_
  refine lv_iushr hx hb d_J_bitCount_38 rfl ?_
  refine lv_iadd hx hb d_J_bitCount_39 ?_
  refine lv_istore_n (lv' := [(0, .int (bc4 (bc3 (bc2 (bc1 i)))))]) hx hb d_J_bitCount_40 rfl hl (by decide) rfl (fun ls hl => ?_)
  refine lv_iload_n hx hb d_J_bitCount_41 rfl (lv_at hl 0 rfl) ?_
  refine lv_iload_n hx hb d_J_bitCount_42 rfl (lv_at hl 0 rfl) ?_
  refine lv_bipush (v := 16) hx hb d_J_bitCount_43 (by decide) ?_
  refine lv_iushr hx hb d_J_bitCount_45 rfl ?_
  refine lv_iadd hx hb d_J_bitCount_46 ?_
  refine lv_istore_n (lv' := [(0, .int (bc5 (bc4 (bc3 (bc2 (bc1 i))))))]) hx hb d_J_bitCount_47 rfl hl (by decide) rfl (fun ls hl => ?_)
  refine lv_iload_n hx hb d_J_bitCount_48 rfl (lv_at hl 0 rfl) ?_
  refine lv_bipush (v := 63) hx hb d_J_bitCount_49 (by decide) ?_
  refine lv_iand hx hb d_J_bitCount_51 ?_
  exact wd_iret C hr hlocks h (⟨rfl, rfl⟩) (Nat.le_of_ble_eq_true rfl) (Nat.le_of_ble_eq_true rfl) d_J_bitCount_52
end
section
/-- the packed bytes q, at a with its array ab; all else is as in σ0 -/
def pz (T : Nat → ClassId) (σ0 σ : wd_S) (a ab : Nat) (q : pq) : Prop := σ a = some (.inr (3, [.ref ab, .int (nI q.2)])) ∧ σ ab = some (.inl (T 0, 30, .inl q.1)) ∧ q.2 ≤ 30 ∧ ∀ b, b ≠ a → b ≠ ab → σ b = σ0 b
theorem pz_lt {n : Nat} (h : n ≤ 30) (hc : ¬ (30 : Int32) ≤ nI n) : n < 30 := by
  rcases Nat.lt_or_ge n 30 with q | q
  · exact q
  · exact absurd (nI_le (a := 30) (b := n) q (by omega)) hc
theorem pz_full {n : Nat} (h : n ≤ 30) (hc : (30 : Int32) ≤ nI n) : n = 30 := by
  rcases Nat.lt_or_ge n 30 with q | q
  · exact absurd hc (nI_ge (a := n) (b := 30) q (by omega))
  · omega
theorem pz_add {T : Nat → ClassId} {σ0 σ : wd_S} {a ab : Nat} {q : pq} (hk : pz T σ0 σ a ab q) (hc : ¬ (30 : Int32) ≤ nI q.2) (v : Int32) : pz T σ0 (wd_up (wd_up σ ab (.inl (T 0, 30, .inl (upd q.1 (nI q.2).toNatClampNeg (v &&& 255))))) a (.inr (3, [.ref ab, .int (nI q.2 + 1)]))) a ab (pa q v) := by
  obtain ⟨h1, h2, h3, h4⟩ := hk
  have hn := pz_lt h3 hc
  have hne : ab ≠ a := wd_ne h2 h1 (by simp)
  rw [show pa q v = (upd q.1 q.2 (v &&& 255), q.2 + 1) from by simp [pa, hc]]
  refine ⟨?_, ?_, hn, fun b hb hb2 => ?_⟩
  · rw [wd_us]
    show some _ = some (Sum.inr (3, [Value.ref ab, Value.int (nI (q.2 + 1))]))
    rw [nI_1]
  · rw [wd_un _ _ hne, wd_us, nI_clamp (by omega)]
  · rw [wd_un _ _ hb, wd_un _ _ hb2]
    exact h4 b hb hb2
theorem pz_zero {T : Nat → ClassId} {σ0 σ : wd_S} {a ab : Nat} {q : pq} (hk : pz T σ0 σ a ab q) : pz T σ0 (wd_up σ a (.inr (3, [.ref ab, .int 0]))) a ab (q.1, 0) := by
  obtain ⟨h1, h2, h3, h4⟩ := hk
  exact ⟨wd_us _ _ _, wd_uk h2 (wd_ne h2 h1 (by simp)), Nat.zero_le _, fun b hb hb2 => (wd_un _ _ hb).trans (h4 b hb hb2)⟩
theorem pz_c {j n : Nat} (hn : n ≤ 30) (hj : j ≤ n) (c : ¬ nI n ≤ nI j) : j < n := by
  rcases Nat.lt_or_ge j n with q | q
  · exact q
  · exact absurd (nI_le q (by omega)) c
theorem pz_d {j n : Nat} (hn : n ≤ 30) (hj : j ≤ n) (c : nI n ≤ nI j) : j = n := by
  rcases Nat.lt_or_ge j n with q | q
  · exact absurd c (nI_ge q (by omega))
  · omega
theorem pz_e {j n : Nat} (hn : n ≤ 30) (hj : j ≤ n) (c : (30 : Int32) ≤ nI j) : j = n := by
  have := pz_full (n := j) (by omega) c
  omega
/-- what a byte of the packed is -/
def xo (q : pq) (i : Int32) : Int32 := if xw i 0 (nI q.2 - 1) = 0 then -1 else if i < 30 then q.1 i.toNatClampNeg else -1
theorem xo_in {q : pq} {i : Int32} (h : ¬ xw i 0 (nI q.2 - 1) = 0) (h2 : i < 30) : vp_in i 30 := by
  have h1 := (xw_out h).1
  rw [Int32.lt_iff_toInt_lt] at h1 h2
  rw [vp_in_iff]
  have e0 : (0 : Int32).toInt = 0 := rfl
  have e3 : (30 : Int32).toInt = 30 := rfl
  omega
section DIA
variable {p : Program} {l : Launch} {e : Env} {R : Room} {s : State} {m : MethodId} {args : Array Value} {below : List Frame} {meth : Method} {c : Code} {H : Heap} {locs : List Loc} {cells slots : Nat} {Q : State → Prop}
/-- two ways that meet again, with a number on the stack -/
theorem dia (x : Int32) {z1 z2 : Int32} {g : JFrame} (gT : Int32 → JFrame) (h1 : x = 0 → W p l e R s m args below meth c H locs cells slots Q (gT z1) → W p l e R s m args below meth c H locs cells slots Q g) (h2 : ¬ x = 0 → W p l e R s m args below meth c H locs cells slots Q (gT z2) → W p l e R s m args below meth c H locs cells slots Q g) (k : W p l e R s m args below meth c H locs cells slots Q (gT (if x = 0 then z1 else z2))) : W p l e R s m args below meth c H locs cells slots Q g := by
  by_cases hx : x = 0
  · rw [if_pos hx] at k
    exact h1 hx k
  · rw [if_neg hx] at k
    exact h2 hx k
end DIA
set_option maxHeartbeats 4000000 in
set_option maxRecDepth 20000 in
theorem c_P_add (l : Launch) (D : va_G) (T : Nat → ClassId) (A : Nat → Prop) (σ : wd_S) (σ0 : wd_S) (a ab : Nat) (q : pq) (hk : pz T σ0 σ a ab q) (v : Int32) : Met l y_P_add (Cond.code y_P_add b_P_add 2 none :: wd_tb) { frames := 0, cells := 0, slots := 0, locals := 0 } (va_Pc [.ref a, .int v] (wd_Pre D T A σ)) (va_Qv (fun σ1 => pz T σ0 σ1 a ab (pa q v)) (wd_B D A) A) 0 0 A := by
  refine wd_ofW (by decide) (Nat.le_of_ble_eq_true rfl) ?_
  intro p e s m below meth c0 ls C hr hlocks hname h hl
  have hl : lv_has ls 2 [(0, .ref a), (1, .int v)] := hl
  have hx := C.1
  have hb := C.2.1
  refine lv_aload_n hx hb d_P_add_0 rfl (lv_at hl 0 rfl) ?_
  refine wd_get C h kc_P hk.1 1 (by decide) lk_P_15 rfl d_P_add_1 ?_
  refine lv_bipush (v := 30) hx hb d_P_add_4 (by decide) ?_
  refine lv_icmp_ge (tgt := 33) hx hb d_P_add_6 (by decide) (fun c_1 => ?_) (fun c_1 => ?_)
  · exact wd_vret C hr hlocks h (by simpa [pa, c_1] using hk) (Nat.le_of_ble_eq_true rfl) (Nat.le_of_ble_eq_true rfl) d_P_add_33
  · refine lv_aload_n hx hb d_P_add_9 rfl (lv_at hl 0 rfl) ?_
    refine wd_get C h kc_P hk.1 0 (by decide) lk_P_11 rfl d_P_add_10 ?_
    refine lv_aload_n hx hb d_P_add_13 rfl (lv_at hl 0 rfl) ?_
    refine wd_get C h kc_P hk.1 1 (by decide) lk_P_15 rfl d_P_add_14 ?_
    refine lv_iload_n hx hb d_P_add_17 rfl (lv_at hl 1 rfl) ?_
    refine lv_sipush (v := 255) hx hb d_P_add_18 (by decide) ?_
    refine lv_iand hx hb d_P_add_21 ?_
    refine wd_iast C h 0 rfl hk.2.1 (vp_in_nI (pz_lt hk.2.2.1 c_1) (by decide)) d_P_add_22 (fun H locs h => ?_)
    have h : wd_C D T A s H locs (wd_up σ ab (.inl (T 0, 30, .inl (upd q.1 (nI q.2).toNatClampNeg (v &&& 255))))) := h
    have h_2 : (wd_up σ ab (.inl (T 0, 30, .inl (upd q.1 (nI q.2).toNatClampNeg (v &&& 255))))) ab = some (.inl (T 0, 30, .inl (upd q.1 (nI q.2).toNatClampNeg (v &&& 255)))) := wd_us _ _ _
    have h_3 : (wd_up σ ab (.inl (T 0, 30, .inl (upd q.1 (nI q.2).toNatClampNeg (v &&& 255))))) a = some (.inr (3, [.ref ab, .int (nI q.2)])) := wd_uk hk.1 (wd_ne hk.1 hk.2.1 (by simp))
    refine lv_aload_n hx hb d_P_add_23 rfl (lv_at hl 0 rfl) ?_
    refine lv_dup hx hb d_P_add_24 rfl ?_
    refine wd_get C h kc_P h_3 1 (by decide) lk_P_15 rfl d_P_add_25 ?_
    refine lv_iconst (v := 1) hx hb d_P_add_28 (by decide) ?_
    refine lv_iadd hx hb d_P_add_29 ?_
    refine wd_put C h kc_P h_3 1 (by decide) lk_P_15 rfl (by rfl) (by rfl) (Nat.le_of_ble_eq_true rfl) d_P_add_30 (fun H locs h => ?_)
    have h : wd_C D T A s H locs (wd_up (wd_up σ ab (.inl (T 0, 30, .inl (upd q.1 (nI q.2).toNatClampNeg (v &&& 255))))) a (.inr (3, [.ref ab, .int ((nI q.2) + 1)]))) := h
    have h_4 : (wd_up (wd_up σ ab (.inl (T 0, 30, .inl (upd q.1 (nI q.2).toNatClampNeg (v &&& 255))))) a (.inr (3, [.ref ab, .int ((nI q.2) + 1)]))) a = some (.inr (3, [.ref ab, .int ((nI q.2) + 1)])) := wd_us _ _ _
    have h_5 : (wd_up (wd_up σ ab (.inl (T 0, 30, .inl (upd q.1 (nI q.2).toNatClampNeg (v &&& 255))))) a (.inr (3, [.ref ab, .int ((nI q.2) + 1)]))) ab = some (.inl (T 0, 30, .inl (upd q.1 (nI q.2).toNatClampNeg (v &&& 255)))) := wd_uk h_2 (wd_ne h_2 h_3 (by simp))
    exact wd_vret C hr hlocks h (pz_add hk c_1 v) (Nat.le_of_ble_eq_true rfl) (Nat.le_of_ble_eq_true rfl) d_P_add_33

set_option maxHeartbeats 4000000 in
set_option maxRecDepth 20000 in
theorem c_P_addTwo (l : Launch) (D : va_G) (T : Nat → ClassId) (A : Nat → Prop) (σ : wd_S) (σ0 : wd_S) (a ab : Nat) (q : pq) (hk : pz T σ0 σ a ab q) (v : Int32) : Met l y_P_addTwo (Cond.code y_P_addTwo b_P_addTwo 2 none :: wd_tb) { frames := 1, cells := 0, slots := 0, locals := 21 } (va_Pc [.ref a, .int v] (wd_Pre D T A σ)) (va_Qv (fun σ1 => pz T σ0 σ1 a ab (p2 q v)) (wd_B D A) A) 0 0 A := by
  refine wd_ofW (by decide) (Nat.le_of_ble_eq_true rfl) ?_
  intro p e s m below meth c0 ls C hr hlocks hname h hl
  have hl : lv_has ls 2 [(0, .ref a), (1, .int v)] := hl
  have hx := C.1
  have hb := C.2.1
  refine lv_aload_n hx hb d_P_addTwo_0 rfl (lv_at hl 0 rfl) ?_
  refine lv_iload_n hx hb d_P_addTwo_1 rfl (lv_at hl 1 rfl) ?_
  refine lv_bipush (v := 8) hx hb d_P_addTwo_2 (by decide) ?_
  refine lv_ishr hx hb d_P_addTwo_4 ?_
  refine wd_cv h (wd_rV (rest := []) (st0 := [.int (v >>> (8 &&& 31)), .ref a]) C h kc_P hk.1 k_P_add wm_P_add wz_P_add lk_P_35 (c_P_add l D T A σ σ0 a ab q hk (v >>> (8 &&& 31))) rfl rfl ⟨Nat.le_of_ble_eq_true rfl, Nat.le_of_ble_eq_true rfl⟩ rfl hl.1 rfl (Nat.le_of_ble_eq_true rfl) d_P_addTwo_5 ⟨Nat.le_of_ble_eq_true rfl, Nat.le_of_ble_eq_true rfl⟩) (fun σ_2 H locs hp_3 h => ?_)
  refine lv_aload_n hx hb d_P_addTwo_8 rfl (lv_at hl 0 rfl) ?_
  refine lv_iload_n hx hb d_P_addTwo_9 rfl (lv_at hl 1 rfl) ?_
  refine wd_cv h (wd_rV (rest := []) (st0 := [.int v, .ref a]) C h kc_P hp_3.1 k_P_add wm_P_add wz_P_add lk_P_35 (c_P_add l D T A σ_2 σ0 a ab (pa q (v >>> (8 &&& 31))) hp_3 v) rfl rfl ⟨Nat.le_of_ble_eq_true rfl, Nat.le_of_ble_eq_true rfl⟩ rfl hl.1 rfl (Nat.le_of_ble_eq_true rfl) d_P_addTwo_10 ⟨Nat.le_of_ble_eq_true rfl, Nat.le_of_ble_eq_true rfl⟩) (fun σ_5 H locs hp_6 h => ?_)
  exact wd_vret C hr hlocks h (hp_6) (Nat.le_of_ble_eq_true rfl) (Nat.le_of_ble_eq_true rfl) d_P_addTwo_13

set_option maxHeartbeats 4000000 in
set_option maxRecDepth 20000 in
theorem c_P_addEntry (l : Launch) (D : va_G) (T : Nat → ClassId) (A : Nat → Prop) (σ : wd_S) (σ0 : wd_S) (a ab : Nat) (q : pq) (hk : pz T σ0 σ a ab q) (v : Int32) : Met l y_P_addEntry (Cond.code y_P_addEntry b_P_addEntry 2 none :: wd_tb) { frames := 2, cells := 0, slots := 0, locals := 42 } (va_Pc [.ref a, .int v] (wd_Pre D T A σ)) (va_Qv (fun σ1 => pz T σ0 σ1 a ab (pe q v)) (wd_B D A) A) 0 0 A := by
  refine wd_ofW (by decide) (Nat.le_of_ble_eq_true rfl) ?_
  intro p e s m below meth c0 ls C hr hlocks hname h hl
  have hl : lv_has ls 2 [(0, .ref a), (1, .int v)] := hl
  have hx := C.1
  have hb := C.2.1
  refine lv_aload_n hx hb d_P_addEntry_0 rfl (lv_at hl 0 rfl) ?_
  refine lv_iload_n hx hb d_P_addEntry_1 rfl (lv_at hl 1 rfl) ?_
  refine lv_iconst (v := (-1)) hx hb d_P_addEntry_2 (by decide) ?_
  refine lv_icmp_ne (tgt := 11) hx hb d_P_addEntry_3 (by decide) (fun c_1 => ?_) (fun c_1 => ?_)
  · refine lv_iload_n hx hb d_P_addEntry_11 rfl (lv_at hl 1 rfl) ?_
    refine wd_cv h (wd_rV (rest := []) (st0 := [.int v, .ref a]) C h kc_P hk.1 k_P_addTwo wm_P_addTwo wz_P_addTwo lk_P_23 (c_P_addTwo l D T A σ σ0 a ab q hk v) rfl rfl ⟨Nat.le_of_ble_eq_true rfl, Nat.le_of_ble_eq_true rfl⟩ rfl hl.1 rfl (Nat.le_of_ble_eq_true rfl) d_P_addEntry_12 ⟨Nat.le_of_ble_eq_true rfl, Nat.le_of_ble_eq_true rfl⟩) (fun σ_3 H locs hp_4 h => ?_)
    exact wd_vret C hr hlocks h (by simpa [pe, c_1] using hp_4) (Nat.le_of_ble_eq_true rfl) (Nat.le_of_ble_eq_true rfl) d_P_addEntry_15
  · refine lv_ldc (v := 65535) hx hb C.2.2.2.1 (C.2.2.2.2 _ lk_P_76) d_P_addEntry_6 ?_
    refine lv_goto (tgt := 12) hx hb d_P_addEntry_8 (by decide) ?_
    refine wd_cv h (wd_rV (rest := []) (st0 := [.int 65535, .ref a]) C h kc_P hk.1 k_P_addTwo wm_P_addTwo wz_P_addTwo lk_P_23 (c_P_addTwo l D T A σ σ0 a ab q hk 65535) rfl rfl ⟨Nat.le_of_ble_eq_true rfl, Nat.le_of_ble_eq_true rfl⟩ rfl hl.1 rfl (Nat.le_of_ble_eq_true rfl) d_P_addEntry_12 ⟨Nat.le_of_ble_eq_true rfl, Nat.le_of_ble_eq_true rfl⟩) (fun σ_6 H locs hp_7 h => ?_)
    exact wd_vret C hr hlocks h (by simpa [pe, c_1] using hp_7) (Nat.le_of_ble_eq_true rfl) (Nat.le_of_ble_eq_true rfl) d_P_addEntry_15

set_option maxHeartbeats 4000000 in
set_option maxRecDepth 20000 in
theorem c_P_at (l : Launch) (D : va_G) (T : Nat → ClassId) (A : Nat → Prop) (σ : wd_S) (σ0 : wd_S) (a ab : Nat) (q : pq) (hk : pz T σ0 σ a ab q) (i : Int32) : Met l y_P_at (Cond.code y_P_at b_P_at 2 (some .int) :: wd_tb) { frames := 1, cells := 0, slots := 0, locals := 22 } (va_Pc [.ref a, .int i] (wd_Pre D T A σ)) (va_Qi (fun r1 σ1 => r1 = xo q i ∧ σ1 = σ) (wd_B D A) A) 0 0 A := by
  refine wd_ofW (by decide) (Nat.le_of_ble_eq_true rfl) ?_
  intro p e s m below meth c0 ls C hr hlocks hname h hl
  have hl : lv_has ls 2 [(0, .ref a), (1, .int i)] := hl
  have hx := C.1
  have hb := C.2.1
  refine lv_iload_n hx hb d_P_at_0 rfl (lv_at hl 1 rfl) ?_
  refine lv_iconst (v := 0) hx hb d_P_at_1 (by decide) ?_
  refine lv_aload_n hx hb d_P_at_2 rfl (lv_at hl 0 rfl) ?_
  refine wd_get C h kc_P hk.1 1 (by decide) lk_P_15 rfl d_P_at_3 ?_
  refine lv_iconst (v := 1) hx hb d_P_at_6 (by decide) ?_
  refine lv_isub hx hb d_P_at_7 ?_
  refine wd_ci h (wd_rSN (rest := []) (st0 := [.int ((nI q.2) - 1), .int 0, .int i]) C h k_F_within wt_F_within lk_P_19 (c_F_within l D T A σ i 0 ((nI q.2) - 1)) rfl rfl ⟨Nat.le_of_ble_eq_true rfl, Nat.le_of_ble_eq_true rfl⟩ rfl hl.1 rfl (Nat.le_of_ble_eq_true rfl) d_P_at_8 ⟨Nat.le_of_ble_eq_true rfl, Nat.le_of_ble_eq_true rfl⟩) (fun r_1 σ_2 H locs hp_3 h => ?_)
  obtain ⟨e_4, es_5⟩ := hp_3
  rw [es_5] at h
  subst e_4
  refine lv_if_eq (tgt := 20) hx hb d_P_at_11 (by decide) (fun c_6 => ?_) (fun c_6 => ?_)
  · refine lv_iconst (v := (-1)) hx hb d_P_at_20 (by decide) ?_
    exact wd_iret C hr hlocks h (⟨by simp [xo, c_6], rfl⟩) (Nat.le_of_ble_eq_true rfl) (Nat.le_of_ble_eq_true rfl) d_P_at_21
  · refine lv_iload_n hx hb d_P_at_14 rfl (lv_at hl 1 rfl) ?_
    refine lv_bipush (v := 30) hx hb d_P_at_15 (by decide) ?_
    refine lv_icmp_lt (tgt := 22) hx hb d_P_at_17 (by decide) (fun c_7 => ?_) (fun c_7 => ?_)
    · refine lv_aload_n hx hb d_P_at_22 rfl (lv_at hl 0 rfl) ?_
      refine wd_get C h kc_P hk.1 0 (by decide) lk_P_11 rfl d_P_at_23 ?_
      refine lv_iload_n hx hb d_P_at_26 rfl (lv_at hl 1 rfl) ?_
      refine wd_iald C h 0 rfl hk.2.1 (xo_in c_6 c_7) d_P_at_27 ?_
      exact wd_iret C hr hlocks h (⟨by simp [xo, c_6, c_7], rfl⟩) (Nat.le_of_ble_eq_true rfl) (Nat.le_of_ble_eq_true rfl) d_P_at_28
    · refine lv_iconst (v := (-1)) hx hb d_P_at_20 (by decide) ?_
      exact wd_iret C hr hlocks h (⟨by simp [xo, c_6, c_7], rfl⟩) (Nat.le_of_ble_eq_true rfl) (Nat.le_of_ble_eq_true rfl) d_P_at_21

set_option maxHeartbeats 4000000 in
set_option maxRecDepth 20000 in
theorem c_P_xorOfAll (l : Launch) (D : va_G) (T : Nat → ClassId) (A : Nat → Prop) (σ : wd_S) (σ0 : wd_S) (a ab : Nat) (q : pq) (hk : pz T σ0 σ a ab q) : Met l y_P_xorOfAll (Cond.code y_P_xorOfAll b_P_xorOfAll 3 (some .int) :: wd_tb) { frames := 0, cells := 0, slots := 0, locals := 0 } (va_Pc [.ref a] (wd_Pre D T A σ)) (va_Qi (fun r1 σ1 => r1 = px q.1 q.2 ∧ σ1 = σ) (wd_B D A) A) 0 0 A := by
  refine wd_ofW (by decide) (Nat.le_of_ble_eq_true rfl) ?_
  intro p e s m below meth c0 ls C hr hlocks hname h hl
  have hl : lv_has ls 3 [(0, .ref a)] := hl
  have hx := C.1
  have hb := C.2.1
  refine lv_iconst (v := 0) hx hb d_P_xorOfAll_0 (by decide) ?_
  refine lv_istore_n (lv' := [(1, .int 0), (0, .ref a)]) hx hb d_P_xorOfAll_1 rfl hl (by decide) rfl (fun ls hl => ?_)
  refine lv_iconst (v := 0) hx hb d_P_xorOfAll_2 (by decide) ?_
  refine lv_istore_n (lv' := [(2, .int 0), (1, .int 0), (0, .ref a)]) hx hb d_P_xorOfAll_3 rfl hl (by decide) rfl (fun ls hl => ?_)
  have hl2 : ∃ j : Nat, j ≤ q.2 ∧ lv_has ls 3 [(2, .int (nI j)), (1, .int (px q.1 j)), (0, .ref a)] := ⟨0, Nat.zero_le _, lv_sub hl [0, 1, 2] rfl⟩
  clear hl
  obtain ⟨j, hj, hl⟩ := hl2
  obtain ⟨n, hn⟩ : ∃ n : Nat, q.2 < j + n := ⟨q.2 + 1, by omega⟩
  induction n generalizing j ls with
  | zero => omega
  | succ n ih =>
    refine lv_iload_n hx hb d_P_xorOfAll_4 rfl (lv_at hl 0 rfl) ?_
    refine lv_aload_n hx hb d_P_xorOfAll_5 rfl (lv_at hl 2 rfl) ?_
    refine wd_get C h kc_P hk.1 1 (by decide) lk_P_15 rfl d_P_xorOfAll_6 ?_
    refine lv_icmp_ge (tgt := 33) hx hb d_P_xorOfAll_9 (by decide) (fun c_1 => ?_) (fun c_1 => ?_)
    · refine lv_iload_n hx hb d_P_xorOfAll_33 rfl (lv_at hl 1 rfl) ?_
      exact wd_iret C hr hlocks h (⟨by rw [pz_d hk.2.2.1 hj c_1], rfl⟩) (Nat.le_of_ble_eq_true rfl) (Nat.le_of_ble_eq_true rfl) d_P_xorOfAll_34
    · refine lv_iload_n hx hb d_P_xorOfAll_12 rfl (lv_at hl 0 rfl) ?_
      refine lv_bipush (v := 30) hx hb d_P_xorOfAll_13 (by decide) ?_
      refine lv_icmp_ge (tgt := 33) hx hb d_P_xorOfAll_15 (by decide) (fun c_2 => ?_) (fun c_2 => ?_)
      · refine lv_iload_n hx hb d_P_xorOfAll_33 rfl (lv_at hl 1 rfl) ?_
        exact wd_iret C hr hlocks h (⟨by rw [pz_e hk.2.2.1 hj c_2], rfl⟩) (Nat.le_of_ble_eq_true rfl) (Nat.le_of_ble_eq_true rfl) d_P_xorOfAll_34
      · refine lv_iload_n hx hb d_P_xorOfAll_18 rfl (lv_at hl 1 rfl) ?_
        refine lv_aload_n hx hb d_P_xorOfAll_19 rfl (lv_at hl 2 rfl) ?_
        refine wd_get C h kc_P hk.1 0 (by decide) lk_P_11 rfl d_P_xorOfAll_20 ?_
        refine lv_iload_n hx hb d_P_xorOfAll_23 rfl (lv_at hl 0 rfl) ?_
        refine wd_iald C h 0 rfl hk.2.1 (vp_in_nI (Nat.lt_of_lt_of_le (pz_c hk.2.2.1 hj c_1) hk.2.2.1) (by decide)) d_P_xorOfAll_24 ?_
        refine lv_ixor hx hb d_P_xorOfAll_25 ?_
        refine lv_istore_n (lv' := [(1, .int ((px q.1 j) ^^^ (q.1 (nI j).toNatClampNeg))), (2, .int (nI j)), (0, .ref a)]) hx hb d_P_xorOfAll_26 rfl hl (by decide) rfl (fun ls hl => ?_)
        refine lv_iinc (v := ((nI j) + 1)) (lv' := [(2, .int ((nI j) + 1)), (1, .int ((px q.1 j) ^^^ (q.1 (nI j).toNatClampNeg))), (0, .ref a)]) hx hb d_P_xorOfAll_27 hl (k := 1) rfl (by first | rfl | decide) (by decide) rfl (fun ls hl => ?_)
        refine lv_goto (tgt := 4) hx hb d_P_xorOfAll_30 (by decide) ?_
        have hlt := pz_c hk.2.2.1 hj c_1
        have hj30 := hk.2.2.1
        have hl3 : lv_has ls 3 [(2, .int (nI (j + 1))), (1, .int (px q.1 (j + 1))), (0, .ref a)] := by
          have h9 := lv_sub (l' := [(2, .int (nI j + 1)), (1, .int (px q.1 j ^^^ q.1 (nI j).toNatClampNeg)), (0, .ref a)]) hl [0, 1, 2] rfl
          rw [nI_1, nI_clamp (by omega)] at h9
          exact h9
        exact ih ls (j + 1) hlt hl3 (by omega)

set_option maxHeartbeats 4000000 in
set_option maxRecDepth 20000 in
theorem c_P_fill (l : Launch) (D : va_G) (T : Nat → ClassId) (A : Nat → Prop) (σ : wd_S) (σ0 : wd_S) (a ab : Nat) (q : pq) (hk : pz T σ0 σ a ab q) (i w c : Nat) (r : Nat → Int32) (hi0 : σ0 i = some (xI r w c)) (hw0 : σ0 w = some (.inl (T 0, 4, .inl (fun j => r (15 + 2 * j))))) (hc0 : σ0 c = some (.inl (T 0, 4, .inl (fun j => r (16 + 2 * j))))) (ni1 : i ≠ a) (ni2 : i ≠ ab) (nw1 : w ≠ a) (nw2 : w ≠ ab) (nc1 : c ≠ a) (nc2 : c ≠ ab) (num : Int32) : Met l y_P_fill (Cond.code y_P_fill b_P_fill 4 none :: wd_tb) { frames := 3, cells := 0, slots := 0, locals := 63 } (va_Pc [.ref a, .int num, .ref i] (wd_Pre D T A σ)) (va_Qv (fun σ1 => pz T σ0 σ1 a ab (pf q.1 num r)) (wd_B D A) A) 0 0 A := by
  refine wd_ofW (by decide) (Nat.le_of_ble_eq_true rfl) ?_
  intro p e s m below meth c0 ls C hr hlocks hname h hl
  have hl : lv_has ls 4 [(0, .ref a), (1, .int num), (2, .ref i)] := hl
  have hx := C.1
  have hb := C.2.1
  have hi := (hk.2.2.2 i ni1 ni2).trans hi0
  have hw := (hk.2.2.2 w nw1 nw2).trans hw0
  have hc := (hk.2.2.2 c nc1 nc2).trans hc0
  refine lv_aload_n hx hb d_P_fill_0 rfl (lv_at hl 0 rfl) ?_
  refine lv_iconst (v := 0) hx hb d_P_fill_1 (by decide) ?_
  refine wd_put C h kc_P hk.1 1 (by decide) lk_P_15 rfl (by rfl) (by rfl) (Nat.le_of_ble_eq_true rfl) d_P_fill_2 (fun H locs h => ?_)
  have h : wd_C D T A s H locs (wd_up σ a (.inr (3, [.ref ab, .int 0]))) := h
  have h_1 : (wd_up σ a (.inr (3, [.ref ab, .int 0]))) a = some (.inr (3, [.ref ab, .int 0])) := wd_us _ _ _
  have h_2 : (wd_up σ a (.inr (3, [.ref ab, .int 0]))) ab = some (.inl (T 0, 30, .inl q.1)) := wd_uk hk.2.1 (wd_ne hk.2.1 hk.1 (by simp))
  have h_3 : (wd_up σ a (.inr (3, [.ref ab, .int 0]))) i = some (xI r w c) := wd_uk hi (wd_ne hi hk.1 (by simp))
  have h_4 : (wd_up σ a (.inr (3, [.ref ab, .int 0]))) w = some (.inl (T 0, 4, .inl (fun j => r (15 + 2 * j)))) := wd_uk hw (wd_ne hw hk.1 (by simp))
  have h_5 : (wd_up σ a (.inr (3, [.ref ab, .int 0]))) c = some (.inl (T 0, 4, .inl (fun j => r (16 + 2 * j)))) := wd_uk hc (wd_ne hc hk.1 (by simp))
  have hk1 := pz_zero hk
  refine lv_aload_n hx hb d_P_fill_5 rfl (lv_at hl 0 rfl) ?_
  refine lv_iload_n hx hb d_P_fill_6 rfl (lv_at hl 1 rfl) ?_
  refine wd_cv h (wd_rV (rest := []) (st0 := [.int num, .ref a]) C h kc_P hk1.1 k_P_addTwo wm_P_addTwo wz_P_addTwo lk_P_23 (c_P_addTwo l D T A (wd_up σ a (.inr (3, [.ref ab, .int 0]))) σ0 a ab (q.1, 0) hk1 num) rfl rfl ⟨Nat.le_of_ble_eq_true rfl, Nat.le_of_ble_eq_true rfl⟩ rfl hl.1 rfl (Nat.le_of_ble_eq_true rfl) d_P_fill_7 ⟨Nat.le_of_ble_eq_true rfl, Nat.le_of_ble_eq_true rfl⟩) (fun σ_7 H locs hp_8 h => ?_)
  generalize hq_q_9 : (p2 (q.1, 0) num) = q_9 at hp_8
  have hi_10 : σ_7 i = some (xI r w c) := (hp_8.2.2.2 i ni1 ni2).trans hi0
  have hi_11 : σ_7 w = some (.inl (T 0, 4, .inl (fun j => r (15 + 2 * j)))) := (hp_8.2.2.2 w nw1 nw2).trans hw0
  have hi_12 : σ_7 c = some (.inl (T 0, 4, .inl (fun j => r (16 + 2 * j)))) := (hp_8.2.2.2 c nc1 nc2).trans hc0
  refine lv_aload_n hx hb d_P_fill_10 rfl (lv_at hl 0 rfl) ?_
  refine lv_aload_n hx hb d_P_fill_11 rfl (lv_at hl 2 rfl) ?_
  refine wd_getN C h kc_I hi_10 0 (by decide) lk_P_27 rfl d_P_fill_12 ?_
  refine lv_bipush (v := 16) hx hb d_P_fill_15 (by decide) ?_
  refine lv_aload_n hx hb d_P_fill_17 rfl (lv_at hl 2 rfl) ?_
  refine wd_getN C h kc_I hi_10 2 (by decide) lk_P_32 rfl d_P_fill_18 ?_
  refine lv_imul hx hb d_P_fill_21 ?_
  refine lv_iadd hx hb d_P_fill_22 ?_
  refine wd_cv h (wd_rV (rest := []) (st0 := [.int ((r 0) + (16 * (r 2))), .ref a]) C h kc_P hp_8.1 k_P_add wm_P_add wz_P_add lk_P_35 (c_P_add l D T A σ_7 σ0 a ab q_9 hp_8 ((r 0) + (16 * (r 2)))) rfl rfl ⟨Nat.le_of_ble_eq_true rfl, Nat.le_of_ble_eq_true rfl⟩ rfl hl.1 rfl (Nat.le_of_ble_eq_true rfl) d_P_fill_23 ⟨Nat.le_of_ble_eq_true rfl, Nat.le_of_ble_eq_true rfl⟩) (fun σ_14 H locs hp_15 h => ?_)
  generalize hq_q_16 : (pa q_9 ((r 0) + (16 * (r 2)))) = q_16 at hp_15
  have hi_17 : σ_14 i = some (xI r w c) := (hp_15.2.2.2 i ni1 ni2).trans hi0
  have hi_18 : σ_14 w = some (.inl (T 0, 4, .inl (fun j => r (15 + 2 * j)))) := (hp_15.2.2.2 w nw1 nw2).trans hw0
  have hi_19 : σ_14 c = some (.inl (T 0, 4, .inl (fun j => r (16 + 2 * j)))) := (hp_15.2.2.2 c nc1 nc2).trans hc0
  refine lv_aload_n hx hb d_P_fill_26 rfl (lv_at hl 0 rfl) ?_
  refine lv_aload_n hx hb d_P_fill_27 rfl (lv_at hl 2 rfl) ?_
  refine wd_getN C h kc_I hi_17 1 (by decide) lk_P_38 rfl d_P_fill_28 ?_
  refine wd_cv h (wd_rV (rest := []) (st0 := [.int (r 1), .ref a]) C h kc_P hp_15.1 k_P_addTwo wm_P_addTwo wz_P_addTwo lk_P_23 (c_P_addTwo l D T A σ_14 σ0 a ab q_16 hp_15 (r 1)) rfl rfl ⟨Nat.le_of_ble_eq_true rfl, Nat.le_of_ble_eq_true rfl⟩ rfl hl.1 rfl (Nat.le_of_ble_eq_true rfl) d_P_fill_31 ⟨Nat.le_of_ble_eq_true rfl, Nat.le_of_ble_eq_true rfl⟩) (fun σ_21 H locs hp_22 h => ?_)
  generalize hq_q_23 : (p2 q_16 (r 1)) = q_23 at hp_22
  have hi_24 : σ_21 i = some (xI r w c) := (hp_22.2.2.2 i ni1 ni2).trans hi0
  have hi_25 : σ_21 w = some (.inl (T 0, 4, .inl (fun j => r (15 + 2 * j)))) := (hp_22.2.2.2 w nw1 nw2).trans hw0
  have hi_26 : σ_21 c = some (.inl (T 0, 4, .inl (fun j => r (16 + 2 * j)))) := (hp_22.2.2.2 c nc1 nc2).trans hc0
  refine lv_aload_n hx hb d_P_fill_34 rfl (lv_at hl 0 rfl) ?_
  refine lv_aload_n hx hb d_P_fill_35 rfl (lv_at hl 2 rfl) ?_
  refine wd_getN C h kc_I hi_24 4 (by decide) lk_P_41 rfl d_P_fill_36 ?_
  refine wd_cv h (wd_rV (rest := []) (st0 := [.int (r 4), .ref a]) C h kc_P hp_22.1 k_P_add wm_P_add wz_P_add lk_P_35 (c_P_add l D T A σ_21 σ0 a ab q_23 hp_22 (r 4)) rfl rfl ⟨Nat.le_of_ble_eq_true rfl, Nat.le_of_ble_eq_true rfl⟩ rfl hl.1 rfl (Nat.le_of_ble_eq_true rfl) d_P_fill_39 ⟨Nat.le_of_ble_eq_true rfl, Nat.le_of_ble_eq_true rfl⟩) (fun σ_28 H locs hp_29 h => ?_)
  generalize hq_q_30 : (pa q_23 (r 4)) = q_30 at hp_29
  have hi_31 : σ_28 i = some (xI r w c) := (hp_29.2.2.2 i ni1 ni2).trans hi0
  have hi_32 : σ_28 w = some (.inl (T 0, 4, .inl (fun j => r (15 + 2 * j)))) := (hp_29.2.2.2 w nw1 nw2).trans hw0
  have hi_33 : σ_28 c = some (.inl (T 0, 4, .inl (fun j => r (16 + 2 * j)))) := (hp_29.2.2.2 c nc1 nc2).trans hc0
  refine lv_aload_n hx hb d_P_fill_42 rfl (lv_at hl 0 rfl) ?_
  refine lv_aload_n hx hb d_P_fill_43 rfl (lv_at hl 2 rfl) ?_
  refine wd_getN C h kc_I hi_31 6 (by decide) lk_P_44 rfl d_P_fill_44 ?_
  refine dia (r 6) (z1 := r 5) (z2 := r 5 + 128) (fun z => F0 m 65 ls [.int z, .ref a]) (fun hc kk => ?_) (fun hc kk => ?_) ?_
  · refine lv_if_eq (tgt := 61) hx hb d_P_fill_47 (by decide) (fun _ => ?_) (fun z => absurd hc z)
    refine lv_aload_n hx hb d_P_fill_61 rfl (lv_at hl 2 rfl) ?_
    refine wd_getN C h kc_I hi_31 5 (by decide) lk_P_48 rfl d_P_fill_62 ?_
    exact kk
  · refine lv_if_eq (tgt := 61) hx hb d_P_fill_47 (by decide) (fun z => absurd z hc) (fun _ => ?_)
    refine lv_aload_n hx hb d_P_fill_50 rfl (lv_at hl 2 rfl) ?_
    refine wd_getN C h kc_I hi_31 5 (by decide) lk_P_48 rfl d_P_fill_51 ?_
    refine lv_sipush (v := 128) hx hb d_P_fill_54 (by decide) ?_
    refine lv_iadd hx hb d_P_fill_57 ?_
    refine lv_goto (tgt := 65) hx hb d_P_fill_58 (by decide) ?_
    exact kk
  refine wd_cv h (wd_rV (rest := []) (st0 := [.int (if r 6 = 0 then r 5 else r 5 + 128), .ref a]) C h kc_P hp_29.1 k_P_add wm_P_add wz_P_add lk_P_35 (c_P_add l D T A σ_28 σ0 a ab q_30 hp_29 (if r 6 = 0 then r 5 else r 5 + 128)) rfl rfl ⟨Nat.le_of_ble_eq_true rfl, Nat.le_of_ble_eq_true rfl⟩ rfl hl.1 rfl (Nat.le_of_ble_eq_true rfl) d_P_fill_65 ⟨Nat.le_of_ble_eq_true rfl, Nat.le_of_ble_eq_true rfl⟩) (fun σ_35 H locs hp_36 h => ?_)
  generalize hq_q_37 : (pa q_30 (if r 6 = 0 then r 5 else r 5 + 128)) = q_37 at hp_36
  have hi_38 : σ_35 i = some (xI r w c) := (hp_36.2.2.2 i ni1 ni2).trans hi0
  have hi_39 : σ_35 w = some (.inl (T 0, 4, .inl (fun j => r (15 + 2 * j)))) := (hp_36.2.2.2 w nw1 nw2).trans hw0
  have hi_40 : σ_35 c = some (.inl (T 0, 4, .inl (fun j => r (16 + 2 * j)))) := (hp_36.2.2.2 c nc1 nc2).trans hc0
  refine lv_aload_n hx hb d_P_fill_68 rfl (lv_at hl 0 rfl) ?_
  refine lv_aload_n hx hb d_P_fill_69 rfl (lv_at hl 2 rfl) ?_
  refine wd_getN C h kc_I hi_38 7 (by decide) lk_P_51 rfl d_P_fill_70 ?_
  refine wd_cv h (wd_rV (rest := []) (st0 := [.int (r 7), .ref a]) C h kc_P hp_36.1 k_P_addEntry wm_P_addEntry wz_P_addEntry lk_P_54 (c_P_addEntry l D T A σ_35 σ0 a ab q_37 hp_36 (r 7)) rfl rfl ⟨Nat.le_of_ble_eq_true rfl, Nat.le_of_ble_eq_true rfl⟩ rfl hl.1 rfl (Nat.le_of_ble_eq_true rfl) d_P_fill_73 ⟨Nat.le_of_ble_eq_true rfl, Nat.le_of_ble_eq_true rfl⟩) (fun σ_42 H locs hp_43 h => ?_)
  generalize hq_q_44 : (pe q_37 (r 7)) = q_44 at hp_43
  have hi_45 : σ_42 i = some (xI r w c) := (hp_43.2.2.2 i ni1 ni2).trans hi0
  have hi_46 : σ_42 w = some (.inl (T 0, 4, .inl (fun j => r (15 + 2 * j)))) := (hp_43.2.2.2 w nw1 nw2).trans hw0
  have hi_47 : σ_42 c = some (.inl (T 0, 4, .inl (fun j => r (16 + 2 * j)))) := (hp_43.2.2.2 c nc1 nc2).trans hc0
  refine lv_aload_n hx hb d_P_fill_76 rfl (lv_at hl 0 rfl) ?_
  refine lv_aload_n hx hb d_P_fill_77 rfl (lv_at hl 2 rfl) ?_
  refine wd_getN C h kc_I hi_45 8 (by decide) lk_P_57 rfl d_P_fill_78 ?_
  refine wd_cv h (wd_rV (rest := []) (st0 := [.int (r 8), .ref a]) C h kc_P hp_43.1 k_P_addEntry wm_P_addEntry wz_P_addEntry lk_P_54 (c_P_addEntry l D T A σ_42 σ0 a ab q_44 hp_43 (r 8)) rfl rfl ⟨Nat.le_of_ble_eq_true rfl, Nat.le_of_ble_eq_true rfl⟩ rfl hl.1 rfl (Nat.le_of_ble_eq_true rfl) d_P_fill_81 ⟨Nat.le_of_ble_eq_true rfl, Nat.le_of_ble_eq_true rfl⟩) (fun σ_49 H locs hp_50 h => ?_)
  generalize hq_q_51 : (pe q_44 (r 8)) = q_51 at hp_50
  have hi_52 : σ_49 i = some (xI r w c) := (hp_50.2.2.2 i ni1 ni2).trans hi0
  have hi_53 : σ_49 w = some (.inl (T 0, 4, .inl (fun j => r (15 + 2 * j)))) := (hp_50.2.2.2 w nw1 nw2).trans hw0
  have hi_54 : σ_49 c = some (.inl (T 0, 4, .inl (fun j => r (16 + 2 * j)))) := (hp_50.2.2.2 c nc1 nc2).trans hc0
  refine lv_aload_n hx hb d_P_fill_84 rfl (lv_at hl 0 rfl) ?_
  refine lv_aload_n hx hb d_P_fill_85 rfl (lv_at hl 2 rfl) ?_
  refine wd_getN C h kc_I hi_52 9 (by decide) lk_P_60 rfl d_P_fill_86 ?_
  refine wd_cv h (wd_rV (rest := []) (st0 := [.int (r 9), .ref a]) C h kc_P hp_50.1 k_P_add wm_P_add wz_P_add lk_P_35 (c_P_add l D T A σ_49 σ0 a ab q_51 hp_50 (r 9)) rfl rfl ⟨Nat.le_of_ble_eq_true rfl, Nat.le_of_ble_eq_true rfl⟩ rfl hl.1 rfl (Nat.le_of_ble_eq_true rfl) d_P_fill_89 ⟨Nat.le_of_ble_eq_true rfl, Nat.le_of_ble_eq_true rfl⟩) (fun σ_56 H locs hp_57 h => ?_)
  generalize hq_q_58 : (pa q_51 (r 9)) = q_58 at hp_57
  have hi_59 : σ_56 i = some (xI r w c) := (hp_57.2.2.2 i ni1 ni2).trans hi0
  have hi_60 : σ_56 w = some (.inl (T 0, 4, .inl (fun j => r (15 + 2 * j)))) := (hp_57.2.2.2 w nw1 nw2).trans hw0
  have hi_61 : σ_56 c = some (.inl (T 0, 4, .inl (fun j => r (16 + 2 * j)))) := (hp_57.2.2.2 c nc1 nc2).trans hc0
  refine lv_aload_n hx hb d_P_fill_92 rfl (lv_at hl 0 rfl) ?_
  refine lv_aload_n hx hb d_P_fill_93 rfl (lv_at hl 2 rfl) ?_
  refine wd_getN C h kc_I hi_59 14 (by decide) lk_P_63 rfl d_P_fill_94 ?_
  refine wd_cv h (wd_rV (rest := []) (st0 := [.int (r 14), .ref a]) C h kc_P hp_57.1 k_P_add wm_P_add wz_P_add lk_P_35 (c_P_add l D T A σ_56 σ0 a ab q_58 hp_57 (r 14)) rfl rfl ⟨Nat.le_of_ble_eq_true rfl, Nat.le_of_ble_eq_true rfl⟩ rfl hl.1 rfl (Nat.le_of_ble_eq_true rfl) d_P_fill_97 ⟨Nat.le_of_ble_eq_true rfl, Nat.le_of_ble_eq_true rfl⟩) (fun σ_63 H locs hp_64 h => ?_)
  generalize hq_q_65 : (pa q_58 (r 14)) = q_65 at hp_64
  have hi_66 : σ_63 i = some (xI r w c) := (hp_64.2.2.2 i ni1 ni2).trans hi0
  have hi_67 : σ_63 w = some (.inl (T 0, 4, .inl (fun j => r (15 + 2 * j)))) := (hp_64.2.2.2 w nw1 nw2).trans hw0
  have hi_68 : σ_63 c = some (.inl (T 0, 4, .inl (fun j => r (16 + 2 * j)))) := (hp_64.2.2.2 c nc1 nc2).trans hc0
  refine lv_iconst (v := 0) hx hb d_P_fill_100 (by decide) ?_
  refine lv_istore_n (lv' := [(3, .int 0), (0, .ref a), (1, .int num), (2, .ref i)]) hx hb d_P_fill_101 rfl hl (by decide) rfl (fun ls hl => ?_)
  refine lv_iload_n hx hb d_P_fill_102 rfl (lv_at hl 0 rfl) ?_
  refine lv_aload_n hx hb d_P_fill_103 rfl (lv_at hl 3 rfl) ?_
  refine wd_getN C h kc_I hi_66 14 (by decide) lk_P_63 rfl d_P_fill_104 ?_
  refine lv_icmp_ge (tgt := 154) hx hb d_P_fill_107 (by decide) (fun c_69 => ?_) (fun c_69 => ?_)
  · refine lv_aload_n hx hb d_P_fill_154 rfl (lv_at hl 1 rfl) ?_
    refine lv_aload_n hx hb d_P_fill_155 rfl (lv_at hl 1 rfl) ?_
    refine wd_ci h (wd_rV (rest := [.ref a]) (st0 := [.ref a, .ref a]) C h kc_P hp_64.1 k_P_xorOfAll wm_P_xorOfAll wz_P_xorOfAll lk_P_72 (c_P_xorOfAll l D T A σ_63 σ0 a ab q_65 hp_64) rfl rfl ⟨Nat.le_of_ble_eq_true rfl, Nat.le_of_ble_eq_true rfl⟩ rfl hl.1 rfl (Nat.le_of_ble_eq_true rfl) d_P_fill_156 ⟨Nat.le_of_ble_eq_true rfl, Nat.le_of_ble_eq_true rfl⟩) (fun r_70 σ_71 H locs hp_72 h => ?_)
    obtain ⟨e_73, es_74⟩ := hp_72
    rw [es_74] at h
    subst e_73
    refine wd_cv h (wd_rV (rest := []) (st0 := [.int (px q_65.1 q_65.2), .ref a]) C h kc_P hp_64.1 k_P_add wm_P_add wz_P_add lk_P_35 (c_P_add l D T A σ_63 σ0 a ab q_65 hp_64 (px q_65.1 q_65.2)) rfl rfl ⟨Nat.le_of_ble_eq_true rfl, Nat.le_of_ble_eq_true rfl⟩ rfl hl.1 rfl (Nat.le_of_ble_eq_true rfl) d_P_fill_159 ⟨Nat.le_of_ble_eq_true rfl, Nat.le_of_ble_eq_true rfl⟩) (fun σ_76 H locs hp_77 h => ?_)
    generalize hq_q_78 : (pa q_65 (px q_65.1 q_65.2)) = q_78 at hp_77
    have hi_79 : σ_76 i = some (xI r w c) := (hp_77.2.2.2 i ni1 ni2).trans hi0
    have hi_80 : σ_76 w = some (.inl (T 0, 4, .inl (fun j => r (15 + 2 * j)))) := (hp_77.2.2.2 w nw1 nw2).trans hw0
    have hi_81 : σ_76 c = some (.inl (T 0, 4, .inl (fun j => r (16 + 2 * j)))) := (hp_77.2.2.2 c nc1 nc2).trans hc0
    exact wd_vret C hr hlocks h (by rw [show pf q.1 num r = q_78 from by unfold pf; rw [show pc r (ph q.1 num r) = (ph q.1 num r) from by simp [pc, c_69]]; unfold ph; rw [hq_q_9, hq_q_16, hq_q_23, hq_q_30, hq_q_37, hq_q_44, hq_q_51, hq_q_58, hq_q_65, hq_q_78]]; exact hp_77) (Nat.le_of_ble_eq_true rfl) (Nat.le_of_ble_eq_true rfl) d_P_fill_162
  · refine lv_iload_n hx hb d_P_fill_110 rfl (lv_at hl 0 rfl) ?_
    refine lv_iconst (v := 4) hx hb d_P_fill_111 (by decide) ?_
    refine lv_icmp_ge (tgt := 154) hx hb d_P_fill_112 (by decide) (fun c_82 => ?_) (fun c_82 => ?_)
    · exact absurd c_82 (by decide)
    refine lv_aload_n hx hb d_P_fill_115 rfl (lv_at hl 1 rfl) ?_
    refine lv_aload_n hx hb d_P_fill_116 rfl (lv_at hl 3 rfl) ?_
    refine wd_getN C h kc_I hi_66 15 (by decide) lk_P_66 rfl d_P_fill_117 ?_
    refine lv_iload_n hx hb d_P_fill_120 rfl (lv_at hl 0 rfl) ?_
    refine wd_iald C h 0 rfl hi_67 (by unfold vp_in; decide) d_P_fill_121 ?_
    refine W.eq (g2 := F0 m 122 ls (.int (r (15 + 2 * 0)) :: .ref a :: [])) rfl ?_
    refine wd_cv h (wd_rV (rest := []) (st0 := [.int (r (15 + 2 * 0)), .ref a]) C h kc_P hp_64.1 k_P_add wm_P_add wz_P_add lk_P_35 (c_P_add l D T A σ_63 σ0 a ab q_65 hp_64 (r (15 + 2 * 0))) rfl rfl ⟨Nat.le_of_ble_eq_true rfl, Nat.le_of_ble_eq_true rfl⟩ rfl hl.1 rfl (Nat.le_of_ble_eq_true rfl) d_P_fill_122 ⟨Nat.le_of_ble_eq_true rfl, Nat.le_of_ble_eq_true rfl⟩) (fun σ_84 H locs hp_85 h => ?_)
    generalize hq_q_86 : (pa q_65 (r (15 + 2 * 0))) = q_86 at hp_85
    have hi_87 : σ_84 i = some (xI r w c) := (hp_85.2.2.2 i ni1 ni2).trans hi0
    have hi_88 : σ_84 w = some (.inl (T 0, 4, .inl (fun j => r (15 + 2 * j)))) := (hp_85.2.2.2 w nw1 nw2).trans hw0
    have hi_89 : σ_84 c = some (.inl (T 0, 4, .inl (fun j => r (16 + 2 * j)))) := (hp_85.2.2.2 c nc1 nc2).trans hc0
    refine lv_aload_n hx hb d_P_fill_125 rfl (lv_at hl 1 rfl) ?_
    refine lv_aload_n hx hb d_P_fill_126 rfl (lv_at hl 3 rfl) ?_
    refine wd_getN C h kc_I hi_87 16 (by decide) lk_P_69 rfl d_P_fill_127 ?_
    refine lv_iload_n hx hb d_P_fill_130 rfl (lv_at hl 0 rfl) ?_
    refine wd_iald C h 0 rfl hi_89 (by unfold vp_in; decide) d_P_fill_131 ?_
    refine W.eq (g2 := F0 m 132 ls (.int (r (16 + 2 * 0)) :: .ref a :: [])) rfl ?_
    refine lv_bipush (v := 16) hx hb d_P_fill_132 (by decide) ?_
    refine lv_ishr hx hb d_P_fill_134 ?_
    refine wd_cv h (wd_rV (rest := []) (st0 := [.int ((r (16 + 2 * 0)) >>> (16 &&& 31)), .ref a]) C h kc_P hp_85.1 k_P_add wm_P_add wz_P_add lk_P_35 (c_P_add l D T A σ_84 σ0 a ab q_86 hp_85 ((r (16 + 2 * 0)) >>> (16 &&& 31))) rfl rfl ⟨Nat.le_of_ble_eq_true rfl, Nat.le_of_ble_eq_true rfl⟩ rfl hl.1 rfl (Nat.le_of_ble_eq_true rfl) d_P_fill_135 ⟨Nat.le_of_ble_eq_true rfl, Nat.le_of_ble_eq_true rfl⟩) (fun σ_91 H locs hp_92 h => ?_)
    generalize hq_q_93 : (pa q_86 ((r (16 + 2 * 0)) >>> (16 &&& 31))) = q_93 at hp_92
    have hi_94 : σ_91 i = some (xI r w c) := (hp_92.2.2.2 i ni1 ni2).trans hi0
    have hi_95 : σ_91 w = some (.inl (T 0, 4, .inl (fun j => r (15 + 2 * j)))) := (hp_92.2.2.2 w nw1 nw2).trans hw0
    have hi_96 : σ_91 c = some (.inl (T 0, 4, .inl (fun j => r (16 + 2 * j)))) := (hp_92.2.2.2 c nc1 nc2).trans hc0
    refine lv_aload_n hx hb d_P_fill_138 rfl (lv_at hl 1 rfl) ?_
    refine lv_aload_n hx hb d_P_fill_139 rfl (lv_at hl 3 rfl) ?_
    refine wd_getN C h kc_I hi_94 16 (by decide) lk_P_69 rfl d_P_fill_140 ?_
    refine lv_iload_n hx hb d_P_fill_143 rfl (lv_at hl 0 rfl) ?_
    refine wd_iald C h 0 rfl hi_96 (by unfold vp_in; decide) d_P_fill_144 ?_
    refine W.eq (g2 := F0 m 145 ls (.int (r (16 + 2 * 0)) :: .ref a :: [])) rfl ?_
    refine wd_cv h (wd_rV (rest := []) (st0 := [.int (r (16 + 2 * 0)), .ref a]) C h kc_P hp_92.1 k_P_addTwo wm_P_addTwo wz_P_addTwo lk_P_23 (c_P_addTwo l D T A σ_91 σ0 a ab q_93 hp_92 (r (16 + 2 * 0))) rfl rfl ⟨Nat.le_of_ble_eq_true rfl, Nat.le_of_ble_eq_true rfl⟩ rfl hl.1 rfl (Nat.le_of_ble_eq_true rfl) d_P_fill_145 ⟨Nat.le_of_ble_eq_true rfl, Nat.le_of_ble_eq_true rfl⟩) (fun σ_98 H locs hp_99 h => ?_)
    generalize hq_q_100 : (p2 q_93 (r (16 + 2 * 0))) = q_100 at hp_99
    have hi_101 : σ_98 i = some (xI r w c) := (hp_99.2.2.2 i ni1 ni2).trans hi0
    have hi_102 : σ_98 w = some (.inl (T 0, 4, .inl (fun j => r (15 + 2 * j)))) := (hp_99.2.2.2 w nw1 nw2).trans hw0
    have hi_103 : σ_98 c = some (.inl (T 0, 4, .inl (fun j => r (16 + 2 * j)))) := (hp_99.2.2.2 c nc1 nc2).trans hc0
    refine lv_iinc (v := 1) (lv' := [(3, .int 1), (0, .ref a), (1, .int num), (2, .ref i)]) hx hb d_P_fill_148 hl (k := 0) rfl (by first | rfl | decide) (by decide) rfl (fun ls hl => ?_)
    refine lv_goto (tgt := 102) hx hb d_P_fill_151 (by decide) ?_
    refine lv_iload_n hx hb d_P_fill_102 rfl (lv_at hl 0 rfl) ?_
    refine lv_aload_n hx hb d_P_fill_103 rfl (lv_at hl 3 rfl) ?_
    refine wd_getN C h kc_I hi_101 14 (by decide) lk_P_63 rfl d_P_fill_104 ?_
    refine lv_icmp_ge (tgt := 154) hx hb d_P_fill_107 (by decide) (fun c_104 => ?_) (fun c_104 => ?_)
    · refine lv_aload_n hx hb d_P_fill_154 rfl (lv_at hl 1 rfl) ?_
      refine lv_aload_n hx hb d_P_fill_155 rfl (lv_at hl 1 rfl) ?_
      refine wd_ci h (wd_rV (rest := [.ref a]) (st0 := [.ref a, .ref a]) C h kc_P hp_99.1 k_P_xorOfAll wm_P_xorOfAll wz_P_xorOfAll lk_P_72 (c_P_xorOfAll l D T A σ_98 σ0 a ab q_100 hp_99) rfl rfl ⟨Nat.le_of_ble_eq_true rfl, Nat.le_of_ble_eq_true rfl⟩ rfl hl.1 rfl (Nat.le_of_ble_eq_true rfl) d_P_fill_156 ⟨Nat.le_of_ble_eq_true rfl, Nat.le_of_ble_eq_true rfl⟩) (fun r_105 σ_106 H locs hp_107 h => ?_)
      obtain ⟨e_108, es_109⟩ := hp_107
      rw [es_109] at h
      subst e_108
      refine wd_cv h (wd_rV (rest := []) (st0 := [.int (px q_100.1 q_100.2), .ref a]) C h kc_P hp_99.1 k_P_add wm_P_add wz_P_add lk_P_35 (c_P_add l D T A σ_98 σ0 a ab q_100 hp_99 (px q_100.1 q_100.2)) rfl rfl ⟨Nat.le_of_ble_eq_true rfl, Nat.le_of_ble_eq_true rfl⟩ rfl hl.1 rfl (Nat.le_of_ble_eq_true rfl) d_P_fill_159 ⟨Nat.le_of_ble_eq_true rfl, Nat.le_of_ble_eq_true rfl⟩) (fun σ_111 H locs hp_112 h => ?_)
      generalize hq_q_113 : (pa q_100 (px q_100.1 q_100.2)) = q_113 at hp_112
      have hi_114 : σ_111 i = some (xI r w c) := (hp_112.2.2.2 i ni1 ni2).trans hi0
      have hi_115 : σ_111 w = some (.inl (T 0, 4, .inl (fun j => r (15 + 2 * j)))) := (hp_112.2.2.2 w nw1 nw2).trans hw0
      have hi_116 : σ_111 c = some (.inl (T 0, 4, .inl (fun j => r (16 + 2 * j)))) := (hp_112.2.2.2 c nc1 nc2).trans hc0
      exact wd_vret C hr hlocks h (by rw [show pf q.1 num r = q_113 from by unfold pf; rw [show pc r (ph q.1 num r) = (pc1 r (ph q.1 num r) 0) from by simp [pc, c_69, c_104]]; unfold ph pc1; rw [hq_q_9, hq_q_16, hq_q_23, hq_q_30, hq_q_37, hq_q_44, hq_q_51, hq_q_58, hq_q_65, hq_q_86, hq_q_93, hq_q_100, hq_q_113]]; exact hp_112) (Nat.le_of_ble_eq_true rfl) (Nat.le_of_ble_eq_true rfl) d_P_fill_162
    · refine lv_iload_n hx hb d_P_fill_110 rfl (lv_at hl 0 rfl) ?_
      refine lv_iconst (v := 4) hx hb d_P_fill_111 (by decide) ?_
      refine lv_icmp_ge (tgt := 154) hx hb d_P_fill_112 (by decide) (fun c_117 => ?_) (fun c_117 => ?_)
      · exact absurd c_117 (by decide)
      refine lv_aload_n hx hb d_P_fill_115 rfl (lv_at hl 1 rfl) ?_
      refine lv_aload_n hx hb d_P_fill_116 rfl (lv_at hl 3 rfl) ?_
      refine wd_getN C h kc_I hi_101 15 (by decide) lk_P_66 rfl d_P_fill_117 ?_
      refine lv_iload_n hx hb d_P_fill_120 rfl (lv_at hl 0 rfl) ?_
      refine wd_iald C h 0 rfl hi_102 (by unfold vp_in; decide) d_P_fill_121 ?_
      refine W.eq (g2 := F0 m 122 ls (.int (r (15 + 2 * 1)) :: .ref a :: [])) rfl ?_
      refine wd_cv h (wd_rV (rest := []) (st0 := [.int (r (15 + 2 * 1)), .ref a]) C h kc_P hp_99.1 k_P_add wm_P_add wz_P_add lk_P_35 (c_P_add l D T A σ_98 σ0 a ab q_100 hp_99 (r (15 + 2 * 1))) rfl rfl ⟨Nat.le_of_ble_eq_true rfl, Nat.le_of_ble_eq_true rfl⟩ rfl hl.1 rfl (Nat.le_of_ble_eq_true rfl) d_P_fill_122 ⟨Nat.le_of_ble_eq_true rfl, Nat.le_of_ble_eq_true rfl⟩) (fun σ_119 H locs hp_120 h => ?_)
      generalize hq_q_121 : (pa q_100 (r (15 + 2 * 1))) = q_121 at hp_120
      have hi_122 : σ_119 i = some (xI r w c) := (hp_120.2.2.2 i ni1 ni2).trans hi0
      have hi_123 : σ_119 w = some (.inl (T 0, 4, .inl (fun j => r (15 + 2 * j)))) := (hp_120.2.2.2 w nw1 nw2).trans hw0
      have hi_124 : σ_119 c = some (.inl (T 0, 4, .inl (fun j => r (16 + 2 * j)))) := (hp_120.2.2.2 c nc1 nc2).trans hc0
      refine lv_aload_n hx hb d_P_fill_125 rfl (lv_at hl 1 rfl) ?_
      refine lv_aload_n hx hb d_P_fill_126 rfl (lv_at hl 3 rfl) ?_
      refine wd_getN C h kc_I hi_122 16 (by decide) lk_P_69 rfl d_P_fill_127 ?_
      refine lv_iload_n hx hb d_P_fill_130 rfl (lv_at hl 0 rfl) ?_
      refine wd_iald C h 0 rfl hi_124 (by unfold vp_in; decide) d_P_fill_131 ?_
      refine W.eq (g2 := F0 m 132 ls (.int (r (16 + 2 * 1)) :: .ref a :: [])) rfl ?_
      refine lv_bipush (v := 16) hx hb d_P_fill_132 (by decide) ?_
      refine lv_ishr hx hb d_P_fill_134 ?_
      refine wd_cv h (wd_rV (rest := []) (st0 := [.int ((r (16 + 2 * 1)) >>> (16 &&& 31)), .ref a]) C h kc_P hp_120.1 k_P_add wm_P_add wz_P_add lk_P_35 (c_P_add l D T A σ_119 σ0 a ab q_121 hp_120 ((r (16 + 2 * 1)) >>> (16 &&& 31))) rfl rfl ⟨Nat.le_of_ble_eq_true rfl, Nat.le_of_ble_eq_true rfl⟩ rfl hl.1 rfl (Nat.le_of_ble_eq_true rfl) d_P_fill_135 ⟨Nat.le_of_ble_eq_true rfl, Nat.le_of_ble_eq_true rfl⟩) (fun σ_126 H locs hp_127 h => ?_)
      generalize hq_q_128 : (pa q_121 ((r (16 + 2 * 1)) >>> (16 &&& 31))) = q_128 at hp_127
      have hi_129 : σ_126 i = some (xI r w c) := (hp_127.2.2.2 i ni1 ni2).trans hi0
      have hi_130 : σ_126 w = some (.inl (T 0, 4, .inl (fun j => r (15 + 2 * j)))) := (hp_127.2.2.2 w nw1 nw2).trans hw0
      have hi_131 : σ_126 c = some (.inl (T 0, 4, .inl (fun j => r (16 + 2 * j)))) := (hp_127.2.2.2 c nc1 nc2).trans hc0
      refine lv_aload_n hx hb d_P_fill_138 rfl (lv_at hl 1 rfl) ?_
      refine lv_aload_n hx hb d_P_fill_139 rfl (lv_at hl 3 rfl) ?_
      refine wd_getN C h kc_I hi_129 16 (by decide) lk_P_69 rfl d_P_fill_140 ?_
      refine lv_iload_n hx hb d_P_fill_143 rfl (lv_at hl 0 rfl) ?_
      refine wd_iald C h 0 rfl hi_131 (by unfold vp_in; decide) d_P_fill_144 ?_
      refine W.eq (g2 := F0 m 145 ls (.int (r (16 + 2 * 1)) :: .ref a :: [])) rfl ?_
      refine wd_cv h (wd_rV (rest := []) (st0 := [.int (r (16 + 2 * 1)), .ref a]) C h kc_P hp_127.1 k_P_addTwo wm_P_addTwo wz_P_addTwo lk_P_23 (c_P_addTwo l D T A σ_126 σ0 a ab q_128 hp_127 (r (16 + 2 * 1))) rfl rfl ⟨Nat.le_of_ble_eq_true rfl, Nat.le_of_ble_eq_true rfl⟩ rfl hl.1 rfl (Nat.le_of_ble_eq_true rfl) d_P_fill_145 ⟨Nat.le_of_ble_eq_true rfl, Nat.le_of_ble_eq_true rfl⟩) (fun σ_133 H locs hp_134 h => ?_)
      generalize hq_q_135 : (p2 q_128 (r (16 + 2 * 1))) = q_135 at hp_134
      have hi_136 : σ_133 i = some (xI r w c) := (hp_134.2.2.2 i ni1 ni2).trans hi0
      have hi_137 : σ_133 w = some (.inl (T 0, 4, .inl (fun j => r (15 + 2 * j)))) := (hp_134.2.2.2 w nw1 nw2).trans hw0
      have hi_138 : σ_133 c = some (.inl (T 0, 4, .inl (fun j => r (16 + 2 * j)))) := (hp_134.2.2.2 c nc1 nc2).trans hc0
      refine lv_iinc (v := 2) (lv' := [(3, .int 2), (0, .ref a), (1, .int num), (2, .ref i)]) hx hb d_P_fill_148 hl (k := 0) rfl (by first | rfl | decide) (by decide) rfl (fun ls hl => ?_)
      refine lv_goto (tgt := 102) hx hb d_P_fill_151 (by decide) ?_
      refine lv_iload_n hx hb d_P_fill_102 rfl (lv_at hl 0 rfl) ?_
      refine lv_aload_n hx hb d_P_fill_103 rfl (lv_at hl 3 rfl) ?_
      refine wd_getN C h kc_I hi_136 14 (by decide) lk_P_63 rfl d_P_fill_104 ?_
      refine lv_icmp_ge (tgt := 154) hx hb d_P_fill_107 (by decide) (fun c_139 => ?_) (fun c_139 => ?_)
      · refine lv_aload_n hx hb d_P_fill_154 rfl (lv_at hl 1 rfl) ?_
        refine lv_aload_n hx hb d_P_fill_155 rfl (lv_at hl 1 rfl) ?_
        refine wd_ci h (wd_rV (rest := [.ref a]) (st0 := [.ref a, .ref a]) C h kc_P hp_134.1 k_P_xorOfAll wm_P_xorOfAll wz_P_xorOfAll lk_P_72 (c_P_xorOfAll l D T A σ_133 σ0 a ab q_135 hp_134) rfl rfl ⟨Nat.le_of_ble_eq_true rfl, Nat.le_of_ble_eq_true rfl⟩ rfl hl.1 rfl (Nat.le_of_ble_eq_true rfl) d_P_fill_156 ⟨Nat.le_of_ble_eq_true rfl, Nat.le_of_ble_eq_true rfl⟩) (fun r_140 σ_141 H locs hp_142 h => ?_)
        obtain ⟨e_143, es_144⟩ := hp_142
        rw [es_144] at h
        subst e_143
        refine wd_cv h (wd_rV (rest := []) (st0 := [.int (px q_135.1 q_135.2), .ref a]) C h kc_P hp_134.1 k_P_add wm_P_add wz_P_add lk_P_35 (c_P_add l D T A σ_133 σ0 a ab q_135 hp_134 (px q_135.1 q_135.2)) rfl rfl ⟨Nat.le_of_ble_eq_true rfl, Nat.le_of_ble_eq_true rfl⟩ rfl hl.1 rfl (Nat.le_of_ble_eq_true rfl) d_P_fill_159 ⟨Nat.le_of_ble_eq_true rfl, Nat.le_of_ble_eq_true rfl⟩) (fun σ_146 H locs hp_147 h => ?_)
        generalize hq_q_148 : (pa q_135 (px q_135.1 q_135.2)) = q_148 at hp_147
        have hi_149 : σ_146 i = some (xI r w c) := (hp_147.2.2.2 i ni1 ni2).trans hi0
        have hi_150 : σ_146 w = some (.inl (T 0, 4, .inl (fun j => r (15 + 2 * j)))) := (hp_147.2.2.2 w nw1 nw2).trans hw0
        have hi_151 : σ_146 c = some (.inl (T 0, 4, .inl (fun j => r (16 + 2 * j)))) := (hp_147.2.2.2 c nc1 nc2).trans hc0
        exact wd_vret C hr hlocks h (by rw [show pf q.1 num r = q_148 from by unfold pf; rw [show pc r (ph q.1 num r) = (pc1 r (pc1 r (ph q.1 num r) 0) 1) from by simp [pc, c_69, c_104, c_139]]; unfold ph pc1; rw [hq_q_9, hq_q_16, hq_q_23, hq_q_30, hq_q_37, hq_q_44, hq_q_51, hq_q_58, hq_q_65, hq_q_86, hq_q_93, hq_q_100, hq_q_121, hq_q_128, hq_q_135, hq_q_148]]; exact hp_147) (Nat.le_of_ble_eq_true rfl) (Nat.le_of_ble_eq_true rfl) d_P_fill_162
      · refine lv_iload_n hx hb d_P_fill_110 rfl (lv_at hl 0 rfl) ?_
        refine lv_iconst (v := 4) hx hb d_P_fill_111 (by decide) ?_
        refine lv_icmp_ge (tgt := 154) hx hb d_P_fill_112 (by decide) (fun c_152 => ?_) (fun c_152 => ?_)
        · exact absurd c_152 (by decide)
        refine lv_aload_n hx hb d_P_fill_115 rfl (lv_at hl 1 rfl) ?_
        refine lv_aload_n hx hb d_P_fill_116 rfl (lv_at hl 3 rfl) ?_
        refine wd_getN C h kc_I hi_136 15 (by decide) lk_P_66 rfl d_P_fill_117 ?_
        refine lv_iload_n hx hb d_P_fill_120 rfl (lv_at hl 0 rfl) ?_
        refine wd_iald C h 0 rfl hi_137 (by unfold vp_in; decide) d_P_fill_121 ?_
        refine W.eq (g2 := F0 m 122 ls (.int (r (15 + 2 * 2)) :: .ref a :: [])) rfl ?_
        refine wd_cv h (wd_rV (rest := []) (st0 := [.int (r (15 + 2 * 2)), .ref a]) C h kc_P hp_134.1 k_P_add wm_P_add wz_P_add lk_P_35 (c_P_add l D T A σ_133 σ0 a ab q_135 hp_134 (r (15 + 2 * 2))) rfl rfl ⟨Nat.le_of_ble_eq_true rfl, Nat.le_of_ble_eq_true rfl⟩ rfl hl.1 rfl (Nat.le_of_ble_eq_true rfl) d_P_fill_122 ⟨Nat.le_of_ble_eq_true rfl, Nat.le_of_ble_eq_true rfl⟩) (fun σ_154 H locs hp_155 h => ?_)
        generalize hq_q_156 : (pa q_135 (r (15 + 2 * 2))) = q_156 at hp_155
        have hi_157 : σ_154 i = some (xI r w c) := (hp_155.2.2.2 i ni1 ni2).trans hi0
        have hi_158 : σ_154 w = some (.inl (T 0, 4, .inl (fun j => r (15 + 2 * j)))) := (hp_155.2.2.2 w nw1 nw2).trans hw0
        have hi_159 : σ_154 c = some (.inl (T 0, 4, .inl (fun j => r (16 + 2 * j)))) := (hp_155.2.2.2 c nc1 nc2).trans hc0
        refine lv_aload_n hx hb d_P_fill_125 rfl (lv_at hl 1 rfl) ?_
        refine lv_aload_n hx hb d_P_fill_126 rfl (lv_at hl 3 rfl) ?_
        refine wd_getN C h kc_I hi_157 16 (by decide) lk_P_69 rfl d_P_fill_127 ?_
        refine lv_iload_n hx hb d_P_fill_130 rfl (lv_at hl 0 rfl) ?_
        refine wd_iald C h 0 rfl hi_159 (by unfold vp_in; decide) d_P_fill_131 ?_
        refine W.eq (g2 := F0 m 132 ls (.int (r (16 + 2 * 2)) :: .ref a :: [])) rfl ?_
        refine lv_bipush (v := 16) hx hb d_P_fill_132 (by decide) ?_
        refine lv_ishr hx hb d_P_fill_134 ?_
        refine wd_cv h (wd_rV (rest := []) (st0 := [.int ((r (16 + 2 * 2)) >>> (16 &&& 31)), .ref a]) C h kc_P hp_155.1 k_P_add wm_P_add wz_P_add lk_P_35 (c_P_add l D T A σ_154 σ0 a ab q_156 hp_155 ((r (16 + 2 * 2)) >>> (16 &&& 31))) rfl rfl ⟨Nat.le_of_ble_eq_true rfl, Nat.le_of_ble_eq_true rfl⟩ rfl hl.1 rfl (Nat.le_of_ble_eq_true rfl) d_P_fill_135 ⟨Nat.le_of_ble_eq_true rfl, Nat.le_of_ble_eq_true rfl⟩) (fun σ_161 H locs hp_162 h => ?_)
        generalize hq_q_163 : (pa q_156 ((r (16 + 2 * 2)) >>> (16 &&& 31))) = q_163 at hp_162
        have hi_164 : σ_161 i = some (xI r w c) := (hp_162.2.2.2 i ni1 ni2).trans hi0
        have hi_165 : σ_161 w = some (.inl (T 0, 4, .inl (fun j => r (15 + 2 * j)))) := (hp_162.2.2.2 w nw1 nw2).trans hw0
        have hi_166 : σ_161 c = some (.inl (T 0, 4, .inl (fun j => r (16 + 2 * j)))) := (hp_162.2.2.2 c nc1 nc2).trans hc0
        refine lv_aload_n hx hb d_P_fill_138 rfl (lv_at hl 1 rfl) ?_
        refine lv_aload_n hx hb d_P_fill_139 rfl (lv_at hl 3 rfl) ?_
        refine wd_getN C h kc_I hi_164 16 (by decide) lk_P_69 rfl d_P_fill_140 ?_
        refine lv_iload_n hx hb d_P_fill_143 rfl (lv_at hl 0 rfl) ?_
        refine wd_iald C h 0 rfl hi_166 (by unfold vp_in; decide) d_P_fill_144 ?_
        refine W.eq (g2 := F0 m 145 ls (.int (r (16 + 2 * 2)) :: .ref a :: [])) rfl ?_
        refine wd_cv h (wd_rV (rest := []) (st0 := [.int (r (16 + 2 * 2)), .ref a]) C h kc_P hp_162.1 k_P_addTwo wm_P_addTwo wz_P_addTwo lk_P_23 (c_P_addTwo l D T A σ_161 σ0 a ab q_163 hp_162 (r (16 + 2 * 2))) rfl rfl ⟨Nat.le_of_ble_eq_true rfl, Nat.le_of_ble_eq_true rfl⟩ rfl hl.1 rfl (Nat.le_of_ble_eq_true rfl) d_P_fill_145 ⟨Nat.le_of_ble_eq_true rfl, Nat.le_of_ble_eq_true rfl⟩) (fun σ_168 H locs hp_169 h => ?_)
        generalize hq_q_170 : (p2 q_163 (r (16 + 2 * 2))) = q_170 at hp_169
        have hi_171 : σ_168 i = some (xI r w c) := (hp_169.2.2.2 i ni1 ni2).trans hi0
        have hi_172 : σ_168 w = some (.inl (T 0, 4, .inl (fun j => r (15 + 2 * j)))) := (hp_169.2.2.2 w nw1 nw2).trans hw0
        have hi_173 : σ_168 c = some (.inl (T 0, 4, .inl (fun j => r (16 + 2 * j)))) := (hp_169.2.2.2 c nc1 nc2).trans hc0
        refine lv_iinc (v := 3) (lv' := [(3, .int 3), (0, .ref a), (1, .int num), (2, .ref i)]) hx hb d_P_fill_148 hl (k := 0) rfl (by first | rfl | decide) (by decide) rfl (fun ls hl => ?_)
        refine lv_goto (tgt := 102) hx hb d_P_fill_151 (by decide) ?_
        refine lv_iload_n hx hb d_P_fill_102 rfl (lv_at hl 0 rfl) ?_
        refine lv_aload_n hx hb d_P_fill_103 rfl (lv_at hl 3 rfl) ?_
        refine wd_getN C h kc_I hi_171 14 (by decide) lk_P_63 rfl d_P_fill_104 ?_
        refine lv_icmp_ge (tgt := 154) hx hb d_P_fill_107 (by decide) (fun c_174 => ?_) (fun c_174 => ?_)
        · refine lv_aload_n hx hb d_P_fill_154 rfl (lv_at hl 1 rfl) ?_
          refine lv_aload_n hx hb d_P_fill_155 rfl (lv_at hl 1 rfl) ?_
          refine wd_ci h (wd_rV (rest := [.ref a]) (st0 := [.ref a, .ref a]) C h kc_P hp_169.1 k_P_xorOfAll wm_P_xorOfAll wz_P_xorOfAll lk_P_72 (c_P_xorOfAll l D T A σ_168 σ0 a ab q_170 hp_169) rfl rfl ⟨Nat.le_of_ble_eq_true rfl, Nat.le_of_ble_eq_true rfl⟩ rfl hl.1 rfl (Nat.le_of_ble_eq_true rfl) d_P_fill_156 ⟨Nat.le_of_ble_eq_true rfl, Nat.le_of_ble_eq_true rfl⟩) (fun r_175 σ_176 H locs hp_177 h => ?_)
          obtain ⟨e_178, es_179⟩ := hp_177
          rw [es_179] at h
          subst e_178
          refine wd_cv h (wd_rV (rest := []) (st0 := [.int (px q_170.1 q_170.2), .ref a]) C h kc_P hp_169.1 k_P_add wm_P_add wz_P_add lk_P_35 (c_P_add l D T A σ_168 σ0 a ab q_170 hp_169 (px q_170.1 q_170.2)) rfl rfl ⟨Nat.le_of_ble_eq_true rfl, Nat.le_of_ble_eq_true rfl⟩ rfl hl.1 rfl (Nat.le_of_ble_eq_true rfl) d_P_fill_159 ⟨Nat.le_of_ble_eq_true rfl, Nat.le_of_ble_eq_true rfl⟩) (fun σ_181 H locs hp_182 h => ?_)
          generalize hq_q_183 : (pa q_170 (px q_170.1 q_170.2)) = q_183 at hp_182
          have hi_184 : σ_181 i = some (xI r w c) := (hp_182.2.2.2 i ni1 ni2).trans hi0
          have hi_185 : σ_181 w = some (.inl (T 0, 4, .inl (fun j => r (15 + 2 * j)))) := (hp_182.2.2.2 w nw1 nw2).trans hw0
          have hi_186 : σ_181 c = some (.inl (T 0, 4, .inl (fun j => r (16 + 2 * j)))) := (hp_182.2.2.2 c nc1 nc2).trans hc0
          exact wd_vret C hr hlocks h (by rw [show pf q.1 num r = q_183 from by unfold pf; rw [show pc r (ph q.1 num r) = (pc1 r (pc1 r (pc1 r (ph q.1 num r) 0) 1) 2) from by simp [pc, c_69, c_104, c_139, c_174]]; unfold ph pc1; rw [hq_q_9, hq_q_16, hq_q_23, hq_q_30, hq_q_37, hq_q_44, hq_q_51, hq_q_58, hq_q_65, hq_q_86, hq_q_93, hq_q_100, hq_q_121, hq_q_128, hq_q_135, hq_q_156, hq_q_163, hq_q_170, hq_q_183]]; exact hp_182) (Nat.le_of_ble_eq_true rfl) (Nat.le_of_ble_eq_true rfl) d_P_fill_162
        · refine lv_iload_n hx hb d_P_fill_110 rfl (lv_at hl 0 rfl) ?_
          refine lv_iconst (v := 4) hx hb d_P_fill_111 (by decide) ?_
          refine lv_icmp_ge (tgt := 154) hx hb d_P_fill_112 (by decide) (fun c_187 => ?_) (fun c_187 => ?_)
          · exact absurd c_187 (by decide)
          refine lv_aload_n hx hb d_P_fill_115 rfl (lv_at hl 1 rfl) ?_
          refine lv_aload_n hx hb d_P_fill_116 rfl (lv_at hl 3 rfl) ?_
          refine wd_getN C h kc_I hi_171 15 (by decide) lk_P_66 rfl d_P_fill_117 ?_
          refine lv_iload_n hx hb d_P_fill_120 rfl (lv_at hl 0 rfl) ?_
          refine wd_iald C h 0 rfl hi_172 (by unfold vp_in; decide) d_P_fill_121 ?_
          refine W.eq (g2 := F0 m 122 ls (.int (r (15 + 2 * 3)) :: .ref a :: [])) rfl ?_
          refine wd_cv h (wd_rV (rest := []) (st0 := [.int (r (15 + 2 * 3)), .ref a]) C h kc_P hp_169.1 k_P_add wm_P_add wz_P_add lk_P_35 (c_P_add l D T A σ_168 σ0 a ab q_170 hp_169 (r (15 + 2 * 3))) rfl rfl ⟨Nat.le_of_ble_eq_true rfl, Nat.le_of_ble_eq_true rfl⟩ rfl hl.1 rfl (Nat.le_of_ble_eq_true rfl) d_P_fill_122 ⟨Nat.le_of_ble_eq_true rfl, Nat.le_of_ble_eq_true rfl⟩) (fun σ_189 H locs hp_190 h => ?_)
          generalize hq_q_191 : (pa q_170 (r (15 + 2 * 3))) = q_191 at hp_190
          have hi_192 : σ_189 i = some (xI r w c) := (hp_190.2.2.2 i ni1 ni2).trans hi0
          have hi_193 : σ_189 w = some (.inl (T 0, 4, .inl (fun j => r (15 + 2 * j)))) := (hp_190.2.2.2 w nw1 nw2).trans hw0
          have hi_194 : σ_189 c = some (.inl (T 0, 4, .inl (fun j => r (16 + 2 * j)))) := (hp_190.2.2.2 c nc1 nc2).trans hc0
          refine lv_aload_n hx hb d_P_fill_125 rfl (lv_at hl 1 rfl) ?_
          refine lv_aload_n hx hb d_P_fill_126 rfl (lv_at hl 3 rfl) ?_
          refine wd_getN C h kc_I hi_192 16 (by decide) lk_P_69 rfl d_P_fill_127 ?_
          refine lv_iload_n hx hb d_P_fill_130 rfl (lv_at hl 0 rfl) ?_
          refine wd_iald C h 0 rfl hi_194 (by unfold vp_in; decide) d_P_fill_131 ?_
          refine W.eq (g2 := F0 m 132 ls (.int (r (16 + 2 * 3)) :: .ref a :: [])) rfl ?_
          refine lv_bipush (v := 16) hx hb d_P_fill_132 (by decide) ?_
          refine lv_ishr hx hb d_P_fill_134 ?_
          refine wd_cv h (wd_rV (rest := []) (st0 := [.int ((r (16 + 2 * 3)) >>> (16 &&& 31)), .ref a]) C h kc_P hp_190.1 k_P_add wm_P_add wz_P_add lk_P_35 (c_P_add l D T A σ_189 σ0 a ab q_191 hp_190 ((r (16 + 2 * 3)) >>> (16 &&& 31))) rfl rfl ⟨Nat.le_of_ble_eq_true rfl, Nat.le_of_ble_eq_true rfl⟩ rfl hl.1 rfl (Nat.le_of_ble_eq_true rfl) d_P_fill_135 ⟨Nat.le_of_ble_eq_true rfl, Nat.le_of_ble_eq_true rfl⟩) (fun σ_196 H locs hp_197 h => ?_)
          generalize hq_q_198 : (pa q_191 ((r (16 + 2 * 3)) >>> (16 &&& 31))) = q_198 at hp_197
          have hi_199 : σ_196 i = some (xI r w c) := (hp_197.2.2.2 i ni1 ni2).trans hi0
          have hi_200 : σ_196 w = some (.inl (T 0, 4, .inl (fun j => r (15 + 2 * j)))) := (hp_197.2.2.2 w nw1 nw2).trans hw0
          have hi_201 : σ_196 c = some (.inl (T 0, 4, .inl (fun j => r (16 + 2 * j)))) := (hp_197.2.2.2 c nc1 nc2).trans hc0
          refine lv_aload_n hx hb d_P_fill_138 rfl (lv_at hl 1 rfl) ?_
          refine lv_aload_n hx hb d_P_fill_139 rfl (lv_at hl 3 rfl) ?_
          refine wd_getN C h kc_I hi_199 16 (by decide) lk_P_69 rfl d_P_fill_140 ?_
          refine lv_iload_n hx hb d_P_fill_143 rfl (lv_at hl 0 rfl) ?_
          refine wd_iald C h 0 rfl hi_201 (by unfold vp_in; decide) d_P_fill_144 ?_
          refine W.eq (g2 := F0 m 145 ls (.int (r (16 + 2 * 3)) :: .ref a :: [])) rfl ?_
          refine wd_cv h (wd_rV (rest := []) (st0 := [.int (r (16 + 2 * 3)), .ref a]) C h kc_P hp_197.1 k_P_addTwo wm_P_addTwo wz_P_addTwo lk_P_23 (c_P_addTwo l D T A σ_196 σ0 a ab q_198 hp_197 (r (16 + 2 * 3))) rfl rfl ⟨Nat.le_of_ble_eq_true rfl, Nat.le_of_ble_eq_true rfl⟩ rfl hl.1 rfl (Nat.le_of_ble_eq_true rfl) d_P_fill_145 ⟨Nat.le_of_ble_eq_true rfl, Nat.le_of_ble_eq_true rfl⟩) (fun σ_203 H locs hp_204 h => ?_)
          generalize hq_q_205 : (p2 q_198 (r (16 + 2 * 3))) = q_205 at hp_204
          have hi_206 : σ_203 i = some (xI r w c) := (hp_204.2.2.2 i ni1 ni2).trans hi0
          have hi_207 : σ_203 w = some (.inl (T 0, 4, .inl (fun j => r (15 + 2 * j)))) := (hp_204.2.2.2 w nw1 nw2).trans hw0
          have hi_208 : σ_203 c = some (.inl (T 0, 4, .inl (fun j => r (16 + 2 * j)))) := (hp_204.2.2.2 c nc1 nc2).trans hc0
          refine lv_iinc (v := 4) (lv' := [(3, .int 4), (0, .ref a), (1, .int num), (2, .ref i)]) hx hb d_P_fill_148 hl (k := 0) rfl (by first | rfl | decide) (by decide) rfl (fun ls hl => ?_)
          refine lv_goto (tgt := 102) hx hb d_P_fill_151 (by decide) ?_
          refine lv_iload_n hx hb d_P_fill_102 rfl (lv_at hl 0 rfl) ?_
          refine lv_aload_n hx hb d_P_fill_103 rfl (lv_at hl 3 rfl) ?_
          refine wd_getN C h kc_I hi_206 14 (by decide) lk_P_63 rfl d_P_fill_104 ?_
          refine lv_icmp_ge (tgt := 154) hx hb d_P_fill_107 (by decide) (fun c_209 => ?_) (fun c_209 => ?_)
          · refine lv_aload_n hx hb d_P_fill_154 rfl (lv_at hl 1 rfl) ?_
            refine lv_aload_n hx hb d_P_fill_155 rfl (lv_at hl 1 rfl) ?_
            refine wd_ci h (wd_rV (rest := [.ref a]) (st0 := [.ref a, .ref a]) C h kc_P hp_204.1 k_P_xorOfAll wm_P_xorOfAll wz_P_xorOfAll lk_P_72 (c_P_xorOfAll l D T A σ_203 σ0 a ab q_205 hp_204) rfl rfl ⟨Nat.le_of_ble_eq_true rfl, Nat.le_of_ble_eq_true rfl⟩ rfl hl.1 rfl (Nat.le_of_ble_eq_true rfl) d_P_fill_156 ⟨Nat.le_of_ble_eq_true rfl, Nat.le_of_ble_eq_true rfl⟩) (fun r_210 σ_211 H locs hp_212 h => ?_)
            obtain ⟨e_213, es_214⟩ := hp_212
            rw [es_214] at h
            subst e_213
            refine wd_cv h (wd_rV (rest := []) (st0 := [.int (px q_205.1 q_205.2), .ref a]) C h kc_P hp_204.1 k_P_add wm_P_add wz_P_add lk_P_35 (c_P_add l D T A σ_203 σ0 a ab q_205 hp_204 (px q_205.1 q_205.2)) rfl rfl ⟨Nat.le_of_ble_eq_true rfl, Nat.le_of_ble_eq_true rfl⟩ rfl hl.1 rfl (Nat.le_of_ble_eq_true rfl) d_P_fill_159 ⟨Nat.le_of_ble_eq_true rfl, Nat.le_of_ble_eq_true rfl⟩) (fun σ_216 H locs hp_217 h => ?_)
            generalize hq_q_218 : (pa q_205 (px q_205.1 q_205.2)) = q_218 at hp_217
            have hi_219 : σ_216 i = some (xI r w c) := (hp_217.2.2.2 i ni1 ni2).trans hi0
            have hi_220 : σ_216 w = some (.inl (T 0, 4, .inl (fun j => r (15 + 2 * j)))) := (hp_217.2.2.2 w nw1 nw2).trans hw0
            have hi_221 : σ_216 c = some (.inl (T 0, 4, .inl (fun j => r (16 + 2 * j)))) := (hp_217.2.2.2 c nc1 nc2).trans hc0
            exact wd_vret C hr hlocks h (by rw [show pf q.1 num r = q_218 from by unfold pf; rw [show pc r (ph q.1 num r) = (pc1 r (pc1 r (pc1 r (pc1 r (ph q.1 num r) 0) 1) 2) 3) from by simp [pc, c_69, c_104, c_139, c_174, c_209]]; unfold ph pc1; rw [hq_q_9, hq_q_16, hq_q_23, hq_q_30, hq_q_37, hq_q_44, hq_q_51, hq_q_58, hq_q_65, hq_q_86, hq_q_93, hq_q_100, hq_q_121, hq_q_128, hq_q_135, hq_q_156, hq_q_163, hq_q_170, hq_q_191, hq_q_198, hq_q_205, hq_q_218]]; exact hp_217) (Nat.le_of_ble_eq_true rfl) (Nat.le_of_ble_eq_true rfl) d_P_fill_162
          · refine lv_iload_n hx hb d_P_fill_110 rfl (lv_at hl 0 rfl) ?_
            refine lv_iconst (v := 4) hx hb d_P_fill_111 (by decide) ?_
            refine lv_icmp_ge (tgt := 154) hx hb d_P_fill_112 (by decide) (fun c_222 => ?_) (fun c_222 => ?_)
            rotate_left
            · exact absurd c_222 (by decide)
            refine lv_aload_n hx hb d_P_fill_154 rfl (lv_at hl 1 rfl) ?_
            refine lv_aload_n hx hb d_P_fill_155 rfl (lv_at hl 1 rfl) ?_
            refine wd_ci h (wd_rV (rest := [.ref a]) (st0 := [.ref a, .ref a]) C h kc_P hp_204.1 k_P_xorOfAll wm_P_xorOfAll wz_P_xorOfAll lk_P_72 (c_P_xorOfAll l D T A σ_203 σ0 a ab q_205 hp_204) rfl rfl ⟨Nat.le_of_ble_eq_true rfl, Nat.le_of_ble_eq_true rfl⟩ rfl hl.1 rfl (Nat.le_of_ble_eq_true rfl) d_P_fill_156 ⟨Nat.le_of_ble_eq_true rfl, Nat.le_of_ble_eq_true rfl⟩) (fun r_223 σ_224 H locs hp_225 h => ?_)
            obtain ⟨e_226, es_227⟩ := hp_225
            rw [es_227] at h
            subst e_226
            refine wd_cv h (wd_rV (rest := []) (st0 := [.int (px q_205.1 q_205.2), .ref a]) C h kc_P hp_204.1 k_P_add wm_P_add wz_P_add lk_P_35 (c_P_add l D T A σ_203 σ0 a ab q_205 hp_204 (px q_205.1 q_205.2)) rfl rfl ⟨Nat.le_of_ble_eq_true rfl, Nat.le_of_ble_eq_true rfl⟩ rfl hl.1 rfl (Nat.le_of_ble_eq_true rfl) d_P_fill_159 ⟨Nat.le_of_ble_eq_true rfl, Nat.le_of_ble_eq_true rfl⟩) (fun σ_229 H locs hp_230 h => ?_)
            generalize hq_q_231 : (pa q_205 (px q_205.1 q_205.2)) = q_231 at hp_230
            have hi_232 : σ_229 i = some (xI r w c) := (hp_230.2.2.2 i ni1 ni2).trans hi0
            have hi_233 : σ_229 w = some (.inl (T 0, 4, .inl (fun j => r (15 + 2 * j)))) := (hp_230.2.2.2 w nw1 nw2).trans hw0
            have hi_234 : σ_229 c = some (.inl (T 0, 4, .inl (fun j => r (16 + 2 * j)))) := (hp_230.2.2.2 c nc1 nc2).trans hc0
            exact wd_vret C hr hlocks h (by rw [show pf q.1 num r = q_231 from by unfold pf; rw [show pc r (ph q.1 num r) = (pc1 r (pc1 r (pc1 r (pc1 r (ph q.1 num r) 0) 1) 2) 3) from by simp [pc, c_69, c_104, c_139, c_174, c_209]]; unfold ph pc1; rw [hq_q_9, hq_q_16, hq_q_23, hq_q_30, hq_q_37, hq_q_44, hq_q_51, hq_q_58, hq_q_65, hq_q_86, hq_q_93, hq_q_100, hq_q_121, hq_q_128, hq_q_135, hq_q_156, hq_q_163, hq_q_170, hq_q_191, hq_q_198, hq_q_205, hq_q_231]]; exact hp_230) (Nat.le_of_ble_eq_true rfl) (Nat.le_of_ble_eq_true rfl) d_P_fill_162
end
section
/-! THE CLASS'S STATE: n items R, nc corrections CR, who waits wg, the packed bytes Q -/
abbrev xS : Type := Nat × (Nat → Nat → Int32) × Nat × (Nat → Nat → Int32) × (Nat → Int32) × pq
/-- how many of the first n items have c in field f -/
def cnt (R : Nat → Nat → Int32) (f : Nat) (c : Int32) : Nat → Nat
  | 0 => 0
  | n + 1 => cnt R f c n + (if R n f = c then 1 else 0)
def agr (q q' : pq) : Prop := q.2 = q'.2 ∧ ∀ j, j < q.2 → q.1 j = q'.1 j
abbrev aQ (T : Nat → ClassId) (t n : Nat) (f : Nat → Option Nat) : va_E := .inl (T t, n, .inr (.inr (.inr (.inr f))))
abbrev aN (T : Nat → ClassId) (n : Nat) (f : Nat → Int32) : va_E := .inl (T 0, n, .inl f)
def rxI (T : Nat → ClassId) (σ : wd_S) (n : Nat) (R : Nat → Nat → Int32) (fI : Nat → Option Nat) (ia aa : Nat → Nat) : Prop :=
  (∀ k, k < n → fI k = some (ia k) ∧ σ (ia k) = some (xI (R k) (aa (2 * k)) (aa (2 * k + 1))) ∧ σ (aa (2 * k)) = some (aN T 4 (fun j => R k (15 + 2 * j))) ∧ σ (aa (2 * k + 1)) = some (aN T 4 (fun j => R k (16 + 2 * j)))) ∧
  (∀ k j, k < n → j < n → ia k = ia j → k = j) ∧ (∀ k j, k < 2 * n → j < 2 * n → aa k = aa j → k = j)
def rxC (σ : wd_S) (nc : Nat) (CR : Nat → Nat → Int32) (fC : Nat → Option Nat) (ca : Nat → Nat) : Prop := ∀ k, k < nc → fC k = some (ca k) ∧ σ (ca k) = some (xC (CR k))
def rxN (n : Nat) (R : Nat → Nat → Int32) (wg jn wn bk : Nat → Int32) : Prop := (∀ c, 1 ≤ c → c ≤ 30 → jn c = nI (cnt R 10 (nI c) n)) ∧ (∀ c, 1 ≤ c → c ≤ 20 → bk c = nI (cnt R 11 (nI c) n)) ∧ ∀ c, c ≤ 30 → wn c = wg c
def RB (T : Nat → ClassId) (σ : wd_S) (x n : Nat) (R : Nat → Nat → Int32) (nc : Nat) (CR : Nat → Nat → Int32) (wg : Nat → Int32) (Q : pq) (aI aC aJ aW aB aP ab : Nat) (fI fC : Nat → Option Nat) (jn wn bk qb : Nat → Int32) (ia aa ca : Nat → Nat) : Prop :=
  σ x = some (.inr (0, [.ref aI, .int (nI n), .ref aC, .int (nI nc), .ref aJ, .ref aW, .ref aB, .ref aP])) ∧ σ aI = some (aQ T 2 120 fI) ∧ σ aC = some (aQ T 3 200 fC) ∧ σ aJ = some (aN T 31 jn) ∧ σ aW = some (.inl (T 1, 31, .inl wn)) ∧ σ aB = some (aN T 21 bk) ∧ pz T σ σ aP ab (qb, Q.2) ∧ agr (qb, Q.2) Q ∧ rxI T σ n R fI ia aa ∧ rxC σ nc CR fC ca ∧ rxN n R wg jn wn bk ∧ n ≤ 120 ∧ nc ≤ 200 ∧ aJ ≠ aW
def RX (T : Nat → ClassId) (σ : wd_S) (x : Nat) (S : xS) : Prop := ∃ (aI aC aJ aW aB aP ab : Nat) (fI fC : Nat → Option Nat) (jn wn bk qb : Nat → Int32) (ia aa ca : Nat → Nat), RB T σ x S.1 S.2.1 S.2.2.1 S.2.2.2.1 S.2.2.2.2.1 S.2.2.2.2.2 aI aC aJ aW aB aP ab fI fC jn wn bk qb ia aa ca
section RX
variable {T : Nat → ClassId} {σ : wd_S} {x n : Nat} {R : Nat → Nat → Int32} {nc : Nat} {CR : Nat → Nat → Int32} {wg : Nat → Int32} {Q : pq} {aI aC aJ aW aB aP ab : Nat} {fI fC : Nat → Option Nat} {jn wn bk qb : Nat → Int32} {ia aa ca : Nat → Nat} {k b : Nat} {e e0 : va_E}
theorem RB.rx (h : RB T σ x n R nc CR wg Q aI aC aJ aW aB aP ab fI fC jn wn bk qb ia aa ca) : RX T σ x (n, R, nc, CR, wg, Q) := ⟨_, _, _, _, _, _, _, _, _, _, _, _, _, _, _, _, h⟩
theorem rxI.un (h : rxI T σ n R fI ia aa) (hb : σ b = some e0) (h1 : ∀ r w c, e0 ≠ xI r w c) (h2 : ∀ f, e0 ≠ aN T 4 f) : rxI T (wd_up σ b e) n R fI ia aa := by
  refine ⟨fun k hk => ?_, h.2⟩
  obtain ⟨g1, g2, g3, g4⟩ := h.1 k hk
  exact ⟨g1, wd_uk g2 (wd_ne g2 hb (fun z => h1 _ _ _ z.symm)), wd_uk g3 (wd_ne g3 hb (fun z => h2 _ z.symm)), wd_uk g4 (wd_ne g4 hb (fun z => h2 _ z.symm))⟩
theorem rxI.new (h : rxI T σ n R fI ia aa) (hb : σ b = none) : rxI T (wd_up σ b e) n R fI ia aa := by
  refine ⟨fun k hk => ?_, h.2⟩
  obtain ⟨g1, g2, g3, g4⟩ := h.1 k hk
  exact ⟨g1, wd_uk g2 (wd_nn g2 hb), wd_uk g3 (wd_nn g3 hb), wd_uk g4 (wd_nn g4 hb)⟩
theorem rxC.un (h : rxC σ nc CR fC ca) (hb : σ b = some e0) (h1 : ∀ c, e0 ≠ xC c) : rxC (wd_up σ b e) nc CR fC ca := fun k hk => ⟨(h k hk).1, wd_uk (h k hk).2 (wd_ne (h k hk).2 hb (fun z => h1 _ z.symm))⟩
theorem rxC.new (h : rxC σ nc CR fC ca) (hb : σ b = none) : rxC (wd_up σ b e) nc CR fC ca := fun k hk => ⟨(h k hk).1, wd_uk (h k hk).2 (wd_nn (h k hk).2 hb)⟩
theorem pz_same {q : pq} {σ0 : wd_S} (h : pz T σ0 σ aP ab q) : pz T σ σ aP ab q := ⟨h.1, h.2.1, h.2.2.1, fun _ _ _ => rfl⟩
theorem pz_un {q : pq} (h : pz T σ σ aP ab q) (hb : σ b = some e0) (h1 : ∀ v, e0 ≠ .inr (3, v)) (h2 : ∀ f, e0 ≠ aN T 30 f) : pz T (wd_up σ b e) (wd_up σ b e) aP ab q := ⟨wd_uk h.1 (wd_ne h.1 hb (fun z => h1 _ z.symm)), wd_uk h.2.1 (wd_ne h.2.1 hb (fun z => h2 _ z.symm)), h.2.2.1, fun _ _ _ => rfl⟩
theorem pz_new {q : pq} (h : pz T σ σ aP ab q) (hb : σ b = none) : pz T (wd_up σ b e) (wd_up σ b e) aP ab q := ⟨wd_uk h.1 (wd_nn h.1 hb), wd_uk h.2.1 (wd_nn h.2.1 hb), h.2.2.1, fun _ _ _ => rfl⟩
theorem cnt_up {r : Nat → Int32} {f : Nat} {c : Int32} : ∀ (n : Nat), r f = R k f → cnt (va_up R k r) f c n = cnt R f c n
  | 0, _ => rfl
  | n + 1, h => by
    show cnt (va_up R k r) f c n + (if va_up R k r n f = c then 1 else 0) = cnt R f c n + (if R n f = c then 1 else 0)
    rw [cnt_up n h]
    by_cases hn : n = k
    · subst hn; rw [va_up_self, h]
    · rw [va_up_ne _ _ hn]
theorem rxN.up {r : Nat → Int32} (h : rxN n R wg jn wn bk) (h1 : r 10 = R k 10) (h2 : r 11 = R k 11) : rxN n (va_up R k r) wg jn wn bk := ⟨fun c a b => by rw [cnt_up n h1]; exact h.1 c a b, fun c a b => by rw [cnt_up n h2]; exact h.2.1 c a b, h.2.2⟩
/-- an item's own cell is written -/
theorem rxI.up {r : Nat → Int32} (h : rxI T σ n R fI ia aa) (hk : k < n) (hr : ∀ j, 15 ≤ j → r j = R k j) : rxI T (wd_up σ (ia k) (xI r (aa (2 * k)) (aa (2 * k + 1)))) n (va_up R k r) fI ia aa := by
  refine ⟨fun j hj => ?_, h.2⟩
  obtain ⟨g1, g2, g3, g4⟩ := h.1 j hj
  have hka := (h.1 k hk).2.1
  have n3 : aa (2 * j) ≠ ia k := wd_ne g3 hka (by simp)
  have n4 : aa (2 * j + 1) ≠ ia k := wd_ne g4 hka (by simp)
  by_cases hjk : j = k
  · subst hjk
    rw [va_up_self]
    refine ⟨g1, wd_us _ _ _, wd_uk ?_ n3, wd_uk ?_ n4⟩
    · rw [g3, show (fun z => R j (15 + 2 * z)) = fun z => r (15 + 2 * z) from funext fun z => (hr _ (by omega)).symm]
    · rw [g4, show (fun z => R j (16 + 2 * z)) = fun z => r (16 + 2 * z) from funext fun z => (hr _ (by omega)).symm]
  · rw [va_up_ne _ _ hjk]
    exact ⟨g1, wd_uk g2 (fun z => hjk (h.2.1 j k hj hk z)), wd_uk g3 n3, wd_uk g4 n4⟩
theorem RB.item {r : Nat → Int32} (h : RB T σ x n R nc CR wg Q aI aC aJ aW aB aP ab fI fC jn wn bk qb ia aa ca) (hk : k < n) (h1 : r 10 = R k 10) (h2 : r 11 = R k 11) (hr : ∀ j, 15 ≤ j → r j = R k j) : RB T (wd_up σ (ia k) (xI r (aa (2 * k)) (aa (2 * k + 1)))) x n (va_up R k r) nc CR wg Q aI aC aJ aW aB aP ab fI fC jn wn bk qb ia aa ca := by
  obtain ⟨a1, a2, a3, a4, a5, a6, a7, a8, a9, a10, a11, a12⟩ := h
  have hka := (a9.1 k hk).2.1
  exact ⟨wd_uk a1 (wd_ne a1 hka (by simp)), wd_uk a2 (wd_ne a2 hka (by simp)), wd_uk a3 (wd_ne a3 hka (by simp)), wd_uk a4 (wd_ne a4 hka (by simp)), wd_uk a5 (wd_ne a5 hka (by simp)), wd_uk a6 (wd_ne a6 hka (by simp)), pz_un a7 hka (by simp) (by simp), a8, a9.up hk hr, a10.un hka (by simp), a11.up h1 h2, a12⟩
end RX
/-! WHAT THE CALLS ANSWER, and what the state is then -/
def o_find (n : Nat) (i : Int32) : Option Nat := if xw i 1 (nI n) = 0 then none else some (i - 1).toNatClampNeg
def o_upd (S : xS) (i : Int32) (f : (Nat → Int32) → Int32 × (Nat → Int32)) : Int32 × xS := match o_find S.1 i with
  | none => (-101, S)
  | some k => ((f (S.2.1 k)).1, (S.1, va_up S.2.1 k (f (S.2.1 k)).2, S.2.2))
theorem o_upd_none {S : xS} {i : Int32} {f : (Nat → Int32) → Int32 × (Nat → Int32)} (h : o_find S.1 i = none) : o_upd S i f = (-101, S) := by unfold o_upd; rw [h]
theorem o_upd_some {S : xS} {i : Int32} {f : (Nat → Int32) → Int32 × (Nat → Int32)} {k : Nat} (h : o_find S.1 i = some k) : o_upd S i f = ((f (S.2.1 k)).1, (S.1, va_up S.2.1 k (f (S.2.1 k)).2, S.2.2)) := by unfold o_upd; rw [h]
theorem va_up_id {α : Type} (f : Nat → α) (k : Nat) : va_up f k (f k) = f := by
  funext j
  by_cases h : j = k
  · subst h; rw [va_up_self]
  · rw [va_up_ne _ _ h]
theorem upd_hi {r : Nat → Int32} {f : Nat} {v : Int32} {j : Nat} (hf : f < 15) (hj : 15 ≤ j) : upd r f v j = r j := pk_un (by omega)
theorem o_in {n : Nat} {i : Int32} (hn : n ≤ 120) (h : ¬ xw i 1 (nI n) = 0) : ∃ k, k < n ∧ i - 1 = nI k ∧ i = nI (k + 1) := by
  obtain ⟨h1, h2⟩ := xw_out h
  have h0 : ¬ i < 0 := fun z => h1 (by
    rw [Int32.lt_iff_toInt_lt] at z ⊢
    have e0 : (0 : Int32).toInt = 0 := rfl
    have e1 : (1 : Int32).toInt = 1 := rfl
    omega)
  obtain ⟨j, hj, rfl⟩ := nI_of h0
  have h3 : 1 ≤ j := by
    rcases Nat.lt_or_ge j 1 with q | q
    · exact absurd (nI_lt (a := j) (b := 1) q (by decide)) h1
    · exact q
  have h4 : j ≤ n := by
    rcases Nat.lt_or_ge n j with q | q
    · exact absurd (nI_lt q hj) h2
    · exact q
  obtain ⟨k, rfl⟩ : ∃ k, j = k + 1 := ⟨j - 1, by omega⟩
  exact ⟨k, by omega, nI_pred k, rfl⟩
theorem o_find_some {n k : Nat} {i : Int32} (hn : n ≤ 120) (h : o_find n i = some k) : k < n ∧ i - 1 = nI k ∧ i = nI (k + 1) := by
  unfold o_find at h
  by_cases hc : xw i 1 (nI n) = 0
  · rw [if_pos hc] at h; cases h
  · rw [if_neg hc] at h
    obtain ⟨j, h1, h2, h3⟩ := o_in hn hc
    rw [h2, nI_clamp (by omega)] at h
    cases h
    exact ⟨h1, h2, h3⟩
def f_srv (t : Int32) (r : Nat → Int32) : Int32 × (Nat → Int32) := if xw t 0 5 = 0 then (-102, r) else if xh (r 4) t = 0 then (if xe (r 5) = 0 then (if xl (r 4) t = -1 then (if xk r t = 0 then (bc (r 4 ||| (1 <<< (t &&& 31))), upd r 4 (r 4 ||| (1 <<< (t &&& 31)))) else (-111, r)) else (-200 - xl (r 4) t, r)) else (-103, r)) else (-103, r)
def anyw (R : Nat → Nat → Int32) (c : Int32) : Nat → Bool
  | 0 => false
  | n + 1 => anyw R c n || decide (R n 10 = c ∧ ¬ R n 5 = 4 ∧ xe (R n 5) = 0)
def o_mw (n : Nat) (R : Nat → Nat → Int32) (wg : Nat → Int32) (c : Int32) : Int32 := if xw c 1 30 = 0 then 0 else if wg c.toNatClampNeg = 0 then 0 else if anyw R c n = true then 1 else 0
def f_evt (mw : Int32 → Int32) (ev : Int32) (r : Nat → Int32) : Int32 × (Nat → Int32) := if xw ev 0 10 = 0 then (-102, r) else if xe (r 5) = 0 then (if xb r ev = -1 then (-103, r) else if ev = 2 ∧ ¬ r 9 = 0 ∧ r 14 = 0 then (-106, r) else if ev = 4 ∧ r 5 = 4 ∧ ¬ mw (r 10) = 0 then (-107, r) else (xb r ev, xu r ev (xb r ev))) else (-105, upd r 12 (r 12 + 1))
def f_adr (wh en : Int32) (r : Nat → Int32) : Int32 × (Nat → Int32) := if xw wh 0 1 = 0 then (-102, r) else if xw en 0 9999 = 0 then (-102, r) else if xe (r 5) = 0 then (if r 8 = -1 then (if wh = 0 then (r 7, upd r 7 en) else (r 8, upd r 8 en)) else (-103, r)) else (-103, r)
def f_abr (la : Int32) (r : Nat → Int32) : Int32 × (Nat → Int32) := if xw la 1 30 = 0 then (-102, r) else if r 9 = 0 then (if r 5 = 0 then (1, upd r 9 la) else if r 5 = 1 then (1, upd r 9 la) else (-103, r)) else (-103, r)
def f_con (wh ce : Int32) (r : Nat → Int32) : Int32 × (Nat → Int32) := if xw wh 0 99 = 0 then (-102, r) else if xw ce 0 100000 = 0 then (-102, r) else if r 9 = 0 then (-103, r) else if xe (r 5) = 0 then (if r 14 < 4 then (r 14 + 1, upd (upd (upd r (15 + 2 * (r 14).toNatClampNeg) wh) (16 + 2 * (r 14).toNatClampNeg) ce) 14 (r 14 + 1)) else (-104, r)) else (-103, r)
def f_opn (a b : Int32) (r : Nat → Int32) : Int32 × (Nat → Int32) := if xw a 0 19 = 0 then (-102, r) else if xw b 0 19 = 0 then (-102, r) else if r 5 = 8 then (if r 6 = 0 then (if a = b then (-108, r) else (1, upd (upd (upd r 5 1) 8 (-1)) 13 (100 * a + b))) else (-103, r)) else (-103, r)
def f_abt (wh : Int32) (r : Nat → Int32) : Int32 × (Nat → Int32) := if xw wh 0 13 = 0 then (-102, r) else (xf r wh, r)
theorem xw_le {c a b : Int32} {n : Nat} (h : ¬ xw c a b = 0) (hb : b.toInt = n) : c.toNatClampNeg ≤ n := by
  have h2 := (xw_out h).2
  rw [Int32.lt_iff_toInt_lt] at h2
  show c.toInt.toNat ≤ n
  omega
theorem ix_c {j n : Nat} (hn : n < 2 ^ 31) (hj : j ≤ n) (c : ¬ nI n ≤ nI j) : j < n := by
  rcases Nat.lt_or_ge j n with q | q
  · exact q
  · exact absurd (nI_le q (by omega)) c
theorem ix_d {j n : Nat} (hn : n < 2 ^ 31) (hj : j ≤ n) (c : nI n ≤ nI j) : j = n := by
  rcases Nat.lt_or_ge j n with q | q
  · exact absurd c (nI_ge q hn)
  · omega
theorem anyw_t {R : Nat → Nat → Int32} {c : Int32} {j : Nat} (h1 : R j 10 = c) (h2 : ¬ R j 5 = 4) (h3 : xe (R j 5) = 0) : ∀ n, j < n → anyw R c n = true
  | 0, h => absurd h (Nat.not_lt_zero _)
  | n + 1, h => by
    show (anyw R c n || decide (R n 10 = c ∧ ¬ R n 5 = 4 ∧ xe (R n 5) = 0)) = true
    by_cases hj : j = n
    · subst hj; simp [h1, h2, h3]
    · rw [anyw_t h1 h2 h3 n (by omega)]; rfl
theorem anyw_f {R : Nat → Nat → Int32} {c : Int32} {j : Nat} (h : anyw R c j = false) (h2 : ¬ (R j 10 = c ∧ ¬ R j 5 = 4 ∧ xe (R j 5) = 0)) : anyw R c (j + 1) = false := by
  show (anyw R c j || decide (R j 10 = c ∧ ¬ R j 5 = 4 ∧ xe (R j 5) = 0)) = false
  rw [h, decide_eq_false h2]; rfl
def o_row (nc : Nat) (CR : Nat → Nat → Int32) (i wh : Int32) : Int32 := if xw i 0 (nI nc - 1) = 0 then -1 else xp (CR i.toNatClampNeg) wh
theorem r_in {n : Nat} {i : Int32} (hn : n < 1000) (h : ¬ xw i 0 (nI n - 1) = 0) : ∃ k, k < n ∧ i = nI k := by
  obtain ⟨h1, h2⟩ := xw_out h
  obtain ⟨j, hj, rfl⟩ := nI_of h1
  refine ⟨j, ?_, rfl⟩
  rcases Nat.lt_or_ge j n with q | q
  · exact q
  · refine absurd ?_ h2
    cases n with
    | zero => exact Int32.lt_iff_toInt_lt.mpr (by rw [nI_toInt hj]; show (-1 : Int) < _; omega)
    | succ n => rw [nI_pred]; exact nI_lt (by omega) hj
def o_oct (Q : pq) (i : Int32) : Int32 := if xw i 0 (nI Q.2 - 1) = 0 then -1 else Q.1 i.toNatClampNeg
theorem xo_eq {q Q : pq} (h : agr q Q) (hq : q.2 ≤ 30) (i : Int32) : xo q i = o_oct Q i := by
  unfold xo o_oct
  rw [h.1]
  by_cases hc : xw i 0 (nI Q.2 - 1) = 0
  · rw [if_pos hc, if_pos hc]
  · rw [if_neg hc, if_neg hc]
    have h30 : Q.2 ≤ 30 := by rw [← h.1]; exact hq
    obtain ⟨k, hk, rfl⟩ := r_in (by omega) hc
    rw [if_pos (show nI k < (30 : Int32) from nI_lt (a := k) (b := 30) (by omega) (by decide)), nI_clamp (by omega)]
    exact h.2 k (by rw [h.1]; exact hk)
/-- the i-th that is set aside: m items are left to look at, the next is k, b were found -/
def asf (R : Nat → Nat → Int32) (i : Int32) : Nat → Nat → Nat → Int32
  | 0, _, _ => -1
  | m + 1, k, b => if xa (R k 6) (R k 5) = 0 then asf R i m (k + 1) b else if nI b = i then nI (k + 1) else asf R i m (k + 1) (b + 1)
def o_asd (n : Nat) (R : Nat → Nat → Int32) (i : Int32) : Int32 := if i < 0 then -1 else asf R i n 0 0
theorem agr_pa {q q' : pq} (h : agr q q') (v : Int32) : agr (pa q v) (pa q' v) := by
  obtain ⟨h1, h2⟩ := h
  unfold pa
  rw [h1]
  by_cases hc : (30 : Int32) ≤ nI q'.2
  · rw [if_pos hc, if_pos hc]; exact ⟨h1, h2⟩
  · rw [if_neg hc, if_neg hc]
    refine ⟨rfl, fun j hj => ?_⟩
    show upd q.1 q'.2 _ j = upd q'.1 q'.2 _ j
    have hj : j < q'.2 + 1 := hj
    by_cases hjq : j = q'.2
    · subst hjq; rw [pk_us, pk_us]
    · rw [pk_un hjq, pk_un hjq]; exact h2 j (by omega)
theorem agr_p2 {q q' : pq} (h : agr q q') (v : Int32) : agr (p2 q v) (p2 q' v) := agr_pa (agr_pa h _) _
theorem agr_pe {q q' : pq} (h : agr q q') (v : Int32) : agr (pe q v) (pe q' v) := agr_p2 h _
theorem agr_pc1 {q q' : pq} (h : agr q q') (r : Nat → Int32) (k : Nat) : agr (pc1 r q k) (pc1 r q' k) := agr_p2 (agr_pa (agr_pa h _) _) _
theorem agr_pc {q q' : pq} (h : agr q q') (r : Nat → Int32) : agr (pc r q) (pc r q') := by
  unfold pc
  split
  · exact h
  · split
    · exact agr_pc1 h r 0
    · split
      · exact agr_pc1 (agr_pc1 h r 0) r 1
      · split
        · exact agr_pc1 (agr_pc1 (agr_pc1 h r 0) r 1) r 2
        · exact agr_pc1 (agr_pc1 (agr_pc1 (agr_pc1 h r 0) r 1) r 2) r 3
theorem agr_px {f g : Nat → Int32} : ∀ n, (∀ j, j < n → f j = g j) → px f n = px g n
  | 0, _ => rfl
  | n + 1, h => by
    show px f n ^^^ f n = px g n ^^^ g n
    rw [agr_px n (fun j hj => h j (by omega)), h n (by omega)]
theorem agr_ph (f g : Nat → Int32) (num : Int32) (r : Nat → Int32) : agr (ph f num r) (ph g num r) := by
  unfold ph
  apply agr_pa
  apply agr_pa
  apply agr_pe
  apply agr_pe
  apply agr_pa
  apply agr_pa
  apply agr_p2
  apply agr_pa
  apply agr_p2
  exact ⟨rfl, fun j hj => absurd hj (Nat.not_lt_zero j)⟩
theorem agr_pf (f g : Nat → Int32) (num : Int32) (r : Nat → Int32) : agr (pf f num r) (pf g num r) := by
  have h := agr_pc (agr_ph f g num r) r
  unfold pf
  rw [show px (pc r (ph f num r)).1 (pc r (ph f num r)).2 = px (pc r (ph g num r)).1 (pc r (ph g num r)).2 from by rw [← h.1]; exact agr_px _ h.2]
  exact agr_pa h _
section RX2
variable {T : Nat → ClassId} {σ σ' : wd_S} {x n : Nat} {R : Nat → Nat → Int32} {nc : Nat} {CR : Nat → Nat → Int32} {wg : Nat → Int32} {Q Q' q : pq} {aI aC aJ aW aB aP ab : Nat} {fI fC : Nat → Option Nat} {jn wn bk qb : Nat → Int32} {ia aa ca : Nat → Nat} {k b : Nat} {e e0 : va_E}
theorem RB.pack (h : RB T σ x n R nc CR wg Q aI aC aJ aW aB aP ab fI fC jn wn bk qb ia aa ca) (hp : pz T σ σ' aP ab q) (ha : agr q Q') : RB T σ' x n R nc CR wg Q' aI aC aJ aW aB aP ab fI fC jn wn bk q.1 ia aa ca := by
  obtain ⟨a1, a2, a3, a4, a5, a6, a7, a8, a9, a10, a11, a12⟩ := h
  have hk : ∀ {z : Nat} {e : va_E}, σ z = some e → (∀ v, e ≠ .inr (3, v)) → (∀ f, e ≠ aN T 30 f) → σ' z = some e := fun {z e} hz h1 h2 => (hp.2.2.2 z (wd_ne hz a7.1 (h1 _)) (wd_ne hz a7.2.1 (h2 _))).trans hz
  refine ⟨hk a1 (by simp) (by simp), hk a2 (by simp) (by simp), hk a3 (by simp) (by simp), hk a4 (by simp) (by simp), hk a5 (by simp) (by simp), hk a6 (by simp) (by simp), ?_, ?_, ⟨fun k hk' => ?_, a9.2⟩, fun k hk' => ⟨(a10 k hk').1, hk (a10 k hk').2 (by simp) (by simp)⟩, a11, a12⟩
  · rw [← ha.1]; exact pz_same hp
  · rw [← ha.1]; exact ha
  · obtain ⟨g1, g2, g3, g4⟩ := a9.1 k hk'
    exact ⟨g1, hk g2 (by simp) (by simp), hk g3 (by simp) (by simp), hk g4 (by simp) (by simp)⟩
end RX2
def o_pack (S : xS) (i : Int32) : Int32 × xS := match o_find S.1 i with
  | none => (-101, S)
  | some k => (nI (pf S.2.2.2.2.2.1 i (S.2.1 k)).2, (S.1, S.2.1, S.2.2.1, S.2.2.2.1, S.2.2.2.2.1, pf S.2.2.2.2.2.1 i (S.2.1 k)))
theorem o_pack_none {S : xS} {i : Int32} (h : o_find S.1 i = none) : o_pack S i = (-101, S) := by unfold o_pack; rw [h]
theorem o_pack_some {S : xS} {i : Int32} {k : Nat} (h : o_find S.1 i = some k) : o_pack S i = (nI (pf S.2.2.2.2.2.1 i (S.2.1 k)).2, (S.1, S.2.1, S.2.2.1, S.2.2.2.1, S.2.2.2.2.1, pf S.2.2.2.2.2.1 i (S.2.1 k))) := by unfold o_pack; rw [h]
end
section
theorem o_vp {n : Nat} {i : Int32} (hn : n ≤ 120) (h : ¬ xw i 1 (nI n) = 0) : vp_in (i - 1) 120 := by
  obtain ⟨k, h1, h2, h3⟩ := o_in hn h
  rw [h2]
  exact vp_in_nI (by omega) (by decide)

set_option maxHeartbeats 4000000 in
set_option maxRecDepth 20000 in
theorem c_F_find (l : Launch) (D : va_G) (T : Nat → ClassId) (A : Nat → Prop) (σ : wd_S) (x aI n : Nat) (fI : Nat → Option Nat) (ia : Nat → Nat) (v2 v3 v4 v5 v6 v7 : Value) (b1 : σ x = some (.inr (0, [.ref aI, .int (nI n), v2, v3, v4, v5, v6, v7]))) (b2 : σ aI = some (aQ T 2 120 fI)) (hn : n ≤ 120) (hf : ∀ k, k < n → fI k = some (ia k)) (i : Int32) : Met l y_F_find (Cond.code y_F_find b_F_find 2 (some (.object "ItemFacts$Item")) :: wd_tb) { frames := 1, cells := 0, slots := 0, locals := 22 } (va_Pc [.ref x, .int i] (wd_Pre D T A σ)) (va_Qq (fun r1 σ1 => r1 = (o_find n i).map ia ∧ σ1 = σ) (wd_B D A) A) 0 0 A := by
  refine wd_ofW (by decide) (Nat.le_of_ble_eq_true rfl) ?_
  intro p e s m below meth c0 ls C hr hlocks hname h hl
  have hl : lv_has ls 2 [(0, .ref x), (1, .int i)] := hl
  have hx := C.1
  have hb := C.2.1
  refine lv_iload_n hx hb d_F_find_0 rfl (lv_at hl 1 rfl) ?_
  refine lv_iconst (v := 1) hx hb d_F_find_1 (by decide) ?_
  refine lv_aload_n hx hb d_F_find_2 rfl (lv_at hl 0 rfl) ?_
  refine wd_get C h kc_F b1 1 (by decide) lk_F_15 rfl d_F_find_3 ?_
  refine wd_ci h (wd_rS (rest := []) (st0 := [.int (nI n), .int 1, .int i]) C h k_F_within wt_F_within lk_F_46 (c_F_within l D T A σ i 1 (nI n)) rfl rfl ⟨Nat.le_of_ble_eq_true rfl, Nat.le_of_ble_eq_true rfl⟩ rfl hl.1 rfl (Nat.le_of_ble_eq_true rfl) d_F_find_6 ⟨Nat.le_of_ble_eq_true rfl, Nat.le_of_ble_eq_true rfl⟩) (fun r_1 σ_2 H locs hp_3 h => ?_)
  obtain ⟨e_4, es_5⟩ := hp_3
  rw [es_5] at h
  subst e_4
  refine lv_if_ne (tgt := 14) hx hb d_F_find_9 (by decide) (fun c_6 => ?_) (fun c_6 => ?_)
  · refine lv_aload_n hx hb d_F_find_14 rfl (lv_at hl 0 rfl) ?_
    refine wd_get C h kc_F b1 0 (by decide) lk_F_11 rfl d_F_find_15 ?_
    refine lv_iload_n hx hb d_F_find_18 rfl (lv_at hl 1 rfl) ?_
    refine lv_iconst (v := 1) hx hb d_F_find_19 (by decide) ?_
    refine lv_isub hx hb d_F_find_20 ?_
    refine wd_aldq C h 2 rfl b2 (o_vp hn c_6) d_F_find_21 ?_
    exact wd_aret (x := (fI (i - 1).toNatClampNeg)) C hr hlocks h (⟨by obtain ⟨k, h1, h2, h3⟩ := o_in hn c_6; rw [show o_find n i = some k from by simp [o_find, c_6, h2, nI_clamp (show k < 2 ^ 31 by omega)], h2, nI_clamp (show k < 2 ^ 31 by omega), hf k h1]; rfl, rfl⟩) (Nat.le_of_ble_eq_true rfl) (Nat.le_of_ble_eq_true rfl) d_F_find_22
  · refine lv_null hx hb d_F_find_12 ?_
    exact wd_aret (x := none) C hr hlocks h (⟨by simp [o_find, c_6], rfl⟩) (Nat.le_of_ble_eq_true rfl) (Nat.le_of_ble_eq_true rfl) d_F_find_13

set_option maxHeartbeats 4000000 in
set_option maxRecDepth 20000 in
theorem c_F_service (l : Launch) (D : va_G) (T : Nat → ClassId) (A : Nat → Prop) (σ : wd_S) (x n : Nat) (R : Nat → Nat → Int32) (nc : Nat) (CR : Nat → Nat → Int32) (wg : Nat → Int32) (Q : pq) (aI aC aJ aW aB aP ab : Nat) (fI fC : Nat → Option Nat) (jn wn bk qb : Nat → Int32) (ia aa ca : Nat → Nat) (hB : RB T σ x n R nc CR wg Q aI aC aJ aW aB aP ab fI fC jn wn bk qb ia aa ca) (i t : Int32) : Met l y_F_service (Cond.code y_F_service b_F_service 5 (some .int) :: wd_tb) { frames := 2, cells := 0, slots := 0, locals := 45 } (va_Pc [.ref x, .int i, .int t] (wd_Pre D T A σ)) (va_Qi (fun r1 σ1 => r1 = (o_upd (n, R, nc, CR, wg, Q) i (f_srv t)).1 ∧ RX T σ1 x (o_upd (n, R, nc, CR, wg, Q) i (f_srv t)).2) (wd_B D A) A) 0 0 A := by
  refine wd_ofW (by decide) (Nat.le_of_ble_eq_true rfl) ?_
  intro p e s m below meth c0 ls C hr hlocks hname h hl
  have hl : lv_has ls 5 [(0, .ref x), (1, .int i), (2, .int t)] := hl
  have hx := C.1
  have hb := C.2.1
  obtain ⟨b1, b2, b3, b4, b5, b6, b7, b8, b9, b10, b11, b12, b13, b14⟩ := id hB
  refine lv_aload_n hx hb d_F_service_0 rfl (lv_at hl 0 rfl) ?_
  refine lv_iload_n hx hb d_F_service_1 rfl (lv_at hl 1 rfl) ?_
  refine wd_cq h (wd_rV (rest := []) (st0 := [.int i, .ref x]) C h kc_F b1 k_F_find wm_F_find wz_F_find lk_F_64 (c_F_find l D T A σ x aI n fI ia _ _ _ _ _ _ b1 b2 b12 (fun k hk => (b9.1 k hk).1) i) rfl rfl ⟨Nat.le_of_ble_eq_true rfl, Nat.le_of_ble_eq_true rfl⟩ rfl hl.1 rfl (Nat.le_of_ble_eq_true rfl) d_F_service_2 ⟨Nat.le_of_ble_eq_true rfl, Nat.le_of_ble_eq_true rfl⟩) (fun r_1 σ_2 H locs hp_3 h => ?_)
  obtain ⟨e_4, es_5⟩ := hp_3
  rw [es_5] at h
  rw [e_4]
  rcases hf : o_find n i with _ | k
  · refine W.eq (g2 := F0 m 5 ls [.null]) rfl ?_
    refine lv_astore_nN (lv' := [(3, .null), (0, .ref x), (1, .int i), (2, .int t)]) hx hb d_F_service_5 rfl hl (by decide) rfl (fun ls hl => ?_)
    refine lv_aload_nN hx hb d_F_service_6 rfl (lv_at hl 0 rfl) ?_
    refine lv_ifnonnullN hx hb d_F_service_7 ?_
    refine lv_bipush (v := (-101)) hx hb d_F_service_10 (by decide) ?_
    exact wd_iret C hr hlocks h (by rw [o_upd_none (S := (n, R, nc, CR, wg, Q)) hf]; exact ⟨rfl, hB.rx⟩) (Nat.le_of_ble_eq_true rfl) (Nat.le_of_ble_eq_true rfl) d_F_service_12
  · refine W.eq (g2 := F0 m 5 ls [.ref (ia k)]) rfl ?_
    obtain ⟨hk, hik1, hik⟩ := o_find_some b12 hf
    obtain ⟨g1, g2, g3, g4⟩ := b9.1 k hk
    refine lv_astore_n (lv' := [(3, .ref (ia k)), (0, .ref x), (1, .int i), (2, .int t)]) hx hb d_F_service_5 rfl hl (by decide) rfl (fun ls hl => ?_)
    refine lv_aload_n hx hb d_F_service_6 rfl (lv_at hl 0 rfl) ?_
    refine lv_ifnonnull (tgt := 13) hx hb d_F_service_7 (by decide) ?_
    refine lv_iload_n hx hb d_F_service_13 rfl (lv_at hl 3 rfl) ?_
    refine lv_iconst (v := 0) hx hb d_F_service_14 (by decide) ?_
    refine lv_iconst (v := 5) hx hb d_F_service_15 (by decide) ?_
    refine wd_ci h (wd_rS (rest := []) (st0 := [.int 5, .int 0, .int t]) C h k_F_within wt_F_within lk_F_46 (c_F_within l D T A σ t 0 5) rfl rfl ⟨Nat.le_of_ble_eq_true rfl, Nat.le_of_ble_eq_true rfl⟩ rfl hl.1 rfl (Nat.le_of_ble_eq_true rfl) d_F_service_16 ⟨Nat.le_of_ble_eq_true rfl, Nat.le_of_ble_eq_true rfl⟩) (fun r_6 σ_7 H locs hp_8 h => ?_)
    obtain ⟨e_9, es_10⟩ := hp_8
    rw [es_10] at h
    subst e_9
    refine lv_if_ne (tgt := 25) hx hb d_F_service_19 (by decide) (fun c_11 => ?_) (fun c_11 => ?_)
    · refine lv_aload_n hx hb d_F_service_25 rfl (lv_at hl 0 rfl) ?_
      refine lv_iload_n hx hb d_F_service_26 rfl (lv_at hl 3 rfl) ?_
      refine wd_ci h (wd_rVN (rest := []) (st0 := [.int t, .ref (ia k)]) C h kc_I g2 k_I_has wm_I_has wz_I_has lk_F_68 (c_I_has l D T A σ (ia k) (R k) (aa (2 * k)) (aa (2 * k + 1)) g2 t) rfl rfl ⟨Nat.le_of_ble_eq_true rfl, Nat.le_of_ble_eq_true rfl⟩ rfl hl.1 rfl (Nat.le_of_ble_eq_true rfl) d_F_service_27 ⟨Nat.le_of_ble_eq_true rfl, Nat.le_of_ble_eq_true rfl⟩) (fun r_12 σ_13 H locs hp_14 h => ?_)
      obtain ⟨e_15, es_16⟩ := hp_14
      rw [es_16] at h
      subst e_15
      refine lv_if_ne (tgt := 40) hx hb d_F_service_30 (by decide) (fun c_17 => ?_) (fun c_17 => ?_)
      · refine lv_bipush (v := (-103)) hx hb d_F_service_40 (by decide) ?_
        exact wd_iret C hr hlocks h (by rw [o_upd_some (S := (n, R, nc, CR, wg, Q)) hf, show f_srv t (R k) = ((-103), (R k)) from by simp [f_srv, eq_false c_11, eq_false c_17]]; exact ⟨rfl, by rw [va_up_id]; exact hB.rx⟩) (Nat.le_of_ble_eq_true rfl) (Nat.le_of_ble_eq_true rfl) d_F_service_42
      · refine lv_aload_n hx hb d_F_service_33 rfl (lv_at hl 0 rfl) ?_
        refine wd_ci h (wd_rVN (rest := []) (st0 := [.ref (ia k)]) C h kc_I g2 k_I_isAtEnd wm_I_isAtEnd wz_I_isAtEnd lk_F_72 (c_I_isAtEnd l D T A σ (ia k) (R k) (aa (2 * k)) (aa (2 * k + 1)) g2 ) rfl rfl ⟨Nat.le_of_ble_eq_true rfl, Nat.le_of_ble_eq_true rfl⟩ rfl hl.1 rfl (Nat.le_of_ble_eq_true rfl) d_F_service_34 ⟨Nat.le_of_ble_eq_true rfl, Nat.le_of_ble_eq_true rfl⟩) (fun r_18 σ_19 H locs hp_20 h => ?_)
        obtain ⟨e_21, es_22⟩ := hp_20
        rw [es_22] at h
        subst e_21
        refine lv_if_eq (tgt := 43) hx hb d_F_service_37 (by decide) (fun c_23 => ?_) (fun c_23 => ?_)
        · refine lv_aload_n hx hb d_F_service_43 rfl (lv_at hl 0 rfl) ?_
          refine lv_iload_n hx hb d_F_service_44 rfl (lv_at hl 3 rfl) ?_
          refine wd_ci h (wd_rVN (rest := []) (st0 := [.int t, .ref (ia k)]) C h kc_I g2 k_I_leastExcluding wm_I_leastExcluding wz_I_leastExcluding lk_F_76 (c_I_leastExcluding l D T A σ (ia k) (R k) (aa (2 * k)) (aa (2 * k + 1)) g2 t) rfl rfl ⟨Nat.le_of_ble_eq_true rfl, Nat.le_of_ble_eq_true rfl⟩ rfl hl.1 rfl (Nat.le_of_ble_eq_true rfl) d_F_service_45 ⟨Nat.le_of_ble_eq_true rfl, Nat.le_of_ble_eq_true rfl⟩) (fun r_24 σ_25 H locs hp_26 h => ?_)
          obtain ⟨e_27, es_28⟩ := hp_26
          rw [es_28] at h
          subst e_27
          refine lv_istore (lv' := [(4, .int (xl (R k 4) t)), (3, .ref (ia k)), (0, .ref x), (1, .int i), (2, .int t)]) hx hb d_F_service_48 hl (by decide) rfl (fun ls hl => ?_)
          refine lv_iload hx hb d_F_service_50 (lv_at hl 0 rfl) ?_
          refine lv_iconst (v := (-1)) hx hb d_F_service_52 (by decide) ?_
          refine lv_icmp_eq (tgt := 63) hx hb d_F_service_53 (by decide) (fun c_29 => ?_) (fun c_29 => ?_)
          · refine lv_aload_n hx hb d_F_service_63 rfl (lv_at hl 1 rfl) ?_
            refine lv_iload_n hx hb d_F_service_64 rfl (lv_at hl 4 rfl) ?_
            refine wd_ci h (wd_rVN (rest := []) (st0 := [.int t, .ref (ia k)]) C h kc_I g2 k_I_lacksWhatIsWanted wm_I_lacksWhatIsWanted wz_I_lacksWhatIsWanted lk_F_80 (c_I_lacksWhatIsWanted l D T A σ (ia k) (R k) (aa (2 * k)) (aa (2 * k + 1)) g2 t) rfl rfl ⟨Nat.le_of_ble_eq_true rfl, Nat.le_of_ble_eq_true rfl⟩ rfl hl.1 rfl (Nat.le_of_ble_eq_true rfl) d_F_service_65 ⟨Nat.le_of_ble_eq_true rfl, Nat.le_of_ble_eq_true rfl⟩) (fun r_30 σ_31 H locs hp_32 h => ?_)
            obtain ⟨e_33, es_34⟩ := hp_32
            rw [es_34] at h
            subst e_33
            refine lv_if_eq (tgt := 74) hx hb d_F_service_68 (by decide) (fun c_35 => ?_) (fun c_35 => ?_)
            · refine lv_aload_n hx hb d_F_service_74 rfl (lv_at hl 1 rfl) ?_
              refine lv_dup hx hb d_F_service_75 rfl ?_
              refine wd_getN C h kc_I g2 4 (by decide) lk_F_83 rfl d_F_service_76 ?_
              refine lv_iconst (v := 1) hx hb d_F_service_79 (by decide) ?_
              refine lv_iload_n hx hb d_F_service_80 rfl (lv_at hl 4 rfl) ?_
              refine lv_ishl hx hb d_F_service_81 ?_
              refine lv_ior hx hb d_F_service_82 ?_
              refine wd_putN C h kc_I g2 4 (by decide) lk_F_83 rfl (by rfl) (by rfl) (Nat.le_of_ble_eq_true rfl) d_F_service_83 (fun H locs h => ?_)
              have h : wd_C D T A s H locs (wd_up σ (ia k) (.inr (1, [.int (R k 0), .int (R k 1), .int (R k 2), .int (R k 3), .int ((R k 4) ||| (1 <<< (t &&& 31))), .int (R k 5), .int (R k 6), .int (R k 7), .int (R k 8), .int (R k 9), .int (R k 10), .int (R k 11), .int (R k 12), .int (R k 13), .int (R k 14), .ref (aa (2 * k)), .ref (aa (2 * k + 1))]))) := h
              have h_36 : (wd_up σ (ia k) (.inr (1, [.int (R k 0), .int (R k 1), .int (R k 2), .int (R k 3), .int ((R k 4) ||| (1 <<< (t &&& 31))), .int (R k 5), .int (R k 6), .int (R k 7), .int (R k 8), .int (R k 9), .int (R k 10), .int (R k 11), .int (R k 12), .int (R k 13), .int (R k 14), .ref (aa (2 * k)), .ref (aa (2 * k + 1))]))) (ia k) = some (.inr (1, [.int (R k 0), .int (R k 1), .int (R k 2), .int (R k 3), .int ((R k 4) ||| (1 <<< (t &&& 31))), .int (R k 5), .int (R k 6), .int (R k 7), .int (R k 8), .int (R k 9), .int (R k 10), .int (R k 11), .int (R k 12), .int (R k 13), .int (R k 14), .ref (aa (2 * k)), .ref (aa (2 * k + 1))])) := wd_us _ _ _
              have h_37 : (wd_up σ (ia k) (.inr (1, [.int (R k 0), .int (R k 1), .int (R k 2), .int (R k 3), .int ((R k 4) ||| (1 <<< (t &&& 31))), .int (R k 5), .int (R k 6), .int (R k 7), .int (R k 8), .int (R k 9), .int (R k 10), .int (R k 11), .int (R k 12), .int (R k 13), .int (R k 14), .ref (aa (2 * k)), .ref (aa (2 * k + 1))]))) x = some (.inr (0, [.ref aI, .int (nI n), .ref aC, .int (nI nc), .ref aJ, .ref aW, .ref aB, .ref aP])) := wd_uk b1 (wd_ne b1 g2 (by simp))
              refine lv_aload_n hx hb d_F_service_86 rfl (lv_at hl 1 rfl) ?_
              refine wd_getN C h kc_I h_36 4 (by decide) lk_F_83 rfl d_F_service_87 ?_
              refine wd_ci h (wd_rS (rest := []) (st0 := [.int ((R k 4) ||| (1 <<< (t &&& 31)))]) C h k_J_bitCount wt_J_bitCount lk_F_86 (c_J_bitCount l D T A (wd_up σ (ia k) (.inr (1, [.int (R k 0), .int (R k 1), .int (R k 2), .int (R k 3), .int ((R k 4) ||| (1 <<< (t &&& 31))), .int (R k 5), .int (R k 6), .int (R k 7), .int (R k 8), .int (R k 9), .int (R k 10), .int (R k 11), .int (R k 12), .int (R k 13), .int (R k 14), .ref (aa (2 * k)), .ref (aa (2 * k + 1))]))) ((R k 4) ||| (1 <<< (t &&& 31)))) rfl rfl ⟨Nat.le_of_ble_eq_true rfl, Nat.le_of_ble_eq_true rfl⟩ rfl hl.1 rfl (Nat.le_of_ble_eq_true rfl) d_F_service_90 ⟨Nat.le_of_ble_eq_true rfl, Nat.le_of_ble_eq_true rfl⟩) (fun r_38 σ_39 H locs hp_40 h => ?_)
              obtain ⟨e_41, es_42⟩ := hp_40
              rw [es_42] at h
              subst e_41
              exact wd_iret C hr hlocks h (by rw [o_upd_some (S := (n, R, nc, CR, wg, Q)) hf, show f_srv t (R k) = ((bc ((R k 4) ||| (1 <<< (t &&& 31)))), (upd (R k) 4 ((R k 4) ||| (1 <<< (t &&& 31))))) from by simp [f_srv, eq_false c_11, eq_true c_17, eq_true c_23, eq_true c_29, eq_true c_35]]; exact ⟨rfl, (hB.item (r := (upd (R k) 4 ((R k 4) ||| (1 <<< (t &&& 31))))) hk rfl rfl (fun j hj => upd_hi (by decide) hj)).rx⟩) (Nat.le_of_ble_eq_true rfl) (Nat.le_of_ble_eq_true rfl) d_F_service_93
            · refine lv_bipush (v := (-111)) hx hb d_F_service_71 (by decide) ?_
              exact wd_iret C hr hlocks h (by rw [o_upd_some (S := (n, R, nc, CR, wg, Q)) hf, show f_srv t (R k) = ((-111), (R k)) from by simp [f_srv, eq_false c_11, eq_true c_17, eq_true c_23, eq_true c_29, eq_false c_35]]; exact ⟨rfl, by rw [va_up_id]; exact hB.rx⟩) (Nat.le_of_ble_eq_true rfl) (Nat.le_of_ble_eq_true rfl) d_F_service_73
          · refine lv_sipush (v := (-200)) hx hb d_F_service_56 (by decide) ?_
            refine lv_iload hx hb d_F_service_59 (lv_at hl 0 rfl) ?_
            refine lv_isub hx hb d_F_service_61 ?_
            exact wd_iret C hr hlocks h (by rw [o_upd_some (S := (n, R, nc, CR, wg, Q)) hf, show f_srv t (R k) = (((-200) - (xl (R k 4) t)), (R k)) from by simp [f_srv, eq_false c_11, eq_true c_17, eq_true c_23, eq_false c_29]]; exact ⟨rfl, by rw [va_up_id]; exact hB.rx⟩) (Nat.le_of_ble_eq_true rfl) (Nat.le_of_ble_eq_true rfl) d_F_service_62
        · refine lv_bipush (v := (-103)) hx hb d_F_service_40 (by decide) ?_
          exact wd_iret C hr hlocks h (by rw [o_upd_some (S := (n, R, nc, CR, wg, Q)) hf, show f_srv t (R k) = ((-103), (R k)) from by simp [f_srv, eq_false c_11, eq_true c_17, eq_false c_23]]; exact ⟨rfl, by rw [va_up_id]; exact hB.rx⟩) (Nat.le_of_ble_eq_true rfl) (Nat.le_of_ble_eq_true rfl) d_F_service_42
    · refine lv_bipush (v := (-102)) hx hb d_F_service_22 (by decide) ?_
      exact wd_iret C hr hlocks h (by rw [o_upd_some (S := (n, R, nc, CR, wg, Q)) hf, show f_srv t (R k) = ((-102), (R k)) from by simp [f_srv, eq_true c_11]]; exact ⟨rfl, by rw [va_up_id]; exact hB.rx⟩) (Nat.le_of_ble_eq_true rfl) (Nat.le_of_ble_eq_true rfl) d_F_service_24

set_option maxHeartbeats 4000000 in
set_option maxRecDepth 20000 in
theorem c_F_address (l : Launch) (D : va_G) (T : Nat → ClassId) (A : Nat → Prop) (σ : wd_S) (x n : Nat) (R : Nat → Nat → Int32) (nc : Nat) (CR : Nat → Nat → Int32) (wg : Nat → Int32) (Q : pq) (aI aC aJ aW aB aP ab : Nat) (fI fC : Nat → Option Nat) (jn wn bk qb : Nat → Int32) (ia aa ca : Nat → Nat) (hB : RB T σ x n R nc CR wg Q aI aC aJ aW aB aP ab fI fC jn wn bk qb ia aa ca) (i wh en : Int32) : Met l y_F_address (Cond.code y_F_address b_F_address 6 (some .int) :: wd_tb) { frames := 2, cells := 0, slots := 0, locals := 43 } (va_Pc [.ref x, .int i, .int wh, .int en] (wd_Pre D T A σ)) (va_Qi (fun r1 σ1 => r1 = (o_upd (n, R, nc, CR, wg, Q) i (f_adr wh en)).1 ∧ RX T σ1 x (o_upd (n, R, nc, CR, wg, Q) i (f_adr wh en)).2) (wd_B D A) A) 0 0 A := by
  refine wd_ofW (by decide) (Nat.le_of_ble_eq_true rfl) ?_
  intro p e s m below meth c0 ls C hr hlocks hname h hl
  have hl : lv_has ls 6 [(0, .ref x), (1, .int i), (2, .int wh), (3, .int en)] := hl
  have hx := C.1
  have hb := C.2.1
  obtain ⟨b1, b2, b3, b4, b5, b6, b7, b8, b9, b10, b11, b12, b13, b14⟩ := id hB
  refine lv_aload_n hx hb d_F_address_0 rfl (lv_at hl 0 rfl) ?_
  refine lv_iload_n hx hb d_F_address_1 rfl (lv_at hl 1 rfl) ?_
  refine wd_cq h (wd_rV (rest := []) (st0 := [.int i, .ref x]) C h kc_F b1 k_F_find wm_F_find wz_F_find lk_F_64 (c_F_find l D T A σ x aI n fI ia _ _ _ _ _ _ b1 b2 b12 (fun k hk => (b9.1 k hk).1) i) rfl rfl ⟨Nat.le_of_ble_eq_true rfl, Nat.le_of_ble_eq_true rfl⟩ rfl hl.1 rfl (Nat.le_of_ble_eq_true rfl) d_F_address_2 ⟨Nat.le_of_ble_eq_true rfl, Nat.le_of_ble_eq_true rfl⟩) (fun r_1 σ_2 H locs hp_3 h => ?_)
  obtain ⟨e_4, es_5⟩ := hp_3
  rw [es_5] at h
  rw [e_4]
  rcases hf : o_find n i with _ | k
  · refine W.eq (g2 := F0 m 5 ls [.null]) rfl ?_
    refine lv_astoreN (lv' := [(4, .null), (0, .ref x), (1, .int i), (2, .int wh), (3, .int en)]) hx hb d_F_address_5 hl (by decide) rfl (fun ls hl => ?_)
    refine lv_aloadN hx hb d_F_address_7 (lv_at hl 0 rfl) ?_
    refine lv_ifnonnullN hx hb d_F_address_9 ?_
    refine lv_bipush (v := (-101)) hx hb d_F_address_12 (by decide) ?_
    exact wd_iret C hr hlocks h (by rw [o_upd_none (S := (n, R, nc, CR, wg, Q)) hf]; exact ⟨rfl, hB.rx⟩) (Nat.le_of_ble_eq_true rfl) (Nat.le_of_ble_eq_true rfl) d_F_address_14
  · refine W.eq (g2 := F0 m 5 ls [.ref (ia k)]) rfl ?_
    obtain ⟨hk, hik1, hik⟩ := o_find_some b12 hf
    obtain ⟨g1, g2, g3, g4⟩ := b9.1 k hk
    refine lv_astore (lv' := [(4, .ref (ia k)), (0, .ref x), (1, .int i), (2, .int wh), (3, .int en)]) hx hb d_F_address_5 hl (by decide) rfl (fun ls hl => ?_)
    refine lv_aload hx hb d_F_address_7 (lv_at hl 0 rfl) ?_
    refine lv_ifnonnull (tgt := 15) hx hb d_F_address_9 (by decide) ?_
    refine lv_iload_n hx hb d_F_address_15 rfl (lv_at hl 3 rfl) ?_
    refine lv_iconst (v := 0) hx hb d_F_address_16 (by decide) ?_
    refine lv_iconst (v := 1) hx hb d_F_address_17 (by decide) ?_
    refine wd_ci h (wd_rS (rest := []) (st0 := [.int 1, .int 0, .int wh]) C h k_F_within wt_F_within lk_F_46 (c_F_within l D T A σ wh 0 1) rfl rfl ⟨Nat.le_of_ble_eq_true rfl, Nat.le_of_ble_eq_true rfl⟩ rfl hl.1 rfl (Nat.le_of_ble_eq_true rfl) d_F_address_18 ⟨Nat.le_of_ble_eq_true rfl, Nat.le_of_ble_eq_true rfl⟩) (fun r_6 σ_7 H locs hp_8 h => ?_)
    obtain ⟨e_9, es_10⟩ := hp_8
    rw [es_10] at h
    subst e_9
    refine lv_if_eq (tgt := 35) hx hb d_F_address_21 (by decide) (fun c_11 => ?_) (fun c_11 => ?_)
    · refine lv_bipush (v := (-102)) hx hb d_F_address_35 (by decide) ?_
      exact wd_iret C hr hlocks h (by rw [o_upd_some (S := (n, R, nc, CR, wg, Q)) hf, show f_adr wh en (R k) = ((-102), (R k)) from by simp [f_adr, eq_true c_11]]; exact ⟨rfl, by rw [va_up_id]; exact hB.rx⟩) (Nat.le_of_ble_eq_true rfl) (Nat.le_of_ble_eq_true rfl) d_F_address_37
    · refine lv_iload_n hx hb d_F_address_24 rfl (lv_at hl 4 rfl) ?_
      refine lv_iconst (v := 0) hx hb d_F_address_25 (by decide) ?_
      refine lv_sipush (v := 9999) hx hb d_F_address_26 (by decide) ?_
      refine wd_ci h (wd_rS (rest := []) (st0 := [.int 9999, .int 0, .int en]) C h k_F_within wt_F_within lk_F_46 (c_F_within l D T A σ en 0 9999) rfl rfl ⟨Nat.le_of_ble_eq_true rfl, Nat.le_of_ble_eq_true rfl⟩ rfl hl.1 rfl (Nat.le_of_ble_eq_true rfl) d_F_address_29 ⟨Nat.le_of_ble_eq_true rfl, Nat.le_of_ble_eq_true rfl⟩) (fun r_12 σ_13 H locs hp_14 h => ?_)
      obtain ⟨e_15, es_16⟩ := hp_14
      rw [es_16] at h
      subst e_15
      refine lv_if_ne (tgt := 38) hx hb d_F_address_32 (by decide) (fun c_17 => ?_) (fun c_17 => ?_)
      · refine lv_aload hx hb d_F_address_38 (lv_at hl 0 rfl) ?_
        refine wd_ci h (wd_rVN (rest := []) (st0 := [.ref (ia k)]) C h kc_I g2 k_I_isAtEnd wm_I_isAtEnd wz_I_isAtEnd lk_F_72 (c_I_isAtEnd l D T A σ (ia k) (R k) (aa (2 * k)) (aa (2 * k + 1)) g2 ) rfl rfl ⟨Nat.le_of_ble_eq_true rfl, Nat.le_of_ble_eq_true rfl⟩ rfl hl.1 rfl (Nat.le_of_ble_eq_true rfl) d_F_address_40 ⟨Nat.le_of_ble_eq_true rfl, Nat.le_of_ble_eq_true rfl⟩) (fun r_18 σ_19 H locs hp_20 h => ?_)
        obtain ⟨e_21, es_22⟩ := hp_20
        rw [es_22] at h
        subst e_21
        refine lv_if_ne (tgt := 55) hx hb d_F_address_43 (by decide) (fun c_23 => ?_) (fun c_23 => ?_)
        · refine lv_bipush (v := (-103)) hx hb d_F_address_55 (by decide) ?_
          exact wd_iret C hr hlocks h (by rw [o_upd_some (S := (n, R, nc, CR, wg, Q)) hf, show f_adr wh en (R k) = ((-103), (R k)) from by simp [f_adr, eq_false c_11, eq_false c_17, eq_false c_23]]; exact ⟨rfl, by rw [va_up_id]; exact hB.rx⟩) (Nat.le_of_ble_eq_true rfl) (Nat.le_of_ble_eq_true rfl) d_F_address_57
        · refine lv_aload hx hb d_F_address_46 (lv_at hl 0 rfl) ?_
          refine wd_getN C h kc_I g2 8 (by decide) lk_F_116 rfl d_F_address_48 ?_
          refine lv_iconst (v := (-1)) hx hb d_F_address_51 (by decide) ?_
          refine lv_icmp_eq (tgt := 58) hx hb d_F_address_52 (by decide) (fun c_24 => ?_) (fun c_24 => ?_)
          · refine lv_iload_n hx hb d_F_address_58 rfl (lv_at hl 3 rfl) ?_
            refine lv_if_ne (tgt := 78) hx hb d_F_address_59 (by decide) (fun c_25 => ?_) (fun c_25 => ?_)
            · refine lv_aload hx hb d_F_address_78 (lv_at hl 0 rfl) ?_
              refine wd_getN C h kc_I g2 8 (by decide) lk_F_116 rfl d_F_address_80 ?_
              refine lv_istore (lv' := [(5, .int (R k 8)), (4, .ref (ia k)), (0, .ref x), (1, .int i), (2, .int wh), (3, .int en)]) hx hb d_F_address_83 hl (by decide) rfl (fun ls hl => ?_)
              refine lv_aload hx hb d_F_address_85 (lv_at hl 1 rfl) ?_
              refine lv_iload_n hx hb d_F_address_87 rfl (lv_at hl 5 rfl) ?_
              refine wd_putN C h kc_I g2 8 (by decide) lk_F_116 rfl (by rfl) (by rfl) (Nat.le_of_ble_eq_true rfl) d_F_address_88 (fun H locs h => ?_)
              have h : wd_C D T A s H locs (wd_up σ (ia k) (.inr (1, [.int (R k 0), .int (R k 1), .int (R k 2), .int (R k 3), .int (R k 4), .int (R k 5), .int (R k 6), .int (R k 7), .int en, .int (R k 9), .int (R k 10), .int (R k 11), .int (R k 12), .int (R k 13), .int (R k 14), .ref (aa (2 * k)), .ref (aa (2 * k + 1))]))) := h
              have h_26 : (wd_up σ (ia k) (.inr (1, [.int (R k 0), .int (R k 1), .int (R k 2), .int (R k 3), .int (R k 4), .int (R k 5), .int (R k 6), .int (R k 7), .int en, .int (R k 9), .int (R k 10), .int (R k 11), .int (R k 12), .int (R k 13), .int (R k 14), .ref (aa (2 * k)), .ref (aa (2 * k + 1))]))) (ia k) = some (.inr (1, [.int (R k 0), .int (R k 1), .int (R k 2), .int (R k 3), .int (R k 4), .int (R k 5), .int (R k 6), .int (R k 7), .int en, .int (R k 9), .int (R k 10), .int (R k 11), .int (R k 12), .int (R k 13), .int (R k 14), .ref (aa (2 * k)), .ref (aa (2 * k + 1))])) := wd_us _ _ _
              have h_27 : (wd_up σ (ia k) (.inr (1, [.int (R k 0), .int (R k 1), .int (R k 2), .int (R k 3), .int (R k 4), .int (R k 5), .int (R k 6), .int (R k 7), .int en, .int (R k 9), .int (R k 10), .int (R k 11), .int (R k 12), .int (R k 13), .int (R k 14), .ref (aa (2 * k)), .ref (aa (2 * k + 1))]))) x = some (.inr (0, [.ref aI, .int (nI n), .ref aC, .int (nI nc), .ref aJ, .ref aW, .ref aB, .ref aP])) := wd_uk b1 (wd_ne b1 g2 (by simp))
              refine lv_iload hx hb d_F_address_91 (lv_at hl 0 rfl) ?_
              exact wd_iret C hr hlocks h (by rw [o_upd_some (S := (n, R, nc, CR, wg, Q)) hf, show f_adr wh en (R k) = ((R k 8), (upd (R k) 8 en)) from by simp [f_adr, eq_false c_11, eq_false c_17, eq_true c_23, eq_true c_24, eq_false c_25]]; exact ⟨rfl, (hB.item (r := (upd (R k) 8 en)) hk rfl rfl (fun j hj => upd_hi (by decide) hj)).rx⟩) (Nat.le_of_ble_eq_true rfl) (Nat.le_of_ble_eq_true rfl) d_F_address_93
            · refine lv_aload hx hb d_F_address_62 (lv_at hl 0 rfl) ?_
              refine wd_getN C h kc_I g2 7 (by decide) lk_F_119 rfl d_F_address_64 ?_
              refine lv_istore (lv' := [(5, .int (R k 7)), (4, .ref (ia k)), (0, .ref x), (1, .int i), (2, .int wh), (3, .int en)]) hx hb d_F_address_67 hl (by decide) rfl (fun ls hl => ?_)
              refine lv_aload hx hb d_F_address_69 (lv_at hl 1 rfl) ?_
              refine lv_iload_n hx hb d_F_address_71 rfl (lv_at hl 5 rfl) ?_
              refine wd_putN C h kc_I g2 7 (by decide) lk_F_119 rfl (by rfl) (by rfl) (Nat.le_of_ble_eq_true rfl) d_F_address_72 (fun H locs h => ?_)
              have h : wd_C D T A s H locs (wd_up σ (ia k) (.inr (1, [.int (R k 0), .int (R k 1), .int (R k 2), .int (R k 3), .int (R k 4), .int (R k 5), .int (R k 6), .int en, .int (R k 8), .int (R k 9), .int (R k 10), .int (R k 11), .int (R k 12), .int (R k 13), .int (R k 14), .ref (aa (2 * k)), .ref (aa (2 * k + 1))]))) := h
              have h_28 : (wd_up σ (ia k) (.inr (1, [.int (R k 0), .int (R k 1), .int (R k 2), .int (R k 3), .int (R k 4), .int (R k 5), .int (R k 6), .int en, .int (R k 8), .int (R k 9), .int (R k 10), .int (R k 11), .int (R k 12), .int (R k 13), .int (R k 14), .ref (aa (2 * k)), .ref (aa (2 * k + 1))]))) (ia k) = some (.inr (1, [.int (R k 0), .int (R k 1), .int (R k 2), .int (R k 3), .int (R k 4), .int (R k 5), .int (R k 6), .int en, .int (R k 8), .int (R k 9), .int (R k 10), .int (R k 11), .int (R k 12), .int (R k 13), .int (R k 14), .ref (aa (2 * k)), .ref (aa (2 * k + 1))])) := wd_us _ _ _
              have h_29 : (wd_up σ (ia k) (.inr (1, [.int (R k 0), .int (R k 1), .int (R k 2), .int (R k 3), .int (R k 4), .int (R k 5), .int (R k 6), .int en, .int (R k 8), .int (R k 9), .int (R k 10), .int (R k 11), .int (R k 12), .int (R k 13), .int (R k 14), .ref (aa (2 * k)), .ref (aa (2 * k + 1))]))) x = some (.inr (0, [.ref aI, .int (nI n), .ref aC, .int (nI nc), .ref aJ, .ref aW, .ref aB, .ref aP])) := wd_uk b1 (wd_ne b1 g2 (by simp))
              refine lv_goto (tgt := 91) hx hb d_F_address_75 (by decide) ?_
              refine lv_iload hx hb d_F_address_91 (lv_at hl 0 rfl) ?_
              exact wd_iret C hr hlocks h (by rw [o_upd_some (S := (n, R, nc, CR, wg, Q)) hf, show f_adr wh en (R k) = ((R k 7), (upd (R k) 7 en)) from by simp [f_adr, eq_false c_11, eq_false c_17, eq_true c_23, eq_true c_24, eq_true c_25]]; exact ⟨rfl, (hB.item (r := (upd (R k) 7 en)) hk rfl rfl (fun j hj => upd_hi (by decide) hj)).rx⟩) (Nat.le_of_ble_eq_true rfl) (Nat.le_of_ble_eq_true rfl) d_F_address_93
          · refine lv_bipush (v := (-103)) hx hb d_F_address_55 (by decide) ?_
            exact wd_iret C hr hlocks h (by rw [o_upd_some (S := (n, R, nc, CR, wg, Q)) hf, show f_adr wh en (R k) = ((-103), (R k)) from by simp [f_adr, eq_false c_11, eq_false c_17, eq_true c_23, eq_false c_24]]; exact ⟨rfl, by rw [va_up_id]; exact hB.rx⟩) (Nat.le_of_ble_eq_true rfl) (Nat.le_of_ble_eq_true rfl) d_F_address_57
      · refine lv_bipush (v := (-102)) hx hb d_F_address_35 (by decide) ?_
        exact wd_iret C hr hlocks h (by rw [o_upd_some (S := (n, R, nc, CR, wg, Q)) hf, show f_adr wh en (R k) = ((-102), (R k)) from by simp [f_adr, eq_false c_11, eq_true c_17]]; exact ⟨rfl, by rw [va_up_id]; exact hB.rx⟩) (Nat.le_of_ble_eq_true rfl) (Nat.le_of_ble_eq_true rfl) d_F_address_37

set_option maxHeartbeats 4000000 in
set_option maxRecDepth 20000 in
theorem c_F_abroad (l : Launch) (D : va_G) (T : Nat → ClassId) (A : Nat → Prop) (σ : wd_S) (x n : Nat) (R : Nat → Nat → Int32) (nc : Nat) (CR : Nat → Nat → Int32) (wg : Nat → Int32) (Q : pq) (aI aC aJ aW aB aP ab : Nat) (fI fC : Nat → Option Nat) (jn wn bk qb : Nat → Int32) (ia aa ca : Nat → Nat) (hB : RB T σ x n R nc CR wg Q aI aC aJ aW aB aP ab fI fC jn wn bk qb ia aa ca) (i la : Int32) : Met l y_F_abroad (Cond.code y_F_abroad b_F_abroad 4 (some .int) :: wd_tb) { frames := 2, cells := 0, slots := 0, locals := 43 } (va_Pc [.ref x, .int i, .int la] (wd_Pre D T A σ)) (va_Qi (fun r1 σ1 => r1 = (o_upd (n, R, nc, CR, wg, Q) i (f_abr la)).1 ∧ RX T σ1 x (o_upd (n, R, nc, CR, wg, Q) i (f_abr la)).2) (wd_B D A) A) 0 0 A := by
  refine wd_ofW (by decide) (Nat.le_of_ble_eq_true rfl) ?_
  intro p e s m below meth c0 ls C hr hlocks hname h hl
  have hl : lv_has ls 4 [(0, .ref x), (1, .int i), (2, .int la)] := hl
  have hx := C.1
  have hb := C.2.1
  obtain ⟨b1, b2, b3, b4, b5, b6, b7, b8, b9, b10, b11, b12, b13, b14⟩ := id hB
  refine lv_aload_n hx hb d_F_abroad_0 rfl (lv_at hl 0 rfl) ?_
  refine lv_iload_n hx hb d_F_abroad_1 rfl (lv_at hl 1 rfl) ?_
  refine wd_cq h (wd_rV (rest := []) (st0 := [.int i, .ref x]) C h kc_F b1 k_F_find wm_F_find wz_F_find lk_F_64 (c_F_find l D T A σ x aI n fI ia _ _ _ _ _ _ b1 b2 b12 (fun k hk => (b9.1 k hk).1) i) rfl rfl ⟨Nat.le_of_ble_eq_true rfl, Nat.le_of_ble_eq_true rfl⟩ rfl hl.1 rfl (Nat.le_of_ble_eq_true rfl) d_F_abroad_2 ⟨Nat.le_of_ble_eq_true rfl, Nat.le_of_ble_eq_true rfl⟩) (fun r_1 σ_2 H locs hp_3 h => ?_)
  obtain ⟨e_4, es_5⟩ := hp_3
  rw [es_5] at h
  rw [e_4]
  rcases hf : o_find n i with _ | k
  · refine W.eq (g2 := F0 m 5 ls [.null]) rfl ?_
    refine lv_astore_nN (lv' := [(3, .null), (0, .ref x), (1, .int i), (2, .int la)]) hx hb d_F_abroad_5 rfl hl (by decide) rfl (fun ls hl => ?_)
    refine lv_aload_nN hx hb d_F_abroad_6 rfl (lv_at hl 0 rfl) ?_
    refine lv_ifnonnullN hx hb d_F_abroad_7 ?_
    refine lv_bipush (v := (-101)) hx hb d_F_abroad_10 (by decide) ?_
    exact wd_iret C hr hlocks h (by rw [o_upd_none (S := (n, R, nc, CR, wg, Q)) hf]; exact ⟨rfl, hB.rx⟩) (Nat.le_of_ble_eq_true rfl) (Nat.le_of_ble_eq_true rfl) d_F_abroad_12
  · refine W.eq (g2 := F0 m 5 ls [.ref (ia k)]) rfl ?_
    obtain ⟨hk, hik1, hik⟩ := o_find_some b12 hf
    obtain ⟨g1, g2, g3, g4⟩ := b9.1 k hk
    refine lv_astore_n (lv' := [(3, .ref (ia k)), (0, .ref x), (1, .int i), (2, .int la)]) hx hb d_F_abroad_5 rfl hl (by decide) rfl (fun ls hl => ?_)
    refine lv_aload_n hx hb d_F_abroad_6 rfl (lv_at hl 0 rfl) ?_
    refine lv_ifnonnull (tgt := 13) hx hb d_F_abroad_7 (by decide) ?_
    refine lv_iload_n hx hb d_F_abroad_13 rfl (lv_at hl 3 rfl) ?_
    refine lv_iconst (v := 1) hx hb d_F_abroad_14 (by decide) ?_
    refine lv_bipush (v := 30) hx hb d_F_abroad_15 (by decide) ?_
    refine wd_ci h (wd_rS (rest := []) (st0 := [.int 30, .int 1, .int la]) C h k_F_within wt_F_within lk_F_46 (c_F_within l D T A σ la 1 30) rfl rfl ⟨Nat.le_of_ble_eq_true rfl, Nat.le_of_ble_eq_true rfl⟩ rfl hl.1 rfl (Nat.le_of_ble_eq_true rfl) d_F_abroad_17 ⟨Nat.le_of_ble_eq_true rfl, Nat.le_of_ble_eq_true rfl⟩) (fun r_6 σ_7 H locs hp_8 h => ?_)
    obtain ⟨e_9, es_10⟩ := hp_8
    rw [es_10] at h
    subst e_9
    refine lv_if_ne (tgt := 26) hx hb d_F_abroad_20 (by decide) (fun c_11 => ?_) (fun c_11 => ?_)
    · refine lv_aload_n hx hb d_F_abroad_26 rfl (lv_at hl 0 rfl) ?_
      refine wd_getN C h kc_I g2 9 (by decide) lk_F_97 rfl d_F_abroad_27 ?_
      refine lv_if_ne (tgt := 48) hx hb d_F_abroad_30 (by decide) (fun c_12 => ?_) (fun c_12 => ?_)
      · refine lv_bipush (v := (-103)) hx hb d_F_abroad_48 (by decide) ?_
        exact wd_iret C hr hlocks h (by rw [o_upd_some (S := (n, R, nc, CR, wg, Q)) hf, show f_abr la (R k) = ((-103), (R k)) from by simp [f_abr, eq_false c_11, eq_false c_12]]; exact ⟨rfl, by rw [va_up_id]; exact hB.rx⟩) (Nat.le_of_ble_eq_true rfl) (Nat.le_of_ble_eq_true rfl) d_F_abroad_50
      · refine lv_aload_n hx hb d_F_abroad_33 rfl (lv_at hl 0 rfl) ?_
        refine wd_getN C h kc_I g2 5 (by decide) lk_F_103 rfl d_F_abroad_34 ?_
        refine lv_if_eq (tgt := 51) hx hb d_F_abroad_37 (by decide) (fun c_13 => ?_) (fun c_13 => ?_)
        · refine lv_aload_n hx hb d_F_abroad_51 rfl (lv_at hl 0 rfl) ?_
          refine lv_iload_n hx hb d_F_abroad_52 rfl (lv_at hl 3 rfl) ?_
          refine wd_putN C h kc_I g2 9 (by decide) lk_F_97 rfl (by rfl) (by rfl) (Nat.le_of_ble_eq_true rfl) d_F_abroad_53 (fun H locs h => ?_)
          have h : wd_C D T A s H locs (wd_up σ (ia k) (.inr (1, [.int (R k 0), .int (R k 1), .int (R k 2), .int (R k 3), .int (R k 4), .int (R k 5), .int (R k 6), .int (R k 7), .int (R k 8), .int la, .int (R k 10), .int (R k 11), .int (R k 12), .int (R k 13), .int (R k 14), .ref (aa (2 * k)), .ref (aa (2 * k + 1))]))) := h
          have h_14 : (wd_up σ (ia k) (.inr (1, [.int (R k 0), .int (R k 1), .int (R k 2), .int (R k 3), .int (R k 4), .int (R k 5), .int (R k 6), .int (R k 7), .int (R k 8), .int la, .int (R k 10), .int (R k 11), .int (R k 12), .int (R k 13), .int (R k 14), .ref (aa (2 * k)), .ref (aa (2 * k + 1))]))) (ia k) = some (.inr (1, [.int (R k 0), .int (R k 1), .int (R k 2), .int (R k 3), .int (R k 4), .int (R k 5), .int (R k 6), .int (R k 7), .int (R k 8), .int la, .int (R k 10), .int (R k 11), .int (R k 12), .int (R k 13), .int (R k 14), .ref (aa (2 * k)), .ref (aa (2 * k + 1))])) := wd_us _ _ _
          have h_15 : (wd_up σ (ia k) (.inr (1, [.int (R k 0), .int (R k 1), .int (R k 2), .int (R k 3), .int (R k 4), .int (R k 5), .int (R k 6), .int (R k 7), .int (R k 8), .int la, .int (R k 10), .int (R k 11), .int (R k 12), .int (R k 13), .int (R k 14), .ref (aa (2 * k)), .ref (aa (2 * k + 1))]))) x = some (.inr (0, [.ref aI, .int (nI n), .ref aC, .int (nI nc), .ref aJ, .ref aW, .ref aB, .ref aP])) := wd_uk b1 (wd_ne b1 g2 (by simp))
          refine lv_iconst (v := 1) hx hb d_F_abroad_56 (by decide) ?_
          exact wd_iret C hr hlocks h (by rw [o_upd_some (S := (n, R, nc, CR, wg, Q)) hf, show f_abr la (R k) = (1, (upd (R k) 9 la)) from by simp [f_abr, eq_false c_11, eq_true c_12, eq_true c_13]]; exact ⟨rfl, (hB.item (r := (upd (R k) 9 la)) hk rfl rfl (fun j hj => upd_hi (by decide) hj)).rx⟩) (Nat.le_of_ble_eq_true rfl) (Nat.le_of_ble_eq_true rfl) d_F_abroad_57
        · refine lv_aload_n hx hb d_F_abroad_40 rfl (lv_at hl 0 rfl) ?_
          refine wd_getN C h kc_I g2 5 (by decide) lk_F_103 rfl d_F_abroad_41 ?_
          refine lv_iconst (v := 1) hx hb d_F_abroad_44 (by decide) ?_
          refine lv_icmp_eq (tgt := 51) hx hb d_F_abroad_45 (by decide) (fun c_16 => ?_) (fun c_16 => ?_)
          · refine lv_aload_n hx hb d_F_abroad_51 rfl (lv_at hl 0 rfl) ?_
            refine lv_iload_n hx hb d_F_abroad_52 rfl (lv_at hl 3 rfl) ?_
            refine wd_putN C h kc_I g2 9 (by decide) lk_F_97 rfl (by rfl) (by rfl) (Nat.le_of_ble_eq_true rfl) d_F_abroad_53 (fun H locs h => ?_)
            have h : wd_C D T A s H locs (wd_up σ (ia k) (.inr (1, [.int (R k 0), .int (R k 1), .int (R k 2), .int (R k 3), .int (R k 4), .int (R k 5), .int (R k 6), .int (R k 7), .int (R k 8), .int la, .int (R k 10), .int (R k 11), .int (R k 12), .int (R k 13), .int (R k 14), .ref (aa (2 * k)), .ref (aa (2 * k + 1))]))) := h
            have h_17 : (wd_up σ (ia k) (.inr (1, [.int (R k 0), .int (R k 1), .int (R k 2), .int (R k 3), .int (R k 4), .int (R k 5), .int (R k 6), .int (R k 7), .int (R k 8), .int la, .int (R k 10), .int (R k 11), .int (R k 12), .int (R k 13), .int (R k 14), .ref (aa (2 * k)), .ref (aa (2 * k + 1))]))) (ia k) = some (.inr (1, [.int (R k 0), .int (R k 1), .int (R k 2), .int (R k 3), .int (R k 4), .int (R k 5), .int (R k 6), .int (R k 7), .int (R k 8), .int la, .int (R k 10), .int (R k 11), .int (R k 12), .int (R k 13), .int (R k 14), .ref (aa (2 * k)), .ref (aa (2 * k + 1))])) := wd_us _ _ _
            have h_18 : (wd_up σ (ia k) (.inr (1, [.int (R k 0), .int (R k 1), .int (R k 2), .int (R k 3), .int (R k 4), .int (R k 5), .int (R k 6), .int (R k 7), .int (R k 8), .int la, .int (R k 10), .int (R k 11), .int (R k 12), .int (R k 13), .int (R k 14), .ref (aa (2 * k)), .ref (aa (2 * k + 1))]))) x = some (.inr (0, [.ref aI, .int (nI n), .ref aC, .int (nI nc), .ref aJ, .ref aW, .ref aB, .ref aP])) := wd_uk b1 (wd_ne b1 g2 (by simp))
            refine lv_iconst (v := 1) hx hb d_F_abroad_56 (by decide) ?_
            exact wd_iret C hr hlocks h (by rw [o_upd_some (S := (n, R, nc, CR, wg, Q)) hf, show f_abr la (R k) = (1, (upd (R k) 9 la)) from by simp [f_abr, eq_false c_11, eq_true c_12, eq_false c_13, eq_true c_16]]; exact ⟨rfl, (hB.item (r := (upd (R k) 9 la)) hk rfl rfl (fun j hj => upd_hi (by decide) hj)).rx⟩) (Nat.le_of_ble_eq_true rfl) (Nat.le_of_ble_eq_true rfl) d_F_abroad_57
          · refine lv_bipush (v := (-103)) hx hb d_F_abroad_48 (by decide) ?_
            exact wd_iret C hr hlocks h (by rw [o_upd_some (S := (n, R, nc, CR, wg, Q)) hf, show f_abr la (R k) = ((-103), (R k)) from by simp [f_abr, eq_false c_11, eq_true c_12, eq_false c_13, eq_false c_16]]; exact ⟨rfl, by rw [va_up_id]; exact hB.rx⟩) (Nat.le_of_ble_eq_true rfl) (Nat.le_of_ble_eq_true rfl) d_F_abroad_50
    · refine lv_bipush (v := (-102)) hx hb d_F_abroad_23 (by decide) ?_
      exact wd_iret C hr hlocks h (by rw [o_upd_some (S := (n, R, nc, CR, wg, Q)) hf, show f_abr la (R k) = ((-102), (R k)) from by simp [f_abr, eq_true c_11]]; exact ⟨rfl, by rw [va_up_id]; exact hB.rx⟩) (Nat.le_of_ble_eq_true rfl) (Nat.le_of_ble_eq_true rfl) d_F_abroad_25

set_option maxHeartbeats 4000000 in
set_option maxRecDepth 20000 in
theorem c_F_open (l : Launch) (D : va_G) (T : Nat → ClassId) (A : Nat → Prop) (σ : wd_S) (x n : Nat) (R : Nat → Nat → Int32) (nc : Nat) (CR : Nat → Nat → Int32) (wg : Nat → Int32) (Q : pq) (aI aC aJ aW aB aP ab : Nat) (fI fC : Nat → Option Nat) (jn wn bk qb : Nat → Int32) (ia aa ca : Nat → Nat) (hB : RB T σ x n R nc CR wg Q aI aC aJ aW aB aP ab fI fC jn wn bk qb ia aa ca) (i p1 p2 : Int32) : Met l y_F_open (Cond.code y_F_open b_F_open 5 (some .int) :: wd_tb) { frames := 2, cells := 0, slots := 0, locals := 43 } (va_Pc [.ref x, .int i, .int p1, .int p2] (wd_Pre D T A σ)) (va_Qi (fun r1 σ1 => r1 = (o_upd (n, R, nc, CR, wg, Q) i (f_opn p1 p2)).1 ∧ RX T σ1 x (o_upd (n, R, nc, CR, wg, Q) i (f_opn p1 p2)).2) (wd_B D A) A) 0 0 A := by
  refine wd_ofW (by decide) (Nat.le_of_ble_eq_true rfl) ?_
  intro p e s m below meth c0 ls C hr hlocks hname h hl
  have hl : lv_has ls 5 [(0, .ref x), (1, .int i), (2, .int p1), (3, .int p2)] := hl
  have hx := C.1
  have hb := C.2.1
  obtain ⟨b1, b2, b3, b4, b5, b6, b7, b8, b9, b10, b11, b12, b13, b14⟩ := id hB
  refine lv_aload_n hx hb d_F_open_0 rfl (lv_at hl 0 rfl) ?_
  refine lv_iload_n hx hb d_F_open_1 rfl (lv_at hl 1 rfl) ?_
  refine wd_cq h (wd_rV (rest := []) (st0 := [.int i, .ref x]) C h kc_F b1 k_F_find wm_F_find wz_F_find lk_F_64 (c_F_find l D T A σ x aI n fI ia _ _ _ _ _ _ b1 b2 b12 (fun k hk => (b9.1 k hk).1) i) rfl rfl ⟨Nat.le_of_ble_eq_true rfl, Nat.le_of_ble_eq_true rfl⟩ rfl hl.1 rfl (Nat.le_of_ble_eq_true rfl) d_F_open_2 ⟨Nat.le_of_ble_eq_true rfl, Nat.le_of_ble_eq_true rfl⟩) (fun r_1 σ_2 H locs hp_3 h => ?_)
  obtain ⟨e_4, es_5⟩ := hp_3
  rw [es_5] at h
  rw [e_4]
  rcases hf : o_find n i with _ | k
  · refine W.eq (g2 := F0 m 5 ls [.null]) rfl ?_
    refine lv_astoreN (lv' := [(4, .null), (0, .ref x), (1, .int i), (2, .int p1), (3, .int p2)]) hx hb d_F_open_5 hl (by decide) rfl (fun ls hl => ?_)
    refine lv_aloadN hx hb d_F_open_7 (lv_at hl 0 rfl) ?_
    refine lv_ifnonnullN hx hb d_F_open_9 ?_
    refine lv_bipush (v := (-101)) hx hb d_F_open_12 (by decide) ?_
    exact wd_iret C hr hlocks h (by rw [o_upd_none (S := (n, R, nc, CR, wg, Q)) hf]; exact ⟨rfl, hB.rx⟩) (Nat.le_of_ble_eq_true rfl) (Nat.le_of_ble_eq_true rfl) d_F_open_14
  · refine W.eq (g2 := F0 m 5 ls [.ref (ia k)]) rfl ?_
    obtain ⟨hk, hik1, hik⟩ := o_find_some b12 hf
    obtain ⟨g1, g2, g3, g4⟩ := b9.1 k hk
    refine lv_astore (lv' := [(4, .ref (ia k)), (0, .ref x), (1, .int i), (2, .int p1), (3, .int p2)]) hx hb d_F_open_5 hl (by decide) rfl (fun ls hl => ?_)
    refine lv_aload hx hb d_F_open_7 (lv_at hl 0 rfl) ?_
    refine lv_ifnonnull (tgt := 15) hx hb d_F_open_9 (by decide) ?_
    refine lv_iload_n hx hb d_F_open_15 rfl (lv_at hl 3 rfl) ?_
    refine lv_iconst (v := 0) hx hb d_F_open_16 (by decide) ?_
    refine lv_bipush (v := 19) hx hb d_F_open_17 (by decide) ?_
    refine wd_ci h (wd_rS (rest := []) (st0 := [.int 19, .int 0, .int p1]) C h k_F_within wt_F_within lk_F_46 (c_F_within l D T A σ p1 0 19) rfl rfl ⟨Nat.le_of_ble_eq_true rfl, Nat.le_of_ble_eq_true rfl⟩ rfl hl.1 rfl (Nat.le_of_ble_eq_true rfl) d_F_open_19 ⟨Nat.le_of_ble_eq_true rfl, Nat.le_of_ble_eq_true rfl⟩) (fun r_6 σ_7 H locs hp_8 h => ?_)
    obtain ⟨e_9, es_10⟩ := hp_8
    rw [es_10] at h
    subst e_9
    refine lv_if_eq (tgt := 35) hx hb d_F_open_22 (by decide) (fun c_11 => ?_) (fun c_11 => ?_)
    · refine lv_bipush (v := (-102)) hx hb d_F_open_35 (by decide) ?_
      exact wd_iret C hr hlocks h (by rw [o_upd_some (S := (n, R, nc, CR, wg, Q)) hf, show f_opn p1 p2 (R k) = ((-102), (R k)) from by simp [f_opn, eq_true c_11]]; exact ⟨rfl, by rw [va_up_id]; exact hB.rx⟩) (Nat.le_of_ble_eq_true rfl) (Nat.le_of_ble_eq_true rfl) d_F_open_37
    · refine lv_iload_n hx hb d_F_open_25 rfl (lv_at hl 4 rfl) ?_
      refine lv_iconst (v := 0) hx hb d_F_open_26 (by decide) ?_
      refine lv_bipush (v := 19) hx hb d_F_open_27 (by decide) ?_
      refine wd_ci h (wd_rS (rest := []) (st0 := [.int 19, .int 0, .int p2]) C h k_F_within wt_F_within lk_F_46 (c_F_within l D T A σ p2 0 19) rfl rfl ⟨Nat.le_of_ble_eq_true rfl, Nat.le_of_ble_eq_true rfl⟩ rfl hl.1 rfl (Nat.le_of_ble_eq_true rfl) d_F_open_29 ⟨Nat.le_of_ble_eq_true rfl, Nat.le_of_ble_eq_true rfl⟩) (fun r_12 σ_13 H locs hp_14 h => ?_)
      obtain ⟨e_15, es_16⟩ := hp_14
      rw [es_16] at h
      subst e_15
      refine lv_if_ne (tgt := 38) hx hb d_F_open_32 (by decide) (fun c_17 => ?_) (fun c_17 => ?_)
      · refine lv_aload hx hb d_F_open_38 (lv_at hl 0 rfl) ?_
        refine wd_getN C h kc_I g2 5 (by decide) lk_F_103 rfl d_F_open_40 ?_
        refine lv_bipush (v := 8) hx hb d_F_open_43 (by decide) ?_
        refine lv_icmp_ne (tgt := 56) hx hb d_F_open_45 (by decide) (fun c_18 => ?_) (fun c_18 => ?_)
        · refine lv_bipush (v := (-103)) hx hb d_F_open_56 (by decide) ?_
          exact wd_iret C hr hlocks h (by rw [o_upd_some (S := (n, R, nc, CR, wg, Q)) hf, show f_opn p1 p2 (R k) = ((-103), (R k)) from by simp [f_opn, eq_false c_11, eq_false c_17, eq_false c_18]]; exact ⟨rfl, by rw [va_up_id]; exact hB.rx⟩) (Nat.le_of_ble_eq_true rfl) (Nat.le_of_ble_eq_true rfl) d_F_open_58
        · refine lv_aload hx hb d_F_open_48 (lv_at hl 0 rfl) ?_
          refine wd_getN C h kc_I g2 6 (by decide) lk_F_131 rfl d_F_open_50 ?_
          refine lv_if_eq (tgt := 59) hx hb d_F_open_53 (by decide) (fun c_19 => ?_) (fun c_19 => ?_)
          · refine lv_iload_n hx hb d_F_open_59 rfl (lv_at hl 3 rfl) ?_
            refine lv_iload_n hx hb d_F_open_60 rfl (lv_at hl 4 rfl) ?_
            refine lv_icmp_ne (tgt := 67) hx hb d_F_open_61 (by decide) (fun c_20 => ?_) (fun c_20 => ?_)
            · refine lv_aload hx hb d_F_open_67 (lv_at hl 0 rfl) ?_
              refine lv_iconst (v := 1) hx hb d_F_open_69 (by decide) ?_
              refine wd_putN C h kc_I g2 5 (by decide) lk_F_103 rfl (by rfl) (by rfl) (Nat.le_of_ble_eq_true rfl) d_F_open_70 (fun H locs h => ?_)
              have h : wd_C D T A s H locs (wd_up σ (ia k) (.inr (1, [.int (R k 0), .int (R k 1), .int (R k 2), .int (R k 3), .int (R k 4), .int 1, .int (R k 6), .int (R k 7), .int (R k 8), .int (R k 9), .int (R k 10), .int (R k 11), .int (R k 12), .int (R k 13), .int (R k 14), .ref (aa (2 * k)), .ref (aa (2 * k + 1))]))) := h
              have h_21 : (wd_up σ (ia k) (.inr (1, [.int (R k 0), .int (R k 1), .int (R k 2), .int (R k 3), .int (R k 4), .int 1, .int (R k 6), .int (R k 7), .int (R k 8), .int (R k 9), .int (R k 10), .int (R k 11), .int (R k 12), .int (R k 13), .int (R k 14), .ref (aa (2 * k)), .ref (aa (2 * k + 1))]))) (ia k) = some (.inr (1, [.int (R k 0), .int (R k 1), .int (R k 2), .int (R k 3), .int (R k 4), .int 1, .int (R k 6), .int (R k 7), .int (R k 8), .int (R k 9), .int (R k 10), .int (R k 11), .int (R k 12), .int (R k 13), .int (R k 14), .ref (aa (2 * k)), .ref (aa (2 * k + 1))])) := wd_us _ _ _
              have h_22 : (wd_up σ (ia k) (.inr (1, [.int (R k 0), .int (R k 1), .int (R k 2), .int (R k 3), .int (R k 4), .int 1, .int (R k 6), .int (R k 7), .int (R k 8), .int (R k 9), .int (R k 10), .int (R k 11), .int (R k 12), .int (R k 13), .int (R k 14), .ref (aa (2 * k)), .ref (aa (2 * k + 1))]))) x = some (.inr (0, [.ref aI, .int (nI n), .ref aC, .int (nI nc), .ref aJ, .ref aW, .ref aB, .ref aP])) := wd_uk b1 (wd_ne b1 g2 (by simp))
              refine lv_aload hx hb d_F_open_73 (lv_at hl 0 rfl) ?_
              refine lv_iconst (v := (-1)) hx hb d_F_open_75 (by decide) ?_
              refine wd_putN C h kc_I h_21 8 (by decide) lk_F_116 rfl (by rfl) (by rfl) (Nat.le_of_ble_eq_true rfl) d_F_open_76 (fun H locs h => ?_)
              rw [wd_uu] at h
              have h : wd_C D T A s H locs (wd_up σ (ia k) (.inr (1, [.int (R k 0), .int (R k 1), .int (R k 2), .int (R k 3), .int (R k 4), .int 1, .int (R k 6), .int (R k 7), .int (-1), .int (R k 9), .int (R k 10), .int (R k 11), .int (R k 12), .int (R k 13), .int (R k 14), .ref (aa (2 * k)), .ref (aa (2 * k + 1))]))) := h
              have h_23 : (wd_up σ (ia k) (.inr (1, [.int (R k 0), .int (R k 1), .int (R k 2), .int (R k 3), .int (R k 4), .int 1, .int (R k 6), .int (R k 7), .int (-1), .int (R k 9), .int (R k 10), .int (R k 11), .int (R k 12), .int (R k 13), .int (R k 14), .ref (aa (2 * k)), .ref (aa (2 * k + 1))]))) (ia k) = some (.inr (1, [.int (R k 0), .int (R k 1), .int (R k 2), .int (R k 3), .int (R k 4), .int 1, .int (R k 6), .int (R k 7), .int (-1), .int (R k 9), .int (R k 10), .int (R k 11), .int (R k 12), .int (R k 13), .int (R k 14), .ref (aa (2 * k)), .ref (aa (2 * k + 1))])) := wd_us _ _ _
              have h_24 : (wd_up σ (ia k) (.inr (1, [.int (R k 0), .int (R k 1), .int (R k 2), .int (R k 3), .int (R k 4), .int 1, .int (R k 6), .int (R k 7), .int (-1), .int (R k 9), .int (R k 10), .int (R k 11), .int (R k 12), .int (R k 13), .int (R k 14), .ref (aa (2 * k)), .ref (aa (2 * k + 1))]))) x = some (.inr (0, [.ref aI, .int (nI n), .ref aC, .int (nI nc), .ref aJ, .ref aW, .ref aB, .ref aP])) := wd_uk b1 (wd_ne b1 g2 (by simp))
              refine lv_aload hx hb d_F_open_79 (lv_at hl 0 rfl) ?_
              refine lv_bipush (v := 100) hx hb d_F_open_81 (by decide) ?_
              refine lv_iload_n hx hb d_F_open_83 rfl (lv_at hl 3 rfl) ?_
              refine lv_imul hx hb d_F_open_84 ?_
              refine lv_iload_n hx hb d_F_open_85 rfl (lv_at hl 4 rfl) ?_
              refine lv_iadd hx hb d_F_open_86 ?_
              refine wd_putN C h kc_I h_23 13 (by decide) lk_F_135 rfl (by rfl) (by rfl) (Nat.le_of_ble_eq_true rfl) d_F_open_87 (fun H locs h => ?_)
              rw [wd_uu] at h
              have h : wd_C D T A s H locs (wd_up σ (ia k) (.inr (1, [.int (R k 0), .int (R k 1), .int (R k 2), .int (R k 3), .int (R k 4), .int 1, .int (R k 6), .int (R k 7), .int (-1), .int (R k 9), .int (R k 10), .int (R k 11), .int (R k 12), .int ((100 * p1) + p2), .int (R k 14), .ref (aa (2 * k)), .ref (aa (2 * k + 1))]))) := h
              have h_25 : (wd_up σ (ia k) (.inr (1, [.int (R k 0), .int (R k 1), .int (R k 2), .int (R k 3), .int (R k 4), .int 1, .int (R k 6), .int (R k 7), .int (-1), .int (R k 9), .int (R k 10), .int (R k 11), .int (R k 12), .int ((100 * p1) + p2), .int (R k 14), .ref (aa (2 * k)), .ref (aa (2 * k + 1))]))) (ia k) = some (.inr (1, [.int (R k 0), .int (R k 1), .int (R k 2), .int (R k 3), .int (R k 4), .int 1, .int (R k 6), .int (R k 7), .int (-1), .int (R k 9), .int (R k 10), .int (R k 11), .int (R k 12), .int ((100 * p1) + p2), .int (R k 14), .ref (aa (2 * k)), .ref (aa (2 * k + 1))])) := wd_us _ _ _
              have h_26 : (wd_up σ (ia k) (.inr (1, [.int (R k 0), .int (R k 1), .int (R k 2), .int (R k 3), .int (R k 4), .int 1, .int (R k 6), .int (R k 7), .int (-1), .int (R k 9), .int (R k 10), .int (R k 11), .int (R k 12), .int ((100 * p1) + p2), .int (R k 14), .ref (aa (2 * k)), .ref (aa (2 * k + 1))]))) x = some (.inr (0, [.ref aI, .int (nI n), .ref aC, .int (nI nc), .ref aJ, .ref aW, .ref aB, .ref aP])) := wd_uk b1 (wd_ne b1 g2 (by simp))
              refine lv_iconst (v := 1) hx hb d_F_open_90 (by decide) ?_
              exact wd_iret C hr hlocks h (by rw [o_upd_some (S := (n, R, nc, CR, wg, Q)) hf, show f_opn p1 p2 (R k) = (1, (upd (upd (upd (R k) 5 1) 8 (-1)) 13 ((100 * p1) + p2))) from by simp [f_opn, eq_false c_11, eq_false c_17, eq_true c_18, eq_true c_19, eq_false c_20]]; exact ⟨rfl, (hB.item (r := (upd (upd (upd (R k) 5 1) 8 (-1)) 13 ((100 * p1) + p2))) hk rfl rfl (fun j hj => ((upd_hi (by decide) hj).trans (upd_hi (by decide) hj)).trans (upd_hi (by decide) hj))).rx⟩) (Nat.le_of_ble_eq_true rfl) (Nat.le_of_ble_eq_true rfl) d_F_open_91
            · refine lv_bipush (v := (-108)) hx hb d_F_open_64 (by decide) ?_
              exact wd_iret C hr hlocks h (by rw [o_upd_some (S := (n, R, nc, CR, wg, Q)) hf, show f_opn p1 p2 (R k) = ((-108), (R k)) from by simp [f_opn, eq_false c_11, eq_false c_17, eq_true c_18, eq_true c_19, eq_true c_20]]; exact ⟨rfl, by rw [va_up_id]; exact hB.rx⟩) (Nat.le_of_ble_eq_true rfl) (Nat.le_of_ble_eq_true rfl) d_F_open_66
          · refine lv_bipush (v := (-103)) hx hb d_F_open_56 (by decide) ?_
            exact wd_iret C hr hlocks h (by rw [o_upd_some (S := (n, R, nc, CR, wg, Q)) hf, show f_opn p1 p2 (R k) = ((-103), (R k)) from by simp [f_opn, eq_false c_11, eq_false c_17, eq_true c_18, eq_false c_19]]; exact ⟨rfl, by rw [va_up_id]; exact hB.rx⟩) (Nat.le_of_ble_eq_true rfl) (Nat.le_of_ble_eq_true rfl) d_F_open_58
      · refine lv_bipush (v := (-102)) hx hb d_F_open_35 (by decide) ?_
        exact wd_iret C hr hlocks h (by rw [o_upd_some (S := (n, R, nc, CR, wg, Q)) hf, show f_opn p1 p2 (R k) = ((-102), (R k)) from by simp [f_opn, eq_false c_11, eq_true c_17]]; exact ⟨rfl, by rw [va_up_id]; exact hB.rx⟩) (Nat.le_of_ble_eq_true rfl) (Nat.le_of_ble_eq_true rfl) d_F_open_37

set_option maxHeartbeats 4000000 in
set_option maxRecDepth 20000 in
theorem c_F_about (l : Launch) (D : va_G) (T : Nat → ClassId) (A : Nat → Prop) (σ : wd_S) (x n : Nat) (R : Nat → Nat → Int32) (nc : Nat) (CR : Nat → Nat → Int32) (wg : Nat → Int32) (Q : pq) (aI aC aJ aW aB aP ab : Nat) (fI fC : Nat → Option Nat) (jn wn bk qb : Nat → Int32) (ia aa ca : Nat → Nat) (hB : RB T σ x n R nc CR wg Q aI aC aJ aW aB aP ab fI fC jn wn bk qb ia aa ca) (i wh : Int32) : Met l y_F_about (Cond.code y_F_about b_F_about 4 (some .int) :: wd_tb) { frames := 2, cells := 0, slots := 0, locals := 43 } (va_Pc [.ref x, .int i, .int wh] (wd_Pre D T A σ)) (va_Qi (fun r1 σ1 => r1 = (o_upd (n, R, nc, CR, wg, Q) i (f_abt wh)).1 ∧ RX T σ1 x (o_upd (n, R, nc, CR, wg, Q) i (f_abt wh)).2) (wd_B D A) A) 0 0 A := by
  refine wd_ofW (by decide) (Nat.le_of_ble_eq_true rfl) ?_
  intro p e s m below meth c0 ls C hr hlocks hname h hl
  have hl : lv_has ls 4 [(0, .ref x), (1, .int i), (2, .int wh)] := hl
  have hx := C.1
  have hb := C.2.1
  obtain ⟨b1, b2, b3, b4, b5, b6, b7, b8, b9, b10, b11, b12, b13, b14⟩ := id hB
  refine lv_aload_n hx hb d_F_about_0 rfl (lv_at hl 0 rfl) ?_
  refine lv_iload_n hx hb d_F_about_1 rfl (lv_at hl 1 rfl) ?_
  refine wd_cq h (wd_rV (rest := []) (st0 := [.int i, .ref x]) C h kc_F b1 k_F_find wm_F_find wz_F_find lk_F_64 (c_F_find l D T A σ x aI n fI ia _ _ _ _ _ _ b1 b2 b12 (fun k hk => (b9.1 k hk).1) i) rfl rfl ⟨Nat.le_of_ble_eq_true rfl, Nat.le_of_ble_eq_true rfl⟩ rfl hl.1 rfl (Nat.le_of_ble_eq_true rfl) d_F_about_2 ⟨Nat.le_of_ble_eq_true rfl, Nat.le_of_ble_eq_true rfl⟩) (fun r_1 σ_2 H locs hp_3 h => ?_)
  obtain ⟨e_4, es_5⟩ := hp_3
  rw [es_5] at h
  rw [e_4]
  rcases hf : o_find n i with _ | k
  · refine W.eq (g2 := F0 m 5 ls [.null]) rfl ?_
    refine lv_astore_nN (lv' := [(3, .null), (0, .ref x), (1, .int i), (2, .int wh)]) hx hb d_F_about_5 rfl hl (by decide) rfl (fun ls hl => ?_)
    refine lv_aload_nN hx hb d_F_about_6 rfl (lv_at hl 0 rfl) ?_
    refine lv_ifnonnullN hx hb d_F_about_7 ?_
    refine lv_bipush (v := (-101)) hx hb d_F_about_10 (by decide) ?_
    exact wd_iret C hr hlocks h (by rw [o_upd_none (S := (n, R, nc, CR, wg, Q)) hf]; exact ⟨rfl, hB.rx⟩) (Nat.le_of_ble_eq_true rfl) (Nat.le_of_ble_eq_true rfl) d_F_about_12
  · refine W.eq (g2 := F0 m 5 ls [.ref (ia k)]) rfl ?_
    obtain ⟨hk, hik1, hik⟩ := o_find_some b12 hf
    obtain ⟨g1, g2, g3, g4⟩ := b9.1 k hk
    refine lv_astore_n (lv' := [(3, .ref (ia k)), (0, .ref x), (1, .int i), (2, .int wh)]) hx hb d_F_about_5 rfl hl (by decide) rfl (fun ls hl => ?_)
    refine lv_aload_n hx hb d_F_about_6 rfl (lv_at hl 0 rfl) ?_
    refine lv_ifnonnull (tgt := 13) hx hb d_F_about_7 (by decide) ?_
    refine lv_iload_n hx hb d_F_about_13 rfl (lv_at hl 3 rfl) ?_
    refine lv_iconst (v := 0) hx hb d_F_about_14 (by decide) ?_
    refine lv_bipush (v := 13) hx hb d_F_about_15 (by decide) ?_
    refine wd_ci h (wd_rS (rest := []) (st0 := [.int 13, .int 0, .int wh]) C h k_F_within wt_F_within lk_F_46 (c_F_within l D T A σ wh 0 13) rfl rfl ⟨Nat.le_of_ble_eq_true rfl, Nat.le_of_ble_eq_true rfl⟩ rfl hl.1 rfl (Nat.le_of_ble_eq_true rfl) d_F_about_17 ⟨Nat.le_of_ble_eq_true rfl, Nat.le_of_ble_eq_true rfl⟩) (fun r_6 σ_7 H locs hp_8 h => ?_)
    obtain ⟨e_9, es_10⟩ := hp_8
    rw [es_10] at h
    subst e_9
    refine lv_if_ne (tgt := 26) hx hb d_F_about_20 (by decide) (fun c_11 => ?_) (fun c_11 => ?_)
    · refine lv_aload_n hx hb d_F_about_26 rfl (lv_at hl 0 rfl) ?_
      refine lv_iload_n hx hb d_F_about_27 rfl (lv_at hl 3 rfl) ?_
      refine wd_ci h (wd_rVN (rest := []) (st0 := [.int wh, .ref (ia k)]) C h kc_I g2 k_I_fact wm_I_fact wz_I_fact lk_F_157 (c_I_fact l D T A σ (ia k) (R k) (aa (2 * k)) (aa (2 * k + 1)) g2 wh) rfl rfl ⟨Nat.le_of_ble_eq_true rfl, Nat.le_of_ble_eq_true rfl⟩ rfl hl.1 rfl (Nat.le_of_ble_eq_true rfl) d_F_about_28 ⟨Nat.le_of_ble_eq_true rfl, Nat.le_of_ble_eq_true rfl⟩) (fun r_12 σ_13 H locs hp_14 h => ?_)
      obtain ⟨e_15, es_16⟩ := hp_14
      rw [es_16] at h
      subst e_15
      exact wd_iret C hr hlocks h (by rw [o_upd_some (S := (n, R, nc, CR, wg, Q)) hf, show f_abt wh (R k) = ((xf (R k) wh), (R k)) from by simp [f_abt, eq_false c_11]]; exact ⟨rfl, by rw [va_up_id]; exact hB.rx⟩) (Nat.le_of_ble_eq_true rfl) (Nat.le_of_ble_eq_true rfl) d_F_about_31
    · refine lv_bipush (v := (-102)) hx hb d_F_about_23 (by decide) ?_
      exact wd_iret C hr hlocks h (by rw [o_upd_some (S := (n, R, nc, CR, wg, Q)) hf, show f_abt wh (R k) = ((-102), (R k)) from by simp [f_abt, eq_true c_11]]; exact ⟨rfl, by rw [va_up_id]; exact hB.rx⟩) (Nat.le_of_ble_eq_true rfl) (Nat.le_of_ble_eq_true rfl) d_F_about_25
end
section
set_option maxHeartbeats 4000000 in
set_option maxRecDepth 20000 in
theorem c_F_mustWait (l : Launch) (D : va_G) (T : Nat → ClassId) (A : Nat → Prop) (σ : wd_S) (x n : Nat) (R : Nat → Nat → Int32) (nc : Nat) (CR : Nat → Nat → Int32) (wg : Nat → Int32) (Q : pq) (aI aC aJ aW aB aP ab : Nat) (fI fC : Nat → Option Nat) (jn wn bk qb : Nat → Int32) (ia aa ca : Nat → Nat) (hB : RB T σ x n R nc CR wg Q aI aC aJ aW aB aP ab fI fC jn wn bk qb ia aa ca) (c : Int32) : Met l y_F_mustWait (Cond.code y_F_mustWait b_F_mustWait 4 (some .boolean) :: wd_tb) { frames := 1, cells := 0, slots := 0, locals := 22 } (va_Pc [.ref x, .int c] (wd_Pre D T A σ)) (va_Qi (fun r1 σ1 => r1 = o_mw n R wg c ∧ σ1 = σ) (wd_B D A) A) 0 0 A := by
  refine wd_ofW (by decide) (Nat.le_of_ble_eq_true rfl) ?_
  intro p e s m below meth c0 ls C hr hlocks hname h hl
  have hl : lv_has ls 4 [(0, .ref x), (1, .int c)] := hl
  have hx := C.1
  have hb := C.2.1
  obtain ⟨b1, b2, b3, b4, b5, b6, b7, b8, b9, b10, b11, b12, b13, b14⟩ := id hB
  refine lv_iload_n hx hb d_F_mustWait_0 rfl (lv_at hl 1 rfl) ?_
  refine lv_iconst (v := 1) hx hb d_F_mustWait_1 (by decide) ?_
  refine lv_bipush (v := 30) hx hb d_F_mustWait_2 (by decide) ?_
  refine wd_ci h (wd_rS (rest := []) (st0 := [.int 30, .int 1, .int c]) C h k_F_within wt_F_within lk_F_46 (c_F_within l D T A σ c 1 30) rfl rfl ⟨Nat.le_of_ble_eq_true rfl, Nat.le_of_ble_eq_true rfl⟩ rfl hl.1 rfl (Nat.le_of_ble_eq_true rfl) d_F_mustWait_4 ⟨Nat.le_of_ble_eq_true rfl, Nat.le_of_ble_eq_true rfl⟩) (fun r_1 σ_2 H locs hp_3 h => ?_)
  obtain ⟨e_4, es_5⟩ := hp_3
  rw [es_5] at h
  subst e_4
  refine lv_if_eq (tgt := 19) hx hb d_F_mustWait_7 (by decide) (fun c_6 => ?_) (fun c_6 => ?_)
  · refine lv_iconst (v := 0) hx hb d_F_mustWait_19 (by decide) ?_
    exact wd_zret C hr hlocks h (by decide) (⟨by simp [o_mw, eq_true c_6], rfl⟩) (Nat.le_of_ble_eq_true rfl) (Nat.le_of_ble_eq_true rfl) d_F_mustWait_20
  · refine lv_aload_n hx hb d_F_mustWait_10 rfl (lv_at hl 0 rfl) ?_
    refine wd_get C h kc_F b1 5 (by decide) lk_F_32 rfl d_F_mustWait_11 ?_
    refine lv_iload_n hx hb d_F_mustWait_14 rfl (lv_at hl 1 rfl) ?_
    refine wd_zald C h 1 rfl b5 (xw_vp c_6 (by decide) (by decide)) d_F_mustWait_15 ?_
    have hwg := b11.2.2 c.toNatClampNeg (xw_le c_6 rfl)
    rw [hwg]
    refine lv_if_ne (tgt := 21) hx hb d_F_mustWait_16 (by decide) (fun c_7 => ?_) (fun c_7 => ?_)
    · refine lv_iconst (v := 0) hx hb d_F_mustWait_21 (by decide) ?_
      refine lv_istore_n (lv' := [(2, .int 0), (0, .ref x), (1, .int c)]) hx hb d_F_mustWait_22 rfl hl (by decide) rfl (fun ls hl => ?_)
      have hl2 : ∃ j : Nat, j ≤ n ∧ anyw R c j = false ∧ lv_has ls 4 [(2, .int (nI j)), (1, .int c), (0, .ref x)] := ⟨0, Nat.zero_le _, rfl, lv_sub hl [0, 2, 1] rfl⟩
      clear hl
      obtain ⟨j, hj, hany, hl⟩ := hl2
      obtain ⟨z, hz⟩ : ∃ z : Nat, n < j + z := ⟨n + 1, by omega⟩
      induction z generalizing j ls H locs with
      | zero => omega
      | succ z ih =>
        refine lv_iload_n hx hb d_F_mustWait_23 rfl (lv_at hl 0 rfl) ?_
        refine lv_aload_n hx hb d_F_mustWait_24 rfl (lv_at hl 2 rfl) ?_
        refine wd_get C h kc_F b1 1 (by decide) lk_F_15 rfl d_F_mustWait_25 ?_
        refine lv_icmp_ge (tgt := 73) hx hb d_F_mustWait_28 (by decide) (fun c_8 => ?_) (fun c_8 => ?_)
        · refine lv_iconst (v := 0) hx hb d_F_mustWait_73 (by decide) ?_
          exact wd_zret C hr hlocks h (by decide) (⟨by rw [ix_d (by omega) hj c_8] at hany; simp [o_mw, eq_false c_6, eq_false c_7, hany], rfl⟩) (Nat.le_of_ble_eq_true rfl) (Nat.le_of_ble_eq_true rfl) d_F_mustWait_74
        · refine lv_aload_n hx hb d_F_mustWait_31 rfl (lv_at hl 2 rfl) ?_
          refine wd_get C h kc_F b1 0 (by decide) lk_F_11 rfl d_F_mustWait_32 ?_
          refine lv_iload_n hx hb d_F_mustWait_35 rfl (lv_at hl 0 rfl) ?_
          have hlt := ix_c (by omega) hj c_8
          refine wd_aldq C h 2 rfl b2 (vp_in_nI (show j < 120 by omega) (by decide)) d_F_mustWait_36 ?_
          obtain ⟨g1, g2, g3, g4⟩ := b9.1 j hlt
          refine W.eq (g2 := F0 m 37 ls (.ref (ia j) :: [])) (by rw [nI_clamp (by omega), g1]; rfl) ?_
          refine lv_astore_n (lv' := [(3, .ref (ia j)), (2, .int (nI j)), (1, .int c), (0, .ref x)]) hx hb d_F_mustWait_37 rfl hl (by decide) rfl (fun ls hl => ?_)
          refine lv_aload_n hx hb d_F_mustWait_38 rfl (lv_at hl 0 rfl) ?_
          refine lv_ifnull hx hb d_F_mustWait_39 ?_
          refine lv_aload_n hx hb d_F_mustWait_42 rfl (lv_at hl 0 rfl) ?_
          refine wd_getN C h kc_I g2 10 (by decide) lk_F_106 rfl d_F_mustWait_43 ?_
          refine lv_iload_n hx hb d_F_mustWait_46 rfl (lv_at hl 2 rfl) ?_
          refine lv_icmp_ne (tgt := 67) hx hb d_F_mustWait_47 (by decide) (fun c_9 => ?_) (fun c_9 => ?_)
          · refine lv_iinc (v := ((nI j) + 1)) (lv' := [(2, .int ((nI j) + 1)), (3, .ref (ia j)), (1, .int c), (0, .ref x)]) hx hb d_F_mustWait_67 hl (k := 1) rfl (by first | rfl | decide) (by decide) rfl (fun ls hl => ?_)
            refine lv_goto (tgt := 23) hx hb d_F_mustWait_70 (by decide) ?_
            have hl3 : lv_has ls 4 [(2, .int (nI (j + 1))), (1, .int c), (0, .ref x)] := by
              rw [← nI_1]
              exact lv_sub hl [0, 2, 3] rfl
            exact ih (H := _) (locs := _) (ls := ls) (j := j + 1) h hlt (anyw_f hany (by simp [eq_false c_9])) hl3 (by omega)
          · refine lv_aload_n hx hb d_F_mustWait_50 rfl (lv_at hl 0 rfl) ?_
            refine wd_getN C h kc_I g2 5 (by decide) lk_F_103 rfl d_F_mustWait_51 ?_
            refine lv_iconst (v := 4) hx hb d_F_mustWait_54 (by decide) ?_
            refine lv_icmp_eq (tgt := 67) hx hb d_F_mustWait_55 (by decide) (fun c_10 => ?_) (fun c_10 => ?_)
            · refine lv_iinc (v := ((nI j) + 1)) (lv' := [(2, .int ((nI j) + 1)), (3, .ref (ia j)), (1, .int c), (0, .ref x)]) hx hb d_F_mustWait_67 hl (k := 1) rfl (by first | rfl | decide) (by decide) rfl (fun ls hl => ?_)
              refine lv_goto (tgt := 23) hx hb d_F_mustWait_70 (by decide) ?_
              have hl3 : lv_has ls 4 [(2, .int (nI (j + 1))), (1, .int c), (0, .ref x)] := by
                rw [← nI_1]
                exact lv_sub hl [0, 2, 3] rfl
              exact ih (H := _) (locs := _) (ls := ls) (j := j + 1) h hlt (anyw_f hany (by simp [eq_true c_9, eq_true c_10])) hl3 (by omega)
            · refine lv_aload_n hx hb d_F_mustWait_58 rfl (lv_at hl 0 rfl) ?_
              refine wd_ci h (wd_rVN (rest := []) (st0 := [.ref (ia j)]) C h kc_I g2 k_I_isAtEnd wm_I_isAtEnd wz_I_isAtEnd lk_F_72 (c_I_isAtEnd l D T A σ (ia j) (R j) (aa (2 * j)) (aa (2 * j + 1)) g2 ) rfl rfl ⟨Nat.le_of_ble_eq_true rfl, Nat.le_of_ble_eq_true rfl⟩ rfl hl.1 rfl (Nat.le_of_ble_eq_true rfl) d_F_mustWait_59 ⟨Nat.le_of_ble_eq_true rfl, Nat.le_of_ble_eq_true rfl⟩) (fun r_11 σ_12 H locs hp_13 h => ?_)
              obtain ⟨e_14, es_15⟩ := hp_13
              rw [es_15] at h
              subst e_14
              refine lv_if_ne (tgt := 67) hx hb d_F_mustWait_62 (by decide) (fun c_16 => ?_) (fun c_16 => ?_)
              · refine lv_iinc (v := ((nI j) + 1)) (lv' := [(2, .int ((nI j) + 1)), (3, .ref (ia j)), (1, .int c), (0, .ref x)]) hx hb d_F_mustWait_67 hl (k := 1) rfl (by first | rfl | decide) (by decide) rfl (fun ls hl => ?_)
                refine lv_goto (tgt := 23) hx hb d_F_mustWait_70 (by decide) ?_
                have hl3 : lv_has ls 4 [(2, .int (nI (j + 1))), (1, .int c), (0, .ref x)] := by
                  rw [← nI_1]
                  exact lv_sub hl [0, 2, 3] rfl
                exact ih (H := _) (locs := _) (ls := ls) (j := j + 1) h hlt (anyw_f hany (by simp [eq_true c_9, eq_false c_10, eq_false c_16])) hl3 (by omega)
              · refine lv_iconst (v := 1) hx hb d_F_mustWait_65 (by decide) ?_
                exact wd_zret C hr hlocks h (by decide) (⟨by simp [o_mw, eq_false c_6, eq_false c_7, anyw_t c_9 c_10 c_16 n hlt], rfl⟩) (Nat.le_of_ble_eq_true rfl) (Nat.le_of_ble_eq_true rfl) d_F_mustWait_66
    · refine lv_iconst (v := 0) hx hb d_F_mustWait_19 (by decide) ?_
      exact wd_zret C hr hlocks h (by decide) (⟨by simp [o_mw, eq_false c_6, eq_true c_7], rfl⟩) (Nat.le_of_ble_eq_true rfl) (Nat.le_of_ble_eq_true rfl) d_F_mustWait_20

theorem xu_lo {r : Nat → Int32} {ev nx : Int32} {j : Nat} (h5 : j ≠ 5) (h6 : j ≠ 6) : xu r ev nx j = r j := by
  unfold xu
  split
  · rw [pk_un h6, pk_un h5]
  · split
    · rw [pk_un h6, pk_un h5]
    · rw [pk_un h5]

set_option maxHeartbeats 4000000 in
set_option maxRecDepth 20000 in
theorem c_F_event (l : Launch) (D : va_G) (T : Nat → ClassId) (A : Nat → Prop) (σ : wd_S) (x n : Nat) (R : Nat → Nat → Int32) (nc : Nat) (CR : Nat → Nat → Int32) (wg : Nat → Int32) (Q : pq) (aI aC aJ aW aB aP ab : Nat) (fI fC : Nat → Option Nat) (jn wn bk qb : Nat → Int32) (ia aa ca : Nat → Nat) (hB : RB T σ x n R nc CR wg Q aI aC aJ aW aB aP ab fI fC jn wn bk qb ia aa ca) (i ev : Int32) : Met l y_F_event (Cond.code y_F_event b_F_event 5 (some .int) :: wd_tb) { frames := 2, cells := 0, slots := 0, locals := 45 } (va_Pc [.ref x, .int i, .int ev] (wd_Pre D T A σ)) (va_Qi (fun r1 σ1 => r1 = (o_upd (n, R, nc, CR, wg, Q) i (f_evt (o_mw n R wg) ev)).1 ∧ RX T σ1 x (o_upd (n, R, nc, CR, wg, Q) i (f_evt (o_mw n R wg) ev)).2) (wd_B D A) A) 0 0 A := by
  refine wd_ofW (by decide) (Nat.le_of_ble_eq_true rfl) ?_
  intro p e s m below meth c0 ls C hr hlocks hname h hl
  have hl : lv_has ls 5 [(0, .ref x), (1, .int i), (2, .int ev)] := hl
  have hx := C.1
  have hb := C.2.1
  obtain ⟨b1, b2, b3, b4, b5, b6, b7, b8, b9, b10, b11, b12, b13, b14⟩ := id hB
  refine lv_aload_n hx hb d_F_event_0 rfl (lv_at hl 0 rfl) ?_
  refine lv_iload_n hx hb d_F_event_1 rfl (lv_at hl 1 rfl) ?_
  refine wd_cq h (wd_rV (rest := []) (st0 := [.int i, .ref x]) C h kc_F b1 k_F_find wm_F_find wz_F_find lk_F_64 (c_F_find l D T A σ x aI n fI ia _ _ _ _ _ _ b1 b2 b12 (fun k hk => (b9.1 k hk).1) i) rfl rfl ⟨Nat.le_of_ble_eq_true rfl, Nat.le_of_ble_eq_true rfl⟩ rfl hl.1 rfl (Nat.le_of_ble_eq_true rfl) d_F_event_2 ⟨Nat.le_of_ble_eq_true rfl, Nat.le_of_ble_eq_true rfl⟩) (fun r_1 σ_2 H locs hp_3 h => ?_)
  obtain ⟨e_4, es_5⟩ := hp_3
  rw [es_5] at h
  rw [e_4]
  rcases hf : o_find n i with _ | k
  · refine W.eq (g2 := F0 m 5 ls [.null]) rfl ?_
    refine lv_astore_nN (lv' := [(3, .null), (0, .ref x), (1, .int i), (2, .int ev)]) hx hb d_F_event_5 rfl hl (by decide) rfl (fun ls hl => ?_)
    refine lv_aload_nN hx hb d_F_event_6 rfl (lv_at hl 0 rfl) ?_
    refine lv_ifnonnullN hx hb d_F_event_7 ?_
    refine lv_bipush (v := (-101)) hx hb d_F_event_10 (by decide) ?_
    exact wd_iret C hr hlocks h (by rw [o_upd_none (S := (n, R, nc, CR, wg, Q)) hf]; exact ⟨rfl, hB.rx⟩) (Nat.le_of_ble_eq_true rfl) (Nat.le_of_ble_eq_true rfl) d_F_event_12
  · refine W.eq (g2 := F0 m 5 ls [.ref (ia k)]) rfl ?_
    obtain ⟨hk, hik1, hik⟩ := o_find_some b12 hf
    obtain ⟨g1, g2, g3, g4⟩ := b9.1 k hk
    refine lv_astore_n (lv' := [(3, .ref (ia k)), (0, .ref x), (1, .int i), (2, .int ev)]) hx hb d_F_event_5 rfl hl (by decide) rfl (fun ls hl => ?_)
    refine lv_aload_n hx hb d_F_event_6 rfl (lv_at hl 0 rfl) ?_
    refine lv_ifnonnull (tgt := 13) hx hb d_F_event_7 (by decide) ?_
    refine lv_iload_n hx hb d_F_event_13 rfl (lv_at hl 3 rfl) ?_
    refine lv_iconst (v := 0) hx hb d_F_event_14 (by decide) ?_
    refine lv_bipush (v := 10) hx hb d_F_event_15 (by decide) ?_
    refine wd_ci h (wd_rS (rest := []) (st0 := [.int 10, .int 0, .int ev]) C h k_F_within wt_F_within lk_F_46 (c_F_within l D T A σ ev 0 10) rfl rfl ⟨Nat.le_of_ble_eq_true rfl, Nat.le_of_ble_eq_true rfl⟩ rfl hl.1 rfl (Nat.le_of_ble_eq_true rfl) d_F_event_17 ⟨Nat.le_of_ble_eq_true rfl, Nat.le_of_ble_eq_true rfl⟩) (fun r_6 σ_7 H locs hp_8 h => ?_)
    obtain ⟨e_9, es_10⟩ := hp_8
    rw [es_10] at h
    subst e_9
    refine lv_if_ne (tgt := 26) hx hb d_F_event_20 (by decide) (fun c_11 => ?_) (fun c_11 => ?_)
    · refine lv_aload_n hx hb d_F_event_26 rfl (lv_at hl 0 rfl) ?_
      refine wd_ci h (wd_rVN (rest := []) (st0 := [.ref (ia k)]) C h kc_I g2 k_I_isAtEnd wm_I_isAtEnd wz_I_isAtEnd lk_F_72 (c_I_isAtEnd l D T A σ (ia k) (R k) (aa (2 * k)) (aa (2 * k + 1)) g2 ) rfl rfl ⟨Nat.le_of_ble_eq_true rfl, Nat.le_of_ble_eq_true rfl⟩ rfl hl.1 rfl (Nat.le_of_ble_eq_true rfl) d_F_event_27 ⟨Nat.le_of_ble_eq_true rfl, Nat.le_of_ble_eq_true rfl⟩) (fun r_12 σ_13 H locs hp_14 h => ?_)
      obtain ⟨e_15, es_16⟩ := hp_14
      rw [es_16] at h
      subst e_15
      refine lv_if_eq (tgt := 46) hx hb d_F_event_30 (by decide) (fun c_17 => ?_) (fun c_17 => ?_)
      · refine lv_aload_n hx hb d_F_event_46 rfl (lv_at hl 0 rfl) ?_
        refine lv_iload_n hx hb d_F_event_47 rfl (lv_at hl 3 rfl) ?_
        refine wd_ci h (wd_rVN (rest := []) (st0 := [.int ev, .ref (ia k)]) C h kc_I g2 k_I_stateBehind wm_I_stateBehind wz_I_stateBehind lk_F_94 (c_I_stateBehind l D T A σ (ia k) (R k) (aa (2 * k)) (aa (2 * k + 1)) g2 ev) rfl rfl ⟨Nat.le_of_ble_eq_true rfl, Nat.le_of_ble_eq_true rfl⟩ rfl hl.1 rfl (Nat.le_of_ble_eq_true rfl) d_F_event_48 ⟨Nat.le_of_ble_eq_true rfl, Nat.le_of_ble_eq_true rfl⟩) (fun r_18 σ_19 H locs hp_20 h => ?_)
        obtain ⟨e_21, es_22⟩ := hp_20
        rw [es_22] at h
        subst e_21
        refine lv_istore (lv' := [(4, .int (xb (R k) ev)), (3, .ref (ia k)), (0, .ref x), (1, .int i), (2, .int ev)]) hx hb d_F_event_51 hl (by decide) rfl (fun ls hl => ?_)
        refine lv_iload hx hb d_F_event_53 (lv_at hl 0 rfl) ?_
        refine lv_iconst (v := (-1)) hx hb d_F_event_55 (by decide) ?_
        refine lv_icmp_ne (tgt := 62) hx hb d_F_event_56 (by decide) (fun c_23 => ?_) (fun c_23 => ?_)
        · refine lv_iload_n hx hb d_F_event_62 rfl (lv_at hl 4 rfl) ?_
          refine lv_iconst (v := 2) hx hb d_F_event_63 (by decide) ?_
          refine lv_icmp_ne (tgt := 84) hx hb d_F_event_64 (by decide) (fun c_24 => ?_) (fun c_24 => ?_)
          · refine lv_iload_n hx hb d_F_event_84 rfl (lv_at hl 4 rfl) ?_
            refine lv_iconst (v := 4) hx hb d_F_event_85 (by decide) ?_
            refine lv_icmp_ne (tgt := 111) hx hb d_F_event_86 (by decide) (fun c_25 => ?_) (fun c_25 => ?_)
            · refine lv_aload_n hx hb d_F_event_111 rfl (lv_at hl 1 rfl) ?_
              refine lv_iload_n hx hb d_F_event_112 rfl (lv_at hl 4 rfl) ?_
              refine lv_iload hx hb d_F_event_113 (lv_at hl 0 rfl) ?_
              refine wd_cv h (wd_rVN (rest := []) (st0 := [.int (xb (R k) ev), .int ev, .ref (ia k)]) C h kc_I g2 k_I_undergo wm_I_undergo wz_I_undergo lk_F_112 (c_I_undergo l D T A σ (ia k) (R k) (aa (2 * k)) (aa (2 * k + 1)) g2 ev (xb (R k) ev)) rfl rfl ⟨Nat.le_of_ble_eq_true rfl, Nat.le_of_ble_eq_true rfl⟩ rfl hl.1 rfl (Nat.le_of_ble_eq_true rfl) d_F_event_115 ⟨Nat.le_of_ble_eq_true rfl, Nat.le_of_ble_eq_true rfl⟩) (fun σ_27 H locs hp_28 h => ?_)
              rw [hp_28] at h
              refine lv_iload hx hb d_F_event_118 (lv_at hl 0 rfl) ?_
              exact wd_iret C hr hlocks h (by rw [o_upd_some (S := (n, R, nc, CR, wg, Q)) hf, show f_evt (o_mw n R wg) ev (R k) = ((xb (R k) ev), (xu (R k) ev (xb (R k) ev))) from by simp [f_evt, eq_false c_11, eq_true c_17, eq_false c_23, eq_false c_24, eq_false c_25]]; exact ⟨rfl, (hB.item (r := (xu (R k) ev (xb (R k) ev))) hk (xu_lo (by decide) (by decide)) (xu_lo (by decide) (by decide)) (fun j hj => xu_lo (by omega) (by omega))).rx⟩) (Nat.le_of_ble_eq_true rfl) (Nat.le_of_ble_eq_true rfl) d_F_event_120
            · refine lv_aload_n hx hb d_F_event_89 rfl (lv_at hl 1 rfl) ?_
              refine wd_getN C h kc_I g2 5 (by decide) lk_F_103 rfl d_F_event_90 ?_
              refine lv_iconst (v := 4) hx hb d_F_event_93 (by decide) ?_
              refine lv_icmp_ne (tgt := 111) hx hb d_F_event_94 (by decide) (fun c_29 => ?_) (fun c_29 => ?_)
              · refine lv_aload_n hx hb d_F_event_111 rfl (lv_at hl 1 rfl) ?_
                refine lv_iload_n hx hb d_F_event_112 rfl (lv_at hl 4 rfl) ?_
                refine lv_iload hx hb d_F_event_113 (lv_at hl 0 rfl) ?_
                refine wd_cv h (wd_rVN (rest := []) (st0 := [.int (xb (R k) ev), .int ev, .ref (ia k)]) C h kc_I g2 k_I_undergo wm_I_undergo wz_I_undergo lk_F_112 (c_I_undergo l D T A σ (ia k) (R k) (aa (2 * k)) (aa (2 * k + 1)) g2 ev (xb (R k) ev)) rfl rfl ⟨Nat.le_of_ble_eq_true rfl, Nat.le_of_ble_eq_true rfl⟩ rfl hl.1 rfl (Nat.le_of_ble_eq_true rfl) d_F_event_115 ⟨Nat.le_of_ble_eq_true rfl, Nat.le_of_ble_eq_true rfl⟩) (fun σ_31 H locs hp_32 h => ?_)
                rw [hp_32] at h
                refine lv_iload hx hb d_F_event_118 (lv_at hl 0 rfl) ?_
                exact wd_iret C hr hlocks h (by rw [o_upd_some (S := (n, R, nc, CR, wg, Q)) hf, show f_evt (o_mw n R wg) ev (R k) = ((xb (R k) ev), (xu (R k) ev (xb (R k) ev))) from by simp [f_evt, eq_false c_11, eq_true c_17, eq_false c_23, eq_false c_24, eq_true c_25, eq_false c_29]]; exact ⟨rfl, (hB.item (r := (xu (R k) ev (xb (R k) ev))) hk (xu_lo (by decide) (by decide)) (xu_lo (by decide) (by decide)) (fun j hj => xu_lo (by omega) (by omega))).rx⟩) (Nat.le_of_ble_eq_true rfl) (Nat.le_of_ble_eq_true rfl) d_F_event_120
              · refine lv_aload_n hx hb d_F_event_97 rfl (lv_at hl 2 rfl) ?_
                refine lv_aload_n hx hb d_F_event_98 rfl (lv_at hl 1 rfl) ?_
                refine wd_getN C h kc_I g2 10 (by decide) lk_F_106 rfl d_F_event_99 ?_
                refine wd_ci h (wd_rV (rest := []) (st0 := [.int (R k 10), .ref x]) C h kc_F b1 k_F_mustWait wm_F_mustWait wz_F_mustWait lk_F_109 (c_F_mustWait l D T A σ x n R nc CR wg Q aI aC aJ aW aB aP ab fI fC jn wn bk qb ia aa ca hB (R k 10)) rfl rfl ⟨Nat.le_of_ble_eq_true rfl, Nat.le_of_ble_eq_true rfl⟩ rfl hl.1 rfl (Nat.le_of_ble_eq_true rfl) d_F_event_102 ⟨Nat.le_of_ble_eq_true rfl, Nat.le_of_ble_eq_true rfl⟩) (fun r_33 σ_34 H locs hp_35 h => ?_)
                obtain ⟨e_36, es_37⟩ := hp_35
                rw [es_37] at h
                subst e_36
                refine lv_if_eq (tgt := 111) hx hb d_F_event_105 (by decide) (fun c_38 => ?_) (fun c_38 => ?_)
                · refine lv_aload_n hx hb d_F_event_111 rfl (lv_at hl 1 rfl) ?_
                  refine lv_iload_n hx hb d_F_event_112 rfl (lv_at hl 4 rfl) ?_
                  refine lv_iload hx hb d_F_event_113 (lv_at hl 0 rfl) ?_
                  refine wd_cv h (wd_rVN (rest := []) (st0 := [.int (xb (R k) ev), .int ev, .ref (ia k)]) C h kc_I g2 k_I_undergo wm_I_undergo wz_I_undergo lk_F_112 (c_I_undergo l D T A σ (ia k) (R k) (aa (2 * k)) (aa (2 * k + 1)) g2 ev (xb (R k) ev)) rfl rfl ⟨Nat.le_of_ble_eq_true rfl, Nat.le_of_ble_eq_true rfl⟩ rfl hl.1 rfl (Nat.le_of_ble_eq_true rfl) d_F_event_115 ⟨Nat.le_of_ble_eq_true rfl, Nat.le_of_ble_eq_true rfl⟩) (fun σ_40 H locs hp_41 h => ?_)
                  rw [hp_41] at h
                  refine lv_iload hx hb d_F_event_118 (lv_at hl 0 rfl) ?_
                  exact wd_iret C hr hlocks h (by rw [o_upd_some (S := (n, R, nc, CR, wg, Q)) hf, show f_evt (o_mw n R wg) ev (R k) = ((xb (R k) ev), (xu (R k) ev (xb (R k) ev))) from by simp [f_evt, eq_false c_11, eq_true c_17, eq_false c_23, eq_false c_24, eq_true c_25, eq_true c_29, eq_true c_38]]; exact ⟨rfl, (hB.item (r := (xu (R k) ev (xb (R k) ev))) hk (xu_lo (by decide) (by decide)) (xu_lo (by decide) (by decide)) (fun j hj => xu_lo (by omega) (by omega))).rx⟩) (Nat.le_of_ble_eq_true rfl) (Nat.le_of_ble_eq_true rfl) d_F_event_120
                · refine lv_bipush (v := (-107)) hx hb d_F_event_108 (by decide) ?_
                  exact wd_iret C hr hlocks h (by rw [o_upd_some (S := (n, R, nc, CR, wg, Q)) hf, show f_evt (o_mw n R wg) ev (R k) = ((-107), (R k)) from by simp [f_evt, eq_false c_11, eq_true c_17, eq_false c_23, eq_false c_24, eq_true c_25, eq_true c_29, eq_false c_38]]; exact ⟨rfl, by rw [va_up_id]; exact hB.rx⟩) (Nat.le_of_ble_eq_true rfl) (Nat.le_of_ble_eq_true rfl) d_F_event_110
          · refine lv_aload_n hx hb d_F_event_67 rfl (lv_at hl 1 rfl) ?_
            refine wd_getN C h kc_I g2 9 (by decide) lk_F_97 rfl d_F_event_68 ?_
            refine lv_if_eq (tgt := 84) hx hb d_F_event_71 (by decide) (fun c_42 => ?_) (fun c_42 => ?_)
            · refine lv_iload_n hx hb d_F_event_84 rfl (lv_at hl 4 rfl) ?_
              refine lv_iconst (v := 4) hx hb d_F_event_85 (by decide) ?_
              refine lv_icmp_ne (tgt := 111) hx hb d_F_event_86 (by decide) (fun c_43 => ?_) (fun c_43 => ?_)
              · refine lv_aload_n hx hb d_F_event_111 rfl (lv_at hl 1 rfl) ?_
                refine lv_iload_n hx hb d_F_event_112 rfl (lv_at hl 4 rfl) ?_
                refine lv_iload hx hb d_F_event_113 (lv_at hl 0 rfl) ?_
                refine wd_cv h (wd_rVN (rest := []) (st0 := [.int (xb (R k) ev), .int ev, .ref (ia k)]) C h kc_I g2 k_I_undergo wm_I_undergo wz_I_undergo lk_F_112 (c_I_undergo l D T A σ (ia k) (R k) (aa (2 * k)) (aa (2 * k + 1)) g2 ev (xb (R k) ev)) rfl rfl ⟨Nat.le_of_ble_eq_true rfl, Nat.le_of_ble_eq_true rfl⟩ rfl hl.1 rfl (Nat.le_of_ble_eq_true rfl) d_F_event_115 ⟨Nat.le_of_ble_eq_true rfl, Nat.le_of_ble_eq_true rfl⟩) (fun σ_45 H locs hp_46 h => ?_)
                rw [hp_46] at h
                refine lv_iload hx hb d_F_event_118 (lv_at hl 0 rfl) ?_
                exact wd_iret C hr hlocks h (by rw [o_upd_some (S := (n, R, nc, CR, wg, Q)) hf, show f_evt (o_mw n R wg) ev (R k) = ((xb (R k) ev), (xu (R k) ev (xb (R k) ev))) from by simp [f_evt, eq_false c_11, eq_true c_17, eq_false c_23, eq_true c_24, eq_true c_42, eq_false c_43]]; exact ⟨rfl, (hB.item (r := (xu (R k) ev (xb (R k) ev))) hk (xu_lo (by decide) (by decide)) (xu_lo (by decide) (by decide)) (fun j hj => xu_lo (by omega) (by omega))).rx⟩) (Nat.le_of_ble_eq_true rfl) (Nat.le_of_ble_eq_true rfl) d_F_event_120
              · refine lv_aload_n hx hb d_F_event_89 rfl (lv_at hl 1 rfl) ?_
                refine wd_getN C h kc_I g2 5 (by decide) lk_F_103 rfl d_F_event_90 ?_
                refine lv_iconst (v := 4) hx hb d_F_event_93 (by decide) ?_
                refine lv_icmp_ne (tgt := 111) hx hb d_F_event_94 (by decide) (fun c_47 => ?_) (fun c_47 => ?_)
                · refine lv_aload_n hx hb d_F_event_111 rfl (lv_at hl 1 rfl) ?_
                  refine lv_iload_n hx hb d_F_event_112 rfl (lv_at hl 4 rfl) ?_
                  refine lv_iload hx hb d_F_event_113 (lv_at hl 0 rfl) ?_
                  refine wd_cv h (wd_rVN (rest := []) (st0 := [.int (xb (R k) ev), .int ev, .ref (ia k)]) C h kc_I g2 k_I_undergo wm_I_undergo wz_I_undergo lk_F_112 (c_I_undergo l D T A σ (ia k) (R k) (aa (2 * k)) (aa (2 * k + 1)) g2 ev (xb (R k) ev)) rfl rfl ⟨Nat.le_of_ble_eq_true rfl, Nat.le_of_ble_eq_true rfl⟩ rfl hl.1 rfl (Nat.le_of_ble_eq_true rfl) d_F_event_115 ⟨Nat.le_of_ble_eq_true rfl, Nat.le_of_ble_eq_true rfl⟩) (fun σ_49 H locs hp_50 h => ?_)
                  rw [hp_50] at h
                  refine lv_iload hx hb d_F_event_118 (lv_at hl 0 rfl) ?_
                  exact wd_iret C hr hlocks h (by rw [o_upd_some (S := (n, R, nc, CR, wg, Q)) hf, show f_evt (o_mw n R wg) ev (R k) = ((xb (R k) ev), (xu (R k) ev (xb (R k) ev))) from by simp [f_evt, eq_false c_11, eq_true c_17, eq_false c_23, eq_true c_24, eq_true c_42, eq_true c_43, eq_false c_47]]; exact ⟨rfl, (hB.item (r := (xu (R k) ev (xb (R k) ev))) hk (xu_lo (by decide) (by decide)) (xu_lo (by decide) (by decide)) (fun j hj => xu_lo (by omega) (by omega))).rx⟩) (Nat.le_of_ble_eq_true rfl) (Nat.le_of_ble_eq_true rfl) d_F_event_120
                · refine lv_aload_n hx hb d_F_event_97 rfl (lv_at hl 2 rfl) ?_
                  refine lv_aload_n hx hb d_F_event_98 rfl (lv_at hl 1 rfl) ?_
                  refine wd_getN C h kc_I g2 10 (by decide) lk_F_106 rfl d_F_event_99 ?_
                  refine wd_ci h (wd_rV (rest := []) (st0 := [.int (R k 10), .ref x]) C h kc_F b1 k_F_mustWait wm_F_mustWait wz_F_mustWait lk_F_109 (c_F_mustWait l D T A σ x n R nc CR wg Q aI aC aJ aW aB aP ab fI fC jn wn bk qb ia aa ca hB (R k 10)) rfl rfl ⟨Nat.le_of_ble_eq_true rfl, Nat.le_of_ble_eq_true rfl⟩ rfl hl.1 rfl (Nat.le_of_ble_eq_true rfl) d_F_event_102 ⟨Nat.le_of_ble_eq_true rfl, Nat.le_of_ble_eq_true rfl⟩) (fun r_51 σ_52 H locs hp_53 h => ?_)
                  obtain ⟨e_54, es_55⟩ := hp_53
                  rw [es_55] at h
                  subst e_54
                  refine lv_if_eq (tgt := 111) hx hb d_F_event_105 (by decide) (fun c_56 => ?_) (fun c_56 => ?_)
                  · refine lv_aload_n hx hb d_F_event_111 rfl (lv_at hl 1 rfl) ?_
                    refine lv_iload_n hx hb d_F_event_112 rfl (lv_at hl 4 rfl) ?_
                    refine lv_iload hx hb d_F_event_113 (lv_at hl 0 rfl) ?_
                    refine wd_cv h (wd_rVN (rest := []) (st0 := [.int (xb (R k) ev), .int ev, .ref (ia k)]) C h kc_I g2 k_I_undergo wm_I_undergo wz_I_undergo lk_F_112 (c_I_undergo l D T A σ (ia k) (R k) (aa (2 * k)) (aa (2 * k + 1)) g2 ev (xb (R k) ev)) rfl rfl ⟨Nat.le_of_ble_eq_true rfl, Nat.le_of_ble_eq_true rfl⟩ rfl hl.1 rfl (Nat.le_of_ble_eq_true rfl) d_F_event_115 ⟨Nat.le_of_ble_eq_true rfl, Nat.le_of_ble_eq_true rfl⟩) (fun σ_58 H locs hp_59 h => ?_)
                    rw [hp_59] at h
                    refine lv_iload hx hb d_F_event_118 (lv_at hl 0 rfl) ?_
                    exact wd_iret C hr hlocks h (by rw [o_upd_some (S := (n, R, nc, CR, wg, Q)) hf, show f_evt (o_mw n R wg) ev (R k) = ((xb (R k) ev), (xu (R k) ev (xb (R k) ev))) from by simp [f_evt, eq_false c_11, eq_true c_17, eq_false c_23, eq_true c_24, eq_true c_42, eq_true c_43, eq_true c_47, eq_true c_56]]; exact ⟨rfl, (hB.item (r := (xu (R k) ev (xb (R k) ev))) hk (xu_lo (by decide) (by decide)) (xu_lo (by decide) (by decide)) (fun j hj => xu_lo (by omega) (by omega))).rx⟩) (Nat.le_of_ble_eq_true rfl) (Nat.le_of_ble_eq_true rfl) d_F_event_120
                  · refine lv_bipush (v := (-107)) hx hb d_F_event_108 (by decide) ?_
                    exact wd_iret C hr hlocks h (by rw [o_upd_some (S := (n, R, nc, CR, wg, Q)) hf, show f_evt (o_mw n R wg) ev (R k) = ((-107), (R k)) from by simp [f_evt, eq_false c_11, eq_true c_17, eq_false c_23, eq_true c_24, eq_true c_42, eq_true c_43, eq_true c_47, eq_false c_56]]; exact ⟨rfl, by rw [va_up_id]; exact hB.rx⟩) (Nat.le_of_ble_eq_true rfl) (Nat.le_of_ble_eq_true rfl) d_F_event_110
            · refine lv_aload_n hx hb d_F_event_74 rfl (lv_at hl 1 rfl) ?_
              refine wd_getN C h kc_I g2 14 (by decide) lk_F_100 rfl d_F_event_75 ?_
              refine lv_if_ne (tgt := 84) hx hb d_F_event_78 (by decide) (fun c_60 => ?_) (fun c_60 => ?_)
              · refine lv_iload_n hx hb d_F_event_84 rfl (lv_at hl 4 rfl) ?_
                refine lv_iconst (v := 4) hx hb d_F_event_85 (by decide) ?_
                refine lv_icmp_ne (tgt := 111) hx hb d_F_event_86 (by decide) (fun c_61 => ?_) (fun c_61 => ?_)
                · refine lv_aload_n hx hb d_F_event_111 rfl (lv_at hl 1 rfl) ?_
                  refine lv_iload_n hx hb d_F_event_112 rfl (lv_at hl 4 rfl) ?_
                  refine lv_iload hx hb d_F_event_113 (lv_at hl 0 rfl) ?_
                  refine wd_cv h (wd_rVN (rest := []) (st0 := [.int (xb (R k) ev), .int ev, .ref (ia k)]) C h kc_I g2 k_I_undergo wm_I_undergo wz_I_undergo lk_F_112 (c_I_undergo l D T A σ (ia k) (R k) (aa (2 * k)) (aa (2 * k + 1)) g2 ev (xb (R k) ev)) rfl rfl ⟨Nat.le_of_ble_eq_true rfl, Nat.le_of_ble_eq_true rfl⟩ rfl hl.1 rfl (Nat.le_of_ble_eq_true rfl) d_F_event_115 ⟨Nat.le_of_ble_eq_true rfl, Nat.le_of_ble_eq_true rfl⟩) (fun σ_63 H locs hp_64 h => ?_)
                  rw [hp_64] at h
                  refine lv_iload hx hb d_F_event_118 (lv_at hl 0 rfl) ?_
                  exact wd_iret C hr hlocks h (by rw [o_upd_some (S := (n, R, nc, CR, wg, Q)) hf, show f_evt (o_mw n R wg) ev (R k) = ((xb (R k) ev), (xu (R k) ev (xb (R k) ev))) from by simp [f_evt, eq_false c_11, eq_true c_17, eq_false c_23, eq_true c_24, eq_false c_42, eq_false c_60, eq_false c_61]]; exact ⟨rfl, (hB.item (r := (xu (R k) ev (xb (R k) ev))) hk (xu_lo (by decide) (by decide)) (xu_lo (by decide) (by decide)) (fun j hj => xu_lo (by omega) (by omega))).rx⟩) (Nat.le_of_ble_eq_true rfl) (Nat.le_of_ble_eq_true rfl) d_F_event_120
                · refine lv_aload_n hx hb d_F_event_89 rfl (lv_at hl 1 rfl) ?_
                  refine wd_getN C h kc_I g2 5 (by decide) lk_F_103 rfl d_F_event_90 ?_
                  refine lv_iconst (v := 4) hx hb d_F_event_93 (by decide) ?_
                  refine lv_icmp_ne (tgt := 111) hx hb d_F_event_94 (by decide) (fun c_65 => ?_) (fun c_65 => ?_)
                  · refine lv_aload_n hx hb d_F_event_111 rfl (lv_at hl 1 rfl) ?_
                    refine lv_iload_n hx hb d_F_event_112 rfl (lv_at hl 4 rfl) ?_
                    refine lv_iload hx hb d_F_event_113 (lv_at hl 0 rfl) ?_
                    refine wd_cv h (wd_rVN (rest := []) (st0 := [.int (xb (R k) ev), .int ev, .ref (ia k)]) C h kc_I g2 k_I_undergo wm_I_undergo wz_I_undergo lk_F_112 (c_I_undergo l D T A σ (ia k) (R k) (aa (2 * k)) (aa (2 * k + 1)) g2 ev (xb (R k) ev)) rfl rfl ⟨Nat.le_of_ble_eq_true rfl, Nat.le_of_ble_eq_true rfl⟩ rfl hl.1 rfl (Nat.le_of_ble_eq_true rfl) d_F_event_115 ⟨Nat.le_of_ble_eq_true rfl, Nat.le_of_ble_eq_true rfl⟩) (fun σ_67 H locs hp_68 h => ?_)
                    rw [hp_68] at h
                    refine lv_iload hx hb d_F_event_118 (lv_at hl 0 rfl) ?_
                    exact wd_iret C hr hlocks h (by rw [o_upd_some (S := (n, R, nc, CR, wg, Q)) hf, show f_evt (o_mw n R wg) ev (R k) = ((xb (R k) ev), (xu (R k) ev (xb (R k) ev))) from by simp [f_evt, eq_false c_11, eq_true c_17, eq_false c_23, eq_true c_24, eq_false c_42, eq_false c_60, eq_true c_61, eq_false c_65]]; exact ⟨rfl, (hB.item (r := (xu (R k) ev (xb (R k) ev))) hk (xu_lo (by decide) (by decide)) (xu_lo (by decide) (by decide)) (fun j hj => xu_lo (by omega) (by omega))).rx⟩) (Nat.le_of_ble_eq_true rfl) (Nat.le_of_ble_eq_true rfl) d_F_event_120
                  · refine lv_aload_n hx hb d_F_event_97 rfl (lv_at hl 2 rfl) ?_
                    refine lv_aload_n hx hb d_F_event_98 rfl (lv_at hl 1 rfl) ?_
                    refine wd_getN C h kc_I g2 10 (by decide) lk_F_106 rfl d_F_event_99 ?_
                    refine wd_ci h (wd_rV (rest := []) (st0 := [.int (R k 10), .ref x]) C h kc_F b1 k_F_mustWait wm_F_mustWait wz_F_mustWait lk_F_109 (c_F_mustWait l D T A σ x n R nc CR wg Q aI aC aJ aW aB aP ab fI fC jn wn bk qb ia aa ca hB (R k 10)) rfl rfl ⟨Nat.le_of_ble_eq_true rfl, Nat.le_of_ble_eq_true rfl⟩ rfl hl.1 rfl (Nat.le_of_ble_eq_true rfl) d_F_event_102 ⟨Nat.le_of_ble_eq_true rfl, Nat.le_of_ble_eq_true rfl⟩) (fun r_69 σ_70 H locs hp_71 h => ?_)
                    obtain ⟨e_72, es_73⟩ := hp_71
                    rw [es_73] at h
                    subst e_72
                    refine lv_if_eq (tgt := 111) hx hb d_F_event_105 (by decide) (fun c_74 => ?_) (fun c_74 => ?_)
                    · refine lv_aload_n hx hb d_F_event_111 rfl (lv_at hl 1 rfl) ?_
                      refine lv_iload_n hx hb d_F_event_112 rfl (lv_at hl 4 rfl) ?_
                      refine lv_iload hx hb d_F_event_113 (lv_at hl 0 rfl) ?_
                      refine wd_cv h (wd_rVN (rest := []) (st0 := [.int (xb (R k) ev), .int ev, .ref (ia k)]) C h kc_I g2 k_I_undergo wm_I_undergo wz_I_undergo lk_F_112 (c_I_undergo l D T A σ (ia k) (R k) (aa (2 * k)) (aa (2 * k + 1)) g2 ev (xb (R k) ev)) rfl rfl ⟨Nat.le_of_ble_eq_true rfl, Nat.le_of_ble_eq_true rfl⟩ rfl hl.1 rfl (Nat.le_of_ble_eq_true rfl) d_F_event_115 ⟨Nat.le_of_ble_eq_true rfl, Nat.le_of_ble_eq_true rfl⟩) (fun σ_76 H locs hp_77 h => ?_)
                      rw [hp_77] at h
                      refine lv_iload hx hb d_F_event_118 (lv_at hl 0 rfl) ?_
                      exact wd_iret C hr hlocks h (by rw [o_upd_some (S := (n, R, nc, CR, wg, Q)) hf, show f_evt (o_mw n R wg) ev (R k) = ((xb (R k) ev), (xu (R k) ev (xb (R k) ev))) from by simp [f_evt, eq_false c_11, eq_true c_17, eq_false c_23, eq_true c_24, eq_false c_42, eq_false c_60, eq_true c_61, eq_true c_65, eq_true c_74]]; exact ⟨rfl, (hB.item (r := (xu (R k) ev (xb (R k) ev))) hk (xu_lo (by decide) (by decide)) (xu_lo (by decide) (by decide)) (fun j hj => xu_lo (by omega) (by omega))).rx⟩) (Nat.le_of_ble_eq_true rfl) (Nat.le_of_ble_eq_true rfl) d_F_event_120
                    · refine lv_bipush (v := (-107)) hx hb d_F_event_108 (by decide) ?_
                      exact wd_iret C hr hlocks h (by rw [o_upd_some (S := (n, R, nc, CR, wg, Q)) hf, show f_evt (o_mw n R wg) ev (R k) = ((-107), (R k)) from by simp [f_evt, eq_false c_11, eq_true c_17, eq_false c_23, eq_true c_24, eq_false c_42, eq_false c_60, eq_true c_61, eq_true c_65, eq_false c_74]]; exact ⟨rfl, by rw [va_up_id]; exact hB.rx⟩) (Nat.le_of_ble_eq_true rfl) (Nat.le_of_ble_eq_true rfl) d_F_event_110
              · refine lv_bipush (v := (-106)) hx hb d_F_event_81 (by decide) ?_
                exact wd_iret C hr hlocks h (by rw [o_upd_some (S := (n, R, nc, CR, wg, Q)) hf, show f_evt (o_mw n R wg) ev (R k) = ((-106), (R k)) from by simp [f_evt, eq_false c_11, eq_true c_17, eq_false c_23, eq_true c_24, eq_false c_42, eq_true c_60]]; exact ⟨rfl, by rw [va_up_id]; exact hB.rx⟩) (Nat.le_of_ble_eq_true rfl) (Nat.le_of_ble_eq_true rfl) d_F_event_83
        · refine lv_bipush (v := (-103)) hx hb d_F_event_59 (by decide) ?_
          exact wd_iret C hr hlocks h (by rw [o_upd_some (S := (n, R, nc, CR, wg, Q)) hf, show f_evt (o_mw n R wg) ev (R k) = ((-103), (R k)) from by simp [f_evt, eq_false c_11, eq_true c_17, eq_true c_23]]; exact ⟨rfl, by rw [va_up_id]; exact hB.rx⟩) (Nat.le_of_ble_eq_true rfl) (Nat.le_of_ble_eq_true rfl) d_F_event_61
      · refine lv_aload_n hx hb d_F_event_33 rfl (lv_at hl 0 rfl) ?_
        refine lv_dup hx hb d_F_event_34 rfl ?_
        refine wd_getN C h kc_I g2 12 (by decide) lk_F_91 rfl d_F_event_35 ?_
        refine lv_iconst (v := 1) hx hb d_F_event_38 (by decide) ?_
        refine lv_iadd hx hb d_F_event_39 ?_
        refine wd_putN C h kc_I g2 12 (by decide) lk_F_91 rfl (by rfl) (by rfl) (Nat.le_of_ble_eq_true rfl) d_F_event_40 (fun H locs h => ?_)
        have h : wd_C D T A s H locs (wd_up σ (ia k) (.inr (1, [.int (R k 0), .int (R k 1), .int (R k 2), .int (R k 3), .int (R k 4), .int (R k 5), .int (R k 6), .int (R k 7), .int (R k 8), .int (R k 9), .int (R k 10), .int (R k 11), .int ((R k 12) + 1), .int (R k 13), .int (R k 14), .ref (aa (2 * k)), .ref (aa (2 * k + 1))]))) := h
        have h_78 : (wd_up σ (ia k) (.inr (1, [.int (R k 0), .int (R k 1), .int (R k 2), .int (R k 3), .int (R k 4), .int (R k 5), .int (R k 6), .int (R k 7), .int (R k 8), .int (R k 9), .int (R k 10), .int (R k 11), .int ((R k 12) + 1), .int (R k 13), .int (R k 14), .ref (aa (2 * k)), .ref (aa (2 * k + 1))]))) (ia k) = some (.inr (1, [.int (R k 0), .int (R k 1), .int (R k 2), .int (R k 3), .int (R k 4), .int (R k 5), .int (R k 6), .int (R k 7), .int (R k 8), .int (R k 9), .int (R k 10), .int (R k 11), .int ((R k 12) + 1), .int (R k 13), .int (R k 14), .ref (aa (2 * k)), .ref (aa (2 * k + 1))])) := wd_us _ _ _
        have h_79 : (wd_up σ (ia k) (.inr (1, [.int (R k 0), .int (R k 1), .int (R k 2), .int (R k 3), .int (R k 4), .int (R k 5), .int (R k 6), .int (R k 7), .int (R k 8), .int (R k 9), .int (R k 10), .int (R k 11), .int ((R k 12) + 1), .int (R k 13), .int (R k 14), .ref (aa (2 * k)), .ref (aa (2 * k + 1))]))) x = some (.inr (0, [.ref aI, .int (nI n), .ref aC, .int (nI nc), .ref aJ, .ref aW, .ref aB, .ref aP])) := wd_uk b1 (wd_ne b1 g2 (by simp))
        refine lv_bipush (v := (-105)) hx hb d_F_event_43 (by decide) ?_
        exact wd_iret C hr hlocks h (by rw [o_upd_some (S := (n, R, nc, CR, wg, Q)) hf, show f_evt (o_mw n R wg) ev (R k) = ((-105), (upd (R k) 12 ((R k 12) + 1))) from by simp [f_evt, eq_false c_11, eq_false c_17]]; exact ⟨rfl, (hB.item (r := (upd (R k) 12 ((R k 12) + 1))) hk rfl rfl (fun j hj => upd_hi (by decide) hj)).rx⟩) (Nat.le_of_ble_eq_true rfl) (Nat.le_of_ble_eq_true rfl) d_F_event_45
    · refine lv_bipush (v := (-102)) hx hb d_F_event_23 (by decide) ?_
      exact wd_iret C hr hlocks h (by rw [o_upd_some (S := (n, R, nc, CR, wg, Q)) hf, show f_evt (o_mw n R wg) ev (R k) = ((-102), (R k)) from by simp [f_evt, eq_true c_11]]; exact ⟨rfl, by rw [va_up_id]; exact hB.rx⟩) (Nat.le_of_ble_eq_true rfl) (Nat.le_of_ble_eq_true rfl) d_F_event_25

set_option maxHeartbeats 4000000 in
set_option maxRecDepth 20000 in
theorem c_F_row (l : Launch) (D : va_G) (T : Nat → ClassId) (A : Nat → Prop) (σ : wd_S) (x n : Nat) (R : Nat → Nat → Int32) (nc : Nat) (CR : Nat → Nat → Int32) (wg : Nat → Int32) (Q : pq) (aI aC aJ aW aB aP ab : Nat) (fI fC : Nat → Option Nat) (jn wn bk qb : Nat → Int32) (ia aa ca : Nat → Nat) (hB : RB T σ x n R nc CR wg Q aI aC aJ aW aB aP ab fI fC jn wn bk qb ia aa ca) (i wh : Int32) : Met l y_F_row (Cond.code y_F_row b_F_row 4 (some .int) :: wd_tb) { frames := 1, cells := 0, slots := 0, locals := 22 } (va_Pc [.ref x, .int i, .int wh] (wd_Pre D T A σ)) (va_Qi (fun r1 σ1 => r1 = o_row nc CR i wh ∧ σ1 = σ) (wd_B D A) A) 0 0 A := by
  refine wd_ofW (by decide) (Nat.le_of_ble_eq_true rfl) ?_
  intro p e s m below meth c0 ls C hr hlocks hname h hl
  have hl : lv_has ls 4 [(0, .ref x), (1, .int i), (2, .int wh)] := hl
  have hx := C.1
  have hb := C.2.1
  obtain ⟨b1, b2, b3, b4, b5, b6, b7, b8, b9, b10, b11, b12, b13, b14⟩ := id hB
  refine lv_iload_n hx hb d_F_row_0 rfl (lv_at hl 1 rfl) ?_
  refine lv_iconst (v := 0) hx hb d_F_row_1 (by decide) ?_
  refine lv_aload_n hx hb d_F_row_2 rfl (lv_at hl 0 rfl) ?_
  refine wd_get C h kc_F b1 3 (by decide) lk_F_25 rfl d_F_row_3 ?_
  refine lv_iconst (v := 1) hx hb d_F_row_6 (by decide) ?_
  refine lv_isub hx hb d_F_row_7 ?_
  refine wd_ci h (wd_rS (rest := []) (st0 := [.int ((nI nc) - 1), .int 0, .int i]) C h k_F_within wt_F_within lk_F_46 (c_F_within l D T A σ i 0 ((nI nc) - 1)) rfl rfl ⟨Nat.le_of_ble_eq_true rfl, Nat.le_of_ble_eq_true rfl⟩ rfl hl.1 rfl (Nat.le_of_ble_eq_true rfl) d_F_row_8 ⟨Nat.le_of_ble_eq_true rfl, Nat.le_of_ble_eq_true rfl⟩) (fun r_1 σ_2 H locs hp_3 h => ?_)
  obtain ⟨e_4, es_5⟩ := hp_3
  rw [es_5] at h
  subst e_4
  refine lv_if_ne (tgt := 16) hx hb d_F_row_11 (by decide) (fun c_6 => ?_) (fun c_6 => ?_)
  · refine lv_aload_n hx hb d_F_row_16 rfl (lv_at hl 0 rfl) ?_
    refine wd_get C h kc_F b1 2 (by decide) lk_F_21 rfl d_F_row_17 ?_
    refine lv_iload_n hx hb d_F_row_20 rfl (lv_at hl 1 rfl) ?_
    refine wd_aldq C h 3 rfl b3 (by obtain ⟨k, hk, rfl⟩ := r_in (by omega) c_6; exact vp_in_nI (show k < 200 by omega) (by decide)) d_F_row_21 ?_
    obtain ⟨k, hk, rfl⟩ := r_in (by omega) c_6
    obtain ⟨g1, g2⟩ := b10 k hk
    refine W.eq (g2 := F0 m 22 ls (.ref (ca k) :: [])) (by rw [nI_clamp (by omega), g1]; rfl) ?_
    refine lv_astore_n (lv' := [(3, .ref (ca k)), (0, .ref x), (1, .int (nI k)), (2, .int wh)]) hx hb d_F_row_22 rfl hl (by decide) rfl (fun ls hl => ?_)
    refine lv_aload_n hx hb d_F_row_23 rfl (lv_at hl 0 rfl) ?_
    refine lv_ifnonnull (tgt := 29) hx hb d_F_row_24 (by decide) ?_
    refine lv_aload_n hx hb d_F_row_29 rfl (lv_at hl 0 rfl) ?_
    refine lv_iload_n hx hb d_F_row_30 rfl (lv_at hl 3 rfl) ?_
    refine wd_ci h (wd_rVN (rest := []) (st0 := [.int wh, .ref (ca k)]) C h kc_C g2 k_C_part wm_C_part wz_C_part lk_F_154 (c_C_part l D T A σ (ca k) (CR k) g2 wh) rfl rfl ⟨Nat.le_of_ble_eq_true rfl, Nat.le_of_ble_eq_true rfl⟩ rfl hl.1 rfl (Nat.le_of_ble_eq_true rfl) d_F_row_31 ⟨Nat.le_of_ble_eq_true rfl, Nat.le_of_ble_eq_true rfl⟩) (fun r_7 σ_8 H locs hp_9 h => ?_)
    obtain ⟨e_10, es_11⟩ := hp_9
    rw [es_11] at h
    subst e_10
    exact wd_iret C hr hlocks h (⟨by simp [o_row, eq_false c_6, nI_clamp (show k < 2 ^ 31 by omega)], rfl⟩) (Nat.le_of_ble_eq_true rfl) (Nat.le_of_ble_eq_true rfl) d_F_row_34
  · refine lv_iconst (v := (-1)) hx hb d_F_row_14 (by decide) ?_
    exact wd_iret C hr hlocks h (⟨by simp [o_row, eq_true c_6], rfl⟩) (Nat.le_of_ble_eq_true rfl) (Nat.le_of_ble_eq_true rfl) d_F_row_15

set_option maxHeartbeats 4000000 in
set_option maxRecDepth 20000 in
theorem c_F_octet (l : Launch) (D : va_G) (T : Nat → ClassId) (A : Nat → Prop) (σ : wd_S) (x n : Nat) (R : Nat → Nat → Int32) (nc : Nat) (CR : Nat → Nat → Int32) (wg : Nat → Int32) (Q : pq) (aI aC aJ aW aB aP ab : Nat) (fI fC : Nat → Option Nat) (jn wn bk qb : Nat → Int32) (ia aa ca : Nat → Nat) (hB : RB T σ x n R nc CR wg Q aI aC aJ aW aB aP ab fI fC jn wn bk qb ia aa ca) (i : Int32) : Met l y_F_octet (Cond.code y_F_octet b_F_octet 2 (some .int) :: wd_tb) { frames := 2, cells := 0, slots := 0, locals := 43 } (va_Pc [.ref x, .int i] (wd_Pre D T A σ)) (va_Qi (fun r1 σ1 => r1 = o_oct Q i ∧ σ1 = σ) (wd_B D A) A) 0 0 A := by
  refine wd_ofW (by decide) (Nat.le_of_ble_eq_true rfl) ?_
  intro p e s m below meth c0 ls C hr hlocks hname h hl
  have hl : lv_has ls 2 [(0, .ref x), (1, .int i)] := hl
  have hx := C.1
  have hb := C.2.1
  obtain ⟨b1, b2, b3, b4, b5, b6, b7, b8, b9, b10, b11, b12, b13, b14⟩ := id hB
  refine lv_aload_n hx hb d_F_octet_0 rfl (lv_at hl 0 rfl) ?_
  refine wd_get C h kc_F b1 7 (by decide) lk_F_42 rfl d_F_octet_1 ?_
  refine lv_iload_n hx hb d_F_octet_4 rfl (lv_at hl 1 rfl) ?_
  refine wd_ci h (wd_rVN (rest := []) (st0 := [.int i, .ref aP]) C h kc_P b7.1 k_P_at wm_P_at wz_P_at lk_F_167 (c_P_at l D T A σ σ aP ab (qb, Q.2) b7 i) rfl rfl ⟨Nat.le_of_ble_eq_true rfl, Nat.le_of_ble_eq_true rfl⟩ rfl hl.1 rfl (Nat.le_of_ble_eq_true rfl) d_F_octet_5 ⟨Nat.le_of_ble_eq_true rfl, Nat.le_of_ble_eq_true rfl⟩) (fun r_1 σ_2 H locs hp_3 h => ?_)
  obtain ⟨e_4, es_5⟩ := hp_3
  rw [es_5] at h
  subst e_4
  exact wd_iret C hr hlocks h (⟨xo_eq b8 b7.2.2.1 i, rfl⟩) (Nat.le_of_ble_eq_true rfl) (Nat.le_of_ble_eq_true rfl) d_F_octet_8

set_option maxHeartbeats 4000000 in
set_option maxRecDepth 20000 in
theorem c_F_pack (l : Launch) (D : va_G) (T : Nat → ClassId) (A : Nat → Prop) (σ : wd_S) (x n : Nat) (R : Nat → Nat → Int32) (nc : Nat) (CR : Nat → Nat → Int32) (wg : Nat → Int32) (Q : pq) (aI aC aJ aW aB aP ab : Nat) (fI fC : Nat → Option Nat) (jn wn bk qb : Nat → Int32) (ia aa ca : Nat → Nat) (hB : RB T σ x n R nc CR wg Q aI aC aJ aW aB aP ab fI fC jn wn bk qb ia aa ca) (i : Int32) : Met l y_F_pack (Cond.code y_F_pack b_F_pack 3 (some .int) :: wd_tb) { frames := 4, cells := 0, slots := 0, locals := 86 } (va_Pc [.ref x, .int i] (wd_Pre D T A σ)) (va_Qi (fun r1 σ1 => r1 = (o_pack (n, R, nc, CR, wg, Q) i).1 ∧ RX T σ1 x (o_pack (n, R, nc, CR, wg, Q) i).2) (wd_B D A) A) 0 0 A := by
  refine wd_ofW (by decide) (Nat.le_of_ble_eq_true rfl) ?_
  intro p e s m below meth c0 ls C hr hlocks hname h hl
  have hl : lv_has ls 3 [(0, .ref x), (1, .int i)] := hl
  have hx := C.1
  have hb := C.2.1
  obtain ⟨b1, b2, b3, b4, b5, b6, b7, b8, b9, b10, b11, b12, b13, b14⟩ := id hB
  refine lv_aload_n hx hb d_F_pack_0 rfl (lv_at hl 0 rfl) ?_
  refine lv_iload_n hx hb d_F_pack_1 rfl (lv_at hl 1 rfl) ?_
  refine wd_cq h (wd_rV (rest := []) (st0 := [.int i, .ref x]) C h kc_F b1 k_F_find wm_F_find wz_F_find lk_F_64 (c_F_find l D T A σ x aI n fI ia _ _ _ _ _ _ b1 b2 b12 (fun k hk => (b9.1 k hk).1) i) rfl rfl ⟨Nat.le_of_ble_eq_true rfl, Nat.le_of_ble_eq_true rfl⟩ rfl hl.1 rfl (Nat.le_of_ble_eq_true rfl) d_F_pack_2 ⟨Nat.le_of_ble_eq_true rfl, Nat.le_of_ble_eq_true rfl⟩) (fun r_1 σ_2 H locs hp_3 h => ?_)
  obtain ⟨e_4, es_5⟩ := hp_3
  rw [es_5] at h
  rw [e_4]
  rcases hf : o_find n i with _ | k
  · refine W.eq (g2 := F0 m 5 ls [.null]) rfl ?_
    refine lv_astore_nN (lv' := [(2, .null), (0, .ref x), (1, .int i)]) hx hb d_F_pack_5 rfl hl (by decide) rfl (fun ls hl => ?_)
    refine lv_aload_nN hx hb d_F_pack_6 rfl (lv_at hl 0 rfl) ?_
    refine lv_ifnonnullN hx hb d_F_pack_7 ?_
    refine lv_bipush (v := (-101)) hx hb d_F_pack_10 (by decide) ?_
    exact wd_iret C hr hlocks h (by rw [o_pack_none (S := (n, R, nc, CR, wg, Q)) hf]; exact ⟨rfl, hB.rx⟩) (Nat.le_of_ble_eq_true rfl) (Nat.le_of_ble_eq_true rfl) d_F_pack_12
  · refine W.eq (g2 := F0 m 5 ls [.ref (ia k)]) rfl ?_
    obtain ⟨hk, hik1, hik⟩ := o_find_some b12 hf
    obtain ⟨g1, g2, g3, g4⟩ := b9.1 k hk
    refine lv_astore_n (lv' := [(2, .ref (ia k)), (0, .ref x), (1, .int i)]) hx hb d_F_pack_5 rfl hl (by decide) rfl (fun ls hl => ?_)
    refine lv_aload_n hx hb d_F_pack_6 rfl (lv_at hl 0 rfl) ?_
    refine lv_ifnonnull (tgt := 13) hx hb d_F_pack_7 (by decide) ?_
    refine lv_aload_n hx hb d_F_pack_13 rfl (lv_at hl 1 rfl) ?_
    refine wd_get C h kc_F b1 7 (by decide) lk_F_42 rfl d_F_pack_14 ?_
    refine lv_iload_n hx hb d_F_pack_17 rfl (lv_at hl 2 rfl) ?_
    refine lv_aload_n hx hb d_F_pack_18 rfl (lv_at hl 0 rfl) ?_
    refine wd_cv h (wd_rVN (rest := []) (st0 := [.ref (ia k), .int i, .ref aP]) C h kc_P b7.1 k_P_fill wm_P_fill wz_P_fill lk_F_160 (c_P_fill l D T A σ σ aP ab (qb, Q.2) b7 (ia k) (aa (2 * k)) (aa (2 * k + 1)) (R k) g2 g3 g4 (wd_ne g2 b7.1 (by simp)) (wd_ne g2 b7.2.1 (by simp)) (wd_ne g3 b7.1 (by simp)) (wd_ne g3 b7.2.1 (by simp)) (wd_ne g4 b7.1 (by simp)) (wd_ne g4 b7.2.1 (by simp)) i) rfl rfl ⟨Nat.le_of_ble_eq_true rfl, Nat.le_of_ble_eq_true rfl⟩ rfl hl.1 rfl (Nat.le_of_ble_eq_true rfl) d_F_pack_19 ⟨Nat.le_of_ble_eq_true rfl, Nat.le_of_ble_eq_true rfl⟩) (fun σ_7 H locs hp_8 h => ?_)
    have hx1 := (hp_8.2.2.2 x (wd_ne b1 b7.1 (by simp)) (wd_ne b1 b7.2.1 (by simp))).trans b1
    refine lv_aload_n hx hb d_F_pack_22 rfl (lv_at hl 1 rfl) ?_
    refine wd_get C h kc_F hx1 7 (by decide) lk_F_42 rfl d_F_pack_23 ?_
    refine wd_getN C h kc_P hp_8.1 1 (by decide) lk_F_164 rfl d_F_pack_26 ?_
    exact wd_iret C hr hlocks h (by rw [o_pack_some (S := (n, R, nc, CR, wg, Q)) hf]; exact ⟨congrArg nI (agr_pf qb Q.1 i (R k)).1, (hB.pack hp_8 (agr_pf qb Q.1 i (R k))).rx⟩) (Nat.le_of_ble_eq_true rfl) (Nat.le_of_ble_eq_true rfl) d_F_pack_29

set_option maxHeartbeats 4000000 in
set_option maxRecDepth 20000 in
theorem c_F_aside (l : Launch) (D : va_G) (T : Nat → ClassId) (A : Nat → Prop) (σ : wd_S) (x n : Nat) (R : Nat → Nat → Int32) (nc : Nat) (CR : Nat → Nat → Int32) (wg : Nat → Int32) (Q : pq) (aI aC aJ aW aB aP ab : Nat) (fI fC : Nat → Option Nat) (jn wn bk qb : Nat → Int32) (ia aa ca : Nat → Nat) (hB : RB T σ x n R nc CR wg Q aI aC aJ aW aB aP ab fI fC jn wn bk qb ia aa ca) (i : Int32) : Met l y_F_aside (Cond.code y_F_aside b_F_aside 5 (some .int) :: wd_tb) { frames := 1, cells := 0, slots := 0, locals := 20 } (va_Pc [.ref x, .int i] (wd_Pre D T A σ)) (va_Qi (fun r1 σ1 => r1 = o_asd n R i ∧ σ1 = σ) (wd_B D A) A) 0 0 A := by
  refine wd_ofW (by decide) (Nat.le_of_ble_eq_true rfl) ?_
  intro p e s m below meth c0 ls C hr hlocks hname h hl
  have hl : lv_has ls 5 [(0, .ref x), (1, .int i)] := hl
  have hx := C.1
  have hb := C.2.1
  obtain ⟨b1, b2, b3, b4, b5, b6, b7, b8, b9, b10, b11, b12, b13, b14⟩ := id hB
  refine lv_iload_n hx hb d_F_aside_0 rfl (lv_at hl 1 rfl) ?_
  refine lv_if_ge (tgt := 6) hx hb d_F_aside_1 (by decide) (fun c_1 => ?_) (fun c_1 => ?_)
  · refine lv_iconst (v := 0) hx hb d_F_aside_6 (by decide) ?_
    refine lv_istore_n (lv' := [(2, .int 0), (0, .ref x), (1, .int i)]) hx hb d_F_aside_7 rfl hl (by decide) rfl (fun ls hl => ?_)
    refine lv_iconst (v := 0) hx hb d_F_aside_8 (by decide) ?_
    refine lv_istore_n (lv' := [(3, .int 0), (2, .int 0), (0, .ref x), (1, .int i)]) hx hb d_F_aside_9 rfl hl (by decide) rfl (fun ls hl => ?_)
    generalize hH : s.heap = H at h ⊢
    generalize ([] : List Loc) = locs at h ⊢
    have hl2 : ∃ j b : Nat, j ≤ n ∧ asf R i (n - j) j b = asf R i n 0 0 ∧ lv_has ls 5 [(3, .int (nI j)), (2, .int (nI b)), (1, .int i), (0, .ref x)] := ⟨0, 0, Nat.zero_le _, rfl, lv_sub hl [0, 1, 3, 2] rfl⟩
    clear hl
    obtain ⟨j, b, hj, has, hl⟩ := hl2
    obtain ⟨z, hz⟩ : ∃ z : Nat, n < j + z := ⟨n + 1, by omega⟩
    clear hH
    induction z generalizing j b ls H locs with
    | zero => omega
    | succ z ih =>
      refine lv_iload_n hx hb d_F_aside_10 rfl (lv_at hl 0 rfl) ?_
      refine lv_aload_n hx hb d_F_aside_11 rfl (lv_at hl 3 rfl) ?_
      refine wd_get C h kc_F b1 1 (by decide) lk_F_15 rfl d_F_aside_12 ?_
      refine lv_icmp_ge (tgt := 57) hx hb d_F_aside_15 (by decide) (fun c_2 => ?_) (fun c_2 => ?_)
      · refine lv_iconst (v := (-1)) hx hb d_F_aside_57 (by decide) ?_
        exact wd_iret C hr hlocks h (⟨by have := ix_d (by omega) hj c_2; subst this; rw [Nat.sub_self] at has; simp only [o_asd, eq_false (Int32.not_lt.mpr c_1), ↓reduceIte, ← has, asf], rfl⟩) (Nat.le_of_ble_eq_true rfl) (Nat.le_of_ble_eq_true rfl) d_F_aside_58
      · refine lv_aload_n hx hb d_F_aside_18 rfl (lv_at hl 3 rfl) ?_
        refine wd_get C h kc_F b1 0 (by decide) lk_F_11 rfl d_F_aside_19 ?_
        refine lv_iload_n hx hb d_F_aside_22 rfl (lv_at hl 0 rfl) ?_
        have hlt := ix_c (by omega) hj c_2
        refine wd_aldq C h 2 rfl b2 (vp_in_nI (show j < 120 by omega) (by decide)) d_F_aside_23 ?_
        obtain ⟨g1, g2, g3, g4⟩ := b9.1 j hlt
        refine W.eq (g2 := F0 m 24 ls (.ref (ia j) :: [])) (by rw [nI_clamp (by omega), g1]; rfl) ?_
        refine lv_astore (lv' := [(4, .ref (ia j)), (3, .int (nI j)), (2, .int (nI b)), (1, .int i), (0, .ref x)]) hx hb d_F_aside_24 hl (by decide) rfl (fun ls hl => ?_)
        refine lv_aload hx hb d_F_aside_26 (lv_at hl 0 rfl) ?_
        refine lv_ifnull hx hb d_F_aside_28 ?_
        refine lv_aload hx hb d_F_aside_31 (lv_at hl 0 rfl) ?_
        refine wd_ci h (wd_rVN (rest := []) (st0 := [.ref (ia j)]) C h kc_I g2 k_I_isSetAside wm_I_isSetAside wz_I_isSetAside lk_F_170 (c_I_isSetAside l D T A σ (ia j) (R j) (aa (2 * j)) (aa (2 * j + 1)) g2 ) rfl rfl ⟨Nat.le_of_ble_eq_true rfl, Nat.le_of_ble_eq_true rfl⟩ rfl hl.1 rfl (Nat.le_of_ble_eq_true rfl) d_F_aside_33 ⟨Nat.le_of_ble_eq_true rfl, Nat.le_of_ble_eq_true rfl⟩) (fun r_3 σ_4 H locs hp_5 h => ?_)
        obtain ⟨e_6, es_7⟩ := hp_5
        rw [es_7] at h
        subst e_6
        refine lv_if_eq (tgt := 51) hx hb d_F_aside_36 (by decide) (fun c_8 => ?_) (fun c_8 => ?_)
        · refine lv_iinc (v := ((nI j) + 1)) (lv' := [(3, .int ((nI j) + 1)), (4, .ref (ia j)), (2, .int (nI b)), (1, .int i), (0, .ref x)]) hx hb d_F_aside_51 hl (k := 1) rfl (by first | rfl | decide) (by decide) rfl (fun ls hl => ?_)
          refine lv_goto (tgt := 10) hx hb d_F_aside_54 (by decide) ?_
          have hl3 : lv_has ls 5 [(3, .int (nI (j + 1))), (2, .int (nI b)), (1, .int i), (0, .ref x)] := by
            rw [← nI_1]
            exact lv_sub hl [0, 2, 3, 4] rfl
          rw [show n - j = (n - (j + 1)) + 1 by omega] at has
          exact ih (H := _) (locs := _) (ls := ls) (j := j + 1) (b := b) h hlt (by rw [← has]; simp only [asf, eq_true c_8, ↓reduceIte]) hl3 (by omega)
        · refine lv_iload_n hx hb d_F_aside_39 rfl (lv_at hl 2 rfl) ?_
          refine lv_iload_n hx hb d_F_aside_40 rfl (lv_at hl 3 rfl) ?_
          refine lv_icmp_ne (tgt := 48) hx hb d_F_aside_41 (by decide) (fun c_9 => ?_) (fun c_9 => ?_)
          · refine lv_iinc (v := ((nI b) + 1)) (lv' := [(2, .int ((nI b) + 1)), (4, .ref (ia j)), (3, .int (nI j)), (1, .int i), (0, .ref x)]) hx hb d_F_aside_48 hl (k := 2) rfl (by first | rfl | decide) (by decide) rfl (fun ls hl => ?_)
            refine lv_iinc (v := ((nI j) + 1)) (lv' := [(3, .int ((nI j) + 1)), (2, .int ((nI b) + 1)), (4, .ref (ia j)), (1, .int i), (0, .ref x)]) hx hb d_F_aside_51 hl (k := 2) rfl (by first | rfl | decide) (by decide) rfl (fun ls hl => ?_)
            refine lv_goto (tgt := 10) hx hb d_F_aside_54 (by decide) ?_
            have hl3 : lv_has ls 5 [(3, .int (nI (j + 1))), (2, .int (nI (b + 1))), (1, .int i), (0, .ref x)] := by
              rw [← nI_1, ← nI_1]
              exact lv_sub hl [0, 1, 3, 4] rfl
            rw [show n - j = (n - (j + 1)) + 1 by omega] at has
            exact ih (H := _) (locs := _) (ls := ls) (j := j + 1) (b := (b + 1)) h hlt (by rw [← has]; simp only [asf, eq_false c_8, eq_false c_9, ↓reduceIte]) hl3 (by omega)
          · refine lv_iload_n hx hb d_F_aside_44 rfl (lv_at hl 1 rfl) ?_
            refine lv_iconst (v := 1) hx hb d_F_aside_45 (by decide) ?_
            refine lv_iadd hx hb d_F_aside_46 ?_
            exact wd_iret C hr hlocks h (⟨by rw [show n - j = (n - (j + 1)) + 1 by omega] at has; simp only [o_asd, eq_false (Int32.not_lt.mpr c_1), ↓reduceIte, ← has, asf, eq_false c_8, eq_true c_9, nI_1], rfl⟩) (Nat.le_of_ble_eq_true rfl) (Nat.le_of_ble_eq_true rfl) d_F_aside_47
  · refine lv_iconst (v := (-1)) hx hb d_F_aside_4 (by decide) ?_
    exact wd_iret C hr hlocks h (⟨by simp [o_asd, eq_true (Int32.not_le.mp c_1)], rfl⟩) (Nat.le_of_ble_eq_true rfl) (Nat.le_of_ble_eq_true rfl) d_F_aside_5
end
section
/-! more of the class's state: cells alone (RC), and how many belong to what (rxN) -/
def RC (T : Nat → ClassId) (σ : wd_S) (x n : Nat) (R : Nat → Nat → Int32) (nc : Nat) (CR : Nat → Nat → Int32) (Q : pq) (aI aC aJ aW aB aP ab : Nat) (fI fC : Nat → Option Nat) (jn wn bk qb : Nat → Int32) (ia aa ca : Nat → Nat) : Prop :=
  σ x = some (.inr (0, [.ref aI, .int (nI n), .ref aC, .int (nI nc), .ref aJ, .ref aW, .ref aB, .ref aP])) ∧ σ aI = some (aQ T 2 120 fI) ∧ σ aC = some (aQ T 3 200 fC) ∧ σ aJ = some (aN T 31 jn) ∧ σ aW = some (.inl (T 1, 31, .inl wn)) ∧ σ aB = some (aN T 21 bk) ∧ pz T σ σ aP ab (qb, Q.2) ∧ agr (qb, Q.2) Q ∧ rxI T σ n R fI ia aa ∧ rxC σ nc CR fC ca ∧ n ≤ 120 ∧ nc ≤ 200 ∧ aJ ≠ aW
section RX3
variable {T : Nat → ClassId} {σ σ' : wd_S} {x n : Nat} {R : Nat → Nat → Int32} {nc : Nat} {CR : Nat → Nat → Int32} {wg : Nat → Int32} {Q Q' q : pq} {aI aC aJ aW aB aP ab : Nat} {fI fC : Nat → Option Nat} {jn wn bk qb jn' wn' bk' : Nat → Int32} {ia aa ca : Nat → Nat} {k b : Nat} {e e0 : va_E} {r : Nat → Int32}
theorem RB.rc (h : RB T σ x n R nc CR wg Q aI aC aJ aW aB aP ab fI fC jn wn bk qb ia aa ca) : RC T σ x n R nc CR Q aI aC aJ aW aB aP ab fI fC jn wn bk qb ia aa ca := by
  obtain ⟨a1, a2, a3, a4, a5, a6, a7, a8, a9, a10, a11, a12⟩ := h
  exact ⟨a1, a2, a3, a4, a5, a6, a7, a8, a9, a10, a12⟩
theorem RC.rb (h : RC T σ x n R nc CR Q aI aC aJ aW aB aP ab fI fC jn wn bk qb ia aa ca) (hn : rxN n R wg jn wn bk) : RB T σ x n R nc CR wg Q aI aC aJ aW aB aP ab fI fC jn wn bk qb ia aa ca := by
  obtain ⟨a1, a2, a3, a4, a5, a6, a7, a8, a9, a10, a12⟩ := h
  exact ⟨a1, a2, a3, a4, a5, a6, a7, a8, a9, a10, hn, a12⟩
theorem RC.item (h : RC T σ x n R nc CR Q aI aC aJ aW aB aP ab fI fC jn wn bk qb ia aa ca) (hk : k < n) (hr : ∀ j, 15 ≤ j → r j = R k j) : RC T (wd_up σ (ia k) (xI r (aa (2 * k)) (aa (2 * k + 1)))) x n (va_up R k r) nc CR Q aI aC aJ aW aB aP ab fI fC jn wn bk qb ia aa ca := by
  obtain ⟨a1, a2, a3, a4, a5, a6, a7, a8, a9, a10, a12⟩ := h
  have hka := (a9.1 k hk).2.1
  exact ⟨wd_uk a1 (wd_ne a1 hka (by simp)), wd_uk a2 (wd_ne a2 hka (by simp)), wd_uk a3 (wd_ne a3 hka (by simp)), wd_uk a4 (wd_ne a4 hka (by simp)), wd_uk a5 (wd_ne a5 hka (by simp)), wd_uk a6 (wd_ne a6 hka (by simp)), pz_un a7 hka (by simp) (by simp), a8, a9.up hk hr, a10.un hka (by simp), a12⟩
theorem RC.cJ (h : RC T σ x n R nc CR Q aI aC aJ aW aB aP ab fI fC jn wn bk qb ia aa ca) : RC T (wd_up σ aJ (aN T 31 jn')) x n R nc CR Q aI aC aJ aW aB aP ab fI fC jn' wn bk qb ia aa ca := by
  obtain ⟨a1, a2, a3, a4, a5, a6, a7, a8, a9, a10, a12⟩ := h
  exact ⟨wd_uk a1 (wd_ne a1 a4 (by simp)), wd_uk a2 (wd_ne a2 a4 (by simp)), wd_uk a3 (wd_ne a3 a4 (by simp)), wd_us _ _ _, wd_uk a5 (Ne.symm a12.2.2), wd_uk a6 (wd_ne a6 a4 (by simp)), pz_un a7 a4 (by simp) (by simp), a8, a9.un a4 (by simp) (by simp), a10.un a4 (by simp), a12⟩
theorem RC.cB (h : RC T σ x n R nc CR Q aI aC aJ aW aB aP ab fI fC jn wn bk qb ia aa ca) : RC T (wd_up σ aB (aN T 21 bk')) x n R nc CR Q aI aC aJ aW aB aP ab fI fC jn wn bk' qb ia aa ca := by
  obtain ⟨a1, a2, a3, a4, a5, a6, a7, a8, a9, a10, a12⟩ := h
  exact ⟨wd_uk a1 (wd_ne a1 a6 (by simp)), wd_uk a2 (wd_ne a2 a6 (by simp)), wd_uk a3 (wd_ne a3 a6 (by simp)), wd_uk a4 (wd_ne a4 a6 (by simp)), wd_uk a5 (wd_ne a5 a6 (by simp)), wd_us _ _ _, pz_un a7 a6 (by simp) (by simp), a8, a9.un a6 (by simp) (by simp), a10.un a6 (by simp), a12⟩
theorem RC.cW (h : RC T σ x n R nc CR Q aI aC aJ aW aB aP ab fI fC jn wn bk qb ia aa ca) : RC T (wd_up σ aW (.inl (T 1, 31, .inl wn'))) x n R nc CR Q aI aC aJ aW aB aP ab fI fC jn wn' bk qb ia aa ca := by
  obtain ⟨a1, a2, a3, a4, a5, a6, a7, a8, a9, a10, a12⟩ := h
  exact ⟨wd_uk a1 (wd_ne a1 a5 (by simp)), wd_uk a2 (wd_ne a2 a5 (by simp)), wd_uk a3 (wd_ne a3 a5 (by simp)), wd_uk a4 a12.2.2, wd_us _ _ _, wd_uk a6 (wd_ne a6 a5 (by simp)), pz_un a7 a5 (by simp) (by simp), a8, a9.un a5 (by simp) (by simp), a10.un a5 (by simp), a12⟩
theorem cnt_set {f : Nat} {c : Int32} (h0 : ¬ R k f = c) : ∀ n, k < n → cnt (va_up R k r) f c n = cnt R f c n + (if r f = c then 1 else 0)
  | 0, h => absurd h (Nat.not_lt_zero _)
  | n + 1, h => by
    show cnt (va_up R k r) f c n + (if va_up R k r n f = c then 1 else 0) = cnt R f c n + (if R n f = c then 1 else 0) + (if r f = c then 1 else 0)
    by_cases hn : n = k
    · subst hn
      rw [va_up_self, if_neg h0]
      have : ∀ m, m ≤ n → cnt (va_up R n r) f c m = cnt R f c m := by
        intro m
        induction m with
        | zero => intro _; rfl
        | succ m ih =>
          intro hm
          show cnt (va_up R n r) f c m + (if va_up R n r m f = c then 1 else 0) = cnt R f c m + (if R m f = c then 1 else 0)
          rw [ih (by omega), va_up_ne _ _ (by omega : m ≠ n)]
      rw [this n (Nat.le_refl n)]
      omega
    · rw [va_up_ne _ _ hn, cnt_set h0 n (by omega)]
      omega
theorem cnt_le {f : Nat} {c : Int32} : ∀ n, cnt R f c n ≤ n
  | 0 => Nat.le_refl _
  | n + 1 => by
    show cnt R f c n + (if R n f = c then 1 else 0) ≤ n + 1
    have := cnt_le (f := f) (c := c) n
    split <;> omega
theorem rxN.join {m : Nat} (h : rxN n R wg jn wn bk) (hk : k < n) (h0 : R k 10 = 0) (hm : m ≤ 30) : rxN n (va_up R k (upd (R k) 10 (nI m))) wg (upd jn m (jn m + 1)) wn bk := by
  refine ⟨fun c h1 h2 => ?_, fun c h1 h2 => by rw [cnt_up n (pk_un (by decide))]; exact h.2.1 c h1 h2, h.2.2⟩
  have hne : ¬ R k 10 = nI c := by rw [h0]; exact fun z => nI_ne0 (by omega) (by omega) z.symm
  rw [cnt_set hne n hk, pk_us]
  by_cases hc : c = m
  · subst hc
    rw [pk_us, if_pos rfl, h.1 c h1 h2, nI_1]
  · rw [pk_un hc, if_neg (fun z => hc ((nI_eq (by omega) (by omega)).mp z).symm)]
    exact h.1 c h1 h2
theorem rxN.bulk {m : Nat} (h : rxN n R wg jn wn bk) (hk : k < n) (h0 : R k 11 = 0) (hm : m ≤ 20) : rxN n (va_up R k (upd (R k) 11 (nI m))) wg jn wn (upd bk m (bk m + 1)) := by
  refine ⟨fun c h1 h2 => by rw [cnt_up n (pk_un (by decide))]; exact h.1 c h1 h2, fun c h1 h2 => ?_, h.2.2⟩
  have hne : ¬ R k 11 = nI c := by rw [h0]; exact fun z => nI_ne0 (by omega) (by omega) z.symm
  rw [cnt_set hne n hk, pk_us]
  by_cases hc : c = m
  · subst hc
    rw [pk_us, if_pos rfl, h.2.1 c h1 h2, nI_1]
  · rw [pk_un hc, if_neg (fun z => hc ((nI_eq (by omega) (by omega)).mp z).symm)]
    exact h.2.1 c h1 h2
theorem rxN.wait {m : Nat} {v : Int32} (h : rxN n R wg jn wn bk) : rxN n R (upd wg m v) jn (upd wn m v) bk := ⟨h.1, h.2.1, fun c hc => by
  by_cases hcm : c = m
  · subst hcm; rw [pk_us, pk_us]
  · rw [pk_un hcm, pk_un hcm]; exact h.2.2 c hc⟩
theorem c_in {c b : Int32} {n : Nat} (h : ¬ xw c 1 b = 0) (hb : b.toInt = n) (hn : n < 1000) : ∃ m, 1 ≤ m ∧ m ≤ n ∧ c = nI m := by
  obtain ⟨h1, h2⟩ := xw_out h
  rw [Int32.lt_iff_toInt_lt] at h1 h2
  have e1 : (1 : Int32).toInt = 1 := rfl
  have e0 : (0 : Int32).toInt = 0 := rfl
  obtain ⟨j, hj, rfl⟩ := nI_of (x := c) (by rw [Int32.lt_iff_toInt_lt]; omega)
  rw [nI_toInt hj] at h1 h2
  exact ⟨j, by omega, by omega, rfl⟩
/-- a row of contents comes -/
theorem con_lo {m j : Nat} {wh ce v : Int32} (hj : j < 14) : upd (upd (upd r (15 + 2 * m) wh) (16 + 2 * m) ce) 14 v j = r j := by
  rw [pk_un (by omega), pk_un (by omega), pk_un (by omega)]
theorem con_w {m z : Nat} {wh ce v : Int32} : upd (fun j => r (15 + 2 * j)) m wh z = upd (upd (upd r (15 + 2 * m) wh) (16 + 2 * m) ce) 14 v (15 + 2 * z) := by
  rw [pk_un (show 15 + 2 * z ≠ 14 by omega), pk_un (show 15 + 2 * z ≠ 16 + 2 * m by omega)]
  by_cases hz : z = m
  · subst hz; rw [pk_us, pk_us]
  · rw [pk_un hz, pk_un (show 15 + 2 * z ≠ 15 + 2 * m by omega)]
theorem con_c {m z : Nat} {wh ce v : Int32} : upd (fun j => r (16 + 2 * j)) m ce z = upd (upd (upd r (15 + 2 * m) wh) (16 + 2 * m) ce) 14 v (16 + 2 * z) := by
  rw [pk_un (show 16 + 2 * z ≠ 14 by omega)]
  by_cases hz : z = m
  · subst hz; rw [pk_us, pk_us]
  · rw [pk_un hz, pk_un (show 16 + 2 * z ≠ 16 + 2 * m by omega), pk_un (show 16 + 2 * z ≠ 15 + 2 * m by omega)]
theorem RC.cont {m : Nat} {wh ce v : Int32} (h : RC T σ x n R nc CR Q aI aC aJ aW aB aP ab fI fC jn wn bk qb ia aa ca) (hk : k < n) : RC T (wd_up (wd_up (wd_up σ (aa (2 * k)) (aN T 4 (upd (fun j => R k (15 + 2 * j)) m wh))) (aa (2 * k + 1)) (aN T 4 (upd (fun j => R k (16 + 2 * j)) m ce))) (ia k) (.inr (1, [.int (R k 0), .int (R k 1), .int (R k 2), .int (R k 3), .int (R k 4), .int (R k 5), .int (R k 6), .int (R k 7), .int (R k 8), .int (R k 9), .int (R k 10), .int (R k 11), .int (R k 12), .int (R k 13), .int v, .ref (aa (2 * k)), .ref (aa (2 * k + 1))]))) x n (va_up R k (upd (upd (upd (R k) (15 + 2 * m) wh) (16 + 2 * m) ce) 14 v)) nc CR Q aI aC aJ aW aB aP ab fI fC jn wn bk qb ia aa ca := by
  obtain ⟨a1, a2, a3, a4, a5, a6, a7, a8, a9, a10, a12⟩ := h
  obtain ⟨g1, g2, g3, g4⟩ := a9.1 k hk
  have hU : ∀ {z : Nat} {e : va_E}, σ z = some e → (∀ f, e ≠ aN T 4 f) → (∀ r w c, e ≠ xI r w c) → ∀ {e1 e2 e3 : va_E}, wd_up (wd_up (wd_up σ (aa (2 * k)) e1) (aa (2 * k + 1)) e2) (ia k) e3 z = some e := fun {z e} hz h1 h2 {e1 e2 e3} => wd_uk (wd_uk (wd_uk hz (wd_ne hz g3 (h1 _))) (wd_ne hz g4 (h1 _))) (wd_ne hz g2 (h2 _ _ _))
  have n1 : aa (2 * k) ≠ aa (2 * k + 1) := fun z => by have := a9.2.2 (2 * k) (2 * k + 1) (by omega) (by omega) z; omega
  have n2 : aa (2 * k) ≠ ia k := wd_ne g3 g2 (by simp)
  have n3 : aa (2 * k + 1) ≠ ia k := wd_ne g4 g2 (by simp)
  refine ⟨hU a1 (by simp) (by simp), hU a2 (by simp) (by simp), hU a3 (by simp) (by simp), hU a4 (by simp) (by simp), hU a5 (by simp) (by simp), hU a6 (by simp) (by simp), ⟨hU a7.1 (by simp) (by simp), hU a7.2.1 (by simp) (by simp), a7.2.2.1, fun _ _ _ => rfl⟩, a8, ⟨fun j hj => ?_, a9.2⟩, fun j hj => ⟨(a10 j hj).1, hU (a10 j hj).2 (by simp) (by simp)⟩, a12⟩
  by_cases hjk : j = k
  · subst hjk
    rw [va_up_self]
    refine ⟨g1, ?_, ?_, ?_⟩
    · rw [wd_us]
      simp only [xI, con_lo (show 0 < 14 by decide), con_lo (show 1 < 14 by decide), con_lo (show 2 < 14 by decide), con_lo (show 3 < 14 by decide), con_lo (show 4 < 14 by decide), con_lo (show 5 < 14 by decide), con_lo (show 6 < 14 by decide), con_lo (show 7 < 14 by decide), con_lo (show 8 < 14 by decide), con_lo (show 9 < 14 by decide), con_lo (show 10 < 14 by decide), con_lo (show 11 < 14 by decide), con_lo (show 12 < 14 by decide), con_lo (show 13 < 14 by decide), pk_us]
    · rw [wd_un _ _ n2, wd_un _ _ n1, wd_us]
      congr 5
      funext z
      exact con_w
    · rw [wd_un _ _ n3, wd_us]
      congr 5
      funext z
      exact con_c
  · obtain ⟨f1, f2, f3, f4⟩ := a9.1 j hj
    rw [va_up_ne _ _ hjk]
    have d1 : ∀ u w, u < 2 * n → w < 2 * n → u ≠ w → aa u ≠ aa w := fun u w hu hw hne z => hne (a9.2.2 u w hu hw z)
    exact ⟨f1, wd_uk (wd_uk (wd_uk f2 (wd_ne f2 g3 (by simp))) (wd_ne f2 g4 (by simp))) (fun z => hjk (a9.2.1 j k hj hk z)),
      wd_uk (wd_uk (wd_uk f3 (d1 _ _ (by omega) (by omega) (by omega))) (d1 _ _ (by omega) (by omega) (by omega))) (wd_ne f3 g2 (by simp)),
      wd_uk (wd_uk (wd_uk f4 (d1 _ _ (by omega) (by omega) (by omega))) (d1 _ _ (by omega) (by omega) (by omega))) (wd_ne f4 g2 (by simp))⟩
end RX3
def okr (r : Nat → Int32) : Prop := (0 ≤ (r 0).toInt ∧ (r 0).toInt ≤ 3) ∧ (1 ≤ (r 1).toInt ∧ (r 1).toInt ≤ 31500) ∧ (0 ≤ (r 2).toInt ∧ (r 2).toInt ≤ 3) ∧ (0 ≤ (r 4).toInt ∧ (r 4).toInt ≤ 63) ∧ (0 ≤ (r 5).toInt ∧ (r 5).toInt ≤ 9) ∧ (r 6 = 0 ∨ r 6 = 1) ∧ (0 ≤ (r 9).toInt ∧ (r 9).toInt ≤ 30) ∧ (0 ≤ (r 10).toInt ∧ (r 10).toInt ≤ 30) ∧ (0 ≤ (r 11).toInt ∧ (r 11).toInt ≤ 20) ∧ (0 ≤ (r 14).toInt ∧ (r 14).toInt ≤ 4)
theorem okr.k {r : Nat → Int32} (h : okr r) : r 0 = 0 ∨ r 0 = 1 ∨ r 0 = 2 ∨ r 0 = 3 := by
  have h0 := h.1
  rcases (show (r 0).toInt = 0 ∨ (r 0).toInt = 1 ∨ (r 0).toInt = 2 ∨ (r 0).toInt = 3 by omega) with q | q | q | q
  · exact Or.inl (Int32.toInt_inj.mp q)
  · exact Or.inr (Or.inl (Int32.toInt_inj.mp q))
  · exact Or.inr (Or.inr (Or.inl (Int32.toInt_inj.mp q)))
  · exact Or.inr (Or.inr (Or.inr (Int32.toInt_inj.mp q)))
theorem okr.m {r : Nat → Int32} (h : okr r) (h4 : r 14 < 4) : vp_in (r 14) 4 := by
  rw [Int32.lt_iff_toInt_lt] at h4
  have e4 : (4 : Int32).toInt = 4 := rfl
  have := h.2.2.2.2.2.2.2.2.2.1
  rw [vp_in_iff]
  omega
def o_join (S : xS) (i c wt : Int32) : Int32 × xS := match o_find S.1 i with
  | none => (-101, S)
  | some k => if xw c 1 30 = 0 then (-102, S) else if S.2.1 k 10 = 0 then (if xe (S.2.1 k 5) = 0 then (nI (cnt S.2.1 10 c S.1 + 1), (S.1, va_up S.2.1 k (upd (S.2.1 k) 10 c), S.2.2.1, S.2.2.2.1, (if cnt S.2.1 10 c S.1 = 0 then upd S.2.2.2.2.1 c.toNatClampNeg (vp_nar .boolean wt) else S.2.2.2.2.1), S.2.2.2.2.2)) else (-103, S)) else (-103, S)
def o_bulk (S : xS) (i c : Int32) : Int32 × xS := match o_find S.1 i with
  | none => (-101, S)
  | some k => if xw c 1 20 = 0 then (-102, S) else if S.2.1 k 11 = 0 then (nI (cnt S.2.1 11 c S.1 + 1), (S.1, va_up S.2.1 k (upd (S.2.1 k) 11 c), S.2.2)) else (-103, S)
theorem nI_z {m : Nat} (h : m < 1000) : nI m = 0 ↔ m = 0 := nI_eq (a := m) (b := 0) (by omega) (by decide)
end
section
set_option maxHeartbeats 4000000 in
set_option maxRecDepth 20000 in
theorem c_F_contents (l : Launch) (D : va_G) (T : Nat → ClassId) (A : Nat → Prop) (σ : wd_S) (x n : Nat) (R : Nat → Nat → Int32) (nc : Nat) (CR : Nat → Nat → Int32) (wg : Nat → Int32) (Q : pq) (aI aC aJ aW aB aP ab : Nat) (fI fC : Nat → Option Nat) (jn wn bk qb : Nat → Int32) (ia aa ca : Nat → Nat) (hB : RB T σ x n R nc CR wg Q aI aC aJ aW aB aP ab fI fC jn wn bk qb ia aa ca) (hok : ∀ k, k < n → okr (R k)) (i wh ce : Int32) : Met l y_F_contents (Cond.code y_F_contents b_F_contents 5 (some .int) :: wd_tb) { frames := 2, cells := 0, slots := 0, locals := 43 } (va_Pc [.ref x, .int i, .int wh, .int ce] (wd_Pre D T A σ)) (va_Qi (fun r1 σ1 => r1 = (o_upd (n, R, nc, CR, wg, Q) i (f_con wh ce)).1 ∧ RX T σ1 x (o_upd (n, R, nc, CR, wg, Q) i (f_con wh ce)).2) (wd_B D A) A) 0 0 A := by
  refine wd_ofW (by decide) (Nat.le_of_ble_eq_true rfl) ?_
  intro p e s m below meth c0 ls C hr hlocks hname h hl
  have hl : lv_has ls 5 [(0, .ref x), (1, .int i), (2, .int wh), (3, .int ce)] := hl
  have hx := C.1
  have hb := C.2.1
  obtain ⟨b1, b2, b3, b4, b5, b6, b7, b8, b9, b10, b11, b12, b13, b14⟩ := id hB
  refine lv_aload_n hx hb d_F_contents_0 rfl (lv_at hl 0 rfl) ?_
  refine lv_iload_n hx hb d_F_contents_1 rfl (lv_at hl 1 rfl) ?_
  refine wd_cq h (wd_rV (rest := []) (st0 := [.int i, .ref x]) C h kc_F b1 k_F_find wm_F_find wz_F_find lk_F_64 (c_F_find l D T A σ x aI n fI ia _ _ _ _ _ _ b1 b2 b12 (fun k hk => (b9.1 k hk).1) i) rfl rfl ⟨Nat.le_of_ble_eq_true rfl, Nat.le_of_ble_eq_true rfl⟩ rfl hl.1 rfl (Nat.le_of_ble_eq_true rfl) d_F_contents_2 ⟨Nat.le_of_ble_eq_true rfl, Nat.le_of_ble_eq_true rfl⟩) (fun r_1 σ_2 H locs hp_3 h => ?_)
  obtain ⟨e_4, es_5⟩ := hp_3
  rw [es_5] at h
  rw [e_4]
  rcases hf : o_find n i with _ | k
  · refine W.eq (g2 := F0 m 5 ls [.null]) rfl ?_
    refine lv_astoreN (lv' := [(4, .null), (0, .ref x), (1, .int i), (2, .int wh), (3, .int ce)]) hx hb d_F_contents_5 hl (by decide) rfl (fun ls hl => ?_)
    refine lv_aloadN hx hb d_F_contents_7 (lv_at hl 0 rfl) ?_
    refine lv_ifnonnullN hx hb d_F_contents_9 ?_
    refine lv_bipush (v := (-101)) hx hb d_F_contents_12 (by decide) ?_
    exact wd_iret C hr hlocks h (by rw [o_upd_none (S := (n, R, nc, CR, wg, Q)) hf]; exact ⟨rfl, hB.rx⟩) (Nat.le_of_ble_eq_true rfl) (Nat.le_of_ble_eq_true rfl) d_F_contents_14
  · refine W.eq (g2 := F0 m 5 ls [.ref (ia k)]) rfl ?_
    obtain ⟨hk, hik1, hik⟩ := o_find_some b12 hf
    obtain ⟨g1, g2, g3, g4⟩ := b9.1 k hk
    have naa : aa (2 * k) ≠ aa (2 * k + 1) := fun z => by have := b9.2.2 (2 * k) (2 * k + 1) (by omega) (by omega) z; omega
    refine lv_astore (lv' := [(4, .ref (ia k)), (0, .ref x), (1, .int i), (2, .int wh), (3, .int ce)]) hx hb d_F_contents_5 hl (by decide) rfl (fun ls hl => ?_)
    refine lv_aload hx hb d_F_contents_7 (lv_at hl 0 rfl) ?_
    refine lv_ifnonnull (tgt := 15) hx hb d_F_contents_9 (by decide) ?_
    refine lv_iload_n hx hb d_F_contents_15 rfl (lv_at hl 3 rfl) ?_
    refine lv_iconst (v := 0) hx hb d_F_contents_16 (by decide) ?_
    refine lv_bipush (v := 99) hx hb d_F_contents_17 (by decide) ?_
    refine wd_ci h (wd_rS (rest := []) (st0 := [.int 99, .int 0, .int wh]) C h k_F_within wt_F_within lk_F_46 (c_F_within l D T A σ wh 0 99) rfl rfl ⟨Nat.le_of_ble_eq_true rfl, Nat.le_of_ble_eq_true rfl⟩ rfl hl.1 rfl (Nat.le_of_ble_eq_true rfl) d_F_contents_19 ⟨Nat.le_of_ble_eq_true rfl, Nat.le_of_ble_eq_true rfl⟩) (fun r_6 σ_7 H locs hp_8 h => ?_)
    obtain ⟨e_9, es_10⟩ := hp_8
    rw [es_10] at h
    subst e_9
    refine lv_if_eq (tgt := 35) hx hb d_F_contents_22 (by decide) (fun c_11 => ?_) (fun c_11 => ?_)
    · refine lv_bipush (v := (-102)) hx hb d_F_contents_35 (by decide) ?_
      exact wd_iret C hr hlocks h (by rw [o_upd_some (S := (n, R, nc, CR, wg, Q)) hf, show f_con wh ce (R k) = ((-102), (R k)) from by simp [f_con, eq_true c_11]]; exact ⟨rfl, by rw [va_up_id]; exact hB.rx⟩) (Nat.le_of_ble_eq_true rfl) (Nat.le_of_ble_eq_true rfl) d_F_contents_37
    · refine lv_iload_n hx hb d_F_contents_25 rfl (lv_at hl 4 rfl) ?_
      refine lv_iconst (v := 0) hx hb d_F_contents_26 (by decide) ?_
      refine lv_ldc (v := 100000) hx hb C.2.2.2.1 (C.2.2.2.2 _ lk_F_50) d_F_contents_27 ?_
      refine wd_ci h (wd_rS (rest := []) (st0 := [.int 100000, .int 0, .int ce]) C h k_F_within wt_F_within lk_F_46 (c_F_within l D T A σ ce 0 100000) rfl rfl ⟨Nat.le_of_ble_eq_true rfl, Nat.le_of_ble_eq_true rfl⟩ rfl hl.1 rfl (Nat.le_of_ble_eq_true rfl) d_F_contents_29 ⟨Nat.le_of_ble_eq_true rfl, Nat.le_of_ble_eq_true rfl⟩) (fun r_12 σ_13 H locs hp_14 h => ?_)
      obtain ⟨e_15, es_16⟩ := hp_14
      rw [es_16] at h
      subst e_15
      refine lv_if_ne (tgt := 38) hx hb d_F_contents_32 (by decide) (fun c_17 => ?_) (fun c_17 => ?_)
      · refine lv_aload hx hb d_F_contents_38 (lv_at hl 0 rfl) ?_
        refine wd_getN C h kc_I g2 9 (by decide) lk_F_97 rfl d_F_contents_40 ?_
        refine lv_if_eq (tgt := 54) hx hb d_F_contents_43 (by decide) (fun c_18 => ?_) (fun c_18 => ?_)
        · refine lv_bipush (v := (-103)) hx hb d_F_contents_54 (by decide) ?_
          exact wd_iret C hr hlocks h (by rw [o_upd_some (S := (n, R, nc, CR, wg, Q)) hf, show f_con wh ce (R k) = ((-103), (R k)) from by simp [f_con, eq_false c_11, eq_false c_17, eq_true c_18]]; exact ⟨rfl, by rw [va_up_id]; exact hB.rx⟩) (Nat.le_of_ble_eq_true rfl) (Nat.le_of_ble_eq_true rfl) d_F_contents_56
        · refine lv_aload hx hb d_F_contents_46 (lv_at hl 0 rfl) ?_
          refine wd_ci h (wd_rVN (rest := []) (st0 := [.ref (ia k)]) C h kc_I g2 k_I_isAtEnd wm_I_isAtEnd wz_I_isAtEnd lk_F_72 (c_I_isAtEnd l D T A σ (ia k) (R k) (aa (2 * k)) (aa (2 * k + 1)) g2 ) rfl rfl ⟨Nat.le_of_ble_eq_true rfl, Nat.le_of_ble_eq_true rfl⟩ rfl hl.1 rfl (Nat.le_of_ble_eq_true rfl) d_F_contents_48 ⟨Nat.le_of_ble_eq_true rfl, Nat.le_of_ble_eq_true rfl⟩) (fun r_19 σ_20 H locs hp_21 h => ?_)
          obtain ⟨e_22, es_23⟩ := hp_21
          rw [es_23] at h
          subst e_22
          refine lv_if_eq (tgt := 57) hx hb d_F_contents_51 (by decide) (fun c_24 => ?_) (fun c_24 => ?_)
          · refine lv_aload hx hb d_F_contents_57 (lv_at hl 0 rfl) ?_
            refine wd_getN C h kc_I g2 14 (by decide) lk_F_100 rfl d_F_contents_59 ?_
            refine lv_iconst (v := 4) hx hb d_F_contents_62 (by decide) ?_
            refine lv_icmp_lt (tgt := 69) hx hb d_F_contents_63 (by decide) (fun c_25 => ?_) (fun c_25 => ?_)
            · refine lv_aload hx hb d_F_contents_69 (lv_at hl 0 rfl) ?_
              refine wd_getN C h kc_I g2 15 (by decide) lk_F_122 rfl d_F_contents_71 ?_
              refine lv_aload hx hb d_F_contents_74 (lv_at hl 0 rfl) ?_
              refine wd_getN C h kc_I g2 14 (by decide) lk_F_100 rfl d_F_contents_76 ?_
              refine lv_iload_n hx hb d_F_contents_79 rfl (lv_at hl 3 rfl) ?_
              refine wd_iast C h 0 rfl g3 ((hok k hk).m c_25) d_F_contents_80 (fun H locs h => ?_)
              have h : wd_C D T A s H locs (wd_up σ (aa (2 * k)) (.inl (T 0, 4, .inl (upd (fun j => R k (15 + 2 * j)) (R k 14).toNatClampNeg wh)))) := h
              have h_26 : (wd_up σ (aa (2 * k)) (.inl (T 0, 4, .inl (upd (fun j => R k (15 + 2 * j)) (R k 14).toNatClampNeg wh)))) (aa (2 * k)) = some (.inl (T 0, 4, .inl (upd (fun j => R k (15 + 2 * j)) (R k 14).toNatClampNeg wh))) := wd_us _ _ _
              have h_27 : (wd_up σ (aa (2 * k)) (.inl (T 0, 4, .inl (upd (fun j => R k (15 + 2 * j)) (R k 14).toNatClampNeg wh)))) x = some (.inr (0, [.ref aI, .int (nI n), .ref aC, .int (nI nc), .ref aJ, .ref aW, .ref aB, .ref aP])) := wd_uk b1 (wd_ne b1 g3 (by simp))
              have h_28 : (wd_up σ (aa (2 * k)) (.inl (T 0, 4, .inl (upd (fun j => R k (15 + 2 * j)) (R k 14).toNatClampNeg wh)))) (ia k) = some (xI (R k) (aa (2 * k)) (aa (2 * k + 1))) := wd_uk g2 (wd_ne g2 g3 (by simp))
              have h_29 : (wd_up σ (aa (2 * k)) (.inl (T 0, 4, .inl (upd (fun j => R k (15 + 2 * j)) (R k 14).toNatClampNeg wh)))) (aa (2 * k + 1)) = some (aN T 4 (fun j => R k (16 + 2 * j))) := wd_uk g4 (Ne.symm naa)
              refine lv_aload hx hb d_F_contents_81 (lv_at hl 0 rfl) ?_
              refine wd_getN C h kc_I h_28 16 (by decide) lk_F_125 rfl d_F_contents_83 ?_
              refine lv_aload hx hb d_F_contents_86 (lv_at hl 0 rfl) ?_
              refine wd_getN C h kc_I h_28 14 (by decide) lk_F_100 rfl d_F_contents_88 ?_
              refine lv_iload_n hx hb d_F_contents_91 rfl (lv_at hl 4 rfl) ?_
              refine wd_iast C h 0 rfl h_29 ((hok k hk).m c_25) d_F_contents_92 (fun H locs h => ?_)
              have h : wd_C D T A s H locs (wd_up (wd_up σ (aa (2 * k)) (.inl (T 0, 4, .inl (upd (fun j => R k (15 + 2 * j)) (R k 14).toNatClampNeg wh)))) (aa (2 * k + 1)) (.inl (T 0, 4, .inl (upd (fun j => R k (16 + 2 * j)) (R k 14).toNatClampNeg ce)))) := h
              have h_30 : (wd_up (wd_up σ (aa (2 * k)) (.inl (T 0, 4, .inl (upd (fun j => R k (15 + 2 * j)) (R k 14).toNatClampNeg wh)))) (aa (2 * k + 1)) (.inl (T 0, 4, .inl (upd (fun j => R k (16 + 2 * j)) (R k 14).toNatClampNeg ce)))) (aa (2 * k + 1)) = some (.inl (T 0, 4, .inl (upd (fun j => R k (16 + 2 * j)) (R k 14).toNatClampNeg ce))) := wd_us _ _ _
              have h_31 : (wd_up (wd_up σ (aa (2 * k)) (.inl (T 0, 4, .inl (upd (fun j => R k (15 + 2 * j)) (R k 14).toNatClampNeg wh)))) (aa (2 * k + 1)) (.inl (T 0, 4, .inl (upd (fun j => R k (16 + 2 * j)) (R k 14).toNatClampNeg ce)))) x = some (.inr (0, [.ref aI, .int (nI n), .ref aC, .int (nI nc), .ref aJ, .ref aW, .ref aB, .ref aP])) := wd_uk h_27 (wd_ne h_27 h_29 (by simp))
              have h_32 : (wd_up (wd_up σ (aa (2 * k)) (.inl (T 0, 4, .inl (upd (fun j => R k (15 + 2 * j)) (R k 14).toNatClampNeg wh)))) (aa (2 * k + 1)) (.inl (T 0, 4, .inl (upd (fun j => R k (16 + 2 * j)) (R k 14).toNatClampNeg ce)))) (ia k) = some (xI (R k) (aa (2 * k)) (aa (2 * k + 1))) := wd_uk h_28 (wd_ne h_28 h_29 (by simp))
              have h_33 : (wd_up (wd_up σ (aa (2 * k)) (.inl (T 0, 4, .inl (upd (fun j => R k (15 + 2 * j)) (R k 14).toNatClampNeg wh)))) (aa (2 * k + 1)) (.inl (T 0, 4, .inl (upd (fun j => R k (16 + 2 * j)) (R k 14).toNatClampNeg ce)))) (aa (2 * k)) = some (.inl (T 0, 4, .inl (upd (fun j => R k (15 + 2 * j)) (R k 14).toNatClampNeg wh))) := wd_uk h_26 naa
              refine lv_aload hx hb d_F_contents_93 (lv_at hl 0 rfl) ?_
              refine lv_dup hx hb d_F_contents_95 rfl ?_
              refine wd_getN C h kc_I h_32 14 (by decide) lk_F_100 rfl d_F_contents_96 ?_
              refine lv_iconst (v := 1) hx hb d_F_contents_99 (by decide) ?_
              refine lv_iadd hx hb d_F_contents_100 ?_
              refine wd_putN C h kc_I h_32 14 (by decide) lk_F_100 rfl (by rfl) (by rfl) (Nat.le_of_ble_eq_true rfl) d_F_contents_101 (fun H locs h => ?_)
              have h : wd_C D T A s H locs (wd_up (wd_up (wd_up σ (aa (2 * k)) (.inl (T 0, 4, .inl (upd (fun j => R k (15 + 2 * j)) (R k 14).toNatClampNeg wh)))) (aa (2 * k + 1)) (.inl (T 0, 4, .inl (upd (fun j => R k (16 + 2 * j)) (R k 14).toNatClampNeg ce)))) (ia k) (.inr (1, [.int (R k 0), .int (R k 1), .int (R k 2), .int (R k 3), .int (R k 4), .int (R k 5), .int (R k 6), .int (R k 7), .int (R k 8), .int (R k 9), .int (R k 10), .int (R k 11), .int (R k 12), .int (R k 13), .int ((R k 14) + 1), .ref (aa (2 * k)), .ref (aa (2 * k + 1))]))) := h
              have h_34 : (wd_up (wd_up (wd_up σ (aa (2 * k)) (.inl (T 0, 4, .inl (upd (fun j => R k (15 + 2 * j)) (R k 14).toNatClampNeg wh)))) (aa (2 * k + 1)) (.inl (T 0, 4, .inl (upd (fun j => R k (16 + 2 * j)) (R k 14).toNatClampNeg ce)))) (ia k) (.inr (1, [.int (R k 0), .int (R k 1), .int (R k 2), .int (R k 3), .int (R k 4), .int (R k 5), .int (R k 6), .int (R k 7), .int (R k 8), .int (R k 9), .int (R k 10), .int (R k 11), .int (R k 12), .int (R k 13), .int ((R k 14) + 1), .ref (aa (2 * k)), .ref (aa (2 * k + 1))]))) (ia k) = some (.inr (1, [.int (R k 0), .int (R k 1), .int (R k 2), .int (R k 3), .int (R k 4), .int (R k 5), .int (R k 6), .int (R k 7), .int (R k 8), .int (R k 9), .int (R k 10), .int (R k 11), .int (R k 12), .int (R k 13), .int ((R k 14) + 1), .ref (aa (2 * k)), .ref (aa (2 * k + 1))])) := wd_us _ _ _
              have h_35 : (wd_up (wd_up (wd_up σ (aa (2 * k)) (.inl (T 0, 4, .inl (upd (fun j => R k (15 + 2 * j)) (R k 14).toNatClampNeg wh)))) (aa (2 * k + 1)) (.inl (T 0, 4, .inl (upd (fun j => R k (16 + 2 * j)) (R k 14).toNatClampNeg ce)))) (ia k) (.inr (1, [.int (R k 0), .int (R k 1), .int (R k 2), .int (R k 3), .int (R k 4), .int (R k 5), .int (R k 6), .int (R k 7), .int (R k 8), .int (R k 9), .int (R k 10), .int (R k 11), .int (R k 12), .int (R k 13), .int ((R k 14) + 1), .ref (aa (2 * k)), .ref (aa (2 * k + 1))]))) x = some (.inr (0, [.ref aI, .int (nI n), .ref aC, .int (nI nc), .ref aJ, .ref aW, .ref aB, .ref aP])) := wd_uk h_31 (wd_ne h_31 h_32 (by simp))
              have h_36 : (wd_up (wd_up (wd_up σ (aa (2 * k)) (.inl (T 0, 4, .inl (upd (fun j => R k (15 + 2 * j)) (R k 14).toNatClampNeg wh)))) (aa (2 * k + 1)) (.inl (T 0, 4, .inl (upd (fun j => R k (16 + 2 * j)) (R k 14).toNatClampNeg ce)))) (ia k) (.inr (1, [.int (R k 0), .int (R k 1), .int (R k 2), .int (R k 3), .int (R k 4), .int (R k 5), .int (R k 6), .int (R k 7), .int (R k 8), .int (R k 9), .int (R k 10), .int (R k 11), .int (R k 12), .int (R k 13), .int ((R k 14) + 1), .ref (aa (2 * k)), .ref (aa (2 * k + 1))]))) (aa (2 * k)) = some (.inl (T 0, 4, .inl (upd (fun j => R k (15 + 2 * j)) (R k 14).toNatClampNeg wh))) := wd_uk h_33 (wd_ne h_33 h_32 (by simp))
              have h_37 : (wd_up (wd_up (wd_up σ (aa (2 * k)) (.inl (T 0, 4, .inl (upd (fun j => R k (15 + 2 * j)) (R k 14).toNatClampNeg wh)))) (aa (2 * k + 1)) (.inl (T 0, 4, .inl (upd (fun j => R k (16 + 2 * j)) (R k 14).toNatClampNeg ce)))) (ia k) (.inr (1, [.int (R k 0), .int (R k 1), .int (R k 2), .int (R k 3), .int (R k 4), .int (R k 5), .int (R k 6), .int (R k 7), .int (R k 8), .int (R k 9), .int (R k 10), .int (R k 11), .int (R k 12), .int (R k 13), .int ((R k 14) + 1), .ref (aa (2 * k)), .ref (aa (2 * k + 1))]))) (aa (2 * k + 1)) = some (.inl (T 0, 4, .inl (upd (fun j => R k (16 + 2 * j)) (R k 14).toNatClampNeg ce))) := wd_uk h_30 (wd_ne h_30 h_32 (by simp))
              refine lv_aload hx hb d_F_contents_104 (lv_at hl 0 rfl) ?_
              refine wd_getN C h kc_I h_34 14 (by decide) lk_F_100 rfl d_F_contents_106 ?_
              exact wd_iret C hr hlocks h (by rw [o_upd_some (S := (n, R, nc, CR, wg, Q)) hf, show f_con wh ce (R k) = (((R k 14) + 1), (upd (upd (upd (R k) (15 + 2 * (R k 14).toNatClampNeg) wh) (16 + 2 * (R k 14).toNatClampNeg) ce) 14 (R k 14 + 1))) from by simp [f_con, eq_false c_11, eq_false c_17, eq_false c_18, eq_true c_24, eq_true c_25]]; exact ⟨rfl, ((hB.rc.cont hk).rb (b11.up (con_lo (by decide)) (con_lo (by decide)))).rx⟩) (Nat.le_of_ble_eq_true rfl) (Nat.le_of_ble_eq_true rfl) d_F_contents_109
            · refine lv_bipush (v := (-104)) hx hb d_F_contents_66 (by decide) ?_
              exact wd_iret C hr hlocks h (by rw [o_upd_some (S := (n, R, nc, CR, wg, Q)) hf, show f_con wh ce (R k) = ((-104), (R k)) from by simp [f_con, eq_false c_11, eq_false c_17, eq_false c_18, eq_true c_24, eq_false c_25]]; exact ⟨rfl, by rw [va_up_id]; exact hB.rx⟩) (Nat.le_of_ble_eq_true rfl) (Nat.le_of_ble_eq_true rfl) d_F_contents_68
          · refine lv_bipush (v := (-103)) hx hb d_F_contents_54 (by decide) ?_
            exact wd_iret C hr hlocks h (by rw [o_upd_some (S := (n, R, nc, CR, wg, Q)) hf, show f_con wh ce (R k) = ((-103), (R k)) from by simp [f_con, eq_false c_11, eq_false c_17, eq_false c_18, eq_false c_24]]; exact ⟨rfl, by rw [va_up_id]; exact hB.rx⟩) (Nat.le_of_ble_eq_true rfl) (Nat.le_of_ble_eq_true rfl) d_F_contents_56
      · refine lv_bipush (v := (-102)) hx hb d_F_contents_35 (by decide) ?_
        exact wd_iret C hr hlocks h (by rw [o_upd_some (S := (n, R, nc, CR, wg, Q)) hf, show f_con wh ce (R k) = ((-102), (R k)) from by simp [f_con, eq_false c_11, eq_true c_17]]; exact ⟨rfl, by rw [va_up_id]; exact hB.rx⟩) (Nat.le_of_ble_eq_true rfl) (Nat.le_of_ble_eq_true rfl) d_F_contents_37

set_option maxHeartbeats 4000000 in
set_option maxRecDepth 20000 in
theorem c_F_join (l : Launch) (D : va_G) (T : Nat → ClassId) (A : Nat → Prop) (σ : wd_S) (x n : Nat) (R : Nat → Nat → Int32) (nc : Nat) (CR : Nat → Nat → Int32) (wg : Nat → Int32) (Q : pq) (aI aC aJ aW aB aP ab : Nat) (fI fC : Nat → Option Nat) (jn wn bk qb : Nat → Int32) (ia aa ca : Nat → Nat) (hB : RB T σ x n R nc CR wg Q aI aC aJ aW aB aP ab fI fC jn wn bk qb ia aa ca) (i c wt : Int32) : Met l y_F_join (Cond.code y_F_join b_F_join 5 (some .int) :: wd_tb) { frames := 2, cells := 0, slots := 0, locals := 43 } (va_Pc [.ref x, .int i, .int c, .int wt] (wd_Pre D T A σ)) (va_Qi (fun r1 σ1 => r1 = (o_join (n, R, nc, CR, wg, Q) i c wt).1 ∧ RX T σ1 x (o_join (n, R, nc, CR, wg, Q) i c wt).2) (wd_B D A) A) 0 0 A := by
  refine wd_ofW (by decide) (Nat.le_of_ble_eq_true rfl) ?_
  intro p e s m below meth c0 ls C hr hlocks hname h hl
  have hl : lv_has ls 5 [(0, .ref x), (1, .int i), (2, .int c), (3, .int wt)] := hl
  have hx := C.1
  have hb := C.2.1
  obtain ⟨b1, b2, b3, b4, b5, b6, b7, b8, b9, b10, b11, b12, b13, b14⟩ := id hB
  refine lv_aload_n hx hb d_F_join_0 rfl (lv_at hl 0 rfl) ?_
  refine lv_iload_n hx hb d_F_join_1 rfl (lv_at hl 1 rfl) ?_
  refine wd_cq h (wd_rV (rest := []) (st0 := [.int i, .ref x]) C h kc_F b1 k_F_find wm_F_find wz_F_find lk_F_64 (c_F_find l D T A σ x aI n fI ia _ _ _ _ _ _ b1 b2 b12 (fun k hk => (b9.1 k hk).1) i) rfl rfl ⟨Nat.le_of_ble_eq_true rfl, Nat.le_of_ble_eq_true rfl⟩ rfl hl.1 rfl (Nat.le_of_ble_eq_true rfl) d_F_join_2 ⟨Nat.le_of_ble_eq_true rfl, Nat.le_of_ble_eq_true rfl⟩) (fun r_1 σ_2 H locs hp_3 h => ?_)
  obtain ⟨e_4, es_5⟩ := hp_3
  rw [es_5] at h
  rw [e_4]
  rcases hf : o_find n i with _ | k
  · refine W.eq (g2 := F0 m 5 ls [.null]) rfl ?_
    refine lv_astoreN (lv' := [(4, .null), (0, .ref x), (1, .int i), (2, .int c), (3, .int wt)]) hx hb d_F_join_5 hl (by decide) rfl (fun ls hl => ?_)
    refine lv_aloadN hx hb d_F_join_7 (lv_at hl 0 rfl) ?_
    refine lv_ifnonnullN hx hb d_F_join_9 ?_
    refine lv_bipush (v := (-101)) hx hb d_F_join_12 (by decide) ?_
    exact wd_iret C hr hlocks h (by unfold o_join; rw [show o_find (n, R, nc, CR, wg, Q).1 i = none from hf]; exact ⟨rfl, hB.rx⟩) (Nat.le_of_ble_eq_true rfl) (Nat.le_of_ble_eq_true rfl) d_F_join_14
  · refine W.eq (g2 := F0 m 5 ls [.ref (ia k)]) rfl ?_
    obtain ⟨hk, hik1, hik⟩ := o_find_some b12 hf
    obtain ⟨g1, g2, g3, g4⟩ := b9.1 k hk
    refine lv_astore (lv' := [(4, .ref (ia k)), (0, .ref x), (1, .int i), (2, .int c), (3, .int wt)]) hx hb d_F_join_5 hl (by decide) rfl (fun ls hl => ?_)
    refine lv_aload hx hb d_F_join_7 (lv_at hl 0 rfl) ?_
    refine lv_ifnonnull (tgt := 15) hx hb d_F_join_9 (by decide) ?_
    refine lv_iload_n hx hb d_F_join_15 rfl (lv_at hl 3 rfl) ?_
    refine lv_iconst (v := 1) hx hb d_F_join_16 (by decide) ?_
    refine lv_bipush (v := 30) hx hb d_F_join_17 (by decide) ?_
    refine wd_ci h (wd_rS (rest := []) (st0 := [.int 30, .int 1, .int c]) C h k_F_within wt_F_within lk_F_46 (c_F_within l D T A σ c 1 30) rfl rfl ⟨Nat.le_of_ble_eq_true rfl, Nat.le_of_ble_eq_true rfl⟩ rfl hl.1 rfl (Nat.le_of_ble_eq_true rfl) d_F_join_19 ⟨Nat.le_of_ble_eq_true rfl, Nat.le_of_ble_eq_true rfl⟩) (fun r_6 σ_7 H locs hp_8 h => ?_)
    obtain ⟨e_9, es_10⟩ := hp_8
    rw [es_10] at h
    subst e_9
    refine lv_if_ne (tgt := 28) hx hb d_F_join_22 (by decide) (fun c_11 => ?_) (fun c_11 => ?_)
    · refine lv_aload hx hb d_F_join_28 (lv_at hl 0 rfl) ?_
      refine wd_getN C h kc_I g2 10 (by decide) lk_F_106 rfl d_F_join_30 ?_
      refine lv_if_ne (tgt := 44) hx hb d_F_join_33 (by decide) (fun c_12 => ?_) (fun c_12 => ?_)
      · refine lv_bipush (v := (-103)) hx hb d_F_join_44 (by decide) ?_
        exact wd_iret C hr hlocks h (by unfold o_join; rw [show o_find (n, R, nc, CR, wg, Q).1 i = some k from hf]; simp only [eq_false c_11, eq_false c_12, ↓reduceIte]; exact ⟨trivial, hB.rx⟩) (Nat.le_of_ble_eq_true rfl) (Nat.le_of_ble_eq_true rfl) d_F_join_46
      · refine lv_aload hx hb d_F_join_36 (lv_at hl 0 rfl) ?_
        refine wd_ci h (wd_rVN (rest := []) (st0 := [.ref (ia k)]) C h kc_I g2 k_I_isAtEnd wm_I_isAtEnd wz_I_isAtEnd lk_F_72 (c_I_isAtEnd l D T A σ (ia k) (R k) (aa (2 * k)) (aa (2 * k + 1)) g2 ) rfl rfl ⟨Nat.le_of_ble_eq_true rfl, Nat.le_of_ble_eq_true rfl⟩ rfl hl.1 rfl (Nat.le_of_ble_eq_true rfl) d_F_join_38 ⟨Nat.le_of_ble_eq_true rfl, Nat.le_of_ble_eq_true rfl⟩) (fun r_13 σ_14 H locs hp_15 h => ?_)
        obtain ⟨e_16, es_17⟩ := hp_15
        rw [es_17] at h
        subst e_16
        refine lv_if_eq (tgt := 47) hx hb d_F_join_41 (by decide) (fun c_18 => ?_) (fun c_18 => ?_)
        · refine lv_aload_n hx hb d_F_join_47 rfl (lv_at hl 1 rfl) ?_
          refine wd_get C h kc_F b1 4 (by decide) lk_F_28 rfl d_F_join_48 ?_
          refine lv_iload_n hx hb d_F_join_51 rfl (lv_at hl 3 rfl) ?_
          refine wd_iald C h 0 rfl b4 (xw_vp c_11 (by decide) (by decide)) d_F_join_52 ?_
          refine lv_if_ne (tgt := 63) hx hb d_F_join_53 (by decide) (fun c_19 => ?_) (fun c_19 => ?_)
          · refine lv_aload hx hb d_F_join_63 (lv_at hl 0 rfl) ?_
            refine lv_iload_n hx hb d_F_join_65 rfl (lv_at hl 3 rfl) ?_
            refine wd_putN C h kc_I g2 10 (by decide) lk_F_106 rfl (by rfl) (by rfl) (Nat.le_of_ble_eq_true rfl) d_F_join_66 (fun H locs h => ?_)
            have h : wd_C D T A s H locs (wd_up σ (ia k) (.inr (1, [.int (R k 0), .int (R k 1), .int (R k 2), .int (R k 3), .int (R k 4), .int (R k 5), .int (R k 6), .int (R k 7), .int (R k 8), .int (R k 9), .int c, .int (R k 11), .int (R k 12), .int (R k 13), .int (R k 14), .ref (aa (2 * k)), .ref (aa (2 * k + 1))]))) := h
            have h_20 : (wd_up σ (ia k) (.inr (1, [.int (R k 0), .int (R k 1), .int (R k 2), .int (R k 3), .int (R k 4), .int (R k 5), .int (R k 6), .int (R k 7), .int (R k 8), .int (R k 9), .int c, .int (R k 11), .int (R k 12), .int (R k 13), .int (R k 14), .ref (aa (2 * k)), .ref (aa (2 * k + 1))]))) (ia k) = some (.inr (1, [.int (R k 0), .int (R k 1), .int (R k 2), .int (R k 3), .int (R k 4), .int (R k 5), .int (R k 6), .int (R k 7), .int (R k 8), .int (R k 9), .int c, .int (R k 11), .int (R k 12), .int (R k 13), .int (R k 14), .ref (aa (2 * k)), .ref (aa (2 * k + 1))])) := wd_us _ _ _
            have h_21 : (wd_up σ (ia k) (.inr (1, [.int (R k 0), .int (R k 1), .int (R k 2), .int (R k 3), .int (R k 4), .int (R k 5), .int (R k 6), .int (R k 7), .int (R k 8), .int (R k 9), .int c, .int (R k 11), .int (R k 12), .int (R k 13), .int (R k 14), .ref (aa (2 * k)), .ref (aa (2 * k + 1))]))) x = some (.inr (0, [.ref aI, .int (nI n), .ref aC, .int (nI nc), .ref aJ, .ref aW, .ref aB, .ref aP])) := wd_uk b1 (wd_ne b1 g2 (by simp))
            have h_22 : (wd_up σ (ia k) (.inr (1, [.int (R k 0), .int (R k 1), .int (R k 2), .int (R k 3), .int (R k 4), .int (R k 5), .int (R k 6), .int (R k 7), .int (R k 8), .int (R k 9), .int c, .int (R k 11), .int (R k 12), .int (R k 13), .int (R k 14), .ref (aa (2 * k)), .ref (aa (2 * k + 1))]))) aJ = some (.inl (T 0, 31, .inl jn)) := wd_uk b4 (wd_ne b4 g2 (by simp))
            have h_23 : (wd_up σ (ia k) (.inr (1, [.int (R k 0), .int (R k 1), .int (R k 2), .int (R k 3), .int (R k 4), .int (R k 5), .int (R k 6), .int (R k 7), .int (R k 8), .int (R k 9), .int c, .int (R k 11), .int (R k 12), .int (R k 13), .int (R k 14), .ref (aa (2 * k)), .ref (aa (2 * k + 1))]))) aW = some (.inl (T 1, 31, .inl wn)) := wd_uk b5 (wd_ne b5 g2 (by simp))
            refine lv_aload_n hx hb d_F_join_69 rfl (lv_at hl 1 rfl) ?_
            refine wd_get C h kc_F h_21 4 (by decide) lk_F_28 rfl d_F_join_70 ?_
            refine lv_iload_n hx hb d_F_join_73 rfl (lv_at hl 3 rfl) ?_
            refine lv_dup2_11 hx hb d_F_join_74 rfl rfl ?_
            refine wd_iald C h 0 rfl h_22 (xw_vp c_11 (by decide) (by decide)) d_F_join_75 ?_
            refine lv_iconst (v := 1) hx hb d_F_join_76 (by decide) ?_
            refine lv_iadd hx hb d_F_join_77 ?_
            refine wd_iast C h 0 rfl h_22 (xw_vp c_11 (by decide) (by decide)) d_F_join_78 (fun H locs h => ?_)
            have h : wd_C D T A s H locs (wd_up (wd_up σ (ia k) (.inr (1, [.int (R k 0), .int (R k 1), .int (R k 2), .int (R k 3), .int (R k 4), .int (R k 5), .int (R k 6), .int (R k 7), .int (R k 8), .int (R k 9), .int c, .int (R k 11), .int (R k 12), .int (R k 13), .int (R k 14), .ref (aa (2 * k)), .ref (aa (2 * k + 1))]))) aJ (.inl (T 0, 31, .inl (upd jn c.toNatClampNeg ((jn c.toNatClampNeg) + 1))))) := h
            have h_24 : (wd_up (wd_up σ (ia k) (.inr (1, [.int (R k 0), .int (R k 1), .int (R k 2), .int (R k 3), .int (R k 4), .int (R k 5), .int (R k 6), .int (R k 7), .int (R k 8), .int (R k 9), .int c, .int (R k 11), .int (R k 12), .int (R k 13), .int (R k 14), .ref (aa (2 * k)), .ref (aa (2 * k + 1))]))) aJ (.inl (T 0, 31, .inl (upd jn c.toNatClampNeg ((jn c.toNatClampNeg) + 1))))) aJ = some (.inl (T 0, 31, .inl (upd jn c.toNatClampNeg ((jn c.toNatClampNeg) + 1)))) := wd_us _ _ _
            have h_25 : (wd_up (wd_up σ (ia k) (.inr (1, [.int (R k 0), .int (R k 1), .int (R k 2), .int (R k 3), .int (R k 4), .int (R k 5), .int (R k 6), .int (R k 7), .int (R k 8), .int (R k 9), .int c, .int (R k 11), .int (R k 12), .int (R k 13), .int (R k 14), .ref (aa (2 * k)), .ref (aa (2 * k + 1))]))) aJ (.inl (T 0, 31, .inl (upd jn c.toNatClampNeg ((jn c.toNatClampNeg) + 1))))) x = some (.inr (0, [.ref aI, .int (nI n), .ref aC, .int (nI nc), .ref aJ, .ref aW, .ref aB, .ref aP])) := wd_uk h_21 (wd_ne h_21 h_22 (by simp))
            have h_26 : (wd_up (wd_up σ (ia k) (.inr (1, [.int (R k 0), .int (R k 1), .int (R k 2), .int (R k 3), .int (R k 4), .int (R k 5), .int (R k 6), .int (R k 7), .int (R k 8), .int (R k 9), .int c, .int (R k 11), .int (R k 12), .int (R k 13), .int (R k 14), .ref (aa (2 * k)), .ref (aa (2 * k + 1))]))) aJ (.inl (T 0, 31, .inl (upd jn c.toNatClampNeg ((jn c.toNatClampNeg) + 1))))) aW = some (.inl (T 1, 31, .inl wn)) := wd_uk h_23 (Ne.symm b14)
            have h_27 : (wd_up (wd_up σ (ia k) (.inr (1, [.int (R k 0), .int (R k 1), .int (R k 2), .int (R k 3), .int (R k 4), .int (R k 5), .int (R k 6), .int (R k 7), .int (R k 8), .int (R k 9), .int c, .int (R k 11), .int (R k 12), .int (R k 13), .int (R k 14), .ref (aa (2 * k)), .ref (aa (2 * k + 1))]))) aJ (.inl (T 0, 31, .inl (upd jn c.toNatClampNeg ((jn c.toNatClampNeg) + 1))))) (ia k) = some (.inr (1, [.int (R k 0), .int (R k 1), .int (R k 2), .int (R k 3), .int (R k 4), .int (R k 5), .int (R k 6), .int (R k 7), .int (R k 8), .int (R k 9), .int c, .int (R k 11), .int (R k 12), .int (R k 13), .int (R k 14), .ref (aa (2 * k)), .ref (aa (2 * k + 1))])) := wd_uk h_20 (wd_ne h_20 h_22 (by simp))
            refine lv_aload_n hx hb d_F_join_79 rfl (lv_at hl 1 rfl) ?_
            refine wd_get C h kc_F h_25 4 (by decide) lk_F_28 rfl d_F_join_80 ?_
            refine lv_iload_n hx hb d_F_join_83 rfl (lv_at hl 3 rfl) ?_
            refine wd_iald C h 0 rfl h_24 (xw_vp c_11 (by decide) (by decide)) d_F_join_84 ?_
            exact wd_iret C hr hlocks h (by unfold o_join; rw [show o_find (n, R, nc, CR, wg, Q).1 i = some k from hf]; obtain ⟨m, m1, m2, rfl⟩ := c_in (n := 30) c_11 rfl (by decide); rw [nI_clamp (show m < 2 ^ 31 by omega)] at h c_19 ⊢; have hj := b11.1 m m1 m2; have hle := cnt_le (R := R) (f := 10) (c := nI m) n; rw [hj, nI_z (by omega)] at c_19; simp only [eq_false c_11, eq_true c_12, eq_true c_18, c_19, ↓reduceIte]; exact ⟨by rw [pk_us, hj, nI_1], ((hB.rc.item hk (fun j hj => upd_hi (by decide) hj)).cJ.rb (b11.join hk c_12 m2)).rx⟩) (Nat.le_of_ble_eq_true rfl) (Nat.le_of_ble_eq_true rfl) d_F_join_85
          · refine lv_aload_n hx hb d_F_join_56 rfl (lv_at hl 1 rfl) ?_
            refine wd_get C h kc_F b1 5 (by decide) lk_F_32 rfl d_F_join_57 ?_
            refine lv_iload_n hx hb d_F_join_60 rfl (lv_at hl 3 rfl) ?_
            refine lv_iload_n hx hb d_F_join_61 rfl (lv_at hl 4 rfl) ?_
            refine wd_zast C h 1 rfl b5 (xw_vp c_11 (by decide) (by decide)) d_F_join_62 (fun H locs h => ?_)
            have h : wd_C D T A s H locs (wd_up σ aW (.inl (T 1, 31, .inl (upd wn c.toNatClampNeg (vp_nar .boolean wt))))) := h
            have h_28 : (wd_up σ aW (.inl (T 1, 31, .inl (upd wn c.toNatClampNeg (vp_nar .boolean wt))))) aW = some (.inl (T 1, 31, .inl (upd wn c.toNatClampNeg (vp_nar .boolean wt)))) := wd_us _ _ _
            have h_29 : (wd_up σ aW (.inl (T 1, 31, .inl (upd wn c.toNatClampNeg (vp_nar .boolean wt))))) x = some (.inr (0, [.ref aI, .int (nI n), .ref aC, .int (nI nc), .ref aJ, .ref aW, .ref aB, .ref aP])) := wd_uk b1 (wd_ne b1 b5 (by simp))
            have h_30 : (wd_up σ aW (.inl (T 1, 31, .inl (upd wn c.toNatClampNeg (vp_nar .boolean wt))))) aJ = some (.inl (T 0, 31, .inl jn)) := wd_uk b4 b14
            have h_31 : (wd_up σ aW (.inl (T 1, 31, .inl (upd wn c.toNatClampNeg (vp_nar .boolean wt))))) (ia k) = some (xI (R k) (aa (2 * k)) (aa (2 * k + 1))) := wd_uk g2 (wd_ne g2 b5 (by simp))
            refine lv_aload hx hb d_F_join_63 (lv_at hl 0 rfl) ?_
            refine lv_iload_n hx hb d_F_join_65 rfl (lv_at hl 3 rfl) ?_
            refine wd_putN C h kc_I h_31 10 (by decide) lk_F_106 rfl (by rfl) (by rfl) (Nat.le_of_ble_eq_true rfl) d_F_join_66 (fun H locs h => ?_)
            have h : wd_C D T A s H locs (wd_up (wd_up σ aW (.inl (T 1, 31, .inl (upd wn c.toNatClampNeg (vp_nar .boolean wt))))) (ia k) (.inr (1, [.int (R k 0), .int (R k 1), .int (R k 2), .int (R k 3), .int (R k 4), .int (R k 5), .int (R k 6), .int (R k 7), .int (R k 8), .int (R k 9), .int c, .int (R k 11), .int (R k 12), .int (R k 13), .int (R k 14), .ref (aa (2 * k)), .ref (aa (2 * k + 1))]))) := h
            have h_32 : (wd_up (wd_up σ aW (.inl (T 1, 31, .inl (upd wn c.toNatClampNeg (vp_nar .boolean wt))))) (ia k) (.inr (1, [.int (R k 0), .int (R k 1), .int (R k 2), .int (R k 3), .int (R k 4), .int (R k 5), .int (R k 6), .int (R k 7), .int (R k 8), .int (R k 9), .int c, .int (R k 11), .int (R k 12), .int (R k 13), .int (R k 14), .ref (aa (2 * k)), .ref (aa (2 * k + 1))]))) (ia k) = some (.inr (1, [.int (R k 0), .int (R k 1), .int (R k 2), .int (R k 3), .int (R k 4), .int (R k 5), .int (R k 6), .int (R k 7), .int (R k 8), .int (R k 9), .int c, .int (R k 11), .int (R k 12), .int (R k 13), .int (R k 14), .ref (aa (2 * k)), .ref (aa (2 * k + 1))])) := wd_us _ _ _
            have h_33 : (wd_up (wd_up σ aW (.inl (T 1, 31, .inl (upd wn c.toNatClampNeg (vp_nar .boolean wt))))) (ia k) (.inr (1, [.int (R k 0), .int (R k 1), .int (R k 2), .int (R k 3), .int (R k 4), .int (R k 5), .int (R k 6), .int (R k 7), .int (R k 8), .int (R k 9), .int c, .int (R k 11), .int (R k 12), .int (R k 13), .int (R k 14), .ref (aa (2 * k)), .ref (aa (2 * k + 1))]))) x = some (.inr (0, [.ref aI, .int (nI n), .ref aC, .int (nI nc), .ref aJ, .ref aW, .ref aB, .ref aP])) := wd_uk h_29 (wd_ne h_29 h_31 (by simp))
            have h_34 : (wd_up (wd_up σ aW (.inl (T 1, 31, .inl (upd wn c.toNatClampNeg (vp_nar .boolean wt))))) (ia k) (.inr (1, [.int (R k 0), .int (R k 1), .int (R k 2), .int (R k 3), .int (R k 4), .int (R k 5), .int (R k 6), .int (R k 7), .int (R k 8), .int (R k 9), .int c, .int (R k 11), .int (R k 12), .int (R k 13), .int (R k 14), .ref (aa (2 * k)), .ref (aa (2 * k + 1))]))) aJ = some (.inl (T 0, 31, .inl jn)) := wd_uk h_30 (wd_ne h_30 h_31 (by simp))
            have h_35 : (wd_up (wd_up σ aW (.inl (T 1, 31, .inl (upd wn c.toNatClampNeg (vp_nar .boolean wt))))) (ia k) (.inr (1, [.int (R k 0), .int (R k 1), .int (R k 2), .int (R k 3), .int (R k 4), .int (R k 5), .int (R k 6), .int (R k 7), .int (R k 8), .int (R k 9), .int c, .int (R k 11), .int (R k 12), .int (R k 13), .int (R k 14), .ref (aa (2 * k)), .ref (aa (2 * k + 1))]))) aW = some (.inl (T 1, 31, .inl (upd wn c.toNatClampNeg (vp_nar .boolean wt)))) := wd_uk h_28 (wd_ne h_28 h_31 (by simp))
            refine lv_aload_n hx hb d_F_join_69 rfl (lv_at hl 1 rfl) ?_
            refine wd_get C h kc_F h_33 4 (by decide) lk_F_28 rfl d_F_join_70 ?_
            refine lv_iload_n hx hb d_F_join_73 rfl (lv_at hl 3 rfl) ?_
            refine lv_dup2_11 hx hb d_F_join_74 rfl rfl ?_
            refine wd_iald C h 0 rfl h_34 (xw_vp c_11 (by decide) (by decide)) d_F_join_75 ?_
            refine lv_iconst (v := 1) hx hb d_F_join_76 (by decide) ?_
            refine lv_iadd hx hb d_F_join_77 ?_
            refine wd_iast C h 0 rfl h_34 (xw_vp c_11 (by decide) (by decide)) d_F_join_78 (fun H locs h => ?_)
            have h : wd_C D T A s H locs (wd_up (wd_up (wd_up σ aW (.inl (T 1, 31, .inl (upd wn c.toNatClampNeg (vp_nar .boolean wt))))) (ia k) (.inr (1, [.int (R k 0), .int (R k 1), .int (R k 2), .int (R k 3), .int (R k 4), .int (R k 5), .int (R k 6), .int (R k 7), .int (R k 8), .int (R k 9), .int c, .int (R k 11), .int (R k 12), .int (R k 13), .int (R k 14), .ref (aa (2 * k)), .ref (aa (2 * k + 1))]))) aJ (.inl (T 0, 31, .inl (upd jn c.toNatClampNeg ((jn c.toNatClampNeg) + 1))))) := h
            have h_36 : (wd_up (wd_up (wd_up σ aW (.inl (T 1, 31, .inl (upd wn c.toNatClampNeg (vp_nar .boolean wt))))) (ia k) (.inr (1, [.int (R k 0), .int (R k 1), .int (R k 2), .int (R k 3), .int (R k 4), .int (R k 5), .int (R k 6), .int (R k 7), .int (R k 8), .int (R k 9), .int c, .int (R k 11), .int (R k 12), .int (R k 13), .int (R k 14), .ref (aa (2 * k)), .ref (aa (2 * k + 1))]))) aJ (.inl (T 0, 31, .inl (upd jn c.toNatClampNeg ((jn c.toNatClampNeg) + 1))))) aJ = some (.inl (T 0, 31, .inl (upd jn c.toNatClampNeg ((jn c.toNatClampNeg) + 1)))) := wd_us _ _ _
            have h_37 : (wd_up (wd_up (wd_up σ aW (.inl (T 1, 31, .inl (upd wn c.toNatClampNeg (vp_nar .boolean wt))))) (ia k) (.inr (1, [.int (R k 0), .int (R k 1), .int (R k 2), .int (R k 3), .int (R k 4), .int (R k 5), .int (R k 6), .int (R k 7), .int (R k 8), .int (R k 9), .int c, .int (R k 11), .int (R k 12), .int (R k 13), .int (R k 14), .ref (aa (2 * k)), .ref (aa (2 * k + 1))]))) aJ (.inl (T 0, 31, .inl (upd jn c.toNatClampNeg ((jn c.toNatClampNeg) + 1))))) x = some (.inr (0, [.ref aI, .int (nI n), .ref aC, .int (nI nc), .ref aJ, .ref aW, .ref aB, .ref aP])) := wd_uk h_33 (wd_ne h_33 h_34 (by simp))
            have h_38 : (wd_up (wd_up (wd_up σ aW (.inl (T 1, 31, .inl (upd wn c.toNatClampNeg (vp_nar .boolean wt))))) (ia k) (.inr (1, [.int (R k 0), .int (R k 1), .int (R k 2), .int (R k 3), .int (R k 4), .int (R k 5), .int (R k 6), .int (R k 7), .int (R k 8), .int (R k 9), .int c, .int (R k 11), .int (R k 12), .int (R k 13), .int (R k 14), .ref (aa (2 * k)), .ref (aa (2 * k + 1))]))) aJ (.inl (T 0, 31, .inl (upd jn c.toNatClampNeg ((jn c.toNatClampNeg) + 1))))) aW = some (.inl (T 1, 31, .inl (upd wn c.toNatClampNeg (vp_nar .boolean wt)))) := wd_uk h_35 (Ne.symm b14)
            have h_39 : (wd_up (wd_up (wd_up σ aW (.inl (T 1, 31, .inl (upd wn c.toNatClampNeg (vp_nar .boolean wt))))) (ia k) (.inr (1, [.int (R k 0), .int (R k 1), .int (R k 2), .int (R k 3), .int (R k 4), .int (R k 5), .int (R k 6), .int (R k 7), .int (R k 8), .int (R k 9), .int c, .int (R k 11), .int (R k 12), .int (R k 13), .int (R k 14), .ref (aa (2 * k)), .ref (aa (2 * k + 1))]))) aJ (.inl (T 0, 31, .inl (upd jn c.toNatClampNeg ((jn c.toNatClampNeg) + 1))))) (ia k) = some (.inr (1, [.int (R k 0), .int (R k 1), .int (R k 2), .int (R k 3), .int (R k 4), .int (R k 5), .int (R k 6), .int (R k 7), .int (R k 8), .int (R k 9), .int c, .int (R k 11), .int (R k 12), .int (R k 13), .int (R k 14), .ref (aa (2 * k)), .ref (aa (2 * k + 1))])) := wd_uk h_32 (wd_ne h_32 h_34 (by simp))
            refine lv_aload_n hx hb d_F_join_79 rfl (lv_at hl 1 rfl) ?_
            refine wd_get C h kc_F h_37 4 (by decide) lk_F_28 rfl d_F_join_80 ?_
            refine lv_iload_n hx hb d_F_join_83 rfl (lv_at hl 3 rfl) ?_
            refine wd_iald C h 0 rfl h_36 (xw_vp c_11 (by decide) (by decide)) d_F_join_84 ?_
            exact wd_iret C hr hlocks h (by unfold o_join; rw [show o_find (n, R, nc, CR, wg, Q).1 i = some k from hf]; obtain ⟨m, m1, m2, rfl⟩ := c_in (n := 30) c_11 rfl (by decide); rw [nI_clamp (show m < 2 ^ 31 by omega)] at h c_19 ⊢; have hj := b11.1 m m1 m2; have hle := cnt_le (R := R) (f := 10) (c := nI m) n; rw [hj, nI_z (by omega)] at c_19; simp only [eq_false c_11, eq_true c_12, eq_true c_18, c_19, ↓reduceIte]; exact ⟨by rw [pk_us, hj, c_19]; rfl, ((hB.rc.cW.item hk (fun j hj => upd_hi (by decide) hj)).cJ.rb ((b11.wait (m := m)).join hk c_12 m2)).rx⟩) (Nat.le_of_ble_eq_true rfl) (Nat.le_of_ble_eq_true rfl) d_F_join_85
        · refine lv_bipush (v := (-103)) hx hb d_F_join_44 (by decide) ?_
          exact wd_iret C hr hlocks h (by unfold o_join; rw [show o_find (n, R, nc, CR, wg, Q).1 i = some k from hf]; simp only [eq_false c_11, eq_true c_12, eq_false c_18, ↓reduceIte]; exact ⟨trivial, hB.rx⟩) (Nat.le_of_ble_eq_true rfl) (Nat.le_of_ble_eq_true rfl) d_F_join_46
    · refine lv_bipush (v := (-102)) hx hb d_F_join_25 (by decide) ?_
      exact wd_iret C hr hlocks h (by unfold o_join; rw [show o_find (n, R, nc, CR, wg, Q).1 i = some k from hf]; simp only [eq_true c_11, ↓reduceIte]; exact ⟨trivial, hB.rx⟩) (Nat.le_of_ble_eq_true rfl) (Nat.le_of_ble_eq_true rfl) d_F_join_27

set_option maxHeartbeats 4000000 in
set_option maxRecDepth 20000 in
theorem c_F_bulk (l : Launch) (D : va_G) (T : Nat → ClassId) (A : Nat → Prop) (σ : wd_S) (x n : Nat) (R : Nat → Nat → Int32) (nc : Nat) (CR : Nat → Nat → Int32) (wg : Nat → Int32) (Q : pq) (aI aC aJ aW aB aP ab : Nat) (fI fC : Nat → Option Nat) (jn wn bk qb : Nat → Int32) (ia aa ca : Nat → Nat) (hB : RB T σ x n R nc CR wg Q aI aC aJ aW aB aP ab fI fC jn wn bk qb ia aa ca) (i c : Int32) : Met l y_F_bulk (Cond.code y_F_bulk b_F_bulk 4 (some .int) :: wd_tb) { frames := 2, cells := 0, slots := 0, locals := 43 } (va_Pc [.ref x, .int i, .int c] (wd_Pre D T A σ)) (va_Qi (fun r1 σ1 => r1 = (o_bulk (n, R, nc, CR, wg, Q) i c).1 ∧ RX T σ1 x (o_bulk (n, R, nc, CR, wg, Q) i c).2) (wd_B D A) A) 0 0 A := by
  refine wd_ofW (by decide) (Nat.le_of_ble_eq_true rfl) ?_
  intro p e s m below meth c0 ls C hr hlocks hname h hl
  have hl : lv_has ls 4 [(0, .ref x), (1, .int i), (2, .int c)] := hl
  have hx := C.1
  have hb := C.2.1
  obtain ⟨b1, b2, b3, b4, b5, b6, b7, b8, b9, b10, b11, b12, b13, b14⟩ := id hB
  refine lv_aload_n hx hb d_F_bulk_0 rfl (lv_at hl 0 rfl) ?_
  refine lv_iload_n hx hb d_F_bulk_1 rfl (lv_at hl 1 rfl) ?_
  refine wd_cq h (wd_rV (rest := []) (st0 := [.int i, .ref x]) C h kc_F b1 k_F_find wm_F_find wz_F_find lk_F_64 (c_F_find l D T A σ x aI n fI ia _ _ _ _ _ _ b1 b2 b12 (fun k hk => (b9.1 k hk).1) i) rfl rfl ⟨Nat.le_of_ble_eq_true rfl, Nat.le_of_ble_eq_true rfl⟩ rfl hl.1 rfl (Nat.le_of_ble_eq_true rfl) d_F_bulk_2 ⟨Nat.le_of_ble_eq_true rfl, Nat.le_of_ble_eq_true rfl⟩) (fun r_1 σ_2 H locs hp_3 h => ?_)
  obtain ⟨e_4, es_5⟩ := hp_3
  rw [es_5] at h
  rw [e_4]
  rcases hf : o_find n i with _ | k
  · refine W.eq (g2 := F0 m 5 ls [.null]) rfl ?_
    refine lv_astore_nN (lv' := [(3, .null), (0, .ref x), (1, .int i), (2, .int c)]) hx hb d_F_bulk_5 rfl hl (by decide) rfl (fun ls hl => ?_)
    refine lv_aload_nN hx hb d_F_bulk_6 rfl (lv_at hl 0 rfl) ?_
    refine lv_ifnonnullN hx hb d_F_bulk_7 ?_
    refine lv_bipush (v := (-101)) hx hb d_F_bulk_10 (by decide) ?_
    exact wd_iret C hr hlocks h (by unfold o_bulk; rw [show o_find (n, R, nc, CR, wg, Q).1 i = none from hf]; exact ⟨rfl, hB.rx⟩) (Nat.le_of_ble_eq_true rfl) (Nat.le_of_ble_eq_true rfl) d_F_bulk_12
  · refine W.eq (g2 := F0 m 5 ls [.ref (ia k)]) rfl ?_
    obtain ⟨hk, hik1, hik⟩ := o_find_some b12 hf
    obtain ⟨g1, g2, g3, g4⟩ := b9.1 k hk
    refine lv_astore_n (lv' := [(3, .ref (ia k)), (0, .ref x), (1, .int i), (2, .int c)]) hx hb d_F_bulk_5 rfl hl (by decide) rfl (fun ls hl => ?_)
    refine lv_aload_n hx hb d_F_bulk_6 rfl (lv_at hl 0 rfl) ?_
    refine lv_ifnonnull (tgt := 13) hx hb d_F_bulk_7 (by decide) ?_
    refine lv_iload_n hx hb d_F_bulk_13 rfl (lv_at hl 3 rfl) ?_
    refine lv_iconst (v := 1) hx hb d_F_bulk_14 (by decide) ?_
    refine lv_bipush (v := 20) hx hb d_F_bulk_15 (by decide) ?_
    refine wd_ci h (wd_rS (rest := []) (st0 := [.int 20, .int 1, .int c]) C h k_F_within wt_F_within lk_F_46 (c_F_within l D T A σ c 1 20) rfl rfl ⟨Nat.le_of_ble_eq_true rfl, Nat.le_of_ble_eq_true rfl⟩ rfl hl.1 rfl (Nat.le_of_ble_eq_true rfl) d_F_bulk_17 ⟨Nat.le_of_ble_eq_true rfl, Nat.le_of_ble_eq_true rfl⟩) (fun r_6 σ_7 H locs hp_8 h => ?_)
    obtain ⟨e_9, es_10⟩ := hp_8
    rw [es_10] at h
    subst e_9
    refine lv_if_ne (tgt := 26) hx hb d_F_bulk_20 (by decide) (fun c_11 => ?_) (fun c_11 => ?_)
    · refine lv_aload_n hx hb d_F_bulk_26 rfl (lv_at hl 0 rfl) ?_
      refine wd_getN C h kc_I g2 11 (by decide) lk_F_128 rfl d_F_bulk_27 ?_
      refine lv_if_eq (tgt := 36) hx hb d_F_bulk_30 (by decide) (fun c_12 => ?_) (fun c_12 => ?_)
      · refine lv_aload_n hx hb d_F_bulk_36 rfl (lv_at hl 0 rfl) ?_
        refine lv_iload_n hx hb d_F_bulk_37 rfl (lv_at hl 3 rfl) ?_
        refine wd_putN C h kc_I g2 11 (by decide) lk_F_128 rfl (by rfl) (by rfl) (Nat.le_of_ble_eq_true rfl) d_F_bulk_38 (fun H locs h => ?_)
        have h : wd_C D T A s H locs (wd_up σ (ia k) (.inr (1, [.int (R k 0), .int (R k 1), .int (R k 2), .int (R k 3), .int (R k 4), .int (R k 5), .int (R k 6), .int (R k 7), .int (R k 8), .int (R k 9), .int (R k 10), .int c, .int (R k 12), .int (R k 13), .int (R k 14), .ref (aa (2 * k)), .ref (aa (2 * k + 1))]))) := h
        have h_13 : (wd_up σ (ia k) (.inr (1, [.int (R k 0), .int (R k 1), .int (R k 2), .int (R k 3), .int (R k 4), .int (R k 5), .int (R k 6), .int (R k 7), .int (R k 8), .int (R k 9), .int (R k 10), .int c, .int (R k 12), .int (R k 13), .int (R k 14), .ref (aa (2 * k)), .ref (aa (2 * k + 1))]))) (ia k) = some (.inr (1, [.int (R k 0), .int (R k 1), .int (R k 2), .int (R k 3), .int (R k 4), .int (R k 5), .int (R k 6), .int (R k 7), .int (R k 8), .int (R k 9), .int (R k 10), .int c, .int (R k 12), .int (R k 13), .int (R k 14), .ref (aa (2 * k)), .ref (aa (2 * k + 1))])) := wd_us _ _ _
        have h_14 : (wd_up σ (ia k) (.inr (1, [.int (R k 0), .int (R k 1), .int (R k 2), .int (R k 3), .int (R k 4), .int (R k 5), .int (R k 6), .int (R k 7), .int (R k 8), .int (R k 9), .int (R k 10), .int c, .int (R k 12), .int (R k 13), .int (R k 14), .ref (aa (2 * k)), .ref (aa (2 * k + 1))]))) x = some (.inr (0, [.ref aI, .int (nI n), .ref aC, .int (nI nc), .ref aJ, .ref aW, .ref aB, .ref aP])) := wd_uk b1 (wd_ne b1 g2 (by simp))
        have h_15 : (wd_up σ (ia k) (.inr (1, [.int (R k 0), .int (R k 1), .int (R k 2), .int (R k 3), .int (R k 4), .int (R k 5), .int (R k 6), .int (R k 7), .int (R k 8), .int (R k 9), .int (R k 10), .int c, .int (R k 12), .int (R k 13), .int (R k 14), .ref (aa (2 * k)), .ref (aa (2 * k + 1))]))) aB = some (.inl (T 0, 21, .inl bk)) := wd_uk b6 (wd_ne b6 g2 (by simp))
        refine lv_aload_n hx hb d_F_bulk_41 rfl (lv_at hl 1 rfl) ?_
        refine wd_get C h kc_F h_14 6 (by decide) lk_F_36 rfl d_F_bulk_42 ?_
        refine lv_iload_n hx hb d_F_bulk_45 rfl (lv_at hl 3 rfl) ?_
        refine lv_dup2_11 hx hb d_F_bulk_46 rfl rfl ?_
        refine wd_iald C h 0 rfl h_15 (xw_vp c_11 (by decide) (by decide)) d_F_bulk_47 ?_
        refine lv_iconst (v := 1) hx hb d_F_bulk_48 (by decide) ?_
        refine lv_iadd hx hb d_F_bulk_49 ?_
        refine wd_iast C h 0 rfl h_15 (xw_vp c_11 (by decide) (by decide)) d_F_bulk_50 (fun H locs h => ?_)
        have h : wd_C D T A s H locs (wd_up (wd_up σ (ia k) (.inr (1, [.int (R k 0), .int (R k 1), .int (R k 2), .int (R k 3), .int (R k 4), .int (R k 5), .int (R k 6), .int (R k 7), .int (R k 8), .int (R k 9), .int (R k 10), .int c, .int (R k 12), .int (R k 13), .int (R k 14), .ref (aa (2 * k)), .ref (aa (2 * k + 1))]))) aB (.inl (T 0, 21, .inl (upd bk c.toNatClampNeg ((bk c.toNatClampNeg) + 1))))) := h
        have h_16 : (wd_up (wd_up σ (ia k) (.inr (1, [.int (R k 0), .int (R k 1), .int (R k 2), .int (R k 3), .int (R k 4), .int (R k 5), .int (R k 6), .int (R k 7), .int (R k 8), .int (R k 9), .int (R k 10), .int c, .int (R k 12), .int (R k 13), .int (R k 14), .ref (aa (2 * k)), .ref (aa (2 * k + 1))]))) aB (.inl (T 0, 21, .inl (upd bk c.toNatClampNeg ((bk c.toNatClampNeg) + 1))))) aB = some (.inl (T 0, 21, .inl (upd bk c.toNatClampNeg ((bk c.toNatClampNeg) + 1)))) := wd_us _ _ _
        have h_17 : (wd_up (wd_up σ (ia k) (.inr (1, [.int (R k 0), .int (R k 1), .int (R k 2), .int (R k 3), .int (R k 4), .int (R k 5), .int (R k 6), .int (R k 7), .int (R k 8), .int (R k 9), .int (R k 10), .int c, .int (R k 12), .int (R k 13), .int (R k 14), .ref (aa (2 * k)), .ref (aa (2 * k + 1))]))) aB (.inl (T 0, 21, .inl (upd bk c.toNatClampNeg ((bk c.toNatClampNeg) + 1))))) x = some (.inr (0, [.ref aI, .int (nI n), .ref aC, .int (nI nc), .ref aJ, .ref aW, .ref aB, .ref aP])) := wd_uk h_14 (wd_ne h_14 h_15 (by simp))
        have h_18 : (wd_up (wd_up σ (ia k) (.inr (1, [.int (R k 0), .int (R k 1), .int (R k 2), .int (R k 3), .int (R k 4), .int (R k 5), .int (R k 6), .int (R k 7), .int (R k 8), .int (R k 9), .int (R k 10), .int c, .int (R k 12), .int (R k 13), .int (R k 14), .ref (aa (2 * k)), .ref (aa (2 * k + 1))]))) aB (.inl (T 0, 21, .inl (upd bk c.toNatClampNeg ((bk c.toNatClampNeg) + 1))))) (ia k) = some (.inr (1, [.int (R k 0), .int (R k 1), .int (R k 2), .int (R k 3), .int (R k 4), .int (R k 5), .int (R k 6), .int (R k 7), .int (R k 8), .int (R k 9), .int (R k 10), .int c, .int (R k 12), .int (R k 13), .int (R k 14), .ref (aa (2 * k)), .ref (aa (2 * k + 1))])) := wd_uk h_13 (wd_ne h_13 h_15 (by simp))
        refine lv_aload_n hx hb d_F_bulk_51 rfl (lv_at hl 1 rfl) ?_
        refine wd_get C h kc_F h_17 6 (by decide) lk_F_36 rfl d_F_bulk_52 ?_
        refine lv_iload_n hx hb d_F_bulk_55 rfl (lv_at hl 3 rfl) ?_
        refine wd_iald C h 0 rfl h_16 (xw_vp c_11 (by decide) (by decide)) d_F_bulk_56 ?_
        exact wd_iret C hr hlocks h (by unfold o_bulk; rw [show o_find (n, R, nc, CR, wg, Q).1 i = some k from hf]; obtain ⟨m, m1, m2, rfl⟩ := c_in (n := 20) c_11 rfl (by decide); rw [nI_clamp (show m < 2 ^ 31 by omega)] at h ⊢; have hj := b11.2.1 m m1 m2; simp only [eq_false c_11, eq_true c_12, ↓reduceIte]; exact ⟨by rw [pk_us, hj, nI_1], ((hB.rc.item hk (fun j hj => upd_hi (by decide) hj)).cB.rb (b11.bulk hk c_12 m2)).rx⟩) (Nat.le_of_ble_eq_true rfl) (Nat.le_of_ble_eq_true rfl) d_F_bulk_57
      · refine lv_bipush (v := (-103)) hx hb d_F_bulk_33 (by decide) ?_
        exact wd_iret C hr hlocks h (by unfold o_bulk; rw [show o_find (n, R, nc, CR, wg, Q).1 i = some k from hf]; simp only [eq_false c_11, eq_false c_12, ↓reduceIte]; exact ⟨trivial, hB.rx⟩) (Nat.le_of_ble_eq_true rfl) (Nat.le_of_ble_eq_true rfl) d_F_bulk_35
    · refine lv_bipush (v := (-102)) hx hb d_F_bulk_23 (by decide) ?_
      exact wd_iret C hr hlocks h (by unfold o_bulk; rw [show o_find (n, R, nc, CR, wg, Q).1 i = some k from hf]; simp only [eq_true c_11, ↓reduceIte]; exact ⟨trivial, hB.rx⟩) (Nat.le_of_ble_eq_true rfl) (Nat.le_of_ble_eq_true rfl) d_F_bulk_25
end
section
/-! what comes new: items, corrections; the first state -/
def newr (kd w z sd : Int32) : Nat → Int32 := fun j => if j = 0 then kd else if j = 1 then w else if j = 2 then z else if j = 3 then sd else if j = 7 then -1 else if j = 8 then -1 else if j = 13 then -1 else 0
def crow (i wh was v re : Int32) : Nat → Int32 := fun j => if j = 0 then i else if j = 1 then wh else if j = 2 then was else if j = 3 then v else re
def o_item (S : xS) (kd w z sd : Int32) : Int32 × xS := if xw kd 0 3 = 0 then (-102, S) else if xw w 1 100000 = 0 then (-102, S) else if xw z 0 9 = 0 then (-102, S) else if xw sd 0 99 = 0 then (-102, S) else if nI S.1 < 120 then (if w ≤ 31500 then (if z ≤ 3 then (nI (S.1 + 1), (S.1 + 1, va_up S.2.1 S.1 (newr (xt kd w z) w z sd), S.2.2)) else (-110, S)) else (-109, S)) else (-104, S)
def o_corr (S : xS) (i wh v re : Int32) : Int32 × xS := match o_find S.1 i with
  | none => (-101, S)
  | some k => if xy wh v = 0 then (-102, S) else if xw re 1 9 = 0 then (-102, S) else if xs (S.2.1 k) wh v = 0 then (if nI S.2.2.1 < 200 then (if wh = 1 ∧ ¬ v ≤ 31500 then (-109, S) else if wh = 2 ∧ ¬ v ≤ 3 then (-110, S) else (nI (S.2.2.1 + 1), (S.1, va_up S.2.1 k (xm (S.2.1 k) wh v), S.2.2.1 + 1, va_up S.2.2.2.1 S.2.2.1 (crow i wh (xc (S.2.1 k) wh) v re), S.2.2.2.2))) else (-104, S)) else (-103, S)
section RX4
variable {T : Nat → ClassId} {σ σ' : wd_S} {x n : Nat} {R : Nat → Nat → Int32} {nc : Nat} {CR : Nat → Nat → Int32} {wg : Nat → Int32} {Q Q' q : pq} {aI aC aJ aW aB aP ab : Nat} {fI fC : Nat → Option Nat} {jn wn bk qb jn' wn' bk' : Nat → Int32} {ia aa ca : Nat → Nat} {k b : Nat} {e e0 : va_E} {r : Nat → Int32}
theorem cnt_new {f : Nat} {c : Int32} : ∀ m, m ≤ n → cnt (va_up R n r) f c m = cnt R f c m
  | 0, _ => rfl
  | m + 1, h => by
    show cnt (va_up R n r) f c m + (if va_up R n r m f = c then 1 else 0) = cnt R f c m + (if R m f = c then 1 else 0)
    rw [cnt_new m (by omega), va_up_ne _ _ (show m ≠ n by omega)]
theorem rxN.add (h : rxN n R wg jn wn bk) (h10 : r 10 = 0) (h11 : r 11 = 0) : rxN (n + 1) (va_up R n r) wg jn wn bk := by
  refine ⟨fun c h1 h2 => ?_, fun c h1 h2 => ?_, h.2.2⟩
  · show jn c = nI (cnt (va_up R n r) 10 (nI c) n + (if va_up R n r n 10 = nI c then 1 else 0))
    rw [cnt_new n (Nat.le_refl n), va_up_self, h10, if_neg (fun z => nI_ne0 (by omega) (by omega) z.symm)]
    exact h.1 c h1 h2
  · show bk c = nI (cnt (va_up R n r) 11 (nI c) n + (if va_up R n r n 11 = nI c then 1 else 0))
    rw [cnt_new n (Nat.le_refl n), va_up_self, h11, if_neg (fun z => nI_ne0 (by omega) (by omega) z.symm)]
    exact h.2.1 c h1 h2
/-- an item more: its cell q, its arrays q1, q2 are new; σ' is σ with them, the array of items and the count written -/
theorem RB.add {q q1 q2 : Nat} (h : RB T σ x n R nc CR wg Q aI aC aJ aW aB aP ab fI fC jn wn bk qb ia aa ca) (hn : n < 120) (hq : σ q = none) (hq1 : σ q1 = none) (hq2 : σ q2 = none) (n1 : q1 ≠ q2) (n2 : q ≠ q1) (n3 : q ≠ q2)
    (e1 : σ' q = some (xI r q1 q2)) (e2 : σ' q1 = some (aN T 4 (fun j => r (15 + 2 * j)))) (e3 : σ' q2 = some (aN T 4 (fun j => r (16 + 2 * j)))) (e4 : σ' x = some (.inr (0, [.ref aI, .int (nI (n + 1)), .ref aC, .int (nI nc), .ref aJ, .ref aW, .ref aB, .ref aP]))) (e5 : σ' aI = some (aQ T 2 120 (va_up fI n (some q)))) (e6 : ∀ b, b ≠ q → b ≠ q1 → b ≠ q2 → b ≠ x → b ≠ aI → σ' b = σ b) (h10 : r 10 = 0) (h11 : r 11 = 0) : RX T σ' x (n + 1, va_up R n r, nc, CR, wg, Q) := by
  obtain ⟨a1, a2, a3, a4, a5, a6, a7, a8, a9, a10, a11, a12⟩ := h
  have hU : ∀ {z : Nat} {e : va_E}, σ z = some e → (∀ l, e ≠ .inr (0, l)) → (∀ f, e ≠ aQ T 2 120 f) → σ' z = some e := fun {z e} hz h1 h2 => (e6 z (wd_nn hz hq) (wd_nn hz hq1) (wd_nn hz hq2) (wd_ne hz a1 (h1 _)) (wd_ne hz a2 (h2 _))).trans hz
  refine RB.rx (aI := aI) (aC := aC) (aJ := aJ) (aW := aW) (aB := aB) (aP := aP) (ab := ab) (fI := va_up fI n (some q)) (fC := fC) (jn := jn) (wn := wn) (bk := bk) (qb := qb) (ia := va_up ia n q) (aa := va_up (va_up aa (2 * n) q1) (2 * n + 1) q2) (ca := ca) ⟨e4, e5, hU a3 (by simp) (by simp), hU a4 (by simp) (by simp), hU a5 (by simp) (by simp), hU a6 (by simp) (by simp), ⟨hU a7.1 (by simp) (by simp), hU a7.2.1 (by simp) (by simp), a7.2.2.1, fun _ _ _ => rfl⟩, a8, ⟨fun k hk => ?_, fun k j hk hj hkj => ?_, fun k j hk hj hkj => ?_⟩, fun k hk => ⟨(a10 k hk).1, hU (a10 k hk).2 (by simp) (by simp)⟩, a11.add h10 h11, by omega, a12.2⟩
  · by_cases hkn : k = n
    · subst hkn
      rw [va_up_self, va_up_self, va_up_self, va_up_self, va_up_ne _ _ (show 2 * k ≠ 2 * k + 1 by omega), va_up_self]
      exact ⟨rfl, e1, e2, e3⟩
    · obtain ⟨g1, g2, g3, g4⟩ := a9.1 k (by omega)
      rw [va_up_ne _ _ hkn, va_up_ne _ _ hkn, va_up_ne _ _ hkn, va_up_ne _ _ (show 2 * k ≠ 2 * n + 1 by omega), va_up_ne _ _ (show 2 * k ≠ 2 * n by omega), va_up_ne _ _ (show 2 * k + 1 ≠ 2 * n + 1 by omega), va_up_ne _ _ (show 2 * k + 1 ≠ 2 * n by omega)]
      exact ⟨g1, hU g2 (by simp) (by simp), hU g3 (by simp) (by simp), hU g4 (by simp) (by simp)⟩
  · have hnq : ∀ m, m < n → ia m ≠ q := fun m hm => wd_nn (a9.1 m hm).2.1 hq
    by_cases hkn : k = n <;> by_cases hjn : j = n
    · omega
    · subst hkn
      rw [va_up_self, va_up_ne _ _ hjn] at hkj
      exact absurd hkj.symm (hnq j (by omega))
    · subst hjn
      rw [va_up_self, va_up_ne _ _ hkn] at hkj
      exact absurd hkj (hnq k (by omega))
    · rw [va_up_ne _ _ hkn, va_up_ne _ _ hjn] at hkj
      exact a9.2.1 k j (by omega) (by omega) hkj
  · have hz : ∀ m, m < 2 * n → aa m ≠ q1 ∧ aa m ≠ q2 := fun m hm => by
      obtain ⟨-, -, g3, g4⟩ := a9.1 (m / 2) (by omega)
      rcases (show m = 2 * (m / 2) ∨ m = 2 * (m / 2) + 1 by omega) with q | q
      · rw [q]; exact ⟨wd_nn g3 hq1, wd_nn g3 hq2⟩
      · rw [q]; exact ⟨wd_nn g4 hq1, wd_nn g4 hq2⟩
    have hv : ∀ m, m < 2 * (n + 1) → (m < 2 * n ∧ va_up (va_up aa (2 * n) q1) (2 * n + 1) q2 m = aa m) ∨ (m = 2 * n ∧ va_up (va_up aa (2 * n) q1) (2 * n + 1) q2 m = q1) ∨ (m = 2 * n + 1 ∧ va_up (va_up aa (2 * n) q1) (2 * n + 1) q2 m = q2) := fun m hm => by
      rcases (show m < 2 * n ∨ m = 2 * n ∨ m = 2 * n + 1 by omega) with q | q | q
      · exact Or.inl ⟨q, by rw [va_up_ne _ _ (by omega), va_up_ne _ _ (by omega)]⟩
      · exact Or.inr (Or.inl ⟨q, by rw [va_up_ne _ _ (by omega), q, va_up_self]⟩)
      · exact Or.inr (Or.inr ⟨q, by rw [q, va_up_self]⟩)
    rcases hv k hk with ⟨u1, u2⟩ | ⟨u1, u2⟩ | ⟨u1, u2⟩ <;> rcases hv j hj with ⟨v1, v2⟩ | ⟨v1, v2⟩ | ⟨v1, v2⟩ <;> rw [u2, v2] at hkj
    · exact a9.2.2 k j u1 v1 hkj
    · exact absurd hkj (hz k u1).1
    · exact absurd hkj (hz k u1).2
    · exact absurd hkj.symm (hz j v1).1
    · omega
    · exact absurd hkj n1
    · exact absurd hkj.symm (hz j v1).2
    · exact absurd hkj.symm n1
    · omega
/-- a correction more -/
theorem RB.corr {q : Nat} {c : Nat → Int32} (h : RB T σ x n R nc CR wg Q aI aC aJ aW aB aP ab fI fC jn wn bk qb ia aa ca) (hn : nc < 200) (hk : k < n) (hq : σ q = none)
    (e1 : σ' q = some (xC c)) (e2 : σ' x = some (.inr (0, [.ref aI, .int (nI n), .ref aC, .int (nI (nc + 1)), .ref aJ, .ref aW, .ref aB, .ref aP]))) (e3 : σ' aC = some (aQ T 3 200 (va_up fC nc (some q)))) (e4 : σ' (ia k) = some (xI r (aa (2 * k)) (aa (2 * k + 1)))) (e6 : ∀ b, b ≠ q → b ≠ x → b ≠ aC → b ≠ ia k → σ' b = σ b) (h1 : r 10 = R k 10) (h2 : r 11 = R k 11) (hr : ∀ j, 15 ≤ j → r j = R k j) : RX T σ' x (n, va_up R k r, nc + 1, va_up CR nc c, wg, Q) := by
  obtain ⟨a1, a2, a3, a4, a5, a6, a7, a8, a9, a10, a11, a12⟩ := h
  obtain ⟨g1, g2, g3, g4⟩ := a9.1 k hk
  have hU : ∀ {z : Nat} {e : va_E}, σ z = some e → (∀ l, e ≠ .inr (0, l)) → (∀ f, e ≠ aQ T 3 200 f) → (∀ r w c, e ≠ xI r w c) → σ' z = some e := fun {z e} hz h1 h2 h3 => (e6 z (wd_nn hz hq) (wd_ne hz a1 (h1 _)) (wd_ne hz a3 (h2 _)) (wd_ne hz g2 (h3 _ _ _))).trans hz
  refine RB.rx (aI := aI) (aC := aC) (aJ := aJ) (aW := aW) (aB := aB) (aP := aP) (ab := ab) (fI := fI) (fC := va_up fC nc (some q)) (jn := jn) (wn := wn) (bk := bk) (qb := qb) (ia := ia) (aa := aa) (ca := va_up ca nc q) ⟨e2, hU a2 (by simp) (by simp) (by simp), e3, hU a4 (by simp) (by simp) (by simp), hU a5 (by simp) (by simp) (by simp), hU a6 (by simp) (by simp) (by simp), ⟨hU a7.1 (by simp) (by simp) (by simp), hU a7.2.1 (by simp) (by simp) (by simp), a7.2.2.1, fun _ _ _ => rfl⟩, a8, ⟨fun j hj => ?_, a9.2⟩, fun j hj => ?_, a11.up h1 h2, a12.1, by omega, a12.2.2⟩
  · obtain ⟨f1, f2, f3, f4⟩ := a9.1 j hj
    by_cases hjk : j = k
    · subst hjk
      rw [va_up_self]
      refine ⟨f1, e4, ?_, ?_⟩
      · rw [hU f3 (by simp) (by simp) (by simp), show (fun z => R j (15 + 2 * z)) = fun z => r (15 + 2 * z) from funext fun z => (hr _ (by omega)).symm]
      · rw [hU f4 (by simp) (by simp) (by simp), show (fun z => R j (16 + 2 * z)) = fun z => r (16 + 2 * z) from funext fun z => (hr _ (by omega)).symm]
    · rw [va_up_ne _ _ hjk]
      exact ⟨f1, (e6 _ (wd_nn f2 hq) (wd_ne f2 a1 (by simp)) (wd_ne f2 a3 (by simp)) (fun z => hjk (a9.2.1 j k hj hk z))).trans f2, hU f3 (by simp) (by simp) (by simp), hU f4 (by simp) (by simp) (by simp)⟩
  · by_cases hjn : j = nc
    · subst hjn
      rw [va_up_self, va_up_self, va_up_self]
      exact ⟨rfl, e1⟩
    · obtain ⟨f1, f2⟩ := a10 j (by omega)
      rw [va_up_ne _ _ hjn, va_up_ne _ _ hjn, va_up_ne _ _ hjn]
      exact ⟨f1, hU f2 (by simp) (by simp) (by simp)⟩
end RX4
theorem xm_lo {r : Nat → Int32} {wh v : Int32} {j : Nat} (h : 9 ≤ j) : xm r wh v j = r j := by
  unfold xm xm0
  rw [pk_un (by omega)]
  repeat' split
  all_goals first | rfl | exact pk_un (by omega)
end
section
theorem wd_none {σ : wd_S} {a b : Nat} {e : va_E} (h : wd_up σ a e b = none) : b ≠ a ∧ σ b = none := by
  by_cases z : b = a
  · subst z; rw [wd_us] at h; cases h
  · rw [wd_un _ _ z] at h; exact ⟨z, h⟩
theorem newr_hi {kd w z sd : Int32} {j : Nat} (h : 15 ≤ j) : newr kd w z sd j = 0 := by
  unfold newr
  rw [if_neg (by omega), if_neg (by omega), if_neg (by omega), if_neg (by omega), if_neg (by omega), if_neg (by omega), if_neg (by omega)]
theorem newr_w (T : Nat → ClassId) (kd w z sd : Int32) : aN T 4 (fun _ => 0) = aN T 4 (fun j => newr kd w z sd (15 + 2 * j)) := by
  rw [show (fun j => newr kd w z sd (15 + 2 * j)) = fun _ => 0 from funext fun j => newr_hi (by omega)]
theorem newr_c (T : Nat → ClassId) (kd w z sd : Int32) : aN T 4 (fun _ => 0) = aN T 4 (fun j => newr kd w z sd (16 + 2 * j)) := by
  rw [show (fun j => newr kd w z sd (16 + 2 * j)) = fun _ => 0 from funext fun j => newr_hi (by omega)]

set_option maxHeartbeats 4000000 in
set_option maxRecDepth 20000 in
theorem c_C_init (l : Launch) (D : va_G) (T : Nat → ClassId) (A : Nat → Prop) (σ : wd_S) (a : Nat) (ha : σ a = some (.inr (2, [.int 0, .int 0, .int 0, .int 0, .int 0]))) (i wh was v re : Int32) : Met l y_C_init (Cond.code y_C_init b_C_init 6 none :: wd_tb) { frames := 1, cells := 0, slots := 0, locals := 12 } (va_Pc [.ref a, .int i, .int wh, .int was, .int v, .int re] (wd_Pre D T A σ)) (va_Qv (fun σ1 => σ1 = wd_up σ a (xC (crow i wh was v re))) (wd_B D A) A) 0 0 A := by
  refine wd_ofW (by decide) (Nat.le_of_ble_eq_true rfl) ?_
  intro p e s m below meth c0 ls C hr hlocks hname h hl
  have hl : lv_has ls 6 [(0, .ref a), (1, .int i), (2, .int wh), (3, .int was), (4, .int v), (5, .int re)] := hl
  have hx := C.1
  have hb := C.2.1
  refine lv_aload_n hx hb d_C_init_0 rfl (lv_at hl 0 rfl) ?_
  refine W.objInit hx hb C.2.2.2.1 (C.2.2.2.2 _ lk_C_3) (C.2.2.2.2 _ wm_obj) (C.2.2.2.2 _ wc_obj) rfl (by rw [C.2.2.1]; exact hl.1) rfl d_C_init_1 (Nat.le_of_ble_eq_true rfl) (Nat.le_of_ble_eq_true rfl) ?_
  refine W.eq (g2 := F0 m 4 ls []) rfl ?_
  refine lv_aload_n hx hb d_C_init_4 rfl (lv_at hl 0 rfl) ?_
  refine lv_iload_n hx hb d_C_init_5 rfl (lv_at hl 1 rfl) ?_
  refine wd_putF C h kc_C ha 0 (by decide) lk_C_9 rfl hname rfl (by rfl) (by rfl) (Nat.le_of_ble_eq_true rfl) d_C_init_6 (fun H locs h => ?_)
  have h : wd_C D T A s H locs (wd_up σ a (.inr (2, [.int i, .int 0, .int 0, .int 0, .int 0]))) := h
  have h_1 : (wd_up σ a (.inr (2, [.int i, .int 0, .int 0, .int 0, .int 0]))) a = some (.inr (2, [.int i, .int 0, .int 0, .int 0, .int 0])) := wd_us _ _ _
  refine lv_aload_n hx hb d_C_init_9 rfl (lv_at hl 0 rfl) ?_
  refine lv_iload_n hx hb d_C_init_10 rfl (lv_at hl 2 rfl) ?_
  refine wd_putF C h kc_C h_1 1 (by decide) lk_C_15 rfl hname rfl (by rfl) (by rfl) (Nat.le_of_ble_eq_true rfl) d_C_init_11 (fun H locs h => ?_)
  rw [wd_uu] at h
  have h : wd_C D T A s H locs (wd_up σ a (.inr (2, [.int i, .int wh, .int 0, .int 0, .int 0]))) := h
  have h_2 : (wd_up σ a (.inr (2, [.int i, .int wh, .int 0, .int 0, .int 0]))) a = some (.inr (2, [.int i, .int wh, .int 0, .int 0, .int 0])) := wd_us _ _ _
  refine lv_aload_n hx hb d_C_init_14 rfl (lv_at hl 0 rfl) ?_
  refine lv_iload_n hx hb d_C_init_15 rfl (lv_at hl 3 rfl) ?_
  refine wd_putF C h kc_C h_2 2 (by decide) lk_C_18 rfl hname rfl (by rfl) (by rfl) (Nat.le_of_ble_eq_true rfl) d_C_init_16 (fun H locs h => ?_)
  rw [wd_uu] at h
  have h : wd_C D T A s H locs (wd_up σ a (.inr (2, [.int i, .int wh, .int was, .int 0, .int 0]))) := h
  have h_3 : (wd_up σ a (.inr (2, [.int i, .int wh, .int was, .int 0, .int 0]))) a = some (.inr (2, [.int i, .int wh, .int was, .int 0, .int 0])) := wd_us _ _ _
  refine lv_aload_n hx hb d_C_init_19 rfl (lv_at hl 0 rfl) ?_
  refine lv_iload hx hb d_C_init_20 (lv_at hl 4 rfl) ?_
  refine wd_putF C h kc_C h_3 3 (by decide) lk_C_21 rfl hname rfl (by rfl) (by rfl) (Nat.le_of_ble_eq_true rfl) d_C_init_22 (fun H locs h => ?_)
  rw [wd_uu] at h
  have h : wd_C D T A s H locs (wd_up σ a (.inr (2, [.int i, .int wh, .int was, .int v, .int 0]))) := h
  have h_4 : (wd_up σ a (.inr (2, [.int i, .int wh, .int was, .int v, .int 0]))) a = some (.inr (2, [.int i, .int wh, .int was, .int v, .int 0])) := wd_us _ _ _
  refine lv_aload_n hx hb d_C_init_25 rfl (lv_at hl 0 rfl) ?_
  refine lv_iload hx hb d_C_init_26 (lv_at hl 5 rfl) ?_
  refine wd_putF C h kc_C h_4 4 (by decide) lk_C_24 rfl hname rfl (by rfl) (by rfl) (Nat.le_of_ble_eq_true rfl) d_C_init_28 (fun H locs h => ?_)
  rw [wd_uu] at h
  have h : wd_C D T A s H locs (wd_up σ a (.inr (2, [.int i, .int wh, .int was, .int v, .int re]))) := h
  have h_5 : (wd_up σ a (.inr (2, [.int i, .int wh, .int was, .int v, .int re]))) a = some (.inr (2, [.int i, .int wh, .int was, .int v, .int re])) := wd_us _ _ _
  exact wd_vret C hr hlocks h (rfl) (Nat.le_of_ble_eq_true rfl) (Nat.le_of_ble_eq_true rfl) d_C_init_31

set_option maxHeartbeats 4000000 in
set_option maxRecDepth 20000 in
theorem c_P_init (l : Launch) (D : va_G) (T : Nat → ClassId) (A : Nat → Prop) (σ : wd_S) (a : Nat) (ha : σ a = some (.inr (3, [.null, .int 0]))) : Met l y_P_init (Cond.code y_P_init b_P_init 1 none :: wd_tb) { frames := 1, cells := 1, slots := 30, locals := 12 } (va_Pc [.ref a] (wd_Pre D T A σ)) (va_Qv (fun σ1 => ∃ q : Nat, σ q = none ∧ σ1 q = some (aN T 30 (fun _ => 0)) ∧ σ1 a = some (.inr (3, [.ref q, .int 0])) ∧ ∀ b, b ≠ a → b ≠ q → σ1 b = σ b) (wd_B D A) A) 1 30 A := by
  refine wd_ofW (by decide) (Nat.le_of_ble_eq_true rfl) ?_
  intro p e s m below meth c0 ls C hr hlocks hname h hl
  have hl : lv_has ls 1 [(0, .ref a)] := hl
  have hx := C.1
  have hb := C.2.1
  refine lv_aload_n hx hb d_P_init_0 rfl (lv_at hl 0 rfl) ?_
  refine W.objInit hx hb C.2.2.2.1 (C.2.2.2.2 _ lk_P_3) (C.2.2.2.2 _ wm_obj) (C.2.2.2.2 _ wc_obj) rfl (by rw [C.2.2.1]; exact hl.1) rfl d_P_init_1 (Nat.le_of_ble_eq_true rfl) (Nat.le_of_ble_eq_true rfl) ?_
  refine W.eq (g2 := F0 m 4 ls []) rfl ?_
  refine lv_aload_n hx hb d_P_init_4 rfl (lv_at hl 0 rfl) ?_
  refine lv_bipush (v := 30) hx hb d_P_init_5 (by decide) ?_
  refine wd_newi C h 0 rfl wa_int 30 30 (by decide) (by decide) (by decide) (Nat.le_of_ble_eq_true rfl) (Nat.le_of_ble_eq_true rfl) d_P_init_7 (fun q_1 H hq_2 h => ?_)
  have ne_5 : a ≠ q_1 := wd_nn ha hq_2
  have h_4 : (wd_up σ q_1 (.inl (T 0, 30, .inl (fun _ => 0)))) a = some (.inr (3, [.null, .int 0])) := wd_uk ha ne_5
  have h_3 : (wd_up σ q_1 (.inl (T 0, 30, .inl (fun _ => 0)))) q_1 = some (.inl (T 0, 30, .inl (fun _ => 0))) := wd_us _ _ _
  refine wd_putF C h kc_P h_4 0 (by decide) lk_P_11 rfl hname rfl (by rfl) (by rfl) (Nat.le_of_ble_eq_true rfl) d_P_init_9 (fun H locs h => ?_)
  have h : wd_C D T A s H locs (wd_up (wd_up σ q_1 (.inl (T 0, 30, .inl (fun _ => 0)))) a (.inr (3, [.ref q_1, .int 0]))) := h
  have h_6 : (wd_up (wd_up σ q_1 (.inl (T 0, 30, .inl (fun _ => 0)))) a (.inr (3, [.ref q_1, .int 0]))) a = some (.inr (3, [.ref q_1, .int 0])) := wd_us _ _ _
  have h_7 : (wd_up (wd_up σ q_1 (.inl (T 0, 30, .inl (fun _ => 0)))) a (.inr (3, [.ref q_1, .int 0]))) q_1 = some (.inl (T 0, 30, .inl (fun _ => 0))) := wd_uk h_3 (Ne.symm ne_5)
  refine lv_aload_n hx hb d_P_init_12 rfl (lv_at hl 0 rfl) ?_
  refine lv_iconst (v := 0) hx hb d_P_init_13 (by decide) ?_
  refine wd_put C h kc_P h_6 1 (by decide) lk_P_15 rfl (by rfl) (by rfl) (Nat.le_of_ble_eq_true rfl) d_P_init_14 (fun H locs h => ?_)
  rw [wd_uu] at h
  have h : wd_C D T A s H locs (wd_up (wd_up σ q_1 (.inl (T 0, 30, .inl (fun _ => 0)))) a (.inr (3, [.ref q_1, .int 0]))) := h
  have h_8 : (wd_up (wd_up σ q_1 (.inl (T 0, 30, .inl (fun _ => 0)))) a (.inr (3, [.ref q_1, .int 0]))) a = some (.inr (3, [.ref q_1, .int 0])) := wd_us _ _ _
  have h_9 : (wd_up (wd_up σ q_1 (.inl (T 0, 30, .inl (fun _ => 0)))) a (.inr (3, [.ref q_1, .int 0]))) q_1 = some (.inl (T 0, 30, .inl (fun _ => 0))) := wd_uk h_3 (Ne.symm ne_5)
  exact wd_vret C hr hlocks h (⟨q_1, hq_2, h_9, h_8, fun b h1 h2 => by rw [wd_un _ _ h1, wd_un _ _ h2]⟩) (Nat.le_of_ble_eq_true rfl) (Nat.le_of_ble_eq_true rfl) d_P_init_17

set_option maxHeartbeats 4000000 in
set_option maxRecDepth 20000 in
theorem c_I_init (l : Launch) (D : va_G) (T : Nat → ClassId) (A : Nat → Prop) (σ : wd_S) (a : Nat) (ha : σ a = some (.inr (1, [.int 0, .int 0, .int 0, .int 0, .int 0, .int 0, .int 0, .int 0, .int 0, .int 0, .int 0, .int 0, .int 0, .int 0, .int 0, .null, .null]))) (kd w z sd : Int32) : Met l y_I_init (Cond.code y_I_init b_I_init 5 none :: wd_tb) { frames := 1, cells := 2, slots := 8, locals := 12 } (va_Pc [.ref a, .int kd, .int w, .int z, .int sd] (wd_Pre D T A σ)) (va_Qv (fun σ1 => ∃ q1 q2 : Nat, σ q1 = none ∧ σ q2 = none ∧ q1 ≠ q2 ∧ σ1 q1 = some (aN T 4 (fun j => newr kd w z sd (15 + 2 * j))) ∧ σ1 q2 = some (aN T 4 (fun j => newr kd w z sd (16 + 2 * j))) ∧ σ1 a = some (xI (newr kd w z sd) q1 q2) ∧ ∀ b, b ≠ a → b ≠ q1 → b ≠ q2 → σ1 b = σ b) (wd_B D A) A) 2 8 A := by
  refine wd_ofW (by decide) (Nat.le_of_ble_eq_true rfl) ?_
  intro p e s m below meth c0 ls C hr hlocks hname h hl
  have hl : lv_has ls 5 [(0, .ref a), (1, .int kd), (2, .int w), (3, .int z), (4, .int sd)] := hl
  have hx := C.1
  have hb := C.2.1
  refine lv_aload_n hx hb d_I_init_0 rfl (lv_at hl 0 rfl) ?_
  refine W.objInit hx hb C.2.2.2.1 (C.2.2.2.2 _ lk_I_3) (C.2.2.2.2 _ wm_obj) (C.2.2.2.2 _ wc_obj) rfl (by rw [C.2.2.1]; exact hl.1) rfl d_I_init_1 (Nat.le_of_ble_eq_true rfl) (Nat.le_of_ble_eq_true rfl) ?_
  refine W.eq (g2 := F0 m 4 ls []) rfl ?_
  refine lv_aload_n hx hb d_I_init_4 rfl (lv_at hl 0 rfl) ?_
  refine lv_iload_n hx hb d_I_init_5 rfl (lv_at hl 1 rfl) ?_
  refine wd_put C h kc_I ha 0 (by decide) lk_I_9 rfl (by rfl) (by rfl) (Nat.le_of_ble_eq_true rfl) d_I_init_6 (fun H locs h => ?_)
  have h : wd_C D T A s H locs (wd_up σ a (.inr (1, [.int kd, .int 0, .int 0, .int 0, .int 0, .int 0, .int 0, .int 0, .int 0, .int 0, .int 0, .int 0, .int 0, .int 0, .int 0, .null, .null]))) := h
  have h_1 : (wd_up σ a (.inr (1, [.int kd, .int 0, .int 0, .int 0, .int 0, .int 0, .int 0, .int 0, .int 0, .int 0, .int 0, .int 0, .int 0, .int 0, .int 0, .null, .null]))) a = some (.inr (1, [.int kd, .int 0, .int 0, .int 0, .int 0, .int 0, .int 0, .int 0, .int 0, .int 0, .int 0, .int 0, .int 0, .int 0, .int 0, .null, .null])) := wd_us _ _ _
  refine lv_aload_n hx hb d_I_init_9 rfl (lv_at hl 0 rfl) ?_
  refine lv_iload_n hx hb d_I_init_10 rfl (lv_at hl 2 rfl) ?_
  refine wd_put C h kc_I h_1 1 (by decide) lk_I_15 rfl (by rfl) (by rfl) (Nat.le_of_ble_eq_true rfl) d_I_init_11 (fun H locs h => ?_)
  rw [wd_uu] at h
  have h : wd_C D T A s H locs (wd_up σ a (.inr (1, [.int kd, .int w, .int 0, .int 0, .int 0, .int 0, .int 0, .int 0, .int 0, .int 0, .int 0, .int 0, .int 0, .int 0, .int 0, .null, .null]))) := h
  have h_2 : (wd_up σ a (.inr (1, [.int kd, .int w, .int 0, .int 0, .int 0, .int 0, .int 0, .int 0, .int 0, .int 0, .int 0, .int 0, .int 0, .int 0, .int 0, .null, .null]))) a = some (.inr (1, [.int kd, .int w, .int 0, .int 0, .int 0, .int 0, .int 0, .int 0, .int 0, .int 0, .int 0, .int 0, .int 0, .int 0, .int 0, .null, .null])) := wd_us _ _ _
  refine lv_aload_n hx hb d_I_init_14 rfl (lv_at hl 0 rfl) ?_
  refine lv_iload_n hx hb d_I_init_15 rfl (lv_at hl 3 rfl) ?_
  refine wd_put C h kc_I h_2 2 (by decide) lk_I_18 rfl (by rfl) (by rfl) (Nat.le_of_ble_eq_true rfl) d_I_init_16 (fun H locs h => ?_)
  rw [wd_uu] at h
  have h : wd_C D T A s H locs (wd_up σ a (.inr (1, [.int kd, .int w, .int z, .int 0, .int 0, .int 0, .int 0, .int 0, .int 0, .int 0, .int 0, .int 0, .int 0, .int 0, .int 0, .null, .null]))) := h
  have h_3 : (wd_up σ a (.inr (1, [.int kd, .int w, .int z, .int 0, .int 0, .int 0, .int 0, .int 0, .int 0, .int 0, .int 0, .int 0, .int 0, .int 0, .int 0, .null, .null]))) a = some (.inr (1, [.int kd, .int w, .int z, .int 0, .int 0, .int 0, .int 0, .int 0, .int 0, .int 0, .int 0, .int 0, .int 0, .int 0, .int 0, .null, .null])) := wd_us _ _ _
  refine lv_aload_n hx hb d_I_init_19 rfl (lv_at hl 0 rfl) ?_
  refine lv_iload hx hb d_I_init_20 (lv_at hl 4 rfl) ?_
  refine wd_putF C h kc_I h_3 3 (by decide) lk_I_21 rfl hname rfl (by rfl) (by rfl) (Nat.le_of_ble_eq_true rfl) d_I_init_22 (fun H locs h => ?_)
  rw [wd_uu] at h
  have h : wd_C D T A s H locs (wd_up σ a (.inr (1, [.int kd, .int w, .int z, .int sd, .int 0, .int 0, .int 0, .int 0, .int 0, .int 0, .int 0, .int 0, .int 0, .int 0, .int 0, .null, .null]))) := h
  have h_4 : (wd_up σ a (.inr (1, [.int kd, .int w, .int z, .int sd, .int 0, .int 0, .int 0, .int 0, .int 0, .int 0, .int 0, .int 0, .int 0, .int 0, .int 0, .null, .null]))) a = some (.inr (1, [.int kd, .int w, .int z, .int sd, .int 0, .int 0, .int 0, .int 0, .int 0, .int 0, .int 0, .int 0, .int 0, .int 0, .int 0, .null, .null])) := wd_us _ _ _
  refine lv_aload_n hx hb d_I_init_25 rfl (lv_at hl 0 rfl) ?_
  refine lv_iconst (v := 0) hx hb d_I_init_26 (by decide) ?_
  refine wd_put C h kc_I h_4 4 (by decide) lk_I_24 rfl (by rfl) (by rfl) (Nat.le_of_ble_eq_true rfl) d_I_init_27 (fun H locs h => ?_)
  rw [wd_uu] at h
  have h : wd_C D T A s H locs (wd_up σ a (.inr (1, [.int kd, .int w, .int z, .int sd, .int 0, .int 0, .int 0, .int 0, .int 0, .int 0, .int 0, .int 0, .int 0, .int 0, .int 0, .null, .null]))) := h
  have h_5 : (wd_up σ a (.inr (1, [.int kd, .int w, .int z, .int sd, .int 0, .int 0, .int 0, .int 0, .int 0, .int 0, .int 0, .int 0, .int 0, .int 0, .int 0, .null, .null]))) a = some (.inr (1, [.int kd, .int w, .int z, .int sd, .int 0, .int 0, .int 0, .int 0, .int 0, .int 0, .int 0, .int 0, .int 0, .int 0, .int 0, .null, .null])) := wd_us _ _ _
  refine lv_aload_n hx hb d_I_init_30 rfl (lv_at hl 0 rfl) ?_
  refine lv_iconst (v := 0) hx hb d_I_init_31 (by decide) ?_
  refine wd_put C h kc_I h_5 5 (by decide) lk_I_27 rfl (by rfl) (by rfl) (Nat.le_of_ble_eq_true rfl) d_I_init_32 (fun H locs h => ?_)
  rw [wd_uu] at h
  have h : wd_C D T A s H locs (wd_up σ a (.inr (1, [.int kd, .int w, .int z, .int sd, .int 0, .int 0, .int 0, .int 0, .int 0, .int 0, .int 0, .int 0, .int 0, .int 0, .int 0, .null, .null]))) := h
  have h_6 : (wd_up σ a (.inr (1, [.int kd, .int w, .int z, .int sd, .int 0, .int 0, .int 0, .int 0, .int 0, .int 0, .int 0, .int 0, .int 0, .int 0, .int 0, .null, .null]))) a = some (.inr (1, [.int kd, .int w, .int z, .int sd, .int 0, .int 0, .int 0, .int 0, .int 0, .int 0, .int 0, .int 0, .int 0, .int 0, .int 0, .null, .null])) := wd_us _ _ _
  refine lv_aload_n hx hb d_I_init_35 rfl (lv_at hl 0 rfl) ?_
  refine lv_iconst (v := 0) hx hb d_I_init_36 (by decide) ?_
  refine wd_put C h kc_I h_6 6 (by decide) lk_I_30 rfl (by rfl) (by rfl) (Nat.le_of_ble_eq_true rfl) d_I_init_37 (fun H locs h => ?_)
  rw [wd_uu] at h
  have h : wd_C D T A s H locs (wd_up σ a (.inr (1, [.int kd, .int w, .int z, .int sd, .int 0, .int 0, .int 0, .int 0, .int 0, .int 0, .int 0, .int 0, .int 0, .int 0, .int 0, .null, .null]))) := h
  have h_7 : (wd_up σ a (.inr (1, [.int kd, .int w, .int z, .int sd, .int 0, .int 0, .int 0, .int 0, .int 0, .int 0, .int 0, .int 0, .int 0, .int 0, .int 0, .null, .null]))) a = some (.inr (1, [.int kd, .int w, .int z, .int sd, .int 0, .int 0, .int 0, .int 0, .int 0, .int 0, .int 0, .int 0, .int 0, .int 0, .int 0, .null, .null])) := wd_us _ _ _
  refine lv_aload_n hx hb d_I_init_40 rfl (lv_at hl 0 rfl) ?_
  refine lv_iconst (v := (-1)) hx hb d_I_init_41 (by decide) ?_
  refine wd_put C h kc_I h_7 7 (by decide) lk_I_34 rfl (by rfl) (by rfl) (Nat.le_of_ble_eq_true rfl) d_I_init_42 (fun H locs h => ?_)
  rw [wd_uu] at h
  have h : wd_C D T A s H locs (wd_up σ a (.inr (1, [.int kd, .int w, .int z, .int sd, .int 0, .int 0, .int 0, .int (-1), .int 0, .int 0, .int 0, .int 0, .int 0, .int 0, .int 0, .null, .null]))) := h
  have h_8 : (wd_up σ a (.inr (1, [.int kd, .int w, .int z, .int sd, .int 0, .int 0, .int 0, .int (-1), .int 0, .int 0, .int 0, .int 0, .int 0, .int 0, .int 0, .null, .null]))) a = some (.inr (1, [.int kd, .int w, .int z, .int sd, .int 0, .int 0, .int 0, .int (-1), .int 0, .int 0, .int 0, .int 0, .int 0, .int 0, .int 0, .null, .null])) := wd_us _ _ _
  refine lv_aload_n hx hb d_I_init_45 rfl (lv_at hl 0 rfl) ?_
  refine lv_iconst (v := (-1)) hx hb d_I_init_46 (by decide) ?_
  refine wd_put C h kc_I h_8 8 (by decide) lk_I_37 rfl (by rfl) (by rfl) (Nat.le_of_ble_eq_true rfl) d_I_init_47 (fun H locs h => ?_)
  rw [wd_uu] at h
  have h : wd_C D T A s H locs (wd_up σ a (.inr (1, [.int kd, .int w, .int z, .int sd, .int 0, .int 0, .int 0, .int (-1), .int (-1), .int 0, .int 0, .int 0, .int 0, .int 0, .int 0, .null, .null]))) := h
  have h_9 : (wd_up σ a (.inr (1, [.int kd, .int w, .int z, .int sd, .int 0, .int 0, .int 0, .int (-1), .int (-1), .int 0, .int 0, .int 0, .int 0, .int 0, .int 0, .null, .null]))) a = some (.inr (1, [.int kd, .int w, .int z, .int sd, .int 0, .int 0, .int 0, .int (-1), .int (-1), .int 0, .int 0, .int 0, .int 0, .int 0, .int 0, .null, .null])) := wd_us _ _ _
  refine lv_aload_n hx hb d_I_init_50 rfl (lv_at hl 0 rfl) ?_
  refine lv_iconst (v := 0) hx hb d_I_init_51 (by decide) ?_
  refine wd_put C h kc_I h_9 9 (by decide) lk_I_40 rfl (by rfl) (by rfl) (Nat.le_of_ble_eq_true rfl) d_I_init_52 (fun H locs h => ?_)
  rw [wd_uu] at h
  have h : wd_C D T A s H locs (wd_up σ a (.inr (1, [.int kd, .int w, .int z, .int sd, .int 0, .int 0, .int 0, .int (-1), .int (-1), .int 0, .int 0, .int 0, .int 0, .int 0, .int 0, .null, .null]))) := h
  have h_10 : (wd_up σ a (.inr (1, [.int kd, .int w, .int z, .int sd, .int 0, .int 0, .int 0, .int (-1), .int (-1), .int 0, .int 0, .int 0, .int 0, .int 0, .int 0, .null, .null]))) a = some (.inr (1, [.int kd, .int w, .int z, .int sd, .int 0, .int 0, .int 0, .int (-1), .int (-1), .int 0, .int 0, .int 0, .int 0, .int 0, .int 0, .null, .null])) := wd_us _ _ _
  refine lv_aload_n hx hb d_I_init_55 rfl (lv_at hl 0 rfl) ?_
  refine lv_iconst (v := 0) hx hb d_I_init_56 (by decide) ?_
  refine wd_put C h kc_I h_10 10 (by decide) lk_I_43 rfl (by rfl) (by rfl) (Nat.le_of_ble_eq_true rfl) d_I_init_57 (fun H locs h => ?_)
  rw [wd_uu] at h
  have h : wd_C D T A s H locs (wd_up σ a (.inr (1, [.int kd, .int w, .int z, .int sd, .int 0, .int 0, .int 0, .int (-1), .int (-1), .int 0, .int 0, .int 0, .int 0, .int 0, .int 0, .null, .null]))) := h
  have h_11 : (wd_up σ a (.inr (1, [.int kd, .int w, .int z, .int sd, .int 0, .int 0, .int 0, .int (-1), .int (-1), .int 0, .int 0, .int 0, .int 0, .int 0, .int 0, .null, .null]))) a = some (.inr (1, [.int kd, .int w, .int z, .int sd, .int 0, .int 0, .int 0, .int (-1), .int (-1), .int 0, .int 0, .int 0, .int 0, .int 0, .int 0, .null, .null])) := wd_us _ _ _
  refine lv_aload_n hx hb d_I_init_60 rfl (lv_at hl 0 rfl) ?_
  refine lv_iconst (v := 0) hx hb d_I_init_61 (by decide) ?_
  refine wd_put C h kc_I h_11 11 (by decide) lk_I_46 rfl (by rfl) (by rfl) (Nat.le_of_ble_eq_true rfl) d_I_init_62 (fun H locs h => ?_)
  rw [wd_uu] at h
  have h : wd_C D T A s H locs (wd_up σ a (.inr (1, [.int kd, .int w, .int z, .int sd, .int 0, .int 0, .int 0, .int (-1), .int (-1), .int 0, .int 0, .int 0, .int 0, .int 0, .int 0, .null, .null]))) := h
  have h_12 : (wd_up σ a (.inr (1, [.int kd, .int w, .int z, .int sd, .int 0, .int 0, .int 0, .int (-1), .int (-1), .int 0, .int 0, .int 0, .int 0, .int 0, .int 0, .null, .null]))) a = some (.inr (1, [.int kd, .int w, .int z, .int sd, .int 0, .int 0, .int 0, .int (-1), .int (-1), .int 0, .int 0, .int 0, .int 0, .int 0, .int 0, .null, .null])) := wd_us _ _ _
  refine lv_aload_n hx hb d_I_init_65 rfl (lv_at hl 0 rfl) ?_
  refine lv_iconst (v := 0) hx hb d_I_init_66 (by decide) ?_
  refine wd_put C h kc_I h_12 12 (by decide) lk_I_49 rfl (by rfl) (by rfl) (Nat.le_of_ble_eq_true rfl) d_I_init_67 (fun H locs h => ?_)
  rw [wd_uu] at h
  have h : wd_C D T A s H locs (wd_up σ a (.inr (1, [.int kd, .int w, .int z, .int sd, .int 0, .int 0, .int 0, .int (-1), .int (-1), .int 0, .int 0, .int 0, .int 0, .int 0, .int 0, .null, .null]))) := h
  have h_13 : (wd_up σ a (.inr (1, [.int kd, .int w, .int z, .int sd, .int 0, .int 0, .int 0, .int (-1), .int (-1), .int 0, .int 0, .int 0, .int 0, .int 0, .int 0, .null, .null]))) a = some (.inr (1, [.int kd, .int w, .int z, .int sd, .int 0, .int 0, .int 0, .int (-1), .int (-1), .int 0, .int 0, .int 0, .int 0, .int 0, .int 0, .null, .null])) := wd_us _ _ _
  refine lv_aload_n hx hb d_I_init_70 rfl (lv_at hl 0 rfl) ?_
  refine lv_iconst (v := (-1)) hx hb d_I_init_71 (by decide) ?_
  refine wd_put C h kc_I h_13 13 (by decide) lk_I_52 rfl (by rfl) (by rfl) (Nat.le_of_ble_eq_true rfl) d_I_init_72 (fun H locs h => ?_)
  rw [wd_uu] at h
  have h : wd_C D T A s H locs (wd_up σ a (.inr (1, [.int kd, .int w, .int z, .int sd, .int 0, .int 0, .int 0, .int (-1), .int (-1), .int 0, .int 0, .int 0, .int 0, .int (-1), .int 0, .null, .null]))) := h
  have h_14 : (wd_up σ a (.inr (1, [.int kd, .int w, .int z, .int sd, .int 0, .int 0, .int 0, .int (-1), .int (-1), .int 0, .int 0, .int 0, .int 0, .int (-1), .int 0, .null, .null]))) a = some (.inr (1, [.int kd, .int w, .int z, .int sd, .int 0, .int 0, .int 0, .int (-1), .int (-1), .int 0, .int 0, .int 0, .int 0, .int (-1), .int 0, .null, .null])) := wd_us _ _ _
  refine lv_aload_n hx hb d_I_init_75 rfl (lv_at hl 0 rfl) ?_
  refine lv_iconst (v := 0) hx hb d_I_init_76 (by decide) ?_
  refine wd_put C h kc_I h_14 14 (by decide) lk_I_55 rfl (by rfl) (by rfl) (Nat.le_of_ble_eq_true rfl) d_I_init_77 (fun H locs h => ?_)
  rw [wd_uu] at h
  have h : wd_C D T A s H locs (wd_up σ a (.inr (1, [.int kd, .int w, .int z, .int sd, .int 0, .int 0, .int 0, .int (-1), .int (-1), .int 0, .int 0, .int 0, .int 0, .int (-1), .int 0, .null, .null]))) := h
  have h_15 : (wd_up σ a (.inr (1, [.int kd, .int w, .int z, .int sd, .int 0, .int 0, .int 0, .int (-1), .int (-1), .int 0, .int 0, .int 0, .int 0, .int (-1), .int 0, .null, .null]))) a = some (.inr (1, [.int kd, .int w, .int z, .int sd, .int 0, .int 0, .int 0, .int (-1), .int (-1), .int 0, .int 0, .int 0, .int 0, .int (-1), .int 0, .null, .null])) := wd_us _ _ _
  refine lv_aload_n hx hb d_I_init_80 rfl (lv_at hl 0 rfl) ?_
  refine lv_iconst (v := 4) hx hb d_I_init_81 (by decide) ?_
  refine wd_newi C h 0 rfl wa_int 4 4 (by decide) (by decide) (by decide) (Nat.le_of_ble_eq_true rfl) (Nat.le_of_ble_eq_true rfl) d_I_init_82 (fun q_16 H hq_17 h => ?_)
  have ne_20 : a ≠ q_16 := wd_nn h_15 hq_17
  have h_19 : (wd_up (wd_up σ a (.inr (1, [.int kd, .int w, .int z, .int sd, .int 0, .int 0, .int 0, .int (-1), .int (-1), .int 0, .int 0, .int 0, .int 0, .int (-1), .int 0, .null, .null]))) q_16 (.inl (T 0, 4, .inl (fun _ => 0)))) a = some (.inr (1, [.int kd, .int w, .int z, .int sd, .int 0, .int 0, .int 0, .int (-1), .int (-1), .int 0, .int 0, .int 0, .int 0, .int (-1), .int 0, .null, .null])) := wd_uk h_15 ne_20
  have h_18 : (wd_up (wd_up σ a (.inr (1, [.int kd, .int w, .int z, .int sd, .int 0, .int 0, .int 0, .int (-1), .int (-1), .int 0, .int 0, .int 0, .int 0, .int (-1), .int 0, .null, .null]))) q_16 (.inl (T 0, 4, .inl (fun _ => 0)))) q_16 = some (.inl (T 0, 4, .inl (fun _ => 0))) := wd_us _ _ _
  refine wd_putF C h kc_I h_19 15 (by decide) lk_I_58 rfl hname rfl (by rfl) (by rfl) (Nat.le_of_ble_eq_true rfl) d_I_init_84 (fun H locs h => ?_)
  have h : wd_C D T A s H locs (wd_up (wd_up (wd_up σ a (.inr (1, [.int kd, .int w, .int z, .int sd, .int 0, .int 0, .int 0, .int (-1), .int (-1), .int 0, .int 0, .int 0, .int 0, .int (-1), .int 0, .null, .null]))) q_16 (.inl (T 0, 4, .inl (fun _ => 0)))) a (.inr (1, [.int kd, .int w, .int z, .int sd, .int 0, .int 0, .int 0, .int (-1), .int (-1), .int 0, .int 0, .int 0, .int 0, .int (-1), .int 0, .ref q_16, .null]))) := h
  have h_21 : (wd_up (wd_up (wd_up σ a (.inr (1, [.int kd, .int w, .int z, .int sd, .int 0, .int 0, .int 0, .int (-1), .int (-1), .int 0, .int 0, .int 0, .int 0, .int (-1), .int 0, .null, .null]))) q_16 (.inl (T 0, 4, .inl (fun _ => 0)))) a (.inr (1, [.int kd, .int w, .int z, .int sd, .int 0, .int 0, .int 0, .int (-1), .int (-1), .int 0, .int 0, .int 0, .int 0, .int (-1), .int 0, .ref q_16, .null]))) a = some (.inr (1, [.int kd, .int w, .int z, .int sd, .int 0, .int 0, .int 0, .int (-1), .int (-1), .int 0, .int 0, .int 0, .int 0, .int (-1), .int 0, .ref q_16, .null])) := wd_us _ _ _
  have h_22 : (wd_up (wd_up (wd_up σ a (.inr (1, [.int kd, .int w, .int z, .int sd, .int 0, .int 0, .int 0, .int (-1), .int (-1), .int 0, .int 0, .int 0, .int 0, .int (-1), .int 0, .null, .null]))) q_16 (.inl (T 0, 4, .inl (fun _ => 0)))) a (.inr (1, [.int kd, .int w, .int z, .int sd, .int 0, .int 0, .int 0, .int (-1), .int (-1), .int 0, .int 0, .int 0, .int 0, .int (-1), .int 0, .ref q_16, .null]))) q_16 = some (.inl (T 0, 4, .inl (fun _ => 0))) := wd_uk h_18 (Ne.symm ne_20)
  refine lv_aload_n hx hb d_I_init_87 rfl (lv_at hl 0 rfl) ?_
  refine lv_iconst (v := 4) hx hb d_I_init_88 (by decide) ?_
  refine wd_newi C h 0 rfl wa_int 4 4 (by decide) (by decide) (by decide) (Nat.le_of_ble_eq_true rfl) (Nat.le_of_ble_eq_true rfl) d_I_init_89 (fun q_23 H hq_24 h => ?_)
  have ne_27 : a ≠ q_23 := wd_nn h_21 hq_24
  have h_26 : (wd_up (wd_up (wd_up (wd_up σ a (.inr (1, [.int kd, .int w, .int z, .int sd, .int 0, .int 0, .int 0, .int (-1), .int (-1), .int 0, .int 0, .int 0, .int 0, .int (-1), .int 0, .null, .null]))) q_16 (.inl (T 0, 4, .inl (fun _ => 0)))) a (.inr (1, [.int kd, .int w, .int z, .int sd, .int 0, .int 0, .int 0, .int (-1), .int (-1), .int 0, .int 0, .int 0, .int 0, .int (-1), .int 0, .ref q_16, .null]))) q_23 (.inl (T 0, 4, .inl (fun _ => 0)))) a = some (.inr (1, [.int kd, .int w, .int z, .int sd, .int 0, .int 0, .int 0, .int (-1), .int (-1), .int 0, .int 0, .int 0, .int 0, .int (-1), .int 0, .ref q_16, .null])) := wd_uk h_21 ne_27
  have ne_29 : q_16 ≠ q_23 := wd_nn h_22 hq_24
  have h_28 : (wd_up (wd_up (wd_up (wd_up σ a (.inr (1, [.int kd, .int w, .int z, .int sd, .int 0, .int 0, .int 0, .int (-1), .int (-1), .int 0, .int 0, .int 0, .int 0, .int (-1), .int 0, .null, .null]))) q_16 (.inl (T 0, 4, .inl (fun _ => 0)))) a (.inr (1, [.int kd, .int w, .int z, .int sd, .int 0, .int 0, .int 0, .int (-1), .int (-1), .int 0, .int 0, .int 0, .int 0, .int (-1), .int 0, .ref q_16, .null]))) q_23 (.inl (T 0, 4, .inl (fun _ => 0)))) q_16 = some (.inl (T 0, 4, .inl (fun _ => 0))) := wd_uk h_22 ne_29
  have h_25 : (wd_up (wd_up (wd_up (wd_up σ a (.inr (1, [.int kd, .int w, .int z, .int sd, .int 0, .int 0, .int 0, .int (-1), .int (-1), .int 0, .int 0, .int 0, .int 0, .int (-1), .int 0, .null, .null]))) q_16 (.inl (T 0, 4, .inl (fun _ => 0)))) a (.inr (1, [.int kd, .int w, .int z, .int sd, .int 0, .int 0, .int 0, .int (-1), .int (-1), .int 0, .int 0, .int 0, .int 0, .int (-1), .int 0, .ref q_16, .null]))) q_23 (.inl (T 0, 4, .inl (fun _ => 0)))) q_23 = some (.inl (T 0, 4, .inl (fun _ => 0))) := wd_us _ _ _
  refine wd_putF C h kc_I h_26 16 (by decide) lk_I_62 rfl hname rfl (by rfl) (by rfl) (Nat.le_of_ble_eq_true rfl) d_I_init_91 (fun H locs h => ?_)
  have h : wd_C D T A s H locs (wd_up (wd_up (wd_up (wd_up (wd_up σ a (.inr (1, [.int kd, .int w, .int z, .int sd, .int 0, .int 0, .int 0, .int (-1), .int (-1), .int 0, .int 0, .int 0, .int 0, .int (-1), .int 0, .null, .null]))) q_16 (.inl (T 0, 4, .inl (fun _ => 0)))) a (.inr (1, [.int kd, .int w, .int z, .int sd, .int 0, .int 0, .int 0, .int (-1), .int (-1), .int 0, .int 0, .int 0, .int 0, .int (-1), .int 0, .ref q_16, .null]))) q_23 (.inl (T 0, 4, .inl (fun _ => 0)))) a (.inr (1, [.int kd, .int w, .int z, .int sd, .int 0, .int 0, .int 0, .int (-1), .int (-1), .int 0, .int 0, .int 0, .int 0, .int (-1), .int 0, .ref q_16, .ref q_23]))) := h
  have h_30 : (wd_up (wd_up (wd_up (wd_up (wd_up σ a (.inr (1, [.int kd, .int w, .int z, .int sd, .int 0, .int 0, .int 0, .int (-1), .int (-1), .int 0, .int 0, .int 0, .int 0, .int (-1), .int 0, .null, .null]))) q_16 (.inl (T 0, 4, .inl (fun _ => 0)))) a (.inr (1, [.int kd, .int w, .int z, .int sd, .int 0, .int 0, .int 0, .int (-1), .int (-1), .int 0, .int 0, .int 0, .int 0, .int (-1), .int 0, .ref q_16, .null]))) q_23 (.inl (T 0, 4, .inl (fun _ => 0)))) a (.inr (1, [.int kd, .int w, .int z, .int sd, .int 0, .int 0, .int 0, .int (-1), .int (-1), .int 0, .int 0, .int 0, .int 0, .int (-1), .int 0, .ref q_16, .ref q_23]))) a = some (.inr (1, [.int kd, .int w, .int z, .int sd, .int 0, .int 0, .int 0, .int (-1), .int (-1), .int 0, .int 0, .int 0, .int 0, .int (-1), .int 0, .ref q_16, .ref q_23])) := wd_us _ _ _
  have h_31 : (wd_up (wd_up (wd_up (wd_up (wd_up σ a (.inr (1, [.int kd, .int w, .int z, .int sd, .int 0, .int 0, .int 0, .int (-1), .int (-1), .int 0, .int 0, .int 0, .int 0, .int (-1), .int 0, .null, .null]))) q_16 (.inl (T 0, 4, .inl (fun _ => 0)))) a (.inr (1, [.int kd, .int w, .int z, .int sd, .int 0, .int 0, .int 0, .int (-1), .int (-1), .int 0, .int 0, .int 0, .int 0, .int (-1), .int 0, .ref q_16, .null]))) q_23 (.inl (T 0, 4, .inl (fun _ => 0)))) a (.inr (1, [.int kd, .int w, .int z, .int sd, .int 0, .int 0, .int 0, .int (-1), .int (-1), .int 0, .int 0, .int 0, .int 0, .int (-1), .int 0, .ref q_16, .ref q_23]))) q_16 = some (.inl (T 0, 4, .inl (fun _ => 0))) := wd_uk h_28 (Ne.symm ne_20)
  have h_32 : (wd_up (wd_up (wd_up (wd_up (wd_up σ a (.inr (1, [.int kd, .int w, .int z, .int sd, .int 0, .int 0, .int 0, .int (-1), .int (-1), .int 0, .int 0, .int 0, .int 0, .int (-1), .int 0, .null, .null]))) q_16 (.inl (T 0, 4, .inl (fun _ => 0)))) a (.inr (1, [.int kd, .int w, .int z, .int sd, .int 0, .int 0, .int 0, .int (-1), .int (-1), .int 0, .int 0, .int 0, .int 0, .int (-1), .int 0, .ref q_16, .null]))) q_23 (.inl (T 0, 4, .inl (fun _ => 0)))) a (.inr (1, [.int kd, .int w, .int z, .int sd, .int 0, .int 0, .int 0, .int (-1), .int (-1), .int 0, .int 0, .int 0, .int 0, .int (-1), .int 0, .ref q_16, .ref q_23]))) q_23 = some (.inl (T 0, 4, .inl (fun _ => 0))) := wd_uk h_25 (Ne.symm ne_27)
  exact wd_vret C hr hlocks h (⟨q_16, q_23, (wd_none hq_17).2, (wd_none (wd_none (wd_none hq_24).2).2).2, ne_29, h_31.trans (congrArg some (newr_w T kd w z sd)), h_32.trans (congrArg some (newr_c T kd w z sd)), h_30, fun b h1 h2 h3 => by rw [wd_un _ _ h1, wd_un _ _ h3, wd_un _ _ h1, wd_un _ _ h2, wd_un _ _ h1]⟩) (Nat.le_of_ble_eq_true rfl) (Nat.le_of_ble_eq_true rfl) d_I_init_94

set_option maxHeartbeats 4000000 in
set_option maxRecDepth 20000 in
theorem c_F_init (l : Launch) (D : va_G) (T : Nat → ClassId) (A : Nat → Prop) (σ : wd_S) (a : Nat) (ha : σ a = some (.inr (0, [.null, .int 0, .null, .int 0, .null, .null, .null, .null]))) : Met l y_F_init (Cond.code y_F_init b_F_init 1 none :: wd_tb) { frames := 2, cells := 7, slots := 435, locals := 32 } (va_Pc [.ref a] (wd_Pre D T A σ)) (va_Qv (fun σ1 => RX T σ1 a (0, fun _ _ => 0, 0, fun _ _ => 0, fun _ => 0, (fun _ => 0, 0))) (wd_B D A) A) 7 435 A := by
  refine wd_ofW (by decide) (Nat.le_of_ble_eq_true rfl) ?_
  intro p e s m below meth c0 ls C hr hlocks hname h hl
  have hl : lv_has ls 1 [(0, .ref a)] := hl
  have hx := C.1
  have hb := C.2.1
  refine lv_aload_n hx hb d_F_init_0 rfl (lv_at hl 0 rfl) ?_
  refine W.objInit hx hb C.2.2.2.1 (C.2.2.2.2 _ lk_F_1) (C.2.2.2.2 _ wm_obj) (C.2.2.2.2 _ wc_obj) rfl (by rw [C.2.2.1]; exact hl.1) rfl d_F_init_1 (Nat.le_of_ble_eq_true rfl) (Nat.le_of_ble_eq_true rfl) ?_
  refine W.eq (g2 := F0 m 4 ls []) rfl ?_
  refine lv_aload_n hx hb d_F_init_4 rfl (lv_at hl 0 rfl) ?_
  refine lv_bipush (v := 120) hx hb d_F_init_5 (by decide) ?_
  refine wd_newq C h 2 rfl lk_F_9 wa_I 120 120 (by decide) (by decide) (by decide) (Nat.le_of_ble_eq_true rfl) (Nat.le_of_ble_eq_true rfl) d_F_init_7 (fun q_1 H hq_2 h => ?_)
  have ne_5 : a ≠ q_1 := wd_nn ha hq_2
  have h_4 : (wd_up σ q_1 (.inl (T 2, 120, .inr (.inr (.inr (.inr (fun _ => none))))))) a = some (.inr (0, [.null, .int 0, .null, .int 0, .null, .null, .null, .null])) := wd_uk ha ne_5
  have h_3 : (wd_up σ q_1 (.inl (T 2, 120, .inr (.inr (.inr (.inr (fun _ => none))))))) q_1 = some (.inl (T 2, 120, .inr (.inr (.inr (.inr (fun _ => none)))))) := wd_us _ _ _
  refine wd_putF C h kc_F h_4 0 (by decide) lk_F_11 rfl hname rfl (by rfl) (by rfl) (Nat.le_of_ble_eq_true rfl) d_F_init_10 (fun H locs h => ?_)
  have h : wd_C D T A s H locs (wd_up (wd_up σ q_1 (.inl (T 2, 120, .inr (.inr (.inr (.inr (fun _ => none))))))) a (.inr (0, [.ref q_1, .int 0, .null, .int 0, .null, .null, .null, .null]))) := h
  have h_6 : (wd_up (wd_up σ q_1 (.inl (T 2, 120, .inr (.inr (.inr (.inr (fun _ => none))))))) a (.inr (0, [.ref q_1, .int 0, .null, .int 0, .null, .null, .null, .null]))) a = some (.inr (0, [.ref q_1, .int 0, .null, .int 0, .null, .null, .null, .null])) := wd_us _ _ _
  have h_7 : (wd_up (wd_up σ q_1 (.inl (T 2, 120, .inr (.inr (.inr (.inr (fun _ => none))))))) a (.inr (0, [.ref q_1, .int 0, .null, .int 0, .null, .null, .null, .null]))) q_1 = some (.inl (T 2, 120, .inr (.inr (.inr (.inr (fun _ => none)))))) := wd_uk h_3 (Ne.symm ne_5)
  refine lv_aload_n hx hb d_F_init_13 rfl (lv_at hl 0 rfl) ?_
  refine lv_iconst (v := 0) hx hb d_F_init_14 (by decide) ?_
  refine wd_put C h kc_F h_6 1 (by decide) lk_F_15 rfl (by rfl) (by rfl) (Nat.le_of_ble_eq_true rfl) d_F_init_15 (fun H locs h => ?_)
  rw [wd_uu] at h
  have h : wd_C D T A s H locs (wd_up (wd_up σ q_1 (.inl (T 2, 120, .inr (.inr (.inr (.inr (fun _ => none))))))) a (.inr (0, [.ref q_1, .int 0, .null, .int 0, .null, .null, .null, .null]))) := h
  have h_8 : (wd_up (wd_up σ q_1 (.inl (T 2, 120, .inr (.inr (.inr (.inr (fun _ => none))))))) a (.inr (0, [.ref q_1, .int 0, .null, .int 0, .null, .null, .null, .null]))) a = some (.inr (0, [.ref q_1, .int 0, .null, .int 0, .null, .null, .null, .null])) := wd_us _ _ _
  have h_9 : (wd_up (wd_up σ q_1 (.inl (T 2, 120, .inr (.inr (.inr (.inr (fun _ => none))))))) a (.inr (0, [.ref q_1, .int 0, .null, .int 0, .null, .null, .null, .null]))) q_1 = some (.inl (T 2, 120, .inr (.inr (.inr (.inr (fun _ => none)))))) := wd_uk h_3 (Ne.symm ne_5)
  refine lv_aload_n hx hb d_F_init_18 rfl (lv_at hl 0 rfl) ?_
  refine lv_sipush (v := 200) hx hb d_F_init_19 (by decide) ?_
  refine wd_newq C h 3 rfl lk_F_19 wa_C 200 200 (by decide) (by decide) (by decide) (Nat.le_of_ble_eq_true rfl) (Nat.le_of_ble_eq_true rfl) d_F_init_22 (fun q_10 H hq_11 h => ?_)
  have ne_14 : a ≠ q_10 := wd_nn h_8 hq_11
  have h_13 : (wd_up (wd_up (wd_up σ q_1 (.inl (T 2, 120, .inr (.inr (.inr (.inr (fun _ => none))))))) a (.inr (0, [.ref q_1, .int 0, .null, .int 0, .null, .null, .null, .null]))) q_10 (.inl (T 3, 200, .inr (.inr (.inr (.inr (fun _ => none))))))) a = some (.inr (0, [.ref q_1, .int 0, .null, .int 0, .null, .null, .null, .null])) := wd_uk h_8 ne_14
  have ne_16 : q_1 ≠ q_10 := wd_nn h_9 hq_11
  have h_15 : (wd_up (wd_up (wd_up σ q_1 (.inl (T 2, 120, .inr (.inr (.inr (.inr (fun _ => none))))))) a (.inr (0, [.ref q_1, .int 0, .null, .int 0, .null, .null, .null, .null]))) q_10 (.inl (T 3, 200, .inr (.inr (.inr (.inr (fun _ => none))))))) q_1 = some (.inl (T 2, 120, .inr (.inr (.inr (.inr (fun _ => none)))))) := wd_uk h_9 ne_16
  have h_12 : (wd_up (wd_up (wd_up σ q_1 (.inl (T 2, 120, .inr (.inr (.inr (.inr (fun _ => none))))))) a (.inr (0, [.ref q_1, .int 0, .null, .int 0, .null, .null, .null, .null]))) q_10 (.inl (T 3, 200, .inr (.inr (.inr (.inr (fun _ => none))))))) q_10 = some (.inl (T 3, 200, .inr (.inr (.inr (.inr (fun _ => none)))))) := wd_us _ _ _
  refine wd_putF C h kc_F h_13 2 (by decide) lk_F_21 rfl hname rfl (by rfl) (by rfl) (Nat.le_of_ble_eq_true rfl) d_F_init_25 (fun H locs h => ?_)
  have h : wd_C D T A s H locs (wd_up (wd_up (wd_up (wd_up σ q_1 (.inl (T 2, 120, .inr (.inr (.inr (.inr (fun _ => none))))))) a (.inr (0, [.ref q_1, .int 0, .null, .int 0, .null, .null, .null, .null]))) q_10 (.inl (T 3, 200, .inr (.inr (.inr (.inr (fun _ => none))))))) a (.inr (0, [.ref q_1, .int 0, .ref q_10, .int 0, .null, .null, .null, .null]))) := h
  have h_17 : (wd_up (wd_up (wd_up (wd_up σ q_1 (.inl (T 2, 120, .inr (.inr (.inr (.inr (fun _ => none))))))) a (.inr (0, [.ref q_1, .int 0, .null, .int 0, .null, .null, .null, .null]))) q_10 (.inl (T 3, 200, .inr (.inr (.inr (.inr (fun _ => none))))))) a (.inr (0, [.ref q_1, .int 0, .ref q_10, .int 0, .null, .null, .null, .null]))) a = some (.inr (0, [.ref q_1, .int 0, .ref q_10, .int 0, .null, .null, .null, .null])) := wd_us _ _ _
  have h_18 : (wd_up (wd_up (wd_up (wd_up σ q_1 (.inl (T 2, 120, .inr (.inr (.inr (.inr (fun _ => none))))))) a (.inr (0, [.ref q_1, .int 0, .null, .int 0, .null, .null, .null, .null]))) q_10 (.inl (T 3, 200, .inr (.inr (.inr (.inr (fun _ => none))))))) a (.inr (0, [.ref q_1, .int 0, .ref q_10, .int 0, .null, .null, .null, .null]))) q_1 = some (.inl (T 2, 120, .inr (.inr (.inr (.inr (fun _ => none)))))) := wd_uk h_15 (Ne.symm ne_5)
  have h_19 : (wd_up (wd_up (wd_up (wd_up σ q_1 (.inl (T 2, 120, .inr (.inr (.inr (.inr (fun _ => none))))))) a (.inr (0, [.ref q_1, .int 0, .null, .int 0, .null, .null, .null, .null]))) q_10 (.inl (T 3, 200, .inr (.inr (.inr (.inr (fun _ => none))))))) a (.inr (0, [.ref q_1, .int 0, .ref q_10, .int 0, .null, .null, .null, .null]))) q_10 = some (.inl (T 3, 200, .inr (.inr (.inr (.inr (fun _ => none)))))) := wd_uk h_12 (Ne.symm ne_14)
  refine lv_aload_n hx hb d_F_init_28 rfl (lv_at hl 0 rfl) ?_
  refine lv_iconst (v := 0) hx hb d_F_init_29 (by decide) ?_
  refine wd_put C h kc_F h_17 3 (by decide) lk_F_25 rfl (by rfl) (by rfl) (Nat.le_of_ble_eq_true rfl) d_F_init_30 (fun H locs h => ?_)
  rw [wd_uu] at h
  have h : wd_C D T A s H locs (wd_up (wd_up (wd_up (wd_up σ q_1 (.inl (T 2, 120, .inr (.inr (.inr (.inr (fun _ => none))))))) a (.inr (0, [.ref q_1, .int 0, .null, .int 0, .null, .null, .null, .null]))) q_10 (.inl (T 3, 200, .inr (.inr (.inr (.inr (fun _ => none))))))) a (.inr (0, [.ref q_1, .int 0, .ref q_10, .int 0, .null, .null, .null, .null]))) := h
  have h_20 : (wd_up (wd_up (wd_up (wd_up σ q_1 (.inl (T 2, 120, .inr (.inr (.inr (.inr (fun _ => none))))))) a (.inr (0, [.ref q_1, .int 0, .null, .int 0, .null, .null, .null, .null]))) q_10 (.inl (T 3, 200, .inr (.inr (.inr (.inr (fun _ => none))))))) a (.inr (0, [.ref q_1, .int 0, .ref q_10, .int 0, .null, .null, .null, .null]))) a = some (.inr (0, [.ref q_1, .int 0, .ref q_10, .int 0, .null, .null, .null, .null])) := wd_us _ _ _
  have h_21 : (wd_up (wd_up (wd_up (wd_up σ q_1 (.inl (T 2, 120, .inr (.inr (.inr (.inr (fun _ => none))))))) a (.inr (0, [.ref q_1, .int 0, .null, .int 0, .null, .null, .null, .null]))) q_10 (.inl (T 3, 200, .inr (.inr (.inr (.inr (fun _ => none))))))) a (.inr (0, [.ref q_1, .int 0, .ref q_10, .int 0, .null, .null, .null, .null]))) q_1 = some (.inl (T 2, 120, .inr (.inr (.inr (.inr (fun _ => none)))))) := wd_uk h_15 (Ne.symm ne_5)
  have h_22 : (wd_up (wd_up (wd_up (wd_up σ q_1 (.inl (T 2, 120, .inr (.inr (.inr (.inr (fun _ => none))))))) a (.inr (0, [.ref q_1, .int 0, .null, .int 0, .null, .null, .null, .null]))) q_10 (.inl (T 3, 200, .inr (.inr (.inr (.inr (fun _ => none))))))) a (.inr (0, [.ref q_1, .int 0, .ref q_10, .int 0, .null, .null, .null, .null]))) q_10 = some (.inl (T 3, 200, .inr (.inr (.inr (.inr (fun _ => none)))))) := wd_uk h_12 (Ne.symm ne_14)
  refine lv_aload_n hx hb d_F_init_33 rfl (lv_at hl 0 rfl) ?_
  refine lv_bipush (v := 31) hx hb d_F_init_34 (by decide) ?_
  refine wd_newi C h 0 rfl wa_int 31 31 (by decide) (by decide) (by decide) (Nat.le_of_ble_eq_true rfl) (Nat.le_of_ble_eq_true rfl) d_F_init_36 (fun q_23 H hq_24 h => ?_)
  have ne_27 : a ≠ q_23 := wd_nn h_20 hq_24
  have h_26 : (wd_up (wd_up (wd_up (wd_up (wd_up σ q_1 (.inl (T 2, 120, .inr (.inr (.inr (.inr (fun _ => none))))))) a (.inr (0, [.ref q_1, .int 0, .null, .int 0, .null, .null, .null, .null]))) q_10 (.inl (T 3, 200, .inr (.inr (.inr (.inr (fun _ => none))))))) a (.inr (0, [.ref q_1, .int 0, .ref q_10, .int 0, .null, .null, .null, .null]))) q_23 (.inl (T 0, 31, .inl (fun _ => 0)))) a = some (.inr (0, [.ref q_1, .int 0, .ref q_10, .int 0, .null, .null, .null, .null])) := wd_uk h_20 ne_27
  have ne_29 : q_1 ≠ q_23 := wd_nn h_21 hq_24
  have h_28 : (wd_up (wd_up (wd_up (wd_up (wd_up σ q_1 (.inl (T 2, 120, .inr (.inr (.inr (.inr (fun _ => none))))))) a (.inr (0, [.ref q_1, .int 0, .null, .int 0, .null, .null, .null, .null]))) q_10 (.inl (T 3, 200, .inr (.inr (.inr (.inr (fun _ => none))))))) a (.inr (0, [.ref q_1, .int 0, .ref q_10, .int 0, .null, .null, .null, .null]))) q_23 (.inl (T 0, 31, .inl (fun _ => 0)))) q_1 = some (.inl (T 2, 120, .inr (.inr (.inr (.inr (fun _ => none)))))) := wd_uk h_21 ne_29
  have ne_31 : q_10 ≠ q_23 := wd_nn h_22 hq_24
  have h_30 : (wd_up (wd_up (wd_up (wd_up (wd_up σ q_1 (.inl (T 2, 120, .inr (.inr (.inr (.inr (fun _ => none))))))) a (.inr (0, [.ref q_1, .int 0, .null, .int 0, .null, .null, .null, .null]))) q_10 (.inl (T 3, 200, .inr (.inr (.inr (.inr (fun _ => none))))))) a (.inr (0, [.ref q_1, .int 0, .ref q_10, .int 0, .null, .null, .null, .null]))) q_23 (.inl (T 0, 31, .inl (fun _ => 0)))) q_10 = some (.inl (T 3, 200, .inr (.inr (.inr (.inr (fun _ => none)))))) := wd_uk h_22 ne_31
  have h_25 : (wd_up (wd_up (wd_up (wd_up (wd_up σ q_1 (.inl (T 2, 120, .inr (.inr (.inr (.inr (fun _ => none))))))) a (.inr (0, [.ref q_1, .int 0, .null, .int 0, .null, .null, .null, .null]))) q_10 (.inl (T 3, 200, .inr (.inr (.inr (.inr (fun _ => none))))))) a (.inr (0, [.ref q_1, .int 0, .ref q_10, .int 0, .null, .null, .null, .null]))) q_23 (.inl (T 0, 31, .inl (fun _ => 0)))) q_23 = some (.inl (T 0, 31, .inl (fun _ => 0))) := wd_us _ _ _
  refine wd_putF C h kc_F h_26 4 (by decide) lk_F_28 rfl hname rfl (by rfl) (by rfl) (Nat.le_of_ble_eq_true rfl) d_F_init_38 (fun H locs h => ?_)
  have h : wd_C D T A s H locs (wd_up (wd_up (wd_up (wd_up (wd_up (wd_up σ q_1 (.inl (T 2, 120, .inr (.inr (.inr (.inr (fun _ => none))))))) a (.inr (0, [.ref q_1, .int 0, .null, .int 0, .null, .null, .null, .null]))) q_10 (.inl (T 3, 200, .inr (.inr (.inr (.inr (fun _ => none))))))) a (.inr (0, [.ref q_1, .int 0, .ref q_10, .int 0, .null, .null, .null, .null]))) q_23 (.inl (T 0, 31, .inl (fun _ => 0)))) a (.inr (0, [.ref q_1, .int 0, .ref q_10, .int 0, .ref q_23, .null, .null, .null]))) := h
  have h_32 : (wd_up (wd_up (wd_up (wd_up (wd_up (wd_up σ q_1 (.inl (T 2, 120, .inr (.inr (.inr (.inr (fun _ => none))))))) a (.inr (0, [.ref q_1, .int 0, .null, .int 0, .null, .null, .null, .null]))) q_10 (.inl (T 3, 200, .inr (.inr (.inr (.inr (fun _ => none))))))) a (.inr (0, [.ref q_1, .int 0, .ref q_10, .int 0, .null, .null, .null, .null]))) q_23 (.inl (T 0, 31, .inl (fun _ => 0)))) a (.inr (0, [.ref q_1, .int 0, .ref q_10, .int 0, .ref q_23, .null, .null, .null]))) a = some (.inr (0, [.ref q_1, .int 0, .ref q_10, .int 0, .ref q_23, .null, .null, .null])) := wd_us _ _ _
  have h_33 : (wd_up (wd_up (wd_up (wd_up (wd_up (wd_up σ q_1 (.inl (T 2, 120, .inr (.inr (.inr (.inr (fun _ => none))))))) a (.inr (0, [.ref q_1, .int 0, .null, .int 0, .null, .null, .null, .null]))) q_10 (.inl (T 3, 200, .inr (.inr (.inr (.inr (fun _ => none))))))) a (.inr (0, [.ref q_1, .int 0, .ref q_10, .int 0, .null, .null, .null, .null]))) q_23 (.inl (T 0, 31, .inl (fun _ => 0)))) a (.inr (0, [.ref q_1, .int 0, .ref q_10, .int 0, .ref q_23, .null, .null, .null]))) q_1 = some (.inl (T 2, 120, .inr (.inr (.inr (.inr (fun _ => none)))))) := wd_uk h_28 (Ne.symm ne_5)
  have h_34 : (wd_up (wd_up (wd_up (wd_up (wd_up (wd_up σ q_1 (.inl (T 2, 120, .inr (.inr (.inr (.inr (fun _ => none))))))) a (.inr (0, [.ref q_1, .int 0, .null, .int 0, .null, .null, .null, .null]))) q_10 (.inl (T 3, 200, .inr (.inr (.inr (.inr (fun _ => none))))))) a (.inr (0, [.ref q_1, .int 0, .ref q_10, .int 0, .null, .null, .null, .null]))) q_23 (.inl (T 0, 31, .inl (fun _ => 0)))) a (.inr (0, [.ref q_1, .int 0, .ref q_10, .int 0, .ref q_23, .null, .null, .null]))) q_10 = some (.inl (T 3, 200, .inr (.inr (.inr (.inr (fun _ => none)))))) := wd_uk h_30 (Ne.symm ne_14)
  have h_35 : (wd_up (wd_up (wd_up (wd_up (wd_up (wd_up σ q_1 (.inl (T 2, 120, .inr (.inr (.inr (.inr (fun _ => none))))))) a (.inr (0, [.ref q_1, .int 0, .null, .int 0, .null, .null, .null, .null]))) q_10 (.inl (T 3, 200, .inr (.inr (.inr (.inr (fun _ => none))))))) a (.inr (0, [.ref q_1, .int 0, .ref q_10, .int 0, .null, .null, .null, .null]))) q_23 (.inl (T 0, 31, .inl (fun _ => 0)))) a (.inr (0, [.ref q_1, .int 0, .ref q_10, .int 0, .ref q_23, .null, .null, .null]))) q_23 = some (.inl (T 0, 31, .inl (fun _ => 0))) := wd_uk h_25 (Ne.symm ne_27)
  refine lv_aload_n hx hb d_F_init_41 rfl (lv_at hl 0 rfl) ?_
  refine lv_bipush (v := 31) hx hb d_F_init_42 (by decide) ?_
  refine wd_newz C h 1 rfl wa_boolean 31 31 (by decide) (by decide) (by decide) (Nat.le_of_ble_eq_true rfl) (Nat.le_of_ble_eq_true rfl) d_F_init_44 (fun q_36 H hq_37 h => ?_)
  have ne_40 : a ≠ q_36 := wd_nn h_32 hq_37
  have h_39 : (wd_up (wd_up (wd_up (wd_up (wd_up (wd_up (wd_up σ q_1 (.inl (T 2, 120, .inr (.inr (.inr (.inr (fun _ => none))))))) a (.inr (0, [.ref q_1, .int 0, .null, .int 0, .null, .null, .null, .null]))) q_10 (.inl (T 3, 200, .inr (.inr (.inr (.inr (fun _ => none))))))) a (.inr (0, [.ref q_1, .int 0, .ref q_10, .int 0, .null, .null, .null, .null]))) q_23 (.inl (T 0, 31, .inl (fun _ => 0)))) a (.inr (0, [.ref q_1, .int 0, .ref q_10, .int 0, .ref q_23, .null, .null, .null]))) q_36 (.inl (T 1, 31, .inl (fun _ => 0)))) a = some (.inr (0, [.ref q_1, .int 0, .ref q_10, .int 0, .ref q_23, .null, .null, .null])) := wd_uk h_32 ne_40
  have ne_42 : q_1 ≠ q_36 := wd_nn h_33 hq_37
  have h_41 : (wd_up (wd_up (wd_up (wd_up (wd_up (wd_up (wd_up σ q_1 (.inl (T 2, 120, .inr (.inr (.inr (.inr (fun _ => none))))))) a (.inr (0, [.ref q_1, .int 0, .null, .int 0, .null, .null, .null, .null]))) q_10 (.inl (T 3, 200, .inr (.inr (.inr (.inr (fun _ => none))))))) a (.inr (0, [.ref q_1, .int 0, .ref q_10, .int 0, .null, .null, .null, .null]))) q_23 (.inl (T 0, 31, .inl (fun _ => 0)))) a (.inr (0, [.ref q_1, .int 0, .ref q_10, .int 0, .ref q_23, .null, .null, .null]))) q_36 (.inl (T 1, 31, .inl (fun _ => 0)))) q_1 = some (.inl (T 2, 120, .inr (.inr (.inr (.inr (fun _ => none)))))) := wd_uk h_33 ne_42
  have ne_44 : q_10 ≠ q_36 := wd_nn h_34 hq_37
  have h_43 : (wd_up (wd_up (wd_up (wd_up (wd_up (wd_up (wd_up σ q_1 (.inl (T 2, 120, .inr (.inr (.inr (.inr (fun _ => none))))))) a (.inr (0, [.ref q_1, .int 0, .null, .int 0, .null, .null, .null, .null]))) q_10 (.inl (T 3, 200, .inr (.inr (.inr (.inr (fun _ => none))))))) a (.inr (0, [.ref q_1, .int 0, .ref q_10, .int 0, .null, .null, .null, .null]))) q_23 (.inl (T 0, 31, .inl (fun _ => 0)))) a (.inr (0, [.ref q_1, .int 0, .ref q_10, .int 0, .ref q_23, .null, .null, .null]))) q_36 (.inl (T 1, 31, .inl (fun _ => 0)))) q_10 = some (.inl (T 3, 200, .inr (.inr (.inr (.inr (fun _ => none)))))) := wd_uk h_34 ne_44
  have ne_46 : q_23 ≠ q_36 := wd_nn h_35 hq_37
  have h_45 : (wd_up (wd_up (wd_up (wd_up (wd_up (wd_up (wd_up σ q_1 (.inl (T 2, 120, .inr (.inr (.inr (.inr (fun _ => none))))))) a (.inr (0, [.ref q_1, .int 0, .null, .int 0, .null, .null, .null, .null]))) q_10 (.inl (T 3, 200, .inr (.inr (.inr (.inr (fun _ => none))))))) a (.inr (0, [.ref q_1, .int 0, .ref q_10, .int 0, .null, .null, .null, .null]))) q_23 (.inl (T 0, 31, .inl (fun _ => 0)))) a (.inr (0, [.ref q_1, .int 0, .ref q_10, .int 0, .ref q_23, .null, .null, .null]))) q_36 (.inl (T 1, 31, .inl (fun _ => 0)))) q_23 = some (.inl (T 0, 31, .inl (fun _ => 0))) := wd_uk h_35 ne_46
  have h_38 : (wd_up (wd_up (wd_up (wd_up (wd_up (wd_up (wd_up σ q_1 (.inl (T 2, 120, .inr (.inr (.inr (.inr (fun _ => none))))))) a (.inr (0, [.ref q_1, .int 0, .null, .int 0, .null, .null, .null, .null]))) q_10 (.inl (T 3, 200, .inr (.inr (.inr (.inr (fun _ => none))))))) a (.inr (0, [.ref q_1, .int 0, .ref q_10, .int 0, .null, .null, .null, .null]))) q_23 (.inl (T 0, 31, .inl (fun _ => 0)))) a (.inr (0, [.ref q_1, .int 0, .ref q_10, .int 0, .ref q_23, .null, .null, .null]))) q_36 (.inl (T 1, 31, .inl (fun _ => 0)))) q_36 = some (.inl (T 1, 31, .inl (fun _ => 0))) := wd_us _ _ _
  refine wd_putF C h kc_F h_39 5 (by decide) lk_F_32 rfl hname rfl (by rfl) (by rfl) (Nat.le_of_ble_eq_true rfl) d_F_init_46 (fun H locs h => ?_)
  have h : wd_C D T A s H locs (wd_up (wd_up (wd_up (wd_up (wd_up (wd_up (wd_up (wd_up σ q_1 (.inl (T 2, 120, .inr (.inr (.inr (.inr (fun _ => none))))))) a (.inr (0, [.ref q_1, .int 0, .null, .int 0, .null, .null, .null, .null]))) q_10 (.inl (T 3, 200, .inr (.inr (.inr (.inr (fun _ => none))))))) a (.inr (0, [.ref q_1, .int 0, .ref q_10, .int 0, .null, .null, .null, .null]))) q_23 (.inl (T 0, 31, .inl (fun _ => 0)))) a (.inr (0, [.ref q_1, .int 0, .ref q_10, .int 0, .ref q_23, .null, .null, .null]))) q_36 (.inl (T 1, 31, .inl (fun _ => 0)))) a (.inr (0, [.ref q_1, .int 0, .ref q_10, .int 0, .ref q_23, .ref q_36, .null, .null]))) := h
  have h_47 : (wd_up (wd_up (wd_up (wd_up (wd_up (wd_up (wd_up (wd_up σ q_1 (.inl (T 2, 120, .inr (.inr (.inr (.inr (fun _ => none))))))) a (.inr (0, [.ref q_1, .int 0, .null, .int 0, .null, .null, .null, .null]))) q_10 (.inl (T 3, 200, .inr (.inr (.inr (.inr (fun _ => none))))))) a (.inr (0, [.ref q_1, .int 0, .ref q_10, .int 0, .null, .null, .null, .null]))) q_23 (.inl (T 0, 31, .inl (fun _ => 0)))) a (.inr (0, [.ref q_1, .int 0, .ref q_10, .int 0, .ref q_23, .null, .null, .null]))) q_36 (.inl (T 1, 31, .inl (fun _ => 0)))) a (.inr (0, [.ref q_1, .int 0, .ref q_10, .int 0, .ref q_23, .ref q_36, .null, .null]))) a = some (.inr (0, [.ref q_1, .int 0, .ref q_10, .int 0, .ref q_23, .ref q_36, .null, .null])) := wd_us _ _ _
  have h_48 : (wd_up (wd_up (wd_up (wd_up (wd_up (wd_up (wd_up (wd_up σ q_1 (.inl (T 2, 120, .inr (.inr (.inr (.inr (fun _ => none))))))) a (.inr (0, [.ref q_1, .int 0, .null, .int 0, .null, .null, .null, .null]))) q_10 (.inl (T 3, 200, .inr (.inr (.inr (.inr (fun _ => none))))))) a (.inr (0, [.ref q_1, .int 0, .ref q_10, .int 0, .null, .null, .null, .null]))) q_23 (.inl (T 0, 31, .inl (fun _ => 0)))) a (.inr (0, [.ref q_1, .int 0, .ref q_10, .int 0, .ref q_23, .null, .null, .null]))) q_36 (.inl (T 1, 31, .inl (fun _ => 0)))) a (.inr (0, [.ref q_1, .int 0, .ref q_10, .int 0, .ref q_23, .ref q_36, .null, .null]))) q_1 = some (.inl (T 2, 120, .inr (.inr (.inr (.inr (fun _ => none)))))) := wd_uk h_41 (Ne.symm ne_5)
  have h_49 : (wd_up (wd_up (wd_up (wd_up (wd_up (wd_up (wd_up (wd_up σ q_1 (.inl (T 2, 120, .inr (.inr (.inr (.inr (fun _ => none))))))) a (.inr (0, [.ref q_1, .int 0, .null, .int 0, .null, .null, .null, .null]))) q_10 (.inl (T 3, 200, .inr (.inr (.inr (.inr (fun _ => none))))))) a (.inr (0, [.ref q_1, .int 0, .ref q_10, .int 0, .null, .null, .null, .null]))) q_23 (.inl (T 0, 31, .inl (fun _ => 0)))) a (.inr (0, [.ref q_1, .int 0, .ref q_10, .int 0, .ref q_23, .null, .null, .null]))) q_36 (.inl (T 1, 31, .inl (fun _ => 0)))) a (.inr (0, [.ref q_1, .int 0, .ref q_10, .int 0, .ref q_23, .ref q_36, .null, .null]))) q_10 = some (.inl (T 3, 200, .inr (.inr (.inr (.inr (fun _ => none)))))) := wd_uk h_43 (Ne.symm ne_14)
  have h_50 : (wd_up (wd_up (wd_up (wd_up (wd_up (wd_up (wd_up (wd_up σ q_1 (.inl (T 2, 120, .inr (.inr (.inr (.inr (fun _ => none))))))) a (.inr (0, [.ref q_1, .int 0, .null, .int 0, .null, .null, .null, .null]))) q_10 (.inl (T 3, 200, .inr (.inr (.inr (.inr (fun _ => none))))))) a (.inr (0, [.ref q_1, .int 0, .ref q_10, .int 0, .null, .null, .null, .null]))) q_23 (.inl (T 0, 31, .inl (fun _ => 0)))) a (.inr (0, [.ref q_1, .int 0, .ref q_10, .int 0, .ref q_23, .null, .null, .null]))) q_36 (.inl (T 1, 31, .inl (fun _ => 0)))) a (.inr (0, [.ref q_1, .int 0, .ref q_10, .int 0, .ref q_23, .ref q_36, .null, .null]))) q_23 = some (.inl (T 0, 31, .inl (fun _ => 0))) := wd_uk h_45 (Ne.symm ne_27)
  have h_51 : (wd_up (wd_up (wd_up (wd_up (wd_up (wd_up (wd_up (wd_up σ q_1 (.inl (T 2, 120, .inr (.inr (.inr (.inr (fun _ => none))))))) a (.inr (0, [.ref q_1, .int 0, .null, .int 0, .null, .null, .null, .null]))) q_10 (.inl (T 3, 200, .inr (.inr (.inr (.inr (fun _ => none))))))) a (.inr (0, [.ref q_1, .int 0, .ref q_10, .int 0, .null, .null, .null, .null]))) q_23 (.inl (T 0, 31, .inl (fun _ => 0)))) a (.inr (0, [.ref q_1, .int 0, .ref q_10, .int 0, .ref q_23, .null, .null, .null]))) q_36 (.inl (T 1, 31, .inl (fun _ => 0)))) a (.inr (0, [.ref q_1, .int 0, .ref q_10, .int 0, .ref q_23, .ref q_36, .null, .null]))) q_36 = some (.inl (T 1, 31, .inl (fun _ => 0))) := wd_uk h_38 (Ne.symm ne_40)
  refine lv_aload_n hx hb d_F_init_49 rfl (lv_at hl 0 rfl) ?_
  refine lv_bipush (v := 21) hx hb d_F_init_50 (by decide) ?_
  refine wd_newi C h 0 rfl wa_int 21 21 (by decide) (by decide) (by decide) (Nat.le_of_ble_eq_true rfl) (Nat.le_of_ble_eq_true rfl) d_F_init_52 (fun q_52 H hq_53 h => ?_)
  have ne_56 : a ≠ q_52 := wd_nn h_47 hq_53
  have h_55 : (wd_up (wd_up (wd_up (wd_up (wd_up (wd_up (wd_up (wd_up (wd_up σ q_1 (.inl (T 2, 120, .inr (.inr (.inr (.inr (fun _ => none))))))) a (.inr (0, [.ref q_1, .int 0, .null, .int 0, .null, .null, .null, .null]))) q_10 (.inl (T 3, 200, .inr (.inr (.inr (.inr (fun _ => none))))))) a (.inr (0, [.ref q_1, .int 0, .ref q_10, .int 0, .null, .null, .null, .null]))) q_23 (.inl (T 0, 31, .inl (fun _ => 0)))) a (.inr (0, [.ref q_1, .int 0, .ref q_10, .int 0, .ref q_23, .null, .null, .null]))) q_36 (.inl (T 1, 31, .inl (fun _ => 0)))) a (.inr (0, [.ref q_1, .int 0, .ref q_10, .int 0, .ref q_23, .ref q_36, .null, .null]))) q_52 (.inl (T 0, 21, .inl (fun _ => 0)))) a = some (.inr (0, [.ref q_1, .int 0, .ref q_10, .int 0, .ref q_23, .ref q_36, .null, .null])) := wd_uk h_47 ne_56
  have ne_58 : q_1 ≠ q_52 := wd_nn h_48 hq_53
  have h_57 : (wd_up (wd_up (wd_up (wd_up (wd_up (wd_up (wd_up (wd_up (wd_up σ q_1 (.inl (T 2, 120, .inr (.inr (.inr (.inr (fun _ => none))))))) a (.inr (0, [.ref q_1, .int 0, .null, .int 0, .null, .null, .null, .null]))) q_10 (.inl (T 3, 200, .inr (.inr (.inr (.inr (fun _ => none))))))) a (.inr (0, [.ref q_1, .int 0, .ref q_10, .int 0, .null, .null, .null, .null]))) q_23 (.inl (T 0, 31, .inl (fun _ => 0)))) a (.inr (0, [.ref q_1, .int 0, .ref q_10, .int 0, .ref q_23, .null, .null, .null]))) q_36 (.inl (T 1, 31, .inl (fun _ => 0)))) a (.inr (0, [.ref q_1, .int 0, .ref q_10, .int 0, .ref q_23, .ref q_36, .null, .null]))) q_52 (.inl (T 0, 21, .inl (fun _ => 0)))) q_1 = some (.inl (T 2, 120, .inr (.inr (.inr (.inr (fun _ => none)))))) := wd_uk h_48 ne_58
  have ne_60 : q_10 ≠ q_52 := wd_nn h_49 hq_53
  have h_59 : (wd_up (wd_up (wd_up (wd_up (wd_up (wd_up (wd_up (wd_up (wd_up σ q_1 (.inl (T 2, 120, .inr (.inr (.inr (.inr (fun _ => none))))))) a (.inr (0, [.ref q_1, .int 0, .null, .int 0, .null, .null, .null, .null]))) q_10 (.inl (T 3, 200, .inr (.inr (.inr (.inr (fun _ => none))))))) a (.inr (0, [.ref q_1, .int 0, .ref q_10, .int 0, .null, .null, .null, .null]))) q_23 (.inl (T 0, 31, .inl (fun _ => 0)))) a (.inr (0, [.ref q_1, .int 0, .ref q_10, .int 0, .ref q_23, .null, .null, .null]))) q_36 (.inl (T 1, 31, .inl (fun _ => 0)))) a (.inr (0, [.ref q_1, .int 0, .ref q_10, .int 0, .ref q_23, .ref q_36, .null, .null]))) q_52 (.inl (T 0, 21, .inl (fun _ => 0)))) q_10 = some (.inl (T 3, 200, .inr (.inr (.inr (.inr (fun _ => none)))))) := wd_uk h_49 ne_60
  have ne_62 : q_23 ≠ q_52 := wd_nn h_50 hq_53
  have h_61 : (wd_up (wd_up (wd_up (wd_up (wd_up (wd_up (wd_up (wd_up (wd_up σ q_1 (.inl (T 2, 120, .inr (.inr (.inr (.inr (fun _ => none))))))) a (.inr (0, [.ref q_1, .int 0, .null, .int 0, .null, .null, .null, .null]))) q_10 (.inl (T 3, 200, .inr (.inr (.inr (.inr (fun _ => none))))))) a (.inr (0, [.ref q_1, .int 0, .ref q_10, .int 0, .null, .null, .null, .null]))) q_23 (.inl (T 0, 31, .inl (fun _ => 0)))) a (.inr (0, [.ref q_1, .int 0, .ref q_10, .int 0, .ref q_23, .null, .null, .null]))) q_36 (.inl (T 1, 31, .inl (fun _ => 0)))) a (.inr (0, [.ref q_1, .int 0, .ref q_10, .int 0, .ref q_23, .ref q_36, .null, .null]))) q_52 (.inl (T 0, 21, .inl (fun _ => 0)))) q_23 = some (.inl (T 0, 31, .inl (fun _ => 0))) := wd_uk h_50 ne_62
  have ne_64 : q_36 ≠ q_52 := wd_nn h_51 hq_53
  have h_63 : (wd_up (wd_up (wd_up (wd_up (wd_up (wd_up (wd_up (wd_up (wd_up σ q_1 (.inl (T 2, 120, .inr (.inr (.inr (.inr (fun _ => none))))))) a (.inr (0, [.ref q_1, .int 0, .null, .int 0, .null, .null, .null, .null]))) q_10 (.inl (T 3, 200, .inr (.inr (.inr (.inr (fun _ => none))))))) a (.inr (0, [.ref q_1, .int 0, .ref q_10, .int 0, .null, .null, .null, .null]))) q_23 (.inl (T 0, 31, .inl (fun _ => 0)))) a (.inr (0, [.ref q_1, .int 0, .ref q_10, .int 0, .ref q_23, .null, .null, .null]))) q_36 (.inl (T 1, 31, .inl (fun _ => 0)))) a (.inr (0, [.ref q_1, .int 0, .ref q_10, .int 0, .ref q_23, .ref q_36, .null, .null]))) q_52 (.inl (T 0, 21, .inl (fun _ => 0)))) q_36 = some (.inl (T 1, 31, .inl (fun _ => 0))) := wd_uk h_51 ne_64
  have h_54 : (wd_up (wd_up (wd_up (wd_up (wd_up (wd_up (wd_up (wd_up (wd_up σ q_1 (.inl (T 2, 120, .inr (.inr (.inr (.inr (fun _ => none))))))) a (.inr (0, [.ref q_1, .int 0, .null, .int 0, .null, .null, .null, .null]))) q_10 (.inl (T 3, 200, .inr (.inr (.inr (.inr (fun _ => none))))))) a (.inr (0, [.ref q_1, .int 0, .ref q_10, .int 0, .null, .null, .null, .null]))) q_23 (.inl (T 0, 31, .inl (fun _ => 0)))) a (.inr (0, [.ref q_1, .int 0, .ref q_10, .int 0, .ref q_23, .null, .null, .null]))) q_36 (.inl (T 1, 31, .inl (fun _ => 0)))) a (.inr (0, [.ref q_1, .int 0, .ref q_10, .int 0, .ref q_23, .ref q_36, .null, .null]))) q_52 (.inl (T 0, 21, .inl (fun _ => 0)))) q_52 = some (.inl (T 0, 21, .inl (fun _ => 0))) := wd_us _ _ _
  refine wd_putF C h kc_F h_55 6 (by decide) lk_F_36 rfl hname rfl (by rfl) (by rfl) (Nat.le_of_ble_eq_true rfl) d_F_init_54 (fun H locs h => ?_)
  have h : wd_C D T A s H locs (wd_up (wd_up (wd_up (wd_up (wd_up (wd_up (wd_up (wd_up (wd_up (wd_up σ q_1 (.inl (T 2, 120, .inr (.inr (.inr (.inr (fun _ => none))))))) a (.inr (0, [.ref q_1, .int 0, .null, .int 0, .null, .null, .null, .null]))) q_10 (.inl (T 3, 200, .inr (.inr (.inr (.inr (fun _ => none))))))) a (.inr (0, [.ref q_1, .int 0, .ref q_10, .int 0, .null, .null, .null, .null]))) q_23 (.inl (T 0, 31, .inl (fun _ => 0)))) a (.inr (0, [.ref q_1, .int 0, .ref q_10, .int 0, .ref q_23, .null, .null, .null]))) q_36 (.inl (T 1, 31, .inl (fun _ => 0)))) a (.inr (0, [.ref q_1, .int 0, .ref q_10, .int 0, .ref q_23, .ref q_36, .null, .null]))) q_52 (.inl (T 0, 21, .inl (fun _ => 0)))) a (.inr (0, [.ref q_1, .int 0, .ref q_10, .int 0, .ref q_23, .ref q_36, .ref q_52, .null]))) := h
  have h_65 : (wd_up (wd_up (wd_up (wd_up (wd_up (wd_up (wd_up (wd_up (wd_up (wd_up σ q_1 (.inl (T 2, 120, .inr (.inr (.inr (.inr (fun _ => none))))))) a (.inr (0, [.ref q_1, .int 0, .null, .int 0, .null, .null, .null, .null]))) q_10 (.inl (T 3, 200, .inr (.inr (.inr (.inr (fun _ => none))))))) a (.inr (0, [.ref q_1, .int 0, .ref q_10, .int 0, .null, .null, .null, .null]))) q_23 (.inl (T 0, 31, .inl (fun _ => 0)))) a (.inr (0, [.ref q_1, .int 0, .ref q_10, .int 0, .ref q_23, .null, .null, .null]))) q_36 (.inl (T 1, 31, .inl (fun _ => 0)))) a (.inr (0, [.ref q_1, .int 0, .ref q_10, .int 0, .ref q_23, .ref q_36, .null, .null]))) q_52 (.inl (T 0, 21, .inl (fun _ => 0)))) a (.inr (0, [.ref q_1, .int 0, .ref q_10, .int 0, .ref q_23, .ref q_36, .ref q_52, .null]))) a = some (.inr (0, [.ref q_1, .int 0, .ref q_10, .int 0, .ref q_23, .ref q_36, .ref q_52, .null])) := wd_us _ _ _
  have h_66 : (wd_up (wd_up (wd_up (wd_up (wd_up (wd_up (wd_up (wd_up (wd_up (wd_up σ q_1 (.inl (T 2, 120, .inr (.inr (.inr (.inr (fun _ => none))))))) a (.inr (0, [.ref q_1, .int 0, .null, .int 0, .null, .null, .null, .null]))) q_10 (.inl (T 3, 200, .inr (.inr (.inr (.inr (fun _ => none))))))) a (.inr (0, [.ref q_1, .int 0, .ref q_10, .int 0, .null, .null, .null, .null]))) q_23 (.inl (T 0, 31, .inl (fun _ => 0)))) a (.inr (0, [.ref q_1, .int 0, .ref q_10, .int 0, .ref q_23, .null, .null, .null]))) q_36 (.inl (T 1, 31, .inl (fun _ => 0)))) a (.inr (0, [.ref q_1, .int 0, .ref q_10, .int 0, .ref q_23, .ref q_36, .null, .null]))) q_52 (.inl (T 0, 21, .inl (fun _ => 0)))) a (.inr (0, [.ref q_1, .int 0, .ref q_10, .int 0, .ref q_23, .ref q_36, .ref q_52, .null]))) q_1 = some (.inl (T 2, 120, .inr (.inr (.inr (.inr (fun _ => none)))))) := wd_uk h_57 (Ne.symm ne_5)
  have h_67 : (wd_up (wd_up (wd_up (wd_up (wd_up (wd_up (wd_up (wd_up (wd_up (wd_up σ q_1 (.inl (T 2, 120, .inr (.inr (.inr (.inr (fun _ => none))))))) a (.inr (0, [.ref q_1, .int 0, .null, .int 0, .null, .null, .null, .null]))) q_10 (.inl (T 3, 200, .inr (.inr (.inr (.inr (fun _ => none))))))) a (.inr (0, [.ref q_1, .int 0, .ref q_10, .int 0, .null, .null, .null, .null]))) q_23 (.inl (T 0, 31, .inl (fun _ => 0)))) a (.inr (0, [.ref q_1, .int 0, .ref q_10, .int 0, .ref q_23, .null, .null, .null]))) q_36 (.inl (T 1, 31, .inl (fun _ => 0)))) a (.inr (0, [.ref q_1, .int 0, .ref q_10, .int 0, .ref q_23, .ref q_36, .null, .null]))) q_52 (.inl (T 0, 21, .inl (fun _ => 0)))) a (.inr (0, [.ref q_1, .int 0, .ref q_10, .int 0, .ref q_23, .ref q_36, .ref q_52, .null]))) q_10 = some (.inl (T 3, 200, .inr (.inr (.inr (.inr (fun _ => none)))))) := wd_uk h_59 (Ne.symm ne_14)
  have h_68 : (wd_up (wd_up (wd_up (wd_up (wd_up (wd_up (wd_up (wd_up (wd_up (wd_up σ q_1 (.inl (T 2, 120, .inr (.inr (.inr (.inr (fun _ => none))))))) a (.inr (0, [.ref q_1, .int 0, .null, .int 0, .null, .null, .null, .null]))) q_10 (.inl (T 3, 200, .inr (.inr (.inr (.inr (fun _ => none))))))) a (.inr (0, [.ref q_1, .int 0, .ref q_10, .int 0, .null, .null, .null, .null]))) q_23 (.inl (T 0, 31, .inl (fun _ => 0)))) a (.inr (0, [.ref q_1, .int 0, .ref q_10, .int 0, .ref q_23, .null, .null, .null]))) q_36 (.inl (T 1, 31, .inl (fun _ => 0)))) a (.inr (0, [.ref q_1, .int 0, .ref q_10, .int 0, .ref q_23, .ref q_36, .null, .null]))) q_52 (.inl (T 0, 21, .inl (fun _ => 0)))) a (.inr (0, [.ref q_1, .int 0, .ref q_10, .int 0, .ref q_23, .ref q_36, .ref q_52, .null]))) q_23 = some (.inl (T 0, 31, .inl (fun _ => 0))) := wd_uk h_61 (Ne.symm ne_27)
  have h_69 : (wd_up (wd_up (wd_up (wd_up (wd_up (wd_up (wd_up (wd_up (wd_up (wd_up σ q_1 (.inl (T 2, 120, .inr (.inr (.inr (.inr (fun _ => none))))))) a (.inr (0, [.ref q_1, .int 0, .null, .int 0, .null, .null, .null, .null]))) q_10 (.inl (T 3, 200, .inr (.inr (.inr (.inr (fun _ => none))))))) a (.inr (0, [.ref q_1, .int 0, .ref q_10, .int 0, .null, .null, .null, .null]))) q_23 (.inl (T 0, 31, .inl (fun _ => 0)))) a (.inr (0, [.ref q_1, .int 0, .ref q_10, .int 0, .ref q_23, .null, .null, .null]))) q_36 (.inl (T 1, 31, .inl (fun _ => 0)))) a (.inr (0, [.ref q_1, .int 0, .ref q_10, .int 0, .ref q_23, .ref q_36, .null, .null]))) q_52 (.inl (T 0, 21, .inl (fun _ => 0)))) a (.inr (0, [.ref q_1, .int 0, .ref q_10, .int 0, .ref q_23, .ref q_36, .ref q_52, .null]))) q_36 = some (.inl (T 1, 31, .inl (fun _ => 0))) := wd_uk h_63 (Ne.symm ne_40)
  have h_70 : (wd_up (wd_up (wd_up (wd_up (wd_up (wd_up (wd_up (wd_up (wd_up (wd_up σ q_1 (.inl (T 2, 120, .inr (.inr (.inr (.inr (fun _ => none))))))) a (.inr (0, [.ref q_1, .int 0, .null, .int 0, .null, .null, .null, .null]))) q_10 (.inl (T 3, 200, .inr (.inr (.inr (.inr (fun _ => none))))))) a (.inr (0, [.ref q_1, .int 0, .ref q_10, .int 0, .null, .null, .null, .null]))) q_23 (.inl (T 0, 31, .inl (fun _ => 0)))) a (.inr (0, [.ref q_1, .int 0, .ref q_10, .int 0, .ref q_23, .null, .null, .null]))) q_36 (.inl (T 1, 31, .inl (fun _ => 0)))) a (.inr (0, [.ref q_1, .int 0, .ref q_10, .int 0, .ref q_23, .ref q_36, .null, .null]))) q_52 (.inl (T 0, 21, .inl (fun _ => 0)))) a (.inr (0, [.ref q_1, .int 0, .ref q_10, .int 0, .ref q_23, .ref q_36, .ref q_52, .null]))) q_52 = some (.inl (T 0, 21, .inl (fun _ => 0))) := wd_uk h_54 (Ne.symm ne_56)
  refine lv_aload_n hx hb d_F_init_57 rfl (lv_at hl 0 rfl) ?_
  refine wd_new (fs := [.null, .int 0]) C h kc_P lk_F_39 wn_P wi_P df_P (Nat.le_of_ble_eq_true rfl) (Nat.le_of_ble_eq_true rfl) d_F_init_58 (fun q_71 H hq_72 h => ?_)
  have ne_75 : a ≠ q_71 := wd_nn h_65 hq_72
  have h_74 : (wd_up (wd_up (wd_up (wd_up (wd_up (wd_up (wd_up (wd_up (wd_up (wd_up (wd_up σ q_1 (.inl (T 2, 120, .inr (.inr (.inr (.inr (fun _ => none))))))) a (.inr (0, [.ref q_1, .int 0, .null, .int 0, .null, .null, .null, .null]))) q_10 (.inl (T 3, 200, .inr (.inr (.inr (.inr (fun _ => none))))))) a (.inr (0, [.ref q_1, .int 0, .ref q_10, .int 0, .null, .null, .null, .null]))) q_23 (.inl (T 0, 31, .inl (fun _ => 0)))) a (.inr (0, [.ref q_1, .int 0, .ref q_10, .int 0, .ref q_23, .null, .null, .null]))) q_36 (.inl (T 1, 31, .inl (fun _ => 0)))) a (.inr (0, [.ref q_1, .int 0, .ref q_10, .int 0, .ref q_23, .ref q_36, .null, .null]))) q_52 (.inl (T 0, 21, .inl (fun _ => 0)))) a (.inr (0, [.ref q_1, .int 0, .ref q_10, .int 0, .ref q_23, .ref q_36, .ref q_52, .null]))) q_71 (.inr (3, [.null, .int 0]))) a = some (.inr (0, [.ref q_1, .int 0, .ref q_10, .int 0, .ref q_23, .ref q_36, .ref q_52, .null])) := wd_uk h_65 ne_75
  have ne_77 : q_1 ≠ q_71 := wd_nn h_66 hq_72
  have h_76 : (wd_up (wd_up (wd_up (wd_up (wd_up (wd_up (wd_up (wd_up (wd_up (wd_up (wd_up σ q_1 (.inl (T 2, 120, .inr (.inr (.inr (.inr (fun _ => none))))))) a (.inr (0, [.ref q_1, .int 0, .null, .int 0, .null, .null, .null, .null]))) q_10 (.inl (T 3, 200, .inr (.inr (.inr (.inr (fun _ => none))))))) a (.inr (0, [.ref q_1, .int 0, .ref q_10, .int 0, .null, .null, .null, .null]))) q_23 (.inl (T 0, 31, .inl (fun _ => 0)))) a (.inr (0, [.ref q_1, .int 0, .ref q_10, .int 0, .ref q_23, .null, .null, .null]))) q_36 (.inl (T 1, 31, .inl (fun _ => 0)))) a (.inr (0, [.ref q_1, .int 0, .ref q_10, .int 0, .ref q_23, .ref q_36, .null, .null]))) q_52 (.inl (T 0, 21, .inl (fun _ => 0)))) a (.inr (0, [.ref q_1, .int 0, .ref q_10, .int 0, .ref q_23, .ref q_36, .ref q_52, .null]))) q_71 (.inr (3, [.null, .int 0]))) q_1 = some (.inl (T 2, 120, .inr (.inr (.inr (.inr (fun _ => none)))))) := wd_uk h_66 ne_77
  have ne_79 : q_10 ≠ q_71 := wd_nn h_67 hq_72
  have h_78 : (wd_up (wd_up (wd_up (wd_up (wd_up (wd_up (wd_up (wd_up (wd_up (wd_up (wd_up σ q_1 (.inl (T 2, 120, .inr (.inr (.inr (.inr (fun _ => none))))))) a (.inr (0, [.ref q_1, .int 0, .null, .int 0, .null, .null, .null, .null]))) q_10 (.inl (T 3, 200, .inr (.inr (.inr (.inr (fun _ => none))))))) a (.inr (0, [.ref q_1, .int 0, .ref q_10, .int 0, .null, .null, .null, .null]))) q_23 (.inl (T 0, 31, .inl (fun _ => 0)))) a (.inr (0, [.ref q_1, .int 0, .ref q_10, .int 0, .ref q_23, .null, .null, .null]))) q_36 (.inl (T 1, 31, .inl (fun _ => 0)))) a (.inr (0, [.ref q_1, .int 0, .ref q_10, .int 0, .ref q_23, .ref q_36, .null, .null]))) q_52 (.inl (T 0, 21, .inl (fun _ => 0)))) a (.inr (0, [.ref q_1, .int 0, .ref q_10, .int 0, .ref q_23, .ref q_36, .ref q_52, .null]))) q_71 (.inr (3, [.null, .int 0]))) q_10 = some (.inl (T 3, 200, .inr (.inr (.inr (.inr (fun _ => none)))))) := wd_uk h_67 ne_79
  have ne_81 : q_23 ≠ q_71 := wd_nn h_68 hq_72
  have h_80 : (wd_up (wd_up (wd_up (wd_up (wd_up (wd_up (wd_up (wd_up (wd_up (wd_up (wd_up σ q_1 (.inl (T 2, 120, .inr (.inr (.inr (.inr (fun _ => none))))))) a (.inr (0, [.ref q_1, .int 0, .null, .int 0, .null, .null, .null, .null]))) q_10 (.inl (T 3, 200, .inr (.inr (.inr (.inr (fun _ => none))))))) a (.inr (0, [.ref q_1, .int 0, .ref q_10, .int 0, .null, .null, .null, .null]))) q_23 (.inl (T 0, 31, .inl (fun _ => 0)))) a (.inr (0, [.ref q_1, .int 0, .ref q_10, .int 0, .ref q_23, .null, .null, .null]))) q_36 (.inl (T 1, 31, .inl (fun _ => 0)))) a (.inr (0, [.ref q_1, .int 0, .ref q_10, .int 0, .ref q_23, .ref q_36, .null, .null]))) q_52 (.inl (T 0, 21, .inl (fun _ => 0)))) a (.inr (0, [.ref q_1, .int 0, .ref q_10, .int 0, .ref q_23, .ref q_36, .ref q_52, .null]))) q_71 (.inr (3, [.null, .int 0]))) q_23 = some (.inl (T 0, 31, .inl (fun _ => 0))) := wd_uk h_68 ne_81
  have ne_83 : q_36 ≠ q_71 := wd_nn h_69 hq_72
  have h_82 : (wd_up (wd_up (wd_up (wd_up (wd_up (wd_up (wd_up (wd_up (wd_up (wd_up (wd_up σ q_1 (.inl (T 2, 120, .inr (.inr (.inr (.inr (fun _ => none))))))) a (.inr (0, [.ref q_1, .int 0, .null, .int 0, .null, .null, .null, .null]))) q_10 (.inl (T 3, 200, .inr (.inr (.inr (.inr (fun _ => none))))))) a (.inr (0, [.ref q_1, .int 0, .ref q_10, .int 0, .null, .null, .null, .null]))) q_23 (.inl (T 0, 31, .inl (fun _ => 0)))) a (.inr (0, [.ref q_1, .int 0, .ref q_10, .int 0, .ref q_23, .null, .null, .null]))) q_36 (.inl (T 1, 31, .inl (fun _ => 0)))) a (.inr (0, [.ref q_1, .int 0, .ref q_10, .int 0, .ref q_23, .ref q_36, .null, .null]))) q_52 (.inl (T 0, 21, .inl (fun _ => 0)))) a (.inr (0, [.ref q_1, .int 0, .ref q_10, .int 0, .ref q_23, .ref q_36, .ref q_52, .null]))) q_71 (.inr (3, [.null, .int 0]))) q_36 = some (.inl (T 1, 31, .inl (fun _ => 0))) := wd_uk h_69 ne_83
  have ne_85 : q_52 ≠ q_71 := wd_nn h_70 hq_72
  have h_84 : (wd_up (wd_up (wd_up (wd_up (wd_up (wd_up (wd_up (wd_up (wd_up (wd_up (wd_up σ q_1 (.inl (T 2, 120, .inr (.inr (.inr (.inr (fun _ => none))))))) a (.inr (0, [.ref q_1, .int 0, .null, .int 0, .null, .null, .null, .null]))) q_10 (.inl (T 3, 200, .inr (.inr (.inr (.inr (fun _ => none))))))) a (.inr (0, [.ref q_1, .int 0, .ref q_10, .int 0, .null, .null, .null, .null]))) q_23 (.inl (T 0, 31, .inl (fun _ => 0)))) a (.inr (0, [.ref q_1, .int 0, .ref q_10, .int 0, .ref q_23, .null, .null, .null]))) q_36 (.inl (T 1, 31, .inl (fun _ => 0)))) a (.inr (0, [.ref q_1, .int 0, .ref q_10, .int 0, .ref q_23, .ref q_36, .null, .null]))) q_52 (.inl (T 0, 21, .inl (fun _ => 0)))) a (.inr (0, [.ref q_1, .int 0, .ref q_10, .int 0, .ref q_23, .ref q_36, .ref q_52, .null]))) q_71 (.inr (3, [.null, .int 0]))) q_52 = some (.inl (T 0, 21, .inl (fun _ => 0))) := wd_uk h_70 ne_85
  have h_73 : (wd_up (wd_up (wd_up (wd_up (wd_up (wd_up (wd_up (wd_up (wd_up (wd_up (wd_up σ q_1 (.inl (T 2, 120, .inr (.inr (.inr (.inr (fun _ => none))))))) a (.inr (0, [.ref q_1, .int 0, .null, .int 0, .null, .null, .null, .null]))) q_10 (.inl (T 3, 200, .inr (.inr (.inr (.inr (fun _ => none))))))) a (.inr (0, [.ref q_1, .int 0, .ref q_10, .int 0, .null, .null, .null, .null]))) q_23 (.inl (T 0, 31, .inl (fun _ => 0)))) a (.inr (0, [.ref q_1, .int 0, .ref q_10, .int 0, .ref q_23, .null, .null, .null]))) q_36 (.inl (T 1, 31, .inl (fun _ => 0)))) a (.inr (0, [.ref q_1, .int 0, .ref q_10, .int 0, .ref q_23, .ref q_36, .null, .null]))) q_52 (.inl (T 0, 21, .inl (fun _ => 0)))) a (.inr (0, [.ref q_1, .int 0, .ref q_10, .int 0, .ref q_23, .ref q_36, .ref q_52, .null]))) q_71 (.inr (3, [.null, .int 0]))) q_71 = some (.inr (3, [.null, .int 0])) := wd_us _ _ _
  refine lv_dup hx hb d_F_init_61 rfl ?_
  refine wd_cv h (wd_rIN (rest := [.ref q_71, .ref a]) (st0 := [.ref q_71, .ref q_71, .ref a]) C h k_P_init wm_P_init rfl lk_F_41 (c_P_init l D T A (wd_up (wd_up (wd_up (wd_up (wd_up (wd_up (wd_up (wd_up (wd_up (wd_up (wd_up σ q_1 (.inl (T 2, 120, .inr (.inr (.inr (.inr (fun _ => none))))))) a (.inr (0, [.ref q_1, .int 0, .null, .int 0, .null, .null, .null, .null]))) q_10 (.inl (T 3, 200, .inr (.inr (.inr (.inr (fun _ => none))))))) a (.inr (0, [.ref q_1, .int 0, .ref q_10, .int 0, .null, .null, .null, .null]))) q_23 (.inl (T 0, 31, .inl (fun _ => 0)))) a (.inr (0, [.ref q_1, .int 0, .ref q_10, .int 0, .ref q_23, .null, .null, .null]))) q_36 (.inl (T 1, 31, .inl (fun _ => 0)))) a (.inr (0, [.ref q_1, .int 0, .ref q_10, .int 0, .ref q_23, .ref q_36, .null, .null]))) q_52 (.inl (T 0, 21, .inl (fun _ => 0)))) a (.inr (0, [.ref q_1, .int 0, .ref q_10, .int 0, .ref q_23, .ref q_36, .ref q_52, .null]))) q_71 (.inr (3, [.null, .int 0]))) q_71 h_73) rfl rfl ⟨Nat.le_of_ble_eq_true rfl, Nat.le_of_ble_eq_true rfl⟩ rfl hl.1 rfl (Nat.le_of_ble_eq_true rfl) d_F_init_62 ⟨Nat.le_of_ble_eq_true rfl, Nat.le_of_ble_eq_true rfl⟩) (fun σ_87 H locs hp_88 h => ?_)
  obtain ⟨ab, u1, u2, u3, u4⟩ := hp_88
  have ne_90 : a ≠ ab := wd_nn h_74 u1
  have h_89 : σ_87 a = some (.inr (0, [.ref q_1, .int 0, .ref q_10, .int 0, .ref q_23, .ref q_36, .ref q_52, .null])) := (u4 a ne_75 ne_90).trans h_74
  have ne_92 : q_1 ≠ ab := wd_nn h_76 u1
  have h_91 : σ_87 q_1 = some (.inl (T 2, 120, .inr (.inr (.inr (.inr (fun _ => none)))))) := (u4 q_1 ne_77 ne_92).trans h_76
  have ne_94 : q_10 ≠ ab := wd_nn h_78 u1
  have h_93 : σ_87 q_10 = some (.inl (T 3, 200, .inr (.inr (.inr (.inr (fun _ => none)))))) := (u4 q_10 ne_79 ne_94).trans h_78
  have ne_96 : q_23 ≠ ab := wd_nn h_80 u1
  have h_95 : σ_87 q_23 = some (.inl (T 0, 31, .inl (fun _ => 0))) := (u4 q_23 ne_81 ne_96).trans h_80
  have ne_98 : q_36 ≠ ab := wd_nn h_82 u1
  have h_97 : σ_87 q_36 = some (.inl (T 1, 31, .inl (fun _ => 0))) := (u4 q_36 ne_83 ne_98).trans h_82
  have ne_100 : q_52 ≠ ab := wd_nn h_84 u1
  have h_99 : σ_87 q_52 = some (.inl (T 0, 21, .inl (fun _ => 0))) := (u4 q_52 ne_85 ne_100).trans h_84
  refine wd_putF C h kc_F h_89 7 (by decide) lk_F_42 rfl hname rfl (by rfl) (by rfl) (Nat.le_of_ble_eq_true rfl) d_F_init_65 (fun H locs h => ?_)
  have h : wd_C D T A s H locs (wd_up σ_87 a (.inr (0, [.ref q_1, .int 0, .ref q_10, .int 0, .ref q_23, .ref q_36, .ref q_52, .ref q_71]))) := h
  have h_101 : (wd_up σ_87 a (.inr (0, [.ref q_1, .int 0, .ref q_10, .int 0, .ref q_23, .ref q_36, .ref q_52, .ref q_71]))) a = some (.inr (0, [.ref q_1, .int 0, .ref q_10, .int 0, .ref q_23, .ref q_36, .ref q_52, .ref q_71])) := wd_us _ _ _
  have h_102 : (wd_up σ_87 a (.inr (0, [.ref q_1, .int 0, .ref q_10, .int 0, .ref q_23, .ref q_36, .ref q_52, .ref q_71]))) q_1 = some (.inl (T 2, 120, .inr (.inr (.inr (.inr (fun _ => none)))))) := wd_uk h_91 (Ne.symm ne_5)
  have h_103 : (wd_up σ_87 a (.inr (0, [.ref q_1, .int 0, .ref q_10, .int 0, .ref q_23, .ref q_36, .ref q_52, .ref q_71]))) q_10 = some (.inl (T 3, 200, .inr (.inr (.inr (.inr (fun _ => none)))))) := wd_uk h_93 (Ne.symm ne_14)
  have h_104 : (wd_up σ_87 a (.inr (0, [.ref q_1, .int 0, .ref q_10, .int 0, .ref q_23, .ref q_36, .ref q_52, .ref q_71]))) q_23 = some (.inl (T 0, 31, .inl (fun _ => 0))) := wd_uk h_95 (Ne.symm ne_27)
  have h_105 : (wd_up σ_87 a (.inr (0, [.ref q_1, .int 0, .ref q_10, .int 0, .ref q_23, .ref q_36, .ref q_52, .ref q_71]))) q_36 = some (.inl (T 1, 31, .inl (fun _ => 0))) := wd_uk h_97 (Ne.symm ne_40)
  have h_106 : (wd_up σ_87 a (.inr (0, [.ref q_1, .int 0, .ref q_10, .int 0, .ref q_23, .ref q_36, .ref q_52, .ref q_71]))) q_52 = some (.inl (T 0, 21, .inl (fun _ => 0))) := wd_uk h_99 (Ne.symm ne_56)
  have h_107 : (wd_up σ_87 a (.inr (0, [.ref q_1, .int 0, .ref q_10, .int 0, .ref q_23, .ref q_36, .ref q_52, .ref q_71]))) q_71 = some (.inr (3, [.ref ab, .int 0])) := wd_uk u3 (Ne.symm ne_75)
  have h_108 : (wd_up σ_87 a (.inr (0, [.ref q_1, .int 0, .ref q_10, .int 0, .ref q_23, .ref q_36, .ref q_52, .ref q_71]))) ab = some (aN T 30 (fun _ => 0)) := wd_uk u2 (Ne.symm ne_90)
  exact wd_vret C hr hlocks h (RB.rx (aI := q_1) (aC := q_10) (aJ := q_23) (aW := q_36) (aB := q_52) (aP := q_71) (ab := ab) (fI := fun _ => none) (fC := fun _ => none) (jn := fun _ => 0) (wn := fun _ => 0) (bk := fun _ => 0) (qb := fun _ => 0) (ia := fun _ => 0) (aa := fun _ => 0) (ca := fun _ => 0) ⟨h_101, h_102, h_103, h_104, h_105, h_106, ⟨h_107, h_108, Nat.zero_le _, fun _ _ _ => rfl⟩, ⟨rfl, fun j hj => absurd hj (Nat.not_lt_zero j)⟩, ⟨fun k hk => absurd hk (Nat.not_lt_zero k), fun k j hk => absurd hk (Nat.not_lt_zero k), fun k j hk => absurd hk (Nat.not_lt_zero k)⟩, fun k hk => absurd hk (Nat.not_lt_zero k), ⟨fun _ _ _ => rfl, fun _ _ _ => rfl, fun _ _ => rfl⟩, Nat.zero_le _, Nat.zero_le _, ne_46⟩) (Nat.le_of_ble_eq_true rfl) (Nat.le_of_ble_eq_true rfl) d_F_init_68

set_option maxHeartbeats 4000000 in
set_option maxRecDepth 20000 in
theorem c_F_item (l : Launch) (D : va_G) (T : Nat → ClassId) (A : Nat → Prop) (σ : wd_S) (x n : Nat) (R : Nat → Nat → Int32) (nc : Nat) (CR : Nat → Nat → Int32) (wg : Nat → Int32) (Q : pq) (aI aC aJ aW aB aP ab : Nat) (fI fC : Nat → Option Nat) (jn wn bk qb : Nat → Int32) (ia aa ca : Nat → Nat) (hB : RB T σ x n R nc CR wg Q aI aC aJ aW aB aP ab fI fC jn wn bk qb ia aa ca) (kd w z sd : Int32) : Met l y_F_item (Cond.code y_F_item b_F_item 5 (some .int) :: wd_tb) { frames := 2, cells := 3, slots := 25, locals := 36 } (va_Pc [.ref x, .int kd, .int w, .int z, .int sd] (wd_Pre D T A σ)) (va_Qi (fun r1 σ1 => r1 = (o_item (n, R, nc, CR, wg, Q) kd w z sd).1 ∧ RX T σ1 x (o_item (n, R, nc, CR, wg, Q) kd w z sd).2) (wd_B D A) A) 3 25 A := by
  refine wd_ofW (by decide) (Nat.le_of_ble_eq_true rfl) ?_
  intro p e s m below meth c0 ls C hr hlocks hname h hl
  have hl : lv_has ls 5 [(0, .ref x), (1, .int kd), (2, .int w), (3, .int z), (4, .int sd)] := hl
  have hx := C.1
  have hb := C.2.1
  obtain ⟨b1, b2, b3, b4, b5, b6, b7, b8, b9, b10, b11, b12, b13, b14⟩ := id hB
  refine lv_iload_n hx hb d_F_item_0 rfl (lv_at hl 1 rfl) ?_
  refine lv_iconst (v := 0) hx hb d_F_item_1 (by decide) ?_
  refine lv_iconst (v := 3) hx hb d_F_item_2 (by decide) ?_
  refine wd_ci h (wd_rS (rest := []) (st0 := [.int 3, .int 0, .int kd]) C h k_F_within wt_F_within lk_F_46 (c_F_within l D T A σ kd 0 3) rfl rfl ⟨Nat.le_of_ble_eq_true rfl, Nat.le_of_ble_eq_true rfl⟩ rfl hl.1 rfl (Nat.le_of_ble_eq_true rfl) d_F_item_3 ⟨Nat.le_of_ble_eq_true rfl, Nat.le_of_ble_eq_true rfl⟩) (fun r_1 σ_2 H locs hp_3 h => ?_)
  obtain ⟨e_4, es_5⟩ := hp_3
  rw [es_5] at h
  subst e_4
  refine lv_if_eq (tgt := 40) hx hb d_F_item_6 (by decide) (fun c_6 => ?_) (fun c_6 => ?_)
  · refine lv_bipush (v := (-102)) hx hb d_F_item_40 (by decide) ?_
    exact wd_iret C hr hlocks h (by unfold o_item; simp only [eq_true c_6, ↓reduceIte]; exact ⟨trivial, hB.rx⟩) (Nat.le_of_ble_eq_true rfl) (Nat.le_of_ble_eq_true rfl) d_F_item_42
  · refine lv_iload_n hx hb d_F_item_9 rfl (lv_at hl 2 rfl) ?_
    refine lv_iconst (v := 1) hx hb d_F_item_10 (by decide) ?_
    refine lv_ldc (v := 100000) hx hb C.2.2.2.1 (C.2.2.2.2 _ lk_F_50) d_F_item_11 ?_
    refine wd_ci h (wd_rS (rest := []) (st0 := [.int 100000, .int 1, .int w]) C h k_F_within wt_F_within lk_F_46 (c_F_within l D T A σ w 1 100000) rfl rfl ⟨Nat.le_of_ble_eq_true rfl, Nat.le_of_ble_eq_true rfl⟩ rfl hl.1 rfl (Nat.le_of_ble_eq_true rfl) d_F_item_13 ⟨Nat.le_of_ble_eq_true rfl, Nat.le_of_ble_eq_true rfl⟩) (fun r_7 σ_8 H locs hp_9 h => ?_)
    obtain ⟨e_10, es_11⟩ := hp_9
    rw [es_11] at h
    subst e_10
    refine lv_if_eq (tgt := 40) hx hb d_F_item_16 (by decide) (fun c_12 => ?_) (fun c_12 => ?_)
    · refine lv_bipush (v := (-102)) hx hb d_F_item_40 (by decide) ?_
      exact wd_iret C hr hlocks h (by unfold o_item; simp only [eq_false c_6, eq_true c_12, ↓reduceIte]; exact ⟨trivial, hB.rx⟩) (Nat.le_of_ble_eq_true rfl) (Nat.le_of_ble_eq_true rfl) d_F_item_42
    · refine lv_iload_n hx hb d_F_item_19 rfl (lv_at hl 3 rfl) ?_
      refine lv_iconst (v := 0) hx hb d_F_item_20 (by decide) ?_
      refine lv_bipush (v := 9) hx hb d_F_item_21 (by decide) ?_
      refine wd_ci h (wd_rS (rest := []) (st0 := [.int 9, .int 0, .int z]) C h k_F_within wt_F_within lk_F_46 (c_F_within l D T A σ z 0 9) rfl rfl ⟨Nat.le_of_ble_eq_true rfl, Nat.le_of_ble_eq_true rfl⟩ rfl hl.1 rfl (Nat.le_of_ble_eq_true rfl) d_F_item_23 ⟨Nat.le_of_ble_eq_true rfl, Nat.le_of_ble_eq_true rfl⟩) (fun r_13 σ_14 H locs hp_15 h => ?_)
      obtain ⟨e_16, es_17⟩ := hp_15
      rw [es_17] at h
      subst e_16
      refine lv_if_eq (tgt := 40) hx hb d_F_item_26 (by decide) (fun c_18 => ?_) (fun c_18 => ?_)
      · refine lv_bipush (v := (-102)) hx hb d_F_item_40 (by decide) ?_
        exact wd_iret C hr hlocks h (by unfold o_item; simp only [eq_false c_6, eq_false c_12, eq_true c_18, ↓reduceIte]; exact ⟨trivial, hB.rx⟩) (Nat.le_of_ble_eq_true rfl) (Nat.le_of_ble_eq_true rfl) d_F_item_42
      · refine lv_iload hx hb d_F_item_29 (lv_at hl 4 rfl) ?_
        refine lv_iconst (v := 0) hx hb d_F_item_31 (by decide) ?_
        refine lv_bipush (v := 99) hx hb d_F_item_32 (by decide) ?_
        refine wd_ci h (wd_rS (rest := []) (st0 := [.int 99, .int 0, .int sd]) C h k_F_within wt_F_within lk_F_46 (c_F_within l D T A σ sd 0 99) rfl rfl ⟨Nat.le_of_ble_eq_true rfl, Nat.le_of_ble_eq_true rfl⟩ rfl hl.1 rfl (Nat.le_of_ble_eq_true rfl) d_F_item_34 ⟨Nat.le_of_ble_eq_true rfl, Nat.le_of_ble_eq_true rfl⟩) (fun r_19 σ_20 H locs hp_21 h => ?_)
        obtain ⟨e_22, es_23⟩ := hp_21
        rw [es_23] at h
        subst e_22
        refine lv_if_ne (tgt := 43) hx hb d_F_item_37 (by decide) (fun c_24 => ?_) (fun c_24 => ?_)
        · refine lv_aload_n hx hb d_F_item_43 rfl (lv_at hl 0 rfl) ?_
          refine wd_get C h kc_F b1 1 (by decide) lk_F_15 rfl d_F_item_44 ?_
          refine lv_bipush (v := 120) hx hb d_F_item_47 (by decide) ?_
          refine lv_icmp_lt (tgt := 55) hx hb d_F_item_49 (by decide) (fun c_25 => ?_) (fun c_25 => ?_)
          · refine lv_iload_n hx hb d_F_item_55 rfl (lv_at hl 2 rfl) ?_
            refine wd_gets C h ks_bw lk_F_51 d_F_item_56 (fun t_26 ht_27 => ?_)
            refine lv_iconst (v := 3) hx hb d_F_item_59 (by decide) ?_
            refine wd_ti C h ht_27 (by unfold vp_in; decide) d_F_item_60 ?_
            refine W.eq (g2 := F0 m 61 ls (.int 31500 :: .int w :: [])) rfl ?_
            refine lv_icmp_le (tgt := 67) hx hb d_F_item_61 (by decide) (fun c_28 => ?_) (fun c_28 => ?_)
            · refine lv_iload_n hx hb d_F_item_67 rfl (lv_at hl 3 rfl) ?_
              refine wd_gets C h ks_bs lk_F_54 d_F_item_68 (fun t_29 ht_30 => ?_)
              refine lv_iconst (v := 3) hx hb d_F_item_71 (by decide) ?_
              refine wd_ti C h ht_30 (by unfold vp_in; decide) d_F_item_72 ?_
              refine W.eq (g2 := F0 m 73 ls (.int 3 :: .int z :: [])) rfl ?_
              refine lv_icmp_le (tgt := 79) hx hb d_F_item_73 (by decide) (fun c_31 => ?_) (fun c_31 => ?_)
              · refine lv_aload_n hx hb d_F_item_79 rfl (lv_at hl 0 rfl) ?_
                refine wd_get C h kc_F b1 0 (by decide) lk_F_11 rfl d_F_item_80 ?_
                refine lv_aload_n hx hb d_F_item_83 rfl (lv_at hl 0 rfl) ?_
                refine wd_get C h kc_F b1 1 (by decide) lk_F_15 rfl d_F_item_84 ?_
                refine wd_new (fs := [.int 0, .int 0, .int 0, .int 0, .int 0, .int 0, .int 0, .int 0, .int 0, .int 0, .int 0, .int 0, .int 0, .int 0, .int 0, .null, .null]) C h kc_I lk_F_9 wn_I wi_I df_I (Nat.le_of_ble_eq_true rfl) (Nat.le_of_ble_eq_true rfl) d_F_item_87 (fun q_32 H hq_33 h => ?_)
                have ne_36 : x ≠ q_32 := wd_nn b1 hq_33
                have h_35 : (wd_up σ q_32 (.inr (1, [.int 0, .int 0, .int 0, .int 0, .int 0, .int 0, .int 0, .int 0, .int 0, .int 0, .int 0, .int 0, .int 0, .int 0, .int 0, .null, .null]))) x = some (.inr (0, [.ref aI, .int (nI n), .ref aC, .int (nI nc), .ref aJ, .ref aW, .ref aB, .ref aP])) := wd_uk b1 ne_36
                have ne_38 : aI ≠ q_32 := wd_nn b2 hq_33
                have h_37 : (wd_up σ q_32 (.inr (1, [.int 0, .int 0, .int 0, .int 0, .int 0, .int 0, .int 0, .int 0, .int 0, .int 0, .int 0, .int 0, .int 0, .int 0, .int 0, .null, .null]))) aI = some (aQ T 2 120 fI) := wd_uk b2 ne_38
                have h_34 : (wd_up σ q_32 (.inr (1, [.int 0, .int 0, .int 0, .int 0, .int 0, .int 0, .int 0, .int 0, .int 0, .int 0, .int 0, .int 0, .int 0, .int 0, .int 0, .null, .null]))) q_32 = some (.inr (1, [.int 0, .int 0, .int 0, .int 0, .int 0, .int 0, .int 0, .int 0, .int 0, .int 0, .int 0, .int 0, .int 0, .int 0, .int 0, .null, .null])) := wd_us _ _ _
                refine lv_dup hx hb d_F_item_90 rfl ?_
                refine lv_iload_n hx hb d_F_item_91 rfl (lv_at hl 1 rfl) ?_
                refine lv_iload_n hx hb d_F_item_92 rfl (lv_at hl 2 rfl) ?_
                refine lv_iload_n hx hb d_F_item_93 rfl (lv_at hl 3 rfl) ?_
                refine wd_ci h (wd_rS (rest := [.ref q_32, .ref q_32, .int (nI n), .ref aI]) (st0 := [.int z, .int w, .int kd, .ref q_32, .ref q_32, .int (nI n), .ref aI]) C h k_F_turned wt_F_turned lk_F_57 (c_F_turned l D T A (wd_up σ q_32 (.inr (1, [.int 0, .int 0, .int 0, .int 0, .int 0, .int 0, .int 0, .int 0, .int 0, .int 0, .int 0, .int 0, .int 0, .int 0, .int 0, .null, .null]))) kd w z (xw_03 c_6)) rfl rfl ⟨Nat.le_of_ble_eq_true rfl, Nat.le_of_ble_eq_true rfl⟩ rfl hl.1 rfl (Nat.le_of_ble_eq_true rfl) d_F_item_94 ⟨Nat.le_of_ble_eq_true rfl, Nat.le_of_ble_eq_true rfl⟩) (fun r_39 σ_40 H locs hp_41 h => ?_)
                obtain ⟨e_42, es_43⟩ := hp_41
                rw [es_43] at h
                subst e_42
                refine lv_iload_n hx hb d_F_item_97 rfl (lv_at hl 2 rfl) ?_
                refine lv_iload_n hx hb d_F_item_98 rfl (lv_at hl 3 rfl) ?_
                refine lv_iload hx hb d_F_item_99 (lv_at hl 4 rfl) ?_
                refine wd_cv h (wd_rIN (rest := [.ref q_32, .int (nI n), .ref aI]) (st0 := [.int sd, .int z, .int w, .int (xt kd w z), .ref q_32, .ref q_32, .int (nI n), .ref aI]) C h k_I_init wm_I_init rfl lk_F_61 (c_I_init l D T A (wd_up σ q_32 (.inr (1, [.int 0, .int 0, .int 0, .int 0, .int 0, .int 0, .int 0, .int 0, .int 0, .int 0, .int 0, .int 0, .int 0, .int 0, .int 0, .null, .null]))) q_32 h_34 (xt kd w z) w z sd) rfl rfl ⟨Nat.le_of_ble_eq_true rfl, Nat.le_of_ble_eq_true rfl⟩ rfl hl.1 rfl (Nat.le_of_ble_eq_true rfl) d_F_item_101 ⟨Nat.le_of_ble_eq_true rfl, Nat.le_of_ble_eq_true rfl⟩) (fun σ_45 H locs hp_46 h => ?_)
                obtain ⟨q1, q2, i1, i2, i3, i4, i5, i6, i7⟩ := hp_46
                obtain ⟨j1, k1⟩ := wd_none i1
                obtain ⟨j2, k2⟩ := wd_none i2
                have h_47 : σ_45 x = some (.inr (0, [.ref aI, .int (nI n), .ref aC, .int (nI nc), .ref aJ, .ref aW, .ref aB, .ref aP])) := (i7 x ne_36 (wd_nn h_35 i1) (wd_nn h_35 i2)).trans h_35
                have h_48 : σ_45 aI = some (aQ T 2 120 fI) := (i7 aI ne_38 (wd_nn h_37 i1) (wd_nn h_37 i2)).trans h_37
                have hlt : n < 120 := (nI_ltI (a := n) (b := 120) (by omega) (by decide)).mp c_25
                refine wd_astq C h 2 rfl h_48 i6 rfl (vp_in_nI hlt (by decide)) d_F_item_104 (fun H locs h => ?_)
                have h : wd_C D T A s H locs (wd_up σ_45 aI (.inl (T 2, 120, .inr (.inr (.inr (.inr (va_up fI (nI n).toNatClampNeg (some q_32)))))))) := h
                have h_49 : (wd_up σ_45 aI (.inl (T 2, 120, .inr (.inr (.inr (.inr (va_up fI (nI n).toNatClampNeg (some q_32)))))))) aI = some (.inl (T 2, 120, .inr (.inr (.inr (.inr (va_up fI (nI n).toNatClampNeg (some q_32))))))) := wd_us _ _ _
                have h_50 : (wd_up σ_45 aI (.inl (T 2, 120, .inr (.inr (.inr (.inr (va_up fI (nI n).toNatClampNeg (some q_32)))))))) x = some (.inr (0, [.ref aI, .int (nI n), .ref aC, .int (nI nc), .ref aJ, .ref aW, .ref aB, .ref aP])) := wd_uk h_47 (wd_ne h_47 h_48 (by simp))
                have h_51 : (wd_up σ_45 aI (.inl (T 2, 120, .inr (.inr (.inr (.inr (va_up fI (nI n).toNatClampNeg (some q_32)))))))) q_32 = some (xI (newr (xt kd w z) w z sd) q1 q2) := wd_uk i6 (Ne.symm ne_38)
                have h_52 : (wd_up σ_45 aI (.inl (T 2, 120, .inr (.inr (.inr (.inr (va_up fI (nI n).toNatClampNeg (some q_32)))))))) q1 = some (aN T 4 (fun j => newr (xt kd w z) w z sd (15 + 2 * j))) := wd_uk i4 (wd_ne i4 h_48 (by simp))
                have h_53 : (wd_up σ_45 aI (.inl (T 2, 120, .inr (.inr (.inr (.inr (va_up fI (nI n).toNatClampNeg (some q_32)))))))) q2 = some (aN T 4 (fun j => newr (xt kd w z) w z sd (16 + 2 * j))) := wd_uk i5 (wd_ne i5 h_48 (by simp))
                refine lv_aload_n hx hb d_F_item_105 rfl (lv_at hl 0 rfl) ?_
                refine lv_dup hx hb d_F_item_106 rfl ?_
                refine wd_get C h kc_F h_50 1 (by decide) lk_F_15 rfl d_F_item_107 ?_
                refine lv_iconst (v := 1) hx hb d_F_item_110 (by decide) ?_
                refine lv_iadd hx hb d_F_item_111 ?_
                refine wd_put C h kc_F h_50 1 (by decide) lk_F_15 rfl (by rfl) (by rfl) (Nat.le_of_ble_eq_true rfl) d_F_item_112 (fun H locs h => ?_)
                have h : wd_C D T A s H locs (wd_up (wd_up σ_45 aI (.inl (T 2, 120, .inr (.inr (.inr (.inr (va_up fI (nI n).toNatClampNeg (some q_32)))))))) x (.inr (0, [.ref aI, .int ((nI n) + 1), .ref aC, .int (nI nc), .ref aJ, .ref aW, .ref aB, .ref aP]))) := h
                have h_54 : (wd_up (wd_up σ_45 aI (.inl (T 2, 120, .inr (.inr (.inr (.inr (va_up fI (nI n).toNatClampNeg (some q_32)))))))) x (.inr (0, [.ref aI, .int ((nI n) + 1), .ref aC, .int (nI nc), .ref aJ, .ref aW, .ref aB, .ref aP]))) x = some (.inr (0, [.ref aI, .int ((nI n) + 1), .ref aC, .int (nI nc), .ref aJ, .ref aW, .ref aB, .ref aP])) := wd_us _ _ _
                have h_55 : (wd_up (wd_up σ_45 aI (.inl (T 2, 120, .inr (.inr (.inr (.inr (va_up fI (nI n).toNatClampNeg (some q_32)))))))) x (.inr (0, [.ref aI, .int ((nI n) + 1), .ref aC, .int (nI nc), .ref aJ, .ref aW, .ref aB, .ref aP]))) aI = some (.inl (T 2, 120, .inr (.inr (.inr (.inr (va_up fI (nI n).toNatClampNeg (some q_32))))))) := wd_uk h_49 (wd_ne h_49 h_50 (by simp))
                have h_56 : (wd_up (wd_up σ_45 aI (.inl (T 2, 120, .inr (.inr (.inr (.inr (va_up fI (nI n).toNatClampNeg (some q_32)))))))) x (.inr (0, [.ref aI, .int ((nI n) + 1), .ref aC, .int (nI nc), .ref aJ, .ref aW, .ref aB, .ref aP]))) q_32 = some (xI (newr (xt kd w z) w z sd) q1 q2) := wd_uk h_51 (Ne.symm ne_36)
                have h_57 : (wd_up (wd_up σ_45 aI (.inl (T 2, 120, .inr (.inr (.inr (.inr (va_up fI (nI n).toNatClampNeg (some q_32)))))))) x (.inr (0, [.ref aI, .int ((nI n) + 1), .ref aC, .int (nI nc), .ref aJ, .ref aW, .ref aB, .ref aP]))) q1 = some (aN T 4 (fun j => newr (xt kd w z) w z sd (15 + 2 * j))) := wd_uk h_52 (wd_ne h_52 h_50 (by simp))
                have h_58 : (wd_up (wd_up σ_45 aI (.inl (T 2, 120, .inr (.inr (.inr (.inr (va_up fI (nI n).toNatClampNeg (some q_32)))))))) x (.inr (0, [.ref aI, .int ((nI n) + 1), .ref aC, .int (nI nc), .ref aJ, .ref aW, .ref aB, .ref aP]))) q2 = some (aN T 4 (fun j => newr (xt kd w z) w z sd (16 + 2 * j))) := wd_uk h_53 (wd_ne h_53 h_50 (by simp))
                refine lv_aload_n hx hb d_F_item_115 rfl (lv_at hl 0 rfl) ?_
                refine wd_get C h kc_F h_54 1 (by decide) lk_F_15 rfl d_F_item_116 ?_
                exact wd_iret C hr hlocks h (by unfold o_item; simp only [eq_false c_6, eq_false c_12, eq_false c_18, eq_false c_24, eq_true c_25, eq_true c_28, eq_true c_31, ↓reduceIte]; exact ⟨nI_1 n, hB.add (q := q_32) (q1 := q1) (q2 := q2) (r := newr (xt kd w z) w z sd) hlt hq_33 k1 k2 i3 (Ne.symm j1) (Ne.symm j2) h_56 h_57 h_58 (by rw [← nI_1]; exact h_54) (h_55.trans (by rw [nI_clamp (show n < 2 ^ 31 by omega)])) (fun b h1 h2 h3 h4 h5 => by rw [wd_un _ _ h4, wd_un _ _ h5, i7 b h1 h2 h3, wd_un _ _ h1]) rfl rfl⟩) (Nat.le_of_ble_eq_true rfl) (Nat.le_of_ble_eq_true rfl) d_F_item_119
              · refine lv_bipush (v := (-110)) hx hb d_F_item_76 (by decide) ?_
                exact wd_iret C hr hlocks h (by unfold o_item; simp only [eq_false c_6, eq_false c_12, eq_false c_18, eq_false c_24, eq_true c_25, eq_true c_28, eq_false c_31, ↓reduceIte]; exact ⟨trivial, hB.rx⟩) (Nat.le_of_ble_eq_true rfl) (Nat.le_of_ble_eq_true rfl) d_F_item_78
            · refine lv_bipush (v := (-109)) hx hb d_F_item_64 (by decide) ?_
              exact wd_iret C hr hlocks h (by unfold o_item; simp only [eq_false c_6, eq_false c_12, eq_false c_18, eq_false c_24, eq_true c_25, eq_false c_28, ↓reduceIte]; exact ⟨trivial, hB.rx⟩) (Nat.le_of_ble_eq_true rfl) (Nat.le_of_ble_eq_true rfl) d_F_item_66
          · refine lv_bipush (v := (-104)) hx hb d_F_item_52 (by decide) ?_
            exact wd_iret C hr hlocks h (by unfold o_item; simp only [eq_false c_6, eq_false c_12, eq_false c_18, eq_false c_24, eq_false c_25, ↓reduceIte]; exact ⟨trivial, hB.rx⟩) (Nat.le_of_ble_eq_true rfl) (Nat.le_of_ble_eq_true rfl) d_F_item_54
        · refine lv_bipush (v := (-102)) hx hb d_F_item_40 (by decide) ?_
          exact wd_iret C hr hlocks h (by unfold o_item; simp only [eq_false c_6, eq_false c_12, eq_false c_18, eq_true c_24, ↓reduceIte]; exact ⟨trivial, hB.rx⟩) (Nat.le_of_ble_eq_true rfl) (Nat.le_of_ble_eq_true rfl) d_F_item_42

theorem xm0_k {r : Nat → Int32} {wh v : Int32} (h : okr r) (hy : ¬ xy wh v = 0) : xm0 r wh v 0 = 0 ∨ xm0 r wh v 0 = 1 ∨ xm0 r wh v 0 = 2 ∨ xm0 r wh v 0 = 3 := by
  by_cases h0 : wh = 0
  · subst h0
    have hy : ¬ xw v 0 3 = 0 := by simpa [xy] using hy
    simpa [xm0, upd] using xw_03 hy
  · have : xm0 r wh v 0 = r 0 := by
      unfold xm0
      rw [if_neg h0]
      repeat' split
      all_goals first | rfl | exact pk_un (by decide)
    rw [this]
    exact h.k

set_option maxHeartbeats 4000000 in
set_option maxRecDepth 20000 in
theorem c_F_correct (l : Launch) (D : va_G) (T : Nat → ClassId) (A : Nat → Prop) (σ : wd_S) (x n : Nat) (R : Nat → Nat → Int32) (nc : Nat) (CR : Nat → Nat → Int32) (wg : Nat → Int32) (Q : pq) (aI aC aJ aW aB aP ab : Nat) (fI fC : Nat → Option Nat) (jn wn bk qb : Nat → Int32) (ia aa ca : Nat → Nat) (hB : RB T σ x n R nc CR wg Q aI aC aJ aW aB aP ab fI fC jn wn bk qb ia aa ca) (hok : ∀ k, k < n → okr (R k)) (i wh v re : Int32) : Met l y_F_correct (Cond.code y_F_correct b_F_correct 6 (some .int) :: wd_tb) { frames := 2, cells := 1, slots := 5, locals := 45 } (va_Pc [.ref x, .int i, .int wh, .int v, .int re] (wd_Pre D T A σ)) (va_Qi (fun r1 σ1 => r1 = (o_corr (n, R, nc, CR, wg, Q) i wh v re).1 ∧ RX T σ1 x (o_corr (n, R, nc, CR, wg, Q) i wh v re).2) (wd_B D A) A) 1 5 A := by
  refine wd_ofW (by decide) (Nat.le_of_ble_eq_true rfl) ?_
  intro p e s m below meth c0 ls C hr hlocks hname h hl
  have hl : lv_has ls 6 [(0, .ref x), (1, .int i), (2, .int wh), (3, .int v), (4, .int re)] := hl
  have hx := C.1
  have hb := C.2.1
  obtain ⟨b1, b2, b3, b4, b5, b6, b7, b8, b9, b10, b11, b12, b13, b14⟩ := id hB
  refine lv_aload_n hx hb d_F_correct_0 rfl (lv_at hl 0 rfl) ?_
  refine lv_iload_n hx hb d_F_correct_1 rfl (lv_at hl 1 rfl) ?_
  refine wd_cq h (wd_rV (rest := []) (st0 := [.int i, .ref x]) C h kc_F b1 k_F_find wm_F_find wz_F_find lk_F_64 (c_F_find l D T A σ x aI n fI ia _ _ _ _ _ _ b1 b2 b12 (fun k hk => (b9.1 k hk).1) i) rfl rfl ⟨Nat.le_of_ble_eq_true rfl, Nat.le_of_ble_eq_true rfl⟩ rfl hl.1 rfl (Nat.le_of_ble_eq_true rfl) d_F_correct_2 ⟨Nat.le_of_ble_eq_true rfl, Nat.le_of_ble_eq_true rfl⟩) (fun r_1 σ_2 H locs hp_3 h => ?_)
  obtain ⟨e_4, es_5⟩ := hp_3
  rw [es_5] at h
  rw [e_4]
  rcases hf : o_find n i with _ | k
  · refine W.eq (g2 := F0 m 5 ls [.null]) rfl ?_
    refine lv_astoreN (lv' := [(5, .null), (0, .ref x), (1, .int i), (2, .int wh), (3, .int v), (4, .int re)]) hx hb d_F_correct_5 hl (by decide) rfl (fun ls hl => ?_)
    refine lv_aloadN hx hb d_F_correct_7 (lv_at hl 0 rfl) ?_
    refine lv_ifnonnullN hx hb d_F_correct_9 ?_
    refine lv_bipush (v := (-101)) hx hb d_F_correct_12 (by decide) ?_
    exact wd_iret C hr hlocks h (by unfold o_corr; rw [show o_find (n, R, nc, CR, wg, Q).1 i = none from hf]; exact ⟨rfl, hB.rx⟩) (Nat.le_of_ble_eq_true rfl) (Nat.le_of_ble_eq_true rfl) d_F_correct_14
  · refine W.eq (g2 := F0 m 5 ls [.ref (ia k)]) rfl ?_
    obtain ⟨hk, hik1, hik⟩ := o_find_some b12 hf
    obtain ⟨g1, g2, g3, g4⟩ := b9.1 k hk
    refine lv_astore (lv' := [(5, .ref (ia k)), (0, .ref x), (1, .int i), (2, .int wh), (3, .int v), (4, .int re)]) hx hb d_F_correct_5 hl (by decide) rfl (fun ls hl => ?_)
    refine lv_aload hx hb d_F_correct_7 (lv_at hl 0 rfl) ?_
    refine lv_ifnonnull (tgt := 15) hx hb d_F_correct_9 (by decide) ?_
    refine lv_iload_n hx hb d_F_correct_15 rfl (lv_at hl 3 rfl) ?_
    refine lv_iload_n hx hb d_F_correct_16 rfl (lv_at hl 4 rfl) ?_
    refine wd_ci h (wd_rS (rest := []) (st0 := [.int v, .int wh]) C h k_F_mayBecome wt_F_mayBecome lk_F_138 (c_F_mayBecome l D T A σ wh v) rfl rfl ⟨Nat.le_of_ble_eq_true rfl, Nat.le_of_ble_eq_true rfl⟩ rfl hl.1 rfl (Nat.le_of_ble_eq_true rfl) d_F_correct_17 ⟨Nat.le_of_ble_eq_true rfl, Nat.le_of_ble_eq_true rfl⟩) (fun r_6 σ_7 H locs hp_8 h => ?_)
    obtain ⟨e_9, es_10⟩ := hp_8
    rw [es_10] at h
    subst e_9
    refine lv_if_eq (tgt := 34) hx hb d_F_correct_20 (by decide) (fun c_11 => ?_) (fun c_11 => ?_)
    · refine lv_bipush (v := (-102)) hx hb d_F_correct_34 (by decide) ?_
      exact wd_iret C hr hlocks h (by unfold o_corr; rw [show o_find (n, R, nc, CR, wg, Q).1 i = some k from hf]; simp only [eq_true c_11, ↓reduceIte, true_and, false_and, not_true_eq_false, not_false_eq_true, and_true, and_false]; first | exact ⟨trivial, hB.rx⟩ | exact hB.rx) (Nat.le_of_ble_eq_true rfl) (Nat.le_of_ble_eq_true rfl) d_F_correct_36
    · refine lv_iload hx hb d_F_correct_23 (lv_at hl 5 rfl) ?_
      refine lv_iconst (v := 1) hx hb d_F_correct_25 (by decide) ?_
      refine lv_bipush (v := 9) hx hb d_F_correct_26 (by decide) ?_
      refine wd_ci h (wd_rS (rest := []) (st0 := [.int 9, .int 1, .int re]) C h k_F_within wt_F_within lk_F_46 (c_F_within l D T A σ re 1 9) rfl rfl ⟨Nat.le_of_ble_eq_true rfl, Nat.le_of_ble_eq_true rfl⟩ rfl hl.1 rfl (Nat.le_of_ble_eq_true rfl) d_F_correct_28 ⟨Nat.le_of_ble_eq_true rfl, Nat.le_of_ble_eq_true rfl⟩) (fun r_12 σ_13 H locs hp_14 h => ?_)
      obtain ⟨e_15, es_16⟩ := hp_14
      rw [es_16] at h
      subst e_15
      refine lv_if_ne (tgt := 37) hx hb d_F_correct_31 (by decide) (fun c_17 => ?_) (fun c_17 => ?_)
      · refine lv_aload hx hb d_F_correct_37 (lv_at hl 0 rfl) ?_
        refine lv_iload_n hx hb d_F_correct_39 rfl (lv_at hl 3 rfl) ?_
        refine lv_iload_n hx hb d_F_correct_40 rfl (lv_at hl 4 rfl) ?_
        refine wd_ci h (wd_rVN (rest := []) (st0 := [.int v, .int wh, .ref (ia k)]) C h kc_I g2 k_I_wouldStay wm_I_wouldStay wz_I_wouldStay lk_F_142 (c_I_wouldStay l D T A σ (ia k) (R k) (aa (2 * k)) (aa (2 * k + 1)) g2 wh v) rfl rfl ⟨Nat.le_of_ble_eq_true rfl, Nat.le_of_ble_eq_true rfl⟩ rfl hl.1 rfl (Nat.le_of_ble_eq_true rfl) d_F_correct_41 ⟨Nat.le_of_ble_eq_true rfl, Nat.le_of_ble_eq_true rfl⟩) (fun r_18 σ_19 H locs hp_20 h => ?_)
        obtain ⟨e_21, es_22⟩ := hp_20
        rw [es_22] at h
        subst e_21
        refine lv_if_eq (tgt := 50) hx hb d_F_correct_44 (by decide) (fun c_23 => ?_) (fun c_23 => ?_)
        · refine lv_aload_n hx hb d_F_correct_50 rfl (lv_at hl 1 rfl) ?_
          refine wd_get C h kc_F b1 3 (by decide) lk_F_25 rfl d_F_correct_51 ?_
          refine lv_sipush (v := 200) hx hb d_F_correct_54 (by decide) ?_
          refine lv_icmp_lt (tgt := 63) hx hb d_F_correct_57 (by decide) (fun c_24 => ?_) (fun c_24 => ?_)
          · refine lv_iload_n hx hb d_F_correct_63 rfl (lv_at hl 3 rfl) ?_
            refine lv_iconst (v := 1) hx hb d_F_correct_64 (by decide) ?_
            refine lv_icmp_ne (tgt := 80) hx hb d_F_correct_65 (by decide) (fun c_25 => ?_) (fun c_25 => ?_)
            · refine lv_iload_n hx hb d_F_correct_80 rfl (lv_at hl 3 rfl) ?_
              refine lv_iconst (v := 2) hx hb d_F_correct_81 (by decide) ?_
              refine lv_icmp_ne (tgt := 97) hx hb d_F_correct_82 (by decide) (fun c_26 => ?_) (fun c_26 => ?_)
              · refine lv_aload_n hx hb d_F_correct_97 rfl (lv_at hl 1 rfl) ?_
                refine wd_get C h kc_F b1 2 (by decide) lk_F_21 rfl d_F_correct_98 ?_
                refine lv_aload_n hx hb d_F_correct_101 rfl (lv_at hl 1 rfl) ?_
                refine wd_get C h kc_F b1 3 (by decide) lk_F_25 rfl d_F_correct_102 ?_
                refine wd_new (fs := [.int 0, .int 0, .int 0, .int 0, .int 0]) C h kc_C lk_F_19 wn_C wi_C df_C (Nat.le_of_ble_eq_true rfl) (Nat.le_of_ble_eq_true rfl) d_F_correct_105 (fun q_27 H hq_28 h => ?_)
                have ne_31 : x ≠ q_27 := wd_nn b1 hq_28
                have h_30 : (wd_up σ q_27 (.inr (2, [.int 0, .int 0, .int 0, .int 0, .int 0]))) x = some (.inr (0, [.ref aI, .int (nI n), .ref aC, .int (nI nc), .ref aJ, .ref aW, .ref aB, .ref aP])) := wd_uk b1 ne_31
                have ne_33 : aC ≠ q_27 := wd_nn b3 hq_28
                have h_32 : (wd_up σ q_27 (.inr (2, [.int 0, .int 0, .int 0, .int 0, .int 0]))) aC = some (aQ T 3 200 fC) := wd_uk b3 ne_33
                have ne_35 : (ia k) ≠ q_27 := wd_nn g2 hq_28
                have h_34 : (wd_up σ q_27 (.inr (2, [.int 0, .int 0, .int 0, .int 0, .int 0]))) (ia k) = some (xI (R k) (aa (2 * k)) (aa (2 * k + 1))) := wd_uk g2 ne_35
                have h_29 : (wd_up σ q_27 (.inr (2, [.int 0, .int 0, .int 0, .int 0, .int 0]))) q_27 = some (.inr (2, [.int 0, .int 0, .int 0, .int 0, .int 0])) := wd_us _ _ _
                refine lv_dup hx hb d_F_correct_108 rfl ?_
                refine lv_iload_n hx hb d_F_correct_109 rfl (lv_at hl 2 rfl) ?_
                refine lv_iload_n hx hb d_F_correct_110 rfl (lv_at hl 3 rfl) ?_
                refine lv_aload hx hb d_F_correct_111 (lv_at hl 0 rfl) ?_
                refine lv_iload_n hx hb d_F_correct_113 rfl (lv_at hl 3 rfl) ?_
                refine wd_ci h (wd_rVN (rest := [.int wh, .int i, .ref q_27, .ref q_27, .int (nI nc), .ref aC]) (st0 := [.int wh, .ref (ia k), .int wh, .int i, .ref q_27, .ref q_27, .int (nI nc), .ref aC]) C h kc_I h_34 k_I_correctable wm_I_correctable wz_I_correctable lk_F_145 (c_I_correctable l D T A (wd_up σ q_27 (.inr (2, [.int 0, .int 0, .int 0, .int 0, .int 0]))) (ia k) (R k) (aa (2 * k)) (aa (2 * k + 1)) h_34 wh) rfl rfl ⟨Nat.le_of_ble_eq_true rfl, Nat.le_of_ble_eq_true rfl⟩ rfl hl.1 rfl (Nat.le_of_ble_eq_true rfl) d_F_correct_114 ⟨Nat.le_of_ble_eq_true rfl, Nat.le_of_ble_eq_true rfl⟩) (fun r_36 σ_37 H locs hp_38 h => ?_)
                obtain ⟨e_39, es_40⟩ := hp_38
                rw [es_40] at h
                subst e_39
                refine lv_iload_n hx hb d_F_correct_117 rfl (lv_at hl 4 rfl) ?_
                refine lv_iload hx hb d_F_correct_118 (lv_at hl 5 rfl) ?_
                refine wd_cv h (wd_rIN (rest := [.ref q_27, .int (nI nc), .ref aC]) (st0 := [.int re, .int v, .int (xc (R k) wh), .int wh, .int i, .ref q_27, .ref q_27, .int (nI nc), .ref aC]) C h k_C_init wm_C_init rfl lk_F_148 (c_C_init l D T A (wd_up σ q_27 (.inr (2, [.int 0, .int 0, .int 0, .int 0, .int 0]))) q_27 h_29 i wh (xc (R k) wh) v re) rfl rfl ⟨Nat.le_of_ble_eq_true rfl, Nat.le_of_ble_eq_true rfl⟩ rfl hl.1 rfl (Nat.le_of_ble_eq_true rfl) d_F_correct_120 ⟨Nat.le_of_ble_eq_true rfl, Nat.le_of_ble_eq_true rfl⟩) (fun σ_42 H locs hp_43 h => ?_)
                rw [wd_uu] at hp_43
                rw [hp_43] at h
                have hqc : (wd_up σ q_27 (xC (crow i wh (xc (R k) wh) v re))) q_27 = some (xC (crow i wh (xc (R k) wh) v re)) := wd_us _ _ _
                have h_44 : (wd_up σ q_27 (xC (crow i wh (xc (R k) wh) v re))) x = some (.inr (0, [.ref aI, .int (nI n), .ref aC, .int (nI nc), .ref aJ, .ref aW, .ref aB, .ref aP])) := wd_uk b1 ne_31
                have h_45 : (wd_up σ q_27 (xC (crow i wh (xc (R k) wh) v re))) aC = some (aQ T 3 200 fC) := wd_uk b3 ne_33
                have h_46 : (wd_up σ q_27 (xC (crow i wh (xc (R k) wh) v re))) (ia k) = some (xI (R k) (aa (2 * k)) (aa (2 * k + 1))) := wd_uk g2 ne_35
                have hlt : nc < 200 := (nI_ltI (a := nc) (b := 200) (by omega) (by decide)).mp c_24
                refine wd_astq C h 3 rfl h_45 hqc rfl (vp_in_nI hlt (by decide)) d_F_correct_123 (fun H locs h => ?_)
                have h : wd_C D T A s H locs (wd_up (wd_up σ q_27 (xC (crow i wh (xc (R k) wh) v re))) aC (.inl (T 3, 200, .inr (.inr (.inr (.inr (va_up fC (nI nc).toNatClampNeg (some q_27)))))))) := h
                have h_47 : (wd_up (wd_up σ q_27 (xC (crow i wh (xc (R k) wh) v re))) aC (.inl (T 3, 200, .inr (.inr (.inr (.inr (va_up fC (nI nc).toNatClampNeg (some q_27)))))))) aC = some (.inl (T 3, 200, .inr (.inr (.inr (.inr (va_up fC (nI nc).toNatClampNeg (some q_27))))))) := wd_us _ _ _
                have h_48 : (wd_up (wd_up σ q_27 (xC (crow i wh (xc (R k) wh) v re))) aC (.inl (T 3, 200, .inr (.inr (.inr (.inr (va_up fC (nI nc).toNatClampNeg (some q_27)))))))) x = some (.inr (0, [.ref aI, .int (nI n), .ref aC, .int (nI nc), .ref aJ, .ref aW, .ref aB, .ref aP])) := wd_uk h_44 (wd_ne h_44 h_45 (by simp))
                have h_49 : (wd_up (wd_up σ q_27 (xC (crow i wh (xc (R k) wh) v re))) aC (.inl (T 3, 200, .inr (.inr (.inr (.inr (va_up fC (nI nc).toNatClampNeg (some q_27)))))))) (ia k) = some (xI (R k) (aa (2 * k)) (aa (2 * k + 1))) := wd_uk h_46 (wd_ne h_46 h_45 (by simp))
                have h_50 : (wd_up (wd_up σ q_27 (xC (crow i wh (xc (R k) wh) v re))) aC (.inl (T 3, 200, .inr (.inr (.inr (.inr (va_up fC (nI nc).toNatClampNeg (some q_27)))))))) q_27 = some (xC (crow i wh (xc (R k) wh) v re)) := wd_uk hqc (Ne.symm ne_33)
                refine lv_aload_n hx hb d_F_correct_124 rfl (lv_at hl 1 rfl) ?_
                refine lv_dup hx hb d_F_correct_125 rfl ?_
                refine wd_get C h kc_F h_48 3 (by decide) lk_F_25 rfl d_F_correct_126 ?_
                refine lv_iconst (v := 1) hx hb d_F_correct_129 (by decide) ?_
                refine lv_iadd hx hb d_F_correct_130 ?_
                refine wd_put C h kc_F h_48 3 (by decide) lk_F_25 rfl (by rfl) (by rfl) (Nat.le_of_ble_eq_true rfl) d_F_correct_131 (fun H locs h => ?_)
                have h : wd_C D T A s H locs (wd_up (wd_up (wd_up σ q_27 (xC (crow i wh (xc (R k) wh) v re))) aC (.inl (T 3, 200, .inr (.inr (.inr (.inr (va_up fC (nI nc).toNatClampNeg (some q_27)))))))) x (.inr (0, [.ref aI, .int (nI n), .ref aC, .int ((nI nc) + 1), .ref aJ, .ref aW, .ref aB, .ref aP]))) := h
                have h_51 : (wd_up (wd_up (wd_up σ q_27 (xC (crow i wh (xc (R k) wh) v re))) aC (.inl (T 3, 200, .inr (.inr (.inr (.inr (va_up fC (nI nc).toNatClampNeg (some q_27)))))))) x (.inr (0, [.ref aI, .int (nI n), .ref aC, .int ((nI nc) + 1), .ref aJ, .ref aW, .ref aB, .ref aP]))) x = some (.inr (0, [.ref aI, .int (nI n), .ref aC, .int ((nI nc) + 1), .ref aJ, .ref aW, .ref aB, .ref aP])) := wd_us _ _ _
                have h_52 : (wd_up (wd_up (wd_up σ q_27 (xC (crow i wh (xc (R k) wh) v re))) aC (.inl (T 3, 200, .inr (.inr (.inr (.inr (va_up fC (nI nc).toNatClampNeg (some q_27)))))))) x (.inr (0, [.ref aI, .int (nI n), .ref aC, .int ((nI nc) + 1), .ref aJ, .ref aW, .ref aB, .ref aP]))) aC = some (.inl (T 3, 200, .inr (.inr (.inr (.inr (va_up fC (nI nc).toNatClampNeg (some q_27))))))) := wd_uk h_47 (wd_ne h_47 h_48 (by simp))
                have h_53 : (wd_up (wd_up (wd_up σ q_27 (xC (crow i wh (xc (R k) wh) v re))) aC (.inl (T 3, 200, .inr (.inr (.inr (.inr (va_up fC (nI nc).toNatClampNeg (some q_27)))))))) x (.inr (0, [.ref aI, .int (nI n), .ref aC, .int ((nI nc) + 1), .ref aJ, .ref aW, .ref aB, .ref aP]))) (ia k) = some (xI (R k) (aa (2 * k)) (aa (2 * k + 1))) := wd_uk h_49 (wd_ne h_49 h_48 (by simp))
                have h_54 : (wd_up (wd_up (wd_up σ q_27 (xC (crow i wh (xc (R k) wh) v re))) aC (.inl (T 3, 200, .inr (.inr (.inr (.inr (va_up fC (nI nc).toNatClampNeg (some q_27)))))))) x (.inr (0, [.ref aI, .int (nI n), .ref aC, .int ((nI nc) + 1), .ref aJ, .ref aW, .ref aB, .ref aP]))) q_27 = some (xC (crow i wh (xc (R k) wh) v re)) := wd_uk h_50 (Ne.symm ne_31)
                refine lv_aload hx hb d_F_correct_134 (lv_at hl 0 rfl) ?_
                refine lv_iload_n hx hb d_F_correct_136 rfl (lv_at hl 3 rfl) ?_
                refine lv_iload_n hx hb d_F_correct_137 rfl (lv_at hl 4 rfl) ?_
                refine wd_cv h (wd_rVN (rest := []) (st0 := [.int v, .int wh, .ref (ia k)]) C h kc_I h_53 k_I_become wm_I_become wz_I_become lk_F_151 (c_I_become l D T A (wd_up (wd_up (wd_up σ q_27 (xC (crow i wh (xc (R k) wh) v re))) aC (.inl (T 3, 200, .inr (.inr (.inr (.inr (va_up fC (nI nc).toNatClampNeg (some q_27)))))))) x (.inr (0, [.ref aI, .int (nI n), .ref aC, .int ((nI nc) + 1), .ref aJ, .ref aW, .ref aB, .ref aP]))) (ia k) (R k) (aa (2 * k)) (aa (2 * k + 1)) h_53 wh v (xm0_k (hok k hk) c_11)) rfl rfl ⟨Nat.le_of_ble_eq_true rfl, Nat.le_of_ble_eq_true rfl⟩ rfl hl.1 rfl (Nat.le_of_ble_eq_true rfl) d_F_correct_138 ⟨Nat.le_of_ble_eq_true rfl, Nat.le_of_ble_eq_true rfl⟩) (fun σ_56 H locs hp_57 h => ?_)
                rw [hp_57] at h
                have h : wd_C D T A s H locs (wd_up (wd_up (wd_up (wd_up σ q_27 (xC (crow i wh (xc (R k) wh) v re))) aC (.inl (T 3, 200, .inr (.inr (.inr (.inr (va_up fC (nI nc).toNatClampNeg (some q_27)))))))) x (.inr (0, [.ref aI, .int (nI n), .ref aC, .int ((nI nc) + 1), .ref aJ, .ref aW, .ref aB, .ref aP]))) (ia k) (xI (xm (R k) wh v) (aa (2 * k)) (aa (2 * k + 1)))) := h
                have h_58 : (wd_up (wd_up (wd_up (wd_up σ q_27 (xC (crow i wh (xc (R k) wh) v re))) aC (.inl (T 3, 200, .inr (.inr (.inr (.inr (va_up fC (nI nc).toNatClampNeg (some q_27)))))))) x (.inr (0, [.ref aI, .int (nI n), .ref aC, .int ((nI nc) + 1), .ref aJ, .ref aW, .ref aB, .ref aP]))) (ia k) (xI (xm (R k) wh v) (aa (2 * k)) (aa (2 * k + 1)))) (ia k) = some (xI (xm (R k) wh v) (aa (2 * k)) (aa (2 * k + 1))) := wd_us _ _ _
                have h_59 : (wd_up (wd_up (wd_up (wd_up σ q_27 (xC (crow i wh (xc (R k) wh) v re))) aC (.inl (T 3, 200, .inr (.inr (.inr (.inr (va_up fC (nI nc).toNatClampNeg (some q_27)))))))) x (.inr (0, [.ref aI, .int (nI n), .ref aC, .int ((nI nc) + 1), .ref aJ, .ref aW, .ref aB, .ref aP]))) (ia k) (xI (xm (R k) wh v) (aa (2 * k)) (aa (2 * k + 1)))) x = some (.inr (0, [.ref aI, .int (nI n), .ref aC, .int ((nI nc) + 1), .ref aJ, .ref aW, .ref aB, .ref aP])) := wd_uk h_51 (wd_ne h_51 h_53 (by simp))
                have h_60 : (wd_up (wd_up (wd_up (wd_up σ q_27 (xC (crow i wh (xc (R k) wh) v re))) aC (.inl (T 3, 200, .inr (.inr (.inr (.inr (va_up fC (nI nc).toNatClampNeg (some q_27)))))))) x (.inr (0, [.ref aI, .int (nI n), .ref aC, .int ((nI nc) + 1), .ref aJ, .ref aW, .ref aB, .ref aP]))) (ia k) (xI (xm (R k) wh v) (aa (2 * k)) (aa (2 * k + 1)))) aC = some (.inl (T 3, 200, .inr (.inr (.inr (.inr (va_up fC (nI nc).toNatClampNeg (some q_27))))))) := wd_uk h_52 (wd_ne h_52 h_53 (by simp))
                have h_61 : (wd_up (wd_up (wd_up (wd_up σ q_27 (xC (crow i wh (xc (R k) wh) v re))) aC (.inl (T 3, 200, .inr (.inr (.inr (.inr (va_up fC (nI nc).toNatClampNeg (some q_27)))))))) x (.inr (0, [.ref aI, .int (nI n), .ref aC, .int ((nI nc) + 1), .ref aJ, .ref aW, .ref aB, .ref aP]))) (ia k) (xI (xm (R k) wh v) (aa (2 * k)) (aa (2 * k + 1)))) q_27 = some (xC (crow i wh (xc (R k) wh) v re)) := wd_uk h_54 (Ne.symm ne_35)
                refine lv_aload_n hx hb d_F_correct_141 rfl (lv_at hl 1 rfl) ?_
                refine wd_get C h kc_F h_59 3 (by decide) lk_F_25 rfl d_F_correct_142 ?_
                exact wd_iret C hr hlocks h (by unfold o_corr; rw [show o_find (n, R, nc, CR, wg, Q).1 i = some k from hf]; simp only [eq_false c_11, eq_false c_17, eq_true c_23, eq_true c_24, eq_false c_25, eq_false c_26, ↓reduceIte, true_and, false_and, not_true_eq_false, not_false_eq_true, and_true, and_false]; exact ⟨nI_1 nc, hB.corr (q := q_27) (r := xm (R k) wh v) (c := crow i wh (xc (R k) wh) v re) hlt hk hq_28 h_61 (by rw [← nI_1]; exact h_59) (h_60.trans (by rw [nI_clamp (show nc < 2 ^ 31 by omega)])) h_58 (fun b h1 h2 h3 h4 => by rw [wd_un _ _ h4, wd_un _ _ h2, wd_un _ _ h3, wd_un _ _ h1]) (xm_lo (by decide)) (xm_lo (by decide)) (fun j hj => xm_lo (by omega))⟩) (Nat.le_of_ble_eq_true rfl) (Nat.le_of_ble_eq_true rfl) d_F_correct_145
              · refine lv_iload_n hx hb d_F_correct_85 rfl (lv_at hl 4 rfl) ?_
                refine wd_gets C h ks_bs lk_F_54 d_F_correct_86 (fun t_62 ht_63 => ?_)
                refine lv_iconst (v := 3) hx hb d_F_correct_89 (by decide) ?_
                refine wd_ti C h ht_63 (by unfold vp_in; decide) d_F_correct_90 ?_
                refine W.eq (g2 := F0 m 91 ls (.int 3 :: .int v :: [])) rfl ?_
                refine lv_icmp_le (tgt := 97) hx hb d_F_correct_91 (by decide) (fun c_64 => ?_) (fun c_64 => ?_)
                · refine lv_aload_n hx hb d_F_correct_97 rfl (lv_at hl 1 rfl) ?_
                  refine wd_get C h kc_F b1 2 (by decide) lk_F_21 rfl d_F_correct_98 ?_
                  refine lv_aload_n hx hb d_F_correct_101 rfl (lv_at hl 1 rfl) ?_
                  refine wd_get C h kc_F b1 3 (by decide) lk_F_25 rfl d_F_correct_102 ?_
                  refine wd_new (fs := [.int 0, .int 0, .int 0, .int 0, .int 0]) C h kc_C lk_F_19 wn_C wi_C df_C (Nat.le_of_ble_eq_true rfl) (Nat.le_of_ble_eq_true rfl) d_F_correct_105 (fun q_65 H hq_66 h => ?_)
                  have ne_69 : x ≠ q_65 := wd_nn b1 hq_66
                  have h_68 : (wd_up σ q_65 (.inr (2, [.int 0, .int 0, .int 0, .int 0, .int 0]))) x = some (.inr (0, [.ref aI, .int (nI n), .ref aC, .int (nI nc), .ref aJ, .ref aW, .ref aB, .ref aP])) := wd_uk b1 ne_69
                  have ne_71 : aC ≠ q_65 := wd_nn b3 hq_66
                  have h_70 : (wd_up σ q_65 (.inr (2, [.int 0, .int 0, .int 0, .int 0, .int 0]))) aC = some (aQ T 3 200 fC) := wd_uk b3 ne_71
                  have ne_73 : (ia k) ≠ q_65 := wd_nn g2 hq_66
                  have h_72 : (wd_up σ q_65 (.inr (2, [.int 0, .int 0, .int 0, .int 0, .int 0]))) (ia k) = some (xI (R k) (aa (2 * k)) (aa (2 * k + 1))) := wd_uk g2 ne_73
                  have h_67 : (wd_up σ q_65 (.inr (2, [.int 0, .int 0, .int 0, .int 0, .int 0]))) q_65 = some (.inr (2, [.int 0, .int 0, .int 0, .int 0, .int 0])) := wd_us _ _ _
                  refine lv_dup hx hb d_F_correct_108 rfl ?_
                  refine lv_iload_n hx hb d_F_correct_109 rfl (lv_at hl 2 rfl) ?_
                  refine lv_iload_n hx hb d_F_correct_110 rfl (lv_at hl 3 rfl) ?_
                  refine lv_aload hx hb d_F_correct_111 (lv_at hl 0 rfl) ?_
                  refine lv_iload_n hx hb d_F_correct_113 rfl (lv_at hl 3 rfl) ?_
                  refine wd_ci h (wd_rVN (rest := [.int wh, .int i, .ref q_65, .ref q_65, .int (nI nc), .ref aC]) (st0 := [.int wh, .ref (ia k), .int wh, .int i, .ref q_65, .ref q_65, .int (nI nc), .ref aC]) C h kc_I h_72 k_I_correctable wm_I_correctable wz_I_correctable lk_F_145 (c_I_correctable l D T A (wd_up σ q_65 (.inr (2, [.int 0, .int 0, .int 0, .int 0, .int 0]))) (ia k) (R k) (aa (2 * k)) (aa (2 * k + 1)) h_72 wh) rfl rfl ⟨Nat.le_of_ble_eq_true rfl, Nat.le_of_ble_eq_true rfl⟩ rfl hl.1 rfl (Nat.le_of_ble_eq_true rfl) d_F_correct_114 ⟨Nat.le_of_ble_eq_true rfl, Nat.le_of_ble_eq_true rfl⟩) (fun r_74 σ_75 H locs hp_76 h => ?_)
                  obtain ⟨e_77, es_78⟩ := hp_76
                  rw [es_78] at h
                  subst e_77
                  refine lv_iload_n hx hb d_F_correct_117 rfl (lv_at hl 4 rfl) ?_
                  refine lv_iload hx hb d_F_correct_118 (lv_at hl 5 rfl) ?_
                  refine wd_cv h (wd_rIN (rest := [.ref q_65, .int (nI nc), .ref aC]) (st0 := [.int re, .int v, .int (xc (R k) wh), .int wh, .int i, .ref q_65, .ref q_65, .int (nI nc), .ref aC]) C h k_C_init wm_C_init rfl lk_F_148 (c_C_init l D T A (wd_up σ q_65 (.inr (2, [.int 0, .int 0, .int 0, .int 0, .int 0]))) q_65 h_67 i wh (xc (R k) wh) v re) rfl rfl ⟨Nat.le_of_ble_eq_true rfl, Nat.le_of_ble_eq_true rfl⟩ rfl hl.1 rfl (Nat.le_of_ble_eq_true rfl) d_F_correct_120 ⟨Nat.le_of_ble_eq_true rfl, Nat.le_of_ble_eq_true rfl⟩) (fun σ_80 H locs hp_81 h => ?_)
                  rw [wd_uu] at hp_81
                  rw [hp_81] at h
                  have hqc : (wd_up σ q_65 (xC (crow i wh (xc (R k) wh) v re))) q_65 = some (xC (crow i wh (xc (R k) wh) v re)) := wd_us _ _ _
                  have h_82 : (wd_up σ q_65 (xC (crow i wh (xc (R k) wh) v re))) x = some (.inr (0, [.ref aI, .int (nI n), .ref aC, .int (nI nc), .ref aJ, .ref aW, .ref aB, .ref aP])) := wd_uk b1 ne_69
                  have h_83 : (wd_up σ q_65 (xC (crow i wh (xc (R k) wh) v re))) aC = some (aQ T 3 200 fC) := wd_uk b3 ne_71
                  have h_84 : (wd_up σ q_65 (xC (crow i wh (xc (R k) wh) v re))) (ia k) = some (xI (R k) (aa (2 * k)) (aa (2 * k + 1))) := wd_uk g2 ne_73
                  have hlt : nc < 200 := (nI_ltI (a := nc) (b := 200) (by omega) (by decide)).mp c_24
                  refine wd_astq C h 3 rfl h_83 hqc rfl (vp_in_nI hlt (by decide)) d_F_correct_123 (fun H locs h => ?_)
                  have h : wd_C D T A s H locs (wd_up (wd_up σ q_65 (xC (crow i wh (xc (R k) wh) v re))) aC (.inl (T 3, 200, .inr (.inr (.inr (.inr (va_up fC (nI nc).toNatClampNeg (some q_65)))))))) := h
                  have h_85 : (wd_up (wd_up σ q_65 (xC (crow i wh (xc (R k) wh) v re))) aC (.inl (T 3, 200, .inr (.inr (.inr (.inr (va_up fC (nI nc).toNatClampNeg (some q_65)))))))) aC = some (.inl (T 3, 200, .inr (.inr (.inr (.inr (va_up fC (nI nc).toNatClampNeg (some q_65))))))) := wd_us _ _ _
                  have h_86 : (wd_up (wd_up σ q_65 (xC (crow i wh (xc (R k) wh) v re))) aC (.inl (T 3, 200, .inr (.inr (.inr (.inr (va_up fC (nI nc).toNatClampNeg (some q_65)))))))) x = some (.inr (0, [.ref aI, .int (nI n), .ref aC, .int (nI nc), .ref aJ, .ref aW, .ref aB, .ref aP])) := wd_uk h_82 (wd_ne h_82 h_83 (by simp))
                  have h_87 : (wd_up (wd_up σ q_65 (xC (crow i wh (xc (R k) wh) v re))) aC (.inl (T 3, 200, .inr (.inr (.inr (.inr (va_up fC (nI nc).toNatClampNeg (some q_65)))))))) (ia k) = some (xI (R k) (aa (2 * k)) (aa (2 * k + 1))) := wd_uk h_84 (wd_ne h_84 h_83 (by simp))
                  have h_88 : (wd_up (wd_up σ q_65 (xC (crow i wh (xc (R k) wh) v re))) aC (.inl (T 3, 200, .inr (.inr (.inr (.inr (va_up fC (nI nc).toNatClampNeg (some q_65)))))))) q_65 = some (xC (crow i wh (xc (R k) wh) v re)) := wd_uk hqc (Ne.symm ne_71)
                  refine lv_aload_n hx hb d_F_correct_124 rfl (lv_at hl 1 rfl) ?_
                  refine lv_dup hx hb d_F_correct_125 rfl ?_
                  refine wd_get C h kc_F h_86 3 (by decide) lk_F_25 rfl d_F_correct_126 ?_
                  refine lv_iconst (v := 1) hx hb d_F_correct_129 (by decide) ?_
                  refine lv_iadd hx hb d_F_correct_130 ?_
                  refine wd_put C h kc_F h_86 3 (by decide) lk_F_25 rfl (by rfl) (by rfl) (Nat.le_of_ble_eq_true rfl) d_F_correct_131 (fun H locs h => ?_)
                  have h : wd_C D T A s H locs (wd_up (wd_up (wd_up σ q_65 (xC (crow i wh (xc (R k) wh) v re))) aC (.inl (T 3, 200, .inr (.inr (.inr (.inr (va_up fC (nI nc).toNatClampNeg (some q_65)))))))) x (.inr (0, [.ref aI, .int (nI n), .ref aC, .int ((nI nc) + 1), .ref aJ, .ref aW, .ref aB, .ref aP]))) := h
                  have h_89 : (wd_up (wd_up (wd_up σ q_65 (xC (crow i wh (xc (R k) wh) v re))) aC (.inl (T 3, 200, .inr (.inr (.inr (.inr (va_up fC (nI nc).toNatClampNeg (some q_65)))))))) x (.inr (0, [.ref aI, .int (nI n), .ref aC, .int ((nI nc) + 1), .ref aJ, .ref aW, .ref aB, .ref aP]))) x = some (.inr (0, [.ref aI, .int (nI n), .ref aC, .int ((nI nc) + 1), .ref aJ, .ref aW, .ref aB, .ref aP])) := wd_us _ _ _
                  have h_90 : (wd_up (wd_up (wd_up σ q_65 (xC (crow i wh (xc (R k) wh) v re))) aC (.inl (T 3, 200, .inr (.inr (.inr (.inr (va_up fC (nI nc).toNatClampNeg (some q_65)))))))) x (.inr (0, [.ref aI, .int (nI n), .ref aC, .int ((nI nc) + 1), .ref aJ, .ref aW, .ref aB, .ref aP]))) aC = some (.inl (T 3, 200, .inr (.inr (.inr (.inr (va_up fC (nI nc).toNatClampNeg (some q_65))))))) := wd_uk h_85 (wd_ne h_85 h_86 (by simp))
                  have h_91 : (wd_up (wd_up (wd_up σ q_65 (xC (crow i wh (xc (R k) wh) v re))) aC (.inl (T 3, 200, .inr (.inr (.inr (.inr (va_up fC (nI nc).toNatClampNeg (some q_65)))))))) x (.inr (0, [.ref aI, .int (nI n), .ref aC, .int ((nI nc) + 1), .ref aJ, .ref aW, .ref aB, .ref aP]))) (ia k) = some (xI (R k) (aa (2 * k)) (aa (2 * k + 1))) := wd_uk h_87 (wd_ne h_87 h_86 (by simp))
                  have h_92 : (wd_up (wd_up (wd_up σ q_65 (xC (crow i wh (xc (R k) wh) v re))) aC (.inl (T 3, 200, .inr (.inr (.inr (.inr (va_up fC (nI nc).toNatClampNeg (some q_65)))))))) x (.inr (0, [.ref aI, .int (nI n), .ref aC, .int ((nI nc) + 1), .ref aJ, .ref aW, .ref aB, .ref aP]))) q_65 = some (xC (crow i wh (xc (R k) wh) v re)) := wd_uk h_88 (Ne.symm ne_69)
                  refine lv_aload hx hb d_F_correct_134 (lv_at hl 0 rfl) ?_
                  refine lv_iload_n hx hb d_F_correct_136 rfl (lv_at hl 3 rfl) ?_
                  refine lv_iload_n hx hb d_F_correct_137 rfl (lv_at hl 4 rfl) ?_
                  refine wd_cv h (wd_rVN (rest := []) (st0 := [.int v, .int wh, .ref (ia k)]) C h kc_I h_91 k_I_become wm_I_become wz_I_become lk_F_151 (c_I_become l D T A (wd_up (wd_up (wd_up σ q_65 (xC (crow i wh (xc (R k) wh) v re))) aC (.inl (T 3, 200, .inr (.inr (.inr (.inr (va_up fC (nI nc).toNatClampNeg (some q_65)))))))) x (.inr (0, [.ref aI, .int (nI n), .ref aC, .int ((nI nc) + 1), .ref aJ, .ref aW, .ref aB, .ref aP]))) (ia k) (R k) (aa (2 * k)) (aa (2 * k + 1)) h_91 wh v (xm0_k (hok k hk) c_11)) rfl rfl ⟨Nat.le_of_ble_eq_true rfl, Nat.le_of_ble_eq_true rfl⟩ rfl hl.1 rfl (Nat.le_of_ble_eq_true rfl) d_F_correct_138 ⟨Nat.le_of_ble_eq_true rfl, Nat.le_of_ble_eq_true rfl⟩) (fun σ_94 H locs hp_95 h => ?_)
                  rw [hp_95] at h
                  have h : wd_C D T A s H locs (wd_up (wd_up (wd_up (wd_up σ q_65 (xC (crow i wh (xc (R k) wh) v re))) aC (.inl (T 3, 200, .inr (.inr (.inr (.inr (va_up fC (nI nc).toNatClampNeg (some q_65)))))))) x (.inr (0, [.ref aI, .int (nI n), .ref aC, .int ((nI nc) + 1), .ref aJ, .ref aW, .ref aB, .ref aP]))) (ia k) (xI (xm (R k) wh v) (aa (2 * k)) (aa (2 * k + 1)))) := h
                  have h_96 : (wd_up (wd_up (wd_up (wd_up σ q_65 (xC (crow i wh (xc (R k) wh) v re))) aC (.inl (T 3, 200, .inr (.inr (.inr (.inr (va_up fC (nI nc).toNatClampNeg (some q_65)))))))) x (.inr (0, [.ref aI, .int (nI n), .ref aC, .int ((nI nc) + 1), .ref aJ, .ref aW, .ref aB, .ref aP]))) (ia k) (xI (xm (R k) wh v) (aa (2 * k)) (aa (2 * k + 1)))) (ia k) = some (xI (xm (R k) wh v) (aa (2 * k)) (aa (2 * k + 1))) := wd_us _ _ _
                  have h_97 : (wd_up (wd_up (wd_up (wd_up σ q_65 (xC (crow i wh (xc (R k) wh) v re))) aC (.inl (T 3, 200, .inr (.inr (.inr (.inr (va_up fC (nI nc).toNatClampNeg (some q_65)))))))) x (.inr (0, [.ref aI, .int (nI n), .ref aC, .int ((nI nc) + 1), .ref aJ, .ref aW, .ref aB, .ref aP]))) (ia k) (xI (xm (R k) wh v) (aa (2 * k)) (aa (2 * k + 1)))) x = some (.inr (0, [.ref aI, .int (nI n), .ref aC, .int ((nI nc) + 1), .ref aJ, .ref aW, .ref aB, .ref aP])) := wd_uk h_89 (wd_ne h_89 h_91 (by simp))
                  have h_98 : (wd_up (wd_up (wd_up (wd_up σ q_65 (xC (crow i wh (xc (R k) wh) v re))) aC (.inl (T 3, 200, .inr (.inr (.inr (.inr (va_up fC (nI nc).toNatClampNeg (some q_65)))))))) x (.inr (0, [.ref aI, .int (nI n), .ref aC, .int ((nI nc) + 1), .ref aJ, .ref aW, .ref aB, .ref aP]))) (ia k) (xI (xm (R k) wh v) (aa (2 * k)) (aa (2 * k + 1)))) aC = some (.inl (T 3, 200, .inr (.inr (.inr (.inr (va_up fC (nI nc).toNatClampNeg (some q_65))))))) := wd_uk h_90 (wd_ne h_90 h_91 (by simp))
                  have h_99 : (wd_up (wd_up (wd_up (wd_up σ q_65 (xC (crow i wh (xc (R k) wh) v re))) aC (.inl (T 3, 200, .inr (.inr (.inr (.inr (va_up fC (nI nc).toNatClampNeg (some q_65)))))))) x (.inr (0, [.ref aI, .int (nI n), .ref aC, .int ((nI nc) + 1), .ref aJ, .ref aW, .ref aB, .ref aP]))) (ia k) (xI (xm (R k) wh v) (aa (2 * k)) (aa (2 * k + 1)))) q_65 = some (xC (crow i wh (xc (R k) wh) v re)) := wd_uk h_92 (Ne.symm ne_73)
                  refine lv_aload_n hx hb d_F_correct_141 rfl (lv_at hl 1 rfl) ?_
                  refine wd_get C h kc_F h_97 3 (by decide) lk_F_25 rfl d_F_correct_142 ?_
                  exact wd_iret C hr hlocks h (by unfold o_corr; rw [show o_find (n, R, nc, CR, wg, Q).1 i = some k from hf]; simp only [eq_false c_11, eq_false c_17, eq_true c_23, eq_true c_24, eq_false c_25, eq_true c_26, eq_true c_64, ↓reduceIte, true_and, false_and, not_true_eq_false, not_false_eq_true, and_true, and_false]; exact ⟨nI_1 nc, hB.corr (q := q_65) (r := xm (R k) wh v) (c := crow i wh (xc (R k) wh) v re) hlt hk hq_66 h_99 (by rw [← nI_1]; exact h_97) (h_98.trans (by rw [nI_clamp (show nc < 2 ^ 31 by omega)])) h_96 (fun b h1 h2 h3 h4 => by rw [wd_un _ _ h4, wd_un _ _ h2, wd_un _ _ h3, wd_un _ _ h1]) (xm_lo (by decide)) (xm_lo (by decide)) (fun j hj => xm_lo (by omega))⟩) (Nat.le_of_ble_eq_true rfl) (Nat.le_of_ble_eq_true rfl) d_F_correct_145
                · refine lv_bipush (v := (-110)) hx hb d_F_correct_94 (by decide) ?_
                  exact wd_iret C hr hlocks h (by unfold o_corr; rw [show o_find (n, R, nc, CR, wg, Q).1 i = some k from hf]; simp only [eq_false c_11, eq_false c_17, eq_true c_23, eq_true c_24, eq_false c_25, eq_true c_26, eq_false c_64, ↓reduceIte, true_and, false_and, not_true_eq_false, not_false_eq_true, and_true, and_false]; first | exact ⟨trivial, hB.rx⟩ | exact hB.rx) (Nat.le_of_ble_eq_true rfl) (Nat.le_of_ble_eq_true rfl) d_F_correct_96
            · refine lv_iload_n hx hb d_F_correct_68 rfl (lv_at hl 4 rfl) ?_
              refine wd_gets C h ks_bw lk_F_51 d_F_correct_69 (fun t_100 ht_101 => ?_)
              refine lv_iconst (v := 3) hx hb d_F_correct_72 (by decide) ?_
              refine wd_ti C h ht_101 (by unfold vp_in; decide) d_F_correct_73 ?_
              refine W.eq (g2 := F0 m 74 ls (.int 31500 :: .int v :: [])) rfl ?_
              refine lv_icmp_le (tgt := 80) hx hb d_F_correct_74 (by decide) (fun c_102 => ?_) (fun c_102 => ?_)
              · refine lv_iload_n hx hb d_F_correct_80 rfl (lv_at hl 3 rfl) ?_
                refine lv_iconst (v := 2) hx hb d_F_correct_81 (by decide) ?_
                refine lv_icmp_ne (tgt := 97) hx hb d_F_correct_82 (by decide) (fun c_103 => ?_) (fun c_103 => ?_)
                · refine lv_aload_n hx hb d_F_correct_97 rfl (lv_at hl 1 rfl) ?_
                  refine wd_get C h kc_F b1 2 (by decide) lk_F_21 rfl d_F_correct_98 ?_
                  refine lv_aload_n hx hb d_F_correct_101 rfl (lv_at hl 1 rfl) ?_
                  refine wd_get C h kc_F b1 3 (by decide) lk_F_25 rfl d_F_correct_102 ?_
                  refine wd_new (fs := [.int 0, .int 0, .int 0, .int 0, .int 0]) C h kc_C lk_F_19 wn_C wi_C df_C (Nat.le_of_ble_eq_true rfl) (Nat.le_of_ble_eq_true rfl) d_F_correct_105 (fun q_104 H hq_105 h => ?_)
                  have ne_108 : x ≠ q_104 := wd_nn b1 hq_105
                  have h_107 : (wd_up σ q_104 (.inr (2, [.int 0, .int 0, .int 0, .int 0, .int 0]))) x = some (.inr (0, [.ref aI, .int (nI n), .ref aC, .int (nI nc), .ref aJ, .ref aW, .ref aB, .ref aP])) := wd_uk b1 ne_108
                  have ne_110 : aC ≠ q_104 := wd_nn b3 hq_105
                  have h_109 : (wd_up σ q_104 (.inr (2, [.int 0, .int 0, .int 0, .int 0, .int 0]))) aC = some (aQ T 3 200 fC) := wd_uk b3 ne_110
                  have ne_112 : (ia k) ≠ q_104 := wd_nn g2 hq_105
                  have h_111 : (wd_up σ q_104 (.inr (2, [.int 0, .int 0, .int 0, .int 0, .int 0]))) (ia k) = some (xI (R k) (aa (2 * k)) (aa (2 * k + 1))) := wd_uk g2 ne_112
                  have h_106 : (wd_up σ q_104 (.inr (2, [.int 0, .int 0, .int 0, .int 0, .int 0]))) q_104 = some (.inr (2, [.int 0, .int 0, .int 0, .int 0, .int 0])) := wd_us _ _ _
                  refine lv_dup hx hb d_F_correct_108 rfl ?_
                  refine lv_iload_n hx hb d_F_correct_109 rfl (lv_at hl 2 rfl) ?_
                  refine lv_iload_n hx hb d_F_correct_110 rfl (lv_at hl 3 rfl) ?_
                  refine lv_aload hx hb d_F_correct_111 (lv_at hl 0 rfl) ?_
                  refine lv_iload_n hx hb d_F_correct_113 rfl (lv_at hl 3 rfl) ?_
                  refine wd_ci h (wd_rVN (rest := [.int wh, .int i, .ref q_104, .ref q_104, .int (nI nc), .ref aC]) (st0 := [.int wh, .ref (ia k), .int wh, .int i, .ref q_104, .ref q_104, .int (nI nc), .ref aC]) C h kc_I h_111 k_I_correctable wm_I_correctable wz_I_correctable lk_F_145 (c_I_correctable l D T A (wd_up σ q_104 (.inr (2, [.int 0, .int 0, .int 0, .int 0, .int 0]))) (ia k) (R k) (aa (2 * k)) (aa (2 * k + 1)) h_111 wh) rfl rfl ⟨Nat.le_of_ble_eq_true rfl, Nat.le_of_ble_eq_true rfl⟩ rfl hl.1 rfl (Nat.le_of_ble_eq_true rfl) d_F_correct_114 ⟨Nat.le_of_ble_eq_true rfl, Nat.le_of_ble_eq_true rfl⟩) (fun r_113 σ_114 H locs hp_115 h => ?_)
                  obtain ⟨e_116, es_117⟩ := hp_115
                  rw [es_117] at h
                  subst e_116
                  refine lv_iload_n hx hb d_F_correct_117 rfl (lv_at hl 4 rfl) ?_
                  refine lv_iload hx hb d_F_correct_118 (lv_at hl 5 rfl) ?_
                  refine wd_cv h (wd_rIN (rest := [.ref q_104, .int (nI nc), .ref aC]) (st0 := [.int re, .int v, .int (xc (R k) wh), .int wh, .int i, .ref q_104, .ref q_104, .int (nI nc), .ref aC]) C h k_C_init wm_C_init rfl lk_F_148 (c_C_init l D T A (wd_up σ q_104 (.inr (2, [.int 0, .int 0, .int 0, .int 0, .int 0]))) q_104 h_106 i wh (xc (R k) wh) v re) rfl rfl ⟨Nat.le_of_ble_eq_true rfl, Nat.le_of_ble_eq_true rfl⟩ rfl hl.1 rfl (Nat.le_of_ble_eq_true rfl) d_F_correct_120 ⟨Nat.le_of_ble_eq_true rfl, Nat.le_of_ble_eq_true rfl⟩) (fun σ_119 H locs hp_120 h => ?_)
                  rw [wd_uu] at hp_120
                  rw [hp_120] at h
                  have hqc : (wd_up σ q_104 (xC (crow i wh (xc (R k) wh) v re))) q_104 = some (xC (crow i wh (xc (R k) wh) v re)) := wd_us _ _ _
                  have h_121 : (wd_up σ q_104 (xC (crow i wh (xc (R k) wh) v re))) x = some (.inr (0, [.ref aI, .int (nI n), .ref aC, .int (nI nc), .ref aJ, .ref aW, .ref aB, .ref aP])) := wd_uk b1 ne_108
                  have h_122 : (wd_up σ q_104 (xC (crow i wh (xc (R k) wh) v re))) aC = some (aQ T 3 200 fC) := wd_uk b3 ne_110
                  have h_123 : (wd_up σ q_104 (xC (crow i wh (xc (R k) wh) v re))) (ia k) = some (xI (R k) (aa (2 * k)) (aa (2 * k + 1))) := wd_uk g2 ne_112
                  have hlt : nc < 200 := (nI_ltI (a := nc) (b := 200) (by omega) (by decide)).mp c_24
                  refine wd_astq C h 3 rfl h_122 hqc rfl (vp_in_nI hlt (by decide)) d_F_correct_123 (fun H locs h => ?_)
                  have h : wd_C D T A s H locs (wd_up (wd_up σ q_104 (xC (crow i wh (xc (R k) wh) v re))) aC (.inl (T 3, 200, .inr (.inr (.inr (.inr (va_up fC (nI nc).toNatClampNeg (some q_104)))))))) := h
                  have h_124 : (wd_up (wd_up σ q_104 (xC (crow i wh (xc (R k) wh) v re))) aC (.inl (T 3, 200, .inr (.inr (.inr (.inr (va_up fC (nI nc).toNatClampNeg (some q_104)))))))) aC = some (.inl (T 3, 200, .inr (.inr (.inr (.inr (va_up fC (nI nc).toNatClampNeg (some q_104))))))) := wd_us _ _ _
                  have h_125 : (wd_up (wd_up σ q_104 (xC (crow i wh (xc (R k) wh) v re))) aC (.inl (T 3, 200, .inr (.inr (.inr (.inr (va_up fC (nI nc).toNatClampNeg (some q_104)))))))) x = some (.inr (0, [.ref aI, .int (nI n), .ref aC, .int (nI nc), .ref aJ, .ref aW, .ref aB, .ref aP])) := wd_uk h_121 (wd_ne h_121 h_122 (by simp))
                  have h_126 : (wd_up (wd_up σ q_104 (xC (crow i wh (xc (R k) wh) v re))) aC (.inl (T 3, 200, .inr (.inr (.inr (.inr (va_up fC (nI nc).toNatClampNeg (some q_104)))))))) (ia k) = some (xI (R k) (aa (2 * k)) (aa (2 * k + 1))) := wd_uk h_123 (wd_ne h_123 h_122 (by simp))
                  have h_127 : (wd_up (wd_up σ q_104 (xC (crow i wh (xc (R k) wh) v re))) aC (.inl (T 3, 200, .inr (.inr (.inr (.inr (va_up fC (nI nc).toNatClampNeg (some q_104)))))))) q_104 = some (xC (crow i wh (xc (R k) wh) v re)) := wd_uk hqc (Ne.symm ne_110)
                  refine lv_aload_n hx hb d_F_correct_124 rfl (lv_at hl 1 rfl) ?_
                  refine lv_dup hx hb d_F_correct_125 rfl ?_
                  refine wd_get C h kc_F h_125 3 (by decide) lk_F_25 rfl d_F_correct_126 ?_
                  refine lv_iconst (v := 1) hx hb d_F_correct_129 (by decide) ?_
                  refine lv_iadd hx hb d_F_correct_130 ?_
                  refine wd_put C h kc_F h_125 3 (by decide) lk_F_25 rfl (by rfl) (by rfl) (Nat.le_of_ble_eq_true rfl) d_F_correct_131 (fun H locs h => ?_)
                  have h : wd_C D T A s H locs (wd_up (wd_up (wd_up σ q_104 (xC (crow i wh (xc (R k) wh) v re))) aC (.inl (T 3, 200, .inr (.inr (.inr (.inr (va_up fC (nI nc).toNatClampNeg (some q_104)))))))) x (.inr (0, [.ref aI, .int (nI n), .ref aC, .int ((nI nc) + 1), .ref aJ, .ref aW, .ref aB, .ref aP]))) := h
                  have h_128 : (wd_up (wd_up (wd_up σ q_104 (xC (crow i wh (xc (R k) wh) v re))) aC (.inl (T 3, 200, .inr (.inr (.inr (.inr (va_up fC (nI nc).toNatClampNeg (some q_104)))))))) x (.inr (0, [.ref aI, .int (nI n), .ref aC, .int ((nI nc) + 1), .ref aJ, .ref aW, .ref aB, .ref aP]))) x = some (.inr (0, [.ref aI, .int (nI n), .ref aC, .int ((nI nc) + 1), .ref aJ, .ref aW, .ref aB, .ref aP])) := wd_us _ _ _
                  have h_129 : (wd_up (wd_up (wd_up σ q_104 (xC (crow i wh (xc (R k) wh) v re))) aC (.inl (T 3, 200, .inr (.inr (.inr (.inr (va_up fC (nI nc).toNatClampNeg (some q_104)))))))) x (.inr (0, [.ref aI, .int (nI n), .ref aC, .int ((nI nc) + 1), .ref aJ, .ref aW, .ref aB, .ref aP]))) aC = some (.inl (T 3, 200, .inr (.inr (.inr (.inr (va_up fC (nI nc).toNatClampNeg (some q_104))))))) := wd_uk h_124 (wd_ne h_124 h_125 (by simp))
                  have h_130 : (wd_up (wd_up (wd_up σ q_104 (xC (crow i wh (xc (R k) wh) v re))) aC (.inl (T 3, 200, .inr (.inr (.inr (.inr (va_up fC (nI nc).toNatClampNeg (some q_104)))))))) x (.inr (0, [.ref aI, .int (nI n), .ref aC, .int ((nI nc) + 1), .ref aJ, .ref aW, .ref aB, .ref aP]))) (ia k) = some (xI (R k) (aa (2 * k)) (aa (2 * k + 1))) := wd_uk h_126 (wd_ne h_126 h_125 (by simp))
                  have h_131 : (wd_up (wd_up (wd_up σ q_104 (xC (crow i wh (xc (R k) wh) v re))) aC (.inl (T 3, 200, .inr (.inr (.inr (.inr (va_up fC (nI nc).toNatClampNeg (some q_104)))))))) x (.inr (0, [.ref aI, .int (nI n), .ref aC, .int ((nI nc) + 1), .ref aJ, .ref aW, .ref aB, .ref aP]))) q_104 = some (xC (crow i wh (xc (R k) wh) v re)) := wd_uk h_127 (Ne.symm ne_108)
                  refine lv_aload hx hb d_F_correct_134 (lv_at hl 0 rfl) ?_
                  refine lv_iload_n hx hb d_F_correct_136 rfl (lv_at hl 3 rfl) ?_
                  refine lv_iload_n hx hb d_F_correct_137 rfl (lv_at hl 4 rfl) ?_
                  refine wd_cv h (wd_rVN (rest := []) (st0 := [.int v, .int wh, .ref (ia k)]) C h kc_I h_130 k_I_become wm_I_become wz_I_become lk_F_151 (c_I_become l D T A (wd_up (wd_up (wd_up σ q_104 (xC (crow i wh (xc (R k) wh) v re))) aC (.inl (T 3, 200, .inr (.inr (.inr (.inr (va_up fC (nI nc).toNatClampNeg (some q_104)))))))) x (.inr (0, [.ref aI, .int (nI n), .ref aC, .int ((nI nc) + 1), .ref aJ, .ref aW, .ref aB, .ref aP]))) (ia k) (R k) (aa (2 * k)) (aa (2 * k + 1)) h_130 wh v (xm0_k (hok k hk) c_11)) rfl rfl ⟨Nat.le_of_ble_eq_true rfl, Nat.le_of_ble_eq_true rfl⟩ rfl hl.1 rfl (Nat.le_of_ble_eq_true rfl) d_F_correct_138 ⟨Nat.le_of_ble_eq_true rfl, Nat.le_of_ble_eq_true rfl⟩) (fun σ_133 H locs hp_134 h => ?_)
                  rw [hp_134] at h
                  have h : wd_C D T A s H locs (wd_up (wd_up (wd_up (wd_up σ q_104 (xC (crow i wh (xc (R k) wh) v re))) aC (.inl (T 3, 200, .inr (.inr (.inr (.inr (va_up fC (nI nc).toNatClampNeg (some q_104)))))))) x (.inr (0, [.ref aI, .int (nI n), .ref aC, .int ((nI nc) + 1), .ref aJ, .ref aW, .ref aB, .ref aP]))) (ia k) (xI (xm (R k) wh v) (aa (2 * k)) (aa (2 * k + 1)))) := h
                  have h_135 : (wd_up (wd_up (wd_up (wd_up σ q_104 (xC (crow i wh (xc (R k) wh) v re))) aC (.inl (T 3, 200, .inr (.inr (.inr (.inr (va_up fC (nI nc).toNatClampNeg (some q_104)))))))) x (.inr (0, [.ref aI, .int (nI n), .ref aC, .int ((nI nc) + 1), .ref aJ, .ref aW, .ref aB, .ref aP]))) (ia k) (xI (xm (R k) wh v) (aa (2 * k)) (aa (2 * k + 1)))) (ia k) = some (xI (xm (R k) wh v) (aa (2 * k)) (aa (2 * k + 1))) := wd_us _ _ _
                  have h_136 : (wd_up (wd_up (wd_up (wd_up σ q_104 (xC (crow i wh (xc (R k) wh) v re))) aC (.inl (T 3, 200, .inr (.inr (.inr (.inr (va_up fC (nI nc).toNatClampNeg (some q_104)))))))) x (.inr (0, [.ref aI, .int (nI n), .ref aC, .int ((nI nc) + 1), .ref aJ, .ref aW, .ref aB, .ref aP]))) (ia k) (xI (xm (R k) wh v) (aa (2 * k)) (aa (2 * k + 1)))) x = some (.inr (0, [.ref aI, .int (nI n), .ref aC, .int ((nI nc) + 1), .ref aJ, .ref aW, .ref aB, .ref aP])) := wd_uk h_128 (wd_ne h_128 h_130 (by simp))
                  have h_137 : (wd_up (wd_up (wd_up (wd_up σ q_104 (xC (crow i wh (xc (R k) wh) v re))) aC (.inl (T 3, 200, .inr (.inr (.inr (.inr (va_up fC (nI nc).toNatClampNeg (some q_104)))))))) x (.inr (0, [.ref aI, .int (nI n), .ref aC, .int ((nI nc) + 1), .ref aJ, .ref aW, .ref aB, .ref aP]))) (ia k) (xI (xm (R k) wh v) (aa (2 * k)) (aa (2 * k + 1)))) aC = some (.inl (T 3, 200, .inr (.inr (.inr (.inr (va_up fC (nI nc).toNatClampNeg (some q_104))))))) := wd_uk h_129 (wd_ne h_129 h_130 (by simp))
                  have h_138 : (wd_up (wd_up (wd_up (wd_up σ q_104 (xC (crow i wh (xc (R k) wh) v re))) aC (.inl (T 3, 200, .inr (.inr (.inr (.inr (va_up fC (nI nc).toNatClampNeg (some q_104)))))))) x (.inr (0, [.ref aI, .int (nI n), .ref aC, .int ((nI nc) + 1), .ref aJ, .ref aW, .ref aB, .ref aP]))) (ia k) (xI (xm (R k) wh v) (aa (2 * k)) (aa (2 * k + 1)))) q_104 = some (xC (crow i wh (xc (R k) wh) v re)) := wd_uk h_131 (Ne.symm ne_112)
                  refine lv_aload_n hx hb d_F_correct_141 rfl (lv_at hl 1 rfl) ?_
                  refine wd_get C h kc_F h_136 3 (by decide) lk_F_25 rfl d_F_correct_142 ?_
                  exact wd_iret C hr hlocks h (by unfold o_corr; rw [show o_find (n, R, nc, CR, wg, Q).1 i = some k from hf]; simp only [eq_false c_11, eq_false c_17, eq_true c_23, eq_true c_24, eq_true c_25, eq_true c_102, eq_false c_103, ↓reduceIte, true_and, false_and, not_true_eq_false, not_false_eq_true, and_true, and_false]; exact ⟨nI_1 nc, hB.corr (q := q_104) (r := xm (R k) wh v) (c := crow i wh (xc (R k) wh) v re) hlt hk hq_105 h_138 (by rw [← nI_1]; exact h_136) (h_137.trans (by rw [nI_clamp (show nc < 2 ^ 31 by omega)])) h_135 (fun b h1 h2 h3 h4 => by rw [wd_un _ _ h4, wd_un _ _ h2, wd_un _ _ h3, wd_un _ _ h1]) (xm_lo (by decide)) (xm_lo (by decide)) (fun j hj => xm_lo (by omega))⟩) (Nat.le_of_ble_eq_true rfl) (Nat.le_of_ble_eq_true rfl) d_F_correct_145
                · refine lv_iload_n hx hb d_F_correct_85 rfl (lv_at hl 4 rfl) ?_
                  refine wd_gets C h ks_bs lk_F_54 d_F_correct_86 (fun t_139 ht_140 => ?_)
                  refine lv_iconst (v := 3) hx hb d_F_correct_89 (by decide) ?_
                  refine wd_ti C h ht_140 (by unfold vp_in; decide) d_F_correct_90 ?_
                  refine W.eq (g2 := F0 m 91 ls (.int 3 :: .int v :: [])) rfl ?_
                  refine lv_icmp_le (tgt := 97) hx hb d_F_correct_91 (by decide) (fun c_141 => ?_) (fun c_141 => ?_)
                  · refine lv_aload_n hx hb d_F_correct_97 rfl (lv_at hl 1 rfl) ?_
                    refine wd_get C h kc_F b1 2 (by decide) lk_F_21 rfl d_F_correct_98 ?_
                    refine lv_aload_n hx hb d_F_correct_101 rfl (lv_at hl 1 rfl) ?_
                    refine wd_get C h kc_F b1 3 (by decide) lk_F_25 rfl d_F_correct_102 ?_
                    refine wd_new (fs := [.int 0, .int 0, .int 0, .int 0, .int 0]) C h kc_C lk_F_19 wn_C wi_C df_C (Nat.le_of_ble_eq_true rfl) (Nat.le_of_ble_eq_true rfl) d_F_correct_105 (fun q_142 H hq_143 h => ?_)
                    have ne_146 : x ≠ q_142 := wd_nn b1 hq_143
                    have h_145 : (wd_up σ q_142 (.inr (2, [.int 0, .int 0, .int 0, .int 0, .int 0]))) x = some (.inr (0, [.ref aI, .int (nI n), .ref aC, .int (nI nc), .ref aJ, .ref aW, .ref aB, .ref aP])) := wd_uk b1 ne_146
                    have ne_148 : aC ≠ q_142 := wd_nn b3 hq_143
                    have h_147 : (wd_up σ q_142 (.inr (2, [.int 0, .int 0, .int 0, .int 0, .int 0]))) aC = some (aQ T 3 200 fC) := wd_uk b3 ne_148
                    have ne_150 : (ia k) ≠ q_142 := wd_nn g2 hq_143
                    have h_149 : (wd_up σ q_142 (.inr (2, [.int 0, .int 0, .int 0, .int 0, .int 0]))) (ia k) = some (xI (R k) (aa (2 * k)) (aa (2 * k + 1))) := wd_uk g2 ne_150
                    have h_144 : (wd_up σ q_142 (.inr (2, [.int 0, .int 0, .int 0, .int 0, .int 0]))) q_142 = some (.inr (2, [.int 0, .int 0, .int 0, .int 0, .int 0])) := wd_us _ _ _
                    refine lv_dup hx hb d_F_correct_108 rfl ?_
                    refine lv_iload_n hx hb d_F_correct_109 rfl (lv_at hl 2 rfl) ?_
                    refine lv_iload_n hx hb d_F_correct_110 rfl (lv_at hl 3 rfl) ?_
                    refine lv_aload hx hb d_F_correct_111 (lv_at hl 0 rfl) ?_
                    refine lv_iload_n hx hb d_F_correct_113 rfl (lv_at hl 3 rfl) ?_
                    refine wd_ci h (wd_rVN (rest := [.int wh, .int i, .ref q_142, .ref q_142, .int (nI nc), .ref aC]) (st0 := [.int wh, .ref (ia k), .int wh, .int i, .ref q_142, .ref q_142, .int (nI nc), .ref aC]) C h kc_I h_149 k_I_correctable wm_I_correctable wz_I_correctable lk_F_145 (c_I_correctable l D T A (wd_up σ q_142 (.inr (2, [.int 0, .int 0, .int 0, .int 0, .int 0]))) (ia k) (R k) (aa (2 * k)) (aa (2 * k + 1)) h_149 wh) rfl rfl ⟨Nat.le_of_ble_eq_true rfl, Nat.le_of_ble_eq_true rfl⟩ rfl hl.1 rfl (Nat.le_of_ble_eq_true rfl) d_F_correct_114 ⟨Nat.le_of_ble_eq_true rfl, Nat.le_of_ble_eq_true rfl⟩) (fun r_151 σ_152 H locs hp_153 h => ?_)
                    obtain ⟨e_154, es_155⟩ := hp_153
                    rw [es_155] at h
                    subst e_154
                    refine lv_iload_n hx hb d_F_correct_117 rfl (lv_at hl 4 rfl) ?_
                    refine lv_iload hx hb d_F_correct_118 (lv_at hl 5 rfl) ?_
                    refine wd_cv h (wd_rIN (rest := [.ref q_142, .int (nI nc), .ref aC]) (st0 := [.int re, .int v, .int (xc (R k) wh), .int wh, .int i, .ref q_142, .ref q_142, .int (nI nc), .ref aC]) C h k_C_init wm_C_init rfl lk_F_148 (c_C_init l D T A (wd_up σ q_142 (.inr (2, [.int 0, .int 0, .int 0, .int 0, .int 0]))) q_142 h_144 i wh (xc (R k) wh) v re) rfl rfl ⟨Nat.le_of_ble_eq_true rfl, Nat.le_of_ble_eq_true rfl⟩ rfl hl.1 rfl (Nat.le_of_ble_eq_true rfl) d_F_correct_120 ⟨Nat.le_of_ble_eq_true rfl, Nat.le_of_ble_eq_true rfl⟩) (fun σ_157 H locs hp_158 h => ?_)
                    rw [wd_uu] at hp_158
                    rw [hp_158] at h
                    have hqc : (wd_up σ q_142 (xC (crow i wh (xc (R k) wh) v re))) q_142 = some (xC (crow i wh (xc (R k) wh) v re)) := wd_us _ _ _
                    have h_159 : (wd_up σ q_142 (xC (crow i wh (xc (R k) wh) v re))) x = some (.inr (0, [.ref aI, .int (nI n), .ref aC, .int (nI nc), .ref aJ, .ref aW, .ref aB, .ref aP])) := wd_uk b1 ne_146
                    have h_160 : (wd_up σ q_142 (xC (crow i wh (xc (R k) wh) v re))) aC = some (aQ T 3 200 fC) := wd_uk b3 ne_148
                    have h_161 : (wd_up σ q_142 (xC (crow i wh (xc (R k) wh) v re))) (ia k) = some (xI (R k) (aa (2 * k)) (aa (2 * k + 1))) := wd_uk g2 ne_150
                    have hlt : nc < 200 := (nI_ltI (a := nc) (b := 200) (by omega) (by decide)).mp c_24
                    refine wd_astq C h 3 rfl h_160 hqc rfl (vp_in_nI hlt (by decide)) d_F_correct_123 (fun H locs h => ?_)
                    have h : wd_C D T A s H locs (wd_up (wd_up σ q_142 (xC (crow i wh (xc (R k) wh) v re))) aC (.inl (T 3, 200, .inr (.inr (.inr (.inr (va_up fC (nI nc).toNatClampNeg (some q_142)))))))) := h
                    have h_162 : (wd_up (wd_up σ q_142 (xC (crow i wh (xc (R k) wh) v re))) aC (.inl (T 3, 200, .inr (.inr (.inr (.inr (va_up fC (nI nc).toNatClampNeg (some q_142)))))))) aC = some (.inl (T 3, 200, .inr (.inr (.inr (.inr (va_up fC (nI nc).toNatClampNeg (some q_142))))))) := wd_us _ _ _
                    have h_163 : (wd_up (wd_up σ q_142 (xC (crow i wh (xc (R k) wh) v re))) aC (.inl (T 3, 200, .inr (.inr (.inr (.inr (va_up fC (nI nc).toNatClampNeg (some q_142)))))))) x = some (.inr (0, [.ref aI, .int (nI n), .ref aC, .int (nI nc), .ref aJ, .ref aW, .ref aB, .ref aP])) := wd_uk h_159 (wd_ne h_159 h_160 (by simp))
                    have h_164 : (wd_up (wd_up σ q_142 (xC (crow i wh (xc (R k) wh) v re))) aC (.inl (T 3, 200, .inr (.inr (.inr (.inr (va_up fC (nI nc).toNatClampNeg (some q_142)))))))) (ia k) = some (xI (R k) (aa (2 * k)) (aa (2 * k + 1))) := wd_uk h_161 (wd_ne h_161 h_160 (by simp))
                    have h_165 : (wd_up (wd_up σ q_142 (xC (crow i wh (xc (R k) wh) v re))) aC (.inl (T 3, 200, .inr (.inr (.inr (.inr (va_up fC (nI nc).toNatClampNeg (some q_142)))))))) q_142 = some (xC (crow i wh (xc (R k) wh) v re)) := wd_uk hqc (Ne.symm ne_148)
                    refine lv_aload_n hx hb d_F_correct_124 rfl (lv_at hl 1 rfl) ?_
                    refine lv_dup hx hb d_F_correct_125 rfl ?_
                    refine wd_get C h kc_F h_163 3 (by decide) lk_F_25 rfl d_F_correct_126 ?_
                    refine lv_iconst (v := 1) hx hb d_F_correct_129 (by decide) ?_
                    refine lv_iadd hx hb d_F_correct_130 ?_
                    refine wd_put C h kc_F h_163 3 (by decide) lk_F_25 rfl (by rfl) (by rfl) (Nat.le_of_ble_eq_true rfl) d_F_correct_131 (fun H locs h => ?_)
                    have h : wd_C D T A s H locs (wd_up (wd_up (wd_up σ q_142 (xC (crow i wh (xc (R k) wh) v re))) aC (.inl (T 3, 200, .inr (.inr (.inr (.inr (va_up fC (nI nc).toNatClampNeg (some q_142)))))))) x (.inr (0, [.ref aI, .int (nI n), .ref aC, .int ((nI nc) + 1), .ref aJ, .ref aW, .ref aB, .ref aP]))) := h
                    have h_166 : (wd_up (wd_up (wd_up σ q_142 (xC (crow i wh (xc (R k) wh) v re))) aC (.inl (T 3, 200, .inr (.inr (.inr (.inr (va_up fC (nI nc).toNatClampNeg (some q_142)))))))) x (.inr (0, [.ref aI, .int (nI n), .ref aC, .int ((nI nc) + 1), .ref aJ, .ref aW, .ref aB, .ref aP]))) x = some (.inr (0, [.ref aI, .int (nI n), .ref aC, .int ((nI nc) + 1), .ref aJ, .ref aW, .ref aB, .ref aP])) := wd_us _ _ _
                    have h_167 : (wd_up (wd_up (wd_up σ q_142 (xC (crow i wh (xc (R k) wh) v re))) aC (.inl (T 3, 200, .inr (.inr (.inr (.inr (va_up fC (nI nc).toNatClampNeg (some q_142)))))))) x (.inr (0, [.ref aI, .int (nI n), .ref aC, .int ((nI nc) + 1), .ref aJ, .ref aW, .ref aB, .ref aP]))) aC = some (.inl (T 3, 200, .inr (.inr (.inr (.inr (va_up fC (nI nc).toNatClampNeg (some q_142))))))) := wd_uk h_162 (wd_ne h_162 h_163 (by simp))
                    have h_168 : (wd_up (wd_up (wd_up σ q_142 (xC (crow i wh (xc (R k) wh) v re))) aC (.inl (T 3, 200, .inr (.inr (.inr (.inr (va_up fC (nI nc).toNatClampNeg (some q_142)))))))) x (.inr (0, [.ref aI, .int (nI n), .ref aC, .int ((nI nc) + 1), .ref aJ, .ref aW, .ref aB, .ref aP]))) (ia k) = some (xI (R k) (aa (2 * k)) (aa (2 * k + 1))) := wd_uk h_164 (wd_ne h_164 h_163 (by simp))
                    have h_169 : (wd_up (wd_up (wd_up σ q_142 (xC (crow i wh (xc (R k) wh) v re))) aC (.inl (T 3, 200, .inr (.inr (.inr (.inr (va_up fC (nI nc).toNatClampNeg (some q_142)))))))) x (.inr (0, [.ref aI, .int (nI n), .ref aC, .int ((nI nc) + 1), .ref aJ, .ref aW, .ref aB, .ref aP]))) q_142 = some (xC (crow i wh (xc (R k) wh) v re)) := wd_uk h_165 (Ne.symm ne_146)
                    refine lv_aload hx hb d_F_correct_134 (lv_at hl 0 rfl) ?_
                    refine lv_iload_n hx hb d_F_correct_136 rfl (lv_at hl 3 rfl) ?_
                    refine lv_iload_n hx hb d_F_correct_137 rfl (lv_at hl 4 rfl) ?_
                    refine wd_cv h (wd_rVN (rest := []) (st0 := [.int v, .int wh, .ref (ia k)]) C h kc_I h_168 k_I_become wm_I_become wz_I_become lk_F_151 (c_I_become l D T A (wd_up (wd_up (wd_up σ q_142 (xC (crow i wh (xc (R k) wh) v re))) aC (.inl (T 3, 200, .inr (.inr (.inr (.inr (va_up fC (nI nc).toNatClampNeg (some q_142)))))))) x (.inr (0, [.ref aI, .int (nI n), .ref aC, .int ((nI nc) + 1), .ref aJ, .ref aW, .ref aB, .ref aP]))) (ia k) (R k) (aa (2 * k)) (aa (2 * k + 1)) h_168 wh v (xm0_k (hok k hk) c_11)) rfl rfl ⟨Nat.le_of_ble_eq_true rfl, Nat.le_of_ble_eq_true rfl⟩ rfl hl.1 rfl (Nat.le_of_ble_eq_true rfl) d_F_correct_138 ⟨Nat.le_of_ble_eq_true rfl, Nat.le_of_ble_eq_true rfl⟩) (fun σ_171 H locs hp_172 h => ?_)
                    rw [hp_172] at h
                    have h : wd_C D T A s H locs (wd_up (wd_up (wd_up (wd_up σ q_142 (xC (crow i wh (xc (R k) wh) v re))) aC (.inl (T 3, 200, .inr (.inr (.inr (.inr (va_up fC (nI nc).toNatClampNeg (some q_142)))))))) x (.inr (0, [.ref aI, .int (nI n), .ref aC, .int ((nI nc) + 1), .ref aJ, .ref aW, .ref aB, .ref aP]))) (ia k) (xI (xm (R k) wh v) (aa (2 * k)) (aa (2 * k + 1)))) := h
                    have h_173 : (wd_up (wd_up (wd_up (wd_up σ q_142 (xC (crow i wh (xc (R k) wh) v re))) aC (.inl (T 3, 200, .inr (.inr (.inr (.inr (va_up fC (nI nc).toNatClampNeg (some q_142)))))))) x (.inr (0, [.ref aI, .int (nI n), .ref aC, .int ((nI nc) + 1), .ref aJ, .ref aW, .ref aB, .ref aP]))) (ia k) (xI (xm (R k) wh v) (aa (2 * k)) (aa (2 * k + 1)))) (ia k) = some (xI (xm (R k) wh v) (aa (2 * k)) (aa (2 * k + 1))) := wd_us _ _ _
                    have h_174 : (wd_up (wd_up (wd_up (wd_up σ q_142 (xC (crow i wh (xc (R k) wh) v re))) aC (.inl (T 3, 200, .inr (.inr (.inr (.inr (va_up fC (nI nc).toNatClampNeg (some q_142)))))))) x (.inr (0, [.ref aI, .int (nI n), .ref aC, .int ((nI nc) + 1), .ref aJ, .ref aW, .ref aB, .ref aP]))) (ia k) (xI (xm (R k) wh v) (aa (2 * k)) (aa (2 * k + 1)))) x = some (.inr (0, [.ref aI, .int (nI n), .ref aC, .int ((nI nc) + 1), .ref aJ, .ref aW, .ref aB, .ref aP])) := wd_uk h_166 (wd_ne h_166 h_168 (by simp))
                    have h_175 : (wd_up (wd_up (wd_up (wd_up σ q_142 (xC (crow i wh (xc (R k) wh) v re))) aC (.inl (T 3, 200, .inr (.inr (.inr (.inr (va_up fC (nI nc).toNatClampNeg (some q_142)))))))) x (.inr (0, [.ref aI, .int (nI n), .ref aC, .int ((nI nc) + 1), .ref aJ, .ref aW, .ref aB, .ref aP]))) (ia k) (xI (xm (R k) wh v) (aa (2 * k)) (aa (2 * k + 1)))) aC = some (.inl (T 3, 200, .inr (.inr (.inr (.inr (va_up fC (nI nc).toNatClampNeg (some q_142))))))) := wd_uk h_167 (wd_ne h_167 h_168 (by simp))
                    have h_176 : (wd_up (wd_up (wd_up (wd_up σ q_142 (xC (crow i wh (xc (R k) wh) v re))) aC (.inl (T 3, 200, .inr (.inr (.inr (.inr (va_up fC (nI nc).toNatClampNeg (some q_142)))))))) x (.inr (0, [.ref aI, .int (nI n), .ref aC, .int ((nI nc) + 1), .ref aJ, .ref aW, .ref aB, .ref aP]))) (ia k) (xI (xm (R k) wh v) (aa (2 * k)) (aa (2 * k + 1)))) q_142 = some (xC (crow i wh (xc (R k) wh) v re)) := wd_uk h_169 (Ne.symm ne_150)
                    refine lv_aload_n hx hb d_F_correct_141 rfl (lv_at hl 1 rfl) ?_
                    refine wd_get C h kc_F h_174 3 (by decide) lk_F_25 rfl d_F_correct_142 ?_
                    exact wd_iret C hr hlocks h (by unfold o_corr; rw [show o_find (n, R, nc, CR, wg, Q).1 i = some k from hf]; simp only [eq_false c_11, eq_false c_17, eq_true c_23, eq_true c_24, eq_true c_25, eq_true c_102, eq_true c_103, eq_true c_141, ↓reduceIte, true_and, false_and, not_true_eq_false, not_false_eq_true, and_true, and_false]; exact ⟨nI_1 nc, hB.corr (q := q_142) (r := xm (R k) wh v) (c := crow i wh (xc (R k) wh) v re) hlt hk hq_143 h_176 (by rw [← nI_1]; exact h_174) (h_175.trans (by rw [nI_clamp (show nc < 2 ^ 31 by omega)])) h_173 (fun b h1 h2 h3 h4 => by rw [wd_un _ _ h4, wd_un _ _ h2, wd_un _ _ h3, wd_un _ _ h1]) (xm_lo (by decide)) (xm_lo (by decide)) (fun j hj => xm_lo (by omega))⟩) (Nat.le_of_ble_eq_true rfl) (Nat.le_of_ble_eq_true rfl) d_F_correct_145
                  · refine lv_bipush (v := (-110)) hx hb d_F_correct_94 (by decide) ?_
                    exact wd_iret C hr hlocks h (by unfold o_corr; rw [show o_find (n, R, nc, CR, wg, Q).1 i = some k from hf]; simp only [eq_false c_11, eq_false c_17, eq_true c_23, eq_true c_24, eq_true c_25, eq_true c_102, eq_true c_103, eq_false c_141, ↓reduceIte, true_and, false_and, not_true_eq_false, not_false_eq_true, and_true, and_false]; first | exact ⟨trivial, hB.rx⟩ | exact hB.rx) (Nat.le_of_ble_eq_true rfl) (Nat.le_of_ble_eq_true rfl) d_F_correct_96
              · refine lv_bipush (v := (-109)) hx hb d_F_correct_77 (by decide) ?_
                exact wd_iret C hr hlocks h (by unfold o_corr; rw [show o_find (n, R, nc, CR, wg, Q).1 i = some k from hf]; simp only [eq_false c_11, eq_false c_17, eq_true c_23, eq_true c_24, eq_true c_25, eq_false c_102, ↓reduceIte, true_and, false_and, not_true_eq_false, not_false_eq_true, and_true, and_false]; first | exact ⟨trivial, hB.rx⟩ | exact hB.rx) (Nat.le_of_ble_eq_true rfl) (Nat.le_of_ble_eq_true rfl) d_F_correct_79
          · refine lv_bipush (v := (-104)) hx hb d_F_correct_60 (by decide) ?_
            exact wd_iret C hr hlocks h (by unfold o_corr; rw [show o_find (n, R, nc, CR, wg, Q).1 i = some k from hf]; simp only [eq_false c_11, eq_false c_17, eq_true c_23, eq_false c_24, ↓reduceIte, true_and, false_and, not_true_eq_false, not_false_eq_true, and_true, and_false]; first | exact ⟨trivial, hB.rx⟩ | exact hB.rx) (Nat.le_of_ble_eq_true rfl) (Nat.le_of_ble_eq_true rfl) d_F_correct_62
        · refine lv_bipush (v := (-103)) hx hb d_F_correct_47 (by decide) ?_
          exact wd_iret C hr hlocks h (by unfold o_corr; rw [show o_find (n, R, nc, CR, wg, Q).1 i = some k from hf]; simp only [eq_false c_11, eq_false c_17, eq_false c_23, ↓reduceIte, true_and, false_and, not_true_eq_false, not_false_eq_true, and_true, and_false]; first | exact ⟨trivial, hB.rx⟩ | exact hB.rx) (Nat.le_of_ble_eq_true rfl) (Nat.le_of_ble_eq_true rfl) d_F_correct_49
      · refine lv_bipush (v := (-102)) hx hb d_F_correct_34 (by decide) ?_
        exact wd_iret C hr hlocks h (by unfold o_corr; rw [show o_find (n, R, nc, CR, wg, Q).1 i = some k from hf]; simp only [eq_false c_11, eq_true c_17, ↓reduceIte, true_and, false_and, not_true_eq_false, not_false_eq_true, and_true, and_false]; first | exact ⟨trivial, hB.rx⟩ | exact hB.rx) (Nat.le_of_ble_eq_true rfl) (Nat.le_of_ble_eq_true rfl) d_F_correct_36
end
