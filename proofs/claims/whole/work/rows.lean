section
-- ===== PART A: goes FIRST, ahead of the names: the tables' words, and 'selects' of the private methods out of them =====
/-- a private method of a class that the tables say can be made, by its rows of tables_1 -/
def lw_okq (q : MethodName × Nat) : Prop := (q.1.cls ≠ "java/lang/invoke/MethodHandle" ∧ q.1.cls ≠ "java/lang/invoke/VarHandle") ∧ Cond.instantiable q.1.cls q.2 ∈ tables_1 ∧ Cond.privateMethod q.1 ∈ tables_1 ∧ Cond.instanceMethod q.1 ∈ tables_1
theorem lw_p0 : lw_okq (⟨"ItemFacts", "find", "(I)LItemFacts$Item;"⟩, 8) := ⟨⟨by decide +kernel, by decide +kernel⟩, List.mem_of_getElem? (i := 8) (by decide +kernel), List.mem_of_getElem? (i := 162) (by decide +kernel), List.mem_of_getElem? (i := 163) (by decide +kernel)⟩
theorem lw_p1 : lw_okq (⟨"ItemFacts$Item", "has", "(I)Z"⟩, 17) := ⟨⟨by decide +kernel, by decide +kernel⟩, List.mem_of_getElem? (i := 72) (by decide +kernel), List.mem_of_getElem? (i := 166) (by decide +kernel), List.mem_of_getElem? (i := 167) (by decide +kernel)⟩
theorem lw_p2 : lw_okq (⟨"ItemFacts$Item", "isAtEnd", "()Z"⟩, 17) := ⟨⟨by decide +kernel, by decide +kernel⟩, List.mem_of_getElem? (i := 72) (by decide +kernel), List.mem_of_getElem? (i := 170) (by decide +kernel), List.mem_of_getElem? (i := 171) (by decide +kernel)⟩
theorem lw_p3 : lw_okq (⟨"ItemFacts$Item", "leastExcluding", "(I)I"⟩, 17) := ⟨⟨by decide +kernel, by decide +kernel⟩, List.mem_of_getElem? (i := 72) (by decide +kernel), List.mem_of_getElem? (i := 174) (by decide +kernel), List.mem_of_getElem? (i := 175) (by decide +kernel)⟩
theorem lw_p4 : lw_okq (⟨"ItemFacts$Item", "lacksWhatIsWanted", "(I)Z"⟩, 17) := ⟨⟨by decide +kernel, by decide +kernel⟩, List.mem_of_getElem? (i := 72) (by decide +kernel), List.mem_of_getElem? (i := 181) (by decide +kernel), List.mem_of_getElem? (i := 182) (by decide +kernel)⟩
theorem lw_p5 : lw_okq (⟨"ItemFacts$Item", "stateBehind", "(I)I"⟩, 17) := ⟨⟨by decide +kernel, by decide +kernel⟩, List.mem_of_getElem? (i := 72) (by decide +kernel), List.mem_of_getElem? (i := 196) (by decide +kernel), List.mem_of_getElem? (i := 197) (by decide +kernel)⟩
theorem lw_p6 : lw_okq (⟨"ItemFacts", "mustWait", "(I)Z"⟩, 8) := ⟨⟨by decide +kernel, by decide +kernel⟩, List.mem_of_getElem? (i := 8) (by decide +kernel), List.mem_of_getElem? (i := 200) (by decide +kernel), List.mem_of_getElem? (i := 201) (by decide +kernel)⟩
theorem lw_p7 : lw_okq (⟨"ItemFacts$Item", "undergo", "(II)V"⟩, 17) := ⟨⟨by decide +kernel, by decide +kernel⟩, List.mem_of_getElem? (i := 72) (by decide +kernel), List.mem_of_getElem? (i := 204) (by decide +kernel), List.mem_of_getElem? (i := 205) (by decide +kernel)⟩
theorem lw_p8 : lw_okq (⟨"ItemFacts$Item", "wouldStay", "(II)Z"⟩, 17) := ⟨⟨by decide +kernel, by decide +kernel⟩, List.mem_of_getElem? (i := 72) (by decide +kernel), List.mem_of_getElem? (i := 239) (by decide +kernel), List.mem_of_getElem? (i := 240) (by decide +kernel)⟩
theorem lw_p9 : lw_okq (⟨"ItemFacts$Item", "correctable", "(I)I"⟩, 17) := ⟨⟨by decide +kernel, by decide +kernel⟩, List.mem_of_getElem? (i := 72) (by decide +kernel), List.mem_of_getElem? (i := 244) (by decide +kernel), List.mem_of_getElem? (i := 245) (by decide +kernel)⟩
theorem lw_p10 : lw_okq (⟨"ItemFacts$Item", "become", "(II)V"⟩, 17) := ⟨⟨by decide +kernel, by decide +kernel⟩, List.mem_of_getElem? (i := 72) (by decide +kernel), List.mem_of_getElem? (i := 270) (by decide +kernel), List.mem_of_getElem? (i := 271) (by decide +kernel)⟩
theorem lw_p11 : lw_okq (⟨"ItemFacts$Correction", "part", "(I)I"⟩, 5) := ⟨⟨by decide +kernel, by decide +kernel⟩, List.mem_of_getElem? (i := 247) (by decide +kernel), List.mem_of_getElem? (i := 278) (by decide +kernel), List.mem_of_getElem? (i := 279) (by decide +kernel)⟩
theorem lw_p12 : lw_okq (⟨"ItemFacts$Item", "fact", "(I)I"⟩, 17) := ⟨⟨by decide +kernel, by decide +kernel⟩, List.mem_of_getElem? (i := 72) (by decide +kernel), List.mem_of_getElem? (i := 286) (by decide +kernel), List.mem_of_getElem? (i := 287) (by decide +kernel)⟩
theorem lw_p13 : lw_okq (⟨"ItemFacts$Packed", "fill", "(ILItemFacts$Item;)V"⟩, 2) := ⟨⟨by decide +kernel, by decide +kernel⟩, List.mem_of_getElem? (i := 20) (by decide +kernel), List.mem_of_getElem? (i := 294) (by decide +kernel), List.mem_of_getElem? (i := 295) (by decide +kernel)⟩
theorem lw_p14 : lw_okq (⟨"ItemFacts$Packed", "addTwo", "(I)V"⟩, 2) := ⟨⟨by decide +kernel, by decide +kernel⟩, List.mem_of_getElem? (i := 20) (by decide +kernel), List.mem_of_getElem? (i := 298) (by decide +kernel), List.mem_of_getElem? (i := 299) (by decide +kernel)⟩
theorem lw_p15 : lw_okq (⟨"ItemFacts$Packed", "add", "(I)V"⟩, 2) := ⟨⟨by decide +kernel, by decide +kernel⟩, List.mem_of_getElem? (i := 20) (by decide +kernel), List.mem_of_getElem? (i := 302) (by decide +kernel), List.mem_of_getElem? (i := 303) (by decide +kernel)⟩
def lw_privs_1 : List (MethodName × Nat) := [(⟨"ItemFacts", "find", "(I)LItemFacts$Item;"⟩, 8), (⟨"ItemFacts$Item", "has", "(I)Z"⟩, 17), (⟨"ItemFacts$Item", "isAtEnd", "()Z"⟩, 17), (⟨"ItemFacts$Item", "leastExcluding", "(I)I"⟩, 17), (⟨"ItemFacts$Item", "lacksWhatIsWanted", "(I)Z"⟩, 17), (⟨"ItemFacts$Item", "stateBehind", "(I)I"⟩, 17), (⟨"ItemFacts", "mustWait", "(I)Z"⟩, 8), (⟨"ItemFacts$Item", "undergo", "(II)V"⟩, 17), (⟨"ItemFacts$Item", "wouldStay", "(II)Z"⟩, 17), (⟨"ItemFacts$Item", "correctable", "(I)I"⟩, 17), (⟨"ItemFacts$Item", "become", "(II)V"⟩, 17), (⟨"ItemFacts$Correction", "part", "(I)I"⟩, 5), (⟨"ItemFacts$Item", "fact", "(I)I"⟩, 17), (⟨"ItemFacts$Packed", "fill", "(ILItemFacts$Item;)V"⟩, 2), (⟨"ItemFacts$Packed", "addTwo", "(I)V"⟩, 2), (⟨"ItemFacts$Packed", "add", "(I)V"⟩, 2)]
theorem lw_r1 : ∀ q ∈ lw_privs_1, lw_okq q := List.forall_mem_cons.mpr ⟨lw_p0, List.forall_mem_cons.mpr ⟨lw_p1, List.forall_mem_cons.mpr ⟨lw_p2, List.forall_mem_cons.mpr ⟨lw_p3, List.forall_mem_cons.mpr ⟨lw_p4, List.forall_mem_cons.mpr ⟨lw_p5, List.forall_mem_cons.mpr ⟨lw_p6, List.forall_mem_cons.mpr ⟨lw_p7, List.forall_mem_cons.mpr ⟨lw_p8, List.forall_mem_cons.mpr ⟨lw_p9, List.forall_mem_cons.mpr ⟨lw_p10, List.forall_mem_cons.mpr ⟨lw_p11, List.forall_mem_cons.mpr ⟨lw_p12, List.forall_mem_cons.mpr ⟨lw_p13, List.forall_mem_cons.mpr ⟨lw_p14, List.forall_mem_cons.mpr ⟨lw_p15, fun _ h => absurd h List.not_mem_nil⟩⟩⟩⟩⟩⟩⟩⟩⟩⟩⟩⟩⟩⟩⟩⟩
theorem lw_p16 : lw_okq (⟨"ItemFacts$Packed", "addEntry", "(I)V"⟩, 2) := ⟨⟨by decide +kernel, by decide +kernel⟩, List.mem_of_getElem? (i := 20) (by decide +kernel), List.mem_of_getElem? (i := 306) (by decide +kernel), List.mem_of_getElem? (i := 307) (by decide +kernel)⟩
theorem lw_p17 : lw_okq (⟨"ItemFacts$Packed", "xorOfAll", "()I"⟩, 2) := ⟨⟨by decide +kernel, by decide +kernel⟩, List.mem_of_getElem? (i := 20) (by decide +kernel), List.mem_of_getElem? (i := 311) (by decide +kernel), List.mem_of_getElem? (i := 312) (by decide +kernel)⟩
theorem lw_p18 : lw_okq (⟨"ItemFacts$Packed", "at", "(I)I"⟩, 2) := ⟨⟨by decide +kernel, by decide +kernel⟩, List.mem_of_getElem? (i := 20) (by decide +kernel), List.mem_of_getElem? (i := 319) (by decide +kernel), List.mem_of_getElem? (i := 320) (by decide +kernel)⟩
theorem lw_p19 : lw_okq (⟨"ItemFacts$Item", "isSetAside", "()Z"⟩, 17) := ⟨⟨by decide +kernel, by decide +kernel⟩, List.mem_of_getElem? (i := 72) (by decide +kernel), List.mem_of_getElem? (i := 328) (by decide +kernel), List.mem_of_getElem? (i := 329) (by decide +kernel)⟩
theorem lw_p20 : lw_okq (⟨"ItemFactsModel", "isItem", "(I)Z"⟩, 23) := ⟨⟨by decide +kernel, by decide +kernel⟩, List.mem_of_getElem? (i := 332) (by decide +kernel), List.mem_of_getElem? (i := 429) (by decide +kernel), List.mem_of_getElem? (i := 430) (by decide +kernel)⟩
theorem lw_p21 : lw_okq (⟨"ItemFactsModel", "has", "(II)Z"⟩, 23) := ⟨⟨by decide +kernel, by decide +kernel⟩, List.mem_of_getElem? (i := 332) (by decide +kernel), List.mem_of_getElem? (i := 433) (by decide +kernel), List.mem_of_getElem? (i := 434) (by decide +kernel)⟩
theorem lw_p22 : lw_okq (⟨"ItemFactsModel", "isOver", "(I)Z"⟩, 23) := ⟨⟨by decide +kernel, by decide +kernel⟩, List.mem_of_getElem? (i := 332) (by decide +kernel), List.mem_of_getElem? (i := 437) (by decide +kernel), List.mem_of_getElem? (i := 438) (by decide +kernel)⟩
theorem lw_p23 : lw_okq (⟨"ItemFactsModel", "mustWait", "(I)Z"⟩, 23) := ⟨⟨by decide +kernel, by decide +kernel⟩, List.mem_of_getElem? (i := 332) (by decide +kernel), List.mem_of_getElem? (i := 451) (by decide +kernel), List.mem_of_getElem? (i := 452) (by decide +kernel)⟩
theorem lw_p24 : lw_okq (⟨"ItemFactsModel", "belonging", "([II)I"⟩, 23) := ⟨⟨by decide +kernel, by decide +kernel⟩, List.mem_of_getElem? (i := 332) (by decide +kernel), List.mem_of_getElem? (i := 471) (by decide +kernel), List.mem_of_getElem? (i := 472) (by decide +kernel)⟩
theorem lw_p25 : lw_okq (⟨"ItemFactsModel", "factOf", "(II)I"⟩, 23) := ⟨⟨by decide +kernel, by decide +kernel⟩, List.mem_of_getElem? (i := 332) (by decide +kernel), List.mem_of_getElem? (i := 487) (by decide +kernel), List.mem_of_getElem? (i := 488) (by decide +kernel)⟩
theorem lw_p26 : lw_okq (⟨"ItemFactsModel", "put", "(II)V"⟩, 23) := ⟨⟨by decide +kernel, by decide +kernel⟩, List.mem_of_getElem? (i := 332) (by decide +kernel), List.mem_of_getElem? (i := 503) (by decide +kernel), List.mem_of_getElem? (i := 504) (by decide +kernel)⟩
def lw_privs_2 : List (MethodName × Nat) := [(⟨"ItemFacts$Packed", "addEntry", "(I)V"⟩, 2), (⟨"ItemFacts$Packed", "xorOfAll", "()I"⟩, 2), (⟨"ItemFacts$Packed", "at", "(I)I"⟩, 2), (⟨"ItemFacts$Item", "isSetAside", "()Z"⟩, 17), (⟨"ItemFactsModel", "isItem", "(I)Z"⟩, 23), (⟨"ItemFactsModel", "has", "(II)Z"⟩, 23), (⟨"ItemFactsModel", "isOver", "(I)Z"⟩, 23), (⟨"ItemFactsModel", "mustWait", "(I)Z"⟩, 23), (⟨"ItemFactsModel", "belonging", "([II)I"⟩, 23), (⟨"ItemFactsModel", "factOf", "(II)I"⟩, 23), (⟨"ItemFactsModel", "put", "(II)V"⟩, 23)]
theorem lw_r2 : ∀ q ∈ lw_privs_2, lw_okq q := List.forall_mem_cons.mpr ⟨lw_p16, List.forall_mem_cons.mpr ⟨lw_p17, List.forall_mem_cons.mpr ⟨lw_p18, List.forall_mem_cons.mpr ⟨lw_p19, List.forall_mem_cons.mpr ⟨lw_p20, List.forall_mem_cons.mpr ⟨lw_p21, List.forall_mem_cons.mpr ⟨lw_p22, List.forall_mem_cons.mpr ⟨lw_p23, List.forall_mem_cons.mpr ⟨lw_p24, List.forall_mem_cons.mpr ⟨lw_p25, List.forall_mem_cons.mpr ⟨lw_p26, fun _ h => absurd h List.not_mem_nil⟩⟩⟩⟩⟩⟩⟩⟩⟩⟩⟩
def lw_privs : List (MethodName × Nat) := lw_privs_1 ++ (lw_privs_2)
def lw_tbl : List Cond := k2_sels lw_privs ++ tables_1
theorem lw_privs_ok : ∀ q ∈ lw_privs, lw_okq q := by
  show ∀ q ∈ lw_privs_1 ++ (lw_privs_2), lw_okq q
  exact List.forall_mem_append.mpr ⟨lw_r1, lw_r2⟩

def wd_tb : List Cond := lw_tbl.filter goodWord
theorem wd_goodAll : ∀ w ∈ wd_tb, (w.onTables && w.keeps) = true ∨ ∃ ty, w = .arrayClass ty := fun w hw => good_of_word (List.mem_filter.mp hw).2
theorem wd_in {w : Cond} (i : Nat) (h : lw_tbl[i]? = some w) (g : goodWord w = true) : w ∈ wd_tb := List.mem_filter.mpr ⟨List.mem_of_getElem? h, g⟩
def R_F : String := "ItemFacts"
def F_F : u_T := fun k => match k with
  | 0 => ("ItemFacts", "items", "[LItemFacts$Item;", true)
  | 1 => ("ItemFacts", "itemCount", "I", false)
  | 2 => ("ItemFacts", "corrections", "[LItemFacts$Correction;", true)
  | 3 => ("ItemFacts", "correctionCount", "I", false)
  | 4 => ("ItemFacts", "joined", "[I", true)
  | 5 => ("ItemFacts", "waiting", "[Z", true)
  | 6 => ("ItemFacts", "bulked", "[I", true)
  | _ => ("ItemFacts", "packed", "LItemFacts$Packed;", true)
def t_F : Nat → FieldType := fun k => match k with
  | 0 => .array (.object "ItemFacts$Item")
  | 1 => .int
  | 2 => .array (.object "ItemFacts$Correction")
  | 3 => .int
  | 4 => .array .int
  | 5 => .array .boolean
  | 6 => .array .int
  | _ => .object "ItemFacts$Packed"
def R_I : String := "ItemFacts$Item"
def F_I : u_T := fun k => match k with
  | 0 => ("ItemFacts$Item", "kind", "I", false)
  | 1 => ("ItemFacts$Item", "weight", "I", false)
  | 2 => ("ItemFacts$Item", "size", "I", false)
  | 3 => ("ItemFacts$Item", "sender", "I", true)
  | 4 => ("ItemFacts$Item", "services", "I", false)
  | 5 => ("ItemFacts$Item", "state", "I", false)
  | 6 => ("ItemFacts$Item", "damaged", "Z", false)
  | 7 => ("ItemFacts$Item", "read", "I", false)
  | 8 => ("ItemFacts$Item", "settled", "I", false)
  | 9 => ("ItemFacts$Item", "land", "I", false)
  | 10 => ("ItemFacts$Item", "consignment", "I", false)
  | 11 => ("ItemFacts$Item", "bulkNumber", "I", false)
  | 12 => ("ItemFacts$Item", "late", "I", false)
  | 13 => ("ItemFacts$Item", "openers", "I", false)
  | 14 => ("ItemFacts$Item", "contentCount", "I", false)
  | 15 => ("ItemFacts$Item", "whats", "[I", true)
  | _ => ("ItemFacts$Item", "cents", "[I", true)
def t_I : Nat → FieldType := fun k => match k with
  | 0 => .int
  | 1 => .int
  | 2 => .int
  | 3 => .int
  | 4 => .int
  | 5 => .int
  | 6 => .boolean
  | 7 => .int
  | 8 => .int
  | 9 => .int
  | 10 => .int
  | 11 => .int
  | 12 => .int
  | 13 => .int
  | 14 => .int
  | 15 => .array .int
  | _ => .array .int
def R_C : String := "ItemFacts$Correction"
def F_C : u_T := fun k => match k with
  | 0 => ("ItemFacts$Correction", "number", "I", true)
  | 1 => ("ItemFacts$Correction", "what", "I", true)
  | 2 => ("ItemFacts$Correction", "was", "I", true)
  | 3 => ("ItemFacts$Correction", "told", "I", true)
  | _ => ("ItemFacts$Correction", "reason", "I", true)
def t_C : Nat → FieldType := fun k => match k with
  | 0 => .int
  | 1 => .int
  | 2 => .int
  | 3 => .int
  | _ => .int
def R_P : String := "ItemFacts$Packed"
def F_P : u_T := fun k => match k with
  | 0 => ("ItemFacts$Packed", "bytes", "[I", true)
  | _ => ("ItemFacts$Packed", "length", "I", false)
def t_P : Nat → FieldType := fun k => match k with
  | 0 => .array .int
  | _ => .int
def R_M : String := "ItemFactsModel"
def F_M : u_T := fun k => match k with
  | 0 => ("ItemFactsModel", "items", "I", false)
  | 1 => ("ItemFactsModel", "kinds", "[I", true)
  | 2 => ("ItemFactsModel", "weights", "[I", true)
  | 3 => ("ItemFactsModel", "sizes", "[I", true)
  | 4 => ("ItemFactsModel", "senders", "[I", true)
  | 5 => ("ItemFactsModel", "services", "[I", true)
  | 6 => ("ItemFactsModel", "states", "[I", true)
  | 7 => ("ItemFactsModel", "damaged", "[Z", true)
  | 8 => ("ItemFactsModel", "late", "[I", true)
  | 9 => ("ItemFactsModel", "asRead", "[I", true)
  | 10 => ("ItemFactsModel", "settled", "[I", true)
  | 11 => ("ItemFactsModel", "lands", "[I", true)
  | 12 => ("ItemFactsModel", "many", "[I", true)
  | 13 => ("ItemFactsModel", "whats", "[I", true)
  | 14 => ("ItemFactsModel", "cents", "[I", true)
  | 15 => ("ItemFactsModel", "consignments", "[I", true)
  | 16 => ("ItemFactsModel", "waiting", "[Z", true)
  | 17 => ("ItemFactsModel", "bulks", "[I", true)
  | 18 => ("ItemFactsModel", "openers", "[I", true)
  | 19 => ("ItemFactsModel", "rows", "I", false)
  | 20 => ("ItemFactsModel", "rowCells", "[I", true)
  | 21 => ("ItemFactsModel", "packed", "I", false)
  | _ => ("ItemFactsModel", "bytes", "[I", true)
def t_M : Nat → FieldType := fun k => match k with
  | 0 => .int
  | 1 => .array .int
  | 2 => .array .int
  | 3 => .array .int
  | 4 => .array .int
  | 5 => .array .int
  | 6 => .array .int
  | 7 => .array .boolean
  | 8 => .array .int
  | 9 => .array .int
  | 10 => .array .int
  | 11 => .array .int
  | 12 => .array .int
  | 13 => .array .int
  | 14 => .array .int
  | 15 => .array .int
  | 16 => .array .boolean
  | 17 => .array .int
  | 18 => .array .int
  | 19 => .int
  | 20 => .array .int
  | 21 => .int
  | _ => .array .int
def R_L : String := "ItemFactsLaw"
def R_J : String := "java/lang/Integer"
abbrev classes : List vw_C := [(R_F, F_F, 8), (R_I, F_I, 17), (R_C, F_C, 5), (R_P, F_P, 2), (R_M, F_M, 23)]
abbrev b_F_init : ByteArray := prog_1_method_1_code
def y_F_init : MethodName := ⟨R_F, "<init>", "()V"⟩
abbrev b_P_init : ByteArray := prog_4_method_1_code
def y_P_init : MethodName := ⟨R_P, "<init>", "()V"⟩
abbrev b_F_item : ByteArray := prog_1_method_2_code
def y_F_item : MethodName := ⟨R_F, "item", "(IIII)I"⟩
abbrev b_F_within : ByteArray := prog_1_method_17_code
def y_F_within : MethodName := ⟨R_F, "within", "(III)Z"⟩
abbrev b_F_turned : ByteArray := prog_1_method_19_code
def y_F_turned : MethodName := ⟨R_F, "turned", "(III)I"⟩
abbrev b_I_init : ByteArray := prog_3_method_1_code
def y_I_init : MethodName := ⟨R_I, "<init>", "(IIII)V"⟩
abbrev b_F_service : ByteArray := prog_1_method_3_code
def y_F_service : MethodName := ⟨R_F, "service", "(II)I"⟩
abbrev b_F_find : ByteArray := prog_1_method_18_code
def y_F_find : MethodName := ⟨R_F, "find", "(I)LItemFacts$Item;"⟩
abbrev b_I_has : ByteArray := prog_3_method_2_code
def y_I_has : MethodName := ⟨R_I, "has", "(I)Z"⟩
abbrev b_I_isAtEnd : ByteArray := prog_3_method_3_code
def y_I_isAtEnd : MethodName := ⟨R_I, "isAtEnd", "()Z"⟩
abbrev b_I_leastExcluding : ByteArray := prog_3_method_5_code
def y_I_leastExcluding : MethodName := ⟨R_I, "leastExcluding", "(I)I"⟩
abbrev b_I_lacksWhatIsWanted : ByteArray := prog_3_method_6_code
def y_I_lacksWhatIsWanted : MethodName := ⟨R_I, "lacksWhatIsWanted", "(I)Z"⟩
abbrev b_J_bitCount : ByteArray := prog_7_method_49_code
def y_J_bitCount : MethodName := ⟨R_J, "bitCount", "(I)I"⟩
abbrev b_F_event : ByteArray := prog_1_method_4_code
def y_F_event : MethodName := ⟨R_F, "event", "(II)I"⟩
abbrev b_I_stateBehind : ByteArray := prog_3_method_7_code
def y_I_stateBehind : MethodName := ⟨R_I, "stateBehind", "(I)I"⟩
abbrev b_F_mustWait : ByteArray := prog_1_method_20_code
def y_F_mustWait : MethodName := ⟨R_F, "mustWait", "(I)Z"⟩
abbrev b_I_undergo : ByteArray := prog_3_method_8_code
def y_I_undergo : MethodName := ⟨R_I, "undergo", "(II)V"⟩
abbrev b_F_address : ByteArray := prog_1_method_5_code
def y_F_address : MethodName := ⟨R_F, "address", "(III)I"⟩
abbrev b_F_abroad : ByteArray := prog_1_method_6_code
def y_F_abroad : MethodName := ⟨R_F, "abroad", "(II)I"⟩
abbrev b_F_contents : ByteArray := prog_1_method_7_code
def y_F_contents : MethodName := ⟨R_F, "contents", "(III)I"⟩
abbrev b_F_join : ByteArray := prog_1_method_8_code
def y_F_join : MethodName := ⟨R_F, "join", "(IIZ)I"⟩
abbrev b_F_bulk : ByteArray := prog_1_method_9_code
def y_F_bulk : MethodName := ⟨R_F, "bulk", "(II)I"⟩
abbrev b_F_open : ByteArray := prog_1_method_10_code
def y_F_open : MethodName := ⟨R_F, "open", "(III)I"⟩
abbrev b_F_correct : ByteArray := prog_1_method_11_code
def y_F_correct : MethodName := ⟨R_F, "correct", "(IIII)I"⟩
abbrev b_F_mayBecome : ByteArray := prog_1_method_21_code
def y_F_mayBecome : MethodName := ⟨R_F, "mayBecome", "(II)Z"⟩
abbrev b_I_wouldStay : ByteArray := prog_3_method_10_code
def y_I_wouldStay : MethodName := ⟨R_I, "wouldStay", "(II)Z"⟩
abbrev b_I_correctable : ByteArray := prog_3_method_9_code
def y_I_correctable : MethodName := ⟨R_I, "correctable", "(I)I"⟩
abbrev b_C_init : ByteArray := prog_2_method_1_code
def y_C_init : MethodName := ⟨R_C, "<init>", "(IIIII)V"⟩
abbrev b_I_become : ByteArray := prog_3_method_11_code
def y_I_become : MethodName := ⟨R_I, "become", "(II)V"⟩
abbrev b_F_row : ByteArray := prog_1_method_12_code
def y_F_row : MethodName := ⟨R_F, "row", "(II)I"⟩
abbrev b_C_part : ByteArray := prog_2_method_2_code
def y_C_part : MethodName := ⟨R_C, "part", "(I)I"⟩
abbrev b_F_about : ByteArray := prog_1_method_13_code
def y_F_about : MethodName := ⟨R_F, "about", "(II)I"⟩
abbrev b_I_fact : ByteArray := prog_3_method_12_code
def y_I_fact : MethodName := ⟨R_I, "fact", "(I)I"⟩
abbrev b_F_pack : ByteArray := prog_1_method_14_code
def y_F_pack : MethodName := ⟨R_F, "pack", "(I)I"⟩
abbrev b_P_fill : ByteArray := prog_4_method_3_code
def y_P_fill : MethodName := ⟨R_P, "fill", "(ILItemFacts$Item;)V"⟩
abbrev b_P_addTwo : ByteArray := prog_4_method_5_code
def y_P_addTwo : MethodName := ⟨R_P, "addTwo", "(I)V"⟩
abbrev b_P_add : ByteArray := prog_4_method_4_code
def y_P_add : MethodName := ⟨R_P, "add", "(I)V"⟩
abbrev b_P_addEntry : ByteArray := prog_4_method_6_code
def y_P_addEntry : MethodName := ⟨R_P, "addEntry", "(I)V"⟩
abbrev b_P_xorOfAll : ByteArray := prog_4_method_7_code
def y_P_xorOfAll : MethodName := ⟨R_P, "xorOfAll", "()I"⟩
abbrev b_F_octet : ByteArray := prog_1_method_15_code
def y_F_octet : MethodName := ⟨R_F, "octet", "(I)I"⟩
abbrev b_P_at : ByteArray := prog_4_method_2_code
def y_P_at : MethodName := ⟨R_P, "at", "(I)I"⟩
abbrev b_F_aside : ByteArray := prog_1_method_16_code
def y_F_aside : MethodName := ⟨R_F, "aside", "(I)I"⟩
abbrev b_I_isSetAside : ByteArray := prog_3_method_4_code
def y_I_isSetAside : MethodName := ⟨R_I, "isSetAside", "()Z"⟩
abbrev b_M_init : ByteArray := prog_6_method_1_code
def y_M_init : MethodName := ⟨R_M, "<init>", "()V"⟩
abbrev b_M_item : ByteArray := prog_6_method_9_code
def y_M_item : MethodName := ⟨R_M, "item", "(IIII)I"⟩
abbrev b_M_within : ByteArray := prog_6_method_3_code
def y_M_within : MethodName := ⟨R_M, "within", "(III)Z"⟩
abbrev b_M_tooMuch : ByteArray := prog_6_method_7_code
def y_M_tooMuch : MethodName := ⟨R_M, "tooMuch", "(II)I"⟩
abbrev b_M_turned : ByteArray := prog_6_method_8_code
def y_M_turned : MethodName := ⟨R_M, "turned", "(III)I"⟩
abbrev b_M_mostOf : ByteArray := prog_6_method_6_code
def y_M_mostOf : MethodName := ⟨R_M, "mostOf", "(I)I"⟩
abbrev b_M_service : ByteArray := prog_6_method_12_code
def y_M_service : MethodName := ⟨R_M, "service", "(II)I"⟩
abbrev b_M_isItem : ByteArray := prog_6_method_4_code
def y_M_isItem : MethodName := ⟨R_M, "isItem", "(I)Z"⟩
abbrev b_M_has : ByteArray := prog_6_method_11_code
def y_M_has : MethodName := ⟨R_M, "has", "(II)Z"⟩
abbrev b_M_isOver : ByteArray := prog_6_method_5_code
def y_M_isOver : MethodName := ⟨R_M, "isOver", "(I)Z"⟩
abbrev b_M_excludes : ByteArray := prog_6_method_10_code
def y_M_excludes : MethodName := ⟨R_M, "excludes", "(II)Z"⟩
abbrev b_M_event : ByteArray := prog_6_method_15_code
def y_M_event : MethodName := ⟨R_M, "event", "(II)I"⟩
abbrev b_M_ledTo : ByteArray := prog_6_method_13_code
def y_M_ledTo : MethodName := ⟨R_M, "ledTo", "(II)I"⟩
abbrev b_M_mustWait : ByteArray := prog_6_method_14_code
def y_M_mustWait : MethodName := ⟨R_M, "mustWait", "(I)Z"⟩
abbrev b_M_address : ByteArray := prog_6_method_16_code
def y_M_address : MethodName := ⟨R_M, "address", "(III)I"⟩
abbrev b_M_abroad : ByteArray := prog_6_method_17_code
def y_M_abroad : MethodName := ⟨R_M, "abroad", "(II)I"⟩
abbrev b_M_contents : ByteArray := prog_6_method_18_code
def y_M_contents : MethodName := ⟨R_M, "contents", "(III)I"⟩
abbrev b_M_join : ByteArray := prog_6_method_20_code
def y_M_join : MethodName := ⟨R_M, "join", "(IIZ)I"⟩
abbrev b_M_belonging : ByteArray := prog_6_method_19_code
def y_M_belonging : MethodName := ⟨R_M, "belonging", "([II)I"⟩
abbrev b_M_bulk : ByteArray := prog_6_method_21_code
def y_M_bulk : MethodName := ⟨R_M, "bulk", "(II)I"⟩
abbrev b_M_open : ByteArray := prog_6_method_22_code
def y_M_open : MethodName := ⟨R_M, "open", "(III)I"⟩
abbrev b_M_correct : ByteArray := prog_6_method_24_code
def y_M_correct : MethodName := ⟨R_M, "correct", "(IIII)I"⟩
abbrev b_M_factOf : ByteArray := prog_6_method_23_code
def y_M_factOf : MethodName := ⟨R_M, "factOf", "(II)I"⟩
abbrev b_M_row : ByteArray := prog_6_method_25_code
def y_M_row : MethodName := ⟨R_M, "row", "(II)I"⟩
abbrev b_M_about : ByteArray := prog_6_method_26_code
def y_M_about : MethodName := ⟨R_M, "about", "(II)I"⟩
abbrev b_M_pack : ByteArray := prog_6_method_28_code
def y_M_pack : MethodName := ⟨R_M, "pack", "(I)I"⟩
abbrev b_M_put : ByteArray := prog_6_method_27_code
def y_M_put : MethodName := ⟨R_M, "put", "(II)V"⟩
abbrev b_M_octet : ByteArray := prog_6_method_29_code
def y_M_octet : MethodName := ⟨R_M, "octet", "(I)I"⟩
abbrev b_M_aside : ByteArray := prog_6_method_30_code
def y_M_aside : MethodName := ⟨R_M, "aside", "(I)I"⟩
set_option maxRecDepth 8000 in
theorem lk_F_1 : Cond.methodLink R_F 1 objectInit ∈ wd_tb := wd_in 39 rfl rfl
set_option maxRecDepth 8000 in
theorem lk_F_9 : Cond.classLink R_F 9 "ItemFacts$Item" ∈ wd_tb := wd_in 42 rfl rfl
set_option maxRecDepth 8000 in
theorem lk_F_11 : Cond.fieldLink R_F 11 "ItemFacts" "items" "[LItemFacts$Item;" ∈ wd_tb := wd_in 62 rfl rfl
set_option maxRecDepth 8000 in
theorem lk_F_15 : Cond.fieldLink R_F 15 "ItemFacts" "itemCount" "I" ∈ wd_tb := wd_in 63 rfl rfl
set_option maxRecDepth 8000 in
theorem lk_F_19 : Cond.classLink R_F 19 "ItemFacts$Correction" ∈ wd_tb := wd_in 44 rfl rfl
set_option maxRecDepth 8000 in
theorem lk_F_21 : Cond.fieldLink R_F 21 "ItemFacts" "corrections" "[LItemFacts$Correction;" ∈ wd_tb := wd_in 64 rfl rfl
set_option maxRecDepth 8000 in
theorem lk_F_25 : Cond.fieldLink R_F 25 "ItemFacts" "correctionCount" "I" ∈ wd_tb := wd_in 65 rfl rfl
set_option maxRecDepth 8000 in
theorem lk_F_28 : Cond.fieldLink R_F 28 "ItemFacts" "joined" "[I" ∈ wd_tb := wd_in 66 rfl rfl
set_option maxRecDepth 8000 in
theorem lk_F_32 : Cond.fieldLink R_F 32 "ItemFacts" "waiting" "[Z" ∈ wd_tb := wd_in 67 rfl rfl
set_option maxRecDepth 8000 in
theorem lk_F_36 : Cond.fieldLink R_F 36 "ItemFacts" "bulked" "[I" ∈ wd_tb := wd_in 68 rfl rfl
set_option maxRecDepth 8000 in
theorem lk_F_39 : Cond.classLink R_F 39 "ItemFacts$Packed" ∈ wd_tb := wd_in 46 rfl rfl
set_option maxRecDepth 8000 in
theorem lk_F_41 : Cond.methodLinkNest R_F 41 y_P_init "ItemFacts" ∈ lw_tbl := List.mem_of_getElem? (i := 48) rfl
set_option maxRecDepth 8000 in
theorem lk_F_42 : Cond.fieldLink R_F 42 "ItemFacts" "packed" "LItemFacts$Packed;" ∈ wd_tb := wd_in 69 rfl rfl
set_option maxRecDepth 8000 in
theorem lk_F_46 : Cond.methodLink R_F 46 y_F_within ∈ wd_tb := wd_in 91 rfl rfl
set_option maxRecDepth 8000 in
theorem lk_F_50 : Cond.constant R_F 50 (100000 : Int32) ∈ wd_tb := wd_in 94 rfl rfl
set_option maxRecDepth 8000 in
theorem lk_F_51 : Cond.fieldLink R_F 51 "ItemFacts" "BEARS_WEIGHT" "[I" ∈ wd_tb := wd_in 95 rfl rfl
set_option maxRecDepth 8000 in
theorem lk_F_54 : Cond.fieldLink R_F 54 "ItemFacts" "BEARS_SIZE" "[I" ∈ wd_tb := wd_in 97 rfl rfl
set_option maxRecDepth 8000 in
theorem lk_F_57 : Cond.methodLink R_F 57 y_F_turned ∈ wd_tb := wd_in 100 rfl rfl
set_option maxRecDepth 8000 in
theorem lk_F_61 : Cond.methodLinkNest R_F 61 y_I_init "ItemFacts" ∈ lw_tbl := List.mem_of_getElem? (i := 103) rfl
set_option maxRecDepth 8000 in
theorem lk_F_64 : Cond.methodLink R_F 64 y_F_find ∈ wd_tb := wd_in 188 rfl rfl
set_option maxRecDepth 8000 in
theorem lk_F_68 : Cond.methodLinkNest R_F 68 y_I_has "ItemFacts" ∈ lw_tbl := List.mem_of_getElem? (i := 192) rfl
set_option maxRecDepth 8000 in
theorem lk_F_72 : Cond.methodLinkNest R_F 72 y_I_isAtEnd "ItemFacts" ∈ lw_tbl := List.mem_of_getElem? (i := 196) rfl
set_option maxRecDepth 8000 in
theorem lk_F_76 : Cond.methodLinkNest R_F 76 y_I_leastExcluding "ItemFacts" ∈ lw_tbl := List.mem_of_getElem? (i := 200) rfl
set_option maxRecDepth 8000 in
theorem lk_F_80 : Cond.methodLinkNest R_F 80 y_I_lacksWhatIsWanted "ItemFacts" ∈ lw_tbl := List.mem_of_getElem? (i := 207) rfl
set_option maxRecDepth 8000 in
theorem lk_F_83 : Cond.fieldLinkNest R_F 83 "ItemFacts$Item" "services" "I" "ItemFacts" ∈ lw_tbl := List.mem_of_getElem? (i := 116) rfl
set_option maxRecDepth 8000 in
theorem lk_F_86 : Cond.methodLink R_F 86 y_J_bitCount ∈ wd_tb := wd_in 212 rfl rfl
set_option maxRecDepth 8000 in
theorem lk_F_91 : Cond.fieldLinkNest R_F 91 "ItemFacts$Item" "late" "I" "ItemFacts" ∈ lw_tbl := List.mem_of_getElem? (i := 137) rfl
set_option maxRecDepth 8000 in
theorem lk_F_94 : Cond.methodLinkNest R_F 94 y_I_stateBehind "ItemFacts" ∈ lw_tbl := List.mem_of_getElem? (i := 222) rfl
set_option maxRecDepth 8000 in
theorem lk_F_97 : Cond.fieldLinkNest R_F 97 "ItemFacts$Item" "land" "I" "ItemFacts" ∈ lw_tbl := List.mem_of_getElem? (i := 131) rfl
set_option maxRecDepth 8000 in
theorem lk_F_100 : Cond.fieldLinkNest R_F 100 "ItemFacts$Item" "contentCount" "I" "ItemFacts" ∈ lw_tbl := List.mem_of_getElem? (i := 142) rfl
set_option maxRecDepth 8000 in
theorem lk_F_103 : Cond.fieldLinkNest R_F 103 "ItemFacts$Item" "state" "I" "ItemFacts" ∈ lw_tbl := List.mem_of_getElem? (i := 119) rfl
set_option maxRecDepth 8000 in
theorem lk_F_106 : Cond.fieldLinkNest R_F 106 "ItemFacts$Item" "consignment" "I" "ItemFacts" ∈ lw_tbl := List.mem_of_getElem? (i := 133) rfl
set_option maxRecDepth 8000 in
theorem lk_F_109 : Cond.methodLink R_F 109 y_F_mustWait ∈ wd_tb := wd_in 226 rfl rfl
set_option maxRecDepth 8000 in
theorem lk_F_112 : Cond.methodLinkNest R_F 112 y_I_undergo "ItemFacts" ∈ lw_tbl := List.mem_of_getElem? (i := 230) rfl
set_option maxRecDepth 8000 in
theorem lk_F_116 : Cond.fieldLinkNest R_F 116 "ItemFacts$Item" "settled" "I" "ItemFacts" ∈ lw_tbl := List.mem_of_getElem? (i := 128) rfl
set_option maxRecDepth 8000 in
theorem lk_F_119 : Cond.fieldLinkNest R_F 119 "ItemFacts$Item" "read" "I" "ItemFacts" ∈ lw_tbl := List.mem_of_getElem? (i := 125) rfl
set_option maxRecDepth 8000 in
theorem lk_F_122 : Cond.fieldLinkNest R_F 122 "ItemFacts$Item" "whats" "[I" "ItemFacts" ∈ lw_tbl := List.mem_of_getElem? (i := 145) rfl
set_option maxRecDepth 8000 in
theorem lk_F_125 : Cond.fieldLinkNest R_F 125 "ItemFacts$Item" "cents" "[I" "ItemFacts" ∈ lw_tbl := List.mem_of_getElem? (i := 148) rfl
set_option maxRecDepth 8000 in
theorem lk_F_128 : Cond.fieldLinkNest R_F 128 "ItemFacts$Item" "bulkNumber" "I" "ItemFacts" ∈ lw_tbl := List.mem_of_getElem? (i := 135) rfl
set_option maxRecDepth 8000 in
theorem lk_F_131 : Cond.fieldLinkNest R_F 131 "ItemFacts$Item" "damaged" "Z" "ItemFacts" ∈ lw_tbl := List.mem_of_getElem? (i := 122) rfl
set_option maxRecDepth 8000 in
theorem lk_F_135 : Cond.fieldLinkNest R_F 135 "ItemFacts$Item" "openers" "I" "ItemFacts" ∈ lw_tbl := List.mem_of_getElem? (i := 139) rfl
set_option maxRecDepth 8000 in
theorem lk_F_138 : Cond.methodLink R_F 138 y_F_mayBecome ∈ wd_tb := wd_in 262 rfl rfl
set_option maxRecDepth 8000 in
theorem lk_F_142 : Cond.methodLinkNest R_F 142 y_I_wouldStay "ItemFacts" ∈ lw_tbl := List.mem_of_getElem? (i := 265) rfl
set_option maxRecDepth 8000 in
theorem lk_F_145 : Cond.methodLinkNest R_F 145 y_I_correctable "ItemFacts" ∈ lw_tbl := List.mem_of_getElem? (i := 275) rfl
set_option maxRecDepth 8000 in
theorem lk_F_148 : Cond.methodLinkNest R_F 148 y_C_init "ItemFacts" ∈ lw_tbl := List.mem_of_getElem? (i := 276) rfl
set_option maxRecDepth 8000 in
theorem lk_F_151 : Cond.methodLinkNest R_F 151 y_I_become "ItemFacts" ∈ lw_tbl := List.mem_of_getElem? (i := 296) rfl
set_option maxRecDepth 8000 in
theorem lk_F_154 : Cond.methodLinkNest R_F 154 y_C_part "ItemFacts" ∈ lw_tbl := List.mem_of_getElem? (i := 304) rfl
set_option maxRecDepth 8000 in
theorem lk_F_157 : Cond.methodLinkNest R_F 157 y_I_fact "ItemFacts" ∈ lw_tbl := List.mem_of_getElem? (i := 312) rfl
set_option maxRecDepth 8000 in
theorem lk_F_160 : Cond.methodLinkNest R_F 160 y_P_fill "ItemFacts" ∈ lw_tbl := List.mem_of_getElem? (i := 320) rfl
set_option maxRecDepth 8000 in
theorem lk_F_164 : Cond.fieldLinkNest R_F 164 "ItemFacts$Packed" "length" "I" "ItemFacts" ∈ lw_tbl := List.mem_of_getElem? (i := 54) rfl
set_option maxRecDepth 8000 in
theorem lk_F_167 : Cond.methodLinkNest R_F 167 y_P_at "ItemFacts" ∈ lw_tbl := List.mem_of_getElem? (i := 345) rfl
set_option maxRecDepth 8000 in
theorem lk_F_170 : Cond.methodLinkNest R_F 170 y_I_isSetAside "ItemFacts" ∈ lw_tbl := List.mem_of_getElem? (i := 354) rfl
set_option maxRecDepth 8000 in
theorem lk_C_3 : Cond.methodLink R_C 3 objectInit ∈ wd_tb := wd_in 279 rfl rfl
set_option maxRecDepth 8000 in
theorem lk_C_9 : Cond.fieldLink R_C 9 "ItemFacts$Correction" "number" "I" ∈ wd_tb := wd_in 280 rfl rfl
set_option maxRecDepth 8000 in
theorem lk_C_15 : Cond.fieldLink R_C 15 "ItemFacts$Correction" "what" "I" ∈ wd_tb := wd_in 281 rfl rfl
set_option maxRecDepth 8000 in
theorem lk_C_18 : Cond.fieldLink R_C 18 "ItemFacts$Correction" "was" "I" ∈ wd_tb := wd_in 282 rfl rfl
set_option maxRecDepth 8000 in
theorem lk_C_21 : Cond.fieldLink R_C 21 "ItemFacts$Correction" "told" "I" ∈ wd_tb := wd_in 283 rfl rfl
set_option maxRecDepth 8000 in
theorem lk_C_24 : Cond.fieldLink R_C 24 "ItemFacts$Correction" "reason" "I" ∈ wd_tb := wd_in 284 rfl rfl
set_option maxRecDepth 8000 in
theorem lk_I_3 : Cond.methodLink R_I 3 objectInit ∈ wd_tb := wd_in 106 rfl rfl
set_option maxRecDepth 8000 in
theorem lk_I_9 : Cond.fieldLink R_I 9 "ItemFacts$Item" "kind" "I" ∈ wd_tb := wd_in 107 rfl rfl
set_option maxRecDepth 8000 in
theorem lk_I_15 : Cond.fieldLink R_I 15 "ItemFacts$Item" "weight" "I" ∈ wd_tb := wd_in 109 rfl rfl
set_option maxRecDepth 8000 in
theorem lk_I_18 : Cond.fieldLink R_I 18 "ItemFacts$Item" "size" "I" ∈ wd_tb := wd_in 111 rfl rfl
set_option maxRecDepth 8000 in
theorem lk_I_21 : Cond.fieldLink R_I 21 "ItemFacts$Item" "sender" "I" ∈ wd_tb := wd_in 113 rfl rfl
set_option maxRecDepth 8000 in
theorem lk_I_24 : Cond.fieldLink R_I 24 "ItemFacts$Item" "services" "I" ∈ wd_tb := wd_in 114 rfl rfl
set_option maxRecDepth 8000 in
theorem lk_I_27 : Cond.fieldLink R_I 27 "ItemFacts$Item" "state" "I" ∈ wd_tb := wd_in 117 rfl rfl
set_option maxRecDepth 8000 in
theorem lk_I_30 : Cond.fieldLink R_I 30 "ItemFacts$Item" "damaged" "Z" ∈ wd_tb := wd_in 120 rfl rfl
set_option maxRecDepth 8000 in
theorem lk_I_34 : Cond.fieldLink R_I 34 "ItemFacts$Item" "read" "I" ∈ wd_tb := wd_in 123 rfl rfl
set_option maxRecDepth 8000 in
theorem lk_I_37 : Cond.fieldLink R_I 37 "ItemFacts$Item" "settled" "I" ∈ wd_tb := wd_in 126 rfl rfl
set_option maxRecDepth 8000 in
theorem lk_I_40 : Cond.fieldLink R_I 40 "ItemFacts$Item" "land" "I" ∈ wd_tb := wd_in 129 rfl rfl
set_option maxRecDepth 8000 in
theorem lk_I_43 : Cond.fieldLink R_I 43 "ItemFacts$Item" "consignment" "I" ∈ wd_tb := wd_in 132 rfl rfl
set_option maxRecDepth 8000 in
theorem lk_I_46 : Cond.fieldLink R_I 46 "ItemFacts$Item" "bulkNumber" "I" ∈ wd_tb := wd_in 134 rfl rfl
set_option maxRecDepth 8000 in
theorem lk_I_49 : Cond.fieldLink R_I 49 "ItemFacts$Item" "late" "I" ∈ wd_tb := wd_in 136 rfl rfl
set_option maxRecDepth 8000 in
theorem lk_I_52 : Cond.fieldLink R_I 52 "ItemFacts$Item" "openers" "I" ∈ wd_tb := wd_in 138 rfl rfl
set_option maxRecDepth 8000 in
theorem lk_I_55 : Cond.fieldLink R_I 55 "ItemFacts$Item" "contentCount" "I" ∈ wd_tb := wd_in 140 rfl rfl
set_option maxRecDepth 8000 in
theorem lk_I_58 : Cond.fieldLink R_I 58 "ItemFacts$Item" "whats" "[I" ∈ wd_tb := wd_in 143 rfl rfl
set_option maxRecDepth 8000 in
theorem lk_I_62 : Cond.fieldLink R_I 62 "ItemFacts$Item" "cents" "[I" ∈ wd_tb := wd_in 146 rfl rfl
set_option maxRecDepth 8000 in
theorem lk_I_65 : Cond.methodLinkNest R_I 65 y_F_within "ItemFacts" ∈ lw_tbl := List.mem_of_getElem? (i := 204) rfl
set_option maxRecDepth 8000 in
theorem lk_I_69 : Cond.fieldLinkNest R_I 69 "ItemFacts" "EXCLUDES" "[I" "ItemFacts" ∈ lw_tbl := List.mem_of_getElem? (i := 205) rfl
set_option maxRecDepth 8000 in
theorem lk_I_72 : Cond.methodLink R_I 72 y_I_has ∈ wd_tb := wd_in 211 rfl rfl
set_option maxRecDepth 8000 in
theorem lk_I_76 : Cond.methodLinkNest R_I 76 y_F_turned "ItemFacts" ∈ lw_tbl := List.mem_of_getElem? (i := 269) rfl
set_option maxRecDepth 8000 in
theorem lk_I_80 : Cond.methodLink R_I 80 y_I_correctable ∈ wd_tb := wd_in 270 rfl rfl
set_option maxRecDepth 8000 in
theorem lk_P_3 : Cond.methodLink R_P 3 objectInit ∈ wd_tb := wd_in 51 rfl rfl
set_option maxRecDepth 8000 in
theorem lk_P_11 : Cond.fieldLink R_P 11 "ItemFacts$Packed" "bytes" "[I" ∈ wd_tb := wd_in 52 rfl rfl
set_option maxRecDepth 8000 in
theorem lk_P_15 : Cond.fieldLink R_P 15 "ItemFacts$Packed" "length" "I" ∈ wd_tb := wd_in 53 rfl rfl
set_option maxRecDepth 8000 in
theorem lk_P_19 : Cond.methodLinkNest R_P 19 y_F_within "ItemFacts" ∈ lw_tbl := List.mem_of_getElem? (i := 349) rfl
set_option maxRecDepth 8000 in
theorem lk_P_23 : Cond.methodLink R_P 23 y_P_addTwo ∈ wd_tb := wd_in 324 rfl rfl
set_option maxRecDepth 8000 in
theorem lk_P_27 : Cond.fieldLinkNest R_P 27 "ItemFacts$Item" "kind" "I" "ItemFacts" ∈ lw_tbl := List.mem_of_getElem? (i := 108) rfl
set_option maxRecDepth 8000 in
theorem lk_P_32 : Cond.fieldLinkNest R_P 32 "ItemFacts$Item" "size" "I" "ItemFacts" ∈ lw_tbl := List.mem_of_getElem? (i := 112) rfl
set_option maxRecDepth 8000 in
theorem lk_P_35 : Cond.methodLink R_P 35 y_P_add ∈ wd_tb := wd_in 328 rfl rfl
set_option maxRecDepth 8000 in
theorem lk_P_38 : Cond.fieldLinkNest R_P 38 "ItemFacts$Item" "weight" "I" "ItemFacts" ∈ lw_tbl := List.mem_of_getElem? (i := 110) rfl
set_option maxRecDepth 8000 in
theorem lk_P_41 : Cond.fieldLinkNest R_P 41 "ItemFacts$Item" "services" "I" "ItemFacts" ∈ lw_tbl := List.mem_of_getElem? (i := 115) rfl
set_option maxRecDepth 8000 in
theorem lk_P_44 : Cond.fieldLinkNest R_P 44 "ItemFacts$Item" "damaged" "Z" "ItemFacts" ∈ lw_tbl := List.mem_of_getElem? (i := 121) rfl
set_option maxRecDepth 8000 in
theorem lk_P_48 : Cond.fieldLinkNest R_P 48 "ItemFacts$Item" "state" "I" "ItemFacts" ∈ lw_tbl := List.mem_of_getElem? (i := 118) rfl
set_option maxRecDepth 8000 in
theorem lk_P_51 : Cond.fieldLinkNest R_P 51 "ItemFacts$Item" "read" "I" "ItemFacts" ∈ lw_tbl := List.mem_of_getElem? (i := 124) rfl
set_option maxRecDepth 8000 in
theorem lk_P_54 : Cond.methodLink R_P 54 y_P_addEntry ∈ wd_tb := wd_in 332 rfl rfl
set_option maxRecDepth 8000 in
theorem lk_P_57 : Cond.fieldLinkNest R_P 57 "ItemFacts$Item" "settled" "I" "ItemFacts" ∈ lw_tbl := List.mem_of_getElem? (i := 127) rfl
set_option maxRecDepth 8000 in
theorem lk_P_60 : Cond.fieldLinkNest R_P 60 "ItemFacts$Item" "land" "I" "ItemFacts" ∈ lw_tbl := List.mem_of_getElem? (i := 130) rfl
set_option maxRecDepth 8000 in
theorem lk_P_63 : Cond.fieldLinkNest R_P 63 "ItemFacts$Item" "contentCount" "I" "ItemFacts" ∈ lw_tbl := List.mem_of_getElem? (i := 141) rfl
set_option maxRecDepth 8000 in
theorem lk_P_66 : Cond.fieldLinkNest R_P 66 "ItemFacts$Item" "whats" "[I" "ItemFacts" ∈ lw_tbl := List.mem_of_getElem? (i := 144) rfl
set_option maxRecDepth 8000 in
theorem lk_P_69 : Cond.fieldLinkNest R_P 69 "ItemFacts$Item" "cents" "[I" "ItemFacts" ∈ lw_tbl := List.mem_of_getElem? (i := 147) rfl
set_option maxRecDepth 8000 in
theorem lk_P_72 : Cond.methodLink R_P 72 y_P_xorOfAll ∈ wd_tb := wd_in 337 rfl rfl
set_option maxRecDepth 8000 in
theorem lk_P_76 : Cond.constant R_P 76 (65535 : Int32) ∈ wd_tb := wd_in 336 rfl rfl
set_option maxRecDepth 8000 in
theorem lk_L_7 : Cond.classLink R_L 7 "ItemFacts" ∈ wd_tb := wd_in 34 rfl rfl
set_option maxRecDepth 8000 in
theorem lk_L_9 : Cond.methodLink R_L 9 y_F_init ∈ wd_tb := wd_in 36 rfl rfl
set_option maxRecDepth 8000 in
theorem lk_L_10 : Cond.classLink R_L 10 "ItemFactsModel" ∈ wd_tb := wd_in 358 rfl rfl
set_option maxRecDepth 8000 in
theorem lk_L_12 : Cond.methodLink R_L 12 y_M_init ∈ wd_tb := wd_in 360 rfl rfl
set_option maxRecDepth 8000 in
theorem lk_L_13 : Cond.methodLink R_L 13 y_F_item ∈ wd_tb := wd_in 87 rfl rfl
set_option maxRecDepth 8000 in
theorem lk_L_17 : Cond.methodLink R_L 17 y_M_item ∈ wd_tb := wd_in 434 rfl rfl
set_option maxRecDepth 8000 in
theorem lk_L_18 : Cond.methodLink R_L 18 y_F_service ∈ wd_tb := wd_in 184 rfl rfl
set_option maxRecDepth 8000 in
theorem lk_L_22 : Cond.methodLink R_L 22 y_M_service ∈ wd_tb := wd_in 451 rfl rfl
set_option maxRecDepth 8000 in
theorem lk_L_23 : Cond.methodLink R_L 23 y_F_event ∈ wd_tb := wd_in 218 rfl rfl
set_option maxRecDepth 8000 in
theorem lk_L_26 : Cond.methodLink R_L 26 y_M_event ∈ wd_tb := wd_in 470 rfl rfl
set_option maxRecDepth 8000 in
theorem lk_L_27 : Cond.methodLink R_L 27 y_F_address ∈ wd_tb := wd_in 234 rfl rfl
set_option maxRecDepth 8000 in
theorem lk_L_31 : Cond.methodLink R_L 31 y_M_address ∈ wd_tb := wd_in 481 rfl rfl
set_option maxRecDepth 8000 in
theorem lk_L_32 : Cond.methodLink R_L 32 y_F_abroad ∈ wd_tb := wd_in 238 rfl rfl
set_option maxRecDepth 8000 in
theorem lk_L_35 : Cond.methodLink R_L 35 y_M_abroad ∈ wd_tb := wd_in 485 rfl rfl
set_option maxRecDepth 8000 in
theorem lk_L_36 : Cond.methodLink R_L 36 y_F_contents ∈ wd_tb := wd_in 242 rfl rfl
set_option maxRecDepth 8000 in
theorem lk_L_39 : Cond.methodLink R_L 39 y_M_contents ∈ wd_tb := wd_in 489 rfl rfl
set_option maxRecDepth 8000 in
theorem lk_L_40 : Cond.methodLink R_L 40 y_F_join ∈ wd_tb := wd_in 246 rfl rfl
set_option maxRecDepth 8000 in
theorem lk_L_44 : Cond.methodLink R_L 44 y_M_join ∈ wd_tb := wd_in 493 rfl rfl
set_option maxRecDepth 8000 in
theorem lk_L_45 : Cond.methodLink R_L 45 y_F_bulk ∈ wd_tb := wd_in 250 rfl rfl
set_option maxRecDepth 8000 in
theorem lk_L_48 : Cond.methodLink R_L 48 y_M_bulk ∈ wd_tb := wd_in 501 rfl rfl
set_option maxRecDepth 8000 in
theorem lk_L_49 : Cond.methodLink R_L 49 y_F_open ∈ wd_tb := wd_in 254 rfl rfl
set_option maxRecDepth 8000 in
theorem lk_L_52 : Cond.methodLink R_L 52 y_M_open ∈ wd_tb := wd_in 505 rfl rfl
set_option maxRecDepth 8000 in
theorem lk_L_53 : Cond.methodLink R_L 53 y_F_correct ∈ wd_tb := wd_in 258 rfl rfl
set_option maxRecDepth 8000 in
theorem lk_L_56 : Cond.methodLink R_L 56 y_M_correct ∈ wd_tb := wd_in 509 rfl rfl
set_option maxRecDepth 8000 in
theorem lk_L_57 : Cond.methodLink R_L 57 y_F_row ∈ wd_tb := wd_in 300 rfl rfl
set_option maxRecDepth 8000 in
theorem lk_L_60 : Cond.methodLink R_L 60 y_M_row ∈ wd_tb := wd_in 517 rfl rfl
set_option maxRecDepth 8000 in
theorem lk_L_61 : Cond.methodLink R_L 61 y_F_about ∈ wd_tb := wd_in 308 rfl rfl
set_option maxRecDepth 8000 in
theorem lk_L_64 : Cond.methodLink R_L 64 y_M_about ∈ wd_tb := wd_in 521 rfl rfl
set_option maxRecDepth 8000 in
theorem lk_L_65 : Cond.methodLink R_L 65 y_F_pack ∈ wd_tb := wd_in 316 rfl rfl
set_option maxRecDepth 8000 in
theorem lk_L_69 : Cond.methodLink R_L 69 y_M_pack ∈ wd_tb := wd_in 525 rfl rfl
set_option maxRecDepth 8000 in
theorem lk_L_70 : Cond.methodLink R_L 70 y_F_octet ∈ wd_tb := wd_in 341 rfl rfl
set_option maxRecDepth 8000 in
theorem lk_L_73 : Cond.methodLink R_L 73 y_M_octet ∈ wd_tb := wd_in 533 rfl rfl
set_option maxRecDepth 8000 in
theorem lk_L_74 : Cond.methodLink R_L 74 y_F_aside ∈ wd_tb := wd_in 350 rfl rfl
set_option maxRecDepth 8000 in
theorem lk_L_77 : Cond.methodLink R_L 77 y_M_aside ∈ wd_tb := wd_in 537 rfl rfl
set_option maxRecDepth 8000 in
theorem lk_M_1 : Cond.methodLink R_M 1 objectInit ∈ wd_tb := wd_in 363 rfl rfl
set_option maxRecDepth 8000 in
theorem lk_M_7 : Cond.fieldLink R_M 7 "ItemFactsModel" "kinds" "[I" ∈ wd_tb := wd_in 365 rfl rfl
set_option maxRecDepth 8000 in
theorem lk_M_13 : Cond.fieldLink R_M 13 "ItemFactsModel" "weights" "[I" ∈ wd_tb := wd_in 366 rfl rfl
set_option maxRecDepth 8000 in
theorem lk_M_16 : Cond.fieldLink R_M 16 "ItemFactsModel" "sizes" "[I" ∈ wd_tb := wd_in 367 rfl rfl
set_option maxRecDepth 8000 in
theorem lk_M_19 : Cond.fieldLink R_M 19 "ItemFactsModel" "senders" "[I" ∈ wd_tb := wd_in 368 rfl rfl
set_option maxRecDepth 8000 in
theorem lk_M_22 : Cond.fieldLink R_M 22 "ItemFactsModel" "services" "[I" ∈ wd_tb := wd_in 369 rfl rfl
set_option maxRecDepth 8000 in
theorem lk_M_25 : Cond.fieldLink R_M 25 "ItemFactsModel" "states" "[I" ∈ wd_tb := wd_in 370 rfl rfl
set_option maxRecDepth 8000 in
theorem lk_M_28 : Cond.fieldLink R_M 28 "ItemFactsModel" "damaged" "[Z" ∈ wd_tb := wd_in 371 rfl rfl
set_option maxRecDepth 8000 in
theorem lk_M_32 : Cond.fieldLink R_M 32 "ItemFactsModel" "late" "[I" ∈ wd_tb := wd_in 372 rfl rfl
set_option maxRecDepth 8000 in
theorem lk_M_35 : Cond.fieldLink R_M 35 "ItemFactsModel" "asRead" "[I" ∈ wd_tb := wd_in 373 rfl rfl
set_option maxRecDepth 8000 in
theorem lk_M_38 : Cond.fieldLink R_M 38 "ItemFactsModel" "settled" "[I" ∈ wd_tb := wd_in 374 rfl rfl
set_option maxRecDepth 8000 in
theorem lk_M_41 : Cond.fieldLink R_M 41 "ItemFactsModel" "lands" "[I" ∈ wd_tb := wd_in 375 rfl rfl
set_option maxRecDepth 8000 in
theorem lk_M_44 : Cond.fieldLink R_M 44 "ItemFactsModel" "many" "[I" ∈ wd_tb := wd_in 376 rfl rfl
set_option maxRecDepth 8000 in
theorem lk_M_47 : Cond.fieldLink R_M 47 "ItemFactsModel" "whats" "[I" ∈ wd_tb := wd_in 377 rfl rfl
set_option maxRecDepth 8000 in
theorem lk_M_50 : Cond.fieldLink R_M 50 "ItemFactsModel" "cents" "[I" ∈ wd_tb := wd_in 378 rfl rfl
set_option maxRecDepth 8000 in
theorem lk_M_53 : Cond.fieldLink R_M 53 "ItemFactsModel" "consignments" "[I" ∈ wd_tb := wd_in 379 rfl rfl
set_option maxRecDepth 8000 in
theorem lk_M_56 : Cond.fieldLink R_M 56 "ItemFactsModel" "waiting" "[Z" ∈ wd_tb := wd_in 380 rfl rfl
set_option maxRecDepth 8000 in
theorem lk_M_59 : Cond.fieldLink R_M 59 "ItemFactsModel" "bulks" "[I" ∈ wd_tb := wd_in 381 rfl rfl
set_option maxRecDepth 8000 in
theorem lk_M_62 : Cond.fieldLink R_M 62 "ItemFactsModel" "openers" "[I" ∈ wd_tb := wd_in 382 rfl rfl
set_option maxRecDepth 8000 in
theorem lk_M_65 : Cond.fieldLink R_M 65 "ItemFactsModel" "rowCells" "[I" ∈ wd_tb := wd_in 384 rfl rfl
set_option maxRecDepth 8000 in
theorem lk_M_68 : Cond.fieldLink R_M 68 "ItemFactsModel" "bytes" "[I" ∈ wd_tb := wd_in 386 rfl rfl
set_option maxRecDepth 8000 in
theorem lk_M_71 : Cond.fieldLink R_M 71 "ItemFactsModel" "items" "I" ∈ wd_tb := wd_in 364 rfl rfl
set_option maxRecDepth 8000 in
theorem lk_M_75 : Cond.methodLink R_M 75 y_M_within ∈ wd_tb := wd_in 438 rfl rfl
set_option maxRecDepth 8000 in
theorem lk_M_79 : Cond.methodLink R_M 79 y_M_mostOf ∈ wd_tb := wd_in 448 rfl rfl
set_option maxRecDepth 8000 in
theorem lk_M_83 : Cond.constant R_M 83 (100000 : Int32) ∈ wd_tb := wd_in 441 rfl rfl
set_option maxRecDepth 8000 in
theorem lk_M_84 : Cond.methodLink R_M 84 y_M_tooMuch ∈ wd_tb := wd_in 442 rfl rfl
set_option maxRecDepth 8000 in
theorem lk_M_88 : Cond.methodLink R_M 88 y_M_turned ∈ wd_tb := wd_in 445 rfl rfl
set_option maxRecDepth 8000 in
theorem lk_M_92 : Cond.methodLink R_M 92 y_M_isItem ∈ wd_tb := wd_in 455 rfl rfl
set_option maxRecDepth 8000 in
theorem lk_M_96 : Cond.methodLink R_M 96 y_M_has ∈ wd_tb := wd_in 459 rfl rfl
set_option maxRecDepth 8000 in
theorem lk_M_100 : Cond.methodLink R_M 100 y_M_isOver ∈ wd_tb := wd_in 463 rfl rfl
set_option maxRecDepth 8000 in
theorem lk_M_103 : Cond.methodLink R_M 103 y_M_excludes ∈ wd_tb := wd_in 467 rfl rfl
set_option maxRecDepth 8000 in
theorem lk_M_106 : Cond.methodLink R_M 106 y_M_ledTo ∈ wd_tb := wd_in 474 rfl rfl
set_option maxRecDepth 8000 in
theorem lk_M_109 : Cond.methodLink R_M 109 y_M_mustWait ∈ wd_tb := wd_in 477 rfl rfl
set_option maxRecDepth 8000 in
theorem lk_M_112 : Cond.methodLink R_M 112 y_M_belonging ∈ wd_tb := wd_in 497 rfl rfl
set_option maxRecDepth 8000 in
theorem lk_M_116 : Cond.methodLink R_M 116 y_M_factOf ∈ wd_tb := wd_in 513 rfl rfl
set_option maxRecDepth 8000 in
theorem lk_M_119 : Cond.fieldLink R_M 119 "ItemFactsModel" "rows" "I" ∈ wd_tb := wd_in 383 rfl rfl
set_option maxRecDepth 8000 in
theorem lk_M_122 : Cond.fieldLink R_M 122 "ItemFactsModel" "packed" "I" ∈ wd_tb := wd_in 385 rfl rfl
set_option maxRecDepth 8000 in
theorem lk_M_125 : Cond.methodLink R_M 125 y_M_put ∈ wd_tb := wd_in 529 rfl rfl
set_option maxRecDepth 8000 in
theorem lk_J_265 : Cond.constant R_J 265 (1431655765 : Int32) ∈ wd_tb := wd_in 215 rfl rfl
set_option maxRecDepth 8000 in
theorem lk_J_266 : Cond.constant R_J 266 (858993459 : Int32) ∈ wd_tb := wd_in 216 rfl rfl
set_option maxRecDepth 8000 in
theorem lk_J_267 : Cond.constant R_J 267 (252645135 : Int32) ∈ wd_tb := wd_in 217 rfl rfl
set_option maxRecDepth 8000 in
theorem wi_L : Cond.initialized R_L ∈ wd_tb := wd_in 27 rfl rfl
set_option maxRecDepth 8000 in
theorem wi_F : Cond.initialized R_F ∈ wd_tb := wd_in 28 rfl rfl
set_option maxRecDepth 8000 in
theorem wi_P : Cond.initialized R_P ∈ wd_tb := wd_in 29 rfl rfl
set_option maxRecDepth 8000 in
theorem wi_M : Cond.initialized R_M ∈ wd_tb := wd_in 30 rfl rfl
set_option maxRecDepth 8000 in
theorem wi_I : Cond.initialized R_I ∈ wd_tb := wd_in 31 rfl rfl
set_option maxRecDepth 8000 in
theorem wi_J : Cond.initialized R_J ∈ wd_tb := wd_in 32 rfl rfl
set_option maxRecDepth 8000 in
theorem wi_C : Cond.initialized R_C ∈ wd_tb := wd_in 33 rfl rfl
set_option maxRecDepth 8000 in
theorem wn_F : Cond.instantiable R_F 8 ∈ wd_tb := wd_in 35 rfl rfl
set_option maxRecDepth 8000 in
theorem wm_F_init : Cond.instanceMethod y_F_init ∈ wd_tb := wd_in 37 rfl rfl
set_option maxRecDepth 8000 in
theorem wm_obj : Cond.instanceMethod objectInit ∈ wd_tb := wd_in 40 rfl rfl
set_option maxRecDepth 8000 in
theorem wc_obj : Cond.code objectInit ⟨#[0xb1]⟩ 1 none ∈ wd_tb := wd_in 41 rfl rfl
set_option maxRecDepth 8000 in
theorem wa_I : (Cond.arrayOver (FieldType.object "ItemFacts$Item")) ∈ lw_tbl := List.mem_of_getElem? (i := 43) rfl
set_option maxRecDepth 8000 in
theorem wa_C : (Cond.arrayOver (FieldType.object "ItemFacts$Correction")) ∈ lw_tbl := List.mem_of_getElem? (i := 45) rfl
set_option maxRecDepth 8000 in
theorem wn_P : Cond.instantiable R_P 2 ∈ wd_tb := wd_in 47 rfl rfl
set_option maxRecDepth 8000 in
theorem wm_P_init : Cond.instanceMethod y_P_init ∈ wd_tb := wd_in 49 rfl rfl
set_option maxRecDepth 8000 in
theorem wa_int : (Cond.arrayClass FieldType.int) ∈ wd_tb := wd_in 60 rfl rfl
set_option maxRecDepth 8000 in
theorem wa_boolean : (Cond.arrayClass FieldType.boolean) ∈ wd_tb := wd_in 61 rfl rfl
set_option maxRecDepth 8000 in
theorem wm_F_item : Cond.instanceMethod y_F_item ∈ wd_tb := wd_in 88 rfl rfl
set_option maxRecDepth 8000 in
theorem wz_F_item : Cond.selects R_F y_F_item y_F_item ∈ wd_tb := wd_in 89 rfl rfl
set_option maxRecDepth 8000 in
theorem wt_F_within : Cond.static y_F_within ∈ wd_tb := wd_in 92 rfl rfl
set_option maxRecDepth 8000 in
theorem wl_BEARS_WEIGHT : (Cond.laysStatic "ItemFacts" "BEARS_WEIGHT" "[I") ∈ lw_tbl := List.mem_of_getElem? (i := 96) rfl
set_option maxRecDepth 8000 in
theorem wl_BEARS_SIZE : (Cond.laysStatic "ItemFacts" "BEARS_SIZE" "[I") ∈ lw_tbl := List.mem_of_getElem? (i := 98) rfl
set_option maxRecDepth 8000 in
theorem wn_I : Cond.instantiable R_I 17 ∈ wd_tb := wd_in 99 rfl rfl
set_option maxRecDepth 8000 in
theorem wt_F_turned : Cond.static y_F_turned ∈ wd_tb := wd_in 101 rfl rfl
set_option maxRecDepth 8000 in
theorem wm_I_init : Cond.instanceMethod y_I_init ∈ wd_tb := wd_in 104 rfl rfl
set_option maxRecDepth 8000 in
theorem wm_F_service : Cond.instanceMethod y_F_service ∈ wd_tb := wd_in 185 rfl rfl
set_option maxRecDepth 8000 in
theorem wz_F_service : Cond.selects R_F y_F_service y_F_service ∈ wd_tb := wd_in 186 rfl rfl
set_option maxRecDepth 8000 in
theorem wm_F_find : Cond.instanceMethod y_F_find ∈ wd_tb := wd_in 190 rfl rfl
set_option maxRecDepth 8000 in
theorem wm_I_has : Cond.instanceMethod y_I_has ∈ wd_tb := wd_in 194 rfl rfl
set_option maxRecDepth 8000 in
theorem wm_I_isAtEnd : Cond.instanceMethod y_I_isAtEnd ∈ wd_tb := wd_in 198 rfl rfl
set_option maxRecDepth 8000 in
theorem wm_I_leastExcluding : Cond.instanceMethod y_I_leastExcluding ∈ wd_tb := wd_in 202 rfl rfl
set_option maxRecDepth 8000 in
theorem wl_EXCLUDES : (Cond.laysStatic "ItemFacts" "EXCLUDES" "[I") ∈ lw_tbl := List.mem_of_getElem? (i := 206) rfl
set_option maxRecDepth 8000 in
theorem wm_I_lacksWhatIsWanted : Cond.instanceMethod y_I_lacksWhatIsWanted ∈ wd_tb := wd_in 209 rfl rfl
set_option maxRecDepth 8000 in
theorem wt_J_bitCount : Cond.static y_J_bitCount ∈ wd_tb := wd_in 213 rfl rfl
set_option maxRecDepth 8000 in
theorem wm_F_event : Cond.instanceMethod y_F_event ∈ wd_tb := wd_in 219 rfl rfl
set_option maxRecDepth 8000 in
theorem wz_F_event : Cond.selects R_F y_F_event y_F_event ∈ wd_tb := wd_in 220 rfl rfl
set_option maxRecDepth 8000 in
theorem wm_I_stateBehind : Cond.instanceMethod y_I_stateBehind ∈ wd_tb := wd_in 224 rfl rfl
set_option maxRecDepth 8000 in
theorem wm_F_mustWait : Cond.instanceMethod y_F_mustWait ∈ wd_tb := wd_in 228 rfl rfl
set_option maxRecDepth 8000 in
theorem wm_I_undergo : Cond.instanceMethod y_I_undergo ∈ wd_tb := wd_in 232 rfl rfl
set_option maxRecDepth 8000 in
theorem wm_F_address : Cond.instanceMethod y_F_address ∈ wd_tb := wd_in 235 rfl rfl
set_option maxRecDepth 8000 in
theorem wz_F_address : Cond.selects R_F y_F_address y_F_address ∈ wd_tb := wd_in 236 rfl rfl
set_option maxRecDepth 8000 in
theorem wm_F_abroad : Cond.instanceMethod y_F_abroad ∈ wd_tb := wd_in 239 rfl rfl
set_option maxRecDepth 8000 in
theorem wz_F_abroad : Cond.selects R_F y_F_abroad y_F_abroad ∈ wd_tb := wd_in 240 rfl rfl
set_option maxRecDepth 8000 in
theorem wm_F_contents : Cond.instanceMethod y_F_contents ∈ wd_tb := wd_in 243 rfl rfl
set_option maxRecDepth 8000 in
theorem wz_F_contents : Cond.selects R_F y_F_contents y_F_contents ∈ wd_tb := wd_in 244 rfl rfl
set_option maxRecDepth 8000 in
theorem wm_F_join : Cond.instanceMethod y_F_join ∈ wd_tb := wd_in 247 rfl rfl
set_option maxRecDepth 8000 in
theorem wz_F_join : Cond.selects R_F y_F_join y_F_join ∈ wd_tb := wd_in 248 rfl rfl
set_option maxRecDepth 8000 in
theorem wm_F_bulk : Cond.instanceMethod y_F_bulk ∈ wd_tb := wd_in 251 rfl rfl
set_option maxRecDepth 8000 in
theorem wz_F_bulk : Cond.selects R_F y_F_bulk y_F_bulk ∈ wd_tb := wd_in 252 rfl rfl
set_option maxRecDepth 8000 in
theorem wm_F_open : Cond.instanceMethod y_F_open ∈ wd_tb := wd_in 255 rfl rfl
set_option maxRecDepth 8000 in
theorem wz_F_open : Cond.selects R_F y_F_open y_F_open ∈ wd_tb := wd_in 256 rfl rfl
set_option maxRecDepth 8000 in
theorem wm_F_correct : Cond.instanceMethod y_F_correct ∈ wd_tb := wd_in 259 rfl rfl
set_option maxRecDepth 8000 in
theorem wz_F_correct : Cond.selects R_F y_F_correct y_F_correct ∈ wd_tb := wd_in 260 rfl rfl
set_option maxRecDepth 8000 in
theorem wt_F_mayBecome : Cond.static y_F_mayBecome ∈ wd_tb := wd_in 263 rfl rfl
set_option maxRecDepth 8000 in
theorem wm_I_wouldStay : Cond.instanceMethod y_I_wouldStay ∈ wd_tb := wd_in 267 rfl rfl
set_option maxRecDepth 8000 in
theorem wm_I_correctable : Cond.instanceMethod y_I_correctable ∈ wd_tb := wd_in 272 rfl rfl
set_option maxRecDepth 8000 in
theorem wn_C : Cond.instantiable R_C 5 ∈ wd_tb := wd_in 274 rfl rfl
set_option maxRecDepth 8000 in
theorem wm_C_init : Cond.instanceMethod y_C_init ∈ wd_tb := wd_in 277 rfl rfl
set_option maxRecDepth 8000 in
theorem wm_I_become : Cond.instanceMethod y_I_become ∈ wd_tb := wd_in 298 rfl rfl
set_option maxRecDepth 8000 in
theorem wm_F_row : Cond.instanceMethod y_F_row ∈ wd_tb := wd_in 301 rfl rfl
set_option maxRecDepth 8000 in
theorem wz_F_row : Cond.selects R_F y_F_row y_F_row ∈ wd_tb := wd_in 302 rfl rfl
set_option maxRecDepth 8000 in
theorem wm_C_part : Cond.instanceMethod y_C_part ∈ wd_tb := wd_in 306 rfl rfl
set_option maxRecDepth 8000 in
theorem wm_F_about : Cond.instanceMethod y_F_about ∈ wd_tb := wd_in 309 rfl rfl
set_option maxRecDepth 8000 in
theorem wz_F_about : Cond.selects R_F y_F_about y_F_about ∈ wd_tb := wd_in 310 rfl rfl
set_option maxRecDepth 8000 in
theorem wm_I_fact : Cond.instanceMethod y_I_fact ∈ wd_tb := wd_in 314 rfl rfl
set_option maxRecDepth 8000 in
theorem wm_F_pack : Cond.instanceMethod y_F_pack ∈ wd_tb := wd_in 317 rfl rfl
set_option maxRecDepth 8000 in
theorem wz_F_pack : Cond.selects R_F y_F_pack y_F_pack ∈ wd_tb := wd_in 318 rfl rfl
set_option maxRecDepth 8000 in
theorem wm_P_fill : Cond.instanceMethod y_P_fill ∈ wd_tb := wd_in 322 rfl rfl
set_option maxRecDepth 8000 in
theorem wm_P_addTwo : Cond.instanceMethod y_P_addTwo ∈ wd_tb := wd_in 326 rfl rfl
set_option maxRecDepth 8000 in
theorem wm_P_add : Cond.instanceMethod y_P_add ∈ wd_tb := wd_in 330 rfl rfl
set_option maxRecDepth 8000 in
theorem wm_P_addEntry : Cond.instanceMethod y_P_addEntry ∈ wd_tb := wd_in 334 rfl rfl
set_option maxRecDepth 8000 in
theorem wm_P_xorOfAll : Cond.instanceMethod y_P_xorOfAll ∈ wd_tb := wd_in 339 rfl rfl
set_option maxRecDepth 8000 in
theorem wm_F_octet : Cond.instanceMethod y_F_octet ∈ wd_tb := wd_in 342 rfl rfl
set_option maxRecDepth 8000 in
theorem wz_F_octet : Cond.selects R_F y_F_octet y_F_octet ∈ wd_tb := wd_in 343 rfl rfl
set_option maxRecDepth 8000 in
theorem wm_P_at : Cond.instanceMethod y_P_at ∈ wd_tb := wd_in 347 rfl rfl
set_option maxRecDepth 8000 in
theorem wm_F_aside : Cond.instanceMethod y_F_aside ∈ wd_tb := wd_in 351 rfl rfl
set_option maxRecDepth 8000 in
theorem wz_F_aside : Cond.selects R_F y_F_aside y_F_aside ∈ wd_tb := wd_in 352 rfl rfl
set_option maxRecDepth 8000 in
theorem wm_I_isSetAside : Cond.instanceMethod y_I_isSetAside ∈ wd_tb := wd_in 356 rfl rfl
set_option maxRecDepth 8000 in
theorem wn_M : Cond.instantiable R_M 23 ∈ wd_tb := wd_in 359 rfl rfl
set_option maxRecDepth 8000 in
theorem wm_M_init : Cond.instanceMethod y_M_init ∈ wd_tb := wd_in 361 rfl rfl
set_option maxRecDepth 8000 in
theorem wm_M_item : Cond.instanceMethod y_M_item ∈ wd_tb := wd_in 435 rfl rfl
set_option maxRecDepth 8000 in
theorem wz_M_item : Cond.selects R_M y_M_item y_M_item ∈ wd_tb := wd_in 436 rfl rfl
set_option maxRecDepth 8000 in
theorem wt_M_within : Cond.static y_M_within ∈ wd_tb := wd_in 439 rfl rfl
set_option maxRecDepth 8000 in
theorem wt_M_tooMuch : Cond.static y_M_tooMuch ∈ wd_tb := wd_in 443 rfl rfl
set_option maxRecDepth 8000 in
theorem wt_M_turned : Cond.static y_M_turned ∈ wd_tb := wd_in 446 rfl rfl
set_option maxRecDepth 8000 in
theorem wt_M_mostOf : Cond.static y_M_mostOf ∈ wd_tb := wd_in 449 rfl rfl
set_option maxRecDepth 8000 in
theorem wm_M_service : Cond.instanceMethod y_M_service ∈ wd_tb := wd_in 452 rfl rfl
set_option maxRecDepth 8000 in
theorem wz_M_service : Cond.selects R_M y_M_service y_M_service ∈ wd_tb := wd_in 453 rfl rfl
set_option maxRecDepth 8000 in
theorem wm_M_isItem : Cond.instanceMethod y_M_isItem ∈ wd_tb := wd_in 457 rfl rfl
set_option maxRecDepth 8000 in
theorem wm_M_has : Cond.instanceMethod y_M_has ∈ wd_tb := wd_in 461 rfl rfl
set_option maxRecDepth 8000 in
theorem wm_M_isOver : Cond.instanceMethod y_M_isOver ∈ wd_tb := wd_in 465 rfl rfl
set_option maxRecDepth 8000 in
theorem wt_M_excludes : Cond.static y_M_excludes ∈ wd_tb := wd_in 468 rfl rfl
set_option maxRecDepth 8000 in
theorem wm_M_event : Cond.instanceMethod y_M_event ∈ wd_tb := wd_in 471 rfl rfl
set_option maxRecDepth 8000 in
theorem wz_M_event : Cond.selects R_M y_M_event y_M_event ∈ wd_tb := wd_in 472 rfl rfl
set_option maxRecDepth 8000 in
theorem wt_M_ledTo : Cond.static y_M_ledTo ∈ wd_tb := wd_in 475 rfl rfl
set_option maxRecDepth 8000 in
theorem wm_M_mustWait : Cond.instanceMethod y_M_mustWait ∈ wd_tb := wd_in 479 rfl rfl
set_option maxRecDepth 8000 in
theorem wm_M_address : Cond.instanceMethod y_M_address ∈ wd_tb := wd_in 482 rfl rfl
set_option maxRecDepth 8000 in
theorem wz_M_address : Cond.selects R_M y_M_address y_M_address ∈ wd_tb := wd_in 483 rfl rfl
set_option maxRecDepth 8000 in
theorem wm_M_abroad : Cond.instanceMethod y_M_abroad ∈ wd_tb := wd_in 486 rfl rfl
set_option maxRecDepth 8000 in
theorem wz_M_abroad : Cond.selects R_M y_M_abroad y_M_abroad ∈ wd_tb := wd_in 487 rfl rfl
set_option maxRecDepth 8000 in
theorem wm_M_contents : Cond.instanceMethod y_M_contents ∈ wd_tb := wd_in 490 rfl rfl
set_option maxRecDepth 8000 in
theorem wz_M_contents : Cond.selects R_M y_M_contents y_M_contents ∈ wd_tb := wd_in 491 rfl rfl
set_option maxRecDepth 8000 in
theorem wm_M_join : Cond.instanceMethod y_M_join ∈ wd_tb := wd_in 494 rfl rfl
set_option maxRecDepth 8000 in
theorem wz_M_join : Cond.selects R_M y_M_join y_M_join ∈ wd_tb := wd_in 495 rfl rfl
set_option maxRecDepth 8000 in
theorem wm_M_belonging : Cond.instanceMethod y_M_belonging ∈ wd_tb := wd_in 499 rfl rfl
set_option maxRecDepth 8000 in
theorem wm_M_bulk : Cond.instanceMethod y_M_bulk ∈ wd_tb := wd_in 502 rfl rfl
set_option maxRecDepth 8000 in
theorem wz_M_bulk : Cond.selects R_M y_M_bulk y_M_bulk ∈ wd_tb := wd_in 503 rfl rfl
set_option maxRecDepth 8000 in
theorem wm_M_open : Cond.instanceMethod y_M_open ∈ wd_tb := wd_in 506 rfl rfl
set_option maxRecDepth 8000 in
theorem wz_M_open : Cond.selects R_M y_M_open y_M_open ∈ wd_tb := wd_in 507 rfl rfl
set_option maxRecDepth 8000 in
theorem wm_M_correct : Cond.instanceMethod y_M_correct ∈ wd_tb := wd_in 510 rfl rfl
set_option maxRecDepth 8000 in
theorem wz_M_correct : Cond.selects R_M y_M_correct y_M_correct ∈ wd_tb := wd_in 511 rfl rfl
set_option maxRecDepth 8000 in
theorem wm_M_factOf : Cond.instanceMethod y_M_factOf ∈ wd_tb := wd_in 515 rfl rfl
set_option maxRecDepth 8000 in
theorem wm_M_row : Cond.instanceMethod y_M_row ∈ wd_tb := wd_in 518 rfl rfl
set_option maxRecDepth 8000 in
theorem wz_M_row : Cond.selects R_M y_M_row y_M_row ∈ wd_tb := wd_in 519 rfl rfl
set_option maxRecDepth 8000 in
theorem wm_M_about : Cond.instanceMethod y_M_about ∈ wd_tb := wd_in 522 rfl rfl
set_option maxRecDepth 8000 in
theorem wz_M_about : Cond.selects R_M y_M_about y_M_about ∈ wd_tb := wd_in 523 rfl rfl
set_option maxRecDepth 8000 in
theorem wm_M_pack : Cond.instanceMethod y_M_pack ∈ wd_tb := wd_in 526 rfl rfl
set_option maxRecDepth 8000 in
theorem wz_M_pack : Cond.selects R_M y_M_pack y_M_pack ∈ wd_tb := wd_in 527 rfl rfl
set_option maxRecDepth 8000 in
theorem wm_M_put : Cond.instanceMethod y_M_put ∈ wd_tb := wd_in 531 rfl rfl
set_option maxRecDepth 8000 in
theorem wm_M_octet : Cond.instanceMethod y_M_octet ∈ wd_tb := wd_in 534 rfl rfl
set_option maxRecDepth 8000 in
theorem wz_M_octet : Cond.selects R_M y_M_octet y_M_octet ∈ wd_tb := wd_in 535 rfl rfl
set_option maxRecDepth 8000 in
theorem wm_M_aside : Cond.instanceMethod y_M_aside ∈ wd_tb := wd_in 538 rfl rfl
set_option maxRecDepth 8000 in
theorem wz_M_aside : Cond.selects R_M y_M_aside y_M_aside ∈ wd_tb := wd_in 539 rfl rfl
set_option maxRecDepth 8000 in
theorem wz_F_find : Cond.selects R_F y_F_find y_F_find ∈ wd_tb := wd_in 0 rfl rfl
set_option maxRecDepth 8000 in
theorem wz_I_has : Cond.selects R_I y_I_has y_I_has ∈ wd_tb := wd_in 1 rfl rfl
set_option maxRecDepth 8000 in
theorem wz_I_isAtEnd : Cond.selects R_I y_I_isAtEnd y_I_isAtEnd ∈ wd_tb := wd_in 2 rfl rfl
set_option maxRecDepth 8000 in
theorem wz_I_leastExcluding : Cond.selects R_I y_I_leastExcluding y_I_leastExcluding ∈ wd_tb := wd_in 3 rfl rfl
set_option maxRecDepth 8000 in
theorem wz_I_lacksWhatIsWanted : Cond.selects R_I y_I_lacksWhatIsWanted y_I_lacksWhatIsWanted ∈ wd_tb := wd_in 4 rfl rfl
set_option maxRecDepth 8000 in
theorem wz_I_stateBehind : Cond.selects R_I y_I_stateBehind y_I_stateBehind ∈ wd_tb := wd_in 5 rfl rfl
set_option maxRecDepth 8000 in
theorem wz_F_mustWait : Cond.selects R_F y_F_mustWait y_F_mustWait ∈ wd_tb := wd_in 6 rfl rfl
set_option maxRecDepth 8000 in
theorem wz_I_undergo : Cond.selects R_I y_I_undergo y_I_undergo ∈ wd_tb := wd_in 7 rfl rfl
set_option maxRecDepth 8000 in
theorem wz_I_wouldStay : Cond.selects R_I y_I_wouldStay y_I_wouldStay ∈ wd_tb := wd_in 8 rfl rfl
set_option maxRecDepth 8000 in
theorem wz_I_correctable : Cond.selects R_I y_I_correctable y_I_correctable ∈ wd_tb := wd_in 9 rfl rfl
set_option maxRecDepth 8000 in
theorem wz_I_become : Cond.selects R_I y_I_become y_I_become ∈ wd_tb := wd_in 10 rfl rfl
set_option maxRecDepth 8000 in
theorem wz_C_part : Cond.selects R_C y_C_part y_C_part ∈ wd_tb := wd_in 11 rfl rfl
set_option maxRecDepth 8000 in
theorem wz_I_fact : Cond.selects R_I y_I_fact y_I_fact ∈ wd_tb := wd_in 12 rfl rfl
set_option maxRecDepth 8000 in
theorem wz_P_fill : Cond.selects R_P y_P_fill y_P_fill ∈ wd_tb := wd_in 13 rfl rfl
set_option maxRecDepth 8000 in
theorem wz_P_addTwo : Cond.selects R_P y_P_addTwo y_P_addTwo ∈ wd_tb := wd_in 14 rfl rfl
set_option maxRecDepth 8000 in
theorem wz_P_add : Cond.selects R_P y_P_add y_P_add ∈ wd_tb := wd_in 15 rfl rfl
set_option maxRecDepth 8000 in
theorem wz_P_addEntry : Cond.selects R_P y_P_addEntry y_P_addEntry ∈ wd_tb := wd_in 16 rfl rfl
set_option maxRecDepth 8000 in
theorem wz_P_xorOfAll : Cond.selects R_P y_P_xorOfAll y_P_xorOfAll ∈ wd_tb := wd_in 17 rfl rfl
set_option maxRecDepth 8000 in
theorem wz_P_at : Cond.selects R_P y_P_at y_P_at ∈ wd_tb := wd_in 18 rfl rfl
set_option maxRecDepth 8000 in
theorem wz_I_isSetAside : Cond.selects R_I y_I_isSetAside y_I_isSetAside ∈ wd_tb := wd_in 19 rfl rfl
set_option maxRecDepth 8000 in
theorem wz_M_isItem : Cond.selects R_M y_M_isItem y_M_isItem ∈ wd_tb := wd_in 20 rfl rfl
set_option maxRecDepth 8000 in
theorem wz_M_has : Cond.selects R_M y_M_has y_M_has ∈ wd_tb := wd_in 21 rfl rfl
set_option maxRecDepth 8000 in
theorem wz_M_isOver : Cond.selects R_M y_M_isOver y_M_isOver ∈ wd_tb := wd_in 22 rfl rfl
set_option maxRecDepth 8000 in
theorem wz_M_mustWait : Cond.selects R_M y_M_mustWait y_M_mustWait ∈ wd_tb := wd_in 23 rfl rfl
set_option maxRecDepth 8000 in
theorem wz_M_belonging : Cond.selects R_M y_M_belonging y_M_belonging ∈ wd_tb := wd_in 24 rfl rfl
set_option maxRecDepth 8000 in
theorem wz_M_factOf : Cond.selects R_M y_M_factOf y_M_factOf ∈ wd_tb := wd_in 25 rfl rfl
set_option maxRecDepth 8000 in
theorem wz_M_put : Cond.selects R_M y_M_put y_M_put ∈ wd_tb := wd_in 26 rfl rfl
set_option maxRecDepth 8000 in
theorem wc_F_init : Cond.code y_F_init b_F_init 1 none ∈ wd_tb := wd_in 38 rfl rfl
set_option maxRecDepth 8000 in
theorem wc_P_init : Cond.code y_P_init b_P_init 1 none ∈ wd_tb := wd_in 50 rfl rfl
set_option maxRecDepth 8000 in
theorem wc_F_item : Cond.code y_F_item b_F_item 5 (some .int) ∈ wd_tb := wd_in 90 rfl rfl
set_option maxRecDepth 8000 in
theorem wc_F_within : Cond.code y_F_within b_F_within 3 (some .boolean) ∈ wd_tb := wd_in 93 rfl rfl
set_option maxRecDepth 8000 in
theorem wc_F_turned : Cond.code y_F_turned b_F_turned 4 (some .int) ∈ wd_tb := wd_in 102 rfl rfl
set_option maxRecDepth 8000 in
theorem wc_I_init : Cond.code y_I_init b_I_init 5 none ∈ wd_tb := wd_in 105 rfl rfl
set_option maxRecDepth 8000 in
theorem wc_F_service : Cond.code y_F_service b_F_service 5 (some .int) ∈ wd_tb := wd_in 187 rfl rfl
set_option maxRecDepth 8000 in
theorem wc_F_find : Cond.code y_F_find b_F_find 2 (some (.object "ItemFacts$Item")) ∈ wd_tb := wd_in 191 rfl rfl
set_option maxRecDepth 8000 in
theorem wc_I_has : Cond.code y_I_has b_I_has 2 (some .boolean) ∈ wd_tb := wd_in 195 rfl rfl
set_option maxRecDepth 8000 in
theorem wc_I_isAtEnd : Cond.code y_I_isAtEnd b_I_isAtEnd 1 (some .boolean) ∈ wd_tb := wd_in 199 rfl rfl
set_option maxRecDepth 8000 in
theorem wc_I_leastExcluding : Cond.code y_I_leastExcluding b_I_leastExcluding 4 (some .int) ∈ wd_tb := wd_in 203 rfl rfl
set_option maxRecDepth 8000 in
theorem wc_I_lacksWhatIsWanted : Cond.code y_I_lacksWhatIsWanted b_I_lacksWhatIsWanted 2 (some .boolean) ∈ wd_tb := wd_in 210 rfl rfl
set_option maxRecDepth 8000 in
theorem wc_J_bitCount : Cond.code y_J_bitCount b_J_bitCount 1 (some .int) ∈ wd_tb := wd_in 214 rfl rfl
set_option maxRecDepth 8000 in
theorem wc_F_event : Cond.code y_F_event b_F_event 5 (some .int) ∈ wd_tb := wd_in 221 rfl rfl
set_option maxRecDepth 8000 in
theorem wc_I_stateBehind : Cond.code y_I_stateBehind b_I_stateBehind 2 (some .int) ∈ wd_tb := wd_in 225 rfl rfl
set_option maxRecDepth 8000 in
theorem wc_F_mustWait : Cond.code y_F_mustWait b_F_mustWait 4 (some .boolean) ∈ wd_tb := wd_in 229 rfl rfl
set_option maxRecDepth 8000 in
theorem wc_I_undergo : Cond.code y_I_undergo b_I_undergo 3 none ∈ wd_tb := wd_in 233 rfl rfl
set_option maxRecDepth 8000 in
theorem wc_F_address : Cond.code y_F_address b_F_address 6 (some .int) ∈ wd_tb := wd_in 237 rfl rfl
set_option maxRecDepth 8000 in
theorem wc_F_abroad : Cond.code y_F_abroad b_F_abroad 4 (some .int) ∈ wd_tb := wd_in 241 rfl rfl
set_option maxRecDepth 8000 in
theorem wc_F_contents : Cond.code y_F_contents b_F_contents 5 (some .int) ∈ wd_tb := wd_in 245 rfl rfl
set_option maxRecDepth 8000 in
theorem wc_F_join : Cond.code y_F_join b_F_join 5 (some .int) ∈ wd_tb := wd_in 249 rfl rfl
set_option maxRecDepth 8000 in
theorem wc_F_bulk : Cond.code y_F_bulk b_F_bulk 4 (some .int) ∈ wd_tb := wd_in 253 rfl rfl
set_option maxRecDepth 8000 in
theorem wc_F_open : Cond.code y_F_open b_F_open 5 (some .int) ∈ wd_tb := wd_in 257 rfl rfl
set_option maxRecDepth 8000 in
theorem wc_F_correct : Cond.code y_F_correct b_F_correct 6 (some .int) ∈ wd_tb := wd_in 261 rfl rfl
set_option maxRecDepth 8000 in
theorem wc_F_mayBecome : Cond.code y_F_mayBecome b_F_mayBecome 2 (some .boolean) ∈ wd_tb := wd_in 264 rfl rfl
set_option maxRecDepth 8000 in
theorem wc_I_wouldStay : Cond.code y_I_wouldStay b_I_wouldStay 3 (some .boolean) ∈ wd_tb := wd_in 268 rfl rfl
set_option maxRecDepth 8000 in
theorem wc_I_correctable : Cond.code y_I_correctable b_I_correctable 2 (some .int) ∈ wd_tb := wd_in 273 rfl rfl
set_option maxRecDepth 8000 in
theorem wc_C_init : Cond.code y_C_init b_C_init 6 none ∈ wd_tb := wd_in 278 rfl rfl
set_option maxRecDepth 8000 in
theorem wc_I_become : Cond.code y_I_become b_I_become 3 none ∈ wd_tb := wd_in 299 rfl rfl
set_option maxRecDepth 8000 in
theorem wc_F_row : Cond.code y_F_row b_F_row 4 (some .int) ∈ wd_tb := wd_in 303 rfl rfl
set_option maxRecDepth 8000 in
theorem wc_C_part : Cond.code y_C_part b_C_part 2 (some .int) ∈ wd_tb := wd_in 307 rfl rfl
set_option maxRecDepth 8000 in
theorem wc_F_about : Cond.code y_F_about b_F_about 4 (some .int) ∈ wd_tb := wd_in 311 rfl rfl
set_option maxRecDepth 8000 in
theorem wc_I_fact : Cond.code y_I_fact b_I_fact 2 (some .int) ∈ wd_tb := wd_in 315 rfl rfl
set_option maxRecDepth 8000 in
theorem wc_F_pack : Cond.code y_F_pack b_F_pack 3 (some .int) ∈ wd_tb := wd_in 319 rfl rfl
set_option maxRecDepth 8000 in
theorem wc_P_fill : Cond.code y_P_fill b_P_fill 4 none ∈ wd_tb := wd_in 323 rfl rfl
set_option maxRecDepth 8000 in
theorem wc_P_addTwo : Cond.code y_P_addTwo b_P_addTwo 2 none ∈ wd_tb := wd_in 327 rfl rfl
set_option maxRecDepth 8000 in
theorem wc_P_add : Cond.code y_P_add b_P_add 2 none ∈ wd_tb := wd_in 331 rfl rfl
set_option maxRecDepth 8000 in
theorem wc_P_addEntry : Cond.code y_P_addEntry b_P_addEntry 2 none ∈ wd_tb := wd_in 335 rfl rfl
set_option maxRecDepth 8000 in
theorem wc_P_xorOfAll : Cond.code y_P_xorOfAll b_P_xorOfAll 3 (some .int) ∈ wd_tb := wd_in 340 rfl rfl
set_option maxRecDepth 8000 in
theorem wc_F_octet : Cond.code y_F_octet b_F_octet 2 (some .int) ∈ wd_tb := wd_in 344 rfl rfl
set_option maxRecDepth 8000 in
theorem wc_P_at : Cond.code y_P_at b_P_at 2 (some .int) ∈ wd_tb := wd_in 348 rfl rfl
set_option maxRecDepth 8000 in
theorem wc_F_aside : Cond.code y_F_aside b_F_aside 5 (some .int) ∈ wd_tb := wd_in 353 rfl rfl
set_option maxRecDepth 8000 in
theorem wc_I_isSetAside : Cond.code y_I_isSetAside b_I_isSetAside 1 (some .boolean) ∈ wd_tb := wd_in 357 rfl rfl
set_option maxRecDepth 8000 in
theorem wc_M_init : Cond.code y_M_init b_M_init 1 none ∈ wd_tb := wd_in 362 rfl rfl
set_option maxRecDepth 8000 in
theorem wc_M_item : Cond.code y_M_item b_M_item 6 (some .int) ∈ wd_tb := wd_in 437 rfl rfl
set_option maxRecDepth 8000 in
theorem wc_M_within : Cond.code y_M_within b_M_within 3 (some .boolean) ∈ wd_tb := wd_in 440 rfl rfl
set_option maxRecDepth 8000 in
theorem wc_M_tooMuch : Cond.code y_M_tooMuch b_M_tooMuch 2 (some .int) ∈ wd_tb := wd_in 444 rfl rfl
set_option maxRecDepth 8000 in
theorem wc_M_turned : Cond.code y_M_turned b_M_turned 4 (some .int) ∈ wd_tb := wd_in 447 rfl rfl
set_option maxRecDepth 8000 in
theorem wc_M_mostOf : Cond.code y_M_mostOf b_M_mostOf 1 (some .int) ∈ wd_tb := wd_in 450 rfl rfl
set_option maxRecDepth 8000 in
theorem wc_M_service : Cond.code y_M_service b_M_service 6 (some .int) ∈ wd_tb := wd_in 454 rfl rfl
set_option maxRecDepth 8000 in
theorem wc_M_isItem : Cond.code y_M_isItem b_M_isItem 2 (some .boolean) ∈ wd_tb := wd_in 458 rfl rfl
set_option maxRecDepth 8000 in
theorem wc_M_has : Cond.code y_M_has b_M_has 3 (some .boolean) ∈ wd_tb := wd_in 462 rfl rfl
set_option maxRecDepth 8000 in
theorem wc_M_isOver : Cond.code y_M_isOver b_M_isOver 2 (some .boolean) ∈ wd_tb := wd_in 466 rfl rfl
set_option maxRecDepth 8000 in
theorem wc_M_excludes : Cond.code y_M_excludes b_M_excludes 4 (some .boolean) ∈ wd_tb := wd_in 469 rfl rfl
set_option maxRecDepth 8000 in
theorem wc_M_event : Cond.code y_M_event b_M_event 4 (some .int) ∈ wd_tb := wd_in 473 rfl rfl
set_option maxRecDepth 8000 in
theorem wc_M_ledTo : Cond.code y_M_ledTo b_M_ledTo 2 (some .int) ∈ wd_tb := wd_in 476 rfl rfl
set_option maxRecDepth 8000 in
theorem wc_M_mustWait : Cond.code y_M_mustWait b_M_mustWait 5 (some .boolean) ∈ wd_tb := wd_in 480 rfl rfl
set_option maxRecDepth 8000 in
theorem wc_M_address : Cond.code y_M_address b_M_address 5 (some .int) ∈ wd_tb := wd_in 484 rfl rfl
set_option maxRecDepth 8000 in
theorem wc_M_abroad : Cond.code y_M_abroad b_M_abroad 3 (some .int) ∈ wd_tb := wd_in 488 rfl rfl
set_option maxRecDepth 8000 in
theorem wc_M_contents : Cond.code y_M_contents b_M_contents 4 (some .int) ∈ wd_tb := wd_in 492 rfl rfl
set_option maxRecDepth 8000 in
theorem wc_M_join : Cond.code y_M_join b_M_join 4 (some .int) ∈ wd_tb := wd_in 496 rfl rfl
set_option maxRecDepth 8000 in
theorem wc_M_belonging : Cond.code y_M_belonging b_M_belonging 5 (some .int) ∈ wd_tb := wd_in 500 rfl rfl
set_option maxRecDepth 8000 in
theorem wc_M_bulk : Cond.code y_M_bulk b_M_bulk 3 (some .int) ∈ wd_tb := wd_in 504 rfl rfl
set_option maxRecDepth 8000 in
theorem wc_M_open : Cond.code y_M_open b_M_open 4 (some .int) ∈ wd_tb := wd_in 508 rfl rfl
set_option maxRecDepth 8000 in
theorem wc_M_correct : Cond.code y_M_correct b_M_correct 12 (some .int) ∈ wd_tb := wd_in 512 rfl rfl
set_option maxRecDepth 8000 in
theorem wc_M_factOf : Cond.code y_M_factOf b_M_factOf 3 (some .int) ∈ wd_tb := wd_in 516 rfl rfl
set_option maxRecDepth 8000 in
theorem wc_M_row : Cond.code y_M_row b_M_row 3 (some .int) ∈ wd_tb := wd_in 520 rfl rfl
set_option maxRecDepth 8000 in
theorem wc_M_about : Cond.code y_M_about b_M_about 3 (some .int) ∈ wd_tb := wd_in 524 rfl rfl
set_option maxRecDepth 8000 in
theorem wc_M_pack : Cond.code y_M_pack b_M_pack 4 (some .int) ∈ wd_tb := wd_in 528 rfl rfl
set_option maxRecDepth 8000 in
theorem wc_M_put : Cond.code y_M_put b_M_put 4 none ∈ wd_tb := wd_in 532 rfl rfl
set_option maxRecDepth 8000 in
theorem wc_M_octet : Cond.code y_M_octet b_M_octet 2 (some .int) ∈ wd_tb := wd_in 536 rfl rfl
set_option maxRecDepth 8000 in
theorem wc_M_aside : Cond.code y_M_aside b_M_aside 4 (some .int) ∈ wd_tb := wd_in 540 rfl rfl
theorem n_F : ∀ a, a < 8 → ∀ b, b < 8 → a ≠ b → (F_F a).2.1 ≠ (F_F b).2.1 := by decide +kernel
theorem t_F_ok : ∀ k, k < 8 → parseFieldDescriptor (F_F k).2.2.1 = some (t_F k) := by decide +kernel
theorem i_F : ∀ w ∈ u_ws R_F F_F 8, w ∈ wd_tb := by decide +kernel
theorem n_I : ∀ a, a < 17 → ∀ b, b < 17 → a ≠ b → (F_I a).2.1 ≠ (F_I b).2.1 := by decide +kernel
theorem t_I_ok : ∀ k, k < 17 → parseFieldDescriptor (F_I k).2.2.1 = some (t_I k) := by decide +kernel
theorem i_I : ∀ w ∈ u_ws R_I F_I 17, w ∈ wd_tb := by decide +kernel
theorem n_C : ∀ a, a < 5 → ∀ b, b < 5 → a ≠ b → (F_C a).2.1 ≠ (F_C b).2.1 := by decide +kernel
theorem t_C_ok : ∀ k, k < 5 → parseFieldDescriptor (F_C k).2.2.1 = some (t_C k) := by decide +kernel
theorem i_C : ∀ w ∈ u_ws R_C F_C 5, w ∈ wd_tb := by decide +kernel
theorem n_P : ∀ a, a < 2 → ∀ b, b < 2 → a ≠ b → (F_P a).2.1 ≠ (F_P b).2.1 := by decide +kernel
theorem t_P_ok : ∀ k, k < 2 → parseFieldDescriptor (F_P k).2.2.1 = some (t_P k) := by decide +kernel
theorem i_P : ∀ w ∈ u_ws R_P F_P 2, w ∈ wd_tb := by decide +kernel
theorem n_M : ∀ a, a < 23 → ∀ b, b < 23 → a ≠ b → (F_M a).2.1 ≠ (F_M b).2.1 := by decide +kernel
theorem t_M_ok : ∀ k, k < 23 → parseFieldDescriptor (F_M k).2.2.1 = some (t_M k) := by decide +kernel
theorem i_M : ∀ w ∈ u_ws R_M F_M 23, w ∈ wd_tb := by decide +kernel
def wd_ty (T : Nat → ClassId) : List (ClassId × FieldType) := [(T 0, .int), (T 1, .boolean), (T 2, .object "ItemFacts$Item"), (T 3, .object "ItemFacts$Correction")]
def x_bw : List Int32 := [50, 500, 2000, 31500]
def x_bs : List Int32 := [0, 1, 2, 3]
def x_ex : List Int32 := [0, 4, 10, 36, 32, 24]
def wd_st : List (String × String × List Int32) := [("ItemFacts", "BEARS_WEIGHT", x_bw), ("ItemFacts", "BEARS_SIZE", x_bs), ("ItemFacts", "EXCLUDES", x_ex)]
end
section
/-! THE LAYER: a world as a partial map from addresses to cells; one hypothesis wd_C carries it through a method -/
abbrev wd_S : Type := Nat → Option va_E
def wd_up (σ : wd_S) (a : Nat) (e : va_E) : wd_S := fun b => if b = a then some e else σ b
theorem wd_us (σ : wd_S) (a : Nat) (e : va_E) : wd_up σ a e a = some e := if_pos rfl
theorem wd_un (σ : wd_S) {a b : Nat} (e : va_E) (h : b ≠ a) : wd_up σ a e b = σ b := if_neg h
theorem wd_uu (σ : wd_S) (a : Nat) (e e' : va_E) : wd_up (wd_up σ a e) a e' = wd_up σ a e' := by
  funext b
  by_cases h : b = a
  · simp [wd_up, h]
  · simp [wd_up, h]
theorem wd_ne {σ : wd_S} {a b : Nat} {e e' : va_E} (ha : σ a = some e) (hb : σ b = some e') (h : e ≠ e') : a ≠ b := fun z => by
  subst z
  exact h (Option.some.inj (ha.symm.trans hb))
theorem wd_nn {σ : wd_S} {a b : Nat} {e : va_E} (ha : σ a = some e) (hb : σ b = none) : a ≠ b := fun z => by
  subst z
  rw [ha] at hb
  cases hb
theorem wd_uk {σ : wd_S} {a b : Nat} {e e' : va_E} (hb : σ b = some e') (h : b ≠ a) : wd_up σ a e b = some e' := (wd_un σ e h).trans hb
/-- the list L holds the map's addresses, each with its cell -/
def wd_L (σ : wd_S) (L : List Nat) (f : Nat → va_E) : Prop := ∀ a : Nat, (a ∈ L ∧ σ a = some (f a)) ∨ (a ∉ L ∧ σ a = none)
theorem wd_L.mem {σ : wd_S} {L : List Nat} {f : Nat → va_E} (h : wd_L σ L f) {a : Nat} {e : va_E} (ha : σ a = some e) : a ∈ L ∧ f a = e := by
  rcases h a with ⟨h1, h2⟩ | ⟨h1, h2⟩
  · exact ⟨h1, Option.some.inj (h2.symm.trans ha)⟩
  · rw [h2] at ha; cases ha
/-- a world: the heap holds the map's cells, all of them in the region A -/
def wd_W (D : va_G) (A : Nat → Prop) (σ : wd_S) (H : Heap) : Prop := ∃ (L : List Nat) (f : Nat → va_E), va_P D classes (va_pl L f) H ∧ va_D A (va_pl L f) ∧ wd_L σ L f
/-- the static tables of ints -/
def wd_T (A : Nat → Prop) (U : State) (H : Heap) (t : Nat) (tab : List Int32) : Prop := va_T .int t tab.length (fun k => .int (tab.getD k 0)) A U H
def wd_Z (A : Nat → Prop) (U : State) (H : Heap) : Prop := ∀ q ∈ wd_st, ∃ t : Nat, va_Z q.1 q.2.1 "[I" (.ref t) A U H ∧ wd_T A U H t q.2.2
theorem wd_Z.moved {A : Nat → Prop} {u U : State} {H : Heap} (hvm : u.vm.Alike U.vm) (h : wd_Z A u H) : wd_Z A U H := fun q hq => by
  obtain ⟨t, h1, h2⟩ := h q hq
  exact ⟨t, h1.moved hvm, va_T.moved hvm h2⟩
theorem wd_Z.kept {A : Nat → Prop} {U : State} {H H1 : Heap} (h : wd_Z A U H) (hq : ∀ a : Nat, a < H.size → ¬ A a → H1[a]? = H[a]?) : wd_Z A U H1 := fun q hq' => by
  obtain ⟨t, h1, h2⟩ := h q hq'
  exact ⟨t, h1.kept hq, va_T.kept h2 hq⟩
theorem wd_Z.narrow {A B : Nat → Prop} {U : State} {H : Heap} (h : wd_Z A U H) (hAB : ∀ q, B q → A q) : wd_Z B U H := fun q hq' => by
  obtain ⟨t, h1, h2⟩ := h q hq'
  exact ⟨t, h1.narrow hAB, va_T.narrow h2 hAB⟩
/-- words that stay, but that the tables' lists don't pay: links of nest mates, arrays of objects -/
def wd_isN : Cond → Bool
  | .fieldLinkNest .. => true
  | .methodLinkNest .. => true
  | .arrayOver (.object _) => true
  | _ => false
def wd_N (U : State) : Prop := ∀ w ∈ lw_tbl, wd_isN w = true → va_Nw w U
theorem wd_N.warm {s U : State} (hW : s.WarmedH U.vm) (h : wd_N s) : wd_N U := by
  intro w hw hn
  have h1 := h w hw hn
  cases w with
  | fieldLinkNest a i b n d h => exact va_Nw.warmF hW h1
  | methodLinkNest a i x h => exact va_Nw.warmM hW h1
  | arrayOver ty =>
    cases ty with
    | object C => exact va_AO.moved hW.alike h1
    | _ => simp [wd_isN] at hn
  | _ => simp [wd_isN] at hn
theorem wd_N.same {s U : State} (hv : s.vm = U.vm) (h : wd_N s) : wd_N U := by
  intro w hw hn
  have h1 := h w hw hn
  cases w with
  | fieldLinkNest a i b n d h => exact va_Nw.same rfl hv h1
  | methodLinkNest a i x h => exact va_Nw.same rfl hv h1
  | arrayOver ty =>
    cases ty with
    | object C => exact va_AO.moved (hv ▸ Vm.Alike.refl s.vm) h1
    | _ => simp [wd_isN] at hn
  | _ => simp [wd_isN] at hn
/-- all that a method's walk carries: the world now, what has changed since its entry, the tables, the statics -/
def wd_C (D : va_G) (T : Nat → ClassId) (A : Nat → Prop) (s : State) (H : Heap) (locs : List Loc) (σ : wd_S) : Prop := wd_W D A σ H ∧ va_S A s.heap H locs ∧ va_K D classes (wd_ty T) s ∧ (∀ q : Nat, s.heap.size ≤ q → A q) ∧ wd_Z A s s.heap ∧ wd_N s
def wd_Pre (D : va_G) (T : Nat → ClassId) (A : Nat → Prop) (σ : wd_S) (U : State) : Prop := wd_C D T A U U.heap [] σ
def wd_B (D : va_G) (A : Nat → Prop) (σ : wd_S) (t : State) : Prop := wd_W D A σ t.heap
theorem wd_enter {D : va_G} {T : Nat → ClassId} {A : Nat → Prop} {s U : State} {H : Heap} {locs : List Loc} {σ : wd_S} (h : wd_C D T A s H locs σ) (hU : U.heap = H) (hW : s.WarmedH U.vm) : wd_Pre D T A σ U := by
  obtain ⟨h1, h2, h3, h4, h5, h6⟩ := h
  subst hU
  exact ⟨h1, va_S.rf, va_K.moved hW.alike h3, fun q hq => h4 q (Nat.le_trans h2.1 hq), (h5.kept h2.2.1).moved hW.alike, h6.warm hW⟩
theorem wd_blind {D : va_G} {T : Nat → ClassId} {A : Nat → Prop} {σ : wd_S} {av : List Value} : FrameBlind (va_Pc av (wd_Pre D T A σ)) := fun a U g mk q => by
  obtain ⟨q0, h1, h2, h3, h4, h5, h6⟩ := q
  exact ⟨q0, h1, h2, va_K.moved (u := U) (U := U.calling g mk a) (Vm.Alike.refl U.vm) h3, h4, wd_Z.moved (u := U) (U := U.calling g mk a) (Vm.Alike.refl U.vm) h5, wd_N.same (s := U) (U := U.calling g mk a) rfl h6⟩
/-- a class of ours, by its number -/
def wd_cl (ci : Nat) (Cn : String) (Tn : u_T) (N : Nat) (ty : Nat → FieldType) : Prop := classes[ci]? = some (Cn, Tn, N) ∧ (∀ w ∈ u_ws Cn Tn N, w ∈ wd_tb) ∧ (∀ k, k < N → parseFieldDescriptor (Tn k).2.2.1 = some (ty k)) ∧ ∀ a, a < N → ∀ b, b < N → a ≠ b → (Tn a).2.1 ≠ (Tn b).2.1
section WD
variable {p : Program} {l : Launch} {e : Env} {R : Room} {s : State} {m : MethodId} {args : Array Value} {below : List Frame} {meth : Method} {c : Code} {H : Heap} {locs : List Loc} {cells slots : Nat} {Q : State → Prop}
variable {cc : ByteArray} {pc nL : Nat} {ls : Array Slot} {rest : List Value} {D : va_G} {T : Nat → ClassId} {A : Nat → Prop} {σ : wd_S} {a ci N k index : Nat} {own Cn : String} {Tn : u_T} {ty : Nat → FieldType} {fs : List Value} {v : Value}
theorem wd_set {L : List Nat} {f : Nat → va_E} {q0 : Nat} {e0 e1 : va_E} {H1 : Heap} (hσ : wd_L σ L f) (hD : va_D A (va_pl L f)) (ha : σ a = some e0) (hq : (va_pl L f)[q0]? = some (a, e0)) (hP1 : va_P D classes ((va_pl L f).set q0 (a, e1)) H1) (hD1 : va_D A ((va_pl L f).set q0 (a, e1))) : wd_W D A (wd_up σ a e1) H1 := by
  obtain ⟨hL, hf⟩ := hσ.mem ha
  have he : (va_pl L f).set q0 (a, e1) = va_pl L (va_up f a e1) := va_pl_set (X := []) hD hL (by rw [hf]; exact hq)
  rw [he] at hP1 hD1
  refine ⟨L, va_up f a e1, hP1, hD1, fun b => ?_⟩
  by_cases hba : b = a
  · subst hba
    exact Or.inl ⟨hL, by rw [wd_us, va_up_self]⟩
  · rw [wd_un σ e1 hba, va_up_ne _ _ hba]
    exact hσ b
theorem wd_push {L : List Nat} {f : Nat → va_E} {q : Nat} {e1 : va_E} {H1 : Heap} (hσ : wd_L σ L f) (hP1 : va_P D classes (va_pl L f ++ [(q, e1)]) H1) (hD1 : va_D A (va_pl L f ++ [(q, e1)])) : σ q = none ∧ wd_W D A (wd_up σ q e1) H1 := by
  have hq : q ∉ L := fun h => by
    obtain ⟨k, hk⟩ := va_pl_get (X := []) (f := f) h
    have hk : (va_pl L f)[k]? = some (q, f q) := hk
    have hl := (List.getElem?_eq_some_iff.mp hk).1
    have := hD1.1 k (va_pl L f).length (q, f q) (q, e1) (by rw [List.getElem?_append_left hl]; exact hk) (by rw [List.getElem?_append_right (Nat.le_refl _), Nat.sub_self]; rfl) rfl
    omega
  have hn : σ q = none := by
    rcases hσ q with ⟨h1, h2⟩ | ⟨h1, h2⟩
    · exact absurd h1 hq
    · exact h2
  rw [va_pl_push hq] at hP1 hD1
  refine ⟨hn, L ++ [q], va_up f q e1, hP1, hD1, fun b => ?_⟩
  by_cases hba : b = q
  · subst hba
    exact Or.inl ⟨List.mem_append_right _ (List.mem_singleton.mpr rfl), by rw [wd_us, va_up_self]⟩
  · rw [wd_un σ e1 hba, va_up_ne _ _ hba]
    rcases hσ b with ⟨h1, h2⟩ | ⟨h1, h2⟩
    · exact Or.inl ⟨List.mem_append_left _ h1, h2⟩
    · refine Or.inr ⟨fun h => ?_, h2⟩
      rcases List.mem_append.mp h with h | h
      · exact h1 h
      · exact hba (List.mem_singleton.mp h)
theorem wd_place {L : List Nat} {f : Nat → va_E} {e0 : va_E} (hσ : wd_L σ L f) (ha : σ a = some e0) : ∃ q0 : Nat, (va_pl L f)[q0]? = some (a, e0) := by
  obtain ⟨hL, hf⟩ := hσ.mem ha
  obtain ⟨q0, hq⟩ := va_pl_get (X := []) (f := f) hL
  exact ⟨q0, by rw [← hf]; exact hq⟩
-- fields
theorem wd_get (C : CallFix p m c cc nL s args wd_tb own) (h : wd_C D T A s H locs σ) (hc : wd_cl ci Cn Tn N ty) (he : σ a = some (.inr (ci, fs))) (k : Nat) (hk : k < N) (hlink : Cond.fieldLink own index (Tn k).1 (Tn k).2.1 (Tn k).2.2.1 ∈ wd_tb) (hv : fs[k]? = some v) (hdg : decode cc pc = .ok (.getfield index, 3))
    (kk : W p l e R s m args below meth c H locs cells slots Q (F0 m (pc + 3) ls (v :: rest))) : W p l e R s m args below meth c H locs cells slots Q (F0 m pc ls (.ref a :: rest)) := by
  obtain ⟨⟨L, f, hP, hD, hσ⟩, hS, hK, hA, hZ⟩ := h
  obtain ⟨q0, hq⟩ := wd_place hσ he
  exact va_get C.1 C.2.1 C.2.2.2.2 hc.2.1 C.2.2.2.1 hK hP q0 hq hc.1 k hk (C.2.2.2.2 _ hlink) (fun _ h9 => h9) hv hdg kk
theorem wd_getN {host : String} (C : CallFix p m c cc nL s args wd_tb own) (h : wd_C D T A s H locs σ) (hc : wd_cl ci Cn Tn N ty) (he : σ a = some (.inr (ci, fs))) (k : Nat) (hk : k < N) (hlink : Cond.fieldLinkNest own index (Tn k).1 (Tn k).2.1 (Tn k).2.2.1 host ∈ lw_tbl) (hv : fs[k]? = some v) (hdg : decode cc pc = .ok (.getfield index, 3))
    (kk : W p l e R s m args below meth c H locs cells slots Q (F0 m (pc + 3) ls (v :: rest))) : W p l e R s m args below meth c H locs cells slots Q (F0 m pc ls (.ref a :: rest)) := by
  obtain ⟨⟨L, f, hP, hD, hσ⟩, hS, hK, hA, hZ⟩ := h
  obtain ⟨q0, hq⟩ := wd_place hσ he
  exact va_getN C.1 C.2.1 C.2.2.2.2 hc.2.1 C.2.2.2.1 hK hP q0 hq hc.1 k hk (va_Nw.use rfl (hZ.2 _ hlink rfl)) (fun _ h9 => h9) hv hdg kk
theorem wd_put (C : CallFix p m c cc nL s args wd_tb own) (h : wd_C D T A s H locs σ) (hc : wd_cl ci Cn Tn N ty) (he : σ a = some (.inr (ci, fs))) (k : Nat) (hk : k < N) (hlink : Cond.fieldLink own index (Tn k).1 (Tn k).2.1 (Tn k).2.2.1 ∈ wd_tb) (hfin : (Tn k).2.2.2 = false) (hn : narrow (ty k) v = v) (hfit : fits (ty k) v = true) (hl : k < fs.length) (hdg : decode cc pc = .ok (.putfield index, 3))
    (kk : ∀ (H1 : Heap) (locs1 : List Loc), wd_C D T A s H1 locs1 (wd_up σ a (.inr (ci, fs.set k v))) → W p l e R s m args below meth c H1 locs1 cells slots Q (F0 m (pc + 3) ls rest)) : W p l e R s m args below meth c H locs cells slots Q (F0 m pc ls (v :: .ref a :: rest)) := by
  obtain ⟨⟨L, f, hP, hD, hσ⟩, hS, hK, hA, hZ⟩ := h
  obtain ⟨q0, hq⟩ := wd_place hσ he
  exact va_put C.1 C.2.1 C.2.2.2.2 hc.2.1 ty hc.2.2.1 hc.2.2.2 C.2.2.2.1 hK hP hD hS q0 hq hc.1 k hk (C.2.2.2.2 _ hlink) (fun _ h9 => h9) hfin (hc.2.2.1 k hk) hn hfit hl hdg (fun H1 locs1 hP1 hD1 hS1 => kk H1 locs1 ⟨wd_set hσ hD he hq hP1 hD1, hS1, hK, hA, hZ⟩)
theorem wd_putN {host : String} (C : CallFix p m c cc nL s args wd_tb own) (h : wd_C D T A s H locs σ) (hc : wd_cl ci Cn Tn N ty) (he : σ a = some (.inr (ci, fs))) (k : Nat) (hk : k < N) (hlink : Cond.fieldLinkNest own index (Tn k).1 (Tn k).2.1 (Tn k).2.2.1 host ∈ lw_tbl) (hfin : (Tn k).2.2.2 = false) (hn : narrow (ty k) v = v) (hfit : fits (ty k) v = true) (hl : k < fs.length) (hdg : decode cc pc = .ok (.putfield index, 3))
    (kk : ∀ (H1 : Heap) (locs1 : List Loc), wd_C D T A s H1 locs1 (wd_up σ a (.inr (ci, fs.set k v))) → W p l e R s m args below meth c H1 locs1 cells slots Q (F0 m (pc + 3) ls rest)) : W p l e R s m args below meth c H locs cells slots Q (F0 m pc ls (v :: .ref a :: rest)) := by
  obtain ⟨⟨L, f, hP, hD, hσ⟩, hS, hK, hA, hZ⟩ := h
  obtain ⟨q0, hq⟩ := wd_place hσ he
  exact va_putN C.1 C.2.1 C.2.2.2.2 hc.2.1 ty hc.2.2.1 hc.2.2.2 C.2.2.2.1 hK hP hD hS q0 hq hc.1 k hk (va_Nw.use rfl (hZ.2 _ hlink rfl)) (fun _ h9 => h9) hfin (hc.2.2.1 k hk) hn hfit hl hdg (fun H1 locs1 hP1 hD1 hS1 => kk H1 locs1 ⟨wd_set hσ hD he hq hP1 hD1, hS1, hK, hA, hZ⟩)
theorem wd_putF (C : CallFix p m c cc nL s args wd_tb own) (h : wd_C D T A s H locs σ) (hc : wd_cl ci Cn Tn N ty) (he : σ a = some (.inr (ci, fs))) (k : Nat) (hk : k < N) (hlink : Cond.fieldLink own index (Tn k).1 (Tn k).2.1 (Tn k).2.2.1 ∈ wd_tb) (hfin : (Tn k).2.2.2 = true) (hin2 : meth.name = "<init>") (hdecl : (Tn k).1 = own) (hn : narrow (ty k) v = v) (hfit : fits (ty k) v = true) (hl : k < fs.length) (hdg : decode cc pc = .ok (.putfield index, 3))
    (kk : ∀ (H1 : Heap) (locs1 : List Loc), wd_C D T A s H1 locs1 (wd_up σ a (.inr (ci, fs.set k v))) → W p l e R s m args below meth c H1 locs1 cells slots Q (F0 m (pc + 3) ls rest)) : W p l e R s m args below meth c H locs cells slots Q (F0 m pc ls (v :: .ref a :: rest)) := by
  obtain ⟨⟨L, f, hP, hD, hσ⟩, hS, hK, hA, hZ⟩ := h
  obtain ⟨q0, hq⟩ := wd_place hσ he
  exact va_putF C.1 C.2.1 C.2.2.2.2 hc.2.1 ty hc.2.2.1 hc.2.2.2 C.2.2.2.1 hK hP hD hS q0 hq hc.1 k hk (C.2.2.2.2 _ hlink) (fun _ h9 => h9) hfin hin2 hdecl (hc.2.2.1 k hk) hn hfit hl hdg (fun H1 locs1 hP1 hD1 hS1 => kk H1 locs1 ⟨wd_set hσ hD he hq hP1 hD1, hS1, hK, hA, hZ⟩)
-- arrays
theorem wd_iald (C : CallFix p m c cc nL s args wd_tb own) (h : wd_C D T A s H locs σ) (t0 : Nat) (ht : (wd_ty T)[t0]? = some (T t0, .int)) {n : Nat} {f : Nat → Int32} (he : σ a = some (.inl (T t0, n, .inl f))) {i : Int32} (hin : vp_in i n) (hdg : decode cc pc = .ok (.iaload, 1))
    (kk : W p l e R s m args below meth c H locs cells slots Q (F0 m (pc + 1) ls (.int (f i.toNatClampNeg) :: rest))) : W p l e R s m args below meth c H locs cells slots Q (F0 m pc ls (.int i :: .ref a :: rest)) := by
  obtain ⟨⟨L, g, hP, hD, hσ⟩, hS, hK, hA, hZ⟩ := h
  obtain ⟨q0, hq⟩ := wd_place hσ he
  exact va_iald C.1 C.2.1 hK hP q0 t0 hq ht hin hdg kk
theorem wd_zald (C : CallFix p m c cc nL s args wd_tb own) (h : wd_C D T A s H locs σ) (t0 : Nat) (ht : (wd_ty T)[t0]? = some (T t0, .boolean)) {n : Nat} {f : Nat → Int32} (he : σ a = some (.inl (T t0, n, .inl f))) {i : Int32} (hin : vp_in i n) (hdg : decode cc pc = .ok (.baload, 1))
    (kk : W p l e R s m args below meth c H locs cells slots Q (F0 m (pc + 1) ls (.int (f i.toNatClampNeg) :: rest))) : W p l e R s m args below meth c H locs cells slots Q (F0 m pc ls (.int i :: .ref a :: rest)) := by
  obtain ⟨⟨L, g, hP, hD, hσ⟩, hS, hK, hA, hZ⟩ := h
  obtain ⟨q0, hq⟩ := wd_place hσ he
  exact va_zald C.1 C.2.1 hK hP q0 t0 hq ht hin hdg kk
theorem wd_iast (C : CallFix p m c cc nL s args wd_tb own) (h : wd_C D T A s H locs σ) (t0 : Nat) (ht : (wd_ty T)[t0]? = some (T t0, .int)) {n : Nat} {f : Nat → Int32} (he : σ a = some (.inl (T t0, n, .inl f))) {i x : Int32} (hin : vp_in i n) (hdg : decode cc pc = .ok (.iastore, 1))
    (kk : ∀ (H1 : Heap) (locs1 : List Loc), wd_C D T A s H1 locs1 (wd_up σ a (.inl (T t0, n, .inl (upd f i.toNatClampNeg x)))) → W p l e R s m args below meth c H1 locs1 cells slots Q (F0 m (pc + 1) ls rest)) : W p l e R s m args below meth c H locs cells slots Q (F0 m pc ls (.int x :: .int i :: .ref a :: rest)) := by
  obtain ⟨⟨L, g, hP, hD, hσ⟩, hS, hK, hA, hZ⟩ := h
  obtain ⟨q0, hq⟩ := wd_place hσ he
  exact va_iast C.1 C.2.1 hK hP hD hS q0 t0 hq ht hin hdg (fun H1 locs1 hP1 hD1 hS1 => kk H1 locs1 ⟨wd_set hσ hD he hq hP1 hD1, hS1, hK, hA, hZ⟩)
theorem wd_zast (C : CallFix p m c cc nL s args wd_tb own) (h : wd_C D T A s H locs σ) (t0 : Nat) (ht : (wd_ty T)[t0]? = some (T t0, .boolean)) {n : Nat} {f : Nat → Int32} (he : σ a = some (.inl (T t0, n, .inl f))) {i x : Int32} (hin : vp_in i n) (hdg : decode cc pc = .ok (.bastore, 1))
    (kk : ∀ (H1 : Heap) (locs1 : List Loc), wd_C D T A s H1 locs1 (wd_up σ a (.inl (T t0, n, .inl (upd f i.toNatClampNeg (vp_nar .boolean x))))) → W p l e R s m args below meth c H1 locs1 cells slots Q (F0 m (pc + 1) ls rest)) : W p l e R s m args below meth c H locs cells slots Q (F0 m pc ls (.int x :: .int i :: .ref a :: rest)) := by
  obtain ⟨⟨L, g, hP, hD, hσ⟩, hS, hK, hA, hZ⟩ := h
  obtain ⟨q0, hq⟩ := wd_place hσ he
  exact va_zast C.1 C.2.1 hK hP hD hS q0 t0 hq ht hin hdg (fun H1 locs1 hP1 hD1 hS1 => kk H1 locs1 ⟨wd_set hσ hD he hq hP1 hD1, hS1, hK, hA, hZ⟩)
theorem wd_aldq (C : CallFix p m c cc nL s args wd_tb own) (h : wd_C D T A s H locs σ) (t0 : Nat) {E : String} (ht : (wd_ty T)[t0]? = some (T t0, .object E)) {n : Nat} {f : Nat → Option Nat} (he : σ a = some (.inl (T t0, n, .inr (.inr (.inr (.inr f)))))) {i : Int32} (hin : vp_in i n) (hdg : decode cc pc = .ok (.aaload, 1))
    (kk : W p l e R s m args below meth c H locs cells slots Q (F0 m (pc + 1) ls (va_rf (f i.toNatClampNeg) :: rest))) : W p l e R s m args below meth c H locs cells slots Q (F0 m pc ls (.int i :: .ref a :: rest)) := by
  obtain ⟨⟨L, g, hP, hD, hσ⟩, hS, hK, hA, hZ⟩ := h
  obtain ⟨q0, hq⟩ := wd_place hσ he
  exact va_aldq C.1 C.2.1 hK hP q0 t0 hq ht hin hdg kk
theorem wd_astq (C : CallFix p m c cc nL s args wd_tb own) (h : wd_C D T A s H locs σ) (t0 : Nat) {r : vw_C} (ht : (wd_ty T)[t0]? = some (T t0, .object r.1)) {n v : Nat} {f : Nat → Option Nat} (he : σ a = some (.inl (T t0, n, .inr (.inr (.inr (.inr f)))))) (hv : σ v = some (.inr (ci, fs))) (hc : classes[ci]? = some r) {i : Int32} (hin : vp_in i n) (hdg : decode cc pc = .ok (.aastore, 1))
    (kk : ∀ (H1 : Heap) (locs1 : List Loc), wd_C D T A s H1 locs1 (wd_up σ a (.inl (T t0, n, .inr (.inr (.inr (.inr (va_up f i.toNatClampNeg (some v)))))))) → W p l e R s m args below meth c H1 locs1 cells slots Q (F0 m (pc + 1) ls rest)) : W p l e R s m args below meth c H locs cells slots Q (F0 m pc ls (.ref v :: .int i :: .ref a :: rest)) := by
  obtain ⟨⟨L, g, hP, hD, hσ⟩, hS, hK, hA, hZ⟩ := h
  obtain ⟨q0, hq⟩ := wd_place hσ he
  obtain ⟨qk, hqk⟩ := wd_place hσ hv
  exact va_astq C.1 C.2.1 hK hP hD hS q0 t0 qk ci hq ht hqk hc hin hdg (fun H1 locs1 hP1 hD1 hS1 => kk H1 locs1 ⟨wd_set hσ hD he hq hP1 hD1, hS1, hK, hA, hZ⟩)
theorem wd_alen (C : CallFix p m c cc nL s args wd_tb own) (h : wd_C D T A s H locs σ) (t0 : Nat) {fty : FieldType} (ht : (wd_ty T)[t0]? = some (T t0, fty)) {x : vp_A} (he : σ a = some (.inl (T t0, x))) (hdg : decode cc pc = .ok (.arraylength, 1))
    (kk : W p l e R s m args below meth c H locs cells slots Q (F0 m (pc + 1) ls (.int (nI x.1) :: rest))) : W p l e R s m args below meth c H locs cells slots Q (F0 m pc ls (.ref a :: rest)) := by
  obtain ⟨⟨L, g, hP, hD, hσ⟩, hS, hK, hA, hZ⟩ := h
  obtain ⟨q0, hq⟩ := wd_place hσ he
  exact va_alen C.1 C.2.1 hK hP q0 t0 hq ht rfl hdg kk
-- new cells
theorem wd_new (C : CallFix p m c cc nL s args wd_tb own) (h : wd_C D T A s H locs σ) (hc : wd_cl ci Cn Tn N ty) (hcl : Cond.classLink own index Cn ∈ wd_tb) (hinst : Cond.instantiable Cn N ∈ wd_tb) (hini : Cond.initialized Cn ∈ wd_tb) (hfs : ∀ j, j < N → defaultValue (ty j) = vp_V fs j) (hcells : cells + 1 ≤ R.cells) (hslots : slots + N ≤ R.slots) (hdg : decode cc pc = .ok (.new index, 3))
    (kk : ∀ (q : Nat) (H1 : Heap), σ q = none → wd_C D T A s H1 locs (wd_up σ q (.inr (ci, fs))) → W p l e R s m args below meth c H1 locs (cells + 1) (slots + N) Q (F0 m (pc + 3) ls (.ref q :: rest))) : W p l e R s m args below meth c H locs cells slots Q (F0 m pc ls rest) := by
  obtain ⟨⟨L, g, hP, hD, hσ⟩, hS, hK, hA, hZ⟩ := h
  refine va_new C.1 C.2.1 C.2.2.2.2 hc.2.1 ty hc.2.2.1 C.2.2.2.1 (C.2.2.2.2 _ hcl) (C.2.2.2.2 _ hinst) (C.2.2.2.2 _ hini) hK hP hD hS hA hc.1 hfs hcells hslots hdg (fun q H1 hP1 hD1 hS1 => ?_)
  obtain ⟨h1, h2⟩ := wd_push hσ hP1 hD1
  exact kk q H1 h1 ⟨h2, hS1, hK, hA, hZ⟩
theorem wd_newi (C : CallFix p m c cc nL s args wd_tb own) (h : wd_C D T A s H locs σ) (t0 : Nat) (ht : (wd_ty T)[t0]? = some (T t0, .int)) (harr : Cond.arrayClass .int ∈ wd_tb) (n : Int32) (N' : Nat) (hn : ¬ n < 0) (hN : n.toNatClampNeg = N') (hbytes : N' * componentBytes .int ≤ 536870912) (hcells : cells + 1 ≤ R.cells) (hslots : slots + N' ≤ R.slots) (hdg : decode cc pc = .ok (.newarray .int, 2))
    (kk : ∀ (q : Nat) (H1 : Heap), σ q = none → wd_C D T A s H1 locs (wd_up σ q (.inl (T t0, N', .inl (fun _ => 0)))) → W p l e R s m args below meth c H1 locs (cells + 1) (slots + N') Q (F0 m (pc + 2) ls (.ref q :: rest))) : W p l e R s m args below meth c H locs cells slots Q (F0 m pc ls (.int n :: rest)) := by
  obtain ⟨⟨L, g, hP, hD, hσ⟩, hS, hK, hA, hZ⟩ := h
  refine va_newa (atype := .int) (ty := .int) (a0 := (N', .inl (fun _ => 0))) C.1 C.2.1 (C.2.2.2.2 _ harr) rfl hK hP hD hS hA (fun cA => by rw [vp_cell_i]; rfl) hn hN hbytes hcells hslots hdg (fun q cA H1 hK1 hP1 hD1 hS1 => ?_)
  have e1 : s.vm.findClass ("[" ++ FieldType.int.toString) = some cA := (hK1.2 (wd_ty T).length (cA, .int) (by rw [List.getElem?_append_right (Nat.le_refl _), Nat.sub_self]; rfl)).2
  have e2 : s.vm.findClass ("[" ++ FieldType.int.toString) = some (T t0) := (hK.2 t0 _ ht).2
  have e3 : cA = T t0 := Option.some.inj (e1.symm.trans e2)
  subst e3
  obtain ⟨h1, h2⟩ := wd_push hσ hP1 hD1
  exact kk q H1 h1 ⟨h2, hS1, hK, hA, hZ⟩
theorem wd_newz (C : CallFix p m c cc nL s args wd_tb own) (h : wd_C D T A s H locs σ) (t0 : Nat) (ht : (wd_ty T)[t0]? = some (T t0, .boolean)) (harr : Cond.arrayClass .boolean ∈ wd_tb) (n : Int32) (N' : Nat) (hn : ¬ n < 0) (hN : n.toNatClampNeg = N') (hbytes : N' * componentBytes .boolean ≤ 536870912) (hcells : cells + 1 ≤ R.cells) (hslots : slots + N' ≤ R.slots) (hdg : decode cc pc = .ok (.newarray .boolean, 2))
    (kk : ∀ (q : Nat) (H1 : Heap), σ q = none → wd_C D T A s H1 locs (wd_up σ q (.inl (T t0, N', .inl (fun _ => 0)))) → W p l e R s m args below meth c H1 locs (cells + 1) (slots + N') Q (F0 m (pc + 2) ls (.ref q :: rest))) : W p l e R s m args below meth c H locs cells slots Q (F0 m pc ls (.int n :: rest)) := by
  obtain ⟨⟨L, g, hP, hD, hσ⟩, hS, hK, hA, hZ⟩ := h
  refine va_newa (atype := .boolean) (ty := .boolean) (a0 := (N', .inl (fun _ => 0))) C.1 C.2.1 (C.2.2.2.2 _ harr) rfl hK hP hD hS hA (fun cA => by rw [vp_cell_i]; rfl) hn hN hbytes hcells hslots hdg (fun q cA H1 hK1 hP1 hD1 hS1 => ?_)
  have e1 : s.vm.findClass ("[" ++ FieldType.boolean.toString) = some cA := (hK1.2 (wd_ty T).length (cA, .boolean) (by rw [List.getElem?_append_right (Nat.le_refl _), Nat.sub_self]; rfl)).2
  have e2 : s.vm.findClass ("[" ++ FieldType.boolean.toString) = some (T t0) := (hK.2 t0 _ ht).2
  have e3 : cA = T t0 := Option.some.inj (e1.symm.trans e2)
  subst e3
  obtain ⟨h1, h2⟩ := wd_push hσ hP1 hD1
  exact kk q H1 h1 ⟨h2, hS1, hK, hA, hZ⟩
theorem wd_newq (C : CallFix p m c cc nL s args wd_tb own) (h : wd_C D T A s H locs σ) (t0 : Nat) {E : String} (ht : (wd_ty T)[t0]? = some (T t0, .object E)) (hcl : Cond.classLink own index E ∈ wd_tb) (hover : Cond.arrayOver (.object E) ∈ lw_tbl) (n : Int32) (N' : Nat) (hn : ¬ n < 0) (hN : n.toNatClampNeg = N') (hbytes : N' * 4 ≤ 536870912) (hcells : cells + 1 ≤ R.cells) (hslots : slots + N' ≤ R.slots) (hdg : decode cc pc = .ok (.anewarray index, 3))
    (kk : ∀ (q : Nat) (H1 : Heap), σ q = none → wd_C D T A s H1 locs (wd_up σ q (.inl (T t0, N', .inr (.inr (.inr (.inr (fun _ => none))))))) → W p l e R s m args below meth c H1 locs (cells + 1) (slots + N') Q (F0 m (pc + 3) ls (.ref q :: rest))) : W p l e R s m args below meth c H locs cells slots Q (F0 m pc ls (.int n :: rest)) := by
  obtain ⟨⟨L, g, hP, hD, hσ⟩, hS, hK, hA, hZ⟩ := h
  refine va_newq C.1 C.2.1 C.2.2.2.1 (C.2.2.2.2 _ hcl) (hZ.2 _ hover rfl) hK hP hD hS hA hn hN hbytes hcells hslots hdg (fun q cA H1 hK1 hP1 hD1 hS1 => ?_)
  obtain ⟨kA, comp, -, -, -, e1⟩ := (hK1.2 (wd_ty T).length (cA, .object E) (by rw [List.getElem?_append_right (Nat.le_refl _), Nat.sub_self]; rfl)).2
  obtain ⟨kA', comp', -, -, -, e2⟩ := (hK.2 t0 _ ht).2
  have e3 : cA = T t0 := Option.some.inj (e1.symm.trans e2)
  subst e3
  obtain ⟨h1, h2⟩ := wd_push hσ hP1 hD1
  exact kk q H1 h1 ⟨h2, hS1, hK, hA, hZ⟩
-- static tables
theorem wd_gets (C : CallFix p m c cc nL s args wd_tb own) (h : wd_C D T A s H locs σ) {Cs nm : String} {tab : List Int32} (hq : (Cs, nm, tab) ∈ wd_st) (hlink : Cond.fieldLink own index Cs nm "[I" ∈ wd_tb) (hdg : decode cc pc = .ok (.getstatic index, 3))
    (kk : ∀ t : Nat, wd_T A s s.heap t tab → W p l e R s m args below meth c H locs cells slots Q (F0 m (pc + 3) ls (.ref t :: rest))) : W p l e R s m args below meth c H locs cells slots Q (F0 m pc ls rest) := by
  obtain ⟨hw, hS, hK, hA, hZ⟩ := h
  obtain ⟨t, h1, h2⟩ := hZ.1 _ hq
  exact va_gets C.1 C.2.1 h1 hS C.2.2.2.1 (C.2.2.2.2 _ hlink) (fun _ h9 => h9) hdg (kk t h2)
theorem wd_getsN {host : String} (C : CallFix p m c cc nL s args wd_tb own) (h : wd_C D T A s H locs σ) {Cs nm : String} {tab : List Int32} (hq : (Cs, nm, tab) ∈ wd_st) (hlink : Cond.fieldLinkNest own index Cs nm "[I" host ∈ lw_tbl) (hdg : decode cc pc = .ok (.getstatic index, 3))
    (kk : ∀ t : Nat, wd_T A s s.heap t tab → W p l e R s m args below meth c H locs cells slots Q (F0 m (pc + 3) ls (.ref t :: rest))) : W p l e R s m args below meth c H locs cells slots Q (F0 m pc ls rest) := by
  obtain ⟨hw, hS, hK, hA, hZ⟩ := h
  obtain ⟨t, h1, h2⟩ := hZ.1 _ hq
  exact va_getsN C.1 C.2.1 h1 hS C.2.2.2.1 (va_Nw.use rfl (hZ.2 _ hlink rfl)) (fun _ h9 => h9) hdg (kk t h2)
theorem wd_ti (C : CallFix p m c cc nL s args wd_tb own) (h : wd_C D T A s H locs σ) {t : Nat} {tab : List Int32} (hT : wd_T A s s.heap t tab) {i : Int32} (hin : vp_in i tab.length) (hdg : decode cc pc = .ok (.iaload, 1))
    (kk : W p l e R s m args below meth c H locs cells slots Q (F0 m (pc + 1) ls (.int (tab.getD i.toNatClampNeg 0) :: rest))) : W p l e R s m args below meth c H locs cells slots Q (F0 m pc ls (.int i :: .ref t :: rest)) :=
  va_ti C.1 C.2.1 hT h.2.1 hin rfl hdg kk
-- ends
variable {Qc : Array Value → State → Outcome → State → Prop} {mc ms : Nat} {postI : Int32 → wd_S → Prop} {postV : wd_S → Prop} {postQ : Option Nat → wd_S → Prop}
theorem wd_iret (C : CallFix p m c cc nL s args wd_tb own) (hr : meth.sig.returnType = some .int) (hlocks : meth.locks = false) (h : wd_C D T A s H locs σ) {x : Int32} (hp : postI x σ) (hc : cells ≤ mc) (hs : slots ≤ ms) (hdg : decode cc pc = .ok (.ireturn, 1)) : W p l e R s m args below meth c H locs cells slots (MQ below (va_Qi postI (wd_B D A) A) args s mc ms A) (F0 m pc ls [.int x]) :=
  W.widen hc hs (W.iret (v := x) C.1 C.2.1 hr (fun t ht _ => ⟨⟨x, σ, rfl, hp, by rw [wd_B, ht]; exact h.1⟩, h.2.1.F ht⟩) h.2.1.2.2 hdg hlocks)
theorem wd_zret (C : CallFix p m c cc nL s args wd_tb own) (hr : meth.sig.returnType = some .boolean) (hlocks : meth.locks = false) (h : wd_C D T A s H locs σ) {x : Int32} (hn : x = 0 ∨ x = 1) (hp : postI x σ) (hc : cells ≤ mc) (hs : slots ≤ ms) (hdg : decode cc pc = .ok (.ireturn, 1)) : W p l e R s m args below meth c H locs cells slots (MQ below (va_Qi postI (wd_B D A) A) args s mc ms A) (F0 m pc ls [.int x]) :=
  W.widen hc hs (W.zret (v := x) C.1 C.2.1 hr (by rcases hn with rfl | rfl <;> rfl) (fun t ht _ => ⟨⟨x, σ, rfl, hp, by rw [wd_B, ht]; exact h.1⟩, h.2.1.F ht⟩) h.2.1.2.2 hdg hlocks)
theorem wd_vret (C : CallFix p m c cc nL s args wd_tb own) (hr : meth.sig.returnType = none) (hlocks : meth.locks = false) (h : wd_C D T A s H locs σ) (hp : postV σ) (hc : cells ≤ mc) (hs : slots ≤ ms) (hdg : decode cc pc = .ok (.return_, 1)) : W p l e R s m args below meth c H locs cells slots (MQ below (va_Qv postV (wd_B D A) A) args s mc ms A) (F0 m pc ls []) :=
  W.widen hc hs (W.vret C.1 C.2.1 hr (fun t ht _ => ⟨⟨σ, rfl, hp, by rw [wd_B, ht]; exact h.1⟩, h.2.1.F ht⟩) h.2.1.2.2 hdg hlocks)
theorem wd_aret {n : String} (C : CallFix p m c cc nL s args wd_tb own) (hr : meth.sig.returnType = some (.object n)) (hlocks : meth.locks = false) (h : wd_C D T A s H locs σ) {x : Option Nat} (hp : postQ x σ) (hc : cells ≤ mc) (hs : slots ≤ ms) (hdg : decode cc pc = .ok (.areturn, 1)) : W p l e R s m args below meth c H locs cells slots (MQ below (va_Qq postQ (wd_B D A) A) args s mc ms A) (F0 m pc ls [va_rf x]) :=
  W.widen hc hs (W.aret (v := va_rf x) C.1 C.2.1 hr (Or.inl ⟨n, rfl⟩) (by cases x with | none => exact Or.inl rfl | some y => exact Or.inr ⟨y, rfl⟩) (fun t ht _ => ⟨⟨x, σ, rfl, hp, by rw [wd_B, ht]; exact h.1⟩, h.2.1.F ht⟩) h.2.1.2.2 hdg hlocks)
-- entry
theorem wd_ofW {y : MethodName} {rm : Room} {maxL : Nat} {ret : Option FieldType} {av : List Value} (hy : plainName y.cls = true) (hlen : (lg_sl av).length ≤ maxL)
    (body : ∀ (p : Program) (e : Env) (s : State) (m : MethodId) (below : List Frame) (meth : Method) (c : Code) (ls : Array Slot), CallFix p m c cc maxL s av.toArray wd_tb y.cls → meth.sig.returnType = ret → meth.locks = false → meth.name = y.name → wd_C D T A s s.heap [] σ → lv_has ls maxL (lv_args 0 av) → W p l e rm s m av.toArray below meth c s.heap [] 0 0 (MQ below Qc av.toArray s mc ms A) (F0 m 0 ls [])) :
    Met l y (Cond.code y cc maxL ret :: wd_tb) rm (va_Pc av (wd_Pre D T A σ)) Qc mc ms A := by
  refine Met.ofW (cc := cc) (maxL := maxL) (ret := ret) hy rfl ?_
  intro p e s m args below meth c s₁ B hml hv
  obtain ⟨rfl, h⟩ := hv
  have hts := atoms_spec (ws := Cond.code y cc maxL ret :: wd_tb) B.pre
  have hown : s.vm.findClass y.cls = some m.cls := findClass_of_methodNamed B.named
  rw [lg_entry_eq]
  exact body p e s m below meth c _ ⟨B.exec, B.bytes, hml, hown, fun w hw => hts w (List.mem_cons_of_mem _ hw)⟩ B.returns B.notSynchronized (name_of_methodNamed B.named B.method).1 h (lv_entry av hlen)
end WD
-- calls
section WR
variable {p : Program} {l : Launch} {e : Env} {R : Room} {s : State} {m : MethodId} {args : Array Value} {below : List Frame} {meth : Method} {c : Code} {H : Heap} {locs : List Loc} {cells slots : Nat} {Q : State → Prop}
variable {cc bytes : ByteArray} {pc nL maxL mc ms n ci index b : Nat} {ls : Array Slot} {rest As st0 : List Value} {D : va_G} {T : Nat → ClassId} {A : Nat → Prop} {σ : wd_S} {own host : String} {y : MethodName} {ret : Option FieldType} {rm : Room} {Qc : Array Value → State → Outcome → State → Prop} {fs : List Value} {Cn : String} {Tn : u_T} {N : Nat} {ty : Nat → FieldType} {av : Array Value} {postI : Int32 → wd_S → Prop} {postV : wd_S → Prop} {postQ : Option Nat → wd_S → Prop}
theorem wd_good (hc : Cond.code y bytes maxL ret ∈ wd_tb) : GoodIn wd_tb (Cond.code y bytes maxL ret :: wd_tb) := fun w hw => by
  rcases List.mem_cons.mp hw with rfl | hw
  · exact ⟨hc, wd_goodAll _ hc⟩
  · exact ⟨hw, wd_goodAll _ hw⟩
/-- of a callee: what the tables say, and what can be decided of its name -/
def wd_yk (y : MethodName) (bytes : ByteArray) (maxL n : Nat) (ret : Option FieldType) : Prop := Cond.code y bytes maxL ret ∈ wd_tb ∧ Cond.initialized y.cls ∈ wd_tb ∧ (y.cls ≠ "java/lang/invoke/MethodHandle" ∧ y.cls ≠ "java/lang/invoke/VarHandle" ∧ (parseMethodDescriptor y.desc).map (fun d => d.parameters.length) = some n)
theorem wd_rS (C : CallFix p m c cc nL s args wd_tb own) (h : wd_C D T A s H locs σ) (hk : wd_yk y bytes maxL n ret) (hst : Cond.static y ∈ wd_tb) (hlink : Cond.methodLink own index y ∈ wd_tb) (hM : Met l y (Cond.code y bytes maxL ret :: wd_tb) rm (va_Pc As (wd_Pre D T A σ)) Qc mc ms A) (hrc : rm.cells = mc) (hrs : rm.slots = ms) (hR : rm.frames + 1 ≤ R.frames ∧ 8 + (maxL + 11) + rm.locals ≤ R.locals) (hn : As.length = n) (hsz : ls.size = nL) (hstack : st0 = As.reverse ++ rest) (hW : (rest.map fun v => v.category).sum ≤ 8) (hdg : decode cc pc = .ok (.invokestatic index, 3)) (hf : cells + mc ≤ R.cells ∧ slots + ms ≤ R.slots) :
    va_Run p l e R s m args below meth c H locs cells slots mc ms (F0 m pc ls st0) rest (Qc As.toArray) A :=
  va_runS C hM ⟨callB_of n C.2.2.2.2 (wd_good hk.1) rfl hrc hrs (C.2.2.2.2 _ hk.2.1) (C.2.2.2.2 _ hlink) hk.2.2 hR, C.2.2.2.2 _ hst⟩ ⟨wd_blind, fun U hU hW => ⟨rfl, wd_enter h hU hW⟩⟩ rfl hn hsz hstack (lv_room hW) hdg hf
theorem wd_rSN (C : CallFix p m c cc nL s args wd_tb own) (h : wd_C D T A s H locs σ) (hk : wd_yk y bytes maxL n ret) (hst : Cond.static y ∈ wd_tb) (hlink : Cond.methodLinkNest own index y host ∈ lw_tbl) (hM : Met l y (Cond.code y bytes maxL ret :: wd_tb) rm (va_Pc As (wd_Pre D T A σ)) Qc mc ms A) (hrc : rm.cells = mc) (hrs : rm.slots = ms) (hR : rm.frames + 1 ≤ R.frames ∧ 8 + (maxL + 11) + rm.locals ≤ R.locals) (hn : As.length = n) (hsz : ls.size = nL) (hstack : st0 = As.reverse ++ rest) (hW : (rest.map fun v => v.category).sum ≤ 8) (hdg : decode cc pc = .ok (.invokestatic index, 3)) (hf : cells + mc ≤ R.cells ∧ slots + ms ≤ R.slots) :
    va_Run p l e R s m args below meth c H locs cells slots mc ms (F0 m pc ls st0) rest (Qc As.toArray) A :=
  va_runSN C hM ⟨va_cnB n C.2.2.2.2 (wd_good hk.1) rfl hrc hrs (h.2.2.2.2.2 _ hlink rfl) (C.2.2.2.2 _ hk.2.1) hk.2.2 hR, C.2.2.2.2 _ hst, trivial⟩ ⟨wd_blind, fun U hU hW => ⟨rfl, wd_enter h hU hW⟩⟩ rfl hn hsz hstack (lv_room hW) hdg hf
theorem wd_recv (h : wd_C D T A s H locs σ) (hc : wd_cl ci Cn Tn N ty) (he : σ b = some (.inr (ci, fs))) : ∃ cell : Cell, H[b]? = some cell ∧ cell.vm.isStatics = false ∧ s.vm.findClass Cn = some cell.cls := by
  obtain ⟨⟨L, f, hP, hD, hσ⟩, hS, hK, hA, hZ⟩ := h
  obtain ⟨q0, hq⟩ := wd_place hσ he
  exact va_recv hK hP hc.1 hq
theorem wd_rV (C : CallFix p m c cc nL s args wd_tb own) (h : wd_C D T A s H locs σ) (hc : wd_cl ci Cn Tn N ty) (he : σ b = some (.inr (ci, fs))) (hk : wd_yk y bytes maxL n ret) (hin : Cond.instanceMethod y ∈ wd_tb) (hsel : Cond.selects Cn y y ∈ wd_tb) (hlink : Cond.methodLink own index y ∈ wd_tb) (hM : Met l y (Cond.code y bytes maxL ret :: wd_tb) rm (va_Pc (.ref b :: As) (wd_Pre D T A σ)) Qc mc ms A) (hrc : rm.cells = mc) (hrs : rm.slots = ms) (hR : rm.frames + 1 ≤ R.frames ∧ 8 + (maxL + 11) + rm.locals ≤ R.locals) (hn : As.length = n) (hsz : ls.size = nL) (hstack : st0 = As.reverse ++ .ref b :: rest) (hW : (rest.map fun v => v.category).sum ≤ 8) (hdg : decode cc pc = .ok (.invokevirtual index, 3)) (hf : cells + mc ≤ R.cells ∧ slots + ms ≤ R.slots) :
    va_Run p l e R s m args below meth c H locs cells slots mc ms (F0 m pc ls st0) rest (Qc (Value.ref b :: As).toArray) A :=
  va_runV C hM ⟨callB_of n C.2.2.2.2 (wd_good hk.1) rfl hrc hrs (C.2.2.2.2 _ hk.2.1) (C.2.2.2.2 _ hlink) hk.2.2 hR, C.2.2.2.2 _ hin, C.2.2.2.2 _ hsel⟩ ⟨wd_blind, wd_recv h hc he, fun U hU hW => ⟨rfl, wd_enter h hU hW⟩⟩ rfl hn hsz hstack (lv_room hW) hdg hf
theorem wd_rVN (C : CallFix p m c cc nL s args wd_tb own) (h : wd_C D T A s H locs σ) (hc : wd_cl ci Cn Tn N ty) (he : σ b = some (.inr (ci, fs))) (hk : wd_yk y bytes maxL n ret) (hin : Cond.instanceMethod y ∈ wd_tb) (hsel : Cond.selects Cn y y ∈ wd_tb) (hlink : Cond.methodLinkNest own index y host ∈ lw_tbl) (hM : Met l y (Cond.code y bytes maxL ret :: wd_tb) rm (va_Pc (.ref b :: As) (wd_Pre D T A σ)) Qc mc ms A) (hrc : rm.cells = mc) (hrs : rm.slots = ms) (hR : rm.frames + 1 ≤ R.frames ∧ 8 + (maxL + 11) + rm.locals ≤ R.locals) (hn : As.length = n) (hsz : ls.size = nL) (hstack : st0 = As.reverse ++ .ref b :: rest) (hW : (rest.map fun v => v.category).sum ≤ 8) (hdg : decode cc pc = .ok (.invokevirtual index, 3)) (hf : cells + mc ≤ R.cells ∧ slots + ms ≤ R.slots) :
    va_Run p l e R s m args below meth c H locs cells slots mc ms (F0 m pc ls st0) rest (Qc (Value.ref b :: As).toArray) A :=
  va_runVN C hM ⟨va_cnB n C.2.2.2.2 (wd_good hk.1) rfl hrc hrs (h.2.2.2.2.2 _ hlink rfl) (C.2.2.2.2 _ hk.2.1) hk.2.2 hR, C.2.2.2.2 _ hin, C.2.2.2.2 _ hsel⟩ ⟨wd_blind, wd_recv h hc he, fun U hU hW => ⟨rfl, wd_enter h hU hW⟩⟩ rfl hn hsz hstack (lv_room hW) hdg hf
theorem wd_rI (C : CallFix p m c cc nL s args wd_tb own) (h : wd_C D T A s H locs σ) (hk : wd_yk y bytes maxL n none) (hin : Cond.instanceMethod y ∈ wd_tb) (hy1 : y.name = "<init>") (hlink : Cond.methodLink own index y ∈ wd_tb) (hM : Met l y (Cond.code y bytes maxL none :: wd_tb) rm (va_Pc (.ref b :: As) (wd_Pre D T A σ)) Qc mc ms A) (hrc : rm.cells = mc) (hrs : rm.slots = ms) (hR : rm.frames + 1 ≤ R.frames ∧ 8 + (maxL + 11) + rm.locals ≤ R.locals) (hn : As.length = n) (hsz : ls.size = nL) (hstack : st0 = As.reverse ++ .ref b :: rest) (hW : (rest.map fun v => v.category).sum ≤ 8) (hdg : decode cc pc = .ok (.invokespecial index, 3)) (hf : cells + mc ≤ R.cells ∧ slots + ms ≤ R.slots) :
    va_Run p l e R s m args below meth c H locs cells slots mc ms (F0 m pc ls st0) rest (Qc (Value.ref b :: As).toArray) A :=
  va_runI C hM ⟨callB_of n C.2.2.2.2 (wd_good hk.1) rfl hrc hrs (C.2.2.2.2 _ hk.2.1) (C.2.2.2.2 _ hlink) hk.2.2 hR, hy1, C.2.2.2.2 _ hin⟩ ⟨wd_blind, fun U hU hW => ⟨rfl, wd_enter h hU hW⟩⟩ rfl hn hsz hstack (lv_room hW) hdg hf
theorem wd_rIN (C : CallFix p m c cc nL s args wd_tb own) (h : wd_C D T A s H locs σ) (hk : wd_yk y bytes maxL n none) (hin : Cond.instanceMethod y ∈ wd_tb) (hy1 : y.name = "<init>") (hlink : Cond.methodLinkNest own index y host ∈ lw_tbl) (hM : Met l y (Cond.code y bytes maxL none :: wd_tb) rm (va_Pc (.ref b :: As) (wd_Pre D T A σ)) Qc mc ms A) (hrc : rm.cells = mc) (hrs : rm.slots = ms) (hR : rm.frames + 1 ≤ R.frames ∧ 8 + (maxL + 11) + rm.locals ≤ R.locals) (hn : As.length = n) (hsz : ls.size = nL) (hstack : st0 = As.reverse ++ .ref b :: rest) (hW : (rest.map fun v => v.category).sum ≤ 8) (hdg : decode cc pc = .ok (.invokespecial index, 3)) (hf : cells + mc ≤ R.cells ∧ slots + ms ≤ R.slots) :
    va_Run p l e R s m args below meth c H locs cells slots mc ms (F0 m pc ls st0) rest (Qc (Value.ref b :: As).toArray) A :=
  va_runIN C hM ⟨va_cnB n C.2.2.2.2 (wd_good hk.1) rfl hrc hrs (h.2.2.2.2.2 _ hlink rfl) (C.2.2.2.2 _ hk.2.1) hk.2.2 hR, hy1, C.2.2.2.2 _ hin⟩ ⟨wd_blind, fun U hU hW => ⟨rfl, wd_enter h hU hW⟩⟩ rfl hn hsz hstack (lv_room hW) hdg hf
theorem wd_ci (h : wd_C D T A s H locs σ) (hr : va_Run p l e R s m args below meth c H locs cells slots mc ms (F0 m pc ls st0) rest (va_Qi postI (wd_B D A) A av) A)
    (kk : ∀ (r : Int32) (σ1 : wd_S) (H1 : Heap) (locs1 : List Loc), postI r σ1 → wd_C D T A s H1 locs1 σ1 → W p l e R s m args below meth c H1 locs1 (cells + mc) (slots + ms) Q (F0 m (pc + 3) ls (.int r :: rest))) : W p l e R s m args below meth c H locs cells slots Q (F0 m pc ls st0) :=
  va_calli hr h.2.1 (fun _ _ z => z) (fun _ z => z) (fun r u t H1 locs1 ht _ hp hB _ _ hS => kk r u H1 locs1 hp ⟨by rw [← ht]; exact hB, hS, h.2.2⟩)
theorem wd_cv (h : wd_C D T A s H locs σ) (hr : va_Run p l e R s m args below meth c H locs cells slots mc ms (F0 m pc ls st0) rest (va_Qv postV (wd_B D A) A av) A)
    (kk : ∀ (σ1 : wd_S) (H1 : Heap) (locs1 : List Loc), postV σ1 → wd_C D T A s H1 locs1 σ1 → W p l e R s m args below meth c H1 locs1 (cells + mc) (slots + ms) Q (F0 m (pc + 3) ls rest)) : W p l e R s m args below meth c H locs cells slots Q (F0 m pc ls st0) :=
  va_callv hr h.2.1 (fun _ _ z => z) (fun _ z => z) (fun u t H1 locs1 ht _ hp hB _ _ hS => kk u H1 locs1 hp ⟨by rw [← ht]; exact hB, hS, h.2.2⟩)
theorem wd_cq (h : wd_C D T A s H locs σ) (hr : va_Run p l e R s m args below meth c H locs cells slots mc ms (F0 m pc ls st0) rest (va_Qq postQ (wd_B D A) A av) A)
    (kk : ∀ (r : Option Nat) (σ1 : wd_S) (H1 : Heap) (locs1 : List Loc), postQ r σ1 → wd_C D T A s H1 locs1 σ1 → W p l e R s m args below meth c H1 locs1 (cells + mc) (slots + ms) Q (F0 m (pc + 3) ls (va_rf r :: rest))) : W p l e R s m args below meth c H locs cells slots Q (F0 m pc ls st0) :=
  va_callq hr h.2.1 (fun _ _ z => z) (fun _ z => z) (fun r u t H1 locs1 ht _ hp hB _ _ hS => kk r u H1 locs1 hp ⟨by rw [← ht]; exact hB, hS, h.2.2⟩)
end WR
theorem k_F_init : wd_yk y_F_init b_F_init 1 0 none := ⟨wc_F_init, wi_F, by decide +kernel⟩
theorem k_P_init : wd_yk y_P_init b_P_init 1 0 none := ⟨wc_P_init, wi_P, by decide +kernel⟩
theorem k_F_item : wd_yk y_F_item b_F_item 5 4 (some .int) := ⟨wc_F_item, wi_F, by decide +kernel⟩
theorem k_F_within : wd_yk y_F_within b_F_within 3 3 (some .boolean) := ⟨wc_F_within, wi_F, by decide +kernel⟩
theorem k_F_turned : wd_yk y_F_turned b_F_turned 4 3 (some .int) := ⟨wc_F_turned, wi_F, by decide +kernel⟩
theorem k_I_init : wd_yk y_I_init b_I_init 5 4 none := ⟨wc_I_init, wi_I, by decide +kernel⟩
theorem k_F_service : wd_yk y_F_service b_F_service 5 2 (some .int) := ⟨wc_F_service, wi_F, by decide +kernel⟩
theorem k_F_find : wd_yk y_F_find b_F_find 2 1 (some (.object "ItemFacts$Item")) := ⟨wc_F_find, wi_F, by decide +kernel⟩
theorem k_I_has : wd_yk y_I_has b_I_has 2 1 (some .boolean) := ⟨wc_I_has, wi_I, by decide +kernel⟩
theorem k_I_isAtEnd : wd_yk y_I_isAtEnd b_I_isAtEnd 1 0 (some .boolean) := ⟨wc_I_isAtEnd, wi_I, by decide +kernel⟩
theorem k_I_leastExcluding : wd_yk y_I_leastExcluding b_I_leastExcluding 4 1 (some .int) := ⟨wc_I_leastExcluding, wi_I, by decide +kernel⟩
theorem k_I_lacksWhatIsWanted : wd_yk y_I_lacksWhatIsWanted b_I_lacksWhatIsWanted 2 1 (some .boolean) := ⟨wc_I_lacksWhatIsWanted, wi_I, by decide +kernel⟩
theorem k_J_bitCount : wd_yk y_J_bitCount b_J_bitCount 1 1 (some .int) := ⟨wc_J_bitCount, wi_J, by decide +kernel⟩
theorem k_F_event : wd_yk y_F_event b_F_event 5 2 (some .int) := ⟨wc_F_event, wi_F, by decide +kernel⟩
theorem k_I_stateBehind : wd_yk y_I_stateBehind b_I_stateBehind 2 1 (some .int) := ⟨wc_I_stateBehind, wi_I, by decide +kernel⟩
theorem k_F_mustWait : wd_yk y_F_mustWait b_F_mustWait 4 1 (some .boolean) := ⟨wc_F_mustWait, wi_F, by decide +kernel⟩
theorem k_I_undergo : wd_yk y_I_undergo b_I_undergo 3 2 none := ⟨wc_I_undergo, wi_I, by decide +kernel⟩
theorem k_F_address : wd_yk y_F_address b_F_address 6 3 (some .int) := ⟨wc_F_address, wi_F, by decide +kernel⟩
theorem k_F_abroad : wd_yk y_F_abroad b_F_abroad 4 2 (some .int) := ⟨wc_F_abroad, wi_F, by decide +kernel⟩
theorem k_F_contents : wd_yk y_F_contents b_F_contents 5 3 (some .int) := ⟨wc_F_contents, wi_F, by decide +kernel⟩
theorem k_F_join : wd_yk y_F_join b_F_join 5 3 (some .int) := ⟨wc_F_join, wi_F, by decide +kernel⟩
theorem k_F_bulk : wd_yk y_F_bulk b_F_bulk 4 2 (some .int) := ⟨wc_F_bulk, wi_F, by decide +kernel⟩
theorem k_F_open : wd_yk y_F_open b_F_open 5 3 (some .int) := ⟨wc_F_open, wi_F, by decide +kernel⟩
theorem k_F_correct : wd_yk y_F_correct b_F_correct 6 4 (some .int) := ⟨wc_F_correct, wi_F, by decide +kernel⟩
theorem k_F_mayBecome : wd_yk y_F_mayBecome b_F_mayBecome 2 2 (some .boolean) := ⟨wc_F_mayBecome, wi_F, by decide +kernel⟩
theorem k_I_wouldStay : wd_yk y_I_wouldStay b_I_wouldStay 3 2 (some .boolean) := ⟨wc_I_wouldStay, wi_I, by decide +kernel⟩
theorem k_I_correctable : wd_yk y_I_correctable b_I_correctable 2 1 (some .int) := ⟨wc_I_correctable, wi_I, by decide +kernel⟩
theorem k_C_init : wd_yk y_C_init b_C_init 6 5 none := ⟨wc_C_init, wi_C, by decide +kernel⟩
theorem k_I_become : wd_yk y_I_become b_I_become 3 2 none := ⟨wc_I_become, wi_I, by decide +kernel⟩
theorem k_F_row : wd_yk y_F_row b_F_row 4 2 (some .int) := ⟨wc_F_row, wi_F, by decide +kernel⟩
theorem k_C_part : wd_yk y_C_part b_C_part 2 1 (some .int) := ⟨wc_C_part, wi_C, by decide +kernel⟩
theorem k_F_about : wd_yk y_F_about b_F_about 4 2 (some .int) := ⟨wc_F_about, wi_F, by decide +kernel⟩
theorem k_I_fact : wd_yk y_I_fact b_I_fact 2 1 (some .int) := ⟨wc_I_fact, wi_I, by decide +kernel⟩
theorem k_F_pack : wd_yk y_F_pack b_F_pack 3 1 (some .int) := ⟨wc_F_pack, wi_F, by decide +kernel⟩
theorem k_P_fill : wd_yk y_P_fill b_P_fill 4 2 none := ⟨wc_P_fill, wi_P, by decide +kernel⟩
theorem k_P_addTwo : wd_yk y_P_addTwo b_P_addTwo 2 1 none := ⟨wc_P_addTwo, wi_P, by decide +kernel⟩
theorem k_P_add : wd_yk y_P_add b_P_add 2 1 none := ⟨wc_P_add, wi_P, by decide +kernel⟩
theorem k_P_addEntry : wd_yk y_P_addEntry b_P_addEntry 2 1 none := ⟨wc_P_addEntry, wi_P, by decide +kernel⟩
theorem k_P_xorOfAll : wd_yk y_P_xorOfAll b_P_xorOfAll 3 0 (some .int) := ⟨wc_P_xorOfAll, wi_P, by decide +kernel⟩
theorem k_F_octet : wd_yk y_F_octet b_F_octet 2 1 (some .int) := ⟨wc_F_octet, wi_F, by decide +kernel⟩
theorem k_P_at : wd_yk y_P_at b_P_at 2 1 (some .int) := ⟨wc_P_at, wi_P, by decide +kernel⟩
theorem k_F_aside : wd_yk y_F_aside b_F_aside 5 1 (some .int) := ⟨wc_F_aside, wi_F, by decide +kernel⟩
theorem k_I_isSetAside : wd_yk y_I_isSetAside b_I_isSetAside 1 0 (some .boolean) := ⟨wc_I_isSetAside, wi_I, by decide +kernel⟩
theorem k_M_init : wd_yk y_M_init b_M_init 1 0 none := ⟨wc_M_init, wi_M, by decide +kernel⟩
theorem k_M_item : wd_yk y_M_item b_M_item 6 4 (some .int) := ⟨wc_M_item, wi_M, by decide +kernel⟩
theorem k_M_within : wd_yk y_M_within b_M_within 3 3 (some .boolean) := ⟨wc_M_within, wi_M, by decide +kernel⟩
theorem k_M_tooMuch : wd_yk y_M_tooMuch b_M_tooMuch 2 2 (some .int) := ⟨wc_M_tooMuch, wi_M, by decide +kernel⟩
theorem k_M_turned : wd_yk y_M_turned b_M_turned 4 3 (some .int) := ⟨wc_M_turned, wi_M, by decide +kernel⟩
theorem k_M_mostOf : wd_yk y_M_mostOf b_M_mostOf 1 1 (some .int) := ⟨wc_M_mostOf, wi_M, by decide +kernel⟩
theorem k_M_service : wd_yk y_M_service b_M_service 6 2 (some .int) := ⟨wc_M_service, wi_M, by decide +kernel⟩
theorem k_M_isItem : wd_yk y_M_isItem b_M_isItem 2 1 (some .boolean) := ⟨wc_M_isItem, wi_M, by decide +kernel⟩
theorem k_M_has : wd_yk y_M_has b_M_has 3 2 (some .boolean) := ⟨wc_M_has, wi_M, by decide +kernel⟩
theorem k_M_isOver : wd_yk y_M_isOver b_M_isOver 2 1 (some .boolean) := ⟨wc_M_isOver, wi_M, by decide +kernel⟩
theorem k_M_excludes : wd_yk y_M_excludes b_M_excludes 4 2 (some .boolean) := ⟨wc_M_excludes, wi_M, by decide +kernel⟩
theorem k_M_event : wd_yk y_M_event b_M_event 4 2 (some .int) := ⟨wc_M_event, wi_M, by decide +kernel⟩
theorem k_M_ledTo : wd_yk y_M_ledTo b_M_ledTo 2 2 (some .int) := ⟨wc_M_ledTo, wi_M, by decide +kernel⟩
theorem k_M_mustWait : wd_yk y_M_mustWait b_M_mustWait 5 1 (some .boolean) := ⟨wc_M_mustWait, wi_M, by decide +kernel⟩
theorem k_M_address : wd_yk y_M_address b_M_address 5 3 (some .int) := ⟨wc_M_address, wi_M, by decide +kernel⟩
theorem k_M_abroad : wd_yk y_M_abroad b_M_abroad 3 2 (some .int) := ⟨wc_M_abroad, wi_M, by decide +kernel⟩
theorem k_M_contents : wd_yk y_M_contents b_M_contents 4 3 (some .int) := ⟨wc_M_contents, wi_M, by decide +kernel⟩
theorem k_M_join : wd_yk y_M_join b_M_join 4 3 (some .int) := ⟨wc_M_join, wi_M, by decide +kernel⟩
theorem k_M_belonging : wd_yk y_M_belonging b_M_belonging 5 2 (some .int) := ⟨wc_M_belonging, wi_M, by decide +kernel⟩
theorem k_M_bulk : wd_yk y_M_bulk b_M_bulk 3 2 (some .int) := ⟨wc_M_bulk, wi_M, by decide +kernel⟩
theorem k_M_open : wd_yk y_M_open b_M_open 4 3 (some .int) := ⟨wc_M_open, wi_M, by decide +kernel⟩
theorem k_M_correct : wd_yk y_M_correct b_M_correct 12 4 (some .int) := ⟨wc_M_correct, wi_M, by decide +kernel⟩
theorem k_M_factOf : wd_yk y_M_factOf b_M_factOf 3 2 (some .int) := ⟨wc_M_factOf, wi_M, by decide +kernel⟩
theorem k_M_row : wd_yk y_M_row b_M_row 3 2 (some .int) := ⟨wc_M_row, wi_M, by decide +kernel⟩
theorem k_M_about : wd_yk y_M_about b_M_about 3 2 (some .int) := ⟨wc_M_about, wi_M, by decide +kernel⟩
theorem k_M_pack : wd_yk y_M_pack b_M_pack 4 1 (some .int) := ⟨wc_M_pack, wi_M, by decide +kernel⟩
theorem k_M_put : wd_yk y_M_put b_M_put 4 2 none := ⟨wc_M_put, wi_M, by decide +kernel⟩
theorem k_M_octet : wd_yk y_M_octet b_M_octet 2 1 (some .int) := ⟨wc_M_octet, wi_M, by decide +kernel⟩
theorem k_M_aside : wd_yk y_M_aside b_M_aside 4 1 (some .int) := ⟨wc_M_aside, wi_M, by decide +kernel⟩
theorem kc_F : wd_cl 0 R_F F_F 8 t_F := ⟨rfl, i_F, t_F_ok, n_F⟩
theorem kc_I : wd_cl 1 R_I F_I 17 t_I := ⟨rfl, i_I, t_I_ok, n_I⟩
theorem kc_C : wd_cl 2 R_C F_C 5 t_C := ⟨rfl, i_C, t_C_ok, n_C⟩
theorem kc_P : wd_cl 3 R_P F_P 2 t_P := ⟨rfl, i_P, t_P_ok, n_P⟩
theorem kc_M : wd_cl 4 R_M F_M 23 t_M := ⟨rfl, i_M, t_M_ok, n_M⟩
theorem ks_bw : ("ItemFacts", "BEARS_WEIGHT", x_bw) ∈ wd_st := List.mem_of_getElem? (i := 0) rfl
theorem ks_bs : ("ItemFacts", "BEARS_SIZE", x_bs) ∈ wd_st := List.mem_of_getElem? (i := 1) rfl
theorem ks_ex : ("ItemFacts", "EXCLUDES", x_ex) ∈ wd_st := List.mem_of_getElem? (i := 2) rfl
end
section
/-! TWO WORLDS SIDE BY SIDE over one heap: the law's; a call changes one of them, the other stays -/
theorem wd_W.weaken {D : va_G} {A B : Nat → Prop} {σ : wd_S} {H : Heap} (h : wd_W D A σ H) (hAB : ∀ a, σ a ≠ none → A a → B a) : wd_W D B σ H := by
  obtain ⟨L, f, hP, hD, hσ⟩ := h
  refine ⟨L, f, hP, hD.weaken (fun k q hk hA => hAB q.1 ?_ hA), hσ⟩
  obtain ⟨b, hb, e⟩ := List.mem_map.mp (List.mem_of_getElem? hk)
  rw [← e]
  rcases hσ b with ⟨_, h2⟩ | ⟨h1, _⟩
  · show σ b ≠ none
    rw [h2]; exact fun z => by cases z
  · exact absurd hb h1
theorem wd_W.at {D : va_G} {A : Nat → Prop} {σ : wd_S} {H : Heap} (h : wd_W D A σ H) {a : Nat} (ha : σ a ≠ none) : a < H.size ∧ A a := by
  obtain ⟨L, f, hP, hD, hσ⟩ := h
  rcases hσ a with ⟨h1, h2⟩ | ⟨_, h2⟩
  · obtain ⟨k, hk⟩ := va_pl_get (X := []) (f := f) h1
    exact ⟨(hP k _ hk).lt, hD.2 k _ hk⟩
  · exact absurd h2 ha
theorem wd_W.kept {D : va_G} {A : Nat → Prop} {σ : wd_S} {H H1 : Heap} (h : wd_W D A σ H) (hk : ∀ a, σ a ≠ none → H1[a]? = H[a]?) : wd_W D A σ H1 := by
  obtain ⟨L, f, hP, hD, hσ⟩ := h
  refine ⟨L, f, hP.kept (fun k q hq => hk q.1 ?_), hD, hσ⟩
  obtain ⟨b, hb, e⟩ := List.mem_map.mp (List.mem_of_getElem? hq)
  rw [← e]
  rcases hσ b with ⟨_, h2⟩ | ⟨h1, _⟩
  · show σ b ≠ none
    rw [h2]; exact fun z => by cases z
  · exact absurd hb h1
theorem wd_W.nil {D : va_G} {A : Nat → Prop} {H : Heap} : wd_W D A (fun _ => none) H := ⟨[], fun _ => .inr (0, []), fun k q h => by simp [va_pl] at h, ⟨fun i j p q h => by simp [va_pl] at h, fun k q h => by simp [va_pl] at h⟩, fun a => Or.inr ⟨List.not_mem_nil, rfl⟩⟩
def wd_A (s : State) : Nat → Prop := fun q => s.heap.size ≤ q
def wd_2 (D : va_G) (T : Nat → ClassId) (s : State) (H : Heap) (locs : List Loc) (σ1 σ2 : wd_S) : Prop := wd_W D (wd_A s) σ1 H ∧ wd_W D (wd_A s) σ2 H ∧ (∀ a, σ1 a = none ∨ σ2 a = none) ∧ va_S (wd_A s) s.heap H locs ∧ va_K D classes (wd_ty T) s ∧ wd_Z (wd_A s) s s.heap ∧ wd_N s
theorem wd_2.swap {D : va_G} {T : Nat → ClassId} {s : State} {H : Heap} {locs : List Loc} {σ1 σ2 : wd_S} (h : wd_2 D T s H locs σ1 σ2) : wd_2 D T s H locs σ2 σ1 := ⟨h.2.1, h.1, fun a => (h.2.2.1 a).symm, h.2.2.2⟩
def wd_O (σ : wd_S) (H : Heap) : Nat → Prop := fun q => σ q ≠ none ∨ H.size ≤ q
section W2
variable {p : Program} {l : Launch} {e : Env} {R : Room} {s : State} {m : MethodId} {args : Array Value} {below : List Frame} {meth : Method} {c : Code} {H : Heap} {locs : List Loc} {cells slots : Nat} {Q : State → Prop}
variable {cc bytes : ByteArray} {pc nL maxL mc ms n ci index b : Nat} {ls : Array Slot} {rest As st0 : List Value} {D : va_G} {T : Nat → ClassId} {σ1 σ2 : wd_S} {own : String} {y : MethodName} {ret : Option FieldType} {rm : Room} {fs : List Value} {Cn : String} {Tn : u_T} {N : Nat} {ty : Nat → FieldType} {postI : Int32 → wd_S → Prop} {postV : wd_S → Prop}
theorem wd_2e {U : State} (h : wd_2 D T s H locs σ1 σ2) (hU : U.heap = H) (hW : s.WarmedH U.vm) : wd_Pre D T (wd_O σ1 H) σ1 U := by
  obtain ⟨h1, h2, h3, h4, h5, h6, h7⟩ := h
  subst hU
  refine ⟨h1.weaken (fun a ha _ => Or.inl ha), va_S.rf, va_K.moved hW.alike h5, fun q hq => Or.inr hq, ?_, h7.warm hW⟩
  refine ((h6.narrow (fun q hq => ?_)).kept (fun a ha hn => h4.2.1 a ha (fun z => hn (Or.inr ?_)))).moved hW.alike
  · rcases hq with hq | hq
    · exact (h1.at hq).2
    · exact Nat.le_trans h4.1 hq
  · exact absurd z (Nat.not_le.mpr ha)
theorem wd_2o (h : wd_2 D T s H locs σ1 σ2) : ∀ q, wd_O σ1 H q → wd_A s q := fun q hq => by
  rcases hq with hq | hq
  · exact (h.1.at hq).2
  · exact Nat.le_trans h.2.2.2.1.1 hq
theorem wd_2j {H1 : Heap} {locs1 : List Loc} {σ' : wd_S} (h : wd_2 D T s H locs σ1 σ2) (hw : wd_W D (wd_O σ1 H) σ' H1) (hk : ∀ q : Nat, q < H.size → ¬ wd_O σ1 H q → H1[q]? = H[q]?) (hS : va_S (wd_A s) s.heap H1 locs1) : wd_2 D T s H1 locs1 σ' σ2 := by
  have ho := wd_2o h
  obtain ⟨h1, h2, h3, h4, h5, h6⟩ := h
  have hn : ∀ a, σ2 a ≠ none → ¬ wd_O σ1 H a := fun a ha z => by
    rcases z with z | z
    · rcases h3 a with q | q
      · exact z q
      · exact ha q
    · have := (h2.at ha).1
      omega
  refine ⟨hw.weaken (fun a _ z => ho a z), h2.kept (fun a ha => hk a (h2.at ha).1 (hn a ha)), fun a => ?_, hS, h5, h6⟩
  by_cases ha : σ2 a = none
  · exact Or.inr ha
  · refine Or.inl ?_
    cases hs : σ' a with
    | none => rfl
    | some x => exact absurd (hw.at (a := a) (by rw [hs]; exact fun z => by cases z)).2 (hn a ha)
theorem wd_2r (h : wd_2 D T s H locs σ1 σ2) (hc : wd_cl ci Cn Tn N ty) (he : σ1 b = some (.inr (ci, fs))) : ∃ cell : Cell, H[b]? = some cell ∧ cell.vm.isStatics = false ∧ s.vm.findClass Cn = some cell.cls := by
  obtain ⟨⟨L, f, hP, hD, hσ⟩, h2, h3, h4, h5, h6⟩ := h
  obtain ⟨q0, hq⟩ := wd_place hσ he
  exact va_recv h5 hP hc.1 hq
theorem wd_2ci (C : CallFix p m c cc nL s args wd_tb own) (h : wd_2 D T s H locs σ1 σ2) (hc : wd_cl ci Cn Tn N ty) (he : σ1 b = some (.inr (ci, fs))) (hk : wd_yk y bytes maxL n ret) (hin : Cond.instanceMethod y ∈ wd_tb) (hsel : Cond.selects Cn y y ∈ wd_tb) (hlink : Cond.methodLink own index y ∈ wd_tb)
    (hM : Met l y (Cond.code y bytes maxL ret :: wd_tb) rm (va_Pc (.ref b :: As) (wd_Pre D T (wd_O σ1 H) σ1)) (va_Qi postI (wd_B D (wd_O σ1 H)) (wd_O σ1 H)) mc ms (wd_O σ1 H)) (hrc : rm.cells = mc) (hrs : rm.slots = ms) (hR : rm.frames + 1 ≤ R.frames ∧ 8 + (maxL + 11) + rm.locals ≤ R.locals) (hn : As.length = n) (hsz : ls.size = nL) (hstack : st0 = As.reverse ++ .ref b :: rest) (hW : (rest.map fun v => v.category).sum ≤ 8) (hdg : decode cc pc = .ok (.invokevirtual index, 3)) (hf : cells + mc ≤ R.cells ∧ slots + ms ≤ R.slots)
    (kk : ∀ (r : Int32) (σ' : wd_S) (H1 : Heap) (locs1 : List Loc), postI r σ' → wd_2 D T s H1 locs1 σ' σ2 → W p l e R s m args below meth c H1 locs1 (cells + mc) (slots + ms) Q (F0 m (pc + 3) ls (.int r :: rest))) : W p l e R s m args below meth c H locs cells slots Q (F0 m pc ls st0) :=
  va_calli (va_runV C hM ⟨callB_of n C.2.2.2.2 (wd_good hk.1) rfl hrc hrs (C.2.2.2.2 _ hk.2.1) (C.2.2.2.2 _ hlink) hk.2.2 hR, C.2.2.2.2 _ hin, C.2.2.2.2 _ hsel⟩ ⟨wd_blind, wd_2r h hc he, fun U hU hW => ⟨rfl, wd_2e h hU hW⟩⟩ rfl hn hsz hstack (lv_room hW) hdg hf) h.2.2.2.1 (fun q _ z => wd_2o h q z) (wd_2o h) (fun r u t H1 locs1 ht _ hp hB _ hk hS => kk r u H1 locs1 hp (wd_2j h (by rw [← ht]; exact hB) hk hS))
theorem wd_2cv (C : CallFix p m c cc nL s args wd_tb own) (h : wd_2 D T s H locs σ1 σ2) (hk : wd_yk y bytes maxL n none) (hin : Cond.instanceMethod y ∈ wd_tb) (hy1 : y.name = "<init>") (hlink : Cond.methodLink own index y ∈ wd_tb)
    (hM : Met l y (Cond.code y bytes maxL none :: wd_tb) rm (va_Pc (.ref b :: As) (wd_Pre D T (wd_O σ1 H) σ1)) (va_Qv postV (wd_B D (wd_O σ1 H)) (wd_O σ1 H)) mc ms (wd_O σ1 H)) (hrc : rm.cells = mc) (hrs : rm.slots = ms) (hR : rm.frames + 1 ≤ R.frames ∧ 8 + (maxL + 11) + rm.locals ≤ R.locals) (hn : As.length = n) (hsz : ls.size = nL) (hstack : st0 = As.reverse ++ .ref b :: rest) (hW : (rest.map fun v => v.category).sum ≤ 8) (hdg : decode cc pc = .ok (.invokespecial index, 3)) (hf : cells + mc ≤ R.cells ∧ slots + ms ≤ R.slots)
    (kk : ∀ (σ' : wd_S) (H1 : Heap) (locs1 : List Loc), postV σ' → wd_2 D T s H1 locs1 σ' σ2 → W p l e R s m args below meth c H1 locs1 (cells + mc) (slots + ms) Q (F0 m (pc + 3) ls rest)) : W p l e R s m args below meth c H locs cells slots Q (F0 m pc ls st0) :=
  va_callv (va_runI C hM ⟨callB_of n C.2.2.2.2 (wd_good hk.1) rfl hrc hrs (C.2.2.2.2 _ hk.2.1) (C.2.2.2.2 _ hlink) hk.2.2 hR, hy1, C.2.2.2.2 _ hin⟩ ⟨wd_blind, fun U hU hW => ⟨rfl, wd_2e h hU hW⟩⟩ rfl hn hsz hstack (lv_room hW) hdg hf) h.2.2.2.1 (fun q _ z => wd_2o h q z) (wd_2o h) (fun u t H1 locs1 ht _ hp hB _ hk hS => kk u H1 locs1 hp (wd_2j h (by rw [← ht]; exact hB) hk hS))
theorem wd_2n (C : CallFix p m c cc nL s args wd_tb own) (h : wd_2 D T s H locs σ1 σ2) (hc : wd_cl ci Cn Tn N ty) (hcl : Cond.classLink own index Cn ∈ wd_tb) (hinst : Cond.instantiable Cn N ∈ wd_tb) (hini : Cond.initialized Cn ∈ wd_tb) (hfs : ∀ j, j < N → defaultValue (ty j) = vp_V fs j) (hcells : cells + 1 ≤ R.cells) (hslots : slots + N ≤ R.slots) (hdg : decode cc pc = .ok (.new index, 3))
    (kk : ∀ (q : Nat) (H1 : Heap), wd_2 D T s H1 locs (wd_up σ1 q (.inr (ci, fs))) σ2 → W p l e R s m args below meth c H1 locs (cells + 1) (slots + N) Q (F0 m (pc + 3) ls (.ref q :: rest))) : W p l e R s m args below meth c H locs cells slots Q (F0 m pc ls rest) := by
  obtain ⟨⟨L, f, hP, hD, hσ⟩, ⟨L2, f2, hP2, hD2, hσ2⟩, h3, h4, h5, h6⟩ := h
  have hx : ∀ (i j : Nat) (p q : Nat × va_E), (va_pl L2 f2)[i]? = some p → (va_pl L f)[j]? = some q → p.1 ≠ q.1 := fun i j p q hp hq z => by
    obtain ⟨x, hx, ex⟩ := List.mem_map.mp (List.mem_of_getElem? hp)
    obtain ⟨w, hw, ew⟩ := List.mem_map.mp (List.mem_of_getElem? hq)
    rw [← ex, ← ew] at z
    have z : x = w := z
    subst z
    rcases hσ x with ⟨_, a1⟩ | ⟨a1, _⟩
    · rcases hσ2 x with ⟨_, b1⟩ | ⟨b1, _⟩
      · rcases h3 x with q | q
        · rw [q] at a1; cases a1
        · rw [q] at b1; cases b1
      · exact b1 hx
    · exact a1 hw
  refine va_new C.1 C.2.1 C.2.2.2.2 hc.2.1 ty hc.2.2.1 C.2.2.2.1 (C.2.2.2.2 _ hcl) (C.2.2.2.2 _ hinst) (C.2.2.2.2 _ hini) h5 (hP2.app hP) (va_D.app hD2 hD hx) h4 (fun q hq => hq) hc.1 hfs hcells hslots hdg (fun q H1 hP1 hD1 hS1 => ?_)
  have hP1' : ∀ x ∈ va_pl L2 f2 ++ va_pl L f ++ [(q, .inr (ci, fs))], va_at D classes x H1 := fun x hx => by
    obtain ⟨i, hi⟩ := List.getElem?_of_mem hx
    exact hP1 i x hi
  have hq1 : ∀ x ∈ va_pl L2 f2 ++ va_pl L f, x.1 ≠ q := fun x hx z => by
    obtain ⟨i, hi⟩ := List.getElem?_of_mem hx
    have hl := (List.getElem?_eq_some_iff.mp hi).1
    have := hD1.1 i (va_pl L2 f2 ++ va_pl L f).length x (q, .inr (ci, fs)) (by rw [List.getElem?_append_left hl]; exact hi) (by rw [List.getElem?_append_right (Nat.le_refl _), Nat.sub_self]; rfl) z
    omega
  have hPa : va_P D classes (va_pl L f ++ [(q, .inr (ci, fs))]) H1 := fun k x hk => hP1' x (by
    rcases List.mem_append.mp (List.mem_of_getElem? hk) with h | h
    · exact List.mem_append_left _ (List.mem_append_right _ h)
    · exact List.mem_append_right _ h)
  have hAq : wd_A s q := hD1.2 (va_pl L2 f2 ++ va_pl L f).length (q, .inr (ci, fs)) (by rw [List.getElem?_append_right (Nat.le_refl _), Nat.sub_self]; rfl)
  have hDa : va_D (wd_A s) (va_pl L f ++ [(q, .inr (ci, fs))]) := va_D.app hD ⟨fun i j p r hp hr _ => by
      have h1 := (List.getElem?_eq_some_iff.mp hp).1
      have h2 := (List.getElem?_eq_some_iff.mp hr).1
      simp at h1 h2
      omega, fun k r hr => by
      rw [List.mem_singleton.mp (List.mem_of_getElem? hr)]
      exact hAq⟩ (fun i j p r hp hr => by
      rw [List.mem_singleton.mp (List.mem_of_getElem? hr)]
      exact hq1 p (List.mem_append_right _ (List.mem_of_getElem? hp)))
  obtain ⟨e1, e2⟩ := wd_push hσ hPa hDa
  refine kk q H1 ⟨e2, ⟨L2, f2, fun k x hk => hP1' x (List.mem_append_left _ (List.mem_append_left _ (List.mem_of_getElem? hk))), hD2, hσ2⟩, fun a => ?_, hS1, h5, h6⟩
  by_cases ha : a = q
  · subst ha
    refine Or.inr ?_
    rcases hσ2 a with ⟨b1, _⟩ | ⟨_, b1⟩
    · exact absurd rfl (hq1 (a, f2 a) (List.mem_append_left _ (List.mem_map.mpr ⟨a, b1, rfl⟩)))
    · exact b1
  · rw [wd_un σ1 _ ha]
    exact h3 a
end W2
end
